theorem dX9_init_0 : decode cX9_init 0 = .ok (.aload_n 0, 1) := by decide +kernel
theorem dX9_init_1 : decode cX9_init 1 = .ok (.invokespecial 1, 3) := by decide +kernel
theorem dX9_init_4 : decode cX9_init 4 = .ok (.aload_n 0, 1) := by decide +kernel
theorem dX9_init_5 : decode cX9_init 5 = .ok (.new 7, 3) := by decide +kernel
theorem dX9_init_8 : decode cX9_init 8 = .ok (.dup, 1) := by decide +kernel
theorem dX9_init_9 : decode cX9_init 9 = .ok (.invokespecial 9, 3) := by decide +kernel
theorem dX9_init_12 : decode cX9_init 12 = .ok (.putfield 10, 3) := by decide +kernel
theorem dX9_init_15 : decode cX9_init 15 = .ok (.aload_n 0, 1) := by decide +kernel
theorem dX9_init_16 : decode cX9_init 16 = .ok (.new 16, 3) := by decide +kernel
theorem dX9_init_19 : decode cX9_init 19 = .ok (.dup, 1) := by decide +kernel
theorem dX9_init_20 : decode cX9_init 20 = .ok (.invokespecial 18, 3) := by decide +kernel
theorem dX9_init_23 : decode cX9_init 23 = .ok (.putfield 19, 3) := by decide +kernel
theorem dX9_init_26 : decode cX9_init 26 = .ok (.aload_n 0, 1) := by decide +kernel
theorem dX9_init_27 : decode cX9_init 27 = .ok (.new 23, 3) := by decide +kernel
theorem dX9_init_30 : decode cX9_init 30 = .ok (.dup, 1) := by decide +kernel
theorem dX9_init_31 : decode cX9_init 31 = .ok (.invokespecial 25, 3) := by decide +kernel
theorem dX9_init_34 : decode cX9_init 34 = .ok (.putfield 26, 3) := by decide +kernel
theorem dX9_init_37 : decode cX9_init 37 = .ok (.aload_n 0, 1) := by decide +kernel
theorem dX9_init_38 : decode cX9_init 38 = .ok (.new 30, 3) := by decide +kernel
theorem dX9_init_41 : decode cX9_init 41 = .ok (.dup, 1) := by decide +kernel
theorem dX9_init_42 : decode cX9_init 42 = .ok (.bipush 8, 2) := by decide +kernel
theorem dX9_init_44 : decode cX9_init 44 = .ok (.invokespecial 32, 3) := by decide +kernel
theorem dX9_init_47 : decode cX9_init 47 = .ok (.putfield 35, 3) := by decide +kernel
theorem dX9_init_50 : decode cX9_init 50 = .ok (.aload_n 0, 1) := by decide +kernel
theorem dX9_init_51 : decode cX9_init 51 = .ok (.new 30, 3) := by decide +kernel
theorem dX9_init_54 : decode cX9_init 54 = .ok (.dup, 1) := by decide +kernel
theorem dX9_init_55 : decode cX9_init 55 = .ok (.iconst 2, 1) := by decide +kernel
theorem dX9_init_56 : decode cX9_init 56 = .ok (.invokespecial 32, 3) := by decide +kernel
theorem dX9_init_59 : decode cX9_init 59 = .ok (.putfield 39, 3) := by decide +kernel
theorem dX9_init_62 : decode cX9_init 62 = .ok (.aload_n 0, 1) := by decide +kernel
theorem dX9_init_63 : decode cX9_init 63 = .ok (.new 42, 3) := by decide +kernel
theorem dX9_init_66 : decode cX9_init 66 = .ok (.dup, 1) := by decide +kernel
theorem dX9_init_67 : decode cX9_init 67 = .ok (.invokespecial 44, 3) := by decide +kernel
theorem dX9_init_70 : decode cX9_init 70 = .ok (.putfield 45, 3) := by decide +kernel
theorem dX9_init_73 : decode cX9_init 73 = .ok (.aload_n 0, 1) := by decide +kernel
theorem dX9_init_74 : decode cX9_init 74 = .ok (.new 49, 3) := by decide +kernel
theorem dX9_init_77 : decode cX9_init 77 = .ok (.dup, 1) := by decide +kernel
theorem dX9_init_78 : decode cX9_init 78 = .ok (.aload_n 0, 1) := by decide +kernel
theorem dX9_init_79 : decode cX9_init 79 = .ok (.getfield 45, 3) := by decide +kernel
theorem dX9_init_82 : decode cX9_init 82 = .ok (.invokespecial 51, 3) := by decide +kernel
theorem dX9_init_85 : decode cX9_init 85 = .ok (.putfield 54, 3) := by decide +kernel
theorem dX9_init_88 : decode cX9_init 88 = .ok (.aload_n 0, 1) := by decide +kernel
theorem dX9_init_89 : decode cX9_init 89 = .ok (.new 58, 3) := by decide +kernel
theorem dX9_init_92 : decode cX9_init 92 = .ok (.dup, 1) := by decide +kernel
theorem dX9_init_93 : decode cX9_init 93 = .ok (.invokespecial 60, 3) := by decide +kernel
theorem dX9_init_96 : decode cX9_init 96 = .ok (.putfield 61, 3) := by decide +kernel
theorem dX9_init_99 : decode cX9_init 99 = .ok (.aload_n 0, 1) := by decide +kernel
theorem dX9_init_100 : decode cX9_init 100 = .ok (.new 58, 3) := by decide +kernel
theorem dX9_init_103 : decode cX9_init 103 = .ok (.dup, 1) := by decide +kernel
theorem dX9_init_104 : decode cX9_init 104 = .ok (.invokespecial 60, 3) := by decide +kernel
theorem dX9_init_107 : decode cX9_init 107 = .ok (.putfield 65, 3) := by decide +kernel
theorem dX9_init_110 : decode cX9_init 110 = .ok (.aload_n 0, 1) := by decide +kernel
theorem dX9_init_111 : decode cX9_init 111 = .ok (.getfield 61, 3) := by decide +kernel
theorem dX9_init_114 : decode cX9_init 114 = .ok (.iconst 1, 1) := by decide +kernel
theorem dX9_init_115 : decode cX9_init 115 = .ok (.iconst 0, 1) := by decide +kernel
theorem dX9_init_116 : decode cX9_init 116 = .ok (.iconst 0, 1) := by decide +kernel
theorem dX9_init_117 : decode cX9_init 117 = .ok (.iconst 5, 1) := by decide +kernel
theorem dX9_init_118 : decode cX9_init 118 = .ok (.invokevirtual 68, 3) := by decide +kernel
theorem dX9_init_121 : decode cX9_init 121 = .ok (.pop, 1) := by decide +kernel
theorem dX9_init_122 : decode cX9_init 122 = .ok (.return_, 1) := by decide +kernel
theorem dX9_write_0 : decode cX9_write 0 = .ok (.iload_n 1, 1) := by decide +kernel
theorem dX9_write_1 : decode cX9_write 1 = .ok (.iconst 1, 1) := by decide +kernel
theorem dX9_write_2 : decode cX9_write 2 = .ok (.bipush 8, 2) := by decide +kernel
theorem dX9_write_4 : decode cX9_write 4 = .ok (.invokestatic 72, 3) := by decide +kernel
theorem dX9_write_7 : decode cX9_write 7 = .ok (.ifCond .ne 5, 3) := by decide +kernel
theorem dX9_write_10 : decode cX9_write 10 = .ok (.iconst (-1), 1) := by decide +kernel
theorem dX9_write_11 : decode cX9_write 11 = .ok (.ireturn, 1) := by decide +kernel
theorem dX9_write_12 : decode cX9_write 12 = .ok (.aload_n 0, 1) := by decide +kernel
theorem dX9_write_13 : decode cX9_write 13 = .ok (.getfield 10, 3) := by decide +kernel
theorem dX9_write_16 : decode cX9_write 16 = .ok (.iload_n 1, 1) := by decide +kernel
theorem dX9_write_17 : decode cX9_write 17 = .ok (.invokevirtual 76, 3) := by decide +kernel
theorem dX9_write_20 : decode cX9_write 20 = .ok (.ifCond .ne 6, 3) := by decide +kernel
theorem dX9_write_23 : decode cX9_write 23 = .ok (.bipush (-3), 2) := by decide +kernel
theorem dX9_write_25 : decode cX9_write 25 = .ok (.ireturn, 1) := by decide +kernel
theorem dX9_write_26 : decode cX9_write 26 = .ok (.aload_n 0, 1) := by decide +kernel
theorem dX9_write_27 : decode cX9_write 27 = .ok (.getfield 10, 3) := by decide +kernel
theorem dX9_write_30 : decode cX9_write 30 = .ok (.iload_n 1, 1) := by decide +kernel
theorem dX9_write_31 : decode cX9_write 31 = .ok (.lload_n 2, 1) := by decide +kernel
theorem dX9_write_32 : decode cX9_write 32 = .ok (.invokevirtual 80, 3) := by decide +kernel
theorem dX9_write_35 : decode cX9_write 35 = .ok (.aload_n 0, 1) := by decide +kernel
theorem dX9_write_36 : decode cX9_write 36 = .ok (.getfield 10, 3) := by decide +kernel
theorem dX9_write_39 : decode cX9_write 39 = .ok (.invokevirtual 84, 3) := by decide +kernel
theorem dX9_write_42 : decode cX9_write 42 = .ok (.ireturn, 1) := by decide +kernel
theorem dX9_wipe_0 : decode cX9_wipe 0 = .ok (.aload_n 0, 1) := by decide +kernel
theorem dX9_wipe_1 : decode cX9_wipe 1 = .ok (.getfield 10, 3) := by decide +kernel
theorem dX9_wipe_4 : decode cX9_wipe 4 = .ok (.invokevirtual 84, 3) := by decide +kernel
theorem dX9_wipe_7 : decode cX9_wipe 7 = .ok (.istore_n 1, 1) := by decide +kernel
theorem dX9_wipe_8 : decode cX9_wipe 8 = .ok (.aload_n 0, 1) := by decide +kernel
theorem dX9_wipe_9 : decode cX9_wipe 9 = .ok (.getfield 10, 3) := by decide +kernel
theorem dX9_wipe_12 : decode cX9_wipe 12 = .ok (.invokevirtual 88, 3) := by decide +kernel
theorem dX9_wipe_15 : decode cX9_wipe 15 = .ok (.iload_n 1, 1) := by decide +kernel
theorem dX9_wipe_16 : decode cX9_wipe 16 = .ok (.ireturn, 1) := by decide +kernel
theorem dX9_fault_0 : decode cX9_fault 0 = .ok (.aload_n 0, 1) := by decide +kernel
theorem dX9_fault_1 : decode cX9_fault 1 = .ok (.getfield 19, 3) := by decide +kernel
theorem dX9_fault_4 : decode cX9_fault 4 = .ok (.aload_n 0, 1) := by decide +kernel
theorem dX9_fault_5 : decode cX9_fault 5 = .ok (.getfield 10, 3) := by decide +kernel
theorem dX9_fault_8 : decode cX9_fault 8 = .ok (.aload_n 0, 1) := by decide +kernel
theorem dX9_fault_9 : decode cX9_fault 9 = .ok (.getfield 65, 3) := by decide +kernel
theorem dX9_fault_12 : decode cX9_fault 12 = .ok (.invokevirtual 91, 3) := by decide +kernel
theorem dX9_fault_15 : decode cX9_fault 15 = .ok (.ireturn, 1) := by decide +kernel
theorem dX9_lay_0 : decode cX9_lay 0 = .ok (.aload_n 0, 1) := by decide +kernel
theorem dX9_lay_1 : decode cX9_lay 1 = .ok (.getfield 19, 3) := by decide +kernel
theorem dX9_lay_4 : decode cX9_lay 4 = .ok (.aload_n 0, 1) := by decide +kernel
theorem dX9_lay_5 : decode cX9_lay 5 = .ok (.getfield 10, 3) := by decide +kernel
theorem dX9_lay_8 : decode cX9_lay 8 = .ok (.aload_n 0, 1) := by decide +kernel
theorem dX9_lay_9 : decode cX9_lay 9 = .ok (.getfield 65, 3) := by decide +kernel
theorem dX9_lay_12 : decode cX9_lay 12 = .ok (.invokevirtual 91, 3) := by decide +kernel
theorem dX9_lay_15 : decode cX9_lay 15 = .ok (.bipush (-4), 2) := by decide +kernel
theorem dX9_lay_17 : decode cX9_lay 17 = .ok (.if_icmp .ne 13, 3) := by decide +kernel
theorem dX9_lay_20 : decode cX9_lay 20 = .ok (.aload_n 0, 1) := by decide +kernel
theorem dX9_lay_21 : decode cX9_lay 21 = .ok (.getfield 65, 3) := by decide +kernel
theorem dX9_lay_24 : decode cX9_lay 24 = .ok (.invokevirtual 95, 3) := by decide +kernel
theorem dX9_lay_27 : decode cX9_lay 27 = .ok (.ifCond .ne 6, 3) := by decide +kernel
theorem dX9_lay_30 : decode cX9_lay 30 = .ok (.bipush (-2), 2) := by decide +kernel
theorem dX9_lay_32 : decode cX9_lay 32 = .ok (.ireturn, 1) := by decide +kernel
theorem dX9_lay_33 : decode cX9_lay 33 = .ok (.aload_n 0, 1) := by decide +kernel
theorem dX9_lay_34 : decode cX9_lay 34 = .ok (.getfield 61, 3) := by decide +kernel
theorem dX9_lay_37 : decode cX9_lay 37 = .ok (.astore_n 1, 1) := by decide +kernel
theorem dX9_lay_38 : decode cX9_lay 38 = .ok (.aload_n 0, 1) := by decide +kernel
theorem dX9_lay_39 : decode cX9_lay 39 = .ok (.aload_n 0, 1) := by decide +kernel
theorem dX9_lay_40 : decode cX9_lay 40 = .ok (.getfield 65, 3) := by decide +kernel
theorem dX9_lay_43 : decode cX9_lay 43 = .ok (.putfield 61, 3) := by decide +kernel
theorem dX9_lay_46 : decode cX9_lay 46 = .ok (.aload_n 0, 1) := by decide +kernel
theorem dX9_lay_47 : decode cX9_lay 47 = .ok (.aload_n 1, 1) := by decide +kernel
theorem dX9_lay_48 : decode cX9_lay 48 = .ok (.putfield 65, 3) := by decide +kernel
theorem dX9_lay_51 : decode cX9_lay 51 = .ok (.aload_n 0, 1) := by decide +kernel
theorem dX9_lay_52 : decode cX9_lay 52 = .ok (.getfield 26, 3) := by decide +kernel
theorem dX9_lay_55 : decode cX9_lay 55 = .ok (.invokevirtual 98, 3) := by decide +kernel
theorem dX9_lay_58 : decode cX9_lay 58 = .ok (.aload_n 0, 1) := by decide +kernel
theorem dX9_lay_59 : decode cX9_lay 59 = .ok (.getfield 35, 3) := by decide +kernel
theorem dX9_lay_62 : decode cX9_lay 62 = .ok (.invokevirtual 99, 3) := by decide +kernel
theorem dX9_lay_65 : decode cX9_lay 65 = .ok (.aload_n 0, 1) := by decide +kernel
theorem dX9_lay_66 : decode cX9_lay 66 = .ok (.getfield 39, 3) := by decide +kernel
theorem dX9_lay_69 : decode cX9_lay 69 = .ok (.invokevirtual 99, 3) := by decide +kernel
theorem dX9_lay_72 : decode cX9_lay 72 = .ok (.aload_n 0, 1) := by decide +kernel
theorem dX9_lay_73 : decode cX9_lay 73 = .ok (.getfield 61, 3) := by decide +kernel
theorem dX9_lay_76 : decode cX9_lay 76 = .ok (.invokevirtual 95, 3) := by decide +kernel
theorem dX9_lay_79 : decode cX9_lay 79 = .ok (.ireturn, 1) := by decide +kernel
theorem dX9_word_0 : decode cX9_word 0 = .ok (.aload_n 0, 1) := by decide +kernel
theorem dX9_word_1 : decode cX9_word 1 = .ok (.iload_n 1, 1) := by decide +kernel
theorem dX9_word_2 : decode cX9_word 2 = .ok (.invokevirtual 100, 3) := by decide +kernel
theorem dX9_word_5 : decode cX9_word 5 = .ok (.ifCond .ne 5, 3) := by decide +kernel
theorem dX9_word_8 : decode cX9_word 8 = .ok (.iconst (-1), 1) := by decide +kernel
theorem dX9_word_9 : decode cX9_word 9 = .ok (.ireturn, 1) := by decide +kernel
theorem dX9_word_10 : decode cX9_word 10 = .ok (.iload_n 2, 1) := by decide +kernel
theorem dX9_word_11 : decode cX9_word 11 = .ok (.tableswitch 55 0 2 #[25, 34, 43], 25) := by decide +kernel
theorem dX9_word_36 : decode cX9_word 36 = .ok (.aload_n 0, 1) := by decide +kernel
theorem dX9_word_37 : decode cX9_word 37 = .ok (.getfield 61, 3) := by decide +kernel
theorem dX9_word_40 : decode cX9_word 40 = .ok (.iload_n 1, 1) := by decide +kernel
theorem dX9_word_41 : decode cX9_word 41 = .ok (.invokevirtual 103, 3) := by decide +kernel
theorem dX9_word_44 : decode cX9_word 44 = .ok (.ireturn, 1) := by decide +kernel
theorem dX9_word_45 : decode cX9_word 45 = .ok (.aload_n 0, 1) := by decide +kernel
theorem dX9_word_46 : decode cX9_word 46 = .ok (.getfield 61, 3) := by decide +kernel
theorem dX9_word_49 : decode cX9_word 49 = .ok (.iload_n 1, 1) := by decide +kernel
theorem dX9_word_50 : decode cX9_word 50 = .ok (.invokevirtual 107, 3) := by decide +kernel
theorem dX9_word_53 : decode cX9_word 53 = .ok (.ireturn, 1) := by decide +kernel
theorem dX9_word_54 : decode cX9_word 54 = .ok (.aload_n 0, 1) := by decide +kernel
theorem dX9_word_55 : decode cX9_word 55 = .ok (.getfield 61, 3) := by decide +kernel
theorem dX9_word_58 : decode cX9_word 58 = .ok (.iload_n 1, 1) := by decide +kernel
theorem dX9_word_59 : decode cX9_word 59 = .ok (.invokevirtual 103, 3) := by decide +kernel
theorem dX9_word_62 : decode cX9_word 62 = .ok (.invokestatic 110, 3) := by decide +kernel
theorem dX9_word_65 : decode cX9_word 65 = .ok (.ireturn, 1) := by decide +kernel
theorem dX9_word_66 : decode cX9_word 66 = .ok (.iconst (-1), 1) := by decide +kernel
theorem dX9_word_67 : decode cX9_word 67 = .ok (.ireturn, 1) := by decide +kernel
theorem dX9_bake_0 : decode cX9_bake 0 = .ok (.aload_n 0, 1) := by decide +kernel
theorem dX9_bake_1 : decode cX9_bake 1 = .ok (.iload_n 1, 1) := by decide +kernel
theorem dX9_bake_2 : decode cX9_bake 2 = .ok (.invokevirtual 100, 3) := by decide +kernel
theorem dX9_bake_5 : decode cX9_bake 5 = .ok (.ifCond .eq 12, 3) := by decide +kernel
theorem dX9_bake_8 : decode cX9_bake 8 = .ok (.iload_n 2, 1) := by decide +kernel
theorem dX9_bake_9 : decode cX9_bake 9 = .ok (.iconst 0, 1) := by decide +kernel
theorem dX9_bake_10 : decode cX9_bake 10 = .ok (.iconst 3, 1) := by decide +kernel
theorem dX9_bake_11 : decode cX9_bake 11 = .ok (.invokestatic 72, 3) := by decide +kernel
theorem dX9_bake_14 : decode cX9_bake 14 = .ok (.ifCond .ne 5, 3) := by decide +kernel
theorem dX9_bake_17 : decode cX9_bake 17 = .ok (.iconst (-1), 1) := by decide +kernel
theorem dX9_bake_18 : decode cX9_bake 18 = .ok (.ireturn, 1) := by decide +kernel
theorem dX9_bake_19 : decode cX9_bake 19 = .ok (.aload_n 0, 1) := by decide +kernel
theorem dX9_bake_20 : decode cX9_bake 20 = .ok (.getfield 26, 3) := by decide +kernel
theorem dX9_bake_23 : decode cX9_bake 23 = .ok (.invokevirtual 115, 3) := by decide +kernel
theorem dX9_bake_26 : decode cX9_bake 26 = .ok (.ifCond .eq 6, 3) := by decide +kernel
theorem dX9_bake_29 : decode cX9_bake 29 = .ok (.bipush (-3), 2) := by decide +kernel
theorem dX9_bake_31 : decode cX9_bake 31 = .ok (.ireturn, 1) := by decide +kernel
theorem dX9_bake_32 : decode cX9_bake 32 = .ok (.aload_n 0, 1) := by decide +kernel
theorem dX9_bake_33 : decode cX9_bake 33 = .ok (.getfield 35, 3) := by decide +kernel
theorem dX9_bake_36 : decode cX9_bake 36 = .ok (.aload_n 0, 1) := by decide +kernel
theorem dX9_bake_37 : decode cX9_bake 37 = .ok (.getfield 26, 3) := by decide +kernel
theorem dX9_bake_40 : decode cX9_bake 40 = .ok (.invokevirtual 119, 3) := by decide +kernel
theorem dX9_bake_43 : decode cX9_bake 43 = .ok (.aload_n 0, 1) := by decide +kernel
theorem dX9_bake_44 : decode cX9_bake 44 = .ok (.getfield 61, 3) := by decide +kernel
theorem dX9_bake_47 : decode cX9_bake 47 = .ok (.iload_n 2, 1) := by decide +kernel
theorem dX9_bake_48 : decode cX9_bake 48 = .ok (.iconst 3, 1) := by decide +kernel
theorem dX9_bake_49 : decode cX9_bake 49 = .ok (.if_icmp .ne 11, 3) := by decide +kernel
theorem dX9_bake_52 : decode cX9_bake 52 = .ok (.aload_n 0, 1) := by decide +kernel
theorem dX9_bake_53 : decode cX9_bake 53 = .ok (.iload_n 1, 1) := by decide +kernel
theorem dX9_bake_54 : decode cX9_bake 54 = .ok (.invokevirtual 123, 3) := by decide +kernel
theorem dX9_bake_57 : decode cX9_bake 57 = .ok (.goto 4, 3) := by decide +kernel
theorem dX9_bake_60 : decode cX9_bake 60 = .ok (.iload_n 1, 1) := by decide +kernel
theorem dX9_bake_61 : decode cX9_bake 61 = .ok (.invokevirtual 103, 3) := by decide +kernel
theorem dX9_bake_64 : decode cX9_bake 64 = .ok (.istore_n 3, 1) := by decide +kernel
theorem dX9_bake_65 : decode cX9_bake 65 = .ok (.aload_n 0, 1) := by decide +kernel
theorem dX9_bake_66 : decode cX9_bake 66 = .ok (.getfield 26, 3) := by decide +kernel
theorem dX9_bake_69 : decode cX9_bake 69 = .ok (.iload_n 1, 1) := by decide +kernel
theorem dX9_bake_70 : decode cX9_bake 70 = .ok (.iload_n 2, 1) := by decide +kernel
theorem dX9_bake_71 : decode cX9_bake 71 = .ok (.iload_n 3, 1) := by decide +kernel
theorem dX9_bake_72 : decode cX9_bake 72 = .ok (.invokevirtual 126, 3) := by decide +kernel
theorem dX9_bake_75 : decode cX9_bake 75 = .ok (.aload_n 0, 1) := by decide +kernel
theorem dX9_bake_76 : decode cX9_bake 76 = .ok (.getfield 26, 3) := by decide +kernel
theorem dX9_bake_79 : decode cX9_bake 79 = .ok (.iload_n 3, 1) := by decide +kernel
theorem dX9_bake_80 : decode cX9_bake 80 = .ok (.iload_n 2, 1) := by decide +kernel
theorem dX9_bake_81 : decode cX9_bake 81 = .ok (.invokestatic 130, 3) := by decide +kernel
theorem dX9_bake_84 : decode cX9_bake 84 = .ok (.invokevirtual 134, 3) := by decide +kernel
theorem dX9_bake_87 : decode cX9_bake 87 = .ok (.aload_n 0, 1) := by decide +kernel
theorem dX9_bake_88 : decode cX9_bake 88 = .ok (.getfield 26, 3) := by decide +kernel
theorem dX9_bake_91 : decode cX9_bake 91 = .ok (.invokevirtual 137, 3) := by decide +kernel
theorem dX9_bake_94 : decode cX9_bake 94 = .ok (.ireturn, 1) := by decide +kernel
theorem dX9_day_0 : decode cX9_day 0 = .ok (.aload_n 0, 1) := by decide +kernel
theorem dX9_day_1 : decode cX9_day 1 = .ok (.getfield 35, 3) := by decide +kernel
theorem dX9_day_4 : decode cX9_day 4 = .ok (.aload_n 0, 1) := by decide +kernel
theorem dX9_day_5 : decode cX9_day 5 = .ok (.getfield 26, 3) := by decide +kernel
theorem dX9_day_8 : decode cX9_day 8 = .ok (.invokevirtual 119, 3) := by decide +kernel
theorem dX9_day_11 : decode cX9_day 11 = .ok (.aload_n 0, 1) := by decide +kernel
theorem dX9_day_12 : decode cX9_day 12 = .ok (.getfield 26, 3) := by decide +kernel
theorem dX9_day_15 : decode cX9_day 15 = .ok (.invokevirtual 140, 3) := by decide +kernel
theorem dX9_day_18 : decode cX9_day 18 = .ok (.iconst 0, 1) := by decide +kernel
theorem dX9_day_19 : decode cX9_day 19 = .ok (.istore_n 1, 1) := by decide +kernel
theorem dX9_day_20 : decode cX9_day 20 = .ok (.iconst 0, 1) := by decide +kernel
theorem dX9_day_21 : decode cX9_day 21 = .ok (.istore_n 2, 1) := by decide +kernel
theorem dX9_day_22 : decode cX9_day 22 = .ok (.iload_n 2, 1) := by decide +kernel
theorem dX9_day_23 : decode cX9_day 23 = .ok (.aload_n 0, 1) := by decide +kernel
theorem dX9_day_24 : decode cX9_day 24 = .ok (.getfield 26, 3) := by decide +kernel
theorem dX9_day_27 : decode cX9_day 27 = .ok (.invokevirtual 137, 3) := by decide +kernel
theorem dX9_day_30 : decode cX9_day 30 = .ok (.if_icmp .ge 29, 3) := by decide +kernel
theorem dX9_day_33 : decode cX9_day 33 = .ok (.aload_n 0, 1) := by decide +kernel
theorem dX9_day_34 : decode cX9_day 34 = .ok (.iload_n 2, 1) := by decide +kernel
theorem dX9_day_35 : decode cX9_day 35 = .ok (.invokevirtual 143, 3) := by decide +kernel
theorem dX9_day_38 : decode cX9_day 38 = .ok (.aload_n 0, 1) := by decide +kernel
theorem dX9_day_39 : decode cX9_day 39 = .ok (.getfield 26, 3) := by decide +kernel
theorem dX9_day_42 : decode cX9_day 42 = .ok (.iload_n 2, 1) := by decide +kernel
theorem dX9_day_43 : decode cX9_day 43 = .ok (.iconst 0, 1) := by decide +kernel
theorem dX9_day_44 : decode cX9_day 44 = .ok (.invokevirtual 146, 3) := by decide +kernel
theorem dX9_day_47 : decode cX9_day 47 = .ok (.if_icmp .ne 6, 3) := by decide +kernel
theorem dX9_day_50 : decode cX9_day 50 = .ok (.iinc 1 1, 3) := by decide +kernel
theorem dX9_day_53 : decode cX9_day 53 = .ok (.iinc 2 1, 3) := by decide +kernel
theorem dX9_day_56 : decode cX9_day 56 = .ok (.goto (-34), 3) := by decide +kernel
theorem dX9_day_59 : decode cX9_day 59 = .ok (.iload_n 1, 1) := by decide +kernel
theorem dX9_day_60 : decode cX9_day 60 = .ok (.ireturn, 1) := by decide +kernel
theorem dX9_bite_0 : decode cX9_bite 0 = .ok (.aload_n 0, 1) := by decide +kernel
theorem dX9_bite_1 : decode cX9_bite 1 = .ok (.getfield 26, 3) := by decide +kernel
theorem dX9_bite_4 : decode cX9_bite 4 = .ok (.iload_n 1, 1) := by decide +kernel
theorem dX9_bite_5 : decode cX9_bite 5 = .ok (.invokevirtual 149, 3) := by decide +kernel
theorem dX9_bite_8 : decode cX9_bite 8 = .ok (.ifCond .ne 5, 3) := by decide +kernel
theorem dX9_bite_11 : decode cX9_bite 11 = .ok (.iconst (-1), 1) := by decide +kernel
theorem dX9_bite_12 : decode cX9_bite 12 = .ok (.ireturn, 1) := by decide +kernel
theorem dX9_bite_13 : decode cX9_bite 13 = .ok (.aload_n 0, 1) := by decide +kernel
theorem dX9_bite_14 : decode cX9_bite 14 = .ok (.getfield 26, 3) := by decide +kernel
theorem dX9_bite_17 : decode cX9_bite 17 = .ok (.iload_n 1, 1) := by decide +kernel
theorem dX9_bite_18 : decode cX9_bite 18 = .ok (.iconst 3, 1) := by decide +kernel
theorem dX9_bite_19 : decode cX9_bite 19 = .ok (.invokevirtual 146, 3) := by decide +kernel
theorem dX9_bite_22 : decode cX9_bite 22 = .ok (.bipush 9, 2) := by decide +kernel
theorem dX9_bite_24 : decode cX9_bite 24 = .ok (.if_icmp .lt 6, 3) := by decide +kernel
theorem dX9_bite_27 : decode cX9_bite 27 = .ok (.bipush (-3), 2) := by decide +kernel
theorem dX9_bite_29 : decode cX9_bite 29 = .ok (.ireturn, 1) := by decide +kernel
theorem dX9_bite_30 : decode cX9_bite 30 = .ok (.aload_n 0, 1) := by decide +kernel
theorem dX9_bite_31 : decode cX9_bite 31 = .ok (.getfield 35, 3) := by decide +kernel
theorem dX9_bite_34 : decode cX9_bite 34 = .ok (.aload_n 0, 1) := by decide +kernel
theorem dX9_bite_35 : decode cX9_bite 35 = .ok (.getfield 26, 3) := by decide +kernel
theorem dX9_bite_38 : decode cX9_bite 38 = .ok (.invokevirtual 119, 3) := by decide +kernel
theorem dX9_bite_41 : decode cX9_bite 41 = .ok (.aload_n 0, 1) := by decide +kernel
theorem dX9_bite_42 : decode cX9_bite 42 = .ok (.getfield 26, 3) := by decide +kernel
theorem dX9_bite_45 : decode cX9_bite 45 = .ok (.iload_n 1, 1) := by decide +kernel
theorem dX9_bite_46 : decode cX9_bite 46 = .ok (.invokevirtual 152, 3) := by decide +kernel
theorem dX9_bite_49 : decode cX9_bite 49 = .ok (.aload_n 0, 1) := by decide +kernel
theorem dX9_bite_50 : decode cX9_bite 50 = .ok (.getfield 26, 3) := by decide +kernel
theorem dX9_bite_53 : decode cX9_bite 53 = .ok (.iload_n 1, 1) := by decide +kernel
theorem dX9_bite_54 : decode cX9_bite 54 = .ok (.iconst 3, 1) := by decide +kernel
theorem dX9_bite_55 : decode cX9_bite 55 = .ok (.invokevirtual 146, 3) := by decide +kernel
theorem dX9_bite_58 : decode cX9_bite 58 = .ok (.ireturn, 1) := by decide +kernel
theorem dX9_take_0 : decode cX9_take 0 = .ok (.aload_n 0, 1) := by decide +kernel
theorem dX9_take_1 : decode cX9_take 1 = .ok (.getfield 26, 3) := by decide +kernel
theorem dX9_take_4 : decode cX9_take 4 = .ok (.iload_n 1, 1) := by decide +kernel
theorem dX9_take_5 : decode cX9_take 5 = .ok (.invokevirtual 149, 3) := by decide +kernel
theorem dX9_take_8 : decode cX9_take 8 = .ok (.ifCond .ne 5, 3) := by decide +kernel
theorem dX9_take_11 : decode cX9_take 11 = .ok (.iconst (-1), 1) := by decide +kernel
theorem dX9_take_12 : decode cX9_take 12 = .ok (.ireturn, 1) := by decide +kernel
theorem dX9_take_13 : decode cX9_take 13 = .ok (.aload_n 0, 1) := by decide +kernel
theorem dX9_take_14 : decode cX9_take 14 = .ok (.getfield 35, 3) := by decide +kernel
theorem dX9_take_17 : decode cX9_take 17 = .ok (.aload_n 0, 1) := by decide +kernel
theorem dX9_take_18 : decode cX9_take 18 = .ok (.getfield 26, 3) := by decide +kernel
theorem dX9_take_21 : decode cX9_take 21 = .ok (.invokevirtual 119, 3) := by decide +kernel
theorem dX9_take_24 : decode cX9_take 24 = .ok (.aload_n 0, 1) := by decide +kernel
theorem dX9_take_25 : decode cX9_take 25 = .ok (.getfield 26, 3) := by decide +kernel
theorem dX9_take_28 : decode cX9_take 28 = .ok (.iload_n 1, 1) := by decide +kernel
theorem dX9_take_29 : decode cX9_take 29 = .ok (.iconst 0, 1) := by decide +kernel
theorem dX9_take_30 : decode cX9_take 30 = .ok (.invokevirtual 146, 3) := by decide +kernel
theorem dX9_take_33 : decode cX9_take 33 = .ok (.istore_n 2, 1) := by decide +kernel
theorem dX9_take_34 : decode cX9_take 34 = .ok (.aload_n 0, 1) := by decide +kernel
theorem dX9_take_35 : decode cX9_take 35 = .ok (.getfield 26, 3) := by decide +kernel
theorem dX9_take_38 : decode cX9_take 38 = .ok (.iload_n 1, 1) := by decide +kernel
theorem dX9_take_39 : decode cX9_take 39 = .ok (.invokevirtual 155, 3) := by decide +kernel
theorem dX9_take_42 : decode cX9_take 42 = .ok (.iload_n 2, 1) := by decide +kernel
theorem dX9_take_43 : decode cX9_take 43 = .ok (.ireturn, 1) := by decide +kernel
theorem dX9_undo_0 : decode cX9_undo 0 = .ok (.aload_n 0, 1) := by decide +kernel
theorem dX9_undo_1 : decode cX9_undo 1 = .ok (.getfield 35, 3) := by decide +kernel
theorem dX9_undo_4 : decode cX9_undo 4 = .ok (.invokevirtual 158, 3) := by decide +kernel
theorem dX9_undo_7 : decode cX9_undo 7 = .ok (.ifCond .ne 6, 3) := by decide +kernel
theorem dX9_undo_10 : decode cX9_undo 10 = .ok (.bipush (-2), 2) := by decide +kernel
theorem dX9_undo_12 : decode cX9_undo 12 = .ok (.ireturn, 1) := by decide +kernel
theorem dX9_undo_13 : decode cX9_undo 13 = .ok (.aload_n 0, 1) := by decide +kernel
theorem dX9_undo_14 : decode cX9_undo 14 = .ok (.getfield 35, 3) := by decide +kernel
theorem dX9_undo_17 : decode cX9_undo 17 = .ok (.aload_n 0, 1) := by decide +kernel
theorem dX9_undo_18 : decode cX9_undo 18 = .ok (.getfield 26, 3) := by decide +kernel
theorem dX9_undo_21 : decode cX9_undo 21 = .ok (.invokevirtual 159, 3) := by decide +kernel
theorem dX9_undo_24 : decode cX9_undo 24 = .ok (.aload_n 0, 1) := by decide +kernel
theorem dX9_undo_25 : decode cX9_undo 25 = .ok (.getfield 35, 3) := by decide +kernel
theorem dX9_undo_28 : decode cX9_undo 28 = .ok (.invokevirtual 158, 3) := by decide +kernel
theorem dX9_undo_31 : decode cX9_undo 31 = .ok (.ireturn, 1) := by decide +kernel
theorem dX9_loaf_0 : decode cX9_loaf 0 = .ok (.aload_n 0, 1) := by decide +kernel
theorem dX9_loaf_1 : decode cX9_loaf 1 = .ok (.getfield 26, 3) := by decide +kernel
theorem dX9_loaf_4 : decode cX9_loaf 4 = .ok (.iload_n 1, 1) := by decide +kernel
theorem dX9_loaf_5 : decode cX9_loaf 5 = .ok (.invokevirtual 149, 3) := by decide +kernel
theorem dX9_loaf_8 : decode cX9_loaf 8 = .ok (.ifCond .ne 5, 3) := by decide +kernel
theorem dX9_loaf_11 : decode cX9_loaf 11 = .ok (.iconst (-1), 1) := by decide +kernel
theorem dX9_loaf_12 : decode cX9_loaf 12 = .ok (.ireturn, 1) := by decide +kernel
theorem dX9_loaf_13 : decode cX9_loaf 13 = .ok (.iload_n 2, 1) := by decide +kernel
theorem dX9_loaf_14 : decode cX9_loaf 14 = .ok (.tableswitch 90 0 5 #[38, 48, 58, 68, 78, 84], 38) := by decide +kernel
theorem dX9_loaf_52 : decode cX9_loaf 52 = .ok (.aload_n 0, 1) := by decide +kernel
theorem dX9_loaf_53 : decode cX9_loaf 53 = .ok (.getfield 26, 3) := by decide +kernel
theorem dX9_loaf_56 : decode cX9_loaf 56 = .ok (.iload_n 1, 1) := by decide +kernel
theorem dX9_loaf_57 : decode cX9_loaf 57 = .ok (.iconst 0, 1) := by decide +kernel
theorem dX9_loaf_58 : decode cX9_loaf 58 = .ok (.invokevirtual 146, 3) := by decide +kernel
theorem dX9_loaf_61 : decode cX9_loaf 61 = .ok (.ireturn, 1) := by decide +kernel
theorem dX9_loaf_62 : decode cX9_loaf 62 = .ok (.aload_n 0, 1) := by decide +kernel
theorem dX9_loaf_63 : decode cX9_loaf 63 = .ok (.getfield 26, 3) := by decide +kernel
theorem dX9_loaf_66 : decode cX9_loaf 66 = .ok (.iload_n 1, 1) := by decide +kernel
theorem dX9_loaf_67 : decode cX9_loaf 67 = .ok (.iconst 1, 1) := by decide +kernel
theorem dX9_loaf_68 : decode cX9_loaf 68 = .ok (.invokevirtual 146, 3) := by decide +kernel
theorem dX9_loaf_71 : decode cX9_loaf 71 = .ok (.ireturn, 1) := by decide +kernel
theorem dX9_loaf_72 : decode cX9_loaf 72 = .ok (.aload_n 0, 1) := by decide +kernel
theorem dX9_loaf_73 : decode cX9_loaf 73 = .ok (.getfield 26, 3) := by decide +kernel
theorem dX9_loaf_76 : decode cX9_loaf 76 = .ok (.iload_n 1, 1) := by decide +kernel
theorem dX9_loaf_77 : decode cX9_loaf 77 = .ok (.iconst 2, 1) := by decide +kernel
theorem dX9_loaf_78 : decode cX9_loaf 78 = .ok (.invokevirtual 146, 3) := by decide +kernel
theorem dX9_loaf_81 : decode cX9_loaf 81 = .ok (.ireturn, 1) := by decide +kernel
theorem dX9_loaf_82 : decode cX9_loaf 82 = .ok (.aload_n 0, 1) := by decide +kernel
theorem dX9_loaf_83 : decode cX9_loaf 83 = .ok (.getfield 26, 3) := by decide +kernel
theorem dX9_loaf_86 : decode cX9_loaf 86 = .ok (.iload_n 1, 1) := by decide +kernel
theorem dX9_loaf_87 : decode cX9_loaf 87 = .ok (.iconst 3, 1) := by decide +kernel
theorem dX9_loaf_88 : decode cX9_loaf 88 = .ok (.invokevirtual 146, 3) := by decide +kernel
theorem dX9_loaf_91 : decode cX9_loaf 91 = .ok (.ireturn, 1) := by decide +kernel
theorem dX9_loaf_92 : decode cX9_loaf 92 = .ok (.aload_n 0, 1) := by decide +kernel
theorem dX9_loaf_93 : decode cX9_loaf 93 = .ok (.iload_n 1, 1) := by decide +kernel
theorem dX9_loaf_94 : decode cX9_loaf 94 = .ok (.invokevirtual 162, 3) := by decide +kernel
theorem dX9_loaf_97 : decode cX9_loaf 97 = .ok (.ireturn, 1) := by decide +kernel
theorem dX9_loaf_98 : decode cX9_loaf 98 = .ok (.aload_n 0, 1) := by decide +kernel
theorem dX9_loaf_99 : decode cX9_loaf 99 = .ok (.iload_n 1, 1) := by decide +kernel
theorem dX9_loaf_100 : decode cX9_loaf 100 = .ok (.invokevirtual 143, 3) := by decide +kernel
theorem dX9_loaf_103 : decode cX9_loaf 103 = .ok (.ireturn, 1) := by decide +kernel
theorem dX9_loaf_104 : decode cX9_loaf 104 = .ok (.iconst (-1), 1) := by decide +kernel
theorem dX9_loaf_105 : decode cX9_loaf 105 = .ok (.ireturn, 1) := by decide +kernel
theorem dX9_becomes_0 : decode cX9_becomes 0 = .ok (.iload_n 1, 1) := by decide +kernel
theorem dX9_becomes_1 : decode cX9_becomes 1 = .ok (.invokestatic 165, 3) := by decide +kernel
theorem dX9_becomes_4 : decode cX9_becomes 4 = .ok (.ifCond .eq 11, 3) := by decide +kernel
theorem dX9_becomes_7 : decode cX9_becomes 7 = .ok (.iload_n 2, 1) := by decide +kernel
theorem dX9_becomes_8 : decode cX9_becomes 8 = .ok (.iload_n 3, 1) := by decide +kernel
theorem dX9_becomes_9 : decode cX9_becomes 9 = .ok (.invokestatic 168, 3) := by decide +kernel
theorem dX9_becomes_12 : decode cX9_becomes 12 = .ok (.ifCond .ne 5, 3) := by decide +kernel
theorem dX9_becomes_15 : decode cX9_becomes 15 = .ok (.iconst (-1), 1) := by decide +kernel
theorem dX9_becomes_16 : decode cX9_becomes 16 = .ok (.ireturn, 1) := by decide +kernel
theorem dX9_becomes_17 : decode cX9_becomes 17 = .ok (.aload_n 0, 1) := by decide +kernel
theorem dX9_becomes_18 : decode cX9_becomes 18 = .ok (.getfield 61, 3) := by decide +kernel
theorem dX9_becomes_21 : decode cX9_becomes 21 = .ok (.iload_n 1, 1) := by decide +kernel
theorem dX9_becomes_22 : decode cX9_becomes 22 = .ok (.iload_n 2, 1) := by decide +kernel
theorem dX9_becomes_23 : decode cX9_becomes 23 = .ok (.iload_n 3, 1) := by decide +kernel
theorem dX9_becomes_24 : decode cX9_becomes 24 = .ok (.invokevirtual 172, 3) := by decide +kernel
theorem dX9_becomes_27 : decode cX9_becomes 27 = .ok (.ireturn, 1) := by decide +kernel
theorem dX9_mayBe_0 : decode cX9_mayBe 0 = .ok (.iload_n 1, 1) := by decide +kernel
theorem dX9_mayBe_1 : decode cX9_mayBe 1 = .ok (.invokestatic 165, 3) := by decide +kernel
theorem dX9_mayBe_4 : decode cX9_mayBe 4 = .ok (.ifCond .eq 11, 3) := by decide +kernel
theorem dX9_mayBe_7 : decode cX9_mayBe 7 = .ok (.iload_n 2, 1) := by decide +kernel
theorem dX9_mayBe_8 : decode cX9_mayBe 8 = .ok (.iload_n 3, 1) := by decide +kernel
theorem dX9_mayBe_9 : decode cX9_mayBe 9 = .ok (.invokestatic 168, 3) := by decide +kernel
theorem dX9_mayBe_12 : decode cX9_mayBe 12 = .ok (.ifCond .ne 5, 3) := by decide +kernel
theorem dX9_mayBe_15 : decode cX9_mayBe 15 = .ok (.iconst (-1), 1) := by decide +kernel
theorem dX9_mayBe_16 : decode cX9_mayBe 16 = .ok (.ireturn, 1) := by decide +kernel
theorem dX9_mayBe_17 : decode cX9_mayBe 17 = .ok (.aload_n 0, 1) := by decide +kernel
theorem dX9_mayBe_18 : decode cX9_mayBe 18 = .ok (.getfield 45, 3) := by decide +kernel
theorem dX9_mayBe_21 : decode cX9_mayBe 21 = .ok (.aload_n 0, 1) := by decide +kernel
theorem dX9_mayBe_22 : decode cX9_mayBe 22 = .ok (.getfield 61, 3) := by decide +kernel
theorem dX9_mayBe_25 : decode cX9_mayBe 25 = .ok (.iload_n 1, 1) := by decide +kernel
theorem dX9_mayBe_26 : decode cX9_mayBe 26 = .ok (.iload_n 2, 1) := by decide +kernel
theorem dX9_mayBe_27 : decode cX9_mayBe 27 = .ok (.iload_n 3, 1) := by decide +kernel
theorem dX9_mayBe_28 : decode cX9_mayBe 28 = .ok (.invokevirtual 176, 3) := by decide +kernel
theorem dX9_mayBe_31 : decode cX9_mayBe 31 = .ok (.aload_n 0, 1) := by decide +kernel
theorem dX9_mayBe_32 : decode cX9_mayBe 32 = .ok (.getfield 45, 3) := by decide +kernel
theorem dX9_mayBe_35 : decode cX9_mayBe 35 = .ok (.iload_n 1, 1) := by decide +kernel
theorem dX9_mayBe_36 : decode cX9_mayBe 36 = .ok (.invokevirtual 180, 3) := by decide +kernel
theorem dX9_mayBe_39 : decode cX9_mayBe 39 = .ok (.ireturn, 1) := by decide +kernel
theorem dX9_can_0 : decode cX9_can 0 = .ok (.iload_n 1, 1) := by decide +kernel
theorem dX9_can_1 : decode cX9_can 1 = .ok (.invokestatic 165, 3) := by decide +kernel
theorem dX9_can_4 : decode cX9_can 4 = .ok (.ifCond .eq 19, 3) := by decide +kernel
theorem dX9_can_7 : decode cX9_can 7 = .ok (.iload_n 2, 1) := by decide +kernel
theorem dX9_can_8 : decode cX9_can 8 = .ok (.invokestatic 165, 3) := by decide +kernel
theorem dX9_can_11 : decode cX9_can 11 = .ok (.ifCond .eq 12, 3) := by decide +kernel
theorem dX9_can_14 : decode cX9_can 14 = .ok (.iload_n 3, 1) := by decide +kernel
theorem dX9_can_15 : decode cX9_can 15 = .ok (.iload 4, 2) := by decide +kernel
theorem dX9_can_17 : decode cX9_can 17 = .ok (.invokestatic 168, 3) := by decide +kernel
theorem dX9_can_20 : decode cX9_can 20 = .ok (.ifCond .ne 5, 3) := by decide +kernel
theorem dX9_can_23 : decode cX9_can 23 = .ok (.iconst (-1), 1) := by decide +kernel
theorem dX9_can_24 : decode cX9_can 24 = .ok (.ireturn, 1) := by decide +kernel
theorem dX9_can_25 : decode cX9_can 25 = .ok (.aload_n 0, 1) := by decide +kernel
theorem dX9_can_26 : decode cX9_can 26 = .ok (.getfield 45, 3) := by decide +kernel
theorem dX9_can_29 : decode cX9_can 29 = .ok (.aload_n 0, 1) := by decide +kernel
theorem dX9_can_30 : decode cX9_can 30 = .ok (.getfield 61, 3) := by decide +kernel
theorem dX9_can_33 : decode cX9_can 33 = .ok (.iload_n 1, 1) := by decide +kernel
theorem dX9_can_34 : decode cX9_can 34 = .ok (.iload_n 3, 1) := by decide +kernel
theorem dX9_can_35 : decode cX9_can 35 = .ok (.iload 4, 2) := by decide +kernel
theorem dX9_can_37 : decode cX9_can 37 = .ok (.invokevirtual 176, 3) := by decide +kernel
theorem dX9_can_40 : decode cX9_can 40 = .ok (.aload_n 0, 1) := by decide +kernel
theorem dX9_can_41 : decode cX9_can 41 = .ok (.getfield 45, 3) := by decide +kernel
theorem dX9_can_44 : decode cX9_can 44 = .ok (.iload_n 1, 1) := by decide +kernel
theorem dX9_can_45 : decode cX9_can 45 = .ok (.iload_n 2, 1) := by decide +kernel
theorem dX9_can_46 : decode cX9_can 46 = .ok (.invokevirtual 183, 3) := by decide +kernel
theorem dX9_can_49 : decode cX9_can 49 = .ok (.ifCond .eq 7, 3) := by decide +kernel
theorem dX9_can_52 : decode cX9_can 52 = .ok (.iconst 1, 1) := by decide +kernel
theorem dX9_can_53 : decode cX9_can 53 = .ok (.goto 4, 3) := by decide +kernel
theorem dX9_can_56 : decode cX9_can 56 = .ok (.iconst 0, 1) := by decide +kernel
theorem dX9_can_57 : decode cX9_can 57 = .ok (.ireturn, 1) := by decide +kernel
theorem dX9_was_0 : decode cX9_was 0 = .ok (.iload_n 1, 1) := by decide +kernel
theorem dX9_was_1 : decode cX9_was 1 = .ok (.invokestatic 165, 3) := by decide +kernel
theorem dX9_was_4 : decode cX9_was 4 = .ok (.ifCond .eq 11, 3) := by decide +kernel
theorem dX9_was_7 : decode cX9_was 7 = .ok (.iload_n 2, 1) := by decide +kernel
theorem dX9_was_8 : decode cX9_was 8 = .ok (.iload_n 3, 1) := by decide +kernel
theorem dX9_was_9 : decode cX9_was 9 = .ok (.invokestatic 168, 3) := by decide +kernel
theorem dX9_was_12 : decode cX9_was 12 = .ok (.ifCond .ne 5, 3) := by decide +kernel
theorem dX9_was_15 : decode cX9_was 15 = .ok (.iconst (-1), 1) := by decide +kernel
theorem dX9_was_16 : decode cX9_was 16 = .ok (.ireturn, 1) := by decide +kernel
theorem dX9_was_17 : decode cX9_was 17 = .ok (.iconst 0, 1) := by decide +kernel
theorem dX9_was_18 : decode cX9_was 18 = .ok (.istore 4, 2) := by decide +kernel
theorem dX9_was_20 : decode cX9_was 20 = .ok (.iconst 0, 1) := by decide +kernel
theorem dX9_was_21 : decode cX9_was 21 = .ok (.istore 5, 2) := by decide +kernel
theorem dX9_was_23 : decode cX9_was 23 = .ok (.iload 5, 2) := by decide +kernel
theorem dX9_was_25 : decode cX9_was 25 = .ok (.aload_n 0, 1) := by decide +kernel
theorem dX9_was_26 : decode cX9_was 26 = .ok (.getfield 61, 3) := by decide +kernel
theorem dX9_was_29 : decode cX9_was 29 = .ok (.invokevirtual 95, 3) := by decide +kernel
theorem dX9_was_32 : decode cX9_was 32 = .ok (.if_icmp .ge 60, 3) := by decide +kernel
theorem dX9_was_35 : decode cX9_was 35 = .ok (.aload_n 0, 1) := by decide +kernel
theorem dX9_was_36 : decode cX9_was 36 = .ok (.getfield 45, 3) := by decide +kernel
theorem dX9_was_39 : decode cX9_was 39 = .ok (.aload_n 0, 1) := by decide +kernel
theorem dX9_was_40 : decode cX9_was 40 = .ok (.getfield 61, 3) := by decide +kernel
theorem dX9_was_43 : decode cX9_was 43 = .ok (.aload_n 0, 1) := by decide +kernel
theorem dX9_was_44 : decode cX9_was 44 = .ok (.getfield 61, 3) := by decide +kernel
theorem dX9_was_47 : decode cX9_was 47 = .ok (.iload 5, 2) := by decide +kernel
theorem dX9_was_49 : decode cX9_was 49 = .ok (.invokevirtual 103, 3) := by decide +kernel
theorem dX9_was_52 : decode cX9_was 52 = .ok (.iload_n 2, 1) := by decide +kernel
theorem dX9_was_53 : decode cX9_was 53 = .ok (.iload_n 3, 1) := by decide +kernel
theorem dX9_was_54 : decode cX9_was 54 = .ok (.invokevirtual 176, 3) := by decide +kernel
theorem dX9_was_57 : decode cX9_was 57 = .ok (.aload_n 0, 1) := by decide +kernel
theorem dX9_was_58 : decode cX9_was 58 = .ok (.getfield 45, 3) := by decide +kernel
theorem dX9_was_61 : decode cX9_was 61 = .ok (.aload_n 0, 1) := by decide +kernel
theorem dX9_was_62 : decode cX9_was 62 = .ok (.getfield 61, 3) := by decide +kernel
theorem dX9_was_65 : decode cX9_was 65 = .ok (.iload 5, 2) := by decide +kernel
theorem dX9_was_67 : decode cX9_was 67 = .ok (.invokevirtual 103, 3) := by decide +kernel
theorem dX9_was_70 : decode cX9_was 70 = .ok (.iload_n 1, 1) := by decide +kernel
theorem dX9_was_71 : decode cX9_was 71 = .ok (.invokevirtual 183, 3) := by decide +kernel
theorem dX9_was_74 : decode cX9_was 74 = .ok (.ifCond .eq 12, 3) := by decide +kernel
theorem dX9_was_77 : decode cX9_was 77 = .ok (.iload 4, 2) := by decide +kernel
theorem dX9_was_79 : decode cX9_was 79 = .ok (.iconst 1, 1) := by decide +kernel
theorem dX9_was_80 : decode cX9_was 80 = .ok (.iload 5, 2) := by decide +kernel
theorem dX9_was_82 : decode cX9_was 82 = .ok (.ishl, 1) := by decide +kernel
theorem dX9_was_83 : decode cX9_was 83 = .ok (.ior, 1) := by decide +kernel
theorem dX9_was_84 : decode cX9_was 84 = .ok (.istore 4, 2) := by decide +kernel
theorem dX9_was_86 : decode cX9_was 86 = .ok (.iinc 5 1, 3) := by decide +kernel
theorem dX9_was_89 : decode cX9_was 89 = .ok (.goto (-66), 3) := by decide +kernel
theorem dX9_was_92 : decode cX9_was 92 = .ok (.iload 4, 2) := by decide +kernel
theorem dX9_was_94 : decode cX9_was 94 = .ok (.ireturn, 1) := by decide +kernel
theorem dX9_half_0 : decode cX9_half 0 = .ok (.iload_n 1, 1) := by decide +kernel
theorem dX9_half_1 : decode cX9_half 1 = .ok (.iconst 0, 1) := by decide +kernel
theorem dX9_half_2 : decode cX9_half 2 = .ok (.iconst 5, 1) := by decide +kernel
theorem dX9_half_3 : decode cX9_half 3 = .ok (.invokestatic 72, 3) := by decide +kernel
theorem dX9_half_6 : decode cX9_half 6 = .ok (.ifCond .eq 21, 3) := by decide +kernel
theorem dX9_half_9 : decode cX9_half 9 = .ok (.iload_n 2, 1) := by decide +kernel
theorem dX9_half_10 : decode cX9_half 10 = .ok (.iconst 0, 1) := by decide +kernel
theorem dX9_half_11 : decode cX9_half 11 = .ok (.iconst 3, 1) := by decide +kernel
theorem dX9_half_12 : decode cX9_half 12 = .ok (.invokestatic 72, 3) := by decide +kernel
theorem dX9_half_15 : decode cX9_half 15 = .ok (.ifCond .eq 12, 3) := by decide +kernel
theorem dX9_half_18 : decode cX9_half 18 = .ok (.iload_n 3, 1) := by decide +kernel
theorem dX9_half_19 : decode cX9_half 19 = .ok (.iconst 0, 1) := by decide +kernel
theorem dX9_half_20 : decode cX9_half 20 = .ok (.iconst 2, 1) := by decide +kernel
theorem dX9_half_21 : decode cX9_half 21 = .ok (.invokestatic 72, 3) := by decide +kernel
theorem dX9_half_24 : decode cX9_half 24 = .ok (.ifCond .ne 5, 3) := by decide +kernel
theorem dX9_half_27 : decode cX9_half 27 = .ok (.iconst (-1), 1) := by decide +kernel
theorem dX9_half_28 : decode cX9_half 28 = .ok (.ireturn, 1) := by decide +kernel
theorem dX9_half_29 : decode cX9_half 29 = .ok (.iconst 0, 1) := by decide +kernel
theorem dX9_half_30 : decode cX9_half 30 = .ok (.istore 4, 2) := by decide +kernel
theorem dX9_half_32 : decode cX9_half 32 = .ok (.iconst 0, 1) := by decide +kernel
theorem dX9_half_33 : decode cX9_half 33 = .ok (.istore 5, 2) := by decide +kernel
theorem dX9_half_35 : decode cX9_half 35 = .ok (.iload 5, 2) := by decide +kernel
theorem dX9_half_37 : decode cX9_half 37 = .ok (.aload_n 0, 1) := by decide +kernel
theorem dX9_half_38 : decode cX9_half 38 = .ok (.getfield 61, 3) := by decide +kernel
theorem dX9_half_41 : decode cX9_half 41 = .ok (.invokevirtual 95, 3) := by decide +kernel
theorem dX9_half_44 : decode cX9_half 44 = .ok (.if_icmp .ge 56, 3) := by decide +kernel
theorem dX9_half_47 : decode cX9_half 47 = .ok (.aload_n 0, 1) := by decide +kernel
theorem dX9_half_48 : decode cX9_half 48 = .ok (.getfield 61, 3) := by decide +kernel
theorem dX9_half_51 : decode cX9_half 51 = .ok (.iload 5, 2) := by decide +kernel
theorem dX9_half_53 : decode cX9_half 53 = .ok (.invokevirtual 103, 3) := by decide +kernel
theorem dX9_half_56 : decode cX9_half 56 = .ok (.istore 6, 2) := by decide +kernel
theorem dX9_half_58 : decode cX9_half 58 = .ok (.iload 6, 2) := by decide +kernel
theorem dX9_half_60 : decode cX9_half 60 = .ok (.invokestatic 185, 3) := by decide +kernel
theorem dX9_half_63 : decode cX9_half 63 = .ok (.iload_n 1, 1) := by decide +kernel
theorem dX9_half_64 : decode cX9_half 64 = .ok (.if_icmp .lt 30, 3) := by decide +kernel
theorem dX9_half_67 : decode cX9_half 67 = .ok (.iload 6, 2) := by decide +kernel
theorem dX9_half_69 : decode cX9_half 69 = .ok (.invokestatic 188, 3) := by decide +kernel
theorem dX9_half_72 : decode cX9_half 72 = .ok (.iload_n 2, 1) := by decide +kernel
theorem dX9_half_73 : decode cX9_half 73 = .ok (.if_icmp .lt 21, 3) := by decide +kernel
theorem dX9_half_76 : decode cX9_half 76 = .ok (.iload 6, 2) := by decide +kernel
theorem dX9_half_78 : decode cX9_half 78 = .ok (.invokestatic 191, 3) := by decide +kernel
theorem dX9_half_81 : decode cX9_half 81 = .ok (.iload_n 3, 1) := by decide +kernel
theorem dX9_half_82 : decode cX9_half 82 = .ok (.if_icmp .ne 12, 3) := by decide +kernel
theorem dX9_half_85 : decode cX9_half 85 = .ok (.iload 4, 2) := by decide +kernel
theorem dX9_half_87 : decode cX9_half 87 = .ok (.iconst 1, 1) := by decide +kernel
theorem dX9_half_88 : decode cX9_half 88 = .ok (.iload 5, 2) := by decide +kernel
theorem dX9_half_90 : decode cX9_half 90 = .ok (.ishl, 1) := by decide +kernel
theorem dX9_half_91 : decode cX9_half 91 = .ok (.ior, 1) := by decide +kernel
theorem dX9_half_92 : decode cX9_half 92 = .ok (.istore 4, 2) := by decide +kernel
theorem dX9_half_94 : decode cX9_half 94 = .ok (.iinc 5 1, 3) := by decide +kernel
theorem dX9_half_97 : decode cX9_half 97 = .ok (.goto (-62), 3) := by decide +kernel
theorem dX9_half_100 : decode cX9_half 100 = .ok (.iload 4, 2) := by decide +kernel
theorem dX9_half_102 : decode cX9_half 102 = .ok (.ireturn, 1) := by decide +kernel
theorem dX9_code_0 : decode cX9_code 0 = .ok (.iload_n 1, 1) := by decide +kernel
theorem dX9_code_1 : decode cX9_code 1 = .ok (.iconst 1, 1) := by decide +kernel
theorem dX9_code_2 : decode cX9_code 2 = .ok (.iconst 3, 1) := by decide +kernel
theorem dX9_code_3 : decode cX9_code 3 = .ok (.invokestatic 72, 3) := by decide +kernel
theorem dX9_code_6 : decode cX9_code 6 = .ok (.ifCond .eq 23, 3) := by decide +kernel
theorem dX9_code_9 : decode cX9_code 9 = .ok (.iload_n 2, 1) := by decide +kernel
theorem dX9_code_10 : decode cX9_code 10 = .ok (.iload_n 3, 1) := by decide +kernel
theorem dX9_code_11 : decode cX9_code 11 = .ok (.invokestatic 168, 3) := by decide +kernel
theorem dX9_code_14 : decode cX9_code 14 = .ok (.ifCond .eq 15, 3) := by decide +kernel
theorem dX9_code_17 : decode cX9_code 17 = .ok (.iload 4, 2) := by decide +kernel
theorem dX9_code_19 : decode cX9_code 19 = .ok (.iconst (-1), 1) := by decide +kernel
theorem dX9_code_20 : decode cX9_code 20 = .ok (.iload_n 1, 1) := by decide +kernel
theorem dX9_code_21 : decode cX9_code 21 = .ok (.iconst 1, 1) := by decide +kernel
theorem dX9_code_22 : decode cX9_code 22 = .ok (.isub, 1) := by decide +kernel
theorem dX9_code_23 : decode cX9_code 23 = .ok (.invokestatic 72, 3) := by decide +kernel
theorem dX9_code_26 : decode cX9_code 26 = .ok (.ifCond .ne 5, 3) := by decide +kernel
theorem dX9_code_29 : decode cX9_code 29 = .ok (.iconst (-1), 1) := by decide +kernel
theorem dX9_code_30 : decode cX9_code 30 = .ok (.ireturn, 1) := by decide +kernel
theorem dX9_code_31 : decode cX9_code 31 = .ok (.aload_n 0, 1) := by decide +kernel
theorem dX9_code_32 : decode cX9_code 32 = .ok (.getfield 54, 3) := by decide +kernel
theorem dX9_code_35 : decode cX9_code 35 = .ok (.aload_n 0, 1) := by decide +kernel
theorem dX9_code_36 : decode cX9_code 36 = .ok (.getfield 61, 3) := by decide +kernel
theorem dX9_code_39 : decode cX9_code 39 = .ok (.iload_n 1, 1) := by decide +kernel
theorem dX9_code_40 : decode cX9_code 40 = .ok (.iload_n 2, 1) := by decide +kernel
theorem dX9_code_41 : decode cX9_code 41 = .ok (.iload_n 3, 1) := by decide +kernel
theorem dX9_code_42 : decode cX9_code 42 = .ok (.invokevirtual 194, 3) := by decide +kernel
theorem dX9_code_45 : decode cX9_code 45 = .ok (.ifCond .ne 6, 3) := by decide +kernel
theorem dX9_code_48 : decode cX9_code 48 = .ok (.bipush (-4), 2) := by decide +kernel
theorem dX9_code_50 : decode cX9_code 50 = .ok (.ireturn, 1) := by decide +kernel
theorem dX9_code_51 : decode cX9_code 51 = .ok (.iload 4, 2) := by decide +kernel
theorem dX9_code_53 : decode cX9_code 53 = .ok (.iconst (-1), 1) := by decide +kernel
theorem dX9_code_54 : decode cX9_code 54 = .ok (.if_icmp .ne 13, 3) := by decide +kernel
theorem dX9_code_57 : decode cX9_code 57 = .ok (.aload_n 0, 1) := by decide +kernel
theorem dX9_code_58 : decode cX9_code 58 = .ok (.getfield 54, 3) := by decide +kernel
theorem dX9_code_61 : decode cX9_code 61 = .ok (.invokevirtual 198, 3) := by decide +kernel
theorem dX9_code_64 : decode cX9_code 64 = .ok (.goto 12, 3) := by decide +kernel
theorem dX9_code_67 : decode cX9_code 67 = .ok (.aload_n 0, 1) := by decide +kernel
theorem dX9_code_68 : decode cX9_code 68 = .ok (.getfield 54, 3) := by decide +kernel
theorem dX9_code_71 : decode cX9_code 71 = .ok (.iload 4, 2) := by decide +kernel
theorem dX9_code_73 : decode cX9_code 73 = .ok (.invokevirtual 201, 3) := by decide +kernel
theorem dX9_code_76 : decode cX9_code 76 = .ok (.ireturn, 1) := by decide +kernel
theorem dX9_sent_0 : decode cX9_sent 0 = .ok (.aload_n 0, 1) := by decide +kernel
theorem dX9_sent_1 : decode cX9_sent 1 = .ok (.iload_n 1, 1) := by decide +kernel
theorem dX9_sent_2 : decode cX9_sent 2 = .ok (.invokevirtual 100, 3) := by decide +kernel
theorem dX9_sent_5 : decode cX9_sent 5 = .ok (.ifCond .eq 26, 3) := by decide +kernel
theorem dX9_sent_8 : decode cX9_sent 8 = .ok (.aload_n 0, 1) := by decide +kernel
theorem dX9_sent_9 : decode cX9_sent 9 = .ok (.iload_n 2, 1) := by decide +kernel
theorem dX9_sent_10 : decode cX9_sent 10 = .ok (.invokevirtual 204, 3) := by decide +kernel
theorem dX9_sent_13 : decode cX9_sent 13 = .ok (.ifCond .eq 18, 3) := by decide +kernel
theorem dX9_sent_16 : decode cX9_sent 16 = .ok (.iload_n 3, 1) := by decide +kernel
theorem dX9_sent_17 : decode cX9_sent 17 = .ok (.invokestatic 207, 3) := by decide +kernel
theorem dX9_sent_20 : decode cX9_sent 20 = .ok (.ifCond .eq 11, 3) := by decide +kernel
theorem dX9_sent_23 : decode cX9_sent 23 = .ok (.iload 4, 2) := by decide +kernel
theorem dX9_sent_25 : decode cX9_sent 25 = .ok (.invokestatic 210, 3) := by decide +kernel
theorem dX9_sent_28 : decode cX9_sent 28 = .ok (.ifCond .ne 5, 3) := by decide +kernel
theorem dX9_sent_31 : decode cX9_sent 31 = .ok (.iconst (-1), 1) := by decide +kernel
theorem dX9_sent_32 : decode cX9_sent 32 = .ok (.ireturn, 1) := by decide +kernel
theorem dX9_sent_33 : decode cX9_sent 33 = .ok (.ldc2_w 213, 3) := by decide +kernel
theorem dX9_sent_36 : decode cX9_sent 36 = .ok (.aload_n 0, 1) := by decide +kernel
theorem dX9_sent_37 : decode cX9_sent 37 = .ok (.getfield 61, 3) := by decide +kernel
theorem dX9_sent_40 : decode cX9_sent 40 = .ok (.iload_n 2, 1) := by decide +kernel
theorem dX9_sent_41 : decode cX9_sent 41 = .ok (.invokevirtual 215, 3) := by decide +kernel
theorem dX9_sent_44 : decode cX9_sent 44 = .ok (.invokestatic 218, 3) := by decide +kernel
theorem dX9_sent_47 : decode cX9_sent 47 = .ok (.lstore 5, 2) := by decide +kernel
theorem dX9_sent_49 : decode cX9_sent 49 = .ok (.aload_n 0, 1) := by decide +kernel
theorem dX9_sent_50 : decode cX9_sent 50 = .ok (.getfield 61, 3) := by decide +kernel
theorem dX9_sent_53 : decode cX9_sent 53 = .ok (.iload_n 1, 1) := by decide +kernel
theorem dX9_sent_54 : decode cX9_sent 54 = .ok (.iload_n 2, 1) := by decide +kernel
theorem dX9_sent_55 : decode cX9_sent 55 = .ok (.iload_n 3, 1) := by decide +kernel
theorem dX9_sent_56 : decode cX9_sent 56 = .ok (.invokevirtual 224, 3) := by decide +kernel
theorem dX9_sent_59 : decode cX9_sent 59 = .ok (.lload 5, 2) := by decide +kernel
theorem dX9_sent_61 : decode cX9_sent 61 = .ok (.iload 4, 2) := by decide +kernel
theorem dX9_sent_63 : decode cX9_sent 63 = .ok (.invokestatic 228, 3) := by decide +kernel
theorem dX9_sent_66 : decode cX9_sent 66 = .ok (.l2i, 1) := by decide +kernel
theorem dX9_sent_67 : decode cX9_sent 67 = .ok (.ireturn, 1) := by decide +kernel
theorem dX9_whom_0 : decode cX9_whom 0 = .ok (.aload_n 0, 1) := by decide +kernel
theorem dX9_whom_1 : decode cX9_whom 1 = .ok (.iload_n 1, 1) := by decide +kernel
theorem dX9_whom_2 : decode cX9_whom 2 = .ok (.invokevirtual 100, 3) := by decide +kernel
theorem dX9_whom_5 : decode cX9_whom 5 = .ok (.ifCond .eq 10, 3) := by decide +kernel
theorem dX9_whom_8 : decode cX9_whom 8 = .ok (.iload_n 2, 1) := by decide +kernel
theorem dX9_whom_9 : decode cX9_whom 9 = .ok (.invokestatic 207, 3) := by decide +kernel
theorem dX9_whom_12 : decode cX9_whom 12 = .ok (.ifCond .ne 5, 3) := by decide +kernel
theorem dX9_whom_15 : decode cX9_whom 15 = .ok (.iconst (-1), 1) := by decide +kernel
theorem dX9_whom_16 : decode cX9_whom 16 = .ok (.ireturn, 1) := by decide +kernel
theorem dX9_whom_17 : decode cX9_whom 17 = .ok (.bipush (-4), 2) := by decide +kernel
theorem dX9_whom_19 : decode cX9_whom 19 = .ok (.istore_n 3, 1) := by decide +kernel
theorem dX9_whom_20 : decode cX9_whom 20 = .ok (.ldc2_w 232, 3) := by decide +kernel
theorem dX9_whom_23 : decode cX9_whom 23 = .ok (.lstore 4, 2) := by decide +kernel
theorem dX9_whom_25 : decode cX9_whom 25 = .ok (.iconst 0, 1) := by decide +kernel
theorem dX9_whom_26 : decode cX9_whom 26 = .ok (.istore 6, 2) := by decide +kernel
theorem dX9_whom_28 : decode cX9_whom 28 = .ok (.iload 6, 2) := by decide +kernel
theorem dX9_whom_30 : decode cX9_whom 30 = .ok (.aload_n 0, 1) := by decide +kernel
theorem dX9_whom_31 : decode cX9_whom 31 = .ok (.getfield 61, 3) := by decide +kernel
theorem dX9_whom_34 : decode cX9_whom 34 = .ok (.invokevirtual 234, 3) := by decide +kernel
theorem dX9_whom_37 : decode cX9_whom 37 = .ok (.if_icmp .ge 60, 3) := by decide +kernel
theorem dX9_whom_40 : decode cX9_whom 40 = .ok (.ldc2_w 213, 3) := by decide +kernel
theorem dX9_whom_43 : decode cX9_whom 43 = .ok (.bipush 6, 2) := by decide +kernel
theorem dX9_whom_45 : decode cX9_whom 45 = .ok (.aload_n 0, 1) := by decide +kernel
theorem dX9_whom_46 : decode cX9_whom 46 = .ok (.getfield 61, 3) := by decide +kernel
theorem dX9_whom_49 : decode cX9_whom 49 = .ok (.iload 6, 2) := by decide +kernel
theorem dX9_whom_51 : decode cX9_whom 51 = .ok (.invokevirtual 215, 3) := by decide +kernel
theorem dX9_whom_54 : decode cX9_whom 54 = .ok (.isub, 1) := by decide +kernel
theorem dX9_whom_55 : decode cX9_whom 55 = .ok (.invokestatic 218, 3) := by decide +kernel
theorem dX9_whom_58 : decode cX9_whom 58 = .ok (.lstore 7, 2) := by decide +kernel
theorem dX9_whom_60 : decode cX9_whom 60 = .ok (.aload_n 0, 1) := by decide +kernel
theorem dX9_whom_61 : decode cX9_whom 61 = .ok (.getfield 61, 3) := by decide +kernel
theorem dX9_whom_64 : decode cX9_whom 64 = .ok (.iload_n 1, 1) := by decide +kernel
theorem dX9_whom_65 : decode cX9_whom 65 = .ok (.iload 6, 2) := by decide +kernel
theorem dX9_whom_67 : decode cX9_whom 67 = .ok (.iload_n 2, 1) := by decide +kernel
theorem dX9_whom_68 : decode cX9_whom 68 = .ok (.invokevirtual 224, 3) := by decide +kernel
theorem dX9_whom_71 : decode cX9_whom 71 = .ok (.lload 7, 2) := by decide +kernel
theorem dX9_whom_73 : decode cX9_whom 73 = .ok (.lmul, 1) := by decide +kernel
theorem dX9_whom_74 : decode cX9_whom 74 = .ok (.lstore 9, 2) := by decide +kernel
theorem dX9_whom_76 : decode cX9_whom 76 = .ok (.lload 9, 2) := by decide +kernel
theorem dX9_whom_78 : decode cX9_whom 78 = .ok (.lload 4, 2) := by decide +kernel
theorem dX9_whom_80 : decode cX9_whom 80 = .ok (.lcmp, 1) := by decide +kernel
theorem dX9_whom_81 : decode cX9_whom 81 = .ok (.ifCond .le 10, 3) := by decide +kernel
theorem dX9_whom_84 : decode cX9_whom 84 = .ok (.lload 9, 2) := by decide +kernel
theorem dX9_whom_86 : decode cX9_whom 86 = .ok (.lstore 4, 2) := by decide +kernel
theorem dX9_whom_88 : decode cX9_whom 88 = .ok (.iload 6, 2) := by decide +kernel
theorem dX9_whom_90 : decode cX9_whom 90 = .ok (.istore_n 3, 1) := by decide +kernel
theorem dX9_whom_91 : decode cX9_whom 91 = .ok (.iinc 6 1, 3) := by decide +kernel
theorem dX9_whom_94 : decode cX9_whom 94 = .ok (.goto (-66), 3) := by decide +kernel
theorem dX9_whom_97 : decode cX9_whom 97 = .ok (.iload_n 3, 1) := by decide +kernel
theorem dX9_whom_98 : decode cX9_whom 98 = .ok (.ireturn, 1) := by decide +kernel
theorem dX9_two_0 : decode cX9_two 0 = .ok (.aload_n 0, 1) := by decide +kernel
theorem dX9_two_1 : decode cX9_two 1 = .ok (.iload_n 1, 1) := by decide +kernel
theorem dX9_two_2 : decode cX9_two 2 = .ok (.invokevirtual 100, 3) := by decide +kernel
theorem dX9_two_5 : decode cX9_two 5 = .ok (.ifCond .eq 40, 3) := by decide +kernel
theorem dX9_two_8 : decode cX9_two 8 = .ok (.aload_n 0, 1) := by decide +kernel
theorem dX9_two_9 : decode cX9_two 9 = .ok (.iload_n 2, 1) := by decide +kernel
theorem dX9_two_10 : decode cX9_two 10 = .ok (.invokevirtual 204, 3) := by decide +kernel
theorem dX9_two_13 : decode cX9_two 13 = .ok (.ifCond .eq 32, 3) := by decide +kernel
theorem dX9_two_16 : decode cX9_two 16 = .ok (.aload_n 0, 1) := by decide +kernel
theorem dX9_two_17 : decode cX9_two 17 = .ok (.iload_n 3, 1) := by decide +kernel
theorem dX9_two_18 : decode cX9_two 18 = .ok (.invokevirtual 204, 3) := by decide +kernel
theorem dX9_two_21 : decode cX9_two 21 = .ok (.ifCond .eq 24, 3) := by decide +kernel
theorem dX9_two_24 : decode cX9_two 24 = .ok (.iload_n 2, 1) := by decide +kernel
theorem dX9_two_25 : decode cX9_two 25 = .ok (.iload_n 3, 1) := by decide +kernel
theorem dX9_two_26 : decode cX9_two 26 = .ok (.if_icmp .eq 19, 3) := by decide +kernel
theorem dX9_two_29 : decode cX9_two 29 = .ok (.iload 4, 2) := by decide +kernel
theorem dX9_two_31 : decode cX9_two 31 = .ok (.invokestatic 207, 3) := by decide +kernel
theorem dX9_two_34 : decode cX9_two 34 = .ok (.ifCond .eq 11, 3) := by decide +kernel
theorem dX9_two_37 : decode cX9_two 37 = .ok (.iload 5, 2) := by decide +kernel
theorem dX9_two_39 : decode cX9_two 39 = .ok (.invokestatic 210, 3) := by decide +kernel
theorem dX9_two_42 : decode cX9_two 42 = .ok (.ifCond .ne 7, 3) := by decide +kernel
theorem dX9_two_45 : decode cX9_two 45 = .ok (.ldc2_w 232, 3) := by decide +kernel
theorem dX9_two_48 : decode cX9_two 48 = .ok (.lreturn, 1) := by decide +kernel
theorem dX9_two_49 : decode cX9_two 49 = .ok (.ldc2_w 213, 3) := by decide +kernel
theorem dX9_two_52 : decode cX9_two 52 = .ok (.aload_n 0, 1) := by decide +kernel
theorem dX9_two_53 : decode cX9_two 53 = .ok (.getfield 61, 3) := by decide +kernel
theorem dX9_two_56 : decode cX9_two 56 = .ok (.iload_n 2, 1) := by decide +kernel
theorem dX9_two_57 : decode cX9_two 57 = .ok (.invokevirtual 215, 3) := by decide +kernel
theorem dX9_two_60 : decode cX9_two 60 = .ok (.invokestatic 218, 3) := by decide +kernel
theorem dX9_two_63 : decode cX9_two 63 = .ok (.lstore 6, 2) := by decide +kernel
theorem dX9_two_65 : decode cX9_two 65 = .ok (.ldc2_w 213, 3) := by decide +kernel
theorem dX9_two_68 : decode cX9_two 68 = .ok (.aload_n 0, 1) := by decide +kernel
theorem dX9_two_69 : decode cX9_two 69 = .ok (.getfield 61, 3) := by decide +kernel
theorem dX9_two_72 : decode cX9_two 72 = .ok (.iload_n 3, 1) := by decide +kernel
theorem dX9_two_73 : decode cX9_two 73 = .ok (.invokevirtual 215, 3) := by decide +kernel
theorem dX9_two_76 : decode cX9_two 76 = .ok (.invokestatic 218, 3) := by decide +kernel
theorem dX9_two_79 : decode cX9_two 79 = .ok (.lstore 8, 2) := by decide +kernel
theorem dX9_two_81 : decode cX9_two 81 = .ok (.lload 6, 2) := by decide +kernel
theorem dX9_two_83 : decode cX9_two 83 = .ok (.aload_n 0, 1) := by decide +kernel
theorem dX9_two_84 : decode cX9_two 84 = .ok (.getfield 61, 3) := by decide +kernel
theorem dX9_two_87 : decode cX9_two 87 = .ok (.iload_n 1, 1) := by decide +kernel
theorem dX9_two_88 : decode cX9_two 88 = .ok (.iload_n 2, 1) := by decide +kernel
theorem dX9_two_89 : decode cX9_two 89 = .ok (.iload 4, 2) := by decide +kernel
theorem dX9_two_91 : decode cX9_two 91 = .ok (.invokevirtual 224, 3) := by decide +kernel
theorem dX9_two_94 : decode cX9_two 94 = .ok (.lsub, 1) := by decide +kernel
theorem dX9_two_95 : decode cX9_two 95 = .ok (.lload 8, 2) := by decide +kernel
theorem dX9_two_97 : decode cX9_two 97 = .ok (.aload_n 0, 1) := by decide +kernel
theorem dX9_two_98 : decode cX9_two 98 = .ok (.getfield 61, 3) := by decide +kernel
theorem dX9_two_101 : decode cX9_two 101 = .ok (.iload_n 1, 1) := by decide +kernel
theorem dX9_two_102 : decode cX9_two 102 = .ok (.iload_n 3, 1) := by decide +kernel
theorem dX9_two_103 : decode cX9_two 103 = .ok (.iload 4, 2) := by decide +kernel
theorem dX9_two_105 : decode cX9_two 105 = .ok (.invokevirtual 224, 3) := by decide +kernel
theorem dX9_two_108 : decode cX9_two 108 = .ok (.lsub, 1) := by decide +kernel
theorem dX9_two_109 : decode cX9_two 109 = .ok (.lmul, 1) := by decide +kernel
theorem dX9_two_110 : decode cX9_two 110 = .ok (.lstore 10, 2) := by decide +kernel
theorem dX9_two_112 : decode cX9_two 112 = .ok (.lload 6, 2) := by decide +kernel
theorem dX9_two_114 : decode cX9_two 114 = .ok (.lload 8, 2) := by decide +kernel
theorem dX9_two_116 : decode cX9_two 116 = .ok (.lmul, 1) := by decide +kernel
theorem dX9_two_117 : decode cX9_two 117 = .ok (.lstore 12, 2) := by decide +kernel
theorem dX9_two_119 : decode cX9_two 119 = .ok (.lload 12, 2) := by decide +kernel
theorem dX9_two_121 : decode cX9_two 121 = .ok (.lload 10, 2) := by decide +kernel
theorem dX9_two_123 : decode cX9_two 123 = .ok (.lsub, 1) := by decide +kernel
theorem dX9_two_124 : decode cX9_two 124 = .ok (.lload 12, 2) := by decide +kernel
theorem dX9_two_126 : decode cX9_two 126 = .ok (.iload 5, 2) := by decide +kernel
theorem dX9_two_128 : decode cX9_two 128 = .ok (.invokestatic 228, 3) := by decide +kernel
theorem dX9_two_131 : decode cX9_two 131 = .ok (.lreturn, 1) := by decide +kernel
theorem dX9_said_0 : decode cX9_said 0 = .ok (.iload_n 1, 1) := by decide +kernel
theorem dX9_said_1 : decode cX9_said 1 = .ok (.iconst 0, 1) := by decide +kernel
theorem dX9_said_2 : decode cX9_said 2 = .ok (.bipush 99, 2) := by decide +kernel
theorem dX9_said_4 : decode cX9_said 4 = .ok (.invokestatic 72, 3) := by decide +kernel
theorem dX9_said_7 : decode cX9_said 7 = .ok (.ifCond .eq 10, 3) := by decide +kernel
theorem dX9_said_10 : decode cX9_said 10 = .ok (.iload_n 2, 1) := by decide +kernel
theorem dX9_said_11 : decode cX9_said 11 = .ok (.invokestatic 210, 3) := by decide +kernel
theorem dX9_said_14 : decode cX9_said 14 = .ok (.ifCond .ne 5, 3) := by decide +kernel
theorem dX9_said_17 : decode cX9_said 17 = .ok (.iconst (-1), 1) := by decide +kernel
theorem dX9_said_18 : decode cX9_said 18 = .ok (.ireturn, 1) := by decide +kernel
theorem dX9_said_19 : decode cX9_said 19 = .ok (.iconst 0, 1) := by decide +kernel
theorem dX9_said_20 : decode cX9_said 20 = .ok (.istore_n 3, 1) := by decide +kernel
theorem dX9_said_21 : decode cX9_said 21 = .ok (.iconst 0, 1) := by decide +kernel
theorem dX9_said_22 : decode cX9_said 22 = .ok (.istore 4, 2) := by decide +kernel
theorem dX9_said_24 : decode cX9_said 24 = .ok (.iconst 1, 1) := by decide +kernel
theorem dX9_said_25 : decode cX9_said 25 = .ok (.istore 5, 2) := by decide +kernel
theorem dX9_said_27 : decode cX9_said 27 = .ok (.iload 5, 2) := by decide +kernel
theorem dX9_said_29 : decode cX9_said 29 = .ok (.iconst 1, 1) := by decide +kernel
theorem dX9_said_30 : decode cX9_said 30 = .ok (.aload_n 0, 1) := by decide +kernel
theorem dX9_said_31 : decode cX9_said 31 = .ok (.getfield 61, 3) := by decide +kernel
theorem dX9_said_34 : decode cX9_said 34 = .ok (.invokevirtual 95, 3) := by decide +kernel
theorem dX9_said_37 : decode cX9_said 37 = .ok (.ishl, 1) := by decide +kernel
theorem dX9_said_38 : decode cX9_said 38 = .ok (.if_icmp .ge 47, 3) := by decide +kernel
theorem dX9_said_41 : decode cX9_said 41 = .ok (.aload_n 0, 1) := by decide +kernel
theorem dX9_said_42 : decode cX9_said 42 = .ok (.getfield 61, 3) := by decide +kernel
theorem dX9_said_45 : decode cX9_said 45 = .ok (.iload 5, 2) := by decide +kernel
theorem dX9_said_47 : decode cX9_said 47 = .ok (.invokevirtual 237, 3) := by decide +kernel
theorem dX9_said_50 : decode cX9_said 50 = .ok (.istore 6, 2) := by decide +kernel
theorem dX9_said_52 : decode cX9_said 52 = .ok (.iload 6, 2) := by decide +kernel
theorem dX9_said_54 : decode cX9_said 54 = .ok (.iload 4, 2) := by decide +kernel
theorem dX9_said_56 : decode cX9_said 56 = .ok (.if_icmp .le 23, 3) := by decide +kernel
theorem dX9_said_59 : decode cX9_said 59 = .ok (.aload_n 0, 1) := by decide +kernel
theorem dX9_said_60 : decode cX9_said 60 = .ok (.getfield 61, 3) := by decide +kernel
theorem dX9_said_63 : decode cX9_said 63 = .ok (.iload 5, 2) := by decide +kernel
theorem dX9_said_65 : decode cX9_said 65 = .ok (.invokevirtual 240, 3) := by decide +kernel
theorem dX9_said_68 : decode cX9_said 68 = .ok (.iload_n 1, 1) := by decide +kernel
theorem dX9_said_69 : decode cX9_said 69 = .ok (.if_icmp .gt 10, 3) := by decide +kernel
theorem dX9_said_72 : decode cX9_said 72 = .ok (.iload 6, 2) := by decide +kernel
theorem dX9_said_74 : decode cX9_said 74 = .ok (.istore 4, 2) := by decide +kernel
theorem dX9_said_76 : decode cX9_said 76 = .ok (.iload 5, 2) := by decide +kernel
theorem dX9_said_78 : decode cX9_said 78 = .ok (.istore_n 3, 1) := by decide +kernel
theorem dX9_said_79 : decode cX9_said 79 = .ok (.iinc 5 1, 3) := by decide +kernel
theorem dX9_said_82 : decode cX9_said 82 = .ok (.goto (-55), 3) := by decide +kernel
theorem dX9_said_85 : decode cX9_said 85 = .ok (.iload_n 2, 1) := by decide +kernel
theorem dX9_said_86 : decode cX9_said 86 = .ok (.ifCond .ne 7, 3) := by decide +kernel
theorem dX9_said_89 : decode cX9_said 89 = .ok (.iload_n 3, 1) := by decide +kernel
theorem dX9_said_90 : decode cX9_said 90 = .ok (.goto 5, 3) := by decide +kernel
theorem dX9_said_93 : decode cX9_said 93 = .ok (.iload 4, 2) := by decide +kernel
theorem dX9_said_95 : decode cX9_said 95 = .ok (.ireturn, 1) := by decide +kernel
theorem dX9_told_0 : decode cX9_told 0 = .ok (.iload_n 1, 1) := by decide +kernel
theorem dX9_told_1 : decode cX9_told 1 = .ok (.iconst 0, 1) := by decide +kernel
theorem dX9_told_2 : decode cX9_told 2 = .ok (.bipush 63, 2) := by decide +kernel
theorem dX9_told_4 : decode cX9_told 4 = .ok (.invokestatic 72, 3) := by decide +kernel
theorem dX9_told_7 : decode cX9_told 7 = .ok (.ifCond .eq 10, 3) := by decide +kernel
theorem dX9_told_10 : decode cX9_told 10 = .ok (.iload_n 2, 1) := by decide +kernel
theorem dX9_told_11 : decode cX9_told 11 = .ok (.invokestatic 210, 3) := by decide +kernel
theorem dX9_told_14 : decode cX9_told 14 = .ok (.ifCond .ne 5, 3) := by decide +kernel
theorem dX9_told_17 : decode cX9_told 17 = .ok (.iconst (-1), 1) := by decide +kernel
theorem dX9_told_18 : decode cX9_told 18 = .ok (.ireturn, 1) := by decide +kernel
theorem dX9_told_19 : decode cX9_told 19 = .ok (.aload_n 0, 1) := by decide +kernel
theorem dX9_told_20 : decode cX9_told 20 = .ok (.getfield 61, 3) := by decide +kernel
theorem dX9_told_23 : decode cX9_told 23 = .ok (.iload_n 1, 1) := by decide +kernel
theorem dX9_told_24 : decode cX9_told 24 = .ok (.invokevirtual 243, 3) := by decide +kernel
theorem dX9_told_27 : decode cX9_told 27 = .ok (.istore_n 3, 1) := by decide +kernel
theorem dX9_told_28 : decode cX9_told 28 = .ok (.iload_n 2, 1) := by decide +kernel
theorem dX9_told_29 : decode cX9_told 29 = .ok (.ifCond .ne 5, 3) := by decide +kernel
theorem dX9_told_32 : decode cX9_told 32 = .ok (.iload_n 3, 1) := by decide +kernel
theorem dX9_told_33 : decode cX9_told 33 = .ok (.ireturn, 1) := by decide +kernel
theorem dX9_told_34 : decode cX9_told 34 = .ok (.iload_n 3, 1) := by decide +kernel
theorem dX9_told_35 : decode cX9_told 35 = .ok (.invokestatic 246, 3) := by decide +kernel
theorem dX9_told_38 : decode cX9_told 38 = .ok (.iconst 1, 1) := by decide +kernel
theorem dX9_told_39 : decode cX9_told 39 = .ok (.if_icmp .ne 10, 3) := by decide +kernel
theorem dX9_told_42 : decode cX9_told 42 = .ok (.iload_n 3, 1) := by decide +kernel
theorem dX9_told_43 : decode cX9_told 43 = .ok (.invokestatic 251, 3) := by decide +kernel
theorem dX9_told_46 : decode cX9_told 46 = .ok (.goto 5, 3) := by decide +kernel
theorem dX9_told_49 : decode cX9_told 49 = .ok (.bipush (-4), 2) := by decide +kernel
theorem dX9_told_51 : decode cX9_told 51 = .ok (.ireturn, 1) := by decide +kernel
theorem dX9_month_0 : decode cX9_month 0 = .ok (.iload_n 1, 1) := by decide +kernel
theorem dX9_month_1 : decode cX9_month 1 = .ok (.iconst 0, 1) := by decide +kernel
theorem dX9_month_2 : decode cX9_month 2 = .ok (.sipush 9999, 3) := by decide +kernel
theorem dX9_month_5 : decode cX9_month 5 = .ok (.invokestatic 72, 3) := by decide +kernel
theorem dX9_month_8 : decode cX9_month 8 = .ok (.ifCond .eq 20, 3) := by decide +kernel
theorem dX9_month_11 : decode cX9_month 11 = .ok (.iload_n 2, 1) := by decide +kernel
theorem dX9_month_12 : decode cX9_month 12 = .ok (.iconst 1, 1) := by decide +kernel
theorem dX9_month_13 : decode cX9_month 13 = .ok (.bipush 30, 2) := by decide +kernel
theorem dX9_month_15 : decode cX9_month 15 = .ok (.invokestatic 72, 3) := by decide +kernel
theorem dX9_month_18 : decode cX9_month 18 = .ok (.ifCond .eq 10, 3) := by decide +kernel
theorem dX9_month_21 : decode cX9_month 21 = .ok (.iload_n 3, 1) := by decide +kernel
theorem dX9_month_22 : decode cX9_month 22 = .ok (.invokestatic 210, 3) := by decide +kernel
theorem dX9_month_25 : decode cX9_month 25 = .ok (.ifCond .ne 5, 3) := by decide +kernel
theorem dX9_month_28 : decode cX9_month 28 = .ok (.iconst (-1), 1) := by decide +kernel
theorem dX9_month_29 : decode cX9_month 29 = .ok (.ireturn, 1) := by decide +kernel
theorem dX9_month_30 : decode cX9_month 30 = .ok (.aload_n 0, 1) := by decide +kernel
theorem dX9_month_31 : decode cX9_month 31 = .ok (.getfield 61, 3) := by decide +kernel
theorem dX9_month_34 : decode cX9_month 34 = .ok (.invokevirtual 95, 3) := by decide +kernel
theorem dX9_month_37 : decode cX9_month 37 = .ok (.istore 4, 2) := by decide +kernel
theorem dX9_month_39 : decode cX9_month 39 = .ok (.iconst 0, 1) := by decide +kernel
theorem dX9_month_40 : decode cX9_month 40 = .ok (.istore 5, 2) := by decide +kernel
theorem dX9_month_42 : decode cX9_month 42 = .ok (.iconst 0, 1) := by decide +kernel
theorem dX9_month_43 : decode cX9_month 43 = .ok (.istore 6, 2) := by decide +kernel
theorem dX9_month_45 : decode cX9_month 45 = .ok (.iload 6, 2) := by decide +kernel
theorem dX9_month_47 : decode cX9_month 47 = .ok (.iload_n 2, 1) := by decide +kernel
theorem dX9_month_48 : decode cX9_month 48 = .ok (.if_icmp .ge 105, 3) := by decide +kernel
theorem dX9_month_51 : decode cX9_month 51 = .ok (.iload_n 1, 1) := by decide +kernel
theorem dX9_month_52 : decode cX9_month 52 = .ok (.iload 6, 2) := by decide +kernel
theorem dX9_month_54 : decode cX9_month 54 = .ok (.invokestatic 254, 3) := by decide +kernel
theorem dX9_month_57 : decode cX9_month 57 = .ok (.istore 7, 2) := by decide +kernel
theorem dX9_month_59 : decode cX9_month 59 = .ok (.iload 4, 2) := by decide +kernel
theorem dX9_month_61 : decode cX9_month 61 = .ok (.ifCond .le 11, 3) := by decide +kernel
theorem dX9_month_64 : decode cX9_month 64 = .ok (.iload 7, 2) := by decide +kernel
theorem dX9_month_66 : decode cX9_month 66 = .ok (.iload 4, 2) := by decide +kernel
theorem dX9_month_68 : decode cX9_month 68 = .ok (.irem, 1) := by decide +kernel
theorem dX9_month_69 : decode cX9_month 69 = .ok (.goto 4, 3) := by decide +kernel
theorem dX9_month_72 : decode cX9_month 72 = .ok (.iconst 0, 1) := by decide +kernel
theorem dX9_month_73 : decode cX9_month 73 = .ok (.istore 8, 2) := by decide +kernel
theorem dX9_month_75 : decode cX9_month 75 = .ok (.aload_n 0, 1) := by decide +kernel
theorem dX9_month_76 : decode cX9_month 76 = .ok (.getfield 61, 3) := by decide +kernel
theorem dX9_month_79 : decode cX9_month 79 = .ok (.aload_n 0, 1) := by decide +kernel
theorem dX9_month_80 : decode cX9_month 80 = .ok (.getfield 61, 3) := by decide +kernel
theorem dX9_month_83 : decode cX9_month 83 = .ok (.aload_n 0, 1) := by decide +kernel
theorem dX9_month_84 : decode cX9_month 84 = .ok (.getfield 61, 3) := by decide +kernel
theorem dX9_month_87 : decode cX9_month 87 = .ok (.iload 8, 2) := by decide +kernel
theorem dX9_month_89 : decode cX9_month 89 = .ok (.invokevirtual 103, 3) := by decide +kernel
theorem dX9_month_92 : decode cX9_month 92 = .ok (.iload 7, 2) := by decide +kernel
theorem dX9_month_94 : decode cX9_month 94 = .ok (.bipush 16, 2) := by decide +kernel
theorem dX9_month_96 : decode cX9_month 96 = .ok (.idiv, 1) := by decide +kernel
theorem dX9_month_97 : decode cX9_month 97 = .ok (.bipush 7, 2) := by decide +kernel
theorem dX9_month_99 : decode cX9_month 99 = .ok (.irem, 1) := by decide +kernel
theorem dX9_month_100 : decode cX9_month 100 = .ok (.iload 7, 2) := by decide +kernel
theorem dX9_month_102 : decode cX9_month 102 = .ok (.sipush 256, 3) := by decide +kernel
theorem dX9_month_105 : decode cX9_month 105 = .ok (.idiv, 1) := by decide +kernel
theorem dX9_month_106 : decode cX9_month 106 = .ok (.iconst 3, 1) := by decide +kernel
theorem dX9_month_107 : decode cX9_month 107 = .ok (.irem, 1) := by decide +kernel
theorem dX9_month_108 : decode cX9_month 108 = .ok (.invokevirtual 172, 3) := by decide +kernel
theorem dX9_month_111 : decode cX9_month 111 = .ok (.invokevirtual 257, 3) := by decide +kernel
theorem dX9_month_114 : decode cX9_month 114 = .ok (.istore 9, 2) := by decide +kernel
theorem dX9_month_116 : decode cX9_month 116 = .ok (.iload_n 3, 1) := by decide +kernel
theorem dX9_month_117 : decode cX9_month 117 = .ok (.ifCond .ne 13, 3) := by decide +kernel
theorem dX9_month_120 : decode cX9_month 120 = .ok (.iload 9, 2) := by decide +kernel
theorem dX9_month_122 : decode cX9_month 122 = .ok (.iload 8, 2) := by decide +kernel
theorem dX9_month_124 : decode cX9_month 124 = .ok (.if_icmp .ne 23, 3) := by decide +kernel
theorem dX9_month_127 : decode cX9_month 127 = .ok (.goto 17, 3) := by decide +kernel
theorem dX9_month_130 : decode cX9_month 130 = .ok (.iload 9, 2) := by decide +kernel
theorem dX9_month_132 : decode cX9_month 132 = .ok (.iload 8, 2) := by decide +kernel
theorem dX9_month_134 : decode cX9_month 134 = .ok (.if_icmp .eq 13, 3) := by decide +kernel
theorem dX9_month_137 : decode cX9_month 137 = .ok (.iload 9, 2) := by decide +kernel
theorem dX9_month_139 : decode cX9_month 139 = .ok (.bipush (-4), 2) := by decide +kernel
theorem dX9_month_141 : decode cX9_month 141 = .ok (.if_icmp .eq 6, 3) := by decide +kernel
theorem dX9_month_144 : decode cX9_month 144 = .ok (.iinc 5 1, 3) := by decide +kernel
theorem dX9_month_147 : decode cX9_month 147 = .ok (.iinc 6 1, 3) := by decide +kernel
theorem dX9_month_150 : decode cX9_month 150 = .ok (.goto (-105), 3) := by decide +kernel
theorem dX9_month_153 : decode cX9_month 153 = .ok (.iload 5, 2) := by decide +kernel
theorem dX9_month_155 : decode cX9_month 155 = .ok (.ireturn, 1) := by decide +kernel
theorem dX9_keep_0 : decode cX9_keep 0 = .ok (.aload_n 0, 1) := by decide +kernel
theorem dX9_keep_1 : decode cX9_keep 1 = .ok (.getfield 39, 3) := by decide +kernel
theorem dX9_keep_4 : decode cX9_keep 4 = .ok (.invokevirtual 260, 3) := by decide +kernel
theorem dX9_keep_7 : decode cX9_keep 7 = .ok (.ifCond .eq 6, 3) := by decide +kernel
theorem dX9_keep_10 : decode cX9_keep 10 = .ok (.bipush (-3), 2) := by decide +kernel
theorem dX9_keep_12 : decode cX9_keep 12 = .ok (.ireturn, 1) := by decide +kernel
theorem dX9_keep_13 : decode cX9_keep 13 = .ok (.aload_n 0, 1) := by decide +kernel
theorem dX9_keep_14 : decode cX9_keep 14 = .ok (.getfield 39, 3) := by decide +kernel
theorem dX9_keep_17 : decode cX9_keep 17 = .ok (.aload_n 0, 1) := by decide +kernel
theorem dX9_keep_18 : decode cX9_keep 18 = .ok (.getfield 26, 3) := by decide +kernel
theorem dX9_keep_21 : decode cX9_keep 21 = .ok (.invokevirtual 119, 3) := by decide +kernel
theorem dX9_keep_24 : decode cX9_keep 24 = .ok (.aload_n 0, 1) := by decide +kernel
theorem dX9_keep_25 : decode cX9_keep 25 = .ok (.getfield 39, 3) := by decide +kernel
theorem dX9_keep_28 : decode cX9_keep 28 = .ok (.invokevirtual 158, 3) := by decide +kernel
theorem dX9_keep_31 : decode cX9_keep 31 = .ok (.ireturn, 1) := by decide +kernel
theorem dX9_back_0 : decode cX9_back 0 = .ok (.aload_n 0, 1) := by decide +kernel
theorem dX9_back_1 : decode cX9_back 1 = .ok (.getfield 39, 3) := by decide +kernel
theorem dX9_back_4 : decode cX9_back 4 = .ok (.invokevirtual 158, 3) := by decide +kernel
theorem dX9_back_7 : decode cX9_back 7 = .ok (.ifCond .ne 6, 3) := by decide +kernel
theorem dX9_back_10 : decode cX9_back 10 = .ok (.bipush (-2), 2) := by decide +kernel
theorem dX9_back_12 : decode cX9_back 12 = .ok (.ireturn, 1) := by decide +kernel
theorem dX9_back_13 : decode cX9_back 13 = .ok (.aload_n 0, 1) := by decide +kernel
theorem dX9_back_14 : decode cX9_back 14 = .ok (.getfield 39, 3) := by decide +kernel
theorem dX9_back_17 : decode cX9_back 17 = .ok (.aload_n 0, 1) := by decide +kernel
theorem dX9_back_18 : decode cX9_back 18 = .ok (.getfield 26, 3) := by decide +kernel
theorem dX9_back_21 : decode cX9_back 21 = .ok (.invokevirtual 159, 3) := by decide +kernel
theorem dX9_back_24 : decode cX9_back 24 = .ok (.aload_n 0, 1) := by decide +kernel
theorem dX9_back_25 : decode cX9_back 25 = .ok (.getfield 35, 3) := by decide +kernel
theorem dX9_back_28 : decode cX9_back 28 = .ok (.invokevirtual 99, 3) := by decide +kernel
theorem dX9_back_31 : decode cX9_back 31 = .ok (.aload_n 0, 1) := by decide +kernel
theorem dX9_back_32 : decode cX9_back 32 = .ok (.getfield 39, 3) := by decide +kernel
theorem dX9_back_35 : decode cX9_back 35 = .ok (.invokevirtual 158, 3) := by decide +kernel
theorem dX9_back_38 : decode cX9_back 38 = .ok (.ireturn, 1) := by decide +kernel
theorem dX9_count_0 : decode cX9_count 0 = .ok (.iload_n 1, 1) := by decide +kernel
theorem dX9_count_1 : decode cX9_count 1 = .ok (.tableswitch 111 0 7 #[47, 55, 63, 71, 79, 87, 95, 103], 47) := by decide +kernel
theorem dX9_count_48 : decode cX9_count 48 = .ok (.aload_n 0, 1) := by decide +kernel
theorem dX9_count_49 : decode cX9_count 49 = .ok (.getfield 61, 3) := by decide +kernel
theorem dX9_count_52 : decode cX9_count 52 = .ok (.invokevirtual 95, 3) := by decide +kernel
theorem dX9_count_55 : decode cX9_count 55 = .ok (.ireturn, 1) := by decide +kernel
theorem dX9_count_56 : decode cX9_count 56 = .ok (.aload_n 0, 1) := by decide +kernel
theorem dX9_count_57 : decode cX9_count 57 = .ok (.getfield 61, 3) := by decide +kernel
theorem dX9_count_60 : decode cX9_count 60 = .ok (.invokevirtual 234, 3) := by decide +kernel
theorem dX9_count_63 : decode cX9_count 63 = .ok (.ireturn, 1) := by decide +kernel
theorem dX9_count_64 : decode cX9_count 64 = .ok (.aload_n 0, 1) := by decide +kernel
theorem dX9_count_65 : decode cX9_count 65 = .ok (.getfield 61, 3) := by decide +kernel
theorem dX9_count_68 : decode cX9_count 68 = .ok (.invokevirtual 261, 3) := by decide +kernel
theorem dX9_count_71 : decode cX9_count 71 = .ok (.ireturn, 1) := by decide +kernel
theorem dX9_count_72 : decode cX9_count 72 = .ok (.aload_n 0, 1) := by decide +kernel
theorem dX9_count_73 : decode cX9_count 73 = .ok (.getfield 26, 3) := by decide +kernel
theorem dX9_count_76 : decode cX9_count 76 = .ok (.invokevirtual 137, 3) := by decide +kernel
theorem dX9_count_79 : decode cX9_count 79 = .ok (.ireturn, 1) := by decide +kernel
theorem dX9_count_80 : decode cX9_count 80 = .ok (.aload_n 0, 1) := by decide +kernel
theorem dX9_count_81 : decode cX9_count 81 = .ok (.getfield 26, 3) := by decide +kernel
theorem dX9_count_84 : decode cX9_count 84 = .ok (.invokevirtual 264, 3) := by decide +kernel
theorem dX9_count_87 : decode cX9_count 87 = .ok (.ireturn, 1) := by decide +kernel
theorem dX9_count_88 : decode cX9_count 88 = .ok (.aload_n 0, 1) := by decide +kernel
theorem dX9_count_89 : decode cX9_count 89 = .ok (.getfield 35, 3) := by decide +kernel
theorem dX9_count_92 : decode cX9_count 92 = .ok (.invokevirtual 158, 3) := by decide +kernel
theorem dX9_count_95 : decode cX9_count 95 = .ok (.ireturn, 1) := by decide +kernel
theorem dX9_count_96 : decode cX9_count 96 = .ok (.aload_n 0, 1) := by decide +kernel
theorem dX9_count_97 : decode cX9_count 97 = .ok (.getfield 39, 3) := by decide +kernel
theorem dX9_count_100 : decode cX9_count 100 = .ok (.invokevirtual 158, 3) := by decide +kernel
theorem dX9_count_103 : decode cX9_count 103 = .ok (.ireturn, 1) := by decide +kernel
theorem dX9_count_104 : decode cX9_count 104 = .ok (.aload_n 0, 1) := by decide +kernel
theorem dX9_count_105 : decode cX9_count 105 = .ok (.getfield 10, 3) := by decide +kernel
theorem dX9_count_108 : decode cX9_count 108 = .ok (.invokevirtual 84, 3) := by decide +kernel
theorem dX9_count_111 : decode cX9_count 111 = .ok (.ireturn, 1) := by decide +kernel
theorem dX9_count_112 : decode cX9_count 112 = .ok (.iconst (-1), 1) := by decide +kernel
theorem dX9_count_113 : decode cX9_count 113 = .ok (.ireturn, 1) := by decide +kernel
theorem dX9_within_0 : decode cX9_within 0 = .ok (.iload_n 0, 1) := by decide +kernel
theorem dX9_within_1 : decode cX9_within 1 = .ok (.iload_n 1, 1) := by decide +kernel
theorem dX9_within_2 : decode cX9_within 2 = .ok (.if_icmp .lt 12, 3) := by decide +kernel
theorem dX9_within_5 : decode cX9_within 5 = .ok (.iload_n 0, 1) := by decide +kernel
theorem dX9_within_6 : decode cX9_within 6 = .ok (.iload_n 2, 1) := by decide +kernel
theorem dX9_within_7 : decode cX9_within 7 = .ok (.if_icmp .gt 7, 3) := by decide +kernel
theorem dX9_within_10 : decode cX9_within 10 = .ok (.iconst 1, 1) := by decide +kernel
theorem dX9_within_11 : decode cX9_within 11 = .ok (.goto 4, 3) := by decide +kernel
theorem dX9_within_14 : decode cX9_within 14 = .ok (.iconst 0, 1) := by decide +kernel
theorem dX9_within_15 : decode cX9_within 15 = .ok (.ireturn, 1) := by decide +kernel
theorem dX9_isSign_0 : decode cX9_isSign 0 = .ok (.iload_n 0, 1) := by decide +kernel
theorem dX9_isSign_1 : decode cX9_isSign 1 = .ok (.iconst 0, 1) := by decide +kernel
theorem dX9_isSign_2 : decode cX9_isSign 2 = .ok (.bipush 71, 2) := by decide +kernel
theorem dX9_isSign_4 : decode cX9_isSign 4 = .ok (.invokestatic 72, 3) := by decide +kernel
theorem dX9_isSign_7 : decode cX9_isSign 7 = .ok (.ireturn, 1) := by decide +kernel
theorem dX9_isAge_0 : decode cX9_isAge 0 = .ok (.iload_n 0, 1) := by decide +kernel
theorem dX9_isAge_1 : decode cX9_isAge 1 = .ok (.iconst 0, 1) := by decide +kernel
theorem dX9_isAge_2 : decode cX9_isAge 2 = .ok (.bipush 20, 2) := by decide +kernel
theorem dX9_isAge_4 : decode cX9_isAge 4 = .ok (.invokestatic 72, 3) := by decide +kernel
theorem dX9_isAge_7 : decode cX9_isAge 7 = .ok (.ireturn, 1) := by decide +kernel
theorem dX9_isLoss_0 : decode cX9_isLoss 0 = .ok (.iload_n 0, 1) := by decide +kernel
theorem dX9_isLoss_1 : decode cX9_isLoss 1 = .ok (.invokestatic 207, 3) := by decide +kernel
theorem dX9_isLoss_4 : decode cX9_isLoss 4 = .ok (.ifCond .eq 16, 3) := by decide +kernel
theorem dX9_isLoss_7 : decode cX9_isLoss 7 = .ok (.iload_n 1, 1) := by decide +kernel
theorem dX9_isLoss_8 : decode cX9_isLoss 8 = .ok (.iconst 0, 1) := by decide +kernel
theorem dX9_isLoss_9 : decode cX9_isLoss 9 = .ok (.iconst 3, 1) := by decide +kernel
theorem dX9_isLoss_10 : decode cX9_isLoss 10 = .ok (.invokestatic 72, 3) := by decide +kernel
theorem dX9_isLoss_13 : decode cX9_isLoss 13 = .ok (.ifCond .eq 7, 3) := by decide +kernel
theorem dX9_isLoss_16 : decode cX9_isLoss 16 = .ok (.iconst 1, 1) := by decide +kernel
theorem dX9_isLoss_17 : decode cX9_isLoss 17 = .ok (.goto 4, 3) := by decide +kernel
theorem dX9_isLoss_20 : decode cX9_isLoss 20 = .ok (.iconst 0, 1) := by decide +kernel
theorem dX9_isLoss_21 : decode cX9_isLoss 21 = .ok (.ireturn, 1) := by decide +kernel
theorem dX9_isChoice_0 : decode cX9_isChoice 0 = .ok (.iload_n 0, 1) := by decide +kernel
theorem dX9_isChoice_1 : decode cX9_isChoice 1 = .ok (.iconst 0, 1) := by decide +kernel
theorem dX9_isChoice_2 : decode cX9_isChoice 2 = .ok (.iconst 1, 1) := by decide +kernel
theorem dX9_isChoice_3 : decode cX9_isChoice 3 = .ok (.invokestatic 72, 3) := by decide +kernel
theorem dX9_isChoice_6 : decode cX9_isChoice 6 = .ok (.ireturn, 1) := by decide +kernel
theorem dX9_isWord_0 : decode cX9_isWord 0 = .ok (.iload_n 1, 1) := by decide +kernel
theorem dX9_isWord_1 : decode cX9_isWord 1 = .ok (.iconst 0, 1) := by decide +kernel
theorem dX9_isWord_2 : decode cX9_isWord 2 = .ok (.aload_n 0, 1) := by decide +kernel
theorem dX9_isWord_3 : decode cX9_isWord 3 = .ok (.getfield 61, 3) := by decide +kernel
theorem dX9_isWord_6 : decode cX9_isWord 6 = .ok (.invokevirtual 95, 3) := by decide +kernel
theorem dX9_isWord_9 : decode cX9_isWord 9 = .ok (.iconst 1, 1) := by decide +kernel
theorem dX9_isWord_10 : decode cX9_isWord 10 = .ok (.isub, 1) := by decide +kernel
theorem dX9_isWord_11 : decode cX9_isWord 11 = .ok (.invokestatic 72, 3) := by decide +kernel
theorem dX9_isWord_14 : decode cX9_isWord 14 = .ok (.ireturn, 1) := by decide +kernel
theorem dX9_isCarrier_0 : decode cX9_isCarrier 0 = .ok (.iload_n 1, 1) := by decide +kernel
theorem dX9_isCarrier_1 : decode cX9_isCarrier 1 = .ok (.iconst 0, 1) := by decide +kernel
theorem dX9_isCarrier_2 : decode cX9_isCarrier 2 = .ok (.aload_n 0, 1) := by decide +kernel
theorem dX9_isCarrier_3 : decode cX9_isCarrier 3 = .ok (.getfield 61, 3) := by decide +kernel
theorem dX9_isCarrier_6 : decode cX9_isCarrier 6 = .ok (.invokevirtual 234, 3) := by decide +kernel
theorem dX9_isCarrier_9 : decode cX9_isCarrier 9 = .ok (.iconst 1, 1) := by decide +kernel
theorem dX9_isCarrier_10 : decode cX9_isCarrier 10 = .ok (.isub, 1) := by decide +kernel
theorem dX9_isCarrier_11 : decode cX9_isCarrier 11 = .ok (.invokestatic 72, 3) := by decide +kernel
theorem dX9_isCarrier_14 : decode cX9_isCarrier 14 = .ok (.ireturn, 1) := by decide +kernel
theorem dX9_wordBehind_0 : decode cX9_wordBehind 0 = .ok (.iload_n 1, 1) := by decide +kernel
theorem dX9_wordBehind_1 : decode cX9_wordBehind 1 = .ok (.iconst 1, 1) := by decide +kernel
theorem dX9_wordBehind_2 : decode cX9_wordBehind 2 = .ok (.iadd, 1) := by decide +kernel
theorem dX9_wordBehind_3 : decode cX9_wordBehind 3 = .ok (.aload_n 0, 1) := by decide +kernel
theorem dX9_wordBehind_4 : decode cX9_wordBehind 4 = .ok (.getfield 61, 3) := by decide +kernel
theorem dX9_wordBehind_7 : decode cX9_wordBehind 7 = .ok (.invokevirtual 95, 3) := by decide +kernel
theorem dX9_wordBehind_10 : decode cX9_wordBehind 10 = .ok (.if_icmp .ge 9, 3) := by decide +kernel
theorem dX9_wordBehind_13 : decode cX9_wordBehind 13 = .ok (.iload_n 1, 1) := by decide +kernel
theorem dX9_wordBehind_14 : decode cX9_wordBehind 14 = .ok (.iconst 1, 1) := by decide +kernel
theorem dX9_wordBehind_15 : decode cX9_wordBehind 15 = .ok (.iadd, 1) := by decide +kernel
theorem dX9_wordBehind_16 : decode cX9_wordBehind 16 = .ok (.goto 4, 3) := by decide +kernel
theorem dX9_wordBehind_19 : decode cX9_wordBehind 19 = .ok (.iconst 0, 1) := by decide +kernel
theorem dX9_wordBehind_20 : decode cX9_wordBehind 20 = .ok (.ireturn, 1) := by decide +kernel
theorem dX9_flourOf_0 : decode cX9_flourOf 0 = .ok (.iload_n 0, 1) := by decide +kernel
theorem dX9_flourOf_1 : decode cX9_flourOf 1 = .ok (.invokestatic 110, 3) := by decide +kernel
theorem dX9_flourOf_4 : decode cX9_flourOf 4 = .ok (.istore_n 2, 1) := by decide +kernel
theorem dX9_flourOf_5 : decode cX9_flourOf 5 = .ok (.iload_n 1, 1) := by decide +kernel
theorem dX9_flourOf_6 : decode cX9_flourOf 6 = .ok (.iconst 1, 1) := by decide +kernel
theorem dX9_flourOf_7 : decode cX9_flourOf 7 = .ok (.if_icmp .ne 7, 3) := by decide +kernel
theorem dX9_flourOf_10 : decode cX9_flourOf 10 = .ok (.iconst 2, 1) := by decide +kernel
theorem dX9_flourOf_11 : decode cX9_flourOf 11 = .ok (.iload_n 2, 1) := by decide +kernel
theorem dX9_flourOf_12 : decode cX9_flourOf 12 = .ok (.imul, 1) := by decide +kernel
theorem dX9_flourOf_13 : decode cX9_flourOf 13 = .ok (.ireturn, 1) := by decide +kernel
theorem dX9_flourOf_14 : decode cX9_flourOf 14 = .ok (.iload_n 1, 1) := by decide +kernel
theorem dX9_flourOf_15 : decode cX9_flourOf 15 = .ok (.iconst 2, 1) := by decide +kernel
theorem dX9_flourOf_16 : decode cX9_flourOf 16 = .ok (.if_icmp .ne 9, 3) := by decide +kernel
theorem dX9_flourOf_19 : decode cX9_flourOf 19 = .ok (.iload_n 2, 1) := by decide +kernel
theorem dX9_flourOf_20 : decode cX9_flourOf 20 = .ok (.iconst 2, 1) := by decide +kernel
theorem dX9_flourOf_21 : decode cX9_flourOf 21 = .ok (.iadd, 1) := by decide +kernel
theorem dX9_flourOf_22 : decode cX9_flourOf 22 = .ok (.goto 4, 3) := by decide +kernel
theorem dX9_flourOf_25 : decode cX9_flourOf 25 = .ok (.iload_n 2, 1) := by decide +kernel
theorem dX9_flourOf_26 : decode cX9_flourOf 26 = .ok (.ireturn, 1) := by decide +kernel
theorem dX9_signNow_0 : decode cX9_signNow 0 = .ok (.aload_n 0, 1) := by decide +kernel
theorem dX9_signNow_1 : decode cX9_signNow 1 = .ok (.getfield 26, 3) := by decide +kernel
theorem dX9_signNow_4 : decode cX9_signNow 4 = .ok (.iload_n 1, 1) := by decide +kernel
theorem dX9_signNow_5 : decode cX9_signNow 5 = .ok (.iconst 1, 1) := by decide +kernel
theorem dX9_signNow_6 : decode cX9_signNow 6 = .ok (.invokevirtual 146, 3) := by decide +kernel
theorem dX9_signNow_9 : decode cX9_signNow 9 = .ok (.istore_n 2, 1) := by decide +kernel
theorem dX9_signNow_10 : decode cX9_signNow 10 = .ok (.aload_n 0, 1) := by decide +kernel
theorem dX9_signNow_11 : decode cX9_signNow 11 = .ok (.getfield 26, 3) := by decide +kernel
theorem dX9_signNow_14 : decode cX9_signNow 14 = .ok (.iload_n 1, 1) := by decide +kernel
theorem dX9_signNow_15 : decode cX9_signNow 15 = .ok (.iconst 2, 1) := by decide +kernel
theorem dX9_signNow_16 : decode cX9_signNow 16 = .ok (.invokevirtual 146, 3) := by decide +kernel
theorem dX9_signNow_19 : decode cX9_signNow 19 = .ok (.istore_n 3, 1) := by decide +kernel
theorem dX9_signNow_20 : decode cX9_signNow 20 = .ok (.aload_n 0, 1) := by decide +kernel
theorem dX9_signNow_21 : decode cX9_signNow 21 = .ok (.getfield 26, 3) := by decide +kernel
theorem dX9_signNow_24 : decode cX9_signNow 24 = .ok (.iload_n 1, 1) := by decide +kernel
theorem dX9_signNow_25 : decode cX9_signNow 25 = .ok (.iconst 3, 1) := by decide +kernel
theorem dX9_signNow_26 : decode cX9_signNow 26 = .ok (.invokevirtual 146, 3) := by decide +kernel
theorem dX9_signNow_29 : decode cX9_signNow 29 = .ok (.istore 4, 2) := by decide +kernel
theorem dX9_signNow_31 : decode cX9_signNow 31 = .ok (.aload_n 0, 1) := by decide +kernel
theorem dX9_signNow_32 : decode cX9_signNow 32 = .ok (.getfield 61, 3) := by decide +kernel
theorem dX9_signNow_35 : decode cX9_signNow 35 = .ok (.aload_n 0, 1) := by decide +kernel
theorem dX9_signNow_36 : decode cX9_signNow 36 = .ok (.getfield 26, 3) := by decide +kernel
theorem dX9_signNow_39 : decode cX9_signNow 39 = .ok (.iload_n 1, 1) := by decide +kernel
theorem dX9_signNow_40 : decode cX9_signNow 40 = .ok (.iconst 4, 1) := by decide +kernel
theorem dX9_signNow_41 : decode cX9_signNow 41 = .ok (.invokevirtual 146, 3) := by decide +kernel
theorem dX9_signNow_44 : decode cX9_signNow 44 = .ok (.iload_n 2, 1) := by decide +kernel
theorem dX9_signNow_45 : decode cX9_signNow 45 = .ok (.iconst 1, 1) := by decide +kernel
theorem dX9_signNow_46 : decode cX9_signNow 46 = .ok (.if_icmp .ne 9, 3) := by decide +kernel
theorem dX9_signNow_49 : decode cX9_signNow 49 = .ok (.iload_n 3, 1) := by decide +kernel
theorem dX9_signNow_50 : decode cX9_signNow 50 = .ok (.iconst 2, 1) := by decide +kernel
theorem dX9_signNow_51 : decode cX9_signNow 51 = .ok (.idiv, 1) := by decide +kernel
theorem dX9_signNow_52 : decode cX9_signNow 52 = .ok (.goto 4, 3) := by decide +kernel
theorem dX9_signNow_55 : decode cX9_signNow 55 = .ok (.iload_n 3, 1) := by decide +kernel
theorem dX9_signNow_56 : decode cX9_signNow 56 = .ok (.iload_n 2, 1) := by decide +kernel
theorem dX9_signNow_57 : decode cX9_signNow 57 = .ok (.iconst 2, 1) := by decide +kernel
theorem dX9_signNow_58 : decode cX9_signNow 58 = .ok (.if_icmp .ne 7, 3) := by decide +kernel
theorem dX9_signNow_61 : decode cX9_signNow 61 = .ok (.iconst 0, 1) := by decide +kernel
theorem dX9_signNow_62 : decode cX9_signNow 62 = .ok (.goto 5, 3) := by decide +kernel
theorem dX9_signNow_65 : decode cX9_signNow 65 = .ok (.iload 4, 2) := by decide +kernel
theorem dX9_signNow_67 : decode cX9_signNow 67 = .ok (.invokevirtual 172, 3) := by decide +kernel
theorem dX9_signNow_70 : decode cX9_signNow 70 = .ok (.ireturn, 1) := by decide +kernel
theorem dX9_readingOf_0 : decode cX9_readingOf 0 = .ok (.aload_n 0, 1) := by decide +kernel
theorem dX9_readingOf_1 : decode cX9_readingOf 1 = .ok (.getfield 61, 3) := by decide +kernel
theorem dX9_readingOf_4 : decode cX9_readingOf 4 = .ok (.aload_n 0, 1) := by decide +kernel
theorem dX9_readingOf_5 : decode cX9_readingOf 5 = .ok (.iload_n 1, 1) := by decide +kernel
theorem dX9_readingOf_6 : decode cX9_readingOf 6 = .ok (.invokevirtual 162, 3) := by decide +kernel
theorem dX9_readingOf_9 : decode cX9_readingOf 9 = .ok (.invokevirtual 257, 3) := by decide +kernel
theorem dX9_readingOf_12 : decode cX9_readingOf 12 = .ok (.ireturn, 1) := by decide +kernel
theorem dX9_drawOf_0 : decode cX9_drawOf 0 = .ok (.ldc2_w 266, 3) := by decide +kernel
theorem dX9_drawOf_3 : decode cX9_drawOf 3 = .ok (.iload_n 0, 1) := by decide +kernel
theorem dX9_drawOf_4 : decode cX9_drawOf 4 = .ok (.i2l, 1) := by decide +kernel
theorem dX9_drawOf_5 : decode cX9_drawOf 5 = .ok (.lmul, 1) := by decide +kernel
theorem dX9_drawOf_6 : decode cX9_drawOf 6 = .ok (.ldc2_w 268, 3) := by decide +kernel
theorem dX9_drawOf_9 : decode cX9_drawOf 9 = .ok (.iload_n 1, 1) := by decide +kernel
theorem dX9_drawOf_10 : decode cX9_drawOf 10 = .ok (.i2l, 1) := by decide +kernel
theorem dX9_drawOf_11 : decode cX9_drawOf 11 = .ok (.lmul, 1) := by decide +kernel
theorem dX9_drawOf_12 : decode cX9_drawOf 12 = .ok (.ladd, 1) := by decide +kernel
theorem dX9_drawOf_13 : decode cX9_drawOf 13 = .ok (.lconst 1, 1) := by decide +kernel
theorem dX9_drawOf_14 : decode cX9_drawOf 14 = .ok (.ladd, 1) := by decide +kernel
theorem dX9_drawOf_15 : decode cX9_drawOf 15 = .ok (.lstore_n 2, 1) := by decide +kernel
theorem dX9_drawOf_16 : decode cX9_drawOf 16 = .ok (.lload_n 2, 1) := by decide +kernel
theorem dX9_drawOf_17 : decode cX9_drawOf 17 = .ok (.lload_n 2, 1) := by decide +kernel
theorem dX9_drawOf_18 : decode cX9_drawOf 18 = .ok (.lmul, 1) := by decide +kernel
theorem dX9_drawOf_19 : decode cX9_drawOf 19 = .ok (.ldc2_w 270, 3) := by decide +kernel
theorem dX9_drawOf_22 : decode cX9_drawOf 22 = .ok (.lrem, 1) := by decide +kernel
theorem dX9_drawOf_23 : decode cX9_drawOf 23 = .ok (.l2i, 1) := by decide +kernel
theorem dX9_drawOf_24 : decode cX9_drawOf 24 = .ok (.ireturn, 1) := by decide +kernel
theorem dX9_at_0 : decode cX9_at 0 = .ok (.iload_n 1, 1) := by decide +kernel
theorem dX9_at_1 : decode cX9_at 1 = .ok (.ifCond .lt 15, 3) := by decide +kernel
theorem dX9_at_4 : decode cX9_at 4 = .ok (.iload_n 1, 1) := by decide +kernel
theorem dX9_at_5 : decode cX9_at 5 = .ok (.aload_n 0, 1) := by decide +kernel
theorem dX9_at_6 : decode cX9_at 6 = .ok (.arraylength, 1) := by decide +kernel
theorem dX9_at_7 : decode cX9_at 7 = .ok (.if_icmp .ge 9, 3) := by decide +kernel
theorem dX9_at_10 : decode cX9_at 10 = .ok (.aload_n 0, 1) := by decide +kernel
theorem dX9_at_11 : decode cX9_at 11 = .ok (.iload_n 1, 1) := by decide +kernel
theorem dX9_at_12 : decode cX9_at 12 = .ok (.iaload, 1) := by decide +kernel
theorem dX9_at_13 : decode cX9_at 13 = .ok (.goto 4, 3) := by decide +kernel
theorem dX9_at_16 : decode cX9_at 16 = .ok (.iconst 0, 1) := by decide +kernel
theorem dX9_at_17 : decode cX9_at 17 = .ok (.ireturn, 1) := by decide +kernel
