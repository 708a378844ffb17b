theorem dX10_init_0 : decode cX10_init 0 = .ok (.aload_n 0, 1) := by decide +kernel
theorem dX10_init_1 : decode cX10_init 1 = .ok (.invokespecial 1, 3) := by decide +kernel
theorem dX10_init_4 : decode cX10_init 4 = .ok (.aload_n 0, 1) := by decide +kernel
theorem dX10_init_5 : decode cX10_init 5 = .ok (.sipush 300, 3) := by decide +kernel
theorem dX10_init_8 : decode cX10_init 8 = .ok (.newarray .byte, 2) := by decide +kernel
theorem dX10_init_10 : decode cX10_init 10 = .ok (.putfield 7, 3) := by decide +kernel
theorem dX10_init_13 : decode cX10_init 13 = .ok (.aload_n 0, 1) := by decide +kernel
theorem dX10_init_14 : decode cX10_init 14 = .ok (.iconst 4, 1) := by decide +kernel
theorem dX10_init_15 : decode cX10_init 15 = .ok (.newarray .int, 2) := by decide +kernel
theorem dX10_init_17 : decode cX10_init 17 = .ok (.putfield 13, 3) := by decide +kernel
theorem dX10_init_20 : decode cX10_init 20 = .ok (.aload_n 0, 1) := by decide +kernel
theorem dX10_init_21 : decode cX10_init 21 = .ok (.iconst 2, 1) := by decide +kernel
theorem dX10_init_22 : decode cX10_init 22 = .ok (.newarray .int, 2) := by decide +kernel
theorem dX10_init_24 : decode cX10_init 24 = .ok (.putfield 17, 3) := by decide +kernel
theorem dX10_init_27 : decode cX10_init 27 = .ok (.aload_n 0, 1) := by decide +kernel
theorem dX10_init_28 : decode cX10_init 28 = .ok (.bipush 32, 2) := by decide +kernel
theorem dX10_init_30 : decode cX10_init 30 = .ok (.newarray .int, 2) := by decide +kernel
theorem dX10_init_32 : decode cX10_init 32 = .ok (.putfield 20, 3) := by decide +kernel
theorem dX10_init_35 : decode cX10_init 35 = .ok (.aload_n 0, 1) := by decide +kernel
theorem dX10_init_36 : decode cX10_init 36 = .ok (.iconst 2, 1) := by decide +kernel
theorem dX10_init_37 : decode cX10_init 37 = .ok (.newarray .int, 2) := by decide +kernel
theorem dX10_init_39 : decode cX10_init 39 = .ok (.putfield 23, 3) := by decide +kernel
theorem dX10_init_42 : decode cX10_init 42 = .ok (.aload_n 0, 1) := by decide +kernel
theorem dX10_init_43 : decode cX10_init 43 = .ok (.bipush 20, 2) := by decide +kernel
theorem dX10_init_45 : decode cX10_init 45 = .ok (.newarray .int, 2) := by decide +kernel
theorem dX10_init_47 : decode cX10_init 47 = .ok (.putfield 26, 3) := by decide +kernel
theorem dX10_init_50 : decode cX10_init 50 = .ok (.aload_n 0, 1) := by decide +kernel
theorem dX10_init_51 : decode cX10_init 51 = .ok (.iconst 2, 1) := by decide +kernel
theorem dX10_init_52 : decode cX10_init 52 = .ok (.newarray .int, 2) := by decide +kernel
theorem dX10_init_54 : decode cX10_init 54 = .ok (.putfield 29, 3) := by decide +kernel
theorem dX10_init_57 : decode cX10_init 57 = .ok (.aload_n 0, 1) := by decide +kernel
theorem dX10_init_58 : decode cX10_init 58 = .ok (.bipush 10, 2) := by decide +kernel
theorem dX10_init_60 : decode cX10_init 60 = .ok (.newarray .int, 2) := by decide +kernel
theorem dX10_init_62 : decode cX10_init 62 = .ok (.putfield 32, 3) := by decide +kernel
theorem dX10_init_65 : decode cX10_init 65 = .ok (.aload_n 0, 1) := by decide +kernel
theorem dX10_init_66 : decode cX10_init 66 = .ok (.iconst 3, 1) := by decide +kernel
theorem dX10_init_67 : decode cX10_init 67 = .ok (.newarray .int, 2) := by decide +kernel
theorem dX10_init_69 : decode cX10_init 69 = .ok (.putfield 35, 3) := by decide +kernel
theorem dX10_init_72 : decode cX10_init 72 = .ok (.aload_n 0, 1) := by decide +kernel
theorem dX10_init_73 : decode cX10_init 73 = .ok (.bipush 96, 2) := by decide +kernel
theorem dX10_init_75 : decode cX10_init 75 = .ok (.newarray .int, 2) := by decide +kernel
theorem dX10_init_77 : decode cX10_init 77 = .ok (.putfield 38, 3) := by decide +kernel
theorem dX10_init_80 : decode cX10_init 80 = .ok (.aload_n 0, 1) := by decide +kernel
theorem dX10_init_81 : decode cX10_init 81 = .ok (.iconst 3, 1) := by decide +kernel
theorem dX10_init_82 : decode cX10_init 82 = .ok (.newarray .int, 2) := by decide +kernel
theorem dX10_init_84 : decode cX10_init 84 = .ok (.putfield 41, 3) := by decide +kernel
theorem dX10_init_87 : decode cX10_init 87 = .ok (.aload_n 0, 1) := by decide +kernel
theorem dX10_init_88 : decode cX10_init 88 = .ok (.bipush 48, 2) := by decide +kernel
theorem dX10_init_90 : decode cX10_init 90 = .ok (.newarray .int, 2) := by decide +kernel
theorem dX10_init_92 : decode cX10_init 92 = .ok (.putfield 44, 3) := by decide +kernel
theorem dX10_init_95 : decode cX10_init 95 = .ok (.aload_n 0, 1) := by decide +kernel
theorem dX10_init_96 : decode cX10_init 96 = .ok (.sipush 5184, 3) := by decide +kernel
theorem dX10_init_99 : decode cX10_init 99 = .ok (.newarray .boolean, 2) := by decide +kernel
theorem dX10_init_101 : decode cX10_init 101 = .ok (.putfield 47, 3) := by decide +kernel
theorem dX10_init_104 : decode cX10_init 104 = .ok (.aload_n 0, 1) := by decide +kernel
theorem dX10_init_105 : decode cX10_init 105 = .ok (.iconst 3, 1) := by decide +kernel
theorem dX10_init_106 : decode cX10_init 106 = .ok (.newarray .int, 2) := by decide +kernel
theorem dX10_init_108 : decode cX10_init 108 = .ok (.putfield 51, 3) := by decide +kernel
theorem dX10_init_111 : decode cX10_init 111 = .ok (.aload_n 0, 1) := by decide +kernel
theorem dX10_init_112 : decode cX10_init 112 = .ok (.iconst 4, 1) := by decide +kernel
theorem dX10_init_113 : decode cX10_init 113 = .ok (.newarray .int, 2) := by decide +kernel
theorem dX10_init_115 : decode cX10_init 115 = .ok (.putfield 54, 3) := by decide +kernel
theorem dX10_init_118 : decode cX10_init 118 = .ok (.aload_n 0, 1) := by decide +kernel
theorem dX10_init_119 : decode cX10_init 119 = .ok (.invokevirtual 57, 3) := by decide +kernel
theorem dX10_init_122 : decode cX10_init 122 = .ok (.aload_n 0, 1) := by decide +kernel
theorem dX10_init_123 : decode cX10_init 123 = .ok (.getfield 17, 3) := by decide +kernel
theorem dX10_init_126 : decode cX10_init 126 = .ok (.iconst 1, 1) := by decide +kernel
theorem dX10_init_127 : decode cX10_init 127 = .ok (.iconst 1, 1) := by decide +kernel
theorem dX10_init_128 : decode cX10_init 128 = .ok (.iastore, 1) := by decide +kernel
theorem dX10_init_129 : decode cX10_init 129 = .ok (.aload_n 0, 1) := by decide +kernel
theorem dX10_init_130 : decode cX10_init 130 = .ok (.getfield 20, 3) := by decide +kernel
theorem dX10_init_133 : decode cX10_init 133 = .ok (.bipush 16, 2) := by decide +kernel
theorem dX10_init_135 : decode cX10_init 135 = .ok (.iconst 1, 1) := by decide +kernel
theorem dX10_init_136 : decode cX10_init 136 = .ok (.iastore, 1) := by decide +kernel
theorem dX10_init_137 : decode cX10_init 137 = .ok (.aload_n 0, 1) := by decide +kernel
theorem dX10_init_138 : decode cX10_init 138 = .ok (.getfield 20, 3) := by decide +kernel
theorem dX10_init_141 : decode cX10_init 141 = .ok (.bipush 17, 2) := by decide +kernel
theorem dX10_init_143 : decode cX10_init 143 = .ok (.iconst 5, 1) := by decide +kernel
theorem dX10_init_144 : decode cX10_init 144 = .ok (.iastore, 1) := by decide +kernel
theorem dX10_init_145 : decode cX10_init 145 = .ok (.aload_n 0, 1) := by decide +kernel
theorem dX10_init_146 : decode cX10_init 146 = .ok (.invokevirtual 60, 3) := by decide +kernel
theorem dX10_init_149 : decode cX10_init 149 = .ok (.return_, 1) := by decide +kernel
theorem dX10_in_0 : decode cX10_in 0 = .ok (.lload_n 0, 1) := by decide +kernel
theorem dX10_in_1 : decode cX10_in 1 = .ok (.lload_n 2, 1) := by decide +kernel
theorem dX10_in_2 : decode cX10_in 2 = .ok (.lcmp, 1) := by decide +kernel
theorem dX10_in_3 : decode cX10_in 3 = .ok (.ifCond .lt 14, 3) := by decide +kernel
theorem dX10_in_6 : decode cX10_in 6 = .ok (.lload_n 0, 1) := by decide +kernel
theorem dX10_in_7 : decode cX10_in 7 = .ok (.lload 4, 2) := by decide +kernel
theorem dX10_in_9 : decode cX10_in 9 = .ok (.lcmp, 1) := by decide +kernel
theorem dX10_in_10 : decode cX10_in 10 = .ok (.ifCond .gt 7, 3) := by decide +kernel
theorem dX10_in_13 : decode cX10_in 13 = .ok (.iconst 1, 1) := by decide +kernel
theorem dX10_in_14 : decode cX10_in 14 = .ok (.goto 4, 3) := by decide +kernel
theorem dX10_in_17 : decode cX10_in 17 = .ok (.iconst 0, 1) := by decide +kernel
theorem dX10_in_18 : decode cX10_in 18 = .ok (.ireturn, 1) := by decide +kernel
theorem dX10_write_0 : decode cX10_write 0 = .ok (.iload_n 1, 1) := by decide +kernel
theorem dX10_write_1 : decode cX10_write 1 = .ok (.i2l, 1) := by decide +kernel
theorem dX10_write_2 : decode cX10_write 2 = .ok (.lconst 1, 1) := by decide +kernel
theorem dX10_write_3 : decode cX10_write 3 = .ok (.ldc2_w 63, 3) := by decide +kernel
theorem dX10_write_6 : decode cX10_write 6 = .ok (.invokestatic 65, 3) := by decide +kernel
theorem dX10_write_9 : decode cX10_write 9 = .ok (.ifCond .ne 5, 3) := by decide +kernel
theorem dX10_write_12 : decode cX10_write 12 = .ok (.iconst (-1), 1) := by decide +kernel
theorem dX10_write_13 : decode cX10_write 13 = .ok (.ireturn, 1) := by decide +kernel
theorem dX10_write_14 : decode cX10_write 14 = .ok (.aload_n 0, 1) := by decide +kernel
theorem dX10_write_15 : decode cX10_write 15 = .ok (.getfield 69, 3) := by decide +kernel
theorem dX10_write_18 : decode cX10_write 18 = .ok (.iload_n 1, 1) := by decide +kernel
theorem dX10_write_19 : decode cX10_write 19 = .ok (.iadd, 1) := by decide +kernel
theorem dX10_write_20 : decode cX10_write 20 = .ok (.sipush 300, 3) := by decide +kernel
theorem dX10_write_23 : decode cX10_write 23 = .ok (.if_icmp .le 6, 3) := by decide +kernel
theorem dX10_write_26 : decode cX10_write 26 = .ok (.bipush (-3), 2) := by decide +kernel
theorem dX10_write_28 : decode cX10_write 28 = .ok (.ireturn, 1) := by decide +kernel
theorem dX10_write_29 : decode cX10_write 29 = .ok (.iload_n 1, 1) := by decide +kernel
theorem dX10_write_30 : decode cX10_write 30 = .ok (.iconst 1, 1) := by decide +kernel
theorem dX10_write_31 : decode cX10_write 31 = .ok (.isub, 1) := by decide +kernel
theorem dX10_write_32 : decode cX10_write 32 = .ok (.istore 4, 2) := by decide +kernel
theorem dX10_write_34 : decode cX10_write 34 = .ok (.iload 4, 2) := by decide +kernel
theorem dX10_write_36 : decode cX10_write 36 = .ok (.ifCond .lt 37, 3) := by decide +kernel
theorem dX10_write_39 : decode cX10_write 39 = .ok (.aload_n 0, 1) := by decide +kernel
theorem dX10_write_40 : decode cX10_write 40 = .ok (.getfield 7, 3) := by decide +kernel
theorem dX10_write_43 : decode cX10_write 43 = .ok (.aload_n 0, 1) := by decide +kernel
theorem dX10_write_44 : decode cX10_write 44 = .ok (.getfield 69, 3) := by decide +kernel
theorem dX10_write_47 : decode cX10_write 47 = .ok (.lload_n 2, 1) := by decide +kernel
theorem dX10_write_48 : decode cX10_write 48 = .ok (.bipush 8, 2) := by decide +kernel
theorem dX10_write_50 : decode cX10_write 50 = .ok (.iload 4, 2) := by decide +kernel
theorem dX10_write_52 : decode cX10_write 52 = .ok (.imul, 1) := by decide +kernel
theorem dX10_write_53 : decode cX10_write 53 = .ok (.lshr, 1) := by decide +kernel
theorem dX10_write_54 : decode cX10_write 54 = .ok (.l2i, 1) := by decide +kernel
theorem dX10_write_55 : decode cX10_write 55 = .ok (.i2b, 1) := by decide +kernel
theorem dX10_write_56 : decode cX10_write 56 = .ok (.bastore, 1) := by decide +kernel
theorem dX10_write_57 : decode cX10_write 57 = .ok (.aload_n 0, 1) := by decide +kernel
theorem dX10_write_58 : decode cX10_write 58 = .ok (.dup, 1) := by decide +kernel
theorem dX10_write_59 : decode cX10_write 59 = .ok (.getfield 69, 3) := by decide +kernel
theorem dX10_write_62 : decode cX10_write 62 = .ok (.iconst 1, 1) := by decide +kernel
theorem dX10_write_63 : decode cX10_write 63 = .ok (.iadd, 1) := by decide +kernel
theorem dX10_write_64 : decode cX10_write 64 = .ok (.putfield 69, 3) := by decide +kernel
theorem dX10_write_67 : decode cX10_write 67 = .ok (.iinc 4 (-1), 3) := by decide +kernel
theorem dX10_write_70 : decode cX10_write 70 = .ok (.goto (-36), 3) := by decide +kernel
theorem dX10_write_73 : decode cX10_write 73 = .ok (.aload_n 0, 1) := by decide +kernel
theorem dX10_write_74 : decode cX10_write 74 = .ok (.getfield 69, 3) := by decide +kernel
theorem dX10_write_77 : decode cX10_write 77 = .ok (.ireturn, 1) := by decide +kernel
theorem dX10_wipe_0 : decode cX10_wipe 0 = .ok (.aload_n 0, 1) := by decide +kernel
theorem dX10_wipe_1 : decode cX10_wipe 1 = .ok (.getfield 69, 3) := by decide +kernel
theorem dX10_wipe_4 : decode cX10_wipe 4 = .ok (.istore_n 1, 1) := by decide +kernel
theorem dX10_wipe_5 : decode cX10_wipe 5 = .ok (.aload_n 0, 1) := by decide +kernel
theorem dX10_wipe_6 : decode cX10_wipe 6 = .ok (.iconst 0, 1) := by decide +kernel
theorem dX10_wipe_7 : decode cX10_wipe 7 = .ok (.putfield 69, 3) := by decide +kernel
theorem dX10_wipe_10 : decode cX10_wipe 10 = .ok (.iload_n 1, 1) := by decide +kernel
theorem dX10_wipe_11 : decode cX10_wipe 11 = .ok (.ireturn, 1) := by decide +kernel
theorem dX10_number_0 : decode cX10_number 0 = .ok (.iconst 0, 1) := by decide +kernel
theorem dX10_number_1 : decode cX10_number 1 = .ok (.istore_n 1, 1) := by decide +kernel
theorem dX10_number_2 : decode cX10_number 2 = .ok (.iconst 0, 1) := by decide +kernel
theorem dX10_number_3 : decode cX10_number 3 = .ok (.istore_n 2, 1) := by decide +kernel
theorem dX10_number_4 : decode cX10_number 4 = .ok (.aload_n 0, 1) := by decide +kernel
theorem dX10_number_5 : decode cX10_number 5 = .ok (.getfield 73, 3) := by decide +kernel
theorem dX10_number_8 : decode cX10_number 8 = .ok (.aload_n 0, 1) := by decide +kernel
theorem dX10_number_9 : decode cX10_number 9 = .ok (.getfield 69, 3) := by decide +kernel
theorem dX10_number_12 : decode cX10_number 12 = .ok (.if_icmp .ge 68, 3) := by decide +kernel
theorem dX10_number_15 : decode cX10_number 15 = .ok (.aload_n 0, 1) := by decide +kernel
theorem dX10_number_16 : decode cX10_number 16 = .ok (.getfield 7, 3) := by decide +kernel
theorem dX10_number_19 : decode cX10_number 19 = .ok (.aload_n 0, 1) := by decide +kernel
theorem dX10_number_20 : decode cX10_number 20 = .ok (.getfield 73, 3) := by decide +kernel
theorem dX10_number_23 : decode cX10_number 23 = .ok (.baload, 1) := by decide +kernel
theorem dX10_number_24 : decode cX10_number 24 = .ok (.i2l, 1) := by decide +kernel
theorem dX10_number_25 : decode cX10_number 25 = .ok (.ldc2_w 76, 3) := by decide +kernel
theorem dX10_number_28 : decode cX10_number 28 = .ok (.ldc2_w 78, 3) := by decide +kernel
theorem dX10_number_31 : decode cX10_number 31 = .ok (.invokestatic 65, 3) := by decide +kernel
theorem dX10_number_34 : decode cX10_number 34 = .ok (.ifCond .eq 46, 3) := by decide +kernel
theorem dX10_number_37 : decode cX10_number 37 = .ok (.iload_n 2, 1) := by decide +kernel
theorem dX10_number_38 : decode cX10_number 38 = .ok (.iconst 2, 1) := by decide +kernel
theorem dX10_number_39 : decode cX10_number 39 = .ok (.if_icmp .ge 23, 3) := by decide +kernel
theorem dX10_number_42 : decode cX10_number 42 = .ok (.bipush 10, 2) := by decide +kernel
theorem dX10_number_44 : decode cX10_number 44 = .ok (.iload_n 1, 1) := by decide +kernel
theorem dX10_number_45 : decode cX10_number 45 = .ok (.imul, 1) := by decide +kernel
theorem dX10_number_46 : decode cX10_number 46 = .ok (.aload_n 0, 1) := by decide +kernel
theorem dX10_number_47 : decode cX10_number 47 = .ok (.getfield 7, 3) := by decide +kernel
theorem dX10_number_50 : decode cX10_number 50 = .ok (.aload_n 0, 1) := by decide +kernel
theorem dX10_number_51 : decode cX10_number 51 = .ok (.getfield 73, 3) := by decide +kernel
theorem dX10_number_54 : decode cX10_number 54 = .ok (.baload, 1) := by decide +kernel
theorem dX10_number_55 : decode cX10_number 55 = .ok (.iadd, 1) := by decide +kernel
theorem dX10_number_56 : decode cX10_number 56 = .ok (.bipush 48, 2) := by decide +kernel
theorem dX10_number_58 : decode cX10_number 58 = .ok (.isub, 1) := by decide +kernel
theorem dX10_number_59 : decode cX10_number 59 = .ok (.goto 4, 3) := by decide +kernel
theorem dX10_number_62 : decode cX10_number 62 = .ok (.iload_n 1, 1) := by decide +kernel
theorem dX10_number_63 : decode cX10_number 63 = .ok (.istore_n 1, 1) := by decide +kernel
theorem dX10_number_64 : decode cX10_number 64 = .ok (.iinc 2 1, 3) := by decide +kernel
theorem dX10_number_67 : decode cX10_number 67 = .ok (.aload_n 0, 1) := by decide +kernel
theorem dX10_number_68 : decode cX10_number 68 = .ok (.dup, 1) := by decide +kernel
theorem dX10_number_69 : decode cX10_number 69 = .ok (.getfield 73, 3) := by decide +kernel
theorem dX10_number_72 : decode cX10_number 72 = .ok (.iconst 1, 1) := by decide +kernel
theorem dX10_number_73 : decode cX10_number 73 = .ok (.iadd, 1) := by decide +kernel
theorem dX10_number_74 : decode cX10_number 74 = .ok (.putfield 73, 3) := by decide +kernel
theorem dX10_number_77 : decode cX10_number 77 = .ok (.goto (-73), 3) := by decide +kernel
theorem dX10_number_80 : decode cX10_number 80 = .ok (.iload_n 2, 1) := by decide +kernel
theorem dX10_number_81 : decode cX10_number 81 = .ok (.i2l, 1) := by decide +kernel
theorem dX10_number_82 : decode cX10_number 82 = .ok (.lconst 1, 1) := by decide +kernel
theorem dX10_number_83 : decode cX10_number 83 = .ok (.ldc2_w 80, 3) := by decide +kernel
theorem dX10_number_86 : decode cX10_number 86 = .ok (.invokestatic 65, 3) := by decide +kernel
theorem dX10_number_89 : decode cX10_number 89 = .ok (.ifCond .eq 7, 3) := by decide +kernel
theorem dX10_number_92 : decode cX10_number 92 = .ok (.iload_n 1, 1) := by decide +kernel
theorem dX10_number_93 : decode cX10_number 93 = .ok (.goto 4, 3) := by decide +kernel
theorem dX10_number_96 : decode cX10_number 96 = .ok (.iconst (-1), 1) := by decide +kernel
theorem dX10_number_97 : decode cX10_number 97 = .ok (.ireturn, 1) := by decide +kernel
theorem dX10_parts_0 : decode cX10_parts 0 = .ok (.iload_n 0, 1) := by decide +kernel
theorem dX10_parts_1 : decode cX10_parts 1 = .ok (.bipush 119, 2) := by decide +kernel
theorem dX10_parts_3 : decode cX10_parts 3 = .ok (.if_icmp .ne 7, 3) := by decide +kernel
theorem dX10_parts_6 : decode cX10_parts 6 = .ok (.iconst 4, 1) := by decide +kernel
theorem dX10_parts_7 : decode cX10_parts 7 = .ok (.goto 30, 3) := by decide +kernel
theorem dX10_parts_10 : decode cX10_parts 10 = .ok (.iload_n 0, 1) := by decide +kernel
theorem dX10_parts_11 : decode cX10_parts 11 = .ok (.bipush 98, 2) := by decide +kernel
theorem dX10_parts_13 : decode cX10_parts 13 = .ok (.if_icmp .eq 9, 3) := by decide +kernel
theorem dX10_parts_16 : decode cX10_parts 16 = .ok (.iload_n 0, 1) := by decide +kernel
theorem dX10_parts_17 : decode cX10_parts 17 = .ok (.bipush 99, 2) := by decide +kernel
theorem dX10_parts_19 : decode cX10_parts 19 = .ok (.if_icmp .ne 7, 3) := by decide +kernel
theorem dX10_parts_22 : decode cX10_parts 22 = .ok (.iconst 2, 1) := by decide +kernel
theorem dX10_parts_23 : decode cX10_parts 23 = .ok (.goto 14, 3) := by decide +kernel
theorem dX10_parts_26 : decode cX10_parts 26 = .ok (.iload_n 0, 1) := by decide +kernel
theorem dX10_parts_27 : decode cX10_parts 27 = .ok (.bipush 107, 2) := by decide +kernel
theorem dX10_parts_29 : decode cX10_parts 29 = .ok (.if_icmp .ne 7, 3) := by decide +kernel
theorem dX10_parts_32 : decode cX10_parts 32 = .ok (.iconst 1, 1) := by decide +kernel
theorem dX10_parts_33 : decode cX10_parts 33 = .ok (.goto 4, 3) := by decide +kernel
theorem dX10_parts_36 : decode cX10_parts 36 = .ok (.iconst 0, 1) := by decide +kernel
theorem dX10_parts_37 : decode cX10_parts 37 = .ok (.ireturn, 1) := by decide +kernel
theorem dX10_isIn_0 : decode cX10_isIn 0 = .ok (.aload_n 0, 1) := by decide +kernel
theorem dX10_isIn_1 : decode cX10_isIn 1 = .ok (.getfield 54, 3) := by decide +kernel
theorem dX10_isIn_4 : decode cX10_isIn 4 = .ok (.iload_n 1, 1) := by decide +kernel
theorem dX10_isIn_5 : decode cX10_isIn 5 = .ok (.iaload, 1) := by decide +kernel
theorem dX10_isIn_6 : decode cX10_isIn 6 = .ok (.i2l, 1) := by decide +kernel
theorem dX10_isIn_7 : decode cX10_isIn 7 = .ok (.iload_n 2, 1) := by decide +kernel
theorem dX10_isIn_8 : decode cX10_isIn 8 = .ok (.i2l, 1) := by decide +kernel
theorem dX10_isIn_9 : decode cX10_isIn 9 = .ok (.iload_n 3, 1) := by decide +kernel
theorem dX10_isIn_10 : decode cX10_isIn 10 = .ok (.i2l, 1) := by decide +kernel
theorem dX10_isIn_11 : decode cX10_isIn 11 = .ok (.invokestatic 65, 3) := by decide +kernel
theorem dX10_isIn_14 : decode cX10_isIn 14 = .ok (.ireturn, 1) := by decide +kernel
theorem dX10_isItem_0 : decode cX10_isItem 0 = .ok (.aload_n 0, 1) := by decide +kernel
theorem dX10_isItem_1 : decode cX10_isItem 1 = .ok (.getfield 7, 3) := by decide +kernel
theorem dX10_isItem_4 : decode cX10_isItem 4 = .ok (.aload_n 0, 1) := by decide +kernel
theorem dX10_isItem_5 : decode cX10_isItem 5 = .ok (.getfield 73, 3) := by decide +kernel
theorem dX10_isItem_8 : decode cX10_isItem 8 = .ok (.baload, 1) := by decide +kernel
theorem dX10_isItem_9 : decode cX10_isItem 9 = .ok (.istore_n 1, 1) := by decide +kernel
theorem dX10_isItem_10 : decode cX10_isItem 10 = .ok (.aload_n 0, 1) := by decide +kernel
theorem dX10_isItem_11 : decode cX10_isItem 11 = .ok (.dup, 1) := by decide +kernel
theorem dX10_isItem_12 : decode cX10_isItem 12 = .ok (.getfield 73, 3) := by decide +kernel
theorem dX10_isItem_15 : decode cX10_isItem 15 = .ok (.iconst 1, 1) := by decide +kernel
theorem dX10_isItem_16 : decode cX10_isItem 16 = .ok (.iadd, 1) := by decide +kernel
theorem dX10_isItem_17 : decode cX10_isItem 17 = .ok (.putfield 73, 3) := by decide +kernel
theorem dX10_isItem_20 : decode cX10_isItem 20 = .ok (.iload_n 1, 1) := by decide +kernel
theorem dX10_isItem_21 : decode cX10_isItem 21 = .ok (.invokestatic 82, 3) := by decide +kernel
theorem dX10_isItem_24 : decode cX10_isItem 24 = .ok (.istore_n 2, 1) := by decide +kernel
theorem dX10_isItem_25 : decode cX10_isItem 25 = .ok (.iload_n 2, 1) := by decide +kernel
theorem dX10_isItem_26 : decode cX10_isItem 26 = .ok (.ifCond .le 7, 3) := by decide +kernel
theorem dX10_isItem_29 : decode cX10_isItem 29 = .ok (.iconst 1, 1) := by decide +kernel
theorem dX10_isItem_30 : decode cX10_isItem 30 = .ok (.goto 4, 3) := by decide +kernel
theorem dX10_isItem_33 : decode cX10_isItem 33 = .ok (.iconst 0, 1) := by decide +kernel
theorem dX10_isItem_34 : decode cX10_isItem 34 = .ok (.istore_n 3, 1) := by decide +kernel
theorem dX10_isItem_35 : decode cX10_isItem 35 = .ok (.iconst 0, 1) := by decide +kernel
theorem dX10_isItem_36 : decode cX10_isItem 36 = .ok (.istore 4, 2) := by decide +kernel
theorem dX10_isItem_38 : decode cX10_isItem 38 = .ok (.iload 4, 2) := by decide +kernel
theorem dX10_isItem_40 : decode cX10_isItem 40 = .ok (.iload_n 2, 1) := by decide +kernel
theorem dX10_isItem_41 : decode cX10_isItem 41 = .ok (.if_icmp .ge 103, 3) := by decide +kernel
theorem dX10_isItem_44 : decode cX10_isItem 44 = .ok (.iload_n 3, 1) := by decide +kernel
theorem dX10_isItem_45 : decode cX10_isItem 45 = .ok (.ifCond .eq 99, 3) := by decide +kernel
theorem dX10_isItem_48 : decode cX10_isItem 48 = .ok (.iload 4, 2) := by decide +kernel
theorem dX10_isItem_50 : decode cX10_isItem 50 = .ok (.ifCond .eq 28, 3) := by decide +kernel
theorem dX10_isItem_53 : decode cX10_isItem 53 = .ok (.aload_n 0, 1) := by decide +kernel
theorem dX10_isItem_54 : decode cX10_isItem 54 = .ok (.getfield 73, 3) := by decide +kernel
theorem dX10_isItem_57 : decode cX10_isItem 57 = .ok (.aload_n 0, 1) := by decide +kernel
theorem dX10_isItem_58 : decode cX10_isItem 58 = .ok (.getfield 69, 3) := by decide +kernel
theorem dX10_isItem_61 : decode cX10_isItem 61 = .ok (.if_icmp .ge 21, 3) := by decide +kernel
theorem dX10_isItem_64 : decode cX10_isItem 64 = .ok (.aload_n 0, 1) := by decide +kernel
theorem dX10_isItem_65 : decode cX10_isItem 65 = .ok (.getfield 7, 3) := by decide +kernel
theorem dX10_isItem_68 : decode cX10_isItem 68 = .ok (.aload_n 0, 1) := by decide +kernel
theorem dX10_isItem_69 : decode cX10_isItem 69 = .ok (.getfield 73, 3) := by decide +kernel
theorem dX10_isItem_72 : decode cX10_isItem 72 = .ok (.baload, 1) := by decide +kernel
theorem dX10_isItem_73 : decode cX10_isItem 73 = .ok (.bipush 44, 2) := by decide +kernel
theorem dX10_isItem_75 : decode cX10_isItem 75 = .ok (.if_icmp .ne 7, 3) := by decide +kernel
theorem dX10_isItem_78 : decode cX10_isItem 78 = .ok (.iconst 1, 1) := by decide +kernel
theorem dX10_isItem_79 : decode cX10_isItem 79 = .ok (.goto 4, 3) := by decide +kernel
theorem dX10_isItem_82 : decode cX10_isItem 82 = .ok (.iconst 0, 1) := by decide +kernel
theorem dX10_isItem_83 : decode cX10_isItem 83 = .ok (.istore_n 3, 1) := by decide +kernel
theorem dX10_isItem_84 : decode cX10_isItem 84 = .ok (.aload_n 0, 1) := by decide +kernel
theorem dX10_isItem_85 : decode cX10_isItem 85 = .ok (.dup, 1) := by decide +kernel
theorem dX10_isItem_86 : decode cX10_isItem 86 = .ok (.getfield 73, 3) := by decide +kernel
theorem dX10_isItem_89 : decode cX10_isItem 89 = .ok (.iload 4, 2) := by decide +kernel
theorem dX10_isItem_91 : decode cX10_isItem 91 = .ok (.ifCond .ne 7, 3) := by decide +kernel
theorem dX10_isItem_94 : decode cX10_isItem 94 = .ok (.iconst 0, 1) := by decide +kernel
theorem dX10_isItem_95 : decode cX10_isItem 95 = .ok (.goto 4, 3) := by decide +kernel
theorem dX10_isItem_98 : decode cX10_isItem 98 = .ok (.iconst 1, 1) := by decide +kernel
theorem dX10_isItem_99 : decode cX10_isItem 99 = .ok (.iadd, 1) := by decide +kernel
theorem dX10_isItem_100 : decode cX10_isItem 100 = .ok (.putfield 73, 3) := by decide +kernel
theorem dX10_isItem_103 : decode cX10_isItem 103 = .ok (.aload_n 0, 1) := by decide +kernel
theorem dX10_isItem_104 : decode cX10_isItem 104 = .ok (.getfield 54, 3) := by decide +kernel
theorem dX10_isItem_107 : decode cX10_isItem 107 = .ok (.iload 4, 2) := by decide +kernel
theorem dX10_isItem_109 : decode cX10_isItem 109 = .ok (.iload_n 3, 1) := by decide +kernel
theorem dX10_isItem_110 : decode cX10_isItem 110 = .ok (.ifCond .eq 10, 3) := by decide +kernel
theorem dX10_isItem_113 : decode cX10_isItem 113 = .ok (.aload_n 0, 1) := by decide +kernel
theorem dX10_isItem_114 : decode cX10_isItem 114 = .ok (.invokevirtual 86, 3) := by decide +kernel
theorem dX10_isItem_117 : decode cX10_isItem 117 = .ok (.goto 4, 3) := by decide +kernel
theorem dX10_isItem_120 : decode cX10_isItem 120 = .ok (.iconst (-1), 1) := by decide +kernel
theorem dX10_isItem_121 : decode cX10_isItem 121 = .ok (.iastore, 1) := by decide +kernel
theorem dX10_isItem_122 : decode cX10_isItem 122 = .ok (.aload_n 0, 1) := by decide +kernel
theorem dX10_isItem_123 : decode cX10_isItem 123 = .ok (.getfield 54, 3) := by decide +kernel
theorem dX10_isItem_126 : decode cX10_isItem 126 = .ok (.iload 4, 2) := by decide +kernel
theorem dX10_isItem_128 : decode cX10_isItem 128 = .ok (.iaload, 1) := by decide +kernel
theorem dX10_isItem_129 : decode cX10_isItem 129 = .ok (.ifCond .lt 7, 3) := by decide +kernel
theorem dX10_isItem_132 : decode cX10_isItem 132 = .ok (.iconst 1, 1) := by decide +kernel
theorem dX10_isItem_133 : decode cX10_isItem 133 = .ok (.goto 4, 3) := by decide +kernel
theorem dX10_isItem_136 : decode cX10_isItem 136 = .ok (.iconst 0, 1) := by decide +kernel
theorem dX10_isItem_137 : decode cX10_isItem 137 = .ok (.istore_n 3, 1) := by decide +kernel
theorem dX10_isItem_138 : decode cX10_isItem 138 = .ok (.iinc 4 1, 3) := by decide +kernel
theorem dX10_isItem_141 : decode cX10_isItem 141 = .ok (.goto (-103), 3) := by decide +kernel
theorem dX10_isItem_144 : decode cX10_isItem 144 = .ok (.iload_n 3, 1) := by decide +kernel
theorem dX10_isItem_145 : decode cX10_isItem 145 = .ok (.ifCond .eq 32, 3) := by decide +kernel
theorem dX10_isItem_148 : decode cX10_isItem 148 = .ok (.aload_n 0, 1) := by decide +kernel
theorem dX10_isItem_149 : decode cX10_isItem 149 = .ok (.getfield 73, 3) := by decide +kernel
theorem dX10_isItem_152 : decode cX10_isItem 152 = .ok (.aload_n 0, 1) := by decide +kernel
theorem dX10_isItem_153 : decode cX10_isItem 153 = .ok (.getfield 69, 3) := by decide +kernel
theorem dX10_isItem_156 : decode cX10_isItem 156 = .ok (.if_icmp .ge 21, 3) := by decide +kernel
theorem dX10_isItem_159 : decode cX10_isItem 159 = .ok (.aload_n 0, 1) := by decide +kernel
theorem dX10_isItem_160 : decode cX10_isItem 160 = .ok (.getfield 7, 3) := by decide +kernel
theorem dX10_isItem_163 : decode cX10_isItem 163 = .ok (.aload_n 0, 1) := by decide +kernel
theorem dX10_isItem_164 : decode cX10_isItem 164 = .ok (.getfield 73, 3) := by decide +kernel
theorem dX10_isItem_167 : decode cX10_isItem 167 = .ok (.baload, 1) := by decide +kernel
theorem dX10_isItem_168 : decode cX10_isItem 168 = .ok (.bipush 59, 2) := by decide +kernel
theorem dX10_isItem_170 : decode cX10_isItem 170 = .ok (.if_icmp .ne 7, 3) := by decide +kernel
theorem dX10_isItem_173 : decode cX10_isItem 173 = .ok (.iconst 1, 1) := by decide +kernel
theorem dX10_isItem_174 : decode cX10_isItem 174 = .ok (.goto 4, 3) := by decide +kernel
theorem dX10_isItem_177 : decode cX10_isItem 177 = .ok (.iconst 0, 1) := by decide +kernel
theorem dX10_isItem_178 : decode cX10_isItem 178 = .ok (.istore_n 3, 1) := by decide +kernel
theorem dX10_isItem_179 : decode cX10_isItem 179 = .ok (.aload_n 0, 1) := by decide +kernel
theorem dX10_isItem_180 : decode cX10_isItem 180 = .ok (.dup, 1) := by decide +kernel
theorem dX10_isItem_181 : decode cX10_isItem 181 = .ok (.getfield 73, 3) := by decide +kernel
theorem dX10_isItem_184 : decode cX10_isItem 184 = .ok (.iconst 1, 1) := by decide +kernel
theorem dX10_isItem_185 : decode cX10_isItem 185 = .ok (.iadd, 1) := by decide +kernel
theorem dX10_isItem_186 : decode cX10_isItem 186 = .ok (.putfield 73, 3) := by decide +kernel
theorem dX10_isItem_189 : decode cX10_isItem 189 = .ok (.iload_n 3, 1) := by decide +kernel
theorem dX10_isItem_190 : decode cX10_isItem 190 = .ok (.ifCond .eq 15, 3) := by decide +kernel
theorem dX10_isItem_193 : decode cX10_isItem 193 = .ok (.aload_n 0, 1) := by decide +kernel
theorem dX10_isItem_194 : decode cX10_isItem 194 = .ok (.iload_n 1, 1) := by decide +kernel
theorem dX10_isItem_195 : decode cX10_isItem 195 = .ok (.invokevirtual 90, 3) := by decide +kernel
theorem dX10_isItem_198 : decode cX10_isItem 198 = .ok (.ifCond .eq 7, 3) := by decide +kernel
theorem dX10_isItem_201 : decode cX10_isItem 201 = .ok (.iconst 1, 1) := by decide +kernel
theorem dX10_isItem_202 : decode cX10_isItem 202 = .ok (.goto 4, 3) := by decide +kernel
theorem dX10_isItem_205 : decode cX10_isItem 205 = .ok (.iconst 0, 1) := by decide +kernel
theorem dX10_isItem_206 : decode cX10_isItem 206 = .ok (.ireturn, 1) := by decide +kernel
theorem dX10_isGood_0 : decode cX10_isGood 0 = .ok (.iload_n 1, 1) := by decide +kernel
theorem dX10_isGood_1 : decode cX10_isGood 1 = .ok (.bipush 119, 2) := by decide +kernel
theorem dX10_isGood_3 : decode cX10_isGood 3 = .ok (.if_icmp .ne 178, 3) := by decide +kernel
theorem dX10_isGood_6 : decode cX10_isGood 6 = .ok (.aload_n 0, 1) := by decide +kernel
theorem dX10_isGood_7 : decode cX10_isGood 7 = .ok (.getfield 54, 3) := by decide +kernel
theorem dX10_isGood_10 : decode cX10_isGood 10 = .ok (.iconst 0, 1) := by decide +kernel
theorem dX10_isGood_11 : decode cX10_isGood 11 = .ok (.iaload, 1) := by decide +kernel
theorem dX10_isGood_12 : decode cX10_isGood 12 = .ok (.bipush 6, 2) := by decide +kernel
theorem dX10_isGood_14 : decode cX10_isGood 14 = .ok (.aload_n 0, 1) := by decide +kernel
theorem dX10_isGood_15 : decode cX10_isGood 15 = .ok (.getfield 54, 3) := by decide +kernel
theorem dX10_isGood_18 : decode cX10_isGood 18 = .ok (.iconst 1, 1) := by decide +kernel
theorem dX10_isGood_19 : decode cX10_isGood 19 = .ok (.iaload, 1) := by decide +kernel
theorem dX10_isGood_20 : decode cX10_isGood 20 = .ok (.imul, 1) := by decide +kernel
theorem dX10_isGood_21 : decode cX10_isGood 21 = .ok (.iadd, 1) := by decide +kernel
theorem dX10_isGood_22 : decode cX10_isGood 22 = .ok (.bipush 24, 2) := by decide +kernel
theorem dX10_isGood_24 : decode cX10_isGood 24 = .ok (.aload_n 0, 1) := by decide +kernel
theorem dX10_isGood_25 : decode cX10_isGood 25 = .ok (.getfield 54, 3) := by decide +kernel
theorem dX10_isGood_28 : decode cX10_isGood 28 = .ok (.iconst 2, 1) := by decide +kernel
theorem dX10_isGood_29 : decode cX10_isGood 29 = .ok (.iaload, 1) := by decide +kernel
theorem dX10_isGood_30 : decode cX10_isGood 30 = .ok (.imul, 1) := by decide +kernel
theorem dX10_isGood_31 : decode cX10_isGood 31 = .ok (.iadd, 1) := by decide +kernel
theorem dX10_isGood_32 : decode cX10_isGood 32 = .ok (.istore_n 2, 1) := by decide +kernel
theorem dX10_isGood_33 : decode cX10_isGood 33 = .ok (.aload_n 0, 1) := by decide +kernel
theorem dX10_isGood_34 : decode cX10_isGood 34 = .ok (.iconst 0, 1) := by decide +kernel
theorem dX10_isGood_35 : decode cX10_isGood 35 = .ok (.iconst 0, 1) := by decide +kernel
theorem dX10_isGood_36 : decode cX10_isGood 36 = .ok (.iconst 5, 1) := by decide +kernel
theorem dX10_isGood_37 : decode cX10_isGood 37 = .ok (.invokevirtual 94, 3) := by decide +kernel
theorem dX10_isGood_40 : decode cX10_isGood 40 = .ok (.ifCond .eq 38, 3) := by decide +kernel
theorem dX10_isGood_43 : decode cX10_isGood 43 = .ok (.aload_n 0, 1) := by decide +kernel
theorem dX10_isGood_44 : decode cX10_isGood 44 = .ok (.iconst 1, 1) := by decide +kernel
theorem dX10_isGood_45 : decode cX10_isGood 45 = .ok (.iconst 0, 1) := by decide +kernel
theorem dX10_isGood_46 : decode cX10_isGood 46 = .ok (.iconst 3, 1) := by decide +kernel
theorem dX10_isGood_47 : decode cX10_isGood 47 = .ok (.invokevirtual 94, 3) := by decide +kernel
theorem dX10_isGood_50 : decode cX10_isGood 50 = .ok (.ifCond .eq 28, 3) := by decide +kernel
theorem dX10_isGood_53 : decode cX10_isGood 53 = .ok (.aload_n 0, 1) := by decide +kernel
theorem dX10_isGood_54 : decode cX10_isGood 54 = .ok (.iconst 2, 1) := by decide +kernel
theorem dX10_isGood_55 : decode cX10_isGood 55 = .ok (.iconst 0, 1) := by decide +kernel
theorem dX10_isGood_56 : decode cX10_isGood 56 = .ok (.iconst 2, 1) := by decide +kernel
theorem dX10_isGood_57 : decode cX10_isGood 57 = .ok (.invokevirtual 94, 3) := by decide +kernel
theorem dX10_isGood_60 : decode cX10_isGood 60 = .ok (.ifCond .eq 18, 3) := by decide +kernel
theorem dX10_isGood_63 : decode cX10_isGood 63 = .ok (.aload_n 0, 1) := by decide +kernel
theorem dX10_isGood_64 : decode cX10_isGood 64 = .ok (.getfield 17, 3) := by decide +kernel
theorem dX10_isGood_67 : decode cX10_isGood 67 = .ok (.iconst 1, 1) := by decide +kernel
theorem dX10_isGood_68 : decode cX10_isGood 68 = .ok (.iaload, 1) := by decide +kernel
theorem dX10_isGood_69 : decode cX10_isGood 69 = .ok (.bipush 8, 2) := by decide +kernel
theorem dX10_isGood_71 : decode cX10_isGood 71 = .ok (.if_icmp .ge 7, 3) := by decide +kernel
theorem dX10_isGood_74 : decode cX10_isGood 74 = .ok (.iconst 1, 1) := by decide +kernel
theorem dX10_isGood_75 : decode cX10_isGood 75 = .ok (.goto 4, 3) := by decide +kernel
theorem dX10_isGood_78 : decode cX10_isGood 78 = .ok (.iconst 0, 1) := by decide +kernel
theorem dX10_isGood_79 : decode cX10_isGood 79 = .ok (.istore_n 3, 1) := by decide +kernel
theorem dX10_isGood_80 : decode cX10_isGood 80 = .ok (.iconst 0, 1) := by decide +kernel
theorem dX10_isGood_81 : decode cX10_isGood 81 = .ok (.istore 4, 2) := by decide +kernel
theorem dX10_isGood_83 : decode cX10_isGood 83 = .ok (.iload 4, 2) := by decide +kernel
theorem dX10_isGood_85 : decode cX10_isGood 85 = .ok (.aload_n 0, 1) := by decide +kernel
theorem dX10_isGood_86 : decode cX10_isGood 86 = .ok (.getfield 17, 3) := by decide +kernel
theorem dX10_isGood_89 : decode cX10_isGood 89 = .ok (.iconst 1, 1) := by decide +kernel
theorem dX10_isGood_90 : decode cX10_isGood 90 = .ok (.iaload, 1) := by decide +kernel
theorem dX10_isGood_91 : decode cX10_isGood 91 = .ok (.if_icmp .ge 35, 3) := by decide +kernel
theorem dX10_isGood_94 : decode cX10_isGood 94 = .ok (.iload_n 3, 1) := by decide +kernel
theorem dX10_isGood_95 : decode cX10_isGood 95 = .ok (.ifCond .eq 31, 3) := by decide +kernel
theorem dX10_isGood_98 : decode cX10_isGood 98 = .ok (.aload_n 0, 1) := by decide +kernel
theorem dX10_isGood_99 : decode cX10_isGood 99 = .ok (.getfield 20, 3) := by decide +kernel
theorem dX10_isGood_102 : decode cX10_isGood 102 = .ok (.bipush 16, 2) := by decide +kernel
theorem dX10_isGood_104 : decode cX10_isGood 104 = .ok (.iconst 2, 1) := by decide +kernel
theorem dX10_isGood_105 : decode cX10_isGood 105 = .ok (.iload 4, 2) := by decide +kernel
theorem dX10_isGood_107 : decode cX10_isGood 107 = .ok (.imul, 1) := by decide +kernel
theorem dX10_isGood_108 : decode cX10_isGood 108 = .ok (.iadd, 1) := by decide +kernel
theorem dX10_isGood_109 : decode cX10_isGood 109 = .ok (.iaload, 1) := by decide +kernel
theorem dX10_isGood_110 : decode cX10_isGood 110 = .ok (.iload_n 2, 1) := by decide +kernel
theorem dX10_isGood_111 : decode cX10_isGood 111 = .ok (.if_icmp .eq 7, 3) := by decide +kernel
theorem dX10_isGood_114 : decode cX10_isGood 114 = .ok (.iconst 1, 1) := by decide +kernel
theorem dX10_isGood_115 : decode cX10_isGood 115 = .ok (.goto 4, 3) := by decide +kernel
theorem dX10_isGood_118 : decode cX10_isGood 118 = .ok (.iconst 0, 1) := by decide +kernel
theorem dX10_isGood_119 : decode cX10_isGood 119 = .ok (.istore_n 3, 1) := by decide +kernel
theorem dX10_isGood_120 : decode cX10_isGood 120 = .ok (.iinc 4 1, 3) := by decide +kernel
theorem dX10_isGood_123 : decode cX10_isGood 123 = .ok (.goto (-40), 3) := by decide +kernel
theorem dX10_isGood_126 : decode cX10_isGood 126 = .ok (.iload_n 3, 1) := by decide +kernel
theorem dX10_isGood_127 : decode cX10_isGood 127 = .ok (.ifCond .eq 52, 3) := by decide +kernel
theorem dX10_isGood_130 : decode cX10_isGood 130 = .ok (.aload_n 0, 1) := by decide +kernel
theorem dX10_isGood_131 : decode cX10_isGood 131 = .ok (.getfield 20, 3) := by decide +kernel
theorem dX10_isGood_134 : decode cX10_isGood 134 = .ok (.bipush 16, 2) := by decide +kernel
theorem dX10_isGood_136 : decode cX10_isGood 136 = .ok (.iconst 2, 1) := by decide +kernel
theorem dX10_isGood_137 : decode cX10_isGood 137 = .ok (.aload_n 0, 1) := by decide +kernel
theorem dX10_isGood_138 : decode cX10_isGood 138 = .ok (.getfield 17, 3) := by decide +kernel
theorem dX10_isGood_141 : decode cX10_isGood 141 = .ok (.iconst 1, 1) := by decide +kernel
theorem dX10_isGood_142 : decode cX10_isGood 142 = .ok (.iaload, 1) := by decide +kernel
theorem dX10_isGood_143 : decode cX10_isGood 143 = .ok (.imul, 1) := by decide +kernel
theorem dX10_isGood_144 : decode cX10_isGood 144 = .ok (.iadd, 1) := by decide +kernel
theorem dX10_isGood_145 : decode cX10_isGood 145 = .ok (.iload_n 2, 1) := by decide +kernel
theorem dX10_isGood_146 : decode cX10_isGood 146 = .ok (.iastore, 1) := by decide +kernel
theorem dX10_isGood_147 : decode cX10_isGood 147 = .ok (.aload_n 0, 1) := by decide +kernel
theorem dX10_isGood_148 : decode cX10_isGood 148 = .ok (.getfield 20, 3) := by decide +kernel
theorem dX10_isGood_151 : decode cX10_isGood 151 = .ok (.bipush 17, 2) := by decide +kernel
theorem dX10_isGood_153 : decode cX10_isGood 153 = .ok (.iconst 2, 1) := by decide +kernel
theorem dX10_isGood_154 : decode cX10_isGood 154 = .ok (.aload_n 0, 1) := by decide +kernel
theorem dX10_isGood_155 : decode cX10_isGood 155 = .ok (.getfield 17, 3) := by decide +kernel
theorem dX10_isGood_158 : decode cX10_isGood 158 = .ok (.iconst 1, 1) := by decide +kernel
theorem dX10_isGood_159 : decode cX10_isGood 159 = .ok (.iaload, 1) := by decide +kernel
theorem dX10_isGood_160 : decode cX10_isGood 160 = .ok (.imul, 1) := by decide +kernel
theorem dX10_isGood_161 : decode cX10_isGood 161 = .ok (.iadd, 1) := by decide +kernel
theorem dX10_isGood_162 : decode cX10_isGood 162 = .ok (.aload_n 0, 1) := by decide +kernel
theorem dX10_isGood_163 : decode cX10_isGood 163 = .ok (.getfield 54, 3) := by decide +kernel
theorem dX10_isGood_166 : decode cX10_isGood 166 = .ok (.iconst 3, 1) := by decide +kernel
theorem dX10_isGood_167 : decode cX10_isGood 167 = .ok (.iaload, 1) := by decide +kernel
theorem dX10_isGood_168 : decode cX10_isGood 168 = .ok (.iastore, 1) := by decide +kernel
theorem dX10_isGood_169 : decode cX10_isGood 169 = .ok (.aload_n 0, 1) := by decide +kernel
theorem dX10_isGood_170 : decode cX10_isGood 170 = .ok (.getfield 17, 3) := by decide +kernel
theorem dX10_isGood_173 : decode cX10_isGood 173 = .ok (.iconst 1, 1) := by decide +kernel
theorem dX10_isGood_174 : decode cX10_isGood 174 = .ok (.dup2, 1) := by decide +kernel
theorem dX10_isGood_175 : decode cX10_isGood 175 = .ok (.iaload, 1) := by decide +kernel
theorem dX10_isGood_176 : decode cX10_isGood 176 = .ok (.iconst 1, 1) := by decide +kernel
theorem dX10_isGood_177 : decode cX10_isGood 177 = .ok (.iadd, 1) := by decide +kernel
theorem dX10_isGood_178 : decode cX10_isGood 178 = .ok (.iastore, 1) := by decide +kernel
theorem dX10_isGood_179 : decode cX10_isGood 179 = .ok (.iload_n 3, 1) := by decide +kernel
theorem dX10_isGood_180 : decode cX10_isGood 180 = .ok (.ireturn, 1) := by decide +kernel
theorem dX10_isGood_181 : decode cX10_isGood 181 = .ok (.iload_n 1, 1) := by decide +kernel
theorem dX10_isGood_182 : decode cX10_isGood 182 = .ok (.bipush 98, 2) := by decide +kernel
theorem dX10_isGood_184 : decode cX10_isGood 184 = .ok (.if_icmp .ne 55, 3) := by decide +kernel
theorem dX10_isGood_187 : decode cX10_isGood 187 = .ok (.aload_n 0, 1) := by decide +kernel
theorem dX10_isGood_188 : decode cX10_isGood 188 = .ok (.getfield 13, 3) := by decide +kernel
theorem dX10_isGood_191 : decode cX10_isGood 191 = .ok (.iconst 2, 1) := by decide +kernel
theorem dX10_isGood_192 : decode cX10_isGood 192 = .ok (.aload_n 0, 1) := by decide +kernel
theorem dX10_isGood_193 : decode cX10_isGood 193 = .ok (.getfield 54, 3) := by decide +kernel
theorem dX10_isGood_196 : decode cX10_isGood 196 = .ok (.iconst 0, 1) := by decide +kernel
theorem dX10_isGood_197 : decode cX10_isGood 197 = .ok (.iaload, 1) := by decide +kernel
theorem dX10_isGood_198 : decode cX10_isGood 198 = .ok (.iastore, 1) := by decide +kernel
theorem dX10_isGood_199 : decode cX10_isGood 199 = .ok (.aload_n 0, 1) := by decide +kernel
theorem dX10_isGood_200 : decode cX10_isGood 200 = .ok (.getfield 13, 3) := by decide +kernel
theorem dX10_isGood_203 : decode cX10_isGood 203 = .ok (.iconst 3, 1) := by decide +kernel
theorem dX10_isGood_204 : decode cX10_isGood 204 = .ok (.aload_n 0, 1) := by decide +kernel
theorem dX10_isGood_205 : decode cX10_isGood 205 = .ok (.getfield 54, 3) := by decide +kernel
theorem dX10_isGood_208 : decode cX10_isGood 208 = .ok (.iconst 1, 1) := by decide +kernel
theorem dX10_isGood_209 : decode cX10_isGood 209 = .ok (.iaload, 1) := by decide +kernel
theorem dX10_isGood_210 : decode cX10_isGood 210 = .ok (.iastore, 1) := by decide +kernel
theorem dX10_isGood_211 : decode cX10_isGood 211 = .ok (.aload_n 0, 1) := by decide +kernel
theorem dX10_isGood_212 : decode cX10_isGood 212 = .ok (.iconst 0, 1) := by decide +kernel
theorem dX10_isGood_213 : decode cX10_isGood 213 = .ok (.iconst 1, 1) := by decide +kernel
theorem dX10_isGood_214 : decode cX10_isGood 214 = .ok (.bipush 9, 2) := by decide +kernel
theorem dX10_isGood_216 : decode cX10_isGood 216 = .ok (.invokevirtual 94, 3) := by decide +kernel
theorem dX10_isGood_219 : decode cX10_isGood 219 = .ok (.ifCond .eq 18, 3) := by decide +kernel
theorem dX10_isGood_222 : decode cX10_isGood 222 = .ok (.aload_n 0, 1) := by decide +kernel
theorem dX10_isGood_223 : decode cX10_isGood 223 = .ok (.iconst 1, 1) := by decide +kernel
theorem dX10_isGood_224 : decode cX10_isGood 224 = .ok (.iconst 1, 1) := by decide +kernel
theorem dX10_isGood_225 : decode cX10_isGood 225 = .ok (.bipush 9, 2) := by decide +kernel
theorem dX10_isGood_227 : decode cX10_isGood 227 = .ok (.invokevirtual 94, 3) := by decide +kernel
theorem dX10_isGood_230 : decode cX10_isGood 230 = .ok (.ifCond .eq 7, 3) := by decide +kernel
theorem dX10_isGood_233 : decode cX10_isGood 233 = .ok (.iconst 1, 1) := by decide +kernel
theorem dX10_isGood_234 : decode cX10_isGood 234 = .ok (.goto 4, 3) := by decide +kernel
theorem dX10_isGood_237 : decode cX10_isGood 237 = .ok (.iconst 0, 1) := by decide +kernel
theorem dX10_isGood_238 : decode cX10_isGood 238 = .ok (.ireturn, 1) := by decide +kernel
theorem dX10_isGood_239 : decode cX10_isGood 239 = .ok (.iload_n 1, 1) := by decide +kernel
theorem dX10_isGood_240 : decode cX10_isGood 240 = .ok (.bipush 99, 2) := by decide +kernel
theorem dX10_isGood_242 : decode cX10_isGood 242 = .ok (.if_icmp .ne 93, 3) := by decide +kernel
theorem dX10_isGood_245 : decode cX10_isGood 245 = .ok (.aload_n 0, 1) := by decide +kernel
theorem dX10_isGood_246 : decode cX10_isGood 246 = .ok (.iconst 0, 1) := by decide +kernel
theorem dX10_isGood_247 : decode cX10_isGood 247 = .ok (.iconst 0, 1) := by decide +kernel
theorem dX10_isGood_248 : decode cX10_isGood 248 = .ok (.bipush 9, 2) := by decide +kernel
theorem dX10_isGood_250 : decode cX10_isGood 250 = .ok (.invokevirtual 94, 3) := by decide +kernel
theorem dX10_isGood_253 : decode cX10_isGood 253 = .ok (.ifCond .eq 24, 3) := by decide +kernel
theorem dX10_isGood_256 : decode cX10_isGood 256 = .ok (.aload_n 0, 1) := by decide +kernel
theorem dX10_isGood_257 : decode cX10_isGood 257 = .ok (.iconst 1, 1) := by decide +kernel
theorem dX10_isGood_258 : decode cX10_isGood 258 = .ok (.iconst 1, 1) := by decide +kernel
theorem dX10_isGood_259 : decode cX10_isGood 259 = .ok (.bipush 6, 2) := by decide +kernel
theorem dX10_isGood_261 : decode cX10_isGood 261 = .ok (.invokevirtual 94, 3) := by decide +kernel
theorem dX10_isGood_264 : decode cX10_isGood 264 = .ok (.ifCond .eq 13, 3) := by decide +kernel
theorem dX10_isGood_267 : decode cX10_isGood 267 = .ok (.aload_n 0, 1) := by decide +kernel
theorem dX10_isGood_268 : decode cX10_isGood 268 = .ok (.getfield 23, 3) := by decide +kernel
theorem dX10_isGood_271 : decode cX10_isGood 271 = .ok (.iconst 1, 1) := by decide +kernel
theorem dX10_isGood_272 : decode cX10_isGood 272 = .ok (.iaload, 1) := by decide +kernel
theorem dX10_isGood_273 : decode cX10_isGood 273 = .ok (.iconst 5, 1) := by decide +kernel
theorem dX10_isGood_274 : decode cX10_isGood 274 = .ok (.if_icmp .ne 5, 3) := by decide +kernel
theorem dX10_isGood_277 : decode cX10_isGood 277 = .ok (.iconst 0, 1) := by decide +kernel
theorem dX10_isGood_278 : decode cX10_isGood 278 = .ok (.ireturn, 1) := by decide +kernel
theorem dX10_isGood_279 : decode cX10_isGood 279 = .ok (.aload_n 0, 1) := by decide +kernel
theorem dX10_isGood_280 : decode cX10_isGood 280 = .ok (.getfield 26, 3) := by decide +kernel
theorem dX10_isGood_283 : decode cX10_isGood 283 = .ok (.bipush 10, 2) := by decide +kernel
theorem dX10_isGood_285 : decode cX10_isGood 285 = .ok (.iconst 2, 1) := by decide +kernel
theorem dX10_isGood_286 : decode cX10_isGood 286 = .ok (.aload_n 0, 1) := by decide +kernel
theorem dX10_isGood_287 : decode cX10_isGood 287 = .ok (.getfield 23, 3) := by decide +kernel
theorem dX10_isGood_290 : decode cX10_isGood 290 = .ok (.iconst 1, 1) := by decide +kernel
theorem dX10_isGood_291 : decode cX10_isGood 291 = .ok (.iaload, 1) := by decide +kernel
theorem dX10_isGood_292 : decode cX10_isGood 292 = .ok (.imul, 1) := by decide +kernel
theorem dX10_isGood_293 : decode cX10_isGood 293 = .ok (.iadd, 1) := by decide +kernel
theorem dX10_isGood_294 : decode cX10_isGood 294 = .ok (.aload_n 0, 1) := by decide +kernel
theorem dX10_isGood_295 : decode cX10_isGood 295 = .ok (.getfield 54, 3) := by decide +kernel
theorem dX10_isGood_298 : decode cX10_isGood 298 = .ok (.iconst 0, 1) := by decide +kernel
theorem dX10_isGood_299 : decode cX10_isGood 299 = .ok (.iaload, 1) := by decide +kernel
theorem dX10_isGood_300 : decode cX10_isGood 300 = .ok (.iastore, 1) := by decide +kernel
theorem dX10_isGood_301 : decode cX10_isGood 301 = .ok (.aload_n 0, 1) := by decide +kernel
theorem dX10_isGood_302 : decode cX10_isGood 302 = .ok (.getfield 26, 3) := by decide +kernel
theorem dX10_isGood_305 : decode cX10_isGood 305 = .ok (.bipush 11, 2) := by decide +kernel
theorem dX10_isGood_307 : decode cX10_isGood 307 = .ok (.iconst 2, 1) := by decide +kernel
theorem dX10_isGood_308 : decode cX10_isGood 308 = .ok (.aload_n 0, 1) := by decide +kernel
theorem dX10_isGood_309 : decode cX10_isGood 309 = .ok (.getfield 23, 3) := by decide +kernel
theorem dX10_isGood_312 : decode cX10_isGood 312 = .ok (.iconst 1, 1) := by decide +kernel
theorem dX10_isGood_313 : decode cX10_isGood 313 = .ok (.iaload, 1) := by decide +kernel
theorem dX10_isGood_314 : decode cX10_isGood 314 = .ok (.imul, 1) := by decide +kernel
theorem dX10_isGood_315 : decode cX10_isGood 315 = .ok (.iadd, 1) := by decide +kernel
theorem dX10_isGood_316 : decode cX10_isGood 316 = .ok (.aload_n 0, 1) := by decide +kernel
theorem dX10_isGood_317 : decode cX10_isGood 317 = .ok (.getfield 54, 3) := by decide +kernel
theorem dX10_isGood_320 : decode cX10_isGood 320 = .ok (.iconst 1, 1) := by decide +kernel
theorem dX10_isGood_321 : decode cX10_isGood 321 = .ok (.iaload, 1) := by decide +kernel
theorem dX10_isGood_322 : decode cX10_isGood 322 = .ok (.iastore, 1) := by decide +kernel
theorem dX10_isGood_323 : decode cX10_isGood 323 = .ok (.aload_n 0, 1) := by decide +kernel
theorem dX10_isGood_324 : decode cX10_isGood 324 = .ok (.getfield 23, 3) := by decide +kernel
theorem dX10_isGood_327 : decode cX10_isGood 327 = .ok (.iconst 1, 1) := by decide +kernel
theorem dX10_isGood_328 : decode cX10_isGood 328 = .ok (.dup2, 1) := by decide +kernel
theorem dX10_isGood_329 : decode cX10_isGood 329 = .ok (.iaload, 1) := by decide +kernel
theorem dX10_isGood_330 : decode cX10_isGood 330 = .ok (.iconst 1, 1) := by decide +kernel
theorem dX10_isGood_331 : decode cX10_isGood 331 = .ok (.iadd, 1) := by decide +kernel
theorem dX10_isGood_332 : decode cX10_isGood 332 = .ok (.iastore, 1) := by decide +kernel
theorem dX10_isGood_333 : decode cX10_isGood 333 = .ok (.iconst 1, 1) := by decide +kernel
theorem dX10_isGood_334 : decode cX10_isGood 334 = .ok (.ireturn, 1) := by decide +kernel
theorem dX10_isGood_335 : decode cX10_isGood 335 = .ok (.aload_n 0, 1) := by decide +kernel
theorem dX10_isGood_336 : decode cX10_isGood 336 = .ok (.iconst 0, 1) := by decide +kernel
theorem dX10_isGood_337 : decode cX10_isGood 337 = .ok (.iconst 0, 1) := by decide +kernel
theorem dX10_isGood_338 : decode cX10_isGood 338 = .ok (.bipush 63, 2) := by decide +kernel
theorem dX10_isGood_340 : decode cX10_isGood 340 = .ok (.invokevirtual 94, 3) := by decide +kernel
theorem dX10_isGood_343 : decode cX10_isGood 343 = .ok (.ifCond .eq 13, 3) := by decide +kernel
theorem dX10_isGood_346 : decode cX10_isGood 346 = .ok (.aload_n 0, 1) := by decide +kernel
theorem dX10_isGood_347 : decode cX10_isGood 347 = .ok (.getfield 29, 3) := by decide +kernel
theorem dX10_isGood_350 : decode cX10_isGood 350 = .ok (.iconst 1, 1) := by decide +kernel
theorem dX10_isGood_351 : decode cX10_isGood 351 = .ok (.iaload, 1) := by decide +kernel
theorem dX10_isGood_352 : decode cX10_isGood 352 = .ok (.iconst 5, 1) := by decide +kernel
theorem dX10_isGood_353 : decode cX10_isGood 353 = .ok (.if_icmp .ne 5, 3) := by decide +kernel
theorem dX10_isGood_356 : decode cX10_isGood 356 = .ok (.iconst 0, 1) := by decide +kernel
theorem dX10_isGood_357 : decode cX10_isGood 357 = .ok (.ireturn, 1) := by decide +kernel
theorem dX10_isGood_358 : decode cX10_isGood 358 = .ok (.aload_n 0, 1) := by decide +kernel
theorem dX10_isGood_359 : decode cX10_isGood 359 = .ok (.getfield 32, 3) := by decide +kernel
theorem dX10_isGood_362 : decode cX10_isGood 362 = .ok (.iconst 5, 1) := by decide +kernel
theorem dX10_isGood_363 : decode cX10_isGood 363 = .ok (.aload_n 0, 1) := by decide +kernel
theorem dX10_isGood_364 : decode cX10_isGood 364 = .ok (.getfield 29, 3) := by decide +kernel
theorem dX10_isGood_367 : decode cX10_isGood 367 = .ok (.iconst 1, 1) := by decide +kernel
theorem dX10_isGood_368 : decode cX10_isGood 368 = .ok (.iaload, 1) := by decide +kernel
theorem dX10_isGood_369 : decode cX10_isGood 369 = .ok (.iadd, 1) := by decide +kernel
theorem dX10_isGood_370 : decode cX10_isGood 370 = .ok (.aload_n 0, 1) := by decide +kernel
theorem dX10_isGood_371 : decode cX10_isGood 371 = .ok (.getfield 54, 3) := by decide +kernel
theorem dX10_isGood_374 : decode cX10_isGood 374 = .ok (.iconst 0, 1) := by decide +kernel
theorem dX10_isGood_375 : decode cX10_isGood 375 = .ok (.iaload, 1) := by decide +kernel
theorem dX10_isGood_376 : decode cX10_isGood 376 = .ok (.iastore, 1) := by decide +kernel
theorem dX10_isGood_377 : decode cX10_isGood 377 = .ok (.aload_n 0, 1) := by decide +kernel
theorem dX10_isGood_378 : decode cX10_isGood 378 = .ok (.getfield 29, 3) := by decide +kernel
theorem dX10_isGood_381 : decode cX10_isGood 381 = .ok (.iconst 1, 1) := by decide +kernel
theorem dX10_isGood_382 : decode cX10_isGood 382 = .ok (.dup2, 1) := by decide +kernel
theorem dX10_isGood_383 : decode cX10_isGood 383 = .ok (.iaload, 1) := by decide +kernel
theorem dX10_isGood_384 : decode cX10_isGood 384 = .ok (.iconst 1, 1) := by decide +kernel
theorem dX10_isGood_385 : decode cX10_isGood 385 = .ok (.iadd, 1) := by decide +kernel
theorem dX10_isGood_386 : decode cX10_isGood 386 = .ok (.iastore, 1) := by decide +kernel
theorem dX10_isGood_387 : decode cX10_isGood 387 = .ok (.iconst 1, 1) := by decide +kernel
theorem dX10_isGood_388 : decode cX10_isGood 388 = .ok (.ireturn, 1) := by decide +kernel
theorem dX10_begins_0 : decode cX10_begins 0 = .ok (.aload_n 0, 1) := by decide +kernel
theorem dX10_begins_1 : decode cX10_begins 1 = .ok (.getfield 17, 3) := by decide +kernel
theorem dX10_begins_4 : decode cX10_begins 4 = .ok (.iconst 1, 1) := by decide +kernel
theorem dX10_begins_5 : decode cX10_begins 5 = .ok (.iconst 0, 1) := by decide +kernel
theorem dX10_begins_6 : decode cX10_begins 6 = .ok (.iastore, 1) := by decide +kernel
theorem dX10_begins_7 : decode cX10_begins 7 = .ok (.aload_n 0, 1) := by decide +kernel
theorem dX10_begins_8 : decode cX10_begins 8 = .ok (.getfield 23, 3) := by decide +kernel
theorem dX10_begins_11 : decode cX10_begins 11 = .ok (.iconst 1, 1) := by decide +kernel
theorem dX10_begins_12 : decode cX10_begins 12 = .ok (.iconst 0, 1) := by decide +kernel
theorem dX10_begins_13 : decode cX10_begins 13 = .ok (.iastore, 1) := by decide +kernel
theorem dX10_begins_14 : decode cX10_begins 14 = .ok (.aload_n 0, 1) := by decide +kernel
theorem dX10_begins_15 : decode cX10_begins 15 = .ok (.getfield 29, 3) := by decide +kernel
theorem dX10_begins_18 : decode cX10_begins 18 = .ok (.iconst 1, 1) := by decide +kernel
theorem dX10_begins_19 : decode cX10_begins 19 = .ok (.iconst 0, 1) := by decide +kernel
theorem dX10_begins_20 : decode cX10_begins 20 = .ok (.iastore, 1) := by decide +kernel
theorem dX10_begins_21 : decode cX10_begins 21 = .ok (.aload_n 0, 1) := by decide +kernel
theorem dX10_begins_22 : decode cX10_begins 22 = .ok (.getfield 13, 3) := by decide +kernel
theorem dX10_begins_25 : decode cX10_begins 25 = .ok (.iconst 2, 1) := by decide +kernel
theorem dX10_begins_26 : decode cX10_begins 26 = .ok (.iconst 2, 1) := by decide +kernel
theorem dX10_begins_27 : decode cX10_begins 27 = .ok (.iastore, 1) := by decide +kernel
theorem dX10_begins_28 : decode cX10_begins 28 = .ok (.aload_n 0, 1) := by decide +kernel
theorem dX10_begins_29 : decode cX10_begins 29 = .ok (.getfield 13, 3) := by decide +kernel
theorem dX10_begins_32 : decode cX10_begins 32 = .ok (.iconst 3, 1) := by decide +kernel
theorem dX10_begins_33 : decode cX10_begins 33 = .ok (.iconst 3, 1) := by decide +kernel
theorem dX10_begins_34 : decode cX10_begins 34 = .ok (.iastore, 1) := by decide +kernel
theorem dX10_begins_35 : decode cX10_begins 35 = .ok (.return_, 1) := by decide +kernel
theorem dX10_takes_0 : decode cX10_takes 0 = .ok (.aload_n 0, 1) := by decide +kernel
theorem dX10_takes_1 : decode cX10_takes 1 = .ok (.getfield 17, 3) := by decide +kernel
theorem dX10_takes_4 : decode cX10_takes 4 = .ok (.iconst 0, 1) := by decide +kernel
theorem dX10_takes_5 : decode cX10_takes 5 = .ok (.aload_n 0, 1) := by decide +kernel
theorem dX10_takes_6 : decode cX10_takes 6 = .ok (.getfield 17, 3) := by decide +kernel
theorem dX10_takes_9 : decode cX10_takes 9 = .ok (.iconst 1, 1) := by decide +kernel
theorem dX10_takes_10 : decode cX10_takes 10 = .ok (.iaload, 1) := by decide +kernel
theorem dX10_takes_11 : decode cX10_takes 11 = .ok (.iastore, 1) := by decide +kernel
theorem dX10_takes_12 : decode cX10_takes 12 = .ok (.aload_n 0, 1) := by decide +kernel
theorem dX10_takes_13 : decode cX10_takes 13 = .ok (.getfield 23, 3) := by decide +kernel
theorem dX10_takes_16 : decode cX10_takes 16 = .ok (.iconst 0, 1) := by decide +kernel
theorem dX10_takes_17 : decode cX10_takes 17 = .ok (.aload_n 0, 1) := by decide +kernel
theorem dX10_takes_18 : decode cX10_takes 18 = .ok (.getfield 23, 3) := by decide +kernel
theorem dX10_takes_21 : decode cX10_takes 21 = .ok (.iconst 1, 1) := by decide +kernel
theorem dX10_takes_22 : decode cX10_takes 22 = .ok (.iaload, 1) := by decide +kernel
theorem dX10_takes_23 : decode cX10_takes 23 = .ok (.iastore, 1) := by decide +kernel
theorem dX10_takes_24 : decode cX10_takes 24 = .ok (.aload_n 0, 1) := by decide +kernel
theorem dX10_takes_25 : decode cX10_takes 25 = .ok (.getfield 29, 3) := by decide +kernel
theorem dX10_takes_28 : decode cX10_takes 28 = .ok (.iconst 0, 1) := by decide +kernel
theorem dX10_takes_29 : decode cX10_takes 29 = .ok (.aload_n 0, 1) := by decide +kernel
theorem dX10_takes_30 : decode cX10_takes 30 = .ok (.getfield 29, 3) := by decide +kernel
theorem dX10_takes_33 : decode cX10_takes 33 = .ok (.iconst 1, 1) := by decide +kernel
theorem dX10_takes_34 : decode cX10_takes 34 = .ok (.iaload, 1) := by decide +kernel
theorem dX10_takes_35 : decode cX10_takes 35 = .ok (.iastore, 1) := by decide +kernel
theorem dX10_takes_36 : decode cX10_takes 36 = .ok (.aload_n 0, 1) := by decide +kernel
theorem dX10_takes_37 : decode cX10_takes 37 = .ok (.getfield 13, 3) := by decide +kernel
theorem dX10_takes_40 : decode cX10_takes 40 = .ok (.iconst 0, 1) := by decide +kernel
theorem dX10_takes_41 : decode cX10_takes 41 = .ok (.aload_n 0, 1) := by decide +kernel
theorem dX10_takes_42 : decode cX10_takes 42 = .ok (.getfield 13, 3) := by decide +kernel
theorem dX10_takes_45 : decode cX10_takes 45 = .ok (.iconst 2, 1) := by decide +kernel
theorem dX10_takes_46 : decode cX10_takes 46 = .ok (.iaload, 1) := by decide +kernel
theorem dX10_takes_47 : decode cX10_takes 47 = .ok (.iastore, 1) := by decide +kernel
theorem dX10_takes_48 : decode cX10_takes 48 = .ok (.aload_n 0, 1) := by decide +kernel
theorem dX10_takes_49 : decode cX10_takes 49 = .ok (.getfield 13, 3) := by decide +kernel
theorem dX10_takes_52 : decode cX10_takes 52 = .ok (.iconst 1, 1) := by decide +kernel
theorem dX10_takes_53 : decode cX10_takes 53 = .ok (.aload_n 0, 1) := by decide +kernel
theorem dX10_takes_54 : decode cX10_takes 54 = .ok (.getfield 13, 3) := by decide +kernel
theorem dX10_takes_57 : decode cX10_takes 57 = .ok (.iconst 3, 1) := by decide +kernel
theorem dX10_takes_58 : decode cX10_takes 58 = .ok (.iaload, 1) := by decide +kernel
theorem dX10_takes_59 : decode cX10_takes 59 = .ok (.iastore, 1) := by decide +kernel
theorem dX10_takes_60 : decode cX10_takes 60 = .ok (.iconst 0, 1) := by decide +kernel
theorem dX10_takes_61 : decode cX10_takes 61 = .ok (.istore_n 1, 1) := by decide +kernel
theorem dX10_takes_62 : decode cX10_takes 62 = .ok (.iload_n 1, 1) := by decide +kernel
theorem dX10_takes_63 : decode cX10_takes 63 = .ok (.bipush 16, 2) := by decide +kernel
theorem dX10_takes_65 : decode cX10_takes 65 = .ok (.if_icmp .ge 64, 3) := by decide +kernel
theorem dX10_takes_68 : decode cX10_takes 68 = .ok (.aload_n 0, 1) := by decide +kernel
theorem dX10_takes_69 : decode cX10_takes 69 = .ok (.getfield 20, 3) := by decide +kernel
theorem dX10_takes_72 : decode cX10_takes 72 = .ok (.iload_n 1, 1) := by decide +kernel
theorem dX10_takes_73 : decode cX10_takes 73 = .ok (.aload_n 0, 1) := by decide +kernel
theorem dX10_takes_74 : decode cX10_takes 74 = .ok (.getfield 20, 3) := by decide +kernel
theorem dX10_takes_77 : decode cX10_takes 77 = .ok (.bipush 16, 2) := by decide +kernel
theorem dX10_takes_79 : decode cX10_takes 79 = .ok (.iload_n 1, 1) := by decide +kernel
theorem dX10_takes_80 : decode cX10_takes 80 = .ok (.iadd, 1) := by decide +kernel
theorem dX10_takes_81 : decode cX10_takes 81 = .ok (.iaload, 1) := by decide +kernel
theorem dX10_takes_82 : decode cX10_takes 82 = .ok (.iastore, 1) := by decide +kernel
theorem dX10_takes_83 : decode cX10_takes 83 = .ok (.iload_n 1, 1) := by decide +kernel
theorem dX10_takes_84 : decode cX10_takes 84 = .ok (.bipush 10, 2) := by decide +kernel
theorem dX10_takes_86 : decode cX10_takes 86 = .ok (.if_icmp .ge 18, 3) := by decide +kernel
theorem dX10_takes_89 : decode cX10_takes 89 = .ok (.aload_n 0, 1) := by decide +kernel
theorem dX10_takes_90 : decode cX10_takes 90 = .ok (.getfield 26, 3) := by decide +kernel
theorem dX10_takes_93 : decode cX10_takes 93 = .ok (.iload_n 1, 1) := by decide +kernel
theorem dX10_takes_94 : decode cX10_takes 94 = .ok (.aload_n 0, 1) := by decide +kernel
theorem dX10_takes_95 : decode cX10_takes 95 = .ok (.getfield 26, 3) := by decide +kernel
theorem dX10_takes_98 : decode cX10_takes 98 = .ok (.bipush 10, 2) := by decide +kernel
theorem dX10_takes_100 : decode cX10_takes 100 = .ok (.iload_n 1, 1) := by decide +kernel
theorem dX10_takes_101 : decode cX10_takes 101 = .ok (.iadd, 1) := by decide +kernel
theorem dX10_takes_102 : decode cX10_takes 102 = .ok (.iaload, 1) := by decide +kernel
theorem dX10_takes_103 : decode cX10_takes 103 = .ok (.iastore, 1) := by decide +kernel
theorem dX10_takes_104 : decode cX10_takes 104 = .ok (.iload_n 1, 1) := by decide +kernel
theorem dX10_takes_105 : decode cX10_takes 105 = .ok (.iconst 5, 1) := by decide +kernel
theorem dX10_takes_106 : decode cX10_takes 106 = .ok (.if_icmp .ge 17, 3) := by decide +kernel
theorem dX10_takes_109 : decode cX10_takes 109 = .ok (.aload_n 0, 1) := by decide +kernel
theorem dX10_takes_110 : decode cX10_takes 110 = .ok (.getfield 32, 3) := by decide +kernel
theorem dX10_takes_113 : decode cX10_takes 113 = .ok (.iload_n 1, 1) := by decide +kernel
theorem dX10_takes_114 : decode cX10_takes 114 = .ok (.aload_n 0, 1) := by decide +kernel
theorem dX10_takes_115 : decode cX10_takes 115 = .ok (.getfield 32, 3) := by decide +kernel
theorem dX10_takes_118 : decode cX10_takes 118 = .ok (.iconst 5, 1) := by decide +kernel
theorem dX10_takes_119 : decode cX10_takes 119 = .ok (.iload_n 1, 1) := by decide +kernel
theorem dX10_takes_120 : decode cX10_takes 120 = .ok (.iadd, 1) := by decide +kernel
theorem dX10_takes_121 : decode cX10_takes 121 = .ok (.iaload, 1) := by decide +kernel
theorem dX10_takes_122 : decode cX10_takes 122 = .ok (.iastore, 1) := by decide +kernel
theorem dX10_takes_123 : decode cX10_takes 123 = .ok (.iinc 1 1, 3) := by decide +kernel
theorem dX10_takes_126 : decode cX10_takes 126 = .ok (.goto (-64), 3) := by decide +kernel
theorem dX10_takes_129 : decode cX10_takes 129 = .ok (.aload_n 0, 1) := by decide +kernel
theorem dX10_takes_130 : decode cX10_takes 130 = .ok (.getfield 35, 3) := by decide +kernel
theorem dX10_takes_133 : decode cX10_takes 133 = .ok (.iconst 0, 1) := by decide +kernel
theorem dX10_takes_134 : decode cX10_takes 134 = .ok (.iconst 0, 1) := by decide +kernel
theorem dX10_takes_135 : decode cX10_takes 135 = .ok (.iastore, 1) := by decide +kernel
theorem dX10_takes_136 : decode cX10_takes 136 = .ok (.aload_n 0, 1) := by decide +kernel
theorem dX10_takes_137 : decode cX10_takes 137 = .ok (.getfield 41, 3) := by decide +kernel
theorem dX10_takes_140 : decode cX10_takes 140 = .ok (.iconst 0, 1) := by decide +kernel
theorem dX10_takes_141 : decode cX10_takes 141 = .ok (.iconst 0, 1) := by decide +kernel
theorem dX10_takes_142 : decode cX10_takes 142 = .ok (.iastore, 1) := by decide +kernel
theorem dX10_takes_143 : decode cX10_takes 143 = .ok (.aload_n 0, 1) := by decide +kernel
theorem dX10_takes_144 : decode cX10_takes 144 = .ok (.iconst 0, 1) := by decide +kernel
theorem dX10_takes_145 : decode cX10_takes 145 = .ok (.putfield 98, 3) := by decide +kernel
theorem dX10_takes_148 : decode cX10_takes 148 = .ok (.aload_n 0, 1) := by decide +kernel
theorem dX10_takes_149 : decode cX10_takes 149 = .ok (.iconst 0, 1) := by decide +kernel
theorem dX10_takes_150 : decode cX10_takes 150 = .ok (.putfield 101, 3) := by decide +kernel
theorem dX10_takes_153 : decode cX10_takes 153 = .ok (.return_, 1) := by decide +kernel
theorem dX10_fault_0 : decode cX10_fault 0 = .ok (.aload_n 0, 1) := by decide +kernel
theorem dX10_fault_1 : decode cX10_fault 1 = .ok (.iconst 0, 1) := by decide +kernel
theorem dX10_fault_2 : decode cX10_fault 2 = .ok (.putfield 73, 3) := by decide +kernel
theorem dX10_fault_5 : decode cX10_fault 5 = .ok (.aload_n 0, 1) := by decide +kernel
theorem dX10_fault_6 : decode cX10_fault 6 = .ok (.invokevirtual 57, 3) := by decide +kernel
theorem dX10_fault_9 : decode cX10_fault 9 = .ok (.aload_n 0, 1) := by decide +kernel
theorem dX10_fault_10 : decode cX10_fault 10 = .ok (.getfield 73, 3) := by decide +kernel
theorem dX10_fault_13 : decode cX10_fault 13 = .ok (.aload_n 0, 1) := by decide +kernel
theorem dX10_fault_14 : decode cX10_fault 14 = .ok (.getfield 69, 3) := by decide +kernel
theorem dX10_fault_17 : decode cX10_fault 17 = .ok (.if_icmp .ge 20, 3) := by decide +kernel
theorem dX10_fault_20 : decode cX10_fault 20 = .ok (.aload_n 0, 1) := by decide +kernel
theorem dX10_fault_21 : decode cX10_fault 21 = .ok (.getfield 73, 3) := by decide +kernel
theorem dX10_fault_24 : decode cX10_fault 24 = .ok (.istore_n 1, 1) := by decide +kernel
theorem dX10_fault_25 : decode cX10_fault 25 = .ok (.aload_n 0, 1) := by decide +kernel
theorem dX10_fault_26 : decode cX10_fault 26 = .ok (.invokevirtual 104, 3) := by decide +kernel
theorem dX10_fault_29 : decode cX10_fault 29 = .ok (.ifCond .ne 5, 3) := by decide +kernel
theorem dX10_fault_32 : decode cX10_fault 32 = .ok (.iload_n 1, 1) := by decide +kernel
theorem dX10_fault_33 : decode cX10_fault 33 = .ok (.ireturn, 1) := by decide +kernel
theorem dX10_fault_34 : decode cX10_fault 34 = .ok (.goto (-25), 3) := by decide +kernel
theorem dX10_fault_37 : decode cX10_fault 37 = .ok (.bipush (-4), 2) := by decide +kernel
theorem dX10_fault_39 : decode cX10_fault 39 = .ok (.ireturn, 1) := by decide +kernel
theorem dX10_lay_0 : decode cX10_lay 0 = .ok (.aload_n 0, 1) := by decide +kernel
theorem dX10_lay_1 : decode cX10_lay 1 = .ok (.invokevirtual 108, 3) := by decide +kernel
theorem dX10_lay_4 : decode cX10_lay 4 = .ok (.bipush (-4), 2) := by decide +kernel
theorem dX10_lay_6 : decode cX10_lay 6 = .ok (.if_icmp .ne 12, 3) := by decide +kernel
theorem dX10_lay_9 : decode cX10_lay 9 = .ok (.aload_n 0, 1) := by decide +kernel
theorem dX10_lay_10 : decode cX10_lay 10 = .ok (.getfield 17, 3) := by decide +kernel
theorem dX10_lay_13 : decode cX10_lay 13 = .ok (.iconst 1, 1) := by decide +kernel
theorem dX10_lay_14 : decode cX10_lay 14 = .ok (.iaload, 1) := by decide +kernel
theorem dX10_lay_15 : decode cX10_lay 15 = .ok (.ifCond .ne 6, 3) := by decide +kernel
theorem dX10_lay_18 : decode cX10_lay 18 = .ok (.bipush (-2), 2) := by decide +kernel
theorem dX10_lay_20 : decode cX10_lay 20 = .ok (.ireturn, 1) := by decide +kernel
theorem dX10_lay_21 : decode cX10_lay 21 = .ok (.aload_n 0, 1) := by decide +kernel
theorem dX10_lay_22 : decode cX10_lay 22 = .ok (.invokevirtual 60, 3) := by decide +kernel
theorem dX10_lay_25 : decode cX10_lay 25 = .ok (.aload_n 0, 1) := by decide +kernel
theorem dX10_lay_26 : decode cX10_lay 26 = .ok (.getfield 17, 3) := by decide +kernel
theorem dX10_lay_29 : decode cX10_lay 29 = .ok (.iconst 0, 1) := by decide +kernel
theorem dX10_lay_30 : decode cX10_lay 30 = .ok (.iaload, 1) := by decide +kernel
theorem dX10_lay_31 : decode cX10_lay 31 = .ok (.ireturn, 1) := by decide +kernel
theorem dX10_isWord_0 : decode cX10_isWord 0 = .ok (.iload_n 1, 1) := by decide +kernel
theorem dX10_isWord_1 : decode cX10_isWord 1 = .ok (.i2l, 1) := by decide +kernel
theorem dX10_isWord_2 : decode cX10_isWord 2 = .ok (.lconst 0, 1) := by decide +kernel
theorem dX10_isWord_3 : decode cX10_isWord 3 = .ok (.aload_n 0, 1) := by decide +kernel
theorem dX10_isWord_4 : decode cX10_isWord 4 = .ok (.getfield 17, 3) := by decide +kernel
theorem dX10_isWord_7 : decode cX10_isWord 7 = .ok (.iconst 0, 1) := by decide +kernel
theorem dX10_isWord_8 : decode cX10_isWord 8 = .ok (.iaload, 1) := by decide +kernel
theorem dX10_isWord_9 : decode cX10_isWord 9 = .ok (.iconst 1, 1) := by decide +kernel
theorem dX10_isWord_10 : decode cX10_isWord 10 = .ok (.isub, 1) := by decide +kernel
theorem dX10_isWord_11 : decode cX10_isWord 11 = .ok (.i2l, 1) := by decide +kernel
theorem dX10_isWord_12 : decode cX10_isWord 12 = .ok (.invokestatic 65, 3) := by decide +kernel
theorem dX10_isWord_15 : decode cX10_isWord 15 = .ok (.ireturn, 1) := by decide +kernel
theorem dX10_flourOf_0 : decode cX10_flourOf 0 = .ok (.iconst 1, 1) := by decide +kernel
theorem dX10_flourOf_1 : decode cX10_flourOf 1 = .ok (.iload_n 0, 1) := by decide +kernel
theorem dX10_flourOf_2 : decode cX10_flourOf 2 = .ok (.bipush 6, 2) := by decide +kernel
theorem dX10_flourOf_4 : decode cX10_flourOf 4 = .ok (.irem, 1) := by decide +kernel
theorem dX10_flourOf_5 : decode cX10_flourOf 5 = .ok (.iadd, 1) := by decide +kernel
theorem dX10_flourOf_6 : decode cX10_flourOf 6 = .ok (.iconst 2, 1) := by decide +kernel
theorem dX10_flourOf_7 : decode cX10_flourOf 7 = .ok (.iload_n 0, 1) := by decide +kernel
theorem dX10_flourOf_8 : decode cX10_flourOf 8 = .ok (.bipush 6, 2) := by decide +kernel
theorem dX10_flourOf_10 : decode cX10_flourOf 10 = .ok (.idiv, 1) := by decide +kernel
theorem dX10_flourOf_11 : decode cX10_flourOf 11 = .ok (.iconst 4, 1) := by decide +kernel
theorem dX10_flourOf_12 : decode cX10_flourOf 12 = .ok (.irem, 1) := by decide +kernel
theorem dX10_flourOf_13 : decode cX10_flourOf 13 = .ok (.imul, 1) := by decide +kernel
theorem dX10_flourOf_14 : decode cX10_flourOf 14 = .ok (.iadd, 1) := by decide +kernel
theorem dX10_flourOf_15 : decode cX10_flourOf 15 = .ok (.iconst 3, 1) := by decide +kernel
theorem dX10_flourOf_16 : decode cX10_flourOf 16 = .ok (.iload_n 0, 1) := by decide +kernel
theorem dX10_flourOf_17 : decode cX10_flourOf 17 = .ok (.bipush 24, 2) := by decide +kernel
theorem dX10_flourOf_19 : decode cX10_flourOf 19 = .ok (.idiv, 1) := by decide +kernel
theorem dX10_flourOf_20 : decode cX10_flourOf 20 = .ok (.imul, 1) := by decide +kernel
theorem dX10_flourOf_21 : decode cX10_flourOf 21 = .ok (.iadd, 1) := by decide +kernel
theorem dX10_flourOf_22 : decode cX10_flourOf 22 = .ok (.ireturn, 1) := by decide +kernel
theorem dX10_word_0 : decode cX10_word 0 = .ok (.aload_n 0, 1) := by decide +kernel
theorem dX10_word_1 : decode cX10_word 1 = .ok (.iload_n 1, 1) := by decide +kernel
theorem dX10_word_2 : decode cX10_word 2 = .ok (.invokevirtual 111, 3) := by decide +kernel
theorem dX10_word_5 : decode cX10_word 5 = .ok (.ifCond .eq 15, 3) := by decide +kernel
theorem dX10_word_8 : decode cX10_word 8 = .ok (.iload_n 2, 1) := by decide +kernel
theorem dX10_word_9 : decode cX10_word 9 = .ok (.i2l, 1) := by decide +kernel
theorem dX10_word_10 : decode cX10_word 10 = .ok (.lconst 0, 1) := by decide +kernel
theorem dX10_word_11 : decode cX10_word 11 = .ok (.ldc2_w 80, 3) := by decide +kernel
theorem dX10_word_14 : decode cX10_word 14 = .ok (.invokestatic 65, 3) := by decide +kernel
theorem dX10_word_17 : decode cX10_word 17 = .ok (.ifCond .ne 7, 3) := by decide +kernel
theorem dX10_word_20 : decode cX10_word 20 = .ok (.iconst (-1), 1) := by decide +kernel
theorem dX10_word_21 : decode cX10_word 21 = .ok (.goto 32, 3) := by decide +kernel
theorem dX10_word_24 : decode cX10_word 24 = .ok (.iload_n 2, 1) := by decide +kernel
theorem dX10_word_25 : decode cX10_word 25 = .ok (.iconst 2, 1) := by decide +kernel
theorem dX10_word_26 : decode cX10_word 26 = .ok (.if_icmp .ge 16, 3) := by decide +kernel
theorem dX10_word_29 : decode cX10_word 29 = .ok (.aload_n 0, 1) := by decide +kernel
theorem dX10_word_30 : decode cX10_word 30 = .ok (.getfield 20, 3) := by decide +kernel
theorem dX10_word_33 : decode cX10_word 33 = .ok (.iconst 2, 1) := by decide +kernel
theorem dX10_word_34 : decode cX10_word 34 = .ok (.iload_n 1, 1) := by decide +kernel
theorem dX10_word_35 : decode cX10_word 35 = .ok (.imul, 1) := by decide +kernel
theorem dX10_word_36 : decode cX10_word 36 = .ok (.iload_n 2, 1) := by decide +kernel
theorem dX10_word_37 : decode cX10_word 37 = .ok (.iadd, 1) := by decide +kernel
theorem dX10_word_38 : decode cX10_word 38 = .ok (.iaload, 1) := by decide +kernel
theorem dX10_word_39 : decode cX10_word 39 = .ok (.goto 14, 3) := by decide +kernel
theorem dX10_word_42 : decode cX10_word 42 = .ok (.aload_n 0, 1) := by decide +kernel
theorem dX10_word_43 : decode cX10_word 43 = .ok (.getfield 20, 3) := by decide +kernel
theorem dX10_word_46 : decode cX10_word 46 = .ok (.iconst 2, 1) := by decide +kernel
theorem dX10_word_47 : decode cX10_word 47 = .ok (.iload_n 1, 1) := by decide +kernel
theorem dX10_word_48 : decode cX10_word 48 = .ok (.imul, 1) := by decide +kernel
theorem dX10_word_49 : decode cX10_word 49 = .ok (.iaload, 1) := by decide +kernel
theorem dX10_word_50 : decode cX10_word 50 = .ok (.invokestatic 114, 3) := by decide +kernel
theorem dX10_word_53 : decode cX10_word 53 = .ok (.ireturn, 1) := by decide +kernel
theorem dX10_aged_0 : decode cX10_aged 0 = .ok (.iload_n 1, 1) := by decide +kernel
theorem dX10_aged_1 : decode cX10_aged 1 = .ok (.bipush 6, 2) := by decide +kernel
theorem dX10_aged_3 : decode cX10_aged 3 = .ok (.irem, 1) := by decide +kernel
theorem dX10_aged_4 : decode cX10_aged 4 = .ok (.iload_n 2, 1) := by decide +kernel
theorem dX10_aged_5 : decode cX10_aged 5 = .ok (.aload_n 0, 1) := by decide +kernel
theorem dX10_aged_6 : decode cX10_aged 6 = .ok (.getfield 13, 3) := by decide +kernel
theorem dX10_aged_9 : decode cX10_aged 9 = .ok (.iconst 0, 1) := by decide +kernel
theorem dX10_aged_10 : decode cX10_aged 10 = .ok (.iaload, 1) := by decide +kernel
theorem dX10_aged_11 : decode cX10_aged 11 = .ok (.idiv, 1) := by decide +kernel
theorem dX10_aged_12 : decode cX10_aged 12 = .ok (.isub, 1) := by decide +kernel
theorem dX10_aged_13 : decode cX10_aged 13 = .ok (.istore_n 3, 1) := by decide +kernel
theorem dX10_aged_14 : decode cX10_aged 14 = .ok (.iload_n 1, 1) := by decide +kernel
theorem dX10_aged_15 : decode cX10_aged 15 = .ok (.bipush 6, 2) := by decide +kernel
theorem dX10_aged_17 : decode cX10_aged 17 = .ok (.idiv, 1) := by decide +kernel
theorem dX10_aged_18 : decode cX10_aged 18 = .ok (.iconst 4, 1) := by decide +kernel
theorem dX10_aged_19 : decode cX10_aged 19 = .ok (.irem, 1) := by decide +kernel
theorem dX10_aged_20 : decode cX10_aged 20 = .ok (.iload_n 2, 1) := by decide +kernel
theorem dX10_aged_21 : decode cX10_aged 21 = .ok (.aload_n 0, 1) := by decide +kernel
theorem dX10_aged_22 : decode cX10_aged 22 = .ok (.getfield 13, 3) := by decide +kernel
theorem dX10_aged_25 : decode cX10_aged 25 = .ok (.iconst 1, 1) := by decide +kernel
theorem dX10_aged_26 : decode cX10_aged 26 = .ok (.iaload, 1) := by decide +kernel
theorem dX10_aged_27 : decode cX10_aged 27 = .ok (.idiv, 1) := by decide +kernel
theorem dX10_aged_28 : decode cX10_aged 28 = .ok (.iadd, 1) := by decide +kernel
theorem dX10_aged_29 : decode cX10_aged 29 = .ok (.istore 4, 2) := by decide +kernel
theorem dX10_aged_31 : decode cX10_aged 31 = .ok (.iload_n 3, 1) := by decide +kernel
theorem dX10_aged_32 : decode cX10_aged 32 = .ok (.ifCond .ge 7, 3) := by decide +kernel
theorem dX10_aged_35 : decode cX10_aged 35 = .ok (.iconst 0, 1) := by decide +kernel
theorem dX10_aged_36 : decode cX10_aged 36 = .ok (.goto 4, 3) := by decide +kernel
theorem dX10_aged_39 : decode cX10_aged 39 = .ok (.iload_n 3, 1) := by decide +kernel
theorem dX10_aged_40 : decode cX10_aged 40 = .ok (.bipush 6, 2) := by decide +kernel
theorem dX10_aged_42 : decode cX10_aged 42 = .ok (.iload 4, 2) := by decide +kernel
theorem dX10_aged_44 : decode cX10_aged 44 = .ok (.iconst 3, 1) := by decide +kernel
theorem dX10_aged_45 : decode cX10_aged 45 = .ok (.if_icmp .le 7, 3) := by decide +kernel
theorem dX10_aged_48 : decode cX10_aged 48 = .ok (.iconst 3, 1) := by decide +kernel
theorem dX10_aged_49 : decode cX10_aged 49 = .ok (.goto 5, 3) := by decide +kernel
theorem dX10_aged_52 : decode cX10_aged 52 = .ok (.iload 4, 2) := by decide +kernel
theorem dX10_aged_54 : decode cX10_aged 54 = .ok (.imul, 1) := by decide +kernel
theorem dX10_aged_55 : decode cX10_aged 55 = .ok (.iadd, 1) := by decide +kernel
theorem dX10_aged_56 : decode cX10_aged 56 = .ok (.bipush 24, 2) := by decide +kernel
theorem dX10_aged_58 : decode cX10_aged 58 = .ok (.iload_n 1, 1) := by decide +kernel
theorem dX10_aged_59 : decode cX10_aged 59 = .ok (.bipush 24, 2) := by decide +kernel
theorem dX10_aged_61 : decode cX10_aged 61 = .ok (.idiv, 1) := by decide +kernel
theorem dX10_aged_62 : decode cX10_aged 62 = .ok (.imul, 1) := by decide +kernel
theorem dX10_aged_63 : decode cX10_aged 63 = .ok (.iadd, 1) := by decide +kernel
theorem dX10_aged_64 : decode cX10_aged 64 = .ok (.ireturn, 1) := by decide +kernel
theorem dX10_bitten_0 : decode cX10_bitten 0 = .ok (.iload_n 0, 1) := by decide +kernel
theorem dX10_bitten_1 : decode cX10_bitten 1 = .ok (.istore_n 2, 1) := by decide +kernel
theorem dX10_bitten_2 : decode cX10_bitten 2 = .ok (.iconst 0, 1) := by decide +kernel
theorem dX10_bitten_3 : decode cX10_bitten 3 = .ok (.istore_n 3, 1) := by decide +kernel
theorem dX10_bitten_4 : decode cX10_bitten 4 = .ok (.iload_n 3, 1) := by decide +kernel
theorem dX10_bitten_5 : decode cX10_bitten 5 = .ok (.iload_n 1, 1) := by decide +kernel
theorem dX10_bitten_6 : decode cX10_bitten 6 = .ok (.if_icmp .ge 40, 3) := by decide +kernel
theorem dX10_bitten_9 : decode cX10_bitten 9 = .ok (.iload_n 2, 1) := by decide +kernel
theorem dX10_bitten_10 : decode cX10_bitten 10 = .ok (.bipush 24, 2) := by decide +kernel
theorem dX10_bitten_12 : decode cX10_bitten 12 = .ok (.if_icmp .lt 10, 3) := by decide +kernel
theorem dX10_bitten_15 : decode cX10_bitten 15 = .ok (.iload_n 2, 1) := by decide +kernel
theorem dX10_bitten_16 : decode cX10_bitten 16 = .ok (.bipush 24, 2) := by decide +kernel
theorem dX10_bitten_18 : decode cX10_bitten 18 = .ok (.irem, 1) := by decide +kernel
theorem dX10_bitten_19 : decode cX10_bitten 19 = .ok (.goto 20, 3) := by decide +kernel
theorem dX10_bitten_22 : decode cX10_bitten 22 = .ok (.iload_n 2, 1) := by decide +kernel
theorem dX10_bitten_23 : decode cX10_bitten 23 = .ok (.bipush 6, 2) := by decide +kernel
theorem dX10_bitten_25 : decode cX10_bitten 25 = .ok (.irem, 1) := by decide +kernel
theorem dX10_bitten_26 : decode cX10_bitten 26 = .ok (.ifCond .le 12, 3) := by decide +kernel
theorem dX10_bitten_29 : decode cX10_bitten 29 = .ok (.iload_n 2, 1) := by decide +kernel
theorem dX10_bitten_30 : decode cX10_bitten 30 = .ok (.iload_n 2, 1) := by decide +kernel
theorem dX10_bitten_31 : decode cX10_bitten 31 = .ok (.bipush 6, 2) := by decide +kernel
theorem dX10_bitten_33 : decode cX10_bitten 33 = .ok (.irem, 1) := by decide +kernel
theorem dX10_bitten_34 : decode cX10_bitten 34 = .ok (.isub, 1) := by decide +kernel
theorem dX10_bitten_35 : decode cX10_bitten 35 = .ok (.goto 4, 3) := by decide +kernel
theorem dX10_bitten_38 : decode cX10_bitten 38 = .ok (.iconst 0, 1) := by decide +kernel
theorem dX10_bitten_39 : decode cX10_bitten 39 = .ok (.istore_n 2, 1) := by decide +kernel
theorem dX10_bitten_40 : decode cX10_bitten 40 = .ok (.iinc 3 1, 3) := by decide +kernel
theorem dX10_bitten_43 : decode cX10_bitten 43 = .ok (.goto (-39), 3) := by decide +kernel
theorem dX10_bitten_46 : decode cX10_bitten 46 = .ok (.iload_n 2, 1) := by decide +kernel
theorem dX10_bitten_47 : decode cX10_bitten 47 = .ok (.ireturn, 1) := by decide +kernel
theorem dX10_become_0 : decode cX10_become 0 = .ok (.aload_n 0, 1) := by decide +kernel
theorem dX10_become_1 : decode cX10_become 1 = .ok (.iload_n 1, 1) := by decide +kernel
theorem dX10_become_2 : decode cX10_become 2 = .ok (.iload_n 2, 1) := by decide +kernel
theorem dX10_become_3 : decode cX10_become 3 = .ok (.invokevirtual 117, 3) := by decide +kernel
theorem dX10_become_6 : decode cX10_become 6 = .ok (.iload_n 3, 1) := by decide +kernel
theorem dX10_become_7 : decode cX10_become 7 = .ok (.invokestatic 121, 3) := by decide +kernel
theorem dX10_become_10 : decode cX10_become 10 = .ok (.ireturn, 1) := by decide +kernel
theorem dX10_read_0 : decode cX10_read 0 = .ok (.iconst 0, 1) := by decide +kernel
theorem dX10_read_1 : decode cX10_read 1 = .ok (.istore_n 2, 1) := by decide +kernel
theorem dX10_read_2 : decode cX10_read 2 = .ok (.iload_n 2, 1) := by decide +kernel
theorem dX10_read_3 : decode cX10_read 3 = .ok (.aload_n 0, 1) := by decide +kernel
theorem dX10_read_4 : decode cX10_read 4 = .ok (.getfield 17, 3) := by decide +kernel
theorem dX10_read_7 : decode cX10_read 7 = .ok (.iconst 0, 1) := by decide +kernel
theorem dX10_read_8 : decode cX10_read 8 = .ok (.iaload, 1) := by decide +kernel
theorem dX10_read_9 : decode cX10_read 9 = .ok (.if_icmp .ge 23, 3) := by decide +kernel
theorem dX10_read_12 : decode cX10_read 12 = .ok (.aload_n 0, 1) := by decide +kernel
theorem dX10_read_13 : decode cX10_read 13 = .ok (.getfield 20, 3) := by decide +kernel
theorem dX10_read_16 : decode cX10_read 16 = .ok (.iconst 2, 1) := by decide +kernel
theorem dX10_read_17 : decode cX10_read 17 = .ok (.iload_n 2, 1) := by decide +kernel
theorem dX10_read_18 : decode cX10_read 18 = .ok (.imul, 1) := by decide +kernel
theorem dX10_read_19 : decode cX10_read 19 = .ok (.iaload, 1) := by decide +kernel
theorem dX10_read_20 : decode cX10_read 20 = .ok (.iload_n 1, 1) := by decide +kernel
theorem dX10_read_21 : decode cX10_read 21 = .ok (.if_icmp .ne 5, 3) := by decide +kernel
theorem dX10_read_24 : decode cX10_read 24 = .ok (.iload_n 2, 1) := by decide +kernel
theorem dX10_read_25 : decode cX10_read 25 = .ok (.ireturn, 1) := by decide +kernel
theorem dX10_read_26 : decode cX10_read 26 = .ok (.iinc 2 1, 3) := by decide +kernel
theorem dX10_read_29 : decode cX10_read 29 = .ok (.goto (-27), 3) := by decide +kernel
theorem dX10_read_32 : decode cX10_read 32 = .ok (.bipush (-4), 2) := by decide +kernel
theorem dX10_read_34 : decode cX10_read 34 = .ok (.ireturn, 1) := by decide +kernel
theorem dX10_baked_0 : decode cX10_baked 0 = .ok (.aload_n 0, 1) := by decide +kernel
theorem dX10_baked_1 : decode cX10_baked 1 = .ok (.getfield 20, 3) := by decide +kernel
theorem dX10_baked_4 : decode cX10_baked 4 = .ok (.iconst 2, 1) := by decide +kernel
theorem dX10_baked_5 : decode cX10_baked 5 = .ok (.iload_n 2, 1) := by decide +kernel
theorem dX10_baked_6 : decode cX10_baked 6 = .ok (.iconst 3, 1) := by decide +kernel
theorem dX10_baked_7 : decode cX10_baked 7 = .ok (.if_icmp .ne 16, 3) := by decide +kernel
theorem dX10_baked_10 : decode cX10_baked 10 = .ok (.iload_n 1, 1) := by decide +kernel
theorem dX10_baked_11 : decode cX10_baked 11 = .ok (.iconst 1, 1) := by decide +kernel
theorem dX10_baked_12 : decode cX10_baked 12 = .ok (.iadd, 1) := by decide +kernel
theorem dX10_baked_13 : decode cX10_baked 13 = .ok (.aload_n 0, 1) := by decide +kernel
theorem dX10_baked_14 : decode cX10_baked 14 = .ok (.getfield 17, 3) := by decide +kernel
theorem dX10_baked_17 : decode cX10_baked 17 = .ok (.iconst 0, 1) := by decide +kernel
theorem dX10_baked_18 : decode cX10_baked 18 = .ok (.iaload, 1) := by decide +kernel
theorem dX10_baked_19 : decode cX10_baked 19 = .ok (.irem, 1) := by decide +kernel
theorem dX10_baked_20 : decode cX10_baked 20 = .ok (.goto 4, 3) := by decide +kernel
theorem dX10_baked_23 : decode cX10_baked 23 = .ok (.iload_n 1, 1) := by decide +kernel
theorem dX10_baked_24 : decode cX10_baked 24 = .ok (.imul, 1) := by decide +kernel
theorem dX10_baked_25 : decode cX10_baked 25 = .ok (.iaload, 1) := by decide +kernel
theorem dX10_baked_26 : decode cX10_baked 26 = .ok (.ireturn, 1) := by decide +kernel
theorem dX10_hasNow_0 : decode cX10_hasNow 0 = .ok (.aload_n 0, 1) := by decide +kernel
theorem dX10_hasNow_1 : decode cX10_hasNow 1 = .ok (.getfield 38, 3) := by decide +kernel
theorem dX10_hasNow_4 : decode cX10_hasNow 4 = .ok (.iconst 4, 1) := by decide +kernel
theorem dX10_hasNow_5 : decode cX10_hasNow 5 = .ok (.iload_n 1, 1) := by decide +kernel
theorem dX10_hasNow_6 : decode cX10_hasNow 6 = .ok (.imul, 1) := by decide +kernel
theorem dX10_hasNow_7 : decode cX10_hasNow 7 = .ok (.iconst 1, 1) := by decide +kernel
theorem dX10_hasNow_8 : decode cX10_hasNow 8 = .ok (.iadd, 1) := by decide +kernel
theorem dX10_hasNow_9 : decode cX10_hasNow 9 = .ok (.iaload, 1) := by decide +kernel
theorem dX10_hasNow_10 : decode cX10_hasNow 10 = .ok (.istore_n 2, 1) := by decide +kernel
theorem dX10_hasNow_11 : decode cX10_hasNow 11 = .ok (.iload_n 2, 1) := by decide +kernel
theorem dX10_hasNow_12 : decode cX10_hasNow 12 = .ok (.iconst 1, 1) := by decide +kernel
theorem dX10_hasNow_13 : decode cX10_hasNow 13 = .ok (.if_icmp .ne 18, 3) := by decide +kernel
theorem dX10_hasNow_16 : decode cX10_hasNow 16 = .ok (.aload_n 0, 1) := by decide +kernel
theorem dX10_hasNow_17 : decode cX10_hasNow 17 = .ok (.getfield 38, 3) := by decide +kernel
theorem dX10_hasNow_20 : decode cX10_hasNow 20 = .ok (.iconst 4, 1) := by decide +kernel
theorem dX10_hasNow_21 : decode cX10_hasNow 21 = .ok (.iload_n 1, 1) := by decide +kernel
theorem dX10_hasNow_22 : decode cX10_hasNow 22 = .ok (.imul, 1) := by decide +kernel
theorem dX10_hasNow_23 : decode cX10_hasNow 23 = .ok (.iconst 2, 1) := by decide +kernel
theorem dX10_hasNow_24 : decode cX10_hasNow 24 = .ok (.iadd, 1) := by decide +kernel
theorem dX10_hasNow_25 : decode cX10_hasNow 25 = .ok (.iaload, 1) := by decide +kernel
theorem dX10_hasNow_26 : decode cX10_hasNow 26 = .ok (.iconst 2, 1) := by decide +kernel
theorem dX10_hasNow_27 : decode cX10_hasNow 27 = .ok (.idiv, 1) := by decide +kernel
theorem dX10_hasNow_28 : decode cX10_hasNow 28 = .ok (.goto 13, 3) := by decide +kernel
theorem dX10_hasNow_31 : decode cX10_hasNow 31 = .ok (.aload_n 0, 1) := by decide +kernel
theorem dX10_hasNow_32 : decode cX10_hasNow 32 = .ok (.getfield 38, 3) := by decide +kernel
theorem dX10_hasNow_35 : decode cX10_hasNow 35 = .ok (.iconst 4, 1) := by decide +kernel
theorem dX10_hasNow_36 : decode cX10_hasNow 36 = .ok (.iload_n 1, 1) := by decide +kernel
theorem dX10_hasNow_37 : decode cX10_hasNow 37 = .ok (.imul, 1) := by decide +kernel
theorem dX10_hasNow_38 : decode cX10_hasNow 38 = .ok (.iconst 2, 1) := by decide +kernel
theorem dX10_hasNow_39 : decode cX10_hasNow 39 = .ok (.iadd, 1) := by decide +kernel
theorem dX10_hasNow_40 : decode cX10_hasNow 40 = .ok (.iaload, 1) := by decide +kernel
theorem dX10_hasNow_41 : decode cX10_hasNow 41 = .ok (.istore_n 3, 1) := by decide +kernel
theorem dX10_hasNow_42 : decode cX10_hasNow 42 = .ok (.aload_n 0, 1) := by decide +kernel
theorem dX10_hasNow_43 : decode cX10_hasNow 43 = .ok (.aload_n 0, 1) := by decide +kernel
theorem dX10_hasNow_44 : decode cX10_hasNow 44 = .ok (.aload_n 0, 1) := by decide +kernel
theorem dX10_hasNow_45 : decode cX10_hasNow 45 = .ok (.getfield 38, 3) := by decide +kernel
theorem dX10_hasNow_48 : decode cX10_hasNow 48 = .ok (.iconst 4, 1) := by decide +kernel
theorem dX10_hasNow_49 : decode cX10_hasNow 49 = .ok (.iload_n 1, 1) := by decide +kernel
theorem dX10_hasNow_50 : decode cX10_hasNow 50 = .ok (.imul, 1) := by decide +kernel
theorem dX10_hasNow_51 : decode cX10_hasNow 51 = .ok (.iaload, 1) := by decide +kernel
theorem dX10_hasNow_52 : decode cX10_hasNow 52 = .ok (.iload_n 2, 1) := by decide +kernel
theorem dX10_hasNow_53 : decode cX10_hasNow 53 = .ok (.invokevirtual 124, 3) := by decide +kernel
theorem dX10_hasNow_56 : decode cX10_hasNow 56 = .ok (.iload_n 3, 1) := by decide +kernel
theorem dX10_hasNow_57 : decode cX10_hasNow 57 = .ok (.iload_n 2, 1) := by decide +kernel
theorem dX10_hasNow_58 : decode cX10_hasNow 58 = .ok (.iconst 2, 1) := by decide +kernel
theorem dX10_hasNow_59 : decode cX10_hasNow 59 = .ok (.if_icmp .ne 7, 3) := by decide +kernel
theorem dX10_hasNow_62 : decode cX10_hasNow 62 = .ok (.iconst 0, 1) := by decide +kernel
theorem dX10_hasNow_63 : decode cX10_hasNow 63 = .ok (.goto 13, 3) := by decide +kernel
theorem dX10_hasNow_66 : decode cX10_hasNow 66 = .ok (.aload_n 0, 1) := by decide +kernel
theorem dX10_hasNow_67 : decode cX10_hasNow 67 = .ok (.getfield 38, 3) := by decide +kernel
theorem dX10_hasNow_70 : decode cX10_hasNow 70 = .ok (.iconst 4, 1) := by decide +kernel
theorem dX10_hasNow_71 : decode cX10_hasNow 71 = .ok (.iload_n 1, 1) := by decide +kernel
theorem dX10_hasNow_72 : decode cX10_hasNow 72 = .ok (.imul, 1) := by decide +kernel
theorem dX10_hasNow_73 : decode cX10_hasNow 73 = .ok (.iconst 3, 1) := by decide +kernel
theorem dX10_hasNow_74 : decode cX10_hasNow 74 = .ok (.iadd, 1) := by decide +kernel
theorem dX10_hasNow_75 : decode cX10_hasNow 75 = .ok (.iaload, 1) := by decide +kernel
theorem dX10_hasNow_76 : decode cX10_hasNow 76 = .ok (.invokevirtual 127, 3) := by decide +kernel
theorem dX10_hasNow_79 : decode cX10_hasNow 79 = .ok (.ireturn, 1) := by decide +kernel
theorem dX10_known_0 : decode cX10_known 0 = .ok (.aload_n 0, 1) := by decide +kernel
theorem dX10_known_1 : decode cX10_known 1 = .ok (.getfield 98, 3) := by decide +kernel
theorem dX10_known_4 : decode cX10_known 4 = .ok (.bipush 8, 2) := by decide +kernel
theorem dX10_known_6 : decode cX10_known 6 = .ok (.if_icmp .ne 42, 3) := by decide +kernel
theorem dX10_known_9 : decode cX10_known 9 = .ok (.iconst 0, 1) := by decide +kernel
theorem dX10_known_10 : decode cX10_known 10 = .ok (.istore_n 3, 1) := by decide +kernel
theorem dX10_known_11 : decode cX10_known 11 = .ok (.iload_n 3, 1) := by decide +kernel
theorem dX10_known_12 : decode cX10_known 12 = .ok (.bipush 42, 2) := by decide +kernel
theorem dX10_known_14 : decode cX10_known 14 = .ok (.if_icmp .ge 24, 3) := by decide +kernel
theorem dX10_known_17 : decode cX10_known 17 = .ok (.aload_n 0, 1) := by decide +kernel
theorem dX10_known_18 : decode cX10_known 18 = .ok (.getfield 44, 3) := by decide +kernel
theorem dX10_known_21 : decode cX10_known 21 = .ok (.iload_n 3, 1) := by decide +kernel
theorem dX10_known_22 : decode cX10_known 22 = .ok (.aload_n 0, 1) := by decide +kernel
theorem dX10_known_23 : decode cX10_known 23 = .ok (.getfield 44, 3) := by decide +kernel
theorem dX10_known_26 : decode cX10_known 26 = .ok (.iload_n 3, 1) := by decide +kernel
theorem dX10_known_27 : decode cX10_known 27 = .ok (.bipush 6, 2) := by decide +kernel
theorem dX10_known_29 : decode cX10_known 29 = .ok (.iadd, 1) := by decide +kernel
theorem dX10_known_30 : decode cX10_known 30 = .ok (.iaload, 1) := by decide +kernel
theorem dX10_known_31 : decode cX10_known 31 = .ok (.iastore, 1) := by decide +kernel
theorem dX10_known_32 : decode cX10_known 32 = .ok (.iinc 3 1, 3) := by decide +kernel
theorem dX10_known_35 : decode cX10_known 35 = .ok (.goto (-24), 3) := by decide +kernel
theorem dX10_known_38 : decode cX10_known 38 = .ok (.aload_n 0, 1) := by decide +kernel
theorem dX10_known_39 : decode cX10_known 39 = .ok (.dup, 1) := by decide +kernel
theorem dX10_known_40 : decode cX10_known 40 = .ok (.getfield 98, 3) := by decide +kernel
theorem dX10_known_43 : decode cX10_known 43 = .ok (.iconst 1, 1) := by decide +kernel
theorem dX10_known_44 : decode cX10_known 44 = .ok (.isub, 1) := by decide +kernel
theorem dX10_known_45 : decode cX10_known 45 = .ok (.putfield 98, 3) := by decide +kernel
theorem dX10_known_48 : decode cX10_known 48 = .ok (.aload_n 0, 1) := by decide +kernel
theorem dX10_known_49 : decode cX10_known 49 = .ok (.getfield 44, 3) := by decide +kernel
theorem dX10_known_52 : decode cX10_known 52 = .ok (.bipush 6, 2) := by decide +kernel
theorem dX10_known_54 : decode cX10_known 54 = .ok (.aload_n 0, 1) := by decide +kernel
theorem dX10_known_55 : decode cX10_known 55 = .ok (.getfield 98, 3) := by decide +kernel
theorem dX10_known_58 : decode cX10_known 58 = .ok (.imul, 1) := by decide +kernel
theorem dX10_known_59 : decode cX10_known 59 = .ok (.iload_n 1, 1) := by decide +kernel
theorem dX10_known_60 : decode cX10_known 60 = .ok (.iastore, 1) := by decide +kernel
theorem dX10_known_61 : decode cX10_known 61 = .ok (.aload_n 0, 1) := by decide +kernel
theorem dX10_known_62 : decode cX10_known 62 = .ok (.getfield 44, 3) := by decide +kernel
theorem dX10_known_65 : decode cX10_known 65 = .ok (.bipush 6, 2) := by decide +kernel
theorem dX10_known_67 : decode cX10_known 67 = .ok (.aload_n 0, 1) := by decide +kernel
theorem dX10_known_68 : decode cX10_known 68 = .ok (.getfield 98, 3) := by decide +kernel
theorem dX10_known_71 : decode cX10_known 71 = .ok (.imul, 1) := by decide +kernel
theorem dX10_known_72 : decode cX10_known 72 = .ok (.iconst 1, 1) := by decide +kernel
theorem dX10_known_73 : decode cX10_known 73 = .ok (.iadd, 1) := by decide +kernel
theorem dX10_known_74 : decode cX10_known 74 = .ok (.iload_n 2, 1) := by decide +kernel
theorem dX10_known_75 : decode cX10_known 75 = .ok (.iastore, 1) := by decide +kernel
theorem dX10_known_76 : decode cX10_known 76 = .ok (.iconst 0, 1) := by decide +kernel
theorem dX10_known_77 : decode cX10_known 77 = .ok (.istore_n 3, 1) := by decide +kernel
theorem dX10_known_78 : decode cX10_known 78 = .ok (.iload_n 3, 1) := by decide +kernel
theorem dX10_known_79 : decode cX10_known 79 = .ok (.iconst 4, 1) := by decide +kernel
theorem dX10_known_80 : decode cX10_known 80 = .ok (.if_icmp .ge 45, 3) := by decide +kernel
theorem dX10_known_83 : decode cX10_known 83 = .ok (.aload_n 0, 1) := by decide +kernel
theorem dX10_known_84 : decode cX10_known 84 = .ok (.getfield 44, 3) := by decide +kernel
theorem dX10_known_87 : decode cX10_known 87 = .ok (.bipush 6, 2) := by decide +kernel
theorem dX10_known_89 : decode cX10_known 89 = .ok (.aload_n 0, 1) := by decide +kernel
theorem dX10_known_90 : decode cX10_known 90 = .ok (.getfield 98, 3) := by decide +kernel
theorem dX10_known_93 : decode cX10_known 93 = .ok (.imul, 1) := by decide +kernel
theorem dX10_known_94 : decode cX10_known 94 = .ok (.iconst 2, 1) := by decide +kernel
theorem dX10_known_95 : decode cX10_known 95 = .ok (.iadd, 1) := by decide +kernel
theorem dX10_known_96 : decode cX10_known 96 = .ok (.iload_n 3, 1) := by decide +kernel
theorem dX10_known_97 : decode cX10_known 97 = .ok (.iadd, 1) := by decide +kernel
theorem dX10_known_98 : decode cX10_known 98 = .ok (.iload_n 2, 1) := by decide +kernel
theorem dX10_known_99 : decode cX10_known 99 = .ok (.bipush 8, 2) := by decide +kernel
theorem dX10_known_101 : decode cX10_known 101 = .ok (.if_icmp .ge 16, 3) := by decide +kernel
theorem dX10_known_104 : decode cX10_known 104 = .ok (.aload_n 0, 1) := by decide +kernel
theorem dX10_known_105 : decode cX10_known 105 = .ok (.getfield 38, 3) := by decide +kernel
theorem dX10_known_108 : decode cX10_known 108 = .ok (.iconst 4, 1) := by decide +kernel
theorem dX10_known_109 : decode cX10_known 109 = .ok (.iload_n 2, 1) := by decide +kernel
theorem dX10_known_110 : decode cX10_known 110 = .ok (.imul, 1) := by decide +kernel
theorem dX10_known_111 : decode cX10_known 111 = .ok (.iload_n 3, 1) := by decide +kernel
theorem dX10_known_112 : decode cX10_known 112 = .ok (.iadd, 1) := by decide +kernel
theorem dX10_known_113 : decode cX10_known 113 = .ok (.iaload, 1) := by decide +kernel
theorem dX10_known_114 : decode cX10_known 114 = .ok (.goto 4, 3) := by decide +kernel
theorem dX10_known_117 : decode cX10_known 117 = .ok (.iconst 0, 1) := by decide +kernel
theorem dX10_known_118 : decode cX10_known 118 = .ok (.iastore, 1) := by decide +kernel
theorem dX10_known_119 : decode cX10_known 119 = .ok (.iinc 3 1, 3) := by decide +kernel
theorem dX10_known_122 : decode cX10_known 122 = .ok (.goto (-44), 3) := by decide +kernel
theorem dX10_known_125 : decode cX10_known 125 = .ok (.aload_n 0, 1) := by decide +kernel
theorem dX10_known_126 : decode cX10_known 126 = .ok (.dup, 1) := by decide +kernel
theorem dX10_known_127 : decode cX10_known 127 = .ok (.getfield 98, 3) := by decide +kernel
theorem dX10_known_130 : decode cX10_known 130 = .ok (.iconst 1, 1) := by decide +kernel
theorem dX10_known_131 : decode cX10_known 131 = .ok (.iadd, 1) := by decide +kernel
theorem dX10_known_132 : decode cX10_known 132 = .ok (.putfield 98, 3) := by decide +kernel
theorem dX10_known_135 : decode cX10_known 135 = .ok (.return_, 1) := by decide +kernel
theorem dX10_used_0 : decode cX10_used 0 = .ok (.aload_n 0, 1) := by decide +kernel
theorem dX10_used_1 : decode cX10_used 1 = .ok (.iload_n 1, 1) := by decide +kernel
theorem dX10_used_2 : decode cX10_used 2 = .ok (.iload_n 2, 1) := by decide +kernel
theorem dX10_used_3 : decode cX10_used 3 = .ok (.invokevirtual 124, 3) := by decide +kernel
theorem dX10_used_6 : decode cX10_used 6 = .ok (.invokestatic 114, 3) := by decide +kernel
theorem dX10_used_9 : decode cX10_used 9 = .ok (.istore_n 3, 1) := by decide +kernel
theorem dX10_used_10 : decode cX10_used 10 = .ok (.iload_n 2, 1) := by decide +kernel
theorem dX10_used_11 : decode cX10_used 11 = .ok (.iconst 1, 1) := by decide +kernel
theorem dX10_used_12 : decode cX10_used 12 = .ok (.if_icmp .ne 9, 3) := by decide +kernel
theorem dX10_used_15 : decode cX10_used 15 = .ok (.iconst 2, 1) := by decide +kernel
theorem dX10_used_16 : decode cX10_used 16 = .ok (.iload_n 3, 1) := by decide +kernel
theorem dX10_used_17 : decode cX10_used 17 = .ok (.imul, 1) := by decide +kernel
theorem dX10_used_18 : decode cX10_used 18 = .ok (.goto 15, 3) := by decide +kernel
theorem dX10_used_21 : decode cX10_used 21 = .ok (.iload_n 2, 1) := by decide +kernel
theorem dX10_used_22 : decode cX10_used 22 = .ok (.iconst 2, 1) := by decide +kernel
theorem dX10_used_23 : decode cX10_used 23 = .ok (.if_icmp .ne 9, 3) := by decide +kernel
theorem dX10_used_26 : decode cX10_used 26 = .ok (.iload_n 3, 1) := by decide +kernel
theorem dX10_used_27 : decode cX10_used 27 = .ok (.iconst 2, 1) := by decide +kernel
theorem dX10_used_28 : decode cX10_used 28 = .ok (.iadd, 1) := by decide +kernel
theorem dX10_used_29 : decode cX10_used 29 = .ok (.goto 4, 3) := by decide +kernel
theorem dX10_used_32 : decode cX10_used 32 = .ok (.iload_n 3, 1) := by decide +kernel
theorem dX10_used_33 : decode cX10_used 33 = .ok (.ireturn, 1) := by decide +kernel
theorem dX10_bake_0 : decode cX10_bake 0 = .ok (.aload_n 0, 1) := by decide +kernel
theorem dX10_bake_1 : decode cX10_bake 1 = .ok (.iload_n 1, 1) := by decide +kernel
theorem dX10_bake_2 : decode cX10_bake 2 = .ok (.invokevirtual 111, 3) := by decide +kernel
theorem dX10_bake_5 : decode cX10_bake 5 = .ok (.ifCond .eq 15, 3) := by decide +kernel
theorem dX10_bake_8 : decode cX10_bake 8 = .ok (.iload_n 2, 1) := by decide +kernel
theorem dX10_bake_9 : decode cX10_bake 9 = .ok (.i2l, 1) := by decide +kernel
theorem dX10_bake_10 : decode cX10_bake 10 = .ok (.lconst 0, 1) := by decide +kernel
theorem dX10_bake_11 : decode cX10_bake 11 = .ok (.ldc2_w 131, 3) := by decide +kernel
theorem dX10_bake_14 : decode cX10_bake 14 = .ok (.invokestatic 65, 3) := by decide +kernel
theorem dX10_bake_17 : decode cX10_bake 17 = .ok (.ifCond .ne 5, 3) := by decide +kernel
theorem dX10_bake_20 : decode cX10_bake 20 = .ok (.iconst (-1), 1) := by decide +kernel
theorem dX10_bake_21 : decode cX10_bake 21 = .ok (.ireturn, 1) := by decide +kernel
theorem dX10_bake_22 : decode cX10_bake 22 = .ok (.aload_n 0, 1) := by decide +kernel
theorem dX10_bake_23 : decode cX10_bake 23 = .ok (.getfield 35, 3) := by decide +kernel
theorem dX10_bake_26 : decode cX10_bake 26 = .ok (.iconst 0, 1) := by decide +kernel
theorem dX10_bake_27 : decode cX10_bake 27 = .ok (.iaload, 1) := by decide +kernel
theorem dX10_bake_28 : decode cX10_bake 28 = .ok (.bipush 8, 2) := by decide +kernel
theorem dX10_bake_30 : decode cX10_bake 30 = .ok (.if_icmp .ne 6, 3) := by decide +kernel
theorem dX10_bake_33 : decode cX10_bake 33 = .ok (.bipush (-3), 2) := by decide +kernel
theorem dX10_bake_35 : decode cX10_bake 35 = .ok (.ireturn, 1) := by decide +kernel
theorem dX10_bake_36 : decode cX10_bake 36 = .ok (.aload_n 0, 1) := by decide +kernel
theorem dX10_bake_37 : decode cX10_bake 37 = .ok (.getfield 35, 3) := by decide +kernel
theorem dX10_bake_40 : decode cX10_bake 40 = .ok (.iconst 0, 1) := by decide +kernel
theorem dX10_bake_41 : decode cX10_bake 41 = .ok (.iaload, 1) := by decide +kernel
theorem dX10_bake_42 : decode cX10_bake 42 = .ok (.istore_n 3, 1) := by decide +kernel
theorem dX10_bake_43 : decode cX10_bake 43 = .ok (.aload_n 0, 1) := by decide +kernel
theorem dX10_bake_44 : decode cX10_bake 44 = .ok (.getfield 38, 3) := by decide +kernel
theorem dX10_bake_47 : decode cX10_bake 47 = .ok (.iconst 4, 1) := by decide +kernel
theorem dX10_bake_48 : decode cX10_bake 48 = .ok (.iload_n 3, 1) := by decide +kernel
theorem dX10_bake_49 : decode cX10_bake 49 = .ok (.imul, 1) := by decide +kernel
theorem dX10_bake_50 : decode cX10_bake 50 = .ok (.iload_n 1, 1) := by decide +kernel
theorem dX10_bake_51 : decode cX10_bake 51 = .ok (.iastore, 1) := by decide +kernel
theorem dX10_bake_52 : decode cX10_bake 52 = .ok (.aload_n 0, 1) := by decide +kernel
theorem dX10_bake_53 : decode cX10_bake 53 = .ok (.getfield 38, 3) := by decide +kernel
theorem dX10_bake_56 : decode cX10_bake 56 = .ok (.iconst 4, 1) := by decide +kernel
theorem dX10_bake_57 : decode cX10_bake 57 = .ok (.iload_n 3, 1) := by decide +kernel
theorem dX10_bake_58 : decode cX10_bake 58 = .ok (.imul, 1) := by decide +kernel
theorem dX10_bake_59 : decode cX10_bake 59 = .ok (.iconst 1, 1) := by decide +kernel
theorem dX10_bake_60 : decode cX10_bake 60 = .ok (.iadd, 1) := by decide +kernel
theorem dX10_bake_61 : decode cX10_bake 61 = .ok (.iload_n 2, 1) := by decide +kernel
theorem dX10_bake_62 : decode cX10_bake 62 = .ok (.iastore, 1) := by decide +kernel
theorem dX10_bake_63 : decode cX10_bake 63 = .ok (.aload_n 0, 1) := by decide +kernel
theorem dX10_bake_64 : decode cX10_bake 64 = .ok (.getfield 38, 3) := by decide +kernel
theorem dX10_bake_67 : decode cX10_bake 67 = .ok (.iconst 4, 1) := by decide +kernel
theorem dX10_bake_68 : decode cX10_bake 68 = .ok (.iload_n 3, 1) := by decide +kernel
theorem dX10_bake_69 : decode cX10_bake 69 = .ok (.imul, 1) := by decide +kernel
theorem dX10_bake_70 : decode cX10_bake 70 = .ok (.iconst 2, 1) := by decide +kernel
theorem dX10_bake_71 : decode cX10_bake 71 = .ok (.iadd, 1) := by decide +kernel
theorem dX10_bake_72 : decode cX10_bake 72 = .ok (.iconst 0, 1) := by decide +kernel
theorem dX10_bake_73 : decode cX10_bake 73 = .ok (.iastore, 1) := by decide +kernel
theorem dX10_bake_74 : decode cX10_bake 74 = .ok (.aload_n 0, 1) := by decide +kernel
theorem dX10_bake_75 : decode cX10_bake 75 = .ok (.getfield 38, 3) := by decide +kernel
theorem dX10_bake_78 : decode cX10_bake 78 = .ok (.iconst 4, 1) := by decide +kernel
theorem dX10_bake_79 : decode cX10_bake 79 = .ok (.iload_n 3, 1) := by decide +kernel
theorem dX10_bake_80 : decode cX10_bake 80 = .ok (.imul, 1) := by decide +kernel
theorem dX10_bake_81 : decode cX10_bake 81 = .ok (.iconst 3, 1) := by decide +kernel
theorem dX10_bake_82 : decode cX10_bake 82 = .ok (.iadd, 1) := by decide +kernel
theorem dX10_bake_83 : decode cX10_bake 83 = .ok (.iconst 0, 1) := by decide +kernel
theorem dX10_bake_84 : decode cX10_bake 84 = .ok (.iastore, 1) := by decide +kernel
theorem dX10_bake_85 : decode cX10_bake 85 = .ok (.aload_n 0, 1) := by decide +kernel
theorem dX10_bake_86 : decode cX10_bake 86 = .ok (.getfield 35, 3) := by decide +kernel
theorem dX10_bake_89 : decode cX10_bake 89 = .ok (.iconst 0, 1) := by decide +kernel
theorem dX10_bake_90 : decode cX10_bake 90 = .ok (.dup2, 1) := by decide +kernel
theorem dX10_bake_91 : decode cX10_bake 91 = .ok (.iaload, 1) := by decide +kernel
theorem dX10_bake_92 : decode cX10_bake 92 = .ok (.iconst 1, 1) := by decide +kernel
theorem dX10_bake_93 : decode cX10_bake 93 = .ok (.iadd, 1) := by decide +kernel
theorem dX10_bake_94 : decode cX10_bake 94 = .ok (.iastore, 1) := by decide +kernel
theorem dX10_bake_95 : decode cX10_bake 95 = .ok (.aload_n 0, 1) := by decide +kernel
theorem dX10_bake_96 : decode cX10_bake 96 = .ok (.getfield 41, 3) := by decide +kernel
theorem dX10_bake_99 : decode cX10_bake 99 = .ok (.iconst 0, 1) := by decide +kernel
theorem dX10_bake_100 : decode cX10_bake 100 = .ok (.dup2, 1) := by decide +kernel
theorem dX10_bake_101 : decode cX10_bake 101 = .ok (.iaload, 1) := by decide +kernel
theorem dX10_bake_102 : decode cX10_bake 102 = .ok (.aload_n 0, 1) := by decide +kernel
theorem dX10_bake_103 : decode cX10_bake 103 = .ok (.iload_n 1, 1) := by decide +kernel
theorem dX10_bake_104 : decode cX10_bake 104 = .ok (.iload_n 2, 1) := by decide +kernel
theorem dX10_bake_105 : decode cX10_bake 105 = .ok (.invokevirtual 133, 3) := by decide +kernel
theorem dX10_bake_108 : decode cX10_bake 108 = .ok (.iadd, 1) := by decide +kernel
theorem dX10_bake_109 : decode cX10_bake 109 = .ok (.iastore, 1) := by decide +kernel
theorem dX10_bake_110 : decode cX10_bake 110 = .ok (.aload_n 0, 1) := by decide +kernel
theorem dX10_bake_111 : decode cX10_bake 111 = .ok (.iconst 0, 1) := by decide +kernel
theorem dX10_bake_112 : decode cX10_bake 112 = .ok (.iload_n 3, 1) := by decide +kernel
theorem dX10_bake_113 : decode cX10_bake 113 = .ok (.invokevirtual 136, 3) := by decide +kernel
theorem dX10_bake_116 : decode cX10_bake 116 = .ok (.aload_n 0, 1) := by decide +kernel
theorem dX10_bake_117 : decode cX10_bake 117 = .ok (.getfield 35, 3) := by decide +kernel
theorem dX10_bake_120 : decode cX10_bake 120 = .ok (.iconst 0, 1) := by decide +kernel
theorem dX10_bake_121 : decode cX10_bake 121 = .ok (.iaload, 1) := by decide +kernel
theorem dX10_bake_122 : decode cX10_bake 122 = .ok (.ireturn, 1) := by decide +kernel
theorem dX10_ages_0 : decode cX10_ages 0 = .ok (.iconst 0, 1) := by decide +kernel
theorem dX10_ages_1 : decode cX10_ages 1 = .ok (.istore_n 2, 1) := by decide +kernel
theorem dX10_ages_2 : decode cX10_ages 2 = .ok (.iload_n 2, 1) := by decide +kernel
theorem dX10_ages_3 : decode cX10_ages 3 = .ok (.aload_n 0, 1) := by decide +kernel
theorem dX10_ages_4 : decode cX10_ages 4 = .ok (.getfield 35, 3) := by decide +kernel
theorem dX10_ages_7 : decode cX10_ages 7 = .ok (.iconst 0, 1) := by decide +kernel
theorem dX10_ages_8 : decode cX10_ages 8 = .ok (.iaload, 1) := by decide +kernel
theorem dX10_ages_9 : decode cX10_ages 9 = .ok (.if_icmp .ge 23, 3) := by decide +kernel
theorem dX10_ages_12 : decode cX10_ages 12 = .ok (.aload_n 0, 1) := by decide +kernel
theorem dX10_ages_13 : decode cX10_ages 13 = .ok (.getfield 38, 3) := by decide +kernel
theorem dX10_ages_16 : decode cX10_ages 16 = .ok (.iconst 4, 1) := by decide +kernel
theorem dX10_ages_17 : decode cX10_ages 17 = .ok (.iload_n 2, 1) := by decide +kernel
theorem dX10_ages_18 : decode cX10_ages 18 = .ok (.imul, 1) := by decide +kernel
theorem dX10_ages_19 : decode cX10_ages 19 = .ok (.iconst 2, 1) := by decide +kernel
theorem dX10_ages_20 : decode cX10_ages 20 = .ok (.iadd, 1) := by decide +kernel
theorem dX10_ages_21 : decode cX10_ages 21 = .ok (.dup2, 1) := by decide +kernel
theorem dX10_ages_22 : decode cX10_ages 22 = .ok (.iaload, 1) := by decide +kernel
theorem dX10_ages_23 : decode cX10_ages 23 = .ok (.iload_n 1, 1) := by decide +kernel
theorem dX10_ages_24 : decode cX10_ages 24 = .ok (.iadd, 1) := by decide +kernel
theorem dX10_ages_25 : decode cX10_ages 25 = .ok (.iastore, 1) := by decide +kernel
theorem dX10_ages_26 : decode cX10_ages 26 = .ok (.iinc 2 1, 3) := by decide +kernel
theorem dX10_ages_29 : decode cX10_ages 29 = .ok (.goto (-27), 3) := by decide +kernel
theorem dX10_ages_32 : decode cX10_ages 32 = .ok (.return_, 1) := by decide +kernel
theorem dX10_day_0 : decode cX10_day 0 = .ok (.aload_n 0, 1) := by decide +kernel
theorem dX10_day_1 : decode cX10_day 1 = .ok (.iconst 1, 1) := by decide +kernel
theorem dX10_day_2 : decode cX10_day 2 = .ok (.invokevirtual 140, 3) := by decide +kernel
theorem dX10_day_5 : decode cX10_day 5 = .ok (.aload_n 0, 1) := by decide +kernel
theorem dX10_day_6 : decode cX10_day 6 = .ok (.iconst 1, 1) := by decide +kernel
theorem dX10_day_7 : decode cX10_day 7 = .ok (.iconst 0, 1) := by decide +kernel
theorem dX10_day_8 : decode cX10_day 8 = .ok (.invokevirtual 136, 3) := by decide +kernel
theorem dX10_day_11 : decode cX10_day 11 = .ok (.iconst 0, 1) := by decide +kernel
theorem dX10_day_12 : decode cX10_day 12 = .ok (.istore_n 1, 1) := by decide +kernel
theorem dX10_day_13 : decode cX10_day 13 = .ok (.iconst 0, 1) := by decide +kernel
theorem dX10_day_14 : decode cX10_day 14 = .ok (.istore_n 2, 1) := by decide +kernel
theorem dX10_day_15 : decode cX10_day 15 = .ok (.iload_n 2, 1) := by decide +kernel
theorem dX10_day_16 : decode cX10_day 16 = .ok (.aload_n 0, 1) := by decide +kernel
theorem dX10_day_17 : decode cX10_day 17 = .ok (.getfield 35, 3) := by decide +kernel
theorem dX10_day_20 : decode cX10_day 20 = .ok (.iconst 0, 1) := by decide +kernel
theorem dX10_day_21 : decode cX10_day 21 = .ok (.iaload, 1) := by decide +kernel
theorem dX10_day_22 : decode cX10_day 22 = .ok (.if_icmp .ge 37, 3) := by decide +kernel
theorem dX10_day_25 : decode cX10_day 25 = .ok (.iload_n 1, 1) := by decide +kernel
theorem dX10_day_26 : decode cX10_day 26 = .ok (.aload_n 0, 1) := by decide +kernel
theorem dX10_day_27 : decode cX10_day 27 = .ok (.aload_n 0, 1) := by decide +kernel
theorem dX10_day_28 : decode cX10_day 28 = .ok (.iload_n 2, 1) := by decide +kernel
theorem dX10_day_29 : decode cX10_day 29 = .ok (.invokevirtual 144, 3) := by decide +kernel
theorem dX10_day_32 : decode cX10_day 32 = .ok (.invokevirtual 147, 3) := by decide +kernel
theorem dX10_day_35 : decode cX10_day 35 = .ok (.aload_n 0, 1) := by decide +kernel
theorem dX10_day_36 : decode cX10_day 36 = .ok (.getfield 38, 3) := by decide +kernel
theorem dX10_day_39 : decode cX10_day 39 = .ok (.iconst 4, 1) := by decide +kernel
theorem dX10_day_40 : decode cX10_day 40 = .ok (.iload_n 2, 1) := by decide +kernel
theorem dX10_day_41 : decode cX10_day 41 = .ok (.imul, 1) := by decide +kernel
theorem dX10_day_42 : decode cX10_day 42 = .ok (.iaload, 1) := by decide +kernel
theorem dX10_day_43 : decode cX10_day 43 = .ok (.if_icmp .ne 7, 3) := by decide +kernel
theorem dX10_day_46 : decode cX10_day 46 = .ok (.iconst 1, 1) := by decide +kernel
theorem dX10_day_47 : decode cX10_day 47 = .ok (.goto 4, 3) := by decide +kernel
theorem dX10_day_50 : decode cX10_day 50 = .ok (.iconst 0, 1) := by decide +kernel
theorem dX10_day_51 : decode cX10_day 51 = .ok (.iadd, 1) := by decide +kernel
theorem dX10_day_52 : decode cX10_day 52 = .ok (.istore_n 1, 1) := by decide +kernel
theorem dX10_day_53 : decode cX10_day 53 = .ok (.iinc 2 1, 3) := by decide +kernel
theorem dX10_day_56 : decode cX10_day 56 = .ok (.goto (-41), 3) := by decide +kernel
theorem dX10_day_59 : decode cX10_day 59 = .ok (.iload_n 1, 1) := by decide +kernel
theorem dX10_day_60 : decode cX10_day 60 = .ok (.ireturn, 1) := by decide +kernel
theorem dX10_isLoaf_0 : decode cX10_isLoaf 0 = .ok (.iload_n 1, 1) := by decide +kernel
theorem dX10_isLoaf_1 : decode cX10_isLoaf 1 = .ok (.i2l, 1) := by decide +kernel
theorem dX10_isLoaf_2 : decode cX10_isLoaf 2 = .ok (.lconst 0, 1) := by decide +kernel
theorem dX10_isLoaf_3 : decode cX10_isLoaf 3 = .ok (.aload_n 0, 1) := by decide +kernel
theorem dX10_isLoaf_4 : decode cX10_isLoaf 4 = .ok (.getfield 35, 3) := by decide +kernel
theorem dX10_isLoaf_7 : decode cX10_isLoaf 7 = .ok (.iconst 0, 1) := by decide +kernel
theorem dX10_isLoaf_8 : decode cX10_isLoaf 8 = .ok (.iaload, 1) := by decide +kernel
theorem dX10_isLoaf_9 : decode cX10_isLoaf 9 = .ok (.iconst 1, 1) := by decide +kernel
theorem dX10_isLoaf_10 : decode cX10_isLoaf 10 = .ok (.isub, 1) := by decide +kernel
theorem dX10_isLoaf_11 : decode cX10_isLoaf 11 = .ok (.i2l, 1) := by decide +kernel
theorem dX10_isLoaf_12 : decode cX10_isLoaf 12 = .ok (.invokestatic 65, 3) := by decide +kernel
theorem dX10_isLoaf_15 : decode cX10_isLoaf 15 = .ok (.ireturn, 1) := by decide +kernel
theorem dX10_bite_0 : decode cX10_bite 0 = .ok (.aload_n 0, 1) := by decide +kernel
theorem dX10_bite_1 : decode cX10_bite 1 = .ok (.iload_n 1, 1) := by decide +kernel
theorem dX10_bite_2 : decode cX10_bite 2 = .ok (.invokevirtual 150, 3) := by decide +kernel
theorem dX10_bite_5 : decode cX10_bite 5 = .ok (.ifCond .ne 5, 3) := by decide +kernel
theorem dX10_bite_8 : decode cX10_bite 8 = .ok (.iconst (-1), 1) := by decide +kernel
theorem dX10_bite_9 : decode cX10_bite 9 = .ok (.ireturn, 1) := by decide +kernel
theorem dX10_bite_10 : decode cX10_bite 10 = .ok (.aload_n 0, 1) := by decide +kernel
theorem dX10_bite_11 : decode cX10_bite 11 = .ok (.getfield 38, 3) := by decide +kernel
theorem dX10_bite_14 : decode cX10_bite 14 = .ok (.iconst 4, 1) := by decide +kernel
theorem dX10_bite_15 : decode cX10_bite 15 = .ok (.iload_n 1, 1) := by decide +kernel
theorem dX10_bite_16 : decode cX10_bite 16 = .ok (.imul, 1) := by decide +kernel
theorem dX10_bite_17 : decode cX10_bite 17 = .ok (.iconst 3, 1) := by decide +kernel
theorem dX10_bite_18 : decode cX10_bite 18 = .ok (.iadd, 1) := by decide +kernel
theorem dX10_bite_19 : decode cX10_bite 19 = .ok (.iaload, 1) := by decide +kernel
theorem dX10_bite_20 : decode cX10_bite 20 = .ok (.bipush 9, 2) := by decide +kernel
theorem dX10_bite_22 : decode cX10_bite 22 = .ok (.if_icmp .ne 6, 3) := by decide +kernel
theorem dX10_bite_25 : decode cX10_bite 25 = .ok (.bipush (-3), 2) := by decide +kernel
theorem dX10_bite_27 : decode cX10_bite 27 = .ok (.ireturn, 1) := by decide +kernel
theorem dX10_bite_28 : decode cX10_bite 28 = .ok (.aload_n 0, 1) := by decide +kernel
theorem dX10_bite_29 : decode cX10_bite 29 = .ok (.getfield 38, 3) := by decide +kernel
theorem dX10_bite_32 : decode cX10_bite 32 = .ok (.iconst 4, 1) := by decide +kernel
theorem dX10_bite_33 : decode cX10_bite 33 = .ok (.iload_n 1, 1) := by decide +kernel
theorem dX10_bite_34 : decode cX10_bite 34 = .ok (.imul, 1) := by decide +kernel
theorem dX10_bite_35 : decode cX10_bite 35 = .ok (.iconst 3, 1) := by decide +kernel
theorem dX10_bite_36 : decode cX10_bite 36 = .ok (.iadd, 1) := by decide +kernel
theorem dX10_bite_37 : decode cX10_bite 37 = .ok (.dup2, 1) := by decide +kernel
theorem dX10_bite_38 : decode cX10_bite 38 = .ok (.iaload, 1) := by decide +kernel
theorem dX10_bite_39 : decode cX10_bite 39 = .ok (.iconst 1, 1) := by decide +kernel
theorem dX10_bite_40 : decode cX10_bite 40 = .ok (.iadd, 1) := by decide +kernel
theorem dX10_bite_41 : decode cX10_bite 41 = .ok (.iastore, 1) := by decide +kernel
theorem dX10_bite_42 : decode cX10_bite 42 = .ok (.aload_n 0, 1) := by decide +kernel
theorem dX10_bite_43 : decode cX10_bite 43 = .ok (.iconst 2, 1) := by decide +kernel
theorem dX10_bite_44 : decode cX10_bite 44 = .ok (.iload_n 1, 1) := by decide +kernel
theorem dX10_bite_45 : decode cX10_bite 45 = .ok (.invokevirtual 136, 3) := by decide +kernel
theorem dX10_bite_48 : decode cX10_bite 48 = .ok (.aload_n 0, 1) := by decide +kernel
theorem dX10_bite_49 : decode cX10_bite 49 = .ok (.getfield 38, 3) := by decide +kernel
theorem dX10_bite_52 : decode cX10_bite 52 = .ok (.iconst 4, 1) := by decide +kernel
theorem dX10_bite_53 : decode cX10_bite 53 = .ok (.iload_n 1, 1) := by decide +kernel
theorem dX10_bite_54 : decode cX10_bite 54 = .ok (.imul, 1) := by decide +kernel
theorem dX10_bite_55 : decode cX10_bite 55 = .ok (.iconst 3, 1) := by decide +kernel
theorem dX10_bite_56 : decode cX10_bite 56 = .ok (.iadd, 1) := by decide +kernel
theorem dX10_bite_57 : decode cX10_bite 57 = .ok (.iaload, 1) := by decide +kernel
theorem dX10_bite_58 : decode cX10_bite 58 = .ok (.ireturn, 1) := by decide +kernel
theorem dX10_take_0 : decode cX10_take 0 = .ok (.aload_n 0, 1) := by decide +kernel
theorem dX10_take_1 : decode cX10_take 1 = .ok (.iload_n 1, 1) := by decide +kernel
theorem dX10_take_2 : decode cX10_take 2 = .ok (.invokevirtual 150, 3) := by decide +kernel
theorem dX10_take_5 : decode cX10_take 5 = .ok (.ifCond .ne 5, 3) := by decide +kernel
theorem dX10_take_8 : decode cX10_take 8 = .ok (.iconst (-1), 1) := by decide +kernel
theorem dX10_take_9 : decode cX10_take 9 = .ok (.ireturn, 1) := by decide +kernel
theorem dX10_take_10 : decode cX10_take 10 = .ok (.aload_n 0, 1) := by decide +kernel
theorem dX10_take_11 : decode cX10_take 11 = .ok (.getfield 38, 3) := by decide +kernel
theorem dX10_take_14 : decode cX10_take 14 = .ok (.iconst 4, 1) := by decide +kernel
theorem dX10_take_15 : decode cX10_take 15 = .ok (.iload_n 1, 1) := by decide +kernel
theorem dX10_take_16 : decode cX10_take 16 = .ok (.imul, 1) := by decide +kernel
theorem dX10_take_17 : decode cX10_take 17 = .ok (.iaload, 1) := by decide +kernel
theorem dX10_take_18 : decode cX10_take 18 = .ok (.istore_n 2, 1) := by decide +kernel
theorem dX10_take_19 : decode cX10_take 19 = .ok (.aload_n 0, 1) := by decide +kernel
theorem dX10_take_20 : decode cX10_take 20 = .ok (.iconst 3, 1) := by decide +kernel
theorem dX10_take_21 : decode cX10_take 21 = .ok (.iload_n 1, 1) := by decide +kernel
theorem dX10_take_22 : decode cX10_take 22 = .ok (.invokevirtual 136, 3) := by decide +kernel
theorem dX10_take_25 : decode cX10_take 25 = .ok (.aload_n 0, 1) := by decide +kernel
theorem dX10_take_26 : decode cX10_take 26 = .ok (.getfield 35, 3) := by decide +kernel
theorem dX10_take_29 : decode cX10_take 29 = .ok (.iconst 0, 1) := by decide +kernel
theorem dX10_take_30 : decode cX10_take 30 = .ok (.dup2, 1) := by decide +kernel
theorem dX10_take_31 : decode cX10_take 31 = .ok (.iaload, 1) := by decide +kernel
theorem dX10_take_32 : decode cX10_take 32 = .ok (.iconst 1, 1) := by decide +kernel
theorem dX10_take_33 : decode cX10_take 33 = .ok (.isub, 1) := by decide +kernel
theorem dX10_take_34 : decode cX10_take 34 = .ok (.iastore, 1) := by decide +kernel
theorem dX10_take_35 : decode cX10_take 35 = .ok (.iconst 4, 1) := by decide +kernel
theorem dX10_take_36 : decode cX10_take 36 = .ok (.iload_n 1, 1) := by decide +kernel
theorem dX10_take_37 : decode cX10_take 37 = .ok (.imul, 1) := by decide +kernel
theorem dX10_take_38 : decode cX10_take 38 = .ok (.istore_n 3, 1) := by decide +kernel
theorem dX10_take_39 : decode cX10_take 39 = .ok (.iload_n 3, 1) := by decide +kernel
theorem dX10_take_40 : decode cX10_take 40 = .ok (.iconst 4, 1) := by decide +kernel
theorem dX10_take_41 : decode cX10_take 41 = .ok (.aload_n 0, 1) := by decide +kernel
theorem dX10_take_42 : decode cX10_take 42 = .ok (.getfield 35, 3) := by decide +kernel
theorem dX10_take_45 : decode cX10_take 45 = .ok (.iconst 0, 1) := by decide +kernel
theorem dX10_take_46 : decode cX10_take 46 = .ok (.iaload, 1) := by decide +kernel
theorem dX10_take_47 : decode cX10_take 47 = .ok (.imul, 1) := by decide +kernel
theorem dX10_take_48 : decode cX10_take 48 = .ok (.if_icmp .ge 23, 3) := by decide +kernel
theorem dX10_take_51 : decode cX10_take 51 = .ok (.aload_n 0, 1) := by decide +kernel
theorem dX10_take_52 : decode cX10_take 52 = .ok (.getfield 38, 3) := by decide +kernel
theorem dX10_take_55 : decode cX10_take 55 = .ok (.iload_n 3, 1) := by decide +kernel
theorem dX10_take_56 : decode cX10_take 56 = .ok (.aload_n 0, 1) := by decide +kernel
theorem dX10_take_57 : decode cX10_take 57 = .ok (.getfield 38, 3) := by decide +kernel
theorem dX10_take_60 : decode cX10_take 60 = .ok (.iload_n 3, 1) := by decide +kernel
theorem dX10_take_61 : decode cX10_take 61 = .ok (.iconst 4, 1) := by decide +kernel
theorem dX10_take_62 : decode cX10_take 62 = .ok (.iadd, 1) := by decide +kernel
theorem dX10_take_63 : decode cX10_take 63 = .ok (.iaload, 1) := by decide +kernel
theorem dX10_take_64 : decode cX10_take 64 = .ok (.iastore, 1) := by decide +kernel
theorem dX10_take_65 : decode cX10_take 65 = .ok (.iinc 3 1, 3) := by decide +kernel
theorem dX10_take_68 : decode cX10_take 68 = .ok (.goto (-29), 3) := by decide +kernel
theorem dX10_take_71 : decode cX10_take 71 = .ok (.iload_n 2, 1) := by decide +kernel
theorem dX10_take_72 : decode cX10_take 72 = .ok (.ireturn, 1) := by decide +kernel
theorem dX10_undo_0 : decode cX10_undo 0 = .ok (.aload_n 0, 1) := by decide +kernel
theorem dX10_undo_1 : decode cX10_undo 1 = .ok (.getfield 98, 3) := by decide +kernel
theorem dX10_undo_4 : decode cX10_undo 4 = .ok (.ifCond .ne 6, 3) := by decide +kernel
theorem dX10_undo_7 : decode cX10_undo 7 = .ok (.bipush (-2), 2) := by decide +kernel
theorem dX10_undo_9 : decode cX10_undo 9 = .ok (.ireturn, 1) := by decide +kernel
theorem dX10_undo_10 : decode cX10_undo 10 = .ok (.aload_n 0, 1) := by decide +kernel
theorem dX10_undo_11 : decode cX10_undo 11 = .ok (.dup, 1) := by decide +kernel
theorem dX10_undo_12 : decode cX10_undo 12 = .ok (.getfield 98, 3) := by decide +kernel
theorem dX10_undo_15 : decode cX10_undo 15 = .ok (.iconst 1, 1) := by decide +kernel
theorem dX10_undo_16 : decode cX10_undo 16 = .ok (.isub, 1) := by decide +kernel
theorem dX10_undo_17 : decode cX10_undo 17 = .ok (.putfield 98, 3) := by decide +kernel
theorem dX10_undo_20 : decode cX10_undo 20 = .ok (.aload_n 0, 1) := by decide +kernel
theorem dX10_undo_21 : decode cX10_undo 21 = .ok (.getfield 44, 3) := by decide +kernel
theorem dX10_undo_24 : decode cX10_undo 24 = .ok (.bipush 6, 2) := by decide +kernel
theorem dX10_undo_26 : decode cX10_undo 26 = .ok (.aload_n 0, 1) := by decide +kernel
theorem dX10_undo_27 : decode cX10_undo 27 = .ok (.getfield 98, 3) := by decide +kernel
theorem dX10_undo_30 : decode cX10_undo 30 = .ok (.imul, 1) := by decide +kernel
theorem dX10_undo_31 : decode cX10_undo 31 = .ok (.iaload, 1) := by decide +kernel
theorem dX10_undo_32 : decode cX10_undo 32 = .ok (.istore_n 1, 1) := by decide +kernel
theorem dX10_undo_33 : decode cX10_undo 33 = .ok (.aload_n 0, 1) := by decide +kernel
theorem dX10_undo_34 : decode cX10_undo 34 = .ok (.getfield 44, 3) := by decide +kernel
theorem dX10_undo_37 : decode cX10_undo 37 = .ok (.bipush 6, 2) := by decide +kernel
theorem dX10_undo_39 : decode cX10_undo 39 = .ok (.aload_n 0, 1) := by decide +kernel
theorem dX10_undo_40 : decode cX10_undo 40 = .ok (.getfield 98, 3) := by decide +kernel
theorem dX10_undo_43 : decode cX10_undo 43 = .ok (.imul, 1) := by decide +kernel
theorem dX10_undo_44 : decode cX10_undo 44 = .ok (.iconst 1, 1) := by decide +kernel
theorem dX10_undo_45 : decode cX10_undo 45 = .ok (.iadd, 1) := by decide +kernel
theorem dX10_undo_46 : decode cX10_undo 46 = .ok (.iaload, 1) := by decide +kernel
theorem dX10_undo_47 : decode cX10_undo 47 = .ok (.istore_n 2, 1) := by decide +kernel
theorem dX10_undo_48 : decode cX10_undo 48 = .ok (.iload_n 1, 1) := by decide +kernel
theorem dX10_undo_49 : decode cX10_undo 49 = .ok (.ifCond .ne 57, 3) := by decide +kernel
theorem dX10_undo_52 : decode cX10_undo 52 = .ok (.aload_n 0, 1) := by decide +kernel
theorem dX10_undo_53 : decode cX10_undo 53 = .ok (.getfield 35, 3) := by decide +kernel
theorem dX10_undo_56 : decode cX10_undo 56 = .ok (.iconst 0, 1) := by decide +kernel
theorem dX10_undo_57 : decode cX10_undo 57 = .ok (.dup2, 1) := by decide +kernel
theorem dX10_undo_58 : decode cX10_undo 58 = .ok (.iaload, 1) := by decide +kernel
theorem dX10_undo_59 : decode cX10_undo 59 = .ok (.iconst 1, 1) := by decide +kernel
theorem dX10_undo_60 : decode cX10_undo 60 = .ok (.isub, 1) := by decide +kernel
theorem dX10_undo_61 : decode cX10_undo 61 = .ok (.iastore, 1) := by decide +kernel
theorem dX10_undo_62 : decode cX10_undo 62 = .ok (.aload_n 0, 1) := by decide +kernel
theorem dX10_undo_63 : decode cX10_undo 63 = .ok (.getfield 41, 3) := by decide +kernel
theorem dX10_undo_66 : decode cX10_undo 66 = .ok (.iconst 0, 1) := by decide +kernel
theorem dX10_undo_67 : decode cX10_undo 67 = .ok (.dup2, 1) := by decide +kernel
theorem dX10_undo_68 : decode cX10_undo 68 = .ok (.iaload, 1) := by decide +kernel
theorem dX10_undo_69 : decode cX10_undo 69 = .ok (.aload_n 0, 1) := by decide +kernel
theorem dX10_undo_70 : decode cX10_undo 70 = .ok (.aload_n 0, 1) := by decide +kernel
theorem dX10_undo_71 : decode cX10_undo 71 = .ok (.getfield 38, 3) := by decide +kernel
theorem dX10_undo_74 : decode cX10_undo 74 = .ok (.iconst 4, 1) := by decide +kernel
theorem dX10_undo_75 : decode cX10_undo 75 = .ok (.aload_n 0, 1) := by decide +kernel
theorem dX10_undo_76 : decode cX10_undo 76 = .ok (.getfield 35, 3) := by decide +kernel
theorem dX10_undo_79 : decode cX10_undo 79 = .ok (.iconst 0, 1) := by decide +kernel
theorem dX10_undo_80 : decode cX10_undo 80 = .ok (.iaload, 1) := by decide +kernel
theorem dX10_undo_81 : decode cX10_undo 81 = .ok (.imul, 1) := by decide +kernel
theorem dX10_undo_82 : decode cX10_undo 82 = .ok (.iaload, 1) := by decide +kernel
theorem dX10_undo_83 : decode cX10_undo 83 = .ok (.aload_n 0, 1) := by decide +kernel
theorem dX10_undo_84 : decode cX10_undo 84 = .ok (.getfield 38, 3) := by decide +kernel
theorem dX10_undo_87 : decode cX10_undo 87 = .ok (.iconst 4, 1) := by decide +kernel
theorem dX10_undo_88 : decode cX10_undo 88 = .ok (.aload_n 0, 1) := by decide +kernel
theorem dX10_undo_89 : decode cX10_undo 89 = .ok (.getfield 35, 3) := by decide +kernel
theorem dX10_undo_92 : decode cX10_undo 92 = .ok (.iconst 0, 1) := by decide +kernel
theorem dX10_undo_93 : decode cX10_undo 93 = .ok (.iaload, 1) := by decide +kernel
theorem dX10_undo_94 : decode cX10_undo 94 = .ok (.imul, 1) := by decide +kernel
theorem dX10_undo_95 : decode cX10_undo 95 = .ok (.iconst 1, 1) := by decide +kernel
theorem dX10_undo_96 : decode cX10_undo 96 = .ok (.iadd, 1) := by decide +kernel
theorem dX10_undo_97 : decode cX10_undo 97 = .ok (.iaload, 1) := by decide +kernel
theorem dX10_undo_98 : decode cX10_undo 98 = .ok (.invokevirtual 133, 3) := by decide +kernel
theorem dX10_undo_101 : decode cX10_undo 101 = .ok (.isub, 1) := by decide +kernel
theorem dX10_undo_102 : decode cX10_undo 102 = .ok (.iastore, 1) := by decide +kernel
theorem dX10_undo_103 : decode cX10_undo 103 = .ok (.goto 125, 3) := by decide +kernel
theorem dX10_undo_106 : decode cX10_undo 106 = .ok (.iload_n 1, 1) := by decide +kernel
theorem dX10_undo_107 : decode cX10_undo 107 = .ok (.iconst 1, 1) := by decide +kernel
theorem dX10_undo_108 : decode cX10_undo 108 = .ok (.if_icmp .ne 11, 3) := by decide +kernel
theorem dX10_undo_111 : decode cX10_undo 111 = .ok (.aload_n 0, 1) := by decide +kernel
theorem dX10_undo_112 : decode cX10_undo 112 = .ok (.iconst (-1), 1) := by decide +kernel
theorem dX10_undo_113 : decode cX10_undo 113 = .ok (.invokevirtual 140, 3) := by decide +kernel
theorem dX10_undo_116 : decode cX10_undo 116 = .ok (.goto 112, 3) := by decide +kernel
theorem dX10_undo_119 : decode cX10_undo 119 = .ok (.iload_n 1, 1) := by decide +kernel
theorem dX10_undo_120 : decode cX10_undo 120 = .ok (.iconst 2, 1) := by decide +kernel
theorem dX10_undo_121 : decode cX10_undo 121 = .ok (.if_icmp .ne 20, 3) := by decide +kernel
theorem dX10_undo_124 : decode cX10_undo 124 = .ok (.aload_n 0, 1) := by decide +kernel
theorem dX10_undo_125 : decode cX10_undo 125 = .ok (.getfield 38, 3) := by decide +kernel
theorem dX10_undo_128 : decode cX10_undo 128 = .ok (.iconst 4, 1) := by decide +kernel
theorem dX10_undo_129 : decode cX10_undo 129 = .ok (.iload_n 2, 1) := by decide +kernel
theorem dX10_undo_130 : decode cX10_undo 130 = .ok (.imul, 1) := by decide +kernel
theorem dX10_undo_131 : decode cX10_undo 131 = .ok (.iconst 3, 1) := by decide +kernel
theorem dX10_undo_132 : decode cX10_undo 132 = .ok (.iadd, 1) := by decide +kernel
theorem dX10_undo_133 : decode cX10_undo 133 = .ok (.dup2, 1) := by decide +kernel
theorem dX10_undo_134 : decode cX10_undo 134 = .ok (.iaload, 1) := by decide +kernel
theorem dX10_undo_135 : decode cX10_undo 135 = .ok (.iconst 1, 1) := by decide +kernel
theorem dX10_undo_136 : decode cX10_undo 136 = .ok (.isub, 1) := by decide +kernel
theorem dX10_undo_137 : decode cX10_undo 137 = .ok (.iastore, 1) := by decide +kernel
theorem dX10_undo_138 : decode cX10_undo 138 = .ok (.goto 90, 3) := by decide +kernel
theorem dX10_undo_141 : decode cX10_undo 141 = .ok (.iconst 4, 1) := by decide +kernel
theorem dX10_undo_142 : decode cX10_undo 142 = .ok (.aload_n 0, 1) := by decide +kernel
theorem dX10_undo_143 : decode cX10_undo 143 = .ok (.getfield 35, 3) := by decide +kernel
theorem dX10_undo_146 : decode cX10_undo 146 = .ok (.iconst 0, 1) := by decide +kernel
theorem dX10_undo_147 : decode cX10_undo 147 = .ok (.iaload, 1) := by decide +kernel
theorem dX10_undo_148 : decode cX10_undo 148 = .ok (.imul, 1) := by decide +kernel
theorem dX10_undo_149 : decode cX10_undo 149 = .ok (.iconst 1, 1) := by decide +kernel
theorem dX10_undo_150 : decode cX10_undo 150 = .ok (.isub, 1) := by decide +kernel
theorem dX10_undo_151 : decode cX10_undo 151 = .ok (.istore_n 3, 1) := by decide +kernel
theorem dX10_undo_152 : decode cX10_undo 152 = .ok (.iload_n 3, 1) := by decide +kernel
theorem dX10_undo_153 : decode cX10_undo 153 = .ok (.iconst 4, 1) := by decide +kernel
theorem dX10_undo_154 : decode cX10_undo 154 = .ok (.iload_n 2, 1) := by decide +kernel
theorem dX10_undo_155 : decode cX10_undo 155 = .ok (.imul, 1) := by decide +kernel
theorem dX10_undo_156 : decode cX10_undo 156 = .ok (.if_icmp .lt 23, 3) := by decide +kernel
theorem dX10_undo_159 : decode cX10_undo 159 = .ok (.aload_n 0, 1) := by decide +kernel
theorem dX10_undo_160 : decode cX10_undo 160 = .ok (.getfield 38, 3) := by decide +kernel
theorem dX10_undo_163 : decode cX10_undo 163 = .ok (.iload_n 3, 1) := by decide +kernel
theorem dX10_undo_164 : decode cX10_undo 164 = .ok (.iconst 4, 1) := by decide +kernel
theorem dX10_undo_165 : decode cX10_undo 165 = .ok (.iadd, 1) := by decide +kernel
theorem dX10_undo_166 : decode cX10_undo 166 = .ok (.aload_n 0, 1) := by decide +kernel
theorem dX10_undo_167 : decode cX10_undo 167 = .ok (.getfield 38, 3) := by decide +kernel
theorem dX10_undo_170 : decode cX10_undo 170 = .ok (.iload_n 3, 1) := by decide +kernel
theorem dX10_undo_171 : decode cX10_undo 171 = .ok (.iaload, 1) := by decide +kernel
theorem dX10_undo_172 : decode cX10_undo 172 = .ok (.iastore, 1) := by decide +kernel
theorem dX10_undo_173 : decode cX10_undo 173 = .ok (.iinc 3 (-1), 3) := by decide +kernel
theorem dX10_undo_176 : decode cX10_undo 176 = .ok (.goto (-24), 3) := by decide +kernel
theorem dX10_undo_179 : decode cX10_undo 179 = .ok (.iconst 0, 1) := by decide +kernel
theorem dX10_undo_180 : decode cX10_undo 180 = .ok (.istore_n 3, 1) := by decide +kernel
theorem dX10_undo_181 : decode cX10_undo 181 = .ok (.iload_n 3, 1) := by decide +kernel
theorem dX10_undo_182 : decode cX10_undo 182 = .ok (.iconst 4, 1) := by decide +kernel
theorem dX10_undo_183 : decode cX10_undo 183 = .ok (.if_icmp .ge 35, 3) := by decide +kernel
theorem dX10_undo_186 : decode cX10_undo 186 = .ok (.aload_n 0, 1) := by decide +kernel
theorem dX10_undo_187 : decode cX10_undo 187 = .ok (.getfield 38, 3) := by decide +kernel
theorem dX10_undo_190 : decode cX10_undo 190 = .ok (.iconst 4, 1) := by decide +kernel
theorem dX10_undo_191 : decode cX10_undo 191 = .ok (.iload_n 2, 1) := by decide +kernel
theorem dX10_undo_192 : decode cX10_undo 192 = .ok (.imul, 1) := by decide +kernel
theorem dX10_undo_193 : decode cX10_undo 193 = .ok (.iload_n 3, 1) := by decide +kernel
theorem dX10_undo_194 : decode cX10_undo 194 = .ok (.iadd, 1) := by decide +kernel
theorem dX10_undo_195 : decode cX10_undo 195 = .ok (.aload_n 0, 1) := by decide +kernel
theorem dX10_undo_196 : decode cX10_undo 196 = .ok (.getfield 44, 3) := by decide +kernel
theorem dX10_undo_199 : decode cX10_undo 199 = .ok (.bipush 6, 2) := by decide +kernel
theorem dX10_undo_201 : decode cX10_undo 201 = .ok (.aload_n 0, 1) := by decide +kernel
theorem dX10_undo_202 : decode cX10_undo 202 = .ok (.getfield 98, 3) := by decide +kernel
theorem dX10_undo_205 : decode cX10_undo 205 = .ok (.imul, 1) := by decide +kernel
theorem dX10_undo_206 : decode cX10_undo 206 = .ok (.iconst 2, 1) := by decide +kernel
theorem dX10_undo_207 : decode cX10_undo 207 = .ok (.iadd, 1) := by decide +kernel
theorem dX10_undo_208 : decode cX10_undo 208 = .ok (.iload_n 3, 1) := by decide +kernel
theorem dX10_undo_209 : decode cX10_undo 209 = .ok (.iadd, 1) := by decide +kernel
theorem dX10_undo_210 : decode cX10_undo 210 = .ok (.iaload, 1) := by decide +kernel
theorem dX10_undo_211 : decode cX10_undo 211 = .ok (.iastore, 1) := by decide +kernel
theorem dX10_undo_212 : decode cX10_undo 212 = .ok (.iinc 3 1, 3) := by decide +kernel
theorem dX10_undo_215 : decode cX10_undo 215 = .ok (.goto (-34), 3) := by decide +kernel
theorem dX10_undo_218 : decode cX10_undo 218 = .ok (.aload_n 0, 1) := by decide +kernel
theorem dX10_undo_219 : decode cX10_undo 219 = .ok (.getfield 35, 3) := by decide +kernel
theorem dX10_undo_222 : decode cX10_undo 222 = .ok (.iconst 0, 1) := by decide +kernel
theorem dX10_undo_223 : decode cX10_undo 223 = .ok (.dup2, 1) := by decide +kernel
theorem dX10_undo_224 : decode cX10_undo 224 = .ok (.iaload, 1) := by decide +kernel
theorem dX10_undo_225 : decode cX10_undo 225 = .ok (.iconst 1, 1) := by decide +kernel
theorem dX10_undo_226 : decode cX10_undo 226 = .ok (.iadd, 1) := by decide +kernel
theorem dX10_undo_227 : decode cX10_undo 227 = .ok (.iastore, 1) := by decide +kernel
theorem dX10_undo_228 : decode cX10_undo 228 = .ok (.aload_n 0, 1) := by decide +kernel
theorem dX10_undo_229 : decode cX10_undo 229 = .ok (.getfield 98, 3) := by decide +kernel
theorem dX10_undo_232 : decode cX10_undo 232 = .ok (.ireturn, 1) := by decide +kernel
theorem dX10_loaf_0 : decode cX10_loaf 0 = .ok (.aload_n 0, 1) := by decide +kernel
theorem dX10_loaf_1 : decode cX10_loaf 1 = .ok (.iload_n 1, 1) := by decide +kernel
theorem dX10_loaf_2 : decode cX10_loaf 2 = .ok (.invokevirtual 150, 3) := by decide +kernel
theorem dX10_loaf_5 : decode cX10_loaf 5 = .ok (.ifCond .eq 15, 3) := by decide +kernel
theorem dX10_loaf_8 : decode cX10_loaf 8 = .ok (.iload_n 2, 1) := by decide +kernel
theorem dX10_loaf_9 : decode cX10_loaf 9 = .ok (.i2l, 1) := by decide +kernel
theorem dX10_loaf_10 : decode cX10_loaf 10 = .ok (.lconst 0, 1) := by decide +kernel
theorem dX10_loaf_11 : decode cX10_loaf 11 = .ok (.ldc2_w 153, 3) := by decide +kernel
theorem dX10_loaf_14 : decode cX10_loaf 14 = .ok (.invokestatic 65, 3) := by decide +kernel
theorem dX10_loaf_17 : decode cX10_loaf 17 = .ok (.ifCond .ne 7, 3) := by decide +kernel
theorem dX10_loaf_20 : decode cX10_loaf 20 = .ok (.iconst (-1), 1) := by decide +kernel
theorem dX10_loaf_21 : decode cX10_loaf 21 = .ok (.goto 43, 3) := by decide +kernel
theorem dX10_loaf_24 : decode cX10_loaf 24 = .ok (.iload_n 2, 1) := by decide +kernel
theorem dX10_loaf_25 : decode cX10_loaf 25 = .ok (.iconst 4, 1) := by decide +kernel
theorem dX10_loaf_26 : decode cX10_loaf 26 = .ok (.if_icmp .ge 16, 3) := by decide +kernel
theorem dX10_loaf_29 : decode cX10_loaf 29 = .ok (.aload_n 0, 1) := by decide +kernel
theorem dX10_loaf_30 : decode cX10_loaf 30 = .ok (.getfield 38, 3) := by decide +kernel
theorem dX10_loaf_33 : decode cX10_loaf 33 = .ok (.iconst 4, 1) := by decide +kernel
theorem dX10_loaf_34 : decode cX10_loaf 34 = .ok (.iload_n 1, 1) := by decide +kernel
theorem dX10_loaf_35 : decode cX10_loaf 35 = .ok (.imul, 1) := by decide +kernel
theorem dX10_loaf_36 : decode cX10_loaf 36 = .ok (.iload_n 2, 1) := by decide +kernel
theorem dX10_loaf_37 : decode cX10_loaf 37 = .ok (.iadd, 1) := by decide +kernel
theorem dX10_loaf_38 : decode cX10_loaf 38 = .ok (.iaload, 1) := by decide +kernel
theorem dX10_loaf_39 : decode cX10_loaf 39 = .ok (.goto 25, 3) := by decide +kernel
theorem dX10_loaf_42 : decode cX10_loaf 42 = .ok (.iload_n 2, 1) := by decide +kernel
theorem dX10_loaf_43 : decode cX10_loaf 43 = .ok (.iconst 4, 1) := by decide +kernel
theorem dX10_loaf_44 : decode cX10_loaf 44 = .ok (.if_icmp .ne 11, 3) := by decide +kernel
theorem dX10_loaf_47 : decode cX10_loaf 47 = .ok (.aload_n 0, 1) := by decide +kernel
theorem dX10_loaf_48 : decode cX10_loaf 48 = .ok (.iload_n 1, 1) := by decide +kernel
theorem dX10_loaf_49 : decode cX10_loaf 49 = .ok (.invokevirtual 144, 3) := by decide +kernel
theorem dX10_loaf_52 : decode cX10_loaf 52 = .ok (.goto 12, 3) := by decide +kernel
theorem dX10_loaf_55 : decode cX10_loaf 55 = .ok (.aload_n 0, 1) := by decide +kernel
theorem dX10_loaf_56 : decode cX10_loaf 56 = .ok (.aload_n 0, 1) := by decide +kernel
theorem dX10_loaf_57 : decode cX10_loaf 57 = .ok (.iload_n 1, 1) := by decide +kernel
theorem dX10_loaf_58 : decode cX10_loaf 58 = .ok (.invokevirtual 144, 3) := by decide +kernel
theorem dX10_loaf_61 : decode cX10_loaf 61 = .ok (.invokevirtual 147, 3) := by decide +kernel
theorem dX10_loaf_64 : decode cX10_loaf 64 = .ok (.ireturn, 1) := by decide +kernel
theorem dX10_isSign_0 : decode cX10_isSign 0 = .ok (.iload_n 0, 1) := by decide +kernel
theorem dX10_isSign_1 : decode cX10_isSign 1 = .ok (.i2l, 1) := by decide +kernel
theorem dX10_isSign_2 : decode cX10_isSign 2 = .ok (.lconst 0, 1) := by decide +kernel
theorem dX10_isSign_3 : decode cX10_isSign 3 = .ok (.ldc2_w 155, 3) := by decide +kernel
theorem dX10_isSign_6 : decode cX10_isSign 6 = .ok (.invokestatic 65, 3) := by decide +kernel
theorem dX10_isSign_9 : decode cX10_isSign 9 = .ok (.ireturn, 1) := by decide +kernel
theorem dX10_isSpan_0 : decode cX10_isSpan 0 = .ok (.iload_n 0, 1) := by decide +kernel
theorem dX10_isSpan_1 : decode cX10_isSpan 1 = .ok (.i2l, 1) := by decide +kernel
theorem dX10_isSpan_2 : decode cX10_isSpan 2 = .ok (.lconst 0, 1) := by decide +kernel
theorem dX10_isSpan_3 : decode cX10_isSpan 3 = .ok (.ldc2_w 157, 3) := by decide +kernel
theorem dX10_isSpan_6 : decode cX10_isSpan 6 = .ok (.invokestatic 65, 3) := by decide +kernel
theorem dX10_isSpan_9 : decode cX10_isSpan 9 = .ok (.ifCond .eq 19, 3) := by decide +kernel
theorem dX10_isSpan_12 : decode cX10_isSpan 12 = .ok (.iload_n 1, 1) := by decide +kernel
theorem dX10_isSpan_13 : decode cX10_isSpan 13 = .ok (.i2l, 1) := by decide +kernel
theorem dX10_isSpan_14 : decode cX10_isSpan 14 = .ok (.lconst 0, 1) := by decide +kernel
theorem dX10_isSpan_15 : decode cX10_isSpan 15 = .ok (.ldc2_w 131, 3) := by decide +kernel
theorem dX10_isSpan_18 : decode cX10_isSpan 18 = .ok (.invokestatic 65, 3) := by decide +kernel
theorem dX10_isSpan_21 : decode cX10_isSpan 21 = .ok (.ifCond .eq 7, 3) := by decide +kernel
theorem dX10_isSpan_24 : decode cX10_isSpan 24 = .ok (.iconst 1, 1) := by decide +kernel
theorem dX10_isSpan_25 : decode cX10_isSpan 25 = .ok (.goto 4, 3) := by decide +kernel
theorem dX10_isSpan_28 : decode cX10_isSpan 28 = .ok (.iconst 0, 1) := by decide +kernel
theorem dX10_isSpan_29 : decode cX10_isSpan 29 = .ok (.ireturn, 1) := by decide +kernel
theorem dX10_becomes_0 : decode cX10_becomes 0 = .ok (.iload_n 1, 1) := by decide +kernel
theorem dX10_becomes_1 : decode cX10_becomes 1 = .ok (.invokestatic 159, 3) := by decide +kernel
theorem dX10_becomes_4 : decode cX10_becomes 4 = .ok (.ifCond .eq 21, 3) := by decide +kernel
theorem dX10_becomes_7 : decode cX10_becomes 7 = .ok (.iload_n 2, 1) := by decide +kernel
theorem dX10_becomes_8 : decode cX10_becomes 8 = .ok (.iload_n 3, 1) := by decide +kernel
theorem dX10_becomes_9 : decode cX10_becomes 9 = .ok (.invokestatic 162, 3) := by decide +kernel
theorem dX10_becomes_12 : decode cX10_becomes 12 = .ok (.ifCond .eq 13, 3) := by decide +kernel
theorem dX10_becomes_15 : decode cX10_becomes 15 = .ok (.aload_n 0, 1) := by decide +kernel
theorem dX10_becomes_16 : decode cX10_becomes 16 = .ok (.iload_n 1, 1) := by decide +kernel
theorem dX10_becomes_17 : decode cX10_becomes 17 = .ok (.iload_n 2, 1) := by decide +kernel
theorem dX10_becomes_18 : decode cX10_becomes 18 = .ok (.iload_n 3, 1) := by decide +kernel
theorem dX10_becomes_19 : decode cX10_becomes 19 = .ok (.invokevirtual 127, 3) := by decide +kernel
theorem dX10_becomes_22 : decode cX10_becomes 22 = .ok (.goto 4, 3) := by decide +kernel
theorem dX10_becomes_25 : decode cX10_becomes 25 = .ok (.iconst (-1), 1) := by decide +kernel
theorem dX10_becomes_26 : decode cX10_becomes 26 = .ok (.ireturn, 1) := by decide +kernel
theorem dX10_isAble_0 : decode cX10_isAble 0 = .ok (.iconst 0, 1) := by decide +kernel
theorem dX10_isAble_1 : decode cX10_isAble 1 = .ok (.istore 5, 2) := by decide +kernel
theorem dX10_isAble_3 : decode cX10_isAble 3 = .ok (.iload 5, 2) := by decide +kernel
theorem dX10_isAble_5 : decode cX10_isAble 5 = .ok (.iload_n 3, 1) := by decide +kernel
theorem dX10_isAble_6 : decode cX10_isAble 6 = .ok (.if_icmp .gt 40, 3) := by decide +kernel
theorem dX10_isAble_9 : decode cX10_isAble 9 = .ok (.iconst 0, 1) := by decide +kernel
theorem dX10_isAble_10 : decode cX10_isAble 10 = .ok (.istore 6, 2) := by decide +kernel
theorem dX10_isAble_12 : decode cX10_isAble 12 = .ok (.iload 6, 2) := by decide +kernel
theorem dX10_isAble_14 : decode cX10_isAble 14 = .ok (.iload 4, 2) := by decide +kernel
theorem dX10_isAble_16 : decode cX10_isAble 16 = .ok (.if_icmp .gt 24, 3) := by decide +kernel
theorem dX10_isAble_19 : decode cX10_isAble 19 = .ok (.aload_n 0, 1) := by decide +kernel
theorem dX10_isAble_20 : decode cX10_isAble 20 = .ok (.iload_n 1, 1) := by decide +kernel
theorem dX10_isAble_21 : decode cX10_isAble 21 = .ok (.iload 5, 2) := by decide +kernel
theorem dX10_isAble_23 : decode cX10_isAble 23 = .ok (.iload 6, 2) := by decide +kernel
theorem dX10_isAble_25 : decode cX10_isAble 25 = .ok (.invokevirtual 127, 3) := by decide +kernel
theorem dX10_isAble_28 : decode cX10_isAble 28 = .ok (.iload_n 2, 1) := by decide +kernel
theorem dX10_isAble_29 : decode cX10_isAble 29 = .ok (.if_icmp .ne 5, 3) := by decide +kernel
theorem dX10_isAble_32 : decode cX10_isAble 32 = .ok (.iconst 1, 1) := by decide +kernel
theorem dX10_isAble_33 : decode cX10_isAble 33 = .ok (.ireturn, 1) := by decide +kernel
theorem dX10_isAble_34 : decode cX10_isAble 34 = .ok (.iinc 6 1, 3) := by decide +kernel
theorem dX10_isAble_37 : decode cX10_isAble 37 = .ok (.goto (-25), 3) := by decide +kernel
theorem dX10_isAble_40 : decode cX10_isAble 40 = .ok (.iinc 5 1, 3) := by decide +kernel
theorem dX10_isAble_43 : decode cX10_isAble 43 = .ok (.goto (-40), 3) := by decide +kernel
theorem dX10_isAble_46 : decode cX10_isAble 46 = .ok (.iconst 0, 1) := by decide +kernel
theorem dX10_isAble_47 : decode cX10_isAble 47 = .ok (.ireturn, 1) := by decide +kernel
theorem dX10_mayBe_0 : decode cX10_mayBe 0 = .ok (.iload_n 1, 1) := by decide +kernel
theorem dX10_mayBe_1 : decode cX10_mayBe 1 = .ok (.invokestatic 159, 3) := by decide +kernel
theorem dX10_mayBe_4 : decode cX10_mayBe 4 = .ok (.ifCond .eq 11, 3) := by decide +kernel
theorem dX10_mayBe_7 : decode cX10_mayBe 7 = .ok (.iload_n 2, 1) := by decide +kernel
theorem dX10_mayBe_8 : decode cX10_mayBe 8 = .ok (.iload_n 3, 1) := by decide +kernel
theorem dX10_mayBe_9 : decode cX10_mayBe 9 = .ok (.invokestatic 162, 3) := by decide +kernel
theorem dX10_mayBe_12 : decode cX10_mayBe 12 = .ok (.ifCond .ne 5, 3) := by decide +kernel
theorem dX10_mayBe_15 : decode cX10_mayBe 15 = .ok (.iconst (-1), 1) := by decide +kernel
theorem dX10_mayBe_16 : decode cX10_mayBe 16 = .ok (.ireturn, 1) := by decide +kernel
theorem dX10_mayBe_17 : decode cX10_mayBe 17 = .ok (.iconst 0, 1) := by decide +kernel
theorem dX10_mayBe_18 : decode cX10_mayBe 18 = .ok (.istore 4, 2) := by decide +kernel
theorem dX10_mayBe_20 : decode cX10_mayBe 20 = .ok (.iconst 0, 1) := by decide +kernel
theorem dX10_mayBe_21 : decode cX10_mayBe 21 = .ok (.istore 5, 2) := by decide +kernel
theorem dX10_mayBe_23 : decode cX10_mayBe 23 = .ok (.iload 5, 2) := by decide +kernel
theorem dX10_mayBe_25 : decode cX10_mayBe 25 = .ok (.bipush 72, 2) := by decide +kernel
theorem dX10_mayBe_27 : decode cX10_mayBe 27 = .ok (.if_icmp .ge 31, 3) := by decide +kernel
theorem dX10_mayBe_30 : decode cX10_mayBe 30 = .ok (.iload 4, 2) := by decide +kernel
theorem dX10_mayBe_32 : decode cX10_mayBe 32 = .ok (.aload_n 0, 1) := by decide +kernel
theorem dX10_mayBe_33 : decode cX10_mayBe 33 = .ok (.iload_n 1, 1) := by decide +kernel
theorem dX10_mayBe_34 : decode cX10_mayBe 34 = .ok (.iload 5, 2) := by decide +kernel
theorem dX10_mayBe_36 : decode cX10_mayBe 36 = .ok (.iload_n 2, 1) := by decide +kernel
theorem dX10_mayBe_37 : decode cX10_mayBe 37 = .ok (.iload_n 3, 1) := by decide +kernel
theorem dX10_mayBe_38 : decode cX10_mayBe 38 = .ok (.invokevirtual 166, 3) := by decide +kernel
theorem dX10_mayBe_41 : decode cX10_mayBe 41 = .ok (.ifCond .eq 7, 3) := by decide +kernel
theorem dX10_mayBe_44 : decode cX10_mayBe 44 = .ok (.iconst 1, 1) := by decide +kernel
theorem dX10_mayBe_45 : decode cX10_mayBe 45 = .ok (.goto 4, 3) := by decide +kernel
theorem dX10_mayBe_48 : decode cX10_mayBe 48 = .ok (.iconst 0, 1) := by decide +kernel
theorem dX10_mayBe_49 : decode cX10_mayBe 49 = .ok (.iadd, 1) := by decide +kernel
theorem dX10_mayBe_50 : decode cX10_mayBe 50 = .ok (.istore 4, 2) := by decide +kernel
theorem dX10_mayBe_52 : decode cX10_mayBe 52 = .ok (.iinc 5 1, 3) := by decide +kernel
theorem dX10_mayBe_55 : decode cX10_mayBe 55 = .ok (.goto (-32), 3) := by decide +kernel
theorem dX10_mayBe_58 : decode cX10_mayBe 58 = .ok (.iload 4, 2) := by decide +kernel
theorem dX10_mayBe_60 : decode cX10_mayBe 60 = .ok (.ireturn, 1) := by decide +kernel
theorem dX10_can_0 : decode cX10_can 0 = .ok (.iload_n 1, 1) := by decide +kernel
theorem dX10_can_1 : decode cX10_can 1 = .ok (.invokestatic 159, 3) := by decide +kernel
theorem dX10_can_4 : decode cX10_can 4 = .ok (.ifCond .eq 19, 3) := by decide +kernel
theorem dX10_can_7 : decode cX10_can 7 = .ok (.iload_n 2, 1) := by decide +kernel
theorem dX10_can_8 : decode cX10_can 8 = .ok (.invokestatic 159, 3) := by decide +kernel
theorem dX10_can_11 : decode cX10_can 11 = .ok (.ifCond .eq 12, 3) := by decide +kernel
theorem dX10_can_14 : decode cX10_can 14 = .ok (.iload_n 3, 1) := by decide +kernel
theorem dX10_can_15 : decode cX10_can 15 = .ok (.iload 4, 2) := by decide +kernel
theorem dX10_can_17 : decode cX10_can 17 = .ok (.invokestatic 162, 3) := by decide +kernel
theorem dX10_can_20 : decode cX10_can 20 = .ok (.ifCond .ne 7, 3) := by decide +kernel
theorem dX10_can_23 : decode cX10_can 23 = .ok (.iconst (-1), 1) := by decide +kernel
theorem dX10_can_24 : decode cX10_can 24 = .ok (.goto 20, 3) := by decide +kernel
theorem dX10_can_27 : decode cX10_can 27 = .ok (.aload_n 0, 1) := by decide +kernel
theorem dX10_can_28 : decode cX10_can 28 = .ok (.iload_n 1, 1) := by decide +kernel
theorem dX10_can_29 : decode cX10_can 29 = .ok (.iload_n 2, 1) := by decide +kernel
theorem dX10_can_30 : decode cX10_can 30 = .ok (.iload_n 3, 1) := by decide +kernel
theorem dX10_can_31 : decode cX10_can 31 = .ok (.iload 4, 2) := by decide +kernel
theorem dX10_can_33 : decode cX10_can 33 = .ok (.invokevirtual 166, 3) := by decide +kernel
theorem dX10_can_36 : decode cX10_can 36 = .ok (.ifCond .eq 7, 3) := by decide +kernel
theorem dX10_can_39 : decode cX10_can 39 = .ok (.iconst 1, 1) := by decide +kernel
theorem dX10_can_40 : decode cX10_can 40 = .ok (.goto 4, 3) := by decide +kernel
theorem dX10_can_43 : decode cX10_can 43 = .ok (.iconst 0, 1) := by decide +kernel
theorem dX10_can_44 : decode cX10_can 44 = .ok (.ireturn, 1) := by decide +kernel
theorem dX10_was_0 : decode cX10_was 0 = .ok (.iload_n 1, 1) := by decide +kernel
theorem dX10_was_1 : decode cX10_was 1 = .ok (.invokestatic 159, 3) := by decide +kernel
theorem dX10_was_4 : decode cX10_was 4 = .ok (.ifCond .eq 11, 3) := by decide +kernel
theorem dX10_was_7 : decode cX10_was 7 = .ok (.iload_n 2, 1) := by decide +kernel
theorem dX10_was_8 : decode cX10_was 8 = .ok (.iload_n 3, 1) := by decide +kernel
theorem dX10_was_9 : decode cX10_was 9 = .ok (.invokestatic 162, 3) := by decide +kernel
theorem dX10_was_12 : decode cX10_was 12 = .ok (.ifCond .ne 5, 3) := by decide +kernel
theorem dX10_was_15 : decode cX10_was 15 = .ok (.iconst (-1), 1) := by decide +kernel
theorem dX10_was_16 : decode cX10_was 16 = .ok (.ireturn, 1) := by decide +kernel
theorem dX10_was_17 : decode cX10_was 17 = .ok (.iconst 0, 1) := by decide +kernel
theorem dX10_was_18 : decode cX10_was 18 = .ok (.istore 4, 2) := by decide +kernel
theorem dX10_was_20 : decode cX10_was 20 = .ok (.iconst 0, 1) := by decide +kernel
theorem dX10_was_21 : decode cX10_was 21 = .ok (.istore 5, 2) := by decide +kernel
theorem dX10_was_23 : decode cX10_was 23 = .ok (.iload 5, 2) := by decide +kernel
theorem dX10_was_25 : decode cX10_was 25 = .ok (.aload_n 0, 1) := by decide +kernel
theorem dX10_was_26 : decode cX10_was 26 = .ok (.getfield 17, 3) := by decide +kernel
theorem dX10_was_29 : decode cX10_was 29 = .ok (.iconst 0, 1) := by decide +kernel
theorem dX10_was_30 : decode cX10_was 30 = .ok (.iaload, 1) := by decide +kernel
theorem dX10_was_31 : decode cX10_was 31 = .ok (.if_icmp .ge 41, 3) := by decide +kernel
theorem dX10_was_34 : decode cX10_was 34 = .ok (.iload 4, 2) := by decide +kernel
theorem dX10_was_36 : decode cX10_was 36 = .ok (.aload_n 0, 1) := by decide +kernel
theorem dX10_was_37 : decode cX10_was 37 = .ok (.aload_n 0, 1) := by decide +kernel
theorem dX10_was_38 : decode cX10_was 38 = .ok (.getfield 20, 3) := by decide +kernel
theorem dX10_was_41 : decode cX10_was 41 = .ok (.iconst 2, 1) := by decide +kernel
theorem dX10_was_42 : decode cX10_was 42 = .ok (.iload 5, 2) := by decide +kernel
theorem dX10_was_44 : decode cX10_was 44 = .ok (.imul, 1) := by decide +kernel
theorem dX10_was_45 : decode cX10_was 45 = .ok (.iaload, 1) := by decide +kernel
theorem dX10_was_46 : decode cX10_was 46 = .ok (.iload_n 1, 1) := by decide +kernel
theorem dX10_was_47 : decode cX10_was 47 = .ok (.iload_n 2, 1) := by decide +kernel
theorem dX10_was_48 : decode cX10_was 48 = .ok (.iload_n 3, 1) := by decide +kernel
theorem dX10_was_49 : decode cX10_was 49 = .ok (.invokevirtual 166, 3) := by decide +kernel
theorem dX10_was_52 : decode cX10_was 52 = .ok (.ifCond .eq 10, 3) := by decide +kernel
theorem dX10_was_55 : decode cX10_was 55 = .ok (.iconst 1, 1) := by decide +kernel
theorem dX10_was_56 : decode cX10_was 56 = .ok (.iload 5, 2) := by decide +kernel
theorem dX10_was_58 : decode cX10_was 58 = .ok (.ishl, 1) := by decide +kernel
theorem dX10_was_59 : decode cX10_was 59 = .ok (.goto 4, 3) := by decide +kernel
theorem dX10_was_62 : decode cX10_was 62 = .ok (.iconst 0, 1) := by decide +kernel
theorem dX10_was_63 : decode cX10_was 63 = .ok (.ior, 1) := by decide +kernel
theorem dX10_was_64 : decode cX10_was 64 = .ok (.istore 4, 2) := by decide +kernel
theorem dX10_was_66 : decode cX10_was 66 = .ok (.iinc 5 1, 3) := by decide +kernel
theorem dX10_was_69 : decode cX10_was 69 = .ok (.goto (-46), 3) := by decide +kernel
theorem dX10_was_72 : decode cX10_was 72 = .ok (.iload 4, 2) := by decide +kernel
theorem dX10_was_74 : decode cX10_was 74 = .ok (.ireturn, 1) := by decide +kernel
theorem dX10_half_0 : decode cX10_half 0 = .ok (.iload_n 1, 1) := by decide +kernel
theorem dX10_half_1 : decode cX10_half 1 = .ok (.i2l, 1) := by decide +kernel
theorem dX10_half_2 : decode cX10_half 2 = .ok (.lconst 0, 1) := by decide +kernel
theorem dX10_half_3 : decode cX10_half 3 = .ok (.ldc2_w 153, 3) := by decide +kernel
theorem dX10_half_6 : decode cX10_half 6 = .ok (.invokestatic 65, 3) := by decide +kernel
theorem dX10_half_9 : decode cX10_half 9 = .ok (.ifCond .eq 27, 3) := by decide +kernel
theorem dX10_half_12 : decode cX10_half 12 = .ok (.iload_n 2, 1) := by decide +kernel
theorem dX10_half_13 : decode cX10_half 13 = .ok (.i2l, 1) := by decide +kernel
theorem dX10_half_14 : decode cX10_half 14 = .ok (.lconst 0, 1) := by decide +kernel
theorem dX10_half_15 : decode cX10_half 15 = .ok (.ldc2_w 131, 3) := by decide +kernel
theorem dX10_half_18 : decode cX10_half 18 = .ok (.invokestatic 65, 3) := by decide +kernel
theorem dX10_half_21 : decode cX10_half 21 = .ok (.ifCond .eq 15, 3) := by decide +kernel
theorem dX10_half_24 : decode cX10_half 24 = .ok (.iload_n 3, 1) := by decide +kernel
theorem dX10_half_25 : decode cX10_half 25 = .ok (.i2l, 1) := by decide +kernel
theorem dX10_half_26 : decode cX10_half 26 = .ok (.lconst 0, 1) := by decide +kernel
theorem dX10_half_27 : decode cX10_half 27 = .ok (.ldc2_w 80, 3) := by decide +kernel
theorem dX10_half_30 : decode cX10_half 30 = .ok (.invokestatic 65, 3) := by decide +kernel
theorem dX10_half_33 : decode cX10_half 33 = .ok (.ifCond .ne 5, 3) := by decide +kernel
theorem dX10_half_36 : decode cX10_half 36 = .ok (.iconst (-1), 1) := by decide +kernel
theorem dX10_half_37 : decode cX10_half 37 = .ok (.ireturn, 1) := by decide +kernel
theorem dX10_half_38 : decode cX10_half 38 = .ok (.iconst 0, 1) := by decide +kernel
theorem dX10_half_39 : decode cX10_half 39 = .ok (.istore 4, 2) := by decide +kernel
theorem dX10_half_41 : decode cX10_half 41 = .ok (.iconst 0, 1) := by decide +kernel
theorem dX10_half_42 : decode cX10_half 42 = .ok (.istore 5, 2) := by decide +kernel
theorem dX10_half_44 : decode cX10_half 44 = .ok (.iload 5, 2) := by decide +kernel
theorem dX10_half_46 : decode cX10_half 46 = .ok (.aload_n 0, 1) := by decide +kernel
theorem dX10_half_47 : decode cX10_half 47 = .ok (.getfield 17, 3) := by decide +kernel
theorem dX10_half_50 : decode cX10_half 50 = .ok (.iconst 0, 1) := by decide +kernel
theorem dX10_half_51 : decode cX10_half 51 = .ok (.iaload, 1) := by decide +kernel
theorem dX10_half_52 : decode cX10_half 52 = .ok (.if_icmp .ge 62, 3) := by decide +kernel
theorem dX10_half_55 : decode cX10_half 55 = .ok (.aload_n 0, 1) := by decide +kernel
theorem dX10_half_56 : decode cX10_half 56 = .ok (.getfield 20, 3) := by decide +kernel
theorem dX10_half_59 : decode cX10_half 59 = .ok (.iconst 2, 1) := by decide +kernel
theorem dX10_half_60 : decode cX10_half 60 = .ok (.iload 5, 2) := by decide +kernel
theorem dX10_half_62 : decode cX10_half 62 = .ok (.imul, 1) := by decide +kernel
theorem dX10_half_63 : decode cX10_half 63 = .ok (.iaload, 1) := by decide +kernel
theorem dX10_half_64 : decode cX10_half 64 = .ok (.istore 6, 2) := by decide +kernel
theorem dX10_half_66 : decode cX10_half 66 = .ok (.iload 4, 2) := by decide +kernel
theorem dX10_half_68 : decode cX10_half 68 = .ok (.iload 6, 2) := by decide +kernel
theorem dX10_half_70 : decode cX10_half 70 = .ok (.bipush 6, 2) := by decide +kernel
theorem dX10_half_72 : decode cX10_half 72 = .ok (.irem, 1) := by decide +kernel
theorem dX10_half_73 : decode cX10_half 73 = .ok (.iload_n 1, 1) := by decide +kernel
theorem dX10_half_74 : decode cX10_half 74 = .ok (.if_icmp .lt 30, 3) := by decide +kernel
theorem dX10_half_77 : decode cX10_half 77 = .ok (.iload 6, 2) := by decide +kernel
theorem dX10_half_79 : decode cX10_half 79 = .ok (.bipush 6, 2) := by decide +kernel
theorem dX10_half_81 : decode cX10_half 81 = .ok (.idiv, 1) := by decide +kernel
theorem dX10_half_82 : decode cX10_half 82 = .ok (.iconst 4, 1) := by decide +kernel
theorem dX10_half_83 : decode cX10_half 83 = .ok (.irem, 1) := by decide +kernel
theorem dX10_half_84 : decode cX10_half 84 = .ok (.iload_n 2, 1) := by decide +kernel
theorem dX10_half_85 : decode cX10_half 85 = .ok (.if_icmp .lt 19, 3) := by decide +kernel
theorem dX10_half_88 : decode cX10_half 88 = .ok (.iload 6, 2) := by decide +kernel
theorem dX10_half_90 : decode cX10_half 90 = .ok (.bipush 24, 2) := by decide +kernel
theorem dX10_half_92 : decode cX10_half 92 = .ok (.idiv, 1) := by decide +kernel
theorem dX10_half_93 : decode cX10_half 93 = .ok (.iload_n 3, 1) := by decide +kernel
theorem dX10_half_94 : decode cX10_half 94 = .ok (.if_icmp .ne 10, 3) := by decide +kernel
theorem dX10_half_97 : decode cX10_half 97 = .ok (.iconst 1, 1) := by decide +kernel
theorem dX10_half_98 : decode cX10_half 98 = .ok (.iload 5, 2) := by decide +kernel
theorem dX10_half_100 : decode cX10_half 100 = .ok (.ishl, 1) := by decide +kernel
theorem dX10_half_101 : decode cX10_half 101 = .ok (.goto 4, 3) := by decide +kernel
theorem dX10_half_104 : decode cX10_half 104 = .ok (.iconst 0, 1) := by decide +kernel
theorem dX10_half_105 : decode cX10_half 105 = .ok (.ior, 1) := by decide +kernel
theorem dX10_half_106 : decode cX10_half 106 = .ok (.istore 4, 2) := by decide +kernel
theorem dX10_half_108 : decode cX10_half 108 = .ok (.iinc 5 1, 3) := by decide +kernel
theorem dX10_half_111 : decode cX10_half 111 = .ok (.goto (-67), 3) := by decide +kernel
theorem dX10_half_114 : decode cX10_half 114 = .ok (.iload 4, 2) := by decide +kernel
theorem dX10_half_116 : decode cX10_half 116 = .ok (.ireturn, 1) := by decide +kernel
theorem dX10_isApart_0 : decode cX10_isApart 0 = .ok (.iconst 1, 1) := by decide +kernel
theorem dX10_isApart_1 : decode cX10_isApart 1 = .ok (.istore_n 3, 1) := by decide +kernel
theorem dX10_isApart_2 : decode cX10_isApart 2 = .ok (.iconst 0, 1) := by decide +kernel
theorem dX10_isApart_3 : decode cX10_isApart 3 = .ok (.istore 4, 2) := by decide +kernel
theorem dX10_isApart_5 : decode cX10_isApart 5 = .ok (.iload 4, 2) := by decide +kernel
theorem dX10_isApart_7 : decode cX10_isApart 7 = .ok (.bipush 72, 2) := by decide +kernel
theorem dX10_isApart_9 : decode cX10_isApart 9 = .ok (.if_icmp .ge 49, 3) := by decide +kernel
theorem dX10_isApart_12 : decode cX10_isApart 12 = .ok (.iload_n 3, 1) := by decide +kernel
theorem dX10_isApart_13 : decode cX10_isApart 13 = .ok (.ifCond .eq 37, 3) := by decide +kernel
theorem dX10_isApart_16 : decode cX10_isApart 16 = .ok (.aload_n 0, 1) := by decide +kernel
theorem dX10_isApart_17 : decode cX10_isApart 17 = .ok (.getfield 47, 3) := by decide +kernel
theorem dX10_isApart_20 : decode cX10_isApart 20 = .ok (.bipush 72, 2) := by decide +kernel
theorem dX10_isApart_22 : decode cX10_isApart 22 = .ok (.iload_n 1, 1) := by decide +kernel
theorem dX10_isApart_23 : decode cX10_isApart 23 = .ok (.imul, 1) := by decide +kernel
theorem dX10_isApart_24 : decode cX10_isApart 24 = .ok (.iload 4, 2) := by decide +kernel
theorem dX10_isApart_26 : decode cX10_isApart 26 = .ok (.iadd, 1) := by decide +kernel
theorem dX10_isApart_27 : decode cX10_isApart 27 = .ok (.baload, 1) := by decide +kernel
theorem dX10_isApart_28 : decode cX10_isApart 28 = .ok (.ifCond .eq 18, 3) := by decide +kernel
theorem dX10_isApart_31 : decode cX10_isApart 31 = .ok (.aload_n 0, 1) := by decide +kernel
theorem dX10_isApart_32 : decode cX10_isApart 32 = .ok (.getfield 47, 3) := by decide +kernel
theorem dX10_isApart_35 : decode cX10_isApart 35 = .ok (.bipush 72, 2) := by decide +kernel
theorem dX10_isApart_37 : decode cX10_isApart 37 = .ok (.iload_n 2, 1) := by decide +kernel
theorem dX10_isApart_38 : decode cX10_isApart 38 = .ok (.imul, 1) := by decide +kernel
theorem dX10_isApart_39 : decode cX10_isApart 39 = .ok (.iload 4, 2) := by decide +kernel
theorem dX10_isApart_41 : decode cX10_isApart 41 = .ok (.iadd, 1) := by decide +kernel
theorem dX10_isApart_42 : decode cX10_isApart 42 = .ok (.baload, 1) := by decide +kernel
theorem dX10_isApart_43 : decode cX10_isApart 43 = .ok (.ifCond .ne 7, 3) := by decide +kernel
theorem dX10_isApart_46 : decode cX10_isApart 46 = .ok (.iconst 1, 1) := by decide +kernel
theorem dX10_isApart_47 : decode cX10_isApart 47 = .ok (.goto 4, 3) := by decide +kernel
theorem dX10_isApart_50 : decode cX10_isApart 50 = .ok (.iconst 0, 1) := by decide +kernel
theorem dX10_isApart_51 : decode cX10_isApart 51 = .ok (.istore_n 3, 1) := by decide +kernel
theorem dX10_isApart_52 : decode cX10_isApart 52 = .ok (.iinc 4 1, 3) := by decide +kernel
theorem dX10_isApart_55 : decode cX10_isApart 55 = .ok (.goto (-50), 3) := by decide +kernel
theorem dX10_isApart_58 : decode cX10_isApart 58 = .ok (.iload_n 3, 1) := by decide +kernel
theorem dX10_isApart_59 : decode cX10_isApart 59 = .ok (.ireturn, 1) := by decide +kernel
theorem dX10_codes_0 : decode cX10_codes 0 = .ok (.iload_n 1, 1) := by decide +kernel
theorem dX10_codes_1 : decode cX10_codes 1 = .ok (.invokestatic 114, 3) := by decide +kernel
theorem dX10_codes_4 : decode cX10_codes 4 = .ok (.iload_n 2, 1) := by decide +kernel
theorem dX10_codes_5 : decode cX10_codes 5 = .ok (.ifCond .ge 7, 3) := by decide +kernel
theorem dX10_codes_8 : decode cX10_codes 8 = .ok (.iconst 0, 1) := by decide +kernel
theorem dX10_codes_9 : decode cX10_codes 9 = .ok (.goto 7, 3) := by decide +kernel
theorem dX10_codes_12 : decode cX10_codes 12 = .ok (.iload_n 2, 1) := by decide +kernel
theorem dX10_codes_13 : decode cX10_codes 13 = .ok (.invokestatic 114, 3) := by decide +kernel
theorem dX10_codes_16 : decode cX10_codes 16 = .ok (.iadd, 1) := by decide +kernel
theorem dX10_codes_17 : decode cX10_codes 17 = .ok (.iload_n 3, 1) := by decide +kernel
theorem dX10_codes_18 : decode cX10_codes 18 = .ok (.ifCond .ge 7, 3) := by decide +kernel
theorem dX10_codes_21 : decode cX10_codes 21 = .ok (.iconst 0, 1) := by decide +kernel
theorem dX10_codes_22 : decode cX10_codes 22 = .ok (.goto 7, 3) := by decide +kernel
theorem dX10_codes_25 : decode cX10_codes 25 = .ok (.iload_n 3, 1) := by decide +kernel
theorem dX10_codes_26 : decode cX10_codes 26 = .ok (.invokestatic 114, 3) := by decide +kernel
theorem dX10_codes_29 : decode cX10_codes 29 = .ok (.iadd, 1) := by decide +kernel
theorem dX10_codes_30 : decode cX10_codes 30 = .ok (.istore 4, 2) := by decide +kernel
theorem dX10_codes_32 : decode cX10_codes 32 = .ok (.aload_n 0, 1) := by decide +kernel
theorem dX10_codes_33 : decode cX10_codes 33 = .ok (.getfield 170, 3) := by decide +kernel
theorem dX10_codes_36 : decode cX10_codes 36 = .ok (.ifCond .lt 12, 3) := by decide +kernel
theorem dX10_codes_39 : decode cX10_codes 39 = .ok (.iload 4, 2) := by decide +kernel
theorem dX10_codes_41 : decode cX10_codes 41 = .ok (.aload_n 0, 1) := by decide +kernel
theorem dX10_codes_42 : decode cX10_codes 42 = .ok (.getfield 170, 3) := by decide +kernel
theorem dX10_codes_45 : decode cX10_codes 45 = .ok (.if_icmp .ge 30, 3) := by decide +kernel
theorem dX10_codes_48 : decode cX10_codes 48 = .ok (.aload_n 0, 1) := by decide +kernel
theorem dX10_codes_49 : decode cX10_codes 49 = .ok (.iload 4, 2) := by decide +kernel
theorem dX10_codes_51 : decode cX10_codes 51 = .ok (.putfield 170, 3) := by decide +kernel
theorem dX10_codes_54 : decode cX10_codes 54 = .ok (.aload_n 0, 1) := by decide +kernel
theorem dX10_codes_55 : decode cX10_codes 55 = .ok (.getfield 51, 3) := by decide +kernel
theorem dX10_codes_58 : decode cX10_codes 58 = .ok (.iconst 0, 1) := by decide +kernel
theorem dX10_codes_59 : decode cX10_codes 59 = .ok (.iload_n 1, 1) := by decide +kernel
theorem dX10_codes_60 : decode cX10_codes 60 = .ok (.iastore, 1) := by decide +kernel
theorem dX10_codes_61 : decode cX10_codes 61 = .ok (.aload_n 0, 1) := by decide +kernel
theorem dX10_codes_62 : decode cX10_codes 62 = .ok (.getfield 51, 3) := by decide +kernel
theorem dX10_codes_65 : decode cX10_codes 65 = .ok (.iconst 1, 1) := by decide +kernel
theorem dX10_codes_66 : decode cX10_codes 66 = .ok (.iload_n 2, 1) := by decide +kernel
theorem dX10_codes_67 : decode cX10_codes 67 = .ok (.iastore, 1) := by decide +kernel
theorem dX10_codes_68 : decode cX10_codes 68 = .ok (.aload_n 0, 1) := by decide +kernel
theorem dX10_codes_69 : decode cX10_codes 69 = .ok (.getfield 51, 3) := by decide +kernel
theorem dX10_codes_72 : decode cX10_codes 72 = .ok (.iconst 2, 1) := by decide +kernel
theorem dX10_codes_73 : decode cX10_codes 73 = .ok (.iload_n 3, 1) := by decide +kernel
theorem dX10_codes_74 : decode cX10_codes 74 = .ok (.iastore, 1) := by decide +kernel
theorem dX10_codes_75 : decode cX10_codes 75 = .ok (.return_, 1) := by decide +kernel
theorem dX10_code_0 : decode cX10_code 0 = .ok (.iload_n 1, 1) := by decide +kernel
theorem dX10_code_1 : decode cX10_code 1 = .ok (.i2l, 1) := by decide +kernel
theorem dX10_code_2 : decode cX10_code 2 = .ok (.lconst 1, 1) := by decide +kernel
theorem dX10_code_3 : decode cX10_code 3 = .ok (.ldc2_w 131, 3) := by decide +kernel
theorem dX10_code_6 : decode cX10_code 6 = .ok (.invokestatic 65, 3) := by decide +kernel
theorem dX10_code_9 : decode cX10_code 9 = .ok (.ifCond .eq 27, 3) := by decide +kernel
theorem dX10_code_12 : decode cX10_code 12 = .ok (.iload_n 2, 1) := by decide +kernel
theorem dX10_code_13 : decode cX10_code 13 = .ok (.iload_n 3, 1) := by decide +kernel
theorem dX10_code_14 : decode cX10_code 14 = .ok (.invokestatic 162, 3) := by decide +kernel
theorem dX10_code_17 : decode cX10_code 17 = .ok (.ifCond .eq 19, 3) := by decide +kernel
theorem dX10_code_20 : decode cX10_code 20 = .ok (.iload 4, 2) := by decide +kernel
theorem dX10_code_22 : decode cX10_code 22 = .ok (.i2l, 1) := by decide +kernel
theorem dX10_code_23 : decode cX10_code 23 = .ok (.ldc2_w 173, 3) := by decide +kernel
theorem dX10_code_26 : decode cX10_code 26 = .ok (.iload_n 1, 1) := by decide +kernel
theorem dX10_code_27 : decode cX10_code 27 = .ok (.iconst 1, 1) := by decide +kernel
theorem dX10_code_28 : decode cX10_code 28 = .ok (.isub, 1) := by decide +kernel
theorem dX10_code_29 : decode cX10_code 29 = .ok (.i2l, 1) := by decide +kernel
theorem dX10_code_30 : decode cX10_code 30 = .ok (.invokestatic 65, 3) := by decide +kernel
theorem dX10_code_33 : decode cX10_code 33 = .ok (.ifCond .ne 5, 3) := by decide +kernel
theorem dX10_code_36 : decode cX10_code 36 = .ok (.iconst (-1), 1) := by decide +kernel
theorem dX10_code_37 : decode cX10_code 37 = .ok (.ireturn, 1) := by decide +kernel
theorem dX10_code_38 : decode cX10_code 38 = .ok (.iconst 0, 1) := by decide +kernel
theorem dX10_code_39 : decode cX10_code 39 = .ok (.istore 5, 2) := by decide +kernel
theorem dX10_code_41 : decode cX10_code 41 = .ok (.iload 5, 2) := by decide +kernel
theorem dX10_code_43 : decode cX10_code 43 = .ok (.sipush 5184, 3) := by decide +kernel
theorem dX10_code_46 : decode cX10_code 46 = .ok (.if_icmp .ge 17, 3) := by decide +kernel
theorem dX10_code_49 : decode cX10_code 49 = .ok (.aload_n 0, 1) := by decide +kernel
theorem dX10_code_50 : decode cX10_code 50 = .ok (.getfield 47, 3) := by decide +kernel
theorem dX10_code_53 : decode cX10_code 53 = .ok (.iload 5, 2) := by decide +kernel
theorem dX10_code_55 : decode cX10_code 55 = .ok (.iconst 0, 1) := by decide +kernel
theorem dX10_code_56 : decode cX10_code 56 = .ok (.bastore, 1) := by decide +kernel
theorem dX10_code_57 : decode cX10_code 57 = .ok (.iinc 5 1, 3) := by decide +kernel
theorem dX10_code_60 : decode cX10_code 60 = .ok (.goto (-19), 3) := by decide +kernel
theorem dX10_code_63 : decode cX10_code 63 = .ok (.iconst 0, 1) := by decide +kernel
theorem dX10_code_64 : decode cX10_code 64 = .ok (.istore 5, 2) := by decide +kernel
theorem dX10_code_66 : decode cX10_code 66 = .ok (.iload 5, 2) := by decide +kernel
theorem dX10_code_68 : decode cX10_code 68 = .ok (.bipush 72, 2) := by decide +kernel
theorem dX10_code_70 : decode cX10_code 70 = .ok (.if_icmp .ge 67, 3) := by decide +kernel
theorem dX10_code_73 : decode cX10_code 73 = .ok (.iconst 0, 1) := by decide +kernel
theorem dX10_code_74 : decode cX10_code 74 = .ok (.istore 6, 2) := by decide +kernel
theorem dX10_code_76 : decode cX10_code 76 = .ok (.iload 6, 2) := by decide +kernel
theorem dX10_code_78 : decode cX10_code 78 = .ok (.bipush 84, 2) := by decide +kernel
theorem dX10_code_80 : decode cX10_code 80 = .ok (.if_icmp .ge 51, 3) := by decide +kernel
theorem dX10_code_83 : decode cX10_code 83 = .ok (.iload 6, 2) := by decide +kernel
theorem dX10_code_85 : decode cX10_code 85 = .ok (.iconst 4, 1) := by decide +kernel
theorem dX10_code_86 : decode cX10_code 86 = .ok (.idiv, 1) := by decide +kernel
theorem dX10_code_87 : decode cX10_code 87 = .ok (.iload_n 2, 1) := by decide +kernel
theorem dX10_code_88 : decode cX10_code 88 = .ok (.if_icmp .gt 37, 3) := by decide +kernel
theorem dX10_code_91 : decode cX10_code 91 = .ok (.iload 6, 2) := by decide +kernel
theorem dX10_code_93 : decode cX10_code 93 = .ok (.iconst 4, 1) := by decide +kernel
theorem dX10_code_94 : decode cX10_code 94 = .ok (.irem, 1) := by decide +kernel
theorem dX10_code_95 : decode cX10_code 95 = .ok (.iload_n 3, 1) := by decide +kernel
theorem dX10_code_96 : decode cX10_code 96 = .ok (.if_icmp .gt 29, 3) := by decide +kernel
theorem dX10_code_99 : decode cX10_code 99 = .ok (.aload_n 0, 1) := by decide +kernel
theorem dX10_code_100 : decode cX10_code 100 = .ok (.getfield 47, 3) := by decide +kernel
theorem dX10_code_103 : decode cX10_code 103 = .ok (.bipush 72, 2) := by decide +kernel
theorem dX10_code_105 : decode cX10_code 105 = .ok (.iload 5, 2) := by decide +kernel
theorem dX10_code_107 : decode cX10_code 107 = .ok (.imul, 1) := by decide +kernel
theorem dX10_code_108 : decode cX10_code 108 = .ok (.aload_n 0, 1) := by decide +kernel
theorem dX10_code_109 : decode cX10_code 109 = .ok (.iload 5, 2) := by decide +kernel
theorem dX10_code_111 : decode cX10_code 111 = .ok (.iload 6, 2) := by decide +kernel
theorem dX10_code_113 : decode cX10_code 113 = .ok (.iconst 4, 1) := by decide +kernel
theorem dX10_code_114 : decode cX10_code 114 = .ok (.idiv, 1) := by decide +kernel
theorem dX10_code_115 : decode cX10_code 115 = .ok (.iload 6, 2) := by decide +kernel
theorem dX10_code_117 : decode cX10_code 117 = .ok (.iconst 4, 1) := by decide +kernel
theorem dX10_code_118 : decode cX10_code 118 = .ok (.irem, 1) := by decide +kernel
theorem dX10_code_119 : decode cX10_code 119 = .ok (.invokevirtual 127, 3) := by decide +kernel
theorem dX10_code_122 : decode cX10_code 122 = .ok (.iadd, 1) := by decide +kernel
theorem dX10_code_123 : decode cX10_code 123 = .ok (.iconst 1, 1) := by decide +kernel
theorem dX10_code_124 : decode cX10_code 124 = .ok (.bastore, 1) := by decide +kernel
theorem dX10_code_125 : decode cX10_code 125 = .ok (.iinc 6 1, 3) := by decide +kernel
theorem dX10_code_128 : decode cX10_code 128 = .ok (.goto (-52), 3) := by decide +kernel
theorem dX10_code_131 : decode cX10_code 131 = .ok (.iinc 5 1, 3) := by decide +kernel
theorem dX10_code_134 : decode cX10_code 134 = .ok (.goto (-68), 3) := by decide +kernel
theorem dX10_code_137 : decode cX10_code 137 = .ok (.aload_n 0, 1) := by decide +kernel
theorem dX10_code_138 : decode cX10_code 138 = .ok (.bipush (-4), 2) := by decide +kernel
theorem dX10_code_140 : decode cX10_code 140 = .ok (.putfield 170, 3) := by decide +kernel
theorem dX10_code_143 : decode cX10_code 143 = .ok (.iconst 0, 1) := by decide +kernel
theorem dX10_code_144 : decode cX10_code 144 = .ok (.istore 5, 2) := by decide +kernel
theorem dX10_code_146 : decode cX10_code 146 = .ok (.iload 5, 2) := by decide +kernel
theorem dX10_code_148 : decode cX10_code 148 = .ok (.bipush 72, 2) := by decide +kernel
theorem dX10_code_150 : decode cX10_code 150 = .ok (.if_icmp .ge 127, 3) := by decide +kernel
theorem dX10_code_153 : decode cX10_code 153 = .ok (.iload_n 1, 1) := by decide +kernel
theorem dX10_code_154 : decode cX10_code 154 = .ok (.iconst 1, 1) := by decide +kernel
theorem dX10_code_155 : decode cX10_code 155 = .ok (.if_icmp .ne 11, 3) := by decide +kernel
theorem dX10_code_158 : decode cX10_code 158 = .ok (.aload_n 0, 1) := by decide +kernel
theorem dX10_code_159 : decode cX10_code 159 = .ok (.iload 5, 2) := by decide +kernel
theorem dX10_code_161 : decode cX10_code 161 = .ok (.iconst (-1), 1) := by decide +kernel
theorem dX10_code_162 : decode cX10_code 162 = .ok (.iconst (-1), 1) := by decide +kernel
theorem dX10_code_163 : decode cX10_code 163 = .ok (.invokevirtual 175, 3) := by decide +kernel
theorem dX10_code_166 : decode cX10_code 166 = .ok (.iload 5, 2) := by decide +kernel
theorem dX10_code_168 : decode cX10_code 168 = .ok (.iconst 1, 1) := by decide +kernel
theorem dX10_code_169 : decode cX10_code 169 = .ok (.iadd, 1) := by decide +kernel
theorem dX10_code_170 : decode cX10_code 170 = .ok (.istore 6, 2) := by decide +kernel
theorem dX10_code_172 : decode cX10_code 172 = .ok (.iload 6, 2) := by decide +kernel
theorem dX10_code_174 : decode cX10_code 174 = .ok (.bipush 72, 2) := by decide +kernel
theorem dX10_code_176 : decode cX10_code 176 = .ok (.if_icmp .ge 95, 3) := by decide +kernel
theorem dX10_code_179 : decode cX10_code 179 = .ok (.iload_n 1, 1) := by decide +kernel
theorem dX10_code_180 : decode cX10_code 180 = .ok (.iconst 1, 1) := by decide +kernel
theorem dX10_code_181 : decode cX10_code 181 = .ok (.if_icmp .le 90, 3) := by decide +kernel
theorem dX10_code_184 : decode cX10_code 184 = .ok (.aload_n 0, 1) := by decide +kernel
theorem dX10_code_185 : decode cX10_code 185 = .ok (.iload 5, 2) := by decide +kernel
theorem dX10_code_187 : decode cX10_code 187 = .ok (.iload 6, 2) := by decide +kernel
theorem dX10_code_189 : decode cX10_code 189 = .ok (.invokevirtual 179, 3) := by decide +kernel
theorem dX10_code_192 : decode cX10_code 192 = .ok (.ifCond .eq 73, 3) := by decide +kernel
theorem dX10_code_195 : decode cX10_code 195 = .ok (.iload_n 1, 1) := by decide +kernel
theorem dX10_code_196 : decode cX10_code 196 = .ok (.iconst 2, 1) := by decide +kernel
theorem dX10_code_197 : decode cX10_code 197 = .ok (.if_icmp .ne 12, 3) := by decide +kernel
theorem dX10_code_200 : decode cX10_code 200 = .ok (.aload_n 0, 1) := by decide +kernel
theorem dX10_code_201 : decode cX10_code 201 = .ok (.iload 5, 2) := by decide +kernel
theorem dX10_code_203 : decode cX10_code 203 = .ok (.iload 6, 2) := by decide +kernel
theorem dX10_code_205 : decode cX10_code 205 = .ok (.iconst (-1), 1) := by decide +kernel
theorem dX10_code_206 : decode cX10_code 206 = .ok (.invokevirtual 175, 3) := by decide +kernel
theorem dX10_code_209 : decode cX10_code 209 = .ok (.iload 6, 2) := by decide +kernel
theorem dX10_code_211 : decode cX10_code 211 = .ok (.iconst 1, 1) := by decide +kernel
theorem dX10_code_212 : decode cX10_code 212 = .ok (.iadd, 1) := by decide +kernel
theorem dX10_code_213 : decode cX10_code 213 = .ok (.istore 7, 2) := by decide +kernel
theorem dX10_code_215 : decode cX10_code 215 = .ok (.iload 7, 2) := by decide +kernel
theorem dX10_code_217 : decode cX10_code 217 = .ok (.bipush 72, 2) := by decide +kernel
theorem dX10_code_219 : decode cX10_code 219 = .ok (.if_icmp .ge 46, 3) := by decide +kernel
theorem dX10_code_222 : decode cX10_code 222 = .ok (.iload_n 1, 1) := by decide +kernel
theorem dX10_code_223 : decode cX10_code 223 = .ok (.iconst 2, 1) := by decide +kernel
theorem dX10_code_224 : decode cX10_code 224 = .ok (.if_icmp .le 41, 3) := by decide +kernel
theorem dX10_code_227 : decode cX10_code 227 = .ok (.aload_n 0, 1) := by decide +kernel
theorem dX10_code_228 : decode cX10_code 228 = .ok (.iload 5, 2) := by decide +kernel
theorem dX10_code_230 : decode cX10_code 230 = .ok (.iload 7, 2) := by decide +kernel
theorem dX10_code_232 : decode cX10_code 232 = .ok (.invokevirtual 179, 3) := by decide +kernel
theorem dX10_code_235 : decode cX10_code 235 = .ok (.ifCond .eq 24, 3) := by decide +kernel
theorem dX10_code_238 : decode cX10_code 238 = .ok (.aload_n 0, 1) := by decide +kernel
theorem dX10_code_239 : decode cX10_code 239 = .ok (.iload 6, 2) := by decide +kernel
theorem dX10_code_241 : decode cX10_code 241 = .ok (.iload 7, 2) := by decide +kernel
theorem dX10_code_243 : decode cX10_code 243 = .ok (.invokevirtual 179, 3) := by decide +kernel
theorem dX10_code_246 : decode cX10_code 246 = .ok (.ifCond .eq 13, 3) := by decide +kernel
theorem dX10_code_249 : decode cX10_code 249 = .ok (.aload_n 0, 1) := by decide +kernel
theorem dX10_code_250 : decode cX10_code 250 = .ok (.iload 5, 2) := by decide +kernel
theorem dX10_code_252 : decode cX10_code 252 = .ok (.iload 6, 2) := by decide +kernel
theorem dX10_code_254 : decode cX10_code 254 = .ok (.iload 7, 2) := by decide +kernel
theorem dX10_code_256 : decode cX10_code 256 = .ok (.invokevirtual 175, 3) := by decide +kernel
theorem dX10_code_259 : decode cX10_code 259 = .ok (.iinc 7 1, 3) := by decide +kernel
theorem dX10_code_262 : decode cX10_code 262 = .ok (.goto (-47), 3) := by decide +kernel
theorem dX10_code_265 : decode cX10_code 265 = .ok (.iinc 6 1, 3) := by decide +kernel
theorem dX10_code_268 : decode cX10_code 268 = .ok (.goto (-96), 3) := by decide +kernel
theorem dX10_code_271 : decode cX10_code 271 = .ok (.iinc 5 1, 3) := by decide +kernel
theorem dX10_code_274 : decode cX10_code 274 = .ok (.goto (-128), 3) := by decide +kernel
theorem dX10_code_277 : decode cX10_code 277 = .ok (.aload_n 0, 1) := by decide +kernel
theorem dX10_code_278 : decode cX10_code 278 = .ok (.getfield 170, 3) := by decide +kernel
theorem dX10_code_281 : decode cX10_code 281 = .ok (.ifCond .lt 8, 3) := by decide +kernel
theorem dX10_code_284 : decode cX10_code 284 = .ok (.iload 4, 2) := by decide +kernel
theorem dX10_code_286 : decode cX10_code 286 = .ok (.ifCond .ge 10, 3) := by decide +kernel
theorem dX10_code_289 : decode cX10_code 289 = .ok (.aload_n 0, 1) := by decide +kernel
theorem dX10_code_290 : decode cX10_code 290 = .ok (.getfield 170, 3) := by decide +kernel
theorem dX10_code_293 : decode cX10_code 293 = .ok (.goto 10, 3) := by decide +kernel
theorem dX10_code_296 : decode cX10_code 296 = .ok (.aload_n 0, 1) := by decide +kernel
theorem dX10_code_297 : decode cX10_code 297 = .ok (.getfield 51, 3) := by decide +kernel
theorem dX10_code_300 : decode cX10_code 300 = .ok (.iload 4, 2) := by decide +kernel
theorem dX10_code_302 : decode cX10_code 302 = .ok (.iaload, 1) := by decide +kernel
theorem dX10_code_303 : decode cX10_code 303 = .ok (.ireturn, 1) := by decide +kernel
theorem dX10_isCarrier_0 : decode cX10_isCarrier 0 = .ok (.iload_n 1, 1) := by decide +kernel
theorem dX10_isCarrier_1 : decode cX10_isCarrier 1 = .ok (.i2l, 1) := by decide +kernel
theorem dX10_isCarrier_2 : decode cX10_isCarrier 2 = .ok (.lconst 0, 1) := by decide +kernel
theorem dX10_isCarrier_3 : decode cX10_isCarrier 3 = .ok (.aload_n 0, 1) := by decide +kernel
theorem dX10_isCarrier_4 : decode cX10_isCarrier 4 = .ok (.getfield 23, 3) := by decide +kernel
theorem dX10_isCarrier_7 : decode cX10_isCarrier 7 = .ok (.iconst 0, 1) := by decide +kernel
theorem dX10_isCarrier_8 : decode cX10_isCarrier 8 = .ok (.iaload, 1) := by decide +kernel
theorem dX10_isCarrier_9 : decode cX10_isCarrier 9 = .ok (.iconst 1, 1) := by decide +kernel
theorem dX10_isCarrier_10 : decode cX10_isCarrier 10 = .ok (.isub, 1) := by decide +kernel
theorem dX10_isCarrier_11 : decode cX10_isCarrier 11 = .ok (.i2l, 1) := by decide +kernel
theorem dX10_isCarrier_12 : decode cX10_isCarrier 12 = .ok (.invokestatic 65, 3) := by decide +kernel
theorem dX10_isCarrier_15 : decode cX10_isCarrier 15 = .ok (.ireturn, 1) := by decide +kernel
theorem dX10_power_0 : decode cX10_power 0 = .ok (.lconst 1, 1) := by decide +kernel
theorem dX10_power_1 : decode cX10_power 1 = .ok (.lstore_n 3, 1) := by decide +kernel
theorem dX10_power_2 : decode cX10_power 2 = .ok (.iconst 0, 1) := by decide +kernel
theorem dX10_power_3 : decode cX10_power 3 = .ok (.istore 5, 2) := by decide +kernel
theorem dX10_power_5 : decode cX10_power 5 = .ok (.iload 5, 2) := by decide +kernel
theorem dX10_power_7 : decode cX10_power 7 = .ok (.iload_n 2, 1) := by decide +kernel
theorem dX10_power_8 : decode cX10_power 8 = .ok (.if_icmp .ge 13, 3) := by decide +kernel
theorem dX10_power_11 : decode cX10_power 11 = .ok (.lload_n 3, 1) := by decide +kernel
theorem dX10_power_12 : decode cX10_power 12 = .ok (.lload_n 0, 1) := by decide +kernel
theorem dX10_power_13 : decode cX10_power 13 = .ok (.lmul, 1) := by decide +kernel
theorem dX10_power_14 : decode cX10_power 14 = .ok (.lstore_n 3, 1) := by decide +kernel
theorem dX10_power_15 : decode cX10_power 15 = .ok (.iinc 5 1, 3) := by decide +kernel
theorem dX10_power_18 : decode cX10_power 18 = .ok (.goto (-13), 3) := by decide +kernel
theorem dX10_power_21 : decode cX10_power 21 = .ok (.lload_n 3, 1) := by decide +kernel
theorem dX10_power_22 : decode cX10_power 22 = .ok (.lreturn, 1) := by decide +kernel
theorem dX10_reads_0 : decode cX10_reads 0 = .ok (.aload_n 0, 1) := by decide +kernel
theorem dX10_reads_1 : decode cX10_reads 1 = .ok (.getfield 26, 3) := by decide +kernel
theorem dX10_reads_4 : decode cX10_reads 4 = .ok (.iconst 2, 1) := by decide +kernel
theorem dX10_reads_5 : decode cX10_reads 5 = .ok (.iload_n 2, 1) := by decide +kernel
theorem dX10_reads_6 : decode cX10_reads 6 = .ok (.imul, 1) := by decide +kernel
theorem dX10_reads_7 : decode cX10_reads 7 = .ok (.iaload, 1) := by decide +kernel
theorem dX10_reads_8 : decode cX10_reads 8 = .ok (.istore 4, 2) := by decide +kernel
theorem dX10_reads_10 : decode cX10_reads 10 = .ok (.aload_n 0, 1) := by decide +kernel
theorem dX10_reads_11 : decode cX10_reads 11 = .ok (.getfield 26, 3) := by decide +kernel
theorem dX10_reads_14 : decode cX10_reads 14 = .ok (.iconst 2, 1) := by decide +kernel
theorem dX10_reads_15 : decode cX10_reads 15 = .ok (.iload_n 2, 1) := by decide +kernel
theorem dX10_reads_16 : decode cX10_reads 16 = .ok (.imul, 1) := by decide +kernel
theorem dX10_reads_17 : decode cX10_reads 17 = .ok (.iconst 1, 1) := by decide +kernel
theorem dX10_reads_18 : decode cX10_reads 18 = .ok (.iadd, 1) := by decide +kernel
theorem dX10_reads_19 : decode cX10_reads 19 = .ok (.iaload, 1) := by decide +kernel
theorem dX10_reads_20 : decode cX10_reads 20 = .ok (.istore 5, 2) := by decide +kernel
theorem dX10_reads_22 : decode cX10_reads 22 = .ok (.lconst 0, 1) := by decide +kernel
theorem dX10_reads_23 : decode cX10_reads 23 = .ok (.lstore 6, 2) := by decide +kernel
theorem dX10_reads_25 : decode cX10_reads 25 = .ok (.lconst 1, 1) := by decide +kernel
theorem dX10_reads_26 : decode cX10_reads 26 = .ok (.lstore 8, 2) := by decide +kernel
theorem dX10_reads_28 : decode cX10_reads 28 = .ok (.iconst 0, 1) := by decide +kernel
theorem dX10_reads_29 : decode cX10_reads 29 = .ok (.istore 10, 2) := by decide +kernel
theorem dX10_reads_31 : decode cX10_reads 31 = .ok (.iload 10, 2) := by decide +kernel
theorem dX10_reads_33 : decode cX10_reads 33 = .ok (.iload 5, 2) := by decide +kernel
theorem dX10_reads_35 : decode cX10_reads 35 = .ok (.if_icmp .gt 88, 3) := by decide +kernel
theorem dX10_reads_38 : decode cX10_reads 38 = .ok (.lload 6, 2) := by decide +kernel
theorem dX10_reads_40 : decode cX10_reads 40 = .ok (.aload_n 0, 1) := by decide +kernel
theorem dX10_reads_41 : decode cX10_reads 41 = .ok (.aload_n 0, 1) := by decide +kernel
theorem dX10_reads_42 : decode cX10_reads 42 = .ok (.getfield 20, 3) := by decide +kernel
theorem dX10_reads_45 : decode cX10_reads 45 = .ok (.iconst 2, 1) := by decide +kernel
theorem dX10_reads_46 : decode cX10_reads 46 = .ok (.iload_n 1, 1) := by decide +kernel
theorem dX10_reads_47 : decode cX10_reads 47 = .ok (.imul, 1) := by decide +kernel
theorem dX10_reads_48 : decode cX10_reads 48 = .ok (.iaload, 1) := by decide +kernel
theorem dX10_reads_49 : decode cX10_reads 49 = .ok (.iload_n 3, 1) := by decide +kernel
theorem dX10_reads_50 : decode cX10_reads 50 = .ok (.iload 10, 2) := by decide +kernel
theorem dX10_reads_52 : decode cX10_reads 52 = .ok (.invokevirtual 127, 3) := by decide +kernel
theorem dX10_reads_55 : decode cX10_reads 55 = .ok (.aload_n 0, 1) := by decide +kernel
theorem dX10_reads_56 : decode cX10_reads 56 = .ok (.getfield 20, 3) := by decide +kernel
theorem dX10_reads_59 : decode cX10_reads 59 = .ok (.iconst 2, 1) := by decide +kernel
theorem dX10_reads_60 : decode cX10_reads 60 = .ok (.iload_n 1, 1) := by decide +kernel
theorem dX10_reads_61 : decode cX10_reads 61 = .ok (.imul, 1) := by decide +kernel
theorem dX10_reads_62 : decode cX10_reads 62 = .ok (.iaload, 1) := by decide +kernel
theorem dX10_reads_63 : decode cX10_reads 63 = .ok (.if_icmp .ne 33, 3) := by decide +kernel
theorem dX10_reads_66 : decode cX10_reads 66 = .ok (.lload 8, 2) := by decide +kernel
theorem dX10_reads_68 : decode cX10_reads 68 = .ok (.iload 4, 2) := by decide +kernel
theorem dX10_reads_70 : decode cX10_reads 70 = .ok (.i2l, 1) := by decide +kernel
theorem dX10_reads_71 : decode cX10_reads 71 = .ok (.iload 10, 2) := by decide +kernel
theorem dX10_reads_73 : decode cX10_reads 73 = .ok (.invokestatic 182, 3) := by decide +kernel
theorem dX10_reads_76 : decode cX10_reads 76 = .ok (.lmul, 1) := by decide +kernel
theorem dX10_reads_77 : decode cX10_reads 77 = .ok (.ldc2_w 186, 3) := by decide +kernel
theorem dX10_reads_80 : decode cX10_reads 80 = .ok (.iload 4, 2) := by decide +kernel
theorem dX10_reads_82 : decode cX10_reads 82 = .ok (.i2l, 1) := by decide +kernel
theorem dX10_reads_83 : decode cX10_reads 83 = .ok (.lsub, 1) := by decide +kernel
theorem dX10_reads_84 : decode cX10_reads 84 = .ok (.iload 5, 2) := by decide +kernel
theorem dX10_reads_86 : decode cX10_reads 86 = .ok (.iload 10, 2) := by decide +kernel
theorem dX10_reads_88 : decode cX10_reads 88 = .ok (.isub, 1) := by decide +kernel
theorem dX10_reads_89 : decode cX10_reads 89 = .ok (.invokestatic 182, 3) := by decide +kernel
theorem dX10_reads_92 : decode cX10_reads 92 = .ok (.lmul, 1) := by decide +kernel
theorem dX10_reads_93 : decode cX10_reads 93 = .ok (.goto 4, 3) := by decide +kernel
theorem dX10_reads_96 : decode cX10_reads 96 = .ok (.lconst 0, 1) := by decide +kernel
theorem dX10_reads_97 : decode cX10_reads 97 = .ok (.ladd, 1) := by decide +kernel
theorem dX10_reads_98 : decode cX10_reads 98 = .ok (.lstore 6, 2) := by decide +kernel
theorem dX10_reads_100 : decode cX10_reads 100 = .ok (.lload 8, 2) := by decide +kernel
theorem dX10_reads_102 : decode cX10_reads 102 = .ok (.iload 5, 2) := by decide +kernel
theorem dX10_reads_104 : decode cX10_reads 104 = .ok (.iload 10, 2) := by decide +kernel
theorem dX10_reads_106 : decode cX10_reads 106 = .ok (.isub, 1) := by decide +kernel
theorem dX10_reads_107 : decode cX10_reads 107 = .ok (.i2l, 1) := by decide +kernel
theorem dX10_reads_108 : decode cX10_reads 108 = .ok (.lmul, 1) := by decide +kernel
theorem dX10_reads_109 : decode cX10_reads 109 = .ok (.iload 10, 2) := by decide +kernel
theorem dX10_reads_111 : decode cX10_reads 111 = .ok (.iconst 1, 1) := by decide +kernel
theorem dX10_reads_112 : decode cX10_reads 112 = .ok (.iadd, 1) := by decide +kernel
theorem dX10_reads_113 : decode cX10_reads 113 = .ok (.i2l, 1) := by decide +kernel
theorem dX10_reads_114 : decode cX10_reads 114 = .ok (.ldiv, 1) := by decide +kernel
theorem dX10_reads_115 : decode cX10_reads 115 = .ok (.lstore 8, 2) := by decide +kernel
theorem dX10_reads_117 : decode cX10_reads 117 = .ok (.iinc 10 1, 3) := by decide +kernel
theorem dX10_reads_120 : decode cX10_reads 120 = .ok (.goto (-89), 3) := by decide +kernel
theorem dX10_reads_123 : decode cX10_reads 123 = .ok (.lload 6, 2) := by decide +kernel
theorem dX10_reads_125 : decode cX10_reads 125 = .ok (.lreturn, 1) := by decide +kernel
theorem dX10_tens_0 : decode cX10_tens 0 = .ok (.ldc2_w 186, 3) := by decide +kernel
theorem dX10_tens_3 : decode cX10_tens 3 = .ok (.aload_n 0, 1) := by decide +kernel
theorem dX10_tens_4 : decode cX10_tens 4 = .ok (.getfield 26, 3) := by decide +kernel
theorem dX10_tens_7 : decode cX10_tens 7 = .ok (.iconst 2, 1) := by decide +kernel
theorem dX10_tens_8 : decode cX10_tens 8 = .ok (.iload_n 1, 1) := by decide +kernel
theorem dX10_tens_9 : decode cX10_tens 9 = .ok (.imul, 1) := by decide +kernel
theorem dX10_tens_10 : decode cX10_tens 10 = .ok (.iconst 1, 1) := by decide +kernel
theorem dX10_tens_11 : decode cX10_tens 11 = .ok (.iadd, 1) := by decide +kernel
theorem dX10_tens_12 : decode cX10_tens 12 = .ok (.iaload, 1) := by decide +kernel
theorem dX10_tens_13 : decode cX10_tens 13 = .ok (.invokestatic 182, 3) := by decide +kernel
theorem dX10_tens_16 : decode cX10_tens 16 = .ok (.lreturn, 1) := by decide +kernel
theorem dX10_lowest_0 : decode cX10_lowest 0 = .ok (.lload_n 1, 1) := by decide +kernel
theorem dX10_lowest_1 : decode cX10_lowest 1 = .ok (.lstore 5, 2) := by decide +kernel
theorem dX10_lowest_3 : decode cX10_lowest 3 = .ok (.lload_n 3, 1) := by decide +kernel
theorem dX10_lowest_4 : decode cX10_lowest 4 = .ok (.lstore 7, 2) := by decide +kernel
theorem dX10_lowest_6 : decode cX10_lowest 6 = .ok (.lload 7, 2) := by decide +kernel
theorem dX10_lowest_8 : decode cX10_lowest 8 = .ok (.lconst 0, 1) := by decide +kernel
theorem dX10_lowest_9 : decode cX10_lowest 9 = .ok (.lcmp, 1) := by decide +kernel
theorem dX10_lowest_10 : decode cX10_lowest 10 = .ok (.ifCond .eq 21, 3) := by decide +kernel
theorem dX10_lowest_13 : decode cX10_lowest 13 = .ok (.lload 5, 2) := by decide +kernel
theorem dX10_lowest_15 : decode cX10_lowest 15 = .ok (.lload 7, 2) := by decide +kernel
theorem dX10_lowest_17 : decode cX10_lowest 17 = .ok (.lrem, 1) := by decide +kernel
theorem dX10_lowest_18 : decode cX10_lowest 18 = .ok (.lstore 9, 2) := by decide +kernel
theorem dX10_lowest_20 : decode cX10_lowest 20 = .ok (.lload 7, 2) := by decide +kernel
theorem dX10_lowest_22 : decode cX10_lowest 22 = .ok (.lstore 5, 2) := by decide +kernel
theorem dX10_lowest_24 : decode cX10_lowest 24 = .ok (.lload 9, 2) := by decide +kernel
theorem dX10_lowest_26 : decode cX10_lowest 26 = .ok (.lstore 7, 2) := by decide +kernel
theorem dX10_lowest_28 : decode cX10_lowest 28 = .ok (.goto (-22), 3) := by decide +kernel
theorem dX10_lowest_31 : decode cX10_lowest 31 = .ok (.aload_n 0, 1) := by decide +kernel
theorem dX10_lowest_32 : decode cX10_lowest 32 = .ok (.lload_n 1, 1) := by decide +kernel
theorem dX10_lowest_33 : decode cX10_lowest 33 = .ok (.lload 5, 2) := by decide +kernel
theorem dX10_lowest_35 : decode cX10_lowest 35 = .ok (.ldiv, 1) := by decide +kernel
theorem dX10_lowest_36 : decode cX10_lowest 36 = .ok (.putfield 188, 3) := by decide +kernel
theorem dX10_lowest_39 : decode cX10_lowest 39 = .ok (.aload_n 0, 1) := by decide +kernel
theorem dX10_lowest_40 : decode cX10_lowest 40 = .ok (.lload_n 3, 1) := by decide +kernel
theorem dX10_lowest_41 : decode cX10_lowest 41 = .ok (.lload 5, 2) := by decide +kernel
theorem dX10_lowest_43 : decode cX10_lowest 43 = .ok (.ldiv, 1) := by decide +kernel
theorem dX10_lowest_44 : decode cX10_lowest 44 = .ok (.putfield 192, 3) := by decide +kernel
theorem dX10_lowest_47 : decode cX10_lowest 47 = .ok (.return_, 1) := by decide +kernel
theorem dX10_isAge_0 : decode cX10_isAge 0 = .ok (.iload_n 0, 1) := by decide +kernel
theorem dX10_isAge_1 : decode cX10_isAge 1 = .ok (.i2l, 1) := by decide +kernel
theorem dX10_isAge_2 : decode cX10_isAge 2 = .ok (.lconst 0, 1) := by decide +kernel
theorem dX10_isAge_3 : decode cX10_isAge 3 = .ok (.ldc2_w 157, 3) := by decide +kernel
theorem dX10_isAge_6 : decode cX10_isAge 6 = .ok (.invokestatic 65, 3) := by decide +kernel
theorem dX10_isAge_9 : decode cX10_isAge 9 = .ok (.ireturn, 1) := by decide +kernel
theorem dX10_sent_0 : decode cX10_sent 0 = .ok (.aload_n 0, 1) := by decide +kernel
theorem dX10_sent_1 : decode cX10_sent 1 = .ok (.iload_n 1, 1) := by decide +kernel
theorem dX10_sent_2 : decode cX10_sent 2 = .ok (.invokevirtual 111, 3) := by decide +kernel
theorem dX10_sent_5 : decode cX10_sent 5 = .ok (.ifCond .eq 29, 3) := by decide +kernel
theorem dX10_sent_8 : decode cX10_sent 8 = .ok (.aload_n 0, 1) := by decide +kernel
theorem dX10_sent_9 : decode cX10_sent 9 = .ok (.iload_n 2, 1) := by decide +kernel
theorem dX10_sent_10 : decode cX10_sent 10 = .ok (.invokevirtual 195, 3) := by decide +kernel
theorem dX10_sent_13 : decode cX10_sent 13 = .ok (.ifCond .eq 21, 3) := by decide +kernel
theorem dX10_sent_16 : decode cX10_sent 16 = .ok (.iload_n 3, 1) := by decide +kernel
theorem dX10_sent_17 : decode cX10_sent 17 = .ok (.invokestatic 198, 3) := by decide +kernel
theorem dX10_sent_20 : decode cX10_sent 20 = .ok (.ifCond .eq 14, 3) := by decide +kernel
theorem dX10_sent_23 : decode cX10_sent 23 = .ok (.iload 4, 2) := by decide +kernel
theorem dX10_sent_25 : decode cX10_sent 25 = .ok (.i2l, 1) := by decide +kernel
theorem dX10_sent_26 : decode cX10_sent 26 = .ok (.lconst 0, 1) := by decide +kernel
theorem dX10_sent_27 : decode cX10_sent 27 = .ok (.lconst 1, 1) := by decide +kernel
theorem dX10_sent_28 : decode cX10_sent 28 = .ok (.invokestatic 65, 3) := by decide +kernel
theorem dX10_sent_31 : decode cX10_sent 31 = .ok (.ifCond .ne 5, 3) := by decide +kernel
theorem dX10_sent_34 : decode cX10_sent 34 = .ok (.iconst (-1), 1) := by decide +kernel
theorem dX10_sent_35 : decode cX10_sent 35 = .ok (.ireturn, 1) := by decide +kernel
theorem dX10_sent_36 : decode cX10_sent 36 = .ok (.aload_n 0, 1) := by decide +kernel
theorem dX10_sent_37 : decode cX10_sent 37 = .ok (.aload_n 0, 1) := by decide +kernel
theorem dX10_sent_38 : decode cX10_sent 38 = .ok (.iload_n 1, 1) := by decide +kernel
theorem dX10_sent_39 : decode cX10_sent 39 = .ok (.iload_n 2, 1) := by decide +kernel
theorem dX10_sent_40 : decode cX10_sent 40 = .ok (.iload_n 3, 1) := by decide +kernel
theorem dX10_sent_41 : decode cX10_sent 41 = .ok (.invokevirtual 201, 3) := by decide +kernel
theorem dX10_sent_44 : decode cX10_sent 44 = .ok (.aload_n 0, 1) := by decide +kernel
theorem dX10_sent_45 : decode cX10_sent 45 = .ok (.iload_n 2, 1) := by decide +kernel
theorem dX10_sent_46 : decode cX10_sent 46 = .ok (.invokevirtual 205, 3) := by decide +kernel
theorem dX10_sent_49 : decode cX10_sent 49 = .ok (.invokevirtual 209, 3) := by decide +kernel
theorem dX10_sent_52 : decode cX10_sent 52 = .ok (.iload 4, 2) := by decide +kernel
theorem dX10_sent_54 : decode cX10_sent 54 = .ok (.ifCond .ne 10, 3) := by decide +kernel
theorem dX10_sent_57 : decode cX10_sent 57 = .ok (.aload_n 0, 1) := by decide +kernel
theorem dX10_sent_58 : decode cX10_sent 58 = .ok (.getfield 188, 3) := by decide +kernel
theorem dX10_sent_61 : decode cX10_sent 61 = .ok (.goto 7, 3) := by decide +kernel
theorem dX10_sent_64 : decode cX10_sent 64 = .ok (.aload_n 0, 1) := by decide +kernel
theorem dX10_sent_65 : decode cX10_sent 65 = .ok (.getfield 192, 3) := by decide +kernel
theorem dX10_sent_68 : decode cX10_sent 68 = .ok (.l2i, 1) := by decide +kernel
theorem dX10_sent_69 : decode cX10_sent 69 = .ok (.ireturn, 1) := by decide +kernel
theorem dX10_whom_0 : decode cX10_whom 0 = .ok (.aload_n 0, 1) := by decide +kernel
theorem dX10_whom_1 : decode cX10_whom 1 = .ok (.iload_n 1, 1) := by decide +kernel
theorem dX10_whom_2 : decode cX10_whom 2 = .ok (.invokevirtual 111, 3) := by decide +kernel
theorem dX10_whom_5 : decode cX10_whom 5 = .ok (.ifCond .eq 10, 3) := by decide +kernel
theorem dX10_whom_8 : decode cX10_whom 8 = .ok (.iload_n 2, 1) := by decide +kernel
theorem dX10_whom_9 : decode cX10_whom 9 = .ok (.invokestatic 198, 3) := by decide +kernel
theorem dX10_whom_12 : decode cX10_whom 12 = .ok (.ifCond .ne 5, 3) := by decide +kernel
theorem dX10_whom_15 : decode cX10_whom 15 = .ok (.iconst (-1), 1) := by decide +kernel
theorem dX10_whom_16 : decode cX10_whom 16 = .ok (.ireturn, 1) := by decide +kernel
theorem dX10_whom_17 : decode cX10_whom 17 = .ok (.bipush (-4), 2) := by decide +kernel
theorem dX10_whom_19 : decode cX10_whom 19 = .ok (.istore_n 3, 1) := by decide +kernel
theorem dX10_whom_20 : decode cX10_whom 20 = .ok (.ldc2_w 173, 3) := by decide +kernel
theorem dX10_whom_23 : decode cX10_whom 23 = .ok (.lstore 4, 2) := by decide +kernel
theorem dX10_whom_25 : decode cX10_whom 25 = .ok (.iconst 0, 1) := by decide +kernel
theorem dX10_whom_26 : decode cX10_whom 26 = .ok (.istore 6, 2) := by decide +kernel
theorem dX10_whom_28 : decode cX10_whom 28 = .ok (.iload 6, 2) := by decide +kernel
theorem dX10_whom_30 : decode cX10_whom 30 = .ok (.aload_n 0, 1) := by decide +kernel
theorem dX10_whom_31 : decode cX10_whom 31 = .ok (.getfield 23, 3) := by decide +kernel
theorem dX10_whom_34 : decode cX10_whom 34 = .ok (.iconst 0, 1) := by decide +kernel
theorem dX10_whom_35 : decode cX10_whom 35 = .ok (.iaload, 1) := by decide +kernel
theorem dX10_whom_36 : decode cX10_whom 36 = .ok (.if_icmp .ge 72, 3) := by decide +kernel
theorem dX10_whom_39 : decode cX10_whom 39 = .ok (.aload_n 0, 1) := by decide +kernel
theorem dX10_whom_40 : decode cX10_whom 40 = .ok (.iload_n 1, 1) := by decide +kernel
theorem dX10_whom_41 : decode cX10_whom 41 = .ok (.iload 6, 2) := by decide +kernel
theorem dX10_whom_43 : decode cX10_whom 43 = .ok (.iload_n 2, 1) := by decide +kernel
theorem dX10_whom_44 : decode cX10_whom 44 = .ok (.invokevirtual 201, 3) := by decide +kernel
theorem dX10_whom_47 : decode cX10_whom 47 = .ok (.ldc2_w 186, 3) := by decide +kernel
theorem dX10_whom_50 : decode cX10_whom 50 = .ok (.bipush 6, 2) := by decide +kernel
theorem dX10_whom_52 : decode cX10_whom 52 = .ok (.aload_n 0, 1) := by decide +kernel
theorem dX10_whom_53 : decode cX10_whom 53 = .ok (.getfield 26, 3) := by decide +kernel
theorem dX10_whom_56 : decode cX10_whom 56 = .ok (.iconst 2, 1) := by decide +kernel
theorem dX10_whom_57 : decode cX10_whom 57 = .ok (.iload 6, 2) := by decide +kernel
theorem dX10_whom_59 : decode cX10_whom 59 = .ok (.imul, 1) := by decide +kernel
theorem dX10_whom_60 : decode cX10_whom 60 = .ok (.iconst 1, 1) := by decide +kernel
theorem dX10_whom_61 : decode cX10_whom 61 = .ok (.iadd, 1) := by decide +kernel
theorem dX10_whom_62 : decode cX10_whom 62 = .ok (.iaload, 1) := by decide +kernel
theorem dX10_whom_63 : decode cX10_whom 63 = .ok (.isub, 1) := by decide +kernel
theorem dX10_whom_64 : decode cX10_whom 64 = .ok (.invokestatic 182, 3) := by decide +kernel
theorem dX10_whom_67 : decode cX10_whom 67 = .ok (.lmul, 1) := by decide +kernel
theorem dX10_whom_68 : decode cX10_whom 68 = .ok (.lstore 7, 2) := by decide +kernel
theorem dX10_whom_70 : decode cX10_whom 70 = .ok (.lload 7, 2) := by decide +kernel
theorem dX10_whom_72 : decode cX10_whom 72 = .ok (.lload 4, 2) := by decide +kernel
theorem dX10_whom_74 : decode cX10_whom 74 = .ok (.lcmp, 1) := by decide +kernel
theorem dX10_whom_75 : decode cX10_whom 75 = .ok (.ifCond .le 8, 3) := by decide +kernel
theorem dX10_whom_78 : decode cX10_whom 78 = .ok (.iload 6, 2) := by decide +kernel
theorem dX10_whom_80 : decode cX10_whom 80 = .ok (.goto 4, 3) := by decide +kernel
theorem dX10_whom_83 : decode cX10_whom 83 = .ok (.iload_n 3, 1) := by decide +kernel
theorem dX10_whom_84 : decode cX10_whom 84 = .ok (.istore_n 3, 1) := by decide +kernel
theorem dX10_whom_85 : decode cX10_whom 85 = .ok (.lload 7, 2) := by decide +kernel
theorem dX10_whom_87 : decode cX10_whom 87 = .ok (.lload 4, 2) := by decide +kernel
theorem dX10_whom_89 : decode cX10_whom 89 = .ok (.lcmp, 1) := by decide +kernel
theorem dX10_whom_90 : decode cX10_whom 90 = .ok (.ifCond .le 8, 3) := by decide +kernel
theorem dX10_whom_93 : decode cX10_whom 93 = .ok (.lload 7, 2) := by decide +kernel
theorem dX10_whom_95 : decode cX10_whom 95 = .ok (.goto 5, 3) := by decide +kernel
theorem dX10_whom_98 : decode cX10_whom 98 = .ok (.lload 4, 2) := by decide +kernel
theorem dX10_whom_100 : decode cX10_whom 100 = .ok (.lstore 4, 2) := by decide +kernel
theorem dX10_whom_102 : decode cX10_whom 102 = .ok (.iinc 6 1, 3) := by decide +kernel
theorem dX10_whom_105 : decode cX10_whom 105 = .ok (.goto (-77), 3) := by decide +kernel
theorem dX10_whom_108 : decode cX10_whom 108 = .ok (.iload_n 3, 1) := by decide +kernel
theorem dX10_whom_109 : decode cX10_whom 109 = .ok (.ireturn, 1) := by decide +kernel
theorem dX10_two_0 : decode cX10_two 0 = .ok (.aload_n 0, 1) := by decide +kernel
theorem dX10_two_1 : decode cX10_two 1 = .ok (.iload_n 1, 1) := by decide +kernel
theorem dX10_two_2 : decode cX10_two 2 = .ok (.invokevirtual 111, 3) := by decide +kernel
theorem dX10_two_5 : decode cX10_two 5 = .ok (.ifCond .eq 43, 3) := by decide +kernel
theorem dX10_two_8 : decode cX10_two 8 = .ok (.aload_n 0, 1) := by decide +kernel
theorem dX10_two_9 : decode cX10_two 9 = .ok (.iload_n 2, 1) := by decide +kernel
theorem dX10_two_10 : decode cX10_two 10 = .ok (.invokevirtual 195, 3) := by decide +kernel
theorem dX10_two_13 : decode cX10_two 13 = .ok (.ifCond .eq 35, 3) := by decide +kernel
theorem dX10_two_16 : decode cX10_two 16 = .ok (.aload_n 0, 1) := by decide +kernel
theorem dX10_two_17 : decode cX10_two 17 = .ok (.iload_n 3, 1) := by decide +kernel
theorem dX10_two_18 : decode cX10_two 18 = .ok (.invokevirtual 195, 3) := by decide +kernel
theorem dX10_two_21 : decode cX10_two 21 = .ok (.ifCond .eq 27, 3) := by decide +kernel
theorem dX10_two_24 : decode cX10_two 24 = .ok (.iload_n 2, 1) := by decide +kernel
theorem dX10_two_25 : decode cX10_two 25 = .ok (.iload_n 3, 1) := by decide +kernel
theorem dX10_two_26 : decode cX10_two 26 = .ok (.if_icmp .eq 22, 3) := by decide +kernel
theorem dX10_two_29 : decode cX10_two 29 = .ok (.iload 4, 2) := by decide +kernel
theorem dX10_two_31 : decode cX10_two 31 = .ok (.invokestatic 198, 3) := by decide +kernel
theorem dX10_two_34 : decode cX10_two 34 = .ok (.ifCond .eq 14, 3) := by decide +kernel
theorem dX10_two_37 : decode cX10_two 37 = .ok (.iload 5, 2) := by decide +kernel
theorem dX10_two_39 : decode cX10_two 39 = .ok (.i2l, 1) := by decide +kernel
theorem dX10_two_40 : decode cX10_two 40 = .ok (.lconst 0, 1) := by decide +kernel
theorem dX10_two_41 : decode cX10_two 41 = .ok (.lconst 1, 1) := by decide +kernel
theorem dX10_two_42 : decode cX10_two 42 = .ok (.invokestatic 65, 3) := by decide +kernel
theorem dX10_two_45 : decode cX10_two 45 = .ok (.ifCond .ne 7, 3) := by decide +kernel
theorem dX10_two_48 : decode cX10_two 48 = .ok (.ldc2_w 173, 3) := by decide +kernel
theorem dX10_two_51 : decode cX10_two 51 = .ok (.lreturn, 1) := by decide +kernel
theorem dX10_two_52 : decode cX10_two 52 = .ok (.aload_n 0, 1) := by decide +kernel
theorem dX10_two_53 : decode cX10_two 53 = .ok (.iload_n 2, 1) := by decide +kernel
theorem dX10_two_54 : decode cX10_two 54 = .ok (.invokevirtual 205, 3) := by decide +kernel
theorem dX10_two_57 : decode cX10_two 57 = .ok (.aload_n 0, 1) := by decide +kernel
theorem dX10_two_58 : decode cX10_two 58 = .ok (.iload_n 3, 1) := by decide +kernel
theorem dX10_two_59 : decode cX10_two 59 = .ok (.invokevirtual 205, 3) := by decide +kernel
theorem dX10_two_62 : decode cX10_two 62 = .ok (.lmul, 1) := by decide +kernel
theorem dX10_two_63 : decode cX10_two 63 = .ok (.lstore 6, 2) := by decide +kernel
theorem dX10_two_65 : decode cX10_two 65 = .ok (.aload_n 0, 1) := by decide +kernel
theorem dX10_two_66 : decode cX10_two 66 = .ok (.lload 6, 2) := by decide +kernel
theorem dX10_two_68 : decode cX10_two 68 = .ok (.aload_n 0, 1) := by decide +kernel
theorem dX10_two_69 : decode cX10_two 69 = .ok (.iload_n 2, 1) := by decide +kernel
theorem dX10_two_70 : decode cX10_two 70 = .ok (.invokevirtual 205, 3) := by decide +kernel
theorem dX10_two_73 : decode cX10_two 73 = .ok (.aload_n 0, 1) := by decide +kernel
theorem dX10_two_74 : decode cX10_two 74 = .ok (.iload_n 1, 1) := by decide +kernel
theorem dX10_two_75 : decode cX10_two 75 = .ok (.iload_n 2, 1) := by decide +kernel
theorem dX10_two_76 : decode cX10_two 76 = .ok (.iload 4, 2) := by decide +kernel
theorem dX10_two_78 : decode cX10_two 78 = .ok (.invokevirtual 201, 3) := by decide +kernel
theorem dX10_two_81 : decode cX10_two 81 = .ok (.lsub, 1) := by decide +kernel
theorem dX10_two_82 : decode cX10_two 82 = .ok (.aload_n 0, 1) := by decide +kernel
theorem dX10_two_83 : decode cX10_two 83 = .ok (.iload_n 3, 1) := by decide +kernel
theorem dX10_two_84 : decode cX10_two 84 = .ok (.invokevirtual 205, 3) := by decide +kernel
theorem dX10_two_87 : decode cX10_two 87 = .ok (.aload_n 0, 1) := by decide +kernel
theorem dX10_two_88 : decode cX10_two 88 = .ok (.iload_n 1, 1) := by decide +kernel
theorem dX10_two_89 : decode cX10_two 89 = .ok (.iload_n 3, 1) := by decide +kernel
theorem dX10_two_90 : decode cX10_two 90 = .ok (.iload 4, 2) := by decide +kernel
theorem dX10_two_92 : decode cX10_two 92 = .ok (.invokevirtual 201, 3) := by decide +kernel
theorem dX10_two_95 : decode cX10_two 95 = .ok (.lsub, 1) := by decide +kernel
theorem dX10_two_96 : decode cX10_two 96 = .ok (.lmul, 1) := by decide +kernel
theorem dX10_two_97 : decode cX10_two 97 = .ok (.lsub, 1) := by decide +kernel
theorem dX10_two_98 : decode cX10_two 98 = .ok (.lload 6, 2) := by decide +kernel
theorem dX10_two_100 : decode cX10_two 100 = .ok (.invokevirtual 209, 3) := by decide +kernel
theorem dX10_two_103 : decode cX10_two 103 = .ok (.iload 5, 2) := by decide +kernel
theorem dX10_two_105 : decode cX10_two 105 = .ok (.ifCond .ne 10, 3) := by decide +kernel
theorem dX10_two_108 : decode cX10_two 108 = .ok (.aload_n 0, 1) := by decide +kernel
theorem dX10_two_109 : decode cX10_two 109 = .ok (.getfield 188, 3) := by decide +kernel
theorem dX10_two_112 : decode cX10_two 112 = .ok (.goto 7, 3) := by decide +kernel
theorem dX10_two_115 : decode cX10_two 115 = .ok (.aload_n 0, 1) := by decide +kernel
theorem dX10_two_116 : decode cX10_two 116 = .ok (.getfield 192, 3) := by decide +kernel
theorem dX10_two_119 : decode cX10_two 119 = .ok (.lreturn, 1) := by decide +kernel
theorem dX10_said_0 : decode cX10_said 0 = .ok (.iload_n 1, 1) := by decide +kernel
theorem dX10_said_1 : decode cX10_said 1 = .ok (.i2l, 1) := by decide +kernel
theorem dX10_said_2 : decode cX10_said 2 = .ok (.lconst 0, 1) := by decide +kernel
theorem dX10_said_3 : decode cX10_said 3 = .ok (.ldc2_w 213, 3) := by decide +kernel
theorem dX10_said_6 : decode cX10_said 6 = .ok (.invokestatic 65, 3) := by decide +kernel
theorem dX10_said_9 : decode cX10_said 9 = .ok (.ifCond .eq 13, 3) := by decide +kernel
theorem dX10_said_12 : decode cX10_said 12 = .ok (.iload_n 2, 1) := by decide +kernel
theorem dX10_said_13 : decode cX10_said 13 = .ok (.i2l, 1) := by decide +kernel
theorem dX10_said_14 : decode cX10_said 14 = .ok (.lconst 0, 1) := by decide +kernel
theorem dX10_said_15 : decode cX10_said 15 = .ok (.lconst 1, 1) := by decide +kernel
theorem dX10_said_16 : decode cX10_said 16 = .ok (.invokestatic 65, 3) := by decide +kernel
theorem dX10_said_19 : decode cX10_said 19 = .ok (.ifCond .ne 5, 3) := by decide +kernel
theorem dX10_said_22 : decode cX10_said 22 = .ok (.iconst (-1), 1) := by decide +kernel
theorem dX10_said_23 : decode cX10_said 23 = .ok (.ireturn, 1) := by decide +kernel
theorem dX10_said_24 : decode cX10_said 24 = .ok (.iconst 0, 1) := by decide +kernel
theorem dX10_said_25 : decode cX10_said 25 = .ok (.istore_n 3, 1) := by decide +kernel
theorem dX10_said_26 : decode cX10_said 26 = .ok (.iconst (-1), 1) := by decide +kernel
theorem dX10_said_27 : decode cX10_said 27 = .ok (.istore 4, 2) := by decide +kernel
theorem dX10_said_29 : decode cX10_said 29 = .ok (.iconst 0, 1) := by decide +kernel
theorem dX10_said_30 : decode cX10_said 30 = .ok (.istore 5, 2) := by decide +kernel
theorem dX10_said_32 : decode cX10_said 32 = .ok (.iload 5, 2) := by decide +kernel
theorem dX10_said_34 : decode cX10_said 34 = .ok (.iconst 1, 1) := by decide +kernel
theorem dX10_said_35 : decode cX10_said 35 = .ok (.aload_n 0, 1) := by decide +kernel
theorem dX10_said_36 : decode cX10_said 36 = .ok (.getfield 17, 3) := by decide +kernel
theorem dX10_said_39 : decode cX10_said 39 = .ok (.iconst 0, 1) := by decide +kernel
theorem dX10_said_40 : decode cX10_said 40 = .ok (.iaload, 1) := by decide +kernel
theorem dX10_said_41 : decode cX10_said 41 = .ok (.ishl, 1) := by decide +kernel
theorem dX10_said_42 : decode cX10_said 42 = .ok (.if_icmp .ge 104, 3) := by decide +kernel
theorem dX10_said_45 : decode cX10_said 45 = .ok (.iconst 0, 1) := by decide +kernel
theorem dX10_said_46 : decode cX10_said 46 = .ok (.istore 6, 2) := by decide +kernel
theorem dX10_said_48 : decode cX10_said 48 = .ok (.iconst 0, 1) := by decide +kernel
theorem dX10_said_49 : decode cX10_said 49 = .ok (.istore 7, 2) := by decide +kernel
theorem dX10_said_51 : decode cX10_said 51 = .ok (.iconst 0, 1) := by decide +kernel
theorem dX10_said_52 : decode cX10_said 52 = .ok (.istore 8, 2) := by decide +kernel
theorem dX10_said_54 : decode cX10_said 54 = .ok (.iload 8, 2) := by decide +kernel
theorem dX10_said_56 : decode cX10_said 56 = .ok (.aload_n 0, 1) := by decide +kernel
theorem dX10_said_57 : decode cX10_said 57 = .ok (.getfield 17, 3) := by decide +kernel
theorem dX10_said_60 : decode cX10_said 60 = .ok (.iconst 0, 1) := by decide +kernel
theorem dX10_said_61 : decode cX10_said 61 = .ok (.iaload, 1) := by decide +kernel
theorem dX10_said_62 : decode cX10_said 62 = .ok (.if_icmp .ge 58, 3) := by decide +kernel
theorem dX10_said_65 : decode cX10_said 65 = .ok (.iload 6, 2) := by decide +kernel
theorem dX10_said_67 : decode cX10_said 67 = .ok (.iload 5, 2) := by decide +kernel
theorem dX10_said_69 : decode cX10_said 69 = .ok (.iload 8, 2) := by decide +kernel
theorem dX10_said_71 : decode cX10_said 71 = .ok (.ishr, 1) := by decide +kernel
theorem dX10_said_72 : decode cX10_said 72 = .ok (.iconst 1, 1) := by decide +kernel
theorem dX10_said_73 : decode cX10_said 73 = .ok (.iand, 1) := by decide +kernel
theorem dX10_said_74 : decode cX10_said 74 = .ok (.aload_n 0, 1) := by decide +kernel
theorem dX10_said_75 : decode cX10_said 75 = .ok (.getfield 20, 3) := by decide +kernel
theorem dX10_said_78 : decode cX10_said 78 = .ok (.iconst 2, 1) := by decide +kernel
theorem dX10_said_79 : decode cX10_said 79 = .ok (.iload 8, 2) := by decide +kernel
theorem dX10_said_81 : decode cX10_said 81 = .ok (.imul, 1) := by decide +kernel
theorem dX10_said_82 : decode cX10_said 82 = .ok (.iaload, 1) := by decide +kernel
theorem dX10_said_83 : decode cX10_said 83 = .ok (.invokestatic 114, 3) := by decide +kernel
theorem dX10_said_86 : decode cX10_said 86 = .ok (.imul, 1) := by decide +kernel
theorem dX10_said_87 : decode cX10_said 87 = .ok (.iadd, 1) := by decide +kernel
theorem dX10_said_88 : decode cX10_said 88 = .ok (.istore 6, 2) := by decide +kernel
theorem dX10_said_90 : decode cX10_said 90 = .ok (.iload 7, 2) := by decide +kernel
theorem dX10_said_92 : decode cX10_said 92 = .ok (.iload 5, 2) := by decide +kernel
theorem dX10_said_94 : decode cX10_said 94 = .ok (.iload 8, 2) := by decide +kernel
theorem dX10_said_96 : decode cX10_said 96 = .ok (.ishr, 1) := by decide +kernel
theorem dX10_said_97 : decode cX10_said 97 = .ok (.iconst 1, 1) := by decide +kernel
theorem dX10_said_98 : decode cX10_said 98 = .ok (.iand, 1) := by decide +kernel
theorem dX10_said_99 : decode cX10_said 99 = .ok (.aload_n 0, 1) := by decide +kernel
theorem dX10_said_100 : decode cX10_said 100 = .ok (.getfield 20, 3) := by decide +kernel
theorem dX10_said_103 : decode cX10_said 103 = .ok (.iconst 2, 1) := by decide +kernel
theorem dX10_said_104 : decode cX10_said 104 = .ok (.iload 8, 2) := by decide +kernel
theorem dX10_said_106 : decode cX10_said 106 = .ok (.imul, 1) := by decide +kernel
theorem dX10_said_107 : decode cX10_said 107 = .ok (.iconst 1, 1) := by decide +kernel
theorem dX10_said_108 : decode cX10_said 108 = .ok (.iadd, 1) := by decide +kernel
theorem dX10_said_109 : decode cX10_said 109 = .ok (.iaload, 1) := by decide +kernel
theorem dX10_said_110 : decode cX10_said 110 = .ok (.imul, 1) := by decide +kernel
theorem dX10_said_111 : decode cX10_said 111 = .ok (.iadd, 1) := by decide +kernel
theorem dX10_said_112 : decode cX10_said 112 = .ok (.istore 7, 2) := by decide +kernel
theorem dX10_said_114 : decode cX10_said 114 = .ok (.iinc 8 1, 3) := by decide +kernel
theorem dX10_said_117 : decode cX10_said 117 = .ok (.goto (-63), 3) := by decide +kernel
theorem dX10_said_120 : decode cX10_said 120 = .ok (.iload 6, 2) := by decide +kernel
theorem dX10_said_122 : decode cX10_said 122 = .ok (.iload_n 1, 1) := by decide +kernel
theorem dX10_said_123 : decode cX10_said 123 = .ok (.if_icmp .gt 17, 3) := by decide +kernel
theorem dX10_said_126 : decode cX10_said 126 = .ok (.iload 7, 2) := by decide +kernel
theorem dX10_said_128 : decode cX10_said 128 = .ok (.iload 4, 2) := by decide +kernel
theorem dX10_said_130 : decode cX10_said 130 = .ok (.if_icmp .le 10, 3) := by decide +kernel
theorem dX10_said_133 : decode cX10_said 133 = .ok (.iload 5, 2) := by decide +kernel
theorem dX10_said_135 : decode cX10_said 135 = .ok (.istore_n 3, 1) := by decide +kernel
theorem dX10_said_136 : decode cX10_said 136 = .ok (.iload 7, 2) := by decide +kernel
theorem dX10_said_138 : decode cX10_said 138 = .ok (.istore 4, 2) := by decide +kernel
theorem dX10_said_140 : decode cX10_said 140 = .ok (.iinc 5 1, 3) := by decide +kernel
theorem dX10_said_143 : decode cX10_said 143 = .ok (.goto (-111), 3) := by decide +kernel
theorem dX10_said_146 : decode cX10_said 146 = .ok (.iload_n 2, 1) := by decide +kernel
theorem dX10_said_147 : decode cX10_said 147 = .ok (.ifCond .ne 7, 3) := by decide +kernel
theorem dX10_said_150 : decode cX10_said 150 = .ok (.iload_n 3, 1) := by decide +kernel
theorem dX10_said_151 : decode cX10_said 151 = .ok (.goto 5, 3) := by decide +kernel
theorem dX10_said_154 : decode cX10_said 154 = .ok (.iload 4, 2) := by decide +kernel
theorem dX10_said_156 : decode cX10_said 156 = .ok (.ireturn, 1) := by decide +kernel
theorem dX10_told_0 : decode cX10_told 0 = .ok (.iload_n 1, 1) := by decide +kernel
theorem dX10_told_1 : decode cX10_told 1 = .ok (.i2l, 1) := by decide +kernel
theorem dX10_told_2 : decode cX10_told 2 = .ok (.lconst 0, 1) := by decide +kernel
theorem dX10_told_3 : decode cX10_told 3 = .ok (.ldc2_w 215, 3) := by decide +kernel
theorem dX10_told_6 : decode cX10_told 6 = .ok (.invokestatic 65, 3) := by decide +kernel
theorem dX10_told_9 : decode cX10_told 9 = .ok (.ifCond .eq 13, 3) := by decide +kernel
theorem dX10_told_12 : decode cX10_told 12 = .ok (.iload_n 2, 1) := by decide +kernel
theorem dX10_told_13 : decode cX10_told 13 = .ok (.i2l, 1) := by decide +kernel
theorem dX10_told_14 : decode cX10_told 14 = .ok (.lconst 0, 1) := by decide +kernel
theorem dX10_told_15 : decode cX10_told 15 = .ok (.lconst 1, 1) := by decide +kernel
theorem dX10_told_16 : decode cX10_told 16 = .ok (.invokestatic 65, 3) := by decide +kernel
theorem dX10_told_19 : decode cX10_told 19 = .ok (.ifCond .ne 5, 3) := by decide +kernel
theorem dX10_told_22 : decode cX10_told 22 = .ok (.iconst (-1), 1) := by decide +kernel
theorem dX10_told_23 : decode cX10_told 23 = .ok (.ireturn, 1) := by decide +kernel
theorem dX10_told_24 : decode cX10_told 24 = .ok (.iconst 0, 1) := by decide +kernel
theorem dX10_told_25 : decode cX10_told 25 = .ok (.istore_n 3, 1) := by decide +kernel
theorem dX10_told_26 : decode cX10_told 26 = .ok (.bipush (-4), 2) := by decide +kernel
theorem dX10_told_28 : decode cX10_told 28 = .ok (.istore 4, 2) := by decide +kernel
theorem dX10_told_30 : decode cX10_told 30 = .ok (.iconst 0, 1) := by decide +kernel
theorem dX10_told_31 : decode cX10_told 31 = .ok (.istore 5, 2) := by decide +kernel
theorem dX10_told_33 : decode cX10_told 33 = .ok (.iconst 0, 1) := by decide +kernel
theorem dX10_told_34 : decode cX10_told 34 = .ok (.istore 6, 2) := by decide +kernel
theorem dX10_told_36 : decode cX10_told 36 = .ok (.iload 6, 2) := by decide +kernel
theorem dX10_told_38 : decode cX10_told 38 = .ok (.aload_n 0, 1) := by decide +kernel
theorem dX10_told_39 : decode cX10_told 39 = .ok (.getfield 29, 3) := by decide +kernel
theorem dX10_told_42 : decode cX10_told 42 = .ok (.iconst 0, 1) := by decide +kernel
theorem dX10_told_43 : decode cX10_told 43 = .ok (.iaload, 1) := by decide +kernel
theorem dX10_told_44 : decode cX10_told 44 = .ok (.if_icmp .ge 36, 3) := by decide +kernel
theorem dX10_told_47 : decode cX10_told 47 = .ok (.aload_n 0, 1) := by decide +kernel
theorem dX10_told_48 : decode cX10_told 48 = .ok (.getfield 32, 3) := by decide +kernel
theorem dX10_told_51 : decode cX10_told 51 = .ok (.iload 6, 2) := by decide +kernel
theorem dX10_told_53 : decode cX10_told 53 = .ok (.iaload, 1) := by decide +kernel
theorem dX10_told_54 : decode cX10_told 54 = .ok (.iload_n 1, 1) := by decide +kernel
theorem dX10_told_55 : decode cX10_told 55 = .ok (.iand, 1) := by decide +kernel
theorem dX10_told_56 : decode cX10_told 56 = .ok (.iload_n 1, 1) := by decide +kernel
theorem dX10_told_57 : decode cX10_told 57 = .ok (.if_icmp .ne 17, 3) := by decide +kernel
theorem dX10_told_60 : decode cX10_told 60 = .ok (.iload_n 3, 1) := by decide +kernel
theorem dX10_told_61 : decode cX10_told 61 = .ok (.iconst 1, 1) := by decide +kernel
theorem dX10_told_62 : decode cX10_told 62 = .ok (.iload 6, 2) := by decide +kernel
theorem dX10_told_64 : decode cX10_told 64 = .ok (.ishl, 1) := by decide +kernel
theorem dX10_told_65 : decode cX10_told 65 = .ok (.ior, 1) := by decide +kernel
theorem dX10_told_66 : decode cX10_told 66 = .ok (.istore_n 3, 1) := by decide +kernel
theorem dX10_told_67 : decode cX10_told 67 = .ok (.iload 6, 2) := by decide +kernel
theorem dX10_told_69 : decode cX10_told 69 = .ok (.istore 4, 2) := by decide +kernel
theorem dX10_told_71 : decode cX10_told 71 = .ok (.iinc 5 1, 3) := by decide +kernel
theorem dX10_told_74 : decode cX10_told 74 = .ok (.iinc 6 1, 3) := by decide +kernel
theorem dX10_told_77 : decode cX10_told 77 = .ok (.goto (-41), 3) := by decide +kernel
theorem dX10_told_80 : decode cX10_told 80 = .ok (.iload_n 2, 1) := by decide +kernel
theorem dX10_told_81 : decode cX10_told 81 = .ok (.ifCond .ne 7, 3) := by decide +kernel
theorem dX10_told_84 : decode cX10_told 84 = .ok (.iload_n 3, 1) := by decide +kernel
theorem dX10_told_85 : decode cX10_told 85 = .ok (.goto 16, 3) := by decide +kernel
theorem dX10_told_88 : decode cX10_told 88 = .ok (.iload 5, 2) := by decide +kernel
theorem dX10_told_90 : decode cX10_told 90 = .ok (.iconst 1, 1) := by decide +kernel
theorem dX10_told_91 : decode cX10_told 91 = .ok (.if_icmp .ne 8, 3) := by decide +kernel
theorem dX10_told_94 : decode cX10_told 94 = .ok (.iload 4, 2) := by decide +kernel
theorem dX10_told_96 : decode cX10_told 96 = .ok (.goto 5, 3) := by decide +kernel
theorem dX10_told_99 : decode cX10_told 99 = .ok (.bipush (-4), 2) := by decide +kernel
theorem dX10_told_101 : decode cX10_told 101 = .ok (.ireturn, 1) := by decide +kernel
theorem dX10_month_0 : decode cX10_month 0 = .ok (.iload_n 1, 1) := by decide +kernel
theorem dX10_month_1 : decode cX10_month 1 = .ok (.i2l, 1) := by decide +kernel
theorem dX10_month_2 : decode cX10_month 2 = .ok (.lconst 0, 1) := by decide +kernel
theorem dX10_month_3 : decode cX10_month 3 = .ok (.ldc2_w 217, 3) := by decide +kernel
theorem dX10_month_6 : decode cX10_month 6 = .ok (.invokestatic 65, 3) := by decide +kernel
theorem dX10_month_9 : decode cX10_month 9 = .ok (.ifCond .eq 25, 3) := by decide +kernel
theorem dX10_month_12 : decode cX10_month 12 = .ok (.iload_n 2, 1) := by decide +kernel
theorem dX10_month_13 : decode cX10_month 13 = .ok (.i2l, 1) := by decide +kernel
theorem dX10_month_14 : decode cX10_month 14 = .ok (.lconst 1, 1) := by decide +kernel
theorem dX10_month_15 : decode cX10_month 15 = .ok (.ldc2_w 219, 3) := by decide +kernel
theorem dX10_month_18 : decode cX10_month 18 = .ok (.invokestatic 65, 3) := by decide +kernel
theorem dX10_month_21 : decode cX10_month 21 = .ok (.ifCond .eq 13, 3) := by decide +kernel
theorem dX10_month_24 : decode cX10_month 24 = .ok (.iload_n 3, 1) := by decide +kernel
theorem dX10_month_25 : decode cX10_month 25 = .ok (.i2l, 1) := by decide +kernel
theorem dX10_month_26 : decode cX10_month 26 = .ok (.lconst 0, 1) := by decide +kernel
theorem dX10_month_27 : decode cX10_month 27 = .ok (.lconst 1, 1) := by decide +kernel
theorem dX10_month_28 : decode cX10_month 28 = .ok (.invokestatic 65, 3) := by decide +kernel
theorem dX10_month_31 : decode cX10_month 31 = .ok (.ifCond .ne 5, 3) := by decide +kernel
theorem dX10_month_34 : decode cX10_month 34 = .ok (.iconst (-1), 1) := by decide +kernel
theorem dX10_month_35 : decode cX10_month 35 = .ok (.ireturn, 1) := by decide +kernel
theorem dX10_month_36 : decode cX10_month 36 = .ok (.iconst 0, 1) := by decide +kernel
theorem dX10_month_37 : decode cX10_month 37 = .ok (.istore 4, 2) := by decide +kernel
theorem dX10_month_39 : decode cX10_month 39 = .ok (.iconst 0, 1) := by decide +kernel
theorem dX10_month_40 : decode cX10_month 40 = .ok (.istore 5, 2) := by decide +kernel
theorem dX10_month_42 : decode cX10_month 42 = .ok (.iconst 0, 1) := by decide +kernel
theorem dX10_month_43 : decode cX10_month 43 = .ok (.istore 6, 2) := by decide +kernel
theorem dX10_month_45 : decode cX10_month 45 = .ok (.iload 6, 2) := by decide +kernel
theorem dX10_month_47 : decode cX10_month 47 = .ok (.iload_n 2, 1) := by decide +kernel
theorem dX10_month_48 : decode cX10_month 48 = .ok (.if_icmp .ge 124, 3) := by decide +kernel
theorem dX10_month_51 : decode cX10_month 51 = .ok (.ldc2_w 221, 3) := by decide +kernel
theorem dX10_month_54 : decode cX10_month 54 = .ok (.iload_n 1, 1) := by decide +kernel
theorem dX10_month_55 : decode cX10_month 55 = .ok (.i2l, 1) := by decide +kernel
theorem dX10_month_56 : decode cX10_month 56 = .ok (.lmul, 1) := by decide +kernel
theorem dX10_month_57 : decode cX10_month 57 = .ok (.ldc2_w 223, 3) := by decide +kernel
theorem dX10_month_60 : decode cX10_month 60 = .ok (.iload 6, 2) := by decide +kernel
theorem dX10_month_62 : decode cX10_month 62 = .ok (.i2l, 1) := by decide +kernel
theorem dX10_month_63 : decode cX10_month 63 = .ok (.lmul, 1) := by decide +kernel
theorem dX10_month_64 : decode cX10_month 64 = .ok (.ladd, 1) := by decide +kernel
theorem dX10_month_65 : decode cX10_month 65 = .ok (.lconst 1, 1) := by decide +kernel
theorem dX10_month_66 : decode cX10_month 66 = .ok (.ladd, 1) := by decide +kernel
theorem dX10_month_67 : decode cX10_month 67 = .ok (.lstore 7, 2) := by decide +kernel
theorem dX10_month_69 : decode cX10_month 69 = .ok (.lload 7, 2) := by decide +kernel
theorem dX10_month_71 : decode cX10_month 71 = .ok (.lload 7, 2) := by decide +kernel
theorem dX10_month_73 : decode cX10_month 73 = .ok (.lmul, 1) := by decide +kernel
theorem dX10_month_74 : decode cX10_month 74 = .ok (.ldc2_w 225, 3) := by decide +kernel
theorem dX10_month_77 : decode cX10_month 77 = .ok (.lrem, 1) := by decide +kernel
theorem dX10_month_78 : decode cX10_month 78 = .ok (.l2i, 1) := by decide +kernel
theorem dX10_month_79 : decode cX10_month 79 = .ok (.istore 9, 2) := by decide +kernel
theorem dX10_month_81 : decode cX10_month 81 = .ok (.iload 9, 2) := by decide +kernel
theorem dX10_month_83 : decode cX10_month 83 = .ok (.aload_n 0, 1) := by decide +kernel
theorem dX10_month_84 : decode cX10_month 84 = .ok (.getfield 17, 3) := by decide +kernel
theorem dX10_month_87 : decode cX10_month 87 = .ok (.iconst 0, 1) := by decide +kernel
theorem dX10_month_88 : decode cX10_month 88 = .ok (.iaload, 1) := by decide +kernel
theorem dX10_month_89 : decode cX10_month 89 = .ok (.irem, 1) := by decide +kernel
theorem dX10_month_90 : decode cX10_month 90 = .ok (.istore 10, 2) := by decide +kernel
theorem dX10_month_92 : decode cX10_month 92 = .ok (.aload_n 0, 1) := by decide +kernel
theorem dX10_month_93 : decode cX10_month 93 = .ok (.aload_n 0, 1) := by decide +kernel
theorem dX10_month_94 : decode cX10_month 94 = .ok (.aload_n 0, 1) := by decide +kernel
theorem dX10_month_95 : decode cX10_month 95 = .ok (.getfield 20, 3) := by decide +kernel
theorem dX10_month_98 : decode cX10_month 98 = .ok (.iconst 2, 1) := by decide +kernel
theorem dX10_month_99 : decode cX10_month 99 = .ok (.iload 10, 2) := by decide +kernel
theorem dX10_month_101 : decode cX10_month 101 = .ok (.imul, 1) := by decide +kernel
theorem dX10_month_102 : decode cX10_month 102 = .ok (.iaload, 1) := by decide +kernel
theorem dX10_month_103 : decode cX10_month 103 = .ok (.iload 9, 2) := by decide +kernel
theorem dX10_month_105 : decode cX10_month 105 = .ok (.bipush 16, 2) := by decide +kernel
theorem dX10_month_107 : decode cX10_month 107 = .ok (.idiv, 1) := by decide +kernel
theorem dX10_month_108 : decode cX10_month 108 = .ok (.bipush 7, 2) := by decide +kernel
theorem dX10_month_110 : decode cX10_month 110 = .ok (.irem, 1) := by decide +kernel
theorem dX10_month_111 : decode cX10_month 111 = .ok (.iload 9, 2) := by decide +kernel
theorem dX10_month_113 : decode cX10_month 113 = .ok (.sipush 256, 3) := by decide +kernel
theorem dX10_month_116 : decode cX10_month 116 = .ok (.idiv, 1) := by decide +kernel
theorem dX10_month_117 : decode cX10_month 117 = .ok (.iconst 3, 1) := by decide +kernel
theorem dX10_month_118 : decode cX10_month 118 = .ok (.irem, 1) := by decide +kernel
theorem dX10_month_119 : decode cX10_month 119 = .ok (.invokevirtual 127, 3) := by decide +kernel
theorem dX10_month_122 : decode cX10_month 122 = .ok (.invokevirtual 147, 3) := by decide +kernel
theorem dX10_month_125 : decode cX10_month 125 = .ok (.istore 11, 2) := by decide +kernel
theorem dX10_month_127 : decode cX10_month 127 = .ok (.iload 4, 2) := by decide +kernel
theorem dX10_month_129 : decode cX10_month 129 = .ok (.iload 11, 2) := by decide +kernel
theorem dX10_month_131 : decode cX10_month 131 = .ok (.iload 10, 2) := by decide +kernel
theorem dX10_month_133 : decode cX10_month 133 = .ok (.if_icmp .ne 7, 3) := by decide +kernel
theorem dX10_month_136 : decode cX10_month 136 = .ok (.iconst 1, 1) := by decide +kernel
theorem dX10_month_137 : decode cX10_month 137 = .ok (.goto 4, 3) := by decide +kernel
theorem dX10_month_140 : decode cX10_month 140 = .ok (.iconst 0, 1) := by decide +kernel
theorem dX10_month_141 : decode cX10_month 141 = .ok (.iadd, 1) := by decide +kernel
theorem dX10_month_142 : decode cX10_month 142 = .ok (.istore 4, 2) := by decide +kernel
theorem dX10_month_144 : decode cX10_month 144 = .ok (.iload 5, 2) := by decide +kernel
theorem dX10_month_146 : decode cX10_month 146 = .ok (.iload 11, 2) := by decide +kernel
theorem dX10_month_148 : decode cX10_month 148 = .ok (.ifCond .lt 14, 3) := by decide +kernel
theorem dX10_month_151 : decode cX10_month 151 = .ok (.iload 11, 2) := by decide +kernel
theorem dX10_month_153 : decode cX10_month 153 = .ok (.iload 10, 2) := by decide +kernel
theorem dX10_month_155 : decode cX10_month 155 = .ok (.if_icmp .eq 7, 3) := by decide +kernel
theorem dX10_month_158 : decode cX10_month 158 = .ok (.iconst 1, 1) := by decide +kernel
theorem dX10_month_159 : decode cX10_month 159 = .ok (.goto 4, 3) := by decide +kernel
theorem dX10_month_162 : decode cX10_month 162 = .ok (.iconst 0, 1) := by decide +kernel
theorem dX10_month_163 : decode cX10_month 163 = .ok (.iadd, 1) := by decide +kernel
theorem dX10_month_164 : decode cX10_month 164 = .ok (.istore 5, 2) := by decide +kernel
theorem dX10_month_166 : decode cX10_month 166 = .ok (.iinc 6 1, 3) := by decide +kernel
theorem dX10_month_169 : decode cX10_month 169 = .ok (.goto (-124), 3) := by decide +kernel
theorem dX10_month_172 : decode cX10_month 172 = .ok (.iload_n 3, 1) := by decide +kernel
theorem dX10_month_173 : decode cX10_month 173 = .ok (.ifCond .ne 8, 3) := by decide +kernel
theorem dX10_month_176 : decode cX10_month 176 = .ok (.iload 4, 2) := by decide +kernel
theorem dX10_month_178 : decode cX10_month 178 = .ok (.goto 5, 3) := by decide +kernel
theorem dX10_month_181 : decode cX10_month 181 = .ok (.iload 5, 2) := by decide +kernel
theorem dX10_month_183 : decode cX10_month 183 = .ok (.ireturn, 1) := by decide +kernel
theorem dX10_copies_0 : decode cX10_copies 0 = .ok (.aload_n 0, 1) := by decide +kernel
theorem dX10_copies_1 : decode cX10_copies 1 = .ok (.getfield 35, 3) := by decide +kernel
theorem dX10_copies_4 : decode cX10_copies 4 = .ok (.iload_n 2, 1) := by decide +kernel
theorem dX10_copies_5 : decode cX10_copies 5 = .ok (.aload_n 0, 1) := by decide +kernel
theorem dX10_copies_6 : decode cX10_copies 6 = .ok (.getfield 35, 3) := by decide +kernel
theorem dX10_copies_9 : decode cX10_copies 9 = .ok (.iload_n 1, 1) := by decide +kernel
theorem dX10_copies_10 : decode cX10_copies 10 = .ok (.iaload, 1) := by decide +kernel
theorem dX10_copies_11 : decode cX10_copies 11 = .ok (.iastore, 1) := by decide +kernel
theorem dX10_copies_12 : decode cX10_copies 12 = .ok (.aload_n 0, 1) := by decide +kernel
theorem dX10_copies_13 : decode cX10_copies 13 = .ok (.getfield 41, 3) := by decide +kernel
theorem dX10_copies_16 : decode cX10_copies 16 = .ok (.iload_n 2, 1) := by decide +kernel
theorem dX10_copies_17 : decode cX10_copies 17 = .ok (.aload_n 0, 1) := by decide +kernel
theorem dX10_copies_18 : decode cX10_copies 18 = .ok (.getfield 41, 3) := by decide +kernel
theorem dX10_copies_21 : decode cX10_copies 21 = .ok (.iload_n 1, 1) := by decide +kernel
theorem dX10_copies_22 : decode cX10_copies 22 = .ok (.iaload, 1) := by decide +kernel
theorem dX10_copies_23 : decode cX10_copies 23 = .ok (.iastore, 1) := by decide +kernel
theorem dX10_copies_24 : decode cX10_copies 24 = .ok (.iconst 0, 1) := by decide +kernel
theorem dX10_copies_25 : decode cX10_copies 25 = .ok (.istore_n 3, 1) := by decide +kernel
theorem dX10_copies_26 : decode cX10_copies 26 = .ok (.iload_n 3, 1) := by decide +kernel
theorem dX10_copies_27 : decode cX10_copies 27 = .ok (.bipush 32, 2) := by decide +kernel
theorem dX10_copies_29 : decode cX10_copies 29 = .ok (.if_icmp .ge 31, 3) := by decide +kernel
theorem dX10_copies_32 : decode cX10_copies 32 = .ok (.aload_n 0, 1) := by decide +kernel
theorem dX10_copies_33 : decode cX10_copies 33 = .ok (.getfield 38, 3) := by decide +kernel
theorem dX10_copies_36 : decode cX10_copies 36 = .ok (.bipush 32, 2) := by decide +kernel
theorem dX10_copies_38 : decode cX10_copies 38 = .ok (.iload_n 2, 1) := by decide +kernel
theorem dX10_copies_39 : decode cX10_copies 39 = .ok (.imul, 1) := by decide +kernel
theorem dX10_copies_40 : decode cX10_copies 40 = .ok (.iload_n 3, 1) := by decide +kernel
theorem dX10_copies_41 : decode cX10_copies 41 = .ok (.iadd, 1) := by decide +kernel
theorem dX10_copies_42 : decode cX10_copies 42 = .ok (.aload_n 0, 1) := by decide +kernel
theorem dX10_copies_43 : decode cX10_copies 43 = .ok (.getfield 38, 3) := by decide +kernel
theorem dX10_copies_46 : decode cX10_copies 46 = .ok (.bipush 32, 2) := by decide +kernel
theorem dX10_copies_48 : decode cX10_copies 48 = .ok (.iload_n 1, 1) := by decide +kernel
theorem dX10_copies_49 : decode cX10_copies 49 = .ok (.imul, 1) := by decide +kernel
theorem dX10_copies_50 : decode cX10_copies 50 = .ok (.iload_n 3, 1) := by decide +kernel
theorem dX10_copies_51 : decode cX10_copies 51 = .ok (.iadd, 1) := by decide +kernel
theorem dX10_copies_52 : decode cX10_copies 52 = .ok (.iaload, 1) := by decide +kernel
theorem dX10_copies_53 : decode cX10_copies 53 = .ok (.iastore, 1) := by decide +kernel
theorem dX10_copies_54 : decode cX10_copies 54 = .ok (.iinc 3 1, 3) := by decide +kernel
theorem dX10_copies_57 : decode cX10_copies 57 = .ok (.goto (-31), 3) := by decide +kernel
theorem dX10_copies_60 : decode cX10_copies 60 = .ok (.return_, 1) := by decide +kernel
theorem dX10_keep_0 : decode cX10_keep 0 = .ok (.aload_n 0, 1) := by decide +kernel
theorem dX10_keep_1 : decode cX10_keep 1 = .ok (.getfield 101, 3) := by decide +kernel
theorem dX10_keep_4 : decode cX10_keep 4 = .ok (.iconst 2, 1) := by decide +kernel
theorem dX10_keep_5 : decode cX10_keep 5 = .ok (.if_icmp .ne 6, 3) := by decide +kernel
theorem dX10_keep_8 : decode cX10_keep 8 = .ok (.bipush (-3), 2) := by decide +kernel
theorem dX10_keep_10 : decode cX10_keep 10 = .ok (.ireturn, 1) := by decide +kernel
theorem dX10_keep_11 : decode cX10_keep 11 = .ok (.aload_n 0, 1) := by decide +kernel
theorem dX10_keep_12 : decode cX10_keep 12 = .ok (.dup, 1) := by decide +kernel
theorem dX10_keep_13 : decode cX10_keep 13 = .ok (.getfield 101, 3) := by decide +kernel
theorem dX10_keep_16 : decode cX10_keep 16 = .ok (.iconst 1, 1) := by decide +kernel
theorem dX10_keep_17 : decode cX10_keep 17 = .ok (.iadd, 1) := by decide +kernel
theorem dX10_keep_18 : decode cX10_keep 18 = .ok (.putfield 101, 3) := by decide +kernel
theorem dX10_keep_21 : decode cX10_keep 21 = .ok (.aload_n 0, 1) := by decide +kernel
theorem dX10_keep_22 : decode cX10_keep 22 = .ok (.iconst 0, 1) := by decide +kernel
theorem dX10_keep_23 : decode cX10_keep 23 = .ok (.aload_n 0, 1) := by decide +kernel
theorem dX10_keep_24 : decode cX10_keep 24 = .ok (.getfield 101, 3) := by decide +kernel
theorem dX10_keep_27 : decode cX10_keep 27 = .ok (.invokevirtual 227, 3) := by decide +kernel
theorem dX10_keep_30 : decode cX10_keep 30 = .ok (.aload_n 0, 1) := by decide +kernel
theorem dX10_keep_31 : decode cX10_keep 31 = .ok (.getfield 101, 3) := by decide +kernel
theorem dX10_keep_34 : decode cX10_keep 34 = .ok (.ireturn, 1) := by decide +kernel
theorem dX10_back_0 : decode cX10_back 0 = .ok (.aload_n 0, 1) := by decide +kernel
theorem dX10_back_1 : decode cX10_back 1 = .ok (.getfield 101, 3) := by decide +kernel
theorem dX10_back_4 : decode cX10_back 4 = .ok (.ifCond .ne 6, 3) := by decide +kernel
theorem dX10_back_7 : decode cX10_back 7 = .ok (.bipush (-2), 2) := by decide +kernel
theorem dX10_back_9 : decode cX10_back 9 = .ok (.ireturn, 1) := by decide +kernel
theorem dX10_back_10 : decode cX10_back 10 = .ok (.aload_n 0, 1) := by decide +kernel
theorem dX10_back_11 : decode cX10_back 11 = .ok (.aload_n 0, 1) := by decide +kernel
theorem dX10_back_12 : decode cX10_back 12 = .ok (.getfield 101, 3) := by decide +kernel
theorem dX10_back_15 : decode cX10_back 15 = .ok (.iconst 0, 1) := by decide +kernel
theorem dX10_back_16 : decode cX10_back 16 = .ok (.invokevirtual 227, 3) := by decide +kernel
theorem dX10_back_19 : decode cX10_back 19 = .ok (.aload_n 0, 1) := by decide +kernel
theorem dX10_back_20 : decode cX10_back 20 = .ok (.dup, 1) := by decide +kernel
theorem dX10_back_21 : decode cX10_back 21 = .ok (.getfield 101, 3) := by decide +kernel
theorem dX10_back_24 : decode cX10_back 24 = .ok (.iconst 1, 1) := by decide +kernel
theorem dX10_back_25 : decode cX10_back 25 = .ok (.isub, 1) := by decide +kernel
theorem dX10_back_26 : decode cX10_back 26 = .ok (.putfield 101, 3) := by decide +kernel
theorem dX10_back_29 : decode cX10_back 29 = .ok (.aload_n 0, 1) := by decide +kernel
theorem dX10_back_30 : decode cX10_back 30 = .ok (.iconst 0, 1) := by decide +kernel
theorem dX10_back_31 : decode cX10_back 31 = .ok (.putfield 98, 3) := by decide +kernel
theorem dX10_back_34 : decode cX10_back 34 = .ok (.aload_n 0, 1) := by decide +kernel
theorem dX10_back_35 : decode cX10_back 35 = .ok (.getfield 101, 3) := by decide +kernel
theorem dX10_back_38 : decode cX10_back 38 = .ok (.ireturn, 1) := by decide +kernel
theorem dX10_count_0 : decode cX10_count 0 = .ok (.iload_n 1, 1) := by decide +kernel
theorem dX10_count_1 : decode cX10_count 1 = .ok (.tableswitch 97 0 7 #[47, 54, 61, 68, 75, 82, 87, 92], 47) := by decide +kernel
theorem dX10_count_48 : decode cX10_count 48 = .ok (.aload_n 0, 1) := by decide +kernel
theorem dX10_count_49 : decode cX10_count 49 = .ok (.getfield 17, 3) := by decide +kernel
theorem dX10_count_52 : decode cX10_count 52 = .ok (.iconst 0, 1) := by decide +kernel
theorem dX10_count_53 : decode cX10_count 53 = .ok (.iaload, 1) := by decide +kernel
theorem dX10_count_54 : decode cX10_count 54 = .ok (.ireturn, 1) := by decide +kernel
theorem dX10_count_55 : decode cX10_count 55 = .ok (.aload_n 0, 1) := by decide +kernel
theorem dX10_count_56 : decode cX10_count 56 = .ok (.getfield 23, 3) := by decide +kernel
theorem dX10_count_59 : decode cX10_count 59 = .ok (.iconst 0, 1) := by decide +kernel
theorem dX10_count_60 : decode cX10_count 60 = .ok (.iaload, 1) := by decide +kernel
theorem dX10_count_61 : decode cX10_count 61 = .ok (.ireturn, 1) := by decide +kernel
theorem dX10_count_62 : decode cX10_count 62 = .ok (.aload_n 0, 1) := by decide +kernel
theorem dX10_count_63 : decode cX10_count 63 = .ok (.getfield 29, 3) := by decide +kernel
theorem dX10_count_66 : decode cX10_count 66 = .ok (.iconst 0, 1) := by decide +kernel
theorem dX10_count_67 : decode cX10_count 67 = .ok (.iaload, 1) := by decide +kernel
theorem dX10_count_68 : decode cX10_count 68 = .ok (.ireturn, 1) := by decide +kernel
theorem dX10_count_69 : decode cX10_count 69 = .ok (.aload_n 0, 1) := by decide +kernel
theorem dX10_count_70 : decode cX10_count 70 = .ok (.getfield 35, 3) := by decide +kernel
theorem dX10_count_73 : decode cX10_count 73 = .ok (.iconst 0, 1) := by decide +kernel
theorem dX10_count_74 : decode cX10_count 74 = .ok (.iaload, 1) := by decide +kernel
theorem dX10_count_75 : decode cX10_count 75 = .ok (.ireturn, 1) := by decide +kernel
theorem dX10_count_76 : decode cX10_count 76 = .ok (.aload_n 0, 1) := by decide +kernel
theorem dX10_count_77 : decode cX10_count 77 = .ok (.getfield 41, 3) := by decide +kernel
theorem dX10_count_80 : decode cX10_count 80 = .ok (.iconst 0, 1) := by decide +kernel
theorem dX10_count_81 : decode cX10_count 81 = .ok (.iaload, 1) := by decide +kernel
theorem dX10_count_82 : decode cX10_count 82 = .ok (.ireturn, 1) := by decide +kernel
theorem dX10_count_83 : decode cX10_count 83 = .ok (.aload_n 0, 1) := by decide +kernel
theorem dX10_count_84 : decode cX10_count 84 = .ok (.getfield 98, 3) := by decide +kernel
theorem dX10_count_87 : decode cX10_count 87 = .ok (.ireturn, 1) := by decide +kernel
theorem dX10_count_88 : decode cX10_count 88 = .ok (.aload_n 0, 1) := by decide +kernel
theorem dX10_count_89 : decode cX10_count 89 = .ok (.getfield 101, 3) := by decide +kernel
theorem dX10_count_92 : decode cX10_count 92 = .ok (.ireturn, 1) := by decide +kernel
theorem dX10_count_93 : decode cX10_count 93 = .ok (.aload_n 0, 1) := by decide +kernel
theorem dX10_count_94 : decode cX10_count 94 = .ok (.getfield 69, 3) := by decide +kernel
theorem dX10_count_97 : decode cX10_count 97 = .ok (.ireturn, 1) := by decide +kernel
theorem dX10_count_98 : decode cX10_count 98 = .ok (.iconst (-1), 1) := by decide +kernel
theorem dX10_count_99 : decode cX10_count 99 = .ok (.ireturn, 1) := by decide +kernel
