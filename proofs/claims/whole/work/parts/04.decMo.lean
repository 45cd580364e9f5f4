/-! DECODE ROWS of Mo (by program) -/
theorem d_Mo_init_0 : decode b_Mo_init 0 = .ok (.aload_n 0, 1) := by decide +kernel
theorem d_Mo_init_1 : decode b_Mo_init 1 = .ok (.invokespecial 3, 3) := by decide +kernel
theorem d_Mo_init_4 : decode b_Mo_init 4 = .ok (.aload_n 0, 1) := by decide +kernel
theorem d_Mo_init_5 : decode b_Mo_init 5 = .ok (.bipush 10, 2) := by decide +kernel
theorem d_Mo_init_7 : decode b_Mo_init 7 = .ok (.anewarray 9, 3) := by decide +kernel
theorem d_Mo_init_10 : decode b_Mo_init 10 = .ok (.putfield 11, 3) := by decide +kernel
theorem d_Mo_init_13 : decode b_Mo_init 13 = .ok (.aload_n 0, 1) := by decide +kernel
theorem d_Mo_init_14 : decode b_Mo_init 14 = .ok (.new 9, 3) := by decide +kernel
theorem d_Mo_init_17 : decode b_Mo_init 17 = .ok (.dup, 1) := by decide +kernel
theorem d_Mo_init_18 : decode b_Mo_init 18 = .ok (.sipush 6800, 3) := by decide +kernel
theorem d_Mo_init_21 : decode b_Mo_init 21 = .ok (.invokespecial 15, 3) := by decide +kernel
theorem d_Mo_init_24 : decode b_Mo_init 24 = .ok (.putfield 18, 3) := by decide +kernel
theorem d_Mo_init_27 : decode b_Mo_init 27 = .ok (.aload_n 0, 1) := by decide +kernel
theorem d_Mo_init_28 : decode b_Mo_init 28 = .ok (.new 9, 3) := by decide +kernel
theorem d_Mo_init_31 : decode b_Mo_init 31 = .ok (.dup, 1) := by decide +kernel
theorem d_Mo_init_32 : decode b_Mo_init 32 = .ok (.sipush 6800, 3) := by decide +kernel
theorem d_Mo_init_35 : decode b_Mo_init 35 = .ok (.invokespecial 15, 3) := by decide +kernel
theorem d_Mo_init_38 : decode b_Mo_init 38 = .ok (.putfield 22, 3) := by decide +kernel
theorem d_Mo_init_41 : decode b_Mo_init 41 = .ok (.aload_n 0, 1) := by decide +kernel
theorem d_Mo_init_42 : decode b_Mo_init 42 = .ok (.new 9, 3) := by decide +kernel
theorem d_Mo_init_45 : decode b_Mo_init 45 = .ok (.dup, 1) := by decide +kernel
theorem d_Mo_init_46 : decode b_Mo_init 46 = .ok (.sipush 6800, 3) := by decide +kernel
theorem d_Mo_init_49 : decode b_Mo_init 49 = .ok (.invokespecial 15, 3) := by decide +kernel
theorem d_Mo_init_52 : decode b_Mo_init 52 = .ok (.putfield 25, 3) := by decide +kernel
theorem d_Mo_init_55 : decode b_Mo_init 55 = .ok (.aload_n 0, 1) := by decide +kernel
theorem d_Mo_init_56 : decode b_Mo_init 56 = .ok (.new 9, 3) := by decide +kernel
theorem d_Mo_init_59 : decode b_Mo_init 59 = .ok (.dup, 1) := by decide +kernel
theorem d_Mo_init_60 : decode b_Mo_init 60 = .ok (.sipush 6800, 3) := by decide +kernel
theorem d_Mo_init_63 : decode b_Mo_init 63 = .ok (.invokespecial 15, 3) := by decide +kernel
theorem d_Mo_init_66 : decode b_Mo_init 66 = .ok (.putfield 28, 3) := by decide +kernel
theorem d_Mo_init_69 : decode b_Mo_init 69 = .ok (.aload_n 0, 1) := by decide +kernel
theorem d_Mo_init_70 : decode b_Mo_init 70 = .ok (.new 9, 3) := by decide +kernel
theorem d_Mo_init_73 : decode b_Mo_init 73 = .ok (.dup, 1) := by decide +kernel
theorem d_Mo_init_74 : decode b_Mo_init 74 = .ok (.sipush 6800, 3) := by decide +kernel
theorem d_Mo_init_77 : decode b_Mo_init 77 = .ok (.invokespecial 15, 3) := by decide +kernel
theorem d_Mo_init_80 : decode b_Mo_init 80 = .ok (.putfield 31, 3) := by decide +kernel
theorem d_Mo_init_83 : decode b_Mo_init 83 = .ok (.aload_n 0, 1) := by decide +kernel
theorem d_Mo_init_84 : decode b_Mo_init 84 = .ok (.new 9, 3) := by decide +kernel
theorem d_Mo_init_87 : decode b_Mo_init 87 = .ok (.dup, 1) := by decide +kernel
theorem d_Mo_init_88 : decode b_Mo_init 88 = .ok (.sipush 6800, 3) := by decide +kernel
theorem d_Mo_init_91 : decode b_Mo_init 91 = .ok (.invokespecial 15, 3) := by decide +kernel
theorem d_Mo_init_94 : decode b_Mo_init 94 = .ok (.putfield 34, 3) := by decide +kernel
theorem d_Mo_init_97 : decode b_Mo_init 97 = .ok (.aload_n 0, 1) := by decide +kernel
theorem d_Mo_init_98 : decode b_Mo_init 98 = .ok (.new 9, 3) := by decide +kernel
theorem d_Mo_init_101 : decode b_Mo_init 101 = .ok (.dup, 1) := by decide +kernel
theorem d_Mo_init_102 : decode b_Mo_init 102 = .ok (.sipush 6800, 3) := by decide +kernel
theorem d_Mo_init_105 : decode b_Mo_init 105 = .ok (.invokespecial 15, 3) := by decide +kernel
theorem d_Mo_init_108 : decode b_Mo_init 108 = .ok (.putfield 37, 3) := by decide +kernel
theorem d_Mo_init_111 : decode b_Mo_init 111 = .ok (.aload_n 0, 1) := by decide +kernel
theorem d_Mo_init_112 : decode b_Mo_init 112 = .ok (.new 9, 3) := by decide +kernel
theorem d_Mo_init_115 : decode b_Mo_init 115 = .ok (.dup, 1) := by decide +kernel
theorem d_Mo_init_116 : decode b_Mo_init 116 = .ok (.sipush 6800, 3) := by decide +kernel
theorem d_Mo_init_119 : decode b_Mo_init 119 = .ok (.invokespecial 15, 3) := by decide +kernel
theorem d_Mo_init_122 : decode b_Mo_init 122 = .ok (.putfield 40, 3) := by decide +kernel
theorem d_Mo_init_125 : decode b_Mo_init 125 = .ok (.aload_n 0, 1) := by decide +kernel
theorem d_Mo_init_126 : decode b_Mo_init 126 = .ok (.new 9, 3) := by decide +kernel
theorem d_Mo_init_129 : decode b_Mo_init 129 = .ok (.dup, 1) := by decide +kernel
theorem d_Mo_init_130 : decode b_Mo_init 130 = .ok (.sipush 6800, 3) := by decide +kernel
theorem d_Mo_init_133 : decode b_Mo_init 133 = .ok (.invokespecial 15, 3) := by decide +kernel
theorem d_Mo_init_136 : decode b_Mo_init 136 = .ok (.putfield 43, 3) := by decide +kernel
theorem d_Mo_init_139 : decode b_Mo_init 139 = .ok (.aload_n 0, 1) := by decide +kernel
theorem d_Mo_init_140 : decode b_Mo_init 140 = .ok (.sipush 4096, 3) := by decide +kernel
theorem d_Mo_init_143 : decode b_Mo_init 143 = .ok (.newarray .byte, 2) := by decide +kernel
theorem d_Mo_init_145 : decode b_Mo_init 145 = .ok (.putfield 46, 3) := by decide +kernel
theorem d_Mo_init_148 : decode b_Mo_init 148 = .ok (.aload_n 0, 1) := by decide +kernel
theorem d_Mo_init_149 : decode b_Mo_init 149 = .ok (.sipush 20000, 3) := by decide +kernel
theorem d_Mo_init_152 : decode b_Mo_init 152 = .ok (.newarray .byte, 2) := by decide +kernel
theorem d_Mo_init_154 : decode b_Mo_init 154 = .ok (.putfield 50, 3) := by decide +kernel
theorem d_Mo_init_157 : decode b_Mo_init 157 = .ok (.iconst 0, 1) := by decide +kernel
theorem d_Mo_init_158 : decode b_Mo_init 158 = .ok (.istore_n 1, 1) := by decide +kernel
theorem d_Mo_init_159 : decode b_Mo_init 159 = .ok (.iload_n 1, 1) := by decide +kernel
theorem d_Mo_init_160 : decode b_Mo_init 160 = .ok (.bipush 10, 2) := by decide +kernel
theorem d_Mo_init_162 : decode b_Mo_init 162 = .ok (.if_icmp .ge 25, 3) := by decide +kernel
theorem d_Mo_init_165 : decode b_Mo_init 165 = .ok (.aload_n 0, 1) := by decide +kernel
theorem d_Mo_init_166 : decode b_Mo_init 166 = .ok (.getfield 11, 3) := by decide +kernel
theorem d_Mo_init_169 : decode b_Mo_init 169 = .ok (.iload_n 1, 1) := by decide +kernel
theorem d_Mo_init_170 : decode b_Mo_init 170 = .ok (.new 9, 3) := by decide +kernel
theorem d_Mo_init_173 : decode b_Mo_init 173 = .ok (.dup, 1) := by decide +kernel
theorem d_Mo_init_174 : decode b_Mo_init 174 = .ok (.sipush 6800, 3) := by decide +kernel
theorem d_Mo_init_177 : decode b_Mo_init 177 = .ok (.invokespecial 15, 3) := by decide +kernel
theorem d_Mo_init_180 : decode b_Mo_init 180 = .ok (.aastore, 1) := by decide +kernel
theorem d_Mo_init_181 : decode b_Mo_init 181 = .ok (.iinc 1 1, 3) := by decide +kernel
theorem d_Mo_init_184 : decode b_Mo_init 184 = .ok (.goto (-25), 3) := by decide +kernel
theorem d_Mo_init_187 : decode b_Mo_init 187 = .ok (.return_, 1) := by decide +kernel
theorem d_Mo_thrown_0 : decode b_Mo_thrown 0 = .ok (.aload_n 0, 1) := by decide +kernel
theorem d_Mo_thrown_1 : decode b_Mo_thrown 1 = .ok (.getfield 183, 3) := by decide +kernel
theorem d_Mo_thrown_4 : decode b_Mo_thrown 4 = .ok (.ireturn, 1) := by decide +kernel
theorem d_Mo_set_0 : decode b_Mo_set 0 = .ok (.aload_n 0, 1) := by decide +kernel
theorem d_Mo_set_1 : decode b_Mo_set 1 = .ok (.iconst 0, 1) := by decide +kernel
theorem d_Mo_set_2 : decode b_Mo_set 2 = .ok (.putfield 183, 3) := by decide +kernel
theorem d_Mo_set_5 : decode b_Mo_set 5 = .ok (.aload_n 0, 1) := by decide +kernel
theorem d_Mo_set_6 : decode b_Mo_set 6 = .ok (.iload_n 1, 1) := by decide +kernel
theorem d_Mo_set_7 : decode b_Mo_set 7 = .ok (.lload_n 2, 1) := by decide +kernel
theorem d_Mo_set_8 : decode b_Mo_set 8 = .ok (.invokevirtual 186, 3) := by decide +kernel
theorem d_Mo_set_11 : decode b_Mo_set 11 = .ok (.ireturn, 1) := by decide +kernel
theorem d_Mo_set_12 : decode b_Mo_set 12 = .ok (.astore 4, 2) := by decide +kernel
theorem d_Mo_set_14 : decode b_Mo_set 14 = .ok (.aload_n 0, 1) := by decide +kernel
theorem d_Mo_set_15 : decode b_Mo_set 15 = .ok (.iconst 1, 1) := by decide +kernel
theorem d_Mo_set_16 : decode b_Mo_set 16 = .ok (.putfield 183, 3) := by decide +kernel
theorem d_Mo_set_19 : decode b_Mo_set 19 = .ok (.iconst 0, 1) := by decide +kernel
theorem d_Mo_set_20 : decode b_Mo_set 20 = .ok (.ireturn, 1) := by decide +kernel
theorem d_Mo_set0_0 : decode b_Mo_set0 0 = .ok (.iload_n 1, 1) := by decide +kernel
theorem d_Mo_set0_1 : decode b_Mo_set0 1 = .ok (.invokestatic 77, 3) := by decide +kernel
theorem d_Mo_set0_4 : decode b_Mo_set0 4 = .ok (.aload_n 0, 1) := by decide +kernel
theorem d_Mo_set0_5 : decode b_Mo_set0 5 = .ok (.getfield 18, 3) := by decide +kernel
theorem d_Mo_set0_8 : decode b_Mo_set0 8 = .ok (.lload_n 2, 1) := by decide +kernel
theorem d_Mo_set0_9 : decode b_Mo_set0 9 = .ok (.invokevirtual 80, 3) := by decide +kernel
theorem d_Mo_set0_12 : decode b_Mo_set0 12 = .ok (.aload_n 0, 1) := by decide +kernel
theorem d_Mo_set0_13 : decode b_Mo_set0 13 = .ok (.iload_n 1, 1) := by decide +kernel
theorem d_Mo_set0_14 : decode b_Mo_set0 14 = .ok (.aload_n 0, 1) := by decide +kernel
theorem d_Mo_set0_15 : decode b_Mo_set0 15 = .ok (.getfield 18, 3) := by decide +kernel
theorem d_Mo_set0_18 : decode b_Mo_set0 18 = .ok (.invokevirtual 83, 3) := by decide +kernel
theorem d_Mo_set0_21 : decode b_Mo_set0 21 = .ok (.ireturn, 1) := by decide +kernel
theorem d_Mo_named_0 : decode b_Mo_named 0 = .ok (.iload_n 0, 1) := by decide +kernel
theorem d_Mo_named_1 : decode b_Mo_named 1 = .ok (.iconst 0, 1) := by decide +kernel
theorem d_Mo_named_2 : decode b_Mo_named 2 = .ok (.bipush 9, 2) := by decide +kernel
theorem d_Mo_named_4 : decode b_Mo_named 4 = .ok (.invokestatic 56, 3) := by decide +kernel
theorem d_Mo_named_7 : decode b_Mo_named 7 = .ok (.invokestatic 60, 3) := by decide +kernel
theorem d_Mo_named_10 : decode b_Mo_named 10 = .ok (.return_, 1) := by decide +kernel
theorem d_Mo_in_0 : decode b_Mo_in 0 = .ok (.iload_n 0, 1) := by decide +kernel
theorem d_Mo_in_1 : decode b_Mo_in 1 = .ok (.iload_n 1, 1) := by decide +kernel
theorem d_Mo_in_2 : decode b_Mo_in 2 = .ok (.if_icmp .lt 12, 3) := by decide +kernel
theorem d_Mo_in_5 : decode b_Mo_in 5 = .ok (.iload_n 0, 1) := by decide +kernel
theorem d_Mo_in_6 : decode b_Mo_in 6 = .ok (.iload_n 2, 1) := by decide +kernel
theorem d_Mo_in_7 : decode b_Mo_in 7 = .ok (.if_icmp .gt 7, 3) := by decide +kernel
theorem d_Mo_in_10 : decode b_Mo_in 10 = .ok (.iconst 1, 1) := by decide +kernel
theorem d_Mo_in_11 : decode b_Mo_in 11 = .ok (.goto 4, 3) := by decide +kernel
theorem d_Mo_in_14 : decode b_Mo_in 14 = .ok (.iconst 0, 1) := by decide +kernel
theorem d_Mo_in_15 : decode b_Mo_in 15 = .ok (.ireturn, 1) := by decide +kernel
theorem d_Mo_check_0 : decode b_Mo_check 0 = .ok (.iload_n 0, 1) := by decide +kernel
theorem d_Mo_check_1 : decode b_Mo_check 1 = .ok (.ifCond .ne 11, 3) := by decide +kernel
theorem d_Mo_check_4 : decode b_Mo_check 4 = .ok (.new 53, 3) := by decide +kernel
theorem d_Mo_check_7 : decode b_Mo_check 7 = .ok (.dup, 1) := by decide +kernel
theorem d_Mo_check_8 : decode b_Mo_check 8 = .ok (.invokespecial 55, 3) := by decide +kernel
theorem d_Mo_check_11 : decode b_Mo_check 11 = .ok (.athrow, 1) := by decide +kernel
theorem d_Mo_check_12 : decode b_Mo_check 12 = .ok (.return_, 1) := by decide +kernel
theorem d_Mo_keep_0 : decode b_Mo_keep 0 = .ok (.aload_n 0, 1) := by decide +kernel
theorem d_Mo_keep_1 : decode b_Mo_keep 1 = .ok (.getfield 11, 3) := by decide +kernel
theorem d_Mo_keep_4 : decode b_Mo_keep 4 = .ok (.iload_n 1, 1) := by decide +kernel
theorem d_Mo_keep_5 : decode b_Mo_keep 5 = .ok (.aaload, 1) := by decide +kernel
theorem d_Mo_keep_6 : decode b_Mo_keep 6 = .ok (.aload_n 2, 1) := by decide +kernel
theorem d_Mo_keep_7 : decode b_Mo_keep 7 = .ok (.invokevirtual 69, 3) := by decide +kernel
theorem d_Mo_keep_10 : decode b_Mo_keep 10 = .ok (.aload_n 2, 1) := by decide +kernel
theorem d_Mo_keep_11 : decode b_Mo_keep 11 = .ok (.invokevirtual 73, 3) := by decide +kernel
theorem d_Mo_keep_14 : decode b_Mo_keep 14 = .ok (.ireturn, 1) := by decide +kernel
theorem d_Mo_copy_0 : decode b_Mo_copy 0 = .ok (.aload_n 0, 1) := by decide +kernel
theorem d_Mo_copy_1 : decode b_Mo_copy 1 = .ok (.iconst 0, 1) := by decide +kernel
theorem d_Mo_copy_2 : decode b_Mo_copy 2 = .ok (.putfield 183, 3) := by decide +kernel
theorem d_Mo_copy_5 : decode b_Mo_copy 5 = .ok (.aload_n 0, 1) := by decide +kernel
theorem d_Mo_copy_6 : decode b_Mo_copy 6 = .ok (.iload_n 1, 1) := by decide +kernel
theorem d_Mo_copy_7 : decode b_Mo_copy 7 = .ok (.iload_n 2, 1) := by decide +kernel
theorem d_Mo_copy_8 : decode b_Mo_copy 8 = .ok (.invokevirtual 190, 3) := by decide +kernel
theorem d_Mo_copy_11 : decode b_Mo_copy 11 = .ok (.ireturn, 1) := by decide +kernel
theorem d_Mo_copy_12 : decode b_Mo_copy 12 = .ok (.astore_n 3, 1) := by decide +kernel
theorem d_Mo_copy_13 : decode b_Mo_copy 13 = .ok (.aload_n 0, 1) := by decide +kernel
theorem d_Mo_copy_14 : decode b_Mo_copy 14 = .ok (.iconst 1, 1) := by decide +kernel
theorem d_Mo_copy_15 : decode b_Mo_copy 15 = .ok (.putfield 183, 3) := by decide +kernel
theorem d_Mo_copy_18 : decode b_Mo_copy 18 = .ok (.iconst 0, 1) := by decide +kernel
theorem d_Mo_copy_19 : decode b_Mo_copy 19 = .ok (.ireturn, 1) := by decide +kernel
theorem d_Mo_copy0_0 : decode b_Mo_copy0 0 = .ok (.iload_n 1, 1) := by decide +kernel
theorem d_Mo_copy0_1 : decode b_Mo_copy0 1 = .ok (.invokestatic 77, 3) := by decide +kernel
theorem d_Mo_copy0_4 : decode b_Mo_copy0 4 = .ok (.iload_n 2, 1) := by decide +kernel
theorem d_Mo_copy0_5 : decode b_Mo_copy0 5 = .ok (.invokestatic 77, 3) := by decide +kernel
theorem d_Mo_copy0_8 : decode b_Mo_copy0 8 = .ok (.aload_n 0, 1) := by decide +kernel
theorem d_Mo_copy0_9 : decode b_Mo_copy0 9 = .ok (.getfield 18, 3) := by decide +kernel
theorem d_Mo_copy0_12 : decode b_Mo_copy0 12 = .ok (.aload_n 0, 1) := by decide +kernel
theorem d_Mo_copy0_13 : decode b_Mo_copy0 13 = .ok (.getfield 11, 3) := by decide +kernel
theorem d_Mo_copy0_16 : decode b_Mo_copy0 16 = .ok (.iload_n 2, 1) := by decide +kernel
theorem d_Mo_copy0_17 : decode b_Mo_copy0 17 = .ok (.aaload, 1) := by decide +kernel
theorem d_Mo_copy0_18 : decode b_Mo_copy0 18 = .ok (.invokevirtual 69, 3) := by decide +kernel
theorem d_Mo_copy0_21 : decode b_Mo_copy0 21 = .ok (.aload_n 0, 1) := by decide +kernel
theorem d_Mo_copy0_22 : decode b_Mo_copy0 22 = .ok (.iload_n 1, 1) := by decide +kernel
theorem d_Mo_copy0_23 : decode b_Mo_copy0 23 = .ok (.aload_n 0, 1) := by decide +kernel
theorem d_Mo_copy0_24 : decode b_Mo_copy0 24 = .ok (.getfield 18, 3) := by decide +kernel
theorem d_Mo_copy0_27 : decode b_Mo_copy0 27 = .ok (.invokevirtual 83, 3) := by decide +kernel
theorem d_Mo_copy0_30 : decode b_Mo_copy0 30 = .ok (.ireturn, 1) := by decide +kernel
theorem d_Mo_shift_0 : decode b_Mo_shift 0 = .ok (.aload_n 0, 1) := by decide +kernel
theorem d_Mo_shift_1 : decode b_Mo_shift 1 = .ok (.iconst 0, 1) := by decide +kernel
theorem d_Mo_shift_2 : decode b_Mo_shift 2 = .ok (.putfield 183, 3) := by decide +kernel
theorem d_Mo_shift_5 : decode b_Mo_shift 5 = .ok (.aload_n 0, 1) := by decide +kernel
theorem d_Mo_shift_6 : decode b_Mo_shift 6 = .ok (.iload_n 1, 1) := by decide +kernel
theorem d_Mo_shift_7 : decode b_Mo_shift 7 = .ok (.iload_n 2, 1) := by decide +kernel
theorem d_Mo_shift_8 : decode b_Mo_shift 8 = .ok (.iload_n 3, 1) := by decide +kernel
theorem d_Mo_shift_9 : decode b_Mo_shift 9 = .ok (.invokevirtual 193, 3) := by decide +kernel
theorem d_Mo_shift_12 : decode b_Mo_shift 12 = .ok (.ireturn, 1) := by decide +kernel
theorem d_Mo_shift_13 : decode b_Mo_shift 13 = .ok (.astore 4, 2) := by decide +kernel
theorem d_Mo_shift_15 : decode b_Mo_shift 15 = .ok (.aload_n 0, 1) := by decide +kernel
theorem d_Mo_shift_16 : decode b_Mo_shift 16 = .ok (.iconst 1, 1) := by decide +kernel
theorem d_Mo_shift_17 : decode b_Mo_shift 17 = .ok (.putfield 183, 3) := by decide +kernel
theorem d_Mo_shift_20 : decode b_Mo_shift 20 = .ok (.goto 10, 3) := by decide +kernel
theorem d_Mo_shift_23 : decode b_Mo_shift 23 = .ok (.astore 4, 2) := by decide +kernel
theorem d_Mo_shift_25 : decode b_Mo_shift 25 = .ok (.aload_n 0, 1) := by decide +kernel
theorem d_Mo_shift_26 : decode b_Mo_shift 26 = .ok (.iconst 2, 1) := by decide +kernel
theorem d_Mo_shift_27 : decode b_Mo_shift 27 = .ok (.putfield 183, 3) := by decide +kernel
theorem d_Mo_shift_30 : decode b_Mo_shift 30 = .ok (.iconst 0, 1) := by decide +kernel
theorem d_Mo_shift_31 : decode b_Mo_shift 31 = .ok (.ireturn, 1) := by decide +kernel
theorem d_Mo_shift0_0 : decode b_Mo_shift0 0 = .ok (.iload_n 1, 1) := by decide +kernel
theorem d_Mo_shift0_1 : decode b_Mo_shift0 1 = .ok (.invokestatic 77, 3) := by decide +kernel
theorem d_Mo_shift0_4 : decode b_Mo_shift0 4 = .ok (.iload_n 2, 1) := by decide +kernel
theorem d_Mo_shift0_5 : decode b_Mo_shift0 5 = .ok (.invokestatic 77, 3) := by decide +kernel
theorem d_Mo_shift0_8 : decode b_Mo_shift0 8 = .ok (.iload_n 3, 1) := by decide +kernel
theorem d_Mo_shift0_9 : decode b_Mo_shift0 9 = .ok (.ldc 87, 2) := by decide +kernel
theorem d_Mo_shift0_11 : decode b_Mo_shift0 11 = .ok (.ldc 88, 2) := by decide +kernel
theorem d_Mo_shift0_13 : decode b_Mo_shift0 13 = .ok (.invokestatic 56, 3) := by decide +kernel
theorem d_Mo_shift0_16 : decode b_Mo_shift0 16 = .ok (.invokestatic 60, 3) := by decide +kernel
theorem d_Mo_shift0_19 : decode b_Mo_shift0 19 = .ok (.aload_n 0, 1) := by decide +kernel
theorem d_Mo_shift0_20 : decode b_Mo_shift0 20 = .ok (.getfield 18, 3) := by decide +kernel
theorem d_Mo_shift0_23 : decode b_Mo_shift0 23 = .ok (.aload_n 0, 1) := by decide +kernel
theorem d_Mo_shift0_24 : decode b_Mo_shift0 24 = .ok (.getfield 11, 3) := by decide +kernel
theorem d_Mo_shift0_27 : decode b_Mo_shift0 27 = .ok (.iload_n 2, 1) := by decide +kernel
theorem d_Mo_shift0_28 : decode b_Mo_shift0 28 = .ok (.aaload, 1) := by decide +kernel
theorem d_Mo_shift0_29 : decode b_Mo_shift0 29 = .ok (.invokevirtual 69, 3) := by decide +kernel
theorem d_Mo_shift0_32 : decode b_Mo_shift0 32 = .ok (.iload_n 3, 1) := by decide +kernel
theorem d_Mo_shift0_33 : decode b_Mo_shift0 33 = .ok (.ifCond .le 27, 3) := by decide +kernel
theorem d_Mo_shift0_36 : decode b_Mo_shift0 36 = .ok (.aload_n 0, 1) := by decide +kernel
theorem d_Mo_shift0_37 : decode b_Mo_shift0 37 = .ok (.getfield 18, 3) := by decide +kernel
theorem d_Mo_shift0_40 : decode b_Mo_shift0 40 = .ok (.getfield 89, 3) := by decide +kernel
theorem d_Mo_shift0_43 : decode b_Mo_shift0 43 = .ok (.ifCond .le 17, 3) := by decide +kernel
theorem d_Mo_shift0_46 : decode b_Mo_shift0 46 = .ok (.aload_n 0, 1) := by decide +kernel
theorem d_Mo_shift0_47 : decode b_Mo_shift0 47 = .ok (.getfield 18, 3) := by decide +kernel
theorem d_Mo_shift0_50 : decode b_Mo_shift0 50 = .ok (.invokevirtual 73, 3) := by decide +kernel
theorem d_Mo_shift0_53 : decode b_Mo_shift0 53 = .ok (.i2l, 1) := by decide +kernel
theorem d_Mo_shift0_54 : decode b_Mo_shift0 54 = .ok (.iload_n 3, 1) := by decide +kernel
theorem d_Mo_shift0_55 : decode b_Mo_shift0 55 = .ok (.i2l, 1) := by decide +kernel
theorem d_Mo_shift0_56 : decode b_Mo_shift0 56 = .ok (.ladd, 1) := by decide +kernel
theorem d_Mo_shift0_57 : decode b_Mo_shift0 57 = .ok (.invokestatic 93, 3) := by decide +kernel
theorem d_Mo_shift0_60 : decode b_Mo_shift0 60 = .ok (.iload_n 3, 1) := by decide +kernel
theorem d_Mo_shift0_61 : decode b_Mo_shift0 61 = .ok (.ifCond .le 14, 3) := by decide +kernel
theorem d_Mo_shift0_64 : decode b_Mo_shift0 64 = .ok (.aload_n 0, 1) := by decide +kernel
theorem d_Mo_shift0_65 : decode b_Mo_shift0 65 = .ok (.getfield 18, 3) := by decide +kernel
theorem d_Mo_shift0_68 : decode b_Mo_shift0 68 = .ok (.iload_n 3, 1) := by decide +kernel
theorem d_Mo_shift0_69 : decode b_Mo_shift0 69 = .ok (.invokevirtual 96, 3) := by decide +kernel
theorem d_Mo_shift0_72 : decode b_Mo_shift0 72 = .ok (.goto 12, 3) := by decide +kernel
theorem d_Mo_shift0_75 : decode b_Mo_shift0 75 = .ok (.aload_n 0, 1) := by decide +kernel
theorem d_Mo_shift0_76 : decode b_Mo_shift0 76 = .ok (.getfield 18, 3) := by decide +kernel
theorem d_Mo_shift0_79 : decode b_Mo_shift0 79 = .ok (.iload_n 3, 1) := by decide +kernel
theorem d_Mo_shift0_80 : decode b_Mo_shift0 80 = .ok (.ineg, 1) := by decide +kernel
theorem d_Mo_shift0_81 : decode b_Mo_shift0 81 = .ok (.invokevirtual 99, 3) := by decide +kernel
theorem d_Mo_shift0_84 : decode b_Mo_shift0 84 = .ok (.aload_n 0, 1) := by decide +kernel
theorem d_Mo_shift0_85 : decode b_Mo_shift0 85 = .ok (.iload_n 1, 1) := by decide +kernel
theorem d_Mo_shift0_86 : decode b_Mo_shift0 86 = .ok (.aload_n 0, 1) := by decide +kernel
theorem d_Mo_shift0_87 : decode b_Mo_shift0 87 = .ok (.getfield 18, 3) := by decide +kernel
theorem d_Mo_shift0_90 : decode b_Mo_shift0 90 = .ok (.invokevirtual 83, 3) := by decide +kernel
theorem d_Mo_shift0_93 : decode b_Mo_shift0 93 = .ok (.ireturn, 1) := by decide +kernel
theorem d_Mo_fits_0 : decode b_Mo_fits 0 = .ok (.lload_n 0, 1) := by decide +kernel
theorem d_Mo_fits_1 : decode b_Mo_fits 1 = .ok (.ldc2_w 64, 3) := by decide +kernel
theorem d_Mo_fits_4 : decode b_Mo_fits 4 = .ok (.lcmp, 1) := by decide +kernel
theorem d_Mo_fits_5 : decode b_Mo_fits 5 = .ok (.ifCond .le 11, 3) := by decide +kernel
theorem d_Mo_fits_8 : decode b_Mo_fits 8 = .ok (.new 66, 3) := by decide +kernel
theorem d_Mo_fits_11 : decode b_Mo_fits 11 = .ok (.dup, 1) := by decide +kernel
theorem d_Mo_fits_12 : decode b_Mo_fits 12 = .ok (.invokespecial 68, 3) := by decide +kernel
theorem d_Mo_fits_15 : decode b_Mo_fits 15 = .ok (.athrow, 1) := by decide +kernel
theorem d_Mo_fits_16 : decode b_Mo_fits 16 = .ok (.return_, 1) := by decide +kernel
theorem d_Mo_add_0 : decode b_Mo_add 0 = .ok (.aload_n 0, 1) := by decide +kernel
theorem d_Mo_add_1 : decode b_Mo_add 1 = .ok (.iconst 0, 1) := by decide +kernel
theorem d_Mo_add_2 : decode b_Mo_add 2 = .ok (.putfield 183, 3) := by decide +kernel
theorem d_Mo_add_5 : decode b_Mo_add 5 = .ok (.aload_n 0, 1) := by decide +kernel
theorem d_Mo_add_6 : decode b_Mo_add 6 = .ok (.iload_n 1, 1) := by decide +kernel
theorem d_Mo_add_7 : decode b_Mo_add 7 = .ok (.iload_n 2, 1) := by decide +kernel
theorem d_Mo_add_8 : decode b_Mo_add 8 = .ok (.iload_n 3, 1) := by decide +kernel
theorem d_Mo_add_9 : decode b_Mo_add 9 = .ok (.invokevirtual 197, 3) := by decide +kernel
theorem d_Mo_add_12 : decode b_Mo_add 12 = .ok (.ireturn, 1) := by decide +kernel
theorem d_Mo_add_13 : decode b_Mo_add 13 = .ok (.astore 4, 2) := by decide +kernel
theorem d_Mo_add_15 : decode b_Mo_add 15 = .ok (.aload_n 0, 1) := by decide +kernel
theorem d_Mo_add_16 : decode b_Mo_add 16 = .ok (.iconst 1, 1) := by decide +kernel
theorem d_Mo_add_17 : decode b_Mo_add 17 = .ok (.putfield 183, 3) := by decide +kernel
theorem d_Mo_add_20 : decode b_Mo_add 20 = .ok (.goto 10, 3) := by decide +kernel
theorem d_Mo_add_23 : decode b_Mo_add 23 = .ok (.astore 4, 2) := by decide +kernel
theorem d_Mo_add_25 : decode b_Mo_add 25 = .ok (.aload_n 0, 1) := by decide +kernel
theorem d_Mo_add_26 : decode b_Mo_add 26 = .ok (.iconst 2, 1) := by decide +kernel
theorem d_Mo_add_27 : decode b_Mo_add 27 = .ok (.putfield 183, 3) := by decide +kernel
theorem d_Mo_add_30 : decode b_Mo_add 30 = .ok (.iconst 0, 1) := by decide +kernel
theorem d_Mo_add_31 : decode b_Mo_add 31 = .ok (.ireturn, 1) := by decide +kernel
theorem d_Mo_add0_0 : decode b_Mo_add0 0 = .ok (.iload_n 1, 1) := by decide +kernel
theorem d_Mo_add0_1 : decode b_Mo_add0 1 = .ok (.invokestatic 77, 3) := by decide +kernel
theorem d_Mo_add0_4 : decode b_Mo_add0 4 = .ok (.iload_n 2, 1) := by decide +kernel
theorem d_Mo_add0_5 : decode b_Mo_add0 5 = .ok (.invokestatic 77, 3) := by decide +kernel
theorem d_Mo_add0_8 : decode b_Mo_add0 8 = .ok (.iload_n 3, 1) := by decide +kernel
theorem d_Mo_add0_9 : decode b_Mo_add0 9 = .ok (.invokestatic 77, 3) := by decide +kernel
theorem d_Mo_add0_12 : decode b_Mo_add0 12 = .ok (.aload_n 0, 1) := by decide +kernel
theorem d_Mo_add0_13 : decode b_Mo_add0 13 = .ok (.getfield 18, 3) := by decide +kernel
theorem d_Mo_add0_16 : decode b_Mo_add0 16 = .ok (.aload_n 0, 1) := by decide +kernel
theorem d_Mo_add0_17 : decode b_Mo_add0 17 = .ok (.getfield 11, 3) := by decide +kernel
theorem d_Mo_add0_20 : decode b_Mo_add0 20 = .ok (.iload_n 2, 1) := by decide +kernel
theorem d_Mo_add0_21 : decode b_Mo_add0 21 = .ok (.aaload, 1) := by decide +kernel
theorem d_Mo_add0_22 : decode b_Mo_add0 22 = .ok (.invokevirtual 69, 3) := by decide +kernel
theorem d_Mo_add0_25 : decode b_Mo_add0 25 = .ok (.aload_n 0, 1) := by decide +kernel
theorem d_Mo_add0_26 : decode b_Mo_add0 26 = .ok (.getfield 18, 3) := by decide +kernel
theorem d_Mo_add0_29 : decode b_Mo_add0 29 = .ok (.aload_n 0, 1) := by decide +kernel
theorem d_Mo_add0_30 : decode b_Mo_add0 30 = .ok (.getfield 11, 3) := by decide +kernel
theorem d_Mo_add0_33 : decode b_Mo_add0 33 = .ok (.iload_n 3, 1) := by decide +kernel
theorem d_Mo_add0_34 : decode b_Mo_add0 34 = .ok (.aaload, 1) := by decide +kernel
theorem d_Mo_add0_35 : decode b_Mo_add0 35 = .ok (.invokevirtual 102, 3) := by decide +kernel
theorem d_Mo_add0_38 : decode b_Mo_add0 38 = .ok (.aload_n 0, 1) := by decide +kernel
theorem d_Mo_add0_39 : decode b_Mo_add0 39 = .ok (.getfield 18, 3) := by decide +kernel
theorem d_Mo_add0_42 : decode b_Mo_add0 42 = .ok (.invokevirtual 73, 3) := by decide +kernel
theorem d_Mo_add0_45 : decode b_Mo_add0 45 = .ok (.i2l, 1) := by decide +kernel
theorem d_Mo_add0_46 : decode b_Mo_add0 46 = .ok (.invokestatic 93, 3) := by decide +kernel
theorem d_Mo_add0_49 : decode b_Mo_add0 49 = .ok (.aload_n 0, 1) := by decide +kernel
theorem d_Mo_add0_50 : decode b_Mo_add0 50 = .ok (.iload_n 1, 1) := by decide +kernel
theorem d_Mo_add0_51 : decode b_Mo_add0 51 = .ok (.aload_n 0, 1) := by decide +kernel
theorem d_Mo_add0_52 : decode b_Mo_add0 52 = .ok (.getfield 18, 3) := by decide +kernel
theorem d_Mo_add0_55 : decode b_Mo_add0 55 = .ok (.invokevirtual 83, 3) := by decide +kernel
theorem d_Mo_add0_58 : decode b_Mo_add0 58 = .ok (.ireturn, 1) := by decide +kernel
theorem d_Mo_subtract_0 : decode b_Mo_subtract 0 = .ok (.aload_n 0, 1) := by decide +kernel
theorem d_Mo_subtract_1 : decode b_Mo_subtract 1 = .ok (.iconst 0, 1) := by decide +kernel
theorem d_Mo_subtract_2 : decode b_Mo_subtract 2 = .ok (.putfield 183, 3) := by decide +kernel
theorem d_Mo_subtract_5 : decode b_Mo_subtract 5 = .ok (.aload_n 0, 1) := by decide +kernel
theorem d_Mo_subtract_6 : decode b_Mo_subtract 6 = .ok (.iload_n 1, 1) := by decide +kernel
theorem d_Mo_subtract_7 : decode b_Mo_subtract 7 = .ok (.iload_n 2, 1) := by decide +kernel
theorem d_Mo_subtract_8 : decode b_Mo_subtract 8 = .ok (.iload_n 3, 1) := by decide +kernel
theorem d_Mo_subtract_9 : decode b_Mo_subtract 9 = .ok (.invokevirtual 200, 3) := by decide +kernel
theorem d_Mo_subtract_12 : decode b_Mo_subtract 12 = .ok (.ireturn, 1) := by decide +kernel
theorem d_Mo_subtract_13 : decode b_Mo_subtract 13 = .ok (.astore 4, 2) := by decide +kernel
theorem d_Mo_subtract_15 : decode b_Mo_subtract 15 = .ok (.aload_n 0, 1) := by decide +kernel
theorem d_Mo_subtract_16 : decode b_Mo_subtract 16 = .ok (.iconst 1, 1) := by decide +kernel
theorem d_Mo_subtract_17 : decode b_Mo_subtract 17 = .ok (.putfield 183, 3) := by decide +kernel
theorem d_Mo_subtract_20 : decode b_Mo_subtract 20 = .ok (.goto 10, 3) := by decide +kernel
theorem d_Mo_subtract_23 : decode b_Mo_subtract 23 = .ok (.astore 4, 2) := by decide +kernel
theorem d_Mo_subtract_25 : decode b_Mo_subtract 25 = .ok (.aload_n 0, 1) := by decide +kernel
theorem d_Mo_subtract_26 : decode b_Mo_subtract 26 = .ok (.iconst 2, 1) := by decide +kernel
theorem d_Mo_subtract_27 : decode b_Mo_subtract 27 = .ok (.putfield 183, 3) := by decide +kernel
theorem d_Mo_subtract_30 : decode b_Mo_subtract 30 = .ok (.iconst 0, 1) := by decide +kernel
theorem d_Mo_subtract_31 : decode b_Mo_subtract 31 = .ok (.ireturn, 1) := by decide +kernel
theorem d_Mo_subtract0_0 : decode b_Mo_subtract0 0 = .ok (.iload_n 1, 1) := by decide +kernel
theorem d_Mo_subtract0_1 : decode b_Mo_subtract0 1 = .ok (.invokestatic 77, 3) := by decide +kernel
theorem d_Mo_subtract0_4 : decode b_Mo_subtract0 4 = .ok (.iload_n 2, 1) := by decide +kernel
theorem d_Mo_subtract0_5 : decode b_Mo_subtract0 5 = .ok (.invokestatic 77, 3) := by decide +kernel
theorem d_Mo_subtract0_8 : decode b_Mo_subtract0 8 = .ok (.iload_n 3, 1) := by decide +kernel
theorem d_Mo_subtract0_9 : decode b_Mo_subtract0 9 = .ok (.invokestatic 77, 3) := by decide +kernel
theorem d_Mo_subtract0_12 : decode b_Mo_subtract0 12 = .ok (.aload_n 0, 1) := by decide +kernel
theorem d_Mo_subtract0_13 : decode b_Mo_subtract0 13 = .ok (.getfield 11, 3) := by decide +kernel
theorem d_Mo_subtract0_16 : decode b_Mo_subtract0 16 = .ok (.iload_n 2, 1) := by decide +kernel
theorem d_Mo_subtract0_17 : decode b_Mo_subtract0 17 = .ok (.aaload, 1) := by decide +kernel
theorem d_Mo_subtract0_18 : decode b_Mo_subtract0 18 = .ok (.aload_n 0, 1) := by decide +kernel
theorem d_Mo_subtract0_19 : decode b_Mo_subtract0 19 = .ok (.getfield 11, 3) := by decide +kernel
theorem d_Mo_subtract0_22 : decode b_Mo_subtract0 22 = .ok (.iload_n 3, 1) := by decide +kernel
theorem d_Mo_subtract0_23 : decode b_Mo_subtract0 23 = .ok (.aaload, 1) := by decide +kernel
theorem d_Mo_subtract0_24 : decode b_Mo_subtract0 24 = .ok (.invokevirtual 105, 3) := by decide +kernel
theorem d_Mo_subtract0_27 : decode b_Mo_subtract0 27 = .ok (.ifCond .ge 11, 3) := by decide +kernel
theorem d_Mo_subtract0_30 : decode b_Mo_subtract0 30 = .ok (.new 109, 3) := by decide +kernel
theorem d_Mo_subtract0_33 : decode b_Mo_subtract0 33 = .ok (.dup, 1) := by decide +kernel
theorem d_Mo_subtract0_34 : decode b_Mo_subtract0 34 = .ok (.invokespecial 111, 3) := by decide +kernel
theorem d_Mo_subtract0_37 : decode b_Mo_subtract0 37 = .ok (.athrow, 1) := by decide +kernel
theorem d_Mo_subtract0_38 : decode b_Mo_subtract0 38 = .ok (.aload_n 0, 1) := by decide +kernel
theorem d_Mo_subtract0_39 : decode b_Mo_subtract0 39 = .ok (.getfield 18, 3) := by decide +kernel
theorem d_Mo_subtract0_42 : decode b_Mo_subtract0 42 = .ok (.aload_n 0, 1) := by decide +kernel
theorem d_Mo_subtract0_43 : decode b_Mo_subtract0 43 = .ok (.getfield 11, 3) := by decide +kernel
theorem d_Mo_subtract0_46 : decode b_Mo_subtract0 46 = .ok (.iload_n 2, 1) := by decide +kernel
theorem d_Mo_subtract0_47 : decode b_Mo_subtract0 47 = .ok (.aaload, 1) := by decide +kernel
theorem d_Mo_subtract0_48 : decode b_Mo_subtract0 48 = .ok (.invokevirtual 69, 3) := by decide +kernel
theorem d_Mo_subtract0_51 : decode b_Mo_subtract0 51 = .ok (.aload_n 0, 1) := by decide +kernel
theorem d_Mo_subtract0_52 : decode b_Mo_subtract0 52 = .ok (.getfield 18, 3) := by decide +kernel
theorem d_Mo_subtract0_55 : decode b_Mo_subtract0 55 = .ok (.aload_n 0, 1) := by decide +kernel
theorem d_Mo_subtract0_56 : decode b_Mo_subtract0 56 = .ok (.getfield 11, 3) := by decide +kernel
theorem d_Mo_subtract0_59 : decode b_Mo_subtract0 59 = .ok (.iload_n 3, 1) := by decide +kernel
theorem d_Mo_subtract0_60 : decode b_Mo_subtract0 60 = .ok (.aaload, 1) := by decide +kernel
theorem d_Mo_subtract0_61 : decode b_Mo_subtract0 61 = .ok (.invokevirtual 112, 3) := by decide +kernel
theorem d_Mo_subtract0_64 : decode b_Mo_subtract0 64 = .ok (.aload_n 0, 1) := by decide +kernel
theorem d_Mo_subtract0_65 : decode b_Mo_subtract0 65 = .ok (.iload_n 1, 1) := by decide +kernel
theorem d_Mo_subtract0_66 : decode b_Mo_subtract0 66 = .ok (.aload_n 0, 1) := by decide +kernel
theorem d_Mo_subtract0_67 : decode b_Mo_subtract0 67 = .ok (.getfield 18, 3) := by decide +kernel
theorem d_Mo_subtract0_70 : decode b_Mo_subtract0 70 = .ok (.invokevirtual 83, 3) := by decide +kernel
theorem d_Mo_subtract0_73 : decode b_Mo_subtract0 73 = .ok (.ireturn, 1) := by decide +kernel
theorem d_Mo_times_0 : decode b_Mo_times 0 = .ok (.aload_n 0, 1) := by decide +kernel
theorem d_Mo_times_1 : decode b_Mo_times 1 = .ok (.iconst 0, 1) := by decide +kernel
theorem d_Mo_times_2 : decode b_Mo_times 2 = .ok (.putfield 183, 3) := by decide +kernel
theorem d_Mo_times_5 : decode b_Mo_times 5 = .ok (.aload_n 0, 1) := by decide +kernel
theorem d_Mo_times_6 : decode b_Mo_times 6 = .ok (.iload_n 1, 1) := by decide +kernel
theorem d_Mo_times_7 : decode b_Mo_times 7 = .ok (.iload_n 2, 1) := by decide +kernel
theorem d_Mo_times_8 : decode b_Mo_times 8 = .ok (.iload_n 3, 1) := by decide +kernel
theorem d_Mo_times_9 : decode b_Mo_times 9 = .ok (.invokevirtual 203, 3) := by decide +kernel
theorem d_Mo_times_12 : decode b_Mo_times 12 = .ok (.ireturn, 1) := by decide +kernel
theorem d_Mo_times_13 : decode b_Mo_times 13 = .ok (.astore 4, 2) := by decide +kernel
theorem d_Mo_times_15 : decode b_Mo_times 15 = .ok (.aload_n 0, 1) := by decide +kernel
theorem d_Mo_times_16 : decode b_Mo_times 16 = .ok (.iconst 1, 1) := by decide +kernel
theorem d_Mo_times_17 : decode b_Mo_times 17 = .ok (.putfield 183, 3) := by decide +kernel
theorem d_Mo_times_20 : decode b_Mo_times 20 = .ok (.goto 10, 3) := by decide +kernel
theorem d_Mo_times_23 : decode b_Mo_times 23 = .ok (.astore 4, 2) := by decide +kernel
theorem d_Mo_times_25 : decode b_Mo_times 25 = .ok (.aload_n 0, 1) := by decide +kernel
theorem d_Mo_times_26 : decode b_Mo_times 26 = .ok (.iconst 2, 1) := by decide +kernel
theorem d_Mo_times_27 : decode b_Mo_times 27 = .ok (.putfield 183, 3) := by decide +kernel
theorem d_Mo_times_30 : decode b_Mo_times 30 = .ok (.iconst 0, 1) := by decide +kernel
theorem d_Mo_times_31 : decode b_Mo_times 31 = .ok (.ireturn, 1) := by decide +kernel
theorem d_Mo_times0_0 : decode b_Mo_times0 0 = .ok (.iload_n 1, 1) := by decide +kernel
theorem d_Mo_times0_1 : decode b_Mo_times0 1 = .ok (.invokestatic 77, 3) := by decide +kernel
theorem d_Mo_times0_4 : decode b_Mo_times0 4 = .ok (.iload_n 2, 1) := by decide +kernel
theorem d_Mo_times0_5 : decode b_Mo_times0 5 = .ok (.invokestatic 77, 3) := by decide +kernel
theorem d_Mo_times0_8 : decode b_Mo_times0 8 = .ok (.iload_n 3, 1) := by decide +kernel
theorem d_Mo_times0_9 : decode b_Mo_times0 9 = .ok (.invokestatic 77, 3) := by decide +kernel
theorem d_Mo_times0_12 : decode b_Mo_times0 12 = .ok (.aload_n 0, 1) := by decide +kernel
theorem d_Mo_times0_13 : decode b_Mo_times0 13 = .ok (.getfield 11, 3) := by decide +kernel
theorem d_Mo_times0_16 : decode b_Mo_times0 16 = .ok (.iload_n 2, 1) := by decide +kernel
theorem d_Mo_times0_17 : decode b_Mo_times0 17 = .ok (.aaload, 1) := by decide +kernel
theorem d_Mo_times0_18 : decode b_Mo_times0 18 = .ok (.invokevirtual 73, 3) := by decide +kernel
theorem d_Mo_times0_21 : decode b_Mo_times0 21 = .ok (.aload_n 0, 1) := by decide +kernel
theorem d_Mo_times0_22 : decode b_Mo_times0 22 = .ok (.getfield 11, 3) := by decide +kernel
theorem d_Mo_times0_25 : decode b_Mo_times0 25 = .ok (.iload_n 3, 1) := by decide +kernel
theorem d_Mo_times0_26 : decode b_Mo_times0 26 = .ok (.aaload, 1) := by decide +kernel
theorem d_Mo_times0_27 : decode b_Mo_times0 27 = .ok (.invokevirtual 73, 3) := by decide +kernel
theorem d_Mo_times0_30 : decode b_Mo_times0 30 = .ok (.iadd, 1) := by decide +kernel
theorem d_Mo_times0_31 : decode b_Mo_times0 31 = .ok (.i2l, 1) := by decide +kernel
theorem d_Mo_times0_32 : decode b_Mo_times0 32 = .ok (.invokestatic 93, 3) := by decide +kernel
theorem d_Mo_times0_35 : decode b_Mo_times0 35 = .ok (.aload_n 0, 1) := by decide +kernel
theorem d_Mo_times0_36 : decode b_Mo_times0 36 = .ok (.getfield 18, 3) := by decide +kernel
theorem d_Mo_times0_39 : decode b_Mo_times0 39 = .ok (.aload_n 0, 1) := by decide +kernel
theorem d_Mo_times0_40 : decode b_Mo_times0 40 = .ok (.getfield 11, 3) := by decide +kernel
theorem d_Mo_times0_43 : decode b_Mo_times0 43 = .ok (.iload_n 2, 1) := by decide +kernel
theorem d_Mo_times0_44 : decode b_Mo_times0 44 = .ok (.aaload, 1) := by decide +kernel
theorem d_Mo_times0_45 : decode b_Mo_times0 45 = .ok (.aload_n 0, 1) := by decide +kernel
theorem d_Mo_times0_46 : decode b_Mo_times0 46 = .ok (.getfield 11, 3) := by decide +kernel
theorem d_Mo_times0_49 : decode b_Mo_times0 49 = .ok (.iload_n 3, 1) := by decide +kernel
theorem d_Mo_times0_50 : decode b_Mo_times0 50 = .ok (.aaload, 1) := by decide +kernel
theorem d_Mo_times0_51 : decode b_Mo_times0 51 = .ok (.invokevirtual 115, 3) := by decide +kernel
theorem d_Mo_times0_54 : decode b_Mo_times0 54 = .ok (.aload_n 0, 1) := by decide +kernel
theorem d_Mo_times0_55 : decode b_Mo_times0 55 = .ok (.iload_n 1, 1) := by decide +kernel
theorem d_Mo_times0_56 : decode b_Mo_times0 56 = .ok (.aload_n 0, 1) := by decide +kernel
theorem d_Mo_times0_57 : decode b_Mo_times0 57 = .ok (.getfield 18, 3) := by decide +kernel
theorem d_Mo_times0_60 : decode b_Mo_times0 60 = .ok (.invokevirtual 83, 3) := by decide +kernel
theorem d_Mo_times0_63 : decode b_Mo_times0 63 = .ok (.ireturn, 1) := by decide +kernel
theorem d_Mo_divide_IIII_0 : decode b_Mo_divide_IIII 0 = .ok (.aload_n 0, 1) := by decide +kernel
theorem d_Mo_divide_IIII_1 : decode b_Mo_divide_IIII 1 = .ok (.iconst 0, 1) := by decide +kernel
theorem d_Mo_divide_IIII_2 : decode b_Mo_divide_IIII 2 = .ok (.putfield 183, 3) := by decide +kernel
theorem d_Mo_divide_IIII_5 : decode b_Mo_divide_IIII 5 = .ok (.aload_n 0, 1) := by decide +kernel
theorem d_Mo_divide_IIII_6 : decode b_Mo_divide_IIII 6 = .ok (.iload_n 1, 1) := by decide +kernel
theorem d_Mo_divide_IIII_7 : decode b_Mo_divide_IIII 7 = .ok (.iload_n 2, 1) := by decide +kernel
theorem d_Mo_divide_IIII_8 : decode b_Mo_divide_IIII 8 = .ok (.iload_n 3, 1) := by decide +kernel
theorem d_Mo_divide_IIII_9 : decode b_Mo_divide_IIII 9 = .ok (.iload 4, 2) := by decide +kernel
theorem d_Mo_divide_IIII_11 : decode b_Mo_divide_IIII 11 = .ok (.invokevirtual 206, 3) := by decide +kernel
theorem d_Mo_divide_IIII_14 : decode b_Mo_divide_IIII 14 = .ok (.ireturn, 1) := by decide +kernel
theorem d_Mo_divide_IIII_15 : decode b_Mo_divide_IIII 15 = .ok (.astore 5, 2) := by decide +kernel
theorem d_Mo_divide_IIII_17 : decode b_Mo_divide_IIII 17 = .ok (.aload_n 0, 1) := by decide +kernel
theorem d_Mo_divide_IIII_18 : decode b_Mo_divide_IIII 18 = .ok (.iconst 1, 1) := by decide +kernel
theorem d_Mo_divide_IIII_19 : decode b_Mo_divide_IIII 19 = .ok (.putfield 183, 3) := by decide +kernel
theorem d_Mo_divide_IIII_22 : decode b_Mo_divide_IIII 22 = .ok (.goto 10, 3) := by decide +kernel
theorem d_Mo_divide_IIII_25 : decode b_Mo_divide_IIII 25 = .ok (.astore 5, 2) := by decide +kernel
theorem d_Mo_divide_IIII_27 : decode b_Mo_divide_IIII 27 = .ok (.aload_n 0, 1) := by decide +kernel
theorem d_Mo_divide_IIII_28 : decode b_Mo_divide_IIII 28 = .ok (.iconst 2, 1) := by decide +kernel
theorem d_Mo_divide_IIII_29 : decode b_Mo_divide_IIII 29 = .ok (.putfield 183, 3) := by decide +kernel
theorem d_Mo_divide_IIII_32 : decode b_Mo_divide_IIII 32 = .ok (.iconst 0, 1) := by decide +kernel
theorem d_Mo_divide_IIII_33 : decode b_Mo_divide_IIII 33 = .ok (.ireturn, 1) := by decide +kernel
theorem d_Mo_divide0_0 : decode b_Mo_divide0 0 = .ok (.iload_n 1, 1) := by decide +kernel
theorem d_Mo_divide0_1 : decode b_Mo_divide0 1 = .ok (.invokestatic 77, 3) := by decide +kernel
theorem d_Mo_divide0_4 : decode b_Mo_divide0 4 = .ok (.iload_n 2, 1) := by decide +kernel
theorem d_Mo_divide0_5 : decode b_Mo_divide0 5 = .ok (.invokestatic 77, 3) := by decide +kernel
theorem d_Mo_divide0_8 : decode b_Mo_divide0 8 = .ok (.iload_n 3, 1) := by decide +kernel
theorem d_Mo_divide0_9 : decode b_Mo_divide0 9 = .ok (.invokestatic 77, 3) := by decide +kernel
theorem d_Mo_divide0_12 : decode b_Mo_divide0 12 = .ok (.iload 4, 2) := by decide +kernel
theorem d_Mo_divide0_14 : decode b_Mo_divide0 14 = .ok (.invokestatic 77, 3) := by decide +kernel
theorem d_Mo_divide0_17 : decode b_Mo_divide0 17 = .ok (.aload_n 0, 1) := by decide +kernel
theorem d_Mo_divide0_18 : decode b_Mo_divide0 18 = .ok (.getfield 11, 3) := by decide +kernel
theorem d_Mo_divide0_21 : decode b_Mo_divide0 21 = .ok (.iload 4, 2) := by decide +kernel
theorem d_Mo_divide0_23 : decode b_Mo_divide0 23 = .ok (.aaload, 1) := by decide +kernel
theorem d_Mo_divide0_24 : decode b_Mo_divide0 24 = .ok (.getfield 89, 3) := by decide +kernel
theorem d_Mo_divide0_27 : decode b_Mo_divide0 27 = .ok (.ifCond .ne 11, 3) := by decide +kernel
theorem d_Mo_divide0_30 : decode b_Mo_divide0 30 = .ok (.new 109, 3) := by decide +kernel
theorem d_Mo_divide0_33 : decode b_Mo_divide0 33 = .ok (.dup, 1) := by decide +kernel
theorem d_Mo_divide0_34 : decode b_Mo_divide0 34 = .ok (.invokespecial 111, 3) := by decide +kernel
theorem d_Mo_divide0_37 : decode b_Mo_divide0 37 = .ok (.athrow, 1) := by decide +kernel
theorem d_Mo_divide0_38 : decode b_Mo_divide0 38 = .ok (.aload_n 0, 1) := by decide +kernel
theorem d_Mo_divide0_39 : decode b_Mo_divide0 39 = .ok (.getfield 22, 3) := by decide +kernel
theorem d_Mo_divide0_42 : decode b_Mo_divide0 42 = .ok (.aload_n 0, 1) := by decide +kernel
theorem d_Mo_divide0_43 : decode b_Mo_divide0 43 = .ok (.getfield 11, 3) := by decide +kernel
theorem d_Mo_divide0_46 : decode b_Mo_divide0 46 = .ok (.iload_n 3, 1) := by decide +kernel
theorem d_Mo_divide0_47 : decode b_Mo_divide0 47 = .ok (.aaload, 1) := by decide +kernel
theorem d_Mo_divide0_48 : decode b_Mo_divide0 48 = .ok (.invokevirtual 69, 3) := by decide +kernel
theorem d_Mo_divide0_51 : decode b_Mo_divide0 51 = .ok (.aload_n 0, 1) := by decide +kernel
theorem d_Mo_divide0_52 : decode b_Mo_divide0 52 = .ok (.getfield 34, 3) := by decide +kernel
theorem d_Mo_divide0_55 : decode b_Mo_divide0 55 = .ok (.aload_n 0, 1) := by decide +kernel
theorem d_Mo_divide0_56 : decode b_Mo_divide0 56 = .ok (.getfield 11, 3) := by decide +kernel
theorem d_Mo_divide0_59 : decode b_Mo_divide0 59 = .ok (.iload 4, 2) := by decide +kernel
theorem d_Mo_divide0_61 : decode b_Mo_divide0 61 = .ok (.aaload, 1) := by decide +kernel
theorem d_Mo_divide0_62 : decode b_Mo_divide0 62 = .ok (.invokevirtual 69, 3) := by decide +kernel
theorem d_Mo_divide0_65 : decode b_Mo_divide0 65 = .ok (.aload_n 0, 1) := by decide +kernel
theorem d_Mo_divide0_66 : decode b_Mo_divide0 66 = .ok (.aload_n 0, 1) := by decide +kernel
theorem d_Mo_divide0_67 : decode b_Mo_divide0 67 = .ok (.getfield 22, 3) := by decide +kernel
theorem d_Mo_divide0_70 : decode b_Mo_divide0 70 = .ok (.aload_n 0, 1) := by decide +kernel
theorem d_Mo_divide0_71 : decode b_Mo_divide0 71 = .ok (.getfield 34, 3) := by decide +kernel
theorem d_Mo_divide0_74 : decode b_Mo_divide0 74 = .ok (.aload_n 0, 1) := by decide +kernel
theorem d_Mo_divide0_75 : decode b_Mo_divide0 75 = .ok (.getfield 18, 3) := by decide +kernel
theorem d_Mo_divide0_78 : decode b_Mo_divide0 78 = .ok (.invokevirtual 133, 3) := by decide +kernel
theorem d_Mo_divide0_81 : decode b_Mo_divide0 81 = .ok (.aload_n 0, 1) := by decide +kernel
theorem d_Mo_divide0_82 : decode b_Mo_divide0 82 = .ok (.iload_n 1, 1) := by decide +kernel
theorem d_Mo_divide0_83 : decode b_Mo_divide0 83 = .ok (.aload_n 0, 1) := by decide +kernel
theorem d_Mo_divide0_84 : decode b_Mo_divide0 84 = .ok (.getfield 18, 3) := by decide +kernel
theorem d_Mo_divide0_87 : decode b_Mo_divide0 87 = .ok (.invokevirtual 83, 3) := by decide +kernel
theorem d_Mo_divide0_90 : decode b_Mo_divide0 90 = .ok (.istore 5, 2) := by decide +kernel
theorem d_Mo_divide0_92 : decode b_Mo_divide0 92 = .ok (.aload_n 0, 1) := by decide +kernel
theorem d_Mo_divide0_93 : decode b_Mo_divide0 93 = .ok (.getfield 11, 3) := by decide +kernel
theorem d_Mo_divide0_96 : decode b_Mo_divide0 96 = .ok (.iload_n 2, 1) := by decide +kernel
theorem d_Mo_divide0_97 : decode b_Mo_divide0 97 = .ok (.aaload, 1) := by decide +kernel
theorem d_Mo_divide0_98 : decode b_Mo_divide0 98 = .ok (.aload_n 0, 1) := by decide +kernel
theorem d_Mo_divide0_99 : decode b_Mo_divide0 99 = .ok (.getfield 28, 3) := by decide +kernel
theorem d_Mo_divide0_102 : decode b_Mo_divide0 102 = .ok (.invokevirtual 69, 3) := by decide +kernel
theorem d_Mo_divide0_105 : decode b_Mo_divide0 105 = .ok (.iload 5, 2) := by decide +kernel
theorem d_Mo_divide0_107 : decode b_Mo_divide0 107 = .ok (.ireturn, 1) := by decide +kernel
theorem d_Mo_divide_NNN_0 : decode b_Mo_divide_NNN 0 = .ok (.iconst 0, 1) := by decide +kernel
theorem d_Mo_divide_NNN_1 : decode b_Mo_divide_NNN 1 = .ok (.istore 4, 2) := by decide +kernel
theorem d_Mo_divide_NNN_3 : decode b_Mo_divide_NNN 3 = .ok (.aload_n 2, 1) := by decide +kernel
theorem d_Mo_divide_NNN_4 : decode b_Mo_divide_NNN 4 = .ok (.getfield 118, 3) := by decide +kernel
theorem d_Mo_divide_NNN_7 : decode b_Mo_divide_NNN 7 = .ok (.aload_n 2, 1) := by decide +kernel
theorem d_Mo_divide_NNN_8 : decode b_Mo_divide_NNN 8 = .ok (.getfield 89, 3) := by decide +kernel
theorem d_Mo_divide_NNN_11 : decode b_Mo_divide_NNN 11 = .ok (.iconst 1, 1) := by decide +kernel
theorem d_Mo_divide_NNN_12 : decode b_Mo_divide_NNN 12 = .ok (.isub, 1) := by decide +kernel
theorem d_Mo_divide_NNN_13 : decode b_Mo_divide_NNN 13 = .ok (.iaload, 1) := by decide +kernel
theorem d_Mo_divide_NNN_14 : decode b_Mo_divide_NNN 14 = .ok (.iload 4, 2) := by decide +kernel
theorem d_Mo_divide_NNN_16 : decode b_Mo_divide_NNN 16 = .ok (.ishl, 1) := by decide +kernel
theorem d_Mo_divide_NNN_17 : decode b_Mo_divide_NNN 17 = .ok (.ldc 122, 2) := by decide +kernel
theorem d_Mo_divide_NNN_19 : decode b_Mo_divide_NNN 19 = .ok (.iand, 1) := by decide +kernel
theorem d_Mo_divide_NNN_20 : decode b_Mo_divide_NNN 20 = .ok (.ifCond .ne 9, 3) := by decide +kernel
theorem d_Mo_divide_NNN_23 : decode b_Mo_divide_NNN 23 = .ok (.iinc 4 1, 3) := by decide +kernel
theorem d_Mo_divide_NNN_26 : decode b_Mo_divide_NNN 26 = .ok (.goto (-23), 3) := by decide +kernel
theorem d_Mo_divide_NNN_29 : decode b_Mo_divide_NNN 29 = .ok (.aload_n 0, 1) := by decide +kernel
theorem d_Mo_divide_NNN_30 : decode b_Mo_divide_NNN 30 = .ok (.getfield 31, 3) := by decide +kernel
theorem d_Mo_divide_NNN_33 : decode b_Mo_divide_NNN 33 = .ok (.aload_n 2, 1) := by decide +kernel
theorem d_Mo_divide_NNN_34 : decode b_Mo_divide_NNN 34 = .ok (.invokevirtual 69, 3) := by decide +kernel
theorem d_Mo_divide_NNN_37 : decode b_Mo_divide_NNN 37 = .ok (.aload_n 0, 1) := by decide +kernel
theorem d_Mo_divide_NNN_38 : decode b_Mo_divide_NNN 38 = .ok (.getfield 31, 3) := by decide +kernel
theorem d_Mo_divide_NNN_41 : decode b_Mo_divide_NNN 41 = .ok (.iload 4, 2) := by decide +kernel
theorem d_Mo_divide_NNN_43 : decode b_Mo_divide_NNN 43 = .ok (.invokevirtual 96, 3) := by decide +kernel
theorem d_Mo_divide_NNN_46 : decode b_Mo_divide_NNN 46 = .ok (.aload_n 0, 1) := by decide +kernel
theorem d_Mo_divide_NNN_47 : decode b_Mo_divide_NNN 47 = .ok (.getfield 28, 3) := by decide +kernel
theorem d_Mo_divide_NNN_50 : decode b_Mo_divide_NNN 50 = .ok (.aload_n 1, 1) := by decide +kernel
theorem d_Mo_divide_NNN_51 : decode b_Mo_divide_NNN 51 = .ok (.invokevirtual 69, 3) := by decide +kernel
theorem d_Mo_divide_NNN_54 : decode b_Mo_divide_NNN 54 = .ok (.aload_n 0, 1) := by decide +kernel
theorem d_Mo_divide_NNN_55 : decode b_Mo_divide_NNN 55 = .ok (.getfield 28, 3) := by decide +kernel
theorem d_Mo_divide_NNN_58 : decode b_Mo_divide_NNN 58 = .ok (.iload 4, 2) := by decide +kernel
theorem d_Mo_divide_NNN_60 : decode b_Mo_divide_NNN 60 = .ok (.invokevirtual 96, 3) := by decide +kernel
theorem d_Mo_divide_NNN_63 : decode b_Mo_divide_NNN 63 = .ok (.aload_n 0, 1) := by decide +kernel
theorem d_Mo_divide_NNN_64 : decode b_Mo_divide_NNN 64 = .ok (.getfield 31, 3) := by decide +kernel
theorem d_Mo_divide_NNN_67 : decode b_Mo_divide_NNN 67 = .ok (.getfield 89, 3) := by decide +kernel
theorem d_Mo_divide_NNN_70 : decode b_Mo_divide_NNN 70 = .ok (.istore 5, 2) := by decide +kernel
theorem d_Mo_divide_NNN_72 : decode b_Mo_divide_NNN 72 = .ok (.aload_n 0, 1) := by decide +kernel
theorem d_Mo_divide_NNN_73 : decode b_Mo_divide_NNN 73 = .ok (.getfield 28, 3) := by decide +kernel
theorem d_Mo_divide_NNN_76 : decode b_Mo_divide_NNN 76 = .ok (.getfield 89, 3) := by decide +kernel
theorem d_Mo_divide_NNN_79 : decode b_Mo_divide_NNN 79 = .ok (.iload 5, 2) := by decide +kernel
theorem d_Mo_divide_NNN_81 : decode b_Mo_divide_NNN 81 = .ok (.isub, 1) := by decide +kernel
theorem d_Mo_divide_NNN_82 : decode b_Mo_divide_NNN 82 = .ok (.istore 6, 2) := by decide +kernel
theorem d_Mo_divide_NNN_84 : decode b_Mo_divide_NNN 84 = .ok (.iload 6, 2) := by decide +kernel
theorem d_Mo_divide_NNN_86 : decode b_Mo_divide_NNN 86 = .ok (.ifCond .ge 18, 3) := by decide +kernel
theorem d_Mo_divide_NNN_89 : decode b_Mo_divide_NNN 89 = .ok (.aload_n 3, 1) := by decide +kernel
theorem d_Mo_divide_NNN_90 : decode b_Mo_divide_NNN 90 = .ok (.lconst 0, 1) := by decide +kernel
theorem d_Mo_divide_NNN_91 : decode b_Mo_divide_NNN 91 = .ok (.invokevirtual 80, 3) := by decide +kernel
theorem d_Mo_divide_NNN_94 : decode b_Mo_divide_NNN 94 = .ok (.aload_n 0, 1) := by decide +kernel
theorem d_Mo_divide_NNN_95 : decode b_Mo_divide_NNN 95 = .ok (.getfield 28, 3) := by decide +kernel
theorem d_Mo_divide_NNN_98 : decode b_Mo_divide_NNN 98 = .ok (.iload 4, 2) := by decide +kernel
theorem d_Mo_divide_NNN_100 : decode b_Mo_divide_NNN 100 = .ok (.invokevirtual 99, 3) := by decide +kernel
theorem d_Mo_divide_NNN_103 : decode b_Mo_divide_NNN 103 = .ok (.return_, 1) := by decide +kernel
theorem d_Mo_divide_NNN_104 : decode b_Mo_divide_NNN 104 = .ok (.aload_n 0, 1) := by decide +kernel
theorem d_Mo_divide_NNN_105 : decode b_Mo_divide_NNN 105 = .ok (.getfield 28, 3) := by decide +kernel
theorem d_Mo_divide_NNN_108 : decode b_Mo_divide_NNN 108 = .ok (.getfield 118, 3) := by decide +kernel
theorem d_Mo_divide_NNN_111 : decode b_Mo_divide_NNN 111 = .ok (.aload_n 0, 1) := by decide +kernel
theorem d_Mo_divide_NNN_112 : decode b_Mo_divide_NNN 112 = .ok (.getfield 28, 3) := by decide +kernel
theorem d_Mo_divide_NNN_115 : decode b_Mo_divide_NNN 115 = .ok (.getfield 89, 3) := by decide +kernel
theorem d_Mo_divide_NNN_118 : decode b_Mo_divide_NNN 118 = .ok (.iconst 0, 1) := by decide +kernel
theorem d_Mo_divide_NNN_119 : decode b_Mo_divide_NNN 119 = .ok (.iastore, 1) := by decide +kernel
theorem d_Mo_divide_NNN_120 : decode b_Mo_divide_NNN 120 = .ok (.iconst 0, 1) := by decide +kernel
theorem d_Mo_divide_NNN_121 : decode b_Mo_divide_NNN 121 = .ok (.istore 7, 2) := by decide +kernel
theorem d_Mo_divide_NNN_123 : decode b_Mo_divide_NNN 123 = .ok (.iload 7, 2) := by decide +kernel
theorem d_Mo_divide_NNN_125 : decode b_Mo_divide_NNN 125 = .ok (.iload 6, 2) := by decide +kernel
theorem d_Mo_divide_NNN_127 : decode b_Mo_divide_NNN 127 = .ok (.if_icmp .gt 17, 3) := by decide +kernel
theorem d_Mo_divide_NNN_130 : decode b_Mo_divide_NNN 130 = .ok (.aload_n 3, 1) := by decide +kernel
theorem d_Mo_divide_NNN_131 : decode b_Mo_divide_NNN 131 = .ok (.getfield 118, 3) := by decide +kernel
theorem d_Mo_divide_NNN_134 : decode b_Mo_divide_NNN 134 = .ok (.iload 7, 2) := by decide +kernel
theorem d_Mo_divide_NNN_136 : decode b_Mo_divide_NNN 136 = .ok (.iconst 0, 1) := by decide +kernel
theorem d_Mo_divide_NNN_137 : decode b_Mo_divide_NNN 137 = .ok (.iastore, 1) := by decide +kernel
theorem d_Mo_divide_NNN_138 : decode b_Mo_divide_NNN 138 = .ok (.iinc 7 1, 3) := by decide +kernel
theorem d_Mo_divide_NNN_141 : decode b_Mo_divide_NNN 141 = .ok (.goto (-18), 3) := by decide +kernel
theorem d_Mo_divide_NNN_144 : decode b_Mo_divide_NNN 144 = .ok (.iload 6, 2) := by decide +kernel
theorem d_Mo_divide_NNN_146 : decode b_Mo_divide_NNN 146 = .ok (.istore 7, 2) := by decide +kernel
theorem d_Mo_divide_NNN_148 : decode b_Mo_divide_NNN 148 = .ok (.iload 7, 2) := by decide +kernel
theorem d_Mo_divide_NNN_150 : decode b_Mo_divide_NNN 150 = .ok (.ifCond .lt 116, 3) := by decide +kernel
theorem d_Mo_divide_NNN_153 : decode b_Mo_divide_NNN 153 = .ok (.aload_n 0, 1) := by decide +kernel
theorem d_Mo_divide_NNN_154 : decode b_Mo_divide_NNN 154 = .ok (.getfield 28, 3) := by decide +kernel
theorem d_Mo_divide_NNN_157 : decode b_Mo_divide_NNN 157 = .ok (.getfield 118, 3) := by decide +kernel
theorem d_Mo_divide_NNN_160 : decode b_Mo_divide_NNN 160 = .ok (.iload 7, 2) := by decide +kernel
theorem d_Mo_divide_NNN_162 : decode b_Mo_divide_NNN 162 = .ok (.iload 5, 2) := by decide +kernel
theorem d_Mo_divide_NNN_164 : decode b_Mo_divide_NNN 164 = .ok (.iadd, 1) := by decide +kernel
theorem d_Mo_divide_NNN_165 : decode b_Mo_divide_NNN 165 = .ok (.iaload, 1) := by decide +kernel
theorem d_Mo_divide_NNN_166 : decode b_Mo_divide_NNN 166 = .ok (.i2l, 1) := by decide +kernel
theorem d_Mo_divide_NNN_167 : decode b_Mo_divide_NNN 167 = .ok (.bipush 30, 2) := by decide +kernel
theorem d_Mo_divide_NNN_169 : decode b_Mo_divide_NNN 169 = .ok (.lshl, 1) := by decide +kernel
theorem d_Mo_divide_NNN_170 : decode b_Mo_divide_NNN 170 = .ok (.aload_n 0, 1) := by decide +kernel
theorem d_Mo_divide_NNN_171 : decode b_Mo_divide_NNN 171 = .ok (.getfield 28, 3) := by decide +kernel
theorem d_Mo_divide_NNN_174 : decode b_Mo_divide_NNN 174 = .ok (.getfield 118, 3) := by decide +kernel
theorem d_Mo_divide_NNN_177 : decode b_Mo_divide_NNN 177 = .ok (.iload 7, 2) := by decide +kernel
theorem d_Mo_divide_NNN_179 : decode b_Mo_divide_NNN 179 = .ok (.iload 5, 2) := by decide +kernel
theorem d_Mo_divide_NNN_181 : decode b_Mo_divide_NNN 181 = .ok (.iadd, 1) := by decide +kernel
theorem d_Mo_divide_NNN_182 : decode b_Mo_divide_NNN 182 = .ok (.iconst 1, 1) := by decide +kernel
theorem d_Mo_divide_NNN_183 : decode b_Mo_divide_NNN 183 = .ok (.isub, 1) := by decide +kernel
theorem d_Mo_divide_NNN_184 : decode b_Mo_divide_NNN 184 = .ok (.iaload, 1) := by decide +kernel
theorem d_Mo_divide_NNN_185 : decode b_Mo_divide_NNN 185 = .ok (.i2l, 1) := by decide +kernel
theorem d_Mo_divide_NNN_186 : decode b_Mo_divide_NNN 186 = .ok (.lor, 1) := by decide +kernel
theorem d_Mo_divide_NNN_187 : decode b_Mo_divide_NNN 187 = .ok (.lstore 8, 2) := by decide +kernel
theorem d_Mo_divide_NNN_189 : decode b_Mo_divide_NNN 189 = .ok (.lload 8, 2) := by decide +kernel
theorem d_Mo_divide_NNN_191 : decode b_Mo_divide_NNN 191 = .ok (.aload_n 0, 1) := by decide +kernel
theorem d_Mo_divide_NNN_192 : decode b_Mo_divide_NNN 192 = .ok (.getfield 31, 3) := by decide +kernel
theorem d_Mo_divide_NNN_195 : decode b_Mo_divide_NNN 195 = .ok (.getfield 118, 3) := by decide +kernel
theorem d_Mo_divide_NNN_198 : decode b_Mo_divide_NNN 198 = .ok (.iload 5, 2) := by decide +kernel
theorem d_Mo_divide_NNN_200 : decode b_Mo_divide_NNN 200 = .ok (.iconst 1, 1) := by decide +kernel
theorem d_Mo_divide_NNN_201 : decode b_Mo_divide_NNN 201 = .ok (.isub, 1) := by decide +kernel
theorem d_Mo_divide_NNN_202 : decode b_Mo_divide_NNN 202 = .ok (.iaload, 1) := by decide +kernel
theorem d_Mo_divide_NNN_203 : decode b_Mo_divide_NNN 203 = .ok (.i2l, 1) := by decide +kernel
theorem d_Mo_divide_NNN_204 : decode b_Mo_divide_NNN 204 = .ok (.ldiv, 1) := by decide +kernel
theorem d_Mo_divide_NNN_205 : decode b_Mo_divide_NNN 205 = .ok (.lstore 10, 2) := by decide +kernel
theorem d_Mo_divide_NNN_207 : decode b_Mo_divide_NNN 207 = .ok (.lload 10, 2) := by decide +kernel
theorem d_Mo_divide_NNN_209 : decode b_Mo_divide_NNN 209 = .ok (.ldc2_w 123, 3) := by decide +kernel
theorem d_Mo_divide_NNN_212 : decode b_Mo_divide_NNN 212 = .ok (.lcmp, 1) := by decide +kernel
theorem d_Mo_divide_NNN_213 : decode b_Mo_divide_NNN 213 = .ok (.ifCond .le 8, 3) := by decide +kernel
theorem d_Mo_divide_NNN_216 : decode b_Mo_divide_NNN 216 = .ok (.ldc2_w 123, 3) := by decide +kernel
theorem d_Mo_divide_NNN_219 : decode b_Mo_divide_NNN 219 = .ok (.lstore 10, 2) := by decide +kernel
theorem d_Mo_divide_NNN_221 : decode b_Mo_divide_NNN 221 = .ok (.lload 10, 2) := by decide +kernel
theorem d_Mo_divide_NNN_223 : decode b_Mo_divide_NNN 223 = .ok (.lconst 0, 1) := by decide +kernel
theorem d_Mo_divide_NNN_224 : decode b_Mo_divide_NNN 224 = .ok (.lcmp, 1) := by decide +kernel
theorem d_Mo_divide_NNN_225 : decode b_Mo_divide_NNN 225 = .ok (.ifCond .le 25, 3) := by decide +kernel
theorem d_Mo_divide_NNN_228 : decode b_Mo_divide_NNN 228 = .ok (.aload_n 0, 1) := by decide +kernel
theorem d_Mo_divide_NNN_229 : decode b_Mo_divide_NNN 229 = .ok (.lload 10, 2) := by decide +kernel
theorem d_Mo_divide_NNN_231 : decode b_Mo_divide_NNN 231 = .ok (.iload 7, 2) := by decide +kernel
theorem d_Mo_divide_NNN_233 : decode b_Mo_divide_NNN 233 = .ok (.iload 5, 2) := by decide +kernel
theorem d_Mo_divide_NNN_235 : decode b_Mo_divide_NNN 235 = .ok (.invokevirtual 125, 3) := by decide +kernel
theorem d_Mo_divide_NNN_238 : decode b_Mo_divide_NNN 238 = .ok (.ifCond .eq 12, 3) := by decide +kernel
theorem d_Mo_divide_NNN_241 : decode b_Mo_divide_NNN 241 = .ok (.lload 10, 2) := by decide +kernel
theorem d_Mo_divide_NNN_243 : decode b_Mo_divide_NNN 243 = .ok (.lconst 1, 1) := by decide +kernel
theorem d_Mo_divide_NNN_244 : decode b_Mo_divide_NNN 244 = .ok (.lsub, 1) := by decide +kernel
theorem d_Mo_divide_NNN_245 : decode b_Mo_divide_NNN 245 = .ok (.lstore 10, 2) := by decide +kernel
theorem d_Mo_divide_NNN_247 : decode b_Mo_divide_NNN 247 = .ok (.goto (-26), 3) := by decide +kernel
theorem d_Mo_divide_NNN_250 : decode b_Mo_divide_NNN 250 = .ok (.aload_n 3, 1) := by decide +kernel
theorem d_Mo_divide_NNN_251 : decode b_Mo_divide_NNN 251 = .ok (.getfield 118, 3) := by decide +kernel
theorem d_Mo_divide_NNN_254 : decode b_Mo_divide_NNN 254 = .ok (.iload 7, 2) := by decide +kernel
theorem d_Mo_divide_NNN_256 : decode b_Mo_divide_NNN 256 = .ok (.lload 10, 2) := by decide +kernel
theorem d_Mo_divide_NNN_258 : decode b_Mo_divide_NNN 258 = .ok (.l2i, 1) := by decide +kernel
theorem d_Mo_divide_NNN_259 : decode b_Mo_divide_NNN 259 = .ok (.iastore, 1) := by decide +kernel
theorem d_Mo_divide_NNN_260 : decode b_Mo_divide_NNN 260 = .ok (.iinc 7 (-1), 3) := by decide +kernel
theorem d_Mo_divide_NNN_263 : decode b_Mo_divide_NNN 263 = .ok (.goto (-115), 3) := by decide +kernel
theorem d_Mo_divide_NNN_266 : decode b_Mo_divide_NNN 266 = .ok (.aload_n 3, 1) := by decide +kernel
theorem d_Mo_divide_NNN_267 : decode b_Mo_divide_NNN 267 = .ok (.iload 6, 2) := by decide +kernel
theorem d_Mo_divide_NNN_269 : decode b_Mo_divide_NNN 269 = .ok (.iconst 1, 1) := by decide +kernel
theorem d_Mo_divide_NNN_270 : decode b_Mo_divide_NNN 270 = .ok (.iadd, 1) := by decide +kernel
theorem d_Mo_divide_NNN_271 : decode b_Mo_divide_NNN 271 = .ok (.putfield 89, 3) := by decide +kernel
theorem d_Mo_divide_NNN_274 : decode b_Mo_divide_NNN 274 = .ok (.aload_n 3, 1) := by decide +kernel
theorem d_Mo_divide_NNN_275 : decode b_Mo_divide_NNN 275 = .ok (.iload 6, 2) := by decide +kernel
theorem d_Mo_divide_NNN_277 : decode b_Mo_divide_NNN 277 = .ok (.iconst 1, 1) := by decide +kernel
theorem d_Mo_divide_NNN_278 : decode b_Mo_divide_NNN 278 = .ok (.iadd, 1) := by decide +kernel
theorem d_Mo_divide_NNN_279 : decode b_Mo_divide_NNN 279 = .ok (.invokevirtual 129, 3) := by decide +kernel
theorem d_Mo_divide_NNN_282 : decode b_Mo_divide_NNN 282 = .ok (.aload_n 0, 1) := by decide +kernel
theorem d_Mo_divide_NNN_283 : decode b_Mo_divide_NNN 283 = .ok (.getfield 28, 3) := by decide +kernel
theorem d_Mo_divide_NNN_286 : decode b_Mo_divide_NNN 286 = .ok (.iload 5, 2) := by decide +kernel
theorem d_Mo_divide_NNN_288 : decode b_Mo_divide_NNN 288 = .ok (.putfield 89, 3) := by decide +kernel
theorem d_Mo_divide_NNN_291 : decode b_Mo_divide_NNN 291 = .ok (.aload_n 0, 1) := by decide +kernel
theorem d_Mo_divide_NNN_292 : decode b_Mo_divide_NNN 292 = .ok (.getfield 28, 3) := by decide +kernel
theorem d_Mo_divide_NNN_295 : decode b_Mo_divide_NNN 295 = .ok (.iload 5, 2) := by decide +kernel
theorem d_Mo_divide_NNN_297 : decode b_Mo_divide_NNN 297 = .ok (.invokevirtual 129, 3) := by decide +kernel
theorem d_Mo_divide_NNN_300 : decode b_Mo_divide_NNN 300 = .ok (.aload_n 0, 1) := by decide +kernel
theorem d_Mo_divide_NNN_301 : decode b_Mo_divide_NNN 301 = .ok (.getfield 28, 3) := by decide +kernel
theorem d_Mo_divide_NNN_304 : decode b_Mo_divide_NNN 304 = .ok (.iload 4, 2) := by decide +kernel
theorem d_Mo_divide_NNN_306 : decode b_Mo_divide_NNN 306 = .ok (.invokevirtual 99, 3) := by decide +kernel
theorem d_Mo_divide_NNN_309 : decode b_Mo_divide_NNN 309 = .ok (.return_, 1) := by decide +kernel
theorem d_Mo_takesTooMuch_0 : decode b_Mo_takesTooMuch 0 = .ok (.lconst 0, 1) := by decide +kernel
theorem d_Mo_takesTooMuch_1 : decode b_Mo_takesTooMuch 1 = .ok (.lstore 5, 2) := by decide +kernel
theorem d_Mo_takesTooMuch_3 : decode b_Mo_takesTooMuch 3 = .ok (.iconst 0, 1) := by decide +kernel
theorem d_Mo_takesTooMuch_4 : decode b_Mo_takesTooMuch 4 = .ok (.istore 7, 2) := by decide +kernel
theorem d_Mo_takesTooMuch_6 : decode b_Mo_takesTooMuch 6 = .ok (.iload 7, 2) := by decide +kernel
theorem d_Mo_takesTooMuch_8 : decode b_Mo_takesTooMuch 8 = .ok (.iload 4, 2) := by decide +kernel
theorem d_Mo_takesTooMuch_10 : decode b_Mo_takesTooMuch 10 = .ok (.if_icmp .gt 78, 3) := by decide +kernel
theorem d_Mo_takesTooMuch_13 : decode b_Mo_takesTooMuch 13 = .ok (.aload_n 0, 1) := by decide +kernel
theorem d_Mo_takesTooMuch_14 : decode b_Mo_takesTooMuch 14 = .ok (.getfield 28, 3) := by decide +kernel
theorem d_Mo_takesTooMuch_17 : decode b_Mo_takesTooMuch 17 = .ok (.getfield 118, 3) := by decide +kernel
theorem d_Mo_takesTooMuch_20 : decode b_Mo_takesTooMuch 20 = .ok (.iload_n 3, 1) := by decide +kernel
theorem d_Mo_takesTooMuch_21 : decode b_Mo_takesTooMuch 21 = .ok (.iload 7, 2) := by decide +kernel
theorem d_Mo_takesTooMuch_23 : decode b_Mo_takesTooMuch 23 = .ok (.iadd, 1) := by decide +kernel
theorem d_Mo_takesTooMuch_24 : decode b_Mo_takesTooMuch 24 = .ok (.iaload, 1) := by decide +kernel
theorem d_Mo_takesTooMuch_25 : decode b_Mo_takesTooMuch 25 = .ok (.i2l, 1) := by decide +kernel
theorem d_Mo_takesTooMuch_26 : decode b_Mo_takesTooMuch 26 = .ok (.iload 7, 2) := by decide +kernel
theorem d_Mo_takesTooMuch_28 : decode b_Mo_takesTooMuch 28 = .ok (.iload 4, 2) := by decide +kernel
theorem d_Mo_takesTooMuch_30 : decode b_Mo_takesTooMuch 30 = .ok (.if_icmp .ge 19, 3) := by decide +kernel
theorem d_Mo_takesTooMuch_33 : decode b_Mo_takesTooMuch 33 = .ok (.lload_n 1, 1) := by decide +kernel
theorem d_Mo_takesTooMuch_34 : decode b_Mo_takesTooMuch 34 = .ok (.aload_n 0, 1) := by decide +kernel
theorem d_Mo_takesTooMuch_35 : decode b_Mo_takesTooMuch 35 = .ok (.getfield 31, 3) := by decide +kernel
theorem d_Mo_takesTooMuch_38 : decode b_Mo_takesTooMuch 38 = .ok (.getfield 118, 3) := by decide +kernel
theorem d_Mo_takesTooMuch_41 : decode b_Mo_takesTooMuch 41 = .ok (.iload 7, 2) := by decide +kernel
theorem d_Mo_takesTooMuch_43 : decode b_Mo_takesTooMuch 43 = .ok (.iaload, 1) := by decide +kernel
theorem d_Mo_takesTooMuch_44 : decode b_Mo_takesTooMuch 44 = .ok (.i2l, 1) := by decide +kernel
theorem d_Mo_takesTooMuch_45 : decode b_Mo_takesTooMuch 45 = .ok (.lmul, 1) := by decide +kernel
theorem d_Mo_takesTooMuch_46 : decode b_Mo_takesTooMuch 46 = .ok (.goto 4, 3) := by decide +kernel
theorem d_Mo_takesTooMuch_49 : decode b_Mo_takesTooMuch 49 = .ok (.lconst 0, 1) := by decide +kernel
theorem d_Mo_takesTooMuch_50 : decode b_Mo_takesTooMuch 50 = .ok (.lsub, 1) := by decide +kernel
theorem d_Mo_takesTooMuch_51 : decode b_Mo_takesTooMuch 51 = .ok (.lload 5, 2) := by decide +kernel
theorem d_Mo_takesTooMuch_53 : decode b_Mo_takesTooMuch 53 = .ok (.lsub, 1) := by decide +kernel
theorem d_Mo_takesTooMuch_54 : decode b_Mo_takesTooMuch 54 = .ok (.lstore 8, 2) := by decide +kernel
theorem d_Mo_takesTooMuch_56 : decode b_Mo_takesTooMuch 56 = .ok (.aload_n 0, 1) := by decide +kernel
theorem d_Mo_takesTooMuch_57 : decode b_Mo_takesTooMuch 57 = .ok (.getfield 28, 3) := by decide +kernel
theorem d_Mo_takesTooMuch_60 : decode b_Mo_takesTooMuch 60 = .ok (.getfield 118, 3) := by decide +kernel
theorem d_Mo_takesTooMuch_63 : decode b_Mo_takesTooMuch 63 = .ok (.iload_n 3, 1) := by decide +kernel
theorem d_Mo_takesTooMuch_64 : decode b_Mo_takesTooMuch 64 = .ok (.iload 7, 2) := by decide +kernel
theorem d_Mo_takesTooMuch_66 : decode b_Mo_takesTooMuch 66 = .ok (.iadd, 1) := by decide +kernel
theorem d_Mo_takesTooMuch_67 : decode b_Mo_takesTooMuch 67 = .ok (.lload 8, 2) := by decide +kernel
theorem d_Mo_takesTooMuch_69 : decode b_Mo_takesTooMuch 69 = .ok (.l2i, 1) := by decide +kernel
theorem d_Mo_takesTooMuch_70 : decode b_Mo_takesTooMuch 70 = .ok (.ldc 132, 2) := by decide +kernel
theorem d_Mo_takesTooMuch_72 : decode b_Mo_takesTooMuch 72 = .ok (.iand, 1) := by decide +kernel
theorem d_Mo_takesTooMuch_73 : decode b_Mo_takesTooMuch 73 = .ok (.iastore, 1) := by decide +kernel
theorem d_Mo_takesTooMuch_74 : decode b_Mo_takesTooMuch 74 = .ok (.lload 8, 2) := by decide +kernel
theorem d_Mo_takesTooMuch_76 : decode b_Mo_takesTooMuch 76 = .ok (.bipush 30, 2) := by decide +kernel
theorem d_Mo_takesTooMuch_78 : decode b_Mo_takesTooMuch 78 = .ok (.lshr, 1) := by decide +kernel
theorem d_Mo_takesTooMuch_79 : decode b_Mo_takesTooMuch 79 = .ok (.lneg, 1) := by decide +kernel
theorem d_Mo_takesTooMuch_80 : decode b_Mo_takesTooMuch 80 = .ok (.lstore 5, 2) := by decide +kernel
theorem d_Mo_takesTooMuch_82 : decode b_Mo_takesTooMuch 82 = .ok (.iinc 7 1, 3) := by decide +kernel
theorem d_Mo_takesTooMuch_85 : decode b_Mo_takesTooMuch 85 = .ok (.goto (-79), 3) := by decide +kernel
theorem d_Mo_takesTooMuch_88 : decode b_Mo_takesTooMuch 88 = .ok (.lload 5, 2) := by decide +kernel
theorem d_Mo_takesTooMuch_90 : decode b_Mo_takesTooMuch 90 = .ok (.lconst 0, 1) := by decide +kernel
theorem d_Mo_takesTooMuch_91 : decode b_Mo_takesTooMuch 91 = .ok (.lcmp, 1) := by decide +kernel
theorem d_Mo_takesTooMuch_92 : decode b_Mo_takesTooMuch 92 = .ok (.ifCond .ne 5, 3) := by decide +kernel
theorem d_Mo_takesTooMuch_95 : decode b_Mo_takesTooMuch 95 = .ok (.iconst 0, 1) := by decide +kernel
theorem d_Mo_takesTooMuch_96 : decode b_Mo_takesTooMuch 96 = .ok (.ireturn, 1) := by decide +kernel
theorem d_Mo_takesTooMuch_97 : decode b_Mo_takesTooMuch 97 = .ok (.iconst 0, 1) := by decide +kernel
theorem d_Mo_takesTooMuch_98 : decode b_Mo_takesTooMuch 98 = .ok (.istore 7, 2) := by decide +kernel
theorem d_Mo_takesTooMuch_100 : decode b_Mo_takesTooMuch 100 = .ok (.lconst 0, 1) := by decide +kernel
theorem d_Mo_takesTooMuch_101 : decode b_Mo_takesTooMuch 101 = .ok (.lstore 5, 2) := by decide +kernel
theorem d_Mo_takesTooMuch_103 : decode b_Mo_takesTooMuch 103 = .ok (.iconst 0, 1) := by decide +kernel
theorem d_Mo_takesTooMuch_104 : decode b_Mo_takesTooMuch 104 = .ok (.istore 8, 2) := by decide +kernel
theorem d_Mo_takesTooMuch_106 : decode b_Mo_takesTooMuch 106 = .ok (.iload 8, 2) := by decide +kernel
theorem d_Mo_takesTooMuch_108 : decode b_Mo_takesTooMuch 108 = .ok (.iload 4, 2) := by decide +kernel
theorem d_Mo_takesTooMuch_110 : decode b_Mo_takesTooMuch 110 = .ok (.if_icmp .gt 82, 3) := by decide +kernel
theorem d_Mo_takesTooMuch_113 : decode b_Mo_takesTooMuch 113 = .ok (.aload_n 0, 1) := by decide +kernel
theorem d_Mo_takesTooMuch_114 : decode b_Mo_takesTooMuch 114 = .ok (.getfield 28, 3) := by decide +kernel
theorem d_Mo_takesTooMuch_117 : decode b_Mo_takesTooMuch 117 = .ok (.getfield 118, 3) := by decide +kernel
theorem d_Mo_takesTooMuch_120 : decode b_Mo_takesTooMuch 120 = .ok (.iload_n 3, 1) := by decide +kernel
theorem d_Mo_takesTooMuch_121 : decode b_Mo_takesTooMuch 121 = .ok (.iload 8, 2) := by decide +kernel
theorem d_Mo_takesTooMuch_123 : decode b_Mo_takesTooMuch 123 = .ok (.iadd, 1) := by decide +kernel
theorem d_Mo_takesTooMuch_124 : decode b_Mo_takesTooMuch 124 = .ok (.iaload, 1) := by decide +kernel
theorem d_Mo_takesTooMuch_125 : decode b_Mo_takesTooMuch 125 = .ok (.i2l, 1) := by decide +kernel
theorem d_Mo_takesTooMuch_126 : decode b_Mo_takesTooMuch 126 = .ok (.iload 8, 2) := by decide +kernel
theorem d_Mo_takesTooMuch_128 : decode b_Mo_takesTooMuch 128 = .ok (.iload 4, 2) := by decide +kernel
theorem d_Mo_takesTooMuch_130 : decode b_Mo_takesTooMuch 130 = .ok (.if_icmp .ge 19, 3) := by decide +kernel
theorem d_Mo_takesTooMuch_133 : decode b_Mo_takesTooMuch 133 = .ok (.lload_n 1, 1) := by decide +kernel
theorem d_Mo_takesTooMuch_134 : decode b_Mo_takesTooMuch 134 = .ok (.aload_n 0, 1) := by decide +kernel
theorem d_Mo_takesTooMuch_135 : decode b_Mo_takesTooMuch 135 = .ok (.getfield 31, 3) := by decide +kernel
theorem d_Mo_takesTooMuch_138 : decode b_Mo_takesTooMuch 138 = .ok (.getfield 118, 3) := by decide +kernel
theorem d_Mo_takesTooMuch_141 : decode b_Mo_takesTooMuch 141 = .ok (.iload 8, 2) := by decide +kernel
theorem d_Mo_takesTooMuch_143 : decode b_Mo_takesTooMuch 143 = .ok (.iaload, 1) := by decide +kernel
theorem d_Mo_takesTooMuch_144 : decode b_Mo_takesTooMuch 144 = .ok (.i2l, 1) := by decide +kernel
theorem d_Mo_takesTooMuch_145 : decode b_Mo_takesTooMuch 145 = .ok (.lmul, 1) := by decide +kernel
theorem d_Mo_takesTooMuch_146 : decode b_Mo_takesTooMuch 146 = .ok (.goto 4, 3) := by decide +kernel
theorem d_Mo_takesTooMuch_149 : decode b_Mo_takesTooMuch 149 = .ok (.lconst 0, 1) := by decide +kernel
theorem d_Mo_takesTooMuch_150 : decode b_Mo_takesTooMuch 150 = .ok (.ladd, 1) := by decide +kernel
theorem d_Mo_takesTooMuch_151 : decode b_Mo_takesTooMuch 151 = .ok (.lload 5, 2) := by decide +kernel
theorem d_Mo_takesTooMuch_153 : decode b_Mo_takesTooMuch 153 = .ok (.ladd, 1) := by decide +kernel
theorem d_Mo_takesTooMuch_154 : decode b_Mo_takesTooMuch 154 = .ok (.lstore 9, 2) := by decide +kernel
theorem d_Mo_takesTooMuch_156 : decode b_Mo_takesTooMuch 156 = .ok (.aload_n 0, 1) := by decide +kernel
theorem d_Mo_takesTooMuch_157 : decode b_Mo_takesTooMuch 157 = .ok (.getfield 28, 3) := by decide +kernel
theorem d_Mo_takesTooMuch_160 : decode b_Mo_takesTooMuch 160 = .ok (.getfield 118, 3) := by decide +kernel
theorem d_Mo_takesTooMuch_163 : decode b_Mo_takesTooMuch 163 = .ok (.iload_n 3, 1) := by decide +kernel
theorem d_Mo_takesTooMuch_164 : decode b_Mo_takesTooMuch 164 = .ok (.iload 8, 2) := by decide +kernel
theorem d_Mo_takesTooMuch_166 : decode b_Mo_takesTooMuch 166 = .ok (.iadd, 1) := by decide +kernel
theorem d_Mo_takesTooMuch_167 : decode b_Mo_takesTooMuch 167 = .ok (.lload 9, 2) := by decide +kernel
theorem d_Mo_takesTooMuch_169 : decode b_Mo_takesTooMuch 169 = .ok (.l2i, 1) := by decide +kernel
theorem d_Mo_takesTooMuch_170 : decode b_Mo_takesTooMuch 170 = .ok (.ldc 132, 2) := by decide +kernel
theorem d_Mo_takesTooMuch_172 : decode b_Mo_takesTooMuch 172 = .ok (.iand, 1) := by decide +kernel
theorem d_Mo_takesTooMuch_173 : decode b_Mo_takesTooMuch 173 = .ok (.iastore, 1) := by decide +kernel
theorem d_Mo_takesTooMuch_174 : decode b_Mo_takesTooMuch 174 = .ok (.lload 9, 2) := by decide +kernel
theorem d_Mo_takesTooMuch_176 : decode b_Mo_takesTooMuch 176 = .ok (.bipush 30, 2) := by decide +kernel
theorem d_Mo_takesTooMuch_178 : decode b_Mo_takesTooMuch 178 = .ok (.lshr, 1) := by decide +kernel
theorem d_Mo_takesTooMuch_179 : decode b_Mo_takesTooMuch 179 = .ok (.lstore 5, 2) := by decide +kernel
theorem d_Mo_takesTooMuch_181 : decode b_Mo_takesTooMuch 181 = .ok (.lload 5, 2) := by decide +kernel
theorem d_Mo_takesTooMuch_183 : decode b_Mo_takesTooMuch 183 = .ok (.l2i, 1) := by decide +kernel
theorem d_Mo_takesTooMuch_184 : decode b_Mo_takesTooMuch 184 = .ok (.istore 7, 2) := by decide +kernel
theorem d_Mo_takesTooMuch_186 : decode b_Mo_takesTooMuch 186 = .ok (.iinc 8 1, 3) := by decide +kernel
theorem d_Mo_takesTooMuch_189 : decode b_Mo_takesTooMuch 189 = .ok (.goto (-83), 3) := by decide +kernel
theorem d_Mo_takesTooMuch_192 : decode b_Mo_takesTooMuch 192 = .ok (.iload 7, 2) := by decide +kernel
theorem d_Mo_takesTooMuch_194 : decode b_Mo_takesTooMuch 194 = .ok (.ifCond .lt 7, 3) := by decide +kernel
theorem d_Mo_takesTooMuch_197 : decode b_Mo_takesTooMuch 197 = .ok (.iconst 1, 1) := by decide +kernel
theorem d_Mo_takesTooMuch_198 : decode b_Mo_takesTooMuch 198 = .ok (.goto 4, 3) := by decide +kernel
theorem d_Mo_takesTooMuch_201 : decode b_Mo_takesTooMuch 201 = .ok (.iconst 0, 1) := by decide +kernel
theorem d_Mo_takesTooMuch_202 : decode b_Mo_takesTooMuch 202 = .ok (.ireturn, 1) := by decide +kernel
theorem d_Mo_power_0 : decode b_Mo_power 0 = .ok (.aload_n 0, 1) := by decide +kernel
theorem d_Mo_power_1 : decode b_Mo_power 1 = .ok (.iconst 0, 1) := by decide +kernel
theorem d_Mo_power_2 : decode b_Mo_power 2 = .ok (.putfield 183, 3) := by decide +kernel
theorem d_Mo_power_5 : decode b_Mo_power 5 = .ok (.aload_n 0, 1) := by decide +kernel
theorem d_Mo_power_6 : decode b_Mo_power 6 = .ok (.iload_n 1, 1) := by decide +kernel
theorem d_Mo_power_7 : decode b_Mo_power 7 = .ok (.iload_n 2, 1) := by decide +kernel
theorem d_Mo_power_8 : decode b_Mo_power 8 = .ok (.iload_n 3, 1) := by decide +kernel
theorem d_Mo_power_9 : decode b_Mo_power 9 = .ok (.invokevirtual 210, 3) := by decide +kernel
theorem d_Mo_power_12 : decode b_Mo_power 12 = .ok (.ireturn, 1) := by decide +kernel
theorem d_Mo_power_13 : decode b_Mo_power 13 = .ok (.astore 4, 2) := by decide +kernel
theorem d_Mo_power_15 : decode b_Mo_power 15 = .ok (.aload_n 0, 1) := by decide +kernel
theorem d_Mo_power_16 : decode b_Mo_power 16 = .ok (.iconst 1, 1) := by decide +kernel
theorem d_Mo_power_17 : decode b_Mo_power 17 = .ok (.putfield 183, 3) := by decide +kernel
theorem d_Mo_power_20 : decode b_Mo_power 20 = .ok (.goto 10, 3) := by decide +kernel
theorem d_Mo_power_23 : decode b_Mo_power 23 = .ok (.astore 4, 2) := by decide +kernel
theorem d_Mo_power_25 : decode b_Mo_power 25 = .ok (.aload_n 0, 1) := by decide +kernel
theorem d_Mo_power_26 : decode b_Mo_power 26 = .ok (.iconst 2, 1) := by decide +kernel
theorem d_Mo_power_27 : decode b_Mo_power 27 = .ok (.putfield 183, 3) := by decide +kernel
theorem d_Mo_power_30 : decode b_Mo_power 30 = .ok (.iconst 0, 1) := by decide +kernel
theorem d_Mo_power_31 : decode b_Mo_power 31 = .ok (.ireturn, 1) := by decide +kernel
theorem d_Mo_power0_0 : decode b_Mo_power0 0 = .ok (.iload_n 1, 1) := by decide +kernel
theorem d_Mo_power0_1 : decode b_Mo_power0 1 = .ok (.invokestatic 77, 3) := by decide +kernel
theorem d_Mo_power0_4 : decode b_Mo_power0 4 = .ok (.iload_n 2, 1) := by decide +kernel
theorem d_Mo_power0_5 : decode b_Mo_power0 5 = .ok (.invokestatic 77, 3) := by decide +kernel
theorem d_Mo_power0_8 : decode b_Mo_power0 8 = .ok (.iload_n 3, 1) := by decide +kernel
theorem d_Mo_power0_9 : decode b_Mo_power0 9 = .ok (.iconst 0, 1) := by decide +kernel
theorem d_Mo_power0_10 : decode b_Mo_power0 10 = .ok (.bipush 100, 2) := by decide +kernel
theorem d_Mo_power0_12 : decode b_Mo_power0 12 = .ok (.invokestatic 56, 3) := by decide +kernel
theorem d_Mo_power0_15 : decode b_Mo_power0 15 = .ok (.invokestatic 60, 3) := by decide +kernel
theorem d_Mo_power0_18 : decode b_Mo_power0 18 = .ok (.iload_n 3, 1) := by decide +kernel
theorem d_Mo_power0_19 : decode b_Mo_power0 19 = .ok (.i2l, 1) := by decide +kernel
theorem d_Mo_power0_20 : decode b_Mo_power0 20 = .ok (.aload_n 0, 1) := by decide +kernel
theorem d_Mo_power0_21 : decode b_Mo_power0 21 = .ok (.getfield 11, 3) := by decide +kernel
theorem d_Mo_power0_24 : decode b_Mo_power0 24 = .ok (.iload_n 2, 1) := by decide +kernel
theorem d_Mo_power0_25 : decode b_Mo_power0 25 = .ok (.aaload, 1) := by decide +kernel
theorem d_Mo_power0_26 : decode b_Mo_power0 26 = .ok (.invokevirtual 73, 3) := by decide +kernel
theorem d_Mo_power0_29 : decode b_Mo_power0 29 = .ok (.i2l, 1) := by decide +kernel
theorem d_Mo_power0_30 : decode b_Mo_power0 30 = .ok (.lmul, 1) := by decide +kernel
theorem d_Mo_power0_31 : decode b_Mo_power0 31 = .ok (.invokestatic 93, 3) := by decide +kernel
theorem d_Mo_power0_34 : decode b_Mo_power0 34 = .ok (.aload_n 0, 1) := by decide +kernel
theorem d_Mo_power0_35 : decode b_Mo_power0 35 = .ok (.getfield 34, 3) := by decide +kernel
theorem d_Mo_power0_38 : decode b_Mo_power0 38 = .ok (.lconst 1, 1) := by decide +kernel
theorem d_Mo_power0_39 : decode b_Mo_power0 39 = .ok (.invokevirtual 80, 3) := by decide +kernel
theorem d_Mo_power0_42 : decode b_Mo_power0 42 = .ok (.aload_n 0, 1) := by decide +kernel
theorem d_Mo_power0_43 : decode b_Mo_power0 43 = .ok (.getfield 40, 3) := by decide +kernel
theorem d_Mo_power0_46 : decode b_Mo_power0 46 = .ok (.aload_n 0, 1) := by decide +kernel
theorem d_Mo_power0_47 : decode b_Mo_power0 47 = .ok (.getfield 11, 3) := by decide +kernel
theorem d_Mo_power0_50 : decode b_Mo_power0 50 = .ok (.iload_n 2, 1) := by decide +kernel
theorem d_Mo_power0_51 : decode b_Mo_power0 51 = .ok (.aaload, 1) := by decide +kernel
theorem d_Mo_power0_52 : decode b_Mo_power0 52 = .ok (.invokevirtual 69, 3) := by decide +kernel
theorem d_Mo_power0_55 : decode b_Mo_power0 55 = .ok (.iload_n 3, 1) := by decide +kernel
theorem d_Mo_power0_56 : decode b_Mo_power0 56 = .ok (.ifCond .le 12, 3) := by decide +kernel
theorem d_Mo_power0_59 : decode b_Mo_power0 59 = .ok (.aload_n 0, 1) := by decide +kernel
theorem d_Mo_power0_60 : decode b_Mo_power0 60 = .ok (.aload_n 0, 1) := by decide +kernel
theorem d_Mo_power0_61 : decode b_Mo_power0 61 = .ok (.getfield 40, 3) := by decide +kernel
theorem d_Mo_power0_64 : decode b_Mo_power0 64 = .ok (.iload_n 3, 1) := by decide +kernel
theorem d_Mo_power0_65 : decode b_Mo_power0 65 = .ok (.invokevirtual 137, 3) := by decide +kernel
theorem d_Mo_power0_68 : decode b_Mo_power0 68 = .ok (.aload_n 0, 1) := by decide +kernel
theorem d_Mo_power0_69 : decode b_Mo_power0 69 = .ok (.iload_n 1, 1) := by decide +kernel
theorem d_Mo_power0_70 : decode b_Mo_power0 70 = .ok (.aload_n 0, 1) := by decide +kernel
theorem d_Mo_power0_71 : decode b_Mo_power0 71 = .ok (.getfield 34, 3) := by decide +kernel
theorem d_Mo_power0_74 : decode b_Mo_power0 74 = .ok (.invokevirtual 83, 3) := by decide +kernel
theorem d_Mo_power0_77 : decode b_Mo_power0 77 = .ok (.ireturn, 1) := by decide +kernel
theorem d_Mo_raise_0 : decode b_Mo_raise 0 = .ok (.aload_n 0, 1) := by decide +kernel
theorem d_Mo_raise_1 : decode b_Mo_raise 1 = .ok (.getfield 34, 3) := by decide +kernel
theorem d_Mo_raise_4 : decode b_Mo_raise 4 = .ok (.aload_n 1, 1) := by decide +kernel
theorem d_Mo_raise_5 : decode b_Mo_raise 5 = .ok (.invokevirtual 69, 3) := by decide +kernel
theorem d_Mo_raise_8 : decode b_Mo_raise 8 = .ok (.bipush 31, 2) := by decide +kernel
theorem d_Mo_raise_10 : decode b_Mo_raise 10 = .ok (.iload_n 2, 1) := by decide +kernel
theorem d_Mo_raise_11 : decode b_Mo_raise 11 = .ok (.invokestatic 151, 3) := by decide +kernel
theorem d_Mo_raise_14 : decode b_Mo_raise 14 = .ok (.isub, 1) := by decide +kernel
theorem d_Mo_raise_15 : decode b_Mo_raise 15 = .ok (.iconst 1, 1) := by decide +kernel
theorem d_Mo_raise_16 : decode b_Mo_raise 16 = .ok (.isub, 1) := by decide +kernel
theorem d_Mo_raise_17 : decode b_Mo_raise 17 = .ok (.istore_n 3, 1) := by decide +kernel
theorem d_Mo_raise_18 : decode b_Mo_raise 18 = .ok (.iload_n 3, 1) := by decide +kernel
theorem d_Mo_raise_19 : decode b_Mo_raise 19 = .ok (.ifCond .lt 69, 3) := by decide +kernel
theorem d_Mo_raise_22 : decode b_Mo_raise 22 = .ok (.aload_n 0, 1) := by decide +kernel
theorem d_Mo_raise_23 : decode b_Mo_raise 23 = .ok (.getfield 43, 3) := by decide +kernel
theorem d_Mo_raise_26 : decode b_Mo_raise 26 = .ok (.aload_n 0, 1) := by decide +kernel
theorem d_Mo_raise_27 : decode b_Mo_raise 27 = .ok (.getfield 34, 3) := by decide +kernel
theorem d_Mo_raise_30 : decode b_Mo_raise 30 = .ok (.aload_n 0, 1) := by decide +kernel
theorem d_Mo_raise_31 : decode b_Mo_raise 31 = .ok (.getfield 34, 3) := by decide +kernel
theorem d_Mo_raise_34 : decode b_Mo_raise 34 = .ok (.invokevirtual 115, 3) := by decide +kernel
theorem d_Mo_raise_37 : decode b_Mo_raise 37 = .ok (.aload_n 0, 1) := by decide +kernel
theorem d_Mo_raise_38 : decode b_Mo_raise 38 = .ok (.getfield 34, 3) := by decide +kernel
theorem d_Mo_raise_41 : decode b_Mo_raise 41 = .ok (.aload_n 0, 1) := by decide +kernel
theorem d_Mo_raise_42 : decode b_Mo_raise 42 = .ok (.getfield 43, 3) := by decide +kernel
theorem d_Mo_raise_45 : decode b_Mo_raise 45 = .ok (.invokevirtual 69, 3) := by decide +kernel
theorem d_Mo_raise_48 : decode b_Mo_raise 48 = .ok (.iload_n 2, 1) := by decide +kernel
theorem d_Mo_raise_49 : decode b_Mo_raise 49 = .ok (.iload_n 3, 1) := by decide +kernel
theorem d_Mo_raise_50 : decode b_Mo_raise 50 = .ok (.ishr, 1) := by decide +kernel
theorem d_Mo_raise_51 : decode b_Mo_raise 51 = .ok (.iconst 1, 1) := by decide +kernel
theorem d_Mo_raise_52 : decode b_Mo_raise 52 = .ok (.iand, 1) := by decide +kernel
theorem d_Mo_raise_53 : decode b_Mo_raise 53 = .ok (.ifCond .ne 6, 3) := by decide +kernel
theorem d_Mo_raise_56 : decode b_Mo_raise 56 = .ok (.goto 26, 3) := by decide +kernel
theorem d_Mo_raise_59 : decode b_Mo_raise 59 = .ok (.aload_n 0, 1) := by decide +kernel
theorem d_Mo_raise_60 : decode b_Mo_raise 60 = .ok (.getfield 43, 3) := by decide +kernel
theorem d_Mo_raise_63 : decode b_Mo_raise 63 = .ok (.aload_n 0, 1) := by decide +kernel
theorem d_Mo_raise_64 : decode b_Mo_raise 64 = .ok (.getfield 34, 3) := by decide +kernel
theorem d_Mo_raise_67 : decode b_Mo_raise 67 = .ok (.aload_n 1, 1) := by decide +kernel
theorem d_Mo_raise_68 : decode b_Mo_raise 68 = .ok (.invokevirtual 115, 3) := by decide +kernel
theorem d_Mo_raise_71 : decode b_Mo_raise 71 = .ok (.aload_n 0, 1) := by decide +kernel
theorem d_Mo_raise_72 : decode b_Mo_raise 72 = .ok (.getfield 34, 3) := by decide +kernel
theorem d_Mo_raise_75 : decode b_Mo_raise 75 = .ok (.aload_n 0, 1) := by decide +kernel
theorem d_Mo_raise_76 : decode b_Mo_raise 76 = .ok (.getfield 43, 3) := by decide +kernel
theorem d_Mo_raise_79 : decode b_Mo_raise 79 = .ok (.invokevirtual 69, 3) := by decide +kernel
theorem d_Mo_raise_82 : decode b_Mo_raise 82 = .ok (.iinc 3 (-1), 3) := by decide +kernel
theorem d_Mo_raise_85 : decode b_Mo_raise 85 = .ok (.goto (-67), 3) := by decide +kernel
theorem d_Mo_raise_88 : decode b_Mo_raise 88 = .ok (.return_, 1) := by decide +kernel
theorem d_Mo_root_0 : decode b_Mo_root 0 = .ok (.aload_n 0, 1) := by decide +kernel
theorem d_Mo_root_1 : decode b_Mo_root 1 = .ok (.iconst 0, 1) := by decide +kernel
theorem d_Mo_root_2 : decode b_Mo_root 2 = .ok (.putfield 183, 3) := by decide +kernel
theorem d_Mo_root_5 : decode b_Mo_root 5 = .ok (.aload_n 0, 1) := by decide +kernel
theorem d_Mo_root_6 : decode b_Mo_root 6 = .ok (.iload_n 1, 1) := by decide +kernel
theorem d_Mo_root_7 : decode b_Mo_root 7 = .ok (.iload_n 2, 1) := by decide +kernel
theorem d_Mo_root_8 : decode b_Mo_root 8 = .ok (.iload_n 3, 1) := by decide +kernel
theorem d_Mo_root_9 : decode b_Mo_root 9 = .ok (.invokevirtual 213, 3) := by decide +kernel
theorem d_Mo_root_12 : decode b_Mo_root 12 = .ok (.ireturn, 1) := by decide +kernel
theorem d_Mo_root_13 : decode b_Mo_root 13 = .ok (.astore 4, 2) := by decide +kernel
theorem d_Mo_root_15 : decode b_Mo_root 15 = .ok (.aload_n 0, 1) := by decide +kernel
theorem d_Mo_root_16 : decode b_Mo_root 16 = .ok (.iconst 1, 1) := by decide +kernel
theorem d_Mo_root_17 : decode b_Mo_root 17 = .ok (.putfield 183, 3) := by decide +kernel
theorem d_Mo_root_20 : decode b_Mo_root 20 = .ok (.iconst 0, 1) := by decide +kernel
theorem d_Mo_root_21 : decode b_Mo_root 21 = .ok (.ireturn, 1) := by decide +kernel
theorem d_Mo_root0_0 : decode b_Mo_root0 0 = .ok (.iload_n 1, 1) := by decide +kernel
theorem d_Mo_root0_1 : decode b_Mo_root0 1 = .ok (.invokestatic 77, 3) := by decide +kernel
theorem d_Mo_root0_4 : decode b_Mo_root0 4 = .ok (.iload_n 2, 1) := by decide +kernel
theorem d_Mo_root0_5 : decode b_Mo_root0 5 = .ok (.invokestatic 77, 3) := by decide +kernel
theorem d_Mo_root0_8 : decode b_Mo_root0 8 = .ok (.iload_n 3, 1) := by decide +kernel
theorem d_Mo_root0_9 : decode b_Mo_root0 9 = .ok (.iconst 1, 1) := by decide +kernel
theorem d_Mo_root0_10 : decode b_Mo_root0 10 = .ok (.bipush 40, 2) := by decide +kernel
theorem d_Mo_root0_12 : decode b_Mo_root0 12 = .ok (.invokestatic 56, 3) := by decide +kernel
theorem d_Mo_root0_15 : decode b_Mo_root0 15 = .ok (.invokestatic 60, 3) := by decide +kernel
theorem d_Mo_root0_18 : decode b_Mo_root0 18 = .ok (.aload_n 0, 1) := by decide +kernel
theorem d_Mo_root0_19 : decode b_Mo_root0 19 = .ok (.getfield 18, 3) := by decide +kernel
theorem d_Mo_root0_22 : decode b_Mo_root0 22 = .ok (.aload_n 0, 1) := by decide +kernel
theorem d_Mo_root0_23 : decode b_Mo_root0 23 = .ok (.getfield 11, 3) := by decide +kernel
theorem d_Mo_root0_26 : decode b_Mo_root0 26 = .ok (.iload_n 2, 1) := by decide +kernel
theorem d_Mo_root0_27 : decode b_Mo_root0 27 = .ok (.aaload, 1) := by decide +kernel
theorem d_Mo_root0_28 : decode b_Mo_root0 28 = .ok (.invokevirtual 69, 3) := by decide +kernel
theorem d_Mo_root0_31 : decode b_Mo_root0 31 = .ok (.aload_n 0, 1) := by decide +kernel
theorem d_Mo_root0_32 : decode b_Mo_root0 32 = .ok (.getfield 18, 3) := by decide +kernel
theorem d_Mo_root0_35 : decode b_Mo_root0 35 = .ok (.getfield 89, 3) := by decide +kernel
theorem d_Mo_root0_38 : decode b_Mo_root0 38 = .ok (.ifCond .ne 13, 3) := by decide +kernel
theorem d_Mo_root0_41 : decode b_Mo_root0 41 = .ok (.aload_n 0, 1) := by decide +kernel
theorem d_Mo_root0_42 : decode b_Mo_root0 42 = .ok (.iload_n 1, 1) := by decide +kernel
theorem d_Mo_root0_43 : decode b_Mo_root0 43 = .ok (.aload_n 0, 1) := by decide +kernel
theorem d_Mo_root0_44 : decode b_Mo_root0 44 = .ok (.getfield 18, 3) := by decide +kernel
theorem d_Mo_root0_47 : decode b_Mo_root0 47 = .ok (.invokevirtual 83, 3) := by decide +kernel
theorem d_Mo_root0_50 : decode b_Mo_root0 50 = .ok (.ireturn, 1) := by decide +kernel
theorem d_Mo_root0_51 : decode b_Mo_root0 51 = .ok (.aload_n 0, 1) := by decide +kernel
theorem d_Mo_root0_52 : decode b_Mo_root0 52 = .ok (.iload_n 3, 1) := by decide +kernel
theorem d_Mo_root0_53 : decode b_Mo_root0 53 = .ok (.invokevirtual 156, 3) := by decide +kernel
theorem d_Mo_root0_56 : decode b_Mo_root0 56 = .ok (.pop, 1) := by decide +kernel
theorem d_Mo_root0_57 : decode b_Mo_root0 57 = .ok (.aload_n 0, 1) := by decide +kernel
theorem d_Mo_root0_58 : decode b_Mo_root0 58 = .ok (.iload_n 1, 1) := by decide +kernel
theorem d_Mo_root0_59 : decode b_Mo_root0 59 = .ok (.aload_n 0, 1) := by decide +kernel
theorem d_Mo_root0_60 : decode b_Mo_root0 60 = .ok (.getfield 40, 3) := by decide +kernel
theorem d_Mo_root0_63 : decode b_Mo_root0 63 = .ok (.invokevirtual 83, 3) := by decide +kernel
theorem d_Mo_root0_66 : decode b_Mo_root0 66 = .ok (.ireturn, 1) := by decide +kernel
theorem d_Mo_rootOf_0 : decode b_Mo_rootOf 0 = .ok (.iload_n 1, 1) := by decide +kernel
theorem d_Mo_rootOf_1 : decode b_Mo_rootOf 1 = .ok (.iconst 1, 1) := by decide +kernel
theorem d_Mo_rootOf_2 : decode b_Mo_rootOf 2 = .ok (.if_icmp .ne 16, 3) := by decide +kernel
theorem d_Mo_rootOf_5 : decode b_Mo_rootOf 5 = .ok (.aload_n 0, 1) := by decide +kernel
theorem d_Mo_rootOf_6 : decode b_Mo_rootOf 6 = .ok (.getfield 40, 3) := by decide +kernel
theorem d_Mo_rootOf_9 : decode b_Mo_rootOf 9 = .ok (.aload_n 0, 1) := by decide +kernel
theorem d_Mo_rootOf_10 : decode b_Mo_rootOf 10 = .ok (.getfield 18, 3) := by decide +kernel
theorem d_Mo_rootOf_13 : decode b_Mo_rootOf 13 = .ok (.invokevirtual 69, 3) := by decide +kernel
theorem d_Mo_rootOf_16 : decode b_Mo_rootOf 16 = .ok (.iconst 0, 1) := by decide +kernel
theorem d_Mo_rootOf_17 : decode b_Mo_rootOf 17 = .ok (.ireturn, 1) := by decide +kernel
theorem d_Mo_rootOf_18 : decode b_Mo_rootOf 18 = .ok (.aload_n 0, 1) := by decide +kernel
theorem d_Mo_rootOf_19 : decode b_Mo_rootOf 19 = .ok (.getfield 40, 3) := by decide +kernel
theorem d_Mo_rootOf_22 : decode b_Mo_rootOf 22 = .ok (.aload_n 0, 1) := by decide +kernel
theorem d_Mo_rootOf_23 : decode b_Mo_rootOf 23 = .ok (.getfield 18, 3) := by decide +kernel
theorem d_Mo_rootOf_26 : decode b_Mo_rootOf 26 = .ok (.invokevirtual 73, 3) := by decide +kernel
theorem d_Mo_rootOf_29 : decode b_Mo_rootOf 29 = .ok (.iload_n 1, 1) := by decide +kernel
theorem d_Mo_rootOf_30 : decode b_Mo_rootOf 30 = .ok (.iadd, 1) := by decide +kernel
theorem d_Mo_rootOf_31 : decode b_Mo_rootOf 31 = .ok (.iconst 1, 1) := by decide +kernel
theorem d_Mo_rootOf_32 : decode b_Mo_rootOf 32 = .ok (.isub, 1) := by decide +kernel
theorem d_Mo_rootOf_33 : decode b_Mo_rootOf 33 = .ok (.iload_n 1, 1) := by decide +kernel
theorem d_Mo_rootOf_34 : decode b_Mo_rootOf 34 = .ok (.idiv, 1) := by decide +kernel
theorem d_Mo_rootOf_35 : decode b_Mo_rootOf 35 = .ok (.invokevirtual 141, 3) := by decide +kernel
theorem d_Mo_rootOf_38 : decode b_Mo_rootOf 38 = .ok (.iconst 1, 1) := by decide +kernel
theorem d_Mo_rootOf_39 : decode b_Mo_rootOf 39 = .ok (.istore_n 2, 1) := by decide +kernel
theorem d_Mo_rootOf_40 : decode b_Mo_rootOf 40 = .ok (.iload_n 2, 1) := by decide +kernel
theorem d_Mo_rootOf_41 : decode b_Mo_rootOf 41 = .ok (.ifCond .eq 120, 3) := by decide +kernel
theorem d_Mo_rootOf_44 : decode b_Mo_rootOf 44 = .ok (.aload_n 0, 1) := by decide +kernel
theorem d_Mo_rootOf_45 : decode b_Mo_rootOf 45 = .ok (.aload_n 0, 1) := by decide +kernel
theorem d_Mo_rootOf_46 : decode b_Mo_rootOf 46 = .ok (.getfield 40, 3) := by decide +kernel
theorem d_Mo_rootOf_49 : decode b_Mo_rootOf 49 = .ok (.iload_n 1, 1) := by decide +kernel
theorem d_Mo_rootOf_50 : decode b_Mo_rootOf 50 = .ok (.iconst 1, 1) := by decide +kernel
theorem d_Mo_rootOf_51 : decode b_Mo_rootOf 51 = .ok (.isub, 1) := by decide +kernel
theorem d_Mo_rootOf_52 : decode b_Mo_rootOf 52 = .ok (.invokevirtual 137, 3) := by decide +kernel
theorem d_Mo_rootOf_55 : decode b_Mo_rootOf 55 = .ok (.aload_n 0, 1) := by decide +kernel
theorem d_Mo_rootOf_56 : decode b_Mo_rootOf 56 = .ok (.getfield 22, 3) := by decide +kernel
theorem d_Mo_rootOf_59 : decode b_Mo_rootOf 59 = .ok (.aload_n 0, 1) := by decide +kernel
theorem d_Mo_rootOf_60 : decode b_Mo_rootOf 60 = .ok (.getfield 18, 3) := by decide +kernel
theorem d_Mo_rootOf_63 : decode b_Mo_rootOf 63 = .ok (.invokevirtual 69, 3) := by decide +kernel
theorem d_Mo_rootOf_66 : decode b_Mo_rootOf 66 = .ok (.aload_n 0, 1) := by decide +kernel
theorem d_Mo_rootOf_67 : decode b_Mo_rootOf 67 = .ok (.aload_n 0, 1) := by decide +kernel
theorem d_Mo_rootOf_68 : decode b_Mo_rootOf 68 = .ok (.getfield 22, 3) := by decide +kernel
theorem d_Mo_rootOf_71 : decode b_Mo_rootOf 71 = .ok (.aload_n 0, 1) := by decide +kernel
theorem d_Mo_rootOf_72 : decode b_Mo_rootOf 72 = .ok (.getfield 34, 3) := by decide +kernel
theorem d_Mo_rootOf_75 : decode b_Mo_rootOf 75 = .ok (.aload_n 0, 1) := by decide +kernel
theorem d_Mo_rootOf_76 : decode b_Mo_rootOf 76 = .ok (.getfield 25, 3) := by decide +kernel
theorem d_Mo_rootOf_79 : decode b_Mo_rootOf 79 = .ok (.invokevirtual 133, 3) := by decide +kernel
theorem d_Mo_rootOf_82 : decode b_Mo_rootOf 82 = .ok (.aload_n 0, 1) := by decide +kernel
theorem d_Mo_rootOf_83 : decode b_Mo_rootOf 83 = .ok (.getfield 37, 3) := by decide +kernel
theorem d_Mo_rootOf_86 : decode b_Mo_rootOf 86 = .ok (.aload_n 0, 1) := by decide +kernel
theorem d_Mo_rootOf_87 : decode b_Mo_rootOf 87 = .ok (.getfield 40, 3) := by decide +kernel
theorem d_Mo_rootOf_90 : decode b_Mo_rootOf 90 = .ok (.invokevirtual 69, 3) := by decide +kernel
theorem d_Mo_rootOf_93 : decode b_Mo_rootOf 93 = .ok (.aload_n 0, 1) := by decide +kernel
theorem d_Mo_rootOf_94 : decode b_Mo_rootOf 94 = .ok (.getfield 37, 3) := by decide +kernel
theorem d_Mo_rootOf_97 : decode b_Mo_rootOf 97 = .ok (.iload_n 1, 1) := by decide +kernel
theorem d_Mo_rootOf_98 : decode b_Mo_rootOf 98 = .ok (.iconst 1, 1) := by decide +kernel
theorem d_Mo_rootOf_99 : decode b_Mo_rootOf 99 = .ok (.isub, 1) := by decide +kernel
theorem d_Mo_rootOf_100 : decode b_Mo_rootOf 100 = .ok (.invokevirtual 144, 3) := by decide +kernel
theorem d_Mo_rootOf_103 : decode b_Mo_rootOf 103 = .ok (.aload_n 0, 1) := by decide +kernel
theorem d_Mo_rootOf_104 : decode b_Mo_rootOf 104 = .ok (.getfield 37, 3) := by decide +kernel
theorem d_Mo_rootOf_107 : decode b_Mo_rootOf 107 = .ok (.aload_n 0, 1) := by decide +kernel
theorem d_Mo_rootOf_108 : decode b_Mo_rootOf 108 = .ok (.getfield 25, 3) := by decide +kernel
theorem d_Mo_rootOf_111 : decode b_Mo_rootOf 111 = .ok (.invokevirtual 102, 3) := by decide +kernel
theorem d_Mo_rootOf_114 : decode b_Mo_rootOf 114 = .ok (.aload_n 0, 1) := by decide +kernel
theorem d_Mo_rootOf_115 : decode b_Mo_rootOf 115 = .ok (.getfield 37, 3) := by decide +kernel
theorem d_Mo_rootOf_118 : decode b_Mo_rootOf 118 = .ok (.iload_n 1, 1) := by decide +kernel
theorem d_Mo_rootOf_119 : decode b_Mo_rootOf 119 = .ok (.invokevirtual 147, 3) := by decide +kernel
theorem d_Mo_rootOf_122 : decode b_Mo_rootOf 122 = .ok (.pop, 1) := by decide +kernel
theorem d_Mo_rootOf_123 : decode b_Mo_rootOf 123 = .ok (.aload_n 0, 1) := by decide +kernel
theorem d_Mo_rootOf_124 : decode b_Mo_rootOf 124 = .ok (.getfield 37, 3) := by decide +kernel
theorem d_Mo_rootOf_127 : decode b_Mo_rootOf 127 = .ok (.aload_n 0, 1) := by decide +kernel
theorem d_Mo_rootOf_128 : decode b_Mo_rootOf 128 = .ok (.getfield 40, 3) := by decide +kernel
theorem d_Mo_rootOf_131 : decode b_Mo_rootOf 131 = .ok (.invokevirtual 105, 3) := by decide +kernel
theorem d_Mo_rootOf_134 : decode b_Mo_rootOf 134 = .ok (.ifCond .ge 7, 3) := by decide +kernel
theorem d_Mo_rootOf_137 : decode b_Mo_rootOf 137 = .ok (.iconst 1, 1) := by decide +kernel
theorem d_Mo_rootOf_138 : decode b_Mo_rootOf 138 = .ok (.goto 4, 3) := by decide +kernel
theorem d_Mo_rootOf_141 : decode b_Mo_rootOf 141 = .ok (.iconst 0, 1) := by decide +kernel
theorem d_Mo_rootOf_142 : decode b_Mo_rootOf 142 = .ok (.istore_n 2, 1) := by decide +kernel
theorem d_Mo_rootOf_143 : decode b_Mo_rootOf 143 = .ok (.iload_n 2, 1) := by decide +kernel
theorem d_Mo_rootOf_144 : decode b_Mo_rootOf 144 = .ok (.ifCond .eq (-104), 3) := by decide +kernel
theorem d_Mo_rootOf_147 : decode b_Mo_rootOf 147 = .ok (.aload_n 0, 1) := by decide +kernel
theorem d_Mo_rootOf_148 : decode b_Mo_rootOf 148 = .ok (.getfield 40, 3) := by decide +kernel
theorem d_Mo_rootOf_151 : decode b_Mo_rootOf 151 = .ok (.aload_n 0, 1) := by decide +kernel
theorem d_Mo_rootOf_152 : decode b_Mo_rootOf 152 = .ok (.getfield 37, 3) := by decide +kernel
theorem d_Mo_rootOf_155 : decode b_Mo_rootOf 155 = .ok (.invokevirtual 69, 3) := by decide +kernel
theorem d_Mo_rootOf_158 : decode b_Mo_rootOf 158 = .ok (.goto (-118), 3) := by decide +kernel
theorem d_Mo_rootOf_161 : decode b_Mo_rootOf 161 = .ok (.aload_n 0, 1) := by decide +kernel
theorem d_Mo_rootOf_162 : decode b_Mo_rootOf 162 = .ok (.aload_n 0, 1) := by decide +kernel
theorem d_Mo_rootOf_163 : decode b_Mo_rootOf 163 = .ok (.getfield 40, 3) := by decide +kernel
theorem d_Mo_rootOf_166 : decode b_Mo_rootOf 166 = .ok (.iload_n 1, 1) := by decide +kernel
theorem d_Mo_rootOf_167 : decode b_Mo_rootOf 167 = .ok (.invokevirtual 137, 3) := by decide +kernel
theorem d_Mo_rootOf_170 : decode b_Mo_rootOf 170 = .ok (.aload_n 0, 1) := by decide +kernel
theorem d_Mo_rootOf_171 : decode b_Mo_rootOf 171 = .ok (.getfield 34, 3) := by decide +kernel
theorem d_Mo_rootOf_174 : decode b_Mo_rootOf 174 = .ok (.aload_n 0, 1) := by decide +kernel
theorem d_Mo_rootOf_175 : decode b_Mo_rootOf 175 = .ok (.getfield 18, 3) := by decide +kernel
theorem d_Mo_rootOf_178 : decode b_Mo_rootOf 178 = .ok (.invokevirtual 105, 3) := by decide +kernel
theorem d_Mo_rootOf_181 : decode b_Mo_rootOf 181 = .ok (.ifCond .eq 7, 3) := by decide +kernel
theorem d_Mo_rootOf_184 : decode b_Mo_rootOf 184 = .ok (.iconst 1, 1) := by decide +kernel
theorem d_Mo_rootOf_185 : decode b_Mo_rootOf 185 = .ok (.goto 4, 3) := by decide +kernel
theorem d_Mo_rootOf_188 : decode b_Mo_rootOf 188 = .ok (.iconst 0, 1) := by decide +kernel
theorem d_Mo_rootOf_189 : decode b_Mo_rootOf 189 = .ok (.ireturn, 1) := by decide +kernel
theorem d_Mo_compare_0 : decode b_Mo_compare 0 = .ok (.aload_n 0, 1) := by decide +kernel
theorem d_Mo_compare_1 : decode b_Mo_compare 1 = .ok (.iconst 0, 1) := by decide +kernel
theorem d_Mo_compare_2 : decode b_Mo_compare 2 = .ok (.putfield 183, 3) := by decide +kernel
theorem d_Mo_compare_5 : decode b_Mo_compare 5 = .ok (.aload_n 0, 1) := by decide +kernel
theorem d_Mo_compare_6 : decode b_Mo_compare 6 = .ok (.iload_n 1, 1) := by decide +kernel
theorem d_Mo_compare_7 : decode b_Mo_compare 7 = .ok (.iload_n 2, 1) := by decide +kernel
theorem d_Mo_compare_8 : decode b_Mo_compare 8 = .ok (.invokevirtual 216, 3) := by decide +kernel
theorem d_Mo_compare_11 : decode b_Mo_compare 11 = .ok (.ireturn, 1) := by decide +kernel
theorem d_Mo_compare_12 : decode b_Mo_compare 12 = .ok (.astore_n 3, 1) := by decide +kernel
theorem d_Mo_compare_13 : decode b_Mo_compare 13 = .ok (.aload_n 0, 1) := by decide +kernel
theorem d_Mo_compare_14 : decode b_Mo_compare 14 = .ok (.iconst 1, 1) := by decide +kernel
theorem d_Mo_compare_15 : decode b_Mo_compare 15 = .ok (.putfield 183, 3) := by decide +kernel
theorem d_Mo_compare_18 : decode b_Mo_compare 18 = .ok (.iconst 0, 1) := by decide +kernel
theorem d_Mo_compare_19 : decode b_Mo_compare 19 = .ok (.ireturn, 1) := by decide +kernel
theorem d_Mo_compare0_0 : decode b_Mo_compare0 0 = .ok (.iload_n 1, 1) := by decide +kernel
theorem d_Mo_compare0_1 : decode b_Mo_compare0 1 = .ok (.invokestatic 77, 3) := by decide +kernel
theorem d_Mo_compare0_4 : decode b_Mo_compare0 4 = .ok (.iload_n 2, 1) := by decide +kernel
theorem d_Mo_compare0_5 : decode b_Mo_compare0 5 = .ok (.invokestatic 77, 3) := by decide +kernel
theorem d_Mo_compare0_8 : decode b_Mo_compare0 8 = .ok (.aload_n 0, 1) := by decide +kernel
theorem d_Mo_compare0_9 : decode b_Mo_compare0 9 = .ok (.getfield 11, 3) := by decide +kernel
theorem d_Mo_compare0_12 : decode b_Mo_compare0 12 = .ok (.iload_n 1, 1) := by decide +kernel
theorem d_Mo_compare0_13 : decode b_Mo_compare0 13 = .ok (.aaload, 1) := by decide +kernel
theorem d_Mo_compare0_14 : decode b_Mo_compare0 14 = .ok (.aload_n 0, 1) := by decide +kernel
theorem d_Mo_compare0_15 : decode b_Mo_compare0 15 = .ok (.getfield 11, 3) := by decide +kernel
theorem d_Mo_compare0_18 : decode b_Mo_compare0 18 = .ok (.iload_n 2, 1) := by decide +kernel
theorem d_Mo_compare0_19 : decode b_Mo_compare0 19 = .ok (.aaload, 1) := by decide +kernel
theorem d_Mo_compare0_20 : decode b_Mo_compare0 20 = .ok (.invokevirtual 105, 3) := by decide +kernel
theorem d_Mo_compare0_23 : decode b_Mo_compare0 23 = .ok (.ireturn, 1) := by decide +kernel
theorem d_Mo_bits_0 : decode b_Mo_bits 0 = .ok (.aload_n 0, 1) := by decide +kernel
theorem d_Mo_bits_1 : decode b_Mo_bits 1 = .ok (.iconst 0, 1) := by decide +kernel
theorem d_Mo_bits_2 : decode b_Mo_bits 2 = .ok (.putfield 183, 3) := by decide +kernel
theorem d_Mo_bits_5 : decode b_Mo_bits 5 = .ok (.aload_n 0, 1) := by decide +kernel
theorem d_Mo_bits_6 : decode b_Mo_bits 6 = .ok (.iload_n 1, 1) := by decide +kernel
theorem d_Mo_bits_7 : decode b_Mo_bits 7 = .ok (.invokevirtual 219, 3) := by decide +kernel
theorem d_Mo_bits_10 : decode b_Mo_bits 10 = .ok (.ireturn, 1) := by decide +kernel
theorem d_Mo_bits_11 : decode b_Mo_bits 11 = .ok (.astore_n 2, 1) := by decide +kernel
theorem d_Mo_bits_12 : decode b_Mo_bits 12 = .ok (.aload_n 0, 1) := by decide +kernel
theorem d_Mo_bits_13 : decode b_Mo_bits 13 = .ok (.iconst 1, 1) := by decide +kernel
theorem d_Mo_bits_14 : decode b_Mo_bits 14 = .ok (.putfield 183, 3) := by decide +kernel
theorem d_Mo_bits_17 : decode b_Mo_bits 17 = .ok (.iconst 0, 1) := by decide +kernel
theorem d_Mo_bits_18 : decode b_Mo_bits 18 = .ok (.ireturn, 1) := by decide +kernel
theorem d_Mo_bits0_0 : decode b_Mo_bits0 0 = .ok (.iload_n 1, 1) := by decide +kernel
theorem d_Mo_bits0_1 : decode b_Mo_bits0 1 = .ok (.invokestatic 77, 3) := by decide +kernel
theorem d_Mo_bits0_4 : decode b_Mo_bits0 4 = .ok (.aload_n 0, 1) := by decide +kernel
theorem d_Mo_bits0_5 : decode b_Mo_bits0 5 = .ok (.getfield 11, 3) := by decide +kernel
theorem d_Mo_bits0_8 : decode b_Mo_bits0 8 = .ok (.iload_n 1, 1) := by decide +kernel
theorem d_Mo_bits0_9 : decode b_Mo_bits0 9 = .ok (.aaload, 1) := by decide +kernel
theorem d_Mo_bits0_10 : decode b_Mo_bits0 10 = .ok (.invokevirtual 73, 3) := by decide +kernel
theorem d_Mo_bits0_13 : decode b_Mo_bits0 13 = .ok (.ireturn, 1) := by decide +kernel
theorem d_Mo_word_0 : decode b_Mo_word 0 = .ok (.aload_n 0, 1) := by decide +kernel
theorem d_Mo_word_1 : decode b_Mo_word 1 = .ok (.iconst 0, 1) := by decide +kernel
theorem d_Mo_word_2 : decode b_Mo_word 2 = .ok (.putfield 183, 3) := by decide +kernel
theorem d_Mo_word_5 : decode b_Mo_word 5 = .ok (.aload_n 0, 1) := by decide +kernel
theorem d_Mo_word_6 : decode b_Mo_word 6 = .ok (.iload_n 1, 1) := by decide +kernel
theorem d_Mo_word_7 : decode b_Mo_word 7 = .ok (.iload_n 2, 1) := by decide +kernel
theorem d_Mo_word_8 : decode b_Mo_word 8 = .ok (.invokevirtual 222, 3) := by decide +kernel
theorem d_Mo_word_11 : decode b_Mo_word 11 = .ok (.lreturn, 1) := by decide +kernel
theorem d_Mo_word_12 : decode b_Mo_word 12 = .ok (.astore_n 3, 1) := by decide +kernel
theorem d_Mo_word_13 : decode b_Mo_word 13 = .ok (.aload_n 0, 1) := by decide +kernel
theorem d_Mo_word_14 : decode b_Mo_word 14 = .ok (.iconst 1, 1) := by decide +kernel
theorem d_Mo_word_15 : decode b_Mo_word 15 = .ok (.putfield 183, 3) := by decide +kernel
theorem d_Mo_word_18 : decode b_Mo_word 18 = .ok (.lconst 0, 1) := by decide +kernel
theorem d_Mo_word_19 : decode b_Mo_word 19 = .ok (.lreturn, 1) := by decide +kernel
theorem d_Mo_word0_0 : decode b_Mo_word0 0 = .ok (.iload_n 1, 1) := by decide +kernel
theorem d_Mo_word0_1 : decode b_Mo_word0 1 = .ok (.invokestatic 77, 3) := by decide +kernel
theorem d_Mo_word0_4 : decode b_Mo_word0 4 = .ok (.iload_n 2, 1) := by decide +kernel
theorem d_Mo_word0_5 : decode b_Mo_word0 5 = .ok (.iconst 0, 1) := by decide +kernel
theorem d_Mo_word0_6 : decode b_Mo_word0 6 = .ok (.sipush 6249, 3) := by decide +kernel
theorem d_Mo_word0_9 : decode b_Mo_word0 9 = .ok (.invokestatic 56, 3) := by decide +kernel
theorem d_Mo_word0_12 : decode b_Mo_word0 12 = .ok (.invokestatic 60, 3) := by decide +kernel
theorem d_Mo_word0_15 : decode b_Mo_word0 15 = .ok (.lconst 0, 1) := by decide +kernel
theorem d_Mo_word0_16 : decode b_Mo_word0 16 = .ok (.lstore_n 3, 1) := by decide +kernel
theorem d_Mo_word0_17 : decode b_Mo_word0 17 = .ok (.bipush 31, 2) := by decide +kernel
theorem d_Mo_word0_19 : decode b_Mo_word0 19 = .ok (.istore 5, 2) := by decide +kernel
theorem d_Mo_word0_21 : decode b_Mo_word0 21 = .ok (.iload 5, 2) := by decide +kernel
theorem d_Mo_word0_23 : decode b_Mo_word0 23 = .ok (.ifCond .lt 41, 3) := by decide +kernel
theorem d_Mo_word0_26 : decode b_Mo_word0 26 = .ok (.ldc2_w 160, 3) := by decide +kernel
theorem d_Mo_word0_29 : decode b_Mo_word0 29 = .ok (.lload_n 3, 1) := by decide +kernel
theorem d_Mo_word0_30 : decode b_Mo_word0 30 = .ok (.lmul, 1) := by decide +kernel
theorem d_Mo_word0_31 : decode b_Mo_word0 31 = .ok (.aload_n 0, 1) := by decide +kernel
theorem d_Mo_word0_32 : decode b_Mo_word0 32 = .ok (.getfield 11, 3) := by decide +kernel
theorem d_Mo_word0_35 : decode b_Mo_word0 35 = .ok (.iload_n 1, 1) := by decide +kernel
theorem d_Mo_word0_36 : decode b_Mo_word0 36 = .ok (.aaload, 1) := by decide +kernel
theorem d_Mo_word0_37 : decode b_Mo_word0 37 = .ok (.bipush 32, 2) := by decide +kernel
theorem d_Mo_word0_39 : decode b_Mo_word0 39 = .ok (.iload_n 2, 1) := by decide +kernel
theorem d_Mo_word0_40 : decode b_Mo_word0 40 = .ok (.imul, 1) := by decide +kernel
theorem d_Mo_word0_41 : decode b_Mo_word0 41 = .ok (.iload 5, 2) := by decide +kernel
theorem d_Mo_word0_43 : decode b_Mo_word0 43 = .ok (.iadd, 1) := by decide +kernel
theorem d_Mo_word0_44 : decode b_Mo_word0 44 = .ok (.invokevirtual 162, 3) := by decide +kernel
theorem d_Mo_word0_47 : decode b_Mo_word0 47 = .ok (.ifCond .eq 7, 3) := by decide +kernel
theorem d_Mo_word0_50 : decode b_Mo_word0 50 = .ok (.iconst 1, 1) := by decide +kernel
theorem d_Mo_word0_51 : decode b_Mo_word0 51 = .ok (.goto 4, 3) := by decide +kernel
theorem d_Mo_word0_54 : decode b_Mo_word0 54 = .ok (.iconst 0, 1) := by decide +kernel
theorem d_Mo_word0_55 : decode b_Mo_word0 55 = .ok (.i2l, 1) := by decide +kernel
theorem d_Mo_word0_56 : decode b_Mo_word0 56 = .ok (.ladd, 1) := by decide +kernel
theorem d_Mo_word0_57 : decode b_Mo_word0 57 = .ok (.lstore_n 3, 1) := by decide +kernel
theorem d_Mo_word0_58 : decode b_Mo_word0 58 = .ok (.iinc 5 (-1), 3) := by decide +kernel
theorem d_Mo_word0_61 : decode b_Mo_word0 61 = .ok (.goto (-40), 3) := by decide +kernel
theorem d_Mo_word0_64 : decode b_Mo_word0 64 = .ok (.lload_n 3, 1) := by decide +kernel
theorem d_Mo_word0_65 : decode b_Mo_word0 65 = .ok (.lreturn, 1) := by decide +kernel
theorem d_Mo_feed_0 : decode b_Mo_feed 0 = .ok (.aload_n 0, 1) := by decide +kernel
theorem d_Mo_feed_1 : decode b_Mo_feed 1 = .ok (.iconst 0, 1) := by decide +kernel
theorem d_Mo_feed_2 : decode b_Mo_feed 2 = .ok (.putfield 183, 3) := by decide +kernel
theorem d_Mo_feed_5 : decode b_Mo_feed 5 = .ok (.aload_n 0, 1) := by decide +kernel
theorem d_Mo_feed_6 : decode b_Mo_feed 6 = .ok (.iload_n 1, 1) := by decide +kernel
theorem d_Mo_feed_7 : decode b_Mo_feed 7 = .ok (.iload_n 2, 1) := by decide +kernel
theorem d_Mo_feed_8 : decode b_Mo_feed 8 = .ok (.iload_n 3, 1) := by decide +kernel
theorem d_Mo_feed_9 : decode b_Mo_feed 9 = .ok (.iload 4, 2) := by decide +kernel
theorem d_Mo_feed_11 : decode b_Mo_feed 11 = .ok (.iload 5, 2) := by decide +kernel
theorem d_Mo_feed_13 : decode b_Mo_feed 13 = .ok (.invokevirtual 226, 3) := by decide +kernel
theorem d_Mo_feed_16 : decode b_Mo_feed 16 = .ok (.goto 10, 3) := by decide +kernel
theorem d_Mo_feed_19 : decode b_Mo_feed 19 = .ok (.astore 6, 2) := by decide +kernel
theorem d_Mo_feed_21 : decode b_Mo_feed 21 = .ok (.aload_n 0, 1) := by decide +kernel
theorem d_Mo_feed_22 : decode b_Mo_feed 22 = .ok (.iconst 1, 1) := by decide +kernel
theorem d_Mo_feed_23 : decode b_Mo_feed 23 = .ok (.putfield 183, 3) := by decide +kernel
theorem d_Mo_feed_26 : decode b_Mo_feed 26 = .ok (.return_, 1) := by decide +kernel
theorem d_Mo_feed0_0 : decode b_Mo_feed0 0 = .ok (.aload_n 0, 1) := by decide +kernel
theorem d_Mo_feed0_1 : decode b_Mo_feed0 1 = .ok (.getfield 165, 3) := by decide +kernel
theorem d_Mo_feed0_4 : decode b_Mo_feed0 4 = .ok (.bipush 20, 2) := by decide +kernel
theorem d_Mo_feed0_6 : decode b_Mo_feed0 6 = .ok (.iadd, 1) := by decide +kernel
theorem d_Mo_feed0_7 : decode b_Mo_feed0 7 = .ok (.aload_n 0, 1) := by decide +kernel
theorem d_Mo_feed0_8 : decode b_Mo_feed0 8 = .ok (.getfield 46, 3) := by decide +kernel
theorem d_Mo_feed0_11 : decode b_Mo_feed0 11 = .ok (.arraylength, 1) := by decide +kernel
theorem d_Mo_feed0_12 : decode b_Mo_feed0 12 = .ok (.if_icmp .le 11, 3) := by decide +kernel
theorem d_Mo_feed0_15 : decode b_Mo_feed0 15 = .ok (.new 66, 3) := by decide +kernel
theorem d_Mo_feed0_18 : decode b_Mo_feed0 18 = .ok (.dup, 1) := by decide +kernel
theorem d_Mo_feed0_19 : decode b_Mo_feed0 19 = .ok (.invokespecial 68, 3) := by decide +kernel
theorem d_Mo_feed0_22 : decode b_Mo_feed0 22 = .ok (.athrow, 1) := by decide +kernel
theorem d_Mo_feed0_23 : decode b_Mo_feed0 23 = .ok (.iconst 5, 1) := by decide +kernel
theorem d_Mo_feed0_24 : decode b_Mo_feed0 24 = .ok (.newarray .int, 2) := by decide +kernel
theorem d_Mo_feed0_26 : decode b_Mo_feed0 26 = .ok (.dup, 1) := by decide +kernel
theorem d_Mo_feed0_27 : decode b_Mo_feed0 27 = .ok (.iconst 0, 1) := by decide +kernel
theorem d_Mo_feed0_28 : decode b_Mo_feed0 28 = .ok (.iload_n 1, 1) := by decide +kernel
theorem d_Mo_feed0_29 : decode b_Mo_feed0 29 = .ok (.iastore, 1) := by decide +kernel
theorem d_Mo_feed0_30 : decode b_Mo_feed0 30 = .ok (.dup, 1) := by decide +kernel
theorem d_Mo_feed0_31 : decode b_Mo_feed0 31 = .ok (.iconst 1, 1) := by decide +kernel
theorem d_Mo_feed0_32 : decode b_Mo_feed0 32 = .ok (.iload_n 2, 1) := by decide +kernel
theorem d_Mo_feed0_33 : decode b_Mo_feed0 33 = .ok (.iastore, 1) := by decide +kernel
theorem d_Mo_feed0_34 : decode b_Mo_feed0 34 = .ok (.dup, 1) := by decide +kernel
theorem d_Mo_feed0_35 : decode b_Mo_feed0 35 = .ok (.iconst 2, 1) := by decide +kernel
theorem d_Mo_feed0_36 : decode b_Mo_feed0 36 = .ok (.iload_n 3, 1) := by decide +kernel
theorem d_Mo_feed0_37 : decode b_Mo_feed0 37 = .ok (.iastore, 1) := by decide +kernel
theorem d_Mo_feed0_38 : decode b_Mo_feed0 38 = .ok (.dup, 1) := by decide +kernel
theorem d_Mo_feed0_39 : decode b_Mo_feed0 39 = .ok (.iconst 3, 1) := by decide +kernel
theorem d_Mo_feed0_40 : decode b_Mo_feed0 40 = .ok (.iload 4, 2) := by decide +kernel
theorem d_Mo_feed0_42 : decode b_Mo_feed0 42 = .ok (.iastore, 1) := by decide +kernel
theorem d_Mo_feed0_43 : decode b_Mo_feed0 43 = .ok (.dup, 1) := by decide +kernel
theorem d_Mo_feed0_44 : decode b_Mo_feed0 44 = .ok (.iconst 4, 1) := by decide +kernel
theorem d_Mo_feed0_45 : decode b_Mo_feed0 45 = .ok (.iload 5, 2) := by decide +kernel
theorem d_Mo_feed0_47 : decode b_Mo_feed0 47 = .ok (.iastore, 1) := by decide +kernel
theorem d_Mo_feed0_48 : decode b_Mo_feed0 48 = .ok (.astore 6, 2) := by decide +kernel
theorem d_Mo_feed0_50 : decode b_Mo_feed0 50 = .ok (.iconst 0, 1) := by decide +kernel
theorem d_Mo_feed0_51 : decode b_Mo_feed0 51 = .ok (.istore 7, 2) := by decide +kernel
theorem d_Mo_feed0_53 : decode b_Mo_feed0 53 = .ok (.iload 7, 2) := by decide +kernel
theorem d_Mo_feed0_55 : decode b_Mo_feed0 55 = .ok (.bipush 20, 2) := by decide +kernel
theorem d_Mo_feed0_57 : decode b_Mo_feed0 57 = .ok (.if_icmp .ge 40, 3) := by decide +kernel
theorem d_Mo_feed0_60 : decode b_Mo_feed0 60 = .ok (.aload_n 0, 1) := by decide +kernel
theorem d_Mo_feed0_61 : decode b_Mo_feed0 61 = .ok (.getfield 46, 3) := by decide +kernel
theorem d_Mo_feed0_64 : decode b_Mo_feed0 64 = .ok (.aload_n 0, 1) := by decide +kernel
theorem d_Mo_feed0_65 : decode b_Mo_feed0 65 = .ok (.getfield 165, 3) := by decide +kernel
theorem d_Mo_feed0_68 : decode b_Mo_feed0 68 = .ok (.iload 7, 2) := by decide +kernel
theorem d_Mo_feed0_70 : decode b_Mo_feed0 70 = .ok (.iadd, 1) := by decide +kernel
theorem d_Mo_feed0_71 : decode b_Mo_feed0 71 = .ok (.aload 6, 2) := by decide +kernel
theorem d_Mo_feed0_73 : decode b_Mo_feed0 73 = .ok (.iload 7, 2) := by decide +kernel
theorem d_Mo_feed0_75 : decode b_Mo_feed0 75 = .ok (.iconst 4, 1) := by decide +kernel
theorem d_Mo_feed0_76 : decode b_Mo_feed0 76 = .ok (.idiv, 1) := by decide +kernel
theorem d_Mo_feed0_77 : decode b_Mo_feed0 77 = .ok (.iaload, 1) := by decide +kernel
theorem d_Mo_feed0_78 : decode b_Mo_feed0 78 = .ok (.bipush 24, 2) := by decide +kernel
theorem d_Mo_feed0_80 : decode b_Mo_feed0 80 = .ok (.bipush 8, 2) := by decide +kernel
theorem d_Mo_feed0_82 : decode b_Mo_feed0 82 = .ok (.iload 7, 2) := by decide +kernel
theorem d_Mo_feed0_84 : decode b_Mo_feed0 84 = .ok (.iconst 4, 1) := by decide +kernel
theorem d_Mo_feed0_85 : decode b_Mo_feed0 85 = .ok (.irem, 1) := by decide +kernel
theorem d_Mo_feed0_86 : decode b_Mo_feed0 86 = .ok (.imul, 1) := by decide +kernel
theorem d_Mo_feed0_87 : decode b_Mo_feed0 87 = .ok (.isub, 1) := by decide +kernel
theorem d_Mo_feed0_88 : decode b_Mo_feed0 88 = .ok (.ishr, 1) := by decide +kernel
theorem d_Mo_feed0_89 : decode b_Mo_feed0 89 = .ok (.i2b, 1) := by decide +kernel
theorem d_Mo_feed0_90 : decode b_Mo_feed0 90 = .ok (.bastore, 1) := by decide +kernel
theorem d_Mo_feed0_91 : decode b_Mo_feed0 91 = .ok (.iinc 7 1, 3) := by decide +kernel
theorem d_Mo_feed0_94 : decode b_Mo_feed0 94 = .ok (.goto (-41), 3) := by decide +kernel
theorem d_Mo_feed0_97 : decode b_Mo_feed0 97 = .ok (.aload_n 0, 1) := by decide +kernel
theorem d_Mo_feed0_98 : decode b_Mo_feed0 98 = .ok (.dup, 1) := by decide +kernel
theorem d_Mo_feed0_99 : decode b_Mo_feed0 99 = .ok (.getfield 165, 3) := by decide +kernel
theorem d_Mo_feed0_102 : decode b_Mo_feed0 102 = .ok (.bipush 20, 2) := by decide +kernel
theorem d_Mo_feed0_104 : decode b_Mo_feed0 104 = .ok (.iadd, 1) := by decide +kernel
theorem d_Mo_feed0_105 : decode b_Mo_feed0 105 = .ok (.putfield 165, 3) := by decide +kernel
theorem d_Mo_feed0_108 : decode b_Mo_feed0 108 = .ok (.return_, 1) := by decide +kernel
theorem d_Mo_end_0 : decode b_Mo_end 0 = .ok (.aload_n 0, 1) := by decide +kernel
theorem d_Mo_end_1 : decode b_Mo_end 1 = .ok (.iconst 0, 1) := by decide +kernel
theorem d_Mo_end_2 : decode b_Mo_end 2 = .ok (.putfield 183, 3) := by decide +kernel
theorem d_Mo_end_5 : decode b_Mo_end 5 = .ok (.aload_n 0, 1) := by decide +kernel
theorem d_Mo_end_6 : decode b_Mo_end 6 = .ok (.iload_n 1, 1) := by decide +kernel
theorem d_Mo_end_7 : decode b_Mo_end 7 = .ok (.invokevirtual 230, 3) := by decide +kernel
theorem d_Mo_end_10 : decode b_Mo_end 10 = .ok (.ireturn, 1) := by decide +kernel
theorem d_Mo_end_11 : decode b_Mo_end 11 = .ok (.astore_n 2, 1) := by decide +kernel
theorem d_Mo_end_12 : decode b_Mo_end 12 = .ok (.aload_n 0, 1) := by decide +kernel
theorem d_Mo_end_13 : decode b_Mo_end 13 = .ok (.iconst 1, 1) := by decide +kernel
theorem d_Mo_end_14 : decode b_Mo_end 14 = .ok (.putfield 183, 3) := by decide +kernel
theorem d_Mo_end_17 : decode b_Mo_end 17 = .ok (.iconst 0, 1) := by decide +kernel
theorem d_Mo_end_18 : decode b_Mo_end 18 = .ok (.ireturn, 1) := by decide +kernel
theorem d_Mo_end0_0 : decode b_Mo_end0 0 = .ok (.iload_n 1, 1) := by decide +kernel
theorem d_Mo_end0_1 : decode b_Mo_end0 1 = .ok (.iconst 0, 1) := by decide +kernel
theorem d_Mo_end0_2 : decode b_Mo_end0 2 = .ok (.aload_n 0, 1) := by decide +kernel
theorem d_Mo_end0_3 : decode b_Mo_end0 3 = .ok (.getfield 165, 3) := by decide +kernel
theorem d_Mo_end0_6 : decode b_Mo_end0 6 = .ok (.invokestatic 56, 3) := by decide +kernel
theorem d_Mo_end0_9 : decode b_Mo_end0 9 = .ok (.invokestatic 60, 3) := by decide +kernel
theorem d_Mo_end0_12 : decode b_Mo_end0 12 = .ok (.aload_n 0, 1) := by decide +kernel
theorem d_Mo_end0_13 : decode b_Mo_end0 13 = .ok (.getfield 165, 3) := by decide +kernel
theorem d_Mo_end0_16 : decode b_Mo_end0 16 = .ok (.iload_n 1, 1) := by decide +kernel
theorem d_Mo_end0_17 : decode b_Mo_end0 17 = .ok (.isub, 1) := by decide +kernel
theorem d_Mo_end0_18 : decode b_Mo_end0 18 = .ok (.istore_n 2, 1) := by decide +kernel
theorem d_Mo_end0_19 : decode b_Mo_end0 19 = .ok (.aload_n 0, 1) := by decide +kernel
theorem d_Mo_end0_20 : decode b_Mo_end0 20 = .ok (.iload_n 1, 1) := by decide +kernel
theorem d_Mo_end0_21 : decode b_Mo_end0 21 = .ok (.putfield 165, 3) := by decide +kernel
theorem d_Mo_end0_24 : decode b_Mo_end0 24 = .ok (.iload_n 2, 1) := by decide +kernel
theorem d_Mo_end0_25 : decode b_Mo_end0 25 = .ok (.ireturn, 1) := by decide +kernel
theorem d_Mo_read_0 : decode b_Mo_read 0 = .ok (.aload_n 0, 1) := by decide +kernel
theorem d_Mo_read_1 : decode b_Mo_read 1 = .ok (.iconst 0, 1) := by decide +kernel
theorem d_Mo_read_2 : decode b_Mo_read 2 = .ok (.putfield 183, 3) := by decide +kernel
theorem d_Mo_read_5 : decode b_Mo_read 5 = .ok (.aload_n 0, 1) := by decide +kernel
theorem d_Mo_read_6 : decode b_Mo_read 6 = .ok (.iload_n 1, 1) := by decide +kernel
theorem d_Mo_read_7 : decode b_Mo_read 7 = .ok (.iload_n 2, 1) := by decide +kernel
theorem d_Mo_read_8 : decode b_Mo_read 8 = .ok (.invokevirtual 233, 3) := by decide +kernel
theorem d_Mo_read_11 : decode b_Mo_read 11 = .ok (.ireturn, 1) := by decide +kernel
theorem d_Mo_read_12 : decode b_Mo_read 12 = .ok (.astore_n 3, 1) := by decide +kernel
theorem d_Mo_read_13 : decode b_Mo_read 13 = .ok (.aload_n 0, 1) := by decide +kernel
theorem d_Mo_read_14 : decode b_Mo_read 14 = .ok (.iconst 1, 1) := by decide +kernel
theorem d_Mo_read_15 : decode b_Mo_read 15 = .ok (.putfield 183, 3) := by decide +kernel
theorem d_Mo_read_18 : decode b_Mo_read 18 = .ok (.goto 9, 3) := by decide +kernel
theorem d_Mo_read_21 : decode b_Mo_read 21 = .ok (.astore_n 3, 1) := by decide +kernel
theorem d_Mo_read_22 : decode b_Mo_read 22 = .ok (.aload_n 0, 1) := by decide +kernel
theorem d_Mo_read_23 : decode b_Mo_read 23 = .ok (.iconst 2, 1) := by decide +kernel
theorem d_Mo_read_24 : decode b_Mo_read 24 = .ok (.putfield 183, 3) := by decide +kernel
theorem d_Mo_read_27 : decode b_Mo_read 27 = .ok (.iconst 0, 1) := by decide +kernel
theorem d_Mo_read_28 : decode b_Mo_read 28 = .ok (.ireturn, 1) := by decide +kernel
theorem d_Mo_read0_0 : decode b_Mo_read0 0 = .ok (.iload_n 1, 1) := by decide +kernel
theorem d_Mo_read0_1 : decode b_Mo_read0 1 = .ok (.invokestatic 77, 3) := by decide +kernel
theorem d_Mo_read0_4 : decode b_Mo_read0 4 = .ok (.iload_n 2, 1) := by decide +kernel
theorem d_Mo_read0_5 : decode b_Mo_read0 5 = .ok (.iconst 2, 1) := by decide +kernel
theorem d_Mo_read0_6 : decode b_Mo_read0 6 = .ok (.bipush 36, 2) := by decide +kernel
theorem d_Mo_read0_8 : decode b_Mo_read0 8 = .ok (.invokestatic 56, 3) := by decide +kernel
theorem d_Mo_read0_11 : decode b_Mo_read0 11 = .ok (.invokestatic 60, 3) := by decide +kernel
theorem d_Mo_read0_14 : decode b_Mo_read0 14 = .ok (.aload_n 0, 1) := by decide +kernel
theorem d_Mo_read0_15 : decode b_Mo_read0 15 = .ok (.getfield 165, 3) := by decide +kernel
theorem d_Mo_read0_18 : decode b_Mo_read0 18 = .ok (.istore_n 3, 1) := by decide +kernel
theorem d_Mo_read0_19 : decode b_Mo_read0 19 = .ok (.aload_n 0, 1) := by decide +kernel
theorem d_Mo_read0_20 : decode b_Mo_read0 20 = .ok (.iconst 0, 1) := by decide +kernel
theorem d_Mo_read0_21 : decode b_Mo_read0 21 = .ok (.putfield 165, 3) := by decide +kernel
theorem d_Mo_read0_24 : decode b_Mo_read0 24 = .ok (.aload_n 0, 1) := by decide +kernel
theorem d_Mo_read0_25 : decode b_Mo_read0 25 = .ok (.getfield 18, 3) := by decide +kernel
theorem d_Mo_read0_28 : decode b_Mo_read0 28 = .ok (.lconst 0, 1) := by decide +kernel
theorem d_Mo_read0_29 : decode b_Mo_read0 29 = .ok (.invokevirtual 80, 3) := by decide +kernel
theorem d_Mo_read0_32 : decode b_Mo_read0 32 = .ok (.iconst 0, 1) := by decide +kernel
theorem d_Mo_read0_33 : decode b_Mo_read0 33 = .ok (.istore 4, 2) := by decide +kernel
theorem d_Mo_read0_35 : decode b_Mo_read0 35 = .ok (.iload 4, 2) := by decide +kernel
theorem d_Mo_read0_37 : decode b_Mo_read0 37 = .ok (.iload_n 3, 1) := by decide +kernel
theorem d_Mo_read0_38 : decode b_Mo_read0 38 = .ok (.if_icmp .ge 52, 3) := by decide +kernel
theorem d_Mo_read0_41 : decode b_Mo_read0 41 = .ok (.aload_n 0, 1) := by decide +kernel
theorem d_Mo_read0_42 : decode b_Mo_read0 42 = .ok (.getfield 46, 3) := by decide +kernel
theorem d_Mo_read0_45 : decode b_Mo_read0 45 = .ok (.iload 4, 2) := by decide +kernel
theorem d_Mo_read0_47 : decode b_Mo_read0 47 = .ok (.baload, 1) := by decide +kernel
theorem d_Mo_read0_48 : decode b_Mo_read0 48 = .ok (.iload_n 2, 1) := by decide +kernel
theorem d_Mo_read0_49 : decode b_Mo_read0 49 = .ok (.invokestatic 168, 3) := by decide +kernel
theorem d_Mo_read0_52 : decode b_Mo_read0 52 = .ok (.istore 5, 2) := by decide +kernel
theorem d_Mo_read0_54 : decode b_Mo_read0 54 = .ok (.iload 5, 2) := by decide +kernel
theorem d_Mo_read0_56 : decode b_Mo_read0 56 = .ok (.ifCond .ge 11, 3) := by decide +kernel
theorem d_Mo_read0_59 : decode b_Mo_read0 59 = .ok (.new 172, 3) := by decide +kernel
theorem d_Mo_read0_62 : decode b_Mo_read0 62 = .ok (.dup, 1) := by decide +kernel
theorem d_Mo_read0_63 : decode b_Mo_read0 63 = .ok (.invokespecial 174, 3) := by decide +kernel
theorem d_Mo_read0_66 : decode b_Mo_read0 66 = .ok (.athrow, 1) := by decide +kernel
theorem d_Mo_read0_67 : decode b_Mo_read0 67 = .ok (.aload_n 0, 1) := by decide +kernel
theorem d_Mo_read0_68 : decode b_Mo_read0 68 = .ok (.getfield 18, 3) := by decide +kernel
theorem d_Mo_read0_71 : decode b_Mo_read0 71 = .ok (.iload_n 2, 1) := by decide +kernel
theorem d_Mo_read0_72 : decode b_Mo_read0 72 = .ok (.invokevirtual 144, 3) := by decide +kernel
theorem d_Mo_read0_75 : decode b_Mo_read0 75 = .ok (.aload_n 0, 1) := by decide +kernel
theorem d_Mo_read0_76 : decode b_Mo_read0 76 = .ok (.getfield 18, 3) := by decide +kernel
theorem d_Mo_read0_79 : decode b_Mo_read0 79 = .ok (.iload 5, 2) := by decide +kernel
theorem d_Mo_read0_81 : decode b_Mo_read0 81 = .ok (.invokevirtual 175, 3) := by decide +kernel
theorem d_Mo_read0_84 : decode b_Mo_read0 84 = .ok (.iinc 4 1, 3) := by decide +kernel
theorem d_Mo_read0_87 : decode b_Mo_read0 87 = .ok (.goto (-52), 3) := by decide +kernel
theorem d_Mo_read0_90 : decode b_Mo_read0 90 = .ok (.aload_n 0, 1) := by decide +kernel
theorem d_Mo_read0_91 : decode b_Mo_read0 91 = .ok (.iload_n 1, 1) := by decide +kernel
theorem d_Mo_read0_92 : decode b_Mo_read0 92 = .ok (.aload_n 0, 1) := by decide +kernel
theorem d_Mo_read0_93 : decode b_Mo_read0 93 = .ok (.getfield 18, 3) := by decide +kernel
theorem d_Mo_read0_96 : decode b_Mo_read0 96 = .ok (.invokevirtual 83, 3) := by decide +kernel
theorem d_Mo_read0_99 : decode b_Mo_read0 99 = .ok (.ireturn, 1) := by decide +kernel
theorem d_Mo_digit_0 : decode b_Mo_digit 0 = .ok (.iload_n 0, 1) := by decide +kernel
theorem d_Mo_digit_1 : decode b_Mo_digit 1 = .ok (.bipush 48, 2) := by decide +kernel
theorem d_Mo_digit_3 : decode b_Mo_digit 3 = .ok (.if_icmp .lt 16, 3) := by decide +kernel
theorem d_Mo_digit_6 : decode b_Mo_digit 6 = .ok (.iload_n 0, 1) := by decide +kernel
theorem d_Mo_digit_7 : decode b_Mo_digit 7 = .ok (.bipush 57, 2) := by decide +kernel
theorem d_Mo_digit_9 : decode b_Mo_digit 9 = .ok (.if_icmp .gt 10, 3) := by decide +kernel
theorem d_Mo_digit_12 : decode b_Mo_digit 12 = .ok (.iload_n 0, 1) := by decide +kernel
theorem d_Mo_digit_13 : decode b_Mo_digit 13 = .ok (.bipush 48, 2) := by decide +kernel
theorem d_Mo_digit_15 : decode b_Mo_digit 15 = .ok (.isub, 1) := by decide +kernel
theorem d_Mo_digit_16 : decode b_Mo_digit 16 = .ok (.goto 49, 3) := by decide +kernel
theorem d_Mo_digit_19 : decode b_Mo_digit 19 = .ok (.iload_n 0, 1) := by decide +kernel
theorem d_Mo_digit_20 : decode b_Mo_digit 20 = .ok (.bipush 97, 2) := by decide +kernel
theorem d_Mo_digit_22 : decode b_Mo_digit 22 = .ok (.if_icmp .lt 19, 3) := by decide +kernel
theorem d_Mo_digit_25 : decode b_Mo_digit 25 = .ok (.iload_n 0, 1) := by decide +kernel
theorem d_Mo_digit_26 : decode b_Mo_digit 26 = .ok (.bipush 122, 2) := by decide +kernel
theorem d_Mo_digit_28 : decode b_Mo_digit 28 = .ok (.if_icmp .gt 13, 3) := by decide +kernel
theorem d_Mo_digit_31 : decode b_Mo_digit 31 = .ok (.iload_n 0, 1) := by decide +kernel
theorem d_Mo_digit_32 : decode b_Mo_digit 32 = .ok (.bipush 97, 2) := by decide +kernel
theorem d_Mo_digit_34 : decode b_Mo_digit 34 = .ok (.isub, 1) := by decide +kernel
theorem d_Mo_digit_35 : decode b_Mo_digit 35 = .ok (.bipush 10, 2) := by decide +kernel
theorem d_Mo_digit_37 : decode b_Mo_digit 37 = .ok (.iadd, 1) := by decide +kernel
theorem d_Mo_digit_38 : decode b_Mo_digit 38 = .ok (.goto 27, 3) := by decide +kernel
theorem d_Mo_digit_41 : decode b_Mo_digit 41 = .ok (.iload_n 0, 1) := by decide +kernel
theorem d_Mo_digit_42 : decode b_Mo_digit 42 = .ok (.bipush 65, 2) := by decide +kernel
theorem d_Mo_digit_44 : decode b_Mo_digit 44 = .ok (.if_icmp .lt 19, 3) := by decide +kernel
theorem d_Mo_digit_47 : decode b_Mo_digit 47 = .ok (.iload_n 0, 1) := by decide +kernel
theorem d_Mo_digit_48 : decode b_Mo_digit 48 = .ok (.bipush 90, 2) := by decide +kernel
theorem d_Mo_digit_50 : decode b_Mo_digit 50 = .ok (.if_icmp .gt 13, 3) := by decide +kernel
theorem d_Mo_digit_53 : decode b_Mo_digit 53 = .ok (.iload_n 0, 1) := by decide +kernel
theorem d_Mo_digit_54 : decode b_Mo_digit 54 = .ok (.bipush 65, 2) := by decide +kernel
theorem d_Mo_digit_56 : decode b_Mo_digit 56 = .ok (.isub, 1) := by decide +kernel
theorem d_Mo_digit_57 : decode b_Mo_digit 57 = .ok (.bipush 10, 2) := by decide +kernel
theorem d_Mo_digit_59 : decode b_Mo_digit 59 = .ok (.iadd, 1) := by decide +kernel
theorem d_Mo_digit_60 : decode b_Mo_digit 60 = .ok (.goto 5, 3) := by decide +kernel
theorem d_Mo_digit_63 : decode b_Mo_digit 63 = .ok (.bipush 99, 2) := by decide +kernel
theorem d_Mo_digit_65 : decode b_Mo_digit 65 = .ok (.istore_n 2, 1) := by decide +kernel
theorem d_Mo_digit_66 : decode b_Mo_digit 66 = .ok (.iload_n 2, 1) := by decide +kernel
theorem d_Mo_digit_67 : decode b_Mo_digit 67 = .ok (.iload_n 1, 1) := by decide +kernel
theorem d_Mo_digit_68 : decode b_Mo_digit 68 = .ok (.if_icmp .ge 7, 3) := by decide +kernel
theorem d_Mo_digit_71 : decode b_Mo_digit 71 = .ok (.iload_n 2, 1) := by decide +kernel
theorem d_Mo_digit_72 : decode b_Mo_digit 72 = .ok (.goto 4, 3) := by decide +kernel
theorem d_Mo_digit_75 : decode b_Mo_digit 75 = .ok (.iconst (-1), 1) := by decide +kernel
theorem d_Mo_digit_76 : decode b_Mo_digit 76 = .ok (.ireturn, 1) := by decide +kernel
theorem d_Mo_write_0 : decode b_Mo_write 0 = .ok (.aload_n 0, 1) := by decide +kernel
theorem d_Mo_write_1 : decode b_Mo_write 1 = .ok (.iconst 0, 1) := by decide +kernel
theorem d_Mo_write_2 : decode b_Mo_write 2 = .ok (.putfield 183, 3) := by decide +kernel
theorem d_Mo_write_5 : decode b_Mo_write 5 = .ok (.aload_n 0, 1) := by decide +kernel
theorem d_Mo_write_6 : decode b_Mo_write 6 = .ok (.iload_n 1, 1) := by decide +kernel
theorem d_Mo_write_7 : decode b_Mo_write 7 = .ok (.iload_n 2, 1) := by decide +kernel
theorem d_Mo_write_8 : decode b_Mo_write 8 = .ok (.invokevirtual 236, 3) := by decide +kernel
theorem d_Mo_write_11 : decode b_Mo_write 11 = .ok (.ireturn, 1) := by decide +kernel
theorem d_Mo_write_12 : decode b_Mo_write 12 = .ok (.astore_n 3, 1) := by decide +kernel
theorem d_Mo_write_13 : decode b_Mo_write 13 = .ok (.aload_n 0, 1) := by decide +kernel
theorem d_Mo_write_14 : decode b_Mo_write 14 = .ok (.iconst 1, 1) := by decide +kernel
theorem d_Mo_write_15 : decode b_Mo_write 15 = .ok (.putfield 183, 3) := by decide +kernel
theorem d_Mo_write_18 : decode b_Mo_write 18 = .ok (.goto 9, 3) := by decide +kernel
theorem d_Mo_write_21 : decode b_Mo_write 21 = .ok (.astore_n 3, 1) := by decide +kernel
theorem d_Mo_write_22 : decode b_Mo_write 22 = .ok (.aload_n 0, 1) := by decide +kernel
theorem d_Mo_write_23 : decode b_Mo_write 23 = .ok (.iconst 2, 1) := by decide +kernel
theorem d_Mo_write_24 : decode b_Mo_write 24 = .ok (.putfield 183, 3) := by decide +kernel
theorem d_Mo_write_27 : decode b_Mo_write 27 = .ok (.iconst 0, 1) := by decide +kernel
theorem d_Mo_write_28 : decode b_Mo_write 28 = .ok (.ireturn, 1) := by decide +kernel
theorem d_Mo_write0_0 : decode b_Mo_write0 0 = .ok (.iload_n 1, 1) := by decide +kernel
theorem d_Mo_write0_1 : decode b_Mo_write0 1 = .ok (.invokestatic 77, 3) := by decide +kernel
theorem d_Mo_write0_4 : decode b_Mo_write0 4 = .ok (.iload_n 2, 1) := by decide +kernel
theorem d_Mo_write0_5 : decode b_Mo_write0 5 = .ok (.iconst 2, 1) := by decide +kernel
theorem d_Mo_write0_6 : decode b_Mo_write0 6 = .ok (.bipush 36, 2) := by decide +kernel
theorem d_Mo_write0_8 : decode b_Mo_write0 8 = .ok (.invokestatic 56, 3) := by decide +kernel
theorem d_Mo_write0_11 : decode b_Mo_write0 11 = .ok (.invokestatic 60, 3) := by decide +kernel
theorem d_Mo_write0_14 : decode b_Mo_write0 14 = .ok (.aload_n 0, 1) := by decide +kernel
theorem d_Mo_write0_15 : decode b_Mo_write0 15 = .ok (.getfield 18, 3) := by decide +kernel
theorem d_Mo_write0_18 : decode b_Mo_write0 18 = .ok (.aload_n 0, 1) := by decide +kernel
theorem d_Mo_write0_19 : decode b_Mo_write0 19 = .ok (.getfield 11, 3) := by decide +kernel
theorem d_Mo_write0_22 : decode b_Mo_write0 22 = .ok (.iload_n 1, 1) := by decide +kernel
theorem d_Mo_write0_23 : decode b_Mo_write0 23 = .ok (.aaload, 1) := by decide +kernel
theorem d_Mo_write0_24 : decode b_Mo_write0 24 = .ok (.invokevirtual 69, 3) := by decide +kernel
theorem d_Mo_write0_27 : decode b_Mo_write0 27 = .ok (.iconst 0, 1) := by decide +kernel
theorem d_Mo_write0_28 : decode b_Mo_write0 28 = .ok (.istore_n 3, 1) := by decide +kernel
theorem d_Mo_write0_29 : decode b_Mo_write0 29 = .ok (.aload_n 0, 1) := by decide +kernel
theorem d_Mo_write0_30 : decode b_Mo_write0 30 = .ok (.getfield 18, 3) := by decide +kernel
theorem d_Mo_write0_33 : decode b_Mo_write0 33 = .ok (.iload_n 2, 1) := by decide +kernel
theorem d_Mo_write0_34 : decode b_Mo_write0 34 = .ok (.invokevirtual 147, 3) := by decide +kernel
theorem d_Mo_write0_37 : decode b_Mo_write0 37 = .ok (.pop, 1) := by decide +kernel
theorem d_Mo_write0_38 : decode b_Mo_write0 38 = .ok (.iinc 3 1, 3) := by decide +kernel
theorem d_Mo_write0_41 : decode b_Mo_write0 41 = .ok (.iload_n 3, 1) := by decide +kernel
theorem d_Mo_write0_42 : decode b_Mo_write0 42 = .ok (.sipush 20000, 3) := by decide +kernel
theorem d_Mo_write0_45 : decode b_Mo_write0 45 = .ok (.if_icmp .le 11, 3) := by decide +kernel
theorem d_Mo_write0_48 : decode b_Mo_write0 48 = .ok (.new 66, 3) := by decide +kernel
theorem d_Mo_write0_51 : decode b_Mo_write0 51 = .ok (.dup, 1) := by decide +kernel
theorem d_Mo_write0_52 : decode b_Mo_write0 52 = .ok (.invokespecial 68, 3) := by decide +kernel
theorem d_Mo_write0_55 : decode b_Mo_write0 55 = .ok (.athrow, 1) := by decide +kernel
theorem d_Mo_write0_56 : decode b_Mo_write0 56 = .ok (.aload_n 0, 1) := by decide +kernel
theorem d_Mo_write0_57 : decode b_Mo_write0 57 = .ok (.getfield 18, 3) := by decide +kernel
theorem d_Mo_write0_60 : decode b_Mo_write0 60 = .ok (.getfield 89, 3) := by decide +kernel
theorem d_Mo_write0_63 : decode b_Mo_write0 63 = .ok (.ifCond .gt (-34), 3) := by decide +kernel
theorem d_Mo_write0_66 : decode b_Mo_write0 66 = .ok (.aload_n 0, 1) := by decide +kernel
theorem d_Mo_write0_67 : decode b_Mo_write0 67 = .ok (.getfield 18, 3) := by decide +kernel
theorem d_Mo_write0_70 : decode b_Mo_write0 70 = .ok (.aload_n 0, 1) := by decide +kernel
theorem d_Mo_write0_71 : decode b_Mo_write0 71 = .ok (.getfield 11, 3) := by decide +kernel
theorem d_Mo_write0_74 : decode b_Mo_write0 74 = .ok (.iload_n 1, 1) := by decide +kernel
theorem d_Mo_write0_75 : decode b_Mo_write0 75 = .ok (.aaload, 1) := by decide +kernel
theorem d_Mo_write0_76 : decode b_Mo_write0 76 = .ok (.invokevirtual 69, 3) := by decide +kernel
theorem d_Mo_write0_79 : decode b_Mo_write0 79 = .ok (.iload_n 3, 1) := by decide +kernel
theorem d_Mo_write0_80 : decode b_Mo_write0 80 = .ok (.iconst 1, 1) := by decide +kernel
theorem d_Mo_write0_81 : decode b_Mo_write0 81 = .ok (.isub, 1) := by decide +kernel
theorem d_Mo_write0_82 : decode b_Mo_write0 82 = .ok (.istore 4, 2) := by decide +kernel
theorem d_Mo_write0_84 : decode b_Mo_write0 84 = .ok (.iload 4, 2) := by decide +kernel
theorem d_Mo_write0_86 : decode b_Mo_write0 86 = .ok (.ifCond .lt 50, 3) := by decide +kernel
theorem d_Mo_write0_89 : decode b_Mo_write0 89 = .ok (.aload_n 0, 1) := by decide +kernel
theorem d_Mo_write0_90 : decode b_Mo_write0 90 = .ok (.getfield 18, 3) := by decide +kernel
theorem d_Mo_write0_93 : decode b_Mo_write0 93 = .ok (.iload_n 2, 1) := by decide +kernel
theorem d_Mo_write0_94 : decode b_Mo_write0 94 = .ok (.invokevirtual 147, 3) := by decide +kernel
theorem d_Mo_write0_97 : decode b_Mo_write0 97 = .ok (.istore 5, 2) := by decide +kernel
theorem d_Mo_write0_99 : decode b_Mo_write0 99 = .ok (.aload_n 0, 1) := by decide +kernel
theorem d_Mo_write0_100 : decode b_Mo_write0 100 = .ok (.getfield 50, 3) := by decide +kernel
theorem d_Mo_write0_103 : decode b_Mo_write0 103 = .ok (.iload 4, 2) := by decide +kernel
theorem d_Mo_write0_105 : decode b_Mo_write0 105 = .ok (.iload 5, 2) := by decide +kernel
theorem d_Mo_write0_107 : decode b_Mo_write0 107 = .ok (.bipush 10, 2) := by decide +kernel
theorem d_Mo_write0_109 : decode b_Mo_write0 109 = .ok (.if_icmp .ge 11, 3) := by decide +kernel
theorem d_Mo_write0_112 : decode b_Mo_write0 112 = .ok (.bipush 48, 2) := by decide +kernel
theorem d_Mo_write0_114 : decode b_Mo_write0 114 = .ok (.iload 5, 2) := by decide +kernel
theorem d_Mo_write0_116 : decode b_Mo_write0 116 = .ok (.iadd, 1) := by decide +kernel
theorem d_Mo_write0_117 : decode b_Mo_write0 117 = .ok (.goto 11, 3) := by decide +kernel
theorem d_Mo_write0_120 : decode b_Mo_write0 120 = .ok (.bipush 97, 2) := by decide +kernel
theorem d_Mo_write0_122 : decode b_Mo_write0 122 = .ok (.iload 5, 2) := by decide +kernel
theorem d_Mo_write0_124 : decode b_Mo_write0 124 = .ok (.iadd, 1) := by decide +kernel
theorem d_Mo_write0_125 : decode b_Mo_write0 125 = .ok (.bipush 10, 2) := by decide +kernel
theorem d_Mo_write0_127 : decode b_Mo_write0 127 = .ok (.isub, 1) := by decide +kernel
theorem d_Mo_write0_128 : decode b_Mo_write0 128 = .ok (.i2b, 1) := by decide +kernel
theorem d_Mo_write0_129 : decode b_Mo_write0 129 = .ok (.bastore, 1) := by decide +kernel
theorem d_Mo_write0_130 : decode b_Mo_write0 130 = .ok (.iinc 4 (-1), 3) := by decide +kernel
theorem d_Mo_write0_133 : decode b_Mo_write0 133 = .ok (.goto (-49), 3) := by decide +kernel
theorem d_Mo_write0_136 : decode b_Mo_write0 136 = .ok (.aload_n 0, 1) := by decide +kernel
theorem d_Mo_write0_137 : decode b_Mo_write0 137 = .ok (.iload_n 3, 1) := by decide +kernel
theorem d_Mo_write0_138 : decode b_Mo_write0 138 = .ok (.putfield 177, 3) := by decide +kernel
theorem d_Mo_write0_141 : decode b_Mo_write0 141 = .ok (.iload_n 3, 1) := by decide +kernel
theorem d_Mo_write0_142 : decode b_Mo_write0 142 = .ok (.ireturn, 1) := by decide +kernel
theorem d_Mo_octet_0 : decode b_Mo_octet 0 = .ok (.aload_n 0, 1) := by decide +kernel
theorem d_Mo_octet_1 : decode b_Mo_octet 1 = .ok (.iconst 0, 1) := by decide +kernel
theorem d_Mo_octet_2 : decode b_Mo_octet 2 = .ok (.putfield 183, 3) := by decide +kernel
theorem d_Mo_octet_5 : decode b_Mo_octet 5 = .ok (.aload_n 0, 1) := by decide +kernel
theorem d_Mo_octet_6 : decode b_Mo_octet 6 = .ok (.iload_n 1, 1) := by decide +kernel
theorem d_Mo_octet_7 : decode b_Mo_octet 7 = .ok (.invokevirtual 239, 3) := by decide +kernel
theorem d_Mo_octet_10 : decode b_Mo_octet 10 = .ok (.ireturn, 1) := by decide +kernel
theorem d_Mo_octet_11 : decode b_Mo_octet 11 = .ok (.astore_n 2, 1) := by decide +kernel
theorem d_Mo_octet_12 : decode b_Mo_octet 12 = .ok (.aload_n 0, 1) := by decide +kernel
theorem d_Mo_octet_13 : decode b_Mo_octet 13 = .ok (.iconst 1, 1) := by decide +kernel
theorem d_Mo_octet_14 : decode b_Mo_octet 14 = .ok (.putfield 183, 3) := by decide +kernel
theorem d_Mo_octet_17 : decode b_Mo_octet 17 = .ok (.iconst 0, 1) := by decide +kernel
theorem d_Mo_octet_18 : decode b_Mo_octet 18 = .ok (.ireturn, 1) := by decide +kernel
theorem d_Mo_octet0_0 : decode b_Mo_octet0 0 = .ok (.iload_n 1, 1) := by decide +kernel
theorem d_Mo_octet0_1 : decode b_Mo_octet0 1 = .ok (.iconst 0, 1) := by decide +kernel
theorem d_Mo_octet0_2 : decode b_Mo_octet0 2 = .ok (.aload_n 0, 1) := by decide +kernel
theorem d_Mo_octet0_3 : decode b_Mo_octet0 3 = .ok (.getfield 177, 3) := by decide +kernel
theorem d_Mo_octet0_6 : decode b_Mo_octet0 6 = .ok (.iconst 1, 1) := by decide +kernel
theorem d_Mo_octet0_7 : decode b_Mo_octet0 7 = .ok (.isub, 1) := by decide +kernel
theorem d_Mo_octet0_8 : decode b_Mo_octet0 8 = .ok (.invokestatic 56, 3) := by decide +kernel
theorem d_Mo_octet0_11 : decode b_Mo_octet0 11 = .ok (.ifCond .ne 11, 3) := by decide +kernel
theorem d_Mo_octet0_14 : decode b_Mo_octet0 14 = .ok (.new 180, 3) := by decide +kernel
theorem d_Mo_octet0_17 : decode b_Mo_octet0 17 = .ok (.dup, 1) := by decide +kernel
theorem d_Mo_octet0_18 : decode b_Mo_octet0 18 = .ok (.invokespecial 182, 3) := by decide +kernel
theorem d_Mo_octet0_21 : decode b_Mo_octet0 21 = .ok (.athrow, 1) := by decide +kernel
theorem d_Mo_octet0_22 : decode b_Mo_octet0 22 = .ok (.aload_n 0, 1) := by decide +kernel
theorem d_Mo_octet0_23 : decode b_Mo_octet0 23 = .ok (.getfield 50, 3) := by decide +kernel
theorem d_Mo_octet0_26 : decode b_Mo_octet0 26 = .ok (.iload_n 1, 1) := by decide +kernel
theorem d_Mo_octet0_27 : decode b_Mo_octet0 27 = .ok (.baload, 1) := by decide +kernel
theorem d_Mo_octet0_28 : decode b_Mo_octet0 28 = .ok (.ireturn, 1) := by decide +kernel
