/-! DECODE ROWS of Mn (by program) -/
theorem d_Mn_init_0 : decode b_Mn_init 0 = .ok (.aload_n 0, 1) := by decide +kernel
theorem d_Mn_init_1 : decode b_Mn_init 1 = .ok (.invokespecial 3, 3) := by decide +kernel
theorem d_Mn_init_4 : decode b_Mn_init 4 = .ok (.aload_n 0, 1) := by decide +kernel
theorem d_Mn_init_5 : decode b_Mn_init 5 = .ok (.iload_n 1, 1) := by decide +kernel
theorem d_Mn_init_6 : decode b_Mn_init 6 = .ok (.newarray .int, 2) := by decide +kernel
theorem d_Mn_init_8 : decode b_Mn_init 8 = .ok (.putfield 9, 3) := by decide +kernel
theorem d_Mn_init_11 : decode b_Mn_init 11 = .ok (.return_, 1) := by decide +kernel
theorem d_Mn_set_J_0 : decode b_Mn_set_J 0 = .ok (.aload_n 0, 1) := by decide +kernel
theorem d_Mn_set_J_1 : decode b_Mn_set_J 1 = .ok (.iconst 0, 1) := by decide +kernel
theorem d_Mn_set_J_2 : decode b_Mn_set_J 2 = .ok (.putfield 15, 3) := by decide +kernel
theorem d_Mn_set_J_5 : decode b_Mn_set_J 5 = .ok (.lload_n 1, 1) := by decide +kernel
theorem d_Mn_set_J_6 : decode b_Mn_set_J 6 = .ok (.lstore_n 3, 1) := by decide +kernel
theorem d_Mn_set_J_7 : decode b_Mn_set_J 7 = .ok (.lload_n 3, 1) := by decide +kernel
theorem d_Mn_set_J_8 : decode b_Mn_set_J 8 = .ok (.lconst 0, 1) := by decide +kernel
theorem d_Mn_set_J_9 : decode b_Mn_set_J 9 = .ok (.lcmp, 1) := by decide +kernel
theorem d_Mn_set_J_10 : decode b_Mn_set_J 10 = .ok (.ifCond .eq 35, 3) := by decide +kernel
theorem d_Mn_set_J_13 : decode b_Mn_set_J 13 = .ok (.aload_n 0, 1) := by decide +kernel
theorem d_Mn_set_J_14 : decode b_Mn_set_J 14 = .ok (.getfield 9, 3) := by decide +kernel
theorem d_Mn_set_J_17 : decode b_Mn_set_J 17 = .ok (.aload_n 0, 1) := by decide +kernel
theorem d_Mn_set_J_18 : decode b_Mn_set_J 18 = .ok (.getfield 15, 3) := by decide +kernel
theorem d_Mn_set_J_21 : decode b_Mn_set_J 21 = .ok (.lload_n 3, 1) := by decide +kernel
theorem d_Mn_set_J_22 : decode b_Mn_set_J 22 = .ok (.l2i, 1) := by decide +kernel
theorem d_Mn_set_J_23 : decode b_Mn_set_J 23 = .ok (.ldc 25, 2) := by decide +kernel
theorem d_Mn_set_J_25 : decode b_Mn_set_J 25 = .ok (.iand, 1) := by decide +kernel
theorem d_Mn_set_J_26 : decode b_Mn_set_J 26 = .ok (.iastore, 1) := by decide +kernel
theorem d_Mn_set_J_27 : decode b_Mn_set_J 27 = .ok (.aload_n 0, 1) := by decide +kernel
theorem d_Mn_set_J_28 : decode b_Mn_set_J 28 = .ok (.dup, 1) := by decide +kernel
theorem d_Mn_set_J_29 : decode b_Mn_set_J 29 = .ok (.getfield 15, 3) := by decide +kernel
theorem d_Mn_set_J_32 : decode b_Mn_set_J 32 = .ok (.iconst 1, 1) := by decide +kernel
theorem d_Mn_set_J_33 : decode b_Mn_set_J 33 = .ok (.iadd, 1) := by decide +kernel
theorem d_Mn_set_J_34 : decode b_Mn_set_J 34 = .ok (.putfield 15, 3) := by decide +kernel
theorem d_Mn_set_J_37 : decode b_Mn_set_J 37 = .ok (.lload_n 3, 1) := by decide +kernel
theorem d_Mn_set_J_38 : decode b_Mn_set_J 38 = .ok (.bipush 30, 2) := by decide +kernel
theorem d_Mn_set_J_40 : decode b_Mn_set_J 40 = .ok (.lushr, 1) := by decide +kernel
theorem d_Mn_set_J_41 : decode b_Mn_set_J 41 = .ok (.lstore_n 3, 1) := by decide +kernel
theorem d_Mn_set_J_42 : decode b_Mn_set_J 42 = .ok (.goto (-35), 3) := by decide +kernel
theorem d_Mn_set_J_45 : decode b_Mn_set_J 45 = .ok (.return_, 1) := by decide +kernel
theorem d_Mn_set_N_0 : decode b_Mn_set_N 0 = .ok (.aload_n 1, 1) := by decide +kernel
theorem d_Mn_set_N_1 : decode b_Mn_set_N 1 = .ok (.getfield 9, 3) := by decide +kernel
theorem d_Mn_set_N_4 : decode b_Mn_set_N 4 = .ok (.iconst 0, 1) := by decide +kernel
theorem d_Mn_set_N_5 : decode b_Mn_set_N 5 = .ok (.aload_n 0, 1) := by decide +kernel
theorem d_Mn_set_N_6 : decode b_Mn_set_N 6 = .ok (.getfield 9, 3) := by decide +kernel
theorem d_Mn_set_N_9 : decode b_Mn_set_N 9 = .ok (.iconst 0, 1) := by decide +kernel
theorem d_Mn_set_N_10 : decode b_Mn_set_N 10 = .ok (.aload_n 1, 1) := by decide +kernel
theorem d_Mn_set_N_11 : decode b_Mn_set_N 11 = .ok (.getfield 15, 3) := by decide +kernel
theorem d_Mn_set_N_14 : decode b_Mn_set_N 14 = .ok (.invokestatic 19, 3) := by decide +kernel
theorem d_Mn_set_N_17 : decode b_Mn_set_N 17 = .ok (.aload_n 0, 1) := by decide +kernel
theorem d_Mn_set_N_18 : decode b_Mn_set_N 18 = .ok (.aload_n 1, 1) := by decide +kernel
theorem d_Mn_set_N_19 : decode b_Mn_set_N 19 = .ok (.getfield 15, 3) := by decide +kernel
theorem d_Mn_set_N_22 : decode b_Mn_set_N 22 = .ok (.putfield 15, 3) := by decide +kernel
theorem d_Mn_set_N_25 : decode b_Mn_set_N 25 = .ok (.return_, 1) := by decide +kernel
theorem d_Mn_bits_0 : decode b_Mn_bits 0 = .ok (.aload_n 0, 1) := by decide +kernel
theorem d_Mn_bits_1 : decode b_Mn_bits 1 = .ok (.getfield 15, 3) := by decide +kernel
theorem d_Mn_bits_4 : decode b_Mn_bits 4 = .ok (.ifCond .ne 5, 3) := by decide +kernel
theorem d_Mn_bits_7 : decode b_Mn_bits 7 = .ok (.iconst 0, 1) := by decide +kernel
theorem d_Mn_bits_8 : decode b_Mn_bits 8 = .ok (.ireturn, 1) := by decide +kernel
theorem d_Mn_bits_9 : decode b_Mn_bits 9 = .ok (.bipush 30, 2) := by decide +kernel
theorem d_Mn_bits_11 : decode b_Mn_bits 11 = .ok (.aload_n 0, 1) := by decide +kernel
theorem d_Mn_bits_12 : decode b_Mn_bits 12 = .ok (.getfield 15, 3) := by decide +kernel
theorem d_Mn_bits_15 : decode b_Mn_bits 15 = .ok (.iconst 1, 1) := by decide +kernel
theorem d_Mn_bits_16 : decode b_Mn_bits 16 = .ok (.isub, 1) := by decide +kernel
theorem d_Mn_bits_17 : decode b_Mn_bits 17 = .ok (.imul, 1) := by decide +kernel
theorem d_Mn_bits_18 : decode b_Mn_bits 18 = .ok (.istore_n 1, 1) := by decide +kernel
theorem d_Mn_bits_19 : decode b_Mn_bits 19 = .ok (.aload_n 0, 1) := by decide +kernel
theorem d_Mn_bits_20 : decode b_Mn_bits 20 = .ok (.getfield 9, 3) := by decide +kernel
theorem d_Mn_bits_23 : decode b_Mn_bits 23 = .ok (.aload_n 0, 1) := by decide +kernel
theorem d_Mn_bits_24 : decode b_Mn_bits 24 = .ok (.getfield 15, 3) := by decide +kernel
theorem d_Mn_bits_27 : decode b_Mn_bits 27 = .ok (.iconst 1, 1) := by decide +kernel
theorem d_Mn_bits_28 : decode b_Mn_bits 28 = .ok (.isub, 1) := by decide +kernel
theorem d_Mn_bits_29 : decode b_Mn_bits 29 = .ok (.iaload, 1) := by decide +kernel
theorem d_Mn_bits_30 : decode b_Mn_bits 30 = .ok (.istore_n 2, 1) := by decide +kernel
theorem d_Mn_bits_31 : decode b_Mn_bits 31 = .ok (.iload_n 2, 1) := by decide +kernel
theorem d_Mn_bits_32 : decode b_Mn_bits 32 = .ok (.ifCond .eq 13, 3) := by decide +kernel
theorem d_Mn_bits_35 : decode b_Mn_bits 35 = .ok (.iinc 1 1, 3) := by decide +kernel
theorem d_Mn_bits_38 : decode b_Mn_bits 38 = .ok (.iload_n 2, 1) := by decide +kernel
theorem d_Mn_bits_39 : decode b_Mn_bits 39 = .ok (.iconst 1, 1) := by decide +kernel
theorem d_Mn_bits_40 : decode b_Mn_bits 40 = .ok (.ishr, 1) := by decide +kernel
theorem d_Mn_bits_41 : decode b_Mn_bits 41 = .ok (.istore_n 2, 1) := by decide +kernel
theorem d_Mn_bits_42 : decode b_Mn_bits 42 = .ok (.goto (-11), 3) := by decide +kernel
theorem d_Mn_bits_45 : decode b_Mn_bits 45 = .ok (.iload_n 1, 1) := by decide +kernel
theorem d_Mn_bits_46 : decode b_Mn_bits 46 = .ok (.ireturn, 1) := by decide +kernel
theorem d_Mn_up_0 : decode b_Mn_up 0 = .ok (.aload_n 0, 1) := by decide +kernel
theorem d_Mn_up_1 : decode b_Mn_up 1 = .ok (.getfield 15, 3) := by decide +kernel
theorem d_Mn_up_4 : decode b_Mn_up 4 = .ok (.ifCond .eq 7, 3) := by decide +kernel
theorem d_Mn_up_7 : decode b_Mn_up 7 = .ok (.iload_n 1, 1) := by decide +kernel
theorem d_Mn_up_8 : decode b_Mn_up 8 = .ok (.ifCond .ne 4, 3) := by decide +kernel
theorem d_Mn_up_11 : decode b_Mn_up 11 = .ok (.return_, 1) := by decide +kernel
theorem d_Mn_up_12 : decode b_Mn_up 12 = .ok (.iload_n 1, 1) := by decide +kernel
theorem d_Mn_up_13 : decode b_Mn_up 13 = .ok (.bipush 30, 2) := by decide +kernel
theorem d_Mn_up_15 : decode b_Mn_up 15 = .ok (.idiv, 1) := by decide +kernel
theorem d_Mn_up_16 : decode b_Mn_up 16 = .ok (.istore_n 2, 1) := by decide +kernel
theorem d_Mn_up_17 : decode b_Mn_up 17 = .ok (.iload_n 1, 1) := by decide +kernel
theorem d_Mn_up_18 : decode b_Mn_up 18 = .ok (.bipush 30, 2) := by decide +kernel
theorem d_Mn_up_20 : decode b_Mn_up 20 = .ok (.irem, 1) := by decide +kernel
theorem d_Mn_up_21 : decode b_Mn_up 21 = .ok (.istore_n 3, 1) := by decide +kernel
theorem d_Mn_up_22 : decode b_Mn_up 22 = .ok (.aload_n 0, 1) := by decide +kernel
theorem d_Mn_up_23 : decode b_Mn_up 23 = .ok (.getfield 9, 3) := by decide +kernel
theorem d_Mn_up_26 : decode b_Mn_up 26 = .ok (.aload_n 0, 1) := by decide +kernel
theorem d_Mn_up_27 : decode b_Mn_up 27 = .ok (.getfield 15, 3) := by decide +kernel
theorem d_Mn_up_30 : decode b_Mn_up 30 = .ok (.iload_n 2, 1) := by decide +kernel
theorem d_Mn_up_31 : decode b_Mn_up 31 = .ok (.iadd, 1) := by decide +kernel
theorem d_Mn_up_32 : decode b_Mn_up 32 = .ok (.iconst 0, 1) := by decide +kernel
theorem d_Mn_up_33 : decode b_Mn_up 33 = .ok (.iastore, 1) := by decide +kernel
theorem d_Mn_up_34 : decode b_Mn_up 34 = .ok (.aload_n 0, 1) := by decide +kernel
theorem d_Mn_up_35 : decode b_Mn_up 35 = .ok (.getfield 15, 3) := by decide +kernel
theorem d_Mn_up_38 : decode b_Mn_up 38 = .ok (.iconst 1, 1) := by decide +kernel
theorem d_Mn_up_39 : decode b_Mn_up 39 = .ok (.isub, 1) := by decide +kernel
theorem d_Mn_up_40 : decode b_Mn_up 40 = .ok (.istore 4, 2) := by decide +kernel
theorem d_Mn_up_42 : decode b_Mn_up 42 = .ok (.iload 4, 2) := by decide +kernel
theorem d_Mn_up_44 : decode b_Mn_up 44 = .ok (.ifCond .lt 80, 3) := by decide +kernel
theorem d_Mn_up_47 : decode b_Mn_up 47 = .ok (.aload_n 0, 1) := by decide +kernel
theorem d_Mn_up_48 : decode b_Mn_up 48 = .ok (.getfield 9, 3) := by decide +kernel
theorem d_Mn_up_51 : decode b_Mn_up 51 = .ok (.iload 4, 2) := by decide +kernel
theorem d_Mn_up_53 : decode b_Mn_up 53 = .ok (.iaload, 1) := by decide +kernel
theorem d_Mn_up_54 : decode b_Mn_up 54 = .ok (.i2l, 1) := by decide +kernel
theorem d_Mn_up_55 : decode b_Mn_up 55 = .ok (.iload_n 3, 1) := by decide +kernel
theorem d_Mn_up_56 : decode b_Mn_up 56 = .ok (.lshl, 1) := by decide +kernel
theorem d_Mn_up_57 : decode b_Mn_up 57 = .ok (.lstore 5, 2) := by decide +kernel
theorem d_Mn_up_59 : decode b_Mn_up 59 = .ok (.aload_n 0, 1) := by decide +kernel
theorem d_Mn_up_60 : decode b_Mn_up 60 = .ok (.getfield 9, 3) := by decide +kernel
theorem d_Mn_up_63 : decode b_Mn_up 63 = .ok (.iload 4, 2) := by decide +kernel
theorem d_Mn_up_65 : decode b_Mn_up 65 = .ok (.iload_n 2, 1) := by decide +kernel
theorem d_Mn_up_66 : decode b_Mn_up 66 = .ok (.iadd, 1) := by decide +kernel
theorem d_Mn_up_67 : decode b_Mn_up 67 = .ok (.iconst 1, 1) := by decide +kernel
theorem d_Mn_up_68 : decode b_Mn_up 68 = .ok (.iadd, 1) := by decide +kernel
theorem d_Mn_up_69 : decode b_Mn_up 69 = .ok (.iload 4, 2) := by decide +kernel
theorem d_Mn_up_71 : decode b_Mn_up 71 = .ok (.aload_n 0, 1) := by decide +kernel
theorem d_Mn_up_72 : decode b_Mn_up 72 = .ok (.getfield 15, 3) := by decide +kernel
theorem d_Mn_up_75 : decode b_Mn_up 75 = .ok (.iconst 1, 1) := by decide +kernel
theorem d_Mn_up_76 : decode b_Mn_up 76 = .ok (.isub, 1) := by decide +kernel
theorem d_Mn_up_77 : decode b_Mn_up 77 = .ok (.if_icmp .ne 7, 3) := by decide +kernel
theorem d_Mn_up_80 : decode b_Mn_up 80 = .ok (.iconst 0, 1) := by decide +kernel
theorem d_Mn_up_81 : decode b_Mn_up 81 = .ok (.goto 14, 3) := by decide +kernel
theorem d_Mn_up_84 : decode b_Mn_up 84 = .ok (.aload_n 0, 1) := by decide +kernel
theorem d_Mn_up_85 : decode b_Mn_up 85 = .ok (.getfield 9, 3) := by decide +kernel
theorem d_Mn_up_88 : decode b_Mn_up 88 = .ok (.iload 4, 2) := by decide +kernel
theorem d_Mn_up_90 : decode b_Mn_up 90 = .ok (.iload_n 2, 1) := by decide +kernel
theorem d_Mn_up_91 : decode b_Mn_up 91 = .ok (.iadd, 1) := by decide +kernel
theorem d_Mn_up_92 : decode b_Mn_up 92 = .ok (.iconst 1, 1) := by decide +kernel
theorem d_Mn_up_93 : decode b_Mn_up 93 = .ok (.iadd, 1) := by decide +kernel
theorem d_Mn_up_94 : decode b_Mn_up 94 = .ok (.iaload, 1) := by decide +kernel
theorem d_Mn_up_95 : decode b_Mn_up 95 = .ok (.lload 5, 2) := by decide +kernel
theorem d_Mn_up_97 : decode b_Mn_up 97 = .ok (.bipush 30, 2) := by decide +kernel
theorem d_Mn_up_99 : decode b_Mn_up 99 = .ok (.lshr, 1) := by decide +kernel
theorem d_Mn_up_100 : decode b_Mn_up 100 = .ok (.l2i, 1) := by decide +kernel
theorem d_Mn_up_101 : decode b_Mn_up 101 = .ok (.ior, 1) := by decide +kernel
theorem d_Mn_up_102 : decode b_Mn_up 102 = .ok (.iastore, 1) := by decide +kernel
theorem d_Mn_up_103 : decode b_Mn_up 103 = .ok (.aload_n 0, 1) := by decide +kernel
theorem d_Mn_up_104 : decode b_Mn_up 104 = .ok (.getfield 9, 3) := by decide +kernel
theorem d_Mn_up_107 : decode b_Mn_up 107 = .ok (.iload 4, 2) := by decide +kernel
theorem d_Mn_up_109 : decode b_Mn_up 109 = .ok (.iload_n 2, 1) := by decide +kernel
theorem d_Mn_up_110 : decode b_Mn_up 110 = .ok (.iadd, 1) := by decide +kernel
theorem d_Mn_up_111 : decode b_Mn_up 111 = .ok (.lload 5, 2) := by decide +kernel
theorem d_Mn_up_113 : decode b_Mn_up 113 = .ok (.l2i, 1) := by decide +kernel
theorem d_Mn_up_114 : decode b_Mn_up 114 = .ok (.ldc 25, 2) := by decide +kernel
theorem d_Mn_up_116 : decode b_Mn_up 116 = .ok (.iand, 1) := by decide +kernel
theorem d_Mn_up_117 : decode b_Mn_up 117 = .ok (.iastore, 1) := by decide +kernel
theorem d_Mn_up_118 : decode b_Mn_up 118 = .ok (.iinc 4 (-1), 3) := by decide +kernel
theorem d_Mn_up_121 : decode b_Mn_up 121 = .ok (.goto (-79), 3) := by decide +kernel
theorem d_Mn_up_124 : decode b_Mn_up 124 = .ok (.iconst 0, 1) := by decide +kernel
theorem d_Mn_up_125 : decode b_Mn_up 125 = .ok (.istore 4, 2) := by decide +kernel
theorem d_Mn_up_127 : decode b_Mn_up 127 = .ok (.iload 4, 2) := by decide +kernel
theorem d_Mn_up_129 : decode b_Mn_up 129 = .ok (.iload_n 2, 1) := by decide +kernel
theorem d_Mn_up_130 : decode b_Mn_up 130 = .ok (.if_icmp .ge 17, 3) := by decide +kernel
theorem d_Mn_up_133 : decode b_Mn_up 133 = .ok (.aload_n 0, 1) := by decide +kernel
theorem d_Mn_up_134 : decode b_Mn_up 134 = .ok (.getfield 9, 3) := by decide +kernel
theorem d_Mn_up_137 : decode b_Mn_up 137 = .ok (.iload 4, 2) := by decide +kernel
theorem d_Mn_up_139 : decode b_Mn_up 139 = .ok (.iconst 0, 1) := by decide +kernel
theorem d_Mn_up_140 : decode b_Mn_up 140 = .ok (.iastore, 1) := by decide +kernel
theorem d_Mn_up_141 : decode b_Mn_up 141 = .ok (.iinc 4 1, 3) := by decide +kernel
theorem d_Mn_up_144 : decode b_Mn_up 144 = .ok (.goto (-17), 3) := by decide +kernel
theorem d_Mn_up_147 : decode b_Mn_up 147 = .ok (.aload_n 0, 1) := by decide +kernel
theorem d_Mn_up_148 : decode b_Mn_up 148 = .ok (.aload_n 0, 1) := by decide +kernel
theorem d_Mn_up_149 : decode b_Mn_up 149 = .ok (.getfield 15, 3) := by decide +kernel
theorem d_Mn_up_152 : decode b_Mn_up 152 = .ok (.iload_n 2, 1) := by decide +kernel
theorem d_Mn_up_153 : decode b_Mn_up 153 = .ok (.iadd, 1) := by decide +kernel
theorem d_Mn_up_154 : decode b_Mn_up 154 = .ok (.iconst 1, 1) := by decide +kernel
theorem d_Mn_up_155 : decode b_Mn_up 155 = .ok (.iadd, 1) := by decide +kernel
theorem d_Mn_up_156 : decode b_Mn_up 156 = .ok (.invokevirtual 32, 3) := by decide +kernel
theorem d_Mn_up_159 : decode b_Mn_up 159 = .ok (.return_, 1) := by decide +kernel
theorem d_Mn_trim_0 : decode b_Mn_trim 0 = .ok (.aload_n 0, 1) := by decide +kernel
theorem d_Mn_trim_1 : decode b_Mn_trim 1 = .ok (.iload_n 1, 1) := by decide +kernel
theorem d_Mn_trim_2 : decode b_Mn_trim 2 = .ok (.putfield 15, 3) := by decide +kernel
theorem d_Mn_trim_5 : decode b_Mn_trim 5 = .ok (.aload_n 0, 1) := by decide +kernel
theorem d_Mn_trim_6 : decode b_Mn_trim 6 = .ok (.getfield 15, 3) := by decide +kernel
theorem d_Mn_trim_9 : decode b_Mn_trim 9 = .ok (.ifCond .le 30, 3) := by decide +kernel
theorem d_Mn_trim_12 : decode b_Mn_trim 12 = .ok (.aload_n 0, 1) := by decide +kernel
theorem d_Mn_trim_13 : decode b_Mn_trim 13 = .ok (.getfield 9, 3) := by decide +kernel
theorem d_Mn_trim_16 : decode b_Mn_trim 16 = .ok (.aload_n 0, 1) := by decide +kernel
theorem d_Mn_trim_17 : decode b_Mn_trim 17 = .ok (.getfield 15, 3) := by decide +kernel
theorem d_Mn_trim_20 : decode b_Mn_trim 20 = .ok (.iconst 1, 1) := by decide +kernel
theorem d_Mn_trim_21 : decode b_Mn_trim 21 = .ok (.isub, 1) := by decide +kernel
theorem d_Mn_trim_22 : decode b_Mn_trim 22 = .ok (.iaload, 1) := by decide +kernel
theorem d_Mn_trim_23 : decode b_Mn_trim 23 = .ok (.ifCond .ne 16, 3) := by decide +kernel
theorem d_Mn_trim_26 : decode b_Mn_trim 26 = .ok (.aload_n 0, 1) := by decide +kernel
theorem d_Mn_trim_27 : decode b_Mn_trim 27 = .ok (.dup, 1) := by decide +kernel
theorem d_Mn_trim_28 : decode b_Mn_trim 28 = .ok (.getfield 15, 3) := by decide +kernel
theorem d_Mn_trim_31 : decode b_Mn_trim 31 = .ok (.iconst 1, 1) := by decide +kernel
theorem d_Mn_trim_32 : decode b_Mn_trim 32 = .ok (.isub, 1) := by decide +kernel
theorem d_Mn_trim_33 : decode b_Mn_trim 33 = .ok (.putfield 15, 3) := by decide +kernel
theorem d_Mn_trim_36 : decode b_Mn_trim 36 = .ok (.goto (-31), 3) := by decide +kernel
theorem d_Mn_trim_39 : decode b_Mn_trim 39 = .ok (.return_, 1) := by decide +kernel
theorem d_Mn_down_0 : decode b_Mn_down 0 = .ok (.iload_n 1, 1) := by decide +kernel
theorem d_Mn_down_1 : decode b_Mn_down 1 = .ok (.bipush 30, 2) := by decide +kernel
theorem d_Mn_down_3 : decode b_Mn_down 3 = .ok (.idiv, 1) := by decide +kernel
theorem d_Mn_down_4 : decode b_Mn_down 4 = .ok (.istore_n 2, 1) := by decide +kernel
theorem d_Mn_down_5 : decode b_Mn_down 5 = .ok (.iload_n 1, 1) := by decide +kernel
theorem d_Mn_down_6 : decode b_Mn_down 6 = .ok (.bipush 30, 2) := by decide +kernel
theorem d_Mn_down_8 : decode b_Mn_down 8 = .ok (.irem, 1) := by decide +kernel
theorem d_Mn_down_9 : decode b_Mn_down 9 = .ok (.istore_n 3, 1) := by decide +kernel
theorem d_Mn_down_10 : decode b_Mn_down 10 = .ok (.iload_n 2, 1) := by decide +kernel
theorem d_Mn_down_11 : decode b_Mn_down 11 = .ok (.aload_n 0, 1) := by decide +kernel
theorem d_Mn_down_12 : decode b_Mn_down 12 = .ok (.getfield 15, 3) := by decide +kernel
theorem d_Mn_down_15 : decode b_Mn_down 15 = .ok (.if_icmp .lt 9, 3) := by decide +kernel
theorem d_Mn_down_18 : decode b_Mn_down 18 = .ok (.aload_n 0, 1) := by decide +kernel
theorem d_Mn_down_19 : decode b_Mn_down 19 = .ok (.iconst 0, 1) := by decide +kernel
theorem d_Mn_down_20 : decode b_Mn_down 20 = .ok (.putfield 15, 3) := by decide +kernel
theorem d_Mn_down_23 : decode b_Mn_down 23 = .ok (.return_, 1) := by decide +kernel
theorem d_Mn_down_24 : decode b_Mn_down 24 = .ok (.iload_n 2, 1) := by decide +kernel
theorem d_Mn_down_25 : decode b_Mn_down 25 = .ok (.istore 4, 2) := by decide +kernel
theorem d_Mn_down_27 : decode b_Mn_down 27 = .ok (.iload 4, 2) := by decide +kernel
theorem d_Mn_down_29 : decode b_Mn_down 29 = .ok (.aload_n 0, 1) := by decide +kernel
theorem d_Mn_down_30 : decode b_Mn_down 30 = .ok (.getfield 15, 3) := by decide +kernel
theorem d_Mn_down_33 : decode b_Mn_down 33 = .ok (.if_icmp .ge 65, 3) := by decide +kernel
theorem d_Mn_down_36 : decode b_Mn_down 36 = .ok (.aload_n 0, 1) := by decide +kernel
theorem d_Mn_down_37 : decode b_Mn_down 37 = .ok (.getfield 9, 3) := by decide +kernel
theorem d_Mn_down_40 : decode b_Mn_down 40 = .ok (.iload 4, 2) := by decide +kernel
theorem d_Mn_down_42 : decode b_Mn_down 42 = .ok (.iaload, 1) := by decide +kernel
theorem d_Mn_down_43 : decode b_Mn_down 43 = .ok (.i2l, 1) := by decide +kernel
theorem d_Mn_down_44 : decode b_Mn_down 44 = .ok (.iload 4, 2) := by decide +kernel
theorem d_Mn_down_46 : decode b_Mn_down 46 = .ok (.iconst 1, 1) := by decide +kernel
theorem d_Mn_down_47 : decode b_Mn_down 47 = .ok (.iadd, 1) := by decide +kernel
theorem d_Mn_down_48 : decode b_Mn_down 48 = .ok (.aload_n 0, 1) := by decide +kernel
theorem d_Mn_down_49 : decode b_Mn_down 49 = .ok (.getfield 15, 3) := by decide +kernel
theorem d_Mn_down_52 : decode b_Mn_down 52 = .ok (.if_icmp .ge 19, 3) := by decide +kernel
theorem d_Mn_down_55 : decode b_Mn_down 55 = .ok (.aload_n 0, 1) := by decide +kernel
theorem d_Mn_down_56 : decode b_Mn_down 56 = .ok (.getfield 9, 3) := by decide +kernel
theorem d_Mn_down_59 : decode b_Mn_down 59 = .ok (.iload 4, 2) := by decide +kernel
theorem d_Mn_down_61 : decode b_Mn_down 61 = .ok (.iconst 1, 1) := by decide +kernel
theorem d_Mn_down_62 : decode b_Mn_down 62 = .ok (.iadd, 1) := by decide +kernel
theorem d_Mn_down_63 : decode b_Mn_down 63 = .ok (.iaload, 1) := by decide +kernel
theorem d_Mn_down_64 : decode b_Mn_down 64 = .ok (.i2l, 1) := by decide +kernel
theorem d_Mn_down_65 : decode b_Mn_down 65 = .ok (.bipush 30, 2) := by decide +kernel
theorem d_Mn_down_67 : decode b_Mn_down 67 = .ok (.lshl, 1) := by decide +kernel
theorem d_Mn_down_68 : decode b_Mn_down 68 = .ok (.goto 4, 3) := by decide +kernel
theorem d_Mn_down_71 : decode b_Mn_down 71 = .ok (.lconst 0, 1) := by decide +kernel
theorem d_Mn_down_72 : decode b_Mn_down 72 = .ok (.lor, 1) := by decide +kernel
theorem d_Mn_down_73 : decode b_Mn_down 73 = .ok (.lstore 5, 2) := by decide +kernel
theorem d_Mn_down_75 : decode b_Mn_down 75 = .ok (.aload_n 0, 1) := by decide +kernel
theorem d_Mn_down_76 : decode b_Mn_down 76 = .ok (.getfield 9, 3) := by decide +kernel
theorem d_Mn_down_79 : decode b_Mn_down 79 = .ok (.iload 4, 2) := by decide +kernel
theorem d_Mn_down_81 : decode b_Mn_down 81 = .ok (.iload_n 2, 1) := by decide +kernel
theorem d_Mn_down_82 : decode b_Mn_down 82 = .ok (.isub, 1) := by decide +kernel
theorem d_Mn_down_83 : decode b_Mn_down 83 = .ok (.lload 5, 2) := by decide +kernel
theorem d_Mn_down_85 : decode b_Mn_down 85 = .ok (.iload_n 3, 1) := by decide +kernel
theorem d_Mn_down_86 : decode b_Mn_down 86 = .ok (.lshr, 1) := by decide +kernel
theorem d_Mn_down_87 : decode b_Mn_down 87 = .ok (.l2i, 1) := by decide +kernel
theorem d_Mn_down_88 : decode b_Mn_down 88 = .ok (.ldc 25, 2) := by decide +kernel
theorem d_Mn_down_90 : decode b_Mn_down 90 = .ok (.iand, 1) := by decide +kernel
theorem d_Mn_down_91 : decode b_Mn_down 91 = .ok (.iastore, 1) := by decide +kernel
theorem d_Mn_down_92 : decode b_Mn_down 92 = .ok (.iinc 4 1, 3) := by decide +kernel
theorem d_Mn_down_95 : decode b_Mn_down 95 = .ok (.goto (-68), 3) := by decide +kernel
theorem d_Mn_down_98 : decode b_Mn_down 98 = .ok (.aload_n 0, 1) := by decide +kernel
theorem d_Mn_down_99 : decode b_Mn_down 99 = .ok (.aload_n 0, 1) := by decide +kernel
theorem d_Mn_down_100 : decode b_Mn_down 100 = .ok (.getfield 15, 3) := by decide +kernel
theorem d_Mn_down_103 : decode b_Mn_down 103 = .ok (.iload_n 2, 1) := by decide +kernel
theorem d_Mn_down_104 : decode b_Mn_down 104 = .ok (.isub, 1) := by decide +kernel
theorem d_Mn_down_105 : decode b_Mn_down 105 = .ok (.invokevirtual 32, 3) := by decide +kernel
theorem d_Mn_down_108 : decode b_Mn_down 108 = .ok (.return_, 1) := by decide +kernel
theorem d_Mn_add_N_0 : decode b_Mn_add_N 0 = .ok (.iconst 0, 1) := by decide +kernel
theorem d_Mn_add_N_1 : decode b_Mn_add_N 1 = .ok (.istore_n 2, 1) := by decide +kernel
theorem d_Mn_add_N_2 : decode b_Mn_add_N 2 = .ok (.aload_n 0, 1) := by decide +kernel
theorem d_Mn_add_N_3 : decode b_Mn_add_N 3 = .ok (.getfield 15, 3) := by decide +kernel
theorem d_Mn_add_N_6 : decode b_Mn_add_N 6 = .ok (.aload_n 1, 1) := by decide +kernel
theorem d_Mn_add_N_7 : decode b_Mn_add_N 7 = .ok (.getfield 15, 3) := by decide +kernel
theorem d_Mn_add_N_10 : decode b_Mn_add_N 10 = .ok (.invokestatic 26, 3) := by decide +kernel
theorem d_Mn_add_N_13 : decode b_Mn_add_N 13 = .ok (.istore_n 3, 1) := by decide +kernel
theorem d_Mn_add_N_14 : decode b_Mn_add_N 14 = .ok (.iconst 0, 1) := by decide +kernel
theorem d_Mn_add_N_15 : decode b_Mn_add_N 15 = .ok (.istore 4, 2) := by decide +kernel
theorem d_Mn_add_N_17 : decode b_Mn_add_N 17 = .ok (.iload 4, 2) := by decide +kernel
theorem d_Mn_add_N_19 : decode b_Mn_add_N 19 = .ok (.iload_n 3, 1) := by decide +kernel
theorem d_Mn_add_N_20 : decode b_Mn_add_N 20 = .ok (.if_icmp .ge 72, 3) := by decide +kernel
theorem d_Mn_add_N_23 : decode b_Mn_add_N 23 = .ok (.iload 4, 2) := by decide +kernel
theorem d_Mn_add_N_25 : decode b_Mn_add_N 25 = .ok (.aload_n 0, 1) := by decide +kernel
theorem d_Mn_add_N_26 : decode b_Mn_add_N 26 = .ok (.getfield 15, 3) := by decide +kernel
theorem d_Mn_add_N_29 : decode b_Mn_add_N 29 = .ok (.if_icmp .ge 13, 3) := by decide +kernel
theorem d_Mn_add_N_32 : decode b_Mn_add_N 32 = .ok (.aload_n 0, 1) := by decide +kernel
theorem d_Mn_add_N_33 : decode b_Mn_add_N 33 = .ok (.getfield 9, 3) := by decide +kernel
theorem d_Mn_add_N_36 : decode b_Mn_add_N 36 = .ok (.iload 4, 2) := by decide +kernel
theorem d_Mn_add_N_38 : decode b_Mn_add_N 38 = .ok (.iaload, 1) := by decide +kernel
theorem d_Mn_add_N_39 : decode b_Mn_add_N 39 = .ok (.goto 4, 3) := by decide +kernel
theorem d_Mn_add_N_42 : decode b_Mn_add_N 42 = .ok (.iconst 0, 1) := by decide +kernel
theorem d_Mn_add_N_43 : decode b_Mn_add_N 43 = .ok (.iload 4, 2) := by decide +kernel
theorem d_Mn_add_N_45 : decode b_Mn_add_N 45 = .ok (.aload_n 1, 1) := by decide +kernel
theorem d_Mn_add_N_46 : decode b_Mn_add_N 46 = .ok (.getfield 15, 3) := by decide +kernel
theorem d_Mn_add_N_49 : decode b_Mn_add_N 49 = .ok (.if_icmp .ge 13, 3) := by decide +kernel
theorem d_Mn_add_N_52 : decode b_Mn_add_N 52 = .ok (.aload_n 1, 1) := by decide +kernel
theorem d_Mn_add_N_53 : decode b_Mn_add_N 53 = .ok (.getfield 9, 3) := by decide +kernel
theorem d_Mn_add_N_56 : decode b_Mn_add_N 56 = .ok (.iload 4, 2) := by decide +kernel
theorem d_Mn_add_N_58 : decode b_Mn_add_N 58 = .ok (.iaload, 1) := by decide +kernel
theorem d_Mn_add_N_59 : decode b_Mn_add_N 59 = .ok (.goto 4, 3) := by decide +kernel
theorem d_Mn_add_N_62 : decode b_Mn_add_N 62 = .ok (.iconst 0, 1) := by decide +kernel
theorem d_Mn_add_N_63 : decode b_Mn_add_N 63 = .ok (.iadd, 1) := by decide +kernel
theorem d_Mn_add_N_64 : decode b_Mn_add_N 64 = .ok (.iload_n 2, 1) := by decide +kernel
theorem d_Mn_add_N_65 : decode b_Mn_add_N 65 = .ok (.iadd, 1) := by decide +kernel
theorem d_Mn_add_N_66 : decode b_Mn_add_N 66 = .ok (.istore 5, 2) := by decide +kernel
theorem d_Mn_add_N_68 : decode b_Mn_add_N 68 = .ok (.aload_n 0, 1) := by decide +kernel
theorem d_Mn_add_N_69 : decode b_Mn_add_N 69 = .ok (.getfield 9, 3) := by decide +kernel
theorem d_Mn_add_N_72 : decode b_Mn_add_N 72 = .ok (.iload 4, 2) := by decide +kernel
theorem d_Mn_add_N_74 : decode b_Mn_add_N 74 = .ok (.iload 5, 2) := by decide +kernel
theorem d_Mn_add_N_76 : decode b_Mn_add_N 76 = .ok (.ldc 25, 2) := by decide +kernel
theorem d_Mn_add_N_78 : decode b_Mn_add_N 78 = .ok (.iand, 1) := by decide +kernel
theorem d_Mn_add_N_79 : decode b_Mn_add_N 79 = .ok (.iastore, 1) := by decide +kernel
theorem d_Mn_add_N_80 : decode b_Mn_add_N 80 = .ok (.iload 5, 2) := by decide +kernel
theorem d_Mn_add_N_82 : decode b_Mn_add_N 82 = .ok (.bipush 30, 2) := by decide +kernel
theorem d_Mn_add_N_84 : decode b_Mn_add_N 84 = .ok (.iushr, 1) := by decide +kernel
theorem d_Mn_add_N_85 : decode b_Mn_add_N 85 = .ok (.istore_n 2, 1) := by decide +kernel
theorem d_Mn_add_N_86 : decode b_Mn_add_N 86 = .ok (.iinc 4 1, 3) := by decide +kernel
theorem d_Mn_add_N_89 : decode b_Mn_add_N 89 = .ok (.goto (-72), 3) := by decide +kernel
theorem d_Mn_add_N_92 : decode b_Mn_add_N 92 = .ok (.aload_n 0, 1) := by decide +kernel
theorem d_Mn_add_N_93 : decode b_Mn_add_N 93 = .ok (.iload_n 3, 1) := by decide +kernel
theorem d_Mn_add_N_94 : decode b_Mn_add_N 94 = .ok (.putfield 15, 3) := by decide +kernel
theorem d_Mn_add_N_97 : decode b_Mn_add_N 97 = .ok (.iload_n 2, 1) := by decide +kernel
theorem d_Mn_add_N_98 : decode b_Mn_add_N 98 = .ok (.ifCond .le 23, 3) := by decide +kernel
theorem d_Mn_add_N_101 : decode b_Mn_add_N 101 = .ok (.aload_n 0, 1) := by decide +kernel
theorem d_Mn_add_N_102 : decode b_Mn_add_N 102 = .ok (.getfield 9, 3) := by decide +kernel
theorem d_Mn_add_N_105 : decode b_Mn_add_N 105 = .ok (.aload_n 0, 1) := by decide +kernel
theorem d_Mn_add_N_106 : decode b_Mn_add_N 106 = .ok (.getfield 15, 3) := by decide +kernel
theorem d_Mn_add_N_109 : decode b_Mn_add_N 109 = .ok (.iload_n 2, 1) := by decide +kernel
theorem d_Mn_add_N_110 : decode b_Mn_add_N 110 = .ok (.iastore, 1) := by decide +kernel
theorem d_Mn_add_N_111 : decode b_Mn_add_N 111 = .ok (.aload_n 0, 1) := by decide +kernel
theorem d_Mn_add_N_112 : decode b_Mn_add_N 112 = .ok (.dup, 1) := by decide +kernel
theorem d_Mn_add_N_113 : decode b_Mn_add_N 113 = .ok (.getfield 15, 3) := by decide +kernel
theorem d_Mn_add_N_116 : decode b_Mn_add_N 116 = .ok (.iconst 1, 1) := by decide +kernel
theorem d_Mn_add_N_117 : decode b_Mn_add_N 117 = .ok (.iadd, 1) := by decide +kernel
theorem d_Mn_add_N_118 : decode b_Mn_add_N 118 = .ok (.putfield 15, 3) := by decide +kernel
theorem d_Mn_add_N_121 : decode b_Mn_add_N 121 = .ok (.return_, 1) := by decide +kernel
theorem d_Mn_compare_0 : decode b_Mn_compare 0 = .ok (.aload_n 0, 1) := by decide +kernel
theorem d_Mn_compare_1 : decode b_Mn_compare 1 = .ok (.getfield 15, 3) := by decide +kernel
theorem d_Mn_compare_4 : decode b_Mn_compare 4 = .ok (.aload_n 1, 1) := by decide +kernel
theorem d_Mn_compare_5 : decode b_Mn_compare 5 = .ok (.getfield 15, 3) := by decide +kernel
theorem d_Mn_compare_8 : decode b_Mn_compare 8 = .ok (.if_icmp .eq 20, 3) := by decide +kernel
theorem d_Mn_compare_11 : decode b_Mn_compare 11 = .ok (.aload_n 0, 1) := by decide +kernel
theorem d_Mn_compare_12 : decode b_Mn_compare 12 = .ok (.getfield 15, 3) := by decide +kernel
theorem d_Mn_compare_15 : decode b_Mn_compare 15 = .ok (.aload_n 1, 1) := by decide +kernel
theorem d_Mn_compare_16 : decode b_Mn_compare 16 = .ok (.getfield 15, 3) := by decide +kernel
theorem d_Mn_compare_19 : decode b_Mn_compare 19 = .ok (.if_icmp .ge 7, 3) := by decide +kernel
theorem d_Mn_compare_22 : decode b_Mn_compare 22 = .ok (.iconst (-1), 1) := by decide +kernel
theorem d_Mn_compare_23 : decode b_Mn_compare 23 = .ok (.goto 4, 3) := by decide +kernel
theorem d_Mn_compare_26 : decode b_Mn_compare 26 = .ok (.iconst 1, 1) := by decide +kernel
theorem d_Mn_compare_27 : decode b_Mn_compare 27 = .ok (.ireturn, 1) := by decide +kernel
theorem d_Mn_compare_28 : decode b_Mn_compare 28 = .ok (.aload_n 0, 1) := by decide +kernel
theorem d_Mn_compare_29 : decode b_Mn_compare 29 = .ok (.getfield 15, 3) := by decide +kernel
theorem d_Mn_compare_32 : decode b_Mn_compare 32 = .ok (.iconst 1, 1) := by decide +kernel
theorem d_Mn_compare_33 : decode b_Mn_compare 33 = .ok (.isub, 1) := by decide +kernel
theorem d_Mn_compare_34 : decode b_Mn_compare 34 = .ok (.istore_n 2, 1) := by decide +kernel
theorem d_Mn_compare_35 : decode b_Mn_compare 35 = .ok (.iload_n 2, 1) := by decide +kernel
theorem d_Mn_compare_36 : decode b_Mn_compare 36 = .ok (.ifCond .lt 45, 3) := by decide +kernel
theorem d_Mn_compare_39 : decode b_Mn_compare 39 = .ok (.aload_n 0, 1) := by decide +kernel
theorem d_Mn_compare_40 : decode b_Mn_compare 40 = .ok (.getfield 9, 3) := by decide +kernel
theorem d_Mn_compare_43 : decode b_Mn_compare 43 = .ok (.iload_n 2, 1) := by decide +kernel
theorem d_Mn_compare_44 : decode b_Mn_compare 44 = .ok (.iaload, 1) := by decide +kernel
theorem d_Mn_compare_45 : decode b_Mn_compare 45 = .ok (.aload_n 1, 1) := by decide +kernel
theorem d_Mn_compare_46 : decode b_Mn_compare 46 = .ok (.getfield 9, 3) := by decide +kernel
theorem d_Mn_compare_49 : decode b_Mn_compare 49 = .ok (.iload_n 2, 1) := by decide +kernel
theorem d_Mn_compare_50 : decode b_Mn_compare 50 = .ok (.iaload, 1) := by decide +kernel
theorem d_Mn_compare_51 : decode b_Mn_compare 51 = .ok (.if_icmp .eq 24, 3) := by decide +kernel
theorem d_Mn_compare_54 : decode b_Mn_compare 54 = .ok (.aload_n 0, 1) := by decide +kernel
theorem d_Mn_compare_55 : decode b_Mn_compare 55 = .ok (.getfield 9, 3) := by decide +kernel
theorem d_Mn_compare_58 : decode b_Mn_compare 58 = .ok (.iload_n 2, 1) := by decide +kernel
theorem d_Mn_compare_59 : decode b_Mn_compare 59 = .ok (.iaload, 1) := by decide +kernel
theorem d_Mn_compare_60 : decode b_Mn_compare 60 = .ok (.aload_n 1, 1) := by decide +kernel
theorem d_Mn_compare_61 : decode b_Mn_compare 61 = .ok (.getfield 9, 3) := by decide +kernel
theorem d_Mn_compare_64 : decode b_Mn_compare 64 = .ok (.iload_n 2, 1) := by decide +kernel
theorem d_Mn_compare_65 : decode b_Mn_compare 65 = .ok (.iaload, 1) := by decide +kernel
theorem d_Mn_compare_66 : decode b_Mn_compare 66 = .ok (.if_icmp .ge 7, 3) := by decide +kernel
theorem d_Mn_compare_69 : decode b_Mn_compare 69 = .ok (.iconst (-1), 1) := by decide +kernel
theorem d_Mn_compare_70 : decode b_Mn_compare 70 = .ok (.goto 4, 3) := by decide +kernel
theorem d_Mn_compare_73 : decode b_Mn_compare 73 = .ok (.iconst 1, 1) := by decide +kernel
theorem d_Mn_compare_74 : decode b_Mn_compare 74 = .ok (.ireturn, 1) := by decide +kernel
theorem d_Mn_compare_75 : decode b_Mn_compare 75 = .ok (.iinc 2 (-1), 3) := by decide +kernel
theorem d_Mn_compare_78 : decode b_Mn_compare 78 = .ok (.goto (-43), 3) := by decide +kernel
theorem d_Mn_compare_81 : decode b_Mn_compare 81 = .ok (.iconst 0, 1) := by decide +kernel
theorem d_Mn_compare_82 : decode b_Mn_compare 82 = .ok (.ireturn, 1) := by decide +kernel
theorem d_Mn_less_0 : decode b_Mn_less 0 = .ok (.iconst 0, 1) := by decide +kernel
theorem d_Mn_less_1 : decode b_Mn_less 1 = .ok (.istore_n 2, 1) := by decide +kernel
theorem d_Mn_less_2 : decode b_Mn_less 2 = .ok (.iconst 0, 1) := by decide +kernel
theorem d_Mn_less_3 : decode b_Mn_less 3 = .ok (.istore_n 3, 1) := by decide +kernel
theorem d_Mn_less_4 : decode b_Mn_less 4 = .ok (.iload_n 3, 1) := by decide +kernel
theorem d_Mn_less_5 : decode b_Mn_less 5 = .ok (.aload_n 0, 1) := by decide +kernel
theorem d_Mn_less_6 : decode b_Mn_less 6 = .ok (.getfield 15, 3) := by decide +kernel
theorem d_Mn_less_9 : decode b_Mn_less 9 = .ok (.if_icmp .ge 60, 3) := by decide +kernel
theorem d_Mn_less_12 : decode b_Mn_less 12 = .ok (.aload_n 0, 1) := by decide +kernel
theorem d_Mn_less_13 : decode b_Mn_less 13 = .ok (.getfield 9, 3) := by decide +kernel
theorem d_Mn_less_16 : decode b_Mn_less 16 = .ok (.iload_n 3, 1) := by decide +kernel
theorem d_Mn_less_17 : decode b_Mn_less 17 = .ok (.iaload, 1) := by decide +kernel
theorem d_Mn_less_18 : decode b_Mn_less 18 = .ok (.iload_n 3, 1) := by decide +kernel
theorem d_Mn_less_19 : decode b_Mn_less 19 = .ok (.aload_n 1, 1) := by decide +kernel
theorem d_Mn_less_20 : decode b_Mn_less 20 = .ok (.getfield 15, 3) := by decide +kernel
theorem d_Mn_less_23 : decode b_Mn_less 23 = .ok (.if_icmp .ge 12, 3) := by decide +kernel
theorem d_Mn_less_26 : decode b_Mn_less 26 = .ok (.aload_n 1, 1) := by decide +kernel
theorem d_Mn_less_27 : decode b_Mn_less 27 = .ok (.getfield 9, 3) := by decide +kernel
theorem d_Mn_less_30 : decode b_Mn_less 30 = .ok (.iload_n 3, 1) := by decide +kernel
theorem d_Mn_less_31 : decode b_Mn_less 31 = .ok (.iaload, 1) := by decide +kernel
theorem d_Mn_less_32 : decode b_Mn_less 32 = .ok (.goto 4, 3) := by decide +kernel
theorem d_Mn_less_35 : decode b_Mn_less 35 = .ok (.iconst 0, 1) := by decide +kernel
theorem d_Mn_less_36 : decode b_Mn_less 36 = .ok (.isub, 1) := by decide +kernel
theorem d_Mn_less_37 : decode b_Mn_less 37 = .ok (.iload_n 2, 1) := by decide +kernel
theorem d_Mn_less_38 : decode b_Mn_less 38 = .ok (.isub, 1) := by decide +kernel
theorem d_Mn_less_39 : decode b_Mn_less 39 = .ok (.istore 4, 2) := by decide +kernel
theorem d_Mn_less_41 : decode b_Mn_less 41 = .ok (.aload_n 0, 1) := by decide +kernel
theorem d_Mn_less_42 : decode b_Mn_less 42 = .ok (.getfield 9, 3) := by decide +kernel
theorem d_Mn_less_45 : decode b_Mn_less 45 = .ok (.iload_n 3, 1) := by decide +kernel
theorem d_Mn_less_46 : decode b_Mn_less 46 = .ok (.iload 4, 2) := by decide +kernel
theorem d_Mn_less_48 : decode b_Mn_less 48 = .ok (.ldc 25, 2) := by decide +kernel
theorem d_Mn_less_50 : decode b_Mn_less 50 = .ok (.iand, 1) := by decide +kernel
theorem d_Mn_less_51 : decode b_Mn_less 51 = .ok (.iastore, 1) := by decide +kernel
theorem d_Mn_less_52 : decode b_Mn_less 52 = .ok (.iload 4, 2) := by decide +kernel
theorem d_Mn_less_54 : decode b_Mn_less 54 = .ok (.ifCond .ge 7, 3) := by decide +kernel
theorem d_Mn_less_57 : decode b_Mn_less 57 = .ok (.iconst 1, 1) := by decide +kernel
theorem d_Mn_less_58 : decode b_Mn_less 58 = .ok (.goto 4, 3) := by decide +kernel
theorem d_Mn_less_61 : decode b_Mn_less 61 = .ok (.iconst 0, 1) := by decide +kernel
theorem d_Mn_less_62 : decode b_Mn_less 62 = .ok (.istore_n 2, 1) := by decide +kernel
theorem d_Mn_less_63 : decode b_Mn_less 63 = .ok (.iinc 3 1, 3) := by decide +kernel
theorem d_Mn_less_66 : decode b_Mn_less 66 = .ok (.goto (-62), 3) := by decide +kernel
theorem d_Mn_less_69 : decode b_Mn_less 69 = .ok (.aload_n 0, 1) := by decide +kernel
theorem d_Mn_less_70 : decode b_Mn_less 70 = .ok (.aload_n 0, 1) := by decide +kernel
theorem d_Mn_less_71 : decode b_Mn_less 71 = .ok (.getfield 15, 3) := by decide +kernel
theorem d_Mn_less_74 : decode b_Mn_less 74 = .ok (.invokevirtual 32, 3) := by decide +kernel
theorem d_Mn_less_77 : decode b_Mn_less 77 = .ok (.return_, 1) := by decide +kernel
theorem d_Mn_product_0 : decode b_Mn_product 0 = .ok (.aload_n 0, 1) := by decide +kernel
theorem d_Mn_product_1 : decode b_Mn_product 1 = .ok (.getfield 9, 3) := by decide +kernel
theorem d_Mn_product_4 : decode b_Mn_product 4 = .ok (.iconst 0, 1) := by decide +kernel
theorem d_Mn_product_5 : decode b_Mn_product 5 = .ok (.aload_n 1, 1) := by decide +kernel
theorem d_Mn_product_6 : decode b_Mn_product 6 = .ok (.getfield 15, 3) := by decide +kernel
theorem d_Mn_product_9 : decode b_Mn_product 9 = .ok (.aload_n 2, 1) := by decide +kernel
theorem d_Mn_product_10 : decode b_Mn_product 10 = .ok (.getfield 15, 3) := by decide +kernel
theorem d_Mn_product_13 : decode b_Mn_product 13 = .ok (.iadd, 1) := by decide +kernel
theorem d_Mn_product_14 : decode b_Mn_product 14 = .ok (.iconst 0, 1) := by decide +kernel
theorem d_Mn_product_15 : decode b_Mn_product 15 = .ok (.invokestatic 36, 3) := by decide +kernel
theorem d_Mn_product_18 : decode b_Mn_product 18 = .ok (.iconst 0, 1) := by decide +kernel
theorem d_Mn_product_19 : decode b_Mn_product 19 = .ok (.istore_n 3, 1) := by decide +kernel
theorem d_Mn_product_20 : decode b_Mn_product 20 = .ok (.iload_n 3, 1) := by decide +kernel
theorem d_Mn_product_21 : decode b_Mn_product 21 = .ok (.aload_n 1, 1) := by decide +kernel
theorem d_Mn_product_22 : decode b_Mn_product 22 = .ok (.getfield 15, 3) := by decide +kernel
theorem d_Mn_product_25 : decode b_Mn_product 25 = .ok (.if_icmp .ge 102, 3) := by decide +kernel
theorem d_Mn_product_28 : decode b_Mn_product 28 = .ok (.lconst 0, 1) := by decide +kernel
theorem d_Mn_product_29 : decode b_Mn_product 29 = .ok (.lstore 4, 2) := by decide +kernel
theorem d_Mn_product_31 : decode b_Mn_product 31 = .ok (.aload_n 1, 1) := by decide +kernel
theorem d_Mn_product_32 : decode b_Mn_product 32 = .ok (.getfield 9, 3) := by decide +kernel
theorem d_Mn_product_35 : decode b_Mn_product 35 = .ok (.iload_n 3, 1) := by decide +kernel
theorem d_Mn_product_36 : decode b_Mn_product 36 = .ok (.iaload, 1) := by decide +kernel
theorem d_Mn_product_37 : decode b_Mn_product 37 = .ok (.i2l, 1) := by decide +kernel
theorem d_Mn_product_38 : decode b_Mn_product 38 = .ok (.lstore 6, 2) := by decide +kernel
theorem d_Mn_product_40 : decode b_Mn_product 40 = .ok (.iconst 0, 1) := by decide +kernel
theorem d_Mn_product_41 : decode b_Mn_product 41 = .ok (.istore 8, 2) := by decide +kernel
theorem d_Mn_product_43 : decode b_Mn_product 43 = .ok (.iload 8, 2) := by decide +kernel
theorem d_Mn_product_45 : decode b_Mn_product 45 = .ok (.aload_n 2, 1) := by decide +kernel
theorem d_Mn_product_46 : decode b_Mn_product 46 = .ok (.getfield 15, 3) := by decide +kernel
theorem d_Mn_product_49 : decode b_Mn_product 49 = .ok (.if_icmp .ge 58, 3) := by decide +kernel
theorem d_Mn_product_52 : decode b_Mn_product 52 = .ok (.lload 6, 2) := by decide +kernel
theorem d_Mn_product_54 : decode b_Mn_product 54 = .ok (.aload_n 2, 1) := by decide +kernel
theorem d_Mn_product_55 : decode b_Mn_product 55 = .ok (.getfield 9, 3) := by decide +kernel
theorem d_Mn_product_58 : decode b_Mn_product 58 = .ok (.iload 8, 2) := by decide +kernel
theorem d_Mn_product_60 : decode b_Mn_product 60 = .ok (.iaload, 1) := by decide +kernel
theorem d_Mn_product_61 : decode b_Mn_product 61 = .ok (.i2l, 1) := by decide +kernel
theorem d_Mn_product_62 : decode b_Mn_product 62 = .ok (.lmul, 1) := by decide +kernel
theorem d_Mn_product_63 : decode b_Mn_product 63 = .ok (.aload_n 0, 1) := by decide +kernel
theorem d_Mn_product_64 : decode b_Mn_product 64 = .ok (.getfield 9, 3) := by decide +kernel
theorem d_Mn_product_67 : decode b_Mn_product 67 = .ok (.iload_n 3, 1) := by decide +kernel
theorem d_Mn_product_68 : decode b_Mn_product 68 = .ok (.iload 8, 2) := by decide +kernel
theorem d_Mn_product_70 : decode b_Mn_product 70 = .ok (.iadd, 1) := by decide +kernel
theorem d_Mn_product_71 : decode b_Mn_product 71 = .ok (.iaload, 1) := by decide +kernel
theorem d_Mn_product_72 : decode b_Mn_product 72 = .ok (.i2l, 1) := by decide +kernel
theorem d_Mn_product_73 : decode b_Mn_product 73 = .ok (.ladd, 1) := by decide +kernel
theorem d_Mn_product_74 : decode b_Mn_product 74 = .ok (.lload 4, 2) := by decide +kernel
theorem d_Mn_product_76 : decode b_Mn_product 76 = .ok (.ladd, 1) := by decide +kernel
theorem d_Mn_product_77 : decode b_Mn_product 77 = .ok (.lstore 9, 2) := by decide +kernel
theorem d_Mn_product_79 : decode b_Mn_product 79 = .ok (.aload_n 0, 1) := by decide +kernel
theorem d_Mn_product_80 : decode b_Mn_product 80 = .ok (.getfield 9, 3) := by decide +kernel
theorem d_Mn_product_83 : decode b_Mn_product 83 = .ok (.iload_n 3, 1) := by decide +kernel
theorem d_Mn_product_84 : decode b_Mn_product 84 = .ok (.iload 8, 2) := by decide +kernel
theorem d_Mn_product_86 : decode b_Mn_product 86 = .ok (.iadd, 1) := by decide +kernel
theorem d_Mn_product_87 : decode b_Mn_product 87 = .ok (.lload 9, 2) := by decide +kernel
theorem d_Mn_product_89 : decode b_Mn_product 89 = .ok (.l2i, 1) := by decide +kernel
theorem d_Mn_product_90 : decode b_Mn_product 90 = .ok (.ldc 25, 2) := by decide +kernel
theorem d_Mn_product_92 : decode b_Mn_product 92 = .ok (.iand, 1) := by decide +kernel
theorem d_Mn_product_93 : decode b_Mn_product 93 = .ok (.iastore, 1) := by decide +kernel
theorem d_Mn_product_94 : decode b_Mn_product 94 = .ok (.lload 9, 2) := by decide +kernel
theorem d_Mn_product_96 : decode b_Mn_product 96 = .ok (.bipush 30, 2) := by decide +kernel
theorem d_Mn_product_98 : decode b_Mn_product 98 = .ok (.lshr, 1) := by decide +kernel
theorem d_Mn_product_99 : decode b_Mn_product 99 = .ok (.lstore 4, 2) := by decide +kernel
theorem d_Mn_product_101 : decode b_Mn_product 101 = .ok (.iinc 8 1, 3) := by decide +kernel
theorem d_Mn_product_104 : decode b_Mn_product 104 = .ok (.goto (-61), 3) := by decide +kernel
theorem d_Mn_product_107 : decode b_Mn_product 107 = .ok (.aload_n 0, 1) := by decide +kernel
theorem d_Mn_product_108 : decode b_Mn_product 108 = .ok (.getfield 9, 3) := by decide +kernel
theorem d_Mn_product_111 : decode b_Mn_product 111 = .ok (.iload_n 3, 1) := by decide +kernel
theorem d_Mn_product_112 : decode b_Mn_product 112 = .ok (.aload_n 2, 1) := by decide +kernel
theorem d_Mn_product_113 : decode b_Mn_product 113 = .ok (.getfield 15, 3) := by decide +kernel
theorem d_Mn_product_116 : decode b_Mn_product 116 = .ok (.iadd, 1) := by decide +kernel
theorem d_Mn_product_117 : decode b_Mn_product 117 = .ok (.lload 4, 2) := by decide +kernel
theorem d_Mn_product_119 : decode b_Mn_product 119 = .ok (.l2i, 1) := by decide +kernel
theorem d_Mn_product_120 : decode b_Mn_product 120 = .ok (.iastore, 1) := by decide +kernel
theorem d_Mn_product_121 : decode b_Mn_product 121 = .ok (.iinc 3 1, 3) := by decide +kernel
theorem d_Mn_product_124 : decode b_Mn_product 124 = .ok (.goto (-104), 3) := by decide +kernel
theorem d_Mn_product_127 : decode b_Mn_product 127 = .ok (.aload_n 0, 1) := by decide +kernel
theorem d_Mn_product_128 : decode b_Mn_product 128 = .ok (.aload_n 1, 1) := by decide +kernel
theorem d_Mn_product_129 : decode b_Mn_product 129 = .ok (.getfield 15, 3) := by decide +kernel
theorem d_Mn_product_132 : decode b_Mn_product 132 = .ok (.aload_n 2, 1) := by decide +kernel
theorem d_Mn_product_133 : decode b_Mn_product 133 = .ok (.getfield 15, 3) := by decide +kernel
theorem d_Mn_product_136 : decode b_Mn_product 136 = .ok (.iadd, 1) := by decide +kernel
theorem d_Mn_product_137 : decode b_Mn_product 137 = .ok (.invokevirtual 32, 3) := by decide +kernel
theorem d_Mn_product_140 : decode b_Mn_product 140 = .ok (.return_, 1) := by decide +kernel
theorem d_Mn_one_0 : decode b_Mn_one 0 = .ok (.aload_n 0, 1) := by decide +kernel
theorem d_Mn_one_1 : decode b_Mn_one 1 = .ok (.getfield 9, 3) := by decide +kernel
theorem d_Mn_one_4 : decode b_Mn_one 4 = .ok (.iconst 0, 1) := by decide +kernel
theorem d_Mn_one_5 : decode b_Mn_one 5 = .ok (.iload_n 1, 1) := by decide +kernel
theorem d_Mn_one_6 : decode b_Mn_one 6 = .ok (.bipush 30, 2) := by decide +kernel
theorem d_Mn_one_8 : decode b_Mn_one 8 = .ok (.idiv, 1) := by decide +kernel
theorem d_Mn_one_9 : decode b_Mn_one 9 = .ok (.iconst 0, 1) := by decide +kernel
theorem d_Mn_one_10 : decode b_Mn_one 10 = .ok (.invokestatic 36, 3) := by decide +kernel
theorem d_Mn_one_13 : decode b_Mn_one 13 = .ok (.aload_n 0, 1) := by decide +kernel
theorem d_Mn_one_14 : decode b_Mn_one 14 = .ok (.getfield 9, 3) := by decide +kernel
theorem d_Mn_one_17 : decode b_Mn_one 17 = .ok (.iload_n 1, 1) := by decide +kernel
theorem d_Mn_one_18 : decode b_Mn_one 18 = .ok (.bipush 30, 2) := by decide +kernel
theorem d_Mn_one_20 : decode b_Mn_one 20 = .ok (.idiv, 1) := by decide +kernel
theorem d_Mn_one_21 : decode b_Mn_one 21 = .ok (.iconst 1, 1) := by decide +kernel
theorem d_Mn_one_22 : decode b_Mn_one 22 = .ok (.iload_n 1, 1) := by decide +kernel
theorem d_Mn_one_23 : decode b_Mn_one 23 = .ok (.bipush 30, 2) := by decide +kernel
theorem d_Mn_one_25 : decode b_Mn_one 25 = .ok (.irem, 1) := by decide +kernel
theorem d_Mn_one_26 : decode b_Mn_one 26 = .ok (.ishl, 1) := by decide +kernel
theorem d_Mn_one_27 : decode b_Mn_one 27 = .ok (.iastore, 1) := by decide +kernel
theorem d_Mn_one_28 : decode b_Mn_one 28 = .ok (.aload_n 0, 1) := by decide +kernel
theorem d_Mn_one_29 : decode b_Mn_one 29 = .ok (.iload_n 1, 1) := by decide +kernel
theorem d_Mn_one_30 : decode b_Mn_one 30 = .ok (.bipush 30, 2) := by decide +kernel
theorem d_Mn_one_32 : decode b_Mn_one 32 = .ok (.idiv, 1) := by decide +kernel
theorem d_Mn_one_33 : decode b_Mn_one 33 = .ok (.iconst 1, 1) := by decide +kernel
theorem d_Mn_one_34 : decode b_Mn_one 34 = .ok (.iadd, 1) := by decide +kernel
theorem d_Mn_one_35 : decode b_Mn_one 35 = .ok (.putfield 15, 3) := by decide +kernel
theorem d_Mn_one_38 : decode b_Mn_one 38 = .ok (.return_, 1) := by decide +kernel
theorem d_Mn_times_0 : decode b_Mn_times 0 = .ok (.lconst 0, 1) := by decide +kernel
theorem d_Mn_times_1 : decode b_Mn_times 1 = .ok (.lstore_n 2, 1) := by decide +kernel
theorem d_Mn_times_2 : decode b_Mn_times 2 = .ok (.iconst 0, 1) := by decide +kernel
theorem d_Mn_times_3 : decode b_Mn_times 3 = .ok (.istore 4, 2) := by decide +kernel
theorem d_Mn_times_5 : decode b_Mn_times 5 = .ok (.iload 4, 2) := by decide +kernel
theorem d_Mn_times_7 : decode b_Mn_times 7 = .ok (.aload_n 0, 1) := by decide +kernel
theorem d_Mn_times_8 : decode b_Mn_times 8 = .ok (.getfield 15, 3) := by decide +kernel
theorem d_Mn_times_11 : decode b_Mn_times 11 = .ok (.if_icmp .ge 43, 3) := by decide +kernel
theorem d_Mn_times_14 : decode b_Mn_times 14 = .ok (.aload_n 0, 1) := by decide +kernel
theorem d_Mn_times_15 : decode b_Mn_times 15 = .ok (.getfield 9, 3) := by decide +kernel
theorem d_Mn_times_18 : decode b_Mn_times 18 = .ok (.iload 4, 2) := by decide +kernel
theorem d_Mn_times_20 : decode b_Mn_times 20 = .ok (.iaload, 1) := by decide +kernel
theorem d_Mn_times_21 : decode b_Mn_times 21 = .ok (.i2l, 1) := by decide +kernel
theorem d_Mn_times_22 : decode b_Mn_times 22 = .ok (.iload_n 1, 1) := by decide +kernel
theorem d_Mn_times_23 : decode b_Mn_times 23 = .ok (.i2l, 1) := by decide +kernel
theorem d_Mn_times_24 : decode b_Mn_times 24 = .ok (.lmul, 1) := by decide +kernel
theorem d_Mn_times_25 : decode b_Mn_times 25 = .ok (.lload_n 2, 1) := by decide +kernel
theorem d_Mn_times_26 : decode b_Mn_times 26 = .ok (.ladd, 1) := by decide +kernel
theorem d_Mn_times_27 : decode b_Mn_times 27 = .ok (.lstore 5, 2) := by decide +kernel
theorem d_Mn_times_29 : decode b_Mn_times 29 = .ok (.aload_n 0, 1) := by decide +kernel
theorem d_Mn_times_30 : decode b_Mn_times 30 = .ok (.getfield 9, 3) := by decide +kernel
theorem d_Mn_times_33 : decode b_Mn_times 33 = .ok (.iload 4, 2) := by decide +kernel
theorem d_Mn_times_35 : decode b_Mn_times 35 = .ok (.lload 5, 2) := by decide +kernel
theorem d_Mn_times_37 : decode b_Mn_times 37 = .ok (.l2i, 1) := by decide +kernel
theorem d_Mn_times_38 : decode b_Mn_times 38 = .ok (.ldc 25, 2) := by decide +kernel
theorem d_Mn_times_40 : decode b_Mn_times 40 = .ok (.iand, 1) := by decide +kernel
theorem d_Mn_times_41 : decode b_Mn_times 41 = .ok (.iastore, 1) := by decide +kernel
theorem d_Mn_times_42 : decode b_Mn_times 42 = .ok (.lload 5, 2) := by decide +kernel
theorem d_Mn_times_44 : decode b_Mn_times 44 = .ok (.bipush 30, 2) := by decide +kernel
theorem d_Mn_times_46 : decode b_Mn_times 46 = .ok (.lshr, 1) := by decide +kernel
theorem d_Mn_times_47 : decode b_Mn_times 47 = .ok (.lstore_n 2, 1) := by decide +kernel
theorem d_Mn_times_48 : decode b_Mn_times 48 = .ok (.iinc 4 1, 3) := by decide +kernel
theorem d_Mn_times_51 : decode b_Mn_times 51 = .ok (.goto (-46), 3) := by decide +kernel
theorem d_Mn_times_54 : decode b_Mn_times 54 = .ok (.lload_n 2, 1) := by decide +kernel
theorem d_Mn_times_55 : decode b_Mn_times 55 = .ok (.lconst 0, 1) := by decide +kernel
theorem d_Mn_times_56 : decode b_Mn_times 56 = .ok (.lcmp, 1) := by decide +kernel
theorem d_Mn_times_57 : decode b_Mn_times 57 = .ok (.ifCond .le 35, 3) := by decide +kernel
theorem d_Mn_times_60 : decode b_Mn_times 60 = .ok (.aload_n 0, 1) := by decide +kernel
theorem d_Mn_times_61 : decode b_Mn_times 61 = .ok (.getfield 9, 3) := by decide +kernel
theorem d_Mn_times_64 : decode b_Mn_times 64 = .ok (.aload_n 0, 1) := by decide +kernel
theorem d_Mn_times_65 : decode b_Mn_times 65 = .ok (.getfield 15, 3) := by decide +kernel
theorem d_Mn_times_68 : decode b_Mn_times 68 = .ok (.lload_n 2, 1) := by decide +kernel
theorem d_Mn_times_69 : decode b_Mn_times 69 = .ok (.l2i, 1) := by decide +kernel
theorem d_Mn_times_70 : decode b_Mn_times 70 = .ok (.ldc 25, 2) := by decide +kernel
theorem d_Mn_times_72 : decode b_Mn_times 72 = .ok (.iand, 1) := by decide +kernel
theorem d_Mn_times_73 : decode b_Mn_times 73 = .ok (.iastore, 1) := by decide +kernel
theorem d_Mn_times_74 : decode b_Mn_times 74 = .ok (.lload_n 2, 1) := by decide +kernel
theorem d_Mn_times_75 : decode b_Mn_times 75 = .ok (.bipush 30, 2) := by decide +kernel
theorem d_Mn_times_77 : decode b_Mn_times 77 = .ok (.lshr, 1) := by decide +kernel
theorem d_Mn_times_78 : decode b_Mn_times 78 = .ok (.lstore_n 2, 1) := by decide +kernel
theorem d_Mn_times_79 : decode b_Mn_times 79 = .ok (.aload_n 0, 1) := by decide +kernel
theorem d_Mn_times_80 : decode b_Mn_times 80 = .ok (.dup, 1) := by decide +kernel
theorem d_Mn_times_81 : decode b_Mn_times 81 = .ok (.getfield 15, 3) := by decide +kernel
theorem d_Mn_times_84 : decode b_Mn_times 84 = .ok (.iconst 1, 1) := by decide +kernel
theorem d_Mn_times_85 : decode b_Mn_times 85 = .ok (.iadd, 1) := by decide +kernel
theorem d_Mn_times_86 : decode b_Mn_times 86 = .ok (.putfield 15, 3) := by decide +kernel
theorem d_Mn_times_89 : decode b_Mn_times 89 = .ok (.goto (-35), 3) := by decide +kernel
theorem d_Mn_times_92 : decode b_Mn_times 92 = .ok (.return_, 1) := by decide +kernel
theorem d_Mn_over_0 : decode b_Mn_over 0 = .ok (.lconst 0, 1) := by decide +kernel
theorem d_Mn_over_1 : decode b_Mn_over 1 = .ok (.lstore_n 2, 1) := by decide +kernel
theorem d_Mn_over_2 : decode b_Mn_over 2 = .ok (.aload_n 0, 1) := by decide +kernel
theorem d_Mn_over_3 : decode b_Mn_over 3 = .ok (.getfield 15, 3) := by decide +kernel
theorem d_Mn_over_6 : decode b_Mn_over 6 = .ok (.iconst 1, 1) := by decide +kernel
theorem d_Mn_over_7 : decode b_Mn_over 7 = .ok (.isub, 1) := by decide +kernel
theorem d_Mn_over_8 : decode b_Mn_over 8 = .ok (.istore 4, 2) := by decide +kernel
theorem d_Mn_over_10 : decode b_Mn_over 10 = .ok (.iload 4, 2) := by decide +kernel
theorem d_Mn_over_12 : decode b_Mn_over 12 = .ok (.ifCond .lt 43, 3) := by decide +kernel
theorem d_Mn_over_15 : decode b_Mn_over 15 = .ok (.lload_n 2, 1) := by decide +kernel
theorem d_Mn_over_16 : decode b_Mn_over 16 = .ok (.bipush 30, 2) := by decide +kernel
theorem d_Mn_over_18 : decode b_Mn_over 18 = .ok (.lshl, 1) := by decide +kernel
theorem d_Mn_over_19 : decode b_Mn_over 19 = .ok (.aload_n 0, 1) := by decide +kernel
theorem d_Mn_over_20 : decode b_Mn_over 20 = .ok (.getfield 9, 3) := by decide +kernel
theorem d_Mn_over_23 : decode b_Mn_over 23 = .ok (.iload 4, 2) := by decide +kernel
theorem d_Mn_over_25 : decode b_Mn_over 25 = .ok (.iaload, 1) := by decide +kernel
theorem d_Mn_over_26 : decode b_Mn_over 26 = .ok (.i2l, 1) := by decide +kernel
theorem d_Mn_over_27 : decode b_Mn_over 27 = .ok (.lor, 1) := by decide +kernel
theorem d_Mn_over_28 : decode b_Mn_over 28 = .ok (.lstore 5, 2) := by decide +kernel
theorem d_Mn_over_30 : decode b_Mn_over 30 = .ok (.aload_n 0, 1) := by decide +kernel
theorem d_Mn_over_31 : decode b_Mn_over 31 = .ok (.getfield 9, 3) := by decide +kernel
theorem d_Mn_over_34 : decode b_Mn_over 34 = .ok (.iload 4, 2) := by decide +kernel
theorem d_Mn_over_36 : decode b_Mn_over 36 = .ok (.lload 5, 2) := by decide +kernel
theorem d_Mn_over_38 : decode b_Mn_over 38 = .ok (.iload_n 1, 1) := by decide +kernel
theorem d_Mn_over_39 : decode b_Mn_over 39 = .ok (.i2l, 1) := by decide +kernel
theorem d_Mn_over_40 : decode b_Mn_over 40 = .ok (.ldiv, 1) := by decide +kernel
theorem d_Mn_over_41 : decode b_Mn_over 41 = .ok (.l2i, 1) := by decide +kernel
theorem d_Mn_over_42 : decode b_Mn_over 42 = .ok (.iastore, 1) := by decide +kernel
theorem d_Mn_over_43 : decode b_Mn_over 43 = .ok (.lload 5, 2) := by decide +kernel
theorem d_Mn_over_45 : decode b_Mn_over 45 = .ok (.iload_n 1, 1) := by decide +kernel
theorem d_Mn_over_46 : decode b_Mn_over 46 = .ok (.i2l, 1) := by decide +kernel
theorem d_Mn_over_47 : decode b_Mn_over 47 = .ok (.lrem, 1) := by decide +kernel
theorem d_Mn_over_48 : decode b_Mn_over 48 = .ok (.lstore_n 2, 1) := by decide +kernel
theorem d_Mn_over_49 : decode b_Mn_over 49 = .ok (.iinc 4 (-1), 3) := by decide +kernel
theorem d_Mn_over_52 : decode b_Mn_over 52 = .ok (.goto (-42), 3) := by decide +kernel
theorem d_Mn_over_55 : decode b_Mn_over 55 = .ok (.aload_n 0, 1) := by decide +kernel
theorem d_Mn_over_56 : decode b_Mn_over 56 = .ok (.aload_n 0, 1) := by decide +kernel
theorem d_Mn_over_57 : decode b_Mn_over 57 = .ok (.getfield 15, 3) := by decide +kernel
theorem d_Mn_over_60 : decode b_Mn_over 60 = .ok (.invokevirtual 32, 3) := by decide +kernel
theorem d_Mn_over_63 : decode b_Mn_over 63 = .ok (.lload_n 2, 1) := by decide +kernel
theorem d_Mn_over_64 : decode b_Mn_over 64 = .ok (.l2i, 1) := by decide +kernel
theorem d_Mn_over_65 : decode b_Mn_over 65 = .ok (.ireturn, 1) := by decide +kernel
theorem d_Mn_bit_0 : decode b_Mn_bit 0 = .ok (.iload_n 1, 1) := by decide +kernel
theorem d_Mn_bit_1 : decode b_Mn_bit 1 = .ok (.ifCond .lt 38, 3) := by decide +kernel
theorem d_Mn_bit_4 : decode b_Mn_bit 4 = .ok (.iload_n 1, 1) := by decide +kernel
theorem d_Mn_bit_5 : decode b_Mn_bit 5 = .ok (.bipush 30, 2) := by decide +kernel
theorem d_Mn_bit_7 : decode b_Mn_bit 7 = .ok (.idiv, 1) := by decide +kernel
theorem d_Mn_bit_8 : decode b_Mn_bit 8 = .ok (.aload_n 0, 1) := by decide +kernel
theorem d_Mn_bit_9 : decode b_Mn_bit 9 = .ok (.getfield 15, 3) := by decide +kernel
theorem d_Mn_bit_12 : decode b_Mn_bit 12 = .ok (.if_icmp .ge 27, 3) := by decide +kernel
theorem d_Mn_bit_15 : decode b_Mn_bit 15 = .ok (.aload_n 0, 1) := by decide +kernel
theorem d_Mn_bit_16 : decode b_Mn_bit 16 = .ok (.getfield 9, 3) := by decide +kernel
theorem d_Mn_bit_19 : decode b_Mn_bit 19 = .ok (.iload_n 1, 1) := by decide +kernel
theorem d_Mn_bit_20 : decode b_Mn_bit 20 = .ok (.bipush 30, 2) := by decide +kernel
theorem d_Mn_bit_22 : decode b_Mn_bit 22 = .ok (.idiv, 1) := by decide +kernel
theorem d_Mn_bit_23 : decode b_Mn_bit 23 = .ok (.iaload, 1) := by decide +kernel
theorem d_Mn_bit_24 : decode b_Mn_bit 24 = .ok (.iload_n 1, 1) := by decide +kernel
theorem d_Mn_bit_25 : decode b_Mn_bit 25 = .ok (.bipush 30, 2) := by decide +kernel
theorem d_Mn_bit_27 : decode b_Mn_bit 27 = .ok (.irem, 1) := by decide +kernel
theorem d_Mn_bit_28 : decode b_Mn_bit 28 = .ok (.ishr, 1) := by decide +kernel
theorem d_Mn_bit_29 : decode b_Mn_bit 29 = .ok (.iconst 1, 1) := by decide +kernel
theorem d_Mn_bit_30 : decode b_Mn_bit 30 = .ok (.iand, 1) := by decide +kernel
theorem d_Mn_bit_31 : decode b_Mn_bit 31 = .ok (.iconst 1, 1) := by decide +kernel
theorem d_Mn_bit_32 : decode b_Mn_bit 32 = .ok (.if_icmp .ne 7, 3) := by decide +kernel
theorem d_Mn_bit_35 : decode b_Mn_bit 35 = .ok (.iconst 1, 1) := by decide +kernel
theorem d_Mn_bit_36 : decode b_Mn_bit 36 = .ok (.goto 4, 3) := by decide +kernel
theorem d_Mn_bit_39 : decode b_Mn_bit 39 = .ok (.iconst 0, 1) := by decide +kernel
theorem d_Mn_bit_40 : decode b_Mn_bit 40 = .ok (.ireturn, 1) := by decide +kernel
theorem d_Mn_add_I_0 : decode b_Mn_add_I 0 = .ok (.iload_n 1, 1) := by decide +kernel
theorem d_Mn_add_I_1 : decode b_Mn_add_I 1 = .ok (.istore_n 2, 1) := by decide +kernel
theorem d_Mn_add_I_2 : decode b_Mn_add_I 2 = .ok (.iconst 0, 1) := by decide +kernel
theorem d_Mn_add_I_3 : decode b_Mn_add_I 3 = .ok (.istore_n 3, 1) := by decide +kernel
theorem d_Mn_add_I_4 : decode b_Mn_add_I 4 = .ok (.iload_n 2, 1) := by decide +kernel
theorem d_Mn_add_I_5 : decode b_Mn_add_I 5 = .ok (.ifCond .le 61, 3) := by decide +kernel
theorem d_Mn_add_I_8 : decode b_Mn_add_I 8 = .ok (.iload_n 3, 1) := by decide +kernel
theorem d_Mn_add_I_9 : decode b_Mn_add_I 9 = .ok (.aload_n 0, 1) := by decide +kernel
theorem d_Mn_add_I_10 : decode b_Mn_add_I 10 = .ok (.getfield 15, 3) := by decide +kernel
theorem d_Mn_add_I_13 : decode b_Mn_add_I 13 = .ok (.if_icmp .ge 12, 3) := by decide +kernel
theorem d_Mn_add_I_16 : decode b_Mn_add_I 16 = .ok (.aload_n 0, 1) := by decide +kernel
theorem d_Mn_add_I_17 : decode b_Mn_add_I 17 = .ok (.getfield 9, 3) := by decide +kernel
theorem d_Mn_add_I_20 : decode b_Mn_add_I 20 = .ok (.iload_n 3, 1) := by decide +kernel
theorem d_Mn_add_I_21 : decode b_Mn_add_I 21 = .ok (.iaload, 1) := by decide +kernel
theorem d_Mn_add_I_22 : decode b_Mn_add_I 22 = .ok (.goto 4, 3) := by decide +kernel
theorem d_Mn_add_I_25 : decode b_Mn_add_I 25 = .ok (.iconst 0, 1) := by decide +kernel
theorem d_Mn_add_I_26 : decode b_Mn_add_I 26 = .ok (.iload_n 2, 1) := by decide +kernel
theorem d_Mn_add_I_27 : decode b_Mn_add_I 27 = .ok (.iadd, 1) := by decide +kernel
theorem d_Mn_add_I_28 : decode b_Mn_add_I 28 = .ok (.istore 4, 2) := by decide +kernel
theorem d_Mn_add_I_30 : decode b_Mn_add_I 30 = .ok (.aload_n 0, 1) := by decide +kernel
theorem d_Mn_add_I_31 : decode b_Mn_add_I 31 = .ok (.getfield 9, 3) := by decide +kernel
theorem d_Mn_add_I_34 : decode b_Mn_add_I 34 = .ok (.iload_n 3, 1) := by decide +kernel
theorem d_Mn_add_I_35 : decode b_Mn_add_I 35 = .ok (.iload 4, 2) := by decide +kernel
theorem d_Mn_add_I_37 : decode b_Mn_add_I 37 = .ok (.ldc 25, 2) := by decide +kernel
theorem d_Mn_add_I_39 : decode b_Mn_add_I 39 = .ok (.iand, 1) := by decide +kernel
theorem d_Mn_add_I_40 : decode b_Mn_add_I 40 = .ok (.iastore, 1) := by decide +kernel
theorem d_Mn_add_I_41 : decode b_Mn_add_I 41 = .ok (.iload 4, 2) := by decide +kernel
theorem d_Mn_add_I_43 : decode b_Mn_add_I 43 = .ok (.bipush 30, 2) := by decide +kernel
theorem d_Mn_add_I_45 : decode b_Mn_add_I 45 = .ok (.iushr, 1) := by decide +kernel
theorem d_Mn_add_I_46 : decode b_Mn_add_I 46 = .ok (.istore_n 2, 1) := by decide +kernel
theorem d_Mn_add_I_47 : decode b_Mn_add_I 47 = .ok (.iinc 3 1, 3) := by decide +kernel
theorem d_Mn_add_I_50 : decode b_Mn_add_I 50 = .ok (.iload_n 3, 1) := by decide +kernel
theorem d_Mn_add_I_51 : decode b_Mn_add_I 51 = .ok (.aload_n 0, 1) := by decide +kernel
theorem d_Mn_add_I_52 : decode b_Mn_add_I 52 = .ok (.getfield 15, 3) := by decide +kernel
theorem d_Mn_add_I_55 : decode b_Mn_add_I 55 = .ok (.if_icmp .le 8, 3) := by decide +kernel
theorem d_Mn_add_I_58 : decode b_Mn_add_I 58 = .ok (.aload_n 0, 1) := by decide +kernel
theorem d_Mn_add_I_59 : decode b_Mn_add_I 59 = .ok (.iload_n 3, 1) := by decide +kernel
theorem d_Mn_add_I_60 : decode b_Mn_add_I 60 = .ok (.putfield 15, 3) := by decide +kernel
theorem d_Mn_add_I_63 : decode b_Mn_add_I 63 = .ok (.goto (-59), 3) := by decide +kernel
theorem d_Mn_add_I_66 : decode b_Mn_add_I 66 = .ok (.return_, 1) := by decide +kernel
