/-! DECODE ROWS of Ro (by program) -/
theorem d_Ro_init_0 : decode b_Ro_init 0 = .ok (.aload_n 0, 1) := by decide +kernel
theorem d_Ro_init_1 : decode b_Ro_init 1 = .ok (.invokespecial 1, 3) := by decide +kernel
theorem d_Ro_init_4 : decode b_Ro_init 4 = .ok (.aload_n 0, 1) := by decide +kernel
theorem d_Ro_init_5 : decode b_Ro_init 5 = .ok (.new 7, 3) := by decide +kernel
theorem d_Ro_init_8 : decode b_Ro_init 8 = .ok (.dup, 1) := by decide +kernel
theorem d_Ro_init_9 : decode b_Ro_init 9 = .ok (.invokespecial 9, 3) := by decide +kernel
theorem d_Ro_init_12 : decode b_Ro_init 12 = .ok (.putfield 10, 3) := by decide +kernel
theorem d_Ro_init_15 : decode b_Ro_init 15 = .ok (.aload_n 0, 1) := by decide +kernel
theorem d_Ro_init_16 : decode b_Ro_init 16 = .ok (.new 7, 3) := by decide +kernel
theorem d_Ro_init_19 : decode b_Ro_init 19 = .ok (.dup, 1) := by decide +kernel
theorem d_Ro_init_20 : decode b_Ro_init 20 = .ok (.invokespecial 9, 3) := by decide +kernel
theorem d_Ro_init_23 : decode b_Ro_init 23 = .ok (.putfield 16, 3) := by decide +kernel
theorem d_Ro_init_26 : decode b_Ro_init 26 = .ok (.aload_n 0, 1) := by decide +kernel
theorem d_Ro_init_27 : decode b_Ro_init 27 = .ok (.new 7, 3) := by decide +kernel
theorem d_Ro_init_30 : decode b_Ro_init 30 = .ok (.dup, 1) := by decide +kernel
theorem d_Ro_init_31 : decode b_Ro_init 31 = .ok (.invokespecial 9, 3) := by decide +kernel
theorem d_Ro_init_34 : decode b_Ro_init 34 = .ok (.putfield 19, 3) := by decide +kernel
theorem d_Ro_init_37 : decode b_Ro_init 37 = .ok (.return_, 1) := by decide +kernel
theorem d_Ro_putRoot_0 : decode b_Ro_putRoot 0 = .ok (.aload_n 2, 1) := by decide +kernel
theorem d_Ro_putRoot_1 : decode b_Ro_putRoot 1 = .ok (.invokevirtual 22, 3) := by decide +kernel
theorem d_Ro_putRoot_4 : decode b_Ro_putRoot 4 = .ok (.istore 5, 2) := by decide +kernel
theorem d_Ro_putRoot_6 : decode b_Ro_putRoot 6 = .ok (.iload_n 3, 1) := by decide +kernel
theorem d_Ro_putRoot_7 : decode b_Ro_putRoot 7 = .ok (.iconst 1, 1) := by decide +kernel
theorem d_Ro_putRoot_8 : decode b_Ro_putRoot 8 = .ok (.if_icmp .eq 8, 3) := by decide +kernel
theorem d_Ro_putRoot_11 : decode b_Ro_putRoot 11 = .ok (.iload 5, 2) := by decide +kernel
theorem d_Ro_putRoot_13 : decode b_Ro_putRoot 13 = .ok (.ifCond .ne 9, 3) := by decide +kernel
theorem d_Ro_putRoot_16 : decode b_Ro_putRoot 16 = .ok (.aload_n 1, 1) := by decide +kernel
theorem d_Ro_putRoot_17 : decode b_Ro_putRoot 17 = .ok (.aload_n 2, 1) := by decide +kernel
theorem d_Ro_putRoot_18 : decode b_Ro_putRoot 18 = .ok (.invokevirtual 26, 3) := by decide +kernel
theorem d_Ro_putRoot_21 : decode b_Ro_putRoot 21 = .ok (.return_, 1) := by decide +kernel
theorem d_Ro_putRoot_22 : decode b_Ro_putRoot 22 = .ok (.iload 5, 2) := by decide +kernel
theorem d_Ro_putRoot_24 : decode b_Ro_putRoot 24 = .ok (.iload_n 3, 1) := by decide +kernel
theorem d_Ro_putRoot_25 : decode b_Ro_putRoot 25 = .ok (.iadd, 1) := by decide +kernel
theorem d_Ro_putRoot_26 : decode b_Ro_putRoot 26 = .ok (.iconst 1, 1) := by decide +kernel
theorem d_Ro_putRoot_27 : decode b_Ro_putRoot 27 = .ok (.isub, 1) := by decide +kernel
theorem d_Ro_putRoot_28 : decode b_Ro_putRoot 28 = .ok (.iload_n 3, 1) := by decide +kernel
theorem d_Ro_putRoot_29 : decode b_Ro_putRoot 29 = .ok (.idiv, 1) := by decide +kernel
theorem d_Ro_putRoot_30 : decode b_Ro_putRoot 30 = .ok (.istore 6, 2) := by decide +kernel
theorem d_Ro_putRoot_32 : decode b_Ro_putRoot 32 = .ok (.iconst 1, 1) := by decide +kernel
theorem d_Ro_putRoot_33 : decode b_Ro_putRoot 33 = .ok (.istore 7, 2) := by decide +kernel
theorem d_Ro_putRoot_35 : decode b_Ro_putRoot 35 = .ok (.aload_n 1, 1) := by decide +kernel
theorem d_Ro_putRoot_36 : decode b_Ro_putRoot 36 = .ok (.lconst 1, 1) := by decide +kernel
theorem d_Ro_putRoot_37 : decode b_Ro_putRoot 37 = .ok (.invokevirtual 30, 3) := by decide +kernel
theorem d_Ro_putRoot_40 : decode b_Ro_putRoot 40 = .ok (.aload_n 0, 1) := by decide +kernel
theorem d_Ro_putRoot_41 : decode b_Ro_putRoot 41 = .ok (.getfield 10, 3) := by decide +kernel
theorem d_Ro_putRoot_44 : decode b_Ro_putRoot 44 = .ok (.lconst 1, 1) := by decide +kernel
theorem d_Ro_putRoot_45 : decode b_Ro_putRoot 45 = .ok (.invokevirtual 30, 3) := by decide +kernel
theorem d_Ro_putRoot_48 : decode b_Ro_putRoot 48 = .ok (.aload_n 0, 1) := by decide +kernel
theorem d_Ro_putRoot_49 : decode b_Ro_putRoot 49 = .ok (.getfield 16, 3) := by decide +kernel
theorem d_Ro_putRoot_52 : decode b_Ro_putRoot 52 = .ok (.lconst 1, 1) := by decide +kernel
theorem d_Ro_putRoot_53 : decode b_Ro_putRoot 53 = .ok (.invokevirtual 30, 3) := by decide +kernel
theorem d_Ro_putRoot_56 : decode b_Ro_putRoot 56 = .ok (.iload 7, 2) := by decide +kernel
theorem d_Ro_putRoot_58 : decode b_Ro_putRoot 58 = .ok (.iload 6, 2) := by decide +kernel
theorem d_Ro_putRoot_60 : decode b_Ro_putRoot 60 = .ok (.if_icmp .ge 97, 3) := by decide +kernel
theorem d_Ro_putRoot_63 : decode b_Ro_putRoot 63 = .ok (.iconst 1, 1) := by decide +kernel
theorem d_Ro_putRoot_64 : decode b_Ro_putRoot 64 = .ok (.iload 7, 2) := by decide +kernel
theorem d_Ro_putRoot_66 : decode b_Ro_putRoot 66 = .ok (.iload 6, 2) := by decide +kernel
theorem d_Ro_putRoot_68 : decode b_Ro_putRoot 68 = .ok (.iload_n 3, 1) := by decide +kernel
theorem d_Ro_putRoot_69 : decode b_Ro_putRoot 69 = .ok (.invokestatic 34, 3) := by decide +kernel
theorem d_Ro_putRoot_72 : decode b_Ro_putRoot 72 = .ok (.iload 7, 2) := by decide +kernel
theorem d_Ro_putRoot_74 : decode b_Ro_putRoot 74 = .ok (.isub, 1) := by decide +kernel
theorem d_Ro_putRoot_75 : decode b_Ro_putRoot 75 = .ok (.invokestatic 38, 3) := by decide +kernel
theorem d_Ro_putRoot_78 : decode b_Ro_putRoot 78 = .ok (.istore 8, 2) := by decide +kernel
theorem d_Ro_putRoot_80 : decode b_Ro_putRoot 80 = .ok (.iload 7, 2) := by decide +kernel
theorem d_Ro_putRoot_82 : decode b_Ro_putRoot 82 = .ok (.iload 8, 2) := by decide +kernel
theorem d_Ro_putRoot_84 : decode b_Ro_putRoot 84 = .ok (.iadd, 1) := by decide +kernel
theorem d_Ro_putRoot_85 : decode b_Ro_putRoot 85 = .ok (.istore 7, 2) := by decide +kernel
theorem d_Ro_putRoot_87 : decode b_Ro_putRoot 87 = .ok (.iload 6, 2) := by decide +kernel
theorem d_Ro_putRoot_89 : decode b_Ro_putRoot 89 = .ok (.iload 7, 2) := by decide +kernel
theorem d_Ro_putRoot_91 : decode b_Ro_putRoot 91 = .ok (.isub, 1) := by decide +kernel
theorem d_Ro_putRoot_92 : decode b_Ro_putRoot 92 = .ok (.iload_n 3, 1) := by decide +kernel
theorem d_Ro_putRoot_93 : decode b_Ro_putRoot 93 = .ok (.imul, 1) := by decide +kernel
theorem d_Ro_putRoot_94 : decode b_Ro_putRoot 94 = .ok (.istore 9, 2) := by decide +kernel
theorem d_Ro_putRoot_96 : decode b_Ro_putRoot 96 = .ok (.aload_n 0, 1) := by decide +kernel
theorem d_Ro_putRoot_97 : decode b_Ro_putRoot 97 = .ok (.aload_n 2, 1) := by decide +kernel
theorem d_Ro_putRoot_98 : decode b_Ro_putRoot 98 = .ok (.iload_n 3, 1) := by decide +kernel
theorem d_Ro_putRoot_99 : decode b_Ro_putRoot 99 = .ok (.iload 8, 2) := by decide +kernel
theorem d_Ro_putRoot_101 : decode b_Ro_putRoot 101 = .ok (.iload 9, 2) := by decide +kernel
theorem d_Ro_putRoot_103 : decode b_Ro_putRoot 103 = .ok (.invokevirtual 44, 3) := by decide +kernel
theorem d_Ro_putRoot_106 : decode b_Ro_putRoot 106 = .ok (.aload 4, 2) := by decide +kernel
theorem d_Ro_putRoot_108 : decode b_Ro_putRoot 108 = .ok (.aload_n 0, 1) := by decide +kernel
theorem d_Ro_putRoot_109 : decode b_Ro_putRoot 109 = .ok (.getfield 19, 3) := by decide +kernel
theorem d_Ro_putRoot_112 : decode b_Ro_putRoot 112 = .ok (.aload_n 0, 1) := by decide +kernel
theorem d_Ro_putRoot_113 : decode b_Ro_putRoot 113 = .ok (.getfield 16, 3) := by decide +kernel
theorem d_Ro_putRoot_116 : decode b_Ro_putRoot 116 = .ok (.aload_n 0, 1) := by decide +kernel
theorem d_Ro_putRoot_117 : decode b_Ro_putRoot 117 = .ok (.getfield 19, 3) := by decide +kernel
theorem d_Ro_putRoot_120 : decode b_Ro_putRoot 120 = .ok (.aload_n 0, 1) := by decide +kernel
theorem d_Ro_putRoot_121 : decode b_Ro_putRoot 121 = .ok (.getfield 10, 3) := by decide +kernel
theorem d_Ro_putRoot_124 : decode b_Ro_putRoot 124 = .ok (.invokevirtual 48, 3) := by decide +kernel
theorem d_Ro_putRoot_127 : decode b_Ro_putRoot 127 = .ok (.pop, 1) := by decide +kernel
theorem d_Ro_putRoot_128 : decode b_Ro_putRoot 128 = .ok (.aload_n 0, 1) := by decide +kernel
theorem d_Ro_putRoot_129 : decode b_Ro_putRoot 129 = .ok (.aload_n 1, 1) := by decide +kernel
theorem d_Ro_putRoot_130 : decode b_Ro_putRoot 130 = .ok (.iload 8, 2) := by decide +kernel
theorem d_Ro_putRoot_132 : decode b_Ro_putRoot 132 = .ok (.invokevirtual 54, 3) := by decide +kernel
theorem d_Ro_putRoot_135 : decode b_Ro_putRoot 135 = .ok (.aload_n 0, 1) := by decide +kernel
theorem d_Ro_putRoot_136 : decode b_Ro_putRoot 136 = .ok (.getfield 19, 3) := by decide +kernel
theorem d_Ro_putRoot_139 : decode b_Ro_putRoot 139 = .ok (.aload_n 2, 1) := by decide +kernel
theorem d_Ro_putRoot_140 : decode b_Ro_putRoot 140 = .ok (.iload 9, 2) := by decide +kernel
theorem d_Ro_putRoot_142 : decode b_Ro_putRoot 142 = .ok (.ineg, 1) := by decide +kernel
theorem d_Ro_putRoot_143 : decode b_Ro_putRoot 143 = .ok (.invokevirtual 58, 3) := by decide +kernel
theorem d_Ro_putRoot_146 : decode b_Ro_putRoot 146 = .ok (.aload_n 0, 1) := by decide +kernel
theorem d_Ro_putRoot_147 : decode b_Ro_putRoot 147 = .ok (.aload_n 1, 1) := by decide +kernel
theorem d_Ro_putRoot_148 : decode b_Ro_putRoot 148 = .ok (.iload_n 3, 1) := by decide +kernel
theorem d_Ro_putRoot_149 : decode b_Ro_putRoot 149 = .ok (.aload 4, 2) := by decide +kernel
theorem d_Ro_putRoot_151 : decode b_Ro_putRoot 151 = .ok (.invokevirtual 61, 3) := by decide +kernel
theorem d_Ro_putRoot_154 : decode b_Ro_putRoot 154 = .ok (.goto (-98), 3) := by decide +kernel
theorem d_Ro_putRoot_157 : decode b_Ro_putRoot 157 = .ok (.return_, 1) := by decide +kernel
theorem d_Ro_nextLength_0 : decode b_Ro_nextLength 0 = .ok (.iload_n 2, 1) := by decide +kernel
theorem d_Ro_nextLength_1 : decode b_Ro_nextLength 1 = .ok (.invokestatic 65, 3) := by decide +kernel
theorem d_Ro_nextLength_4 : decode b_Ro_nextLength 4 = .ok (.iconst 1, 1) := by decide +kernel
theorem d_Ro_nextLength_5 : decode b_Ro_nextLength 5 = .ok (.iadd, 1) := by decide +kernel
theorem d_Ro_nextLength_6 : decode b_Ro_nextLength 6 = .ok (.istore_n 3, 1) := by decide +kernel
theorem d_Ro_nextLength_7 : decode b_Ro_nextLength 7 = .ok (.iconst 2, 1) := by decide +kernel
theorem d_Ro_nextLength_8 : decode b_Ro_nextLength 8 = .ok (.iload_n 0, 1) := by decide +kernel
theorem d_Ro_nextLength_9 : decode b_Ro_nextLength 9 = .ok (.imul, 1) := by decide +kernel
theorem d_Ro_nextLength_10 : decode b_Ro_nextLength 10 = .ok (.iload_n 3, 1) := by decide +kernel
theorem d_Ro_nextLength_11 : decode b_Ro_nextLength 11 = .ok (.isub, 1) := by decide +kernel
theorem d_Ro_nextLength_12 : decode b_Ro_nextLength 12 = .ok (.istore 4, 2) := by decide +kernel
theorem d_Ro_nextLength_14 : decode b_Ro_nextLength 14 = .ok (.iload_n 1, 1) := by decide +kernel
theorem d_Ro_nextLength_15 : decode b_Ro_nextLength 15 = .ok (.istore 5, 2) := by decide +kernel
theorem d_Ro_nextLength_17 : decode b_Ro_nextLength 17 = .ok (.iconst 0, 1) := by decide +kernel
theorem d_Ro_nextLength_18 : decode b_Ro_nextLength 18 = .ok (.istore 6, 2) := by decide +kernel
theorem d_Ro_nextLength_20 : decode b_Ro_nextLength 20 = .ok (.iload 6, 2) := by decide +kernel
theorem d_Ro_nextLength_22 : decode b_Ro_nextLength 22 = .ok (.bipush 20, 2) := by decide +kernel
theorem d_Ro_nextLength_24 : decode b_Ro_nextLength 24 = .ok (.if_icmp .ge 26, 3) := by decide +kernel
theorem d_Ro_nextLength_27 : decode b_Ro_nextLength 27 = .ok (.iload 5, 2) := by decide +kernel
theorem d_Ro_nextLength_29 : decode b_Ro_nextLength 29 = .ok (.iload 4, 2) := by decide +kernel
theorem d_Ro_nextLength_31 : decode b_Ro_nextLength 31 = .ok (.if_icmp .le 19, 3) := by decide +kernel
theorem d_Ro_nextLength_34 : decode b_Ro_nextLength 34 = .ok (.iload 5, 2) := by decide +kernel
theorem d_Ro_nextLength_36 : decode b_Ro_nextLength 36 = .ok (.iload_n 3, 1) := by decide +kernel
theorem d_Ro_nextLength_37 : decode b_Ro_nextLength 37 = .ok (.iadd, 1) := by decide +kernel
theorem d_Ro_nextLength_38 : decode b_Ro_nextLength 38 = .ok (.iconst 1, 1) := by decide +kernel
theorem d_Ro_nextLength_39 : decode b_Ro_nextLength 39 = .ok (.iadd, 1) := by decide +kernel
theorem d_Ro_nextLength_40 : decode b_Ro_nextLength 40 = .ok (.iconst 2, 1) := by decide +kernel
theorem d_Ro_nextLength_41 : decode b_Ro_nextLength 41 = .ok (.idiv, 1) := by decide +kernel
theorem d_Ro_nextLength_42 : decode b_Ro_nextLength 42 = .ok (.istore 5, 2) := by decide +kernel
theorem d_Ro_nextLength_44 : decode b_Ro_nextLength 44 = .ok (.iinc 6 1, 3) := by decide +kernel
theorem d_Ro_nextLength_47 : decode b_Ro_nextLength 47 = .ok (.goto (-27), 3) := by decide +kernel
theorem d_Ro_nextLength_50 : decode b_Ro_nextLength 50 = .ok (.iload 5, 2) := by decide +kernel
theorem d_Ro_nextLength_52 : decode b_Ro_nextLength 52 = .ok (.iload 4, 2) := by decide +kernel
theorem d_Ro_nextLength_54 : decode b_Ro_nextLength 54 = .ok (.invokestatic 71, 3) := by decide +kernel
theorem d_Ro_nextLength_57 : decode b_Ro_nextLength 57 = .ok (.ireturn, 1) := by decide +kernel
theorem d_Ro_layStep_0 : decode b_Ro_layStep 0 = .ok (.aload_n 0, 1) := by decide +kernel
theorem d_Ro_layStep_1 : decode b_Ro_layStep 1 = .ok (.getfield 19, 3) := by decide +kernel
theorem d_Ro_layStep_4 : decode b_Ro_layStep 4 = .ok (.aload_n 1, 1) := by decide +kernel
theorem d_Ro_layStep_5 : decode b_Ro_layStep 5 = .ok (.iload 4, 2) := by decide +kernel
theorem d_Ro_layStep_7 : decode b_Ro_layStep 7 = .ok (.ineg, 1) := by decide +kernel
theorem d_Ro_layStep_8 : decode b_Ro_layStep 8 = .ok (.iload_n 3, 1) := by decide +kernel
theorem d_Ro_layStep_9 : decode b_Ro_layStep 9 = .ok (.iload_n 2, 1) := by decide +kernel
theorem d_Ro_layStep_10 : decode b_Ro_layStep 10 = .ok (.iconst 1, 1) := by decide +kernel
theorem d_Ro_layStep_11 : decode b_Ro_layStep 11 = .ok (.isub, 1) := by decide +kernel
theorem d_Ro_layStep_12 : decode b_Ro_layStep 12 = .ok (.imul, 1) := by decide +kernel
theorem d_Ro_layStep_13 : decode b_Ro_layStep 13 = .ok (.isub, 1) := by decide +kernel
theorem d_Ro_layStep_14 : decode b_Ro_layStep 14 = .ok (.invokevirtual 58, 3) := by decide +kernel
theorem d_Ro_layStep_17 : decode b_Ro_layStep 17 = .ok (.aload_n 0, 1) := by decide +kernel
theorem d_Ro_layStep_18 : decode b_Ro_layStep 18 = .ok (.getfield 16, 3) := by decide +kernel
theorem d_Ro_layStep_21 : decode b_Ro_layStep 21 = .ok (.aload_n 0, 1) := by decide +kernel
theorem d_Ro_layStep_22 : decode b_Ro_layStep 22 = .ok (.getfield 16, 3) := by decide +kernel
theorem d_Ro_layStep_25 : decode b_Ro_layStep 25 = .ok (.iload_n 3, 1) := by decide +kernel
theorem d_Ro_layStep_26 : decode b_Ro_layStep 26 = .ok (.invokevirtual 58, 3) := by decide +kernel
theorem d_Ro_layStep_29 : decode b_Ro_layStep 29 = .ok (.aload_n 0, 1) := by decide +kernel
theorem d_Ro_layStep_30 : decode b_Ro_layStep 30 = .ok (.getfield 19, 3) := by decide +kernel
theorem d_Ro_layStep_33 : decode b_Ro_layStep 33 = .ok (.aload_n 0, 1) := by decide +kernel
theorem d_Ro_layStep_34 : decode b_Ro_layStep 34 = .ok (.getfield 19, 3) := by decide +kernel
theorem d_Ro_layStep_37 : decode b_Ro_layStep 37 = .ok (.aload_n 0, 1) := by decide +kernel
theorem d_Ro_layStep_38 : decode b_Ro_layStep 38 = .ok (.getfield 16, 3) := by decide +kernel
theorem d_Ro_layStep_41 : decode b_Ro_layStep 41 = .ok (.invokevirtual 74, 3) := by decide +kernel
theorem d_Ro_layStep_44 : decode b_Ro_layStep 44 = .ok (.aload_n 0, 1) := by decide +kernel
theorem d_Ro_layStep_45 : decode b_Ro_layStep 45 = .ok (.getfield 10, 3) := by decide +kernel
theorem d_Ro_layStep_48 : decode b_Ro_layStep 48 = .ok (.iload_n 2, 1) := by decide +kernel
theorem d_Ro_layStep_49 : decode b_Ro_layStep 49 = .ok (.iconst 0, 1) := by decide +kernel
theorem d_Ro_layStep_50 : decode b_Ro_layStep 50 = .ok (.invokevirtual 78, 3) := by decide +kernel
theorem d_Ro_layStep_53 : decode b_Ro_layStep 53 = .ok (.return_, 1) := by decide +kernel
theorem d_Ro_lengthen_0 : decode b_Ro_lengthen 0 = .ok (.aload_n 0, 1) := by decide +kernel
theorem d_Ro_lengthen_1 : decode b_Ro_lengthen 1 = .ok (.getfield 19, 3) := by decide +kernel
theorem d_Ro_lengthen_4 : decode b_Ro_lengthen 4 = .ok (.invokevirtual 22, 3) := by decide +kernel
theorem d_Ro_lengthen_7 : decode b_Ro_lengthen 7 = .ok (.iload_n 2, 1) := by decide +kernel
theorem d_Ro_lengthen_8 : decode b_Ro_lengthen 8 = .ok (.if_icmp .le 11, 3) := by decide +kernel
theorem d_Ro_lengthen_11 : decode b_Ro_lengthen 11 = .ok (.aload_n 0, 1) := by decide +kernel
theorem d_Ro_lengthen_12 : decode b_Ro_lengthen 12 = .ok (.getfield 19, 3) := by decide +kernel
theorem d_Ro_lengthen_15 : decode b_Ro_lengthen 15 = .ok (.iload_n 2, 1) := by decide +kernel
theorem d_Ro_lengthen_16 : decode b_Ro_lengthen 16 = .ok (.invokevirtual 82, 3) := by decide +kernel
theorem d_Ro_lengthen_19 : decode b_Ro_lengthen 19 = .ok (.aload_n 1, 1) := by decide +kernel
theorem d_Ro_lengthen_20 : decode b_Ro_lengthen 20 = .ok (.aload_n 1, 1) := by decide +kernel
theorem d_Ro_lengthen_21 : decode b_Ro_lengthen 21 = .ok (.iload_n 2, 1) := by decide +kernel
theorem d_Ro_lengthen_22 : decode b_Ro_lengthen 22 = .ok (.invokevirtual 58, 3) := by decide +kernel
theorem d_Ro_lengthen_25 : decode b_Ro_lengthen 25 = .ok (.aload_n 1, 1) := by decide +kernel
theorem d_Ro_lengthen_26 : decode b_Ro_lengthen 26 = .ok (.aload_n 1, 1) := by decide +kernel
theorem d_Ro_lengthen_27 : decode b_Ro_lengthen 27 = .ok (.aload_n 0, 1) := by decide +kernel
theorem d_Ro_lengthen_28 : decode b_Ro_lengthen 28 = .ok (.getfield 19, 3) := by decide +kernel
theorem d_Ro_lengthen_31 : decode b_Ro_lengthen 31 = .ok (.invokevirtual 86, 3) := by decide +kernel
theorem d_Ro_lengthen_34 : decode b_Ro_lengthen 34 = .ok (.return_, 1) := by decide +kernel
theorem d_Ro_lowerToFit_0 : decode b_Ro_lowerToFit 0 = .ok (.iconst 0, 1) := by decide +kernel
theorem d_Ro_lowerToFit_1 : decode b_Ro_lowerToFit 1 = .ok (.istore 4, 2) := by decide +kernel
theorem d_Ro_lowerToFit_3 : decode b_Ro_lowerToFit 3 = .ok (.iconst 0, 1) := by decide +kernel
theorem d_Ro_lowerToFit_4 : decode b_Ro_lowerToFit 4 = .ok (.istore 5, 2) := by decide +kernel
theorem d_Ro_lowerToFit_6 : decode b_Ro_lowerToFit 6 = .ok (.iload 5, 2) := by decide +kernel
theorem d_Ro_lowerToFit_8 : decode b_Ro_lowerToFit 8 = .ok (.iconst 4, 1) := by decide +kernel
theorem d_Ro_lowerToFit_9 : decode b_Ro_lowerToFit 9 = .ok (.if_icmp .ge 78, 3) := by decide +kernel
theorem d_Ro_lowerToFit_12 : decode b_Ro_lowerToFit 12 = .ok (.iload 4, 2) := by decide +kernel
theorem d_Ro_lowerToFit_14 : decode b_Ro_lowerToFit 14 = .ok (.ifCond .ne 73, 3) := by decide +kernel
theorem d_Ro_lowerToFit_17 : decode b_Ro_lowerToFit 17 = .ok (.aload_n 3, 1) := by decide +kernel
theorem d_Ro_lowerToFit_18 : decode b_Ro_lowerToFit 18 = .ok (.aload_n 0, 1) := by decide +kernel
theorem d_Ro_lowerToFit_19 : decode b_Ro_lowerToFit 19 = .ok (.getfield 10, 3) := by decide +kernel
theorem d_Ro_lowerToFit_22 : decode b_Ro_lowerToFit 22 = .ok (.aload_n 1, 1) := by decide +kernel
theorem d_Ro_lowerToFit_23 : decode b_Ro_lowerToFit 23 = .ok (.iload_n 2, 1) := by decide +kernel
theorem d_Ro_lowerToFit_24 : decode b_Ro_lowerToFit 24 = .ok (.iconst 1, 1) := by decide +kernel
theorem d_Ro_lowerToFit_25 : decode b_Ro_lowerToFit 25 = .ok (.isub, 1) := by decide +kernel
theorem d_Ro_lowerToFit_26 : decode b_Ro_lowerToFit 26 = .ok (.invokevirtual 89, 3) := by decide +kernel
theorem d_Ro_lowerToFit_29 : decode b_Ro_lowerToFit 29 = .ok (.aload_n 3, 1) := by decide +kernel
theorem d_Ro_lowerToFit_30 : decode b_Ro_lowerToFit 30 = .ok (.aload_n 0, 1) := by decide +kernel
theorem d_Ro_lowerToFit_31 : decode b_Ro_lowerToFit 31 = .ok (.getfield 16, 3) := by decide +kernel
theorem d_Ro_lowerToFit_34 : decode b_Ro_lowerToFit 34 = .ok (.iload_n 2, 1) := by decide +kernel
theorem d_Ro_lowerToFit_35 : decode b_Ro_lowerToFit 35 = .ok (.iconst 2, 1) := by decide +kernel
theorem d_Ro_lowerToFit_36 : decode b_Ro_lowerToFit 36 = .ok (.if_icmp .ne 7, 3) := by decide +kernel
theorem d_Ro_lowerToFit_39 : decode b_Ro_lowerToFit 39 = .ok (.aload_n 1, 1) := by decide +kernel
theorem d_Ro_lowerToFit_40 : decode b_Ro_lowerToFit 40 = .ok (.goto 7, 3) := by decide +kernel
theorem d_Ro_lowerToFit_43 : decode b_Ro_lowerToFit 43 = .ok (.aload_n 0, 1) := by decide +kernel
theorem d_Ro_lowerToFit_44 : decode b_Ro_lowerToFit 44 = .ok (.getfield 10, 3) := by decide +kernel
theorem d_Ro_lowerToFit_47 : decode b_Ro_lowerToFit 47 = .ok (.aload_n 1, 1) := by decide +kernel
theorem d_Ro_lowerToFit_48 : decode b_Ro_lowerToFit 48 = .ok (.invokevirtual 93, 3) := by decide +kernel
theorem d_Ro_lowerToFit_51 : decode b_Ro_lowerToFit 51 = .ok (.aload_n 0, 1) := by decide +kernel
theorem d_Ro_lowerToFit_52 : decode b_Ro_lowerToFit 52 = .ok (.getfield 16, 3) := by decide +kernel
theorem d_Ro_lowerToFit_55 : decode b_Ro_lowerToFit 55 = .ok (.aload_n 0, 1) := by decide +kernel
theorem d_Ro_lowerToFit_56 : decode b_Ro_lowerToFit 56 = .ok (.getfield 19, 3) := by decide +kernel
theorem d_Ro_lowerToFit_59 : decode b_Ro_lowerToFit 59 = .ok (.invokevirtual 97, 3) := by decide +kernel
theorem d_Ro_lowerToFit_62 : decode b_Ro_lowerToFit 62 = .ok (.ifCond .gt 7, 3) := by decide +kernel
theorem d_Ro_lowerToFit_65 : decode b_Ro_lowerToFit 65 = .ok (.iconst 1, 1) := by decide +kernel
theorem d_Ro_lowerToFit_66 : decode b_Ro_lowerToFit 66 = .ok (.goto 4, 3) := by decide +kernel
theorem d_Ro_lowerToFit_69 : decode b_Ro_lowerToFit 69 = .ok (.iconst 0, 1) := by decide +kernel
theorem d_Ro_lowerToFit_70 : decode b_Ro_lowerToFit 70 = .ok (.istore 4, 2) := by decide +kernel
theorem d_Ro_lowerToFit_72 : decode b_Ro_lowerToFit 72 = .ok (.iload 4, 2) := by decide +kernel
theorem d_Ro_lowerToFit_74 : decode b_Ro_lowerToFit 74 = .ok (.ifCond .ne 7, 3) := by decide +kernel
theorem d_Ro_lowerToFit_77 : decode b_Ro_lowerToFit 77 = .ok (.aload_n 1, 1) := by decide +kernel
theorem d_Ro_lowerToFit_78 : decode b_Ro_lowerToFit 78 = .ok (.invokevirtual 101, 3) := by decide +kernel
theorem d_Ro_lowerToFit_81 : decode b_Ro_lowerToFit 81 = .ok (.iinc 5 1, 3) := by decide +kernel
theorem d_Ro_lowerToFit_84 : decode b_Ro_lowerToFit 84 = .ok (.goto (-78), 3) := by decide +kernel
theorem d_Ro_lowerToFit_87 : decode b_Ro_lowerToFit 87 = .ok (.return_, 1) := by decide +kernel
