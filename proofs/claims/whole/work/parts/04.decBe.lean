/-! DECODE ROWS of Be (by program) -/
theorem d_Be_init_0 : decode b_Be_init 0 = .ok (.aload_n 0, 1) := by decide +kernel
theorem d_Be_init_1 : decode b_Be_init 1 = .ok (.invokespecial 3, 3) := by decide +kernel
theorem d_Be_init_4 : decode b_Be_init 4 = .ok (.aload_n 0, 1) := by decide +kernel
theorem d_Be_init_5 : decode b_Be_init 5 = .ok (.sipush 28672, 3) := by decide +kernel
theorem d_Be_init_8 : decode b_Be_init 8 = .ok (.newarray .int, 2) := by decide +kernel
theorem d_Be_init_10 : decode b_Be_init 10 = .ok (.putfield 11, 3) := by decide +kernel
theorem d_Be_init_13 : decode b_Be_init 13 = .ok (.return_, 1) := by decide +kernel
theorem d_Be_putProduct_0 : decode b_Be_putProduct 0 = .ok (.aload_n 2, 1) := by decide +kernel
theorem d_Be_putProduct_1 : decode b_Be_putProduct 1 = .ok (.getfield 15, 3) := by decide +kernel
theorem d_Be_putProduct_4 : decode b_Be_putProduct 4 = .ok (.istore 4, 2) := by decide +kernel
theorem d_Be_putProduct_6 : decode b_Be_putProduct 6 = .ok (.aload_n 3, 1) := by decide +kernel
theorem d_Be_putProduct_7 : decode b_Be_putProduct 7 = .ok (.getfield 15, 3) := by decide +kernel
theorem d_Be_putProduct_10 : decode b_Be_putProduct 10 = .ok (.istore 5, 2) := by decide +kernel
theorem d_Be_putProduct_12 : decode b_Be_putProduct 12 = .ok (.iload 4, 2) := by decide +kernel
theorem d_Be_putProduct_14 : decode b_Be_putProduct 14 = .ok (.ifCond .eq 8, 3) := by decide +kernel
theorem d_Be_putProduct_17 : decode b_Be_putProduct 17 = .ok (.iload 5, 2) := by decide +kernel
theorem d_Be_putProduct_19 : decode b_Be_putProduct 19 = .ok (.ifCond .ne 9, 3) := by decide +kernel
theorem d_Be_putProduct_22 : decode b_Be_putProduct 22 = .ok (.aload_n 1, 1) := by decide +kernel
theorem d_Be_putProduct_23 : decode b_Be_putProduct 23 = .ok (.iconst 0, 1) := by decide +kernel
theorem d_Be_putProduct_24 : decode b_Be_putProduct 24 = .ok (.putfield 15, 3) := by decide +kernel
theorem d_Be_putProduct_27 : decode b_Be_putProduct 27 = .ok (.return_, 1) := by decide +kernel
theorem d_Be_putProduct_28 : decode b_Be_putProduct 28 = .ok (.aload_n 2, 1) := by decide +kernel
theorem d_Be_putProduct_29 : decode b_Be_putProduct 29 = .ok (.aload_n 3, 1) := by decide +kernel
theorem d_Be_putProduct_30 : decode b_Be_putProduct 30 = .ok (.if_acmp .ne 7, 3) := by decide +kernel
theorem d_Be_putProduct_33 : decode b_Be_putProduct 33 = .ok (.iconst 0, 1) := by decide +kernel
theorem d_Be_putProduct_34 : decode b_Be_putProduct 34 = .ok (.goto 5, 3) := by decide +kernel
theorem d_Be_putProduct_37 : decode b_Be_putProduct 37 = .ok (.iload 4, 2) := by decide +kernel
theorem d_Be_putProduct_39 : decode b_Be_putProduct 39 = .ok (.istore 6, 2) := by decide +kernel
theorem d_Be_putProduct_41 : decode b_Be_putProduct 41 = .ok (.iload 4, 2) := by decide +kernel
theorem d_Be_putProduct_43 : decode b_Be_putProduct 43 = .ok (.iload 5, 2) := by decide +kernel
theorem d_Be_putProduct_45 : decode b_Be_putProduct 45 = .ok (.iadd, 1) := by decide +kernel
theorem d_Be_putProduct_46 : decode b_Be_putProduct 46 = .ok (.istore 7, 2) := by decide +kernel
theorem d_Be_putProduct_48 : decode b_Be_putProduct 48 = .ok (.aload_n 2, 1) := by decide +kernel
theorem d_Be_putProduct_49 : decode b_Be_putProduct 49 = .ok (.getfield 21, 3) := by decide +kernel
theorem d_Be_putProduct_52 : decode b_Be_putProduct 52 = .ok (.iconst 0, 1) := by decide +kernel
theorem d_Be_putProduct_53 : decode b_Be_putProduct 53 = .ok (.aload_n 0, 1) := by decide +kernel
theorem d_Be_putProduct_54 : decode b_Be_putProduct 54 = .ok (.getfield 11, 3) := by decide +kernel
theorem d_Be_putProduct_57 : decode b_Be_putProduct 57 = .ok (.iconst 0, 1) := by decide +kernel
theorem d_Be_putProduct_58 : decode b_Be_putProduct 58 = .ok (.iload 4, 2) := by decide +kernel
theorem d_Be_putProduct_60 : decode b_Be_putProduct 60 = .ok (.invokestatic 24, 3) := by decide +kernel
theorem d_Be_putProduct_63 : decode b_Be_putProduct 63 = .ok (.aload_n 3, 1) := by decide +kernel
theorem d_Be_putProduct_64 : decode b_Be_putProduct 64 = .ok (.getfield 21, 3) := by decide +kernel
theorem d_Be_putProduct_67 : decode b_Be_putProduct 67 = .ok (.iconst 0, 1) := by decide +kernel
theorem d_Be_putProduct_68 : decode b_Be_putProduct 68 = .ok (.aload_n 0, 1) := by decide +kernel
theorem d_Be_putProduct_69 : decode b_Be_putProduct 69 = .ok (.getfield 11, 3) := by decide +kernel
theorem d_Be_putProduct_72 : decode b_Be_putProduct 72 = .ok (.iload 6, 2) := by decide +kernel
theorem d_Be_putProduct_74 : decode b_Be_putProduct 74 = .ok (.iload 5, 2) := by decide +kernel
theorem d_Be_putProduct_76 : decode b_Be_putProduct 76 = .ok (.invokestatic 24, 3) := by decide +kernel
theorem d_Be_putProduct_79 : decode b_Be_putProduct 79 = .ok (.aload_n 0, 1) := by decide +kernel
theorem d_Be_putProduct_80 : decode b_Be_putProduct 80 = .ok (.iload 7, 2) := by decide +kernel
theorem d_Be_putProduct_82 : decode b_Be_putProduct 82 = .ok (.iconst 0, 1) := by decide +kernel
theorem d_Be_putProduct_83 : decode b_Be_putProduct 83 = .ok (.iload 4, 2) := by decide +kernel
theorem d_Be_putProduct_85 : decode b_Be_putProduct 85 = .ok (.iload 6, 2) := by decide +kernel
theorem d_Be_putProduct_87 : decode b_Be_putProduct 87 = .ok (.iload 5, 2) := by decide +kernel
theorem d_Be_putProduct_89 : decode b_Be_putProduct 89 = .ok (.iload 7, 2) := by decide +kernel
theorem d_Be_putProduct_91 : decode b_Be_putProduct 91 = .ok (.iload 4, 2) := by decide +kernel
theorem d_Be_putProduct_93 : decode b_Be_putProduct 93 = .ok (.iadd, 1) := by decide +kernel
theorem d_Be_putProduct_94 : decode b_Be_putProduct 94 = .ok (.iload 5, 2) := by decide +kernel
theorem d_Be_putProduct_96 : decode b_Be_putProduct 96 = .ok (.iadd, 1) := by decide +kernel
theorem d_Be_putProduct_97 : decode b_Be_putProduct 97 = .ok (.bipush 20, 2) := by decide +kernel
theorem d_Be_putProduct_99 : decode b_Be_putProduct 99 = .ok (.invokevirtual 30, 3) := by decide +kernel
theorem d_Be_putProduct_102 : decode b_Be_putProduct 102 = .ok (.aload_n 0, 1) := by decide +kernel
theorem d_Be_putProduct_103 : decode b_Be_putProduct 103 = .ok (.getfield 11, 3) := by decide +kernel
theorem d_Be_putProduct_106 : decode b_Be_putProduct 106 = .ok (.iload 7, 2) := by decide +kernel
theorem d_Be_putProduct_108 : decode b_Be_putProduct 108 = .ok (.aload_n 1, 1) := by decide +kernel
theorem d_Be_putProduct_109 : decode b_Be_putProduct 109 = .ok (.getfield 21, 3) := by decide +kernel
theorem d_Be_putProduct_112 : decode b_Be_putProduct 112 = .ok (.iconst 0, 1) := by decide +kernel
theorem d_Be_putProduct_113 : decode b_Be_putProduct 113 = .ok (.iload 4, 2) := by decide +kernel
theorem d_Be_putProduct_115 : decode b_Be_putProduct 115 = .ok (.iload 5, 2) := by decide +kernel
theorem d_Be_putProduct_117 : decode b_Be_putProduct 117 = .ok (.iadd, 1) := by decide +kernel
theorem d_Be_putProduct_118 : decode b_Be_putProduct 118 = .ok (.invokestatic 24, 3) := by decide +kernel
theorem d_Be_putProduct_121 : decode b_Be_putProduct 121 = .ok (.aload_n 1, 1) := by decide +kernel
theorem d_Be_putProduct_122 : decode b_Be_putProduct 122 = .ok (.iload 4, 2) := by decide +kernel
theorem d_Be_putProduct_124 : decode b_Be_putProduct 124 = .ok (.iload 5, 2) := by decide +kernel
theorem d_Be_putProduct_126 : decode b_Be_putProduct 126 = .ok (.iadd, 1) := by decide +kernel
theorem d_Be_putProduct_127 : decode b_Be_putProduct 127 = .ok (.invokevirtual 34, 3) := by decide +kernel
theorem d_Be_putProduct_130 : decode b_Be_putProduct 130 = .ok (.return_, 1) := by decide +kernel
theorem d_Be_multiply_0 : decode b_Be_multiply 0 = .ok (.iload_n 3, 1) := by decide +kernel
theorem d_Be_multiply_1 : decode b_Be_multiply 1 = .ok (.iload 5, 2) := by decide +kernel
theorem d_Be_multiply_3 : decode b_Be_multiply 3 = .ok (.invokestatic 54, 3) := by decide +kernel
theorem d_Be_multiply_6 : decode b_Be_multiply 6 = .ok (.iconst 1, 1) := by decide +kernel
theorem d_Be_multiply_7 : decode b_Be_multiply 7 = .ok (.iadd, 1) := by decide +kernel
theorem d_Be_multiply_8 : decode b_Be_multiply 8 = .ok (.iconst 2, 1) := by decide +kernel
theorem d_Be_multiply_9 : decode b_Be_multiply 9 = .ok (.idiv, 1) := by decide +kernel
theorem d_Be_multiply_10 : decode b_Be_multiply 10 = .ok (.istore 8, 2) := by decide +kernel
theorem d_Be_multiply_12 : decode b_Be_multiply 12 = .ok (.iload_n 3, 1) := by decide +kernel
theorem d_Be_multiply_13 : decode b_Be_multiply 13 = .ok (.iload 5, 2) := by decide +kernel
theorem d_Be_multiply_15 : decode b_Be_multiply 15 = .ok (.invokestatic 72, 3) := by decide +kernel
theorem d_Be_multiply_18 : decode b_Be_multiply 18 = .ok (.bipush 40, 2) := by decide +kernel
theorem d_Be_multiply_20 : decode b_Be_multiply 20 = .ok (.if_icmp .lt 8, 3) := by decide +kernel
theorem d_Be_multiply_23 : decode b_Be_multiply 23 = .ok (.iload 7, 2) := by decide +kernel
theorem d_Be_multiply_25 : decode b_Be_multiply 25 = .ok (.ifCond .ne 7, 3) := by decide +kernel
theorem d_Be_multiply_28 : decode b_Be_multiply 28 = .ok (.iconst 1, 1) := by decide +kernel
theorem d_Be_multiply_29 : decode b_Be_multiply 29 = .ok (.goto 4, 3) := by decide +kernel
theorem d_Be_multiply_32 : decode b_Be_multiply 32 = .ok (.iconst 0, 1) := by decide +kernel
theorem d_Be_multiply_33 : decode b_Be_multiply 33 = .ok (.istore 9, 2) := by decide +kernel
theorem d_Be_multiply_35 : decode b_Be_multiply 35 = .ok (.iload 9, 2) := by decide +kernel
theorem d_Be_multiply_37 : decode b_Be_multiply 37 = .ok (.ifCond .eq 19, 3) := by decide +kernel
theorem d_Be_multiply_40 : decode b_Be_multiply 40 = .ok (.iload_n 2, 1) := by decide +kernel
theorem d_Be_multiply_41 : decode b_Be_multiply 41 = .ok (.iload 4, 2) := by decide +kernel
theorem d_Be_multiply_43 : decode b_Be_multiply 43 = .ok (.if_icmp .ne 13, 3) := by decide +kernel
theorem d_Be_multiply_46 : decode b_Be_multiply 46 = .ok (.aload_n 0, 1) := by decide +kernel
theorem d_Be_multiply_47 : decode b_Be_multiply 47 = .ok (.iload_n 1, 1) := by decide +kernel
theorem d_Be_multiply_48 : decode b_Be_multiply 48 = .ok (.iload_n 2, 1) := by decide +kernel
theorem d_Be_multiply_49 : decode b_Be_multiply 49 = .ok (.iload_n 3, 1) := by decide +kernel
theorem d_Be_multiply_50 : decode b_Be_multiply 50 = .ok (.invokevirtual 79, 3) := by decide +kernel
theorem d_Be_multiply_53 : decode b_Be_multiply 53 = .ok (.goto 92, 3) := by decide +kernel
theorem d_Be_multiply_56 : decode b_Be_multiply 56 = .ok (.iload 9, 2) := by decide +kernel
theorem d_Be_multiply_58 : decode b_Be_multiply 58 = .ok (.ifCond .eq 17, 3) := by decide +kernel
theorem d_Be_multiply_61 : decode b_Be_multiply 61 = .ok (.aload_n 0, 1) := by decide +kernel
theorem d_Be_multiply_62 : decode b_Be_multiply 62 = .ok (.iload_n 1, 1) := by decide +kernel
theorem d_Be_multiply_63 : decode b_Be_multiply 63 = .ok (.iload_n 2, 1) := by decide +kernel
theorem d_Be_multiply_64 : decode b_Be_multiply 64 = .ok (.iload_n 3, 1) := by decide +kernel
theorem d_Be_multiply_65 : decode b_Be_multiply 65 = .ok (.iload 4, 2) := by decide +kernel
theorem d_Be_multiply_67 : decode b_Be_multiply 67 = .ok (.iload 5, 2) := by decide +kernel
theorem d_Be_multiply_69 : decode b_Be_multiply 69 = .ok (.invokevirtual 83, 3) := by decide +kernel
theorem d_Be_multiply_72 : decode b_Be_multiply 72 = .ok (.goto 73, 3) := by decide +kernel
theorem d_Be_multiply_75 : decode b_Be_multiply 75 = .ok (.iload_n 3, 1) := by decide +kernel
theorem d_Be_multiply_76 : decode b_Be_multiply 76 = .ok (.iload 8, 2) := by decide +kernel
theorem d_Be_multiply_78 : decode b_Be_multiply 78 = .ok (.if_icmp .gt 23, 3) := by decide +kernel
theorem d_Be_multiply_81 : decode b_Be_multiply 81 = .ok (.aload_n 0, 1) := by decide +kernel
theorem d_Be_multiply_82 : decode b_Be_multiply 82 = .ok (.iload_n 1, 1) := by decide +kernel
theorem d_Be_multiply_83 : decode b_Be_multiply 83 = .ok (.iload 4, 2) := by decide +kernel
theorem d_Be_multiply_85 : decode b_Be_multiply 85 = .ok (.iload 5, 2) := by decide +kernel
theorem d_Be_multiply_87 : decode b_Be_multiply 87 = .ok (.iload_n 2, 1) := by decide +kernel
theorem d_Be_multiply_88 : decode b_Be_multiply 88 = .ok (.iload_n 3, 1) := by decide +kernel
theorem d_Be_multiply_89 : decode b_Be_multiply 89 = .ok (.iload 6, 2) := by decide +kernel
theorem d_Be_multiply_91 : decode b_Be_multiply 91 = .ok (.iload 7, 2) := by decide +kernel
theorem d_Be_multiply_93 : decode b_Be_multiply 93 = .ok (.iconst 1, 1) := by decide +kernel
theorem d_Be_multiply_94 : decode b_Be_multiply 94 = .ok (.isub, 1) := by decide +kernel
theorem d_Be_multiply_95 : decode b_Be_multiply 95 = .ok (.invokevirtual 87, 3) := by decide +kernel
theorem d_Be_multiply_98 : decode b_Be_multiply 98 = .ok (.goto 47, 3) := by decide +kernel
theorem d_Be_multiply_101 : decode b_Be_multiply 101 = .ok (.iload 5, 2) := by decide +kernel
theorem d_Be_multiply_103 : decode b_Be_multiply 103 = .ok (.iload 8, 2) := by decide +kernel
theorem d_Be_multiply_105 : decode b_Be_multiply 105 = .ok (.if_icmp .gt 23, 3) := by decide +kernel
theorem d_Be_multiply_108 : decode b_Be_multiply 108 = .ok (.aload_n 0, 1) := by decide +kernel
theorem d_Be_multiply_109 : decode b_Be_multiply 109 = .ok (.iload_n 1, 1) := by decide +kernel
theorem d_Be_multiply_110 : decode b_Be_multiply 110 = .ok (.iload_n 2, 1) := by decide +kernel
theorem d_Be_multiply_111 : decode b_Be_multiply 111 = .ok (.iload_n 3, 1) := by decide +kernel
theorem d_Be_multiply_112 : decode b_Be_multiply 112 = .ok (.iload 4, 2) := by decide +kernel
theorem d_Be_multiply_114 : decode b_Be_multiply 114 = .ok (.iload 5, 2) := by decide +kernel
theorem d_Be_multiply_116 : decode b_Be_multiply 116 = .ok (.iload 6, 2) := by decide +kernel
theorem d_Be_multiply_118 : decode b_Be_multiply 118 = .ok (.iload 7, 2) := by decide +kernel
theorem d_Be_multiply_120 : decode b_Be_multiply 120 = .ok (.iconst 1, 1) := by decide +kernel
theorem d_Be_multiply_121 : decode b_Be_multiply 121 = .ok (.isub, 1) := by decide +kernel
theorem d_Be_multiply_122 : decode b_Be_multiply 122 = .ok (.invokevirtual 87, 3) := by decide +kernel
theorem d_Be_multiply_125 : decode b_Be_multiply 125 = .ok (.goto 20, 3) := by decide +kernel
theorem d_Be_multiply_128 : decode b_Be_multiply 128 = .ok (.aload_n 0, 1) := by decide +kernel
theorem d_Be_multiply_129 : decode b_Be_multiply 129 = .ok (.iload_n 1, 1) := by decide +kernel
theorem d_Be_multiply_130 : decode b_Be_multiply 130 = .ok (.iload_n 2, 1) := by decide +kernel
theorem d_Be_multiply_131 : decode b_Be_multiply 131 = .ok (.iload_n 3, 1) := by decide +kernel
theorem d_Be_multiply_132 : decode b_Be_multiply 132 = .ok (.iload 4, 2) := by decide +kernel
theorem d_Be_multiply_134 : decode b_Be_multiply 134 = .ok (.iload 5, 2) := by decide +kernel
theorem d_Be_multiply_136 : decode b_Be_multiply 136 = .ok (.iload 6, 2) := by decide +kernel
theorem d_Be_multiply_138 : decode b_Be_multiply 138 = .ok (.iload 7, 2) := by decide +kernel
theorem d_Be_multiply_140 : decode b_Be_multiply 140 = .ok (.iconst 1, 1) := by decide +kernel
theorem d_Be_multiply_141 : decode b_Be_multiply 141 = .ok (.isub, 1) := by decide +kernel
theorem d_Be_multiply_142 : decode b_Be_multiply 142 = .ok (.invokevirtual 90, 3) := by decide +kernel
theorem d_Be_multiply_145 : decode b_Be_multiply 145 = .ok (.return_, 1) := by decide +kernel
theorem d_Be_squarePlain_0 : decode b_Be_squarePlain 0 = .ok (.aload_n 0, 1) := by decide +kernel
theorem d_Be_squarePlain_1 : decode b_Be_squarePlain 1 = .ok (.getfield 11, 3) := by decide +kernel
theorem d_Be_squarePlain_4 : decode b_Be_squarePlain 4 = .ok (.astore 4, 2) := by decide +kernel
theorem d_Be_squarePlain_6 : decode b_Be_squarePlain 6 = .ok (.aload 4, 2) := by decide +kernel
theorem d_Be_squarePlain_8 : decode b_Be_squarePlain 8 = .ok (.iload_n 1, 1) := by decide +kernel
theorem d_Be_squarePlain_9 : decode b_Be_squarePlain 9 = .ok (.iload_n 1, 1) := by decide +kernel
theorem d_Be_squarePlain_10 : decode b_Be_squarePlain 10 = .ok (.iconst 2, 1) := by decide +kernel
theorem d_Be_squarePlain_11 : decode b_Be_squarePlain 11 = .ok (.iload_n 3, 1) := by decide +kernel
theorem d_Be_squarePlain_12 : decode b_Be_squarePlain 12 = .ok (.imul, 1) := by decide +kernel
theorem d_Be_squarePlain_13 : decode b_Be_squarePlain 13 = .ok (.iadd, 1) := by decide +kernel
theorem d_Be_squarePlain_14 : decode b_Be_squarePlain 14 = .ok (.iconst 0, 1) := by decide +kernel
theorem d_Be_squarePlain_15 : decode b_Be_squarePlain 15 = .ok (.invokestatic 93, 3) := by decide +kernel
theorem d_Be_squarePlain_18 : decode b_Be_squarePlain 18 = .ok (.iconst 0, 1) := by decide +kernel
theorem d_Be_squarePlain_19 : decode b_Be_squarePlain 19 = .ok (.istore 5, 2) := by decide +kernel
theorem d_Be_squarePlain_21 : decode b_Be_squarePlain 21 = .ok (.iload 5, 2) := by decide +kernel
theorem d_Be_squarePlain_23 : decode b_Be_squarePlain 23 = .ok (.iload_n 3, 1) := by decide +kernel
theorem d_Be_squarePlain_24 : decode b_Be_squarePlain 24 = .ok (.if_icmp .ge 54, 3) := by decide +kernel
theorem d_Be_squarePlain_27 : decode b_Be_squarePlain 27 = .ok (.aload 4, 2) := by decide +kernel
theorem d_Be_squarePlain_29 : decode b_Be_squarePlain 29 = .ok (.iload_n 1, 1) := by decide +kernel
theorem d_Be_squarePlain_30 : decode b_Be_squarePlain 30 = .ok (.iload_n 3, 1) := by decide +kernel
theorem d_Be_squarePlain_31 : decode b_Be_squarePlain 31 = .ok (.iadd, 1) := by decide +kernel
theorem d_Be_squarePlain_32 : decode b_Be_squarePlain 32 = .ok (.iload 5, 2) := by decide +kernel
theorem d_Be_squarePlain_34 : decode b_Be_squarePlain 34 = .ok (.iadd, 1) := by decide +kernel
theorem d_Be_squarePlain_35 : decode b_Be_squarePlain 35 = .ok (.aload_n 0, 1) := by decide +kernel
theorem d_Be_squarePlain_36 : decode b_Be_squarePlain 36 = .ok (.iload_n 1, 1) := by decide +kernel
theorem d_Be_squarePlain_37 : decode b_Be_squarePlain 37 = .ok (.iconst 2, 1) := by decide +kernel
theorem d_Be_squarePlain_38 : decode b_Be_squarePlain 38 = .ok (.iload 5, 2) := by decide +kernel
theorem d_Be_squarePlain_40 : decode b_Be_squarePlain 40 = .ok (.imul, 1) := by decide +kernel
theorem d_Be_squarePlain_41 : decode b_Be_squarePlain 41 = .ok (.iadd, 1) := by decide +kernel
theorem d_Be_squarePlain_42 : decode b_Be_squarePlain 42 = .ok (.iconst 1, 1) := by decide +kernel
theorem d_Be_squarePlain_43 : decode b_Be_squarePlain 43 = .ok (.iadd, 1) := by decide +kernel
theorem d_Be_squarePlain_44 : decode b_Be_squarePlain 44 = .ok (.iload_n 2, 1) := by decide +kernel
theorem d_Be_squarePlain_45 : decode b_Be_squarePlain 45 = .ok (.iload 5, 2) := by decide +kernel
theorem d_Be_squarePlain_47 : decode b_Be_squarePlain 47 = .ok (.iadd, 1) := by decide +kernel
theorem d_Be_squarePlain_48 : decode b_Be_squarePlain 48 = .ok (.iconst 1, 1) := by decide +kernel
theorem d_Be_squarePlain_49 : decode b_Be_squarePlain 49 = .ok (.iadd, 1) := by decide +kernel
theorem d_Be_squarePlain_50 : decode b_Be_squarePlain 50 = .ok (.iload_n 3, 1) := by decide +kernel
theorem d_Be_squarePlain_51 : decode b_Be_squarePlain 51 = .ok (.iconst 1, 1) := by decide +kernel
theorem d_Be_squarePlain_52 : decode b_Be_squarePlain 52 = .ok (.isub, 1) := by decide +kernel
theorem d_Be_squarePlain_53 : decode b_Be_squarePlain 53 = .ok (.iload 5, 2) := by decide +kernel
theorem d_Be_squarePlain_55 : decode b_Be_squarePlain 55 = .ok (.isub, 1) := by decide +kernel
theorem d_Be_squarePlain_56 : decode b_Be_squarePlain 56 = .ok (.aload 4, 2) := by decide +kernel
theorem d_Be_squarePlain_58 : decode b_Be_squarePlain 58 = .ok (.iload_n 2, 1) := by decide +kernel
theorem d_Be_squarePlain_59 : decode b_Be_squarePlain 59 = .ok (.iload 5, 2) := by decide +kernel
theorem d_Be_squarePlain_61 : decode b_Be_squarePlain 61 = .ok (.iadd, 1) := by decide +kernel
theorem d_Be_squarePlain_62 : decode b_Be_squarePlain 62 = .ok (.iaload, 1) := by decide +kernel
theorem d_Be_squarePlain_63 : decode b_Be_squarePlain 63 = .ok (.i2l, 1) := by decide +kernel
theorem d_Be_squarePlain_64 : decode b_Be_squarePlain 64 = .ok (.ldc2_w 99, 3) := by decide +kernel
theorem d_Be_squarePlain_67 : decode b_Be_squarePlain 67 = .ok (.land, 1) := by decide +kernel
theorem d_Be_squarePlain_68 : decode b_Be_squarePlain 68 = .ok (.invokevirtual 101, 3) := by decide +kernel
theorem d_Be_squarePlain_71 : decode b_Be_squarePlain 71 = .ok (.iastore, 1) := by decide +kernel
theorem d_Be_squarePlain_72 : decode b_Be_squarePlain 72 = .ok (.iinc 5 1, 3) := by decide +kernel
theorem d_Be_squarePlain_75 : decode b_Be_squarePlain 75 = .ok (.goto (-54), 3) := by decide +kernel
theorem d_Be_squarePlain_78 : decode b_Be_squarePlain 78 = .ok (.lconst 0, 1) := by decide +kernel
theorem d_Be_squarePlain_79 : decode b_Be_squarePlain 79 = .ok (.lstore 5, 2) := by decide +kernel
theorem d_Be_squarePlain_81 : decode b_Be_squarePlain 81 = .ok (.iconst 0, 1) := by decide +kernel
theorem d_Be_squarePlain_82 : decode b_Be_squarePlain 82 = .ok (.istore 7, 2) := by decide +kernel
theorem d_Be_squarePlain_84 : decode b_Be_squarePlain 84 = .ok (.iload 7, 2) := by decide +kernel
theorem d_Be_squarePlain_86 : decode b_Be_squarePlain 86 = .ok (.iload_n 3, 1) := by decide +kernel
theorem d_Be_squarePlain_87 : decode b_Be_squarePlain 87 = .ok (.if_icmp .ge 123, 3) := by decide +kernel
theorem d_Be_squarePlain_90 : decode b_Be_squarePlain 90 = .ok (.aload 4, 2) := by decide +kernel
theorem d_Be_squarePlain_92 : decode b_Be_squarePlain 92 = .ok (.iload_n 2, 1) := by decide +kernel
theorem d_Be_squarePlain_93 : decode b_Be_squarePlain 93 = .ok (.iload 7, 2) := by decide +kernel
theorem d_Be_squarePlain_95 : decode b_Be_squarePlain 95 = .ok (.iadd, 1) := by decide +kernel
theorem d_Be_squarePlain_96 : decode b_Be_squarePlain 96 = .ok (.iaload, 1) := by decide +kernel
theorem d_Be_squarePlain_97 : decode b_Be_squarePlain 97 = .ok (.i2l, 1) := by decide +kernel
theorem d_Be_squarePlain_98 : decode b_Be_squarePlain 98 = .ok (.ldc2_w 99, 3) := by decide +kernel
theorem d_Be_squarePlain_101 : decode b_Be_squarePlain 101 = .ok (.land, 1) := by decide +kernel
theorem d_Be_squarePlain_102 : decode b_Be_squarePlain 102 = .ok (.lstore 8, 2) := by decide +kernel
theorem d_Be_squarePlain_104 : decode b_Be_squarePlain 104 = .ok (.lload 8, 2) := by decide +kernel
theorem d_Be_squarePlain_106 : decode b_Be_squarePlain 106 = .ok (.lload 8, 2) := by decide +kernel
theorem d_Be_squarePlain_108 : decode b_Be_squarePlain 108 = .ok (.lmul, 1) := by decide +kernel
theorem d_Be_squarePlain_109 : decode b_Be_squarePlain 109 = .ok (.lstore 10, 2) := by decide +kernel
theorem d_Be_squarePlain_111 : decode b_Be_squarePlain 111 = .ok (.lload 5, 2) := by decide +kernel
theorem d_Be_squarePlain_113 : decode b_Be_squarePlain 113 = .ok (.aload 4, 2) := by decide +kernel
theorem d_Be_squarePlain_115 : decode b_Be_squarePlain 115 = .ok (.iload_n 1, 1) := by decide +kernel
theorem d_Be_squarePlain_116 : decode b_Be_squarePlain 116 = .ok (.iconst 2, 1) := by decide +kernel
theorem d_Be_squarePlain_117 : decode b_Be_squarePlain 117 = .ok (.iload 7, 2) := by decide +kernel
theorem d_Be_squarePlain_119 : decode b_Be_squarePlain 119 = .ok (.imul, 1) := by decide +kernel
theorem d_Be_squarePlain_120 : decode b_Be_squarePlain 120 = .ok (.iadd, 1) := by decide +kernel
theorem d_Be_squarePlain_121 : decode b_Be_squarePlain 121 = .ok (.iaload, 1) := by decide +kernel
theorem d_Be_squarePlain_122 : decode b_Be_squarePlain 122 = .ok (.i2l, 1) := by decide +kernel
theorem d_Be_squarePlain_123 : decode b_Be_squarePlain 123 = .ok (.ldc2_w 99, 3) := by decide +kernel
theorem d_Be_squarePlain_126 : decode b_Be_squarePlain 126 = .ok (.land, 1) := by decide +kernel
theorem d_Be_squarePlain_127 : decode b_Be_squarePlain 127 = .ok (.iconst 1, 1) := by decide +kernel
theorem d_Be_squarePlain_128 : decode b_Be_squarePlain 128 = .ok (.lshl, 1) := by decide +kernel
theorem d_Be_squarePlain_129 : decode b_Be_squarePlain 129 = .ok (.lload 10, 2) := by decide +kernel
theorem d_Be_squarePlain_131 : decode b_Be_squarePlain 131 = .ok (.ldc2_w 99, 3) := by decide +kernel
theorem d_Be_squarePlain_134 : decode b_Be_squarePlain 134 = .ok (.land, 1) := by decide +kernel
theorem d_Be_squarePlain_135 : decode b_Be_squarePlain 135 = .ok (.ladd, 1) := by decide +kernel
theorem d_Be_squarePlain_136 : decode b_Be_squarePlain 136 = .ok (.ladd, 1) := by decide +kernel
theorem d_Be_squarePlain_137 : decode b_Be_squarePlain 137 = .ok (.lstore 5, 2) := by decide +kernel
theorem d_Be_squarePlain_139 : decode b_Be_squarePlain 139 = .ok (.aload 4, 2) := by decide +kernel
theorem d_Be_squarePlain_141 : decode b_Be_squarePlain 141 = .ok (.iload_n 1, 1) := by decide +kernel
theorem d_Be_squarePlain_142 : decode b_Be_squarePlain 142 = .ok (.iconst 2, 1) := by decide +kernel
theorem d_Be_squarePlain_143 : decode b_Be_squarePlain 143 = .ok (.iload 7, 2) := by decide +kernel
theorem d_Be_squarePlain_145 : decode b_Be_squarePlain 145 = .ok (.imul, 1) := by decide +kernel
theorem d_Be_squarePlain_146 : decode b_Be_squarePlain 146 = .ok (.iadd, 1) := by decide +kernel
theorem d_Be_squarePlain_147 : decode b_Be_squarePlain 147 = .ok (.lload 5, 2) := by decide +kernel
theorem d_Be_squarePlain_149 : decode b_Be_squarePlain 149 = .ok (.l2i, 1) := by decide +kernel
theorem d_Be_squarePlain_150 : decode b_Be_squarePlain 150 = .ok (.iastore, 1) := by decide +kernel
theorem d_Be_squarePlain_151 : decode b_Be_squarePlain 151 = .ok (.lload 5, 2) := by decide +kernel
theorem d_Be_squarePlain_153 : decode b_Be_squarePlain 153 = .ok (.bipush 32, 2) := by decide +kernel
theorem d_Be_squarePlain_155 : decode b_Be_squarePlain 155 = .ok (.lushr, 1) := by decide +kernel
theorem d_Be_squarePlain_156 : decode b_Be_squarePlain 156 = .ok (.aload 4, 2) := by decide +kernel
theorem d_Be_squarePlain_158 : decode b_Be_squarePlain 158 = .ok (.iload_n 1, 1) := by decide +kernel
theorem d_Be_squarePlain_159 : decode b_Be_squarePlain 159 = .ok (.iconst 2, 1) := by decide +kernel
theorem d_Be_squarePlain_160 : decode b_Be_squarePlain 160 = .ok (.iload 7, 2) := by decide +kernel
theorem d_Be_squarePlain_162 : decode b_Be_squarePlain 162 = .ok (.imul, 1) := by decide +kernel
theorem d_Be_squarePlain_163 : decode b_Be_squarePlain 163 = .ok (.iadd, 1) := by decide +kernel
theorem d_Be_squarePlain_164 : decode b_Be_squarePlain 164 = .ok (.iconst 1, 1) := by decide +kernel
theorem d_Be_squarePlain_165 : decode b_Be_squarePlain 165 = .ok (.iadd, 1) := by decide +kernel
theorem d_Be_squarePlain_166 : decode b_Be_squarePlain 166 = .ok (.iaload, 1) := by decide +kernel
theorem d_Be_squarePlain_167 : decode b_Be_squarePlain 167 = .ok (.i2l, 1) := by decide +kernel
theorem d_Be_squarePlain_168 : decode b_Be_squarePlain 168 = .ok (.ldc2_w 99, 3) := by decide +kernel
theorem d_Be_squarePlain_171 : decode b_Be_squarePlain 171 = .ok (.land, 1) := by decide +kernel
theorem d_Be_squarePlain_172 : decode b_Be_squarePlain 172 = .ok (.iconst 1, 1) := by decide +kernel
theorem d_Be_squarePlain_173 : decode b_Be_squarePlain 173 = .ok (.lshl, 1) := by decide +kernel
theorem d_Be_squarePlain_174 : decode b_Be_squarePlain 174 = .ok (.ladd, 1) := by decide +kernel
theorem d_Be_squarePlain_175 : decode b_Be_squarePlain 175 = .ok (.lload 10, 2) := by decide +kernel
theorem d_Be_squarePlain_177 : decode b_Be_squarePlain 177 = .ok (.bipush 32, 2) := by decide +kernel
theorem d_Be_squarePlain_179 : decode b_Be_squarePlain 179 = .ok (.lushr, 1) := by decide +kernel
theorem d_Be_squarePlain_180 : decode b_Be_squarePlain 180 = .ok (.ladd, 1) := by decide +kernel
theorem d_Be_squarePlain_181 : decode b_Be_squarePlain 181 = .ok (.lstore 5, 2) := by decide +kernel
theorem d_Be_squarePlain_183 : decode b_Be_squarePlain 183 = .ok (.aload 4, 2) := by decide +kernel
theorem d_Be_squarePlain_185 : decode b_Be_squarePlain 185 = .ok (.iload_n 1, 1) := by decide +kernel
theorem d_Be_squarePlain_186 : decode b_Be_squarePlain 186 = .ok (.iconst 2, 1) := by decide +kernel
theorem d_Be_squarePlain_187 : decode b_Be_squarePlain 187 = .ok (.iload 7, 2) := by decide +kernel
theorem d_Be_squarePlain_189 : decode b_Be_squarePlain 189 = .ok (.imul, 1) := by decide +kernel
theorem d_Be_squarePlain_190 : decode b_Be_squarePlain 190 = .ok (.iadd, 1) := by decide +kernel
theorem d_Be_squarePlain_191 : decode b_Be_squarePlain 191 = .ok (.iconst 1, 1) := by decide +kernel
theorem d_Be_squarePlain_192 : decode b_Be_squarePlain 192 = .ok (.iadd, 1) := by decide +kernel
theorem d_Be_squarePlain_193 : decode b_Be_squarePlain 193 = .ok (.lload 5, 2) := by decide +kernel
theorem d_Be_squarePlain_195 : decode b_Be_squarePlain 195 = .ok (.l2i, 1) := by decide +kernel
theorem d_Be_squarePlain_196 : decode b_Be_squarePlain 196 = .ok (.iastore, 1) := by decide +kernel
theorem d_Be_squarePlain_197 : decode b_Be_squarePlain 197 = .ok (.lload 5, 2) := by decide +kernel
theorem d_Be_squarePlain_199 : decode b_Be_squarePlain 199 = .ok (.bipush 32, 2) := by decide +kernel
theorem d_Be_squarePlain_201 : decode b_Be_squarePlain 201 = .ok (.lushr, 1) := by decide +kernel
theorem d_Be_squarePlain_202 : decode b_Be_squarePlain 202 = .ok (.lstore 5, 2) := by decide +kernel
theorem d_Be_squarePlain_204 : decode b_Be_squarePlain 204 = .ok (.iinc 7 1, 3) := by decide +kernel
theorem d_Be_squarePlain_207 : decode b_Be_squarePlain 207 = .ok (.goto (-123), 3) := by decide +kernel
theorem d_Be_squarePlain_210 : decode b_Be_squarePlain 210 = .ok (.return_, 1) := by decide +kernel
theorem d_Be_addProduct_0 : decode b_Be_addProduct 0 = .ok (.aload_n 0, 1) := by decide +kernel
theorem d_Be_addProduct_1 : decode b_Be_addProduct 1 = .ok (.getfield 11, 3) := by decide +kernel
theorem d_Be_addProduct_4 : decode b_Be_addProduct 4 = .ok (.astore 6, 2) := by decide +kernel
theorem d_Be_addProduct_6 : decode b_Be_addProduct 6 = .ok (.iload_n 2, 1) := by decide +kernel
theorem d_Be_addProduct_7 : decode b_Be_addProduct 7 = .ok (.iload_n 3, 1) := by decide +kernel
theorem d_Be_addProduct_8 : decode b_Be_addProduct 8 = .ok (.iadd, 1) := by decide +kernel
theorem d_Be_addProduct_9 : decode b_Be_addProduct 9 = .ok (.istore 7, 2) := by decide +kernel
theorem d_Be_addProduct_11 : decode b_Be_addProduct 11 = .ok (.iload_n 1, 1) := by decide +kernel
theorem d_Be_addProduct_12 : decode b_Be_addProduct 12 = .ok (.istore 8, 2) := by decide +kernel
theorem d_Be_addProduct_14 : decode b_Be_addProduct 14 = .ok (.lconst 0, 1) := by decide +kernel
theorem d_Be_addProduct_15 : decode b_Be_addProduct 15 = .ok (.lstore 9, 2) := by decide +kernel
theorem d_Be_addProduct_17 : decode b_Be_addProduct 17 = .ok (.iload_n 2, 1) := by decide +kernel
theorem d_Be_addProduct_18 : decode b_Be_addProduct 18 = .ok (.istore 11, 2) := by decide +kernel
theorem d_Be_addProduct_20 : decode b_Be_addProduct 20 = .ok (.iload 11, 2) := by decide +kernel
theorem d_Be_addProduct_22 : decode b_Be_addProduct 22 = .ok (.iload 7, 2) := by decide +kernel
theorem d_Be_addProduct_24 : decode b_Be_addProduct 24 = .ok (.if_icmp .ge 56, 3) := by decide +kernel
theorem d_Be_addProduct_27 : decode b_Be_addProduct 27 = .ok (.lload 9, 2) := by decide +kernel
theorem d_Be_addProduct_29 : decode b_Be_addProduct 29 = .ok (.aload 6, 2) := by decide +kernel
theorem d_Be_addProduct_31 : decode b_Be_addProduct 31 = .ok (.iload 11, 2) := by decide +kernel
theorem d_Be_addProduct_33 : decode b_Be_addProduct 33 = .ok (.iaload, 1) := by decide +kernel
theorem d_Be_addProduct_34 : decode b_Be_addProduct 34 = .ok (.i2l, 1) := by decide +kernel
theorem d_Be_addProduct_35 : decode b_Be_addProduct 35 = .ok (.ldc2_w 99, 3) := by decide +kernel
theorem d_Be_addProduct_38 : decode b_Be_addProduct 38 = .ok (.land, 1) := by decide +kernel
theorem d_Be_addProduct_39 : decode b_Be_addProduct 39 = .ok (.lload 4, 2) := by decide +kernel
theorem d_Be_addProduct_41 : decode b_Be_addProduct 41 = .ok (.lmul, 1) := by decide +kernel
theorem d_Be_addProduct_42 : decode b_Be_addProduct 42 = .ok (.aload 6, 2) := by decide +kernel
theorem d_Be_addProduct_44 : decode b_Be_addProduct 44 = .ok (.iload 8, 2) := by decide +kernel
theorem d_Be_addProduct_46 : decode b_Be_addProduct 46 = .ok (.iaload, 1) := by decide +kernel
theorem d_Be_addProduct_47 : decode b_Be_addProduct 47 = .ok (.i2l, 1) := by decide +kernel
theorem d_Be_addProduct_48 : decode b_Be_addProduct 48 = .ok (.ldc2_w 99, 3) := by decide +kernel
theorem d_Be_addProduct_51 : decode b_Be_addProduct 51 = .ok (.land, 1) := by decide +kernel
theorem d_Be_addProduct_52 : decode b_Be_addProduct 52 = .ok (.ladd, 1) := by decide +kernel
theorem d_Be_addProduct_53 : decode b_Be_addProduct 53 = .ok (.ladd, 1) := by decide +kernel
theorem d_Be_addProduct_54 : decode b_Be_addProduct 54 = .ok (.lstore 9, 2) := by decide +kernel
theorem d_Be_addProduct_56 : decode b_Be_addProduct 56 = .ok (.aload 6, 2) := by decide +kernel
theorem d_Be_addProduct_58 : decode b_Be_addProduct 58 = .ok (.iload 8, 2) := by decide +kernel
theorem d_Be_addProduct_60 : decode b_Be_addProduct 60 = .ok (.lload 9, 2) := by decide +kernel
theorem d_Be_addProduct_62 : decode b_Be_addProduct 62 = .ok (.l2i, 1) := by decide +kernel
theorem d_Be_addProduct_63 : decode b_Be_addProduct 63 = .ok (.iastore, 1) := by decide +kernel
theorem d_Be_addProduct_64 : decode b_Be_addProduct 64 = .ok (.lload 9, 2) := by decide +kernel
theorem d_Be_addProduct_66 : decode b_Be_addProduct 66 = .ok (.bipush 32, 2) := by decide +kernel
theorem d_Be_addProduct_68 : decode b_Be_addProduct 68 = .ok (.lushr, 1) := by decide +kernel
theorem d_Be_addProduct_69 : decode b_Be_addProduct 69 = .ok (.lstore 9, 2) := by decide +kernel
theorem d_Be_addProduct_71 : decode b_Be_addProduct 71 = .ok (.iinc 8 1, 3) := by decide +kernel
theorem d_Be_addProduct_74 : decode b_Be_addProduct 74 = .ok (.iinc 11 1, 3) := by decide +kernel
theorem d_Be_addProduct_77 : decode b_Be_addProduct 77 = .ok (.goto (-57), 3) := by decide +kernel
theorem d_Be_addProduct_80 : decode b_Be_addProduct 80 = .ok (.lload 9, 2) := by decide +kernel
theorem d_Be_addProduct_82 : decode b_Be_addProduct 82 = .ok (.l2i, 1) := by decide +kernel
theorem d_Be_addProduct_83 : decode b_Be_addProduct 83 = .ok (.ireturn, 1) := by decide +kernel
theorem d_Be_multiplyPlain_0 : decode b_Be_multiplyPlain 0 = .ok (.aload_n 0, 1) := by decide +kernel
theorem d_Be_multiplyPlain_1 : decode b_Be_multiplyPlain 1 = .ok (.getfield 11, 3) := by decide +kernel
theorem d_Be_multiplyPlain_4 : decode b_Be_multiplyPlain 4 = .ok (.iload_n 1, 1) := by decide +kernel
theorem d_Be_multiplyPlain_5 : decode b_Be_multiplyPlain 5 = .ok (.iload_n 1, 1) := by decide +kernel
theorem d_Be_multiplyPlain_6 : decode b_Be_multiplyPlain 6 = .ok (.iload_n 3, 1) := by decide +kernel
theorem d_Be_multiplyPlain_7 : decode b_Be_multiplyPlain 7 = .ok (.iadd, 1) := by decide +kernel
theorem d_Be_multiplyPlain_8 : decode b_Be_multiplyPlain 8 = .ok (.iconst 0, 1) := by decide +kernel
theorem d_Be_multiplyPlain_9 : decode b_Be_multiplyPlain 9 = .ok (.invokestatic 93, 3) := by decide +kernel
theorem d_Be_multiplyPlain_12 : decode b_Be_multiplyPlain 12 = .ok (.iconst 0, 1) := by decide +kernel
theorem d_Be_multiplyPlain_13 : decode b_Be_multiplyPlain 13 = .ok (.istore 6, 2) := by decide +kernel
theorem d_Be_multiplyPlain_15 : decode b_Be_multiplyPlain 15 = .ok (.iload 6, 2) := by decide +kernel
theorem d_Be_multiplyPlain_17 : decode b_Be_multiplyPlain 17 = .ok (.iload 5, 2) := by decide +kernel
theorem d_Be_multiplyPlain_19 : decode b_Be_multiplyPlain 19 = .ok (.if_icmp .ge 45, 3) := by decide +kernel
theorem d_Be_multiplyPlain_22 : decode b_Be_multiplyPlain 22 = .ok (.aload_n 0, 1) := by decide +kernel
theorem d_Be_multiplyPlain_23 : decode b_Be_multiplyPlain 23 = .ok (.getfield 11, 3) := by decide +kernel
theorem d_Be_multiplyPlain_26 : decode b_Be_multiplyPlain 26 = .ok (.iload_n 1, 1) := by decide +kernel
theorem d_Be_multiplyPlain_27 : decode b_Be_multiplyPlain 27 = .ok (.iload_n 3, 1) := by decide +kernel
theorem d_Be_multiplyPlain_28 : decode b_Be_multiplyPlain 28 = .ok (.iadd, 1) := by decide +kernel
theorem d_Be_multiplyPlain_29 : decode b_Be_multiplyPlain 29 = .ok (.iload 6, 2) := by decide +kernel
theorem d_Be_multiplyPlain_31 : decode b_Be_multiplyPlain 31 = .ok (.iadd, 1) := by decide +kernel
theorem d_Be_multiplyPlain_32 : decode b_Be_multiplyPlain 32 = .ok (.aload_n 0, 1) := by decide +kernel
theorem d_Be_multiplyPlain_33 : decode b_Be_multiplyPlain 33 = .ok (.iload_n 1, 1) := by decide +kernel
theorem d_Be_multiplyPlain_34 : decode b_Be_multiplyPlain 34 = .ok (.iload 6, 2) := by decide +kernel
theorem d_Be_multiplyPlain_36 : decode b_Be_multiplyPlain 36 = .ok (.iadd, 1) := by decide +kernel
theorem d_Be_multiplyPlain_37 : decode b_Be_multiplyPlain 37 = .ok (.iload_n 2, 1) := by decide +kernel
theorem d_Be_multiplyPlain_38 : decode b_Be_multiplyPlain 38 = .ok (.iload_n 3, 1) := by decide +kernel
theorem d_Be_multiplyPlain_39 : decode b_Be_multiplyPlain 39 = .ok (.aload_n 0, 1) := by decide +kernel
theorem d_Be_multiplyPlain_40 : decode b_Be_multiplyPlain 40 = .ok (.getfield 11, 3) := by decide +kernel
theorem d_Be_multiplyPlain_43 : decode b_Be_multiplyPlain 43 = .ok (.iload 4, 2) := by decide +kernel
theorem d_Be_multiplyPlain_45 : decode b_Be_multiplyPlain 45 = .ok (.iload 6, 2) := by decide +kernel
theorem d_Be_multiplyPlain_47 : decode b_Be_multiplyPlain 47 = .ok (.iadd, 1) := by decide +kernel
theorem d_Be_multiplyPlain_48 : decode b_Be_multiplyPlain 48 = .ok (.iaload, 1) := by decide +kernel
theorem d_Be_multiplyPlain_49 : decode b_Be_multiplyPlain 49 = .ok (.i2l, 1) := by decide +kernel
theorem d_Be_multiplyPlain_50 : decode b_Be_multiplyPlain 50 = .ok (.ldc2_w 99, 3) := by decide +kernel
theorem d_Be_multiplyPlain_53 : decode b_Be_multiplyPlain 53 = .ok (.land, 1) := by decide +kernel
theorem d_Be_multiplyPlain_54 : decode b_Be_multiplyPlain 54 = .ok (.invokevirtual 101, 3) := by decide +kernel
theorem d_Be_multiplyPlain_57 : decode b_Be_multiplyPlain 57 = .ok (.iastore, 1) := by decide +kernel
theorem d_Be_multiplyPlain_58 : decode b_Be_multiplyPlain 58 = .ok (.iinc 6 1, 3) := by decide +kernel
theorem d_Be_multiplyPlain_61 : decode b_Be_multiplyPlain 61 = .ok (.goto (-46), 3) := by decide +kernel
theorem d_Be_multiplyPlain_64 : decode b_Be_multiplyPlain 64 = .ok (.return_, 1) := by decide +kernel
theorem d_Be_multiplyTwice_0 : decode b_Be_multiplyTwice 0 = .ok (.iload_n 3, 1) := by decide +kernel
theorem d_Be_multiplyTwice_1 : decode b_Be_multiplyTwice 1 = .ok (.iconst 1, 1) := by decide +kernel
theorem d_Be_multiplyTwice_2 : decode b_Be_multiplyTwice 2 = .ok (.iadd, 1) := by decide +kernel
theorem d_Be_multiplyTwice_3 : decode b_Be_multiplyTwice 3 = .ok (.iconst 2, 1) := by decide +kernel
theorem d_Be_multiplyTwice_4 : decode b_Be_multiplyTwice 4 = .ok (.idiv, 1) := by decide +kernel
theorem d_Be_multiplyTwice_5 : decode b_Be_multiplyTwice 5 = .ok (.istore 8, 2) := by decide +kernel
theorem d_Be_multiplyTwice_7 : decode b_Be_multiplyTwice 7 = .ok (.iload_n 3, 1) := by decide +kernel
theorem d_Be_multiplyTwice_8 : decode b_Be_multiplyTwice 8 = .ok (.iload 8, 2) := by decide +kernel
theorem d_Be_multiplyTwice_10 : decode b_Be_multiplyTwice 10 = .ok (.isub, 1) := by decide +kernel
theorem d_Be_multiplyTwice_11 : decode b_Be_multiplyTwice 11 = .ok (.iload 5, 2) := by decide +kernel
theorem d_Be_multiplyTwice_13 : decode b_Be_multiplyTwice 13 = .ok (.iadd, 1) := by decide +kernel
theorem d_Be_multiplyTwice_14 : decode b_Be_multiplyTwice 14 = .ok (.istore 9, 2) := by decide +kernel
theorem d_Be_multiplyTwice_16 : decode b_Be_multiplyTwice 16 = .ok (.aload_n 0, 1) := by decide +kernel
theorem d_Be_multiplyTwice_17 : decode b_Be_multiplyTwice 17 = .ok (.iload_n 1, 1) := by decide +kernel
theorem d_Be_multiplyTwice_18 : decode b_Be_multiplyTwice 18 = .ok (.iload_n 2, 1) := by decide +kernel
theorem d_Be_multiplyTwice_19 : decode b_Be_multiplyTwice 19 = .ok (.iload 8, 2) := by decide +kernel
theorem d_Be_multiplyTwice_21 : decode b_Be_multiplyTwice 21 = .ok (.iload 4, 2) := by decide +kernel
theorem d_Be_multiplyTwice_23 : decode b_Be_multiplyTwice 23 = .ok (.iload 5, 2) := by decide +kernel
theorem d_Be_multiplyTwice_25 : decode b_Be_multiplyTwice 25 = .ok (.iload 6, 2) := by decide +kernel
theorem d_Be_multiplyTwice_27 : decode b_Be_multiplyTwice 27 = .ok (.iload 7, 2) := by decide +kernel
theorem d_Be_multiplyTwice_29 : decode b_Be_multiplyTwice 29 = .ok (.invokevirtual 30, 3) := by decide +kernel
theorem d_Be_multiplyTwice_32 : decode b_Be_multiplyTwice 32 = .ok (.aload_n 0, 1) := by decide +kernel
theorem d_Be_multiplyTwice_33 : decode b_Be_multiplyTwice 33 = .ok (.iload 6, 2) := by decide +kernel
theorem d_Be_multiplyTwice_35 : decode b_Be_multiplyTwice 35 = .ok (.iload_n 2, 1) := by decide +kernel
theorem d_Be_multiplyTwice_36 : decode b_Be_multiplyTwice 36 = .ok (.iload 8, 2) := by decide +kernel
theorem d_Be_multiplyTwice_38 : decode b_Be_multiplyTwice 38 = .ok (.iadd, 1) := by decide +kernel
theorem d_Be_multiplyTwice_39 : decode b_Be_multiplyTwice 39 = .ok (.iload_n 3, 1) := by decide +kernel
theorem d_Be_multiplyTwice_40 : decode b_Be_multiplyTwice 40 = .ok (.iload 8, 2) := by decide +kernel
theorem d_Be_multiplyTwice_42 : decode b_Be_multiplyTwice 42 = .ok (.isub, 1) := by decide +kernel
theorem d_Be_multiplyTwice_43 : decode b_Be_multiplyTwice 43 = .ok (.iload 4, 2) := by decide +kernel
theorem d_Be_multiplyTwice_45 : decode b_Be_multiplyTwice 45 = .ok (.iload 5, 2) := by decide +kernel
theorem d_Be_multiplyTwice_47 : decode b_Be_multiplyTwice 47 = .ok (.iload 6, 2) := by decide +kernel
theorem d_Be_multiplyTwice_49 : decode b_Be_multiplyTwice 49 = .ok (.iload 9, 2) := by decide +kernel
theorem d_Be_multiplyTwice_51 : decode b_Be_multiplyTwice 51 = .ok (.iadd, 1) := by decide +kernel
theorem d_Be_multiplyTwice_52 : decode b_Be_multiplyTwice 52 = .ok (.iload 7, 2) := by decide +kernel
theorem d_Be_multiplyTwice_54 : decode b_Be_multiplyTwice 54 = .ok (.invokevirtual 30, 3) := by decide +kernel
theorem d_Be_multiplyTwice_57 : decode b_Be_multiplyTwice 57 = .ok (.aload_n 0, 1) := by decide +kernel
theorem d_Be_multiplyTwice_58 : decode b_Be_multiplyTwice 58 = .ok (.getfield 11, 3) := by decide +kernel
theorem d_Be_multiplyTwice_61 : decode b_Be_multiplyTwice 61 = .ok (.iload_n 1, 1) := by decide +kernel
theorem d_Be_multiplyTwice_62 : decode b_Be_multiplyTwice 62 = .ok (.iload 8, 2) := by decide +kernel
theorem d_Be_multiplyTwice_64 : decode b_Be_multiplyTwice 64 = .ok (.iadd, 1) := by decide +kernel
theorem d_Be_multiplyTwice_65 : decode b_Be_multiplyTwice 65 = .ok (.iload 5, 2) := by decide +kernel
theorem d_Be_multiplyTwice_67 : decode b_Be_multiplyTwice 67 = .ok (.iadd, 1) := by decide +kernel
theorem d_Be_multiplyTwice_68 : decode b_Be_multiplyTwice 68 = .ok (.iload_n 1, 1) := by decide +kernel
theorem d_Be_multiplyTwice_69 : decode b_Be_multiplyTwice 69 = .ok (.iload_n 3, 1) := by decide +kernel
theorem d_Be_multiplyTwice_70 : decode b_Be_multiplyTwice 70 = .ok (.iadd, 1) := by decide +kernel
theorem d_Be_multiplyTwice_71 : decode b_Be_multiplyTwice 71 = .ok (.iload 5, 2) := by decide +kernel
theorem d_Be_multiplyTwice_73 : decode b_Be_multiplyTwice 73 = .ok (.iadd, 1) := by decide +kernel
theorem d_Be_multiplyTwice_74 : decode b_Be_multiplyTwice 74 = .ok (.iconst 0, 1) := by decide +kernel
theorem d_Be_multiplyTwice_75 : decode b_Be_multiplyTwice 75 = .ok (.invokestatic 93, 3) := by decide +kernel
theorem d_Be_multiplyTwice_78 : decode b_Be_multiplyTwice 78 = .ok (.aload_n 0, 1) := by decide +kernel
theorem d_Be_multiplyTwice_79 : decode b_Be_multiplyTwice 79 = .ok (.iload_n 1, 1) := by decide +kernel
theorem d_Be_multiplyTwice_80 : decode b_Be_multiplyTwice 80 = .ok (.iload 8, 2) := by decide +kernel
theorem d_Be_multiplyTwice_82 : decode b_Be_multiplyTwice 82 = .ok (.iadd, 1) := by decide +kernel
theorem d_Be_multiplyTwice_83 : decode b_Be_multiplyTwice 83 = .ok (.iload 9, 2) := by decide +kernel
theorem d_Be_multiplyTwice_85 : decode b_Be_multiplyTwice 85 = .ok (.iload 6, 2) := by decide +kernel
theorem d_Be_multiplyTwice_87 : decode b_Be_multiplyTwice 87 = .ok (.iload 9, 2) := by decide +kernel
theorem d_Be_multiplyTwice_89 : decode b_Be_multiplyTwice 89 = .ok (.invokevirtual 105, 3) := by decide +kernel
theorem d_Be_multiplyTwice_92 : decode b_Be_multiplyTwice 92 = .ok (.pop, 1) := by decide +kernel
theorem d_Be_multiplyTwice_93 : decode b_Be_multiplyTwice 93 = .ok (.return_, 1) := by decide +kernel
theorem d_Be_addInto_0 : decode b_Be_addInto 0 = .ok (.aload_n 0, 1) := by decide +kernel
theorem d_Be_addInto_1 : decode b_Be_addInto 1 = .ok (.getfield 11, 3) := by decide +kernel
theorem d_Be_addInto_4 : decode b_Be_addInto 4 = .ok (.astore 5, 2) := by decide +kernel
theorem d_Be_addInto_6 : decode b_Be_addInto 6 = .ok (.iload_n 3, 1) := by decide +kernel
theorem d_Be_addInto_7 : decode b_Be_addInto 7 = .ok (.iload_n 1, 1) := by decide +kernel
theorem d_Be_addInto_8 : decode b_Be_addInto 8 = .ok (.isub, 1) := by decide +kernel
theorem d_Be_addInto_9 : decode b_Be_addInto 9 = .ok (.istore 6, 2) := by decide +kernel
theorem d_Be_addInto_11 : decode b_Be_addInto 11 = .ok (.iload_n 1, 1) := by decide +kernel
theorem d_Be_addInto_12 : decode b_Be_addInto 12 = .ok (.iload 4, 2) := by decide +kernel
theorem d_Be_addInto_14 : decode b_Be_addInto 14 = .ok (.iadd, 1) := by decide +kernel
theorem d_Be_addInto_15 : decode b_Be_addInto 15 = .ok (.istore 7, 2) := by decide +kernel
theorem d_Be_addInto_17 : decode b_Be_addInto 17 = .ok (.lconst 0, 1) := by decide +kernel
theorem d_Be_addInto_18 : decode b_Be_addInto 18 = .ok (.lstore 8, 2) := by decide +kernel
theorem d_Be_addInto_20 : decode b_Be_addInto 20 = .ok (.iload_n 1, 1) := by decide +kernel
theorem d_Be_addInto_21 : decode b_Be_addInto 21 = .ok (.istore 10, 2) := by decide +kernel
theorem d_Be_addInto_23 : decode b_Be_addInto 23 = .ok (.iload 10, 2) := by decide +kernel
theorem d_Be_addInto_25 : decode b_Be_addInto 25 = .ok (.iload 7, 2) := by decide +kernel
theorem d_Be_addInto_27 : decode b_Be_addInto 27 = .ok (.if_icmp .ge 53, 3) := by decide +kernel
theorem d_Be_addInto_30 : decode b_Be_addInto 30 = .ok (.lload 8, 2) := by decide +kernel
theorem d_Be_addInto_32 : decode b_Be_addInto 32 = .ok (.aload 5, 2) := by decide +kernel
theorem d_Be_addInto_34 : decode b_Be_addInto 34 = .ok (.iload 10, 2) := by decide +kernel
theorem d_Be_addInto_36 : decode b_Be_addInto 36 = .ok (.iaload, 1) := by decide +kernel
theorem d_Be_addInto_37 : decode b_Be_addInto 37 = .ok (.i2l, 1) := by decide +kernel
theorem d_Be_addInto_38 : decode b_Be_addInto 38 = .ok (.ldc2_w 99, 3) := by decide +kernel
theorem d_Be_addInto_41 : decode b_Be_addInto 41 = .ok (.land, 1) := by decide +kernel
theorem d_Be_addInto_42 : decode b_Be_addInto 42 = .ok (.aload 5, 2) := by decide +kernel
theorem d_Be_addInto_44 : decode b_Be_addInto 44 = .ok (.iload 10, 2) := by decide +kernel
theorem d_Be_addInto_46 : decode b_Be_addInto 46 = .ok (.iload 6, 2) := by decide +kernel
theorem d_Be_addInto_48 : decode b_Be_addInto 48 = .ok (.iadd, 1) := by decide +kernel
theorem d_Be_addInto_49 : decode b_Be_addInto 49 = .ok (.iaload, 1) := by decide +kernel
theorem d_Be_addInto_50 : decode b_Be_addInto 50 = .ok (.i2l, 1) := by decide +kernel
theorem d_Be_addInto_51 : decode b_Be_addInto 51 = .ok (.ldc2_w 99, 3) := by decide +kernel
theorem d_Be_addInto_54 : decode b_Be_addInto 54 = .ok (.land, 1) := by decide +kernel
theorem d_Be_addInto_55 : decode b_Be_addInto 55 = .ok (.ladd, 1) := by decide +kernel
theorem d_Be_addInto_56 : decode b_Be_addInto 56 = .ok (.ladd, 1) := by decide +kernel
theorem d_Be_addInto_57 : decode b_Be_addInto 57 = .ok (.lstore 8, 2) := by decide +kernel
theorem d_Be_addInto_59 : decode b_Be_addInto 59 = .ok (.aload 5, 2) := by decide +kernel
theorem d_Be_addInto_61 : decode b_Be_addInto 61 = .ok (.iload 10, 2) := by decide +kernel
theorem d_Be_addInto_63 : decode b_Be_addInto 63 = .ok (.lload 8, 2) := by decide +kernel
theorem d_Be_addInto_65 : decode b_Be_addInto 65 = .ok (.l2i, 1) := by decide +kernel
theorem d_Be_addInto_66 : decode b_Be_addInto 66 = .ok (.iastore, 1) := by decide +kernel
theorem d_Be_addInto_67 : decode b_Be_addInto 67 = .ok (.lload 8, 2) := by decide +kernel
theorem d_Be_addInto_69 : decode b_Be_addInto 69 = .ok (.bipush 32, 2) := by decide +kernel
theorem d_Be_addInto_71 : decode b_Be_addInto 71 = .ok (.lushr, 1) := by decide +kernel
theorem d_Be_addInto_72 : decode b_Be_addInto 72 = .ok (.lstore 8, 2) := by decide +kernel
theorem d_Be_addInto_74 : decode b_Be_addInto 74 = .ok (.iinc 10 1, 3) := by decide +kernel
theorem d_Be_addInto_77 : decode b_Be_addInto 77 = .ok (.goto (-54), 3) := by decide +kernel
theorem d_Be_addInto_80 : decode b_Be_addInto 80 = .ok (.iload 7, 2) := by decide +kernel
theorem d_Be_addInto_82 : decode b_Be_addInto 82 = .ok (.istore 10, 2) := by decide +kernel
theorem d_Be_addInto_84 : decode b_Be_addInto 84 = .ok (.iload 10, 2) := by decide +kernel
theorem d_Be_addInto_86 : decode b_Be_addInto 86 = .ok (.iload_n 1, 1) := by decide +kernel
theorem d_Be_addInto_87 : decode b_Be_addInto 87 = .ok (.iload_n 2, 1) := by decide +kernel
theorem d_Be_addInto_88 : decode b_Be_addInto 88 = .ok (.iadd, 1) := by decide +kernel
theorem d_Be_addInto_89 : decode b_Be_addInto 89 = .ok (.if_icmp .ge 46, 3) := by decide +kernel
theorem d_Be_addInto_92 : decode b_Be_addInto 92 = .ok (.lload 8, 2) := by decide +kernel
theorem d_Be_addInto_94 : decode b_Be_addInto 94 = .ok (.lconst 0, 1) := by decide +kernel
theorem d_Be_addInto_95 : decode b_Be_addInto 95 = .ok (.lcmp, 1) := by decide +kernel
theorem d_Be_addInto_96 : decode b_Be_addInto 96 = .ok (.ifCond .eq 39, 3) := by decide +kernel
theorem d_Be_addInto_99 : decode b_Be_addInto 99 = .ok (.lload 8, 2) := by decide +kernel
theorem d_Be_addInto_101 : decode b_Be_addInto 101 = .ok (.aload 5, 2) := by decide +kernel
theorem d_Be_addInto_103 : decode b_Be_addInto 103 = .ok (.iload 10, 2) := by decide +kernel
theorem d_Be_addInto_105 : decode b_Be_addInto 105 = .ok (.iaload, 1) := by decide +kernel
theorem d_Be_addInto_106 : decode b_Be_addInto 106 = .ok (.i2l, 1) := by decide +kernel
theorem d_Be_addInto_107 : decode b_Be_addInto 107 = .ok (.ldc2_w 99, 3) := by decide +kernel
theorem d_Be_addInto_110 : decode b_Be_addInto 110 = .ok (.land, 1) := by decide +kernel
theorem d_Be_addInto_111 : decode b_Be_addInto 111 = .ok (.ladd, 1) := by decide +kernel
theorem d_Be_addInto_112 : decode b_Be_addInto 112 = .ok (.lstore 8, 2) := by decide +kernel
theorem d_Be_addInto_114 : decode b_Be_addInto 114 = .ok (.aload 5, 2) := by decide +kernel
theorem d_Be_addInto_116 : decode b_Be_addInto 116 = .ok (.iload 10, 2) := by decide +kernel
theorem d_Be_addInto_118 : decode b_Be_addInto 118 = .ok (.lload 8, 2) := by decide +kernel
theorem d_Be_addInto_120 : decode b_Be_addInto 120 = .ok (.l2i, 1) := by decide +kernel
theorem d_Be_addInto_121 : decode b_Be_addInto 121 = .ok (.iastore, 1) := by decide +kernel
theorem d_Be_addInto_122 : decode b_Be_addInto 122 = .ok (.lload 8, 2) := by decide +kernel
theorem d_Be_addInto_124 : decode b_Be_addInto 124 = .ok (.bipush 32, 2) := by decide +kernel
theorem d_Be_addInto_126 : decode b_Be_addInto 126 = .ok (.lushr, 1) := by decide +kernel
theorem d_Be_addInto_127 : decode b_Be_addInto 127 = .ok (.lstore 8, 2) := by decide +kernel
theorem d_Be_addInto_129 : decode b_Be_addInto 129 = .ok (.iinc 10 1, 3) := by decide +kernel
theorem d_Be_addInto_132 : decode b_Be_addInto 132 = .ok (.goto (-48), 3) := by decide +kernel
theorem d_Be_addInto_135 : decode b_Be_addInto 135 = .ok (.lload 8, 2) := by decide +kernel
theorem d_Be_addInto_137 : decode b_Be_addInto 137 = .ok (.l2i, 1) := by decide +kernel
theorem d_Be_addInto_138 : decode b_Be_addInto 138 = .ok (.ireturn, 1) := by decide +kernel
theorem d_Be_multiplyThrice_0 : decode b_Be_multiplyThrice 0 = .ok (.iload_n 3, 1) := by decide +kernel
theorem d_Be_multiplyThrice_1 : decode b_Be_multiplyThrice 1 = .ok (.iload 5, 2) := by decide +kernel
theorem d_Be_multiplyThrice_3 : decode b_Be_multiplyThrice 3 = .ok (.invokestatic 54, 3) := by decide +kernel
theorem d_Be_multiplyThrice_6 : decode b_Be_multiplyThrice 6 = .ok (.iconst 1, 1) := by decide +kernel
theorem d_Be_multiplyThrice_7 : decode b_Be_multiplyThrice 7 = .ok (.iadd, 1) := by decide +kernel
theorem d_Be_multiplyThrice_8 : decode b_Be_multiplyThrice 8 = .ok (.iconst 2, 1) := by decide +kernel
theorem d_Be_multiplyThrice_9 : decode b_Be_multiplyThrice 9 = .ok (.idiv, 1) := by decide +kernel
theorem d_Be_multiplyThrice_10 : decode b_Be_multiplyThrice 10 = .ok (.istore 8, 2) := by decide +kernel
theorem d_Be_multiplyThrice_12 : decode b_Be_multiplyThrice 12 = .ok (.iload_n 3, 1) := by decide +kernel
theorem d_Be_multiplyThrice_13 : decode b_Be_multiplyThrice 13 = .ok (.iload 5, 2) := by decide +kernel
theorem d_Be_multiplyThrice_15 : decode b_Be_multiplyThrice 15 = .ok (.iadd, 1) := by decide +kernel
theorem d_Be_multiplyThrice_16 : decode b_Be_multiplyThrice 16 = .ok (.iconst 2, 1) := by decide +kernel
theorem d_Be_multiplyThrice_17 : decode b_Be_multiplyThrice 17 = .ok (.iload 8, 2) := by decide +kernel
theorem d_Be_multiplyThrice_19 : decode b_Be_multiplyThrice 19 = .ok (.imul, 1) := by decide +kernel
theorem d_Be_multiplyThrice_20 : decode b_Be_multiplyThrice 20 = .ok (.isub, 1) := by decide +kernel
theorem d_Be_multiplyThrice_21 : decode b_Be_multiplyThrice 21 = .ok (.istore 9, 2) := by decide +kernel
theorem d_Be_multiplyThrice_23 : decode b_Be_multiplyThrice 23 = .ok (.iload_n 2, 1) := by decide +kernel
theorem d_Be_multiplyThrice_24 : decode b_Be_multiplyThrice 24 = .ok (.iload 4, 2) := by decide +kernel
theorem d_Be_multiplyThrice_26 : decode b_Be_multiplyThrice 26 = .ok (.if_icmp .ne 7, 3) := by decide +kernel
theorem d_Be_multiplyThrice_29 : decode b_Be_multiplyThrice 29 = .ok (.iload_n 1, 1) := by decide +kernel
theorem d_Be_multiplyThrice_30 : decode b_Be_multiplyThrice 30 = .ok (.goto 7, 3) := by decide +kernel
theorem d_Be_multiplyThrice_33 : decode b_Be_multiplyThrice 33 = .ok (.iload_n 1, 1) := by decide +kernel
theorem d_Be_multiplyThrice_34 : decode b_Be_multiplyThrice 34 = .ok (.iload 8, 2) := by decide +kernel
theorem d_Be_multiplyThrice_36 : decode b_Be_multiplyThrice 36 = .ok (.iadd, 1) := by decide +kernel
theorem d_Be_multiplyThrice_37 : decode b_Be_multiplyThrice 37 = .ok (.istore 10, 2) := by decide +kernel
theorem d_Be_multiplyThrice_39 : decode b_Be_multiplyThrice 39 = .ok (.aload_n 0, 1) := by decide +kernel
theorem d_Be_multiplyThrice_40 : decode b_Be_multiplyThrice 40 = .ok (.iload_n 1, 1) := by decide +kernel
theorem d_Be_multiplyThrice_41 : decode b_Be_multiplyThrice 41 = .ok (.iload_n 2, 1) := by decide +kernel
theorem d_Be_multiplyThrice_42 : decode b_Be_multiplyThrice 42 = .ok (.iload 8, 2) := by decide +kernel
theorem d_Be_multiplyThrice_44 : decode b_Be_multiplyThrice 44 = .ok (.iload_n 3, 1) := by decide +kernel
theorem d_Be_multiplyThrice_45 : decode b_Be_multiplyThrice 45 = .ok (.iload 8, 2) := by decide +kernel
theorem d_Be_multiplyThrice_47 : decode b_Be_multiplyThrice 47 = .ok (.isub, 1) := by decide +kernel
theorem d_Be_multiplyThrice_48 : decode b_Be_multiplyThrice 48 = .ok (.invokevirtual 109, 3) := by decide +kernel
theorem d_Be_multiplyThrice_51 : decode b_Be_multiplyThrice 51 = .ok (.istore 11, 2) := by decide +kernel
theorem d_Be_multiplyThrice_53 : decode b_Be_multiplyThrice 53 = .ok (.aload_n 0, 1) := by decide +kernel
theorem d_Be_multiplyThrice_54 : decode b_Be_multiplyThrice 54 = .ok (.iload 10, 2) := by decide +kernel
theorem d_Be_multiplyThrice_56 : decode b_Be_multiplyThrice 56 = .ok (.iload 4, 2) := by decide +kernel
theorem d_Be_multiplyThrice_58 : decode b_Be_multiplyThrice 58 = .ok (.iload 8, 2) := by decide +kernel
theorem d_Be_multiplyThrice_60 : decode b_Be_multiplyThrice 60 = .ok (.iload 5, 2) := by decide +kernel
theorem d_Be_multiplyThrice_62 : decode b_Be_multiplyThrice 62 = .ok (.iload 8, 2) := by decide +kernel
theorem d_Be_multiplyThrice_64 : decode b_Be_multiplyThrice 64 = .ok (.isub, 1) := by decide +kernel
theorem d_Be_multiplyThrice_65 : decode b_Be_multiplyThrice 65 = .ok (.invokevirtual 109, 3) := by decide +kernel
theorem d_Be_multiplyThrice_68 : decode b_Be_multiplyThrice 68 = .ok (.istore 12, 2) := by decide +kernel
theorem d_Be_multiplyThrice_70 : decode b_Be_multiplyThrice 70 = .ok (.iload 6, 2) := by decide +kernel
theorem d_Be_multiplyThrice_72 : decode b_Be_multiplyThrice 72 = .ok (.iconst 2, 1) := by decide +kernel
theorem d_Be_multiplyThrice_73 : decode b_Be_multiplyThrice 73 = .ok (.iload 8, 2) := by decide +kernel
theorem d_Be_multiplyThrice_75 : decode b_Be_multiplyThrice 75 = .ok (.imul, 1) := by decide +kernel
theorem d_Be_multiplyThrice_76 : decode b_Be_multiplyThrice 76 = .ok (.iadd, 1) := by decide +kernel
theorem d_Be_multiplyThrice_77 : decode b_Be_multiplyThrice 77 = .ok (.istore 13, 2) := by decide +kernel
theorem d_Be_multiplyThrice_79 : decode b_Be_multiplyThrice 79 = .ok (.aload_n 0, 1) := by decide +kernel
theorem d_Be_multiplyThrice_80 : decode b_Be_multiplyThrice 80 = .ok (.iload 6, 2) := by decide +kernel
theorem d_Be_multiplyThrice_82 : decode b_Be_multiplyThrice 82 = .ok (.iload_n 1, 1) := by decide +kernel
theorem d_Be_multiplyThrice_83 : decode b_Be_multiplyThrice 83 = .ok (.iload 8, 2) := by decide +kernel
theorem d_Be_multiplyThrice_85 : decode b_Be_multiplyThrice 85 = .ok (.iload 10, 2) := by decide +kernel
theorem d_Be_multiplyThrice_87 : decode b_Be_multiplyThrice 87 = .ok (.iload 8, 2) := by decide +kernel
theorem d_Be_multiplyThrice_89 : decode b_Be_multiplyThrice 89 = .ok (.iload 13, 2) := by decide +kernel
theorem d_Be_multiplyThrice_91 : decode b_Be_multiplyThrice 91 = .ok (.iload 7, 2) := by decide +kernel
theorem d_Be_multiplyThrice_93 : decode b_Be_multiplyThrice 93 = .ok (.invokevirtual 30, 3) := by decide +kernel
theorem d_Be_multiplyThrice_96 : decode b_Be_multiplyThrice 96 = .ok (.aload_n 0, 1) := by decide +kernel
theorem d_Be_multiplyThrice_97 : decode b_Be_multiplyThrice 97 = .ok (.iload_n 1, 1) := by decide +kernel
theorem d_Be_multiplyThrice_98 : decode b_Be_multiplyThrice 98 = .ok (.iload_n 2, 1) := by decide +kernel
theorem d_Be_multiplyThrice_99 : decode b_Be_multiplyThrice 99 = .ok (.iload 8, 2) := by decide +kernel
theorem d_Be_multiplyThrice_101 : decode b_Be_multiplyThrice 101 = .ok (.iload 4, 2) := by decide +kernel
theorem d_Be_multiplyThrice_103 : decode b_Be_multiplyThrice 103 = .ok (.iload 8, 2) := by decide +kernel
theorem d_Be_multiplyThrice_105 : decode b_Be_multiplyThrice 105 = .ok (.iload 13, 2) := by decide +kernel
theorem d_Be_multiplyThrice_107 : decode b_Be_multiplyThrice 107 = .ok (.iload 7, 2) := by decide +kernel
theorem d_Be_multiplyThrice_109 : decode b_Be_multiplyThrice 109 = .ok (.invokevirtual 30, 3) := by decide +kernel
theorem d_Be_multiplyThrice_112 : decode b_Be_multiplyThrice 112 = .ok (.aload_n 0, 1) := by decide +kernel
theorem d_Be_multiplyThrice_113 : decode b_Be_multiplyThrice 113 = .ok (.iload_n 1, 1) := by decide +kernel
theorem d_Be_multiplyThrice_114 : decode b_Be_multiplyThrice 114 = .ok (.iconst 2, 1) := by decide +kernel
theorem d_Be_multiplyThrice_115 : decode b_Be_multiplyThrice 115 = .ok (.iload 8, 2) := by decide +kernel
theorem d_Be_multiplyThrice_117 : decode b_Be_multiplyThrice 117 = .ok (.imul, 1) := by decide +kernel
theorem d_Be_multiplyThrice_118 : decode b_Be_multiplyThrice 118 = .ok (.iadd, 1) := by decide +kernel
theorem d_Be_multiplyThrice_119 : decode b_Be_multiplyThrice 119 = .ok (.iload_n 2, 1) := by decide +kernel
theorem d_Be_multiplyThrice_120 : decode b_Be_multiplyThrice 120 = .ok (.iload 8, 2) := by decide +kernel
theorem d_Be_multiplyThrice_122 : decode b_Be_multiplyThrice 122 = .ok (.iadd, 1) := by decide +kernel
theorem d_Be_multiplyThrice_123 : decode b_Be_multiplyThrice 123 = .ok (.iload_n 3, 1) := by decide +kernel
theorem d_Be_multiplyThrice_124 : decode b_Be_multiplyThrice 124 = .ok (.iload 8, 2) := by decide +kernel
theorem d_Be_multiplyThrice_126 : decode b_Be_multiplyThrice 126 = .ok (.isub, 1) := by decide +kernel
theorem d_Be_multiplyThrice_127 : decode b_Be_multiplyThrice 127 = .ok (.iload 4, 2) := by decide +kernel
theorem d_Be_multiplyThrice_129 : decode b_Be_multiplyThrice 129 = .ok (.iload 8, 2) := by decide +kernel
theorem d_Be_multiplyThrice_131 : decode b_Be_multiplyThrice 131 = .ok (.iadd, 1) := by decide +kernel
theorem d_Be_multiplyThrice_132 : decode b_Be_multiplyThrice 132 = .ok (.iload 5, 2) := by decide +kernel
theorem d_Be_multiplyThrice_134 : decode b_Be_multiplyThrice 134 = .ok (.iload 8, 2) := by decide +kernel
theorem d_Be_multiplyThrice_136 : decode b_Be_multiplyThrice 136 = .ok (.isub, 1) := by decide +kernel
theorem d_Be_multiplyThrice_137 : decode b_Be_multiplyThrice 137 = .ok (.iload 13, 2) := by decide +kernel
theorem d_Be_multiplyThrice_139 : decode b_Be_multiplyThrice 139 = .ok (.iload 7, 2) := by decide +kernel
theorem d_Be_multiplyThrice_141 : decode b_Be_multiplyThrice 141 = .ok (.invokevirtual 30, 3) := by decide +kernel
theorem d_Be_multiplyThrice_144 : decode b_Be_multiplyThrice 144 = .ok (.iconst 2, 1) := by decide +kernel
theorem d_Be_multiplyThrice_145 : decode b_Be_multiplyThrice 145 = .ok (.iload 8, 2) := by decide +kernel
theorem d_Be_multiplyThrice_147 : decode b_Be_multiplyThrice 147 = .ok (.imul, 1) := by decide +kernel
theorem d_Be_multiplyThrice_148 : decode b_Be_multiplyThrice 148 = .ok (.iconst 1, 1) := by decide +kernel
theorem d_Be_multiplyThrice_149 : decode b_Be_multiplyThrice 149 = .ok (.iadd, 1) := by decide +kernel
theorem d_Be_multiplyThrice_150 : decode b_Be_multiplyThrice 150 = .ok (.istore 14, 2) := by decide +kernel
theorem d_Be_multiplyThrice_152 : decode b_Be_multiplyThrice 152 = .ok (.aload_n 0, 1) := by decide +kernel
theorem d_Be_multiplyThrice_153 : decode b_Be_multiplyThrice 153 = .ok (.getfield 11, 3) := by decide +kernel
theorem d_Be_multiplyThrice_156 : decode b_Be_multiplyThrice 156 = .ok (.iload_n 1, 1) := by decide +kernel
theorem d_Be_multiplyThrice_157 : decode b_Be_multiplyThrice 157 = .ok (.aload_n 0, 1) := by decide +kernel
theorem d_Be_multiplyThrice_158 : decode b_Be_multiplyThrice 158 = .ok (.getfield 11, 3) := by decide +kernel
theorem d_Be_multiplyThrice_161 : decode b_Be_multiplyThrice 161 = .ok (.iload 13, 2) := by decide +kernel
theorem d_Be_multiplyThrice_163 : decode b_Be_multiplyThrice 163 = .ok (.iconst 2, 1) := by decide +kernel
theorem d_Be_multiplyThrice_164 : decode b_Be_multiplyThrice 164 = .ok (.iload 8, 2) := by decide +kernel
theorem d_Be_multiplyThrice_166 : decode b_Be_multiplyThrice 166 = .ok (.imul, 1) := by decide +kernel
theorem d_Be_multiplyThrice_167 : decode b_Be_multiplyThrice 167 = .ok (.invokestatic 24, 3) := by decide +kernel
theorem d_Be_multiplyThrice_170 : decode b_Be_multiplyThrice 170 = .ok (.aload_n 0, 1) := by decide +kernel
theorem d_Be_multiplyThrice_171 : decode b_Be_multiplyThrice 171 = .ok (.getfield 11, 3) := by decide +kernel
theorem d_Be_multiplyThrice_174 : decode b_Be_multiplyThrice 174 = .ok (.iload 13, 2) := by decide +kernel
theorem d_Be_multiplyThrice_176 : decode b_Be_multiplyThrice 176 = .ok (.iconst 2, 1) := by decide +kernel
theorem d_Be_multiplyThrice_177 : decode b_Be_multiplyThrice 177 = .ok (.iload 8, 2) := by decide +kernel
theorem d_Be_multiplyThrice_179 : decode b_Be_multiplyThrice 179 = .ok (.imul, 1) := by decide +kernel
theorem d_Be_multiplyThrice_180 : decode b_Be_multiplyThrice 180 = .ok (.iadd, 1) := by decide +kernel
theorem d_Be_multiplyThrice_181 : decode b_Be_multiplyThrice 181 = .ok (.iconst 0, 1) := by decide +kernel
theorem d_Be_multiplyThrice_182 : decode b_Be_multiplyThrice 182 = .ok (.iastore, 1) := by decide +kernel
theorem d_Be_multiplyThrice_183 : decode b_Be_multiplyThrice 183 = .ok (.aload_n 0, 1) := by decide +kernel
theorem d_Be_multiplyThrice_184 : decode b_Be_multiplyThrice 184 = .ok (.iload 13, 2) := by decide +kernel
theorem d_Be_multiplyThrice_186 : decode b_Be_multiplyThrice 186 = .ok (.iload 14, 2) := by decide +kernel
theorem d_Be_multiplyThrice_188 : decode b_Be_multiplyThrice 188 = .ok (.iload_n 1, 1) := by decide +kernel
theorem d_Be_multiplyThrice_189 : decode b_Be_multiplyThrice 189 = .ok (.iconst 2, 1) := by decide +kernel
theorem d_Be_multiplyThrice_190 : decode b_Be_multiplyThrice 190 = .ok (.iload 8, 2) := by decide +kernel
theorem d_Be_multiplyThrice_192 : decode b_Be_multiplyThrice 192 = .ok (.imul, 1) := by decide +kernel
theorem d_Be_multiplyThrice_193 : decode b_Be_multiplyThrice 193 = .ok (.iadd, 1) := by decide +kernel
theorem d_Be_multiplyThrice_194 : decode b_Be_multiplyThrice 194 = .ok (.iload 9, 2) := by decide +kernel
theorem d_Be_multiplyThrice_196 : decode b_Be_multiplyThrice 196 = .ok (.invokevirtual 105, 3) := by decide +kernel
theorem d_Be_multiplyThrice_199 : decode b_Be_multiplyThrice 199 = .ok (.pop, 1) := by decide +kernel
theorem d_Be_multiplyThrice_200 : decode b_Be_multiplyThrice 200 = .ok (.iload 11, 2) := by decide +kernel
theorem d_Be_multiplyThrice_202 : decode b_Be_multiplyThrice 202 = .ok (.iload 12, 2) := by decide +kernel
theorem d_Be_multiplyThrice_204 : decode b_Be_multiplyThrice 204 = .ok (.if_icmp .ne 21, 3) := by decide +kernel
theorem d_Be_multiplyThrice_207 : decode b_Be_multiplyThrice 207 = .ok (.aload_n 0, 1) := by decide +kernel
theorem d_Be_multiplyThrice_208 : decode b_Be_multiplyThrice 208 = .ok (.iload 13, 2) := by decide +kernel
theorem d_Be_multiplyThrice_210 : decode b_Be_multiplyThrice 210 = .ok (.iload 14, 2) := by decide +kernel
theorem d_Be_multiplyThrice_212 : decode b_Be_multiplyThrice 212 = .ok (.iload 6, 2) := by decide +kernel
theorem d_Be_multiplyThrice_214 : decode b_Be_multiplyThrice 214 = .ok (.iconst 2, 1) := by decide +kernel
theorem d_Be_multiplyThrice_215 : decode b_Be_multiplyThrice 215 = .ok (.iload 8, 2) := by decide +kernel
theorem d_Be_multiplyThrice_217 : decode b_Be_multiplyThrice 217 = .ok (.imul, 1) := by decide +kernel
theorem d_Be_multiplyThrice_218 : decode b_Be_multiplyThrice 218 = .ok (.invokevirtual 113, 3) := by decide +kernel
theorem d_Be_multiplyThrice_221 : decode b_Be_multiplyThrice 221 = .ok (.pop, 1) := by decide +kernel
theorem d_Be_multiplyThrice_222 : decode b_Be_multiplyThrice 222 = .ok (.goto 18, 3) := by decide +kernel
theorem d_Be_multiplyThrice_225 : decode b_Be_multiplyThrice 225 = .ok (.aload_n 0, 1) := by decide +kernel
theorem d_Be_multiplyThrice_226 : decode b_Be_multiplyThrice 226 = .ok (.iload 13, 2) := by decide +kernel
theorem d_Be_multiplyThrice_228 : decode b_Be_multiplyThrice 228 = .ok (.iload 14, 2) := by decide +kernel
theorem d_Be_multiplyThrice_230 : decode b_Be_multiplyThrice 230 = .ok (.iload 6, 2) := by decide +kernel
theorem d_Be_multiplyThrice_232 : decode b_Be_multiplyThrice 232 = .ok (.iconst 2, 1) := by decide +kernel
theorem d_Be_multiplyThrice_233 : decode b_Be_multiplyThrice 233 = .ok (.iload 8, 2) := by decide +kernel
theorem d_Be_multiplyThrice_235 : decode b_Be_multiplyThrice 235 = .ok (.imul, 1) := by decide +kernel
theorem d_Be_multiplyThrice_236 : decode b_Be_multiplyThrice 236 = .ok (.invokevirtual 105, 3) := by decide +kernel
theorem d_Be_multiplyThrice_239 : decode b_Be_multiplyThrice 239 = .ok (.pop, 1) := by decide +kernel
theorem d_Be_multiplyThrice_240 : decode b_Be_multiplyThrice 240 = .ok (.aload_n 0, 1) := by decide +kernel
theorem d_Be_multiplyThrice_241 : decode b_Be_multiplyThrice 241 = .ok (.iload_n 1, 1) := by decide +kernel
theorem d_Be_multiplyThrice_242 : decode b_Be_multiplyThrice 242 = .ok (.iload 8, 2) := by decide +kernel
theorem d_Be_multiplyThrice_244 : decode b_Be_multiplyThrice 244 = .ok (.iadd, 1) := by decide +kernel
theorem d_Be_multiplyThrice_245 : decode b_Be_multiplyThrice 245 = .ok (.iload 8, 2) := by decide +kernel
theorem d_Be_multiplyThrice_247 : decode b_Be_multiplyThrice 247 = .ok (.iload 9, 2) := by decide +kernel
theorem d_Be_multiplyThrice_249 : decode b_Be_multiplyThrice 249 = .ok (.iadd, 1) := by decide +kernel
theorem d_Be_multiplyThrice_250 : decode b_Be_multiplyThrice 250 = .ok (.iload 13, 2) := by decide +kernel
theorem d_Be_multiplyThrice_252 : decode b_Be_multiplyThrice 252 = .ok (.iload 14, 2) := by decide +kernel
theorem d_Be_multiplyThrice_254 : decode b_Be_multiplyThrice 254 = .ok (.iload 8, 2) := by decide +kernel
theorem d_Be_multiplyThrice_256 : decode b_Be_multiplyThrice 256 = .ok (.iload 9, 2) := by decide +kernel
theorem d_Be_multiplyThrice_258 : decode b_Be_multiplyThrice 258 = .ok (.iadd, 1) := by decide +kernel
theorem d_Be_multiplyThrice_259 : decode b_Be_multiplyThrice 259 = .ok (.invokestatic 72, 3) := by decide +kernel
theorem d_Be_multiplyThrice_262 : decode b_Be_multiplyThrice 262 = .ok (.invokevirtual 105, 3) := by decide +kernel
theorem d_Be_multiplyThrice_265 : decode b_Be_multiplyThrice 265 = .ok (.pop, 1) := by decide +kernel
theorem d_Be_multiplyThrice_266 : decode b_Be_multiplyThrice 266 = .ok (.return_, 1) := by decide +kernel
theorem d_Be_layDifference_0 : decode b_Be_layDifference 0 = .ok (.aload_n 0, 1) := by decide +kernel
theorem d_Be_layDifference_1 : decode b_Be_layDifference 1 = .ok (.getfield 11, 3) := by decide +kernel
theorem d_Be_layDifference_4 : decode b_Be_layDifference 4 = .ok (.astore 5, 2) := by decide +kernel
theorem d_Be_layDifference_6 : decode b_Be_layDifference 6 = .ok (.lconst 0, 1) := by decide +kernel
theorem d_Be_layDifference_7 : decode b_Be_layDifference 7 = .ok (.lstore 6, 2) := by decide +kernel
theorem d_Be_layDifference_9 : decode b_Be_layDifference 9 = .ok (.iconst 0, 1) := by decide +kernel
theorem d_Be_layDifference_10 : decode b_Be_layDifference 10 = .ok (.istore 8, 2) := by decide +kernel
theorem d_Be_layDifference_12 : decode b_Be_layDifference 12 = .ok (.iload 8, 2) := by decide +kernel
theorem d_Be_layDifference_14 : decode b_Be_layDifference 14 = .ok (.iload_n 3, 1) := by decide +kernel
theorem d_Be_layDifference_15 : decode b_Be_layDifference 15 = .ok (.if_icmp .ge 69, 3) := by decide +kernel
theorem d_Be_layDifference_18 : decode b_Be_layDifference 18 = .ok (.lload 6, 2) := by decide +kernel
theorem d_Be_layDifference_20 : decode b_Be_layDifference 20 = .ok (.aload 5, 2) := by decide +kernel
theorem d_Be_layDifference_22 : decode b_Be_layDifference 22 = .ok (.iload_n 2, 1) := by decide +kernel
theorem d_Be_layDifference_23 : decode b_Be_layDifference 23 = .ok (.iload 8, 2) := by decide +kernel
theorem d_Be_layDifference_25 : decode b_Be_layDifference 25 = .ok (.iadd, 1) := by decide +kernel
theorem d_Be_layDifference_26 : decode b_Be_layDifference 26 = .ok (.iaload, 1) := by decide +kernel
theorem d_Be_layDifference_27 : decode b_Be_layDifference 27 = .ok (.i2l, 1) := by decide +kernel
theorem d_Be_layDifference_28 : decode b_Be_layDifference 28 = .ok (.ldc2_w 99, 3) := by decide +kernel
theorem d_Be_layDifference_31 : decode b_Be_layDifference 31 = .ok (.land, 1) := by decide +kernel
theorem d_Be_layDifference_32 : decode b_Be_layDifference 32 = .ok (.iload 8, 2) := by decide +kernel
theorem d_Be_layDifference_34 : decode b_Be_layDifference 34 = .ok (.iload 4, 2) := by decide +kernel
theorem d_Be_layDifference_36 : decode b_Be_layDifference 36 = .ok (.if_icmp .ge 20, 3) := by decide +kernel
theorem d_Be_layDifference_39 : decode b_Be_layDifference 39 = .ok (.aload 5, 2) := by decide +kernel
theorem d_Be_layDifference_41 : decode b_Be_layDifference 41 = .ok (.iload_n 2, 1) := by decide +kernel
theorem d_Be_layDifference_42 : decode b_Be_layDifference 42 = .ok (.iload_n 3, 1) := by decide +kernel
theorem d_Be_layDifference_43 : decode b_Be_layDifference 43 = .ok (.iadd, 1) := by decide +kernel
theorem d_Be_layDifference_44 : decode b_Be_layDifference 44 = .ok (.iload 8, 2) := by decide +kernel
theorem d_Be_layDifference_46 : decode b_Be_layDifference 46 = .ok (.iadd, 1) := by decide +kernel
theorem d_Be_layDifference_47 : decode b_Be_layDifference 47 = .ok (.iaload, 1) := by decide +kernel
theorem d_Be_layDifference_48 : decode b_Be_layDifference 48 = .ok (.i2l, 1) := by decide +kernel
theorem d_Be_layDifference_49 : decode b_Be_layDifference 49 = .ok (.ldc2_w 99, 3) := by decide +kernel
theorem d_Be_layDifference_52 : decode b_Be_layDifference 52 = .ok (.land, 1) := by decide +kernel
theorem d_Be_layDifference_53 : decode b_Be_layDifference 53 = .ok (.goto 4, 3) := by decide +kernel
theorem d_Be_layDifference_56 : decode b_Be_layDifference 56 = .ok (.lconst 0, 1) := by decide +kernel
theorem d_Be_layDifference_57 : decode b_Be_layDifference 57 = .ok (.lsub, 1) := by decide +kernel
theorem d_Be_layDifference_58 : decode b_Be_layDifference 58 = .ok (.ladd, 1) := by decide +kernel
theorem d_Be_layDifference_59 : decode b_Be_layDifference 59 = .ok (.lstore 6, 2) := by decide +kernel
theorem d_Be_layDifference_61 : decode b_Be_layDifference 61 = .ok (.aload 5, 2) := by decide +kernel
theorem d_Be_layDifference_63 : decode b_Be_layDifference 63 = .ok (.iload_n 1, 1) := by decide +kernel
theorem d_Be_layDifference_64 : decode b_Be_layDifference 64 = .ok (.iload 8, 2) := by decide +kernel
theorem d_Be_layDifference_66 : decode b_Be_layDifference 66 = .ok (.iadd, 1) := by decide +kernel
theorem d_Be_layDifference_67 : decode b_Be_layDifference 67 = .ok (.lload 6, 2) := by decide +kernel
theorem d_Be_layDifference_69 : decode b_Be_layDifference 69 = .ok (.l2i, 1) := by decide +kernel
theorem d_Be_layDifference_70 : decode b_Be_layDifference 70 = .ok (.iastore, 1) := by decide +kernel
theorem d_Be_layDifference_71 : decode b_Be_layDifference 71 = .ok (.lload 6, 2) := by decide +kernel
theorem d_Be_layDifference_73 : decode b_Be_layDifference 73 = .ok (.bipush 32, 2) := by decide +kernel
theorem d_Be_layDifference_75 : decode b_Be_layDifference 75 = .ok (.lshr, 1) := by decide +kernel
theorem d_Be_layDifference_76 : decode b_Be_layDifference 76 = .ok (.lstore 6, 2) := by decide +kernel
theorem d_Be_layDifference_78 : decode b_Be_layDifference 78 = .ok (.iinc 8 1, 3) := by decide +kernel
theorem d_Be_layDifference_81 : decode b_Be_layDifference 81 = .ok (.goto (-69), 3) := by decide +kernel
theorem d_Be_layDifference_84 : decode b_Be_layDifference 84 = .ok (.lload 6, 2) := by decide +kernel
theorem d_Be_layDifference_86 : decode b_Be_layDifference 86 = .ok (.lconst 0, 1) := by decide +kernel
theorem d_Be_layDifference_87 : decode b_Be_layDifference 87 = .ok (.lcmp, 1) := by decide +kernel
theorem d_Be_layDifference_88 : decode b_Be_layDifference 88 = .ok (.ifCond .ne 5, 3) := by decide +kernel
theorem d_Be_layDifference_91 : decode b_Be_layDifference 91 = .ok (.iconst 0, 1) := by decide +kernel
theorem d_Be_layDifference_92 : decode b_Be_layDifference 92 = .ok (.ireturn, 1) := by decide +kernel
theorem d_Be_layDifference_93 : decode b_Be_layDifference 93 = .ok (.lconst 1, 1) := by decide +kernel
theorem d_Be_layDifference_94 : decode b_Be_layDifference 94 = .ok (.lstore 8, 2) := by decide +kernel
theorem d_Be_layDifference_96 : decode b_Be_layDifference 96 = .ok (.iload_n 1, 1) := by decide +kernel
theorem d_Be_layDifference_97 : decode b_Be_layDifference 97 = .ok (.istore 10, 2) := by decide +kernel
theorem d_Be_layDifference_99 : decode b_Be_layDifference 99 = .ok (.iload 10, 2) := by decide +kernel
theorem d_Be_layDifference_101 : decode b_Be_layDifference 101 = .ok (.iload_n 1, 1) := by decide +kernel
theorem d_Be_layDifference_102 : decode b_Be_layDifference 102 = .ok (.iload_n 3, 1) := by decide +kernel
theorem d_Be_layDifference_103 : decode b_Be_layDifference 103 = .ok (.iadd, 1) := by decide +kernel
theorem d_Be_layDifference_104 : decode b_Be_layDifference 104 = .ok (.if_icmp .ge 41, 3) := by decide +kernel
theorem d_Be_layDifference_107 : decode b_Be_layDifference 107 = .ok (.lload 8, 2) := by decide +kernel
theorem d_Be_layDifference_109 : decode b_Be_layDifference 109 = .ok (.aload 5, 2) := by decide +kernel
theorem d_Be_layDifference_111 : decode b_Be_layDifference 111 = .ok (.iload 10, 2) := by decide +kernel
theorem d_Be_layDifference_113 : decode b_Be_layDifference 113 = .ok (.iaload, 1) := by decide +kernel
theorem d_Be_layDifference_114 : decode b_Be_layDifference 114 = .ok (.iconst (-1), 1) := by decide +kernel
theorem d_Be_layDifference_115 : decode b_Be_layDifference 115 = .ok (.ixor, 1) := by decide +kernel
theorem d_Be_layDifference_116 : decode b_Be_layDifference 116 = .ok (.i2l, 1) := by decide +kernel
theorem d_Be_layDifference_117 : decode b_Be_layDifference 117 = .ok (.ldc2_w 99, 3) := by decide +kernel
theorem d_Be_layDifference_120 : decode b_Be_layDifference 120 = .ok (.land, 1) := by decide +kernel
theorem d_Be_layDifference_121 : decode b_Be_layDifference 121 = .ok (.ladd, 1) := by decide +kernel
theorem d_Be_layDifference_122 : decode b_Be_layDifference 122 = .ok (.lstore 8, 2) := by decide +kernel
theorem d_Be_layDifference_124 : decode b_Be_layDifference 124 = .ok (.aload 5, 2) := by decide +kernel
theorem d_Be_layDifference_126 : decode b_Be_layDifference 126 = .ok (.iload 10, 2) := by decide +kernel
theorem d_Be_layDifference_128 : decode b_Be_layDifference 128 = .ok (.lload 8, 2) := by decide +kernel
theorem d_Be_layDifference_130 : decode b_Be_layDifference 130 = .ok (.l2i, 1) := by decide +kernel
theorem d_Be_layDifference_131 : decode b_Be_layDifference 131 = .ok (.iastore, 1) := by decide +kernel
theorem d_Be_layDifference_132 : decode b_Be_layDifference 132 = .ok (.lload 8, 2) := by decide +kernel
theorem d_Be_layDifference_134 : decode b_Be_layDifference 134 = .ok (.bipush 32, 2) := by decide +kernel
theorem d_Be_layDifference_136 : decode b_Be_layDifference 136 = .ok (.lushr, 1) := by decide +kernel
theorem d_Be_layDifference_137 : decode b_Be_layDifference 137 = .ok (.lstore 8, 2) := by decide +kernel
theorem d_Be_layDifference_139 : decode b_Be_layDifference 139 = .ok (.iinc 10 1, 3) := by decide +kernel
theorem d_Be_layDifference_142 : decode b_Be_layDifference 142 = .ok (.goto (-43), 3) := by decide +kernel
theorem d_Be_layDifference_145 : decode b_Be_layDifference 145 = .ok (.iconst 1, 1) := by decide +kernel
theorem d_Be_layDifference_146 : decode b_Be_layDifference 146 = .ok (.ireturn, 1) := by decide +kernel
theorem d_Be_takeFrom_0 : decode b_Be_takeFrom 0 = .ok (.aload_n 0, 1) := by decide +kernel
theorem d_Be_takeFrom_1 : decode b_Be_takeFrom 1 = .ok (.getfield 11, 3) := by decide +kernel
theorem d_Be_takeFrom_4 : decode b_Be_takeFrom 4 = .ok (.astore 5, 2) := by decide +kernel
theorem d_Be_takeFrom_6 : decode b_Be_takeFrom 6 = .ok (.iload_n 3, 1) := by decide +kernel
theorem d_Be_takeFrom_7 : decode b_Be_takeFrom 7 = .ok (.iload_n 1, 1) := by decide +kernel
theorem d_Be_takeFrom_8 : decode b_Be_takeFrom 8 = .ok (.isub, 1) := by decide +kernel
theorem d_Be_takeFrom_9 : decode b_Be_takeFrom 9 = .ok (.istore 6, 2) := by decide +kernel
theorem d_Be_takeFrom_11 : decode b_Be_takeFrom 11 = .ok (.iload_n 1, 1) := by decide +kernel
theorem d_Be_takeFrom_12 : decode b_Be_takeFrom 12 = .ok (.iload 4, 2) := by decide +kernel
theorem d_Be_takeFrom_14 : decode b_Be_takeFrom 14 = .ok (.iadd, 1) := by decide +kernel
theorem d_Be_takeFrom_15 : decode b_Be_takeFrom 15 = .ok (.istore 7, 2) := by decide +kernel
theorem d_Be_takeFrom_17 : decode b_Be_takeFrom 17 = .ok (.lconst 0, 1) := by decide +kernel
theorem d_Be_takeFrom_18 : decode b_Be_takeFrom 18 = .ok (.lstore 8, 2) := by decide +kernel
theorem d_Be_takeFrom_20 : decode b_Be_takeFrom 20 = .ok (.iload_n 1, 1) := by decide +kernel
theorem d_Be_takeFrom_21 : decode b_Be_takeFrom 21 = .ok (.istore 10, 2) := by decide +kernel
theorem d_Be_takeFrom_23 : decode b_Be_takeFrom 23 = .ok (.iload 10, 2) := by decide +kernel
theorem d_Be_takeFrom_25 : decode b_Be_takeFrom 25 = .ok (.iload 7, 2) := by decide +kernel
theorem d_Be_takeFrom_27 : decode b_Be_takeFrom 27 = .ok (.if_icmp .ge 53, 3) := by decide +kernel
theorem d_Be_takeFrom_30 : decode b_Be_takeFrom 30 = .ok (.lload 8, 2) := by decide +kernel
theorem d_Be_takeFrom_32 : decode b_Be_takeFrom 32 = .ok (.aload 5, 2) := by decide +kernel
theorem d_Be_takeFrom_34 : decode b_Be_takeFrom 34 = .ok (.iload 10, 2) := by decide +kernel
theorem d_Be_takeFrom_36 : decode b_Be_takeFrom 36 = .ok (.iaload, 1) := by decide +kernel
theorem d_Be_takeFrom_37 : decode b_Be_takeFrom 37 = .ok (.i2l, 1) := by decide +kernel
theorem d_Be_takeFrom_38 : decode b_Be_takeFrom 38 = .ok (.ldc2_w 99, 3) := by decide +kernel
theorem d_Be_takeFrom_41 : decode b_Be_takeFrom 41 = .ok (.land, 1) := by decide +kernel
theorem d_Be_takeFrom_42 : decode b_Be_takeFrom 42 = .ok (.aload 5, 2) := by decide +kernel
theorem d_Be_takeFrom_44 : decode b_Be_takeFrom 44 = .ok (.iload 10, 2) := by decide +kernel
theorem d_Be_takeFrom_46 : decode b_Be_takeFrom 46 = .ok (.iload 6, 2) := by decide +kernel
theorem d_Be_takeFrom_48 : decode b_Be_takeFrom 48 = .ok (.iadd, 1) := by decide +kernel
theorem d_Be_takeFrom_49 : decode b_Be_takeFrom 49 = .ok (.iaload, 1) := by decide +kernel
theorem d_Be_takeFrom_50 : decode b_Be_takeFrom 50 = .ok (.i2l, 1) := by decide +kernel
theorem d_Be_takeFrom_51 : decode b_Be_takeFrom 51 = .ok (.ldc2_w 99, 3) := by decide +kernel
theorem d_Be_takeFrom_54 : decode b_Be_takeFrom 54 = .ok (.land, 1) := by decide +kernel
theorem d_Be_takeFrom_55 : decode b_Be_takeFrom 55 = .ok (.lsub, 1) := by decide +kernel
theorem d_Be_takeFrom_56 : decode b_Be_takeFrom 56 = .ok (.ladd, 1) := by decide +kernel
theorem d_Be_takeFrom_57 : decode b_Be_takeFrom 57 = .ok (.lstore 8, 2) := by decide +kernel
theorem d_Be_takeFrom_59 : decode b_Be_takeFrom 59 = .ok (.aload 5, 2) := by decide +kernel
theorem d_Be_takeFrom_61 : decode b_Be_takeFrom 61 = .ok (.iload 10, 2) := by decide +kernel
theorem d_Be_takeFrom_63 : decode b_Be_takeFrom 63 = .ok (.lload 8, 2) := by decide +kernel
theorem d_Be_takeFrom_65 : decode b_Be_takeFrom 65 = .ok (.l2i, 1) := by decide +kernel
theorem d_Be_takeFrom_66 : decode b_Be_takeFrom 66 = .ok (.iastore, 1) := by decide +kernel
theorem d_Be_takeFrom_67 : decode b_Be_takeFrom 67 = .ok (.lload 8, 2) := by decide +kernel
theorem d_Be_takeFrom_69 : decode b_Be_takeFrom 69 = .ok (.bipush 32, 2) := by decide +kernel
theorem d_Be_takeFrom_71 : decode b_Be_takeFrom 71 = .ok (.lshr, 1) := by decide +kernel
theorem d_Be_takeFrom_72 : decode b_Be_takeFrom 72 = .ok (.lstore 8, 2) := by decide +kernel
theorem d_Be_takeFrom_74 : decode b_Be_takeFrom 74 = .ok (.iinc 10 1, 3) := by decide +kernel
theorem d_Be_takeFrom_77 : decode b_Be_takeFrom 77 = .ok (.goto (-54), 3) := by decide +kernel
theorem d_Be_takeFrom_80 : decode b_Be_takeFrom 80 = .ok (.iload 7, 2) := by decide +kernel
theorem d_Be_takeFrom_82 : decode b_Be_takeFrom 82 = .ok (.istore 10, 2) := by decide +kernel
theorem d_Be_takeFrom_84 : decode b_Be_takeFrom 84 = .ok (.iload 10, 2) := by decide +kernel
theorem d_Be_takeFrom_86 : decode b_Be_takeFrom 86 = .ok (.iload_n 1, 1) := by decide +kernel
theorem d_Be_takeFrom_87 : decode b_Be_takeFrom 87 = .ok (.iload_n 2, 1) := by decide +kernel
theorem d_Be_takeFrom_88 : decode b_Be_takeFrom 88 = .ok (.iadd, 1) := by decide +kernel
theorem d_Be_takeFrom_89 : decode b_Be_takeFrom 89 = .ok (.if_icmp .ge 46, 3) := by decide +kernel
theorem d_Be_takeFrom_92 : decode b_Be_takeFrom 92 = .ok (.lload 8, 2) := by decide +kernel
theorem d_Be_takeFrom_94 : decode b_Be_takeFrom 94 = .ok (.lconst 0, 1) := by decide +kernel
theorem d_Be_takeFrom_95 : decode b_Be_takeFrom 95 = .ok (.lcmp, 1) := by decide +kernel
theorem d_Be_takeFrom_96 : decode b_Be_takeFrom 96 = .ok (.ifCond .eq 39, 3) := by decide +kernel
theorem d_Be_takeFrom_99 : decode b_Be_takeFrom 99 = .ok (.lload 8, 2) := by decide +kernel
theorem d_Be_takeFrom_101 : decode b_Be_takeFrom 101 = .ok (.aload 5, 2) := by decide +kernel
theorem d_Be_takeFrom_103 : decode b_Be_takeFrom 103 = .ok (.iload 10, 2) := by decide +kernel
theorem d_Be_takeFrom_105 : decode b_Be_takeFrom 105 = .ok (.iaload, 1) := by decide +kernel
theorem d_Be_takeFrom_106 : decode b_Be_takeFrom 106 = .ok (.i2l, 1) := by decide +kernel
theorem d_Be_takeFrom_107 : decode b_Be_takeFrom 107 = .ok (.ldc2_w 99, 3) := by decide +kernel
theorem d_Be_takeFrom_110 : decode b_Be_takeFrom 110 = .ok (.land, 1) := by decide +kernel
theorem d_Be_takeFrom_111 : decode b_Be_takeFrom 111 = .ok (.ladd, 1) := by decide +kernel
theorem d_Be_takeFrom_112 : decode b_Be_takeFrom 112 = .ok (.lstore 8, 2) := by decide +kernel
theorem d_Be_takeFrom_114 : decode b_Be_takeFrom 114 = .ok (.aload 5, 2) := by decide +kernel
theorem d_Be_takeFrom_116 : decode b_Be_takeFrom 116 = .ok (.iload 10, 2) := by decide +kernel
theorem d_Be_takeFrom_118 : decode b_Be_takeFrom 118 = .ok (.lload 8, 2) := by decide +kernel
theorem d_Be_takeFrom_120 : decode b_Be_takeFrom 120 = .ok (.l2i, 1) := by decide +kernel
theorem d_Be_takeFrom_121 : decode b_Be_takeFrom 121 = .ok (.iastore, 1) := by decide +kernel
theorem d_Be_takeFrom_122 : decode b_Be_takeFrom 122 = .ok (.lload 8, 2) := by decide +kernel
theorem d_Be_takeFrom_124 : decode b_Be_takeFrom 124 = .ok (.bipush 32, 2) := by decide +kernel
theorem d_Be_takeFrom_126 : decode b_Be_takeFrom 126 = .ok (.lshr, 1) := by decide +kernel
theorem d_Be_takeFrom_127 : decode b_Be_takeFrom 127 = .ok (.lstore 8, 2) := by decide +kernel
theorem d_Be_takeFrom_129 : decode b_Be_takeFrom 129 = .ok (.iinc 10 1, 3) := by decide +kernel
theorem d_Be_takeFrom_132 : decode b_Be_takeFrom 132 = .ok (.goto (-48), 3) := by decide +kernel
theorem d_Be_takeFrom_135 : decode b_Be_takeFrom 135 = .ok (.lload 8, 2) := by decide +kernel
theorem d_Be_takeFrom_137 : decode b_Be_takeFrom 137 = .ok (.lneg, 1) := by decide +kernel
theorem d_Be_takeFrom_138 : decode b_Be_takeFrom 138 = .ok (.l2i, 1) := by decide +kernel
theorem d_Be_takeFrom_139 : decode b_Be_takeFrom 139 = .ok (.ireturn, 1) := by decide +kernel
theorem d_Be_putQuotient_0 : decode b_Be_putQuotient 0 = .ok (.aload 4, 2) := by decide +kernel
theorem d_Be_putQuotient_2 : decode b_Be_putQuotient 2 = .ok (.getfield 15, 3) := by decide +kernel
theorem d_Be_putQuotient_5 : decode b_Be_putQuotient 5 = .ok (.istore 5, 2) := by decide +kernel
theorem d_Be_putQuotient_7 : decode b_Be_putQuotient 7 = .ok (.iconst 0, 1) := by decide +kernel
theorem d_Be_putQuotient_8 : decode b_Be_putQuotient 8 = .ok (.aload_n 3, 1) := by decide +kernel
theorem d_Be_putQuotient_9 : decode b_Be_putQuotient 9 = .ok (.getfield 15, 3) := by decide +kernel
theorem d_Be_putQuotient_12 : decode b_Be_putQuotient 12 = .ok (.iconst 1, 1) := by decide +kernel
theorem d_Be_putQuotient_13 : decode b_Be_putQuotient 13 = .ok (.iadd, 1) := by decide +kernel
theorem d_Be_putQuotient_14 : decode b_Be_putQuotient 14 = .ok (.iload 5, 2) := by decide +kernel
theorem d_Be_putQuotient_16 : decode b_Be_putQuotient 16 = .ok (.isub, 1) := by decide +kernel
theorem d_Be_putQuotient_17 : decode b_Be_putQuotient 17 = .ok (.invokestatic 54, 3) := by decide +kernel
theorem d_Be_putQuotient_20 : decode b_Be_putQuotient 20 = .ok (.istore 6, 2) := by decide +kernel
theorem d_Be_putQuotient_22 : decode b_Be_putQuotient 22 = .ok (.aload_n 3, 1) := by decide +kernel
theorem d_Be_putQuotient_23 : decode b_Be_putQuotient 23 = .ok (.getfield 15, 3) := by decide +kernel
theorem d_Be_putQuotient_26 : decode b_Be_putQuotient 26 = .ok (.iconst 1, 1) := by decide +kernel
theorem d_Be_putQuotient_27 : decode b_Be_putQuotient 27 = .ok (.iadd, 1) := by decide +kernel
theorem d_Be_putQuotient_28 : decode b_Be_putQuotient 28 = .ok (.istore 7, 2) := by decide +kernel
theorem d_Be_putQuotient_30 : decode b_Be_putQuotient 30 = .ok (.iload 7, 2) := by decide +kernel
theorem d_Be_putQuotient_32 : decode b_Be_putQuotient 32 = .ok (.iload 5, 2) := by decide +kernel
theorem d_Be_putQuotient_34 : decode b_Be_putQuotient 34 = .ok (.iadd, 1) := by decide +kernel
theorem d_Be_putQuotient_35 : decode b_Be_putQuotient 35 = .ok (.iconst 1, 1) := by decide +kernel
theorem d_Be_putQuotient_36 : decode b_Be_putQuotient 36 = .ok (.iadd, 1) := by decide +kernel
theorem d_Be_putQuotient_37 : decode b_Be_putQuotient 37 = .ok (.istore 8, 2) := by decide +kernel
theorem d_Be_putQuotient_39 : decode b_Be_putQuotient 39 = .ok (.bipush 32, 2) := by decide +kernel
theorem d_Be_putQuotient_41 : decode b_Be_putQuotient 41 = .ok (.iload 5, 2) := by decide +kernel
theorem d_Be_putQuotient_43 : decode b_Be_putQuotient 43 = .ok (.imul, 1) := by decide +kernel
theorem d_Be_putQuotient_44 : decode b_Be_putQuotient 44 = .ok (.aload 4, 2) := by decide +kernel
theorem d_Be_putQuotient_46 : decode b_Be_putQuotient 46 = .ok (.invokevirtual 60, 3) := by decide +kernel
theorem d_Be_putQuotient_49 : decode b_Be_putQuotient 49 = .ok (.isub, 1) := by decide +kernel
theorem d_Be_putQuotient_50 : decode b_Be_putQuotient 50 = .ok (.istore 9, 2) := by decide +kernel
theorem d_Be_putQuotient_52 : decode b_Be_putQuotient 52 = .ok (.aload_n 0, 1) := by decide +kernel
theorem d_Be_putQuotient_53 : decode b_Be_putQuotient 53 = .ok (.iconst 0, 1) := by decide +kernel
theorem d_Be_putQuotient_54 : decode b_Be_putQuotient 54 = .ok (.aload_n 3, 1) := by decide +kernel
theorem d_Be_putQuotient_55 : decode b_Be_putQuotient 55 = .ok (.iload 9, 2) := by decide +kernel
theorem d_Be_putQuotient_57 : decode b_Be_putQuotient 57 = .ok (.invokevirtual 64, 3) := by decide +kernel
theorem d_Be_putQuotient_60 : decode b_Be_putQuotient 60 = .ok (.aload_n 0, 1) := by decide +kernel
theorem d_Be_putQuotient_61 : decode b_Be_putQuotient 61 = .ok (.iload 7, 2) := by decide +kernel
theorem d_Be_putQuotient_63 : decode b_Be_putQuotient 63 = .ok (.aload 4, 2) := by decide +kernel
theorem d_Be_putQuotient_65 : decode b_Be_putQuotient 65 = .ok (.iload 9, 2) := by decide +kernel
theorem d_Be_putQuotient_67 : decode b_Be_putQuotient 67 = .ok (.invokevirtual 64, 3) := by decide +kernel
theorem d_Be_putQuotient_70 : decode b_Be_putQuotient 70 = .ok (.iload 6, 2) := by decide +kernel
theorem d_Be_putQuotient_72 : decode b_Be_putQuotient 72 = .ok (.istore 10, 2) := by decide +kernel
theorem d_Be_putQuotient_74 : decode b_Be_putQuotient 74 = .ok (.iload 10, 2) := by decide +kernel
theorem d_Be_putQuotient_76 : decode b_Be_putQuotient 76 = .ok (.ifCond .le 61, 3) := by decide +kernel
theorem d_Be_putQuotient_79 : decode b_Be_putQuotient 79 = .ok (.iload 5, 2) := by decide +kernel
theorem d_Be_putQuotient_81 : decode b_Be_putQuotient 81 = .ok (.bipush 80, 2) := by decide +kernel
theorem d_Be_putQuotient_83 : decode b_Be_putQuotient 83 = .ok (.if_icmp .ge 8, 3) := by decide +kernel
theorem d_Be_putQuotient_86 : decode b_Be_putQuotient 86 = .ok (.iload 10, 2) := by decide +kernel
theorem d_Be_putQuotient_88 : decode b_Be_putQuotient 88 = .ok (.goto 12, 3) := by decide +kernel
theorem d_Be_putQuotient_91 : decode b_Be_putQuotient 91 = .ok (.iload 10, 2) := by decide +kernel
theorem d_Be_putQuotient_93 : decode b_Be_putQuotient 93 = .ok (.iconst 1, 1) := by decide +kernel
theorem d_Be_putQuotient_94 : decode b_Be_putQuotient 94 = .ok (.isub, 1) := by decide +kernel
theorem d_Be_putQuotient_95 : decode b_Be_putQuotient 95 = .ok (.iload 5, 2) := by decide +kernel
theorem d_Be_putQuotient_97 : decode b_Be_putQuotient 97 = .ok (.irem, 1) := by decide +kernel
theorem d_Be_putQuotient_98 : decode b_Be_putQuotient 98 = .ok (.iconst 1, 1) := by decide +kernel
theorem d_Be_putQuotient_99 : decode b_Be_putQuotient 99 = .ok (.iadd, 1) := by decide +kernel
theorem d_Be_putQuotient_100 : decode b_Be_putQuotient 100 = .ok (.istore 11, 2) := by decide +kernel
theorem d_Be_putQuotient_102 : decode b_Be_putQuotient 102 = .ok (.iload 10, 2) := by decide +kernel
theorem d_Be_putQuotient_104 : decode b_Be_putQuotient 104 = .ok (.iload 11, 2) := by decide +kernel
theorem d_Be_putQuotient_106 : decode b_Be_putQuotient 106 = .ok (.isub, 1) := by decide +kernel
theorem d_Be_putQuotient_107 : decode b_Be_putQuotient 107 = .ok (.istore 10, 2) := by decide +kernel
theorem d_Be_putQuotient_109 : decode b_Be_putQuotient 109 = .ok (.aload_n 0, 1) := by decide +kernel
theorem d_Be_putQuotient_110 : decode b_Be_putQuotient 110 = .ok (.iload 8, 2) := by decide +kernel
theorem d_Be_putQuotient_112 : decode b_Be_putQuotient 112 = .ok (.iload 10, 2) := by decide +kernel
theorem d_Be_putQuotient_114 : decode b_Be_putQuotient 114 = .ok (.iadd, 1) := by decide +kernel
theorem d_Be_putQuotient_115 : decode b_Be_putQuotient 115 = .ok (.iload 10, 2) := by decide +kernel
theorem d_Be_putQuotient_117 : decode b_Be_putQuotient 117 = .ok (.iload 7, 2) := by decide +kernel
theorem d_Be_putQuotient_119 : decode b_Be_putQuotient 119 = .ok (.iload 5, 2) := by decide +kernel
theorem d_Be_putQuotient_121 : decode b_Be_putQuotient 121 = .ok (.iload 11, 2) := by decide +kernel
theorem d_Be_putQuotient_123 : decode b_Be_putQuotient 123 = .ok (.iload 8, 2) := by decide +kernel
theorem d_Be_putQuotient_125 : decode b_Be_putQuotient 125 = .ok (.iload 6, 2) := by decide +kernel
theorem d_Be_putQuotient_127 : decode b_Be_putQuotient 127 = .ok (.iadd, 1) := by decide +kernel
theorem d_Be_putQuotient_128 : decode b_Be_putQuotient 128 = .ok (.bipush 20, 2) := by decide +kernel
theorem d_Be_putQuotient_130 : decode b_Be_putQuotient 130 = .ok (.invokevirtual 68, 3) := by decide +kernel
theorem d_Be_putQuotient_133 : decode b_Be_putQuotient 133 = .ok (.pop, 1) := by decide +kernel
theorem d_Be_putQuotient_134 : decode b_Be_putQuotient 134 = .ok (.goto (-60), 3) := by decide +kernel
theorem d_Be_putQuotient_137 : decode b_Be_putQuotient 137 = .ok (.aload_n 0, 1) := by decide +kernel
theorem d_Be_putQuotient_138 : decode b_Be_putQuotient 138 = .ok (.getfield 11, 3) := by decide +kernel
theorem d_Be_putQuotient_141 : decode b_Be_putQuotient 141 = .ok (.iload 8, 2) := by decide +kernel
theorem d_Be_putQuotient_143 : decode b_Be_putQuotient 143 = .ok (.aload_n 1, 1) := by decide +kernel
theorem d_Be_putQuotient_144 : decode b_Be_putQuotient 144 = .ok (.getfield 21, 3) := by decide +kernel
theorem d_Be_putQuotient_147 : decode b_Be_putQuotient 147 = .ok (.iconst 0, 1) := by decide +kernel
theorem d_Be_putQuotient_148 : decode b_Be_putQuotient 148 = .ok (.iload 6, 2) := by decide +kernel
theorem d_Be_putQuotient_150 : decode b_Be_putQuotient 150 = .ok (.invokestatic 24, 3) := by decide +kernel
theorem d_Be_putQuotient_153 : decode b_Be_putQuotient 153 = .ok (.aload_n 1, 1) := by decide +kernel
theorem d_Be_putQuotient_154 : decode b_Be_putQuotient 154 = .ok (.iload 6, 2) := by decide +kernel
theorem d_Be_putQuotient_156 : decode b_Be_putQuotient 156 = .ok (.invokevirtual 34, 3) := by decide +kernel
theorem d_Be_putQuotient_159 : decode b_Be_putQuotient 159 = .ok (.aload_n 1, 1) := by decide +kernel
theorem d_Be_putQuotient_160 : decode b_Be_putQuotient 160 = .ok (.invokevirtual 60, 3) := by decide +kernel
theorem d_Be_putQuotient_163 : decode b_Be_putQuotient 163 = .ok (.istore 11, 2) := by decide +kernel
theorem d_Be_putQuotient_165 : decode b_Be_putQuotient 165 = .ok (.iload 5, 2) := by decide +kernel
theorem d_Be_putQuotient_167 : decode b_Be_putQuotient 167 = .ok (.iload 7, 2) := by decide +kernel
theorem d_Be_putQuotient_169 : decode b_Be_putQuotient 169 = .ok (.invokestatic 72, 3) := by decide +kernel
theorem d_Be_putQuotient_172 : decode b_Be_putQuotient 172 = .ok (.istore 12, 2) := by decide +kernel
theorem d_Be_putQuotient_174 : decode b_Be_putQuotient 174 = .ok (.aload_n 0, 1) := by decide +kernel
theorem d_Be_putQuotient_175 : decode b_Be_putQuotient 175 = .ok (.getfield 11, 3) := by decide +kernel
theorem d_Be_putQuotient_178 : decode b_Be_putQuotient 178 = .ok (.iconst 0, 1) := by decide +kernel
theorem d_Be_putQuotient_179 : decode b_Be_putQuotient 179 = .ok (.aload_n 2, 1) := by decide +kernel
theorem d_Be_putQuotient_180 : decode b_Be_putQuotient 180 = .ok (.getfield 21, 3) := by decide +kernel
theorem d_Be_putQuotient_183 : decode b_Be_putQuotient 183 = .ok (.iconst 0, 1) := by decide +kernel
theorem d_Be_putQuotient_184 : decode b_Be_putQuotient 184 = .ok (.iload 12, 2) := by decide +kernel
theorem d_Be_putQuotient_186 : decode b_Be_putQuotient 186 = .ok (.invokestatic 24, 3) := by decide +kernel
theorem d_Be_putQuotient_189 : decode b_Be_putQuotient 189 = .ok (.aload_n 2, 1) := by decide +kernel
theorem d_Be_putQuotient_190 : decode b_Be_putQuotient 190 = .ok (.iload 12, 2) := by decide +kernel
theorem d_Be_putQuotient_192 : decode b_Be_putQuotient 192 = .ok (.invokevirtual 34, 3) := by decide +kernel
theorem d_Be_putQuotient_195 : decode b_Be_putQuotient 195 = .ok (.aload_n 2, 1) := by decide +kernel
theorem d_Be_putQuotient_196 : decode b_Be_putQuotient 196 = .ok (.aload_n 2, 1) := by decide +kernel
theorem d_Be_putQuotient_197 : decode b_Be_putQuotient 197 = .ok (.iload 9, 2) := by decide +kernel
theorem d_Be_putQuotient_199 : decode b_Be_putQuotient 199 = .ok (.ineg, 1) := by decide +kernel
theorem d_Be_putQuotient_200 : decode b_Be_putQuotient 200 = .ok (.invokevirtual 75, 3) := by decide +kernel
theorem d_Be_putQuotient_203 : decode b_Be_putQuotient 203 = .ok (.iload 11, 2) := by decide +kernel
theorem d_Be_putQuotient_205 : decode b_Be_putQuotient 205 = .ok (.ireturn, 1) := by decide +kernel
theorem d_Be_layMoved_0 : decode b_Be_layMoved 0 = .ok (.iconst 0, 1) := by decide +kernel
theorem d_Be_layMoved_1 : decode b_Be_layMoved 1 = .ok (.istore 4, 2) := by decide +kernel
theorem d_Be_layMoved_3 : decode b_Be_layMoved 3 = .ok (.iconst 0, 1) := by decide +kernel
theorem d_Be_layMoved_4 : decode b_Be_layMoved 4 = .ok (.istore 5, 2) := by decide +kernel
theorem d_Be_layMoved_6 : decode b_Be_layMoved 6 = .ok (.iload 5, 2) := by decide +kernel
theorem d_Be_layMoved_8 : decode b_Be_layMoved 8 = .ok (.aload_n 2, 1) := by decide +kernel
theorem d_Be_layMoved_9 : decode b_Be_layMoved 9 = .ok (.getfield 15, 3) := by decide +kernel
theorem d_Be_layMoved_12 : decode b_Be_layMoved 12 = .ok (.if_icmp .ge 52, 3) := by decide +kernel
theorem d_Be_layMoved_15 : decode b_Be_layMoved 15 = .ok (.aload_n 2, 1) := by decide +kernel
theorem d_Be_layMoved_16 : decode b_Be_layMoved 16 = .ok (.getfield 21, 3) := by decide +kernel
theorem d_Be_layMoved_19 : decode b_Be_layMoved 19 = .ok (.iload 5, 2) := by decide +kernel
theorem d_Be_layMoved_21 : decode b_Be_layMoved 21 = .ok (.iaload, 1) := by decide +kernel
theorem d_Be_layMoved_22 : decode b_Be_layMoved 22 = .ok (.istore 6, 2) := by decide +kernel
theorem d_Be_layMoved_24 : decode b_Be_layMoved 24 = .ok (.aload_n 0, 1) := by decide +kernel
theorem d_Be_layMoved_25 : decode b_Be_layMoved 25 = .ok (.getfield 11, 3) := by decide +kernel
theorem d_Be_layMoved_28 : decode b_Be_layMoved 28 = .ok (.iload_n 1, 1) := by decide +kernel
theorem d_Be_layMoved_29 : decode b_Be_layMoved 29 = .ok (.iload 5, 2) := by decide +kernel
theorem d_Be_layMoved_31 : decode b_Be_layMoved 31 = .ok (.iadd, 1) := by decide +kernel
theorem d_Be_layMoved_32 : decode b_Be_layMoved 32 = .ok (.iload_n 3, 1) := by decide +kernel
theorem d_Be_layMoved_33 : decode b_Be_layMoved 33 = .ok (.ifCond .ne 8, 3) := by decide +kernel
theorem d_Be_layMoved_36 : decode b_Be_layMoved 36 = .ok (.iload 6, 2) := by decide +kernel
theorem d_Be_layMoved_38 : decode b_Be_layMoved 38 = .ok (.goto 15, 3) := by decide +kernel
theorem d_Be_layMoved_41 : decode b_Be_layMoved 41 = .ok (.iload 6, 2) := by decide +kernel
theorem d_Be_layMoved_43 : decode b_Be_layMoved 43 = .ok (.iload_n 3, 1) := by decide +kernel
theorem d_Be_layMoved_44 : decode b_Be_layMoved 44 = .ok (.ishl, 1) := by decide +kernel
theorem d_Be_layMoved_45 : decode b_Be_layMoved 45 = .ok (.iload 4, 2) := by decide +kernel
theorem d_Be_layMoved_47 : decode b_Be_layMoved 47 = .ok (.bipush 32, 2) := by decide +kernel
theorem d_Be_layMoved_49 : decode b_Be_layMoved 49 = .ok (.iload_n 3, 1) := by decide +kernel
theorem d_Be_layMoved_50 : decode b_Be_layMoved 50 = .ok (.isub, 1) := by decide +kernel
theorem d_Be_layMoved_51 : decode b_Be_layMoved 51 = .ok (.iushr, 1) := by decide +kernel
theorem d_Be_layMoved_52 : decode b_Be_layMoved 52 = .ok (.ior, 1) := by decide +kernel
theorem d_Be_layMoved_53 : decode b_Be_layMoved 53 = .ok (.iastore, 1) := by decide +kernel
theorem d_Be_layMoved_54 : decode b_Be_layMoved 54 = .ok (.iload 6, 2) := by decide +kernel
theorem d_Be_layMoved_56 : decode b_Be_layMoved 56 = .ok (.istore 4, 2) := by decide +kernel
theorem d_Be_layMoved_58 : decode b_Be_layMoved 58 = .ok (.iinc 5 1, 3) := by decide +kernel
theorem d_Be_layMoved_61 : decode b_Be_layMoved 61 = .ok (.goto (-55), 3) := by decide +kernel
theorem d_Be_layMoved_64 : decode b_Be_layMoved 64 = .ok (.aload_n 0, 1) := by decide +kernel
theorem d_Be_layMoved_65 : decode b_Be_layMoved 65 = .ok (.getfield 11, 3) := by decide +kernel
theorem d_Be_layMoved_68 : decode b_Be_layMoved 68 = .ok (.iload_n 1, 1) := by decide +kernel
theorem d_Be_layMoved_69 : decode b_Be_layMoved 69 = .ok (.aload_n 2, 1) := by decide +kernel
theorem d_Be_layMoved_70 : decode b_Be_layMoved 70 = .ok (.getfield 15, 3) := by decide +kernel
theorem d_Be_layMoved_73 : decode b_Be_layMoved 73 = .ok (.iadd, 1) := by decide +kernel
theorem d_Be_layMoved_74 : decode b_Be_layMoved 74 = .ok (.iload_n 3, 1) := by decide +kernel
theorem d_Be_layMoved_75 : decode b_Be_layMoved 75 = .ok (.ifCond .ne 7, 3) := by decide +kernel
theorem d_Be_layMoved_78 : decode b_Be_layMoved 78 = .ok (.iconst 0, 1) := by decide +kernel
theorem d_Be_layMoved_79 : decode b_Be_layMoved 79 = .ok (.goto 10, 3) := by decide +kernel
theorem d_Be_layMoved_82 : decode b_Be_layMoved 82 = .ok (.iload 4, 2) := by decide +kernel
theorem d_Be_layMoved_84 : decode b_Be_layMoved 84 = .ok (.bipush 32, 2) := by decide +kernel
theorem d_Be_layMoved_86 : decode b_Be_layMoved 86 = .ok (.iload_n 3, 1) := by decide +kernel
theorem d_Be_layMoved_87 : decode b_Be_layMoved 87 = .ok (.isub, 1) := by decide +kernel
theorem d_Be_layMoved_88 : decode b_Be_layMoved 88 = .ok (.iushr, 1) := by decide +kernel
theorem d_Be_layMoved_89 : decode b_Be_layMoved 89 = .ok (.iastore, 1) := by decide +kernel
theorem d_Be_layMoved_90 : decode b_Be_layMoved 90 = .ok (.return_, 1) := by decide +kernel
theorem d_Be_divideRun_0 : decode b_Be_divideRun 0 = .ok (.iload 5, 2) := by decide +kernel
theorem d_Be_divideRun_2 : decode b_Be_divideRun 2 = .ok (.bipush 80, 2) := by decide +kernel
theorem d_Be_divideRun_4 : decode b_Be_divideRun 4 = .ok (.if_icmp .lt 15, 3) := by decide +kernel
theorem d_Be_divideRun_7 : decode b_Be_divideRun 7 = .ok (.iload 4, 2) := by decide +kernel
theorem d_Be_divideRun_9 : decode b_Be_divideRun 9 = .ok (.bipush 80, 2) := by decide +kernel
theorem d_Be_divideRun_11 : decode b_Be_divideRun 11 = .ok (.if_icmp .lt 8, 3) := by decide +kernel
theorem d_Be_divideRun_14 : decode b_Be_divideRun 14 = .ok (.iload 7, 2) := by decide +kernel
theorem d_Be_divideRun_16 : decode b_Be_divideRun 16 = .ok (.ifCond .ne 15, 3) := by decide +kernel
theorem d_Be_divideRun_19 : decode b_Be_divideRun 19 = .ok (.aload_n 0, 1) := by decide +kernel
theorem d_Be_divideRun_20 : decode b_Be_divideRun 20 = .ok (.iload_n 1, 1) := by decide +kernel
theorem d_Be_divideRun_21 : decode b_Be_divideRun 21 = .ok (.iload_n 2, 1) := by decide +kernel
theorem d_Be_divideRun_22 : decode b_Be_divideRun 22 = .ok (.iload_n 3, 1) := by decide +kernel
theorem d_Be_divideRun_23 : decode b_Be_divideRun 23 = .ok (.iload 4, 2) := by decide +kernel
theorem d_Be_divideRun_25 : decode b_Be_divideRun 25 = .ok (.iload 5, 2) := by decide +kernel
theorem d_Be_divideRun_27 : decode b_Be_divideRun 27 = .ok (.invokevirtual 116, 3) := by decide +kernel
theorem d_Be_divideRun_30 : decode b_Be_divideRun 30 = .ok (.ireturn, 1) := by decide +kernel
theorem d_Be_divideRun_31 : decode b_Be_divideRun 31 = .ok (.iload 5, 2) := by decide +kernel
theorem d_Be_divideRun_33 : decode b_Be_divideRun 33 = .ok (.iload 4, 2) := by decide +kernel
theorem d_Be_divideRun_35 : decode b_Be_divideRun 35 = .ok (.if_icmp .ge 21, 3) := by decide +kernel
theorem d_Be_divideRun_38 : decode b_Be_divideRun 38 = .ok (.aload_n 0, 1) := by decide +kernel
theorem d_Be_divideRun_39 : decode b_Be_divideRun 39 = .ok (.iload_n 1, 1) := by decide +kernel
theorem d_Be_divideRun_40 : decode b_Be_divideRun 40 = .ok (.iload_n 2, 1) := by decide +kernel
theorem d_Be_divideRun_41 : decode b_Be_divideRun 41 = .ok (.iload_n 3, 1) := by decide +kernel
theorem d_Be_divideRun_42 : decode b_Be_divideRun 42 = .ok (.iload 4, 2) := by decide +kernel
theorem d_Be_divideRun_44 : decode b_Be_divideRun 44 = .ok (.iload 5, 2) := by decide +kernel
theorem d_Be_divideRun_46 : decode b_Be_divideRun 46 = .ok (.iload 6, 2) := by decide +kernel
theorem d_Be_divideRun_48 : decode b_Be_divideRun 48 = .ok (.iload 7, 2) := by decide +kernel
theorem d_Be_divideRun_50 : decode b_Be_divideRun 50 = .ok (.iconst 1, 1) := by decide +kernel
theorem d_Be_divideRun_51 : decode b_Be_divideRun 51 = .ok (.isub, 1) := by decide +kernel
theorem d_Be_divideRun_52 : decode b_Be_divideRun 52 = .ok (.invokevirtual 120, 3) := by decide +kernel
theorem d_Be_divideRun_55 : decode b_Be_divideRun 55 = .ok (.ireturn, 1) := by decide +kernel
theorem d_Be_divideRun_56 : decode b_Be_divideRun 56 = .ok (.iload 5, 2) := by decide +kernel
theorem d_Be_divideRun_58 : decode b_Be_divideRun 58 = .ok (.iconst 2, 1) := by decide +kernel
theorem d_Be_divideRun_59 : decode b_Be_divideRun 59 = .ok (.idiv, 1) := by decide +kernel
theorem d_Be_divideRun_60 : decode b_Be_divideRun 60 = .ok (.istore 8, 2) := by decide +kernel
theorem d_Be_divideRun_62 : decode b_Be_divideRun 62 = .ok (.aload_n 0, 1) := by decide +kernel
theorem d_Be_divideRun_63 : decode b_Be_divideRun 63 = .ok (.iload_n 1, 1) := by decide +kernel
theorem d_Be_divideRun_64 : decode b_Be_divideRun 64 = .ok (.iload 8, 2) := by decide +kernel
theorem d_Be_divideRun_66 : decode b_Be_divideRun 66 = .ok (.iadd, 1) := by decide +kernel
theorem d_Be_divideRun_67 : decode b_Be_divideRun 67 = .ok (.iload_n 2, 1) := by decide +kernel
theorem d_Be_divideRun_68 : decode b_Be_divideRun 68 = .ok (.iload 8, 2) := by decide +kernel
theorem d_Be_divideRun_70 : decode b_Be_divideRun 70 = .ok (.iadd, 1) := by decide +kernel
theorem d_Be_divideRun_71 : decode b_Be_divideRun 71 = .ok (.iload_n 3, 1) := by decide +kernel
theorem d_Be_divideRun_72 : decode b_Be_divideRun 72 = .ok (.iload 4, 2) := by decide +kernel
theorem d_Be_divideRun_74 : decode b_Be_divideRun 74 = .ok (.iload 5, 2) := by decide +kernel
theorem d_Be_divideRun_76 : decode b_Be_divideRun 76 = .ok (.iload 8, 2) := by decide +kernel
theorem d_Be_divideRun_78 : decode b_Be_divideRun 78 = .ok (.isub, 1) := by decide +kernel
theorem d_Be_divideRun_79 : decode b_Be_divideRun 79 = .ok (.iload 6, 2) := by decide +kernel
theorem d_Be_divideRun_81 : decode b_Be_divideRun 81 = .ok (.iload 7, 2) := by decide +kernel
theorem d_Be_divideRun_83 : decode b_Be_divideRun 83 = .ok (.iconst 1, 1) := by decide +kernel
theorem d_Be_divideRun_84 : decode b_Be_divideRun 84 = .ok (.isub, 1) := by decide +kernel
theorem d_Be_divideRun_85 : decode b_Be_divideRun 85 = .ok (.invokevirtual 120, 3) := by decide +kernel
theorem d_Be_divideRun_88 : decode b_Be_divideRun 88 = .ok (.istore 9, 2) := by decide +kernel
theorem d_Be_divideRun_90 : decode b_Be_divideRun 90 = .ok (.aload_n 0, 1) := by decide +kernel
theorem d_Be_divideRun_91 : decode b_Be_divideRun 91 = .ok (.iload_n 1, 1) := by decide +kernel
theorem d_Be_divideRun_92 : decode b_Be_divideRun 92 = .ok (.iload_n 2, 1) := by decide +kernel
theorem d_Be_divideRun_93 : decode b_Be_divideRun 93 = .ok (.iload_n 3, 1) := by decide +kernel
theorem d_Be_divideRun_94 : decode b_Be_divideRun 94 = .ok (.iload 4, 2) := by decide +kernel
theorem d_Be_divideRun_96 : decode b_Be_divideRun 96 = .ok (.iload 8, 2) := by decide +kernel
theorem d_Be_divideRun_98 : decode b_Be_divideRun 98 = .ok (.iload 6, 2) := by decide +kernel
theorem d_Be_divideRun_100 : decode b_Be_divideRun 100 = .ok (.iload 7, 2) := by decide +kernel
theorem d_Be_divideRun_102 : decode b_Be_divideRun 102 = .ok (.iconst 1, 1) := by decide +kernel
theorem d_Be_divideRun_103 : decode b_Be_divideRun 103 = .ok (.isub, 1) := by decide +kernel
theorem d_Be_divideRun_104 : decode b_Be_divideRun 104 = .ok (.invokevirtual 120, 3) := by decide +kernel
theorem d_Be_divideRun_107 : decode b_Be_divideRun 107 = .ok (.pop, 1) := by decide +kernel
theorem d_Be_divideRun_108 : decode b_Be_divideRun 108 = .ok (.iload 9, 2) := by decide +kernel
theorem d_Be_divideRun_110 : decode b_Be_divideRun 110 = .ok (.ireturn, 1) := by decide +kernel
theorem d_Be_dividePlain_0 : decode b_Be_dividePlain 0 = .ok (.iconst 0, 1) := by decide +kernel
theorem d_Be_dividePlain_1 : decode b_Be_dividePlain 1 = .ok (.istore 6, 2) := by decide +kernel
theorem d_Be_dividePlain_3 : decode b_Be_dividePlain 3 = .ok (.aload_n 0, 1) := by decide +kernel
theorem d_Be_dividePlain_4 : decode b_Be_dividePlain 4 = .ok (.iload_n 2, 1) := by decide +kernel
theorem d_Be_dividePlain_5 : decode b_Be_dividePlain 5 = .ok (.iload 5, 2) := by decide +kernel
theorem d_Be_dividePlain_7 : decode b_Be_dividePlain 7 = .ok (.iadd, 1) := by decide +kernel
theorem d_Be_dividePlain_8 : decode b_Be_dividePlain 8 = .ok (.iload_n 3, 1) := by decide +kernel
theorem d_Be_dividePlain_9 : decode b_Be_dividePlain 9 = .ok (.iload 4, 2) := by decide +kernel
theorem d_Be_dividePlain_11 : decode b_Be_dividePlain 11 = .ok (.invokevirtual 126, 3) := by decide +kernel
theorem d_Be_dividePlain_14 : decode b_Be_dividePlain 14 = .ok (.ifCond .eq 20, 3) := by decide +kernel
theorem d_Be_dividePlain_17 : decode b_Be_dividePlain 17 = .ok (.aload_n 0, 1) := by decide +kernel
theorem d_Be_dividePlain_18 : decode b_Be_dividePlain 18 = .ok (.iload_n 2, 1) := by decide +kernel
theorem d_Be_dividePlain_19 : decode b_Be_dividePlain 19 = .ok (.iload 5, 2) := by decide +kernel
theorem d_Be_dividePlain_21 : decode b_Be_dividePlain 21 = .ok (.iadd, 1) := by decide +kernel
theorem d_Be_dividePlain_22 : decode b_Be_dividePlain 22 = .ok (.iload 4, 2) := by decide +kernel
theorem d_Be_dividePlain_24 : decode b_Be_dividePlain 24 = .ok (.iload_n 3, 1) := by decide +kernel
theorem d_Be_dividePlain_25 : decode b_Be_dividePlain 25 = .ok (.iload 4, 2) := by decide +kernel
theorem d_Be_dividePlain_27 : decode b_Be_dividePlain 27 = .ok (.invokevirtual 113, 3) := by decide +kernel
theorem d_Be_dividePlain_30 : decode b_Be_dividePlain 30 = .ok (.pop, 1) := by decide +kernel
theorem d_Be_dividePlain_31 : decode b_Be_dividePlain 31 = .ok (.iconst 1, 1) := by decide +kernel
theorem d_Be_dividePlain_32 : decode b_Be_dividePlain 32 = .ok (.istore 6, 2) := by decide +kernel
theorem d_Be_dividePlain_34 : decode b_Be_dividePlain 34 = .ok (.iload 5, 2) := by decide +kernel
theorem d_Be_dividePlain_36 : decode b_Be_dividePlain 36 = .ok (.iconst 1, 1) := by decide +kernel
theorem d_Be_dividePlain_37 : decode b_Be_dividePlain 37 = .ok (.isub, 1) := by decide +kernel
theorem d_Be_dividePlain_38 : decode b_Be_dividePlain 38 = .ok (.istore 7, 2) := by decide +kernel
theorem d_Be_dividePlain_40 : decode b_Be_dividePlain 40 = .ok (.iload 7, 2) := by decide +kernel
theorem d_Be_dividePlain_42 : decode b_Be_dividePlain 42 = .ok (.ifCond .lt 114, 3) := by decide +kernel
theorem d_Be_dividePlain_45 : decode b_Be_dividePlain 45 = .ok (.aload_n 0, 1) := by decide +kernel
theorem d_Be_dividePlain_46 : decode b_Be_dividePlain 46 = .ok (.iload_n 2, 1) := by decide +kernel
theorem d_Be_dividePlain_47 : decode b_Be_dividePlain 47 = .ok (.iload 7, 2) := by decide +kernel
theorem d_Be_dividePlain_49 : decode b_Be_dividePlain 49 = .ok (.iadd, 1) := by decide +kernel
theorem d_Be_dividePlain_50 : decode b_Be_dividePlain 50 = .ok (.iload_n 3, 1) := by decide +kernel
theorem d_Be_dividePlain_51 : decode b_Be_dividePlain 51 = .ok (.iload 4, 2) := by decide +kernel
theorem d_Be_dividePlain_53 : decode b_Be_dividePlain 53 = .ok (.invokevirtual 130, 3) := by decide +kernel
theorem d_Be_dividePlain_56 : decode b_Be_dividePlain 56 = .ok (.lstore 8, 2) := by decide +kernel
theorem d_Be_dividePlain_58 : decode b_Be_dividePlain 58 = .ok (.aload_n 0, 1) := by decide +kernel
theorem d_Be_dividePlain_59 : decode b_Be_dividePlain 59 = .ok (.getfield 11, 3) := by decide +kernel
theorem d_Be_dividePlain_62 : decode b_Be_dividePlain 62 = .ok (.iload_n 2, 1) := by decide +kernel
theorem d_Be_dividePlain_63 : decode b_Be_dividePlain 63 = .ok (.iload 7, 2) := by decide +kernel
theorem d_Be_dividePlain_65 : decode b_Be_dividePlain 65 = .ok (.iadd, 1) := by decide +kernel
theorem d_Be_dividePlain_66 : decode b_Be_dividePlain 66 = .ok (.iload 4, 2) := by decide +kernel
theorem d_Be_dividePlain_68 : decode b_Be_dividePlain 68 = .ok (.iadd, 1) := by decide +kernel
theorem d_Be_dividePlain_69 : decode b_Be_dividePlain 69 = .ok (.iaload, 1) := by decide +kernel
theorem d_Be_dividePlain_70 : decode b_Be_dividePlain 70 = .ok (.i2l, 1) := by decide +kernel
theorem d_Be_dividePlain_71 : decode b_Be_dividePlain 71 = .ok (.ldc2_w 99, 3) := by decide +kernel
theorem d_Be_dividePlain_74 : decode b_Be_dividePlain 74 = .ok (.land, 1) := by decide +kernel
theorem d_Be_dividePlain_75 : decode b_Be_dividePlain 75 = .ok (.aload_n 0, 1) := by decide +kernel
theorem d_Be_dividePlain_76 : decode b_Be_dividePlain 76 = .ok (.iload_n 2, 1) := by decide +kernel
theorem d_Be_dividePlain_77 : decode b_Be_dividePlain 77 = .ok (.iload 7, 2) := by decide +kernel
theorem d_Be_dividePlain_79 : decode b_Be_dividePlain 79 = .ok (.iadd, 1) := by decide +kernel
theorem d_Be_dividePlain_80 : decode b_Be_dividePlain 80 = .ok (.iload_n 3, 1) := by decide +kernel
theorem d_Be_dividePlain_81 : decode b_Be_dividePlain 81 = .ok (.iload 4, 2) := by decide +kernel
theorem d_Be_dividePlain_83 : decode b_Be_dividePlain 83 = .ok (.lload 8, 2) := by decide +kernel
theorem d_Be_dividePlain_85 : decode b_Be_dividePlain 85 = .ok (.invokevirtual 134, 3) := by decide +kernel
theorem d_Be_dividePlain_88 : decode b_Be_dividePlain 88 = .ok (.lsub, 1) := by decide +kernel
theorem d_Be_dividePlain_89 : decode b_Be_dividePlain 89 = .ok (.lstore 10, 2) := by decide +kernel
theorem d_Be_dividePlain_91 : decode b_Be_dividePlain 91 = .ok (.lload 10, 2) := by decide +kernel
theorem d_Be_dividePlain_93 : decode b_Be_dividePlain 93 = .ok (.lconst 0, 1) := by decide +kernel
theorem d_Be_dividePlain_94 : decode b_Be_dividePlain 94 = .ok (.lcmp, 1) := by decide +kernel
theorem d_Be_dividePlain_95 : decode b_Be_dividePlain 95 = .ok (.ifCond .ge 28, 3) := by decide +kernel
theorem d_Be_dividePlain_98 : decode b_Be_dividePlain 98 = .ok (.lload 8, 2) := by decide +kernel
theorem d_Be_dividePlain_100 : decode b_Be_dividePlain 100 = .ok (.lconst 1, 1) := by decide +kernel
theorem d_Be_dividePlain_101 : decode b_Be_dividePlain 101 = .ok (.lsub, 1) := by decide +kernel
theorem d_Be_dividePlain_102 : decode b_Be_dividePlain 102 = .ok (.lstore 8, 2) := by decide +kernel
theorem d_Be_dividePlain_104 : decode b_Be_dividePlain 104 = .ok (.lload 10, 2) := by decide +kernel
theorem d_Be_dividePlain_106 : decode b_Be_dividePlain 106 = .ok (.aload_n 0, 1) := by decide +kernel
theorem d_Be_dividePlain_107 : decode b_Be_dividePlain 107 = .ok (.iload_n 2, 1) := by decide +kernel
theorem d_Be_dividePlain_108 : decode b_Be_dividePlain 108 = .ok (.iload 7, 2) := by decide +kernel
theorem d_Be_dividePlain_110 : decode b_Be_dividePlain 110 = .ok (.iadd, 1) := by decide +kernel
theorem d_Be_dividePlain_111 : decode b_Be_dividePlain 111 = .ok (.iload 4, 2) := by decide +kernel
theorem d_Be_dividePlain_113 : decode b_Be_dividePlain 113 = .ok (.iload_n 3, 1) := by decide +kernel
theorem d_Be_dividePlain_114 : decode b_Be_dividePlain 114 = .ok (.iload 4, 2) := by decide +kernel
theorem d_Be_dividePlain_116 : decode b_Be_dividePlain 116 = .ok (.invokevirtual 105, 3) := by decide +kernel
theorem d_Be_dividePlain_119 : decode b_Be_dividePlain 119 = .ok (.i2l, 1) := by decide +kernel
theorem d_Be_dividePlain_120 : decode b_Be_dividePlain 120 = .ok (.ladd, 1) := by decide +kernel
theorem d_Be_dividePlain_121 : decode b_Be_dividePlain 121 = .ok (.lstore 10, 2) := by decide +kernel
theorem d_Be_dividePlain_123 : decode b_Be_dividePlain 123 = .ok (.aload_n 0, 1) := by decide +kernel
theorem d_Be_dividePlain_124 : decode b_Be_dividePlain 124 = .ok (.getfield 11, 3) := by decide +kernel
theorem d_Be_dividePlain_127 : decode b_Be_dividePlain 127 = .ok (.iload_n 2, 1) := by decide +kernel
theorem d_Be_dividePlain_128 : decode b_Be_dividePlain 128 = .ok (.iload 7, 2) := by decide +kernel
theorem d_Be_dividePlain_130 : decode b_Be_dividePlain 130 = .ok (.iadd, 1) := by decide +kernel
theorem d_Be_dividePlain_131 : decode b_Be_dividePlain 131 = .ok (.iload 4, 2) := by decide +kernel
theorem d_Be_dividePlain_133 : decode b_Be_dividePlain 133 = .ok (.iadd, 1) := by decide +kernel
theorem d_Be_dividePlain_134 : decode b_Be_dividePlain 134 = .ok (.lload 10, 2) := by decide +kernel
theorem d_Be_dividePlain_136 : decode b_Be_dividePlain 136 = .ok (.l2i, 1) := by decide +kernel
theorem d_Be_dividePlain_137 : decode b_Be_dividePlain 137 = .ok (.iastore, 1) := by decide +kernel
theorem d_Be_dividePlain_138 : decode b_Be_dividePlain 138 = .ok (.aload_n 0, 1) := by decide +kernel
theorem d_Be_dividePlain_139 : decode b_Be_dividePlain 139 = .ok (.getfield 11, 3) := by decide +kernel
theorem d_Be_dividePlain_142 : decode b_Be_dividePlain 142 = .ok (.iload_n 1, 1) := by decide +kernel
theorem d_Be_dividePlain_143 : decode b_Be_dividePlain 143 = .ok (.iload 7, 2) := by decide +kernel
theorem d_Be_dividePlain_145 : decode b_Be_dividePlain 145 = .ok (.iadd, 1) := by decide +kernel
theorem d_Be_dividePlain_146 : decode b_Be_dividePlain 146 = .ok (.lload 8, 2) := by decide +kernel
theorem d_Be_dividePlain_148 : decode b_Be_dividePlain 148 = .ok (.l2i, 1) := by decide +kernel
theorem d_Be_dividePlain_149 : decode b_Be_dividePlain 149 = .ok (.iastore, 1) := by decide +kernel
theorem d_Be_dividePlain_150 : decode b_Be_dividePlain 150 = .ok (.iinc 7 (-1), 3) := by decide +kernel
theorem d_Be_dividePlain_153 : decode b_Be_dividePlain 153 = .ok (.goto (-113), 3) := by decide +kernel
theorem d_Be_dividePlain_156 : decode b_Be_dividePlain 156 = .ok (.iload 6, 2) := by decide +kernel
theorem d_Be_dividePlain_158 : decode b_Be_dividePlain 158 = .ok (.ireturn, 1) := by decide +kernel
theorem d_Be_isNotLess_0 : decode b_Be_isNotLess 0 = .ok (.iload_n 3, 1) := by decide +kernel
theorem d_Be_isNotLess_1 : decode b_Be_isNotLess 1 = .ok (.iconst 1, 1) := by decide +kernel
theorem d_Be_isNotLess_2 : decode b_Be_isNotLess 2 = .ok (.isub, 1) := by decide +kernel
theorem d_Be_isNotLess_3 : decode b_Be_isNotLess 3 = .ok (.istore 4, 2) := by decide +kernel
theorem d_Be_isNotLess_5 : decode b_Be_isNotLess 5 = .ok (.iload 4, 2) := by decide +kernel
theorem d_Be_isNotLess_7 : decode b_Be_isNotLess 7 = .ok (.ifCond .lt 68, 3) := by decide +kernel
theorem d_Be_isNotLess_10 : decode b_Be_isNotLess 10 = .ok (.aload_n 0, 1) := by decide +kernel
theorem d_Be_isNotLess_11 : decode b_Be_isNotLess 11 = .ok (.getfield 11, 3) := by decide +kernel
theorem d_Be_isNotLess_14 : decode b_Be_isNotLess 14 = .ok (.iload_n 1, 1) := by decide +kernel
theorem d_Be_isNotLess_15 : decode b_Be_isNotLess 15 = .ok (.iload 4, 2) := by decide +kernel
theorem d_Be_isNotLess_17 : decode b_Be_isNotLess 17 = .ok (.iadd, 1) := by decide +kernel
theorem d_Be_isNotLess_18 : decode b_Be_isNotLess 18 = .ok (.iaload, 1) := by decide +kernel
theorem d_Be_isNotLess_19 : decode b_Be_isNotLess 19 = .ok (.aload_n 0, 1) := by decide +kernel
theorem d_Be_isNotLess_20 : decode b_Be_isNotLess 20 = .ok (.getfield 11, 3) := by decide +kernel
theorem d_Be_isNotLess_23 : decode b_Be_isNotLess 23 = .ok (.iload_n 2, 1) := by decide +kernel
theorem d_Be_isNotLess_24 : decode b_Be_isNotLess 24 = .ok (.iload 4, 2) := by decide +kernel
theorem d_Be_isNotLess_26 : decode b_Be_isNotLess 26 = .ok (.iadd, 1) := by decide +kernel
theorem d_Be_isNotLess_27 : decode b_Be_isNotLess 27 = .ok (.iaload, 1) := by decide +kernel
theorem d_Be_isNotLess_28 : decode b_Be_isNotLess 28 = .ok (.if_icmp .eq 41, 3) := by decide +kernel
theorem d_Be_isNotLess_31 : decode b_Be_isNotLess 31 = .ok (.aload_n 0, 1) := by decide +kernel
theorem d_Be_isNotLess_32 : decode b_Be_isNotLess 32 = .ok (.getfield 11, 3) := by decide +kernel
theorem d_Be_isNotLess_35 : decode b_Be_isNotLess 35 = .ok (.iload_n 1, 1) := by decide +kernel
theorem d_Be_isNotLess_36 : decode b_Be_isNotLess 36 = .ok (.iload 4, 2) := by decide +kernel
theorem d_Be_isNotLess_38 : decode b_Be_isNotLess 38 = .ok (.iadd, 1) := by decide +kernel
theorem d_Be_isNotLess_39 : decode b_Be_isNotLess 39 = .ok (.iaload, 1) := by decide +kernel
theorem d_Be_isNotLess_40 : decode b_Be_isNotLess 40 = .ok (.i2l, 1) := by decide +kernel
theorem d_Be_isNotLess_41 : decode b_Be_isNotLess 41 = .ok (.ldc2_w 99, 3) := by decide +kernel
theorem d_Be_isNotLess_44 : decode b_Be_isNotLess 44 = .ok (.land, 1) := by decide +kernel
theorem d_Be_isNotLess_45 : decode b_Be_isNotLess 45 = .ok (.aload_n 0, 1) := by decide +kernel
theorem d_Be_isNotLess_46 : decode b_Be_isNotLess 46 = .ok (.getfield 11, 3) := by decide +kernel
theorem d_Be_isNotLess_49 : decode b_Be_isNotLess 49 = .ok (.iload_n 2, 1) := by decide +kernel
theorem d_Be_isNotLess_50 : decode b_Be_isNotLess 50 = .ok (.iload 4, 2) := by decide +kernel
theorem d_Be_isNotLess_52 : decode b_Be_isNotLess 52 = .ok (.iadd, 1) := by decide +kernel
theorem d_Be_isNotLess_53 : decode b_Be_isNotLess 53 = .ok (.iaload, 1) := by decide +kernel
theorem d_Be_isNotLess_54 : decode b_Be_isNotLess 54 = .ok (.i2l, 1) := by decide +kernel
theorem d_Be_isNotLess_55 : decode b_Be_isNotLess 55 = .ok (.ldc2_w 99, 3) := by decide +kernel
theorem d_Be_isNotLess_58 : decode b_Be_isNotLess 58 = .ok (.land, 1) := by decide +kernel
theorem d_Be_isNotLess_59 : decode b_Be_isNotLess 59 = .ok (.lcmp, 1) := by decide +kernel
theorem d_Be_isNotLess_60 : decode b_Be_isNotLess 60 = .ok (.ifCond .le 7, 3) := by decide +kernel
theorem d_Be_isNotLess_63 : decode b_Be_isNotLess 63 = .ok (.iconst 1, 1) := by decide +kernel
theorem d_Be_isNotLess_64 : decode b_Be_isNotLess 64 = .ok (.goto 4, 3) := by decide +kernel
theorem d_Be_isNotLess_67 : decode b_Be_isNotLess 67 = .ok (.iconst 0, 1) := by decide +kernel
theorem d_Be_isNotLess_68 : decode b_Be_isNotLess 68 = .ok (.ireturn, 1) := by decide +kernel
theorem d_Be_isNotLess_69 : decode b_Be_isNotLess 69 = .ok (.iinc 4 (-1), 3) := by decide +kernel
theorem d_Be_isNotLess_72 : decode b_Be_isNotLess 72 = .ok (.goto (-67), 3) := by decide +kernel
theorem d_Be_isNotLess_75 : decode b_Be_isNotLess 75 = .ok (.iconst 1, 1) := by decide +kernel
theorem d_Be_isNotLess_76 : decode b_Be_isNotLess 76 = .ok (.ireturn, 1) := by decide +kernel
theorem d_Be_guessWord_0 : decode b_Be_guessWord 0 = .ok (.aload_n 0, 1) := by decide +kernel
theorem d_Be_guessWord_1 : decode b_Be_guessWord 1 = .ok (.getfield 11, 3) := by decide +kernel
theorem d_Be_guessWord_4 : decode b_Be_guessWord 4 = .ok (.iload_n 1, 1) := by decide +kernel
theorem d_Be_guessWord_5 : decode b_Be_guessWord 5 = .ok (.iload_n 3, 1) := by decide +kernel
theorem d_Be_guessWord_6 : decode b_Be_guessWord 6 = .ok (.iadd, 1) := by decide +kernel
theorem d_Be_guessWord_7 : decode b_Be_guessWord 7 = .ok (.iaload, 1) := by decide +kernel
theorem d_Be_guessWord_8 : decode b_Be_guessWord 8 = .ok (.i2l, 1) := by decide +kernel
theorem d_Be_guessWord_9 : decode b_Be_guessWord 9 = .ok (.ldc2_w 99, 3) := by decide +kernel
theorem d_Be_guessWord_12 : decode b_Be_guessWord 12 = .ok (.land, 1) := by decide +kernel
theorem d_Be_guessWord_13 : decode b_Be_guessWord 13 = .ok (.lstore 4, 2) := by decide +kernel
theorem d_Be_guessWord_15 : decode b_Be_guessWord 15 = .ok (.lload 4, 2) := by decide +kernel
theorem d_Be_guessWord_17 : decode b_Be_guessWord 17 = .ok (.bipush 32, 2) := by decide +kernel
theorem d_Be_guessWord_19 : decode b_Be_guessWord 19 = .ok (.lshl, 1) := by decide +kernel
theorem d_Be_guessWord_20 : decode b_Be_guessWord 20 = .ok (.aload_n 0, 1) := by decide +kernel
theorem d_Be_guessWord_21 : decode b_Be_guessWord 21 = .ok (.getfield 11, 3) := by decide +kernel
theorem d_Be_guessWord_24 : decode b_Be_guessWord 24 = .ok (.iload_n 1, 1) := by decide +kernel
theorem d_Be_guessWord_25 : decode b_Be_guessWord 25 = .ok (.iload_n 3, 1) := by decide +kernel
theorem d_Be_guessWord_26 : decode b_Be_guessWord 26 = .ok (.iadd, 1) := by decide +kernel
theorem d_Be_guessWord_27 : decode b_Be_guessWord 27 = .ok (.iconst 1, 1) := by decide +kernel
theorem d_Be_guessWord_28 : decode b_Be_guessWord 28 = .ok (.isub, 1) := by decide +kernel
theorem d_Be_guessWord_29 : decode b_Be_guessWord 29 = .ok (.iaload, 1) := by decide +kernel
theorem d_Be_guessWord_30 : decode b_Be_guessWord 30 = .ok (.i2l, 1) := by decide +kernel
theorem d_Be_guessWord_31 : decode b_Be_guessWord 31 = .ok (.ldc2_w 99, 3) := by decide +kernel
theorem d_Be_guessWord_34 : decode b_Be_guessWord 34 = .ok (.land, 1) := by decide +kernel
theorem d_Be_guessWord_35 : decode b_Be_guessWord 35 = .ok (.lor, 1) := by decide +kernel
theorem d_Be_guessWord_36 : decode b_Be_guessWord 36 = .ok (.lstore 6, 2) := by decide +kernel
theorem d_Be_guessWord_38 : decode b_Be_guessWord 38 = .ok (.aload_n 0, 1) := by decide +kernel
theorem d_Be_guessWord_39 : decode b_Be_guessWord 39 = .ok (.getfield 11, 3) := by decide +kernel
theorem d_Be_guessWord_42 : decode b_Be_guessWord 42 = .ok (.iload_n 2, 1) := by decide +kernel
theorem d_Be_guessWord_43 : decode b_Be_guessWord 43 = .ok (.iload_n 3, 1) := by decide +kernel
theorem d_Be_guessWord_44 : decode b_Be_guessWord 44 = .ok (.iadd, 1) := by decide +kernel
theorem d_Be_guessWord_45 : decode b_Be_guessWord 45 = .ok (.iconst 1, 1) := by decide +kernel
theorem d_Be_guessWord_46 : decode b_Be_guessWord 46 = .ok (.isub, 1) := by decide +kernel
theorem d_Be_guessWord_47 : decode b_Be_guessWord 47 = .ok (.iaload, 1) := by decide +kernel
theorem d_Be_guessWord_48 : decode b_Be_guessWord 48 = .ok (.i2l, 1) := by decide +kernel
theorem d_Be_guessWord_49 : decode b_Be_guessWord 49 = .ok (.ldc2_w 99, 3) := by decide +kernel
theorem d_Be_guessWord_52 : decode b_Be_guessWord 52 = .ok (.land, 1) := by decide +kernel
theorem d_Be_guessWord_53 : decode b_Be_guessWord 53 = .ok (.lstore 8, 2) := by decide +kernel
theorem d_Be_guessWord_55 : decode b_Be_guessWord 55 = .ok (.lload 4, 2) := by decide +kernel
theorem d_Be_guessWord_57 : decode b_Be_guessWord 57 = .ok (.lload 8, 2) := by decide +kernel
theorem d_Be_guessWord_59 : decode b_Be_guessWord 59 = .ok (.lcmp, 1) := by decide +kernel
theorem d_Be_guessWord_60 : decode b_Be_guessWord 60 = .ok (.ifCond .ge 13, 3) := by decide +kernel
theorem d_Be_guessWord_63 : decode b_Be_guessWord 63 = .ok (.lload 6, 2) := by decide +kernel
theorem d_Be_guessWord_65 : decode b_Be_guessWord 65 = .ok (.lload 8, 2) := by decide +kernel
theorem d_Be_guessWord_67 : decode b_Be_guessWord 67 = .ok (.invokestatic 138, 3) := by decide +kernel
theorem d_Be_guessWord_70 : decode b_Be_guessWord 70 = .ok (.goto 6, 3) := by decide +kernel
theorem d_Be_guessWord_73 : decode b_Be_guessWord 73 = .ok (.ldc2_w 99, 3) := by decide +kernel
theorem d_Be_guessWord_76 : decode b_Be_guessWord 76 = .ok (.lstore 10, 2) := by decide +kernel
theorem d_Be_guessWord_78 : decode b_Be_guessWord 78 = .ok (.iload_n 3, 1) := by decide +kernel
theorem d_Be_guessWord_79 : decode b_Be_guessWord 79 = .ok (.iconst 1, 1) := by decide +kernel
theorem d_Be_guessWord_80 : decode b_Be_guessWord 80 = .ok (.if_icmp .ne 6, 3) := by decide +kernel
theorem d_Be_guessWord_83 : decode b_Be_guessWord 83 = .ok (.lload 10, 2) := by decide +kernel
theorem d_Be_guessWord_85 : decode b_Be_guessWord 85 = .ok (.lreturn, 1) := by decide +kernel
theorem d_Be_guessWord_86 : decode b_Be_guessWord 86 = .ok (.lload 6, 2) := by decide +kernel
theorem d_Be_guessWord_88 : decode b_Be_guessWord 88 = .ok (.lload 10, 2) := by decide +kernel
theorem d_Be_guessWord_90 : decode b_Be_guessWord 90 = .ok (.lload 8, 2) := by decide +kernel
theorem d_Be_guessWord_92 : decode b_Be_guessWord 92 = .ok (.lmul, 1) := by decide +kernel
theorem d_Be_guessWord_93 : decode b_Be_guessWord 93 = .ok (.lsub, 1) := by decide +kernel
theorem d_Be_guessWord_94 : decode b_Be_guessWord 94 = .ok (.lstore 12, 2) := by decide +kernel
theorem d_Be_guessWord_96 : decode b_Be_guessWord 96 = .ok (.lload 10, 2) := by decide +kernel
theorem d_Be_guessWord_98 : decode b_Be_guessWord 98 = .ok (.aload_n 0, 1) := by decide +kernel
theorem d_Be_guessWord_99 : decode b_Be_guessWord 99 = .ok (.getfield 11, 3) := by decide +kernel
theorem d_Be_guessWord_102 : decode b_Be_guessWord 102 = .ok (.iload_n 2, 1) := by decide +kernel
theorem d_Be_guessWord_103 : decode b_Be_guessWord 103 = .ok (.iload_n 3, 1) := by decide +kernel
theorem d_Be_guessWord_104 : decode b_Be_guessWord 104 = .ok (.iadd, 1) := by decide +kernel
theorem d_Be_guessWord_105 : decode b_Be_guessWord 105 = .ok (.iconst 2, 1) := by decide +kernel
theorem d_Be_guessWord_106 : decode b_Be_guessWord 106 = .ok (.isub, 1) := by decide +kernel
theorem d_Be_guessWord_107 : decode b_Be_guessWord 107 = .ok (.iaload, 1) := by decide +kernel
theorem d_Be_guessWord_108 : decode b_Be_guessWord 108 = .ok (.i2l, 1) := by decide +kernel
theorem d_Be_guessWord_109 : decode b_Be_guessWord 109 = .ok (.ldc2_w 99, 3) := by decide +kernel
theorem d_Be_guessWord_112 : decode b_Be_guessWord 112 = .ok (.land, 1) := by decide +kernel
theorem d_Be_guessWord_113 : decode b_Be_guessWord 113 = .ok (.lmul, 1) := by decide +kernel
theorem d_Be_guessWord_114 : decode b_Be_guessWord 114 = .ok (.lstore 14, 2) := by decide +kernel
theorem d_Be_guessWord_116 : decode b_Be_guessWord 116 = .ok (.lload 14, 2) := by decide +kernel
theorem d_Be_guessWord_118 : decode b_Be_guessWord 118 = .ok (.bipush 32, 2) := by decide +kernel
theorem d_Be_guessWord_120 : decode b_Be_guessWord 120 = .ok (.lushr, 1) := by decide +kernel
theorem d_Be_guessWord_121 : decode b_Be_guessWord 121 = .ok (.lload 12, 2) := by decide +kernel
theorem d_Be_guessWord_123 : decode b_Be_guessWord 123 = .ok (.lcmp, 1) := by decide +kernel
theorem d_Be_guessWord_124 : decode b_Be_guessWord 124 = .ok (.ifCond .le 10, 3) := by decide +kernel
theorem d_Be_guessWord_127 : decode b_Be_guessWord 127 = .ok (.lload 10, 2) := by decide +kernel
theorem d_Be_guessWord_129 : decode b_Be_guessWord 129 = .ok (.lconst 1, 1) := by decide +kernel
theorem d_Be_guessWord_130 : decode b_Be_guessWord 130 = .ok (.lsub, 1) := by decide +kernel
theorem d_Be_guessWord_131 : decode b_Be_guessWord 131 = .ok (.goto 5, 3) := by decide +kernel
theorem d_Be_guessWord_134 : decode b_Be_guessWord 134 = .ok (.lload 10, 2) := by decide +kernel
theorem d_Be_guessWord_136 : decode b_Be_guessWord 136 = .ok (.lreturn, 1) := by decide +kernel
theorem d_Be_shareOf_0 : decode b_Be_shareOf 0 = .ok (.lload_n 0, 1) := by decide +kernel
theorem d_Be_shareOf_1 : decode b_Be_shareOf 1 = .ok (.iconst 1, 1) := by decide +kernel
theorem d_Be_shareOf_2 : decode b_Be_shareOf 2 = .ok (.lushr, 1) := by decide +kernel
theorem d_Be_shareOf_3 : decode b_Be_shareOf 3 = .ok (.lload_n 2, 1) := by decide +kernel
theorem d_Be_shareOf_4 : decode b_Be_shareOf 4 = .ok (.ldiv, 1) := by decide +kernel
theorem d_Be_shareOf_5 : decode b_Be_shareOf 5 = .ok (.iconst 1, 1) := by decide +kernel
theorem d_Be_shareOf_6 : decode b_Be_shareOf 6 = .ok (.lshl, 1) := by decide +kernel
theorem d_Be_shareOf_7 : decode b_Be_shareOf 7 = .ok (.lstore 4, 2) := by decide +kernel
theorem d_Be_shareOf_9 : decode b_Be_shareOf 9 = .ok (.lload_n 0, 1) := by decide +kernel
theorem d_Be_shareOf_10 : decode b_Be_shareOf 10 = .ok (.lload 4, 2) := by decide +kernel
theorem d_Be_shareOf_12 : decode b_Be_shareOf 12 = .ok (.lload_n 2, 1) := by decide +kernel
theorem d_Be_shareOf_13 : decode b_Be_shareOf 13 = .ok (.lmul, 1) := by decide +kernel
theorem d_Be_shareOf_14 : decode b_Be_shareOf 14 = .ok (.lsub, 1) := by decide +kernel
theorem d_Be_shareOf_15 : decode b_Be_shareOf 15 = .ok (.lload_n 2, 1) := by decide +kernel
theorem d_Be_shareOf_16 : decode b_Be_shareOf 16 = .ok (.lcmp, 1) := by decide +kernel
theorem d_Be_shareOf_17 : decode b_Be_shareOf 17 = .ok (.ifCond .ge 8, 3) := by decide +kernel
theorem d_Be_shareOf_20 : decode b_Be_shareOf 20 = .ok (.lload 4, 2) := by decide +kernel
theorem d_Be_shareOf_22 : decode b_Be_shareOf 22 = .ok (.goto 7, 3) := by decide +kernel
theorem d_Be_shareOf_25 : decode b_Be_shareOf 25 = .ok (.lload 4, 2) := by decide +kernel
theorem d_Be_shareOf_27 : decode b_Be_shareOf 27 = .ok (.lconst 1, 1) := by decide +kernel
theorem d_Be_shareOf_28 : decode b_Be_shareOf 28 = .ok (.ladd, 1) := by decide +kernel
theorem d_Be_shareOf_29 : decode b_Be_shareOf 29 = .ok (.lreturn, 1) := by decide +kernel
theorem d_Be_takeProduct_0 : decode b_Be_takeProduct 0 = .ok (.aload_n 0, 1) := by decide +kernel
theorem d_Be_takeProduct_1 : decode b_Be_takeProduct 1 = .ok (.getfield 11, 3) := by decide +kernel
theorem d_Be_takeProduct_4 : decode b_Be_takeProduct 4 = .ok (.astore 6, 2) := by decide +kernel
theorem d_Be_takeProduct_6 : decode b_Be_takeProduct 6 = .ok (.iload_n 2, 1) := by decide +kernel
theorem d_Be_takeProduct_7 : decode b_Be_takeProduct 7 = .ok (.iload_n 3, 1) := by decide +kernel
theorem d_Be_takeProduct_8 : decode b_Be_takeProduct 8 = .ok (.iadd, 1) := by decide +kernel
theorem d_Be_takeProduct_9 : decode b_Be_takeProduct 9 = .ok (.istore 7, 2) := by decide +kernel
theorem d_Be_takeProduct_11 : decode b_Be_takeProduct 11 = .ok (.iload_n 1, 1) := by decide +kernel
theorem d_Be_takeProduct_12 : decode b_Be_takeProduct 12 = .ok (.istore 8, 2) := by decide +kernel
theorem d_Be_takeProduct_14 : decode b_Be_takeProduct 14 = .ok (.lconst 0, 1) := by decide +kernel
theorem d_Be_takeProduct_15 : decode b_Be_takeProduct 15 = .ok (.lstore 9, 2) := by decide +kernel
theorem d_Be_takeProduct_17 : decode b_Be_takeProduct 17 = .ok (.iload_n 2, 1) := by decide +kernel
theorem d_Be_takeProduct_18 : decode b_Be_takeProduct 18 = .ok (.istore 11, 2) := by decide +kernel
theorem d_Be_takeProduct_20 : decode b_Be_takeProduct 20 = .ok (.iload 11, 2) := by decide +kernel
theorem d_Be_takeProduct_22 : decode b_Be_takeProduct 22 = .ok (.iload 7, 2) := by decide +kernel
theorem d_Be_takeProduct_24 : decode b_Be_takeProduct 24 = .ok (.if_icmp .ge 70, 3) := by decide +kernel
theorem d_Be_takeProduct_27 : decode b_Be_takeProduct 27 = .ok (.lload 9, 2) := by decide +kernel
theorem d_Be_takeProduct_29 : decode b_Be_takeProduct 29 = .ok (.aload 6, 2) := by decide +kernel
theorem d_Be_takeProduct_31 : decode b_Be_takeProduct 31 = .ok (.iload 11, 2) := by decide +kernel
theorem d_Be_takeProduct_33 : decode b_Be_takeProduct 33 = .ok (.iaload, 1) := by decide +kernel
theorem d_Be_takeProduct_34 : decode b_Be_takeProduct 34 = .ok (.i2l, 1) := by decide +kernel
theorem d_Be_takeProduct_35 : decode b_Be_takeProduct 35 = .ok (.ldc2_w 99, 3) := by decide +kernel
theorem d_Be_takeProduct_38 : decode b_Be_takeProduct 38 = .ok (.land, 1) := by decide +kernel
theorem d_Be_takeProduct_39 : decode b_Be_takeProduct 39 = .ok (.lload 4, 2) := by decide +kernel
theorem d_Be_takeProduct_41 : decode b_Be_takeProduct 41 = .ok (.lmul, 1) := by decide +kernel
theorem d_Be_takeProduct_42 : decode b_Be_takeProduct 42 = .ok (.ladd, 1) := by decide +kernel
theorem d_Be_takeProduct_43 : decode b_Be_takeProduct 43 = .ok (.lstore 9, 2) := by decide +kernel
theorem d_Be_takeProduct_45 : decode b_Be_takeProduct 45 = .ok (.aload 6, 2) := by decide +kernel
theorem d_Be_takeProduct_47 : decode b_Be_takeProduct 47 = .ok (.iload 8, 2) := by decide +kernel
theorem d_Be_takeProduct_49 : decode b_Be_takeProduct 49 = .ok (.iaload, 1) := by decide +kernel
theorem d_Be_takeProduct_50 : decode b_Be_takeProduct 50 = .ok (.i2l, 1) := by decide +kernel
theorem d_Be_takeProduct_51 : decode b_Be_takeProduct 51 = .ok (.ldc2_w 99, 3) := by decide +kernel
theorem d_Be_takeProduct_54 : decode b_Be_takeProduct 54 = .ok (.land, 1) := by decide +kernel
theorem d_Be_takeProduct_55 : decode b_Be_takeProduct 55 = .ok (.lload 9, 2) := by decide +kernel
theorem d_Be_takeProduct_57 : decode b_Be_takeProduct 57 = .ok (.ldc2_w 99, 3) := by decide +kernel
theorem d_Be_takeProduct_60 : decode b_Be_takeProduct 60 = .ok (.land, 1) := by decide +kernel
theorem d_Be_takeProduct_61 : decode b_Be_takeProduct 61 = .ok (.lsub, 1) := by decide +kernel
theorem d_Be_takeProduct_62 : decode b_Be_takeProduct 62 = .ok (.lstore 12, 2) := by decide +kernel
theorem d_Be_takeProduct_64 : decode b_Be_takeProduct 64 = .ok (.aload 6, 2) := by decide +kernel
theorem d_Be_takeProduct_66 : decode b_Be_takeProduct 66 = .ok (.iload 8, 2) := by decide +kernel
theorem d_Be_takeProduct_68 : decode b_Be_takeProduct 68 = .ok (.lload 12, 2) := by decide +kernel
theorem d_Be_takeProduct_70 : decode b_Be_takeProduct 70 = .ok (.l2i, 1) := by decide +kernel
theorem d_Be_takeProduct_71 : decode b_Be_takeProduct 71 = .ok (.iastore, 1) := by decide +kernel
theorem d_Be_takeProduct_72 : decode b_Be_takeProduct 72 = .ok (.lload 9, 2) := by decide +kernel
theorem d_Be_takeProduct_74 : decode b_Be_takeProduct 74 = .ok (.bipush 32, 2) := by decide +kernel
theorem d_Be_takeProduct_76 : decode b_Be_takeProduct 76 = .ok (.lushr, 1) := by decide +kernel
theorem d_Be_takeProduct_77 : decode b_Be_takeProduct 77 = .ok (.lload 12, 2) := by decide +kernel
theorem d_Be_takeProduct_79 : decode b_Be_takeProduct 79 = .ok (.bipush 63, 2) := by decide +kernel
theorem d_Be_takeProduct_81 : decode b_Be_takeProduct 81 = .ok (.lushr, 1) := by decide +kernel
theorem d_Be_takeProduct_82 : decode b_Be_takeProduct 82 = .ok (.ladd, 1) := by decide +kernel
theorem d_Be_takeProduct_83 : decode b_Be_takeProduct 83 = .ok (.lstore 9, 2) := by decide +kernel
theorem d_Be_takeProduct_85 : decode b_Be_takeProduct 85 = .ok (.iinc 8 1, 3) := by decide +kernel
theorem d_Be_takeProduct_88 : decode b_Be_takeProduct 88 = .ok (.iinc 11 1, 3) := by decide +kernel
theorem d_Be_takeProduct_91 : decode b_Be_takeProduct 91 = .ok (.goto (-71), 3) := by decide +kernel
theorem d_Be_takeProduct_94 : decode b_Be_takeProduct 94 = .ok (.lload 9, 2) := by decide +kernel
theorem d_Be_takeProduct_96 : decode b_Be_takeProduct 96 = .ok (.lreturn, 1) := by decide +kernel
theorem d_Be_divideByHead_0 : decode b_Be_divideByHead 0 = .ok (.iload 4, 2) := by decide +kernel
theorem d_Be_divideByHead_2 : decode b_Be_divideByHead 2 = .ok (.iload 5, 2) := by decide +kernel
theorem d_Be_divideByHead_4 : decode b_Be_divideByHead 4 = .ok (.isub, 1) := by decide +kernel
theorem d_Be_divideByHead_5 : decode b_Be_divideByHead 5 = .ok (.istore 8, 2) := by decide +kernel
theorem d_Be_divideByHead_7 : decode b_Be_divideByHead 7 = .ok (.aload_n 0, 1) := by decide +kernel
theorem d_Be_divideByHead_8 : decode b_Be_divideByHead 8 = .ok (.iload_n 1, 1) := by decide +kernel
theorem d_Be_divideByHead_9 : decode b_Be_divideByHead 9 = .ok (.iload_n 2, 1) := by decide +kernel
theorem d_Be_divideByHead_10 : decode b_Be_divideByHead 10 = .ok (.iload 8, 2) := by decide +kernel
theorem d_Be_divideByHead_12 : decode b_Be_divideByHead 12 = .ok (.iadd, 1) := by decide +kernel
theorem d_Be_divideByHead_13 : decode b_Be_divideByHead 13 = .ok (.iload_n 3, 1) := by decide +kernel
theorem d_Be_divideByHead_14 : decode b_Be_divideByHead 14 = .ok (.iload 8, 2) := by decide +kernel
theorem d_Be_divideByHead_16 : decode b_Be_divideByHead 16 = .ok (.iadd, 1) := by decide +kernel
theorem d_Be_divideByHead_17 : decode b_Be_divideByHead 17 = .ok (.iload 5, 2) := by decide +kernel
theorem d_Be_divideByHead_19 : decode b_Be_divideByHead 19 = .ok (.iload 5, 2) := by decide +kernel
theorem d_Be_divideByHead_21 : decode b_Be_divideByHead 21 = .ok (.iload 6, 2) := by decide +kernel
theorem d_Be_divideByHead_23 : decode b_Be_divideByHead 23 = .ok (.iload 7, 2) := by decide +kernel
theorem d_Be_divideByHead_25 : decode b_Be_divideByHead 25 = .ok (.invokevirtual 68, 3) := by decide +kernel
theorem d_Be_divideByHead_28 : decode b_Be_divideByHead 28 = .ok (.istore 9, 2) := by decide +kernel
theorem d_Be_divideByHead_30 : decode b_Be_divideByHead 30 = .ok (.aload_n 0, 1) := by decide +kernel
theorem d_Be_divideByHead_31 : decode b_Be_divideByHead 31 = .ok (.iload 6, 2) := by decide +kernel
theorem d_Be_divideByHead_33 : decode b_Be_divideByHead 33 = .ok (.iload_n 1, 1) := by decide +kernel
theorem d_Be_divideByHead_34 : decode b_Be_divideByHead 34 = .ok (.iload 5, 2) := by decide +kernel
theorem d_Be_divideByHead_36 : decode b_Be_divideByHead 36 = .ok (.iload_n 3, 1) := by decide +kernel
theorem d_Be_divideByHead_37 : decode b_Be_divideByHead 37 = .ok (.iload 8, 2) := by decide +kernel
theorem d_Be_divideByHead_39 : decode b_Be_divideByHead 39 = .ok (.iload 6, 2) := by decide +kernel
theorem d_Be_divideByHead_41 : decode b_Be_divideByHead 41 = .ok (.iload 4, 2) := by decide +kernel
theorem d_Be_divideByHead_43 : decode b_Be_divideByHead 43 = .ok (.iadd, 1) := by decide +kernel
theorem d_Be_divideByHead_44 : decode b_Be_divideByHead 44 = .ok (.bipush 20, 2) := by decide +kernel
theorem d_Be_divideByHead_46 : decode b_Be_divideByHead 46 = .ok (.invokevirtual 30, 3) := by decide +kernel
theorem d_Be_divideByHead_49 : decode b_Be_divideByHead 49 = .ok (.aload_n 0, 1) := by decide +kernel
theorem d_Be_divideByHead_50 : decode b_Be_divideByHead 50 = .ok (.iload_n 2, 1) := by decide +kernel
theorem d_Be_divideByHead_51 : decode b_Be_divideByHead 51 = .ok (.iload 4, 2) := by decide +kernel
theorem d_Be_divideByHead_53 : decode b_Be_divideByHead 53 = .ok (.iload 6, 2) := by decide +kernel
theorem d_Be_divideByHead_55 : decode b_Be_divideByHead 55 = .ok (.iload 4, 2) := by decide +kernel
theorem d_Be_divideByHead_57 : decode b_Be_divideByHead 57 = .ok (.invokevirtual 113, 3) := by decide +kernel
theorem d_Be_divideByHead_60 : decode b_Be_divideByHead 60 = .ok (.istore 10, 2) := by decide +kernel
theorem d_Be_divideByHead_62 : decode b_Be_divideByHead 62 = .ok (.iload 9, 2) := by decide +kernel
theorem d_Be_divideByHead_64 : decode b_Be_divideByHead 64 = .ok (.ifCond .eq 21, 3) := by decide +kernel
theorem d_Be_divideByHead_67 : decode b_Be_divideByHead 67 = .ok (.iload 10, 2) := by decide +kernel
theorem d_Be_divideByHead_69 : decode b_Be_divideByHead 69 = .ok (.aload_n 0, 1) := by decide +kernel
theorem d_Be_divideByHead_70 : decode b_Be_divideByHead 70 = .ok (.iload_n 2, 1) := by decide +kernel
theorem d_Be_divideByHead_71 : decode b_Be_divideByHead 71 = .ok (.iload 5, 2) := by decide +kernel
theorem d_Be_divideByHead_73 : decode b_Be_divideByHead 73 = .ok (.iadd, 1) := by decide +kernel
theorem d_Be_divideByHead_74 : decode b_Be_divideByHead 74 = .ok (.iload 8, 2) := by decide +kernel
theorem d_Be_divideByHead_76 : decode b_Be_divideByHead 76 = .ok (.iload_n 3, 1) := by decide +kernel
theorem d_Be_divideByHead_77 : decode b_Be_divideByHead 77 = .ok (.iload 8, 2) := by decide +kernel
theorem d_Be_divideByHead_79 : decode b_Be_divideByHead 79 = .ok (.invokevirtual 113, 3) := by decide +kernel
theorem d_Be_divideByHead_82 : decode b_Be_divideByHead 82 = .ok (.iadd, 1) := by decide +kernel
theorem d_Be_divideByHead_83 : decode b_Be_divideByHead 83 = .ok (.istore 10, 2) := by decide +kernel
theorem d_Be_divideByHead_85 : decode b_Be_divideByHead 85 = .ok (.iconst 0, 1) := by decide +kernel
theorem d_Be_divideByHead_86 : decode b_Be_divideByHead 86 = .ok (.istore 11, 2) := by decide +kernel
theorem d_Be_divideByHead_88 : decode b_Be_divideByHead 88 = .ok (.iload 11, 2) := by decide +kernel
theorem d_Be_divideByHead_90 : decode b_Be_divideByHead 90 = .ok (.iconst 4, 1) := by decide +kernel
theorem d_Be_divideByHead_91 : decode b_Be_divideByHead 91 = .ok (.if_icmp .ge 41, 3) := by decide +kernel
theorem d_Be_divideByHead_94 : decode b_Be_divideByHead 94 = .ok (.iload 10, 2) := by decide +kernel
theorem d_Be_divideByHead_96 : decode b_Be_divideByHead 96 = .ok (.ifCond .le 36, 3) := by decide +kernel
theorem d_Be_divideByHead_99 : decode b_Be_divideByHead 99 = .ok (.iload 9, 2) := by decide +kernel
theorem d_Be_divideByHead_101 : decode b_Be_divideByHead 101 = .ok (.aload_n 0, 1) := by decide +kernel
theorem d_Be_divideByHead_102 : decode b_Be_divideByHead 102 = .ok (.iload_n 1, 1) := by decide +kernel
theorem d_Be_divideByHead_103 : decode b_Be_divideByHead 103 = .ok (.iload 5, 2) := by decide +kernel
theorem d_Be_divideByHead_105 : decode b_Be_divideByHead 105 = .ok (.invokevirtual 123, 3) := by decide +kernel
theorem d_Be_divideByHead_108 : decode b_Be_divideByHead 108 = .ok (.isub, 1) := by decide +kernel
theorem d_Be_divideByHead_109 : decode b_Be_divideByHead 109 = .ok (.istore 9, 2) := by decide +kernel
theorem d_Be_divideByHead_111 : decode b_Be_divideByHead 111 = .ok (.iload 10, 2) := by decide +kernel
theorem d_Be_divideByHead_113 : decode b_Be_divideByHead 113 = .ok (.aload_n 0, 1) := by decide +kernel
theorem d_Be_divideByHead_114 : decode b_Be_divideByHead 114 = .ok (.iload_n 2, 1) := by decide +kernel
theorem d_Be_divideByHead_115 : decode b_Be_divideByHead 115 = .ok (.iload 4, 2) := by decide +kernel
theorem d_Be_divideByHead_117 : decode b_Be_divideByHead 117 = .ok (.iload_n 3, 1) := by decide +kernel
theorem d_Be_divideByHead_118 : decode b_Be_divideByHead 118 = .ok (.iload 4, 2) := by decide +kernel
theorem d_Be_divideByHead_120 : decode b_Be_divideByHead 120 = .ok (.invokevirtual 105, 3) := by decide +kernel
theorem d_Be_divideByHead_123 : decode b_Be_divideByHead 123 = .ok (.isub, 1) := by decide +kernel
theorem d_Be_divideByHead_124 : decode b_Be_divideByHead 124 = .ok (.istore 10, 2) := by decide +kernel
theorem d_Be_divideByHead_126 : decode b_Be_divideByHead 126 = .ok (.iinc 11 1, 3) := by decide +kernel
theorem d_Be_divideByHead_129 : decode b_Be_divideByHead 129 = .ok (.goto (-41), 3) := by decide +kernel
theorem d_Be_divideByHead_132 : decode b_Be_divideByHead 132 = .ok (.iload 9, 2) := by decide +kernel
theorem d_Be_divideByHead_134 : decode b_Be_divideByHead 134 = .ok (.ireturn, 1) := by decide +kernel
theorem d_Be_takeOne_0 : decode b_Be_takeOne 0 = .ok (.iload_n 1, 1) := by decide +kernel
theorem d_Be_takeOne_1 : decode b_Be_takeOne 1 = .ok (.istore_n 3, 1) := by decide +kernel
theorem d_Be_takeOne_2 : decode b_Be_takeOne 2 = .ok (.iload_n 3, 1) := by decide +kernel
theorem d_Be_takeOne_3 : decode b_Be_takeOne 3 = .ok (.iload_n 1, 1) := by decide +kernel
theorem d_Be_takeOne_4 : decode b_Be_takeOne 4 = .ok (.iload_n 2, 1) := by decide +kernel
theorem d_Be_takeOne_5 : decode b_Be_takeOne 5 = .ok (.iadd, 1) := by decide +kernel
theorem d_Be_takeOne_6 : decode b_Be_takeOne 6 = .ok (.if_icmp .ge 31, 3) := by decide +kernel
theorem d_Be_takeOne_9 : decode b_Be_takeOne 9 = .ok (.aload_n 0, 1) := by decide +kernel
theorem d_Be_takeOne_10 : decode b_Be_takeOne 10 = .ok (.getfield 11, 3) := by decide +kernel
theorem d_Be_takeOne_13 : decode b_Be_takeOne 13 = .ok (.iload_n 3, 1) := by decide +kernel
theorem d_Be_takeOne_14 : decode b_Be_takeOne 14 = .ok (.dup2, 1) := by decide +kernel
theorem d_Be_takeOne_15 : decode b_Be_takeOne 15 = .ok (.iaload, 1) := by decide +kernel
theorem d_Be_takeOne_16 : decode b_Be_takeOne 16 = .ok (.iconst 1, 1) := by decide +kernel
theorem d_Be_takeOne_17 : decode b_Be_takeOne 17 = .ok (.isub, 1) := by decide +kernel
theorem d_Be_takeOne_18 : decode b_Be_takeOne 18 = .ok (.iastore, 1) := by decide +kernel
theorem d_Be_takeOne_19 : decode b_Be_takeOne 19 = .ok (.aload_n 0, 1) := by decide +kernel
theorem d_Be_takeOne_20 : decode b_Be_takeOne 20 = .ok (.getfield 11, 3) := by decide +kernel
theorem d_Be_takeOne_23 : decode b_Be_takeOne 23 = .ok (.iload_n 3, 1) := by decide +kernel
theorem d_Be_takeOne_24 : decode b_Be_takeOne 24 = .ok (.iaload, 1) := by decide +kernel
theorem d_Be_takeOne_25 : decode b_Be_takeOne 25 = .ok (.iconst (-1), 1) := by decide +kernel
theorem d_Be_takeOne_26 : decode b_Be_takeOne 26 = .ok (.if_icmp .eq 5, 3) := by decide +kernel
theorem d_Be_takeOne_29 : decode b_Be_takeOne 29 = .ok (.iconst 0, 1) := by decide +kernel
theorem d_Be_takeOne_30 : decode b_Be_takeOne 30 = .ok (.ireturn, 1) := by decide +kernel
theorem d_Be_takeOne_31 : decode b_Be_takeOne 31 = .ok (.iinc 3 1, 3) := by decide +kernel
theorem d_Be_takeOne_34 : decode b_Be_takeOne 34 = .ok (.goto (-32), 3) := by decide +kernel
theorem d_Be_takeOne_37 : decode b_Be_takeOne 37 = .ok (.iconst 1, 1) := by decide +kernel
theorem d_Be_takeOne_38 : decode b_Be_takeOne 38 = .ok (.ireturn, 1) := by decide +kernel
theorem d_Be_putPower_0 : decode b_Be_putPower 0 = .ok (.iload_n 3, 1) := by decide +kernel
theorem d_Be_putPower_1 : decode b_Be_putPower 1 = .ok (.ifCond .ne 9, 3) := by decide +kernel
theorem d_Be_putPower_4 : decode b_Be_putPower 4 = .ok (.aload_n 1, 1) := by decide +kernel
theorem d_Be_putPower_5 : decode b_Be_putPower 5 = .ok (.lconst 1, 1) := by decide +kernel
theorem d_Be_putPower_6 : decode b_Be_putPower 6 = .ok (.invokevirtual 38, 3) := by decide +kernel
theorem d_Be_putPower_9 : decode b_Be_putPower 9 = .ok (.return_, 1) := by decide +kernel
theorem d_Be_putPower_10 : decode b_Be_putPower 10 = .ok (.aload_n 1, 1) := by decide +kernel
theorem d_Be_putPower_11 : decode b_Be_putPower 11 = .ok (.aload_n 2, 1) := by decide +kernel
theorem d_Be_putPower_12 : decode b_Be_putPower 12 = .ok (.invokevirtual 42, 3) := by decide +kernel
theorem d_Be_putPower_15 : decode b_Be_putPower 15 = .ok (.iload_n 3, 1) := by decide +kernel
theorem d_Be_putPower_16 : decode b_Be_putPower 16 = .ok (.invokestatic 46, 3) := by decide +kernel
theorem d_Be_putPower_19 : decode b_Be_putPower 19 = .ok (.iconst 2, 1) := by decide +kernel
theorem d_Be_putPower_20 : decode b_Be_putPower 20 = .ok (.isub, 1) := by decide +kernel
theorem d_Be_putPower_21 : decode b_Be_putPower 21 = .ok (.istore 4, 2) := by decide +kernel
theorem d_Be_putPower_23 : decode b_Be_putPower 23 = .ok (.iload 4, 2) := by decide +kernel
theorem d_Be_putPower_25 : decode b_Be_putPower 25 = .ok (.ifCond .lt 33, 3) := by decide +kernel
theorem d_Be_putPower_28 : decode b_Be_putPower 28 = .ok (.aload_n 0, 1) := by decide +kernel
theorem d_Be_putPower_29 : decode b_Be_putPower 29 = .ok (.aload_n 1, 1) := by decide +kernel
theorem d_Be_putPower_30 : decode b_Be_putPower 30 = .ok (.aload_n 1, 1) := by decide +kernel
theorem d_Be_putPower_31 : decode b_Be_putPower 31 = .ok (.aload_n 1, 1) := by decide +kernel
theorem d_Be_putPower_32 : decode b_Be_putPower 32 = .ok (.invokevirtual 50, 3) := by decide +kernel
theorem d_Be_putPower_35 : decode b_Be_putPower 35 = .ok (.iload_n 3, 1) := by decide +kernel
theorem d_Be_putPower_36 : decode b_Be_putPower 36 = .ok (.iload 4, 2) := by decide +kernel
theorem d_Be_putPower_38 : decode b_Be_putPower 38 = .ok (.ishr, 1) := by decide +kernel
theorem d_Be_putPower_39 : decode b_Be_putPower 39 = .ok (.iconst 1, 1) := by decide +kernel
theorem d_Be_putPower_40 : decode b_Be_putPower 40 = .ok (.iand, 1) := by decide +kernel
theorem d_Be_putPower_41 : decode b_Be_putPower 41 = .ok (.iconst 1, 1) := by decide +kernel
theorem d_Be_putPower_42 : decode b_Be_putPower 42 = .ok (.if_icmp .ne 10, 3) := by decide +kernel
theorem d_Be_putPower_45 : decode b_Be_putPower 45 = .ok (.aload_n 0, 1) := by decide +kernel
theorem d_Be_putPower_46 : decode b_Be_putPower 46 = .ok (.aload_n 1, 1) := by decide +kernel
theorem d_Be_putPower_47 : decode b_Be_putPower 47 = .ok (.aload_n 1, 1) := by decide +kernel
theorem d_Be_putPower_48 : decode b_Be_putPower 48 = .ok (.aload_n 2, 1) := by decide +kernel
theorem d_Be_putPower_49 : decode b_Be_putPower 49 = .ok (.invokevirtual 50, 3) := by decide +kernel
theorem d_Be_putPower_52 : decode b_Be_putPower 52 = .ok (.iinc 4 (-1), 3) := by decide +kernel
theorem d_Be_putPower_55 : decode b_Be_putPower 55 = .ok (.goto (-32), 3) := by decide +kernel
theorem d_Be_putPower_58 : decode b_Be_putPower 58 = .ok (.return_, 1) := by decide +kernel
