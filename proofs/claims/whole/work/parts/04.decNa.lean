/-! DECODE ROWS of Na (by program) -/
theorem d_Na_init_0 : decode b_Na_init 0 = .ok (.aload_n 0, 1) := by decide +kernel
theorem d_Na_init_1 : decode b_Na_init 1 = .ok (.invokespecial 3, 3) := by decide +kernel
theorem d_Na_init_4 : decode b_Na_init 4 = .ok (.aload_n 0, 1) := by decide +kernel
theorem d_Na_init_5 : decode b_Na_init 5 = .ok (.sipush 6272, 3) := by decide +kernel
theorem d_Na_init_8 : decode b_Na_init 8 = .ok (.newarray .int, 2) := by decide +kernel
theorem d_Na_init_10 : decode b_Na_init 10 = .ok (.putfield 9, 3) := by decide +kernel
theorem d_Na_init_13 : decode b_Na_init 13 = .ok (.aload_n 0, 1) := by decide +kernel
theorem d_Na_init_14 : decode b_Na_init 14 = .ok (.iconst 0, 1) := by decide +kernel
theorem d_Na_init_15 : decode b_Na_init 15 = .ok (.putfield 15, 3) := by decide +kernel
theorem d_Na_init_18 : decode b_Na_init 18 = .ok (.return_, 1) := by decide +kernel
theorem d_Na_putLong_0 : decode b_Na_putLong 0 = .ok (.aload_n 0, 1) := by decide +kernel
theorem d_Na_putLong_1 : decode b_Na_putLong 1 = .ok (.getfield 9, 3) := by decide +kernel
theorem d_Na_putLong_4 : decode b_Na_putLong 4 = .ok (.iconst 0, 1) := by decide +kernel
theorem d_Na_putLong_5 : decode b_Na_putLong 5 = .ok (.lload_n 1, 1) := by decide +kernel
theorem d_Na_putLong_6 : decode b_Na_putLong 6 = .ok (.l2i, 1) := by decide +kernel
theorem d_Na_putLong_7 : decode b_Na_putLong 7 = .ok (.iastore, 1) := by decide +kernel
theorem d_Na_putLong_8 : decode b_Na_putLong 8 = .ok (.aload_n 0, 1) := by decide +kernel
theorem d_Na_putLong_9 : decode b_Na_putLong 9 = .ok (.getfield 9, 3) := by decide +kernel
theorem d_Na_putLong_12 : decode b_Na_putLong 12 = .ok (.iconst 1, 1) := by decide +kernel
theorem d_Na_putLong_13 : decode b_Na_putLong 13 = .ok (.lload_n 1, 1) := by decide +kernel
theorem d_Na_putLong_14 : decode b_Na_putLong 14 = .ok (.bipush 32, 2) := by decide +kernel
theorem d_Na_putLong_16 : decode b_Na_putLong 16 = .ok (.lushr, 1) := by decide +kernel
theorem d_Na_putLong_17 : decode b_Na_putLong 17 = .ok (.l2i, 1) := by decide +kernel
theorem d_Na_putLong_18 : decode b_Na_putLong 18 = .ok (.iastore, 1) := by decide +kernel
theorem d_Na_putLong_19 : decode b_Na_putLong 19 = .ok (.aload_n 0, 1) := by decide +kernel
theorem d_Na_putLong_20 : decode b_Na_putLong 20 = .ok (.iconst 2, 1) := by decide +kernel
theorem d_Na_putLong_21 : decode b_Na_putLong 21 = .ok (.invokevirtual 23, 3) := by decide +kernel
theorem d_Na_putLong_24 : decode b_Na_putLong 24 = .ok (.return_, 1) := by decide +kernel
theorem d_Na_trim_0 : decode b_Na_trim 0 = .ok (.aload_n 0, 1) := by decide +kernel
theorem d_Na_trim_1 : decode b_Na_trim 1 = .ok (.iload_n 1, 1) := by decide +kernel
theorem d_Na_trim_2 : decode b_Na_trim 2 = .ok (.putfield 15, 3) := by decide +kernel
theorem d_Na_trim_5 : decode b_Na_trim 5 = .ok (.aload_n 0, 1) := by decide +kernel
theorem d_Na_trim_6 : decode b_Na_trim 6 = .ok (.getfield 15, 3) := by decide +kernel
theorem d_Na_trim_9 : decode b_Na_trim 9 = .ok (.ifCond .le 30, 3) := by decide +kernel
theorem d_Na_trim_12 : decode b_Na_trim 12 = .ok (.aload_n 0, 1) := by decide +kernel
theorem d_Na_trim_13 : decode b_Na_trim 13 = .ok (.getfield 9, 3) := by decide +kernel
theorem d_Na_trim_16 : decode b_Na_trim 16 = .ok (.aload_n 0, 1) := by decide +kernel
theorem d_Na_trim_17 : decode b_Na_trim 17 = .ok (.getfield 15, 3) := by decide +kernel
theorem d_Na_trim_20 : decode b_Na_trim 20 = .ok (.iconst 1, 1) := by decide +kernel
theorem d_Na_trim_21 : decode b_Na_trim 21 = .ok (.isub, 1) := by decide +kernel
theorem d_Na_trim_22 : decode b_Na_trim 22 = .ok (.iaload, 1) := by decide +kernel
theorem d_Na_trim_23 : decode b_Na_trim 23 = .ok (.ifCond .ne 16, 3) := by decide +kernel
theorem d_Na_trim_26 : decode b_Na_trim 26 = .ok (.aload_n 0, 1) := by decide +kernel
theorem d_Na_trim_27 : decode b_Na_trim 27 = .ok (.dup, 1) := by decide +kernel
theorem d_Na_trim_28 : decode b_Na_trim 28 = .ok (.getfield 15, 3) := by decide +kernel
theorem d_Na_trim_31 : decode b_Na_trim 31 = .ok (.iconst 1, 1) := by decide +kernel
theorem d_Na_trim_32 : decode b_Na_trim 32 = .ok (.isub, 1) := by decide +kernel
theorem d_Na_trim_33 : decode b_Na_trim 33 = .ok (.putfield 15, 3) := by decide +kernel
theorem d_Na_trim_36 : decode b_Na_trim 36 = .ok (.goto (-31), 3) := by decide +kernel
theorem d_Na_trim_39 : decode b_Na_trim 39 = .ok (.return_, 1) := by decide +kernel
theorem d_Na_countBits_0 : decode b_Na_countBits 0 = .ok (.aload_n 0, 1) := by decide +kernel
theorem d_Na_countBits_1 : decode b_Na_countBits 1 = .ok (.getfield 15, 3) := by decide +kernel
theorem d_Na_countBits_4 : decode b_Na_countBits 4 = .ok (.ifCond .ne 7, 3) := by decide +kernel
theorem d_Na_countBits_7 : decode b_Na_countBits 7 = .ok (.iconst 0, 1) := by decide +kernel
theorem d_Na_countBits_8 : decode b_Na_countBits 8 = .ok (.goto 27, 3) := by decide +kernel
theorem d_Na_countBits_11 : decode b_Na_countBits 11 = .ok (.bipush 32, 2) := by decide +kernel
theorem d_Na_countBits_13 : decode b_Na_countBits 13 = .ok (.aload_n 0, 1) := by decide +kernel
theorem d_Na_countBits_14 : decode b_Na_countBits 14 = .ok (.getfield 15, 3) := by decide +kernel
theorem d_Na_countBits_17 : decode b_Na_countBits 17 = .ok (.iconst 1, 1) := by decide +kernel
theorem d_Na_countBits_18 : decode b_Na_countBits 18 = .ok (.isub, 1) := by decide +kernel
theorem d_Na_countBits_19 : decode b_Na_countBits 19 = .ok (.imul, 1) := by decide +kernel
theorem d_Na_countBits_20 : decode b_Na_countBits 20 = .ok (.aload_n 0, 1) := by decide +kernel
theorem d_Na_countBits_21 : decode b_Na_countBits 21 = .ok (.getfield 9, 3) := by decide +kernel
theorem d_Na_countBits_24 : decode b_Na_countBits 24 = .ok (.aload_n 0, 1) := by decide +kernel
theorem d_Na_countBits_25 : decode b_Na_countBits 25 = .ok (.getfield 15, 3) := by decide +kernel
theorem d_Na_countBits_28 : decode b_Na_countBits 28 = .ok (.iconst 1, 1) := by decide +kernel
theorem d_Na_countBits_29 : decode b_Na_countBits 29 = .ok (.isub, 1) := by decide +kernel
theorem d_Na_countBits_30 : decode b_Na_countBits 30 = .ok (.iaload, 1) := by decide +kernel
theorem d_Na_countBits_31 : decode b_Na_countBits 31 = .ok (.invokestatic 19, 3) := by decide +kernel
theorem d_Na_countBits_34 : decode b_Na_countBits 34 = .ok (.iadd, 1) := by decide +kernel
theorem d_Na_countBits_35 : decode b_Na_countBits 35 = .ok (.ireturn, 1) := by decide +kernel
theorem d_Na_putSame_0 : decode b_Na_putSame 0 = .ok (.aload_n 1, 1) := by decide +kernel
theorem d_Na_putSame_1 : decode b_Na_putSame 1 = .ok (.getfield 9, 3) := by decide +kernel
theorem d_Na_putSame_4 : decode b_Na_putSame 4 = .ok (.iconst 0, 1) := by decide +kernel
theorem d_Na_putSame_5 : decode b_Na_putSame 5 = .ok (.aload_n 0, 1) := by decide +kernel
theorem d_Na_putSame_6 : decode b_Na_putSame 6 = .ok (.getfield 9, 3) := by decide +kernel
theorem d_Na_putSame_9 : decode b_Na_putSame 9 = .ok (.iconst 0, 1) := by decide +kernel
theorem d_Na_putSame_10 : decode b_Na_putSame 10 = .ok (.aload_n 1, 1) := by decide +kernel
theorem d_Na_putSame_11 : decode b_Na_putSame 11 = .ok (.getfield 15, 3) := by decide +kernel
theorem d_Na_putSame_14 : decode b_Na_putSame 14 = .ok (.invokestatic 27, 3) := by decide +kernel
theorem d_Na_putSame_17 : decode b_Na_putSame 17 = .ok (.aload_n 0, 1) := by decide +kernel
theorem d_Na_putSame_18 : decode b_Na_putSame 18 = .ok (.aload_n 1, 1) := by decide +kernel
theorem d_Na_putSame_19 : decode b_Na_putSame 19 = .ok (.getfield 15, 3) := by decide +kernel
theorem d_Na_putSame_22 : decode b_Na_putSame 22 = .ok (.putfield 15, 3) := by decide +kernel
theorem d_Na_putSame_25 : decode b_Na_putSame 25 = .ok (.return_, 1) := by decide +kernel
theorem d_Na_putMoved_0 : decode b_Na_putMoved 0 = .ok (.iload_n 2, 1) := by decide +kernel
theorem d_Na_putMoved_1 : decode b_Na_putMoved 1 = .ok (.ifCond .lt 19, 3) := by decide +kernel
theorem d_Na_putMoved_4 : decode b_Na_putMoved 4 = .ok (.aload_n 0, 1) := by decide +kernel
theorem d_Na_putMoved_5 : decode b_Na_putMoved 5 = .ok (.aload_n 1, 1) := by decide +kernel
theorem d_Na_putMoved_6 : decode b_Na_putMoved 6 = .ok (.iload_n 2, 1) := by decide +kernel
theorem d_Na_putMoved_7 : decode b_Na_putMoved 7 = .ok (.bipush 32, 2) := by decide +kernel
theorem d_Na_putMoved_9 : decode b_Na_putMoved 9 = .ok (.idiv, 1) := by decide +kernel
theorem d_Na_putMoved_10 : decode b_Na_putMoved 10 = .ok (.iload_n 2, 1) := by decide +kernel
theorem d_Na_putMoved_11 : decode b_Na_putMoved 11 = .ok (.bipush 32, 2) := by decide +kernel
theorem d_Na_putMoved_13 : decode b_Na_putMoved 13 = .ok (.irem, 1) := by decide +kernel
theorem d_Na_putMoved_14 : decode b_Na_putMoved 14 = .ok (.invokevirtual 35, 3) := by decide +kernel
theorem d_Na_putMoved_17 : decode b_Na_putMoved 17 = .ok (.goto 18, 3) := by decide +kernel
theorem d_Na_putMoved_20 : decode b_Na_putMoved 20 = .ok (.aload_n 0, 1) := by decide +kernel
theorem d_Na_putMoved_21 : decode b_Na_putMoved 21 = .ok (.aload_n 1, 1) := by decide +kernel
theorem d_Na_putMoved_22 : decode b_Na_putMoved 22 = .ok (.iload_n 2, 1) := by decide +kernel
theorem d_Na_putMoved_23 : decode b_Na_putMoved 23 = .ok (.ineg, 1) := by decide +kernel
theorem d_Na_putMoved_24 : decode b_Na_putMoved 24 = .ok (.bipush 32, 2) := by decide +kernel
theorem d_Na_putMoved_26 : decode b_Na_putMoved 26 = .ok (.idiv, 1) := by decide +kernel
theorem d_Na_putMoved_27 : decode b_Na_putMoved 27 = .ok (.iload_n 2, 1) := by decide +kernel
theorem d_Na_putMoved_28 : decode b_Na_putMoved 28 = .ok (.ineg, 1) := by decide +kernel
theorem d_Na_putMoved_29 : decode b_Na_putMoved 29 = .ok (.bipush 32, 2) := by decide +kernel
theorem d_Na_putMoved_31 : decode b_Na_putMoved 31 = .ok (.irem, 1) := by decide +kernel
theorem d_Na_putMoved_32 : decode b_Na_putMoved 32 = .ok (.invokevirtual 39, 3) := by decide +kernel
theorem d_Na_putMoved_35 : decode b_Na_putMoved 35 = .ok (.return_, 1) := by decide +kernel
theorem d_Na_moveUp_0 : decode b_Na_moveUp 0 = .ok (.aload_n 1, 1) := by decide +kernel
theorem d_Na_moveUp_1 : decode b_Na_moveUp 1 = .ok (.getfield 15, 3) := by decide +kernel
theorem d_Na_moveUp_4 : decode b_Na_moveUp 4 = .ok (.istore 4, 2) := by decide +kernel
theorem d_Na_moveUp_6 : decode b_Na_moveUp 6 = .ok (.iload 4, 2) := by decide +kernel
theorem d_Na_moveUp_8 : decode b_Na_moveUp 8 = .ok (.ifCond .ne 9, 3) := by decide +kernel
theorem d_Na_moveUp_11 : decode b_Na_moveUp 11 = .ok (.aload_n 0, 1) := by decide +kernel
theorem d_Na_moveUp_12 : decode b_Na_moveUp 12 = .ok (.iconst 0, 1) := by decide +kernel
theorem d_Na_moveUp_13 : decode b_Na_moveUp 13 = .ok (.putfield 15, 3) := by decide +kernel
theorem d_Na_moveUp_16 : decode b_Na_moveUp 16 = .ok (.return_, 1) := by decide +kernel
theorem d_Na_moveUp_17 : decode b_Na_moveUp 17 = .ok (.iconst 0, 1) := by decide +kernel
theorem d_Na_moveUp_18 : decode b_Na_moveUp 18 = .ok (.istore 5, 2) := by decide +kernel
theorem d_Na_moveUp_20 : decode b_Na_moveUp 20 = .ok (.iload 4, 2) := by decide +kernel
theorem d_Na_moveUp_22 : decode b_Na_moveUp 22 = .ok (.iconst 1, 1) := by decide +kernel
theorem d_Na_moveUp_23 : decode b_Na_moveUp 23 = .ok (.isub, 1) := by decide +kernel
theorem d_Na_moveUp_24 : decode b_Na_moveUp 24 = .ok (.istore 6, 2) := by decide +kernel
theorem d_Na_moveUp_26 : decode b_Na_moveUp 26 = .ok (.iload 6, 2) := by decide +kernel
theorem d_Na_moveUp_28 : decode b_Na_moveUp 28 = .ok (.ifCond .lt 54, 3) := by decide +kernel
theorem d_Na_moveUp_31 : decode b_Na_moveUp 31 = .ok (.aload_n 1, 1) := by decide +kernel
theorem d_Na_moveUp_32 : decode b_Na_moveUp 32 = .ok (.getfield 9, 3) := by decide +kernel
theorem d_Na_moveUp_35 : decode b_Na_moveUp 35 = .ok (.iload 6, 2) := by decide +kernel
theorem d_Na_moveUp_37 : decode b_Na_moveUp 37 = .ok (.iaload, 1) := by decide +kernel
theorem d_Na_moveUp_38 : decode b_Na_moveUp 38 = .ok (.istore 7, 2) := by decide +kernel
theorem d_Na_moveUp_40 : decode b_Na_moveUp 40 = .ok (.aload_n 0, 1) := by decide +kernel
theorem d_Na_moveUp_41 : decode b_Na_moveUp 41 = .ok (.getfield 9, 3) := by decide +kernel
theorem d_Na_moveUp_44 : decode b_Na_moveUp 44 = .ok (.iload 6, 2) := by decide +kernel
theorem d_Na_moveUp_46 : decode b_Na_moveUp 46 = .ok (.iload_n 2, 1) := by decide +kernel
theorem d_Na_moveUp_47 : decode b_Na_moveUp 47 = .ok (.iadd, 1) := by decide +kernel
theorem d_Na_moveUp_48 : decode b_Na_moveUp 48 = .ok (.iconst 1, 1) := by decide +kernel
theorem d_Na_moveUp_49 : decode b_Na_moveUp 49 = .ok (.iadd, 1) := by decide +kernel
theorem d_Na_moveUp_50 : decode b_Na_moveUp 50 = .ok (.iload_n 3, 1) := by decide +kernel
theorem d_Na_moveUp_51 : decode b_Na_moveUp 51 = .ok (.ifCond .ne 8, 3) := by decide +kernel
theorem d_Na_moveUp_54 : decode b_Na_moveUp 54 = .ok (.iload 5, 2) := by decide +kernel
theorem d_Na_moveUp_56 : decode b_Na_moveUp 56 = .ok (.goto 15, 3) := by decide +kernel
theorem d_Na_moveUp_59 : decode b_Na_moveUp 59 = .ok (.iload 5, 2) := by decide +kernel
theorem d_Na_moveUp_61 : decode b_Na_moveUp 61 = .ok (.iload_n 3, 1) := by decide +kernel
theorem d_Na_moveUp_62 : decode b_Na_moveUp 62 = .ok (.ishl, 1) := by decide +kernel
theorem d_Na_moveUp_63 : decode b_Na_moveUp 63 = .ok (.iload 7, 2) := by decide +kernel
theorem d_Na_moveUp_65 : decode b_Na_moveUp 65 = .ok (.bipush 32, 2) := by decide +kernel
theorem d_Na_moveUp_67 : decode b_Na_moveUp 67 = .ok (.iload_n 3, 1) := by decide +kernel
theorem d_Na_moveUp_68 : decode b_Na_moveUp 68 = .ok (.isub, 1) := by decide +kernel
theorem d_Na_moveUp_69 : decode b_Na_moveUp 69 = .ok (.iushr, 1) := by decide +kernel
theorem d_Na_moveUp_70 : decode b_Na_moveUp 70 = .ok (.ior, 1) := by decide +kernel
theorem d_Na_moveUp_71 : decode b_Na_moveUp 71 = .ok (.iastore, 1) := by decide +kernel
theorem d_Na_moveUp_72 : decode b_Na_moveUp 72 = .ok (.iload 7, 2) := by decide +kernel
theorem d_Na_moveUp_74 : decode b_Na_moveUp 74 = .ok (.istore 5, 2) := by decide +kernel
theorem d_Na_moveUp_76 : decode b_Na_moveUp 76 = .ok (.iinc 6 (-1), 3) := by decide +kernel
theorem d_Na_moveUp_79 : decode b_Na_moveUp 79 = .ok (.goto (-53), 3) := by decide +kernel
theorem d_Na_moveUp_82 : decode b_Na_moveUp 82 = .ok (.aload_n 0, 1) := by decide +kernel
theorem d_Na_moveUp_83 : decode b_Na_moveUp 83 = .ok (.getfield 9, 3) := by decide +kernel
theorem d_Na_moveUp_86 : decode b_Na_moveUp 86 = .ok (.iload_n 2, 1) := by decide +kernel
theorem d_Na_moveUp_87 : decode b_Na_moveUp 87 = .ok (.iload 5, 2) := by decide +kernel
theorem d_Na_moveUp_89 : decode b_Na_moveUp 89 = .ok (.iload_n 3, 1) := by decide +kernel
theorem d_Na_moveUp_90 : decode b_Na_moveUp 90 = .ok (.ishl, 1) := by decide +kernel
theorem d_Na_moveUp_91 : decode b_Na_moveUp 91 = .ok (.iastore, 1) := by decide +kernel
theorem d_Na_moveUp_92 : decode b_Na_moveUp 92 = .ok (.aload_n 0, 1) := by decide +kernel
theorem d_Na_moveUp_93 : decode b_Na_moveUp 93 = .ok (.getfield 9, 3) := by decide +kernel
theorem d_Na_moveUp_96 : decode b_Na_moveUp 96 = .ok (.iconst 0, 1) := by decide +kernel
theorem d_Na_moveUp_97 : decode b_Na_moveUp 97 = .ok (.iload_n 2, 1) := by decide +kernel
theorem d_Na_moveUp_98 : decode b_Na_moveUp 98 = .ok (.iconst 0, 1) := by decide +kernel
theorem d_Na_moveUp_99 : decode b_Na_moveUp 99 = .ok (.invokestatic 42, 3) := by decide +kernel
theorem d_Na_moveUp_102 : decode b_Na_moveUp 102 = .ok (.aload_n 0, 1) := by decide +kernel
theorem d_Na_moveUp_103 : decode b_Na_moveUp 103 = .ok (.iload 4, 2) := by decide +kernel
theorem d_Na_moveUp_105 : decode b_Na_moveUp 105 = .ok (.iload_n 2, 1) := by decide +kernel
theorem d_Na_moveUp_106 : decode b_Na_moveUp 106 = .ok (.iadd, 1) := by decide +kernel
theorem d_Na_moveUp_107 : decode b_Na_moveUp 107 = .ok (.iconst 1, 1) := by decide +kernel
theorem d_Na_moveUp_108 : decode b_Na_moveUp 108 = .ok (.iadd, 1) := by decide +kernel
theorem d_Na_moveUp_109 : decode b_Na_moveUp 109 = .ok (.invokevirtual 23, 3) := by decide +kernel
theorem d_Na_moveUp_112 : decode b_Na_moveUp 112 = .ok (.return_, 1) := by decide +kernel
theorem d_Na_moveDown_0 : decode b_Na_moveDown 0 = .ok (.iconst 0, 1) := by decide +kernel
theorem d_Na_moveDown_1 : decode b_Na_moveDown 1 = .ok (.aload_n 1, 1) := by decide +kernel
theorem d_Na_moveDown_2 : decode b_Na_moveDown 2 = .ok (.getfield 15, 3) := by decide +kernel
theorem d_Na_moveDown_5 : decode b_Na_moveDown 5 = .ok (.iload_n 2, 1) := by decide +kernel
theorem d_Na_moveDown_6 : decode b_Na_moveDown 6 = .ok (.isub, 1) := by decide +kernel
theorem d_Na_moveDown_7 : decode b_Na_moveDown 7 = .ok (.invokestatic 48, 3) := by decide +kernel
theorem d_Na_moveDown_10 : decode b_Na_moveDown 10 = .ok (.istore 4, 2) := by decide +kernel
theorem d_Na_moveDown_12 : decode b_Na_moveDown 12 = .ok (.iconst 0, 1) := by decide +kernel
theorem d_Na_moveDown_13 : decode b_Na_moveDown 13 = .ok (.istore 5, 2) := by decide +kernel
theorem d_Na_moveDown_15 : decode b_Na_moveDown 15 = .ok (.iload 5, 2) := by decide +kernel
theorem d_Na_moveDown_17 : decode b_Na_moveDown 17 = .ok (.iload 4, 2) := by decide +kernel
theorem d_Na_moveDown_19 : decode b_Na_moveDown 19 = .ok (.if_icmp .ge 74, 3) := by decide +kernel
theorem d_Na_moveDown_22 : decode b_Na_moveDown 22 = .ok (.aload_n 1, 1) := by decide +kernel
theorem d_Na_moveDown_23 : decode b_Na_moveDown 23 = .ok (.getfield 9, 3) := by decide +kernel
theorem d_Na_moveDown_26 : decode b_Na_moveDown 26 = .ok (.iload 5, 2) := by decide +kernel
theorem d_Na_moveDown_28 : decode b_Na_moveDown 28 = .ok (.iload_n 2, 1) := by decide +kernel
theorem d_Na_moveDown_29 : decode b_Na_moveDown 29 = .ok (.iadd, 1) := by decide +kernel
theorem d_Na_moveDown_30 : decode b_Na_moveDown 30 = .ok (.iaload, 1) := by decide +kernel
theorem d_Na_moveDown_31 : decode b_Na_moveDown 31 = .ok (.istore 6, 2) := by decide +kernel
theorem d_Na_moveDown_33 : decode b_Na_moveDown 33 = .ok (.iload 5, 2) := by decide +kernel
theorem d_Na_moveDown_35 : decode b_Na_moveDown 35 = .ok (.iconst 1, 1) := by decide +kernel
theorem d_Na_moveDown_36 : decode b_Na_moveDown 36 = .ok (.iadd, 1) := by decide +kernel
theorem d_Na_moveDown_37 : decode b_Na_moveDown 37 = .ok (.iload 4, 2) := by decide +kernel
theorem d_Na_moveDown_39 : decode b_Na_moveDown 39 = .ok (.if_icmp .ge 17, 3) := by decide +kernel
theorem d_Na_moveDown_42 : decode b_Na_moveDown 42 = .ok (.aload_n 1, 1) := by decide +kernel
theorem d_Na_moveDown_43 : decode b_Na_moveDown 43 = .ok (.getfield 9, 3) := by decide +kernel
theorem d_Na_moveDown_46 : decode b_Na_moveDown 46 = .ok (.iload 5, 2) := by decide +kernel
theorem d_Na_moveDown_48 : decode b_Na_moveDown 48 = .ok (.iload_n 2, 1) := by decide +kernel
theorem d_Na_moveDown_49 : decode b_Na_moveDown 49 = .ok (.iadd, 1) := by decide +kernel
theorem d_Na_moveDown_50 : decode b_Na_moveDown 50 = .ok (.iconst 1, 1) := by decide +kernel
theorem d_Na_moveDown_51 : decode b_Na_moveDown 51 = .ok (.iadd, 1) := by decide +kernel
theorem d_Na_moveDown_52 : decode b_Na_moveDown 52 = .ok (.iaload, 1) := by decide +kernel
theorem d_Na_moveDown_53 : decode b_Na_moveDown 53 = .ok (.goto 4, 3) := by decide +kernel
theorem d_Na_moveDown_56 : decode b_Na_moveDown 56 = .ok (.iconst 0, 1) := by decide +kernel
theorem d_Na_moveDown_57 : decode b_Na_moveDown 57 = .ok (.istore 7, 2) := by decide +kernel
theorem d_Na_moveDown_59 : decode b_Na_moveDown 59 = .ok (.aload_n 0, 1) := by decide +kernel
theorem d_Na_moveDown_60 : decode b_Na_moveDown 60 = .ok (.getfield 9, 3) := by decide +kernel
theorem d_Na_moveDown_63 : decode b_Na_moveDown 63 = .ok (.iload 5, 2) := by decide +kernel
theorem d_Na_moveDown_65 : decode b_Na_moveDown 65 = .ok (.iload_n 3, 1) := by decide +kernel
theorem d_Na_moveDown_66 : decode b_Na_moveDown 66 = .ok (.ifCond .ne 8, 3) := by decide +kernel
theorem d_Na_moveDown_69 : decode b_Na_moveDown 69 = .ok (.iload 6, 2) := by decide +kernel
theorem d_Na_moveDown_71 : decode b_Na_moveDown 71 = .ok (.goto 15, 3) := by decide +kernel
theorem d_Na_moveDown_74 : decode b_Na_moveDown 74 = .ok (.iload 6, 2) := by decide +kernel
theorem d_Na_moveDown_76 : decode b_Na_moveDown 76 = .ok (.iload_n 3, 1) := by decide +kernel
theorem d_Na_moveDown_77 : decode b_Na_moveDown 77 = .ok (.iushr, 1) := by decide +kernel
theorem d_Na_moveDown_78 : decode b_Na_moveDown 78 = .ok (.iload 7, 2) := by decide +kernel
theorem d_Na_moveDown_80 : decode b_Na_moveDown 80 = .ok (.bipush 32, 2) := by decide +kernel
theorem d_Na_moveDown_82 : decode b_Na_moveDown 82 = .ok (.iload_n 3, 1) := by decide +kernel
theorem d_Na_moveDown_83 : decode b_Na_moveDown 83 = .ok (.isub, 1) := by decide +kernel
theorem d_Na_moveDown_84 : decode b_Na_moveDown 84 = .ok (.ishl, 1) := by decide +kernel
theorem d_Na_moveDown_85 : decode b_Na_moveDown 85 = .ok (.ior, 1) := by decide +kernel
theorem d_Na_moveDown_86 : decode b_Na_moveDown 86 = .ok (.iastore, 1) := by decide +kernel
theorem d_Na_moveDown_87 : decode b_Na_moveDown 87 = .ok (.iinc 5 1, 3) := by decide +kernel
theorem d_Na_moveDown_90 : decode b_Na_moveDown 90 = .ok (.goto (-75), 3) := by decide +kernel
theorem d_Na_moveDown_93 : decode b_Na_moveDown 93 = .ok (.aload_n 0, 1) := by decide +kernel
theorem d_Na_moveDown_94 : decode b_Na_moveDown 94 = .ok (.iload 4, 2) := by decide +kernel
theorem d_Na_moveDown_96 : decode b_Na_moveDown 96 = .ok (.invokevirtual 23, 3) := by decide +kernel
theorem d_Na_moveDown_99 : decode b_Na_moveDown 99 = .ok (.return_, 1) := by decide +kernel
theorem d_Na_putSum_0 : decode b_Na_putSum 0 = .ok (.aload_n 1, 1) := by decide +kernel
theorem d_Na_putSum_1 : decode b_Na_putSum 1 = .ok (.getfield 15, 3) := by decide +kernel
theorem d_Na_putSum_4 : decode b_Na_putSum 4 = .ok (.aload_n 2, 1) := by decide +kernel
theorem d_Na_putSum_5 : decode b_Na_putSum 5 = .ok (.getfield 15, 3) := by decide +kernel
theorem d_Na_putSum_8 : decode b_Na_putSum 8 = .ok (.if_icmp .lt 7, 3) := by decide +kernel
theorem d_Na_putSum_11 : decode b_Na_putSum 11 = .ok (.aload_n 1, 1) := by decide +kernel
theorem d_Na_putSum_12 : decode b_Na_putSum 12 = .ok (.goto 4, 3) := by decide +kernel
theorem d_Na_putSum_15 : decode b_Na_putSum 15 = .ok (.aload_n 2, 1) := by decide +kernel
theorem d_Na_putSum_16 : decode b_Na_putSum 16 = .ok (.astore_n 3, 1) := by decide +kernel
theorem d_Na_putSum_17 : decode b_Na_putSum 17 = .ok (.aload_n 1, 1) := by decide +kernel
theorem d_Na_putSum_18 : decode b_Na_putSum 18 = .ok (.getfield 15, 3) := by decide +kernel
theorem d_Na_putSum_21 : decode b_Na_putSum 21 = .ok (.aload_n 2, 1) := by decide +kernel
theorem d_Na_putSum_22 : decode b_Na_putSum 22 = .ok (.getfield 15, 3) := by decide +kernel
theorem d_Na_putSum_25 : decode b_Na_putSum 25 = .ok (.if_icmp .lt 7, 3) := by decide +kernel
theorem d_Na_putSum_28 : decode b_Na_putSum 28 = .ok (.aload_n 2, 1) := by decide +kernel
theorem d_Na_putSum_29 : decode b_Na_putSum 29 = .ok (.goto 4, 3) := by decide +kernel
theorem d_Na_putSum_32 : decode b_Na_putSum 32 = .ok (.aload_n 1, 1) := by decide +kernel
theorem d_Na_putSum_33 : decode b_Na_putSum 33 = .ok (.astore 4, 2) := by decide +kernel
theorem d_Na_putSum_35 : decode b_Na_putSum 35 = .ok (.aload_n 3, 1) := by decide +kernel
theorem d_Na_putSum_36 : decode b_Na_putSum 36 = .ok (.getfield 15, 3) := by decide +kernel
theorem d_Na_putSum_39 : decode b_Na_putSum 39 = .ok (.istore 5, 2) := by decide +kernel
theorem d_Na_putSum_41 : decode b_Na_putSum 41 = .ok (.aload 4, 2) := by decide +kernel
theorem d_Na_putSum_43 : decode b_Na_putSum 43 = .ok (.getfield 15, 3) := by decide +kernel
theorem d_Na_putSum_46 : decode b_Na_putSum 46 = .ok (.istore 6, 2) := by decide +kernel
theorem d_Na_putSum_48 : decode b_Na_putSum 48 = .ok (.lconst 0, 1) := by decide +kernel
theorem d_Na_putSum_49 : decode b_Na_putSum 49 = .ok (.lstore 7, 2) := by decide +kernel
theorem d_Na_putSum_51 : decode b_Na_putSum 51 = .ok (.iconst 0, 1) := by decide +kernel
theorem d_Na_putSum_52 : decode b_Na_putSum 52 = .ok (.istore 9, 2) := by decide +kernel
theorem d_Na_putSum_54 : decode b_Na_putSum 54 = .ok (.iload 9, 2) := by decide +kernel
theorem d_Na_putSum_56 : decode b_Na_putSum 56 = .ok (.iload 5, 2) := by decide +kernel
theorem d_Na_putSum_58 : decode b_Na_putSum 58 = .ok (.if_icmp .ge 68, 3) := by decide +kernel
theorem d_Na_putSum_61 : decode b_Na_putSum 61 = .ok (.lload 7, 2) := by decide +kernel
theorem d_Na_putSum_63 : decode b_Na_putSum 63 = .ok (.aload_n 3, 1) := by decide +kernel
theorem d_Na_putSum_64 : decode b_Na_putSum 64 = .ok (.getfield 9, 3) := by decide +kernel
theorem d_Na_putSum_67 : decode b_Na_putSum 67 = .ok (.iload 9, 2) := by decide +kernel
theorem d_Na_putSum_69 : decode b_Na_putSum 69 = .ok (.iaload, 1) := by decide +kernel
theorem d_Na_putSum_70 : decode b_Na_putSum 70 = .ok (.i2l, 1) := by decide +kernel
theorem d_Na_putSum_71 : decode b_Na_putSum 71 = .ok (.ldc2_w 33, 3) := by decide +kernel
theorem d_Na_putSum_74 : decode b_Na_putSum 74 = .ok (.land, 1) := by decide +kernel
theorem d_Na_putSum_75 : decode b_Na_putSum 75 = .ok (.iload 9, 2) := by decide +kernel
theorem d_Na_putSum_77 : decode b_Na_putSum 77 = .ok (.iload 6, 2) := by decide +kernel
theorem d_Na_putSum_79 : decode b_Na_putSum 79 = .ok (.if_icmp .ge 19, 3) := by decide +kernel
theorem d_Na_putSum_82 : decode b_Na_putSum 82 = .ok (.aload 4, 2) := by decide +kernel
theorem d_Na_putSum_84 : decode b_Na_putSum 84 = .ok (.getfield 9, 3) := by decide +kernel
theorem d_Na_putSum_87 : decode b_Na_putSum 87 = .ok (.iload 9, 2) := by decide +kernel
theorem d_Na_putSum_89 : decode b_Na_putSum 89 = .ok (.iaload, 1) := by decide +kernel
theorem d_Na_putSum_90 : decode b_Na_putSum 90 = .ok (.i2l, 1) := by decide +kernel
theorem d_Na_putSum_91 : decode b_Na_putSum 91 = .ok (.ldc2_w 33, 3) := by decide +kernel
theorem d_Na_putSum_94 : decode b_Na_putSum 94 = .ok (.land, 1) := by decide +kernel
theorem d_Na_putSum_95 : decode b_Na_putSum 95 = .ok (.goto 4, 3) := by decide +kernel
theorem d_Na_putSum_98 : decode b_Na_putSum 98 = .ok (.lconst 0, 1) := by decide +kernel
theorem d_Na_putSum_99 : decode b_Na_putSum 99 = .ok (.ladd, 1) := by decide +kernel
theorem d_Na_putSum_100 : decode b_Na_putSum 100 = .ok (.ladd, 1) := by decide +kernel
theorem d_Na_putSum_101 : decode b_Na_putSum 101 = .ok (.lstore 7, 2) := by decide +kernel
theorem d_Na_putSum_103 : decode b_Na_putSum 103 = .ok (.aload_n 0, 1) := by decide +kernel
theorem d_Na_putSum_104 : decode b_Na_putSum 104 = .ok (.getfield 9, 3) := by decide +kernel
theorem d_Na_putSum_107 : decode b_Na_putSum 107 = .ok (.iload 9, 2) := by decide +kernel
theorem d_Na_putSum_109 : decode b_Na_putSum 109 = .ok (.lload 7, 2) := by decide +kernel
theorem d_Na_putSum_111 : decode b_Na_putSum 111 = .ok (.l2i, 1) := by decide +kernel
theorem d_Na_putSum_112 : decode b_Na_putSum 112 = .ok (.iastore, 1) := by decide +kernel
theorem d_Na_putSum_113 : decode b_Na_putSum 113 = .ok (.lload 7, 2) := by decide +kernel
theorem d_Na_putSum_115 : decode b_Na_putSum 115 = .ok (.bipush 32, 2) := by decide +kernel
theorem d_Na_putSum_117 : decode b_Na_putSum 117 = .ok (.lushr, 1) := by decide +kernel
theorem d_Na_putSum_118 : decode b_Na_putSum 118 = .ok (.lstore 7, 2) := by decide +kernel
theorem d_Na_putSum_120 : decode b_Na_putSum 120 = .ok (.iinc 9 1, 3) := by decide +kernel
theorem d_Na_putSum_123 : decode b_Na_putSum 123 = .ok (.goto (-69), 3) := by decide +kernel
theorem d_Na_putSum_126 : decode b_Na_putSum 126 = .ok (.aload_n 0, 1) := by decide +kernel
theorem d_Na_putSum_127 : decode b_Na_putSum 127 = .ok (.getfield 9, 3) := by decide +kernel
theorem d_Na_putSum_130 : decode b_Na_putSum 130 = .ok (.iload 5, 2) := by decide +kernel
theorem d_Na_putSum_132 : decode b_Na_putSum 132 = .ok (.lload 7, 2) := by decide +kernel
theorem d_Na_putSum_134 : decode b_Na_putSum 134 = .ok (.l2i, 1) := by decide +kernel
theorem d_Na_putSum_135 : decode b_Na_putSum 135 = .ok (.iastore, 1) := by decide +kernel
theorem d_Na_putSum_136 : decode b_Na_putSum 136 = .ok (.aload_n 0, 1) := by decide +kernel
theorem d_Na_putSum_137 : decode b_Na_putSum 137 = .ok (.iload 5, 2) := by decide +kernel
theorem d_Na_putSum_139 : decode b_Na_putSum 139 = .ok (.iconst 1, 1) := by decide +kernel
theorem d_Na_putSum_140 : decode b_Na_putSum 140 = .ok (.iadd, 1) := by decide +kernel
theorem d_Na_putSum_141 : decode b_Na_putSum 141 = .ok (.invokevirtual 23, 3) := by decide +kernel
theorem d_Na_putSum_144 : decode b_Na_putSum 144 = .ok (.return_, 1) := by decide +kernel
theorem d_Na_order_0 : decode b_Na_order 0 = .ok (.aload_n 0, 1) := by decide +kernel
theorem d_Na_order_1 : decode b_Na_order 1 = .ok (.getfield 15, 3) := by decide +kernel
theorem d_Na_order_4 : decode b_Na_order 4 = .ok (.aload_n 1, 1) := by decide +kernel
theorem d_Na_order_5 : decode b_Na_order 5 = .ok (.getfield 15, 3) := by decide +kernel
theorem d_Na_order_8 : decode b_Na_order 8 = .ok (.if_icmp .eq 20, 3) := by decide +kernel
theorem d_Na_order_11 : decode b_Na_order 11 = .ok (.aload_n 0, 1) := by decide +kernel
theorem d_Na_order_12 : decode b_Na_order 12 = .ok (.getfield 15, 3) := by decide +kernel
theorem d_Na_order_15 : decode b_Na_order 15 = .ok (.aload_n 1, 1) := by decide +kernel
theorem d_Na_order_16 : decode b_Na_order 16 = .ok (.getfield 15, 3) := by decide +kernel
theorem d_Na_order_19 : decode b_Na_order 19 = .ok (.if_icmp .ge 7, 3) := by decide +kernel
theorem d_Na_order_22 : decode b_Na_order 22 = .ok (.iconst (-1), 1) := by decide +kernel
theorem d_Na_order_23 : decode b_Na_order 23 = .ok (.goto 4, 3) := by decide +kernel
theorem d_Na_order_26 : decode b_Na_order 26 = .ok (.iconst 1, 1) := by decide +kernel
theorem d_Na_order_27 : decode b_Na_order 27 = .ok (.ireturn, 1) := by decide +kernel
theorem d_Na_order_28 : decode b_Na_order 28 = .ok (.aload_n 0, 1) := by decide +kernel
theorem d_Na_order_29 : decode b_Na_order 29 = .ok (.getfield 15, 3) := by decide +kernel
theorem d_Na_order_32 : decode b_Na_order 32 = .ok (.iconst 1, 1) := by decide +kernel
theorem d_Na_order_33 : decode b_Na_order 33 = .ok (.isub, 1) := by decide +kernel
theorem d_Na_order_34 : decode b_Na_order 34 = .ok (.istore_n 2, 1) := by decide +kernel
theorem d_Na_order_35 : decode b_Na_order 35 = .ok (.iload_n 2, 1) := by decide +kernel
theorem d_Na_order_36 : decode b_Na_order 36 = .ok (.ifCond .lt 56, 3) := by decide +kernel
theorem d_Na_order_39 : decode b_Na_order 39 = .ok (.aload_n 0, 1) := by decide +kernel
theorem d_Na_order_40 : decode b_Na_order 40 = .ok (.getfield 9, 3) := by decide +kernel
theorem d_Na_order_43 : decode b_Na_order 43 = .ok (.iload_n 2, 1) := by decide +kernel
theorem d_Na_order_44 : decode b_Na_order 44 = .ok (.iaload, 1) := by decide +kernel
theorem d_Na_order_45 : decode b_Na_order 45 = .ok (.aload_n 1, 1) := by decide +kernel
theorem d_Na_order_46 : decode b_Na_order 46 = .ok (.getfield 9, 3) := by decide +kernel
theorem d_Na_order_49 : decode b_Na_order 49 = .ok (.iload_n 2, 1) := by decide +kernel
theorem d_Na_order_50 : decode b_Na_order 50 = .ok (.iaload, 1) := by decide +kernel
theorem d_Na_order_51 : decode b_Na_order 51 = .ok (.if_icmp .eq 35, 3) := by decide +kernel
theorem d_Na_order_54 : decode b_Na_order 54 = .ok (.aload_n 0, 1) := by decide +kernel
theorem d_Na_order_55 : decode b_Na_order 55 = .ok (.getfield 9, 3) := by decide +kernel
theorem d_Na_order_58 : decode b_Na_order 58 = .ok (.iload_n 2, 1) := by decide +kernel
theorem d_Na_order_59 : decode b_Na_order 59 = .ok (.iaload, 1) := by decide +kernel
theorem d_Na_order_60 : decode b_Na_order 60 = .ok (.i2l, 1) := by decide +kernel
theorem d_Na_order_61 : decode b_Na_order 61 = .ok (.ldc2_w 33, 3) := by decide +kernel
theorem d_Na_order_64 : decode b_Na_order 64 = .ok (.land, 1) := by decide +kernel
theorem d_Na_order_65 : decode b_Na_order 65 = .ok (.aload_n 1, 1) := by decide +kernel
theorem d_Na_order_66 : decode b_Na_order 66 = .ok (.getfield 9, 3) := by decide +kernel
theorem d_Na_order_69 : decode b_Na_order 69 = .ok (.iload_n 2, 1) := by decide +kernel
theorem d_Na_order_70 : decode b_Na_order 70 = .ok (.iaload, 1) := by decide +kernel
theorem d_Na_order_71 : decode b_Na_order 71 = .ok (.i2l, 1) := by decide +kernel
theorem d_Na_order_72 : decode b_Na_order 72 = .ok (.ldc2_w 33, 3) := by decide +kernel
theorem d_Na_order_75 : decode b_Na_order 75 = .ok (.land, 1) := by decide +kernel
theorem d_Na_order_76 : decode b_Na_order 76 = .ok (.lcmp, 1) := by decide +kernel
theorem d_Na_order_77 : decode b_Na_order 77 = .ok (.ifCond .ge 7, 3) := by decide +kernel
theorem d_Na_order_80 : decode b_Na_order 80 = .ok (.iconst (-1), 1) := by decide +kernel
theorem d_Na_order_81 : decode b_Na_order 81 = .ok (.goto 4, 3) := by decide +kernel
theorem d_Na_order_84 : decode b_Na_order 84 = .ok (.iconst 1, 1) := by decide +kernel
theorem d_Na_order_85 : decode b_Na_order 85 = .ok (.ireturn, 1) := by decide +kernel
theorem d_Na_order_86 : decode b_Na_order 86 = .ok (.iinc 2 (-1), 3) := by decide +kernel
theorem d_Na_order_89 : decode b_Na_order 89 = .ok (.goto (-54), 3) := by decide +kernel
theorem d_Na_order_92 : decode b_Na_order 92 = .ok (.iconst 0, 1) := by decide +kernel
theorem d_Na_order_93 : decode b_Na_order 93 = .ok (.ireturn, 1) := by decide +kernel
theorem d_Na_putDifference_0 : decode b_Na_putDifference 0 = .ok (.aload_n 1, 1) := by decide +kernel
theorem d_Na_putDifference_1 : decode b_Na_putDifference 1 = .ok (.getfield 15, 3) := by decide +kernel
theorem d_Na_putDifference_4 : decode b_Na_putDifference 4 = .ok (.istore_n 3, 1) := by decide +kernel
theorem d_Na_putDifference_5 : decode b_Na_putDifference 5 = .ok (.aload_n 2, 1) := by decide +kernel
theorem d_Na_putDifference_6 : decode b_Na_putDifference 6 = .ok (.getfield 15, 3) := by decide +kernel
theorem d_Na_putDifference_9 : decode b_Na_putDifference 9 = .ok (.istore 4, 2) := by decide +kernel
theorem d_Na_putDifference_11 : decode b_Na_putDifference 11 = .ok (.lconst 0, 1) := by decide +kernel
theorem d_Na_putDifference_12 : decode b_Na_putDifference 12 = .ok (.lstore 5, 2) := by decide +kernel
theorem d_Na_putDifference_14 : decode b_Na_putDifference 14 = .ok (.iconst 0, 1) := by decide +kernel
theorem d_Na_putDifference_15 : decode b_Na_putDifference 15 = .ok (.istore 7, 2) := by decide +kernel
theorem d_Na_putDifference_17 : decode b_Na_putDifference 17 = .ok (.iload 7, 2) := by decide +kernel
theorem d_Na_putDifference_19 : decode b_Na_putDifference 19 = .ok (.iload_n 3, 1) := by decide +kernel
theorem d_Na_putDifference_20 : decode b_Na_putDifference 20 = .ok (.if_icmp .ge 67, 3) := by decide +kernel
theorem d_Na_putDifference_23 : decode b_Na_putDifference 23 = .ok (.lload 5, 2) := by decide +kernel
theorem d_Na_putDifference_25 : decode b_Na_putDifference 25 = .ok (.aload_n 1, 1) := by decide +kernel
theorem d_Na_putDifference_26 : decode b_Na_putDifference 26 = .ok (.getfield 9, 3) := by decide +kernel
theorem d_Na_putDifference_29 : decode b_Na_putDifference 29 = .ok (.iload 7, 2) := by decide +kernel
theorem d_Na_putDifference_31 : decode b_Na_putDifference 31 = .ok (.iaload, 1) := by decide +kernel
theorem d_Na_putDifference_32 : decode b_Na_putDifference 32 = .ok (.i2l, 1) := by decide +kernel
theorem d_Na_putDifference_33 : decode b_Na_putDifference 33 = .ok (.ldc2_w 33, 3) := by decide +kernel
theorem d_Na_putDifference_36 : decode b_Na_putDifference 36 = .ok (.land, 1) := by decide +kernel
theorem d_Na_putDifference_37 : decode b_Na_putDifference 37 = .ok (.iload 7, 2) := by decide +kernel
theorem d_Na_putDifference_39 : decode b_Na_putDifference 39 = .ok (.iload 4, 2) := by decide +kernel
theorem d_Na_putDifference_41 : decode b_Na_putDifference 41 = .ok (.if_icmp .ge 18, 3) := by decide +kernel
theorem d_Na_putDifference_44 : decode b_Na_putDifference 44 = .ok (.aload_n 2, 1) := by decide +kernel
theorem d_Na_putDifference_45 : decode b_Na_putDifference 45 = .ok (.getfield 9, 3) := by decide +kernel
theorem d_Na_putDifference_48 : decode b_Na_putDifference 48 = .ok (.iload 7, 2) := by decide +kernel
theorem d_Na_putDifference_50 : decode b_Na_putDifference 50 = .ok (.iaload, 1) := by decide +kernel
theorem d_Na_putDifference_51 : decode b_Na_putDifference 51 = .ok (.i2l, 1) := by decide +kernel
theorem d_Na_putDifference_52 : decode b_Na_putDifference 52 = .ok (.ldc2_w 33, 3) := by decide +kernel
theorem d_Na_putDifference_55 : decode b_Na_putDifference 55 = .ok (.land, 1) := by decide +kernel
theorem d_Na_putDifference_56 : decode b_Na_putDifference 56 = .ok (.goto 4, 3) := by decide +kernel
theorem d_Na_putDifference_59 : decode b_Na_putDifference 59 = .ok (.lconst 0, 1) := by decide +kernel
theorem d_Na_putDifference_60 : decode b_Na_putDifference 60 = .ok (.lsub, 1) := by decide +kernel
theorem d_Na_putDifference_61 : decode b_Na_putDifference 61 = .ok (.ladd, 1) := by decide +kernel
theorem d_Na_putDifference_62 : decode b_Na_putDifference 62 = .ok (.lstore 5, 2) := by decide +kernel
theorem d_Na_putDifference_64 : decode b_Na_putDifference 64 = .ok (.aload_n 0, 1) := by decide +kernel
theorem d_Na_putDifference_65 : decode b_Na_putDifference 65 = .ok (.getfield 9, 3) := by decide +kernel
theorem d_Na_putDifference_68 : decode b_Na_putDifference 68 = .ok (.iload 7, 2) := by decide +kernel
theorem d_Na_putDifference_70 : decode b_Na_putDifference 70 = .ok (.lload 5, 2) := by decide +kernel
theorem d_Na_putDifference_72 : decode b_Na_putDifference 72 = .ok (.l2i, 1) := by decide +kernel
theorem d_Na_putDifference_73 : decode b_Na_putDifference 73 = .ok (.iastore, 1) := by decide +kernel
theorem d_Na_putDifference_74 : decode b_Na_putDifference 74 = .ok (.lload 5, 2) := by decide +kernel
theorem d_Na_putDifference_76 : decode b_Na_putDifference 76 = .ok (.bipush 32, 2) := by decide +kernel
theorem d_Na_putDifference_78 : decode b_Na_putDifference 78 = .ok (.lshr, 1) := by decide +kernel
theorem d_Na_putDifference_79 : decode b_Na_putDifference 79 = .ok (.lstore 5, 2) := by decide +kernel
theorem d_Na_putDifference_81 : decode b_Na_putDifference 81 = .ok (.iinc 7 1, 3) := by decide +kernel
theorem d_Na_putDifference_84 : decode b_Na_putDifference 84 = .ok (.goto (-67), 3) := by decide +kernel
theorem d_Na_putDifference_87 : decode b_Na_putDifference 87 = .ok (.aload_n 0, 1) := by decide +kernel
theorem d_Na_putDifference_88 : decode b_Na_putDifference 88 = .ok (.iload_n 3, 1) := by decide +kernel
theorem d_Na_putDifference_89 : decode b_Na_putDifference 89 = .ok (.invokevirtual 23, 3) := by decide +kernel
theorem d_Na_putDifference_92 : decode b_Na_putDifference 92 = .ok (.return_, 1) := by decide +kernel
theorem d_Na_scale_0 : decode b_Na_scale 0 = .ok (.iload_n 2, 1) := by decide +kernel
theorem d_Na_scale_1 : decode b_Na_scale 1 = .ok (.i2l, 1) := by decide +kernel
theorem d_Na_scale_2 : decode b_Na_scale 2 = .ok (.lstore_n 3, 1) := by decide +kernel
theorem d_Na_scale_3 : decode b_Na_scale 3 = .ok (.iconst 0, 1) := by decide +kernel
theorem d_Na_scale_4 : decode b_Na_scale 4 = .ok (.istore 5, 2) := by decide +kernel
theorem d_Na_scale_6 : decode b_Na_scale 6 = .ok (.iload 5, 2) := by decide +kernel
theorem d_Na_scale_8 : decode b_Na_scale 8 = .ok (.aload_n 0, 1) := by decide +kernel
theorem d_Na_scale_9 : decode b_Na_scale 9 = .ok (.getfield 15, 3) := by decide +kernel
theorem d_Na_scale_12 : decode b_Na_scale 12 = .ok (.if_icmp .ge 41, 3) := by decide +kernel
theorem d_Na_scale_15 : decode b_Na_scale 15 = .ok (.lload_n 3, 1) := by decide +kernel
theorem d_Na_scale_16 : decode b_Na_scale 16 = .ok (.aload_n 0, 1) := by decide +kernel
theorem d_Na_scale_17 : decode b_Na_scale 17 = .ok (.getfield 9, 3) := by decide +kernel
theorem d_Na_scale_20 : decode b_Na_scale 20 = .ok (.iload 5, 2) := by decide +kernel
theorem d_Na_scale_22 : decode b_Na_scale 22 = .ok (.iaload, 1) := by decide +kernel
theorem d_Na_scale_23 : decode b_Na_scale 23 = .ok (.i2l, 1) := by decide +kernel
theorem d_Na_scale_24 : decode b_Na_scale 24 = .ok (.ldc2_w 33, 3) := by decide +kernel
theorem d_Na_scale_27 : decode b_Na_scale 27 = .ok (.land, 1) := by decide +kernel
theorem d_Na_scale_28 : decode b_Na_scale 28 = .ok (.iload_n 1, 1) := by decide +kernel
theorem d_Na_scale_29 : decode b_Na_scale 29 = .ok (.i2l, 1) := by decide +kernel
theorem d_Na_scale_30 : decode b_Na_scale 30 = .ok (.lmul, 1) := by decide +kernel
theorem d_Na_scale_31 : decode b_Na_scale 31 = .ok (.ladd, 1) := by decide +kernel
theorem d_Na_scale_32 : decode b_Na_scale 32 = .ok (.lstore_n 3, 1) := by decide +kernel
theorem d_Na_scale_33 : decode b_Na_scale 33 = .ok (.aload_n 0, 1) := by decide +kernel
theorem d_Na_scale_34 : decode b_Na_scale 34 = .ok (.getfield 9, 3) := by decide +kernel
theorem d_Na_scale_37 : decode b_Na_scale 37 = .ok (.iload 5, 2) := by decide +kernel
theorem d_Na_scale_39 : decode b_Na_scale 39 = .ok (.lload_n 3, 1) := by decide +kernel
theorem d_Na_scale_40 : decode b_Na_scale 40 = .ok (.l2i, 1) := by decide +kernel
theorem d_Na_scale_41 : decode b_Na_scale 41 = .ok (.iastore, 1) := by decide +kernel
theorem d_Na_scale_42 : decode b_Na_scale 42 = .ok (.lload_n 3, 1) := by decide +kernel
theorem d_Na_scale_43 : decode b_Na_scale 43 = .ok (.bipush 32, 2) := by decide +kernel
theorem d_Na_scale_45 : decode b_Na_scale 45 = .ok (.lushr, 1) := by decide +kernel
theorem d_Na_scale_46 : decode b_Na_scale 46 = .ok (.lstore_n 3, 1) := by decide +kernel
theorem d_Na_scale_47 : decode b_Na_scale 47 = .ok (.iinc 5 1, 3) := by decide +kernel
theorem d_Na_scale_50 : decode b_Na_scale 50 = .ok (.goto (-44), 3) := by decide +kernel
theorem d_Na_scale_53 : decode b_Na_scale 53 = .ok (.aload_n 0, 1) := by decide +kernel
theorem d_Na_scale_54 : decode b_Na_scale 54 = .ok (.getfield 9, 3) := by decide +kernel
theorem d_Na_scale_57 : decode b_Na_scale 57 = .ok (.aload_n 0, 1) := by decide +kernel
theorem d_Na_scale_58 : decode b_Na_scale 58 = .ok (.getfield 15, 3) := by decide +kernel
theorem d_Na_scale_61 : decode b_Na_scale 61 = .ok (.lload_n 3, 1) := by decide +kernel
theorem d_Na_scale_62 : decode b_Na_scale 62 = .ok (.l2i, 1) := by decide +kernel
theorem d_Na_scale_63 : decode b_Na_scale 63 = .ok (.iastore, 1) := by decide +kernel
theorem d_Na_scale_64 : decode b_Na_scale 64 = .ok (.aload_n 0, 1) := by decide +kernel
theorem d_Na_scale_65 : decode b_Na_scale 65 = .ok (.aload_n 0, 1) := by decide +kernel
theorem d_Na_scale_66 : decode b_Na_scale 66 = .ok (.getfield 15, 3) := by decide +kernel
theorem d_Na_scale_69 : decode b_Na_scale 69 = .ok (.iconst 1, 1) := by decide +kernel
theorem d_Na_scale_70 : decode b_Na_scale 70 = .ok (.iadd, 1) := by decide +kernel
theorem d_Na_scale_71 : decode b_Na_scale 71 = .ok (.invokevirtual 23, 3) := by decide +kernel
theorem d_Na_scale_74 : decode b_Na_scale 74 = .ok (.return_, 1) := by decide +kernel
theorem d_Na_putOnes_0 : decode b_Na_putOnes 0 = .ok (.iload_n 1, 1) := by decide +kernel
theorem d_Na_putOnes_1 : decode b_Na_putOnes 1 = .ok (.bipush 32, 2) := by decide +kernel
theorem d_Na_putOnes_3 : decode b_Na_putOnes 3 = .ok (.idiv, 1) := by decide +kernel
theorem d_Na_putOnes_4 : decode b_Na_putOnes 4 = .ok (.istore_n 2, 1) := by decide +kernel
theorem d_Na_putOnes_5 : decode b_Na_putOnes 5 = .ok (.aload_n 0, 1) := by decide +kernel
theorem d_Na_putOnes_6 : decode b_Na_putOnes 6 = .ok (.getfield 9, 3) := by decide +kernel
theorem d_Na_putOnes_9 : decode b_Na_putOnes 9 = .ok (.iconst 0, 1) := by decide +kernel
theorem d_Na_putOnes_10 : decode b_Na_putOnes 10 = .ok (.iload_n 2, 1) := by decide +kernel
theorem d_Na_putOnes_11 : decode b_Na_putOnes 11 = .ok (.iconst (-1), 1) := by decide +kernel
theorem d_Na_putOnes_12 : decode b_Na_putOnes 12 = .ok (.invokestatic 42, 3) := by decide +kernel
theorem d_Na_putOnes_15 : decode b_Na_putOnes 15 = .ok (.aload_n 0, 1) := by decide +kernel
theorem d_Na_putOnes_16 : decode b_Na_putOnes 16 = .ok (.getfield 9, 3) := by decide +kernel
theorem d_Na_putOnes_19 : decode b_Na_putOnes 19 = .ok (.iload_n 2, 1) := by decide +kernel
theorem d_Na_putOnes_20 : decode b_Na_putOnes 20 = .ok (.iconst 1, 1) := by decide +kernel
theorem d_Na_putOnes_21 : decode b_Na_putOnes 21 = .ok (.iload_n 1, 1) := by decide +kernel
theorem d_Na_putOnes_22 : decode b_Na_putOnes 22 = .ok (.bipush 32, 2) := by decide +kernel
theorem d_Na_putOnes_24 : decode b_Na_putOnes 24 = .ok (.irem, 1) := by decide +kernel
theorem d_Na_putOnes_25 : decode b_Na_putOnes 25 = .ok (.ishl, 1) := by decide +kernel
theorem d_Na_putOnes_26 : decode b_Na_putOnes 26 = .ok (.iconst 1, 1) := by decide +kernel
theorem d_Na_putOnes_27 : decode b_Na_putOnes 27 = .ok (.isub, 1) := by decide +kernel
theorem d_Na_putOnes_28 : decode b_Na_putOnes 28 = .ok (.iastore, 1) := by decide +kernel
theorem d_Na_putOnes_29 : decode b_Na_putOnes 29 = .ok (.aload_n 0, 1) := by decide +kernel
theorem d_Na_putOnes_30 : decode b_Na_putOnes 30 = .ok (.iload_n 2, 1) := by decide +kernel
theorem d_Na_putOnes_31 : decode b_Na_putOnes 31 = .ok (.iconst 1, 1) := by decide +kernel
theorem d_Na_putOnes_32 : decode b_Na_putOnes 32 = .ok (.iadd, 1) := by decide +kernel
theorem d_Na_putOnes_33 : decode b_Na_putOnes 33 = .ok (.invokevirtual 23, 3) := by decide +kernel
theorem d_Na_putOnes_36 : decode b_Na_putOnes 36 = .ok (.return_, 1) := by decide +kernel
theorem d_Na_takeOne_0 : decode b_Na_takeOne 0 = .ok (.iconst 1, 1) := by decide +kernel
theorem d_Na_takeOne_1 : decode b_Na_takeOne 1 = .ok (.istore_n 1, 1) := by decide +kernel
theorem d_Na_takeOne_2 : decode b_Na_takeOne 2 = .ok (.iconst 0, 1) := by decide +kernel
theorem d_Na_takeOne_3 : decode b_Na_takeOne 3 = .ok (.istore_n 2, 1) := by decide +kernel
theorem d_Na_takeOne_4 : decode b_Na_takeOne 4 = .ok (.iload_n 2, 1) := by decide +kernel
theorem d_Na_takeOne_5 : decode b_Na_takeOne 5 = .ok (.aload_n 0, 1) := by decide +kernel
theorem d_Na_takeOne_6 : decode b_Na_takeOne 6 = .ok (.getfield 15, 3) := by decide +kernel
theorem d_Na_takeOne_9 : decode b_Na_takeOne 9 = .ok (.if_icmp .ge 38, 3) := by decide +kernel
theorem d_Na_takeOne_12 : decode b_Na_takeOne 12 = .ok (.iload_n 1, 1) := by decide +kernel
theorem d_Na_takeOne_13 : decode b_Na_takeOne 13 = .ok (.ifCond .eq 34, 3) := by decide +kernel
theorem d_Na_takeOne_16 : decode b_Na_takeOne 16 = .ok (.aload_n 0, 1) := by decide +kernel
theorem d_Na_takeOne_17 : decode b_Na_takeOne 17 = .ok (.getfield 9, 3) := by decide +kernel
theorem d_Na_takeOne_20 : decode b_Na_takeOne 20 = .ok (.iload_n 2, 1) := by decide +kernel
theorem d_Na_takeOne_21 : decode b_Na_takeOne 21 = .ok (.iaload, 1) := by decide +kernel
theorem d_Na_takeOne_22 : decode b_Na_takeOne 22 = .ok (.ifCond .ne 7, 3) := by decide +kernel
theorem d_Na_takeOne_25 : decode b_Na_takeOne 25 = .ok (.iconst 1, 1) := by decide +kernel
theorem d_Na_takeOne_26 : decode b_Na_takeOne 26 = .ok (.goto 4, 3) := by decide +kernel
theorem d_Na_takeOne_29 : decode b_Na_takeOne 29 = .ok (.iconst 0, 1) := by decide +kernel
theorem d_Na_takeOne_30 : decode b_Na_takeOne 30 = .ok (.istore_n 1, 1) := by decide +kernel
theorem d_Na_takeOne_31 : decode b_Na_takeOne 31 = .ok (.aload_n 0, 1) := by decide +kernel
theorem d_Na_takeOne_32 : decode b_Na_takeOne 32 = .ok (.getfield 9, 3) := by decide +kernel
theorem d_Na_takeOne_35 : decode b_Na_takeOne 35 = .ok (.iload_n 2, 1) := by decide +kernel
theorem d_Na_takeOne_36 : decode b_Na_takeOne 36 = .ok (.dup2, 1) := by decide +kernel
theorem d_Na_takeOne_37 : decode b_Na_takeOne 37 = .ok (.iaload, 1) := by decide +kernel
theorem d_Na_takeOne_38 : decode b_Na_takeOne 38 = .ok (.iconst 1, 1) := by decide +kernel
theorem d_Na_takeOne_39 : decode b_Na_takeOne 39 = .ok (.isub, 1) := by decide +kernel
theorem d_Na_takeOne_40 : decode b_Na_takeOne 40 = .ok (.iastore, 1) := by decide +kernel
theorem d_Na_takeOne_41 : decode b_Na_takeOne 41 = .ok (.iinc 2 1, 3) := by decide +kernel
theorem d_Na_takeOne_44 : decode b_Na_takeOne 44 = .ok (.goto (-40), 3) := by decide +kernel
theorem d_Na_takeOne_47 : decode b_Na_takeOne 47 = .ok (.aload_n 0, 1) := by decide +kernel
theorem d_Na_takeOne_48 : decode b_Na_takeOne 48 = .ok (.aload_n 0, 1) := by decide +kernel
theorem d_Na_takeOne_49 : decode b_Na_takeOne 49 = .ok (.getfield 15, 3) := by decide +kernel
theorem d_Na_takeOne_52 : decode b_Na_takeOne 52 = .ok (.invokevirtual 23, 3) := by decide +kernel
theorem d_Na_takeOne_55 : decode b_Na_takeOne 55 = .ok (.return_, 1) := by decide +kernel
theorem d_Na_reduce_0 : decode b_Na_reduce 0 = .ok (.aload_n 0, 1) := by decide +kernel
theorem d_Na_reduce_1 : decode b_Na_reduce 1 = .ok (.getfield 9, 3) := by decide +kernel
theorem d_Na_reduce_4 : decode b_Na_reduce 4 = .ok (.astore_n 2, 1) := by decide +kernel
theorem d_Na_reduce_5 : decode b_Na_reduce 5 = .ok (.lconst 0, 1) := by decide +kernel
theorem d_Na_reduce_6 : decode b_Na_reduce 6 = .ok (.lstore_n 3, 1) := by decide +kernel
theorem d_Na_reduce_7 : decode b_Na_reduce 7 = .ok (.aload_n 0, 1) := by decide +kernel
theorem d_Na_reduce_8 : decode b_Na_reduce 8 = .ok (.getfield 15, 3) := by decide +kernel
theorem d_Na_reduce_11 : decode b_Na_reduce 11 = .ok (.iconst 1, 1) := by decide +kernel
theorem d_Na_reduce_12 : decode b_Na_reduce 12 = .ok (.isub, 1) := by decide +kernel
theorem d_Na_reduce_13 : decode b_Na_reduce 13 = .ok (.istore 5, 2) := by decide +kernel
theorem d_Na_reduce_15 : decode b_Na_reduce 15 = .ok (.iload 5, 2) := by decide +kernel
theorem d_Na_reduce_17 : decode b_Na_reduce 17 = .ok (.ifCond .lt 48, 3) := by decide +kernel
theorem d_Na_reduce_20 : decode b_Na_reduce 20 = .ok (.lload_n 3, 1) := by decide +kernel
theorem d_Na_reduce_21 : decode b_Na_reduce 21 = .ok (.bipush 32, 2) := by decide +kernel
theorem d_Na_reduce_23 : decode b_Na_reduce 23 = .ok (.lshl, 1) := by decide +kernel
theorem d_Na_reduce_24 : decode b_Na_reduce 24 = .ok (.aload_n 2, 1) := by decide +kernel
theorem d_Na_reduce_25 : decode b_Na_reduce 25 = .ok (.iload 5, 2) := by decide +kernel
theorem d_Na_reduce_27 : decode b_Na_reduce 27 = .ok (.iaload, 1) := by decide +kernel
theorem d_Na_reduce_28 : decode b_Na_reduce 28 = .ok (.i2l, 1) := by decide +kernel
theorem d_Na_reduce_29 : decode b_Na_reduce 29 = .ok (.ldc2_w 33, 3) := by decide +kernel
theorem d_Na_reduce_32 : decode b_Na_reduce 32 = .ok (.land, 1) := by decide +kernel
theorem d_Na_reduce_33 : decode b_Na_reduce 33 = .ok (.lor, 1) := by decide +kernel
theorem d_Na_reduce_34 : decode b_Na_reduce 34 = .ok (.lstore 6, 2) := by decide +kernel
theorem d_Na_reduce_36 : decode b_Na_reduce 36 = .ok (.lload 6, 2) := by decide +kernel
theorem d_Na_reduce_38 : decode b_Na_reduce 38 = .ok (.iload_n 1, 1) := by decide +kernel
theorem d_Na_reduce_39 : decode b_Na_reduce 39 = .ok (.i2l, 1) := by decide +kernel
theorem d_Na_reduce_40 : decode b_Na_reduce 40 = .ok (.ldiv, 1) := by decide +kernel
theorem d_Na_reduce_41 : decode b_Na_reduce 41 = .ok (.lstore 8, 2) := by decide +kernel
theorem d_Na_reduce_43 : decode b_Na_reduce 43 = .ok (.aload_n 2, 1) := by decide +kernel
theorem d_Na_reduce_44 : decode b_Na_reduce 44 = .ok (.iload 5, 2) := by decide +kernel
theorem d_Na_reduce_46 : decode b_Na_reduce 46 = .ok (.lload 8, 2) := by decide +kernel
theorem d_Na_reduce_48 : decode b_Na_reduce 48 = .ok (.l2i, 1) := by decide +kernel
theorem d_Na_reduce_49 : decode b_Na_reduce 49 = .ok (.iastore, 1) := by decide +kernel
theorem d_Na_reduce_50 : decode b_Na_reduce 50 = .ok (.lload 6, 2) := by decide +kernel
theorem d_Na_reduce_52 : decode b_Na_reduce 52 = .ok (.lload 8, 2) := by decide +kernel
theorem d_Na_reduce_54 : decode b_Na_reduce 54 = .ok (.iload_n 1, 1) := by decide +kernel
theorem d_Na_reduce_55 : decode b_Na_reduce 55 = .ok (.i2l, 1) := by decide +kernel
theorem d_Na_reduce_56 : decode b_Na_reduce 56 = .ok (.lmul, 1) := by decide +kernel
theorem d_Na_reduce_57 : decode b_Na_reduce 57 = .ok (.lsub, 1) := by decide +kernel
theorem d_Na_reduce_58 : decode b_Na_reduce 58 = .ok (.lstore_n 3, 1) := by decide +kernel
theorem d_Na_reduce_59 : decode b_Na_reduce 59 = .ok (.iinc 5 (-1), 3) := by decide +kernel
theorem d_Na_reduce_62 : decode b_Na_reduce 62 = .ok (.goto (-47), 3) := by decide +kernel
theorem d_Na_reduce_65 : decode b_Na_reduce 65 = .ok (.aload_n 0, 1) := by decide +kernel
theorem d_Na_reduce_66 : decode b_Na_reduce 66 = .ok (.aload_n 0, 1) := by decide +kernel
theorem d_Na_reduce_67 : decode b_Na_reduce 67 = .ok (.getfield 15, 3) := by decide +kernel
theorem d_Na_reduce_70 : decode b_Na_reduce 70 = .ok (.invokevirtual 23, 3) := by decide +kernel
theorem d_Na_reduce_73 : decode b_Na_reduce 73 = .ok (.lload_n 3, 1) := by decide +kernel
theorem d_Na_reduce_74 : decode b_Na_reduce 74 = .ok (.l2i, 1) := by decide +kernel
theorem d_Na_reduce_75 : decode b_Na_reduce 75 = .ok (.ireturn, 1) := by decide +kernel
