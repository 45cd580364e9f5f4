/-! DECODE ROWS of Lw (by program) -/
theorem d_Lw_init_0 : decode b_Lw_init 0 = .ok (.aload_n 0, 1) := by decide +kernel
theorem d_Lw_init_1 : decode b_Lw_init 1 = .ok (.invokespecial 1, 3) := by decide +kernel
theorem d_Lw_init_4 : decode b_Lw_init 4 = .ok (.aload_n 0, 1) := by decide +kernel
theorem d_Lw_init_5 : decode b_Lw_init 5 = .ok (.bipush 10, 2) := by decide +kernel
theorem d_Lw_init_7 : decode b_Lw_init 7 = .ok (.anewarray 9, 3) := by decide +kernel
theorem d_Lw_init_10 : decode b_Lw_init 10 = .ok (.putfield 11, 3) := by decide +kernel
theorem d_Lw_init_13 : decode b_Lw_init 13 = .ok (.aload_n 0, 1) := by decide +kernel
theorem d_Lw_init_14 : decode b_Lw_init 14 = .ok (.new 9, 3) := by decide +kernel
theorem d_Lw_init_17 : decode b_Lw_init 17 = .ok (.dup, 1) := by decide +kernel
theorem d_Lw_init_18 : decode b_Lw_init 18 = .ok (.invokespecial 15, 3) := by decide +kernel
theorem d_Lw_init_21 : decode b_Lw_init 21 = .ok (.putfield 16, 3) := by decide +kernel
theorem d_Lw_init_24 : decode b_Lw_init 24 = .ok (.aload_n 0, 1) := by decide +kernel
theorem d_Lw_init_25 : decode b_Lw_init 25 = .ok (.new 20, 3) := by decide +kernel
theorem d_Lw_init_28 : decode b_Lw_init 28 = .ok (.dup, 1) := by decide +kernel
theorem d_Lw_init_29 : decode b_Lw_init 29 = .ok (.invokespecial 22, 3) := by decide +kernel
theorem d_Lw_init_32 : decode b_Lw_init 32 = .ok (.putfield 23, 3) := by decide +kernel
theorem d_Lw_init_35 : decode b_Lw_init 35 = .ok (.aload_n 0, 1) := by decide +kernel
theorem d_Lw_init_36 : decode b_Lw_init 36 = .ok (.new 27, 3) := by decide +kernel
theorem d_Lw_init_39 : decode b_Lw_init 39 = .ok (.dup, 1) := by decide +kernel
theorem d_Lw_init_40 : decode b_Lw_init 40 = .ok (.invokespecial 29, 3) := by decide +kernel
theorem d_Lw_init_43 : decode b_Lw_init 43 = .ok (.putfield 30, 3) := by decide +kernel
theorem d_Lw_init_46 : decode b_Lw_init 46 = .ok (.aload_n 0, 1) := by decide +kernel
theorem d_Lw_init_47 : decode b_Lw_init 47 = .ok (.sipush 4800, 3) := by decide +kernel
theorem d_Lw_init_50 : decode b_Lw_init 50 = .ok (.newarray .int, 2) := by decide +kernel
theorem d_Lw_init_52 : decode b_Lw_init 52 = .ok (.putfield 34, 3) := by decide +kernel
theorem d_Lw_init_55 : decode b_Lw_init 55 = .ok (.aload_n 0, 1) := by decide +kernel
theorem d_Lw_init_56 : decode b_Lw_init 56 = .ok (.sipush 4096, 3) := by decide +kernel
theorem d_Lw_init_59 : decode b_Lw_init 59 = .ok (.newarray .byte, 2) := by decide +kernel
theorem d_Lw_init_61 : decode b_Lw_init 61 = .ok (.putfield 38, 3) := by decide +kernel
theorem d_Lw_init_64 : decode b_Lw_init 64 = .ok (.aload_n 0, 1) := by decide +kernel
theorem d_Lw_init_65 : decode b_Lw_init 65 = .ok (.sipush 20000, 3) := by decide +kernel
theorem d_Lw_init_68 : decode b_Lw_init 68 = .ok (.newarray .byte, 2) := by decide +kernel
theorem d_Lw_init_70 : decode b_Lw_init 70 = .ok (.putfield 42, 3) := by decide +kernel
theorem d_Lw_init_73 : decode b_Lw_init 73 = .ok (.aload_n 0, 1) := by decide +kernel
theorem d_Lw_init_74 : decode b_Lw_init 74 = .ok (.iconst 0, 1) := by decide +kernel
theorem d_Lw_init_75 : decode b_Lw_init 75 = .ok (.putfield 45, 3) := by decide +kernel
theorem d_Lw_init_78 : decode b_Lw_init 78 = .ok (.aload_n 0, 1) := by decide +kernel
theorem d_Lw_init_79 : decode b_Lw_init 79 = .ok (.iconst 0, 1) := by decide +kernel
theorem d_Lw_init_80 : decode b_Lw_init 80 = .ok (.putfield 49, 3) := by decide +kernel
theorem d_Lw_init_83 : decode b_Lw_init 83 = .ok (.iconst 0, 1) := by decide +kernel
theorem d_Lw_init_84 : decode b_Lw_init 84 = .ok (.istore_n 1, 1) := by decide +kernel
theorem d_Lw_init_85 : decode b_Lw_init 85 = .ok (.iload_n 1, 1) := by decide +kernel
theorem d_Lw_init_86 : decode b_Lw_init 86 = .ok (.bipush 10, 2) := by decide +kernel
theorem d_Lw_init_88 : decode b_Lw_init 88 = .ok (.if_icmp .ge 22, 3) := by decide +kernel
theorem d_Lw_init_91 : decode b_Lw_init 91 = .ok (.aload_n 0, 1) := by decide +kernel
theorem d_Lw_init_92 : decode b_Lw_init 92 = .ok (.getfield 11, 3) := by decide +kernel
theorem d_Lw_init_95 : decode b_Lw_init 95 = .ok (.iload_n 1, 1) := by decide +kernel
theorem d_Lw_init_96 : decode b_Lw_init 96 = .ok (.new 9, 3) := by decide +kernel
theorem d_Lw_init_99 : decode b_Lw_init 99 = .ok (.dup, 1) := by decide +kernel
theorem d_Lw_init_100 : decode b_Lw_init 100 = .ok (.invokespecial 15, 3) := by decide +kernel
theorem d_Lw_init_103 : decode b_Lw_init 103 = .ok (.aastore, 1) := by decide +kernel
theorem d_Lw_init_104 : decode b_Lw_init 104 = .ok (.iinc 1 1, 3) := by decide +kernel
theorem d_Lw_init_107 : decode b_Lw_init 107 = .ok (.goto (-22), 3) := by decide +kernel
theorem d_Lw_init_110 : decode b_Lw_init 110 = .ok (.return_, 1) := by decide +kernel
theorem d_Lw_set_0 : decode b_Lw_set 0 = .ok (.aload_n 0, 1) := by decide +kernel
theorem d_Lw_set_1 : decode b_Lw_set 1 = .ok (.iload_n 1, 1) := by decide +kernel
theorem d_Lw_set_2 : decode b_Lw_set 2 = .ok (.invokevirtual 52, 3) := by decide +kernel
theorem d_Lw_set_5 : decode b_Lw_set 5 = .ok (.astore 4, 2) := by decide +kernel
theorem d_Lw_set_7 : decode b_Lw_set 7 = .ok (.aload 4, 2) := by decide +kernel
theorem d_Lw_set_9 : decode b_Lw_set 9 = .ok (.lload_n 2, 1) := by decide +kernel
theorem d_Lw_set_10 : decode b_Lw_set 10 = .ok (.invokevirtual 56, 3) := by decide +kernel
theorem d_Lw_set_13 : decode b_Lw_set 13 = .ok (.aload 4, 2) := by decide +kernel
theorem d_Lw_set_15 : decode b_Lw_set 15 = .ok (.invokevirtual 60, 3) := by decide +kernel
theorem d_Lw_set_18 : decode b_Lw_set 18 = .ok (.ireturn, 1) := by decide +kernel
theorem d_Lw_registerAt_0 : decode b_Lw_registerAt 0 = .ok (.iload_n 1, 1) := by decide +kernel
theorem d_Lw_registerAt_1 : decode b_Lw_registerAt 1 = .ok (.iconst 0, 1) := by decide +kernel
theorem d_Lw_registerAt_2 : decode b_Lw_registerAt 2 = .ok (.bipush 9, 2) := by decide +kernel
theorem d_Lw_registerAt_4 : decode b_Lw_registerAt 4 = .ok (.invokestatic 70, 3) := by decide +kernel
theorem d_Lw_registerAt_7 : decode b_Lw_registerAt 7 = .ok (.aload_n 0, 1) := by decide +kernel
theorem d_Lw_registerAt_8 : decode b_Lw_registerAt 8 = .ok (.getfield 11, 3) := by decide +kernel
theorem d_Lw_registerAt_11 : decode b_Lw_registerAt 11 = .ok (.iload_n 1, 1) := by decide +kernel
theorem d_Lw_registerAt_12 : decode b_Lw_registerAt 12 = .ok (.aaload, 1) := by decide +kernel
theorem d_Lw_registerAt_13 : decode b_Lw_registerAt 13 = .ok (.areturn, 1) := by decide +kernel
theorem d_Lw_requireRange_0 : decode b_Lw_requireRange 0 = .ok (.iload_n 0, 1) := by decide +kernel
theorem d_Lw_requireRange_1 : decode b_Lw_requireRange 1 = .ok (.iload_n 1, 1) := by decide +kernel
theorem d_Lw_requireRange_2 : decode b_Lw_requireRange 2 = .ok (.if_icmp .lt 8, 3) := by decide +kernel
theorem d_Lw_requireRange_5 : decode b_Lw_requireRange 5 = .ok (.iload_n 0, 1) := by decide +kernel
theorem d_Lw_requireRange_6 : decode b_Lw_requireRange 6 = .ok (.iload_n 2, 1) := by decide +kernel
theorem d_Lw_requireRange_7 : decode b_Lw_requireRange 7 = .ok (.if_icmp .le 11, 3) := by decide +kernel
theorem d_Lw_requireRange_10 : decode b_Lw_requireRange 10 = .ok (.new 159, 3) := by decide +kernel
theorem d_Lw_requireRange_13 : decode b_Lw_requireRange 13 = .ok (.dup, 1) := by decide +kernel
theorem d_Lw_requireRange_14 : decode b_Lw_requireRange 14 = .ok (.invokespecial 161, 3) := by decide +kernel
theorem d_Lw_requireRange_17 : decode b_Lw_requireRange 17 = .ok (.athrow, 1) := by decide +kernel
theorem d_Lw_requireRange_18 : decode b_Lw_requireRange 18 = .ok (.return_, 1) := by decide +kernel
theorem d_Lw_bitsOf_0 : decode b_Lw_bitsOf 0 = .ok (.iload_n 0, 1) := by decide +kernel
theorem d_Lw_bitsOf_1 : decode b_Lw_bitsOf 1 = .ok (.iload_n 0, 1) := by decide +kernel
theorem d_Lw_bitsOf_2 : decode b_Lw_bitsOf 2 = .ok (.iconst 1, 1) := by decide +kernel
theorem d_Lw_bitsOf_3 : decode b_Lw_bitsOf 3 = .ok (.iushr, 1) := by decide +kernel
theorem d_Lw_bitsOf_4 : decode b_Lw_bitsOf 4 = .ok (.ior, 1) := by decide +kernel
theorem d_Lw_bitsOf_5 : decode b_Lw_bitsOf 5 = .ok (.istore_n 1, 1) := by decide +kernel
theorem d_Lw_bitsOf_6 : decode b_Lw_bitsOf 6 = .ok (.iload_n 1, 1) := by decide +kernel
theorem d_Lw_bitsOf_7 : decode b_Lw_bitsOf 7 = .ok (.iload_n 1, 1) := by decide +kernel
theorem d_Lw_bitsOf_8 : decode b_Lw_bitsOf 8 = .ok (.iconst 2, 1) := by decide +kernel
theorem d_Lw_bitsOf_9 : decode b_Lw_bitsOf 9 = .ok (.iushr, 1) := by decide +kernel
theorem d_Lw_bitsOf_10 : decode b_Lw_bitsOf 10 = .ok (.ior, 1) := by decide +kernel
theorem d_Lw_bitsOf_11 : decode b_Lw_bitsOf 11 = .ok (.istore_n 1, 1) := by decide +kernel
theorem d_Lw_bitsOf_12 : decode b_Lw_bitsOf 12 = .ok (.iload_n 1, 1) := by decide +kernel
theorem d_Lw_bitsOf_13 : decode b_Lw_bitsOf 13 = .ok (.iload_n 1, 1) := by decide +kernel
theorem d_Lw_bitsOf_14 : decode b_Lw_bitsOf 14 = .ok (.iconst 4, 1) := by decide +kernel
theorem d_Lw_bitsOf_15 : decode b_Lw_bitsOf 15 = .ok (.iushr, 1) := by decide +kernel
theorem d_Lw_bitsOf_16 : decode b_Lw_bitsOf 16 = .ok (.ior, 1) := by decide +kernel
theorem d_Lw_bitsOf_17 : decode b_Lw_bitsOf 17 = .ok (.istore_n 1, 1) := by decide +kernel
theorem d_Lw_bitsOf_18 : decode b_Lw_bitsOf 18 = .ok (.iload_n 1, 1) := by decide +kernel
theorem d_Lw_bitsOf_19 : decode b_Lw_bitsOf 19 = .ok (.iload_n 1, 1) := by decide +kernel
theorem d_Lw_bitsOf_20 : decode b_Lw_bitsOf 20 = .ok (.bipush 8, 2) := by decide +kernel
theorem d_Lw_bitsOf_22 : decode b_Lw_bitsOf 22 = .ok (.iushr, 1) := by decide +kernel
theorem d_Lw_bitsOf_23 : decode b_Lw_bitsOf 23 = .ok (.ior, 1) := by decide +kernel
theorem d_Lw_bitsOf_24 : decode b_Lw_bitsOf 24 = .ok (.istore_n 1, 1) := by decide +kernel
theorem d_Lw_bitsOf_25 : decode b_Lw_bitsOf 25 = .ok (.iload_n 1, 1) := by decide +kernel
theorem d_Lw_bitsOf_26 : decode b_Lw_bitsOf 26 = .ok (.iload_n 1, 1) := by decide +kernel
theorem d_Lw_bitsOf_27 : decode b_Lw_bitsOf 27 = .ok (.bipush 16, 2) := by decide +kernel
theorem d_Lw_bitsOf_29 : decode b_Lw_bitsOf 29 = .ok (.iushr, 1) := by decide +kernel
theorem d_Lw_bitsOf_30 : decode b_Lw_bitsOf 30 = .ok (.ior, 1) := by decide +kernel
theorem d_Lw_bitsOf_31 : decode b_Lw_bitsOf 31 = .ok (.istore_n 1, 1) := by decide +kernel
theorem d_Lw_bitsOf_32 : decode b_Lw_bitsOf 32 = .ok (.iload_n 1, 1) := by decide +kernel
theorem d_Lw_bitsOf_33 : decode b_Lw_bitsOf 33 = .ok (.invokestatic 169, 3) := by decide +kernel
theorem d_Lw_bitsOf_36 : decode b_Lw_bitsOf 36 = .ok (.ireturn, 1) := by decide +kernel
theorem d_Lw_copy_0 : decode b_Lw_copy 0 = .ok (.aload_n 0, 1) := by decide +kernel
theorem d_Lw_copy_1 : decode b_Lw_copy 1 = .ok (.iload_n 1, 1) := by decide +kernel
theorem d_Lw_copy_2 : decode b_Lw_copy 2 = .ok (.invokevirtual 52, 3) := by decide +kernel
theorem d_Lw_copy_5 : decode b_Lw_copy 5 = .ok (.astore_n 3, 1) := by decide +kernel
theorem d_Lw_copy_6 : decode b_Lw_copy 6 = .ok (.aload_n 3, 1) := by decide +kernel
theorem d_Lw_copy_7 : decode b_Lw_copy 7 = .ok (.aload_n 0, 1) := by decide +kernel
theorem d_Lw_copy_8 : decode b_Lw_copy 8 = .ok (.iload_n 2, 1) := by decide +kernel
theorem d_Lw_copy_9 : decode b_Lw_copy 9 = .ok (.invokevirtual 52, 3) := by decide +kernel
theorem d_Lw_copy_12 : decode b_Lw_copy 12 = .ok (.invokestatic 64, 3) := by decide +kernel
theorem d_Lw_copy_15 : decode b_Lw_copy 15 = .ok (.ireturn, 1) := by decide +kernel
theorem d_Lw_keep_0 : decode b_Lw_keep 0 = .ok (.aload_n 0, 1) := by decide +kernel
theorem d_Lw_keep_1 : decode b_Lw_keep 1 = .ok (.aload_n 1, 1) := by decide +kernel
theorem d_Lw_keep_2 : decode b_Lw_keep 2 = .ok (.invokevirtual 165, 3) := by decide +kernel
theorem d_Lw_keep_5 : decode b_Lw_keep 5 = .ok (.aload_n 0, 1) := by decide +kernel
theorem d_Lw_keep_6 : decode b_Lw_keep 6 = .ok (.invokevirtual 60, 3) := by decide +kernel
theorem d_Lw_keep_9 : decode b_Lw_keep 9 = .ok (.ireturn, 1) := by decide +kernel
theorem d_Lw_shift_0 : decode b_Lw_shift 0 = .ok (.aload_n 0, 1) := by decide +kernel
theorem d_Lw_shift_1 : decode b_Lw_shift 1 = .ok (.iload_n 1, 1) := by decide +kernel
theorem d_Lw_shift_2 : decode b_Lw_shift 2 = .ok (.invokevirtual 52, 3) := by decide +kernel
theorem d_Lw_shift_5 : decode b_Lw_shift 5 = .ok (.astore 4, 2) := by decide +kernel
theorem d_Lw_shift_7 : decode b_Lw_shift 7 = .ok (.aload_n 0, 1) := by decide +kernel
theorem d_Lw_shift_8 : decode b_Lw_shift 8 = .ok (.iload_n 2, 1) := by decide +kernel
theorem d_Lw_shift_9 : decode b_Lw_shift 9 = .ok (.invokevirtual 52, 3) := by decide +kernel
theorem d_Lw_shift_12 : decode b_Lw_shift 12 = .ok (.astore 5, 2) := by decide +kernel
theorem d_Lw_shift_14 : decode b_Lw_shift 14 = .ok (.iload_n 3, 1) := by decide +kernel
theorem d_Lw_shift_15 : decode b_Lw_shift 15 = .ok (.ldc 68, 2) := by decide +kernel
theorem d_Lw_shift_17 : decode b_Lw_shift 17 = .ok (.ldc 69, 2) := by decide +kernel
theorem d_Lw_shift_19 : decode b_Lw_shift 19 = .ok (.invokestatic 70, 3) := by decide +kernel
theorem d_Lw_shift_22 : decode b_Lw_shift 22 = .ok (.aload 5, 2) := by decide +kernel
theorem d_Lw_shift_24 : decode b_Lw_shift 24 = .ok (.invokevirtual 60, 3) := by decide +kernel
theorem d_Lw_shift_27 : decode b_Lw_shift 27 = .ok (.iload_n 3, 1) := by decide +kernel
theorem d_Lw_shift_28 : decode b_Lw_shift 28 = .ok (.iadd, 1) := by decide +kernel
theorem d_Lw_shift_29 : decode b_Lw_shift 29 = .ok (.ldc 69, 2) := by decide +kernel
theorem d_Lw_shift_31 : decode b_Lw_shift 31 = .ok (.invokestatic 74, 3) := by decide +kernel
theorem d_Lw_shift_34 : decode b_Lw_shift 34 = .ok (.aload 4, 2) := by decide +kernel
theorem d_Lw_shift_36 : decode b_Lw_shift 36 = .ok (.aload 5, 2) := by decide +kernel
theorem d_Lw_shift_38 : decode b_Lw_shift 38 = .ok (.iload_n 3, 1) := by decide +kernel
theorem d_Lw_shift_39 : decode b_Lw_shift 39 = .ok (.invokevirtual 78, 3) := by decide +kernel
theorem d_Lw_shift_42 : decode b_Lw_shift 42 = .ok (.aload 4, 2) := by decide +kernel
theorem d_Lw_shift_44 : decode b_Lw_shift 44 = .ok (.invokevirtual 60, 3) := by decide +kernel
theorem d_Lw_shift_47 : decode b_Lw_shift 47 = .ok (.ireturn, 1) := by decide +kernel
theorem d_Lw_refuseBeyond_0 : decode b_Lw_refuseBeyond 0 = .ok (.iload_n 0, 1) := by decide +kernel
theorem d_Lw_refuseBeyond_1 : decode b_Lw_refuseBeyond 1 = .ok (.iload_n 1, 1) := by decide +kernel
theorem d_Lw_refuseBeyond_2 : decode b_Lw_refuseBeyond 2 = .ok (.if_icmp .le 11, 3) := by decide +kernel
theorem d_Lw_refuseBeyond_5 : decode b_Lw_refuseBeyond 5 = .ok (.new 162, 3) := by decide +kernel
theorem d_Lw_refuseBeyond_8 : decode b_Lw_refuseBeyond 8 = .ok (.dup, 1) := by decide +kernel
theorem d_Lw_refuseBeyond_9 : decode b_Lw_refuseBeyond 9 = .ok (.invokespecial 164, 3) := by decide +kernel
theorem d_Lw_refuseBeyond_12 : decode b_Lw_refuseBeyond 12 = .ok (.athrow, 1) := by decide +kernel
theorem d_Lw_refuseBeyond_13 : decode b_Lw_refuseBeyond 13 = .ok (.return_, 1) := by decide +kernel
theorem d_Lw_add_0 : decode b_Lw_add 0 = .ok (.aload_n 0, 1) := by decide +kernel
theorem d_Lw_add_1 : decode b_Lw_add 1 = .ok (.iload_n 1, 1) := by decide +kernel
theorem d_Lw_add_2 : decode b_Lw_add 2 = .ok (.invokevirtual 52, 3) := by decide +kernel
theorem d_Lw_add_5 : decode b_Lw_add 5 = .ok (.astore 4, 2) := by decide +kernel
theorem d_Lw_add_7 : decode b_Lw_add 7 = .ok (.aload_n 0, 1) := by decide +kernel
theorem d_Lw_add_8 : decode b_Lw_add 8 = .ok (.getfield 16, 3) := by decide +kernel
theorem d_Lw_add_11 : decode b_Lw_add 11 = .ok (.aload_n 0, 1) := by decide +kernel
theorem d_Lw_add_12 : decode b_Lw_add 12 = .ok (.iload_n 2, 1) := by decide +kernel
theorem d_Lw_add_13 : decode b_Lw_add 13 = .ok (.invokevirtual 52, 3) := by decide +kernel
theorem d_Lw_add_16 : decode b_Lw_add 16 = .ok (.aload_n 0, 1) := by decide +kernel
theorem d_Lw_add_17 : decode b_Lw_add 17 = .ok (.iload_n 3, 1) := by decide +kernel
theorem d_Lw_add_18 : decode b_Lw_add 18 = .ok (.invokevirtual 52, 3) := by decide +kernel
theorem d_Lw_add_21 : decode b_Lw_add 21 = .ok (.invokevirtual 82, 3) := by decide +kernel
theorem d_Lw_add_24 : decode b_Lw_add 24 = .ok (.aload_n 0, 1) := by decide +kernel
theorem d_Lw_add_25 : decode b_Lw_add 25 = .ok (.getfield 16, 3) := by decide +kernel
theorem d_Lw_add_28 : decode b_Lw_add 28 = .ok (.invokevirtual 60, 3) := by decide +kernel
theorem d_Lw_add_31 : decode b_Lw_add 31 = .ok (.ldc 69, 2) := by decide +kernel
theorem d_Lw_add_33 : decode b_Lw_add 33 = .ok (.invokestatic 74, 3) := by decide +kernel
theorem d_Lw_add_36 : decode b_Lw_add 36 = .ok (.aload 4, 2) := by decide +kernel
theorem d_Lw_add_38 : decode b_Lw_add 38 = .ok (.aload_n 0, 1) := by decide +kernel
theorem d_Lw_add_39 : decode b_Lw_add 39 = .ok (.getfield 16, 3) := by decide +kernel
theorem d_Lw_add_42 : decode b_Lw_add 42 = .ok (.invokestatic 64, 3) := by decide +kernel
theorem d_Lw_add_45 : decode b_Lw_add 45 = .ok (.ireturn, 1) := by decide +kernel
theorem d_Lw_subtract_0 : decode b_Lw_subtract 0 = .ok (.aload_n 0, 1) := by decide +kernel
theorem d_Lw_subtract_1 : decode b_Lw_subtract 1 = .ok (.iload_n 1, 1) := by decide +kernel
theorem d_Lw_subtract_2 : decode b_Lw_subtract 2 = .ok (.invokevirtual 52, 3) := by decide +kernel
theorem d_Lw_subtract_5 : decode b_Lw_subtract 5 = .ok (.astore 4, 2) := by decide +kernel
theorem d_Lw_subtract_7 : decode b_Lw_subtract 7 = .ok (.aload_n 0, 1) := by decide +kernel
theorem d_Lw_subtract_8 : decode b_Lw_subtract 8 = .ok (.iload_n 2, 1) := by decide +kernel
theorem d_Lw_subtract_9 : decode b_Lw_subtract 9 = .ok (.invokevirtual 52, 3) := by decide +kernel
theorem d_Lw_subtract_12 : decode b_Lw_subtract 12 = .ok (.astore 5, 2) := by decide +kernel
theorem d_Lw_subtract_14 : decode b_Lw_subtract 14 = .ok (.aload_n 0, 1) := by decide +kernel
theorem d_Lw_subtract_15 : decode b_Lw_subtract 15 = .ok (.iload_n 3, 1) := by decide +kernel
theorem d_Lw_subtract_16 : decode b_Lw_subtract 16 = .ok (.invokevirtual 52, 3) := by decide +kernel
theorem d_Lw_subtract_19 : decode b_Lw_subtract 19 = .ok (.astore 6, 2) := by decide +kernel
theorem d_Lw_subtract_21 : decode b_Lw_subtract 21 = .ok (.aload 5, 2) := by decide +kernel
theorem d_Lw_subtract_23 : decode b_Lw_subtract 23 = .ok (.aload 6, 2) := by decide +kernel
theorem d_Lw_subtract_25 : decode b_Lw_subtract 25 = .ok (.invokevirtual 86, 3) := by decide +kernel
theorem d_Lw_subtract_28 : decode b_Lw_subtract 28 = .ok (.ifCond .ge 11, 3) := by decide +kernel
theorem d_Lw_subtract_31 : decode b_Lw_subtract 31 = .ok (.new 90, 3) := by decide +kernel
theorem d_Lw_subtract_34 : decode b_Lw_subtract 34 = .ok (.dup, 1) := by decide +kernel
theorem d_Lw_subtract_35 : decode b_Lw_subtract 35 = .ok (.invokespecial 92, 3) := by decide +kernel
theorem d_Lw_subtract_38 : decode b_Lw_subtract 38 = .ok (.athrow, 1) := by decide +kernel
theorem d_Lw_subtract_39 : decode b_Lw_subtract 39 = .ok (.aload 4, 2) := by decide +kernel
theorem d_Lw_subtract_41 : decode b_Lw_subtract 41 = .ok (.aload 5, 2) := by decide +kernel
theorem d_Lw_subtract_43 : decode b_Lw_subtract 43 = .ok (.aload 6, 2) := by decide +kernel
theorem d_Lw_subtract_45 : decode b_Lw_subtract 45 = .ok (.invokevirtual 93, 3) := by decide +kernel
theorem d_Lw_subtract_48 : decode b_Lw_subtract 48 = .ok (.aload 4, 2) := by decide +kernel
theorem d_Lw_subtract_50 : decode b_Lw_subtract 50 = .ok (.invokevirtual 60, 3) := by decide +kernel
theorem d_Lw_subtract_53 : decode b_Lw_subtract 53 = .ok (.ireturn, 1) := by decide +kernel
theorem d_Lw_times_0 : decode b_Lw_times 0 = .ok (.aload_n 0, 1) := by decide +kernel
theorem d_Lw_times_1 : decode b_Lw_times 1 = .ok (.iload_n 1, 1) := by decide +kernel
theorem d_Lw_times_2 : decode b_Lw_times 2 = .ok (.invokevirtual 52, 3) := by decide +kernel
theorem d_Lw_times_5 : decode b_Lw_times 5 = .ok (.astore 4, 2) := by decide +kernel
theorem d_Lw_times_7 : decode b_Lw_times 7 = .ok (.aload_n 0, 1) := by decide +kernel
theorem d_Lw_times_8 : decode b_Lw_times 8 = .ok (.iload_n 2, 1) := by decide +kernel
theorem d_Lw_times_9 : decode b_Lw_times 9 = .ok (.invokevirtual 52, 3) := by decide +kernel
theorem d_Lw_times_12 : decode b_Lw_times 12 = .ok (.astore 5, 2) := by decide +kernel
theorem d_Lw_times_14 : decode b_Lw_times 14 = .ok (.aload_n 0, 1) := by decide +kernel
theorem d_Lw_times_15 : decode b_Lw_times 15 = .ok (.iload_n 3, 1) := by decide +kernel
theorem d_Lw_times_16 : decode b_Lw_times 16 = .ok (.invokevirtual 52, 3) := by decide +kernel
theorem d_Lw_times_19 : decode b_Lw_times 19 = .ok (.astore 6, 2) := by decide +kernel
theorem d_Lw_times_21 : decode b_Lw_times 21 = .ok (.aload 5, 2) := by decide +kernel
theorem d_Lw_times_23 : decode b_Lw_times 23 = .ok (.invokevirtual 60, 3) := by decide +kernel
theorem d_Lw_times_26 : decode b_Lw_times 26 = .ok (.aload 6, 2) := by decide +kernel
theorem d_Lw_times_28 : decode b_Lw_times 28 = .ok (.invokevirtual 60, 3) := by decide +kernel
theorem d_Lw_times_31 : decode b_Lw_times 31 = .ok (.iadd, 1) := by decide +kernel
theorem d_Lw_times_32 : decode b_Lw_times 32 = .ok (.ldc 69, 2) := by decide +kernel
theorem d_Lw_times_34 : decode b_Lw_times 34 = .ok (.invokestatic 74, 3) := by decide +kernel
theorem d_Lw_times_37 : decode b_Lw_times 37 = .ok (.aload_n 0, 1) := by decide +kernel
theorem d_Lw_times_38 : decode b_Lw_times 38 = .ok (.getfield 23, 3) := by decide +kernel
theorem d_Lw_times_41 : decode b_Lw_times 41 = .ok (.aload 4, 2) := by decide +kernel
theorem d_Lw_times_43 : decode b_Lw_times 43 = .ok (.aload 5, 2) := by decide +kernel
theorem d_Lw_times_45 : decode b_Lw_times 45 = .ok (.aload 6, 2) := by decide +kernel
theorem d_Lw_times_47 : decode b_Lw_times 47 = .ok (.invokevirtual 96, 3) := by decide +kernel
theorem d_Lw_times_50 : decode b_Lw_times 50 = .ok (.aload 4, 2) := by decide +kernel
theorem d_Lw_times_52 : decode b_Lw_times 52 = .ok (.invokevirtual 60, 3) := by decide +kernel
theorem d_Lw_times_55 : decode b_Lw_times 55 = .ok (.ireturn, 1) := by decide +kernel
theorem d_Lw_divide_0 : decode b_Lw_divide 0 = .ok (.aload_n 0, 1) := by decide +kernel
theorem d_Lw_divide_1 : decode b_Lw_divide 1 = .ok (.iload_n 1, 1) := by decide +kernel
theorem d_Lw_divide_2 : decode b_Lw_divide 2 = .ok (.invokevirtual 52, 3) := by decide +kernel
theorem d_Lw_divide_5 : decode b_Lw_divide 5 = .ok (.astore 5, 2) := by decide +kernel
theorem d_Lw_divide_7 : decode b_Lw_divide 7 = .ok (.aload_n 0, 1) := by decide +kernel
theorem d_Lw_divide_8 : decode b_Lw_divide 8 = .ok (.iload_n 2, 1) := by decide +kernel
theorem d_Lw_divide_9 : decode b_Lw_divide 9 = .ok (.invokevirtual 52, 3) := by decide +kernel
theorem d_Lw_divide_12 : decode b_Lw_divide 12 = .ok (.astore 6, 2) := by decide +kernel
theorem d_Lw_divide_14 : decode b_Lw_divide 14 = .ok (.aload_n 0, 1) := by decide +kernel
theorem d_Lw_divide_15 : decode b_Lw_divide 15 = .ok (.iload_n 3, 1) := by decide +kernel
theorem d_Lw_divide_16 : decode b_Lw_divide 16 = .ok (.invokevirtual 52, 3) := by decide +kernel
theorem d_Lw_divide_19 : decode b_Lw_divide 19 = .ok (.astore 7, 2) := by decide +kernel
theorem d_Lw_divide_21 : decode b_Lw_divide 21 = .ok (.aload_n 0, 1) := by decide +kernel
theorem d_Lw_divide_22 : decode b_Lw_divide 22 = .ok (.iload 4, 2) := by decide +kernel
theorem d_Lw_divide_24 : decode b_Lw_divide 24 = .ok (.invokevirtual 52, 3) := by decide +kernel
theorem d_Lw_divide_27 : decode b_Lw_divide 27 = .ok (.astore 8, 2) := by decide +kernel
theorem d_Lw_divide_29 : decode b_Lw_divide 29 = .ok (.aload 8, 2) := by decide +kernel
theorem d_Lw_divide_31 : decode b_Lw_divide 31 = .ok (.getfield 100, 3) := by decide +kernel
theorem d_Lw_divide_34 : decode b_Lw_divide 34 = .ok (.ifCond .ne 11, 3) := by decide +kernel
theorem d_Lw_divide_37 : decode b_Lw_divide 37 = .ok (.new 90, 3) := by decide +kernel
theorem d_Lw_divide_40 : decode b_Lw_divide 40 = .ok (.dup, 1) := by decide +kernel
theorem d_Lw_divide_41 : decode b_Lw_divide 41 = .ok (.invokespecial 92, 3) := by decide +kernel
theorem d_Lw_divide_44 : decode b_Lw_divide 44 = .ok (.athrow, 1) := by decide +kernel
theorem d_Lw_divide_45 : decode b_Lw_divide 45 = .ok (.aload_n 0, 1) := by decide +kernel
theorem d_Lw_divide_46 : decode b_Lw_divide 46 = .ok (.getfield 23, 3) := by decide +kernel
theorem d_Lw_divide_49 : decode b_Lw_divide 49 = .ok (.aload 5, 2) := by decide +kernel
theorem d_Lw_divide_51 : decode b_Lw_divide 51 = .ok (.aload 6, 2) := by decide +kernel
theorem d_Lw_divide_53 : decode b_Lw_divide 53 = .ok (.aload 7, 2) := by decide +kernel
theorem d_Lw_divide_55 : decode b_Lw_divide 55 = .ok (.aload 8, 2) := by decide +kernel
theorem d_Lw_divide_57 : decode b_Lw_divide 57 = .ok (.invokevirtual 103, 3) := by decide +kernel
theorem d_Lw_divide_60 : decode b_Lw_divide 60 = .ok (.ireturn, 1) := by decide +kernel
theorem d_Lw_power_0 : decode b_Lw_power 0 = .ok (.aload_n 0, 1) := by decide +kernel
theorem d_Lw_power_1 : decode b_Lw_power 1 = .ok (.iload_n 1, 1) := by decide +kernel
theorem d_Lw_power_2 : decode b_Lw_power 2 = .ok (.invokevirtual 52, 3) := by decide +kernel
theorem d_Lw_power_5 : decode b_Lw_power 5 = .ok (.astore 4, 2) := by decide +kernel
theorem d_Lw_power_7 : decode b_Lw_power 7 = .ok (.aload_n 0, 1) := by decide +kernel
theorem d_Lw_power_8 : decode b_Lw_power 8 = .ok (.iload_n 2, 1) := by decide +kernel
theorem d_Lw_power_9 : decode b_Lw_power 9 = .ok (.invokevirtual 52, 3) := by decide +kernel
theorem d_Lw_power_12 : decode b_Lw_power 12 = .ok (.astore 5, 2) := by decide +kernel
theorem d_Lw_power_14 : decode b_Lw_power 14 = .ok (.iload_n 3, 1) := by decide +kernel
theorem d_Lw_power_15 : decode b_Lw_power 15 = .ok (.iconst 0, 1) := by decide +kernel
theorem d_Lw_power_16 : decode b_Lw_power 16 = .ok (.bipush 100, 2) := by decide +kernel
theorem d_Lw_power_18 : decode b_Lw_power 18 = .ok (.invokestatic 70, 3) := by decide +kernel
theorem d_Lw_power_21 : decode b_Lw_power 21 = .ok (.iload_n 3, 1) := by decide +kernel
theorem d_Lw_power_22 : decode b_Lw_power 22 = .ok (.aload 5, 2) := by decide +kernel
theorem d_Lw_power_24 : decode b_Lw_power 24 = .ok (.invokevirtual 60, 3) := by decide +kernel
theorem d_Lw_power_27 : decode b_Lw_power 27 = .ok (.imul, 1) := by decide +kernel
theorem d_Lw_power_28 : decode b_Lw_power 28 = .ok (.ldc 69, 2) := by decide +kernel
theorem d_Lw_power_30 : decode b_Lw_power 30 = .ok (.invokestatic 74, 3) := by decide +kernel
theorem d_Lw_power_33 : decode b_Lw_power 33 = .ok (.aload_n 0, 1) := by decide +kernel
theorem d_Lw_power_34 : decode b_Lw_power 34 = .ok (.getfield 23, 3) := by decide +kernel
theorem d_Lw_power_37 : decode b_Lw_power 37 = .ok (.aload_n 0, 1) := by decide +kernel
theorem d_Lw_power_38 : decode b_Lw_power 38 = .ok (.getfield 16, 3) := by decide +kernel
theorem d_Lw_power_41 : decode b_Lw_power 41 = .ok (.aload 5, 2) := by decide +kernel
theorem d_Lw_power_43 : decode b_Lw_power 43 = .ok (.iload_n 3, 1) := by decide +kernel
theorem d_Lw_power_44 : decode b_Lw_power 44 = .ok (.invokevirtual 107, 3) := by decide +kernel
theorem d_Lw_power_47 : decode b_Lw_power 47 = .ok (.aload 4, 2) := by decide +kernel
theorem d_Lw_power_49 : decode b_Lw_power 49 = .ok (.aload_n 0, 1) := by decide +kernel
theorem d_Lw_power_50 : decode b_Lw_power 50 = .ok (.getfield 16, 3) := by decide +kernel
theorem d_Lw_power_53 : decode b_Lw_power 53 = .ok (.invokestatic 64, 3) := by decide +kernel
theorem d_Lw_power_56 : decode b_Lw_power 56 = .ok (.ireturn, 1) := by decide +kernel
theorem d_Lw_root_0 : decode b_Lw_root 0 = .ok (.aload_n 0, 1) := by decide +kernel
theorem d_Lw_root_1 : decode b_Lw_root 1 = .ok (.iload_n 1, 1) := by decide +kernel
theorem d_Lw_root_2 : decode b_Lw_root 2 = .ok (.invokevirtual 52, 3) := by decide +kernel
theorem d_Lw_root_5 : decode b_Lw_root 5 = .ok (.astore 4, 2) := by decide +kernel
theorem d_Lw_root_7 : decode b_Lw_root 7 = .ok (.aload_n 0, 1) := by decide +kernel
theorem d_Lw_root_8 : decode b_Lw_root 8 = .ok (.iload_n 2, 1) := by decide +kernel
theorem d_Lw_root_9 : decode b_Lw_root 9 = .ok (.invokevirtual 52, 3) := by decide +kernel
theorem d_Lw_root_12 : decode b_Lw_root 12 = .ok (.astore 5, 2) := by decide +kernel
theorem d_Lw_root_14 : decode b_Lw_root 14 = .ok (.iload_n 3, 1) := by decide +kernel
theorem d_Lw_root_15 : decode b_Lw_root 15 = .ok (.iconst 1, 1) := by decide +kernel
theorem d_Lw_root_16 : decode b_Lw_root 16 = .ok (.bipush 40, 2) := by decide +kernel
theorem d_Lw_root_18 : decode b_Lw_root 18 = .ok (.invokestatic 70, 3) := by decide +kernel
theorem d_Lw_root_21 : decode b_Lw_root 21 = .ok (.aload_n 0, 1) := by decide +kernel
theorem d_Lw_root_22 : decode b_Lw_root 22 = .ok (.getfield 30, 3) := by decide +kernel
theorem d_Lw_root_25 : decode b_Lw_root 25 = .ok (.aload_n 0, 1) := by decide +kernel
theorem d_Lw_root_26 : decode b_Lw_root 26 = .ok (.getfield 16, 3) := by decide +kernel
theorem d_Lw_root_29 : decode b_Lw_root 29 = .ok (.aload 5, 2) := by decide +kernel
theorem d_Lw_root_31 : decode b_Lw_root 31 = .ok (.iload_n 3, 1) := by decide +kernel
theorem d_Lw_root_32 : decode b_Lw_root 32 = .ok (.aload_n 0, 1) := by decide +kernel
theorem d_Lw_root_33 : decode b_Lw_root 33 = .ok (.getfield 23, 3) := by decide +kernel
theorem d_Lw_root_36 : decode b_Lw_root 36 = .ok (.invokevirtual 111, 3) := by decide +kernel
theorem d_Lw_root_39 : decode b_Lw_root 39 = .ok (.aload 4, 2) := by decide +kernel
theorem d_Lw_root_41 : decode b_Lw_root 41 = .ok (.aload_n 0, 1) := by decide +kernel
theorem d_Lw_root_42 : decode b_Lw_root 42 = .ok (.getfield 16, 3) := by decide +kernel
theorem d_Lw_root_45 : decode b_Lw_root 45 = .ok (.invokestatic 64, 3) := by decide +kernel
theorem d_Lw_root_48 : decode b_Lw_root 48 = .ok (.ireturn, 1) := by decide +kernel
theorem d_Lw_compare_0 : decode b_Lw_compare 0 = .ok (.aload_n 0, 1) := by decide +kernel
theorem d_Lw_compare_1 : decode b_Lw_compare 1 = .ok (.iload_n 1, 1) := by decide +kernel
theorem d_Lw_compare_2 : decode b_Lw_compare 2 = .ok (.invokevirtual 52, 3) := by decide +kernel
theorem d_Lw_compare_5 : decode b_Lw_compare 5 = .ok (.aload_n 0, 1) := by decide +kernel
theorem d_Lw_compare_6 : decode b_Lw_compare 6 = .ok (.iload_n 2, 1) := by decide +kernel
theorem d_Lw_compare_7 : decode b_Lw_compare 7 = .ok (.invokevirtual 52, 3) := by decide +kernel
theorem d_Lw_compare_10 : decode b_Lw_compare 10 = .ok (.invokevirtual 86, 3) := by decide +kernel
theorem d_Lw_compare_13 : decode b_Lw_compare 13 = .ok (.ireturn, 1) := by decide +kernel
theorem d_Lw_bits_0 : decode b_Lw_bits 0 = .ok (.aload_n 0, 1) := by decide +kernel
theorem d_Lw_bits_1 : decode b_Lw_bits 1 = .ok (.iload_n 1, 1) := by decide +kernel
theorem d_Lw_bits_2 : decode b_Lw_bits 2 = .ok (.invokevirtual 52, 3) := by decide +kernel
theorem d_Lw_bits_5 : decode b_Lw_bits 5 = .ok (.invokevirtual 60, 3) := by decide +kernel
theorem d_Lw_bits_8 : decode b_Lw_bits 8 = .ok (.ireturn, 1) := by decide +kernel
theorem d_Lw_word_0 : decode b_Lw_word 0 = .ok (.aload_n 0, 1) := by decide +kernel
theorem d_Lw_word_1 : decode b_Lw_word 1 = .ok (.iload_n 1, 1) := by decide +kernel
theorem d_Lw_word_2 : decode b_Lw_word 2 = .ok (.invokevirtual 52, 3) := by decide +kernel
theorem d_Lw_word_5 : decode b_Lw_word 5 = .ok (.astore_n 3, 1) := by decide +kernel
theorem d_Lw_word_6 : decode b_Lw_word 6 = .ok (.iload_n 2, 1) := by decide +kernel
theorem d_Lw_word_7 : decode b_Lw_word 7 = .ok (.iconst 0, 1) := by decide +kernel
theorem d_Lw_word_8 : decode b_Lw_word 8 = .ok (.sipush 6249, 3) := by decide +kernel
theorem d_Lw_word_11 : decode b_Lw_word 11 = .ok (.invokestatic 70, 3) := by decide +kernel
theorem d_Lw_word_14 : decode b_Lw_word 14 = .ok (.iload_n 2, 1) := by decide +kernel
theorem d_Lw_word_15 : decode b_Lw_word 15 = .ok (.aload_n 3, 1) := by decide +kernel
theorem d_Lw_word_16 : decode b_Lw_word 16 = .ok (.getfield 100, 3) := by decide +kernel
theorem d_Lw_word_19 : decode b_Lw_word 19 = .ok (.if_icmp .ge 17, 3) := by decide +kernel
theorem d_Lw_word_22 : decode b_Lw_word 22 = .ok (.aload_n 3, 1) := by decide +kernel
theorem d_Lw_word_23 : decode b_Lw_word 23 = .ok (.getfield 115, 3) := by decide +kernel
theorem d_Lw_word_26 : decode b_Lw_word 26 = .ok (.iload_n 2, 1) := by decide +kernel
theorem d_Lw_word_27 : decode b_Lw_word 27 = .ok (.iaload, 1) := by decide +kernel
theorem d_Lw_word_28 : decode b_Lw_word 28 = .ok (.i2l, 1) := by decide +kernel
theorem d_Lw_word_29 : decode b_Lw_word 29 = .ok (.ldc2_w 118, 3) := by decide +kernel
theorem d_Lw_word_32 : decode b_Lw_word 32 = .ok (.land, 1) := by decide +kernel
theorem d_Lw_word_33 : decode b_Lw_word 33 = .ok (.goto 4, 3) := by decide +kernel
theorem d_Lw_word_36 : decode b_Lw_word 36 = .ok (.lconst 0, 1) := by decide +kernel
theorem d_Lw_word_37 : decode b_Lw_word 37 = .ok (.lreturn, 1) := by decide +kernel
theorem d_Lw_feed_0 : decode b_Lw_feed 0 = .ok (.aload_n 0, 1) := by decide +kernel
theorem d_Lw_feed_1 : decode b_Lw_feed 1 = .ok (.getfield 45, 3) := by decide +kernel
theorem d_Lw_feed_4 : decode b_Lw_feed 4 = .ok (.bipush 20, 2) := by decide +kernel
theorem d_Lw_feed_6 : decode b_Lw_feed 6 = .ok (.iadd, 1) := by decide +kernel
theorem d_Lw_feed_7 : decode b_Lw_feed 7 = .ok (.sipush 4096, 3) := by decide +kernel
theorem d_Lw_feed_10 : decode b_Lw_feed 10 = .ok (.invokestatic 74, 3) := by decide +kernel
theorem d_Lw_feed_13 : decode b_Lw_feed 13 = .ok (.aload_n 0, 1) := by decide +kernel
theorem d_Lw_feed_14 : decode b_Lw_feed 14 = .ok (.iload_n 1, 1) := by decide +kernel
theorem d_Lw_feed_15 : decode b_Lw_feed 15 = .ok (.invokevirtual 120, 3) := by decide +kernel
theorem d_Lw_feed_18 : decode b_Lw_feed 18 = .ok (.aload_n 0, 1) := by decide +kernel
theorem d_Lw_feed_19 : decode b_Lw_feed 19 = .ok (.iload_n 2, 1) := by decide +kernel
theorem d_Lw_feed_20 : decode b_Lw_feed 20 = .ok (.invokevirtual 120, 3) := by decide +kernel
theorem d_Lw_feed_23 : decode b_Lw_feed 23 = .ok (.aload_n 0, 1) := by decide +kernel
theorem d_Lw_feed_24 : decode b_Lw_feed 24 = .ok (.iload_n 3, 1) := by decide +kernel
theorem d_Lw_feed_25 : decode b_Lw_feed 25 = .ok (.invokevirtual 120, 3) := by decide +kernel
theorem d_Lw_feed_28 : decode b_Lw_feed 28 = .ok (.aload_n 0, 1) := by decide +kernel
theorem d_Lw_feed_29 : decode b_Lw_feed 29 = .ok (.iload 4, 2) := by decide +kernel
theorem d_Lw_feed_31 : decode b_Lw_feed 31 = .ok (.invokevirtual 120, 3) := by decide +kernel
theorem d_Lw_feed_34 : decode b_Lw_feed 34 = .ok (.aload_n 0, 1) := by decide +kernel
theorem d_Lw_feed_35 : decode b_Lw_feed 35 = .ok (.iload 5, 2) := by decide +kernel
theorem d_Lw_feed_37 : decode b_Lw_feed 37 = .ok (.invokevirtual 120, 3) := by decide +kernel
theorem d_Lw_feed_40 : decode b_Lw_feed 40 = .ok (.return_, 1) := by decide +kernel
theorem d_Lw_feedWord_0 : decode b_Lw_feedWord 0 = .ok (.bipush 24, 2) := by decide +kernel
theorem d_Lw_feedWord_2 : decode b_Lw_feedWord 2 = .ok (.istore_n 2, 1) := by decide +kernel
theorem d_Lw_feedWord_3 : decode b_Lw_feedWord 3 = .ok (.iload_n 2, 1) := by decide +kernel
theorem d_Lw_feedWord_4 : decode b_Lw_feedWord 4 = .ok (.ifCond .lt 32, 3) := by decide +kernel
theorem d_Lw_feedWord_7 : decode b_Lw_feedWord 7 = .ok (.aload_n 0, 1) := by decide +kernel
theorem d_Lw_feedWord_8 : decode b_Lw_feedWord 8 = .ok (.getfield 38, 3) := by decide +kernel
theorem d_Lw_feedWord_11 : decode b_Lw_feedWord 11 = .ok (.aload_n 0, 1) := by decide +kernel
theorem d_Lw_feedWord_12 : decode b_Lw_feedWord 12 = .ok (.getfield 45, 3) := by decide +kernel
theorem d_Lw_feedWord_15 : decode b_Lw_feedWord 15 = .ok (.iload_n 1, 1) := by decide +kernel
theorem d_Lw_feedWord_16 : decode b_Lw_feedWord 16 = .ok (.iload_n 2, 1) := by decide +kernel
theorem d_Lw_feedWord_17 : decode b_Lw_feedWord 17 = .ok (.ishr, 1) := by decide +kernel
theorem d_Lw_feedWord_18 : decode b_Lw_feedWord 18 = .ok (.i2b, 1) := by decide +kernel
theorem d_Lw_feedWord_19 : decode b_Lw_feedWord 19 = .ok (.bastore, 1) := by decide +kernel
theorem d_Lw_feedWord_20 : decode b_Lw_feedWord 20 = .ok (.aload_n 0, 1) := by decide +kernel
theorem d_Lw_feedWord_21 : decode b_Lw_feedWord 21 = .ok (.dup, 1) := by decide +kernel
theorem d_Lw_feedWord_22 : decode b_Lw_feedWord 22 = .ok (.getfield 45, 3) := by decide +kernel
theorem d_Lw_feedWord_25 : decode b_Lw_feedWord 25 = .ok (.iconst 1, 1) := by decide +kernel
theorem d_Lw_feedWord_26 : decode b_Lw_feedWord 26 = .ok (.iadd, 1) := by decide +kernel
theorem d_Lw_feedWord_27 : decode b_Lw_feedWord 27 = .ok (.putfield 45, 3) := by decide +kernel
theorem d_Lw_feedWord_30 : decode b_Lw_feedWord 30 = .ok (.iinc 2 (-8), 3) := by decide +kernel
theorem d_Lw_feedWord_33 : decode b_Lw_feedWord 33 = .ok (.goto (-30), 3) := by decide +kernel
theorem d_Lw_feedWord_36 : decode b_Lw_feedWord 36 = .ok (.return_, 1) := by decide +kernel
theorem d_Lw_end_0 : decode b_Lw_end 0 = .ok (.iload_n 1, 1) := by decide +kernel
theorem d_Lw_end_1 : decode b_Lw_end 1 = .ok (.iconst 0, 1) := by decide +kernel
theorem d_Lw_end_2 : decode b_Lw_end 2 = .ok (.aload_n 0, 1) := by decide +kernel
theorem d_Lw_end_3 : decode b_Lw_end 3 = .ok (.getfield 45, 3) := by decide +kernel
theorem d_Lw_end_6 : decode b_Lw_end 6 = .ok (.invokestatic 70, 3) := by decide +kernel
theorem d_Lw_end_9 : decode b_Lw_end 9 = .ok (.aload_n 0, 1) := by decide +kernel
theorem d_Lw_end_10 : decode b_Lw_end 10 = .ok (.getfield 45, 3) := by decide +kernel
theorem d_Lw_end_13 : decode b_Lw_end 13 = .ok (.iload_n 1, 1) := by decide +kernel
theorem d_Lw_end_14 : decode b_Lw_end 14 = .ok (.isub, 1) := by decide +kernel
theorem d_Lw_end_15 : decode b_Lw_end 15 = .ok (.istore_n 2, 1) := by decide +kernel
theorem d_Lw_end_16 : decode b_Lw_end 16 = .ok (.aload_n 0, 1) := by decide +kernel
theorem d_Lw_end_17 : decode b_Lw_end 17 = .ok (.iload_n 1, 1) := by decide +kernel
theorem d_Lw_end_18 : decode b_Lw_end 18 = .ok (.putfield 45, 3) := by decide +kernel
theorem d_Lw_end_21 : decode b_Lw_end 21 = .ok (.iload_n 2, 1) := by decide +kernel
theorem d_Lw_end_22 : decode b_Lw_end 22 = .ok (.ireturn, 1) := by decide +kernel
theorem d_Lw_read_0 : decode b_Lw_read 0 = .ok (.aload_n 0, 1) := by decide +kernel
theorem d_Lw_read_1 : decode b_Lw_read 1 = .ok (.iload_n 1, 1) := by decide +kernel
theorem d_Lw_read_2 : decode b_Lw_read 2 = .ok (.invokevirtual 52, 3) := by decide +kernel
theorem d_Lw_read_5 : decode b_Lw_read 5 = .ok (.astore_n 3, 1) := by decide +kernel
theorem d_Lw_read_6 : decode b_Lw_read 6 = .ok (.iload_n 2, 1) := by decide +kernel
theorem d_Lw_read_7 : decode b_Lw_read 7 = .ok (.iconst 2, 1) := by decide +kernel
theorem d_Lw_read_8 : decode b_Lw_read 8 = .ok (.bipush 36, 2) := by decide +kernel
theorem d_Lw_read_10 : decode b_Lw_read 10 = .ok (.invokestatic 70, 3) := by decide +kernel
theorem d_Lw_read_13 : decode b_Lw_read 13 = .ok (.aload_n 0, 1) := by decide +kernel
theorem d_Lw_read_14 : decode b_Lw_read 14 = .ok (.getfield 45, 3) := by decide +kernel
theorem d_Lw_read_17 : decode b_Lw_read 17 = .ok (.istore 4, 2) := by decide +kernel
theorem d_Lw_read_19 : decode b_Lw_read 19 = .ok (.aload_n 0, 1) := by decide +kernel
theorem d_Lw_read_20 : decode b_Lw_read 20 = .ok (.iconst 0, 1) := by decide +kernel
theorem d_Lw_read_21 : decode b_Lw_read 21 = .ok (.putfield 45, 3) := by decide +kernel
theorem d_Lw_read_24 : decode b_Lw_read 24 = .ok (.aload_n 0, 1) := by decide +kernel
theorem d_Lw_read_25 : decode b_Lw_read 25 = .ok (.iload 4, 2) := by decide +kernel
theorem d_Lw_read_27 : decode b_Lw_read 27 = .ok (.iload_n 2, 1) := by decide +kernel
theorem d_Lw_read_28 : decode b_Lw_read 28 = .ok (.invokevirtual 124, 3) := by decide +kernel
theorem d_Lw_read_31 : decode b_Lw_read 31 = .ok (.ifCond .ne 11, 3) := by decide +kernel
theorem d_Lw_read_34 : decode b_Lw_read 34 = .ok (.new 128, 3) := by decide +kernel
theorem d_Lw_read_37 : decode b_Lw_read 37 = .ok (.dup, 1) := by decide +kernel
theorem d_Lw_read_38 : decode b_Lw_read 38 = .ok (.invokespecial 130, 3) := by decide +kernel
theorem d_Lw_read_41 : decode b_Lw_read 41 = .ok (.athrow, 1) := by decide +kernel
theorem d_Lw_read_42 : decode b_Lw_read 42 = .ok (.aload_n 0, 1) := by decide +kernel
theorem d_Lw_read_43 : decode b_Lw_read 43 = .ok (.iload 4, 2) := by decide +kernel
theorem d_Lw_read_45 : decode b_Lw_read 45 = .ok (.iload_n 2, 1) := by decide +kernel
theorem d_Lw_read_46 : decode b_Lw_read 46 = .ok (.invokevirtual 131, 3) := by decide +kernel
theorem d_Lw_read_49 : decode b_Lw_read 49 = .ok (.aload_n 3, 1) := by decide +kernel
theorem d_Lw_read_50 : decode b_Lw_read 50 = .ok (.aload_n 0, 1) := by decide +kernel
theorem d_Lw_read_51 : decode b_Lw_read 51 = .ok (.getfield 16, 3) := by decide +kernel
theorem d_Lw_read_54 : decode b_Lw_read 54 = .ok (.invokestatic 64, 3) := by decide +kernel
theorem d_Lw_read_57 : decode b_Lw_read 57 = .ok (.ireturn, 1) := by decide +kernel
theorem d_Lw_hasDigitsAlone_0 : decode b_Lw_hasDigitsAlone 0 = .ok (.iconst 0, 1) := by decide +kernel
theorem d_Lw_hasDigitsAlone_1 : decode b_Lw_hasDigitsAlone 1 = .ok (.istore_n 3, 1) := by decide +kernel
theorem d_Lw_hasDigitsAlone_2 : decode b_Lw_hasDigitsAlone 2 = .ok (.iload_n 3, 1) := by decide +kernel
theorem d_Lw_hasDigitsAlone_3 : decode b_Lw_hasDigitsAlone 3 = .ok (.iload_n 1, 1) := by decide +kernel
theorem d_Lw_hasDigitsAlone_4 : decode b_Lw_hasDigitsAlone 4 = .ok (.if_icmp .ge 24, 3) := by decide +kernel
theorem d_Lw_hasDigitsAlone_7 : decode b_Lw_hasDigitsAlone 7 = .ok (.aload_n 0, 1) := by decide +kernel
theorem d_Lw_hasDigitsAlone_8 : decode b_Lw_hasDigitsAlone 8 = .ok (.getfield 38, 3) := by decide +kernel
theorem d_Lw_hasDigitsAlone_11 : decode b_Lw_hasDigitsAlone 11 = .ok (.iload_n 3, 1) := by decide +kernel
theorem d_Lw_hasDigitsAlone_12 : decode b_Lw_hasDigitsAlone 12 = .ok (.baload, 1) := by decide +kernel
theorem d_Lw_hasDigitsAlone_13 : decode b_Lw_hasDigitsAlone 13 = .ok (.invokestatic 174, 3) := by decide +kernel
theorem d_Lw_hasDigitsAlone_16 : decode b_Lw_hasDigitsAlone 16 = .ok (.iload_n 2, 1) := by decide +kernel
theorem d_Lw_hasDigitsAlone_17 : decode b_Lw_hasDigitsAlone 17 = .ok (.if_icmp .lt 5, 3) := by decide +kernel
theorem d_Lw_hasDigitsAlone_20 : decode b_Lw_hasDigitsAlone 20 = .ok (.iconst 0, 1) := by decide +kernel
theorem d_Lw_hasDigitsAlone_21 : decode b_Lw_hasDigitsAlone 21 = .ok (.ireturn, 1) := by decide +kernel
theorem d_Lw_hasDigitsAlone_22 : decode b_Lw_hasDigitsAlone 22 = .ok (.iinc 3 1, 3) := by decide +kernel
theorem d_Lw_hasDigitsAlone_25 : decode b_Lw_hasDigitsAlone 25 = .ok (.goto (-23), 3) := by decide +kernel
theorem d_Lw_hasDigitsAlone_28 : decode b_Lw_hasDigitsAlone 28 = .ok (.iconst 1, 1) := by decide +kernel
theorem d_Lw_hasDigitsAlone_29 : decode b_Lw_hasDigitsAlone 29 = .ok (.ireturn, 1) := by decide +kernel
theorem d_Lw_digitOf_0 : decode b_Lw_digitOf 0 = .ok (.iload_n 0, 1) := by decide +kernel
theorem d_Lw_digitOf_1 : decode b_Lw_digitOf 1 = .ok (.bipush 48, 2) := by decide +kernel
theorem d_Lw_digitOf_3 : decode b_Lw_digitOf 3 = .ok (.if_icmp .lt 14, 3) := by decide +kernel
theorem d_Lw_digitOf_6 : decode b_Lw_digitOf 6 = .ok (.iload_n 0, 1) := by decide +kernel
theorem d_Lw_digitOf_7 : decode b_Lw_digitOf 7 = .ok (.bipush 57, 2) := by decide +kernel
theorem d_Lw_digitOf_9 : decode b_Lw_digitOf 9 = .ok (.if_icmp .gt 8, 3) := by decide +kernel
theorem d_Lw_digitOf_12 : decode b_Lw_digitOf 12 = .ok (.iload_n 0, 1) := by decide +kernel
theorem d_Lw_digitOf_13 : decode b_Lw_digitOf 13 = .ok (.bipush 48, 2) := by decide +kernel
theorem d_Lw_digitOf_15 : decode b_Lw_digitOf 15 = .ok (.isub, 1) := by decide +kernel
theorem d_Lw_digitOf_16 : decode b_Lw_digitOf 16 = .ok (.ireturn, 1) := by decide +kernel
theorem d_Lw_digitOf_17 : decode b_Lw_digitOf 17 = .ok (.iload_n 0, 1) := by decide +kernel
theorem d_Lw_digitOf_18 : decode b_Lw_digitOf 18 = .ok (.bipush 97, 2) := by decide +kernel
theorem d_Lw_digitOf_20 : decode b_Lw_digitOf 20 = .ok (.if_icmp .lt 17, 3) := by decide +kernel
theorem d_Lw_digitOf_23 : decode b_Lw_digitOf 23 = .ok (.iload_n 0, 1) := by decide +kernel
theorem d_Lw_digitOf_24 : decode b_Lw_digitOf 24 = .ok (.bipush 122, 2) := by decide +kernel
theorem d_Lw_digitOf_26 : decode b_Lw_digitOf 26 = .ok (.if_icmp .gt 11, 3) := by decide +kernel
theorem d_Lw_digitOf_29 : decode b_Lw_digitOf 29 = .ok (.iload_n 0, 1) := by decide +kernel
theorem d_Lw_digitOf_30 : decode b_Lw_digitOf 30 = .ok (.bipush 97, 2) := by decide +kernel
theorem d_Lw_digitOf_32 : decode b_Lw_digitOf 32 = .ok (.isub, 1) := by decide +kernel
theorem d_Lw_digitOf_33 : decode b_Lw_digitOf 33 = .ok (.bipush 10, 2) := by decide +kernel
theorem d_Lw_digitOf_35 : decode b_Lw_digitOf 35 = .ok (.iadd, 1) := by decide +kernel
theorem d_Lw_digitOf_36 : decode b_Lw_digitOf 36 = .ok (.ireturn, 1) := by decide +kernel
theorem d_Lw_digitOf_37 : decode b_Lw_digitOf 37 = .ok (.iload_n 0, 1) := by decide +kernel
theorem d_Lw_digitOf_38 : decode b_Lw_digitOf 38 = .ok (.bipush 65, 2) := by decide +kernel
theorem d_Lw_digitOf_40 : decode b_Lw_digitOf 40 = .ok (.if_icmp .lt 17, 3) := by decide +kernel
theorem d_Lw_digitOf_43 : decode b_Lw_digitOf 43 = .ok (.iload_n 0, 1) := by decide +kernel
theorem d_Lw_digitOf_44 : decode b_Lw_digitOf 44 = .ok (.bipush 90, 2) := by decide +kernel
theorem d_Lw_digitOf_46 : decode b_Lw_digitOf 46 = .ok (.if_icmp .gt 11, 3) := by decide +kernel
theorem d_Lw_digitOf_49 : decode b_Lw_digitOf 49 = .ok (.iload_n 0, 1) := by decide +kernel
theorem d_Lw_digitOf_50 : decode b_Lw_digitOf 50 = .ok (.bipush 65, 2) := by decide +kernel
theorem d_Lw_digitOf_52 : decode b_Lw_digitOf 52 = .ok (.isub, 1) := by decide +kernel
theorem d_Lw_digitOf_53 : decode b_Lw_digitOf 53 = .ok (.bipush 10, 2) := by decide +kernel
theorem d_Lw_digitOf_55 : decode b_Lw_digitOf 55 = .ok (.iadd, 1) := by decide +kernel
theorem d_Lw_digitOf_56 : decode b_Lw_digitOf 56 = .ok (.ireturn, 1) := by decide +kernel
theorem d_Lw_digitOf_57 : decode b_Lw_digitOf 57 = .ok (.bipush 36, 2) := by decide +kernel
theorem d_Lw_digitOf_59 : decode b_Lw_digitOf 59 = .ok (.ireturn, 1) := by decide +kernel
theorem d_Lw_readDigits_0 : decode b_Lw_readDigits 0 = .ok (.iload_n 2, 1) := by decide +kernel
theorem d_Lw_readDigits_1 : decode b_Lw_readDigits 1 = .ok (.invokestatic 138, 3) := by decide +kernel
theorem d_Lw_readDigits_4 : decode b_Lw_readDigits 4 = .ok (.istore_n 3, 1) := by decide +kernel
theorem d_Lw_readDigits_5 : decode b_Lw_readDigits 5 = .ok (.aload_n 0, 1) := by decide +kernel
theorem d_Lw_readDigits_6 : decode b_Lw_readDigits 6 = .ok (.getfield 16, 3) := by decide +kernel
theorem d_Lw_readDigits_9 : decode b_Lw_readDigits 9 = .ok (.lconst 0, 1) := by decide +kernel
theorem d_Lw_readDigits_10 : decode b_Lw_readDigits 10 = .ok (.invokevirtual 56, 3) := by decide +kernel
theorem d_Lw_readDigits_13 : decode b_Lw_readDigits 13 = .ok (.iconst 0, 1) := by decide +kernel
theorem d_Lw_readDigits_14 : decode b_Lw_readDigits 14 = .ok (.istore 4, 2) := by decide +kernel
theorem d_Lw_readDigits_16 : decode b_Lw_readDigits 16 = .ok (.iload 4, 2) := by decide +kernel
theorem d_Lw_readDigits_18 : decode b_Lw_readDigits 18 = .ok (.iload_n 1, 1) := by decide +kernel
theorem d_Lw_readDigits_19 : decode b_Lw_readDigits 19 = .ok (.if_icmp .ge 76, 3) := by decide +kernel
theorem d_Lw_readDigits_22 : decode b_Lw_readDigits 22 = .ok (.iload_n 3, 1) := by decide +kernel
theorem d_Lw_readDigits_23 : decode b_Lw_readDigits 23 = .ok (.iload_n 1, 1) := by decide +kernel
theorem d_Lw_readDigits_24 : decode b_Lw_readDigits 24 = .ok (.iload 4, 2) := by decide +kernel
theorem d_Lw_readDigits_26 : decode b_Lw_readDigits 26 = .ok (.isub, 1) := by decide +kernel
theorem d_Lw_readDigits_27 : decode b_Lw_readDigits 27 = .ok (.invokestatic 177, 3) := by decide +kernel
theorem d_Lw_readDigits_30 : decode b_Lw_readDigits 30 = .ok (.istore 5, 2) := by decide +kernel
theorem d_Lw_readDigits_32 : decode b_Lw_readDigits 32 = .ok (.iconst 0, 1) := by decide +kernel
theorem d_Lw_readDigits_33 : decode b_Lw_readDigits 33 = .ok (.istore 6, 2) := by decide +kernel
theorem d_Lw_readDigits_35 : decode b_Lw_readDigits 35 = .ok (.iconst 0, 1) := by decide +kernel
theorem d_Lw_readDigits_36 : decode b_Lw_readDigits 36 = .ok (.istore 7, 2) := by decide +kernel
theorem d_Lw_readDigits_38 : decode b_Lw_readDigits 38 = .ok (.iload 7, 2) := by decide +kernel
theorem d_Lw_readDigits_40 : decode b_Lw_readDigits 40 = .ok (.iload 5, 2) := by decide +kernel
theorem d_Lw_readDigits_42 : decode b_Lw_readDigits 42 = .ok (.if_icmp .ge 29, 3) := by decide +kernel
theorem d_Lw_readDigits_45 : decode b_Lw_readDigits 45 = .ok (.iload 6, 2) := by decide +kernel
theorem d_Lw_readDigits_47 : decode b_Lw_readDigits 47 = .ok (.iload_n 2, 1) := by decide +kernel
theorem d_Lw_readDigits_48 : decode b_Lw_readDigits 48 = .ok (.imul, 1) := by decide +kernel
theorem d_Lw_readDigits_49 : decode b_Lw_readDigits 49 = .ok (.aload_n 0, 1) := by decide +kernel
theorem d_Lw_readDigits_50 : decode b_Lw_readDigits 50 = .ok (.getfield 38, 3) := by decide +kernel
theorem d_Lw_readDigits_53 : decode b_Lw_readDigits 53 = .ok (.iload 4, 2) := by decide +kernel
theorem d_Lw_readDigits_55 : decode b_Lw_readDigits 55 = .ok (.iload 7, 2) := by decide +kernel
theorem d_Lw_readDigits_57 : decode b_Lw_readDigits 57 = .ok (.iadd, 1) := by decide +kernel
theorem d_Lw_readDigits_58 : decode b_Lw_readDigits 58 = .ok (.baload, 1) := by decide +kernel
theorem d_Lw_readDigits_59 : decode b_Lw_readDigits 59 = .ok (.invokestatic 174, 3) := by decide +kernel
theorem d_Lw_readDigits_62 : decode b_Lw_readDigits 62 = .ok (.iadd, 1) := by decide +kernel
theorem d_Lw_readDigits_63 : decode b_Lw_readDigits 63 = .ok (.istore 6, 2) := by decide +kernel
theorem d_Lw_readDigits_65 : decode b_Lw_readDigits 65 = .ok (.iinc 7 1, 3) := by decide +kernel
theorem d_Lw_readDigits_68 : decode b_Lw_readDigits 68 = .ok (.goto (-30), 3) := by decide +kernel
theorem d_Lw_readDigits_71 : decode b_Lw_readDigits 71 = .ok (.aload_n 0, 1) := by decide +kernel
theorem d_Lw_readDigits_72 : decode b_Lw_readDigits 72 = .ok (.getfield 16, 3) := by decide +kernel
theorem d_Lw_readDigits_75 : decode b_Lw_readDigits 75 = .ok (.iload_n 2, 1) := by decide +kernel
theorem d_Lw_readDigits_76 : decode b_Lw_readDigits 76 = .ok (.iload 5, 2) := by decide +kernel
theorem d_Lw_readDigits_78 : decode b_Lw_readDigits 78 = .ok (.invokestatic 141, 3) := by decide +kernel
theorem d_Lw_readDigits_81 : decode b_Lw_readDigits 81 = .ok (.iload 6, 2) := by decide +kernel
theorem d_Lw_readDigits_83 : decode b_Lw_readDigits 83 = .ok (.invokevirtual 182, 3) := by decide +kernel
theorem d_Lw_readDigits_86 : decode b_Lw_readDigits 86 = .ok (.iload 4, 2) := by decide +kernel
theorem d_Lw_readDigits_88 : decode b_Lw_readDigits 88 = .ok (.iload_n 3, 1) := by decide +kernel
theorem d_Lw_readDigits_89 : decode b_Lw_readDigits 89 = .ok (.iadd, 1) := by decide +kernel
theorem d_Lw_readDigits_90 : decode b_Lw_readDigits 90 = .ok (.istore 4, 2) := by decide +kernel
theorem d_Lw_readDigits_92 : decode b_Lw_readDigits 92 = .ok (.goto (-76), 3) := by decide +kernel
theorem d_Lw_readDigits_95 : decode b_Lw_readDigits 95 = .ok (.return_, 1) := by decide +kernel
theorem d_Lw_digitsOfPiece_0 : decode b_Lw_digitsOfPiece 0 = .ok (.iconst 1, 1) := by decide +kernel
theorem d_Lw_digitsOfPiece_1 : decode b_Lw_digitsOfPiece 1 = .ok (.istore_n 1, 1) := by decide +kernel
theorem d_Lw_digitsOfPiece_2 : decode b_Lw_digitsOfPiece 2 = .ok (.iload_n 0, 1) := by decide +kernel
theorem d_Lw_digitsOfPiece_3 : decode b_Lw_digitsOfPiece 3 = .ok (.istore_n 2, 1) := by decide +kernel
theorem d_Lw_digitsOfPiece_4 : decode b_Lw_digitsOfPiece 4 = .ok (.iconst 1, 1) := by decide +kernel
theorem d_Lw_digitsOfPiece_5 : decode b_Lw_digitsOfPiece 5 = .ok (.istore_n 3, 1) := by decide +kernel
theorem d_Lw_digitsOfPiece_6 : decode b_Lw_digitsOfPiece 6 = .ok (.iload_n 3, 1) := by decide +kernel
theorem d_Lw_digitsOfPiece_7 : decode b_Lw_digitsOfPiece 7 = .ok (.bipush 31, 2) := by decide +kernel
theorem d_Lw_digitsOfPiece_9 : decode b_Lw_digitsOfPiece 9 = .ok (.if_icmp .ge 24, 3) := by decide +kernel
theorem d_Lw_digitsOfPiece_12 : decode b_Lw_digitsOfPiece 12 = .ok (.iload_n 2, 1) := by decide +kernel
theorem d_Lw_digitsOfPiece_13 : decode b_Lw_digitsOfPiece 13 = .ok (.ldc 185, 2) := by decide +kernel
theorem d_Lw_digitsOfPiece_15 : decode b_Lw_digitsOfPiece 15 = .ok (.iload_n 0, 1) := by decide +kernel
theorem d_Lw_digitsOfPiece_16 : decode b_Lw_digitsOfPiece 16 = .ok (.idiv, 1) := by decide +kernel
theorem d_Lw_digitsOfPiece_17 : decode b_Lw_digitsOfPiece 17 = .ok (.if_icmp .gt 16, 3) := by decide +kernel
theorem d_Lw_digitsOfPiece_20 : decode b_Lw_digitsOfPiece 20 = .ok (.iload_n 2, 1) := by decide +kernel
theorem d_Lw_digitsOfPiece_21 : decode b_Lw_digitsOfPiece 21 = .ok (.iload_n 0, 1) := by decide +kernel
theorem d_Lw_digitsOfPiece_22 : decode b_Lw_digitsOfPiece 22 = .ok (.imul, 1) := by decide +kernel
theorem d_Lw_digitsOfPiece_23 : decode b_Lw_digitsOfPiece 23 = .ok (.istore_n 2, 1) := by decide +kernel
theorem d_Lw_digitsOfPiece_24 : decode b_Lw_digitsOfPiece 24 = .ok (.iinc 1 1, 3) := by decide +kernel
theorem d_Lw_digitsOfPiece_27 : decode b_Lw_digitsOfPiece 27 = .ok (.iinc 3 1, 3) := by decide +kernel
theorem d_Lw_digitsOfPiece_30 : decode b_Lw_digitsOfPiece 30 = .ok (.goto (-24), 3) := by decide +kernel
theorem d_Lw_digitsOfPiece_33 : decode b_Lw_digitsOfPiece 33 = .ok (.iload_n 1, 1) := by decide +kernel
theorem d_Lw_digitsOfPiece_34 : decode b_Lw_digitsOfPiece 34 = .ok (.ireturn, 1) := by decide +kernel
theorem d_Lw_powerOf_0 : decode b_Lw_powerOf 0 = .ok (.iconst 1, 1) := by decide +kernel
theorem d_Lw_powerOf_1 : decode b_Lw_powerOf 1 = .ok (.istore_n 2, 1) := by decide +kernel
theorem d_Lw_powerOf_2 : decode b_Lw_powerOf 2 = .ok (.iconst 0, 1) := by decide +kernel
theorem d_Lw_powerOf_3 : decode b_Lw_powerOf 3 = .ok (.istore_n 3, 1) := by decide +kernel
theorem d_Lw_powerOf_4 : decode b_Lw_powerOf 4 = .ok (.iload_n 3, 1) := by decide +kernel
theorem d_Lw_powerOf_5 : decode b_Lw_powerOf 5 = .ok (.iload_n 1, 1) := by decide +kernel
theorem d_Lw_powerOf_6 : decode b_Lw_powerOf 6 = .ok (.if_icmp .ge 13, 3) := by decide +kernel
theorem d_Lw_powerOf_9 : decode b_Lw_powerOf 9 = .ok (.iload_n 2, 1) := by decide +kernel
theorem d_Lw_powerOf_10 : decode b_Lw_powerOf 10 = .ok (.iload_n 0, 1) := by decide +kernel
theorem d_Lw_powerOf_11 : decode b_Lw_powerOf 11 = .ok (.imul, 1) := by decide +kernel
theorem d_Lw_powerOf_12 : decode b_Lw_powerOf 12 = .ok (.istore_n 2, 1) := by decide +kernel
theorem d_Lw_powerOf_13 : decode b_Lw_powerOf 13 = .ok (.iinc 3 1, 3) := by decide +kernel
theorem d_Lw_powerOf_16 : decode b_Lw_powerOf 16 = .ok (.goto (-12), 3) := by decide +kernel
theorem d_Lw_powerOf_19 : decode b_Lw_powerOf 19 = .ok (.iload_n 2, 1) := by decide +kernel
theorem d_Lw_powerOf_20 : decode b_Lw_powerOf 20 = .ok (.ireturn, 1) := by decide +kernel
theorem d_Lw_write_0 : decode b_Lw_write 0 = .ok (.aload_n 0, 1) := by decide +kernel
theorem d_Lw_write_1 : decode b_Lw_write 1 = .ok (.iload_n 1, 1) := by decide +kernel
theorem d_Lw_write_2 : decode b_Lw_write 2 = .ok (.invokevirtual 52, 3) := by decide +kernel
theorem d_Lw_write_5 : decode b_Lw_write 5 = .ok (.astore_n 3, 1) := by decide +kernel
theorem d_Lw_write_6 : decode b_Lw_write 6 = .ok (.iload_n 2, 1) := by decide +kernel
theorem d_Lw_write_7 : decode b_Lw_write 7 = .ok (.iconst 2, 1) := by decide +kernel
theorem d_Lw_write_8 : decode b_Lw_write 8 = .ok (.bipush 36, 2) := by decide +kernel
theorem d_Lw_write_10 : decode b_Lw_write 10 = .ok (.invokestatic 70, 3) := by decide +kernel
theorem d_Lw_write_13 : decode b_Lw_write 13 = .ok (.aload_n 3, 1) := by decide +kernel
theorem d_Lw_write_14 : decode b_Lw_write 14 = .ok (.invokevirtual 60, 3) := by decide +kernel
theorem d_Lw_write_17 : decode b_Lw_write 17 = .ok (.sipush 20000, 3) := by decide +kernel
theorem d_Lw_write_20 : decode b_Lw_write 20 = .ok (.iload_n 2, 1) := by decide +kernel
theorem d_Lw_write_21 : decode b_Lw_write 21 = .ok (.iconst 1, 1) := by decide +kernel
theorem d_Lw_write_22 : decode b_Lw_write 22 = .ok (.isub, 1) := by decide +kernel
theorem d_Lw_write_23 : decode b_Lw_write 23 = .ok (.invokestatic 134, 3) := by decide +kernel
theorem d_Lw_write_26 : decode b_Lw_write 26 = .ok (.imul, 1) := by decide +kernel
theorem d_Lw_write_27 : decode b_Lw_write 27 = .ok (.invokestatic 74, 3) := by decide +kernel
theorem d_Lw_write_30 : decode b_Lw_write 30 = .ok (.iload_n 2, 1) := by decide +kernel
theorem d_Lw_write_31 : decode b_Lw_write 31 = .ok (.invokestatic 138, 3) := by decide +kernel
theorem d_Lw_write_34 : decode b_Lw_write 34 = .ok (.istore 4, 2) := by decide +kernel
theorem d_Lw_write_36 : decode b_Lw_write 36 = .ok (.aload_n 0, 1) := by decide +kernel
theorem d_Lw_write_37 : decode b_Lw_write 37 = .ok (.aload_n 3, 1) := by decide +kernel
theorem d_Lw_write_38 : decode b_Lw_write 38 = .ok (.iload_n 2, 1) := by decide +kernel
theorem d_Lw_write_39 : decode b_Lw_write 39 = .ok (.iload 4, 2) := by decide +kernel
theorem d_Lw_write_41 : decode b_Lw_write 41 = .ok (.invokestatic 141, 3) := by decide +kernel
theorem d_Lw_write_44 : decode b_Lw_write 44 = .ok (.invokevirtual 145, 3) := by decide +kernel
theorem d_Lw_write_47 : decode b_Lw_write 47 = .ok (.istore 5, 2) := by decide +kernel
theorem d_Lw_write_49 : decode b_Lw_write 49 = .ok (.aload_n 0, 1) := by decide +kernel
theorem d_Lw_write_50 : decode b_Lw_write 50 = .ok (.iload 5, 2) := by decide +kernel
theorem d_Lw_write_52 : decode b_Lw_write 52 = .ok (.iload_n 2, 1) := by decide +kernel
theorem d_Lw_write_53 : decode b_Lw_write 53 = .ok (.iload 4, 2) := by decide +kernel
theorem d_Lw_write_55 : decode b_Lw_write 55 = .ok (.invokevirtual 149, 3) := by decide +kernel
theorem d_Lw_write_58 : decode b_Lw_write 58 = .ok (.istore 6, 2) := by decide +kernel
theorem d_Lw_write_60 : decode b_Lw_write 60 = .ok (.iload 6, 2) := by decide +kernel
theorem d_Lw_write_62 : decode b_Lw_write 62 = .ok (.sipush 20000, 3) := by decide +kernel
theorem d_Lw_write_65 : decode b_Lw_write 65 = .ok (.invokestatic 74, 3) := by decide +kernel
theorem d_Lw_write_68 : decode b_Lw_write 68 = .ok (.aload_n 0, 1) := by decide +kernel
theorem d_Lw_write_69 : decode b_Lw_write 69 = .ok (.iload 6, 2) := by decide +kernel
theorem d_Lw_write_71 : decode b_Lw_write 71 = .ok (.iload_n 2, 1) := by decide +kernel
theorem d_Lw_write_72 : decode b_Lw_write 72 = .ok (.iload 4, 2) := by decide +kernel
theorem d_Lw_write_74 : decode b_Lw_write 74 = .ok (.invokevirtual 153, 3) := by decide +kernel
theorem d_Lw_write_77 : decode b_Lw_write 77 = .ok (.aload_n 0, 1) := by decide +kernel
theorem d_Lw_write_78 : decode b_Lw_write 78 = .ok (.iload 6, 2) := by decide +kernel
theorem d_Lw_write_80 : decode b_Lw_write 80 = .ok (.putfield 49, 3) := by decide +kernel
theorem d_Lw_write_83 : decode b_Lw_write 83 = .ok (.iload 6, 2) := by decide +kernel
theorem d_Lw_write_85 : decode b_Lw_write 85 = .ok (.ireturn, 1) := by decide +kernel
theorem d_Lw_cutIntoPieces_0 : decode b_Lw_cutIntoPieces 0 = .ok (.aload_n 0, 1) := by decide +kernel
theorem d_Lw_cutIntoPieces_1 : decode b_Lw_cutIntoPieces 1 = .ok (.getfield 16, 3) := by decide +kernel
theorem d_Lw_cutIntoPieces_4 : decode b_Lw_cutIntoPieces 4 = .ok (.aload_n 1, 1) := by decide +kernel
theorem d_Lw_cutIntoPieces_5 : decode b_Lw_cutIntoPieces 5 = .ok (.invokevirtual 165, 3) := by decide +kernel
theorem d_Lw_cutIntoPieces_8 : decode b_Lw_cutIntoPieces 8 = .ok (.aload_n 0, 1) := by decide +kernel
theorem d_Lw_cutIntoPieces_9 : decode b_Lw_cutIntoPieces 9 = .ok (.getfield 34, 3) := by decide +kernel
theorem d_Lw_cutIntoPieces_12 : decode b_Lw_cutIntoPieces 12 = .ok (.iconst 0, 1) := by decide +kernel
theorem d_Lw_cutIntoPieces_13 : decode b_Lw_cutIntoPieces 13 = .ok (.aload_n 0, 1) := by decide +kernel
theorem d_Lw_cutIntoPieces_14 : decode b_Lw_cutIntoPieces 14 = .ok (.getfield 16, 3) := by decide +kernel
theorem d_Lw_cutIntoPieces_17 : decode b_Lw_cutIntoPieces 17 = .ok (.iload_n 2, 1) := by decide +kernel
theorem d_Lw_cutIntoPieces_18 : decode b_Lw_cutIntoPieces 18 = .ok (.invokevirtual 186, 3) := by decide +kernel
theorem d_Lw_cutIntoPieces_21 : decode b_Lw_cutIntoPieces 21 = .ok (.iastore, 1) := by decide +kernel
theorem d_Lw_cutIntoPieces_22 : decode b_Lw_cutIntoPieces 22 = .ok (.iconst 1, 1) := by decide +kernel
theorem d_Lw_cutIntoPieces_23 : decode b_Lw_cutIntoPieces 23 = .ok (.istore_n 3, 1) := by decide +kernel
theorem d_Lw_cutIntoPieces_24 : decode b_Lw_cutIntoPieces 24 = .ok (.aload_n 0, 1) := by decide +kernel
theorem d_Lw_cutIntoPieces_25 : decode b_Lw_cutIntoPieces 25 = .ok (.getfield 16, 3) := by decide +kernel
theorem d_Lw_cutIntoPieces_28 : decode b_Lw_cutIntoPieces 28 = .ok (.getfield 100, 3) := by decide +kernel
theorem d_Lw_cutIntoPieces_31 : decode b_Lw_cutIntoPieces 31 = .ok (.ifCond .le 30, 3) := by decide +kernel
theorem d_Lw_cutIntoPieces_34 : decode b_Lw_cutIntoPieces 34 = .ok (.iload_n 3, 1) := by decide +kernel
theorem d_Lw_cutIntoPieces_35 : decode b_Lw_cutIntoPieces 35 = .ok (.sipush 4800, 3) := by decide +kernel
theorem d_Lw_cutIntoPieces_38 : decode b_Lw_cutIntoPieces 38 = .ok (.if_icmp .ge 23, 3) := by decide +kernel
theorem d_Lw_cutIntoPieces_41 : decode b_Lw_cutIntoPieces 41 = .ok (.aload_n 0, 1) := by decide +kernel
theorem d_Lw_cutIntoPieces_42 : decode b_Lw_cutIntoPieces 42 = .ok (.getfield 34, 3) := by decide +kernel
theorem d_Lw_cutIntoPieces_45 : decode b_Lw_cutIntoPieces 45 = .ok (.iload_n 3, 1) := by decide +kernel
theorem d_Lw_cutIntoPieces_46 : decode b_Lw_cutIntoPieces 46 = .ok (.aload_n 0, 1) := by decide +kernel
theorem d_Lw_cutIntoPieces_47 : decode b_Lw_cutIntoPieces 47 = .ok (.getfield 16, 3) := by decide +kernel
theorem d_Lw_cutIntoPieces_50 : decode b_Lw_cutIntoPieces 50 = .ok (.iload_n 2, 1) := by decide +kernel
theorem d_Lw_cutIntoPieces_51 : decode b_Lw_cutIntoPieces 51 = .ok (.invokevirtual 186, 3) := by decide +kernel
theorem d_Lw_cutIntoPieces_54 : decode b_Lw_cutIntoPieces 54 = .ok (.iastore, 1) := by decide +kernel
theorem d_Lw_cutIntoPieces_55 : decode b_Lw_cutIntoPieces 55 = .ok (.iinc 3 1, 3) := by decide +kernel
theorem d_Lw_cutIntoPieces_58 : decode b_Lw_cutIntoPieces 58 = .ok (.goto (-34), 3) := by decide +kernel
theorem d_Lw_cutIntoPieces_61 : decode b_Lw_cutIntoPieces 61 = .ok (.iload_n 3, 1) := by decide +kernel
theorem d_Lw_cutIntoPieces_62 : decode b_Lw_cutIntoPieces 62 = .ok (.ireturn, 1) := by decide +kernel
theorem d_Lw_countDigits_0 : decode b_Lw_countDigits 0 = .ok (.iload_n 1, 1) := by decide +kernel
theorem d_Lw_countDigits_1 : decode b_Lw_countDigits 1 = .ok (.iconst 1, 1) := by decide +kernel
theorem d_Lw_countDigits_2 : decode b_Lw_countDigits 2 = .ok (.isub, 1) := by decide +kernel
theorem d_Lw_countDigits_3 : decode b_Lw_countDigits 3 = .ok (.iload_n 3, 1) := by decide +kernel
theorem d_Lw_countDigits_4 : decode b_Lw_countDigits 4 = .ok (.imul, 1) := by decide +kernel
theorem d_Lw_countDigits_5 : decode b_Lw_countDigits 5 = .ok (.iconst 1, 1) := by decide +kernel
theorem d_Lw_countDigits_6 : decode b_Lw_countDigits 6 = .ok (.iadd, 1) := by decide +kernel
theorem d_Lw_countDigits_7 : decode b_Lw_countDigits 7 = .ok (.istore 4, 2) := by decide +kernel
theorem d_Lw_countDigits_9 : decode b_Lw_countDigits 9 = .ok (.aload_n 0, 1) := by decide +kernel
theorem d_Lw_countDigits_10 : decode b_Lw_countDigits 10 = .ok (.getfield 34, 3) := by decide +kernel
theorem d_Lw_countDigits_13 : decode b_Lw_countDigits 13 = .ok (.iload_n 1, 1) := by decide +kernel
theorem d_Lw_countDigits_14 : decode b_Lw_countDigits 14 = .ok (.iconst 1, 1) := by decide +kernel
theorem d_Lw_countDigits_15 : decode b_Lw_countDigits 15 = .ok (.isub, 1) := by decide +kernel
theorem d_Lw_countDigits_16 : decode b_Lw_countDigits 16 = .ok (.iaload, 1) := by decide +kernel
theorem d_Lw_countDigits_17 : decode b_Lw_countDigits 17 = .ok (.iload_n 2, 1) := by decide +kernel
theorem d_Lw_countDigits_18 : decode b_Lw_countDigits 18 = .ok (.idiv, 1) := by decide +kernel
theorem d_Lw_countDigits_19 : decode b_Lw_countDigits 19 = .ok (.istore 5, 2) := by decide +kernel
theorem d_Lw_countDigits_21 : decode b_Lw_countDigits 21 = .ok (.iconst 1, 1) := by decide +kernel
theorem d_Lw_countDigits_22 : decode b_Lw_countDigits 22 = .ok (.istore 6, 2) := by decide +kernel
theorem d_Lw_countDigits_24 : decode b_Lw_countDigits 24 = .ok (.iload 6, 2) := by decide +kernel
theorem d_Lw_countDigits_26 : decode b_Lw_countDigits 26 = .ok (.iload_n 3, 1) := by decide +kernel
theorem d_Lw_countDigits_27 : decode b_Lw_countDigits 27 = .ok (.if_icmp .ge 23, 3) := by decide +kernel
theorem d_Lw_countDigits_30 : decode b_Lw_countDigits 30 = .ok (.iload 5, 2) := by decide +kernel
theorem d_Lw_countDigits_32 : decode b_Lw_countDigits 32 = .ok (.ifCond .le 18, 3) := by decide +kernel
theorem d_Lw_countDigits_35 : decode b_Lw_countDigits 35 = .ok (.iload 5, 2) := by decide +kernel
theorem d_Lw_countDigits_37 : decode b_Lw_countDigits 37 = .ok (.iload_n 2, 1) := by decide +kernel
theorem d_Lw_countDigits_38 : decode b_Lw_countDigits 38 = .ok (.idiv, 1) := by decide +kernel
theorem d_Lw_countDigits_39 : decode b_Lw_countDigits 39 = .ok (.istore 5, 2) := by decide +kernel
theorem d_Lw_countDigits_41 : decode b_Lw_countDigits 41 = .ok (.iinc 4 1, 3) := by decide +kernel
theorem d_Lw_countDigits_44 : decode b_Lw_countDigits 44 = .ok (.iinc 6 1, 3) := by decide +kernel
theorem d_Lw_countDigits_47 : decode b_Lw_countDigits 47 = .ok (.goto (-23), 3) := by decide +kernel
theorem d_Lw_countDigits_50 : decode b_Lw_countDigits 50 = .ok (.iload 4, 2) := by decide +kernel
theorem d_Lw_countDigits_52 : decode b_Lw_countDigits 52 = .ok (.ireturn, 1) := by decide +kernel
theorem d_Lw_writeDigits_0 : decode b_Lw_writeDigits 0 = .ok (.iconst 0, 1) := by decide +kernel
theorem d_Lw_writeDigits_1 : decode b_Lw_writeDigits 1 = .ok (.istore 4, 2) := by decide +kernel
theorem d_Lw_writeDigits_3 : decode b_Lw_writeDigits 3 = .ok (.iconst 0, 1) := by decide +kernel
theorem d_Lw_writeDigits_4 : decode b_Lw_writeDigits 4 = .ok (.istore 5, 2) := by decide +kernel
theorem d_Lw_writeDigits_6 : decode b_Lw_writeDigits 6 = .ok (.iload 5, 2) := by decide +kernel
theorem d_Lw_writeDigits_8 : decode b_Lw_writeDigits 8 = .ok (.iload_n 1, 1) := by decide +kernel
theorem d_Lw_writeDigits_9 : decode b_Lw_writeDigits 9 = .ok (.if_icmp .ge 74, 3) := by decide +kernel
theorem d_Lw_writeDigits_12 : decode b_Lw_writeDigits 12 = .ok (.iload 5, 2) := by decide +kernel
theorem d_Lw_writeDigits_14 : decode b_Lw_writeDigits 14 = .ok (.iload_n 3, 1) := by decide +kernel
theorem d_Lw_writeDigits_15 : decode b_Lw_writeDigits 15 = .ok (.irem, 1) := by decide +kernel
theorem d_Lw_writeDigits_16 : decode b_Lw_writeDigits 16 = .ok (.ifCond .ne 14, 3) := by decide +kernel
theorem d_Lw_writeDigits_19 : decode b_Lw_writeDigits 19 = .ok (.aload_n 0, 1) := by decide +kernel
theorem d_Lw_writeDigits_20 : decode b_Lw_writeDigits 20 = .ok (.getfield 34, 3) := by decide +kernel
theorem d_Lw_writeDigits_23 : decode b_Lw_writeDigits 23 = .ok (.iload 5, 2) := by decide +kernel
theorem d_Lw_writeDigits_25 : decode b_Lw_writeDigits 25 = .ok (.iload_n 3, 1) := by decide +kernel
theorem d_Lw_writeDigits_26 : decode b_Lw_writeDigits 26 = .ok (.idiv, 1) := by decide +kernel
theorem d_Lw_writeDigits_27 : decode b_Lw_writeDigits 27 = .ok (.iaload, 1) := by decide +kernel
theorem d_Lw_writeDigits_28 : decode b_Lw_writeDigits 28 = .ok (.istore 4, 2) := by decide +kernel
theorem d_Lw_writeDigits_30 : decode b_Lw_writeDigits 30 = .ok (.iload 4, 2) := by decide +kernel
theorem d_Lw_writeDigits_32 : decode b_Lw_writeDigits 32 = .ok (.iload_n 2, 1) := by decide +kernel
theorem d_Lw_writeDigits_33 : decode b_Lw_writeDigits 33 = .ok (.irem, 1) := by decide +kernel
theorem d_Lw_writeDigits_34 : decode b_Lw_writeDigits 34 = .ok (.istore 6, 2) := by decide +kernel
theorem d_Lw_writeDigits_36 : decode b_Lw_writeDigits 36 = .ok (.iload 4, 2) := by decide +kernel
theorem d_Lw_writeDigits_38 : decode b_Lw_writeDigits 38 = .ok (.iload_n 2, 1) := by decide +kernel
theorem d_Lw_writeDigits_39 : decode b_Lw_writeDigits 39 = .ok (.idiv, 1) := by decide +kernel
theorem d_Lw_writeDigits_40 : decode b_Lw_writeDigits 40 = .ok (.istore 4, 2) := by decide +kernel
theorem d_Lw_writeDigits_42 : decode b_Lw_writeDigits 42 = .ok (.aload_n 0, 1) := by decide +kernel
theorem d_Lw_writeDigits_43 : decode b_Lw_writeDigits 43 = .ok (.getfield 42, 3) := by decide +kernel
theorem d_Lw_writeDigits_46 : decode b_Lw_writeDigits 46 = .ok (.iload_n 1, 1) := by decide +kernel
theorem d_Lw_writeDigits_47 : decode b_Lw_writeDigits 47 = .ok (.iconst 1, 1) := by decide +kernel
theorem d_Lw_writeDigits_48 : decode b_Lw_writeDigits 48 = .ok (.isub, 1) := by decide +kernel
theorem d_Lw_writeDigits_49 : decode b_Lw_writeDigits 49 = .ok (.iload 5, 2) := by decide +kernel
theorem d_Lw_writeDigits_51 : decode b_Lw_writeDigits 51 = .ok (.isub, 1) := by decide +kernel
theorem d_Lw_writeDigits_52 : decode b_Lw_writeDigits 52 = .ok (.iload 6, 2) := by decide +kernel
theorem d_Lw_writeDigits_54 : decode b_Lw_writeDigits 54 = .ok (.bipush 10, 2) := by decide +kernel
theorem d_Lw_writeDigits_56 : decode b_Lw_writeDigits 56 = .ok (.if_icmp .ge 11, 3) := by decide +kernel
theorem d_Lw_writeDigits_59 : decode b_Lw_writeDigits 59 = .ok (.bipush 48, 2) := by decide +kernel
theorem d_Lw_writeDigits_61 : decode b_Lw_writeDigits 61 = .ok (.iload 6, 2) := by decide +kernel
theorem d_Lw_writeDigits_63 : decode b_Lw_writeDigits 63 = .ok (.iadd, 1) := by decide +kernel
theorem d_Lw_writeDigits_64 : decode b_Lw_writeDigits 64 = .ok (.goto 11, 3) := by decide +kernel
theorem d_Lw_writeDigits_67 : decode b_Lw_writeDigits 67 = .ok (.bipush 97, 2) := by decide +kernel
theorem d_Lw_writeDigits_69 : decode b_Lw_writeDigits 69 = .ok (.iload 6, 2) := by decide +kernel
theorem d_Lw_writeDigits_71 : decode b_Lw_writeDigits 71 = .ok (.iadd, 1) := by decide +kernel
theorem d_Lw_writeDigits_72 : decode b_Lw_writeDigits 72 = .ok (.bipush 10, 2) := by decide +kernel
theorem d_Lw_writeDigits_74 : decode b_Lw_writeDigits 74 = .ok (.isub, 1) := by decide +kernel
theorem d_Lw_writeDigits_75 : decode b_Lw_writeDigits 75 = .ok (.i2b, 1) := by decide +kernel
theorem d_Lw_writeDigits_76 : decode b_Lw_writeDigits 76 = .ok (.bastore, 1) := by decide +kernel
theorem d_Lw_writeDigits_77 : decode b_Lw_writeDigits 77 = .ok (.iinc 5 1, 3) := by decide +kernel
theorem d_Lw_writeDigits_80 : decode b_Lw_writeDigits 80 = .ok (.goto (-74), 3) := by decide +kernel
theorem d_Lw_writeDigits_83 : decode b_Lw_writeDigits 83 = .ok (.return_, 1) := by decide +kernel
theorem d_Lw_octet_0 : decode b_Lw_octet 0 = .ok (.iload_n 1, 1) := by decide +kernel
theorem d_Lw_octet_1 : decode b_Lw_octet 1 = .ok (.ifCond .lt 11, 3) := by decide +kernel
theorem d_Lw_octet_4 : decode b_Lw_octet 4 = .ok (.iload_n 1, 1) := by decide +kernel
theorem d_Lw_octet_5 : decode b_Lw_octet 5 = .ok (.aload_n 0, 1) := by decide +kernel
theorem d_Lw_octet_6 : decode b_Lw_octet 6 = .ok (.getfield 49, 3) := by decide +kernel
theorem d_Lw_octet_9 : decode b_Lw_octet 9 = .ok (.if_icmp .lt 11, 3) := by decide +kernel
theorem d_Lw_octet_12 : decode b_Lw_octet 12 = .ok (.new 156, 3) := by decide +kernel
theorem d_Lw_octet_15 : decode b_Lw_octet 15 = .ok (.dup, 1) := by decide +kernel
theorem d_Lw_octet_16 : decode b_Lw_octet 16 = .ok (.invokespecial 158, 3) := by decide +kernel
theorem d_Lw_octet_19 : decode b_Lw_octet 19 = .ok (.athrow, 1) := by decide +kernel
theorem d_Lw_octet_20 : decode b_Lw_octet 20 = .ok (.aload_n 0, 1) := by decide +kernel
theorem d_Lw_octet_21 : decode b_Lw_octet 21 = .ok (.getfield 42, 3) := by decide +kernel
theorem d_Lw_octet_24 : decode b_Lw_octet 24 = .ok (.iload_n 1, 1) := by decide +kernel
theorem d_Lw_octet_25 : decode b_Lw_octet 25 = .ok (.baload, 1) := by decide +kernel
theorem d_Lw_octet_26 : decode b_Lw_octet 26 = .ok (.ireturn, 1) := by decide +kernel
