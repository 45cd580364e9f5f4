/-! DECODE ROWS of Ja (by program) -/
theorem d_Ja_fill_0 : decode b_Ja_fill 0 = .ok (.aload_n 0, 1) := by decide +kernel
theorem d_Ja_fill_1 : decode b_Ja_fill 1 = .ok (.arraylength, 1) := by decide +kernel
theorem d_Ja_fill_2 : decode b_Ja_fill 2 = .ok (.iload_n 1, 1) := by decide +kernel
theorem d_Ja_fill_3 : decode b_Ja_fill 3 = .ok (.iload_n 2, 1) := by decide +kernel
theorem d_Ja_fill_4 : decode b_Ja_fill 4 = .ok (.invokestatic 13, 3) := by decide +kernel
theorem d_Ja_fill_7 : decode b_Ja_fill 7 = .ok (.iload_n 1, 1) := by decide +kernel
theorem d_Ja_fill_8 : decode b_Ja_fill 8 = .ok (.istore 4, 2) := by decide +kernel
theorem d_Ja_fill_10 : decode b_Ja_fill 10 = .ok (.iload 4, 2) := by decide +kernel
theorem d_Ja_fill_12 : decode b_Ja_fill 12 = .ok (.iload_n 2, 1) := by decide +kernel
theorem d_Ja_fill_13 : decode b_Ja_fill 13 = .ok (.if_icmp .ge 14, 3) := by decide +kernel
theorem d_Ja_fill_16 : decode b_Ja_fill 16 = .ok (.aload_n 0, 1) := by decide +kernel
theorem d_Ja_fill_17 : decode b_Ja_fill 17 = .ok (.iload 4, 2) := by decide +kernel
theorem d_Ja_fill_19 : decode b_Ja_fill 19 = .ok (.iload_n 3, 1) := by decide +kernel
theorem d_Ja_fill_20 : decode b_Ja_fill 20 = .ok (.iastore, 1) := by decide +kernel
theorem d_Ja_fill_21 : decode b_Ja_fill 21 = .ok (.iinc 4 1, 3) := by decide +kernel
theorem d_Ja_fill_24 : decode b_Ja_fill 24 = .ok (.goto (-14), 3) := by decide +kernel
theorem d_Ja_fill_27 : decode b_Ja_fill 27 = .ok (.return_, 1) := by decide +kernel
theorem d_Ja_rangeCheck_0 : decode b_Ja_rangeCheck 0 = .ok (.iload_n 1, 1) := by decide +kernel
theorem d_Ja_rangeCheck_1 : decode b_Ja_rangeCheck 1 = .ok (.iload_n 2, 1) := by decide +kernel
theorem d_Ja_rangeCheck_2 : decode b_Ja_rangeCheck 2 = .ok (.if_icmp .le 44, 3) := by decide +kernel
theorem d_Ja_rangeCheck_5 : decode b_Ja_rangeCheck 5 = .ok (.new 43, 3) := by decide +kernel
theorem d_Ja_rangeCheck_8 : decode b_Ja_rangeCheck 8 = .ok (.dup, 1) := by decide +kernel
theorem d_Ja_rangeCheck_9 : decode b_Ja_rangeCheck 9 = .ok (.new 45, 3) := by decide +kernel
theorem d_Ja_rangeCheck_12 : decode b_Ja_rangeCheck 12 = .ok (.dup, 1) := by decide +kernel
theorem d_Ja_rangeCheck_13 : decode b_Ja_rangeCheck 13 = .ok (.invokespecial 47, 3) := by decide +kernel
theorem d_Ja_rangeCheck_16 : decode b_Ja_rangeCheck 16 = .ok (.ldc 48, 2) := by decide +kernel
theorem d_Ja_rangeCheck_18 : decode b_Ja_rangeCheck 18 = .ok (.invokevirtual 50, 3) := by decide +kernel
theorem d_Ja_rangeCheck_21 : decode b_Ja_rangeCheck 21 = .ok (.iload_n 1, 1) := by decide +kernel
theorem d_Ja_rangeCheck_22 : decode b_Ja_rangeCheck 22 = .ok (.invokevirtual 54, 3) := by decide +kernel
theorem d_Ja_rangeCheck_25 : decode b_Ja_rangeCheck 25 = .ok (.ldc 57, 2) := by decide +kernel
theorem d_Ja_rangeCheck_27 : decode b_Ja_rangeCheck 27 = .ok (.invokevirtual 50, 3) := by decide +kernel
theorem d_Ja_rangeCheck_30 : decode b_Ja_rangeCheck 30 = .ok (.iload_n 2, 1) := by decide +kernel
theorem d_Ja_rangeCheck_31 : decode b_Ja_rangeCheck 31 = .ok (.invokevirtual 54, 3) := by decide +kernel
theorem d_Ja_rangeCheck_34 : decode b_Ja_rangeCheck 34 = .ok (.ldc 59, 2) := by decide +kernel
theorem d_Ja_rangeCheck_36 : decode b_Ja_rangeCheck 36 = .ok (.invokevirtual 50, 3) := by decide +kernel
theorem d_Ja_rangeCheck_39 : decode b_Ja_rangeCheck 39 = .ok (.invokevirtual 61, 3) := by decide +kernel
theorem d_Ja_rangeCheck_42 : decode b_Ja_rangeCheck 42 = .ok (.invokespecial 65, 3) := by decide +kernel
theorem d_Ja_rangeCheck_45 : decode b_Ja_rangeCheck 45 = .ok (.athrow, 1) := by decide +kernel
theorem d_Ja_rangeCheck_46 : decode b_Ja_rangeCheck 46 = .ok (.iload_n 1, 1) := by decide +kernel
theorem d_Ja_rangeCheck_47 : decode b_Ja_rangeCheck 47 = .ok (.ifCond .ge 12, 3) := by decide +kernel
theorem d_Ja_rangeCheck_50 : decode b_Ja_rangeCheck 50 = .ok (.new 68, 3) := by decide +kernel
theorem d_Ja_rangeCheck_53 : decode b_Ja_rangeCheck 53 = .ok (.dup, 1) := by decide +kernel
theorem d_Ja_rangeCheck_54 : decode b_Ja_rangeCheck 54 = .ok (.iload_n 1, 1) := by decide +kernel
theorem d_Ja_rangeCheck_55 : decode b_Ja_rangeCheck 55 = .ok (.invokespecial 70, 3) := by decide +kernel
theorem d_Ja_rangeCheck_58 : decode b_Ja_rangeCheck 58 = .ok (.athrow, 1) := by decide +kernel
theorem d_Ja_rangeCheck_59 : decode b_Ja_rangeCheck 59 = .ok (.iload_n 2, 1) := by decide +kernel
theorem d_Ja_rangeCheck_60 : decode b_Ja_rangeCheck 60 = .ok (.iload_n 0, 1) := by decide +kernel
theorem d_Ja_rangeCheck_61 : decode b_Ja_rangeCheck 61 = .ok (.if_icmp .le 12, 3) := by decide +kernel
theorem d_Ja_rangeCheck_64 : decode b_Ja_rangeCheck 64 = .ok (.new 68, 3) := by decide +kernel
theorem d_Ja_rangeCheck_67 : decode b_Ja_rangeCheck 67 = .ok (.dup, 1) := by decide +kernel
theorem d_Ja_rangeCheck_68 : decode b_Ja_rangeCheck 68 = .ok (.iload_n 2, 1) := by decide +kernel
theorem d_Ja_rangeCheck_69 : decode b_Ja_rangeCheck 69 = .ok (.invokespecial 70, 3) := by decide +kernel
theorem d_Ja_rangeCheck_72 : decode b_Ja_rangeCheck 72 = .ok (.athrow, 1) := by decide +kernel
theorem d_Ja_rangeCheck_73 : decode b_Ja_rangeCheck 73 = .ok (.return_, 1) := by decide +kernel
