/-! DECODE ROWS of La (by program) -/
theorem d_La_set_0 : decode b_La_set 0 = .ok (.aload 4, 2) := by decide +kernel
theorem d_La_set_2 : decode b_La_set 2 = .ok (.iconst 0, 1) := by decide +kernel
theorem d_La_set_3 : decode b_La_set 3 = .ok (.aload_n 0, 1) := by decide +kernel
theorem d_La_set_4 : decode b_La_set 4 = .ok (.iload_n 1, 1) := by decide +kernel
theorem d_La_set_5 : decode b_La_set 5 = .ok (.lload_n 2, 1) := by decide +kernel
theorem d_La_set_6 : decode b_La_set 6 = .ok (.invokevirtual 7, 3) := by decide +kernel
theorem d_La_set_9 : decode b_La_set 9 = .ok (.i2l, 1) := by decide +kernel
theorem d_La_set_10 : decode b_La_set 10 = .ok (.lastore, 1) := by decide +kernel
theorem d_La_set_11 : decode b_La_set 11 = .ok (.goto 7, 3) := by decide +kernel
theorem d_La_set_14 : decode b_La_set 14 = .ok (.astore 5, 2) := by decide +kernel
theorem d_La_set_16 : decode b_La_set 16 = .ok (.iconst 1, 1) := by decide +kernel
theorem d_La_set_17 : decode b_La_set 17 = .ok (.ireturn, 1) := by decide +kernel
theorem d_La_set_18 : decode b_La_set 18 = .ok (.iconst 0, 1) := by decide +kernel
theorem d_La_set_19 : decode b_La_set 19 = .ok (.ireturn, 1) := by decide +kernel
theorem d_La_copy_0 : decode b_La_copy 0 = .ok (.aload_n 3, 1) := by decide +kernel
theorem d_La_copy_1 : decode b_La_copy 1 = .ok (.iconst 0, 1) := by decide +kernel
theorem d_La_copy_2 : decode b_La_copy 2 = .ok (.aload_n 0, 1) := by decide +kernel
theorem d_La_copy_3 : decode b_La_copy 3 = .ok (.iload_n 1, 1) := by decide +kernel
theorem d_La_copy_4 : decode b_La_copy 4 = .ok (.iload_n 2, 1) := by decide +kernel
theorem d_La_copy_5 : decode b_La_copy 5 = .ok (.invokevirtual 15, 3) := by decide +kernel
theorem d_La_copy_8 : decode b_La_copy 8 = .ok (.i2l, 1) := by decide +kernel
theorem d_La_copy_9 : decode b_La_copy 9 = .ok (.lastore, 1) := by decide +kernel
theorem d_La_copy_10 : decode b_La_copy 10 = .ok (.goto 7, 3) := by decide +kernel
theorem d_La_copy_13 : decode b_La_copy 13 = .ok (.astore 4, 2) := by decide +kernel
theorem d_La_copy_15 : decode b_La_copy 15 = .ok (.iconst 1, 1) := by decide +kernel
theorem d_La_copy_16 : decode b_La_copy 16 = .ok (.ireturn, 1) := by decide +kernel
theorem d_La_copy_17 : decode b_La_copy 17 = .ok (.iconst 0, 1) := by decide +kernel
theorem d_La_copy_18 : decode b_La_copy 18 = .ok (.ireturn, 1) := by decide +kernel
theorem d_La_shift_0 : decode b_La_shift 0 = .ok (.aload 4, 2) := by decide +kernel
theorem d_La_shift_2 : decode b_La_shift 2 = .ok (.iconst 0, 1) := by decide +kernel
theorem d_La_shift_3 : decode b_La_shift 3 = .ok (.aload_n 0, 1) := by decide +kernel
theorem d_La_shift_4 : decode b_La_shift 4 = .ok (.iload_n 1, 1) := by decide +kernel
theorem d_La_shift_5 : decode b_La_shift 5 = .ok (.iload_n 2, 1) := by decide +kernel
theorem d_La_shift_6 : decode b_La_shift 6 = .ok (.iload_n 3, 1) := by decide +kernel
theorem d_La_shift_7 : decode b_La_shift 7 = .ok (.invokevirtual 19, 3) := by decide +kernel
theorem d_La_shift_10 : decode b_La_shift 10 = .ok (.i2l, 1) := by decide +kernel
theorem d_La_shift_11 : decode b_La_shift 11 = .ok (.lastore, 1) := by decide +kernel
theorem d_La_shift_12 : decode b_La_shift 12 = .ok (.goto 11, 3) := by decide +kernel
theorem d_La_shift_15 : decode b_La_shift 15 = .ok (.astore 5, 2) := by decide +kernel
theorem d_La_shift_17 : decode b_La_shift 17 = .ok (.iconst 1, 1) := by decide +kernel
theorem d_La_shift_18 : decode b_La_shift 18 = .ok (.ireturn, 1) := by decide +kernel
theorem d_La_shift_19 : decode b_La_shift 19 = .ok (.astore 5, 2) := by decide +kernel
theorem d_La_shift_21 : decode b_La_shift 21 = .ok (.iconst 2, 1) := by decide +kernel
theorem d_La_shift_22 : decode b_La_shift 22 = .ok (.ireturn, 1) := by decide +kernel
theorem d_La_shift_23 : decode b_La_shift 23 = .ok (.iconst 0, 1) := by decide +kernel
theorem d_La_shift_24 : decode b_La_shift 24 = .ok (.ireturn, 1) := by decide +kernel
theorem d_La_add_0 : decode b_La_add 0 = .ok (.aload 4, 2) := by decide +kernel
theorem d_La_add_2 : decode b_La_add 2 = .ok (.iconst 0, 1) := by decide +kernel
theorem d_La_add_3 : decode b_La_add 3 = .ok (.aload_n 0, 1) := by decide +kernel
theorem d_La_add_4 : decode b_La_add 4 = .ok (.iload_n 1, 1) := by decide +kernel
theorem d_La_add_5 : decode b_La_add 5 = .ok (.iload_n 2, 1) := by decide +kernel
theorem d_La_add_6 : decode b_La_add 6 = .ok (.iload_n 3, 1) := by decide +kernel
theorem d_La_add_7 : decode b_La_add 7 = .ok (.invokevirtual 25, 3) := by decide +kernel
theorem d_La_add_10 : decode b_La_add 10 = .ok (.i2l, 1) := by decide +kernel
theorem d_La_add_11 : decode b_La_add 11 = .ok (.lastore, 1) := by decide +kernel
theorem d_La_add_12 : decode b_La_add 12 = .ok (.goto 11, 3) := by decide +kernel
theorem d_La_add_15 : decode b_La_add 15 = .ok (.astore 5, 2) := by decide +kernel
theorem d_La_add_17 : decode b_La_add 17 = .ok (.iconst 1, 1) := by decide +kernel
theorem d_La_add_18 : decode b_La_add 18 = .ok (.ireturn, 1) := by decide +kernel
theorem d_La_add_19 : decode b_La_add 19 = .ok (.astore 5, 2) := by decide +kernel
theorem d_La_add_21 : decode b_La_add 21 = .ok (.iconst 2, 1) := by decide +kernel
theorem d_La_add_22 : decode b_La_add 22 = .ok (.ireturn, 1) := by decide +kernel
theorem d_La_add_23 : decode b_La_add 23 = .ok (.iconst 0, 1) := by decide +kernel
theorem d_La_add_24 : decode b_La_add 24 = .ok (.ireturn, 1) := by decide +kernel
theorem d_La_subtract_0 : decode b_La_subtract 0 = .ok (.aload 4, 2) := by decide +kernel
theorem d_La_subtract_2 : decode b_La_subtract 2 = .ok (.iconst 0, 1) := by decide +kernel
theorem d_La_subtract_3 : decode b_La_subtract 3 = .ok (.aload_n 0, 1) := by decide +kernel
theorem d_La_subtract_4 : decode b_La_subtract 4 = .ok (.iload_n 1, 1) := by decide +kernel
theorem d_La_subtract_5 : decode b_La_subtract 5 = .ok (.iload_n 2, 1) := by decide +kernel
theorem d_La_subtract_6 : decode b_La_subtract 6 = .ok (.iload_n 3, 1) := by decide +kernel
theorem d_La_subtract_7 : decode b_La_subtract 7 = .ok (.invokevirtual 28, 3) := by decide +kernel
theorem d_La_subtract_10 : decode b_La_subtract 10 = .ok (.i2l, 1) := by decide +kernel
theorem d_La_subtract_11 : decode b_La_subtract 11 = .ok (.lastore, 1) := by decide +kernel
theorem d_La_subtract_12 : decode b_La_subtract 12 = .ok (.goto 11, 3) := by decide +kernel
theorem d_La_subtract_15 : decode b_La_subtract 15 = .ok (.astore 5, 2) := by decide +kernel
theorem d_La_subtract_17 : decode b_La_subtract 17 = .ok (.iconst 1, 1) := by decide +kernel
theorem d_La_subtract_18 : decode b_La_subtract 18 = .ok (.ireturn, 1) := by decide +kernel
theorem d_La_subtract_19 : decode b_La_subtract 19 = .ok (.astore 5, 2) := by decide +kernel
theorem d_La_subtract_21 : decode b_La_subtract 21 = .ok (.iconst 2, 1) := by decide +kernel
theorem d_La_subtract_22 : decode b_La_subtract 22 = .ok (.ireturn, 1) := by decide +kernel
theorem d_La_subtract_23 : decode b_La_subtract 23 = .ok (.iconst 0, 1) := by decide +kernel
theorem d_La_subtract_24 : decode b_La_subtract 24 = .ok (.ireturn, 1) := by decide +kernel
theorem d_La_times_0 : decode b_La_times 0 = .ok (.aload 4, 2) := by decide +kernel
theorem d_La_times_2 : decode b_La_times 2 = .ok (.iconst 0, 1) := by decide +kernel
theorem d_La_times_3 : decode b_La_times 3 = .ok (.aload_n 0, 1) := by decide +kernel
theorem d_La_times_4 : decode b_La_times 4 = .ok (.iload_n 1, 1) := by decide +kernel
theorem d_La_times_5 : decode b_La_times 5 = .ok (.iload_n 2, 1) := by decide +kernel
theorem d_La_times_6 : decode b_La_times 6 = .ok (.iload_n 3, 1) := by decide +kernel
theorem d_La_times_7 : decode b_La_times 7 = .ok (.invokevirtual 33, 3) := by decide +kernel
theorem d_La_times_10 : decode b_La_times 10 = .ok (.i2l, 1) := by decide +kernel
theorem d_La_times_11 : decode b_La_times 11 = .ok (.lastore, 1) := by decide +kernel
theorem d_La_times_12 : decode b_La_times 12 = .ok (.goto 11, 3) := by decide +kernel
theorem d_La_times_15 : decode b_La_times 15 = .ok (.astore 5, 2) := by decide +kernel
theorem d_La_times_17 : decode b_La_times 17 = .ok (.iconst 1, 1) := by decide +kernel
theorem d_La_times_18 : decode b_La_times 18 = .ok (.ireturn, 1) := by decide +kernel
theorem d_La_times_19 : decode b_La_times 19 = .ok (.astore 5, 2) := by decide +kernel
theorem d_La_times_21 : decode b_La_times 21 = .ok (.iconst 2, 1) := by decide +kernel
theorem d_La_times_22 : decode b_La_times 22 = .ok (.ireturn, 1) := by decide +kernel
theorem d_La_times_23 : decode b_La_times 23 = .ok (.iconst 0, 1) := by decide +kernel
theorem d_La_times_24 : decode b_La_times 24 = .ok (.ireturn, 1) := by decide +kernel
theorem d_La_divide_0 : decode b_La_divide 0 = .ok (.aload 5, 2) := by decide +kernel
theorem d_La_divide_2 : decode b_La_divide 2 = .ok (.iconst 0, 1) := by decide +kernel
theorem d_La_divide_3 : decode b_La_divide 3 = .ok (.aload_n 0, 1) := by decide +kernel
theorem d_La_divide_4 : decode b_La_divide 4 = .ok (.iload_n 1, 1) := by decide +kernel
theorem d_La_divide_5 : decode b_La_divide 5 = .ok (.iload_n 2, 1) := by decide +kernel
theorem d_La_divide_6 : decode b_La_divide 6 = .ok (.iload_n 3, 1) := by decide +kernel
theorem d_La_divide_7 : decode b_La_divide 7 = .ok (.iload 4, 2) := by decide +kernel
theorem d_La_divide_9 : decode b_La_divide 9 = .ok (.invokevirtual 36, 3) := by decide +kernel
theorem d_La_divide_12 : decode b_La_divide 12 = .ok (.i2l, 1) := by decide +kernel
theorem d_La_divide_13 : decode b_La_divide 13 = .ok (.lastore, 1) := by decide +kernel
theorem d_La_divide_14 : decode b_La_divide 14 = .ok (.goto 11, 3) := by decide +kernel
theorem d_La_divide_17 : decode b_La_divide 17 = .ok (.astore 6, 2) := by decide +kernel
theorem d_La_divide_19 : decode b_La_divide 19 = .ok (.iconst 1, 1) := by decide +kernel
theorem d_La_divide_20 : decode b_La_divide 20 = .ok (.ireturn, 1) := by decide +kernel
theorem d_La_divide_21 : decode b_La_divide 21 = .ok (.astore 6, 2) := by decide +kernel
theorem d_La_divide_23 : decode b_La_divide 23 = .ok (.iconst 2, 1) := by decide +kernel
theorem d_La_divide_24 : decode b_La_divide 24 = .ok (.ireturn, 1) := by decide +kernel
theorem d_La_divide_25 : decode b_La_divide 25 = .ok (.iconst 0, 1) := by decide +kernel
theorem d_La_divide_26 : decode b_La_divide 26 = .ok (.ireturn, 1) := by decide +kernel
theorem d_La_power_0 : decode b_La_power 0 = .ok (.aload 4, 2) := by decide +kernel
theorem d_La_power_2 : decode b_La_power 2 = .ok (.iconst 0, 1) := by decide +kernel
theorem d_La_power_3 : decode b_La_power 3 = .ok (.aload_n 0, 1) := by decide +kernel
theorem d_La_power_4 : decode b_La_power 4 = .ok (.iload_n 1, 1) := by decide +kernel
theorem d_La_power_5 : decode b_La_power 5 = .ok (.iload_n 2, 1) := by decide +kernel
theorem d_La_power_6 : decode b_La_power 6 = .ok (.iload_n 3, 1) := by decide +kernel
theorem d_La_power_7 : decode b_La_power 7 = .ok (.invokevirtual 40, 3) := by decide +kernel
theorem d_La_power_10 : decode b_La_power 10 = .ok (.i2l, 1) := by decide +kernel
theorem d_La_power_11 : decode b_La_power 11 = .ok (.lastore, 1) := by decide +kernel
theorem d_La_power_12 : decode b_La_power 12 = .ok (.goto 11, 3) := by decide +kernel
theorem d_La_power_15 : decode b_La_power 15 = .ok (.astore 5, 2) := by decide +kernel
theorem d_La_power_17 : decode b_La_power 17 = .ok (.iconst 1, 1) := by decide +kernel
theorem d_La_power_18 : decode b_La_power 18 = .ok (.ireturn, 1) := by decide +kernel
theorem d_La_power_19 : decode b_La_power 19 = .ok (.astore 5, 2) := by decide +kernel
theorem d_La_power_21 : decode b_La_power 21 = .ok (.iconst 2, 1) := by decide +kernel
theorem d_La_power_22 : decode b_La_power 22 = .ok (.ireturn, 1) := by decide +kernel
theorem d_La_power_23 : decode b_La_power 23 = .ok (.iconst 0, 1) := by decide +kernel
theorem d_La_power_24 : decode b_La_power 24 = .ok (.ireturn, 1) := by decide +kernel
theorem d_La_root_0 : decode b_La_root 0 = .ok (.aload 4, 2) := by decide +kernel
theorem d_La_root_2 : decode b_La_root 2 = .ok (.iconst 0, 1) := by decide +kernel
theorem d_La_root_3 : decode b_La_root 3 = .ok (.aload_n 0, 1) := by decide +kernel
theorem d_La_root_4 : decode b_La_root 4 = .ok (.iload_n 1, 1) := by decide +kernel
theorem d_La_root_5 : decode b_La_root 5 = .ok (.iload_n 2, 1) := by decide +kernel
theorem d_La_root_6 : decode b_La_root 6 = .ok (.iload_n 3, 1) := by decide +kernel
theorem d_La_root_7 : decode b_La_root 7 = .ok (.invokevirtual 43, 3) := by decide +kernel
theorem d_La_root_10 : decode b_La_root 10 = .ok (.i2l, 1) := by decide +kernel
theorem d_La_root_11 : decode b_La_root 11 = .ok (.lastore, 1) := by decide +kernel
theorem d_La_root_12 : decode b_La_root 12 = .ok (.goto 7, 3) := by decide +kernel
theorem d_La_root_15 : decode b_La_root 15 = .ok (.astore 5, 2) := by decide +kernel
theorem d_La_root_17 : decode b_La_root 17 = .ok (.iconst 1, 1) := by decide +kernel
theorem d_La_root_18 : decode b_La_root 18 = .ok (.ireturn, 1) := by decide +kernel
theorem d_La_root_19 : decode b_La_root 19 = .ok (.iconst 0, 1) := by decide +kernel
theorem d_La_root_20 : decode b_La_root 20 = .ok (.ireturn, 1) := by decide +kernel
theorem d_La_compare_0 : decode b_La_compare 0 = .ok (.aload_n 3, 1) := by decide +kernel
theorem d_La_compare_1 : decode b_La_compare 1 = .ok (.iconst 0, 1) := by decide +kernel
theorem d_La_compare_2 : decode b_La_compare 2 = .ok (.aload_n 0, 1) := by decide +kernel
theorem d_La_compare_3 : decode b_La_compare 3 = .ok (.iload_n 1, 1) := by decide +kernel
theorem d_La_compare_4 : decode b_La_compare 4 = .ok (.iload_n 2, 1) := by decide +kernel
theorem d_La_compare_5 : decode b_La_compare 5 = .ok (.invokevirtual 46, 3) := by decide +kernel
theorem d_La_compare_8 : decode b_La_compare 8 = .ok (.i2l, 1) := by decide +kernel
theorem d_La_compare_9 : decode b_La_compare 9 = .ok (.lastore, 1) := by decide +kernel
theorem d_La_compare_10 : decode b_La_compare 10 = .ok (.goto 7, 3) := by decide +kernel
theorem d_La_compare_13 : decode b_La_compare 13 = .ok (.astore 4, 2) := by decide +kernel
theorem d_La_compare_15 : decode b_La_compare 15 = .ok (.iconst 1, 1) := by decide +kernel
theorem d_La_compare_16 : decode b_La_compare 16 = .ok (.ireturn, 1) := by decide +kernel
theorem d_La_compare_17 : decode b_La_compare 17 = .ok (.iconst 0, 1) := by decide +kernel
theorem d_La_compare_18 : decode b_La_compare 18 = .ok (.ireturn, 1) := by decide +kernel
theorem d_La_bits_0 : decode b_La_bits 0 = .ok (.aload_n 2, 1) := by decide +kernel
theorem d_La_bits_1 : decode b_La_bits 1 = .ok (.iconst 0, 1) := by decide +kernel
theorem d_La_bits_2 : decode b_La_bits 2 = .ok (.aload_n 0, 1) := by decide +kernel
theorem d_La_bits_3 : decode b_La_bits 3 = .ok (.iload_n 1, 1) := by decide +kernel
theorem d_La_bits_4 : decode b_La_bits 4 = .ok (.invokevirtual 49, 3) := by decide +kernel
theorem d_La_bits_7 : decode b_La_bits 7 = .ok (.i2l, 1) := by decide +kernel
theorem d_La_bits_8 : decode b_La_bits 8 = .ok (.lastore, 1) := by decide +kernel
theorem d_La_bits_9 : decode b_La_bits 9 = .ok (.goto 6, 3) := by decide +kernel
theorem d_La_bits_12 : decode b_La_bits 12 = .ok (.astore_n 3, 1) := by decide +kernel
theorem d_La_bits_13 : decode b_La_bits 13 = .ok (.iconst 1, 1) := by decide +kernel
theorem d_La_bits_14 : decode b_La_bits 14 = .ok (.ireturn, 1) := by decide +kernel
theorem d_La_bits_15 : decode b_La_bits 15 = .ok (.iconst 0, 1) := by decide +kernel
theorem d_La_bits_16 : decode b_La_bits 16 = .ok (.ireturn, 1) := by decide +kernel
theorem d_La_word_0 : decode b_La_word 0 = .ok (.aload_n 3, 1) := by decide +kernel
theorem d_La_word_1 : decode b_La_word 1 = .ok (.iconst 0, 1) := by decide +kernel
theorem d_La_word_2 : decode b_La_word 2 = .ok (.aload_n 0, 1) := by decide +kernel
theorem d_La_word_3 : decode b_La_word 3 = .ok (.iload_n 1, 1) := by decide +kernel
theorem d_La_word_4 : decode b_La_word 4 = .ok (.iload_n 2, 1) := by decide +kernel
theorem d_La_word_5 : decode b_La_word 5 = .ok (.invokevirtual 53, 3) := by decide +kernel
theorem d_La_word_8 : decode b_La_word 8 = .ok (.lastore, 1) := by decide +kernel
theorem d_La_word_9 : decode b_La_word 9 = .ok (.goto 7, 3) := by decide +kernel
theorem d_La_word_12 : decode b_La_word 12 = .ok (.astore 4, 2) := by decide +kernel
theorem d_La_word_14 : decode b_La_word 14 = .ok (.iconst 1, 1) := by decide +kernel
theorem d_La_word_15 : decode b_La_word 15 = .ok (.ireturn, 1) := by decide +kernel
theorem d_La_word_16 : decode b_La_word 16 = .ok (.iconst 0, 1) := by decide +kernel
theorem d_La_word_17 : decode b_La_word 17 = .ok (.ireturn, 1) := by decide +kernel
theorem d_La_feed_0 : decode b_La_feed 0 = .ok (.aload_n 0, 1) := by decide +kernel
theorem d_La_feed_1 : decode b_La_feed 1 = .ok (.iload_n 1, 1) := by decide +kernel
theorem d_La_feed_2 : decode b_La_feed 2 = .ok (.iload_n 2, 1) := by decide +kernel
theorem d_La_feed_3 : decode b_La_feed 3 = .ok (.iload_n 3, 1) := by decide +kernel
theorem d_La_feed_4 : decode b_La_feed 4 = .ok (.iload 4, 2) := by decide +kernel
theorem d_La_feed_6 : decode b_La_feed 6 = .ok (.iload 5, 2) := by decide +kernel
theorem d_La_feed_8 : decode b_La_feed 8 = .ok (.invokevirtual 57, 3) := by decide +kernel
theorem d_La_feed_11 : decode b_La_feed 11 = .ok (.goto 7, 3) := by decide +kernel
theorem d_La_feed_14 : decode b_La_feed 14 = .ok (.astore 6, 2) := by decide +kernel
theorem d_La_feed_16 : decode b_La_feed 16 = .ok (.iconst 1, 1) := by decide +kernel
theorem d_La_feed_17 : decode b_La_feed 17 = .ok (.ireturn, 1) := by decide +kernel
theorem d_La_feed_18 : decode b_La_feed 18 = .ok (.iconst 0, 1) := by decide +kernel
theorem d_La_feed_19 : decode b_La_feed 19 = .ok (.ireturn, 1) := by decide +kernel
theorem d_La_end_0 : decode b_La_end 0 = .ok (.aload_n 2, 1) := by decide +kernel
theorem d_La_end_1 : decode b_La_end 1 = .ok (.iconst 0, 1) := by decide +kernel
theorem d_La_end_2 : decode b_La_end 2 = .ok (.aload_n 0, 1) := by decide +kernel
theorem d_La_end_3 : decode b_La_end 3 = .ok (.iload_n 1, 1) := by decide +kernel
theorem d_La_end_4 : decode b_La_end 4 = .ok (.invokevirtual 61, 3) := by decide +kernel
theorem d_La_end_7 : decode b_La_end 7 = .ok (.i2l, 1) := by decide +kernel
theorem d_La_end_8 : decode b_La_end 8 = .ok (.lastore, 1) := by decide +kernel
theorem d_La_end_9 : decode b_La_end 9 = .ok (.goto 6, 3) := by decide +kernel
theorem d_La_end_12 : decode b_La_end 12 = .ok (.astore_n 3, 1) := by decide +kernel
theorem d_La_end_13 : decode b_La_end 13 = .ok (.iconst 1, 1) := by decide +kernel
theorem d_La_end_14 : decode b_La_end 14 = .ok (.ireturn, 1) := by decide +kernel
theorem d_La_end_15 : decode b_La_end 15 = .ok (.iconst 0, 1) := by decide +kernel
theorem d_La_end_16 : decode b_La_end 16 = .ok (.ireturn, 1) := by decide +kernel
theorem d_La_read_0 : decode b_La_read 0 = .ok (.aload_n 3, 1) := by decide +kernel
theorem d_La_read_1 : decode b_La_read 1 = .ok (.iconst 0, 1) := by decide +kernel
theorem d_La_read_2 : decode b_La_read 2 = .ok (.aload_n 0, 1) := by decide +kernel
theorem d_La_read_3 : decode b_La_read 3 = .ok (.iload_n 1, 1) := by decide +kernel
theorem d_La_read_4 : decode b_La_read 4 = .ok (.iload_n 2, 1) := by decide +kernel
theorem d_La_read_5 : decode b_La_read 5 = .ok (.invokevirtual 64, 3) := by decide +kernel
theorem d_La_read_8 : decode b_La_read 8 = .ok (.i2l, 1) := by decide +kernel
theorem d_La_read_9 : decode b_La_read 9 = .ok (.lastore, 1) := by decide +kernel
theorem d_La_read_10 : decode b_La_read 10 = .ok (.goto 11, 3) := by decide +kernel
theorem d_La_read_13 : decode b_La_read 13 = .ok (.astore 4, 2) := by decide +kernel
theorem d_La_read_15 : decode b_La_read 15 = .ok (.iconst 1, 1) := by decide +kernel
theorem d_La_read_16 : decode b_La_read 16 = .ok (.ireturn, 1) := by decide +kernel
theorem d_La_read_17 : decode b_La_read 17 = .ok (.astore 4, 2) := by decide +kernel
theorem d_La_read_19 : decode b_La_read 19 = .ok (.iconst 2, 1) := by decide +kernel
theorem d_La_read_20 : decode b_La_read 20 = .ok (.ireturn, 1) := by decide +kernel
theorem d_La_read_21 : decode b_La_read 21 = .ok (.iconst 0, 1) := by decide +kernel
theorem d_La_read_22 : decode b_La_read 22 = .ok (.ireturn, 1) := by decide +kernel
theorem d_La_write_0 : decode b_La_write 0 = .ok (.aload_n 3, 1) := by decide +kernel
theorem d_La_write_1 : decode b_La_write 1 = .ok (.iconst 0, 1) := by decide +kernel
theorem d_La_write_2 : decode b_La_write 2 = .ok (.aload_n 0, 1) := by decide +kernel
theorem d_La_write_3 : decode b_La_write 3 = .ok (.iload_n 1, 1) := by decide +kernel
theorem d_La_write_4 : decode b_La_write 4 = .ok (.iload_n 2, 1) := by decide +kernel
theorem d_La_write_5 : decode b_La_write 5 = .ok (.invokevirtual 69, 3) := by decide +kernel
theorem d_La_write_8 : decode b_La_write 8 = .ok (.i2l, 1) := by decide +kernel
theorem d_La_write_9 : decode b_La_write 9 = .ok (.lastore, 1) := by decide +kernel
theorem d_La_write_10 : decode b_La_write 10 = .ok (.goto 11, 3) := by decide +kernel
theorem d_La_write_13 : decode b_La_write 13 = .ok (.astore 4, 2) := by decide +kernel
theorem d_La_write_15 : decode b_La_write 15 = .ok (.iconst 1, 1) := by decide +kernel
theorem d_La_write_16 : decode b_La_write 16 = .ok (.ireturn, 1) := by decide +kernel
theorem d_La_write_17 : decode b_La_write 17 = .ok (.astore 4, 2) := by decide +kernel
theorem d_La_write_19 : decode b_La_write 19 = .ok (.iconst 2, 1) := by decide +kernel
theorem d_La_write_20 : decode b_La_write 20 = .ok (.ireturn, 1) := by decide +kernel
theorem d_La_write_21 : decode b_La_write 21 = .ok (.iconst 0, 1) := by decide +kernel
theorem d_La_write_22 : decode b_La_write 22 = .ok (.ireturn, 1) := by decide +kernel
theorem d_La_octet_0 : decode b_La_octet 0 = .ok (.aload_n 2, 1) := by decide +kernel
theorem d_La_octet_1 : decode b_La_octet 1 = .ok (.iconst 0, 1) := by decide +kernel
theorem d_La_octet_2 : decode b_La_octet 2 = .ok (.aload_n 0, 1) := by decide +kernel
theorem d_La_octet_3 : decode b_La_octet 3 = .ok (.iload_n 1, 1) := by decide +kernel
theorem d_La_octet_4 : decode b_La_octet 4 = .ok (.invokevirtual 72, 3) := by decide +kernel
theorem d_La_octet_7 : decode b_La_octet 7 = .ok (.i2l, 1) := by decide +kernel
theorem d_La_octet_8 : decode b_La_octet 8 = .ok (.lastore, 1) := by decide +kernel
theorem d_La_octet_9 : decode b_La_octet 9 = .ok (.goto 6, 3) := by decide +kernel
theorem d_La_octet_12 : decode b_La_octet 12 = .ok (.astore_n 3, 1) := by decide +kernel
theorem d_La_octet_13 : decode b_La_octet 13 = .ok (.iconst 1, 1) := by decide +kernel
theorem d_La_octet_14 : decode b_La_octet 14 = .ok (.ireturn, 1) := by decide +kernel
theorem d_La_octet_15 : decode b_La_octet 15 = .ok (.iconst 0, 1) := by decide +kernel
theorem d_La_octet_16 : decode b_La_octet 16 = .ok (.ireturn, 1) := by decide +kernel
