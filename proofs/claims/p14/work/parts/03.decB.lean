theorem dX4_init_0 : decode cX4_init 0 = .ok (.aload_n 0, 1) := by decide +kernel
theorem dX4_init_1 : decode cX4_init 1 = .ok (.invokespecial 3, 3) := by decide +kernel
theorem dX4_init_4 : decode cX4_init 4 = .ok (.aload_n 0, 1) := by decide +kernel
theorem dX4_init_5 : decode cX4_init 5 = .ok (.new 9, 3) := by decide +kernel
theorem dX4_init_8 : decode cX4_init 8 = .ok (.dup, 1) := by decide +kernel
theorem dX4_init_9 : decode cX4_init 9 = .ok (.invokespecial 11, 3) := by decide +kernel
theorem dX4_init_12 : decode cX4_init 12 = .ok (.putfield 12, 3) := by decide +kernel
theorem dX4_init_15 : decode cX4_init 15 = .ok (.aload_n 0, 1) := by decide +kernel
theorem dX4_init_16 : decode cX4_init 16 = .ok (.new 16, 3) := by decide +kernel
theorem dX4_init_19 : decode cX4_init 19 = .ok (.dup, 1) := by decide +kernel
theorem dX4_init_20 : decode cX4_init 20 = .ok (.invokespecial 18, 3) := by decide +kernel
theorem dX4_init_23 : decode cX4_init 23 = .ok (.putfield 19, 3) := by decide +kernel
theorem dX4_init_26 : decode cX4_init 26 = .ok (.aload_n 0, 1) := by decide +kernel
theorem dX4_init_27 : decode cX4_init 27 = .ok (.new 23, 3) := by decide +kernel
theorem dX4_init_30 : decode cX4_init 30 = .ok (.dup, 1) := by decide +kernel
theorem dX4_init_31 : decode cX4_init 31 = .ok (.invokespecial 25, 3) := by decide +kernel
theorem dX4_init_34 : decode cX4_init 34 = .ok (.putfield 26, 3) := by decide +kernel
theorem dX4_init_37 : decode cX4_init 37 = .ok (.aload_n 0, 1) := by decide +kernel
theorem dX4_init_38 : decode cX4_init 38 = .ok (.new 23, 3) := by decide +kernel
theorem dX4_init_41 : decode cX4_init 41 = .ok (.dup, 1) := by decide +kernel
theorem dX4_init_42 : decode cX4_init 42 = .ok (.invokespecial 25, 3) := by decide +kernel
theorem dX4_init_45 : decode cX4_init 45 = .ok (.putfield 30, 3) := by decide +kernel
theorem dX4_init_48 : decode cX4_init 48 = .ok (.aload_n 0, 1) := by decide +kernel
theorem dX4_init_49 : decode cX4_init 49 = .ok (.new 33, 3) := by decide +kernel
theorem dX4_init_52 : decode cX4_init 52 = .ok (.dup, 1) := by decide +kernel
theorem dX4_init_53 : decode cX4_init 53 = .ok (.invokespecial 35, 3) := by decide +kernel
theorem dX4_init_56 : decode cX4_init 56 = .ok (.putfield 36, 3) := by decide +kernel
theorem dX4_init_59 : decode cX4_init 59 = .ok (.aload_n 0, 1) := by decide +kernel
theorem dX4_init_60 : decode cX4_init 60 = .ok (.iconst 1, 1) := by decide +kernel
theorem dX4_init_61 : decode cX4_init 61 = .ok (.putfield 40, 3) := by decide +kernel
theorem dX4_init_64 : decode cX4_init 64 = .ok (.aload_n 0, 1) := by decide +kernel
theorem dX4_init_65 : decode cX4_init 65 = .ok (.iconst 0, 1) := by decide +kernel
theorem dX4_init_66 : decode cX4_init 66 = .ok (.putfield 44, 3) := by decide +kernel
theorem dX4_init_69 : decode cX4_init 69 = .ok (.aload_n 0, 1) := by decide +kernel
theorem dX4_init_70 : decode cX4_init 70 = .ok (.iconst (-1), 1) := by decide +kernel
theorem dX4_init_71 : decode cX4_init 71 = .ok (.putfield 48, 3) := by decide +kernel
theorem dX4_init_74 : decode cX4_init 74 = .ok (.aload_n 0, 1) := by decide +kernel
theorem dX4_init_75 : decode cX4_init 75 = .ok (.iconst 0, 1) := by decide +kernel
theorem dX4_init_76 : decode cX4_init 76 = .ok (.putfield 51, 3) := by decide +kernel
theorem dX4_init_79 : decode cX4_init 79 = .ok (.aload_n 0, 1) := by decide +kernel
theorem dX4_init_80 : decode cX4_init 80 = .ok (.lconst 0, 1) := by decide +kernel
theorem dX4_init_81 : decode cX4_init 81 = .ok (.putfield 54, 3) := by decide +kernel
theorem dX4_init_84 : decode cX4_init 84 = .ok (.aload_n 0, 1) := by decide +kernel
theorem dX4_init_85 : decode cX4_init 85 = .ok (.lconst 0, 1) := by decide +kernel
theorem dX4_init_86 : decode cX4_init 86 = .ok (.putfield 58, 3) := by decide +kernel
theorem dX4_init_89 : decode cX4_init 89 = .ok (.return_, 1) := by decide +kernel
theorem dX4_bits_0 : decode cX4_bits 0 = .ok (.iload_n 3, 1) := by decide +kernel
theorem dX4_bits_1 : decode cX4_bits 1 = .ok (.iconst 1, 1) := by decide +kernel
theorem dX4_bits_2 : decode cX4_bits 2 = .ok (.bipush 40, 2) := by decide +kernel
theorem dX4_bits_4 : decode cX4_bits 4 = .ok (.invokestatic 61, 3) := by decide +kernel
theorem dX4_bits_7 : decode cX4_bits 7 = .ok (.ifCond .ne 6, 3) := by decide +kernel
theorem dX4_bits_10 : decode cX4_bits 10 = .ok (.bipush (-2), 2) := by decide +kernel
theorem dX4_bits_12 : decode cX4_bits 12 = .ok (.ireturn, 1) := by decide +kernel
theorem dX4_bits_13 : decode cX4_bits 13 = .ok (.aload_n 0, 1) := by decide +kernel
theorem dX4_bits_14 : decode cX4_bits 14 = .ok (.getfield 12, 3) := by decide +kernel
theorem dX4_bits_17 : decode cX4_bits 17 = .ok (.getfield 65, 3) := by decide +kernel
theorem dX4_bits_20 : decode cX4_bits 20 = .ok (.iload_n 3, 1) := by decide +kernel
theorem dX4_bits_21 : decode cX4_bits 21 = .ok (.iadd, 1) := by decide +kernel
theorem dX4_bits_22 : decode cX4_bits 22 = .ok (.bipush 40, 2) := by decide +kernel
theorem dX4_bits_24 : decode cX4_bits 24 = .ok (.if_icmp .le 6, 3) := by decide +kernel
theorem dX4_bits_27 : decode cX4_bits 27 = .ok (.bipush (-4), 2) := by decide +kernel
theorem dX4_bits_29 : decode cX4_bits 29 = .ok (.ireturn, 1) := by decide +kernel
theorem dX4_bits_30 : decode cX4_bits 30 = .ok (.aload_n 0, 1) := by decide +kernel
theorem dX4_bits_31 : decode cX4_bits 31 = .ok (.getfield 12, 3) := by decide +kernel
theorem dX4_bits_34 : decode cX4_bits 34 = .ok (.lload_n 1, 1) := by decide +kernel
theorem dX4_bits_35 : decode cX4_bits 35 = .ok (.iload_n 3, 1) := by decide +kernel
theorem dX4_bits_36 : decode cX4_bits 36 = .ok (.invokevirtual 68, 3) := by decide +kernel
theorem dX4_bits_39 : decode cX4_bits 39 = .ok (.aload_n 0, 1) := by decide +kernel
theorem dX4_bits_40 : decode cX4_bits 40 = .ok (.invokevirtual 72, 3) := by decide +kernel
theorem dX4_bits_43 : decode cX4_bits 43 = .ok (.aload_n 0, 1) := by decide +kernel
theorem dX4_bits_44 : decode cX4_bits 44 = .ok (.getfield 12, 3) := by decide +kernel
theorem dX4_bits_47 : decode cX4_bits 47 = .ok (.getfield 65, 3) := by decide +kernel
theorem dX4_bits_50 : decode cX4_bits 50 = .ok (.ireturn, 1) := by decide +kernel
theorem dX4_clear_0 : decode cX4_clear 0 = .ok (.aload_n 0, 1) := by decide +kernel
theorem dX4_clear_1 : decode cX4_clear 1 = .ok (.getfield 12, 3) := by decide +kernel
theorem dX4_clear_4 : decode cX4_clear 4 = .ok (.getfield 65, 3) := by decide +kernel
theorem dX4_clear_7 : decode cX4_clear 7 = .ok (.istore_n 1, 1) := by decide +kernel
theorem dX4_clear_8 : decode cX4_clear 8 = .ok (.aload_n 0, 1) := by decide +kernel
theorem dX4_clear_9 : decode cX4_clear 9 = .ok (.getfield 12, 3) := by decide +kernel
theorem dX4_clear_12 : decode cX4_clear 12 = .ok (.invokevirtual 75, 3) := by decide +kernel
theorem dX4_clear_15 : decode cX4_clear 15 = .ok (.aload_n 0, 1) := by decide +kernel
theorem dX4_clear_16 : decode cX4_clear 16 = .ok (.invokevirtual 72, 3) := by decide +kernel
theorem dX4_clear_19 : decode cX4_clear 19 = .ok (.iload_n 1, 1) := by decide +kernel
theorem dX4_clear_20 : decode cX4_clear 20 = .ok (.ireturn, 1) := by decide +kernel
theorem dX4_bit_0 : decode cX4_bit 0 = .ok (.aload_n 0, 1) := by decide +kernel
theorem dX4_bit_1 : decode cX4_bit 1 = .ok (.iload_n 1, 1) := by decide +kernel
theorem dX4_bit_2 : decode cX4_bit 2 = .ok (.invokevirtual 78, 3) := by decide +kernel
theorem dX4_bit_5 : decode cX4_bit 5 = .ok (.ifCond .eq 24, 3) := by decide +kernel
theorem dX4_bit_8 : decode cX4_bit 8 = .ok (.aload_n 0, 1) := by decide +kernel
theorem dX4_bit_9 : decode cX4_bit 9 = .ok (.getfield 12, 3) := by decide +kernel
theorem dX4_bit_12 : decode cX4_bit 12 = .ok (.getfield 82, 3) := by decide +kernel
theorem dX4_bit_15 : decode cX4_bit 15 = .ok (.aload_n 0, 1) := by decide +kernel
theorem dX4_bit_16 : decode cX4_bit 16 = .ok (.getfield 12, 3) := by decide +kernel
theorem dX4_bit_19 : decode cX4_bit 19 = .ok (.getfield 65, 3) := by decide +kernel
theorem dX4_bit_22 : decode cX4_bit 22 = .ok (.iload_n 1, 1) := by decide +kernel
theorem dX4_bit_23 : decode cX4_bit 23 = .ok (.invokestatic 85, 3) := by decide +kernel
theorem dX4_bit_26 : decode cX4_bit 26 = .ok (.goto 5, 3) := by decide +kernel
theorem dX4_bit_29 : decode cX4_bit 29 = .ok (.bipush (-2), 2) := by decide +kernel
theorem dX4_bit_31 : decode cX4_bit 31 = .ok (.ireturn, 1) := by decide +kernel
theorem dX4_mask_0 : decode cX4_mask 0 = .ok (.iload_n 1, 1) := by decide +kernel
theorem dX4_mask_1 : decode cX4_mask 1 = .ok (.iconst 0, 1) := by decide +kernel
theorem dX4_mask_2 : decode cX4_mask 2 = .ok (.bipush 127, 2) := by decide +kernel
theorem dX4_mask_4 : decode cX4_mask 4 = .ok (.invokestatic 61, 3) := by decide +kernel
theorem dX4_mask_7 : decode cX4_mask 7 = .ok (.ifCond .ne 6, 3) := by decide +kernel
theorem dX4_mask_10 : decode cX4_mask 10 = .ok (.bipush (-2), 2) := by decide +kernel
theorem dX4_mask_12 : decode cX4_mask 12 = .ok (.ireturn, 1) := by decide +kernel
theorem dX4_mask_13 : decode cX4_mask 13 = .ok (.aload_n 0, 1) := by decide +kernel
theorem dX4_mask_14 : decode cX4_mask 14 = .ok (.getfield 12, 3) := by decide +kernel
theorem dX4_mask_17 : decode cX4_mask 17 = .ok (.iload_n 1, 1) := by decide +kernel
theorem dX4_mask_18 : decode cX4_mask 18 = .ok (.invokevirtual 89, 3) := by decide +kernel
theorem dX4_mask_21 : decode cX4_mask 21 = .ok (.aload_n 0, 1) := by decide +kernel
theorem dX4_mask_22 : decode cX4_mask 22 = .ok (.invokevirtual 93, 3) := by decide +kernel
theorem dX4_mask_25 : decode cX4_mask 25 = .ok (.ireturn, 1) := by decide +kernel
theorem dX4_code_0 : decode cX4_code 0 = .ok (.iload_n 1, 1) := by decide +kernel
theorem dX4_code_1 : decode cX4_code 1 = .ok (.iconst 1, 1) := by decide +kernel
theorem dX4_code_2 : decode cX4_code 2 = .ok (.bipush 15, 2) := by decide +kernel
theorem dX4_code_4 : decode cX4_code 4 = .ok (.invokestatic 61, 3) := by decide +kernel
theorem dX4_code_7 : decode cX4_code 7 = .ok (.ifCond .eq 13, 3) := by decide +kernel
theorem dX4_code_10 : decode cX4_code 10 = .ok (.iload_n 2, 1) := by decide +kernel
theorem dX4_code_11 : decode cX4_code 11 = .ok (.iconst 1, 1) := by decide +kernel
theorem dX4_code_12 : decode cX4_code 12 = .ok (.bipush 15, 2) := by decide +kernel
theorem dX4_code_14 : decode cX4_code 14 = .ok (.invokestatic 61, 3) := by decide +kernel
theorem dX4_code_17 : decode cX4_code 17 = .ok (.ifCond .ne 6, 3) := by decide +kernel
theorem dX4_code_20 : decode cX4_code 20 = .ok (.bipush (-2), 2) := by decide +kernel
theorem dX4_code_22 : decode cX4_code 22 = .ok (.ireturn, 1) := by decide +kernel
theorem dX4_code_23 : decode cX4_code 23 = .ok (.aload_n 0, 1) := by decide +kernel
theorem dX4_code_24 : decode cX4_code 24 = .ok (.getfield 12, 3) := by decide +kernel
theorem dX4_code_27 : decode cX4_code 27 = .ok (.iload_n 1, 1) := by decide +kernel
theorem dX4_code_28 : decode cX4_code 28 = .ok (.putfield 97, 3) := by decide +kernel
theorem dX4_code_31 : decode cX4_code 31 = .ok (.aload_n 0, 1) := by decide +kernel
theorem dX4_code_32 : decode cX4_code 32 = .ok (.getfield 12, 3) := by decide +kernel
theorem dX4_code_35 : decode cX4_code 35 = .ok (.iload_n 2, 1) := by decide +kernel
theorem dX4_code_36 : decode cX4_code 36 = .ok (.putfield 100, 3) := by decide +kernel
theorem dX4_code_39 : decode cX4_code 39 = .ok (.aload_n 0, 1) := by decide +kernel
theorem dX4_code_40 : decode cX4_code 40 = .ok (.invokevirtual 93, 3) := by decide +kernel
theorem dX4_code_43 : decode cX4_code 43 = .ok (.ireturn, 1) := by decide +kernel
theorem dX4_amp_0 : decode cX4_amp 0 = .ok (.iload_n 1, 1) := by decide +kernel
theorem dX4_amp_1 : decode cX4_amp 1 = .ok (.iconst 1, 1) := by decide +kernel
theorem dX4_amp_2 : decode cX4_amp 2 = .ok (.bipush 100, 2) := by decide +kernel
theorem dX4_amp_4 : decode cX4_amp 4 = .ok (.invokestatic 61, 3) := by decide +kernel
theorem dX4_amp_7 : decode cX4_amp 7 = .ok (.ifCond .ne 6, 3) := by decide +kernel
theorem dX4_amp_10 : decode cX4_amp 10 = .ok (.bipush (-2), 2) := by decide +kernel
theorem dX4_amp_12 : decode cX4_amp 12 = .ok (.ireturn, 1) := by decide +kernel
theorem dX4_amp_13 : decode cX4_amp 13 = .ok (.aload_n 0, 1) := by decide +kernel
theorem dX4_amp_14 : decode cX4_amp 14 = .ok (.getfield 12, 3) := by decide +kernel
theorem dX4_amp_17 : decode cX4_amp 17 = .ok (.iload_n 1, 1) := by decide +kernel
theorem dX4_amp_18 : decode cX4_amp 18 = .ok (.putfield 103, 3) := by decide +kernel
theorem dX4_amp_21 : decode cX4_amp 21 = .ok (.aload_n 0, 1) := by decide +kernel
theorem dX4_amp_22 : decode cX4_amp 22 = .ok (.invokevirtual 93, 3) := by decide +kernel
theorem dX4_amp_25 : decode cX4_amp 25 = .ok (.ireturn, 1) := by decide +kernel
theorem dX4_call_0 : decode cX4_call 0 = .ok (.iload_n 1, 1) := by decide +kernel
theorem dX4_call_1 : decode cX4_call 1 = .ok (.iconst 0, 1) := by decide +kernel
theorem dX4_call_2 : decode cX4_call 2 = .ok (.bipush 16, 2) := by decide +kernel
theorem dX4_call_4 : decode cX4_call 4 = .ok (.invokestatic 61, 3) := by decide +kernel
theorem dX4_call_7 : decode cX4_call 7 = .ok (.ifCond .eq 9, 3) := by decide +kernel
theorem dX4_call_10 : decode cX4_call 10 = .ok (.iload_n 2, 1) := by decide +kernel
theorem dX4_call_11 : decode cX4_call 11 = .ok (.iload_n 1, 1) := by decide +kernel
theorem dX4_call_12 : decode cX4_call 12 = .ok (.iushr, 1) := by decide +kernel
theorem dX4_call_13 : decode cX4_call 13 = .ok (.ifCond .eq 6, 3) := by decide +kernel
theorem dX4_call_16 : decode cX4_call 16 = .ok (.bipush (-2), 2) := by decide +kernel
theorem dX4_call_18 : decode cX4_call 18 = .ok (.ireturn, 1) := by decide +kernel
theorem dX4_call_19 : decode cX4_call 19 = .ok (.aload_n 0, 1) := by decide +kernel
theorem dX4_call_20 : decode cX4_call 20 = .ok (.getfield 12, 3) := by decide +kernel
theorem dX4_call_23 : decode cX4_call 23 = .ok (.iload_n 1, 1) := by decide +kernel
theorem dX4_call_24 : decode cX4_call 24 = .ok (.putfield 106, 3) := by decide +kernel
theorem dX4_call_27 : decode cX4_call 27 = .ok (.aload_n 0, 1) := by decide +kernel
theorem dX4_call_28 : decode cX4_call 28 = .ok (.getfield 12, 3) := by decide +kernel
theorem dX4_call_31 : decode cX4_call 31 = .ok (.iload_n 2, 1) := by decide +kernel
theorem dX4_call_32 : decode cX4_call 32 = .ok (.putfield 109, 3) := by decide +kernel
theorem dX4_call_35 : decode cX4_call 35 = .ok (.aload_n 0, 1) := by decide +kernel
theorem dX4_call_36 : decode cX4_call 36 = .ok (.invokevirtual 93, 3) := by decide +kernel
theorem dX4_call_39 : decode cX4_call 39 = .ok (.ireturn, 1) := by decide +kernel
theorem dX4_taps_0 : decode cX4_taps 0 = .ok (.iload_n 1, 1) := by decide +kernel
theorem dX4_taps_1 : decode cX4_taps 1 = .ok (.iload_n 2, 1) := by decide +kernel
theorem dX4_taps_2 : decode cX4_taps 2 = .ok (.iload_n 3, 1) := by decide +kernel
theorem dX4_taps_3 : decode cX4_taps 3 = .ok (.iload 4, 2) := by decide +kernel
theorem dX4_taps_5 : decode cX4_taps 5 = .ok (.invokestatic 112, 3) := by decide +kernel
theorem dX4_taps_8 : decode cX4_taps 8 = .ok (.ifCond .ne 6, 3) := by decide +kernel
theorem dX4_taps_11 : decode cX4_taps 11 = .ok (.bipush (-2), 2) := by decide +kernel
theorem dX4_taps_13 : decode cX4_taps 13 = .ok (.ireturn, 1) := by decide +kernel
theorem dX4_taps_14 : decode cX4_taps 14 = .ok (.aload_n 0, 1) := by decide +kernel
theorem dX4_taps_15 : decode cX4_taps 15 = .ok (.getfield 19, 3) := by decide +kernel
theorem dX4_taps_18 : decode cX4_taps 18 = .ok (.getfield 116, 3) := by decide +kernel
theorem dX4_taps_21 : decode cX4_taps 21 = .ok (.iload_n 1, 1) := by decide +kernel
theorem dX4_taps_22 : decode cX4_taps 22 = .ok (.iload_n 2, 1) := by decide +kernel
theorem dX4_taps_23 : decode cX4_taps 23 = .ok (.iload_n 3, 1) := by decide +kernel
theorem dX4_taps_24 : decode cX4_taps 24 = .ok (.iload 4, 2) := by decide +kernel
theorem dX4_taps_26 : decode cX4_taps 26 = .ok (.invokestatic 120, 3) := by decide +kernel
theorem dX4_taps_29 : decode cX4_taps 29 = .ok (.aload_n 0, 1) := by decide +kernel
theorem dX4_taps_30 : decode cX4_taps 30 = .ok (.invokevirtual 93, 3) := by decide +kernel
theorem dX4_taps_33 : decode cX4_taps 33 = .ok (.ireturn, 1) := by decide +kernel
theorem dX4_air_0 : decode cX4_air 0 = .ok (.iload_n 1, 1) := by decide +kernel
theorem dX4_air_1 : decode cX4_air 1 = .ok (.iconst 0, 1) := by decide +kernel
theorem dX4_air_2 : decode cX4_air 2 = .ok (.bipush 30, 2) := by decide +kernel
theorem dX4_air_4 : decode cX4_air 4 = .ok (.invokestatic 61, 3) := by decide +kernel
theorem dX4_air_7 : decode cX4_air 7 = .ok (.ifCond .eq 14, 3) := by decide +kernel
theorem dX4_air_10 : decode cX4_air 10 = .ok (.iload_n 2, 1) := by decide +kernel
theorem dX4_air_11 : decode cX4_air 11 = .ok (.iconst 0, 1) := by decide +kernel
theorem dX4_air_12 : decode cX4_air 12 = .ok (.sipush 500, 3) := by decide +kernel
theorem dX4_air_15 : decode cX4_air 15 = .ok (.invokestatic 61, 3) := by decide +kernel
theorem dX4_air_18 : decode cX4_air 18 = .ok (.ifCond .ne 6, 3) := by decide +kernel
theorem dX4_air_21 : decode cX4_air 21 = .ok (.bipush (-2), 2) := by decide +kernel
theorem dX4_air_23 : decode cX4_air 23 = .ok (.ireturn, 1) := by decide +kernel
theorem dX4_air_24 : decode cX4_air 24 = .ok (.aload_n 0, 1) := by decide +kernel
theorem dX4_air_25 : decode cX4_air 25 = .ok (.getfield 19, 3) := by decide +kernel
theorem dX4_air_28 : decode cX4_air 28 = .ok (.iload_n 1, 1) := by decide +kernel
theorem dX4_air_29 : decode cX4_air 29 = .ok (.putfield 124, 3) := by decide +kernel
theorem dX4_air_32 : decode cX4_air 32 = .ok (.aload_n 0, 1) := by decide +kernel
theorem dX4_air_33 : decode cX4_air 33 = .ok (.getfield 19, 3) := by decide +kernel
theorem dX4_air_36 : decode cX4_air 36 = .ok (.iload_n 2, 1) := by decide +kernel
theorem dX4_air_37 : decode cX4_air 37 = .ok (.putfield 127, 3) := by decide +kernel
theorem dX4_air_40 : decode cX4_air 40 = .ok (.aload_n 0, 1) := by decide +kernel
theorem dX4_air_41 : decode cX4_air 41 = .ok (.getfield 19, 3) := by decide +kernel
theorem dX4_air_44 : decode cX4_air 44 = .ok (.iload_n 3, 1) := by decide +kernel
theorem dX4_air_45 : decode cX4_air 45 = .ok (.putfield 130, 3) := by decide +kernel
theorem dX4_air_48 : decode cX4_air 48 = .ok (.aload_n 0, 1) := by decide +kernel
theorem dX4_air_49 : decode cX4_air 49 = .ok (.invokevirtual 93, 3) := by decide +kernel
theorem dX4_air_52 : decode cX4_air 52 = .ok (.ireturn, 1) := by decide +kernel
theorem dX4_lose_0 : decode cX4_lose 0 = .ok (.iload_n 1, 1) := by decide +kernel
theorem dX4_lose_1 : decode cX4_lose 1 = .ok (.iconst 0, 1) := by decide +kernel
theorem dX4_lose_2 : decode cX4_lose 2 = .ok (.sipush 200, 3) := by decide +kernel
theorem dX4_lose_5 : decode cX4_lose 5 = .ok (.invokestatic 61, 3) := by decide +kernel
theorem dX4_lose_8 : decode cX4_lose 8 = .ok (.ifCond .eq 14, 3) := by decide +kernel
theorem dX4_lose_11 : decode cX4_lose 11 = .ok (.iload_n 2, 1) := by decide +kernel
theorem dX4_lose_12 : decode cX4_lose 12 = .ok (.iconst 0, 1) := by decide +kernel
theorem dX4_lose_13 : decode cX4_lose 13 = .ok (.sipush 200, 3) := by decide +kernel
theorem dX4_lose_16 : decode cX4_lose 16 = .ok (.invokestatic 61, 3) := by decide +kernel
theorem dX4_lose_19 : decode cX4_lose 19 = .ok (.ifCond .ne 6, 3) := by decide +kernel
theorem dX4_lose_22 : decode cX4_lose 22 = .ok (.bipush (-2), 2) := by decide +kernel
theorem dX4_lose_24 : decode cX4_lose 24 = .ok (.ireturn, 1) := by decide +kernel
theorem dX4_lose_25 : decode cX4_lose 25 = .ok (.aload_n 0, 1) := by decide +kernel
theorem dX4_lose_26 : decode cX4_lose 26 = .ok (.getfield 19, 3) := by decide +kernel
theorem dX4_lose_29 : decode cX4_lose 29 = .ok (.iload_n 1, 1) := by decide +kernel
theorem dX4_lose_30 : decode cX4_lose 30 = .ok (.putfield 133, 3) := by decide +kernel
theorem dX4_lose_33 : decode cX4_lose 33 = .ok (.aload_n 0, 1) := by decide +kernel
theorem dX4_lose_34 : decode cX4_lose 34 = .ok (.getfield 19, 3) := by decide +kernel
theorem dX4_lose_37 : decode cX4_lose 37 = .ok (.iload_n 2, 1) := by decide +kernel
theorem dX4_lose_38 : decode cX4_lose 38 = .ok (.putfield 136, 3) := by decide +kernel
theorem dX4_lose_41 : decode cX4_lose 41 = .ok (.aload_n 0, 1) := by decide +kernel
theorem dX4_lose_42 : decode cX4_lose 42 = .ok (.invokevirtual 93, 3) := by decide +kernel
theorem dX4_lose_45 : decode cX4_lose 45 = .ok (.ireturn, 1) := by decide +kernel
theorem dX4_scrambled_0 : decode cX4_scrambled 0 = .ok (.aload_n 0, 1) := by decide +kernel
theorem dX4_scrambled_1 : decode cX4_scrambled 1 = .ok (.iload_n 1, 1) := by decide +kernel
theorem dX4_scrambled_2 : decode cX4_scrambled 2 = .ok (.invokevirtual 78, 3) := by decide +kernel
theorem dX4_scrambled_5 : decode cX4_scrambled 5 = .ok (.ifCond .eq 24, 3) := by decide +kernel
theorem dX4_scrambled_8 : decode cX4_scrambled 8 = .ok (.aload_n 0, 1) := by decide +kernel
theorem dX4_scrambled_9 : decode cX4_scrambled 9 = .ok (.getfield 12, 3) := by decide +kernel
theorem dX4_scrambled_12 : decode cX4_scrambled 12 = .ok (.getfield 139, 3) := by decide +kernel
theorem dX4_scrambled_15 : decode cX4_scrambled 15 = .ok (.aload_n 0, 1) := by decide +kernel
theorem dX4_scrambled_16 : decode cX4_scrambled 16 = .ok (.getfield 12, 3) := by decide +kernel
theorem dX4_scrambled_19 : decode cX4_scrambled 19 = .ok (.getfield 65, 3) := by decide +kernel
theorem dX4_scrambled_22 : decode cX4_scrambled 22 = .ok (.iload_n 1, 1) := by decide +kernel
theorem dX4_scrambled_23 : decode cX4_scrambled 23 = .ok (.invokestatic 85, 3) := by decide +kernel
theorem dX4_scrambled_26 : decode cX4_scrambled 26 = .ok (.goto 5, 3) := by decide +kernel
theorem dX4_scrambled_29 : decode cX4_scrambled 29 = .ok (.bipush (-2), 2) := by decide +kernel
theorem dX4_scrambled_31 : decode cX4_scrambled 31 = .ok (.ireturn, 1) := by decide +kernel
theorem dX4_voice_0 : decode cX4_voice 0 = .ok (.iload_n 1, 1) := by decide +kernel
theorem dX4_voice_1 : decode cX4_voice 1 = .ok (.iconst 0, 1) := by decide +kernel
theorem dX4_voice_2 : decode cX4_voice 2 = .ok (.aload_n 0, 1) := by decide +kernel
theorem dX4_voice_3 : decode cX4_voice 3 = .ok (.getfield 12, 3) := by decide +kernel
theorem dX4_voice_6 : decode cX4_voice 6 = .ok (.invokevirtual 142, 3) := by decide +kernel
theorem dX4_voice_9 : decode cX4_voice 9 = .ok (.iconst 1, 1) := by decide +kernel
theorem dX4_voice_10 : decode cX4_voice 10 = .ok (.isub, 1) := by decide +kernel
theorem dX4_voice_11 : decode cX4_voice 11 = .ok (.invokestatic 61, 3) := by decide +kernel
theorem dX4_voice_14 : decode cX4_voice 14 = .ok (.ifCond .eq 14, 3) := by decide +kernel
theorem dX4_voice_17 : decode cX4_voice 17 = .ok (.aload_n 0, 1) := by decide +kernel
theorem dX4_voice_18 : decode cX4_voice 18 = .ok (.getfield 12, 3) := by decide +kernel
theorem dX4_voice_21 : decode cX4_voice 21 = .ok (.iload_n 1, 1) := by decide +kernel
theorem dX4_voice_22 : decode cX4_voice 22 = .ok (.invokevirtual 145, 3) := by decide +kernel
theorem dX4_voice_25 : decode cX4_voice 25 = .ok (.goto 5, 3) := by decide +kernel
theorem dX4_voice_28 : decode cX4_voice 28 = .ok (.ldc 149, 2) := by decide +kernel
theorem dX4_voice_30 : decode cX4_voice 30 = .ok (.ireturn, 1) := by decide +kernel
theorem dX4_hear_0 : decode cX4_hear 0 = .ok (.aload_n 0, 1) := by decide +kernel
theorem dX4_hear_1 : decode cX4_hear 1 = .ok (.getfield 26, 3) := by decide +kernel
theorem dX4_hear_4 : decode cX4_hear 4 = .ok (.aload_n 0, 1) := by decide +kernel
theorem dX4_hear_5 : decode cX4_hear 5 = .ok (.getfield 12, 3) := by decide +kernel
theorem dX4_hear_8 : decode cX4_hear 8 = .ok (.aload_n 0, 1) := by decide +kernel
theorem dX4_hear_9 : decode cX4_hear 9 = .ok (.getfield 19, 3) := by decide +kernel
theorem dX4_hear_12 : decode cX4_hear 12 = .ok (.aload_n 0, 1) := by decide +kernel
theorem dX4_hear_13 : decode cX4_hear 13 = .ok (.getfield 19, 3) := by decide +kernel
theorem dX4_hear_16 : decode cX4_hear 16 = .ok (.getfield 130, 3) := by decide +kernel
theorem dX4_hear_19 : decode cX4_hear 19 = .ok (.invokevirtual 150, 3) := by decide +kernel
theorem dX4_hear_22 : decode cX4_hear 22 = .ok (.aload_n 0, 1) := by decide +kernel
theorem dX4_hear_23 : decode cX4_hear 23 = .ok (.iconst 1, 1) := by decide +kernel
theorem dX4_hear_24 : decode cX4_hear 24 = .ok (.putfield 44, 3) := by decide +kernel
theorem dX4_hear_27 : decode cX4_hear 27 = .ok (.aload_n 0, 1) := by decide +kernel
theorem dX4_hear_28 : decode cX4_hear 28 = .ok (.getfield 26, 3) := by decide +kernel
theorem dX4_hear_31 : decode cX4_hear 31 = .ok (.getfield 154, 3) := by decide +kernel
theorem dX4_hear_34 : decode cX4_hear 34 = .ok (.ireturn, 1) := by decide +kernel
theorem dX4_sample_0 : decode cX4_sample 0 = .ok (.aload_n 0, 1) := by decide +kernel
theorem dX4_sample_1 : decode cX4_sample 1 = .ok (.getfield 44, 3) := by decide +kernel
theorem dX4_sample_4 : decode cX4_sample 4 = .ok (.ifCond .eq 31, 3) := by decide +kernel
theorem dX4_sample_7 : decode cX4_sample 7 = .ok (.iload_n 1, 1) := by decide +kernel
theorem dX4_sample_8 : decode cX4_sample 8 = .ok (.iconst 0, 1) := by decide +kernel
theorem dX4_sample_9 : decode cX4_sample 9 = .ok (.aload_n 0, 1) := by decide +kernel
theorem dX4_sample_10 : decode cX4_sample 10 = .ok (.getfield 26, 3) := by decide +kernel
theorem dX4_sample_13 : decode cX4_sample 13 = .ok (.getfield 154, 3) := by decide +kernel
theorem dX4_sample_16 : decode cX4_sample 16 = .ok (.iconst 1, 1) := by decide +kernel
theorem dX4_sample_17 : decode cX4_sample 17 = .ok (.isub, 1) := by decide +kernel
theorem dX4_sample_18 : decode cX4_sample 18 = .ok (.invokestatic 61, 3) := by decide +kernel
theorem dX4_sample_21 : decode cX4_sample 21 = .ok (.ifCond .eq 14, 3) := by decide +kernel
theorem dX4_sample_24 : decode cX4_sample 24 = .ok (.aload_n 0, 1) := by decide +kernel
theorem dX4_sample_25 : decode cX4_sample 25 = .ok (.getfield 26, 3) := by decide +kernel
theorem dX4_sample_28 : decode cX4_sample 28 = .ok (.iload_n 1, 1) := by decide +kernel
theorem dX4_sample_29 : decode cX4_sample 29 = .ok (.invokevirtual 157, 3) := by decide +kernel
theorem dX4_sample_32 : decode cX4_sample 32 = .ok (.goto 5, 3) := by decide +kernel
theorem dX4_sample_35 : decode cX4_sample 35 = .ok (.ldc 149, 2) := by decide +kernel
theorem dX4_sample_37 : decode cX4_sample 37 = .ok (.ireturn, 1) := by decide +kernel
theorem dX4_least_0 : decode cX4_least 0 = .ok (.iload_n 1, 1) := by decide +kernel
theorem dX4_least_1 : decode cX4_least 1 = .ok (.iconst 0, 1) := by decide +kernel
theorem dX4_least_2 : decode cX4_least 2 = .ok (.ldc 160, 2) := by decide +kernel
theorem dX4_least_4 : decode cX4_least 4 = .ok (.invokestatic 61, 3) := by decide +kernel
theorem dX4_least_7 : decode cX4_least 7 = .ok (.ifCond .ne 6, 3) := by decide +kernel
theorem dX4_least_10 : decode cX4_least 10 = .ok (.bipush (-2), 2) := by decide +kernel
theorem dX4_least_12 : decode cX4_least 12 = .ok (.ireturn, 1) := by decide +kernel
theorem dX4_least_13 : decode cX4_least 13 = .ok (.aload_n 0, 1) := by decide +kernel
theorem dX4_least_14 : decode cX4_least 14 = .ok (.getfield 40, 3) := by decide +kernel
theorem dX4_least_17 : decode cX4_least 17 = .ok (.istore_n 2, 1) := by decide +kernel
theorem dX4_least_18 : decode cX4_least 18 = .ok (.aload_n 0, 1) := by decide +kernel
theorem dX4_least_19 : decode cX4_least 19 = .ok (.iload_n 1, 1) := by decide +kernel
theorem dX4_least_20 : decode cX4_least 20 = .ok (.putfield 40, 3) := by decide +kernel
theorem dX4_least_23 : decode cX4_least 23 = .ok (.iload_n 2, 1) := by decide +kernel
theorem dX4_least_24 : decode cX4_least 24 = .ok (.ireturn, 1) := by decide +kernel
theorem dX4_find_0 : decode cX4_find 0 = .ok (.aload_n 0, 1) := by decide +kernel
theorem dX4_find_1 : decode cX4_find 1 = .ok (.getfield 44, 3) := by decide +kernel
theorem dX4_find_4 : decode cX4_find 4 = .ok (.ifCond .ne 6, 3) := by decide +kernel
theorem dX4_find_7 : decode cX4_find 7 = .ok (.bipush (-3), 2) := by decide +kernel
theorem dX4_find_9 : decode cX4_find 9 = .ok (.ireturn, 1) := by decide +kernel
theorem dX4_find_10 : decode cX4_find 10 = .ok (.aload_n 0, 1) := by decide +kernel
theorem dX4_find_11 : decode cX4_find 11 = .ok (.aload_n 0, 1) := by decide +kernel
theorem dX4_find_12 : decode cX4_find 12 = .ok (.getfield 26, 3) := by decide +kernel
theorem dX4_find_15 : decode cX4_find 15 = .ok (.aload_n 0, 1) := by decide +kernel
theorem dX4_find_16 : decode cX4_find 16 = .ok (.getfield 12, 3) := by decide +kernel
theorem dX4_find_19 : decode cX4_find 19 = .ok (.aload_n 0, 1) := by decide +kernel
theorem dX4_find_20 : decode cX4_find 20 = .ok (.getfield 19, 3) := by decide +kernel
theorem dX4_find_23 : decode cX4_find 23 = .ok (.invokevirtual 161, 3) := by decide +kernel
theorem dX4_find_26 : decode cX4_find 26 = .ok (.aload_n 0, 1) := by decide +kernel
theorem dX4_find_27 : decode cX4_find 27 = .ok (.getfield 40, 3) := by decide +kernel
theorem dX4_find_30 : decode cX4_find 30 = .ok (.invokevirtual 164, 3) := by decide +kernel
theorem dX4_find_33 : decode cX4_find 33 = .ok (.putfield 48, 3) := by decide +kernel
theorem dX4_find_36 : decode cX4_find 36 = .ok (.aload_n 0, 1) := by decide +kernel
theorem dX4_find_37 : decode cX4_find 37 = .ok (.getfield 48, 3) := by decide +kernel
theorem dX4_find_40 : decode cX4_find 40 = .ok (.iconst (-1), 1) := by decide +kernel
theorem dX4_find_41 : decode cX4_find 41 = .ok (.if_icmp .ne 8, 3) := by decide +kernel
theorem dX4_find_44 : decode cX4_find 44 = .ok (.aload_n 0, 1) := by decide +kernel
theorem dX4_find_45 : decode cX4_find 45 = .ok (.iconst 0, 1) := by decide +kernel
theorem dX4_find_46 : decode cX4_find 46 = .ok (.putfield 51, 3) := by decide +kernel
theorem dX4_find_49 : decode cX4_find 49 = .ok (.aload_n 0, 1) := by decide +kernel
theorem dX4_find_50 : decode cX4_find 50 = .ok (.getfield 48, 3) := by decide +kernel
theorem dX4_find_53 : decode cX4_find 53 = .ok (.ireturn, 1) := by decide +kernel
theorem dX4_likeness_0 : decode cX4_likeness 0 = .ok (.aload_n 0, 1) := by decide +kernel
theorem dX4_likeness_1 : decode cX4_likeness 1 = .ok (.getfield 44, 3) := by decide +kernel
theorem dX4_likeness_4 : decode cX4_likeness 4 = .ok (.ifCond .eq 33, 3) := by decide +kernel
theorem dX4_likeness_7 : decode cX4_likeness 7 = .ok (.iload_n 1, 1) := by decide +kernel
theorem dX4_likeness_8 : decode cX4_likeness 8 = .ok (.iconst 0, 1) := by decide +kernel
theorem dX4_likeness_9 : decode cX4_likeness 9 = .ok (.aload_n 0, 1) := by decide +kernel
theorem dX4_likeness_10 : decode cX4_likeness 10 = .ok (.getfield 19, 3) := by decide +kernel
theorem dX4_likeness_13 : decode cX4_likeness 13 = .ok (.invokevirtual 161, 3) := by decide +kernel
theorem dX4_likeness_16 : decode cX4_likeness 16 = .ok (.invokestatic 61, 3) := by decide +kernel
theorem dX4_likeness_19 : decode cX4_likeness 19 = .ok (.ifCond .eq 18, 3) := by decide +kernel
theorem dX4_likeness_22 : decode cX4_likeness 22 = .ok (.aload_n 0, 1) := by decide +kernel
theorem dX4_likeness_23 : decode cX4_likeness 23 = .ok (.getfield 26, 3) := by decide +kernel
theorem dX4_likeness_26 : decode cX4_likeness 26 = .ok (.aload_n 0, 1) := by decide +kernel
theorem dX4_likeness_27 : decode cX4_likeness 27 = .ok (.getfield 12, 3) := by decide +kernel
theorem dX4_likeness_30 : decode cX4_likeness 30 = .ok (.iload_n 1, 1) := by decide +kernel
theorem dX4_likeness_31 : decode cX4_likeness 31 = .ok (.invokevirtual 168, 3) := by decide +kernel
theorem dX4_likeness_34 : decode cX4_likeness 34 = .ok (.goto 5, 3) := by decide +kernel
theorem dX4_likeness_37 : decode cX4_likeness 37 = .ok (.ldc 149, 2) := by decide +kernel
theorem dX4_likeness_39 : decode cX4_likeness 39 = .ok (.ireturn, 1) := by decide +kernel
theorem dX4_bring_0 : decode cX4_bring 0 = .ok (.iload_n 1, 1) := by decide +kernel
theorem dX4_bring_1 : decode cX4_bring 1 = .ok (.iload_n 2, 1) := by decide +kernel
theorem dX4_bring_2 : decode cX4_bring 2 = .ok (.iload_n 3, 1) := by decide +kernel
theorem dX4_bring_3 : decode cX4_bring 3 = .ok (.iload 4, 2) := by decide +kernel
theorem dX4_bring_5 : decode cX4_bring 5 = .ok (.invokestatic 112, 3) := by decide +kernel
theorem dX4_bring_8 : decode cX4_bring 8 = .ok (.ifCond .ne 7, 3) := by decide +kernel
theorem dX4_bring_11 : decode cX4_bring 11 = .ok (.ldc2_w 172, 3) := by decide +kernel
theorem dX4_bring_14 : decode cX4_bring 14 = .ok (.lreturn, 1) := by decide +kernel
theorem dX4_bring_15 : decode cX4_bring 15 = .ok (.aload_n 0, 1) := by decide +kernel
theorem dX4_bring_16 : decode cX4_bring 16 = .ok (.getfield 48, 3) := by decide +kernel
theorem dX4_bring_19 : decode cX4_bring 19 = .ok (.iconst (-1), 1) := by decide +kernel
theorem dX4_bring_20 : decode cX4_bring 20 = .ok (.if_icmp .eq 13, 3) := by decide +kernel
theorem dX4_bring_23 : decode cX4_bring 23 = .ok (.aload_n 0, 1) := by decide +kernel
theorem dX4_bring_24 : decode cX4_bring 24 = .ok (.getfield 12, 3) := by decide +kernel
theorem dX4_bring_27 : decode cX4_bring 27 = .ok (.getfield 65, 3) := by decide +kernel
theorem dX4_bring_30 : decode cX4_bring 30 = .ok (.ifCond .ne 7, 3) := by decide +kernel
theorem dX4_bring_33 : decode cX4_bring 33 = .ok (.ldc2_w 174, 3) := by decide +kernel
theorem dX4_bring_36 : decode cX4_bring 36 = .ok (.lreturn, 1) := by decide +kernel
theorem dX4_bring_37 : decode cX4_bring 37 = .ok (.aload_n 0, 1) := by decide +kernel
theorem dX4_bring_38 : decode cX4_bring 38 = .ok (.getfield 36, 3) := by decide +kernel
theorem dX4_bring_41 : decode cX4_bring 41 = .ok (.getfield 176, 3) := by decide +kernel
theorem dX4_bring_44 : decode cX4_bring 44 = .ok (.iload_n 1, 1) := by decide +kernel
theorem dX4_bring_45 : decode cX4_bring 45 = .ok (.iload_n 2, 1) := by decide +kernel
theorem dX4_bring_46 : decode cX4_bring 46 = .ok (.iload_n 3, 1) := by decide +kernel
theorem dX4_bring_47 : decode cX4_bring 47 = .ok (.iload 4, 2) := by decide +kernel
theorem dX4_bring_49 : decode cX4_bring 49 = .ok (.invokestatic 120, 3) := by decide +kernel
theorem dX4_bring_52 : decode cX4_bring 52 = .ok (.aload_n 0, 1) := by decide +kernel
theorem dX4_bring_53 : decode cX4_bring 53 = .ok (.getfield 36, 3) := by decide +kernel
theorem dX4_bring_56 : decode cX4_bring 56 = .ok (.aload_n 0, 1) := by decide +kernel
theorem dX4_bring_57 : decode cX4_bring 57 = .ok (.getfield 12, 3) := by decide +kernel
theorem dX4_bring_60 : decode cX4_bring 60 = .ok (.aload_n 0, 1) := by decide +kernel
theorem dX4_bring_61 : decode cX4_bring 61 = .ok (.getfield 26, 3) := by decide +kernel
theorem dX4_bring_64 : decode cX4_bring 64 = .ok (.aload_n 0, 1) := by decide +kernel
theorem dX4_bring_65 : decode cX4_bring 65 = .ok (.getfield 48, 3) := by decide +kernel
theorem dX4_bring_68 : decode cX4_bring 68 = .ok (.invokevirtual 179, 3) := by decide +kernel
theorem dX4_bring_71 : decode cX4_bring 71 = .ok (.aload_n 0, 1) := by decide +kernel
theorem dX4_bring_72 : decode cX4_bring 72 = .ok (.aload_n 0, 1) := by decide +kernel
theorem dX4_bring_73 : decode cX4_bring 73 = .ok (.getfield 36, 3) := by decide +kernel
theorem dX4_bring_76 : decode cX4_bring 76 = .ok (.getfield 183, 3) := by decide +kernel
theorem dX4_bring_79 : decode cX4_bring 79 = .ok (.putfield 54, 3) := by decide +kernel
theorem dX4_bring_82 : decode cX4_bring 82 = .ok (.aload_n 0, 1) := by decide +kernel
theorem dX4_bring_83 : decode cX4_bring 83 = .ok (.aload_n 0, 1) := by decide +kernel
theorem dX4_bring_84 : decode cX4_bring 84 = .ok (.getfield 36, 3) := by decide +kernel
theorem dX4_bring_87 : decode cX4_bring 87 = .ok (.getfield 183, 3) := by decide +kernel
theorem dX4_bring_90 : decode cX4_bring 90 = .ok (.aload_n 0, 1) := by decide +kernel
theorem dX4_bring_91 : decode cX4_bring 91 = .ok (.getfield 12, 3) := by decide +kernel
theorem dX4_bring_94 : decode cX4_bring 94 = .ok (.getfield 65, 3) := by decide +kernel
theorem dX4_bring_97 : decode cX4_bring 97 = .ok (.aload_n 0, 1) := by decide +kernel
theorem dX4_bring_98 : decode cX4_bring 98 = .ok (.getfield 12, 3) := by decide +kernel
theorem dX4_bring_101 : decode cX4_bring 101 = .ok (.getfield 186, 3) := by decide +kernel
theorem dX4_bring_104 : decode cX4_bring 104 = .ok (.invokestatic 189, 3) := by decide +kernel
theorem dX4_bring_107 : decode cX4_bring 107 = .ok (.putfield 58, 3) := by decide +kernel
theorem dX4_bring_110 : decode cX4_bring 110 = .ok (.aload_n 0, 1) := by decide +kernel
theorem dX4_bring_111 : decode cX4_bring 111 = .ok (.iconst 1, 1) := by decide +kernel
theorem dX4_bring_112 : decode cX4_bring 112 = .ok (.putfield 51, 3) := by decide +kernel
theorem dX4_bring_115 : decode cX4_bring 115 = .ok (.aload_n 0, 1) := by decide +kernel
theorem dX4_bring_116 : decode cX4_bring 116 = .ok (.getfield 36, 3) := by decide +kernel
theorem dX4_bring_119 : decode cX4_bring 119 = .ok (.getfield 193, 3) := by decide +kernel
theorem dX4_bring_122 : decode cX4_bring 122 = .ok (.lreturn, 1) := by decide +kernel
theorem dX4_brought_0 : decode cX4_brought 0 = .ok (.iload_n 1, 1) := by decide +kernel
theorem dX4_brought_1 : decode cX4_brought 1 = .ok (.iconst 0, 1) := by decide +kernel
theorem dX4_brought_2 : decode cX4_brought 2 = .ok (.iconst 1, 1) := by decide +kernel
theorem dX4_brought_3 : decode cX4_brought 3 = .ok (.invokestatic 61, 3) := by decide +kernel
theorem dX4_brought_6 : decode cX4_brought 6 = .ok (.ifCond .eq 11, 3) := by decide +kernel
theorem dX4_brought_9 : decode cX4_brought 9 = .ok (.aload_n 0, 1) := by decide +kernel
theorem dX4_brought_10 : decode cX4_brought 10 = .ok (.iload_n 2, 1) := by decide +kernel
theorem dX4_brought_11 : decode cX4_brought 11 = .ok (.invokevirtual 78, 3) := by decide +kernel
theorem dX4_brought_14 : decode cX4_brought 14 = .ok (.ifCond .ne 6, 3) := by decide +kernel
theorem dX4_brought_17 : decode cX4_brought 17 = .ok (.bipush (-2), 2) := by decide +kernel
theorem dX4_brought_19 : decode cX4_brought 19 = .ok (.ireturn, 1) := by decide +kernel
theorem dX4_brought_20 : decode cX4_brought 20 = .ok (.aload_n 0, 1) := by decide +kernel
theorem dX4_brought_21 : decode cX4_brought 21 = .ok (.getfield 51, 3) := by decide +kernel
theorem dX4_brought_24 : decode cX4_brought 24 = .ok (.ifCond .ne 6, 3) := by decide +kernel
theorem dX4_brought_27 : decode cX4_brought 27 = .ok (.bipush (-3), 2) := by decide +kernel
theorem dX4_brought_29 : decode cX4_brought 29 = .ok (.ireturn, 1) := by decide +kernel
theorem dX4_brought_30 : decode cX4_brought 30 = .ok (.iload_n 1, 1) := by decide +kernel
theorem dX4_brought_31 : decode cX4_brought 31 = .ok (.iconst 1, 1) := by decide +kernel
theorem dX4_brought_32 : decode cX4_brought 32 = .ok (.if_icmp .ne 10, 3) := by decide +kernel
theorem dX4_brought_35 : decode cX4_brought 35 = .ok (.aload_n 0, 1) := by decide +kernel
theorem dX4_brought_36 : decode cX4_brought 36 = .ok (.getfield 54, 3) := by decide +kernel
theorem dX4_brought_39 : decode cX4_brought 39 = .ok (.goto 7, 3) := by decide +kernel
theorem dX4_brought_42 : decode cX4_brought 42 = .ok (.aload_n 0, 1) := by decide +kernel
theorem dX4_brought_43 : decode cX4_brought 43 = .ok (.getfield 58, 3) := by decide +kernel
theorem dX4_brought_46 : decode cX4_brought 46 = .ok (.aload_n 0, 1) := by decide +kernel
theorem dX4_brought_47 : decode cX4_brought 47 = .ok (.getfield 12, 3) := by decide +kernel
theorem dX4_brought_50 : decode cX4_brought 50 = .ok (.getfield 65, 3) := by decide +kernel
theorem dX4_brought_53 : decode cX4_brought 53 = .ok (.iload_n 2, 1) := by decide +kernel
theorem dX4_brought_54 : decode cX4_brought 54 = .ok (.invokestatic 85, 3) := by decide +kernel
theorem dX4_brought_57 : decode cX4_brought 57 = .ok (.ireturn, 1) := by decide +kernel
theorem dX4_errors_0 : decode cX4_errors 0 = .ok (.aload_n 0, 1) := by decide +kernel
theorem dX4_errors_1 : decode cX4_errors 1 = .ok (.getfield 51, 3) := by decide +kernel
theorem dX4_errors_4 : decode cX4_errors 4 = .ok (.ifCond .eq 20, 3) := by decide +kernel
theorem dX4_errors_7 : decode cX4_errors 7 = .ok (.aload_n 0, 1) := by decide +kernel
theorem dX4_errors_8 : decode cX4_errors 8 = .ok (.getfield 58, 3) := by decide +kernel
theorem dX4_errors_11 : decode cX4_errors 11 = .ok (.aload_n 0, 1) := by decide +kernel
theorem dX4_errors_12 : decode cX4_errors 12 = .ok (.getfield 12, 3) := by decide +kernel
theorem dX4_errors_15 : decode cX4_errors 15 = .ok (.getfield 82, 3) := by decide +kernel
theorem dX4_errors_18 : decode cX4_errors 18 = .ok (.invokestatic 196, 3) := by decide +kernel
theorem dX4_errors_21 : decode cX4_errors 21 = .ok (.goto 5, 3) := by decide +kernel
theorem dX4_errors_24 : decode cX4_errors 24 = .ok (.bipush (-3), 2) := by decide +kernel
theorem dX4_errors_26 : decode cX4_errors 26 = .ok (.ireturn, 1) := by decide +kernel
theorem dX4_sweep_0 : decode cX4_sweep 0 = .ok (.iload_n 1, 1) := by decide +kernel
theorem dX4_sweep_1 : decode cX4_sweep 1 = .ok (.iconst 1, 1) := by decide +kernel
theorem dX4_sweep_2 : decode cX4_sweep 2 = .ok (.bipush 20, 2) := by decide +kernel
theorem dX4_sweep_4 : decode cX4_sweep 4 = .ok (.invokestatic 61, 3) := by decide +kernel
theorem dX4_sweep_7 : decode cX4_sweep 7 = .ok (.ifCond .ne 6, 3) := by decide +kernel
theorem dX4_sweep_10 : decode cX4_sweep 10 = .ok (.bipush (-2), 2) := by decide +kernel
theorem dX4_sweep_12 : decode cX4_sweep 12 = .ok (.ireturn, 1) := by decide +kernel
theorem dX4_sweep_13 : decode cX4_sweep 13 = .ok (.iconst 0, 1) := by decide +kernel
theorem dX4_sweep_14 : decode cX4_sweep 14 = .ok (.istore_n 2, 1) := by decide +kernel
theorem dX4_sweep_15 : decode cX4_sweep 15 = .ok (.iconst 0, 1) := by decide +kernel
theorem dX4_sweep_16 : decode cX4_sweep 16 = .ok (.istore_n 3, 1) := by decide +kernel
theorem dX4_sweep_17 : decode cX4_sweep 17 = .ok (.iload_n 3, 1) := by decide +kernel
theorem dX4_sweep_18 : decode cX4_sweep 18 = .ok (.iload_n 1, 1) := by decide +kernel
theorem dX4_sweep_19 : decode cX4_sweep 19 = .ok (.if_icmp .ge 25, 3) := by decide +kernel
theorem dX4_sweep_22 : decode cX4_sweep 22 = .ok (.iload_n 2, 1) := by decide +kernel
theorem dX4_sweep_23 : decode cX4_sweep 23 = .ok (.aload_n 0, 1) := by decide +kernel
theorem dX4_sweep_24 : decode cX4_sweep 24 = .ok (.aload_n 0, 1) := by decide +kernel
theorem dX4_sweep_25 : decode cX4_sweep 25 = .ok (.getfield 19, 3) := by decide +kernel
theorem dX4_sweep_28 : decode cX4_sweep 28 = .ok (.getfield 130, 3) := by decide +kernel
theorem dX4_sweep_31 : decode cX4_sweep 31 = .ok (.iload_n 3, 1) := by decide +kernel
theorem dX4_sweep_32 : decode cX4_sweep 32 = .ok (.iadd, 1) := by decide +kernel
theorem dX4_sweep_33 : decode cX4_sweep 33 = .ok (.invokevirtual 200, 3) := by decide +kernel
theorem dX4_sweep_36 : decode cX4_sweep 36 = .ok (.iadd, 1) := by decide +kernel
theorem dX4_sweep_37 : decode cX4_sweep 37 = .ok (.istore_n 2, 1) := by decide +kernel
theorem dX4_sweep_38 : decode cX4_sweep 38 = .ok (.iinc 3 1, 3) := by decide +kernel
theorem dX4_sweep_41 : decode cX4_sweep 41 = .ok (.goto (-24), 3) := by decide +kernel
theorem dX4_sweep_44 : decode cX4_sweep 44 = .ok (.iload_n 2, 1) := by decide +kernel
theorem dX4_sweep_45 : decode cX4_sweep 45 = .ok (.ireturn, 1) := by decide +kernel
theorem dX4_whole_0 : decode cX4_whole 0 = .ok (.iload_n 1, 1) := by decide +kernel
theorem dX4_whole_1 : decode cX4_whole 1 = .ok (.iconst 1, 1) := by decide +kernel
theorem dX4_whole_2 : decode cX4_whole 2 = .ok (.bipush 20, 2) := by decide +kernel
theorem dX4_whole_4 : decode cX4_whole 4 = .ok (.invokestatic 61, 3) := by decide +kernel
theorem dX4_whole_7 : decode cX4_whole 7 = .ok (.ifCond .ne 6, 3) := by decide +kernel
theorem dX4_whole_10 : decode cX4_whole 10 = .ok (.bipush (-2), 2) := by decide +kernel
theorem dX4_whole_12 : decode cX4_whole 12 = .ok (.ireturn, 1) := by decide +kernel
theorem dX4_whole_13 : decode cX4_whole 13 = .ok (.iconst 0, 1) := by decide +kernel
theorem dX4_whole_14 : decode cX4_whole 14 = .ok (.istore_n 2, 1) := by decide +kernel
theorem dX4_whole_15 : decode cX4_whole 15 = .ok (.iload_n 2, 1) := by decide +kernel
theorem dX4_whole_16 : decode cX4_whole 16 = .ok (.iload_n 1, 1) := by decide +kernel
theorem dX4_whole_17 : decode cX4_whole 17 = .ok (.if_icmp .ge 29, 3) := by decide +kernel
theorem dX4_whole_20 : decode cX4_whole 20 = .ok (.aload_n 0, 1) := by decide +kernel
theorem dX4_whole_21 : decode cX4_whole 21 = .ok (.aload_n 0, 1) := by decide +kernel
theorem dX4_whole_22 : decode cX4_whole 22 = .ok (.getfield 19, 3) := by decide +kernel
theorem dX4_whole_25 : decode cX4_whole 25 = .ok (.getfield 130, 3) := by decide +kernel
theorem dX4_whole_28 : decode cX4_whole 28 = .ok (.iload_n 2, 1) := by decide +kernel
theorem dX4_whole_29 : decode cX4_whole 29 = .ok (.iadd, 1) := by decide +kernel
theorem dX4_whole_30 : decode cX4_whole 30 = .ok (.invokevirtual 200, 3) := by decide +kernel
theorem dX4_whole_33 : decode cX4_whole 33 = .ok (.ifCond .ne 7, 3) := by decide +kernel
theorem dX4_whole_36 : decode cX4_whole 36 = .ok (.iload_n 2, 1) := by decide +kernel
theorem dX4_whole_37 : decode cX4_whole 37 = .ok (.iconst 1, 1) := by decide +kernel
theorem dX4_whole_38 : decode cX4_whole 38 = .ok (.iadd, 1) := by decide +kernel
theorem dX4_whole_39 : decode cX4_whole 39 = .ok (.ireturn, 1) := by decide +kernel
theorem dX4_whole_40 : decode cX4_whole 40 = .ok (.iinc 2 1, 3) := by decide +kernel
theorem dX4_whole_43 : decode cX4_whole 43 = .ok (.goto (-28), 3) := by decide +kernel
theorem dX4_whole_46 : decode cX4_whole 46 = .ok (.iconst (-1), 1) := by decide +kernel
theorem dX4_whole_47 : decode cX4_whole 47 = .ok (.ireturn, 1) := by decide +kernel
theorem dX4_count_0 : decode cX4_count 0 = .ok (.iload_n 1, 1) := by decide +kernel
theorem dX4_count_1 : decode cX4_count 1 = .ok (.tableswitch 88 0 4 #[35, 43, 51, 70, 75], 35) := by decide +kernel
theorem dX4_count_36 : decode cX4_count 36 = .ok (.aload_n 0, 1) := by decide +kernel
theorem dX4_count_37 : decode cX4_count 37 = .ok (.getfield 12, 3) := by decide +kernel
theorem dX4_count_40 : decode cX4_count 40 = .ok (.getfield 65, 3) := by decide +kernel
theorem dX4_count_43 : decode cX4_count 43 = .ok (.ireturn, 1) := by decide +kernel
theorem dX4_count_44 : decode cX4_count 44 = .ok (.aload_n 0, 1) := by decide +kernel
theorem dX4_count_45 : decode cX4_count 45 = .ok (.getfield 12, 3) := by decide +kernel
theorem dX4_count_48 : decode cX4_count 48 = .ok (.invokevirtual 142, 3) := by decide +kernel
theorem dX4_count_51 : decode cX4_count 51 = .ok (.ireturn, 1) := by decide +kernel
theorem dX4_count_52 : decode cX4_count 52 = .ok (.aload_n 0, 1) := by decide +kernel
theorem dX4_count_53 : decode cX4_count 53 = .ok (.getfield 44, 3) := by decide +kernel
theorem dX4_count_56 : decode cX4_count 56 = .ok (.ifCond .eq 13, 3) := by decide +kernel
theorem dX4_count_59 : decode cX4_count 59 = .ok (.aload_n 0, 1) := by decide +kernel
theorem dX4_count_60 : decode cX4_count 60 = .ok (.getfield 26, 3) := by decide +kernel
theorem dX4_count_63 : decode cX4_count 63 = .ok (.getfield 154, 3) := by decide +kernel
theorem dX4_count_66 : decode cX4_count 66 = .ok (.goto 4, 3) := by decide +kernel
theorem dX4_count_69 : decode cX4_count 69 = .ok (.iconst (-1), 1) := by decide +kernel
theorem dX4_count_70 : decode cX4_count 70 = .ok (.ireturn, 1) := by decide +kernel
theorem dX4_count_71 : decode cX4_count 71 = .ok (.aload_n 0, 1) := by decide +kernel
theorem dX4_count_72 : decode cX4_count 72 = .ok (.getfield 48, 3) := by decide +kernel
theorem dX4_count_75 : decode cX4_count 75 = .ok (.ireturn, 1) := by decide +kernel
theorem dX4_count_76 : decode cX4_count 76 = .ok (.aload_n 0, 1) := by decide +kernel
theorem dX4_count_77 : decode cX4_count 77 = .ok (.getfield 51, 3) := by decide +kernel
theorem dX4_count_80 : decode cX4_count 80 = .ok (.ifCond .eq 7, 3) := by decide +kernel
theorem dX4_count_83 : decode cX4_count 83 = .ok (.iconst 1, 1) := by decide +kernel
theorem dX4_count_84 : decode cX4_count 84 = .ok (.goto 4, 3) := by decide +kernel
theorem dX4_count_87 : decode cX4_count 87 = .ok (.iconst 0, 1) := by decide +kernel
theorem dX4_count_88 : decode cX4_count 88 = .ok (.ireturn, 1) := by decide +kernel
theorem dX4_count_89 : decode cX4_count 89 = .ok (.bipush (-2), 2) := by decide +kernel
theorem dX4_count_91 : decode cX4_count 91 = .ok (.ireturn, 1) := by decide +kernel
theorem dX4_changed_0 : decode cX4_changed 0 = .ok (.aload_n 0, 1) := by decide +kernel
theorem dX4_changed_1 : decode cX4_changed 1 = .ok (.invokevirtual 72, 3) := by decide +kernel
theorem dX4_changed_4 : decode cX4_changed 4 = .ok (.iconst 1, 1) := by decide +kernel
theorem dX4_changed_5 : decode cX4_changed 5 = .ok (.ireturn, 1) := by decide +kernel
theorem dX4_endHeard_0 : decode cX4_endHeard 0 = .ok (.aload_n 0, 1) := by decide +kernel
theorem dX4_endHeard_1 : decode cX4_endHeard 1 = .ok (.iconst 0, 1) := by decide +kernel
theorem dX4_endHeard_2 : decode cX4_endHeard 2 = .ok (.putfield 44, 3) := by decide +kernel
theorem dX4_endHeard_5 : decode cX4_endHeard 5 = .ok (.aload_n 0, 1) := by decide +kernel
theorem dX4_endHeard_6 : decode cX4_endHeard 6 = .ok (.iconst (-1), 1) := by decide +kernel
theorem dX4_endHeard_7 : decode cX4_endHeard 7 = .ok (.putfield 48, 3) := by decide +kernel
theorem dX4_endHeard_10 : decode cX4_endHeard 10 = .ok (.aload_n 0, 1) := by decide +kernel
theorem dX4_endHeard_11 : decode cX4_endHeard 11 = .ok (.iconst 0, 1) := by decide +kernel
theorem dX4_endHeard_12 : decode cX4_endHeard 12 = .ok (.putfield 51, 3) := by decide +kernel
theorem dX4_endHeard_15 : decode cX4_endHeard 15 = .ok (.return_, 1) := by decide +kernel
theorem dX4_isBitPlace_0 : decode cX4_isBitPlace 0 = .ok (.iload_n 1, 1) := by decide +kernel
theorem dX4_isBitPlace_1 : decode cX4_isBitPlace 1 = .ok (.iconst 0, 1) := by decide +kernel
theorem dX4_isBitPlace_2 : decode cX4_isBitPlace 2 = .ok (.aload_n 0, 1) := by decide +kernel
theorem dX4_isBitPlace_3 : decode cX4_isBitPlace 3 = .ok (.getfield 12, 3) := by decide +kernel
theorem dX4_isBitPlace_6 : decode cX4_isBitPlace 6 = .ok (.getfield 65, 3) := by decide +kernel
theorem dX4_isBitPlace_9 : decode cX4_isBitPlace 9 = .ok (.iconst 1, 1) := by decide +kernel
theorem dX4_isBitPlace_10 : decode cX4_isBitPlace 10 = .ok (.isub, 1) := by decide +kernel
theorem dX4_isBitPlace_11 : decode cX4_isBitPlace 11 = .ok (.invokestatic 61, 3) := by decide +kernel
theorem dX4_isBitPlace_14 : decode cX4_isBitPlace 14 = .ok (.ireturn, 1) := by decide +kernel
theorem dX4_errorsOfSending_0 : decode cX4_errorsOfSending 0 = .ok (.aload_n 0, 1) := by decide +kernel
theorem dX4_errorsOfSending_1 : decode cX4_errorsOfSending 1 = .ok (.getfield 30, 3) := by decide +kernel
theorem dX4_errorsOfSending_4 : decode cX4_errorsOfSending 4 = .ok (.aload_n 0, 1) := by decide +kernel
theorem dX4_errorsOfSending_5 : decode cX4_errorsOfSending 5 = .ok (.getfield 12, 3) := by decide +kernel
theorem dX4_errorsOfSending_8 : decode cX4_errorsOfSending 8 = .ok (.aload_n 0, 1) := by decide +kernel
theorem dX4_errorsOfSending_9 : decode cX4_errorsOfSending 9 = .ok (.getfield 19, 3) := by decide +kernel
theorem dX4_errorsOfSending_12 : decode cX4_errorsOfSending 12 = .ok (.iload_n 1, 1) := by decide +kernel
theorem dX4_errorsOfSending_13 : decode cX4_errorsOfSending 13 = .ok (.invokevirtual 150, 3) := by decide +kernel
theorem dX4_errorsOfSending_16 : decode cX4_errorsOfSending 16 = .ok (.aload_n 0, 1) := by decide +kernel
theorem dX4_errorsOfSending_17 : decode cX4_errorsOfSending 17 = .ok (.getfield 30, 3) := by decide +kernel
theorem dX4_errorsOfSending_20 : decode cX4_errorsOfSending 20 = .ok (.aload_n 0, 1) := by decide +kernel
theorem dX4_errorsOfSending_21 : decode cX4_errorsOfSending 21 = .ok (.getfield 12, 3) := by decide +kernel
theorem dX4_errorsOfSending_24 : decode cX4_errorsOfSending 24 = .ok (.aload_n 0, 1) := by decide +kernel
theorem dX4_errorsOfSending_25 : decode cX4_errorsOfSending 25 = .ok (.getfield 19, 3) := by decide +kernel
theorem dX4_errorsOfSending_28 : decode cX4_errorsOfSending 28 = .ok (.invokevirtual 161, 3) := by decide +kernel
theorem dX4_errorsOfSending_31 : decode cX4_errorsOfSending 31 = .ok (.aload_n 0, 1) := by decide +kernel
theorem dX4_errorsOfSending_32 : decode cX4_errorsOfSending 32 = .ok (.getfield 40, 3) := by decide +kernel
theorem dX4_errorsOfSending_35 : decode cX4_errorsOfSending 35 = .ok (.invokevirtual 164, 3) := by decide +kernel
theorem dX4_errorsOfSending_38 : decode cX4_errorsOfSending 38 = .ok (.istore_n 2, 1) := by decide +kernel
theorem dX4_errorsOfSending_39 : decode cX4_errorsOfSending 39 = .ok (.iload_n 2, 1) := by decide +kernel
theorem dX4_errorsOfSending_40 : decode cX4_errorsOfSending 40 = .ok (.iconst (-1), 1) := by decide +kernel
theorem dX4_errorsOfSending_41 : decode cX4_errorsOfSending 41 = .ok (.if_icmp .eq 13, 3) := by decide +kernel
theorem dX4_errorsOfSending_44 : decode cX4_errorsOfSending 44 = .ok (.aload_n 0, 1) := by decide +kernel
theorem dX4_errorsOfSending_45 : decode cX4_errorsOfSending 45 = .ok (.getfield 12, 3) := by decide +kernel
theorem dX4_errorsOfSending_48 : decode cX4_errorsOfSending 48 = .ok (.getfield 65, 3) := by decide +kernel
theorem dX4_errorsOfSending_51 : decode cX4_errorsOfSending 51 = .ok (.ifCond .ne 11, 3) := by decide +kernel
theorem dX4_errorsOfSending_54 : decode cX4_errorsOfSending 54 = .ok (.aload_n 0, 1) := by decide +kernel
theorem dX4_errorsOfSending_55 : decode cX4_errorsOfSending 55 = .ok (.getfield 12, 3) := by decide +kernel
theorem dX4_errorsOfSending_58 : decode cX4_errorsOfSending 58 = .ok (.getfield 65, 3) := by decide +kernel
theorem dX4_errorsOfSending_61 : decode cX4_errorsOfSending 61 = .ok (.ireturn, 1) := by decide +kernel
theorem dX4_errorsOfSending_62 : decode cX4_errorsOfSending 62 = .ok (.aload_n 0, 1) := by decide +kernel
theorem dX4_errorsOfSending_63 : decode cX4_errorsOfSending 63 = .ok (.getfield 19, 3) := by decide +kernel
theorem dX4_errorsOfSending_66 : decode cX4_errorsOfSending 66 = .ok (.getfield 116, 3) := by decide +kernel
theorem dX4_errorsOfSending_69 : decode cX4_errorsOfSending 69 = .ok (.iconst 0, 1) := by decide +kernel
theorem dX4_errorsOfSending_70 : decode cX4_errorsOfSending 70 = .ok (.aload_n 0, 1) := by decide +kernel
theorem dX4_errorsOfSending_71 : decode cX4_errorsOfSending 71 = .ok (.getfield 36, 3) := by decide +kernel
theorem dX4_errorsOfSending_74 : decode cX4_errorsOfSending 74 = .ok (.getfield 176, 3) := by decide +kernel
theorem dX4_errorsOfSending_77 : decode cX4_errorsOfSending 77 = .ok (.iconst 0, 1) := by decide +kernel
theorem dX4_errorsOfSending_78 : decode cX4_errorsOfSending 78 = .ok (.iconst 4, 1) := by decide +kernel
theorem dX4_errorsOfSending_79 : decode cX4_errorsOfSending 79 = .ok (.invokestatic 203, 3) := by decide +kernel
theorem dX4_errorsOfSending_82 : decode cX4_errorsOfSending 82 = .ok (.aload_n 0, 1) := by decide +kernel
theorem dX4_errorsOfSending_83 : decode cX4_errorsOfSending 83 = .ok (.getfield 36, 3) := by decide +kernel
theorem dX4_errorsOfSending_86 : decode cX4_errorsOfSending 86 = .ok (.aload_n 0, 1) := by decide +kernel
theorem dX4_errorsOfSending_87 : decode cX4_errorsOfSending 87 = .ok (.getfield 12, 3) := by decide +kernel
theorem dX4_errorsOfSending_90 : decode cX4_errorsOfSending 90 = .ok (.aload_n 0, 1) := by decide +kernel
theorem dX4_errorsOfSending_91 : decode cX4_errorsOfSending 91 = .ok (.getfield 30, 3) := by decide +kernel
theorem dX4_errorsOfSending_94 : decode cX4_errorsOfSending 94 = .ok (.iload_n 2, 1) := by decide +kernel
theorem dX4_errorsOfSending_95 : decode cX4_errorsOfSending 95 = .ok (.invokevirtual 179, 3) := by decide +kernel
theorem dX4_errorsOfSending_98 : decode cX4_errorsOfSending 98 = .ok (.aload_n 0, 1) := by decide +kernel
theorem dX4_errorsOfSending_99 : decode cX4_errorsOfSending 99 = .ok (.getfield 36, 3) := by decide +kernel
theorem dX4_errorsOfSending_102 : decode cX4_errorsOfSending 102 = .ok (.getfield 183, 3) := by decide +kernel
theorem dX4_errorsOfSending_105 : decode cX4_errorsOfSending 105 = .ok (.aload_n 0, 1) := by decide +kernel
theorem dX4_errorsOfSending_106 : decode cX4_errorsOfSending 106 = .ok (.getfield 12, 3) := by decide +kernel
theorem dX4_errorsOfSending_109 : decode cX4_errorsOfSending 109 = .ok (.getfield 65, 3) := by decide +kernel
theorem dX4_errorsOfSending_112 : decode cX4_errorsOfSending 112 = .ok (.aload_n 0, 1) := by decide +kernel
theorem dX4_errorsOfSending_113 : decode cX4_errorsOfSending 113 = .ok (.getfield 12, 3) := by decide +kernel
theorem dX4_errorsOfSending_116 : decode cX4_errorsOfSending 116 = .ok (.getfield 186, 3) := by decide +kernel
theorem dX4_errorsOfSending_119 : decode cX4_errorsOfSending 119 = .ok (.invokestatic 189, 3) := by decide +kernel
theorem dX4_errorsOfSending_122 : decode cX4_errorsOfSending 122 = .ok (.aload_n 0, 1) := by decide +kernel
theorem dX4_errorsOfSending_123 : decode cX4_errorsOfSending 123 = .ok (.getfield 12, 3) := by decide +kernel
theorem dX4_errorsOfSending_126 : decode cX4_errorsOfSending 126 = .ok (.getfield 82, 3) := by decide +kernel
theorem dX4_errorsOfSending_129 : decode cX4_errorsOfSending 129 = .ok (.invokestatic 196, 3) := by decide +kernel
theorem dX4_errorsOfSending_132 : decode cX4_errorsOfSending 132 = .ok (.ireturn, 1) := by decide +kernel
theorem dX4_within_0 : decode cX4_within 0 = .ok (.iload_n 0, 1) := by decide +kernel
theorem dX4_within_1 : decode cX4_within 1 = .ok (.iload_n 1, 1) := by decide +kernel
theorem dX4_within_2 : decode cX4_within 2 = .ok (.if_icmp .lt 12, 3) := by decide +kernel
theorem dX4_within_5 : decode cX4_within 5 = .ok (.iload_n 0, 1) := by decide +kernel
theorem dX4_within_6 : decode cX4_within 6 = .ok (.iload_n 2, 1) := by decide +kernel
theorem dX4_within_7 : decode cX4_within 7 = .ok (.if_icmp .gt 7, 3) := by decide +kernel
theorem dX4_within_10 : decode cX4_within 10 = .ok (.iconst 1, 1) := by decide +kernel
theorem dX4_within_11 : decode cX4_within 11 = .ok (.goto 4, 3) := by decide +kernel
theorem dX4_within_14 : decode cX4_within 14 = .ok (.iconst 0, 1) := by decide +kernel
theorem dX4_within_15 : decode cX4_within 15 = .ok (.ireturn, 1) := by decide +kernel
theorem dX4_areTaps_0 : decode cX4_areTaps 0 = .ok (.iload_n 0, 1) := by decide +kernel
theorem dX4_areTaps_1 : decode cX4_areTaps 1 = .ok (.bipush (-20), 2) := by decide +kernel
theorem dX4_areTaps_3 : decode cX4_areTaps 3 = .ok (.bipush 20, 2) := by decide +kernel
theorem dX4_areTaps_5 : decode cX4_areTaps 5 = .ok (.invokestatic 61, 3) := by decide +kernel
theorem dX4_areTaps_8 : decode cX4_areTaps 8 = .ok (.ifCond .eq 40, 3) := by decide +kernel
theorem dX4_areTaps_11 : decode cX4_areTaps 11 = .ok (.iload_n 1, 1) := by decide +kernel
theorem dX4_areTaps_12 : decode cX4_areTaps 12 = .ok (.bipush (-20), 2) := by decide +kernel
theorem dX4_areTaps_14 : decode cX4_areTaps 14 = .ok (.bipush 20, 2) := by decide +kernel
theorem dX4_areTaps_16 : decode cX4_areTaps 16 = .ok (.invokestatic 61, 3) := by decide +kernel
theorem dX4_areTaps_19 : decode cX4_areTaps 19 = .ok (.ifCond .eq 29, 3) := by decide +kernel
theorem dX4_areTaps_22 : decode cX4_areTaps 22 = .ok (.iload_n 2, 1) := by decide +kernel
theorem dX4_areTaps_23 : decode cX4_areTaps 23 = .ok (.bipush (-20), 2) := by decide +kernel
theorem dX4_areTaps_25 : decode cX4_areTaps 25 = .ok (.bipush 20, 2) := by decide +kernel
theorem dX4_areTaps_27 : decode cX4_areTaps 27 = .ok (.invokestatic 61, 3) := by decide +kernel
theorem dX4_areTaps_30 : decode cX4_areTaps 30 = .ok (.ifCond .eq 18, 3) := by decide +kernel
theorem dX4_areTaps_33 : decode cX4_areTaps 33 = .ok (.iload_n 3, 1) := by decide +kernel
theorem dX4_areTaps_34 : decode cX4_areTaps 34 = .ok (.bipush (-20), 2) := by decide +kernel
theorem dX4_areTaps_36 : decode cX4_areTaps 36 = .ok (.bipush 20, 2) := by decide +kernel
theorem dX4_areTaps_38 : decode cX4_areTaps 38 = .ok (.invokestatic 61, 3) := by decide +kernel
theorem dX4_areTaps_41 : decode cX4_areTaps 41 = .ok (.ifCond .eq 7, 3) := by decide +kernel
theorem dX4_areTaps_44 : decode cX4_areTaps 44 = .ok (.iconst 1, 1) := by decide +kernel
theorem dX4_areTaps_45 : decode cX4_areTaps 45 = .ok (.goto 4, 3) := by decide +kernel
theorem dX4_areTaps_48 : decode cX4_areTaps 48 = .ok (.iconst 0, 1) := by decide +kernel
theorem dX4_areTaps_49 : decode cX4_areTaps 49 = .ok (.ireturn, 1) := by decide +kernel
theorem dX4_setFour_0 : decode cX4_setFour 0 = .ok (.aload_n 0, 1) := by decide +kernel
theorem dX4_setFour_1 : decode cX4_setFour 1 = .ok (.arraylength, 1) := by decide +kernel
theorem dX4_setFour_2 : decode cX4_setFour 2 = .ok (.iconst 4, 1) := by decide +kernel
theorem dX4_setFour_3 : decode cX4_setFour 3 = .ok (.if_icmp .eq 4, 3) := by decide +kernel
theorem dX4_setFour_6 : decode cX4_setFour 6 = .ok (.return_, 1) := by decide +kernel
theorem dX4_setFour_7 : decode cX4_setFour 7 = .ok (.aload_n 0, 1) := by decide +kernel
theorem dX4_setFour_8 : decode cX4_setFour 8 = .ok (.iconst 0, 1) := by decide +kernel
theorem dX4_setFour_9 : decode cX4_setFour 9 = .ok (.iload_n 1, 1) := by decide +kernel
theorem dX4_setFour_10 : decode cX4_setFour 10 = .ok (.iastore, 1) := by decide +kernel
theorem dX4_setFour_11 : decode cX4_setFour 11 = .ok (.aload_n 0, 1) := by decide +kernel
theorem dX4_setFour_12 : decode cX4_setFour 12 = .ok (.iconst 1, 1) := by decide +kernel
theorem dX4_setFour_13 : decode cX4_setFour 13 = .ok (.iload_n 2, 1) := by decide +kernel
theorem dX4_setFour_14 : decode cX4_setFour 14 = .ok (.iastore, 1) := by decide +kernel
theorem dX4_setFour_15 : decode cX4_setFour 15 = .ok (.aload_n 0, 1) := by decide +kernel
theorem dX4_setFour_16 : decode cX4_setFour 16 = .ok (.iconst 2, 1) := by decide +kernel
theorem dX4_setFour_17 : decode cX4_setFour 17 = .ok (.iload_n 3, 1) := by decide +kernel
theorem dX4_setFour_18 : decode cX4_setFour 18 = .ok (.iastore, 1) := by decide +kernel
theorem dX4_setFour_19 : decode cX4_setFour 19 = .ok (.aload_n 0, 1) := by decide +kernel
theorem dX4_setFour_20 : decode cX4_setFour 20 = .ok (.iconst 3, 1) := by decide +kernel
theorem dX4_setFour_21 : decode cX4_setFour 21 = .ok (.iload 4, 2) := by decide +kernel
theorem dX4_setFour_23 : decode cX4_setFour 23 = .ok (.iastore, 1) := by decide +kernel
theorem dX4_setFour_24 : decode cX4_setFour 24 = .ok (.return_, 1) := by decide +kernel
theorem dX4_bitOf_0 : decode cX4_bitOf 0 = .ok (.lload_n 0, 1) := by decide +kernel
theorem dX4_bitOf_1 : decode cX4_bitOf 1 = .ok (.iload_n 2, 1) := by decide +kernel
theorem dX4_bitOf_2 : decode cX4_bitOf 2 = .ok (.iconst 1, 1) := by decide +kernel
theorem dX4_bitOf_3 : decode cX4_bitOf 3 = .ok (.isub, 1) := by decide +kernel
theorem dX4_bitOf_4 : decode cX4_bitOf 4 = .ok (.iload_n 3, 1) := by decide +kernel
theorem dX4_bitOf_5 : decode cX4_bitOf 5 = .ok (.isub, 1) := by decide +kernel
theorem dX4_bitOf_6 : decode cX4_bitOf 6 = .ok (.lshr, 1) := by decide +kernel
theorem dX4_bitOf_7 : decode cX4_bitOf 7 = .ok (.l2i, 1) := by decide +kernel
theorem dX4_bitOf_8 : decode cX4_bitOf 8 = .ok (.iconst 1, 1) := by decide +kernel
theorem dX4_bitOf_9 : decode cX4_bitOf 9 = .ok (.iand, 1) := by decide +kernel
theorem dX4_bitOf_10 : decode cX4_bitOf 10 = .ok (.ireturn, 1) := by decide +kernel
theorem dX4_differences_0 : decode cX4_differences 0 = .ok (.lload_n 0, 1) := by decide +kernel
theorem dX4_differences_1 : decode cX4_differences 1 = .ok (.lload_n 2, 1) := by decide +kernel
theorem dX4_differences_2 : decode cX4_differences 2 = .ok (.lxor, 1) := by decide +kernel
theorem dX4_differences_3 : decode cX4_differences 3 = .ok (.invokestatic 209, 3) := by decide +kernel
theorem dX4_differences_6 : decode cX4_differences 6 = .ok (.ireturn, 1) := by decide +kernel
theorem dX4_oddness_0 : decode cX4_oddness 0 = .ok (.lload_n 0, 1) := by decide +kernel
theorem dX4_oddness_1 : decode cX4_oddness 1 = .ok (.invokestatic 209, 3) := by decide +kernel
theorem dX4_oddness_4 : decode cX4_oddness 4 = .ok (.iconst 1, 1) := by decide +kernel
theorem dX4_oddness_5 : decode cX4_oddness 5 = .ok (.iand, 1) := by decide +kernel
theorem dX4_oddness_6 : decode cX4_oddness 6 = .ok (.ireturn, 1) := by decide +kernel
theorem dX4_mix_0 : decode cX4_mix 0 = .ok (.lconst 0, 1) := by decide +kernel
theorem dX4_mix_1 : decode cX4_mix 1 = .ok (.lstore 4, 2) := by decide +kernel
theorem dX4_mix_3 : decode cX4_mix 3 = .ok (.iconst 0, 1) := by decide +kernel
theorem dX4_mix_4 : decode cX4_mix 4 = .ok (.istore 6, 2) := by decide +kernel
theorem dX4_mix_6 : decode cX4_mix 6 = .ok (.iload 6, 2) := by decide +kernel
theorem dX4_mix_8 : decode cX4_mix 8 = .ok (.iload_n 2, 1) := by decide +kernel
theorem dX4_mix_9 : decode cX4_mix 9 = .ok (.if_icmp .ge 35, 3) := by decide +kernel
theorem dX4_mix_12 : decode cX4_mix 12 = .ok (.ldc2_w 215, 3) := by decide +kernel
theorem dX4_mix_15 : decode cX4_mix 15 = .ok (.lload 4, 2) := by decide +kernel
theorem dX4_mix_17 : decode cX4_mix 17 = .ok (.lmul, 1) := by decide +kernel
theorem dX4_mix_18 : decode cX4_mix 18 = .ok (.lload_n 0, 1) := by decide +kernel
theorem dX4_mix_19 : decode cX4_mix 19 = .ok (.iload_n 2, 1) := by decide +kernel
theorem dX4_mix_20 : decode cX4_mix 20 = .ok (.iload 6, 2) := by decide +kernel
theorem dX4_mix_22 : decode cX4_mix 22 = .ok (.invokestatic 85, 3) := by decide +kernel
theorem dX4_mix_25 : decode cX4_mix 25 = .ok (.lload 4, 2) := by decide +kernel
theorem dX4_mix_27 : decode cX4_mix 27 = .ok (.iload_n 3, 1) := by decide +kernel
theorem dX4_mix_28 : decode cX4_mix 28 = .ok (.i2l, 1) := by decide +kernel
theorem dX4_mix_29 : decode cX4_mix 29 = .ok (.land, 1) := by decide +kernel
theorem dX4_mix_30 : decode cX4_mix 30 = .ok (.invokestatic 217, 3) := by decide +kernel
theorem dX4_mix_33 : decode cX4_mix 33 = .ok (.ixor, 1) := by decide +kernel
theorem dX4_mix_34 : decode cX4_mix 34 = .ok (.i2l, 1) := by decide +kernel
theorem dX4_mix_35 : decode cX4_mix 35 = .ok (.ladd, 1) := by decide +kernel
theorem dX4_mix_36 : decode cX4_mix 36 = .ok (.lstore 4, 2) := by decide +kernel
theorem dX4_mix_38 : decode cX4_mix 38 = .ok (.iinc 6 1, 3) := by decide +kernel
theorem dX4_mix_41 : decode cX4_mix 41 = .ok (.goto (-35), 3) := by decide +kernel
theorem dX4_mix_44 : decode cX4_mix 44 = .ok (.lload 4, 2) := by decide +kernel
theorem dX4_mix_46 : decode cX4_mix 46 = .ok (.lreturn, 1) := by decide +kernel
theorem dX4_unmix_0 : decode cX4_unmix 0 = .ok (.lconst 0, 1) := by decide +kernel
theorem dX4_unmix_1 : decode cX4_unmix 1 = .ok (.lstore 4, 2) := by decide +kernel
theorem dX4_unmix_3 : decode cX4_unmix 3 = .ok (.iconst 0, 1) := by decide +kernel
theorem dX4_unmix_4 : decode cX4_unmix 4 = .ok (.istore 6, 2) := by decide +kernel
theorem dX4_unmix_6 : decode cX4_unmix 6 = .ok (.iload 6, 2) := by decide +kernel
theorem dX4_unmix_8 : decode cX4_unmix 8 = .ok (.iload_n 2, 1) := by decide +kernel
theorem dX4_unmix_9 : decode cX4_unmix 9 = .ok (.if_icmp .ge 43, 3) := by decide +kernel
theorem dX4_unmix_12 : decode cX4_unmix 12 = .ok (.lload_n 0, 1) := by decide +kernel
theorem dX4_unmix_13 : decode cX4_unmix 13 = .ok (.iload_n 2, 1) := by decide +kernel
theorem dX4_unmix_14 : decode cX4_unmix 14 = .ok (.iload 6, 2) := by decide +kernel
theorem dX4_unmix_16 : decode cX4_unmix 16 = .ok (.isub, 1) := by decide +kernel
theorem dX4_unmix_17 : decode cX4_unmix 17 = .ok (.lshr, 1) := by decide +kernel
theorem dX4_unmix_18 : decode cX4_unmix 18 = .ok (.lstore 7, 2) := by decide +kernel
theorem dX4_unmix_20 : decode cX4_unmix 20 = .ok (.ldc2_w 215, 3) := by decide +kernel
theorem dX4_unmix_23 : decode cX4_unmix 23 = .ok (.lload 4, 2) := by decide +kernel
theorem dX4_unmix_25 : decode cX4_unmix 25 = .ok (.lmul, 1) := by decide +kernel
theorem dX4_unmix_26 : decode cX4_unmix 26 = .ok (.lload_n 0, 1) := by decide +kernel
theorem dX4_unmix_27 : decode cX4_unmix 27 = .ok (.iload_n 2, 1) := by decide +kernel
theorem dX4_unmix_28 : decode cX4_unmix 28 = .ok (.iload 6, 2) := by decide +kernel
theorem dX4_unmix_30 : decode cX4_unmix 30 = .ok (.invokestatic 85, 3) := by decide +kernel
theorem dX4_unmix_33 : decode cX4_unmix 33 = .ok (.lload 7, 2) := by decide +kernel
theorem dX4_unmix_35 : decode cX4_unmix 35 = .ok (.iload_n 3, 1) := by decide +kernel
theorem dX4_unmix_36 : decode cX4_unmix 36 = .ok (.i2l, 1) := by decide +kernel
theorem dX4_unmix_37 : decode cX4_unmix 37 = .ok (.land, 1) := by decide +kernel
theorem dX4_unmix_38 : decode cX4_unmix 38 = .ok (.invokestatic 217, 3) := by decide +kernel
theorem dX4_unmix_41 : decode cX4_unmix 41 = .ok (.ixor, 1) := by decide +kernel
theorem dX4_unmix_42 : decode cX4_unmix 42 = .ok (.i2l, 1) := by decide +kernel
theorem dX4_unmix_43 : decode cX4_unmix 43 = .ok (.ladd, 1) := by decide +kernel
theorem dX4_unmix_44 : decode cX4_unmix 44 = .ok (.lstore 4, 2) := by decide +kernel
theorem dX4_unmix_46 : decode cX4_unmix 46 = .ok (.iinc 6 1, 3) := by decide +kernel
theorem dX4_unmix_49 : decode cX4_unmix 49 = .ok (.goto (-43), 3) := by decide +kernel
theorem dX4_unmix_52 : decode cX4_unmix 52 = .ok (.lload 4, 2) := by decide +kernel
theorem dX4_unmix_54 : decode cX4_unmix 54 = .ok (.lreturn, 1) := by decide +kernel
