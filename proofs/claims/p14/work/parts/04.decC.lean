theorem dX5_init_0 : decode cX5_init 0 = .ok (.aload_n 0, 1) := by decide +kernel
theorem dX5_init_1 : decode cX5_init 1 = .ok (.invokespecial 1, 3) := by decide +kernel
theorem dX5_init_4 : decode cX5_init 4 = .ok (.aload_n 0, 1) := by decide +kernel
theorem dX5_init_5 : decode cX5_init 5 = .ok (.bipush 40, 2) := by decide +kernel
theorem dX5_init_7 : decode cX5_init 7 = .ok (.newarray .int, 2) := by decide +kernel
theorem dX5_init_9 : decode cX5_init 9 = .ok (.putfield 7, 3) := by decide +kernel
theorem dX5_init_12 : decode cX5_init 12 = .ok (.aload_n 0, 1) := by decide +kernel
theorem dX5_init_13 : decode cX5_init 13 = .ok (.bipush 13, 2) := by decide +kernel
theorem dX5_init_15 : decode cX5_init 15 = .ok (.putfield 13, 3) := by decide +kernel
theorem dX5_init_18 : decode cX5_init 18 = .ok (.aload_n 0, 1) := by decide +kernel
theorem dX5_init_19 : decode cX5_init 19 = .ok (.bipush 15, 2) := by decide +kernel
theorem dX5_init_21 : decode cX5_init 21 = .ok (.putfield 17, 3) := by decide +kernel
theorem dX5_init_24 : decode cX5_init 24 = .ok (.aload_n 0, 1) := by decide +kernel
theorem dX5_init_25 : decode cX5_init 25 = .ok (.bipush 10, 2) := by decide +kernel
theorem dX5_init_27 : decode cX5_init 27 = .ok (.putfield 20, 3) := by decide +kernel
theorem dX5_init_30 : decode cX5_init 30 = .ok (.aload_n 0, 1) := by decide +kernel
theorem dX5_init_31 : decode cX5_init 31 = .ok (.bipush 8, 2) := by decide +kernel
theorem dX5_init_33 : decode cX5_init 33 = .ok (.putfield 23, 3) := by decide +kernel
theorem dX5_init_36 : decode cX5_init 36 = .ok (.aload_n 0, 1) := by decide +kernel
theorem dX5_init_37 : decode cX5_init 37 = .ok (.sipush 212, 3) := by decide +kernel
theorem dX5_init_40 : decode cX5_init 40 = .ok (.putfield 26, 3) := by decide +kernel
theorem dX5_init_43 : decode cX5_init 43 = .ok (.aload_n 0, 1) := by decide +kernel
theorem dX5_init_44 : decode cX5_init 44 = .ok (.iconst 4, 1) := by decide +kernel
theorem dX5_init_45 : decode cX5_init 45 = .ok (.newarray .int, 2) := by decide +kernel
theorem dX5_init_47 : decode cX5_init 47 = .ok (.putfield 29, 3) := by decide +kernel
theorem dX5_init_50 : decode cX5_init 50 = .ok (.aload_n 0, 1) := by decide +kernel
theorem dX5_init_51 : decode cX5_init 51 = .ok (.iconst 1, 1) := by decide +kernel
theorem dX5_init_52 : decode cX5_init 52 = .ok (.putfield 32, 3) := by decide +kernel
theorem dX5_init_55 : decode cX5_init 55 = .ok (.aload_n 0, 1) := by decide +kernel
theorem dX5_init_56 : decode cX5_init 56 = .ok (.iconst 1, 1) := by decide +kernel
theorem dX5_init_57 : decode cX5_init 57 = .ok (.putfield 35, 3) := by decide +kernel
theorem dX5_init_60 : decode cX5_init 60 = .ok (.aload_n 0, 1) := by decide +kernel
theorem dX5_init_61 : decode cX5_init 61 = .ok (.iconst (-1), 1) := by decide +kernel
theorem dX5_init_62 : decode cX5_init 62 = .ok (.putfield 38, 3) := by decide +kernel
theorem dX5_init_65 : decode cX5_init 65 = .ok (.aload_n 0, 1) := by decide +kernel
theorem dX5_init_66 : decode cX5_init 66 = .ok (.sipush 160, 3) := by decide +kernel
theorem dX5_init_69 : decode cX5_init 69 = .ok (.newarray .int, 2) := by decide +kernel
theorem dX5_init_71 : decode cX5_init 71 = .ok (.putfield 41, 3) := by decide +kernel
theorem dX5_init_74 : decode cX5_init 74 = .ok (.aload_n 0, 1) := by decide +kernel
theorem dX5_init_75 : decode cX5_init 75 = .ok (.bipush 40, 2) := by decide +kernel
theorem dX5_init_77 : decode cX5_init 77 = .ok (.newarray .int, 2) := by decide +kernel
theorem dX5_init_79 : decode cX5_init 79 = .ok (.putfield 44, 3) := by decide +kernel
theorem dX5_init_82 : decode cX5_init 82 = .ok (.aload_n 0, 1) := by decide +kernel
theorem dX5_init_83 : decode cX5_init 83 = .ok (.bipush 40, 2) := by decide +kernel
theorem dX5_init_85 : decode cX5_init 85 = .ok (.newarray .int, 2) := by decide +kernel
theorem dX5_init_87 : decode cX5_init 87 = .ok (.putfield 47, 3) := by decide +kernel
theorem dX5_init_90 : decode cX5_init 90 = .ok (.aload_n 0, 1) := by decide +kernel
theorem dX5_init_91 : decode cX5_init 91 = .ok (.bipush 43, 2) := by decide +kernel
theorem dX5_init_93 : decode cX5_init 93 = .ok (.newarray .int, 2) := by decide +kernel
theorem dX5_init_95 : decode cX5_init 95 = .ok (.putfield 50, 3) := by decide +kernel
theorem dX5_init_98 : decode cX5_init 98 = .ok (.aload_n 0, 1) := by decide +kernel
theorem dX5_init_99 : decode cX5_init 99 = .ok (.bipush 102, 2) := by decide +kernel
theorem dX5_init_101 : decode cX5_init 101 = .ok (.newarray .int, 2) := by decide +kernel
theorem dX5_init_103 : decode cX5_init 103 = .ok (.putfield 53, 3) := by decide +kernel
theorem dX5_init_106 : decode cX5_init 106 = .ok (.aload_n 0, 1) := by decide +kernel
theorem dX5_init_107 : decode cX5_init 107 = .ok (.sipush 160, 3) := by decide +kernel
theorem dX5_init_110 : decode cX5_init 110 = .ok (.newarray .int, 2) := by decide +kernel
theorem dX5_init_112 : decode cX5_init 112 = .ok (.putfield 56, 3) := by decide +kernel
theorem dX5_init_115 : decode cX5_init 115 = .ok (.aload_n 0, 1) := by decide +kernel
theorem dX5_init_116 : decode cX5_init 116 = .ok (.sipush 1408, 3) := by decide +kernel
theorem dX5_init_119 : decode cX5_init 119 = .ok (.newarray .long, 2) := by decide +kernel
theorem dX5_init_121 : decode cX5_init 121 = .ok (.putfield 59, 3) := by decide +kernel
theorem dX5_init_124 : decode cX5_init 124 = .ok (.aload_n 0, 1) := by decide +kernel
theorem dX5_init_125 : decode cX5_init 125 = .ok (.iconst 4, 1) := by decide +kernel
theorem dX5_init_126 : decode cX5_init 126 = .ok (.newarray .int, 2) := by decide +kernel
theorem dX5_init_128 : decode cX5_init 128 = .ok (.putfield 63, 3) := by decide +kernel
theorem dX5_init_131 : decode cX5_init 131 = .ok (.aload_n 0, 1) := by decide +kernel
theorem dX5_init_132 : decode cX5_init 132 = .ok (.bipush 40, 2) := by decide +kernel
theorem dX5_init_134 : decode cX5_init 134 = .ok (.newarray .int, 2) := by decide +kernel
theorem dX5_init_136 : decode cX5_init 136 = .ok (.putfield 66, 3) := by decide +kernel
theorem dX5_init_139 : decode cX5_init 139 = .ok (.aload_n 0, 1) := by decide +kernel
theorem dX5_init_140 : decode cX5_init 140 = .ok (.bipush 40, 2) := by decide +kernel
theorem dX5_init_142 : decode cX5_init 142 = .ok (.newarray .int, 2) := by decide +kernel
theorem dX5_init_144 : decode cX5_init 144 = .ok (.putfield 69, 3) := by decide +kernel
theorem dX5_init_147 : decode cX5_init 147 = .ok (.aload_n 0, 1) := by decide +kernel
theorem dX5_init_148 : decode cX5_init 148 = .ok (.getfield 29, 3) := by decide +kernel
theorem dX5_init_151 : decode cX5_init 151 = .ok (.iconst 0, 1) := by decide +kernel
theorem dX5_init_152 : decode cX5_init 152 = .ok (.iconst 1, 1) := by decide +kernel
theorem dX5_init_153 : decode cX5_init 153 = .ok (.iastore, 1) := by decide +kernel
theorem dX5_init_154 : decode cX5_init 154 = .ok (.return_, 1) := by decide +kernel
theorem dX5_in_0 : decode cX5_in 0 = .ok (.iload_n 0, 1) := by decide +kernel
theorem dX5_in_1 : decode cX5_in 1 = .ok (.iload_n 1, 1) := by decide +kernel
theorem dX5_in_2 : decode cX5_in 2 = .ok (.if_icmp .lt 12, 3) := by decide +kernel
theorem dX5_in_5 : decode cX5_in 5 = .ok (.iload_n 0, 1) := by decide +kernel
theorem dX5_in_6 : decode cX5_in 6 = .ok (.iload_n 2, 1) := by decide +kernel
theorem dX5_in_7 : decode cX5_in 7 = .ok (.if_icmp .gt 7, 3) := by decide +kernel
theorem dX5_in_10 : decode cX5_in 10 = .ok (.iconst 1, 1) := by decide +kernel
theorem dX5_in_11 : decode cX5_in 11 = .ok (.goto 4, 3) := by decide +kernel
theorem dX5_in_14 : decode cX5_in 14 = .ok (.iconst 0, 1) := by decide +kernel
theorem dX5_in_15 : decode cX5_in 15 = .ok (.ireturn, 1) := by decide +kernel
theorem dX5_odd_0 : decode cX5_odd 0 = .ok (.iconst 0, 1) := by decide +kernel
theorem dX5_odd_1 : decode cX5_odd 1 = .ok (.istore_n 1, 1) := by decide +kernel
theorem dX5_odd_2 : decode cX5_odd 2 = .ok (.iconst 0, 1) := by decide +kernel
theorem dX5_odd_3 : decode cX5_odd 3 = .ok (.istore_n 2, 1) := by decide +kernel
theorem dX5_odd_4 : decode cX5_odd 4 = .ok (.iload_n 2, 1) := by decide +kernel
theorem dX5_odd_5 : decode cX5_odd 5 = .ok (.bipush 8, 2) := by decide +kernel
theorem dX5_odd_7 : decode cX5_odd 7 = .ok (.if_icmp .ge 17, 3) := by decide +kernel
theorem dX5_odd_10 : decode cX5_odd 10 = .ok (.iload_n 1, 1) := by decide +kernel
theorem dX5_odd_11 : decode cX5_odd 11 = .ok (.iload_n 0, 1) := by decide +kernel
theorem dX5_odd_12 : decode cX5_odd 12 = .ok (.iload_n 2, 1) := by decide +kernel
theorem dX5_odd_13 : decode cX5_odd 13 = .ok (.ishr, 1) := by decide +kernel
theorem dX5_odd_14 : decode cX5_odd 14 = .ok (.iconst 1, 1) := by decide +kernel
theorem dX5_odd_15 : decode cX5_odd 15 = .ok (.iand, 1) := by decide +kernel
theorem dX5_odd_16 : decode cX5_odd 16 = .ok (.iadd, 1) := by decide +kernel
theorem dX5_odd_17 : decode cX5_odd 17 = .ok (.istore_n 1, 1) := by decide +kernel
theorem dX5_odd_18 : decode cX5_odd 18 = .ok (.iinc 2 1, 3) := by decide +kernel
theorem dX5_odd_21 : decode cX5_odd 21 = .ok (.goto (-17), 3) := by decide +kernel
theorem dX5_odd_24 : decode cX5_odd 24 = .ok (.iload_n 1, 1) := by decide +kernel
theorem dX5_odd_25 : decode cX5_odd 25 = .ok (.iconst 2, 1) := by decide +kernel
theorem dX5_odd_26 : decode cX5_odd 26 = .ok (.irem, 1) := by decide +kernel
theorem dX5_odd_27 : decode cX5_odd 27 = .ok (.ireturn, 1) := by decide +kernel
theorem dX5_ended_0 : decode cX5_ended 0 = .ok (.aload_n 0, 1) := by decide +kernel
theorem dX5_ended_1 : decode cX5_ended 1 = .ok (.iconst 0, 1) := by decide +kernel
theorem dX5_ended_2 : decode cX5_ended 2 = .ok (.putfield 72, 3) := by decide +kernel
theorem dX5_ended_5 : decode cX5_ended 5 = .ok (.aload_n 0, 1) := by decide +kernel
theorem dX5_ended_6 : decode cX5_ended 6 = .ok (.iconst (-1), 1) := by decide +kernel
theorem dX5_ended_7 : decode cX5_ended 7 = .ok (.putfield 38, 3) := by decide +kernel
theorem dX5_ended_10 : decode cX5_ended 10 = .ok (.aload_n 0, 1) := by decide +kernel
theorem dX5_ended_11 : decode cX5_ended 11 = .ok (.iconst 0, 1) := by decide +kernel
theorem dX5_ended_12 : decode cX5_ended 12 = .ok (.putfield 76, 3) := by decide +kernel
theorem dX5_ended_15 : decode cX5_ended 15 = .ok (.iconst 1, 1) := by decide +kernel
theorem dX5_ended_16 : decode cX5_ended 16 = .ok (.ireturn, 1) := by decide +kernel
theorem dX5_bits_0 : decode cX5_bits 0 = .ok (.iload_n 3, 1) := by decide +kernel
theorem dX5_bits_1 : decode cX5_bits 1 = .ok (.iconst 1, 1) := by decide +kernel
theorem dX5_bits_2 : decode cX5_bits 2 = .ok (.bipush 40, 2) := by decide +kernel
theorem dX5_bits_4 : decode cX5_bits 4 = .ok (.invokestatic 79, 3) := by decide +kernel
theorem dX5_bits_7 : decode cX5_bits 7 = .ok (.ifCond .ne 6, 3) := by decide +kernel
theorem dX5_bits_10 : decode cX5_bits 10 = .ok (.bipush (-2), 2) := by decide +kernel
theorem dX5_bits_12 : decode cX5_bits 12 = .ok (.ireturn, 1) := by decide +kernel
theorem dX5_bits_13 : decode cX5_bits 13 = .ok (.aload_n 0, 1) := by decide +kernel
theorem dX5_bits_14 : decode cX5_bits 14 = .ok (.getfield 83, 3) := by decide +kernel
theorem dX5_bits_17 : decode cX5_bits 17 = .ok (.iload_n 3, 1) := by decide +kernel
theorem dX5_bits_18 : decode cX5_bits 18 = .ok (.iadd, 1) := by decide +kernel
theorem dX5_bits_19 : decode cX5_bits 19 = .ok (.bipush 40, 2) := by decide +kernel
theorem dX5_bits_21 : decode cX5_bits 21 = .ok (.if_icmp .le 6, 3) := by decide +kernel
theorem dX5_bits_24 : decode cX5_bits 24 = .ok (.bipush (-4), 2) := by decide +kernel
theorem dX5_bits_26 : decode cX5_bits 26 = .ok (.ireturn, 1) := by decide +kernel
theorem dX5_bits_27 : decode cX5_bits 27 = .ok (.iload_n 3, 1) := by decide +kernel
theorem dX5_bits_28 : decode cX5_bits 28 = .ok (.iconst 1, 1) := by decide +kernel
theorem dX5_bits_29 : decode cX5_bits 29 = .ok (.isub, 1) := by decide +kernel
theorem dX5_bits_30 : decode cX5_bits 30 = .ok (.istore 4, 2) := by decide +kernel
theorem dX5_bits_32 : decode cX5_bits 32 = .ok (.iload 4, 2) := by decide +kernel
theorem dX5_bits_34 : decode cX5_bits 34 = .ok (.ifCond .lt 35, 3) := by decide +kernel
theorem dX5_bits_37 : decode cX5_bits 37 = .ok (.aload_n 0, 1) := by decide +kernel
theorem dX5_bits_38 : decode cX5_bits 38 = .ok (.getfield 7, 3) := by decide +kernel
theorem dX5_bits_41 : decode cX5_bits 41 = .ok (.aload_n 0, 1) := by decide +kernel
theorem dX5_bits_42 : decode cX5_bits 42 = .ok (.getfield 83, 3) := by decide +kernel
theorem dX5_bits_45 : decode cX5_bits 45 = .ok (.lload_n 1, 1) := by decide +kernel
theorem dX5_bits_46 : decode cX5_bits 46 = .ok (.iload 4, 2) := by decide +kernel
theorem dX5_bits_48 : decode cX5_bits 48 = .ok (.lshr, 1) := by decide +kernel
theorem dX5_bits_49 : decode cX5_bits 49 = .ok (.lconst 1, 1) := by decide +kernel
theorem dX5_bits_50 : decode cX5_bits 50 = .ok (.land, 1) := by decide +kernel
theorem dX5_bits_51 : decode cX5_bits 51 = .ok (.l2i, 1) := by decide +kernel
theorem dX5_bits_52 : decode cX5_bits 52 = .ok (.iastore, 1) := by decide +kernel
theorem dX5_bits_53 : decode cX5_bits 53 = .ok (.aload_n 0, 1) := by decide +kernel
theorem dX5_bits_54 : decode cX5_bits 54 = .ok (.dup, 1) := by decide +kernel
theorem dX5_bits_55 : decode cX5_bits 55 = .ok (.getfield 83, 3) := by decide +kernel
theorem dX5_bits_58 : decode cX5_bits 58 = .ok (.iconst 1, 1) := by decide +kernel
theorem dX5_bits_59 : decode cX5_bits 59 = .ok (.iadd, 1) := by decide +kernel
theorem dX5_bits_60 : decode cX5_bits 60 = .ok (.putfield 83, 3) := by decide +kernel
theorem dX5_bits_63 : decode cX5_bits 63 = .ok (.iinc 4 (-1), 3) := by decide +kernel
theorem dX5_bits_66 : decode cX5_bits 66 = .ok (.goto (-34), 3) := by decide +kernel
theorem dX5_bits_69 : decode cX5_bits 69 = .ok (.aload_n 0, 1) := by decide +kernel
theorem dX5_bits_70 : decode cX5_bits 70 = .ok (.invokevirtual 86, 3) := by decide +kernel
theorem dX5_bits_73 : decode cX5_bits 73 = .ok (.pop, 1) := by decide +kernel
theorem dX5_bits_74 : decode cX5_bits 74 = .ok (.aload_n 0, 1) := by decide +kernel
theorem dX5_bits_75 : decode cX5_bits 75 = .ok (.getfield 83, 3) := by decide +kernel
theorem dX5_bits_78 : decode cX5_bits 78 = .ok (.ireturn, 1) := by decide +kernel
theorem dX5_clear_0 : decode cX5_clear 0 = .ok (.aload_n 0, 1) := by decide +kernel
theorem dX5_clear_1 : decode cX5_clear 1 = .ok (.getfield 83, 3) := by decide +kernel
theorem dX5_clear_4 : decode cX5_clear 4 = .ok (.istore_n 1, 1) := by decide +kernel
theorem dX5_clear_5 : decode cX5_clear 5 = .ok (.aload_n 0, 1) := by decide +kernel
theorem dX5_clear_6 : decode cX5_clear 6 = .ok (.iconst 0, 1) := by decide +kernel
theorem dX5_clear_7 : decode cX5_clear 7 = .ok (.putfield 83, 3) := by decide +kernel
theorem dX5_clear_10 : decode cX5_clear 10 = .ok (.aload_n 0, 1) := by decide +kernel
theorem dX5_clear_11 : decode cX5_clear 11 = .ok (.invokevirtual 86, 3) := by decide +kernel
theorem dX5_clear_14 : decode cX5_clear 14 = .ok (.pop, 1) := by decide +kernel
theorem dX5_clear_15 : decode cX5_clear 15 = .ok (.iload_n 1, 1) := by decide +kernel
theorem dX5_clear_16 : decode cX5_clear 16 = .ok (.ireturn, 1) := by decide +kernel
theorem dX5_bit_0 : decode cX5_bit 0 = .ok (.iload_n 1, 1) := by decide +kernel
theorem dX5_bit_1 : decode cX5_bit 1 = .ok (.iconst 0, 1) := by decide +kernel
theorem dX5_bit_2 : decode cX5_bit 2 = .ok (.aload_n 0, 1) := by decide +kernel
theorem dX5_bit_3 : decode cX5_bit 3 = .ok (.getfield 83, 3) := by decide +kernel
theorem dX5_bit_6 : decode cX5_bit 6 = .ok (.iconst 1, 1) := by decide +kernel
theorem dX5_bit_7 : decode cX5_bit 7 = .ok (.isub, 1) := by decide +kernel
theorem dX5_bit_8 : decode cX5_bit 8 = .ok (.invokestatic 79, 3) := by decide +kernel
theorem dX5_bit_11 : decode cX5_bit 11 = .ok (.ifCond .eq 12, 3) := by decide +kernel
theorem dX5_bit_14 : decode cX5_bit 14 = .ok (.aload_n 0, 1) := by decide +kernel
theorem dX5_bit_15 : decode cX5_bit 15 = .ok (.getfield 7, 3) := by decide +kernel
theorem dX5_bit_18 : decode cX5_bit 18 = .ok (.iload_n 1, 1) := by decide +kernel
theorem dX5_bit_19 : decode cX5_bit 19 = .ok (.iaload, 1) := by decide +kernel
theorem dX5_bit_20 : decode cX5_bit 20 = .ok (.goto 5, 3) := by decide +kernel
theorem dX5_bit_23 : decode cX5_bit 23 = .ok (.bipush (-2), 2) := by decide +kernel
theorem dX5_bit_25 : decode cX5_bit 25 = .ok (.ireturn, 1) := by decide +kernel
theorem dX5_mask_0 : decode cX5_mask 0 = .ok (.iload_n 1, 1) := by decide +kernel
theorem dX5_mask_1 : decode cX5_mask 1 = .ok (.iconst 0, 1) := by decide +kernel
theorem dX5_mask_2 : decode cX5_mask 2 = .ok (.bipush 127, 2) := by decide +kernel
theorem dX5_mask_4 : decode cX5_mask 4 = .ok (.invokestatic 79, 3) := by decide +kernel
theorem dX5_mask_7 : decode cX5_mask 7 = .ok (.ifCond .ne 6, 3) := by decide +kernel
theorem dX5_mask_10 : decode cX5_mask 10 = .ok (.bipush (-2), 2) := by decide +kernel
theorem dX5_mask_12 : decode cX5_mask 12 = .ok (.ireturn, 1) := by decide +kernel
theorem dX5_mask_13 : decode cX5_mask 13 = .ok (.aload_n 0, 1) := by decide +kernel
theorem dX5_mask_14 : decode cX5_mask 14 = .ok (.iload_n 1, 1) := by decide +kernel
theorem dX5_mask_15 : decode cX5_mask 15 = .ok (.putfield 90, 3) := by decide +kernel
theorem dX5_mask_18 : decode cX5_mask 18 = .ok (.aload_n 0, 1) := by decide +kernel
theorem dX5_mask_19 : decode cX5_mask 19 = .ok (.invokevirtual 86, 3) := by decide +kernel
theorem dX5_mask_22 : decode cX5_mask 22 = .ok (.ireturn, 1) := by decide +kernel
theorem dX5_code_0 : decode cX5_code 0 = .ok (.iload_n 1, 1) := by decide +kernel
theorem dX5_code_1 : decode cX5_code 1 = .ok (.iconst 1, 1) := by decide +kernel
theorem dX5_code_2 : decode cX5_code 2 = .ok (.bipush 15, 2) := by decide +kernel
theorem dX5_code_4 : decode cX5_code 4 = .ok (.invokestatic 79, 3) := by decide +kernel
theorem dX5_code_7 : decode cX5_code 7 = .ok (.ifCond .eq 13, 3) := by decide +kernel
theorem dX5_code_10 : decode cX5_code 10 = .ok (.iload_n 2, 1) := by decide +kernel
theorem dX5_code_11 : decode cX5_code 11 = .ok (.iconst 1, 1) := by decide +kernel
theorem dX5_code_12 : decode cX5_code 12 = .ok (.bipush 15, 2) := by decide +kernel
theorem dX5_code_14 : decode cX5_code 14 = .ok (.invokestatic 79, 3) := by decide +kernel
theorem dX5_code_17 : decode cX5_code 17 = .ok (.ifCond .ne 6, 3) := by decide +kernel
theorem dX5_code_20 : decode cX5_code 20 = .ok (.bipush (-2), 2) := by decide +kernel
theorem dX5_code_22 : decode cX5_code 22 = .ok (.ireturn, 1) := by decide +kernel
theorem dX5_code_23 : decode cX5_code 23 = .ok (.aload_n 0, 1) := by decide +kernel
theorem dX5_code_24 : decode cX5_code 24 = .ok (.iload_n 1, 1) := by decide +kernel
theorem dX5_code_25 : decode cX5_code 25 = .ok (.putfield 13, 3) := by decide +kernel
theorem dX5_code_28 : decode cX5_code 28 = .ok (.aload_n 0, 1) := by decide +kernel
theorem dX5_code_29 : decode cX5_code 29 = .ok (.iload_n 2, 1) := by decide +kernel
theorem dX5_code_30 : decode cX5_code 30 = .ok (.putfield 17, 3) := by decide +kernel
theorem dX5_code_33 : decode cX5_code 33 = .ok (.aload_n 0, 1) := by decide +kernel
theorem dX5_code_34 : decode cX5_code 34 = .ok (.invokevirtual 86, 3) := by decide +kernel
theorem dX5_code_37 : decode cX5_code 37 = .ok (.ireturn, 1) := by decide +kernel
theorem dX5_amp_0 : decode cX5_amp 0 = .ok (.iload_n 1, 1) := by decide +kernel
theorem dX5_amp_1 : decode cX5_amp 1 = .ok (.iconst 1, 1) := by decide +kernel
theorem dX5_amp_2 : decode cX5_amp 2 = .ok (.bipush 100, 2) := by decide +kernel
theorem dX5_amp_4 : decode cX5_amp 4 = .ok (.invokestatic 79, 3) := by decide +kernel
theorem dX5_amp_7 : decode cX5_amp 7 = .ok (.ifCond .ne 6, 3) := by decide +kernel
theorem dX5_amp_10 : decode cX5_amp 10 = .ok (.bipush (-2), 2) := by decide +kernel
theorem dX5_amp_12 : decode cX5_amp 12 = .ok (.ireturn, 1) := by decide +kernel
theorem dX5_amp_13 : decode cX5_amp 13 = .ok (.aload_n 0, 1) := by decide +kernel
theorem dX5_amp_14 : decode cX5_amp 14 = .ok (.iload_n 1, 1) := by decide +kernel
theorem dX5_amp_15 : decode cX5_amp 15 = .ok (.putfield 20, 3) := by decide +kernel
theorem dX5_amp_18 : decode cX5_amp 18 = .ok (.aload_n 0, 1) := by decide +kernel
theorem dX5_amp_19 : decode cX5_amp 19 = .ok (.invokevirtual 86, 3) := by decide +kernel
theorem dX5_amp_22 : decode cX5_amp 22 = .ok (.ireturn, 1) := by decide +kernel
theorem dX5_call_0 : decode cX5_call 0 = .ok (.iload_n 1, 1) := by decide +kernel
theorem dX5_call_1 : decode cX5_call 1 = .ok (.iconst 0, 1) := by decide +kernel
theorem dX5_call_2 : decode cX5_call 2 = .ok (.bipush 16, 2) := by decide +kernel
theorem dX5_call_4 : decode cX5_call 4 = .ok (.invokestatic 79, 3) := by decide +kernel
theorem dX5_call_7 : decode cX5_call 7 = .ok (.ifCond .eq 16, 3) := by decide +kernel
theorem dX5_call_10 : decode cX5_call 10 = .ok (.iload_n 2, 1) := by decide +kernel
theorem dX5_call_11 : decode cX5_call 11 = .ok (.iconst 0, 1) := by decide +kernel
theorem dX5_call_12 : decode cX5_call 12 = .ok (.iconst 1, 1) := by decide +kernel
theorem dX5_call_13 : decode cX5_call 13 = .ok (.iload_n 1, 1) := by decide +kernel
theorem dX5_call_14 : decode cX5_call 14 = .ok (.ishl, 1) := by decide +kernel
theorem dX5_call_15 : decode cX5_call 15 = .ok (.iconst 1, 1) := by decide +kernel
theorem dX5_call_16 : decode cX5_call 16 = .ok (.isub, 1) := by decide +kernel
theorem dX5_call_17 : decode cX5_call 17 = .ok (.invokestatic 79, 3) := by decide +kernel
theorem dX5_call_20 : decode cX5_call 20 = .ok (.ifCond .ne 6, 3) := by decide +kernel
theorem dX5_call_23 : decode cX5_call 23 = .ok (.bipush (-2), 2) := by decide +kernel
theorem dX5_call_25 : decode cX5_call 25 = .ok (.ireturn, 1) := by decide +kernel
theorem dX5_call_26 : decode cX5_call 26 = .ok (.aload_n 0, 1) := by decide +kernel
theorem dX5_call_27 : decode cX5_call 27 = .ok (.iload_n 1, 1) := by decide +kernel
theorem dX5_call_28 : decode cX5_call 28 = .ok (.putfield 23, 3) := by decide +kernel
theorem dX5_call_31 : decode cX5_call 31 = .ok (.aload_n 0, 1) := by decide +kernel
theorem dX5_call_32 : decode cX5_call 32 = .ok (.iload_n 2, 1) := by decide +kernel
theorem dX5_call_33 : decode cX5_call 33 = .ok (.putfield 26, 3) := by decide +kernel
theorem dX5_call_36 : decode cX5_call 36 = .ok (.aload_n 0, 1) := by decide +kernel
theorem dX5_call_37 : decode cX5_call 37 = .ok (.invokevirtual 86, 3) := by decide +kernel
theorem dX5_call_40 : decode cX5_call 40 = .ok (.ireturn, 1) := by decide +kernel
theorem dX5_areTaps_0 : decode cX5_areTaps 0 = .ok (.iload_n 0, 1) := by decide +kernel
theorem dX5_areTaps_1 : decode cX5_areTaps 1 = .ok (.bipush (-20), 2) := by decide +kernel
theorem dX5_areTaps_3 : decode cX5_areTaps 3 = .ok (.bipush 20, 2) := by decide +kernel
theorem dX5_areTaps_5 : decode cX5_areTaps 5 = .ok (.invokestatic 79, 3) := by decide +kernel
theorem dX5_areTaps_8 : decode cX5_areTaps 8 = .ok (.ifCond .eq 40, 3) := by decide +kernel
theorem dX5_areTaps_11 : decode cX5_areTaps 11 = .ok (.iload_n 1, 1) := by decide +kernel
theorem dX5_areTaps_12 : decode cX5_areTaps 12 = .ok (.bipush (-20), 2) := by decide +kernel
theorem dX5_areTaps_14 : decode cX5_areTaps 14 = .ok (.bipush 20, 2) := by decide +kernel
theorem dX5_areTaps_16 : decode cX5_areTaps 16 = .ok (.invokestatic 79, 3) := by decide +kernel
theorem dX5_areTaps_19 : decode cX5_areTaps 19 = .ok (.ifCond .eq 29, 3) := by decide +kernel
theorem dX5_areTaps_22 : decode cX5_areTaps 22 = .ok (.iload_n 2, 1) := by decide +kernel
theorem dX5_areTaps_23 : decode cX5_areTaps 23 = .ok (.bipush (-20), 2) := by decide +kernel
theorem dX5_areTaps_25 : decode cX5_areTaps 25 = .ok (.bipush 20, 2) := by decide +kernel
theorem dX5_areTaps_27 : decode cX5_areTaps 27 = .ok (.invokestatic 79, 3) := by decide +kernel
theorem dX5_areTaps_30 : decode cX5_areTaps 30 = .ok (.ifCond .eq 18, 3) := by decide +kernel
theorem dX5_areTaps_33 : decode cX5_areTaps 33 = .ok (.iload_n 3, 1) := by decide +kernel
theorem dX5_areTaps_34 : decode cX5_areTaps 34 = .ok (.bipush (-20), 2) := by decide +kernel
theorem dX5_areTaps_36 : decode cX5_areTaps 36 = .ok (.bipush 20, 2) := by decide +kernel
theorem dX5_areTaps_38 : decode cX5_areTaps 38 = .ok (.invokestatic 79, 3) := by decide +kernel
theorem dX5_areTaps_41 : decode cX5_areTaps 41 = .ok (.ifCond .eq 7, 3) := by decide +kernel
theorem dX5_areTaps_44 : decode cX5_areTaps 44 = .ok (.iconst 1, 1) := by decide +kernel
theorem dX5_areTaps_45 : decode cX5_areTaps 45 = .ok (.goto 4, 3) := by decide +kernel
theorem dX5_areTaps_48 : decode cX5_areTaps 48 = .ok (.iconst 0, 1) := by decide +kernel
theorem dX5_areTaps_49 : decode cX5_areTaps 49 = .ok (.ireturn, 1) := by decide +kernel
theorem dX5_taps_0 : decode cX5_taps 0 = .ok (.iload_n 1, 1) := by decide +kernel
theorem dX5_taps_1 : decode cX5_taps 1 = .ok (.iload_n 2, 1) := by decide +kernel
theorem dX5_taps_2 : decode cX5_taps 2 = .ok (.iload_n 3, 1) := by decide +kernel
theorem dX5_taps_3 : decode cX5_taps 3 = .ok (.iload 4, 2) := by decide +kernel
theorem dX5_taps_5 : decode cX5_taps 5 = .ok (.invokestatic 93, 3) := by decide +kernel
theorem dX5_taps_8 : decode cX5_taps 8 = .ok (.ifCond .ne 6, 3) := by decide +kernel
theorem dX5_taps_11 : decode cX5_taps 11 = .ok (.bipush (-2), 2) := by decide +kernel
theorem dX5_taps_13 : decode cX5_taps 13 = .ok (.ireturn, 1) := by decide +kernel
theorem dX5_taps_14 : decode cX5_taps 14 = .ok (.aload_n 0, 1) := by decide +kernel
theorem dX5_taps_15 : decode cX5_taps 15 = .ok (.getfield 29, 3) := by decide +kernel
theorem dX5_taps_18 : decode cX5_taps 18 = .ok (.iconst 0, 1) := by decide +kernel
theorem dX5_taps_19 : decode cX5_taps 19 = .ok (.iload_n 1, 1) := by decide +kernel
theorem dX5_taps_20 : decode cX5_taps 20 = .ok (.iastore, 1) := by decide +kernel
theorem dX5_taps_21 : decode cX5_taps 21 = .ok (.aload_n 0, 1) := by decide +kernel
theorem dX5_taps_22 : decode cX5_taps 22 = .ok (.getfield 29, 3) := by decide +kernel
theorem dX5_taps_25 : decode cX5_taps 25 = .ok (.iconst 1, 1) := by decide +kernel
theorem dX5_taps_26 : decode cX5_taps 26 = .ok (.iload_n 2, 1) := by decide +kernel
theorem dX5_taps_27 : decode cX5_taps 27 = .ok (.iastore, 1) := by decide +kernel
theorem dX5_taps_28 : decode cX5_taps 28 = .ok (.aload_n 0, 1) := by decide +kernel
theorem dX5_taps_29 : decode cX5_taps 29 = .ok (.getfield 29, 3) := by decide +kernel
theorem dX5_taps_32 : decode cX5_taps 32 = .ok (.iconst 2, 1) := by decide +kernel
theorem dX5_taps_33 : decode cX5_taps 33 = .ok (.iload_n 3, 1) := by decide +kernel
theorem dX5_taps_34 : decode cX5_taps 34 = .ok (.iastore, 1) := by decide +kernel
theorem dX5_taps_35 : decode cX5_taps 35 = .ok (.aload_n 0, 1) := by decide +kernel
theorem dX5_taps_36 : decode cX5_taps 36 = .ok (.getfield 29, 3) := by decide +kernel
theorem dX5_taps_39 : decode cX5_taps 39 = .ok (.iconst 3, 1) := by decide +kernel
theorem dX5_taps_40 : decode cX5_taps 40 = .ok (.iload 4, 2) := by decide +kernel
theorem dX5_taps_42 : decode cX5_taps 42 = .ok (.iastore, 1) := by decide +kernel
theorem dX5_taps_43 : decode cX5_taps 43 = .ok (.aload_n 0, 1) := by decide +kernel
theorem dX5_taps_44 : decode cX5_taps 44 = .ok (.invokevirtual 86, 3) := by decide +kernel
theorem dX5_taps_47 : decode cX5_taps 47 = .ok (.ireturn, 1) := by decide +kernel
theorem dX5_air_0 : decode cX5_air 0 = .ok (.iload_n 1, 1) := by decide +kernel
theorem dX5_air_1 : decode cX5_air 1 = .ok (.iconst 0, 1) := by decide +kernel
theorem dX5_air_2 : decode cX5_air 2 = .ok (.bipush 30, 2) := by decide +kernel
theorem dX5_air_4 : decode cX5_air 4 = .ok (.invokestatic 79, 3) := by decide +kernel
theorem dX5_air_7 : decode cX5_air 7 = .ok (.ifCond .eq 14, 3) := by decide +kernel
theorem dX5_air_10 : decode cX5_air 10 = .ok (.iload_n 2, 1) := by decide +kernel
theorem dX5_air_11 : decode cX5_air 11 = .ok (.iconst 0, 1) := by decide +kernel
theorem dX5_air_12 : decode cX5_air 12 = .ok (.sipush 500, 3) := by decide +kernel
theorem dX5_air_15 : decode cX5_air 15 = .ok (.invokestatic 79, 3) := by decide +kernel
theorem dX5_air_18 : decode cX5_air 18 = .ok (.ifCond .ne 6, 3) := by decide +kernel
theorem dX5_air_21 : decode cX5_air 21 = .ok (.bipush (-2), 2) := by decide +kernel
theorem dX5_air_23 : decode cX5_air 23 = .ok (.ireturn, 1) := by decide +kernel
theorem dX5_air_24 : decode cX5_air 24 = .ok (.aload_n 0, 1) := by decide +kernel
theorem dX5_air_25 : decode cX5_air 25 = .ok (.iload_n 1, 1) := by decide +kernel
theorem dX5_air_26 : decode cX5_air 26 = .ok (.putfield 97, 3) := by decide +kernel
theorem dX5_air_29 : decode cX5_air 29 = .ok (.aload_n 0, 1) := by decide +kernel
theorem dX5_air_30 : decode cX5_air 30 = .ok (.iload_n 2, 1) := by decide +kernel
theorem dX5_air_31 : decode cX5_air 31 = .ok (.putfield 100, 3) := by decide +kernel
theorem dX5_air_34 : decode cX5_air 34 = .ok (.aload_n 0, 1) := by decide +kernel
theorem dX5_air_35 : decode cX5_air 35 = .ok (.iload_n 3, 1) := by decide +kernel
theorem dX5_air_36 : decode cX5_air 36 = .ok (.putfield 32, 3) := by decide +kernel
theorem dX5_air_39 : decode cX5_air 39 = .ok (.aload_n 0, 1) := by decide +kernel
theorem dX5_air_40 : decode cX5_air 40 = .ok (.invokevirtual 86, 3) := by decide +kernel
theorem dX5_air_43 : decode cX5_air 43 = .ok (.ireturn, 1) := by decide +kernel
theorem dX5_lose_0 : decode cX5_lose 0 = .ok (.iload_n 1, 1) := by decide +kernel
theorem dX5_lose_1 : decode cX5_lose 1 = .ok (.iconst 0, 1) := by decide +kernel
theorem dX5_lose_2 : decode cX5_lose 2 = .ok (.sipush 200, 3) := by decide +kernel
theorem dX5_lose_5 : decode cX5_lose 5 = .ok (.invokestatic 79, 3) := by decide +kernel
theorem dX5_lose_8 : decode cX5_lose 8 = .ok (.ifCond .eq 14, 3) := by decide +kernel
theorem dX5_lose_11 : decode cX5_lose 11 = .ok (.iload_n 2, 1) := by decide +kernel
theorem dX5_lose_12 : decode cX5_lose 12 = .ok (.iconst 0, 1) := by decide +kernel
theorem dX5_lose_13 : decode cX5_lose 13 = .ok (.sipush 200, 3) := by decide +kernel
theorem dX5_lose_16 : decode cX5_lose 16 = .ok (.invokestatic 79, 3) := by decide +kernel
theorem dX5_lose_19 : decode cX5_lose 19 = .ok (.ifCond .ne 6, 3) := by decide +kernel
theorem dX5_lose_22 : decode cX5_lose 22 = .ok (.bipush (-2), 2) := by decide +kernel
theorem dX5_lose_24 : decode cX5_lose 24 = .ok (.ireturn, 1) := by decide +kernel
theorem dX5_lose_25 : decode cX5_lose 25 = .ok (.aload_n 0, 1) := by decide +kernel
theorem dX5_lose_26 : decode cX5_lose 26 = .ok (.iload_n 1, 1) := by decide +kernel
theorem dX5_lose_27 : decode cX5_lose 27 = .ok (.putfield 103, 3) := by decide +kernel
theorem dX5_lose_30 : decode cX5_lose 30 = .ok (.aload_n 0, 1) := by decide +kernel
theorem dX5_lose_31 : decode cX5_lose 31 = .ok (.iload_n 2, 1) := by decide +kernel
theorem dX5_lose_32 : decode cX5_lose 32 = .ok (.putfield 106, 3) := by decide +kernel
theorem dX5_lose_35 : decode cX5_lose 35 = .ok (.aload_n 0, 1) := by decide +kernel
theorem dX5_lose_36 : decode cX5_lose 36 = .ok (.invokevirtual 86, 3) := by decide +kernel
theorem dX5_lose_39 : decode cX5_lose 39 = .ok (.ireturn, 1) := by decide +kernel
theorem dX5_mix_0 : decode cX5_mix 0 = .ok (.iconst 0, 1) := by decide +kernel
theorem dX5_mix_1 : decode cX5_mix 1 = .ok (.istore_n 1, 1) := by decide +kernel
theorem dX5_mix_2 : decode cX5_mix 2 = .ok (.iconst 0, 1) := by decide +kernel
theorem dX5_mix_3 : decode cX5_mix 3 = .ok (.istore_n 2, 1) := by decide +kernel
theorem dX5_mix_4 : decode cX5_mix 4 = .ok (.iload_n 2, 1) := by decide +kernel
theorem dX5_mix_5 : decode cX5_mix 5 = .ok (.aload_n 0, 1) := by decide +kernel
theorem dX5_mix_6 : decode cX5_mix 6 = .ok (.getfield 83, 3) := by decide +kernel
theorem dX5_mix_9 : decode cX5_mix 9 = .ok (.if_icmp .ge 46, 3) := by decide +kernel
theorem dX5_mix_12 : decode cX5_mix 12 = .ok (.aload_n 0, 1) := by decide +kernel
theorem dX5_mix_13 : decode cX5_mix 13 = .ok (.getfield 50, 3) := by decide +kernel
theorem dX5_mix_16 : decode cX5_mix 16 = .ok (.iload_n 2, 1) := by decide +kernel
theorem dX5_mix_17 : decode cX5_mix 17 = .ok (.aload_n 0, 1) := by decide +kernel
theorem dX5_mix_18 : decode cX5_mix 18 = .ok (.getfield 7, 3) := by decide +kernel
theorem dX5_mix_21 : decode cX5_mix 21 = .ok (.iload_n 2, 1) := by decide +kernel
theorem dX5_mix_22 : decode cX5_mix 22 = .ok (.iaload, 1) := by decide +kernel
theorem dX5_mix_23 : decode cX5_mix 23 = .ok (.iload_n 1, 1) := by decide +kernel
theorem dX5_mix_24 : decode cX5_mix 24 = .ok (.aload_n 0, 1) := by decide +kernel
theorem dX5_mix_25 : decode cX5_mix 25 = .ok (.getfield 90, 3) := by decide +kernel
theorem dX5_mix_28 : decode cX5_mix 28 = .ok (.iand, 1) := by decide +kernel
theorem dX5_mix_29 : decode cX5_mix 29 = .ok (.invokestatic 109, 3) := by decide +kernel
theorem dX5_mix_32 : decode cX5_mix 32 = .ok (.ixor, 1) := by decide +kernel
theorem dX5_mix_33 : decode cX5_mix 33 = .ok (.iastore, 1) := by decide +kernel
theorem dX5_mix_34 : decode cX5_mix 34 = .ok (.iconst 2, 1) := by decide +kernel
theorem dX5_mix_35 : decode cX5_mix 35 = .ok (.iload_n 1, 1) := by decide +kernel
theorem dX5_mix_36 : decode cX5_mix 36 = .ok (.imul, 1) := by decide +kernel
theorem dX5_mix_37 : decode cX5_mix 37 = .ok (.aload_n 0, 1) := by decide +kernel
theorem dX5_mix_38 : decode cX5_mix 38 = .ok (.getfield 50, 3) := by decide +kernel
theorem dX5_mix_41 : decode cX5_mix 41 = .ok (.iload_n 2, 1) := by decide +kernel
theorem dX5_mix_42 : decode cX5_mix 42 = .ok (.iaload, 1) := by decide +kernel
theorem dX5_mix_43 : decode cX5_mix 43 = .ok (.iadd, 1) := by decide +kernel
theorem dX5_mix_44 : decode cX5_mix 44 = .ok (.sipush 128, 3) := by decide +kernel
theorem dX5_mix_47 : decode cX5_mix 47 = .ok (.irem, 1) := by decide +kernel
theorem dX5_mix_48 : decode cX5_mix 48 = .ok (.istore_n 1, 1) := by decide +kernel
theorem dX5_mix_49 : decode cX5_mix 49 = .ok (.iinc 2 1, 3) := by decide +kernel
theorem dX5_mix_52 : decode cX5_mix 52 = .ok (.goto (-48), 3) := by decide +kernel
theorem dX5_mix_55 : decode cX5_mix 55 = .ok (.aload_n 0, 1) := by decide +kernel
theorem dX5_mix_56 : decode cX5_mix 56 = .ok (.getfield 83, 3) := by decide +kernel
theorem dX5_mix_59 : decode cX5_mix 59 = .ok (.istore_n 2, 1) := by decide +kernel
theorem dX5_mix_60 : decode cX5_mix 60 = .ok (.iload_n 2, 1) := by decide +kernel
theorem dX5_mix_61 : decode cX5_mix 61 = .ok (.aload_n 0, 1) := by decide +kernel
theorem dX5_mix_62 : decode cX5_mix 62 = .ok (.getfield 83, 3) := by decide +kernel
theorem dX5_mix_65 : decode cX5_mix 65 = .ok (.iconst 3, 1) := by decide +kernel
theorem dX5_mix_66 : decode cX5_mix 66 = .ok (.iadd, 1) := by decide +kernel
theorem dX5_mix_67 : decode cX5_mix 67 = .ok (.if_icmp .ge 16, 3) := by decide +kernel
theorem dX5_mix_70 : decode cX5_mix 70 = .ok (.aload_n 0, 1) := by decide +kernel
theorem dX5_mix_71 : decode cX5_mix 71 = .ok (.getfield 50, 3) := by decide +kernel
theorem dX5_mix_74 : decode cX5_mix 74 = .ok (.iload_n 2, 1) := by decide +kernel
theorem dX5_mix_75 : decode cX5_mix 75 = .ok (.iconst 0, 1) := by decide +kernel
theorem dX5_mix_76 : decode cX5_mix 76 = .ok (.iastore, 1) := by decide +kernel
theorem dX5_mix_77 : decode cX5_mix 77 = .ok (.iinc 2 1, 3) := by decide +kernel
theorem dX5_mix_80 : decode cX5_mix 80 = .ok (.goto (-20), 3) := by decide +kernel
theorem dX5_mix_83 : decode cX5_mix 83 = .ok (.return_, 1) := by decide +kernel
theorem dX5_scrambled_0 : decode cX5_scrambled 0 = .ok (.aload_n 0, 1) := by decide +kernel
theorem dX5_scrambled_1 : decode cX5_scrambled 1 = .ok (.invokevirtual 113, 3) := by decide +kernel
theorem dX5_scrambled_4 : decode cX5_scrambled 4 = .ok (.iload_n 1, 1) := by decide +kernel
theorem dX5_scrambled_5 : decode cX5_scrambled 5 = .ok (.iconst 0, 1) := by decide +kernel
theorem dX5_scrambled_6 : decode cX5_scrambled 6 = .ok (.aload_n 0, 1) := by decide +kernel
theorem dX5_scrambled_7 : decode cX5_scrambled 7 = .ok (.getfield 83, 3) := by decide +kernel
theorem dX5_scrambled_10 : decode cX5_scrambled 10 = .ok (.iconst 1, 1) := by decide +kernel
theorem dX5_scrambled_11 : decode cX5_scrambled 11 = .ok (.isub, 1) := by decide +kernel
theorem dX5_scrambled_12 : decode cX5_scrambled 12 = .ok (.invokestatic 79, 3) := by decide +kernel
theorem dX5_scrambled_15 : decode cX5_scrambled 15 = .ok (.ifCond .eq 12, 3) := by decide +kernel
theorem dX5_scrambled_18 : decode cX5_scrambled 18 = .ok (.aload_n 0, 1) := by decide +kernel
theorem dX5_scrambled_19 : decode cX5_scrambled 19 = .ok (.getfield 50, 3) := by decide +kernel
theorem dX5_scrambled_22 : decode cX5_scrambled 22 = .ok (.iload_n 1, 1) := by decide +kernel
theorem dX5_scrambled_23 : decode cX5_scrambled 23 = .ok (.iaload, 1) := by decide +kernel
theorem dX5_scrambled_24 : decode cX5_scrambled 24 = .ok (.goto 5, 3) := by decide +kernel
theorem dX5_scrambled_27 : decode cX5_scrambled 27 = .ok (.bipush (-2), 2) := by decide +kernel
theorem dX5_scrambled_29 : decode cX5_scrambled 29 = .ok (.ireturn, 1) := by decide +kernel
theorem dX5_frameSize_0 : decode cX5_frameSize 0 = .ok (.aload_n 0, 1) := by decide +kernel
theorem dX5_frameSize_1 : decode cX5_frameSize 1 = .ok (.getfield 23, 3) := by decide +kernel
theorem dX5_frameSize_4 : decode cX5_frameSize 4 = .ok (.iconst 2, 1) := by decide +kernel
theorem dX5_frameSize_5 : decode cX5_frameSize 5 = .ok (.aload_n 0, 1) := by decide +kernel
theorem dX5_frameSize_6 : decode cX5_frameSize 6 = .ok (.getfield 83, 3) := by decide +kernel
theorem dX5_frameSize_9 : decode cX5_frameSize 9 = .ok (.imul, 1) := by decide +kernel
theorem dX5_frameSize_10 : decode cX5_frameSize 10 = .ok (.iadd, 1) := by decide +kernel
theorem dX5_frameSize_11 : decode cX5_frameSize 11 = .ok (.bipush 6, 2) := by decide +kernel
theorem dX5_frameSize_13 : decode cX5_frameSize 13 = .ok (.iadd, 1) := by decide +kernel
theorem dX5_frameSize_14 : decode cX5_frameSize 14 = .ok (.ireturn, 1) := by decide +kernel
theorem dX5_sign_0 : decode cX5_sign 0 = .ok (.aload_n 0, 1) := by decide +kernel
theorem dX5_sign_1 : decode cX5_sign 1 = .ok (.getfield 26, 3) := by decide +kernel
theorem dX5_sign_4 : decode cX5_sign 4 = .ok (.aload_n 0, 1) := by decide +kernel
theorem dX5_sign_5 : decode cX5_sign 5 = .ok (.getfield 23, 3) := by decide +kernel
theorem dX5_sign_8 : decode cX5_sign 8 = .ok (.iconst 1, 1) := by decide +kernel
theorem dX5_sign_9 : decode cX5_sign 9 = .ok (.isub, 1) := by decide +kernel
theorem dX5_sign_10 : decode cX5_sign 10 = .ok (.iload_n 1, 1) := by decide +kernel
theorem dX5_sign_11 : decode cX5_sign 11 = .ok (.isub, 1) := by decide +kernel
theorem dX5_sign_12 : decode cX5_sign 12 = .ok (.ishr, 1) := by decide +kernel
theorem dX5_sign_13 : decode cX5_sign 13 = .ok (.iconst 1, 1) := by decide +kernel
theorem dX5_sign_14 : decode cX5_sign 14 = .ok (.iand, 1) := by decide +kernel
theorem dX5_sign_15 : decode cX5_sign 15 = .ok (.iconst 1, 1) := by decide +kernel
theorem dX5_sign_16 : decode cX5_sign 16 = .ok (.if_icmp .ne 7, 3) := by decide +kernel
theorem dX5_sign_19 : decode cX5_sign 19 = .ok (.iconst 1, 1) := by decide +kernel
theorem dX5_sign_20 : decode cX5_sign 20 = .ok (.goto 4, 3) := by decide +kernel
theorem dX5_sign_23 : decode cX5_sign 23 = .ok (.iconst (-1), 1) := by decide +kernel
theorem dX5_sign_24 : decode cX5_sign 24 = .ok (.ireturn, 1) := by decide +kernel
theorem dX5_layFrame_0 : decode cX5_layFrame 0 = .ok (.aload_n 0, 1) := by decide +kernel
theorem dX5_layFrame_1 : decode cX5_layFrame 1 = .ok (.invokevirtual 113, 3) := by decide +kernel
theorem dX5_layFrame_4 : decode cX5_layFrame 4 = .ok (.iconst 0, 1) := by decide +kernel
theorem dX5_layFrame_5 : decode cX5_layFrame 5 = .ok (.istore_n 1, 1) := by decide +kernel
theorem dX5_layFrame_6 : decode cX5_layFrame 6 = .ok (.iload_n 1, 1) := by decide +kernel
theorem dX5_layFrame_7 : decode cX5_layFrame 7 = .ok (.aload_n 0, 1) := by decide +kernel
theorem dX5_layFrame_8 : decode cX5_layFrame 8 = .ok (.getfield 23, 3) := by decide +kernel
theorem dX5_layFrame_11 : decode cX5_layFrame 11 = .ok (.if_icmp .ge 25, 3) := by decide +kernel
theorem dX5_layFrame_14 : decode cX5_layFrame 14 = .ok (.aload_n 0, 1) := by decide +kernel
theorem dX5_layFrame_15 : decode cX5_layFrame 15 = .ok (.getfield 53, 3) := by decide +kernel
theorem dX5_layFrame_18 : decode cX5_layFrame 18 = .ok (.iload_n 1, 1) := by decide +kernel
theorem dX5_layFrame_19 : decode cX5_layFrame 19 = .ok (.aload_n 0, 1) := by decide +kernel
theorem dX5_layFrame_20 : decode cX5_layFrame 20 = .ok (.iload_n 1, 1) := by decide +kernel
theorem dX5_layFrame_21 : decode cX5_layFrame 21 = .ok (.invokevirtual 116, 3) := by decide +kernel
theorem dX5_layFrame_24 : decode cX5_layFrame 24 = .ok (.aload_n 0, 1) := by decide +kernel
theorem dX5_layFrame_25 : decode cX5_layFrame 25 = .ok (.getfield 20, 3) := by decide +kernel
theorem dX5_layFrame_28 : decode cX5_layFrame 28 = .ok (.imul, 1) := by decide +kernel
theorem dX5_layFrame_29 : decode cX5_layFrame 29 = .ok (.iastore, 1) := by decide +kernel
theorem dX5_layFrame_30 : decode cX5_layFrame 30 = .ok (.iinc 1 1, 3) := by decide +kernel
theorem dX5_layFrame_33 : decode cX5_layFrame 33 = .ok (.goto (-27), 3) := by decide +kernel
theorem dX5_layFrame_36 : decode cX5_layFrame 36 = .ok (.iconst 0, 1) := by decide +kernel
theorem dX5_layFrame_37 : decode cX5_layFrame 37 = .ok (.istore_n 1, 1) := by decide +kernel
theorem dX5_layFrame_38 : decode cX5_layFrame 38 = .ok (.iconst 0, 1) := by decide +kernel
theorem dX5_layFrame_39 : decode cX5_layFrame 39 = .ok (.istore_n 2, 1) := by decide +kernel
theorem dX5_layFrame_40 : decode cX5_layFrame 40 = .ok (.iload_n 2, 1) := by decide +kernel
theorem dX5_layFrame_41 : decode cX5_layFrame 41 = .ok (.aload_n 0, 1) := by decide +kernel
theorem dX5_layFrame_42 : decode cX5_layFrame 42 = .ok (.getfield 83, 3) := by decide +kernel
theorem dX5_layFrame_45 : decode cX5_layFrame 45 = .ok (.iconst 3, 1) := by decide +kernel
theorem dX5_layFrame_46 : decode cX5_layFrame 46 = .ok (.iadd, 1) := by decide +kernel
theorem dX5_layFrame_47 : decode cX5_layFrame 47 = .ok (.if_icmp .ge 101, 3) := by decide +kernel
theorem dX5_layFrame_50 : decode cX5_layFrame 50 = .ok (.iconst 2, 1) := by decide +kernel
theorem dX5_layFrame_51 : decode cX5_layFrame 51 = .ok (.iload_n 1, 1) := by decide +kernel
theorem dX5_layFrame_52 : decode cX5_layFrame 52 = .ok (.imul, 1) := by decide +kernel
theorem dX5_layFrame_53 : decode cX5_layFrame 53 = .ok (.aload_n 0, 1) := by decide +kernel
theorem dX5_layFrame_54 : decode cX5_layFrame 54 = .ok (.getfield 50, 3) := by decide +kernel
theorem dX5_layFrame_57 : decode cX5_layFrame 57 = .ok (.iload_n 2, 1) := by decide +kernel
theorem dX5_layFrame_58 : decode cX5_layFrame 58 = .ok (.iaload, 1) := by decide +kernel
theorem dX5_layFrame_59 : decode cX5_layFrame 59 = .ok (.iadd, 1) := by decide +kernel
theorem dX5_layFrame_60 : decode cX5_layFrame 60 = .ok (.bipush 16, 2) := by decide +kernel
theorem dX5_layFrame_62 : decode cX5_layFrame 62 = .ok (.irem, 1) := by decide +kernel
theorem dX5_layFrame_63 : decode cX5_layFrame 63 = .ok (.istore_n 1, 1) := by decide +kernel
theorem dX5_layFrame_64 : decode cX5_layFrame 64 = .ok (.aload_n 0, 1) := by decide +kernel
theorem dX5_layFrame_65 : decode cX5_layFrame 65 = .ok (.getfield 53, 3) := by decide +kernel
theorem dX5_layFrame_68 : decode cX5_layFrame 68 = .ok (.aload_n 0, 1) := by decide +kernel
theorem dX5_layFrame_69 : decode cX5_layFrame 69 = .ok (.getfield 23, 3) := by decide +kernel
theorem dX5_layFrame_72 : decode cX5_layFrame 72 = .ok (.iconst 2, 1) := by decide +kernel
theorem dX5_layFrame_73 : decode cX5_layFrame 73 = .ok (.iload_n 2, 1) := by decide +kernel
theorem dX5_layFrame_74 : decode cX5_layFrame 74 = .ok (.imul, 1) := by decide +kernel
theorem dX5_layFrame_75 : decode cX5_layFrame 75 = .ok (.iadd, 1) := by decide +kernel
theorem dX5_layFrame_76 : decode cX5_layFrame 76 = .ok (.iload_n 1, 1) := by decide +kernel
theorem dX5_layFrame_77 : decode cX5_layFrame 77 = .ok (.aload_n 0, 1) := by decide +kernel
theorem dX5_layFrame_78 : decode cX5_layFrame 78 = .ok (.getfield 13, 3) := by decide +kernel
theorem dX5_layFrame_81 : decode cX5_layFrame 81 = .ok (.iand, 1) := by decide +kernel
theorem dX5_layFrame_82 : decode cX5_layFrame 82 = .ok (.invokestatic 109, 3) := by decide +kernel
theorem dX5_layFrame_85 : decode cX5_layFrame 85 = .ok (.iconst 1, 1) := by decide +kernel
theorem dX5_layFrame_86 : decode cX5_layFrame 86 = .ok (.if_icmp .ne 10, 3) := by decide +kernel
theorem dX5_layFrame_89 : decode cX5_layFrame 89 = .ok (.aload_n 0, 1) := by decide +kernel
theorem dX5_layFrame_90 : decode cX5_layFrame 90 = .ok (.getfield 20, 3) := by decide +kernel
theorem dX5_layFrame_93 : decode cX5_layFrame 93 = .ok (.goto 8, 3) := by decide +kernel
theorem dX5_layFrame_96 : decode cX5_layFrame 96 = .ok (.aload_n 0, 1) := by decide +kernel
theorem dX5_layFrame_97 : decode cX5_layFrame 97 = .ok (.getfield 20, 3) := by decide +kernel
theorem dX5_layFrame_100 : decode cX5_layFrame 100 = .ok (.ineg, 1) := by decide +kernel
theorem dX5_layFrame_101 : decode cX5_layFrame 101 = .ok (.iastore, 1) := by decide +kernel
theorem dX5_layFrame_102 : decode cX5_layFrame 102 = .ok (.aload_n 0, 1) := by decide +kernel
theorem dX5_layFrame_103 : decode cX5_layFrame 103 = .ok (.getfield 53, 3) := by decide +kernel
theorem dX5_layFrame_106 : decode cX5_layFrame 106 = .ok (.aload_n 0, 1) := by decide +kernel
theorem dX5_layFrame_107 : decode cX5_layFrame 107 = .ok (.getfield 23, 3) := by decide +kernel
theorem dX5_layFrame_110 : decode cX5_layFrame 110 = .ok (.iconst 2, 1) := by decide +kernel
theorem dX5_layFrame_111 : decode cX5_layFrame 111 = .ok (.iload_n 2, 1) := by decide +kernel
theorem dX5_layFrame_112 : decode cX5_layFrame 112 = .ok (.imul, 1) := by decide +kernel
theorem dX5_layFrame_113 : decode cX5_layFrame 113 = .ok (.iadd, 1) := by decide +kernel
theorem dX5_layFrame_114 : decode cX5_layFrame 114 = .ok (.iconst 1, 1) := by decide +kernel
theorem dX5_layFrame_115 : decode cX5_layFrame 115 = .ok (.iadd, 1) := by decide +kernel
theorem dX5_layFrame_116 : decode cX5_layFrame 116 = .ok (.iload_n 1, 1) := by decide +kernel
theorem dX5_layFrame_117 : decode cX5_layFrame 117 = .ok (.aload_n 0, 1) := by decide +kernel
theorem dX5_layFrame_118 : decode cX5_layFrame 118 = .ok (.getfield 17, 3) := by decide +kernel
theorem dX5_layFrame_121 : decode cX5_layFrame 121 = .ok (.iand, 1) := by decide +kernel
theorem dX5_layFrame_122 : decode cX5_layFrame 122 = .ok (.invokestatic 109, 3) := by decide +kernel
theorem dX5_layFrame_125 : decode cX5_layFrame 125 = .ok (.iconst 1, 1) := by decide +kernel
theorem dX5_layFrame_126 : decode cX5_layFrame 126 = .ok (.if_icmp .ne 10, 3) := by decide +kernel
theorem dX5_layFrame_129 : decode cX5_layFrame 129 = .ok (.aload_n 0, 1) := by decide +kernel
theorem dX5_layFrame_130 : decode cX5_layFrame 130 = .ok (.getfield 20, 3) := by decide +kernel
theorem dX5_layFrame_133 : decode cX5_layFrame 133 = .ok (.goto 8, 3) := by decide +kernel
theorem dX5_layFrame_136 : decode cX5_layFrame 136 = .ok (.aload_n 0, 1) := by decide +kernel
theorem dX5_layFrame_137 : decode cX5_layFrame 137 = .ok (.getfield 20, 3) := by decide +kernel
theorem dX5_layFrame_140 : decode cX5_layFrame 140 = .ok (.ineg, 1) := by decide +kernel
theorem dX5_layFrame_141 : decode cX5_layFrame 141 = .ok (.iastore, 1) := by decide +kernel
theorem dX5_layFrame_142 : decode cX5_layFrame 142 = .ok (.iinc 2 1, 3) := by decide +kernel
theorem dX5_layFrame_145 : decode cX5_layFrame 145 = .ok (.goto (-105), 3) := by decide +kernel
theorem dX5_layFrame_148 : decode cX5_layFrame 148 = .ok (.return_, 1) := by decide +kernel
theorem dX5_voice_0 : decode cX5_voice 0 = .ok (.iload_n 1, 1) := by decide +kernel
theorem dX5_voice_1 : decode cX5_voice 1 = .ok (.iconst 0, 1) := by decide +kernel
theorem dX5_voice_2 : decode cX5_voice 2 = .ok (.aload_n 0, 1) := by decide +kernel
theorem dX5_voice_3 : decode cX5_voice 3 = .ok (.invokevirtual 119, 3) := by decide +kernel
theorem dX5_voice_6 : decode cX5_voice 6 = .ok (.iconst 1, 1) := by decide +kernel
theorem dX5_voice_7 : decode cX5_voice 7 = .ok (.isub, 1) := by decide +kernel
theorem dX5_voice_8 : decode cX5_voice 8 = .ok (.invokestatic 79, 3) := by decide +kernel
theorem dX5_voice_11 : decode cX5_voice 11 = .ok (.ifCond .ne 6, 3) := by decide +kernel
theorem dX5_voice_14 : decode cX5_voice 14 = .ok (.ldc 122, 2) := by decide +kernel
theorem dX5_voice_16 : decode cX5_voice 16 = .ok (.ireturn, 1) := by decide +kernel
theorem dX5_voice_17 : decode cX5_voice 17 = .ok (.aload_n 0, 1) := by decide +kernel
theorem dX5_voice_18 : decode cX5_voice 18 = .ok (.invokevirtual 123, 3) := by decide +kernel
theorem dX5_voice_21 : decode cX5_voice 21 = .ok (.aload_n 0, 1) := by decide +kernel
theorem dX5_voice_22 : decode cX5_voice 22 = .ok (.getfield 53, 3) := by decide +kernel
theorem dX5_voice_25 : decode cX5_voice 25 = .ok (.iload_n 1, 1) := by decide +kernel
theorem dX5_voice_26 : decode cX5_voice 26 = .ok (.iaload, 1) := by decide +kernel
theorem dX5_voice_27 : decode cX5_voice 27 = .ok (.ireturn, 1) := by decide +kernel
theorem dX5_sampleMany_0 : decode cX5_sampleMany 0 = .ok (.aload_n 0, 1) := by decide +kernel
theorem dX5_sampleMany_1 : decode cX5_sampleMany 1 = .ok (.getfield 97, 3) := by decide +kernel
theorem dX5_sampleMany_4 : decode cX5_sampleMany 4 = .ok (.aload_n 0, 1) := by decide +kernel
theorem dX5_sampleMany_5 : decode cX5_sampleMany 5 = .ok (.invokevirtual 119, 3) := by decide +kernel
theorem dX5_sampleMany_8 : decode cX5_sampleMany 8 = .ok (.iadd, 1) := by decide +kernel
theorem dX5_sampleMany_9 : decode cX5_sampleMany 9 = .ok (.bipush 8, 2) := by decide +kernel
theorem dX5_sampleMany_11 : decode cX5_sampleMany 11 = .ok (.iadd, 1) := by decide +kernel
theorem dX5_sampleMany_12 : decode cX5_sampleMany 12 = .ok (.ireturn, 1) := by decide +kernel
theorem dX5_listen_0 : decode cX5_listen 0 = .ok (.aload_n 0, 1) := by decide +kernel
theorem dX5_listen_1 : decode cX5_listen 1 = .ok (.invokevirtual 123, 3) := by decide +kernel
theorem dX5_listen_4 : decode cX5_listen 4 = .ok (.iload_n 1, 1) := by decide +kernel
theorem dX5_listen_5 : decode cX5_listen 5 = .ok (.istore_n 2, 1) := by decide +kernel
theorem dX5_listen_6 : decode cX5_listen 6 = .ok (.iconst 0, 1) := by decide +kernel
theorem dX5_listen_7 : decode cX5_listen 7 = .ok (.istore_n 3, 1) := by decide +kernel
theorem dX5_listen_8 : decode cX5_listen 8 = .ok (.iload_n 3, 1) := by decide +kernel
theorem dX5_listen_9 : decode cX5_listen 9 = .ok (.aload_n 0, 1) := by decide +kernel
theorem dX5_listen_10 : decode cX5_listen 10 = .ok (.invokevirtual 126, 3) := by decide +kernel
theorem dX5_listen_13 : decode cX5_listen 13 = .ok (.if_icmp .ge 178, 3) := by decide +kernel
theorem dX5_listen_16 : decode cX5_listen 16 = .ok (.iconst 0, 1) := by decide +kernel
theorem dX5_listen_17 : decode cX5_listen 17 = .ok (.istore 4, 2) := by decide +kernel
theorem dX5_listen_19 : decode cX5_listen 19 = .ok (.iconst 0, 1) := by decide +kernel
theorem dX5_listen_20 : decode cX5_listen 20 = .ok (.istore 5, 2) := by decide +kernel
theorem dX5_listen_22 : decode cX5_listen 22 = .ok (.iload 5, 2) := by decide +kernel
theorem dX5_listen_24 : decode cX5_listen 24 = .ok (.iconst 4, 1) := by decide +kernel
theorem dX5_listen_25 : decode cX5_listen 25 = .ok (.if_icmp .ge 59, 3) := by decide +kernel
theorem dX5_listen_28 : decode cX5_listen 28 = .ok (.iload_n 3, 1) := by decide +kernel
theorem dX5_listen_29 : decode cX5_listen 29 = .ok (.aload_n 0, 1) := by decide +kernel
theorem dX5_listen_30 : decode cX5_listen 30 = .ok (.getfield 97, 3) := by decide +kernel
theorem dX5_listen_33 : decode cX5_listen 33 = .ok (.isub, 1) := by decide +kernel
theorem dX5_listen_34 : decode cX5_listen 34 = .ok (.iload 5, 2) := by decide +kernel
theorem dX5_listen_36 : decode cX5_listen 36 = .ok (.isub, 1) := by decide +kernel
theorem dX5_listen_37 : decode cX5_listen 37 = .ok (.istore 6, 2) := by decide +kernel
theorem dX5_listen_39 : decode cX5_listen 39 = .ok (.iload 4, 2) := by decide +kernel
theorem dX5_listen_41 : decode cX5_listen 41 = .ok (.iload 6, 2) := by decide +kernel
theorem dX5_listen_43 : decode cX5_listen 43 = .ok (.iconst 0, 1) := by decide +kernel
theorem dX5_listen_44 : decode cX5_listen 44 = .ok (.aload_n 0, 1) := by decide +kernel
theorem dX5_listen_45 : decode cX5_listen 45 = .ok (.invokevirtual 119, 3) := by decide +kernel
theorem dX5_listen_48 : decode cX5_listen 48 = .ok (.iconst 1, 1) := by decide +kernel
theorem dX5_listen_49 : decode cX5_listen 49 = .ok (.isub, 1) := by decide +kernel
theorem dX5_listen_50 : decode cX5_listen 50 = .ok (.invokestatic 79, 3) := by decide +kernel
theorem dX5_listen_53 : decode cX5_listen 53 = .ok (.ifCond .eq 21, 3) := by decide +kernel
theorem dX5_listen_56 : decode cX5_listen 56 = .ok (.aload_n 0, 1) := by decide +kernel
theorem dX5_listen_57 : decode cX5_listen 57 = .ok (.getfield 29, 3) := by decide +kernel
theorem dX5_listen_60 : decode cX5_listen 60 = .ok (.iload 5, 2) := by decide +kernel
theorem dX5_listen_62 : decode cX5_listen 62 = .ok (.iaload, 1) := by decide +kernel
theorem dX5_listen_63 : decode cX5_listen 63 = .ok (.aload_n 0, 1) := by decide +kernel
theorem dX5_listen_64 : decode cX5_listen 64 = .ok (.getfield 53, 3) := by decide +kernel
theorem dX5_listen_67 : decode cX5_listen 67 = .ok (.iload 6, 2) := by decide +kernel
theorem dX5_listen_69 : decode cX5_listen 69 = .ok (.iaload, 1) := by decide +kernel
theorem dX5_listen_70 : decode cX5_listen 70 = .ok (.imul, 1) := by decide +kernel
theorem dX5_listen_71 : decode cX5_listen 71 = .ok (.goto 4, 3) := by decide +kernel
theorem dX5_listen_74 : decode cX5_listen 74 = .ok (.iconst 0, 1) := by decide +kernel
theorem dX5_listen_75 : decode cX5_listen 75 = .ok (.iadd, 1) := by decide +kernel
theorem dX5_listen_76 : decode cX5_listen 76 = .ok (.istore 4, 2) := by decide +kernel
theorem dX5_listen_78 : decode cX5_listen 78 = .ok (.iinc 5 1, 3) := by decide +kernel
theorem dX5_listen_81 : decode cX5_listen 81 = .ok (.goto (-59), 3) := by decide +kernel
theorem dX5_listen_84 : decode cX5_listen 84 = .ok (.iload_n 2, 1) := by decide +kernel
theorem dX5_listen_85 : decode cX5_listen 85 = .ok (.ldc 129, 2) := by decide +kernel
theorem dX5_listen_87 : decode cX5_listen 87 = .ok (.imul, 1) := by decide +kernel
theorem dX5_listen_88 : decode cX5_listen 88 = .ok (.sipush 12345, 3) := by decide +kernel
theorem dX5_listen_91 : decode cX5_listen 91 = .ok (.iadd, 1) := by decide +kernel
theorem dX5_listen_92 : decode cX5_listen 92 = .ok (.ldc 130, 2) := by decide +kernel
theorem dX5_listen_94 : decode cX5_listen 94 = .ok (.iand, 1) := by decide +kernel
theorem dX5_listen_95 : decode cX5_listen 95 = .ok (.istore_n 2, 1) := by decide +kernel
theorem dX5_listen_96 : decode cX5_listen 96 = .ok (.iload 4, 2) := by decide +kernel
theorem dX5_listen_98 : decode cX5_listen 98 = .ok (.iload_n 2, 1) := by decide +kernel
theorem dX5_listen_99 : decode cX5_listen 99 = .ok (.ldc 131, 2) := by decide +kernel
theorem dX5_listen_101 : decode cX5_listen 101 = .ok (.idiv, 1) := by decide +kernel
theorem dX5_listen_102 : decode cX5_listen 102 = .ok (.iconst 2, 1) := by decide +kernel
theorem dX5_listen_103 : decode cX5_listen 103 = .ok (.aload_n 0, 1) := by decide +kernel
theorem dX5_listen_104 : decode cX5_listen 104 = .ok (.getfield 100, 3) := by decide +kernel
theorem dX5_listen_107 : decode cX5_listen 107 = .ok (.imul, 1) := by decide +kernel
theorem dX5_listen_108 : decode cX5_listen 108 = .ok (.iconst 1, 1) := by decide +kernel
theorem dX5_listen_109 : decode cX5_listen 109 = .ok (.iadd, 1) := by decide +kernel
theorem dX5_listen_110 : decode cX5_listen 110 = .ok (.irem, 1) := by decide +kernel
theorem dX5_listen_111 : decode cX5_listen 111 = .ok (.aload_n 0, 1) := by decide +kernel
theorem dX5_listen_112 : decode cX5_listen 112 = .ok (.getfield 100, 3) := by decide +kernel
theorem dX5_listen_115 : decode cX5_listen 115 = .ok (.isub, 1) := by decide +kernel
theorem dX5_listen_116 : decode cX5_listen 116 = .ok (.iadd, 1) := by decide +kernel
theorem dX5_listen_117 : decode cX5_listen 117 = .ok (.istore 4, 2) := by decide +kernel
theorem dX5_listen_119 : decode cX5_listen 119 = .ok (.iload_n 3, 1) := by decide +kernel
theorem dX5_listen_120 : decode cX5_listen 120 = .ok (.aload_n 0, 1) := by decide +kernel
theorem dX5_listen_121 : decode cX5_listen 121 = .ok (.getfield 103, 3) := by decide +kernel
theorem dX5_listen_124 : decode cX5_listen 124 = .ok (.aload_n 0, 1) := by decide +kernel
theorem dX5_listen_125 : decode cX5_listen 125 = .ok (.getfield 103, 3) := by decide +kernel
theorem dX5_listen_128 : decode cX5_listen 128 = .ok (.aload_n 0, 1) := by decide +kernel
theorem dX5_listen_129 : decode cX5_listen 129 = .ok (.getfield 106, 3) := by decide +kernel
theorem dX5_listen_132 : decode cX5_listen 132 = .ok (.iadd, 1) := by decide +kernel
theorem dX5_listen_133 : decode cX5_listen 133 = .ok (.iconst 1, 1) := by decide +kernel
theorem dX5_listen_134 : decode cX5_listen 134 = .ok (.isub, 1) := by decide +kernel
theorem dX5_listen_135 : decode cX5_listen 135 = .ok (.invokestatic 79, 3) := by decide +kernel
theorem dX5_listen_138 : decode cX5_listen 138 = .ok (.ifCond .eq 7, 3) := by decide +kernel
theorem dX5_listen_141 : decode cX5_listen 141 = .ok (.iconst 0, 1) := by decide +kernel
theorem dX5_listen_142 : decode cX5_listen 142 = .ok (.goto 5, 3) := by decide +kernel
theorem dX5_listen_145 : decode cX5_listen 145 = .ok (.iload 4, 2) := by decide +kernel
theorem dX5_listen_147 : decode cX5_listen 147 = .ok (.istore 4, 2) := by decide +kernel
theorem dX5_listen_149 : decode cX5_listen 149 = .ok (.aload_n 0, 1) := by decide +kernel
theorem dX5_listen_150 : decode cX5_listen 150 = .ok (.getfield 56, 3) := by decide +kernel
theorem dX5_listen_153 : decode cX5_listen 153 = .ok (.iload_n 3, 1) := by decide +kernel
theorem dX5_listen_154 : decode cX5_listen 154 = .ok (.iload 4, 2) := by decide +kernel
theorem dX5_listen_156 : decode cX5_listen 156 = .ok (.sipush 4000, 3) := by decide +kernel
theorem dX5_listen_159 : decode cX5_listen 159 = .ok (.if_icmp .le 9, 3) := by decide +kernel
theorem dX5_listen_162 : decode cX5_listen 162 = .ok (.sipush 4000, 3) := by decide +kernel
theorem dX5_listen_165 : decode cX5_listen 165 = .ok (.goto 19, 3) := by decide +kernel
theorem dX5_listen_168 : decode cX5_listen 168 = .ok (.iload 4, 2) := by decide +kernel
theorem dX5_listen_170 : decode cX5_listen 170 = .ok (.sipush (-4000), 3) := by decide +kernel
theorem dX5_listen_173 : decode cX5_listen 173 = .ok (.if_icmp .ge 9, 3) := by decide +kernel
theorem dX5_listen_176 : decode cX5_listen 176 = .ok (.sipush (-4000), 3) := by decide +kernel
theorem dX5_listen_179 : decode cX5_listen 179 = .ok (.goto 5, 3) := by decide +kernel
theorem dX5_listen_182 : decode cX5_listen 182 = .ok (.iload 4, 2) := by decide +kernel
theorem dX5_listen_184 : decode cX5_listen 184 = .ok (.iastore, 1) := by decide +kernel
theorem dX5_listen_185 : decode cX5_listen 185 = .ok (.iinc 3 1, 3) := by decide +kernel
theorem dX5_listen_188 : decode cX5_listen 188 = .ok (.goto (-180), 3) := by decide +kernel
theorem dX5_listen_191 : decode cX5_listen 191 = .ok (.return_, 1) := by decide +kernel
theorem dX5_hear_0 : decode cX5_hear 0 = .ok (.aload_n 0, 1) := by decide +kernel
theorem dX5_hear_1 : decode cX5_hear 1 = .ok (.aload_n 0, 1) := by decide +kernel
theorem dX5_hear_2 : decode cX5_hear 2 = .ok (.getfield 32, 3) := by decide +kernel
theorem dX5_hear_5 : decode cX5_hear 5 = .ok (.invokevirtual 132, 3) := by decide +kernel
theorem dX5_hear_8 : decode cX5_hear 8 = .ok (.iconst 0, 1) := by decide +kernel
theorem dX5_hear_9 : decode cX5_hear 9 = .ok (.istore_n 1, 1) := by decide +kernel
theorem dX5_hear_10 : decode cX5_hear 10 = .ok (.iload_n 1, 1) := by decide +kernel
theorem dX5_hear_11 : decode cX5_hear 11 = .ok (.aload_n 0, 1) := by decide +kernel
theorem dX5_hear_12 : decode cX5_hear 12 = .ok (.invokevirtual 126, 3) := by decide +kernel
theorem dX5_hear_15 : decode cX5_hear 15 = .ok (.if_icmp .ge 21, 3) := by decide +kernel
theorem dX5_hear_18 : decode cX5_hear 18 = .ok (.aload_n 0, 1) := by decide +kernel
theorem dX5_hear_19 : decode cX5_hear 19 = .ok (.getfield 41, 3) := by decide +kernel
theorem dX5_hear_22 : decode cX5_hear 22 = .ok (.iload_n 1, 1) := by decide +kernel
theorem dX5_hear_23 : decode cX5_hear 23 = .ok (.aload_n 0, 1) := by decide +kernel
theorem dX5_hear_24 : decode cX5_hear 24 = .ok (.getfield 56, 3) := by decide +kernel
theorem dX5_hear_27 : decode cX5_hear 27 = .ok (.iload_n 1, 1) := by decide +kernel
theorem dX5_hear_28 : decode cX5_hear 28 = .ok (.iaload, 1) := by decide +kernel
theorem dX5_hear_29 : decode cX5_hear 29 = .ok (.iastore, 1) := by decide +kernel
theorem dX5_hear_30 : decode cX5_hear 30 = .ok (.iinc 1 1, 3) := by decide +kernel
theorem dX5_hear_33 : decode cX5_hear 33 = .ok (.goto (-23), 3) := by decide +kernel
theorem dX5_hear_36 : decode cX5_hear 36 = .ok (.aload_n 0, 1) := by decide +kernel
theorem dX5_hear_37 : decode cX5_hear 37 = .ok (.invokevirtual 86, 3) := by decide +kernel
theorem dX5_hear_40 : decode cX5_hear 40 = .ok (.pop, 1) := by decide +kernel
theorem dX5_hear_41 : decode cX5_hear 41 = .ok (.aload_n 0, 1) := by decide +kernel
theorem dX5_hear_42 : decode cX5_hear 42 = .ok (.iconst 1, 1) := by decide +kernel
theorem dX5_hear_43 : decode cX5_hear 43 = .ok (.putfield 72, 3) := by decide +kernel
theorem dX5_hear_46 : decode cX5_hear 46 = .ok (.aload_n 0, 1) := by decide +kernel
theorem dX5_hear_47 : decode cX5_hear 47 = .ok (.invokevirtual 126, 3) := by decide +kernel
theorem dX5_hear_50 : decode cX5_hear 50 = .ok (.ireturn, 1) := by decide +kernel
theorem dX5_sample_0 : decode cX5_sample 0 = .ok (.aload_n 0, 1) := by decide +kernel
theorem dX5_sample_1 : decode cX5_sample 1 = .ok (.getfield 72, 3) := by decide +kernel
theorem dX5_sample_4 : decode cX5_sample 4 = .ok (.ifCond .eq 26, 3) := by decide +kernel
theorem dX5_sample_7 : decode cX5_sample 7 = .ok (.iload_n 1, 1) := by decide +kernel
theorem dX5_sample_8 : decode cX5_sample 8 = .ok (.iconst 0, 1) := by decide +kernel
theorem dX5_sample_9 : decode cX5_sample 9 = .ok (.aload_n 0, 1) := by decide +kernel
theorem dX5_sample_10 : decode cX5_sample 10 = .ok (.invokevirtual 126, 3) := by decide +kernel
theorem dX5_sample_13 : decode cX5_sample 13 = .ok (.iconst 1, 1) := by decide +kernel
theorem dX5_sample_14 : decode cX5_sample 14 = .ok (.isub, 1) := by decide +kernel
theorem dX5_sample_15 : decode cX5_sample 15 = .ok (.invokestatic 79, 3) := by decide +kernel
theorem dX5_sample_18 : decode cX5_sample 18 = .ok (.ifCond .eq 12, 3) := by decide +kernel
theorem dX5_sample_21 : decode cX5_sample 21 = .ok (.aload_n 0, 1) := by decide +kernel
theorem dX5_sample_22 : decode cX5_sample 22 = .ok (.getfield 41, 3) := by decide +kernel
theorem dX5_sample_25 : decode cX5_sample 25 = .ok (.iload_n 1, 1) := by decide +kernel
theorem dX5_sample_26 : decode cX5_sample 26 = .ok (.iaload, 1) := by decide +kernel
theorem dX5_sample_27 : decode cX5_sample 27 = .ok (.goto 5, 3) := by decide +kernel
theorem dX5_sample_30 : decode cX5_sample 30 = .ok (.ldc 122, 2) := by decide +kernel
theorem dX5_sample_32 : decode cX5_sample 32 = .ok (.ireturn, 1) := by decide +kernel
theorem dX5_least_0 : decode cX5_least 0 = .ok (.iload_n 1, 1) := by decide +kernel
theorem dX5_least_1 : decode cX5_least 1 = .ok (.iconst 0, 1) := by decide +kernel
theorem dX5_least_2 : decode cX5_least 2 = .ok (.ldc 136, 2) := by decide +kernel
theorem dX5_least_4 : decode cX5_least 4 = .ok (.invokestatic 79, 3) := by decide +kernel
theorem dX5_least_7 : decode cX5_least 7 = .ok (.ifCond .ne 6, 3) := by decide +kernel
theorem dX5_least_10 : decode cX5_least 10 = .ok (.bipush (-2), 2) := by decide +kernel
theorem dX5_least_12 : decode cX5_least 12 = .ok (.ireturn, 1) := by decide +kernel
theorem dX5_least_13 : decode cX5_least 13 = .ok (.aload_n 0, 1) := by decide +kernel
theorem dX5_least_14 : decode cX5_least 14 = .ok (.getfield 35, 3) := by decide +kernel
theorem dX5_least_17 : decode cX5_least 17 = .ok (.istore_n 2, 1) := by decide +kernel
theorem dX5_least_18 : decode cX5_least 18 = .ok (.aload_n 0, 1) := by decide +kernel
theorem dX5_least_19 : decode cX5_least 19 = .ok (.iload_n 1, 1) := by decide +kernel
theorem dX5_least_20 : decode cX5_least 20 = .ok (.putfield 35, 3) := by decide +kernel
theorem dX5_least_23 : decode cX5_least 23 = .ok (.iload_n 2, 1) := by decide +kernel
theorem dX5_least_24 : decode cX5_least 24 = .ok (.ireturn, 1) := by decide +kernel
theorem dX5_likenessOf_0 : decode cX5_likenessOf 0 = .ok (.iconst 0, 1) := by decide +kernel
theorem dX5_likenessOf_1 : decode cX5_likenessOf 1 = .ok (.istore 4, 2) := by decide +kernel
theorem dX5_likenessOf_3 : decode cX5_likenessOf 3 = .ok (.iconst 0, 1) := by decide +kernel
theorem dX5_likenessOf_4 : decode cX5_likenessOf 4 = .ok (.istore 5, 2) := by decide +kernel
theorem dX5_likenessOf_6 : decode cX5_likenessOf 6 = .ok (.iload 5, 2) := by decide +kernel
theorem dX5_likenessOf_8 : decode cX5_likenessOf 8 = .ok (.iload_n 2, 1) := by decide +kernel
theorem dX5_likenessOf_9 : decode cX5_likenessOf 9 = .ok (.if_icmp .ge 44, 3) := by decide +kernel
theorem dX5_likenessOf_12 : decode cX5_likenessOf 12 = .ok (.iload 4, 2) := by decide +kernel
theorem dX5_likenessOf_14 : decode cX5_likenessOf 14 = .ok (.iload_n 3, 1) := by decide +kernel
theorem dX5_likenessOf_15 : decode cX5_likenessOf 15 = .ok (.iload_n 2, 1) := by decide +kernel
theorem dX5_likenessOf_16 : decode cX5_likenessOf 16 = .ok (.iconst 1, 1) := by decide +kernel
theorem dX5_likenessOf_17 : decode cX5_likenessOf 17 = .ok (.isub, 1) := by decide +kernel
theorem dX5_likenessOf_18 : decode cX5_likenessOf 18 = .ok (.iload 5, 2) := by decide +kernel
theorem dX5_likenessOf_20 : decode cX5_likenessOf 20 = .ok (.isub, 1) := by decide +kernel
theorem dX5_likenessOf_21 : decode cX5_likenessOf 21 = .ok (.ishr, 1) := by decide +kernel
theorem dX5_likenessOf_22 : decode cX5_likenessOf 22 = .ok (.iconst 1, 1) := by decide +kernel
theorem dX5_likenessOf_23 : decode cX5_likenessOf 23 = .ok (.iand, 1) := by decide +kernel
theorem dX5_likenessOf_24 : decode cX5_likenessOf 24 = .ok (.iconst 1, 1) := by decide +kernel
theorem dX5_likenessOf_25 : decode cX5_likenessOf 25 = .ok (.if_icmp .ne 12, 3) := by decide +kernel
theorem dX5_likenessOf_28 : decode cX5_likenessOf 28 = .ok (.aload_n 0, 1) := by decide +kernel
theorem dX5_likenessOf_29 : decode cX5_likenessOf 29 = .ok (.iload_n 1, 1) := by decide +kernel
theorem dX5_likenessOf_30 : decode cX5_likenessOf 30 = .ok (.iload 5, 2) := by decide +kernel
theorem dX5_likenessOf_32 : decode cX5_likenessOf 32 = .ok (.iadd, 1) := by decide +kernel
theorem dX5_likenessOf_33 : decode cX5_likenessOf 33 = .ok (.iaload, 1) := by decide +kernel
theorem dX5_likenessOf_34 : decode cX5_likenessOf 34 = .ok (.goto 10, 3) := by decide +kernel
theorem dX5_likenessOf_37 : decode cX5_likenessOf 37 = .ok (.aload_n 0, 1) := by decide +kernel
theorem dX5_likenessOf_38 : decode cX5_likenessOf 38 = .ok (.iload_n 1, 1) := by decide +kernel
theorem dX5_likenessOf_39 : decode cX5_likenessOf 39 = .ok (.iload 5, 2) := by decide +kernel
theorem dX5_likenessOf_41 : decode cX5_likenessOf 41 = .ok (.iadd, 1) := by decide +kernel
theorem dX5_likenessOf_42 : decode cX5_likenessOf 42 = .ok (.iaload, 1) := by decide +kernel
theorem dX5_likenessOf_43 : decode cX5_likenessOf 43 = .ok (.ineg, 1) := by decide +kernel
theorem dX5_likenessOf_44 : decode cX5_likenessOf 44 = .ok (.iadd, 1) := by decide +kernel
theorem dX5_likenessOf_45 : decode cX5_likenessOf 45 = .ok (.istore 4, 2) := by decide +kernel
theorem dX5_likenessOf_47 : decode cX5_likenessOf 47 = .ok (.iinc 5 1, 3) := by decide +kernel
theorem dX5_likenessOf_50 : decode cX5_likenessOf 50 = .ok (.goto (-44), 3) := by decide +kernel
theorem dX5_likenessOf_53 : decode cX5_likenessOf 53 = .ok (.iload 4, 2) := by decide +kernel
theorem dX5_likenessOf_55 : decode cX5_likenessOf 55 = .ok (.ireturn, 1) := by decide +kernel
theorem dX5_placeIn_0 : decode cX5_placeIn 0 = .ok (.iconst (-1), 1) := by decide +kernel
theorem dX5_placeIn_1 : decode cX5_placeIn 1 = .ok (.istore_n 2, 1) := by decide +kernel
theorem dX5_placeIn_2 : decode cX5_placeIn 2 = .ok (.iconst 0, 1) := by decide +kernel
theorem dX5_placeIn_3 : decode cX5_placeIn 3 = .ok (.istore_n 3, 1) := by decide +kernel
theorem dX5_placeIn_4 : decode cX5_placeIn 4 = .ok (.iconst 0, 1) := by decide +kernel
theorem dX5_placeIn_5 : decode cX5_placeIn 5 = .ok (.istore 4, 2) := by decide +kernel
theorem dX5_placeIn_7 : decode cX5_placeIn 7 = .ok (.iload 4, 2) := by decide +kernel
theorem dX5_placeIn_9 : decode cX5_placeIn 9 = .ok (.aload_n 0, 1) := by decide +kernel
theorem dX5_placeIn_10 : decode cX5_placeIn 10 = .ok (.getfield 97, 3) := by decide +kernel
theorem dX5_placeIn_13 : decode cX5_placeIn 13 = .ok (.bipush 8, 2) := by decide +kernel
theorem dX5_placeIn_15 : decode cX5_placeIn 15 = .ok (.iadd, 1) := by decide +kernel
theorem dX5_placeIn_16 : decode cX5_placeIn 16 = .ok (.if_icmp .gt 49, 3) := by decide +kernel
theorem dX5_placeIn_19 : decode cX5_placeIn 19 = .ok (.aload_n 0, 1) := by decide +kernel
theorem dX5_placeIn_20 : decode cX5_placeIn 20 = .ok (.getfield 23, 3) := by decide +kernel
theorem dX5_placeIn_23 : decode cX5_placeIn 23 = .ok (.ifCond .le 42, 3) := by decide +kernel
theorem dX5_placeIn_26 : decode cX5_placeIn 26 = .ok (.aload_n 1, 1) := by decide +kernel
theorem dX5_placeIn_27 : decode cX5_placeIn 27 = .ok (.iload 4, 2) := by decide +kernel
theorem dX5_placeIn_29 : decode cX5_placeIn 29 = .ok (.aload_n 0, 1) := by decide +kernel
theorem dX5_placeIn_30 : decode cX5_placeIn 30 = .ok (.getfield 23, 3) := by decide +kernel
theorem dX5_placeIn_33 : decode cX5_placeIn 33 = .ok (.aload_n 0, 1) := by decide +kernel
theorem dX5_placeIn_34 : decode cX5_placeIn 34 = .ok (.getfield 26, 3) := by decide +kernel
theorem dX5_placeIn_37 : decode cX5_placeIn 37 = .ok (.invokestatic 137, 3) := by decide +kernel
theorem dX5_placeIn_40 : decode cX5_placeIn 40 = .ok (.istore 5, 2) := by decide +kernel
theorem dX5_placeIn_42 : decode cX5_placeIn 42 = .ok (.iload_n 2, 1) := by decide +kernel
theorem dX5_placeIn_43 : decode cX5_placeIn 43 = .ok (.iconst (-1), 1) := by decide +kernel
theorem dX5_placeIn_44 : decode cX5_placeIn 44 = .ok (.if_icmp .eq 9, 3) := by decide +kernel
theorem dX5_placeIn_47 : decode cX5_placeIn 47 = .ok (.iload 5, 2) := by decide +kernel
theorem dX5_placeIn_49 : decode cX5_placeIn 49 = .ok (.iload_n 3, 1) := by decide +kernel
theorem dX5_placeIn_50 : decode cX5_placeIn 50 = .ok (.if_icmp .le 9, 3) := by decide +kernel
theorem dX5_placeIn_53 : decode cX5_placeIn 53 = .ok (.iload 4, 2) := by decide +kernel
theorem dX5_placeIn_55 : decode cX5_placeIn 55 = .ok (.istore_n 2, 1) := by decide +kernel
theorem dX5_placeIn_56 : decode cX5_placeIn 56 = .ok (.iload 5, 2) := by decide +kernel
theorem dX5_placeIn_58 : decode cX5_placeIn 58 = .ok (.istore_n 3, 1) := by decide +kernel
theorem dX5_placeIn_59 : decode cX5_placeIn 59 = .ok (.iinc 4 1, 3) := by decide +kernel
theorem dX5_placeIn_62 : decode cX5_placeIn 62 = .ok (.goto (-55), 3) := by decide +kernel
theorem dX5_placeIn_65 : decode cX5_placeIn 65 = .ok (.iload_n 2, 1) := by decide +kernel
theorem dX5_placeIn_66 : decode cX5_placeIn 66 = .ok (.iconst (-1), 1) := by decide +kernel
theorem dX5_placeIn_67 : decode cX5_placeIn 67 = .ok (.if_icmp .eq 15, 3) := by decide +kernel
theorem dX5_placeIn_70 : decode cX5_placeIn 70 = .ok (.iload_n 3, 1) := by decide +kernel
theorem dX5_placeIn_71 : decode cX5_placeIn 71 = .ok (.aload_n 0, 1) := by decide +kernel
theorem dX5_placeIn_72 : decode cX5_placeIn 72 = .ok (.getfield 35, 3) := by decide +kernel
theorem dX5_placeIn_75 : decode cX5_placeIn 75 = .ok (.if_icmp .lt 7, 3) := by decide +kernel
theorem dX5_placeIn_78 : decode cX5_placeIn 78 = .ok (.iload_n 2, 1) := by decide +kernel
theorem dX5_placeIn_79 : decode cX5_placeIn 79 = .ok (.goto 4, 3) := by decide +kernel
theorem dX5_placeIn_82 : decode cX5_placeIn 82 = .ok (.iconst (-1), 1) := by decide +kernel
theorem dX5_placeIn_83 : decode cX5_placeIn 83 = .ok (.ireturn, 1) := by decide +kernel
theorem dX5_find_0 : decode cX5_find 0 = .ok (.aload_n 0, 1) := by decide +kernel
theorem dX5_find_1 : decode cX5_find 1 = .ok (.getfield 72, 3) := by decide +kernel
theorem dX5_find_4 : decode cX5_find 4 = .ok (.ifCond .ne 6, 3) := by decide +kernel
theorem dX5_find_7 : decode cX5_find 7 = .ok (.bipush (-3), 2) := by decide +kernel
theorem dX5_find_9 : decode cX5_find 9 = .ok (.ireturn, 1) := by decide +kernel
theorem dX5_find_10 : decode cX5_find 10 = .ok (.aload_n 0, 1) := by decide +kernel
theorem dX5_find_11 : decode cX5_find 11 = .ok (.aload_n 0, 1) := by decide +kernel
theorem dX5_find_12 : decode cX5_find 12 = .ok (.aload_n 0, 1) := by decide +kernel
theorem dX5_find_13 : decode cX5_find 13 = .ok (.getfield 41, 3) := by decide +kernel
theorem dX5_find_16 : decode cX5_find 16 = .ok (.invokevirtual 141, 3) := by decide +kernel
theorem dX5_find_19 : decode cX5_find 19 = .ok (.putfield 38, 3) := by decide +kernel
theorem dX5_find_22 : decode cX5_find 22 = .ok (.aload_n 0, 1) := by decide +kernel
theorem dX5_find_23 : decode cX5_find 23 = .ok (.iconst 0, 1) := by decide +kernel
theorem dX5_find_24 : decode cX5_find 24 = .ok (.putfield 76, 3) := by decide +kernel
theorem dX5_find_27 : decode cX5_find 27 = .ok (.aload_n 0, 1) := by decide +kernel
theorem dX5_find_28 : decode cX5_find 28 = .ok (.getfield 38, 3) := by decide +kernel
theorem dX5_find_31 : decode cX5_find 31 = .ok (.ireturn, 1) := by decide +kernel
theorem dX5_likeness_0 : decode cX5_likeness 0 = .ok (.iload_n 1, 1) := by decide +kernel
theorem dX5_likeness_1 : decode cX5_likeness 1 = .ok (.iconst 0, 1) := by decide +kernel
theorem dX5_likeness_2 : decode cX5_likeness 2 = .ok (.aload_n 0, 1) := by decide +kernel
theorem dX5_likeness_3 : decode cX5_likeness 3 = .ok (.getfield 97, 3) := by decide +kernel
theorem dX5_likeness_6 : decode cX5_likeness 6 = .ok (.bipush 8, 2) := by decide +kernel
theorem dX5_likeness_8 : decode cX5_likeness 8 = .ok (.iadd, 1) := by decide +kernel
theorem dX5_likeness_9 : decode cX5_likeness 9 = .ok (.invokestatic 79, 3) := by decide +kernel
theorem dX5_likeness_12 : decode cX5_likeness 12 = .ok (.ifCond .eq 29, 3) := by decide +kernel
theorem dX5_likeness_15 : decode cX5_likeness 15 = .ok (.aload_n 0, 1) := by decide +kernel
theorem dX5_likeness_16 : decode cX5_likeness 16 = .ok (.getfield 72, 3) := by decide +kernel
theorem dX5_likeness_19 : decode cX5_likeness 19 = .ok (.ifCond .eq 22, 3) := by decide +kernel
theorem dX5_likeness_22 : decode cX5_likeness 22 = .ok (.aload_n 0, 1) := by decide +kernel
theorem dX5_likeness_23 : decode cX5_likeness 23 = .ok (.getfield 41, 3) := by decide +kernel
theorem dX5_likeness_26 : decode cX5_likeness 26 = .ok (.iload_n 1, 1) := by decide +kernel
theorem dX5_likeness_27 : decode cX5_likeness 27 = .ok (.aload_n 0, 1) := by decide +kernel
theorem dX5_likeness_28 : decode cX5_likeness 28 = .ok (.getfield 23, 3) := by decide +kernel
theorem dX5_likeness_31 : decode cX5_likeness 31 = .ok (.aload_n 0, 1) := by decide +kernel
theorem dX5_likeness_32 : decode cX5_likeness 32 = .ok (.getfield 26, 3) := by decide +kernel
theorem dX5_likeness_35 : decode cX5_likeness 35 = .ok (.invokestatic 137, 3) := by decide +kernel
theorem dX5_likeness_38 : decode cX5_likeness 38 = .ok (.goto 5, 3) := by decide +kernel
theorem dX5_likeness_41 : decode cX5_likeness 41 = .ok (.ldc 122, 2) := by decide +kernel
theorem dX5_likeness_43 : decode cX5_likeness 43 = .ok (.ireturn, 1) := by decide +kernel
theorem dX5_voiceOf_0 : decode cX5_voiceOf 0 = .ok (.iload_n 1, 1) := by decide +kernel
theorem dX5_voiceOf_1 : decode cX5_voiceOf 1 = .ok (.aload_n 0, 1) := by decide +kernel
theorem dX5_voiceOf_2 : decode cX5_voiceOf 2 = .ok (.getfield 23, 3) := by decide +kernel
theorem dX5_voiceOf_5 : decode cX5_voiceOf 5 = .ok (.ineg, 1) := by decide +kernel
theorem dX5_voiceOf_6 : decode cX5_voiceOf 6 = .ok (.if_icmp .ge 5, 3) := by decide +kernel
theorem dX5_voiceOf_9 : decode cX5_voiceOf 9 = .ok (.iconst 0, 1) := by decide +kernel
theorem dX5_voiceOf_10 : decode cX5_voiceOf 10 = .ok (.ireturn, 1) := by decide +kernel
theorem dX5_voiceOf_11 : decode cX5_voiceOf 11 = .ok (.iload_n 1, 1) := by decide +kernel
theorem dX5_voiceOf_12 : decode cX5_voiceOf 12 = .ok (.ifCond .ge 19, 3) := by decide +kernel
theorem dX5_voiceOf_15 : decode cX5_voiceOf 15 = .ok (.aload_n 0, 1) := by decide +kernel
theorem dX5_voiceOf_16 : decode cX5_voiceOf 16 = .ok (.aload_n 0, 1) := by decide +kernel
theorem dX5_voiceOf_17 : decode cX5_voiceOf 17 = .ok (.getfield 23, 3) := by decide +kernel
theorem dX5_voiceOf_20 : decode cX5_voiceOf 20 = .ok (.iload_n 1, 1) := by decide +kernel
theorem dX5_voiceOf_21 : decode cX5_voiceOf 21 = .ok (.iadd, 1) := by decide +kernel
theorem dX5_voiceOf_22 : decode cX5_voiceOf 22 = .ok (.invokevirtual 116, 3) := by decide +kernel
theorem dX5_voiceOf_25 : decode cX5_voiceOf 25 = .ok (.aload_n 0, 1) := by decide +kernel
theorem dX5_voiceOf_26 : decode cX5_voiceOf 26 = .ok (.getfield 20, 3) := by decide +kernel
theorem dX5_voiceOf_29 : decode cX5_voiceOf 29 = .ok (.imul, 1) := by decide +kernel
theorem dX5_voiceOf_30 : decode cX5_voiceOf 30 = .ok (.ireturn, 1) := by decide +kernel
theorem dX5_voiceOf_31 : decode cX5_voiceOf 31 = .ok (.iload_n 2, 1) := by decide +kernel
theorem dX5_voiceOf_32 : decode cX5_voiceOf 32 = .ok (.iload_n 3, 1) := by decide +kernel
theorem dX5_voiceOf_33 : decode cX5_voiceOf 33 = .ok (.iload_n 1, 1) := by decide +kernel
theorem dX5_voiceOf_34 : decode cX5_voiceOf 34 = .ok (.iconst 2, 1) := by decide +kernel
theorem dX5_voiceOf_35 : decode cX5_voiceOf 35 = .ok (.idiv, 1) := by decide +kernel
theorem dX5_voiceOf_36 : decode cX5_voiceOf 36 = .ok (.isub, 1) := by decide +kernel
theorem dX5_voiceOf_37 : decode cX5_voiceOf 37 = .ok (.ishr, 1) := by decide +kernel
theorem dX5_voiceOf_38 : decode cX5_voiceOf 38 = .ok (.bipush 15, 2) := by decide +kernel
theorem dX5_voiceOf_40 : decode cX5_voiceOf 40 = .ok (.iand, 1) := by decide +kernel
theorem dX5_voiceOf_41 : decode cX5_voiceOf 41 = .ok (.istore 4, 2) := by decide +kernel
theorem dX5_voiceOf_43 : decode cX5_voiceOf 43 = .ok (.iload 4, 2) := by decide +kernel
theorem dX5_voiceOf_45 : decode cX5_voiceOf 45 = .ok (.iload_n 1, 1) := by decide +kernel
theorem dX5_voiceOf_46 : decode cX5_voiceOf 46 = .ok (.iconst 2, 1) := by decide +kernel
theorem dX5_voiceOf_47 : decode cX5_voiceOf 47 = .ok (.irem, 1) := by decide +kernel
theorem dX5_voiceOf_48 : decode cX5_voiceOf 48 = .ok (.ifCond .ne 10, 3) := by decide +kernel
theorem dX5_voiceOf_51 : decode cX5_voiceOf 51 = .ok (.aload_n 0, 1) := by decide +kernel
theorem dX5_voiceOf_52 : decode cX5_voiceOf 52 = .ok (.getfield 13, 3) := by decide +kernel
theorem dX5_voiceOf_55 : decode cX5_voiceOf 55 = .ok (.goto 7, 3) := by decide +kernel
theorem dX5_voiceOf_58 : decode cX5_voiceOf 58 = .ok (.aload_n 0, 1) := by decide +kernel
theorem dX5_voiceOf_59 : decode cX5_voiceOf 59 = .ok (.getfield 17, 3) := by decide +kernel
theorem dX5_voiceOf_62 : decode cX5_voiceOf 62 = .ok (.iand, 1) := by decide +kernel
theorem dX5_voiceOf_63 : decode cX5_voiceOf 63 = .ok (.invokestatic 109, 3) := by decide +kernel
theorem dX5_voiceOf_66 : decode cX5_voiceOf 66 = .ok (.iconst 1, 1) := by decide +kernel
theorem dX5_voiceOf_67 : decode cX5_voiceOf 67 = .ok (.if_icmp .ne 10, 3) := by decide +kernel
theorem dX5_voiceOf_70 : decode cX5_voiceOf 70 = .ok (.aload_n 0, 1) := by decide +kernel
theorem dX5_voiceOf_71 : decode cX5_voiceOf 71 = .ok (.getfield 20, 3) := by decide +kernel
theorem dX5_voiceOf_74 : decode cX5_voiceOf 74 = .ok (.goto 8, 3) := by decide +kernel
theorem dX5_voiceOf_77 : decode cX5_voiceOf 77 = .ok (.aload_n 0, 1) := by decide +kernel
theorem dX5_voiceOf_78 : decode cX5_voiceOf 78 = .ok (.getfield 20, 3) := by decide +kernel
theorem dX5_voiceOf_81 : decode cX5_voiceOf 81 = .ok (.ineg, 1) := by decide +kernel
theorem dX5_voiceOf_82 : decode cX5_voiceOf 82 = .ok (.ireturn, 1) := by decide +kernel
theorem dX5_costOf_0 : decode cX5_costOf 0 = .ok (.lconst 0, 1) := by decide +kernel
theorem dX5_costOf_1 : decode cX5_costOf 1 = .ok (.lstore 5, 2) := by decide +kernel
theorem dX5_costOf_3 : decode cX5_costOf 3 = .ok (.iconst 2, 1) := by decide +kernel
theorem dX5_costOf_4 : decode cX5_costOf 4 = .ok (.iload_n 3, 1) := by decide +kernel
theorem dX5_costOf_5 : decode cX5_costOf 5 = .ok (.imul, 1) := by decide +kernel
theorem dX5_costOf_6 : decode cX5_costOf 6 = .ok (.istore 7, 2) := by decide +kernel
theorem dX5_costOf_8 : decode cX5_costOf 8 = .ok (.iload 7, 2) := by decide +kernel
theorem dX5_costOf_10 : decode cX5_costOf 10 = .ok (.iconst 2, 1) := by decide +kernel
theorem dX5_costOf_11 : decode cX5_costOf 11 = .ok (.iload_n 3, 1) := by decide +kernel
theorem dX5_costOf_12 : decode cX5_costOf 12 = .ok (.imul, 1) := by decide +kernel
theorem dX5_costOf_13 : decode cX5_costOf 13 = .ok (.iconst 2, 1) := by decide +kernel
theorem dX5_costOf_14 : decode cX5_costOf 14 = .ok (.iadd, 1) := by decide +kernel
theorem dX5_costOf_15 : decode cX5_costOf 15 = .ok (.if_icmp .ge 79, 3) := by decide +kernel
theorem dX5_costOf_18 : decode cX5_costOf 18 = .ok (.iconst 0, 1) := by decide +kernel
theorem dX5_costOf_19 : decode cX5_costOf 19 = .ok (.istore 8, 2) := by decide +kernel
theorem dX5_costOf_21 : decode cX5_costOf 21 = .ok (.iconst 0, 1) := by decide +kernel
theorem dX5_costOf_22 : decode cX5_costOf 22 = .ok (.istore 9, 2) := by decide +kernel
theorem dX5_costOf_24 : decode cX5_costOf 24 = .ok (.iload 9, 2) := by decide +kernel
theorem dX5_costOf_26 : decode cX5_costOf 26 = .ok (.iconst 4, 1) := by decide +kernel
theorem dX5_costOf_27 : decode cX5_costOf 27 = .ok (.if_icmp .ge 34, 3) := by decide +kernel
theorem dX5_costOf_30 : decode cX5_costOf 30 = .ok (.iload 8, 2) := by decide +kernel
theorem dX5_costOf_32 : decode cX5_costOf 32 = .ok (.aload_n 0, 1) := by decide +kernel
theorem dX5_costOf_33 : decode cX5_costOf 33 = .ok (.getfield 63, 3) := by decide +kernel
theorem dX5_costOf_36 : decode cX5_costOf 36 = .ok (.iload 9, 2) := by decide +kernel
theorem dX5_costOf_38 : decode cX5_costOf 38 = .ok (.iaload, 1) := by decide +kernel
theorem dX5_costOf_39 : decode cX5_costOf 39 = .ok (.aload_n 0, 1) := by decide +kernel
theorem dX5_costOf_40 : decode cX5_costOf 40 = .ok (.iload 7, 2) := by decide +kernel
theorem dX5_costOf_42 : decode cX5_costOf 42 = .ok (.iload 9, 2) := by decide +kernel
theorem dX5_costOf_44 : decode cX5_costOf 44 = .ok (.isub, 1) := by decide +kernel
theorem dX5_costOf_45 : decode cX5_costOf 45 = .ok (.iload 4, 2) := by decide +kernel
theorem dX5_costOf_47 : decode cX5_costOf 47 = .ok (.iload_n 3, 1) := by decide +kernel
theorem dX5_costOf_48 : decode cX5_costOf 48 = .ok (.invokevirtual 145, 3) := by decide +kernel
theorem dX5_costOf_51 : decode cX5_costOf 51 = .ok (.imul, 1) := by decide +kernel
theorem dX5_costOf_52 : decode cX5_costOf 52 = .ok (.iadd, 1) := by decide +kernel
theorem dX5_costOf_53 : decode cX5_costOf 53 = .ok (.istore 8, 2) := by decide +kernel
theorem dX5_costOf_55 : decode cX5_costOf 55 = .ok (.iinc 9 1, 3) := by decide +kernel
theorem dX5_costOf_58 : decode cX5_costOf 58 = .ok (.goto (-34), 3) := by decide +kernel
theorem dX5_costOf_61 : decode cX5_costOf 61 = .ok (.aload_n 1, 1) := by decide +kernel
theorem dX5_costOf_62 : decode cX5_costOf 62 = .ok (.iload_n 2, 1) := by decide +kernel
theorem dX5_costOf_63 : decode cX5_costOf 63 = .ok (.aload_n 0, 1) := by decide +kernel
theorem dX5_costOf_64 : decode cX5_costOf 64 = .ok (.getfield 23, 3) := by decide +kernel
theorem dX5_costOf_67 : decode cX5_costOf 67 = .ok (.iadd, 1) := by decide +kernel
theorem dX5_costOf_68 : decode cX5_costOf 68 = .ok (.iload 7, 2) := by decide +kernel
theorem dX5_costOf_70 : decode cX5_costOf 70 = .ok (.iadd, 1) := by decide +kernel
theorem dX5_costOf_71 : decode cX5_costOf 71 = .ok (.iaload, 1) := by decide +kernel
theorem dX5_costOf_72 : decode cX5_costOf 72 = .ok (.iload 8, 2) := by decide +kernel
theorem dX5_costOf_74 : decode cX5_costOf 74 = .ok (.isub, 1) := by decide +kernel
theorem dX5_costOf_75 : decode cX5_costOf 75 = .ok (.i2l, 1) := by decide +kernel
theorem dX5_costOf_76 : decode cX5_costOf 76 = .ok (.lstore 9, 2) := by decide +kernel
theorem dX5_costOf_78 : decode cX5_costOf 78 = .ok (.lload 5, 2) := by decide +kernel
theorem dX5_costOf_80 : decode cX5_costOf 80 = .ok (.lload 9, 2) := by decide +kernel
theorem dX5_costOf_82 : decode cX5_costOf 82 = .ok (.lload 9, 2) := by decide +kernel
theorem dX5_costOf_84 : decode cX5_costOf 84 = .ok (.lmul, 1) := by decide +kernel
theorem dX5_costOf_85 : decode cX5_costOf 85 = .ok (.ladd, 1) := by decide +kernel
theorem dX5_costOf_86 : decode cX5_costOf 86 = .ok (.lstore 5, 2) := by decide +kernel
theorem dX5_costOf_88 : decode cX5_costOf 88 = .ok (.iinc 7 1, 3) := by decide +kernel
theorem dX5_costOf_91 : decode cX5_costOf 91 = .ok (.goto (-83), 3) := by decide +kernel
theorem dX5_costOf_94 : decode cX5_costOf 94 = .ok (.lload 5, 2) := by decide +kernel
theorem dX5_costOf_96 : decode cX5_costOf 96 = .ok (.lreturn, 1) := by decide +kernel
theorem dX5_by_0 : decode cX5_by 0 = .ok (.iconst 2, 1) := by decide +kernel
theorem dX5_by_1 : decode cX5_by 1 = .ok (.iload 4, 2) := by decide +kernel
theorem dX5_by_3 : decode cX5_by 3 = .ok (.imul, 1) := by decide +kernel
theorem dX5_by_4 : decode cX5_by 4 = .ok (.iload 5, 2) := by decide +kernel
theorem dX5_by_6 : decode cX5_by 6 = .ok (.iadd, 1) := by decide +kernel
theorem dX5_by_7 : decode cX5_by 7 = .ok (.istore 6, 2) := by decide +kernel
theorem dX5_by_9 : decode cX5_by 9 = .ok (.aload_n 0, 1) := by decide +kernel
theorem dX5_by_10 : decode cX5_by 10 = .ok (.aload_n 1, 1) := by decide +kernel
theorem dX5_by_11 : decode cX5_by 11 = .ok (.iload_n 2, 1) := by decide +kernel
theorem dX5_by_12 : decode cX5_by 12 = .ok (.iload_n 3, 1) := by decide +kernel
theorem dX5_by_13 : decode cX5_by 13 = .ok (.iload 6, 2) := by decide +kernel
theorem dX5_by_15 : decode cX5_by 15 = .ok (.invokevirtual 149, 3) := by decide +kernel
theorem dX5_by_18 : decode cX5_by 18 = .ok (.aload_n 0, 1) := by decide +kernel
theorem dX5_by_19 : decode cX5_by 19 = .ok (.getfield 59, 3) := by decide +kernel
theorem dX5_by_22 : decode cX5_by 22 = .ok (.bipush 32, 2) := by decide +kernel
theorem dX5_by_24 : decode cX5_by 24 = .ok (.iload_n 3, 1) := by decide +kernel
theorem dX5_by_25 : decode cX5_by 25 = .ok (.iconst 1, 1) := by decide +kernel
theorem dX5_by_26 : decode cX5_by 26 = .ok (.iadd, 1) := by decide +kernel
theorem dX5_by_27 : decode cX5_by 27 = .ok (.imul, 1) := by decide +kernel
theorem dX5_by_28 : decode cX5_by 28 = .ok (.iload 6, 2) := by decide +kernel
theorem dX5_by_30 : decode cX5_by 30 = .ok (.bipush 32, 2) := by decide +kernel
theorem dX5_by_32 : decode cX5_by 32 = .ok (.irem, 1) := by decide +kernel
theorem dX5_by_33 : decode cX5_by 33 = .ok (.iadd, 1) := by decide +kernel
theorem dX5_by_34 : decode cX5_by 34 = .ok (.laload, 1) := by decide +kernel
theorem dX5_by_35 : decode cX5_by 35 = .ok (.ladd, 1) := by decide +kernel
theorem dX5_by_36 : decode cX5_by 36 = .ok (.lreturn, 1) := by decide +kernel
theorem dX5_bringFrom_0 : decode cX5_bringFrom 0 = .ok (.aload_n 0, 1) := by decide +kernel
theorem dX5_bringFrom_1 : decode cX5_bringFrom 1 = .ok (.getfield 83, 3) := by decide +kernel
theorem dX5_bringFrom_4 : decode cX5_bringFrom 4 = .ok (.iconst 3, 1) := by decide +kernel
theorem dX5_bringFrom_5 : decode cX5_bringFrom 5 = .ok (.iadd, 1) := by decide +kernel
theorem dX5_bringFrom_6 : decode cX5_bringFrom 6 = .ok (.istore_n 3, 1) := by decide +kernel
theorem dX5_bringFrom_7 : decode cX5_bringFrom 7 = .ok (.iconst 0, 1) := by decide +kernel
theorem dX5_bringFrom_8 : decode cX5_bringFrom 8 = .ok (.istore 4, 2) := by decide +kernel
theorem dX5_bringFrom_10 : decode cX5_bringFrom 10 = .ok (.iload 4, 2) := by decide +kernel
theorem dX5_bringFrom_12 : decode cX5_bringFrom 12 = .ok (.bipush 32, 2) := by decide +kernel
theorem dX5_bringFrom_14 : decode cX5_bringFrom 14 = .ok (.if_icmp .ge 22, 3) := by decide +kernel
theorem dX5_bringFrom_17 : decode cX5_bringFrom 17 = .ok (.aload_n 0, 1) := by decide +kernel
theorem dX5_bringFrom_18 : decode cX5_bringFrom 18 = .ok (.getfield 59, 3) := by decide +kernel
theorem dX5_bringFrom_21 : decode cX5_bringFrom 21 = .ok (.bipush 32, 2) := by decide +kernel
theorem dX5_bringFrom_23 : decode cX5_bringFrom 23 = .ok (.iload_n 3, 1) := by decide +kernel
theorem dX5_bringFrom_24 : decode cX5_bringFrom 24 = .ok (.imul, 1) := by decide +kernel
theorem dX5_bringFrom_25 : decode cX5_bringFrom 25 = .ok (.iload 4, 2) := by decide +kernel
theorem dX5_bringFrom_27 : decode cX5_bringFrom 27 = .ok (.iadd, 1) := by decide +kernel
theorem dX5_bringFrom_28 : decode cX5_bringFrom 28 = .ok (.lconst 0, 1) := by decide +kernel
theorem dX5_bringFrom_29 : decode cX5_bringFrom 29 = .ok (.lastore, 1) := by decide +kernel
theorem dX5_bringFrom_30 : decode cX5_bringFrom 30 = .ok (.iinc 4 1, 3) := by decide +kernel
theorem dX5_bringFrom_33 : decode cX5_bringFrom 33 = .ok (.goto (-23), 3) := by decide +kernel
theorem dX5_bringFrom_36 : decode cX5_bringFrom 36 = .ok (.iload_n 3, 1) := by decide +kernel
theorem dX5_bringFrom_37 : decode cX5_bringFrom 37 = .ok (.iconst 1, 1) := by decide +kernel
theorem dX5_bringFrom_38 : decode cX5_bringFrom 38 = .ok (.isub, 1) := by decide +kernel
theorem dX5_bringFrom_39 : decode cX5_bringFrom 39 = .ok (.istore 4, 2) := by decide +kernel
theorem dX5_bringFrom_41 : decode cX5_bringFrom 41 = .ok (.iload 4, 2) := by decide +kernel
theorem dX5_bringFrom_43 : decode cX5_bringFrom 43 = .ok (.ifCond .lt 93, 3) := by decide +kernel
theorem dX5_bringFrom_46 : decode cX5_bringFrom 46 = .ok (.iconst 0, 1) := by decide +kernel
theorem dX5_bringFrom_47 : decode cX5_bringFrom 47 = .ok (.istore 5, 2) := by decide +kernel
theorem dX5_bringFrom_49 : decode cX5_bringFrom 49 = .ok (.iload 5, 2) := by decide +kernel
theorem dX5_bringFrom_51 : decode cX5_bringFrom 51 = .ok (.bipush 32, 2) := by decide +kernel
theorem dX5_bringFrom_53 : decode cX5_bringFrom 53 = .ok (.if_icmp .ge 77, 3) := by decide +kernel
theorem dX5_bringFrom_56 : decode cX5_bringFrom 56 = .ok (.aload_n 0, 1) := by decide +kernel
theorem dX5_bringFrom_57 : decode cX5_bringFrom 57 = .ok (.aload_n 1, 1) := by decide +kernel
theorem dX5_bringFrom_58 : decode cX5_bringFrom 58 = .ok (.iload_n 2, 1) := by decide +kernel
theorem dX5_bringFrom_59 : decode cX5_bringFrom 59 = .ok (.iload 4, 2) := by decide +kernel
theorem dX5_bringFrom_61 : decode cX5_bringFrom 61 = .ok (.iload 5, 2) := by decide +kernel
theorem dX5_bringFrom_63 : decode cX5_bringFrom 63 = .ok (.iconst 0, 1) := by decide +kernel
theorem dX5_bringFrom_64 : decode cX5_bringFrom 64 = .ok (.invokevirtual 153, 3) := by decide +kernel
theorem dX5_bringFrom_67 : decode cX5_bringFrom 67 = .ok (.lstore 6, 2) := by decide +kernel
theorem dX5_bringFrom_69 : decode cX5_bringFrom 69 = .ok (.iload 4, 2) := by decide +kernel
theorem dX5_bringFrom_71 : decode cX5_bringFrom 71 = .ok (.aload_n 0, 1) := by decide +kernel
theorem dX5_bringFrom_72 : decode cX5_bringFrom 72 = .ok (.getfield 83, 3) := by decide +kernel
theorem dX5_bringFrom_75 : decode cX5_bringFrom 75 = .ok (.if_icmp .ge 17, 3) := by decide +kernel
theorem dX5_bringFrom_78 : decode cX5_bringFrom 78 = .ok (.aload_n 0, 1) := by decide +kernel
theorem dX5_bringFrom_79 : decode cX5_bringFrom 79 = .ok (.aload_n 1, 1) := by decide +kernel
theorem dX5_bringFrom_80 : decode cX5_bringFrom 80 = .ok (.iload_n 2, 1) := by decide +kernel
theorem dX5_bringFrom_81 : decode cX5_bringFrom 81 = .ok (.iload 4, 2) := by decide +kernel
theorem dX5_bringFrom_83 : decode cX5_bringFrom 83 = .ok (.iload 5, 2) := by decide +kernel
theorem dX5_bringFrom_85 : decode cX5_bringFrom 85 = .ok (.iconst 1, 1) := by decide +kernel
theorem dX5_bringFrom_86 : decode cX5_bringFrom 86 = .ok (.invokevirtual 153, 3) := by decide +kernel
theorem dX5_bringFrom_89 : decode cX5_bringFrom 89 = .ok (.goto 5, 3) := by decide +kernel
theorem dX5_bringFrom_92 : decode cX5_bringFrom 92 = .ok (.lload 6, 2) := by decide +kernel
theorem dX5_bringFrom_94 : decode cX5_bringFrom 94 = .ok (.lstore 8, 2) := by decide +kernel
theorem dX5_bringFrom_96 : decode cX5_bringFrom 96 = .ok (.aload_n 0, 1) := by decide +kernel
theorem dX5_bringFrom_97 : decode cX5_bringFrom 97 = .ok (.getfield 59, 3) := by decide +kernel
theorem dX5_bringFrom_100 : decode cX5_bringFrom 100 = .ok (.bipush 32, 2) := by decide +kernel
theorem dX5_bringFrom_102 : decode cX5_bringFrom 102 = .ok (.iload 4, 2) := by decide +kernel
theorem dX5_bringFrom_104 : decode cX5_bringFrom 104 = .ok (.imul, 1) := by decide +kernel
theorem dX5_bringFrom_105 : decode cX5_bringFrom 105 = .ok (.iload 5, 2) := by decide +kernel
theorem dX5_bringFrom_107 : decode cX5_bringFrom 107 = .ok (.iadd, 1) := by decide +kernel
theorem dX5_bringFrom_108 : decode cX5_bringFrom 108 = .ok (.lload 8, 2) := by decide +kernel
theorem dX5_bringFrom_110 : decode cX5_bringFrom 110 = .ok (.lload 6, 2) := by decide +kernel
theorem dX5_bringFrom_112 : decode cX5_bringFrom 112 = .ok (.lcmp, 1) := by decide +kernel
theorem dX5_bringFrom_113 : decode cX5_bringFrom 113 = .ok (.ifCond .ge 8, 3) := by decide +kernel
theorem dX5_bringFrom_116 : decode cX5_bringFrom 116 = .ok (.lload 8, 2) := by decide +kernel
theorem dX5_bringFrom_118 : decode cX5_bringFrom 118 = .ok (.goto 5, 3) := by decide +kernel
theorem dX5_bringFrom_121 : decode cX5_bringFrom 121 = .ok (.lload 6, 2) := by decide +kernel
theorem dX5_bringFrom_123 : decode cX5_bringFrom 123 = .ok (.lastore, 1) := by decide +kernel
theorem dX5_bringFrom_124 : decode cX5_bringFrom 124 = .ok (.iinc 5 1, 3) := by decide +kernel
theorem dX5_bringFrom_127 : decode cX5_bringFrom 127 = .ok (.goto (-78), 3) := by decide +kernel
theorem dX5_bringFrom_130 : decode cX5_bringFrom 130 = .ok (.iinc 4 (-1), 3) := by decide +kernel
theorem dX5_bringFrom_133 : decode cX5_bringFrom 133 = .ok (.goto (-92), 3) := by decide +kernel
theorem dX5_bringFrom_136 : decode cX5_bringFrom 136 = .ok (.iconst 0, 1) := by decide +kernel
theorem dX5_bringFrom_137 : decode cX5_bringFrom 137 = .ok (.istore 4, 2) := by decide +kernel
theorem dX5_bringFrom_139 : decode cX5_bringFrom 139 = .ok (.iconst 0, 1) := by decide +kernel
theorem dX5_bringFrom_140 : decode cX5_bringFrom 140 = .ok (.istore 5, 2) := by decide +kernel
theorem dX5_bringFrom_142 : decode cX5_bringFrom 142 = .ok (.iconst 0, 1) := by decide +kernel
theorem dX5_bringFrom_143 : decode cX5_bringFrom 143 = .ok (.istore 6, 2) := by decide +kernel
theorem dX5_bringFrom_145 : decode cX5_bringFrom 145 = .ok (.iload 6, 2) := by decide +kernel
theorem dX5_bringFrom_147 : decode cX5_bringFrom 147 = .ok (.aload_n 0, 1) := by decide +kernel
theorem dX5_bringFrom_148 : decode cX5_bringFrom 148 = .ok (.getfield 83, 3) := by decide +kernel
theorem dX5_bringFrom_151 : decode cX5_bringFrom 151 = .ok (.if_icmp .ge 109, 3) := by decide +kernel
theorem dX5_bringFrom_154 : decode cX5_bringFrom 154 = .ok (.aload_n 0, 1) := by decide +kernel
theorem dX5_bringFrom_155 : decode cX5_bringFrom 155 = .ok (.getfield 44, 3) := by decide +kernel
theorem dX5_bringFrom_158 : decode cX5_bringFrom 158 = .ok (.iload 6, 2) := by decide +kernel
theorem dX5_bringFrom_160 : decode cX5_bringFrom 160 = .ok (.aload_n 0, 1) := by decide +kernel
theorem dX5_bringFrom_161 : decode cX5_bringFrom 161 = .ok (.aload_n 1, 1) := by decide +kernel
theorem dX5_bringFrom_162 : decode cX5_bringFrom 162 = .ok (.iload_n 2, 1) := by decide +kernel
theorem dX5_bringFrom_163 : decode cX5_bringFrom 163 = .ok (.iload 6, 2) := by decide +kernel
theorem dX5_bringFrom_165 : decode cX5_bringFrom 165 = .ok (.iload 4, 2) := by decide +kernel
theorem dX5_bringFrom_167 : decode cX5_bringFrom 167 = .ok (.iconst 0, 1) := by decide +kernel
theorem dX5_bringFrom_168 : decode cX5_bringFrom 168 = .ok (.invokevirtual 153, 3) := by decide +kernel
theorem dX5_bringFrom_171 : decode cX5_bringFrom 171 = .ok (.aload_n 0, 1) := by decide +kernel
theorem dX5_bringFrom_172 : decode cX5_bringFrom 172 = .ok (.getfield 59, 3) := by decide +kernel
theorem dX5_bringFrom_175 : decode cX5_bringFrom 175 = .ok (.bipush 32, 2) := by decide +kernel
theorem dX5_bringFrom_177 : decode cX5_bringFrom 177 = .ok (.iload 6, 2) := by decide +kernel
theorem dX5_bringFrom_179 : decode cX5_bringFrom 179 = .ok (.imul, 1) := by decide +kernel
theorem dX5_bringFrom_180 : decode cX5_bringFrom 180 = .ok (.iload 4, 2) := by decide +kernel
theorem dX5_bringFrom_182 : decode cX5_bringFrom 182 = .ok (.iadd, 1) := by decide +kernel
theorem dX5_bringFrom_183 : decode cX5_bringFrom 183 = .ok (.laload, 1) := by decide +kernel
theorem dX5_bringFrom_184 : decode cX5_bringFrom 184 = .ok (.lcmp, 1) := by decide +kernel
theorem dX5_bringFrom_185 : decode cX5_bringFrom 185 = .ok (.ifCond .ne 7, 3) := by decide +kernel
theorem dX5_bringFrom_188 : decode cX5_bringFrom 188 = .ok (.iconst 0, 1) := by decide +kernel
theorem dX5_bringFrom_189 : decode cX5_bringFrom 189 = .ok (.goto 4, 3) := by decide +kernel
theorem dX5_bringFrom_192 : decode cX5_bringFrom 192 = .ok (.iconst 1, 1) := by decide +kernel
theorem dX5_bringFrom_193 : decode cX5_bringFrom 193 = .ok (.iastore, 1) := by decide +kernel
theorem dX5_bringFrom_194 : decode cX5_bringFrom 194 = .ok (.iconst 2, 1) := by decide +kernel
theorem dX5_bringFrom_195 : decode cX5_bringFrom 195 = .ok (.iload 4, 2) := by decide +kernel
theorem dX5_bringFrom_197 : decode cX5_bringFrom 197 = .ok (.imul, 1) := by decide +kernel
theorem dX5_bringFrom_198 : decode cX5_bringFrom 198 = .ok (.aload_n 0, 1) := by decide +kernel
theorem dX5_bringFrom_199 : decode cX5_bringFrom 199 = .ok (.getfield 44, 3) := by decide +kernel
theorem dX5_bringFrom_202 : decode cX5_bringFrom 202 = .ok (.iload 6, 2) := by decide +kernel
theorem dX5_bringFrom_204 : decode cX5_bringFrom 204 = .ok (.iaload, 1) := by decide +kernel
theorem dX5_bringFrom_205 : decode cX5_bringFrom 205 = .ok (.iadd, 1) := by decide +kernel
theorem dX5_bringFrom_206 : decode cX5_bringFrom 206 = .ok (.bipush 32, 2) := by decide +kernel
theorem dX5_bringFrom_208 : decode cX5_bringFrom 208 = .ok (.irem, 1) := by decide +kernel
theorem dX5_bringFrom_209 : decode cX5_bringFrom 209 = .ok (.istore 4, 2) := by decide +kernel
theorem dX5_bringFrom_211 : decode cX5_bringFrom 211 = .ok (.aload_n 0, 1) := by decide +kernel
theorem dX5_bringFrom_212 : decode cX5_bringFrom 212 = .ok (.getfield 47, 3) := by decide +kernel
theorem dX5_bringFrom_215 : decode cX5_bringFrom 215 = .ok (.iload 6, 2) := by decide +kernel
theorem dX5_bringFrom_217 : decode cX5_bringFrom 217 = .ok (.aload_n 0, 1) := by decide +kernel
theorem dX5_bringFrom_218 : decode cX5_bringFrom 218 = .ok (.getfield 44, 3) := by decide +kernel
theorem dX5_bringFrom_221 : decode cX5_bringFrom 221 = .ok (.iload 6, 2) := by decide +kernel
theorem dX5_bringFrom_223 : decode cX5_bringFrom 223 = .ok (.iaload, 1) := by decide +kernel
theorem dX5_bringFrom_224 : decode cX5_bringFrom 224 = .ok (.iload 5, 2) := by decide +kernel
theorem dX5_bringFrom_226 : decode cX5_bringFrom 226 = .ok (.aload_n 0, 1) := by decide +kernel
theorem dX5_bringFrom_227 : decode cX5_bringFrom 227 = .ok (.getfield 90, 3) := by decide +kernel
theorem dX5_bringFrom_230 : decode cX5_bringFrom 230 = .ok (.iand, 1) := by decide +kernel
theorem dX5_bringFrom_231 : decode cX5_bringFrom 231 = .ok (.invokestatic 109, 3) := by decide +kernel
theorem dX5_bringFrom_234 : decode cX5_bringFrom 234 = .ok (.ixor, 1) := by decide +kernel
theorem dX5_bringFrom_235 : decode cX5_bringFrom 235 = .ok (.iastore, 1) := by decide +kernel
theorem dX5_bringFrom_236 : decode cX5_bringFrom 236 = .ok (.iconst 2, 1) := by decide +kernel
theorem dX5_bringFrom_237 : decode cX5_bringFrom 237 = .ok (.iload 5, 2) := by decide +kernel
theorem dX5_bringFrom_239 : decode cX5_bringFrom 239 = .ok (.imul, 1) := by decide +kernel
theorem dX5_bringFrom_240 : decode cX5_bringFrom 240 = .ok (.aload_n 0, 1) := by decide +kernel
theorem dX5_bringFrom_241 : decode cX5_bringFrom 241 = .ok (.getfield 44, 3) := by decide +kernel
theorem dX5_bringFrom_244 : decode cX5_bringFrom 244 = .ok (.iload 6, 2) := by decide +kernel
theorem dX5_bringFrom_246 : decode cX5_bringFrom 246 = .ok (.iaload, 1) := by decide +kernel
theorem dX5_bringFrom_247 : decode cX5_bringFrom 247 = .ok (.iadd, 1) := by decide +kernel
theorem dX5_bringFrom_248 : decode cX5_bringFrom 248 = .ok (.sipush 128, 3) := by decide +kernel
theorem dX5_bringFrom_251 : decode cX5_bringFrom 251 = .ok (.irem, 1) := by decide +kernel
theorem dX5_bringFrom_252 : decode cX5_bringFrom 252 = .ok (.istore 5, 2) := by decide +kernel
theorem dX5_bringFrom_254 : decode cX5_bringFrom 254 = .ok (.iinc 6 1, 3) := by decide +kernel
theorem dX5_bringFrom_257 : decode cX5_bringFrom 257 = .ok (.goto (-112), 3) := by decide +kernel
theorem dX5_bringFrom_260 : decode cX5_bringFrom 260 = .ok (.aload_n 0, 1) := by decide +kernel
theorem dX5_bringFrom_261 : decode cX5_bringFrom 261 = .ok (.getfield 59, 3) := by decide +kernel
theorem dX5_bringFrom_264 : decode cX5_bringFrom 264 = .ok (.iconst 0, 1) := by decide +kernel
theorem dX5_bringFrom_265 : decode cX5_bringFrom 265 = .ok (.laload, 1) := by decide +kernel
theorem dX5_bringFrom_266 : decode cX5_bringFrom 266 = .ok (.lreturn, 1) := by decide +kernel
theorem dX5_bring_0 : decode cX5_bring 0 = .ok (.iload_n 1, 1) := by decide +kernel
theorem dX5_bring_1 : decode cX5_bring 1 = .ok (.iload_n 2, 1) := by decide +kernel
theorem dX5_bring_2 : decode cX5_bring 2 = .ok (.iload_n 3, 1) := by decide +kernel
theorem dX5_bring_3 : decode cX5_bring 3 = .ok (.iload 4, 2) := by decide +kernel
theorem dX5_bring_5 : decode cX5_bring 5 = .ok (.invokestatic 93, 3) := by decide +kernel
theorem dX5_bring_8 : decode cX5_bring 8 = .ok (.ifCond .ne 7, 3) := by decide +kernel
theorem dX5_bring_11 : decode cX5_bring 11 = .ok (.ldc2_w 157, 3) := by decide +kernel
theorem dX5_bring_14 : decode cX5_bring 14 = .ok (.lreturn, 1) := by decide +kernel
theorem dX5_bring_15 : decode cX5_bring 15 = .ok (.aload_n 0, 1) := by decide +kernel
theorem dX5_bring_16 : decode cX5_bring 16 = .ok (.getfield 38, 3) := by decide +kernel
theorem dX5_bring_19 : decode cX5_bring 19 = .ok (.iconst (-1), 1) := by decide +kernel
theorem dX5_bring_20 : decode cX5_bring 20 = .ok (.if_icmp .eq 10, 3) := by decide +kernel
theorem dX5_bring_23 : decode cX5_bring 23 = .ok (.aload_n 0, 1) := by decide +kernel
theorem dX5_bring_24 : decode cX5_bring 24 = .ok (.getfield 83, 3) := by decide +kernel
theorem dX5_bring_27 : decode cX5_bring 27 = .ok (.ifCond .ne 7, 3) := by decide +kernel
theorem dX5_bring_30 : decode cX5_bring 30 = .ok (.ldc2_w 159, 3) := by decide +kernel
theorem dX5_bring_33 : decode cX5_bring 33 = .ok (.lreturn, 1) := by decide +kernel
theorem dX5_bring_34 : decode cX5_bring 34 = .ok (.aload_n 0, 1) := by decide +kernel
theorem dX5_bring_35 : decode cX5_bring 35 = .ok (.getfield 63, 3) := by decide +kernel
theorem dX5_bring_38 : decode cX5_bring 38 = .ok (.iconst 0, 1) := by decide +kernel
theorem dX5_bring_39 : decode cX5_bring 39 = .ok (.iload_n 1, 1) := by decide +kernel
theorem dX5_bring_40 : decode cX5_bring 40 = .ok (.iastore, 1) := by decide +kernel
theorem dX5_bring_41 : decode cX5_bring 41 = .ok (.aload_n 0, 1) := by decide +kernel
theorem dX5_bring_42 : decode cX5_bring 42 = .ok (.getfield 63, 3) := by decide +kernel
theorem dX5_bring_45 : decode cX5_bring 45 = .ok (.iconst 1, 1) := by decide +kernel
theorem dX5_bring_46 : decode cX5_bring 46 = .ok (.iload_n 2, 1) := by decide +kernel
theorem dX5_bring_47 : decode cX5_bring 47 = .ok (.iastore, 1) := by decide +kernel
theorem dX5_bring_48 : decode cX5_bring 48 = .ok (.aload_n 0, 1) := by decide +kernel
theorem dX5_bring_49 : decode cX5_bring 49 = .ok (.getfield 63, 3) := by decide +kernel
theorem dX5_bring_52 : decode cX5_bring 52 = .ok (.iconst 2, 1) := by decide +kernel
theorem dX5_bring_53 : decode cX5_bring 53 = .ok (.iload_n 3, 1) := by decide +kernel
theorem dX5_bring_54 : decode cX5_bring 54 = .ok (.iastore, 1) := by decide +kernel
theorem dX5_bring_55 : decode cX5_bring 55 = .ok (.aload_n 0, 1) := by decide +kernel
theorem dX5_bring_56 : decode cX5_bring 56 = .ok (.getfield 63, 3) := by decide +kernel
theorem dX5_bring_59 : decode cX5_bring 59 = .ok (.iconst 3, 1) := by decide +kernel
theorem dX5_bring_60 : decode cX5_bring 60 = .ok (.iload 4, 2) := by decide +kernel
theorem dX5_bring_62 : decode cX5_bring 62 = .ok (.iastore, 1) := by decide +kernel
theorem dX5_bring_63 : decode cX5_bring 63 = .ok (.aload_n 0, 1) := by decide +kernel
theorem dX5_bring_64 : decode cX5_bring 64 = .ok (.iconst 1, 1) := by decide +kernel
theorem dX5_bring_65 : decode cX5_bring 65 = .ok (.putfield 76, 3) := by decide +kernel
theorem dX5_bring_68 : decode cX5_bring 68 = .ok (.aload_n 0, 1) := by decide +kernel
theorem dX5_bring_69 : decode cX5_bring 69 = .ok (.aload_n 0, 1) := by decide +kernel
theorem dX5_bring_70 : decode cX5_bring 70 = .ok (.getfield 41, 3) := by decide +kernel
theorem dX5_bring_73 : decode cX5_bring 73 = .ok (.aload_n 0, 1) := by decide +kernel
theorem dX5_bring_74 : decode cX5_bring 74 = .ok (.getfield 38, 3) := by decide +kernel
theorem dX5_bring_77 : decode cX5_bring 77 = .ok (.invokevirtual 161, 3) := by decide +kernel
theorem dX5_bring_80 : decode cX5_bring 80 = .ok (.lreturn, 1) := by decide +kernel
theorem dX5_brought_0 : decode cX5_brought 0 = .ok (.iload_n 1, 1) := by decide +kernel
theorem dX5_brought_1 : decode cX5_brought 1 = .ok (.iconst 0, 1) := by decide +kernel
theorem dX5_brought_2 : decode cX5_brought 2 = .ok (.iconst 1, 1) := by decide +kernel
theorem dX5_brought_3 : decode cX5_brought 3 = .ok (.invokestatic 79, 3) := by decide +kernel
theorem dX5_brought_6 : decode cX5_brought 6 = .ok (.ifCond .eq 17, 3) := by decide +kernel
theorem dX5_brought_9 : decode cX5_brought 9 = .ok (.iload_n 2, 1) := by decide +kernel
theorem dX5_brought_10 : decode cX5_brought 10 = .ok (.iconst 0, 1) := by decide +kernel
theorem dX5_brought_11 : decode cX5_brought 11 = .ok (.aload_n 0, 1) := by decide +kernel
theorem dX5_brought_12 : decode cX5_brought 12 = .ok (.getfield 83, 3) := by decide +kernel
theorem dX5_brought_15 : decode cX5_brought 15 = .ok (.iconst 1, 1) := by decide +kernel
theorem dX5_brought_16 : decode cX5_brought 16 = .ok (.isub, 1) := by decide +kernel
theorem dX5_brought_17 : decode cX5_brought 17 = .ok (.invokestatic 79, 3) := by decide +kernel
theorem dX5_brought_20 : decode cX5_brought 20 = .ok (.ifCond .ne 6, 3) := by decide +kernel
theorem dX5_brought_23 : decode cX5_brought 23 = .ok (.bipush (-2), 2) := by decide +kernel
theorem dX5_brought_25 : decode cX5_brought 25 = .ok (.ireturn, 1) := by decide +kernel
theorem dX5_brought_26 : decode cX5_brought 26 = .ok (.aload_n 0, 1) := by decide +kernel
theorem dX5_brought_27 : decode cX5_brought 27 = .ok (.getfield 76, 3) := by decide +kernel
theorem dX5_brought_30 : decode cX5_brought 30 = .ok (.ifCond .ne 8, 3) := by decide +kernel
theorem dX5_brought_33 : decode cX5_brought 33 = .ok (.bipush (-3), 2) := by decide +kernel
theorem dX5_brought_35 : decode cX5_brought 35 = .ok (.goto 23, 3) := by decide +kernel
theorem dX5_brought_38 : decode cX5_brought 38 = .ok (.iload_n 1, 1) := by decide +kernel
theorem dX5_brought_39 : decode cX5_brought 39 = .ok (.iconst 1, 1) := by decide +kernel
theorem dX5_brought_40 : decode cX5_brought 40 = .ok (.if_icmp .ne 12, 3) := by decide +kernel
theorem dX5_brought_43 : decode cX5_brought 43 = .ok (.aload_n 0, 1) := by decide +kernel
theorem dX5_brought_44 : decode cX5_brought 44 = .ok (.getfield 44, 3) := by decide +kernel
theorem dX5_brought_47 : decode cX5_brought 47 = .ok (.iload_n 2, 1) := by decide +kernel
theorem dX5_brought_48 : decode cX5_brought 48 = .ok (.iaload, 1) := by decide +kernel
theorem dX5_brought_49 : decode cX5_brought 49 = .ok (.goto 9, 3) := by decide +kernel
theorem dX5_brought_52 : decode cX5_brought 52 = .ok (.aload_n 0, 1) := by decide +kernel
theorem dX5_brought_53 : decode cX5_brought 53 = .ok (.getfield 47, 3) := by decide +kernel
theorem dX5_brought_56 : decode cX5_brought 56 = .ok (.iload_n 2, 1) := by decide +kernel
theorem dX5_brought_57 : decode cX5_brought 57 = .ok (.iaload, 1) := by decide +kernel
theorem dX5_brought_58 : decode cX5_brought 58 = .ok (.ireturn, 1) := by decide +kernel
theorem dX5_errorMany_0 : decode cX5_errorMany 0 = .ok (.iconst 0, 1) := by decide +kernel
theorem dX5_errorMany_1 : decode cX5_errorMany 1 = .ok (.istore_n 1, 1) := by decide +kernel
theorem dX5_errorMany_2 : decode cX5_errorMany 2 = .ok (.iconst 0, 1) := by decide +kernel
theorem dX5_errorMany_3 : decode cX5_errorMany 3 = .ok (.istore_n 2, 1) := by decide +kernel
theorem dX5_errorMany_4 : decode cX5_errorMany 4 = .ok (.iload_n 2, 1) := by decide +kernel
theorem dX5_errorMany_5 : decode cX5_errorMany 5 = .ok (.aload_n 0, 1) := by decide +kernel
theorem dX5_errorMany_6 : decode cX5_errorMany 6 = .ok (.getfield 83, 3) := by decide +kernel
theorem dX5_errorMany_9 : decode cX5_errorMany 9 = .ok (.if_icmp .ge 32, 3) := by decide +kernel
theorem dX5_errorMany_12 : decode cX5_errorMany 12 = .ok (.iload_n 1, 1) := by decide +kernel
theorem dX5_errorMany_13 : decode cX5_errorMany 13 = .ok (.aload_n 0, 1) := by decide +kernel
theorem dX5_errorMany_14 : decode cX5_errorMany 14 = .ok (.getfield 47, 3) := by decide +kernel
theorem dX5_errorMany_17 : decode cX5_errorMany 17 = .ok (.iload_n 2, 1) := by decide +kernel
theorem dX5_errorMany_18 : decode cX5_errorMany 18 = .ok (.iaload, 1) := by decide +kernel
theorem dX5_errorMany_19 : decode cX5_errorMany 19 = .ok (.aload_n 0, 1) := by decide +kernel
theorem dX5_errorMany_20 : decode cX5_errorMany 20 = .ok (.getfield 7, 3) := by decide +kernel
theorem dX5_errorMany_23 : decode cX5_errorMany 23 = .ok (.iload_n 2, 1) := by decide +kernel
theorem dX5_errorMany_24 : decode cX5_errorMany 24 = .ok (.iaload, 1) := by decide +kernel
theorem dX5_errorMany_25 : decode cX5_errorMany 25 = .ok (.if_icmp .eq 7, 3) := by decide +kernel
theorem dX5_errorMany_28 : decode cX5_errorMany 28 = .ok (.iconst 1, 1) := by decide +kernel
theorem dX5_errorMany_29 : decode cX5_errorMany 29 = .ok (.goto 4, 3) := by decide +kernel
theorem dX5_errorMany_32 : decode cX5_errorMany 32 = .ok (.iconst 0, 1) := by decide +kernel
theorem dX5_errorMany_33 : decode cX5_errorMany 33 = .ok (.iadd, 1) := by decide +kernel
theorem dX5_errorMany_34 : decode cX5_errorMany 34 = .ok (.istore_n 1, 1) := by decide +kernel
theorem dX5_errorMany_35 : decode cX5_errorMany 35 = .ok (.iinc 2 1, 3) := by decide +kernel
theorem dX5_errorMany_38 : decode cX5_errorMany 38 = .ok (.goto (-34), 3) := by decide +kernel
theorem dX5_errorMany_41 : decode cX5_errorMany 41 = .ok (.iload_n 1, 1) := by decide +kernel
theorem dX5_errorMany_42 : decode cX5_errorMany 42 = .ok (.ireturn, 1) := by decide +kernel
theorem dX5_errors_0 : decode cX5_errors 0 = .ok (.aload_n 0, 1) := by decide +kernel
theorem dX5_errors_1 : decode cX5_errors 1 = .ok (.getfield 76, 3) := by decide +kernel
theorem dX5_errors_4 : decode cX5_errors 4 = .ok (.ifCond .eq 10, 3) := by decide +kernel
theorem dX5_errors_7 : decode cX5_errors 7 = .ok (.aload_n 0, 1) := by decide +kernel
theorem dX5_errors_8 : decode cX5_errors 8 = .ok (.invokevirtual 165, 3) := by decide +kernel
theorem dX5_errors_11 : decode cX5_errors 11 = .ok (.goto 5, 3) := by decide +kernel
theorem dX5_errors_14 : decode cX5_errors 14 = .ok (.bipush (-3), 2) := by decide +kernel
theorem dX5_errors_16 : decode cX5_errors 16 = .ok (.ireturn, 1) := by decide +kernel
theorem dX5_keep_0 : decode cX5_keep 0 = .ok (.iconst 0, 1) := by decide +kernel
theorem dX5_keep_1 : decode cX5_keep 1 = .ok (.istore_n 2, 1) := by decide +kernel
theorem dX5_keep_2 : decode cX5_keep 2 = .ok (.iload_n 2, 1) := by decide +kernel
theorem dX5_keep_3 : decode cX5_keep 3 = .ok (.bipush 40, 2) := by decide +kernel
theorem dX5_keep_5 : decode cX5_keep 5 = .ok (.if_icmp .ge 64, 3) := by decide +kernel
theorem dX5_keep_8 : decode cX5_keep 8 = .ok (.iload_n 1, 1) := by decide +kernel
theorem dX5_keep_9 : decode cX5_keep 9 = .ok (.ifCond .eq 30, 3) := by decide +kernel
theorem dX5_keep_12 : decode cX5_keep 12 = .ok (.aload_n 0, 1) := by decide +kernel
theorem dX5_keep_13 : decode cX5_keep 13 = .ok (.getfield 44, 3) := by decide +kernel
theorem dX5_keep_16 : decode cX5_keep 16 = .ok (.iload_n 2, 1) := by decide +kernel
theorem dX5_keep_17 : decode cX5_keep 17 = .ok (.aload_n 0, 1) := by decide +kernel
theorem dX5_keep_18 : decode cX5_keep 18 = .ok (.getfield 66, 3) := by decide +kernel
theorem dX5_keep_21 : decode cX5_keep 21 = .ok (.iload_n 2, 1) := by decide +kernel
theorem dX5_keep_22 : decode cX5_keep 22 = .ok (.iaload, 1) := by decide +kernel
theorem dX5_keep_23 : decode cX5_keep 23 = .ok (.iastore, 1) := by decide +kernel
theorem dX5_keep_24 : decode cX5_keep 24 = .ok (.aload_n 0, 1) := by decide +kernel
theorem dX5_keep_25 : decode cX5_keep 25 = .ok (.getfield 47, 3) := by decide +kernel
theorem dX5_keep_28 : decode cX5_keep 28 = .ok (.iload_n 2, 1) := by decide +kernel
theorem dX5_keep_29 : decode cX5_keep 29 = .ok (.aload_n 0, 1) := by decide +kernel
theorem dX5_keep_30 : decode cX5_keep 30 = .ok (.getfield 69, 3) := by decide +kernel
theorem dX5_keep_33 : decode cX5_keep 33 = .ok (.iload_n 2, 1) := by decide +kernel
theorem dX5_keep_34 : decode cX5_keep 34 = .ok (.iaload, 1) := by decide +kernel
theorem dX5_keep_35 : decode cX5_keep 35 = .ok (.iastore, 1) := by decide +kernel
theorem dX5_keep_36 : decode cX5_keep 36 = .ok (.goto 27, 3) := by decide +kernel
theorem dX5_keep_39 : decode cX5_keep 39 = .ok (.aload_n 0, 1) := by decide +kernel
theorem dX5_keep_40 : decode cX5_keep 40 = .ok (.getfield 66, 3) := by decide +kernel
theorem dX5_keep_43 : decode cX5_keep 43 = .ok (.iload_n 2, 1) := by decide +kernel
theorem dX5_keep_44 : decode cX5_keep 44 = .ok (.aload_n 0, 1) := by decide +kernel
theorem dX5_keep_45 : decode cX5_keep 45 = .ok (.getfield 44, 3) := by decide +kernel
theorem dX5_keep_48 : decode cX5_keep 48 = .ok (.iload_n 2, 1) := by decide +kernel
theorem dX5_keep_49 : decode cX5_keep 49 = .ok (.iaload, 1) := by decide +kernel
theorem dX5_keep_50 : decode cX5_keep 50 = .ok (.iastore, 1) := by decide +kernel
theorem dX5_keep_51 : decode cX5_keep 51 = .ok (.aload_n 0, 1) := by decide +kernel
theorem dX5_keep_52 : decode cX5_keep 52 = .ok (.getfield 69, 3) := by decide +kernel
theorem dX5_keep_55 : decode cX5_keep 55 = .ok (.iload_n 2, 1) := by decide +kernel
theorem dX5_keep_56 : decode cX5_keep 56 = .ok (.aload_n 0, 1) := by decide +kernel
theorem dX5_keep_57 : decode cX5_keep 57 = .ok (.getfield 47, 3) := by decide +kernel
theorem dX5_keep_60 : decode cX5_keep 60 = .ok (.iload_n 2, 1) := by decide +kernel
theorem dX5_keep_61 : decode cX5_keep 61 = .ok (.iaload, 1) := by decide +kernel
theorem dX5_keep_62 : decode cX5_keep 62 = .ok (.iastore, 1) := by decide +kernel
theorem dX5_keep_63 : decode cX5_keep 63 = .ok (.iinc 2 1, 3) := by decide +kernel
theorem dX5_keep_66 : decode cX5_keep 66 = .ok (.goto (-64), 3) := by decide +kernel
theorem dX5_keep_69 : decode cX5_keep 69 = .ok (.return_, 1) := by decide +kernel
theorem dX5_errorsOf_0 : decode cX5_errorsOf 0 = .ok (.aload_n 0, 1) := by decide +kernel
theorem dX5_errorsOf_1 : decode cX5_errorsOf 1 = .ok (.iload_n 1, 1) := by decide +kernel
theorem dX5_errorsOf_2 : decode cX5_errorsOf 2 = .ok (.invokevirtual 132, 3) := by decide +kernel
theorem dX5_errorsOf_5 : decode cX5_errorsOf 5 = .ok (.aload_n 0, 1) := by decide +kernel
theorem dX5_errorsOf_6 : decode cX5_errorsOf 6 = .ok (.aload_n 0, 1) := by decide +kernel
theorem dX5_errorsOf_7 : decode cX5_errorsOf 7 = .ok (.getfield 56, 3) := by decide +kernel
theorem dX5_errorsOf_10 : decode cX5_errorsOf 10 = .ok (.invokevirtual 141, 3) := by decide +kernel
theorem dX5_errorsOf_13 : decode cX5_errorsOf 13 = .ok (.istore_n 2, 1) := by decide +kernel
theorem dX5_errorsOf_14 : decode cX5_errorsOf 14 = .ok (.iload_n 2, 1) := by decide +kernel
theorem dX5_errorsOf_15 : decode cX5_errorsOf 15 = .ok (.iconst (-1), 1) := by decide +kernel
theorem dX5_errorsOf_16 : decode cX5_errorsOf 16 = .ok (.if_icmp .eq 10, 3) := by decide +kernel
theorem dX5_errorsOf_19 : decode cX5_errorsOf 19 = .ok (.aload_n 0, 1) := by decide +kernel
theorem dX5_errorsOf_20 : decode cX5_errorsOf 20 = .ok (.getfield 83, 3) := by decide +kernel
theorem dX5_errorsOf_23 : decode cX5_errorsOf 23 = .ok (.ifCond .ne 8, 3) := by decide +kernel
theorem dX5_errorsOf_26 : decode cX5_errorsOf 26 = .ok (.aload_n 0, 1) := by decide +kernel
theorem dX5_errorsOf_27 : decode cX5_errorsOf 27 = .ok (.getfield 83, 3) := by decide +kernel
theorem dX5_errorsOf_30 : decode cX5_errorsOf 30 = .ok (.ireturn, 1) := by decide +kernel
theorem dX5_errorsOf_31 : decode cX5_errorsOf 31 = .ok (.iconst 0, 1) := by decide +kernel
theorem dX5_errorsOf_32 : decode cX5_errorsOf 32 = .ok (.istore_n 3, 1) := by decide +kernel
theorem dX5_errorsOf_33 : decode cX5_errorsOf 33 = .ok (.iload_n 3, 1) := by decide +kernel
theorem dX5_errorsOf_34 : decode cX5_errorsOf 34 = .ok (.iconst 4, 1) := by decide +kernel
theorem dX5_errorsOf_35 : decode cX5_errorsOf 35 = .ok (.if_icmp .ge 21, 3) := by decide +kernel
theorem dX5_errorsOf_38 : decode cX5_errorsOf 38 = .ok (.aload_n 0, 1) := by decide +kernel
theorem dX5_errorsOf_39 : decode cX5_errorsOf 39 = .ok (.getfield 63, 3) := by decide +kernel
theorem dX5_errorsOf_42 : decode cX5_errorsOf 42 = .ok (.iload_n 3, 1) := by decide +kernel
theorem dX5_errorsOf_43 : decode cX5_errorsOf 43 = .ok (.aload_n 0, 1) := by decide +kernel
theorem dX5_errorsOf_44 : decode cX5_errorsOf 44 = .ok (.getfield 29, 3) := by decide +kernel
theorem dX5_errorsOf_47 : decode cX5_errorsOf 47 = .ok (.iload_n 3, 1) := by decide +kernel
theorem dX5_errorsOf_48 : decode cX5_errorsOf 48 = .ok (.iaload, 1) := by decide +kernel
theorem dX5_errorsOf_49 : decode cX5_errorsOf 49 = .ok (.iastore, 1) := by decide +kernel
theorem dX5_errorsOf_50 : decode cX5_errorsOf 50 = .ok (.iinc 3 1, 3) := by decide +kernel
theorem dX5_errorsOf_53 : decode cX5_errorsOf 53 = .ok (.goto (-20), 3) := by decide +kernel
theorem dX5_errorsOf_56 : decode cX5_errorsOf 56 = .ok (.aload_n 0, 1) := by decide +kernel
theorem dX5_errorsOf_57 : decode cX5_errorsOf 57 = .ok (.aload_n 0, 1) := by decide +kernel
theorem dX5_errorsOf_58 : decode cX5_errorsOf 58 = .ok (.getfield 56, 3) := by decide +kernel
theorem dX5_errorsOf_61 : decode cX5_errorsOf 61 = .ok (.iload_n 2, 1) := by decide +kernel
theorem dX5_errorsOf_62 : decode cX5_errorsOf 62 = .ok (.invokevirtual 161, 3) := by decide +kernel
theorem dX5_errorsOf_65 : decode cX5_errorsOf 65 = .ok (.lstore_n 3, 1) := by decide +kernel
theorem dX5_errorsOf_66 : decode cX5_errorsOf 66 = .ok (.lload_n 3, 1) := by decide +kernel
theorem dX5_errorsOf_67 : decode cX5_errorsOf 67 = .ok (.lconst 0, 1) := by decide +kernel
theorem dX5_errorsOf_68 : decode cX5_errorsOf 68 = .ok (.lcmp, 1) := by decide +kernel
theorem dX5_errorsOf_69 : decode cX5_errorsOf 69 = .ok (.ifCond .ge 10, 3) := by decide +kernel
theorem dX5_errorsOf_72 : decode cX5_errorsOf 72 = .ok (.aload_n 0, 1) := by decide +kernel
theorem dX5_errorsOf_73 : decode cX5_errorsOf 73 = .ok (.getfield 83, 3) := by decide +kernel
theorem dX5_errorsOf_76 : decode cX5_errorsOf 76 = .ok (.goto 7, 3) := by decide +kernel
theorem dX5_errorsOf_79 : decode cX5_errorsOf 79 = .ok (.aload_n 0, 1) := by decide +kernel
theorem dX5_errorsOf_80 : decode cX5_errorsOf 80 = .ok (.invokevirtual 165, 3) := by decide +kernel
theorem dX5_errorsOf_83 : decode cX5_errorsOf 83 = .ok (.ireturn, 1) := by decide +kernel
theorem dX5_sweep_0 : decode cX5_sweep 0 = .ok (.iload_n 1, 1) := by decide +kernel
theorem dX5_sweep_1 : decode cX5_sweep 1 = .ok (.iconst 1, 1) := by decide +kernel
theorem dX5_sweep_2 : decode cX5_sweep 2 = .ok (.bipush 20, 2) := by decide +kernel
theorem dX5_sweep_4 : decode cX5_sweep 4 = .ok (.invokestatic 79, 3) := by decide +kernel
theorem dX5_sweep_7 : decode cX5_sweep 7 = .ok (.ifCond .ne 6, 3) := by decide +kernel
theorem dX5_sweep_10 : decode cX5_sweep 10 = .ok (.bipush (-2), 2) := by decide +kernel
theorem dX5_sweep_12 : decode cX5_sweep 12 = .ok (.ireturn, 1) := by decide +kernel
theorem dX5_sweep_13 : decode cX5_sweep 13 = .ok (.aload_n 0, 1) := by decide +kernel
theorem dX5_sweep_14 : decode cX5_sweep 14 = .ok (.iconst 0, 1) := by decide +kernel
theorem dX5_sweep_15 : decode cX5_sweep 15 = .ok (.invokevirtual 168, 3) := by decide +kernel
theorem dX5_sweep_18 : decode cX5_sweep 18 = .ok (.iconst 0, 1) := by decide +kernel
theorem dX5_sweep_19 : decode cX5_sweep 19 = .ok (.istore_n 2, 1) := by decide +kernel
theorem dX5_sweep_20 : decode cX5_sweep 20 = .ok (.iconst 0, 1) := by decide +kernel
theorem dX5_sweep_21 : decode cX5_sweep 21 = .ok (.istore_n 3, 1) := by decide +kernel
theorem dX5_sweep_22 : decode cX5_sweep 22 = .ok (.iload_n 3, 1) := by decide +kernel
theorem dX5_sweep_23 : decode cX5_sweep 23 = .ok (.iload_n 1, 1) := by decide +kernel
theorem dX5_sweep_24 : decode cX5_sweep 24 = .ok (.if_icmp .ge 22, 3) := by decide +kernel
theorem dX5_sweep_27 : decode cX5_sweep 27 = .ok (.iload_n 2, 1) := by decide +kernel
theorem dX5_sweep_28 : decode cX5_sweep 28 = .ok (.aload_n 0, 1) := by decide +kernel
theorem dX5_sweep_29 : decode cX5_sweep 29 = .ok (.aload_n 0, 1) := by decide +kernel
theorem dX5_sweep_30 : decode cX5_sweep 30 = .ok (.getfield 32, 3) := by decide +kernel
theorem dX5_sweep_33 : decode cX5_sweep 33 = .ok (.iload_n 3, 1) := by decide +kernel
theorem dX5_sweep_34 : decode cX5_sweep 34 = .ok (.iadd, 1) := by decide +kernel
theorem dX5_sweep_35 : decode cX5_sweep 35 = .ok (.invokevirtual 172, 3) := by decide +kernel
theorem dX5_sweep_38 : decode cX5_sweep 38 = .ok (.iadd, 1) := by decide +kernel
theorem dX5_sweep_39 : decode cX5_sweep 39 = .ok (.istore_n 2, 1) := by decide +kernel
theorem dX5_sweep_40 : decode cX5_sweep 40 = .ok (.iinc 3 1, 3) := by decide +kernel
theorem dX5_sweep_43 : decode cX5_sweep 43 = .ok (.goto (-21), 3) := by decide +kernel
theorem dX5_sweep_46 : decode cX5_sweep 46 = .ok (.aload_n 0, 1) := by decide +kernel
theorem dX5_sweep_47 : decode cX5_sweep 47 = .ok (.iconst 1, 1) := by decide +kernel
theorem dX5_sweep_48 : decode cX5_sweep 48 = .ok (.invokevirtual 168, 3) := by decide +kernel
theorem dX5_sweep_51 : decode cX5_sweep 51 = .ok (.iload_n 2, 1) := by decide +kernel
theorem dX5_sweep_52 : decode cX5_sweep 52 = .ok (.ireturn, 1) := by decide +kernel
theorem dX5_whole_0 : decode cX5_whole 0 = .ok (.iload_n 1, 1) := by decide +kernel
theorem dX5_whole_1 : decode cX5_whole 1 = .ok (.iconst 1, 1) := by decide +kernel
theorem dX5_whole_2 : decode cX5_whole 2 = .ok (.bipush 20, 2) := by decide +kernel
theorem dX5_whole_4 : decode cX5_whole 4 = .ok (.invokestatic 79, 3) := by decide +kernel
theorem dX5_whole_7 : decode cX5_whole 7 = .ok (.ifCond .ne 6, 3) := by decide +kernel
theorem dX5_whole_10 : decode cX5_whole 10 = .ok (.bipush (-2), 2) := by decide +kernel
theorem dX5_whole_12 : decode cX5_whole 12 = .ok (.ireturn, 1) := by decide +kernel
theorem dX5_whole_13 : decode cX5_whole 13 = .ok (.aload_n 0, 1) := by decide +kernel
theorem dX5_whole_14 : decode cX5_whole 14 = .ok (.iconst 0, 1) := by decide +kernel
theorem dX5_whole_15 : decode cX5_whole 15 = .ok (.invokevirtual 168, 3) := by decide +kernel
theorem dX5_whole_18 : decode cX5_whole 18 = .ok (.iconst (-1), 1) := by decide +kernel
theorem dX5_whole_19 : decode cX5_whole 19 = .ok (.istore_n 2, 1) := by decide +kernel
theorem dX5_whole_20 : decode cX5_whole 20 = .ok (.iconst 0, 1) := by decide +kernel
theorem dX5_whole_21 : decode cX5_whole 21 = .ok (.istore_n 3, 1) := by decide +kernel
theorem dX5_whole_22 : decode cX5_whole 22 = .ok (.iload_n 3, 1) := by decide +kernel
theorem dX5_whole_23 : decode cX5_whole 23 = .ok (.iload_n 1, 1) := by decide +kernel
theorem dX5_whole_24 : decode cX5_whole 24 = .ok (.if_icmp .ge 35, 3) := by decide +kernel
theorem dX5_whole_27 : decode cX5_whole 27 = .ok (.iload_n 2, 1) := by decide +kernel
theorem dX5_whole_28 : decode cX5_whole 28 = .ok (.iconst (-1), 1) := by decide +kernel
theorem dX5_whole_29 : decode cX5_whole 29 = .ok (.if_icmp .ne 30, 3) := by decide +kernel
theorem dX5_whole_32 : decode cX5_whole 32 = .ok (.aload_n 0, 1) := by decide +kernel
theorem dX5_whole_33 : decode cX5_whole 33 = .ok (.aload_n 0, 1) := by decide +kernel
theorem dX5_whole_34 : decode cX5_whole 34 = .ok (.getfield 32, 3) := by decide +kernel
theorem dX5_whole_37 : decode cX5_whole 37 = .ok (.iload_n 3, 1) := by decide +kernel
theorem dX5_whole_38 : decode cX5_whole 38 = .ok (.iadd, 1) := by decide +kernel
theorem dX5_whole_39 : decode cX5_whole 39 = .ok (.invokevirtual 172, 3) := by decide +kernel
theorem dX5_whole_42 : decode cX5_whole 42 = .ok (.ifCond .ne 9, 3) := by decide +kernel
theorem dX5_whole_45 : decode cX5_whole 45 = .ok (.iload_n 3, 1) := by decide +kernel
theorem dX5_whole_46 : decode cX5_whole 46 = .ok (.iconst 1, 1) := by decide +kernel
theorem dX5_whole_47 : decode cX5_whole 47 = .ok (.iadd, 1) := by decide +kernel
theorem dX5_whole_48 : decode cX5_whole 48 = .ok (.goto 4, 3) := by decide +kernel
theorem dX5_whole_51 : decode cX5_whole 51 = .ok (.iconst (-1), 1) := by decide +kernel
theorem dX5_whole_52 : decode cX5_whole 52 = .ok (.istore_n 2, 1) := by decide +kernel
theorem dX5_whole_53 : decode cX5_whole 53 = .ok (.iinc 3 1, 3) := by decide +kernel
theorem dX5_whole_56 : decode cX5_whole 56 = .ok (.goto (-34), 3) := by decide +kernel
theorem dX5_whole_59 : decode cX5_whole 59 = .ok (.aload_n 0, 1) := by decide +kernel
theorem dX5_whole_60 : decode cX5_whole 60 = .ok (.iconst 1, 1) := by decide +kernel
theorem dX5_whole_61 : decode cX5_whole 61 = .ok (.invokevirtual 168, 3) := by decide +kernel
theorem dX5_whole_64 : decode cX5_whole 64 = .ok (.iload_n 2, 1) := by decide +kernel
theorem dX5_whole_65 : decode cX5_whole 65 = .ok (.ireturn, 1) := by decide +kernel
theorem dX5_count_0 : decode cX5_count 0 = .ok (.iload_n 1, 1) := by decide +kernel
theorem dX5_count_1 : decode cX5_count 1 = .ok (.tableswitch 79 0 4 #[35, 40, 45, 61, 66], 35) := by decide +kernel
theorem dX5_count_36 : decode cX5_count 36 = .ok (.aload_n 0, 1) := by decide +kernel
theorem dX5_count_37 : decode cX5_count 37 = .ok (.getfield 83, 3) := by decide +kernel
theorem dX5_count_40 : decode cX5_count 40 = .ok (.ireturn, 1) := by decide +kernel
theorem dX5_count_41 : decode cX5_count 41 = .ok (.aload_n 0, 1) := by decide +kernel
theorem dX5_count_42 : decode cX5_count 42 = .ok (.invokevirtual 119, 3) := by decide +kernel
theorem dX5_count_45 : decode cX5_count 45 = .ok (.ireturn, 1) := by decide +kernel
theorem dX5_count_46 : decode cX5_count 46 = .ok (.aload_n 0, 1) := by decide +kernel
theorem dX5_count_47 : decode cX5_count 47 = .ok (.getfield 72, 3) := by decide +kernel
theorem dX5_count_50 : decode cX5_count 50 = .ok (.ifCond .eq 10, 3) := by decide +kernel
theorem dX5_count_53 : decode cX5_count 53 = .ok (.aload_n 0, 1) := by decide +kernel
theorem dX5_count_54 : decode cX5_count 54 = .ok (.invokevirtual 126, 3) := by decide +kernel
theorem dX5_count_57 : decode cX5_count 57 = .ok (.goto 4, 3) := by decide +kernel
theorem dX5_count_60 : decode cX5_count 60 = .ok (.iconst (-1), 1) := by decide +kernel
theorem dX5_count_61 : decode cX5_count 61 = .ok (.ireturn, 1) := by decide +kernel
theorem dX5_count_62 : decode cX5_count 62 = .ok (.aload_n 0, 1) := by decide +kernel
theorem dX5_count_63 : decode cX5_count 63 = .ok (.getfield 38, 3) := by decide +kernel
theorem dX5_count_66 : decode cX5_count 66 = .ok (.ireturn, 1) := by decide +kernel
theorem dX5_count_67 : decode cX5_count 67 = .ok (.aload_n 0, 1) := by decide +kernel
theorem dX5_count_68 : decode cX5_count 68 = .ok (.getfield 76, 3) := by decide +kernel
theorem dX5_count_71 : decode cX5_count 71 = .ok (.ifCond .eq 7, 3) := by decide +kernel
theorem dX5_count_74 : decode cX5_count 74 = .ok (.iconst 1, 1) := by decide +kernel
theorem dX5_count_75 : decode cX5_count 75 = .ok (.goto 4, 3) := by decide +kernel
theorem dX5_count_78 : decode cX5_count 78 = .ok (.iconst 0, 1) := by decide +kernel
theorem dX5_count_79 : decode cX5_count 79 = .ok (.ireturn, 1) := by decide +kernel
theorem dX5_count_80 : decode cX5_count 80 = .ok (.bipush (-2), 2) := by decide +kernel
theorem dX5_count_82 : decode cX5_count 82 = .ok (.ireturn, 1) := by decide +kernel
