def dT_X4_init_0 : List (Nat × Instr × Nat) := [(0, .aload_n 0, 1), (1, .invokespecial 3, 3), (4, .aload_n 0, 1), (5, .new 9, 3), (8, .dup, 1), (9, .invokespecial 11, 3), (12, .putfield 12, 3), (15, .aload_n 0, 1), (16, .new 16, 3), (19, .dup, 1), (20, .invokespecial 18, 3), (23, .putfield 19, 3), (26, .aload_n 0, 1), (27, .new 23, 3), (30, .dup, 1), (31, .invokespecial 25, 3), (34, .putfield 26, 3), (37, .aload_n 0, 1), (38, .new 23, 3), (41, .dup, 1), (42, .invokespecial 25, 3), (45, .putfield 30, 3), (48, .aload_n 0, 1), (49, .new 33, 3), (52, .dup, 1), (53, .invokespecial 35, 3), (56, .putfield 36, 3), (59, .aload_n 0, 1), (60, .iconst 1, 1), (61, .putfield 40, 3), (64, .aload_n 0, 1), (65, .iconst 0, 1), (66, .putfield 44, 3), (69, .aload_n 0, 1), (70, .iconst (-1), 1), (71, .putfield 48, 3), (74, .aload_n 0, 1), (75, .iconst 0, 1), (76, .putfield 51, 3), (79, .aload_n 0, 1), (80, .lconst 0, 1), (81, .putfield 54, 3), (84, .aload_n 0, 1), (85, .lconst 0, 1), (86, .putfield 58, 3), (89, .return_, 1)]
theorem dT_X4_init_0_ok : (dT_X4_init_0.all fun e => decide (decode cX4_init e.1 = .ok (e.2.1, e.2.2))) = true := by decide +kernel
theorem dX4_init_0 : decode cX4_init 0 = .ok (.aload_n 0, 1) := dec_of dT_X4_init_0_ok 0 rfl
theorem dX4_init_1 : decode cX4_init 1 = .ok (.invokespecial 3, 3) := dec_of dT_X4_init_0_ok 1 rfl
theorem dX4_init_4 : decode cX4_init 4 = .ok (.aload_n 0, 1) := dec_of dT_X4_init_0_ok 2 rfl
theorem dX4_init_5 : decode cX4_init 5 = .ok (.new 9, 3) := dec_of dT_X4_init_0_ok 3 rfl
theorem dX4_init_8 : decode cX4_init 8 = .ok (.dup, 1) := dec_of dT_X4_init_0_ok 4 rfl
theorem dX4_init_9 : decode cX4_init 9 = .ok (.invokespecial 11, 3) := dec_of dT_X4_init_0_ok 5 rfl
theorem dX4_init_12 : decode cX4_init 12 = .ok (.putfield 12, 3) := dec_of dT_X4_init_0_ok 6 rfl
theorem dX4_init_15 : decode cX4_init 15 = .ok (.aload_n 0, 1) := dec_of dT_X4_init_0_ok 7 rfl
theorem dX4_init_16 : decode cX4_init 16 = .ok (.new 16, 3) := dec_of dT_X4_init_0_ok 8 rfl
theorem dX4_init_19 : decode cX4_init 19 = .ok (.dup, 1) := dec_of dT_X4_init_0_ok 9 rfl
theorem dX4_init_20 : decode cX4_init 20 = .ok (.invokespecial 18, 3) := dec_of dT_X4_init_0_ok 10 rfl
theorem dX4_init_23 : decode cX4_init 23 = .ok (.putfield 19, 3) := dec_of dT_X4_init_0_ok 11 rfl
theorem dX4_init_26 : decode cX4_init 26 = .ok (.aload_n 0, 1) := dec_of dT_X4_init_0_ok 12 rfl
theorem dX4_init_27 : decode cX4_init 27 = .ok (.new 23, 3) := dec_of dT_X4_init_0_ok 13 rfl
theorem dX4_init_30 : decode cX4_init 30 = .ok (.dup, 1) := dec_of dT_X4_init_0_ok 14 rfl
theorem dX4_init_31 : decode cX4_init 31 = .ok (.invokespecial 25, 3) := dec_of dT_X4_init_0_ok 15 rfl
theorem dX4_init_34 : decode cX4_init 34 = .ok (.putfield 26, 3) := dec_of dT_X4_init_0_ok 16 rfl
theorem dX4_init_37 : decode cX4_init 37 = .ok (.aload_n 0, 1) := dec_of dT_X4_init_0_ok 17 rfl
theorem dX4_init_38 : decode cX4_init 38 = .ok (.new 23, 3) := dec_of dT_X4_init_0_ok 18 rfl
theorem dX4_init_41 : decode cX4_init 41 = .ok (.dup, 1) := dec_of dT_X4_init_0_ok 19 rfl
theorem dX4_init_42 : decode cX4_init 42 = .ok (.invokespecial 25, 3) := dec_of dT_X4_init_0_ok 20 rfl
theorem dX4_init_45 : decode cX4_init 45 = .ok (.putfield 30, 3) := dec_of dT_X4_init_0_ok 21 rfl
theorem dX4_init_48 : decode cX4_init 48 = .ok (.aload_n 0, 1) := dec_of dT_X4_init_0_ok 22 rfl
theorem dX4_init_49 : decode cX4_init 49 = .ok (.new 33, 3) := dec_of dT_X4_init_0_ok 23 rfl
theorem dX4_init_52 : decode cX4_init 52 = .ok (.dup, 1) := dec_of dT_X4_init_0_ok 24 rfl
theorem dX4_init_53 : decode cX4_init 53 = .ok (.invokespecial 35, 3) := dec_of dT_X4_init_0_ok 25 rfl
theorem dX4_init_56 : decode cX4_init 56 = .ok (.putfield 36, 3) := dec_of dT_X4_init_0_ok 26 rfl
theorem dX4_init_59 : decode cX4_init 59 = .ok (.aload_n 0, 1) := dec_of dT_X4_init_0_ok 27 rfl
theorem dX4_init_60 : decode cX4_init 60 = .ok (.iconst 1, 1) := dec_of dT_X4_init_0_ok 28 rfl
theorem dX4_init_61 : decode cX4_init 61 = .ok (.putfield 40, 3) := dec_of dT_X4_init_0_ok 29 rfl
theorem dX4_init_64 : decode cX4_init 64 = .ok (.aload_n 0, 1) := dec_of dT_X4_init_0_ok 30 rfl
theorem dX4_init_65 : decode cX4_init 65 = .ok (.iconst 0, 1) := dec_of dT_X4_init_0_ok 31 rfl
theorem dX4_init_66 : decode cX4_init 66 = .ok (.putfield 44, 3) := dec_of dT_X4_init_0_ok 32 rfl
theorem dX4_init_69 : decode cX4_init 69 = .ok (.aload_n 0, 1) := dec_of dT_X4_init_0_ok 33 rfl
theorem dX4_init_70 : decode cX4_init 70 = .ok (.iconst (-1), 1) := dec_of dT_X4_init_0_ok 34 rfl
theorem dX4_init_71 : decode cX4_init 71 = .ok (.putfield 48, 3) := dec_of dT_X4_init_0_ok 35 rfl
theorem dX4_init_74 : decode cX4_init 74 = .ok (.aload_n 0, 1) := dec_of dT_X4_init_0_ok 36 rfl
theorem dX4_init_75 : decode cX4_init 75 = .ok (.iconst 0, 1) := dec_of dT_X4_init_0_ok 37 rfl
theorem dX4_init_76 : decode cX4_init 76 = .ok (.putfield 51, 3) := dec_of dT_X4_init_0_ok 38 rfl
theorem dX4_init_79 : decode cX4_init 79 = .ok (.aload_n 0, 1) := dec_of dT_X4_init_0_ok 39 rfl
theorem dX4_init_80 : decode cX4_init 80 = .ok (.lconst 0, 1) := dec_of dT_X4_init_0_ok 40 rfl
theorem dX4_init_81 : decode cX4_init 81 = .ok (.putfield 54, 3) := dec_of dT_X4_init_0_ok 41 rfl
theorem dX4_init_84 : decode cX4_init 84 = .ok (.aload_n 0, 1) := dec_of dT_X4_init_0_ok 42 rfl
theorem dX4_init_85 : decode cX4_init 85 = .ok (.lconst 0, 1) := dec_of dT_X4_init_0_ok 43 rfl
theorem dX4_init_86 : decode cX4_init 86 = .ok (.putfield 58, 3) := dec_of dT_X4_init_0_ok 44 rfl
theorem dX4_init_89 : decode cX4_init 89 = .ok (.return_, 1) := dec_of dT_X4_init_0_ok 45 rfl
def dT_X4_bits_0 : List (Nat × Instr × Nat) := [(0, .iload_n 3, 1), (1, .iconst 1, 1), (2, .bipush 40, 2), (4, .invokestatic 61, 3), (7, .ifCond .ne 6, 3), (10, .bipush (-2), 2), (12, .ireturn, 1), (13, .aload_n 0, 1), (14, .getfield 12, 3), (17, .getfield 65, 3), (20, .iload_n 3, 1), (21, .iadd, 1), (22, .bipush 40, 2), (24, .if_icmp .le 6, 3), (27, .bipush (-4), 2), (29, .ireturn, 1), (30, .aload_n 0, 1), (31, .getfield 12, 3), (34, .lload_n 1, 1), (35, .iload_n 3, 1), (36, .invokevirtual 68, 3), (39, .aload_n 0, 1), (40, .invokevirtual 72, 3), (43, .aload_n 0, 1), (44, .getfield 12, 3), (47, .getfield 65, 3), (50, .ireturn, 1)]
theorem dT_X4_bits_0_ok : (dT_X4_bits_0.all fun e => decide (decode cX4_bits e.1 = .ok (e.2.1, e.2.2))) = true := by decide +kernel
theorem dX4_bits_0 : decode cX4_bits 0 = .ok (.iload_n 3, 1) := dec_of dT_X4_bits_0_ok 0 rfl
theorem dX4_bits_1 : decode cX4_bits 1 = .ok (.iconst 1, 1) := dec_of dT_X4_bits_0_ok 1 rfl
theorem dX4_bits_2 : decode cX4_bits 2 = .ok (.bipush 40, 2) := dec_of dT_X4_bits_0_ok 2 rfl
theorem dX4_bits_4 : decode cX4_bits 4 = .ok (.invokestatic 61, 3) := dec_of dT_X4_bits_0_ok 3 rfl
theorem dX4_bits_7 : decode cX4_bits 7 = .ok (.ifCond .ne 6, 3) := dec_of dT_X4_bits_0_ok 4 rfl
theorem dX4_bits_10 : decode cX4_bits 10 = .ok (.bipush (-2), 2) := dec_of dT_X4_bits_0_ok 5 rfl
theorem dX4_bits_12 : decode cX4_bits 12 = .ok (.ireturn, 1) := dec_of dT_X4_bits_0_ok 6 rfl
theorem dX4_bits_13 : decode cX4_bits 13 = .ok (.aload_n 0, 1) := dec_of dT_X4_bits_0_ok 7 rfl
theorem dX4_bits_14 : decode cX4_bits 14 = .ok (.getfield 12, 3) := dec_of dT_X4_bits_0_ok 8 rfl
theorem dX4_bits_17 : decode cX4_bits 17 = .ok (.getfield 65, 3) := dec_of dT_X4_bits_0_ok 9 rfl
theorem dX4_bits_20 : decode cX4_bits 20 = .ok (.iload_n 3, 1) := dec_of dT_X4_bits_0_ok 10 rfl
theorem dX4_bits_21 : decode cX4_bits 21 = .ok (.iadd, 1) := dec_of dT_X4_bits_0_ok 11 rfl
theorem dX4_bits_22 : decode cX4_bits 22 = .ok (.bipush 40, 2) := dec_of dT_X4_bits_0_ok 12 rfl
theorem dX4_bits_24 : decode cX4_bits 24 = .ok (.if_icmp .le 6, 3) := dec_of dT_X4_bits_0_ok 13 rfl
theorem dX4_bits_27 : decode cX4_bits 27 = .ok (.bipush (-4), 2) := dec_of dT_X4_bits_0_ok 14 rfl
theorem dX4_bits_29 : decode cX4_bits 29 = .ok (.ireturn, 1) := dec_of dT_X4_bits_0_ok 15 rfl
theorem dX4_bits_30 : decode cX4_bits 30 = .ok (.aload_n 0, 1) := dec_of dT_X4_bits_0_ok 16 rfl
theorem dX4_bits_31 : decode cX4_bits 31 = .ok (.getfield 12, 3) := dec_of dT_X4_bits_0_ok 17 rfl
theorem dX4_bits_34 : decode cX4_bits 34 = .ok (.lload_n 1, 1) := dec_of dT_X4_bits_0_ok 18 rfl
theorem dX4_bits_35 : decode cX4_bits 35 = .ok (.iload_n 3, 1) := dec_of dT_X4_bits_0_ok 19 rfl
theorem dX4_bits_36 : decode cX4_bits 36 = .ok (.invokevirtual 68, 3) := dec_of dT_X4_bits_0_ok 20 rfl
theorem dX4_bits_39 : decode cX4_bits 39 = .ok (.aload_n 0, 1) := dec_of dT_X4_bits_0_ok 21 rfl
theorem dX4_bits_40 : decode cX4_bits 40 = .ok (.invokevirtual 72, 3) := dec_of dT_X4_bits_0_ok 22 rfl
theorem dX4_bits_43 : decode cX4_bits 43 = .ok (.aload_n 0, 1) := dec_of dT_X4_bits_0_ok 23 rfl
theorem dX4_bits_44 : decode cX4_bits 44 = .ok (.getfield 12, 3) := dec_of dT_X4_bits_0_ok 24 rfl
theorem dX4_bits_47 : decode cX4_bits 47 = .ok (.getfield 65, 3) := dec_of dT_X4_bits_0_ok 25 rfl
theorem dX4_bits_50 : decode cX4_bits 50 = .ok (.ireturn, 1) := dec_of dT_X4_bits_0_ok 26 rfl
def dT_X4_clear_0 : List (Nat × Instr × Nat) := [(0, .aload_n 0, 1), (1, .getfield 12, 3), (4, .getfield 65, 3), (7, .istore_n 1, 1), (8, .aload_n 0, 1), (9, .getfield 12, 3), (12, .invokevirtual 75, 3), (15, .aload_n 0, 1), (16, .invokevirtual 72, 3), (19, .iload_n 1, 1), (20, .ireturn, 1)]
theorem dT_X4_clear_0_ok : (dT_X4_clear_0.all fun e => decide (decode cX4_clear e.1 = .ok (e.2.1, e.2.2))) = true := by decide +kernel
theorem dX4_clear_0 : decode cX4_clear 0 = .ok (.aload_n 0, 1) := dec_of dT_X4_clear_0_ok 0 rfl
theorem dX4_clear_1 : decode cX4_clear 1 = .ok (.getfield 12, 3) := dec_of dT_X4_clear_0_ok 1 rfl
theorem dX4_clear_4 : decode cX4_clear 4 = .ok (.getfield 65, 3) := dec_of dT_X4_clear_0_ok 2 rfl
theorem dX4_clear_7 : decode cX4_clear 7 = .ok (.istore_n 1, 1) := dec_of dT_X4_clear_0_ok 3 rfl
theorem dX4_clear_8 : decode cX4_clear 8 = .ok (.aload_n 0, 1) := dec_of dT_X4_clear_0_ok 4 rfl
theorem dX4_clear_9 : decode cX4_clear 9 = .ok (.getfield 12, 3) := dec_of dT_X4_clear_0_ok 5 rfl
theorem dX4_clear_12 : decode cX4_clear 12 = .ok (.invokevirtual 75, 3) := dec_of dT_X4_clear_0_ok 6 rfl
theorem dX4_clear_15 : decode cX4_clear 15 = .ok (.aload_n 0, 1) := dec_of dT_X4_clear_0_ok 7 rfl
theorem dX4_clear_16 : decode cX4_clear 16 = .ok (.invokevirtual 72, 3) := dec_of dT_X4_clear_0_ok 8 rfl
theorem dX4_clear_19 : decode cX4_clear 19 = .ok (.iload_n 1, 1) := dec_of dT_X4_clear_0_ok 9 rfl
theorem dX4_clear_20 : decode cX4_clear 20 = .ok (.ireturn, 1) := dec_of dT_X4_clear_0_ok 10 rfl
def dT_X4_bit_0 : List (Nat × Instr × Nat) := [(0, .aload_n 0, 1), (1, .iload_n 1, 1), (2, .invokevirtual 78, 3), (5, .ifCond .eq 24, 3), (8, .aload_n 0, 1), (9, .getfield 12, 3), (12, .getfield 82, 3), (15, .aload_n 0, 1), (16, .getfield 12, 3), (19, .getfield 65, 3), (22, .iload_n 1, 1), (23, .invokestatic 85, 3), (26, .goto 5, 3), (29, .bipush (-2), 2), (31, .ireturn, 1)]
theorem dT_X4_bit_0_ok : (dT_X4_bit_0.all fun e => decide (decode cX4_bit e.1 = .ok (e.2.1, e.2.2))) = true := by decide +kernel
theorem dX4_bit_0 : decode cX4_bit 0 = .ok (.aload_n 0, 1) := dec_of dT_X4_bit_0_ok 0 rfl
theorem dX4_bit_1 : decode cX4_bit 1 = .ok (.iload_n 1, 1) := dec_of dT_X4_bit_0_ok 1 rfl
theorem dX4_bit_2 : decode cX4_bit 2 = .ok (.invokevirtual 78, 3) := dec_of dT_X4_bit_0_ok 2 rfl
theorem dX4_bit_5 : decode cX4_bit 5 = .ok (.ifCond .eq 24, 3) := dec_of dT_X4_bit_0_ok 3 rfl
theorem dX4_bit_8 : decode cX4_bit 8 = .ok (.aload_n 0, 1) := dec_of dT_X4_bit_0_ok 4 rfl
theorem dX4_bit_9 : decode cX4_bit 9 = .ok (.getfield 12, 3) := dec_of dT_X4_bit_0_ok 5 rfl
theorem dX4_bit_12 : decode cX4_bit 12 = .ok (.getfield 82, 3) := dec_of dT_X4_bit_0_ok 6 rfl
theorem dX4_bit_15 : decode cX4_bit 15 = .ok (.aload_n 0, 1) := dec_of dT_X4_bit_0_ok 7 rfl
theorem dX4_bit_16 : decode cX4_bit 16 = .ok (.getfield 12, 3) := dec_of dT_X4_bit_0_ok 8 rfl
theorem dX4_bit_19 : decode cX4_bit 19 = .ok (.getfield 65, 3) := dec_of dT_X4_bit_0_ok 9 rfl
theorem dX4_bit_22 : decode cX4_bit 22 = .ok (.iload_n 1, 1) := dec_of dT_X4_bit_0_ok 10 rfl
theorem dX4_bit_23 : decode cX4_bit 23 = .ok (.invokestatic 85, 3) := dec_of dT_X4_bit_0_ok 11 rfl
theorem dX4_bit_26 : decode cX4_bit 26 = .ok (.goto 5, 3) := dec_of dT_X4_bit_0_ok 12 rfl
theorem dX4_bit_29 : decode cX4_bit 29 = .ok (.bipush (-2), 2) := dec_of dT_X4_bit_0_ok 13 rfl
theorem dX4_bit_31 : decode cX4_bit 31 = .ok (.ireturn, 1) := dec_of dT_X4_bit_0_ok 14 rfl
def dT_X4_mask_0 : List (Nat × Instr × Nat) := [(0, .iload_n 1, 1), (1, .iconst 0, 1), (2, .bipush 127, 2), (4, .invokestatic 61, 3), (7, .ifCond .ne 6, 3), (10, .bipush (-2), 2), (12, .ireturn, 1), (13, .aload_n 0, 1), (14, .getfield 12, 3), (17, .iload_n 1, 1), (18, .invokevirtual 89, 3), (21, .aload_n 0, 1), (22, .invokevirtual 93, 3), (25, .ireturn, 1)]
theorem dT_X4_mask_0_ok : (dT_X4_mask_0.all fun e => decide (decode cX4_mask e.1 = .ok (e.2.1, e.2.2))) = true := by decide +kernel
theorem dX4_mask_0 : decode cX4_mask 0 = .ok (.iload_n 1, 1) := dec_of dT_X4_mask_0_ok 0 rfl
theorem dX4_mask_1 : decode cX4_mask 1 = .ok (.iconst 0, 1) := dec_of dT_X4_mask_0_ok 1 rfl
theorem dX4_mask_2 : decode cX4_mask 2 = .ok (.bipush 127, 2) := dec_of dT_X4_mask_0_ok 2 rfl
theorem dX4_mask_4 : decode cX4_mask 4 = .ok (.invokestatic 61, 3) := dec_of dT_X4_mask_0_ok 3 rfl
theorem dX4_mask_7 : decode cX4_mask 7 = .ok (.ifCond .ne 6, 3) := dec_of dT_X4_mask_0_ok 4 rfl
theorem dX4_mask_10 : decode cX4_mask 10 = .ok (.bipush (-2), 2) := dec_of dT_X4_mask_0_ok 5 rfl
theorem dX4_mask_12 : decode cX4_mask 12 = .ok (.ireturn, 1) := dec_of dT_X4_mask_0_ok 6 rfl
theorem dX4_mask_13 : decode cX4_mask 13 = .ok (.aload_n 0, 1) := dec_of dT_X4_mask_0_ok 7 rfl
theorem dX4_mask_14 : decode cX4_mask 14 = .ok (.getfield 12, 3) := dec_of dT_X4_mask_0_ok 8 rfl
theorem dX4_mask_17 : decode cX4_mask 17 = .ok (.iload_n 1, 1) := dec_of dT_X4_mask_0_ok 9 rfl
theorem dX4_mask_18 : decode cX4_mask 18 = .ok (.invokevirtual 89, 3) := dec_of dT_X4_mask_0_ok 10 rfl
theorem dX4_mask_21 : decode cX4_mask 21 = .ok (.aload_n 0, 1) := dec_of dT_X4_mask_0_ok 11 rfl
theorem dX4_mask_22 : decode cX4_mask 22 = .ok (.invokevirtual 93, 3) := dec_of dT_X4_mask_0_ok 12 rfl
theorem dX4_mask_25 : decode cX4_mask 25 = .ok (.ireturn, 1) := dec_of dT_X4_mask_0_ok 13 rfl
def dT_X4_code_0 : List (Nat × Instr × Nat) := [(0, .iload_n 1, 1), (1, .iconst 1, 1), (2, .bipush 15, 2), (4, .invokestatic 61, 3), (7, .ifCond .eq 13, 3), (10, .iload_n 2, 1), (11, .iconst 1, 1), (12, .bipush 15, 2), (14, .invokestatic 61, 3), (17, .ifCond .ne 6, 3), (20, .bipush (-2), 2), (22, .ireturn, 1), (23, .aload_n 0, 1), (24, .getfield 12, 3), (27, .iload_n 1, 1), (28, .putfield 97, 3), (31, .aload_n 0, 1), (32, .getfield 12, 3), (35, .iload_n 2, 1), (36, .putfield 100, 3), (39, .aload_n 0, 1), (40, .invokevirtual 93, 3), (43, .ireturn, 1)]
theorem dT_X4_code_0_ok : (dT_X4_code_0.all fun e => decide (decode cX4_code e.1 = .ok (e.2.1, e.2.2))) = true := by decide +kernel
theorem dX4_code_0 : decode cX4_code 0 = .ok (.iload_n 1, 1) := dec_of dT_X4_code_0_ok 0 rfl
theorem dX4_code_1 : decode cX4_code 1 = .ok (.iconst 1, 1) := dec_of dT_X4_code_0_ok 1 rfl
theorem dX4_code_2 : decode cX4_code 2 = .ok (.bipush 15, 2) := dec_of dT_X4_code_0_ok 2 rfl
theorem dX4_code_4 : decode cX4_code 4 = .ok (.invokestatic 61, 3) := dec_of dT_X4_code_0_ok 3 rfl
theorem dX4_code_7 : decode cX4_code 7 = .ok (.ifCond .eq 13, 3) := dec_of dT_X4_code_0_ok 4 rfl
theorem dX4_code_10 : decode cX4_code 10 = .ok (.iload_n 2, 1) := dec_of dT_X4_code_0_ok 5 rfl
theorem dX4_code_11 : decode cX4_code 11 = .ok (.iconst 1, 1) := dec_of dT_X4_code_0_ok 6 rfl
theorem dX4_code_12 : decode cX4_code 12 = .ok (.bipush 15, 2) := dec_of dT_X4_code_0_ok 7 rfl
theorem dX4_code_14 : decode cX4_code 14 = .ok (.invokestatic 61, 3) := dec_of dT_X4_code_0_ok 8 rfl
theorem dX4_code_17 : decode cX4_code 17 = .ok (.ifCond .ne 6, 3) := dec_of dT_X4_code_0_ok 9 rfl
theorem dX4_code_20 : decode cX4_code 20 = .ok (.bipush (-2), 2) := dec_of dT_X4_code_0_ok 10 rfl
theorem dX4_code_22 : decode cX4_code 22 = .ok (.ireturn, 1) := dec_of dT_X4_code_0_ok 11 rfl
theorem dX4_code_23 : decode cX4_code 23 = .ok (.aload_n 0, 1) := dec_of dT_X4_code_0_ok 12 rfl
theorem dX4_code_24 : decode cX4_code 24 = .ok (.getfield 12, 3) := dec_of dT_X4_code_0_ok 13 rfl
theorem dX4_code_27 : decode cX4_code 27 = .ok (.iload_n 1, 1) := dec_of dT_X4_code_0_ok 14 rfl
theorem dX4_code_28 : decode cX4_code 28 = .ok (.putfield 97, 3) := dec_of dT_X4_code_0_ok 15 rfl
theorem dX4_code_31 : decode cX4_code 31 = .ok (.aload_n 0, 1) := dec_of dT_X4_code_0_ok 16 rfl
theorem dX4_code_32 : decode cX4_code 32 = .ok (.getfield 12, 3) := dec_of dT_X4_code_0_ok 17 rfl
theorem dX4_code_35 : decode cX4_code 35 = .ok (.iload_n 2, 1) := dec_of dT_X4_code_0_ok 18 rfl
theorem dX4_code_36 : decode cX4_code 36 = .ok (.putfield 100, 3) := dec_of dT_X4_code_0_ok 19 rfl
theorem dX4_code_39 : decode cX4_code 39 = .ok (.aload_n 0, 1) := dec_of dT_X4_code_0_ok 20 rfl
theorem dX4_code_40 : decode cX4_code 40 = .ok (.invokevirtual 93, 3) := dec_of dT_X4_code_0_ok 21 rfl
theorem dX4_code_43 : decode cX4_code 43 = .ok (.ireturn, 1) := dec_of dT_X4_code_0_ok 22 rfl
def dT_X4_amp_0 : List (Nat × Instr × Nat) := [(0, .iload_n 1, 1), (1, .iconst 1, 1), (2, .bipush 100, 2), (4, .invokestatic 61, 3), (7, .ifCond .ne 6, 3), (10, .bipush (-2), 2), (12, .ireturn, 1), (13, .aload_n 0, 1), (14, .getfield 12, 3), (17, .iload_n 1, 1), (18, .putfield 103, 3), (21, .aload_n 0, 1), (22, .invokevirtual 93, 3), (25, .ireturn, 1)]
theorem dT_X4_amp_0_ok : (dT_X4_amp_0.all fun e => decide (decode cX4_amp e.1 = .ok (e.2.1, e.2.2))) = true := by decide +kernel
theorem dX4_amp_0 : decode cX4_amp 0 = .ok (.iload_n 1, 1) := dec_of dT_X4_amp_0_ok 0 rfl
theorem dX4_amp_1 : decode cX4_amp 1 = .ok (.iconst 1, 1) := dec_of dT_X4_amp_0_ok 1 rfl
theorem dX4_amp_2 : decode cX4_amp 2 = .ok (.bipush 100, 2) := dec_of dT_X4_amp_0_ok 2 rfl
theorem dX4_amp_4 : decode cX4_amp 4 = .ok (.invokestatic 61, 3) := dec_of dT_X4_amp_0_ok 3 rfl
theorem dX4_amp_7 : decode cX4_amp 7 = .ok (.ifCond .ne 6, 3) := dec_of dT_X4_amp_0_ok 4 rfl
theorem dX4_amp_10 : decode cX4_amp 10 = .ok (.bipush (-2), 2) := dec_of dT_X4_amp_0_ok 5 rfl
theorem dX4_amp_12 : decode cX4_amp 12 = .ok (.ireturn, 1) := dec_of dT_X4_amp_0_ok 6 rfl
theorem dX4_amp_13 : decode cX4_amp 13 = .ok (.aload_n 0, 1) := dec_of dT_X4_amp_0_ok 7 rfl
theorem dX4_amp_14 : decode cX4_amp 14 = .ok (.getfield 12, 3) := dec_of dT_X4_amp_0_ok 8 rfl
theorem dX4_amp_17 : decode cX4_amp 17 = .ok (.iload_n 1, 1) := dec_of dT_X4_amp_0_ok 9 rfl
theorem dX4_amp_18 : decode cX4_amp 18 = .ok (.putfield 103, 3) := dec_of dT_X4_amp_0_ok 10 rfl
theorem dX4_amp_21 : decode cX4_amp 21 = .ok (.aload_n 0, 1) := dec_of dT_X4_amp_0_ok 11 rfl
theorem dX4_amp_22 : decode cX4_amp 22 = .ok (.invokevirtual 93, 3) := dec_of dT_X4_amp_0_ok 12 rfl
theorem dX4_amp_25 : decode cX4_amp 25 = .ok (.ireturn, 1) := dec_of dT_X4_amp_0_ok 13 rfl
def dT_X4_call_0 : List (Nat × Instr × Nat) := [(0, .iload_n 1, 1), (1, .iconst 0, 1), (2, .bipush 16, 2), (4, .invokestatic 61, 3), (7, .ifCond .eq 9, 3), (10, .iload_n 2, 1), (11, .iload_n 1, 1), (12, .iushr, 1), (13, .ifCond .eq 6, 3), (16, .bipush (-2), 2), (18, .ireturn, 1), (19, .aload_n 0, 1), (20, .getfield 12, 3), (23, .iload_n 1, 1), (24, .putfield 106, 3), (27, .aload_n 0, 1), (28, .getfield 12, 3), (31, .iload_n 2, 1), (32, .putfield 109, 3), (35, .aload_n 0, 1), (36, .invokevirtual 93, 3), (39, .ireturn, 1)]
theorem dT_X4_call_0_ok : (dT_X4_call_0.all fun e => decide (decode cX4_call e.1 = .ok (e.2.1, e.2.2))) = true := by decide +kernel
theorem dX4_call_0 : decode cX4_call 0 = .ok (.iload_n 1, 1) := dec_of dT_X4_call_0_ok 0 rfl
theorem dX4_call_1 : decode cX4_call 1 = .ok (.iconst 0, 1) := dec_of dT_X4_call_0_ok 1 rfl
theorem dX4_call_2 : decode cX4_call 2 = .ok (.bipush 16, 2) := dec_of dT_X4_call_0_ok 2 rfl
theorem dX4_call_4 : decode cX4_call 4 = .ok (.invokestatic 61, 3) := dec_of dT_X4_call_0_ok 3 rfl
theorem dX4_call_7 : decode cX4_call 7 = .ok (.ifCond .eq 9, 3) := dec_of dT_X4_call_0_ok 4 rfl
theorem dX4_call_10 : decode cX4_call 10 = .ok (.iload_n 2, 1) := dec_of dT_X4_call_0_ok 5 rfl
theorem dX4_call_11 : decode cX4_call 11 = .ok (.iload_n 1, 1) := dec_of dT_X4_call_0_ok 6 rfl
theorem dX4_call_12 : decode cX4_call 12 = .ok (.iushr, 1) := dec_of dT_X4_call_0_ok 7 rfl
theorem dX4_call_13 : decode cX4_call 13 = .ok (.ifCond .eq 6, 3) := dec_of dT_X4_call_0_ok 8 rfl
theorem dX4_call_16 : decode cX4_call 16 = .ok (.bipush (-2), 2) := dec_of dT_X4_call_0_ok 9 rfl
theorem dX4_call_18 : decode cX4_call 18 = .ok (.ireturn, 1) := dec_of dT_X4_call_0_ok 10 rfl
theorem dX4_call_19 : decode cX4_call 19 = .ok (.aload_n 0, 1) := dec_of dT_X4_call_0_ok 11 rfl
theorem dX4_call_20 : decode cX4_call 20 = .ok (.getfield 12, 3) := dec_of dT_X4_call_0_ok 12 rfl
theorem dX4_call_23 : decode cX4_call 23 = .ok (.iload_n 1, 1) := dec_of dT_X4_call_0_ok 13 rfl
theorem dX4_call_24 : decode cX4_call 24 = .ok (.putfield 106, 3) := dec_of dT_X4_call_0_ok 14 rfl
theorem dX4_call_27 : decode cX4_call 27 = .ok (.aload_n 0, 1) := dec_of dT_X4_call_0_ok 15 rfl
theorem dX4_call_28 : decode cX4_call 28 = .ok (.getfield 12, 3) := dec_of dT_X4_call_0_ok 16 rfl
theorem dX4_call_31 : decode cX4_call 31 = .ok (.iload_n 2, 1) := dec_of dT_X4_call_0_ok 17 rfl
theorem dX4_call_32 : decode cX4_call 32 = .ok (.putfield 109, 3) := dec_of dT_X4_call_0_ok 18 rfl
theorem dX4_call_35 : decode cX4_call 35 = .ok (.aload_n 0, 1) := dec_of dT_X4_call_0_ok 19 rfl
theorem dX4_call_36 : decode cX4_call 36 = .ok (.invokevirtual 93, 3) := dec_of dT_X4_call_0_ok 20 rfl
theorem dX4_call_39 : decode cX4_call 39 = .ok (.ireturn, 1) := dec_of dT_X4_call_0_ok 21 rfl
def dT_X4_taps_0 : List (Nat × Instr × Nat) := [(0, .iload_n 1, 1), (1, .iload_n 2, 1), (2, .iload_n 3, 1), (3, .iload 4, 2), (5, .invokestatic 112, 3), (8, .ifCond .ne 6, 3), (11, .bipush (-2), 2), (13, .ireturn, 1), (14, .aload_n 0, 1), (15, .getfield 19, 3), (18, .getfield 116, 3), (21, .iload_n 1, 1), (22, .iload_n 2, 1), (23, .iload_n 3, 1), (24, .iload 4, 2), (26, .invokestatic 120, 3), (29, .aload_n 0, 1), (30, .invokevirtual 93, 3), (33, .ireturn, 1)]
theorem dT_X4_taps_0_ok : (dT_X4_taps_0.all fun e => decide (decode cX4_taps e.1 = .ok (e.2.1, e.2.2))) = true := by decide +kernel
theorem dX4_taps_0 : decode cX4_taps 0 = .ok (.iload_n 1, 1) := dec_of dT_X4_taps_0_ok 0 rfl
theorem dX4_taps_1 : decode cX4_taps 1 = .ok (.iload_n 2, 1) := dec_of dT_X4_taps_0_ok 1 rfl
theorem dX4_taps_2 : decode cX4_taps 2 = .ok (.iload_n 3, 1) := dec_of dT_X4_taps_0_ok 2 rfl
theorem dX4_taps_3 : decode cX4_taps 3 = .ok (.iload 4, 2) := dec_of dT_X4_taps_0_ok 3 rfl
theorem dX4_taps_5 : decode cX4_taps 5 = .ok (.invokestatic 112, 3) := dec_of dT_X4_taps_0_ok 4 rfl
theorem dX4_taps_8 : decode cX4_taps 8 = .ok (.ifCond .ne 6, 3) := dec_of dT_X4_taps_0_ok 5 rfl
theorem dX4_taps_11 : decode cX4_taps 11 = .ok (.bipush (-2), 2) := dec_of dT_X4_taps_0_ok 6 rfl
theorem dX4_taps_13 : decode cX4_taps 13 = .ok (.ireturn, 1) := dec_of dT_X4_taps_0_ok 7 rfl
theorem dX4_taps_14 : decode cX4_taps 14 = .ok (.aload_n 0, 1) := dec_of dT_X4_taps_0_ok 8 rfl
theorem dX4_taps_15 : decode cX4_taps 15 = .ok (.getfield 19, 3) := dec_of dT_X4_taps_0_ok 9 rfl
theorem dX4_taps_18 : decode cX4_taps 18 = .ok (.getfield 116, 3) := dec_of dT_X4_taps_0_ok 10 rfl
theorem dX4_taps_21 : decode cX4_taps 21 = .ok (.iload_n 1, 1) := dec_of dT_X4_taps_0_ok 11 rfl
theorem dX4_taps_22 : decode cX4_taps 22 = .ok (.iload_n 2, 1) := dec_of dT_X4_taps_0_ok 12 rfl
theorem dX4_taps_23 : decode cX4_taps 23 = .ok (.iload_n 3, 1) := dec_of dT_X4_taps_0_ok 13 rfl
theorem dX4_taps_24 : decode cX4_taps 24 = .ok (.iload 4, 2) := dec_of dT_X4_taps_0_ok 14 rfl
theorem dX4_taps_26 : decode cX4_taps 26 = .ok (.invokestatic 120, 3) := dec_of dT_X4_taps_0_ok 15 rfl
theorem dX4_taps_29 : decode cX4_taps 29 = .ok (.aload_n 0, 1) := dec_of dT_X4_taps_0_ok 16 rfl
theorem dX4_taps_30 : decode cX4_taps 30 = .ok (.invokevirtual 93, 3) := dec_of dT_X4_taps_0_ok 17 rfl
theorem dX4_taps_33 : decode cX4_taps 33 = .ok (.ireturn, 1) := dec_of dT_X4_taps_0_ok 18 rfl
def dT_X4_air_0 : List (Nat × Instr × Nat) := [(0, .iload_n 1, 1), (1, .iconst 0, 1), (2, .bipush 30, 2), (4, .invokestatic 61, 3), (7, .ifCond .eq 14, 3), (10, .iload_n 2, 1), (11, .iconst 0, 1), (12, .sipush 500, 3), (15, .invokestatic 61, 3), (18, .ifCond .ne 6, 3), (21, .bipush (-2), 2), (23, .ireturn, 1), (24, .aload_n 0, 1), (25, .getfield 19, 3), (28, .iload_n 1, 1), (29, .putfield 124, 3), (32, .aload_n 0, 1), (33, .getfield 19, 3), (36, .iload_n 2, 1), (37, .putfield 127, 3), (40, .aload_n 0, 1), (41, .getfield 19, 3), (44, .iload_n 3, 1), (45, .putfield 130, 3), (48, .aload_n 0, 1), (49, .invokevirtual 93, 3), (52, .ireturn, 1)]
theorem dT_X4_air_0_ok : (dT_X4_air_0.all fun e => decide (decode cX4_air e.1 = .ok (e.2.1, e.2.2))) = true := by decide +kernel
theorem dX4_air_0 : decode cX4_air 0 = .ok (.iload_n 1, 1) := dec_of dT_X4_air_0_ok 0 rfl
theorem dX4_air_1 : decode cX4_air 1 = .ok (.iconst 0, 1) := dec_of dT_X4_air_0_ok 1 rfl
theorem dX4_air_2 : decode cX4_air 2 = .ok (.bipush 30, 2) := dec_of dT_X4_air_0_ok 2 rfl
theorem dX4_air_4 : decode cX4_air 4 = .ok (.invokestatic 61, 3) := dec_of dT_X4_air_0_ok 3 rfl
theorem dX4_air_7 : decode cX4_air 7 = .ok (.ifCond .eq 14, 3) := dec_of dT_X4_air_0_ok 4 rfl
theorem dX4_air_10 : decode cX4_air 10 = .ok (.iload_n 2, 1) := dec_of dT_X4_air_0_ok 5 rfl
theorem dX4_air_11 : decode cX4_air 11 = .ok (.iconst 0, 1) := dec_of dT_X4_air_0_ok 6 rfl
theorem dX4_air_12 : decode cX4_air 12 = .ok (.sipush 500, 3) := dec_of dT_X4_air_0_ok 7 rfl
theorem dX4_air_15 : decode cX4_air 15 = .ok (.invokestatic 61, 3) := dec_of dT_X4_air_0_ok 8 rfl
theorem dX4_air_18 : decode cX4_air 18 = .ok (.ifCond .ne 6, 3) := dec_of dT_X4_air_0_ok 9 rfl
theorem dX4_air_21 : decode cX4_air 21 = .ok (.bipush (-2), 2) := dec_of dT_X4_air_0_ok 10 rfl
theorem dX4_air_23 : decode cX4_air 23 = .ok (.ireturn, 1) := dec_of dT_X4_air_0_ok 11 rfl
theorem dX4_air_24 : decode cX4_air 24 = .ok (.aload_n 0, 1) := dec_of dT_X4_air_0_ok 12 rfl
theorem dX4_air_25 : decode cX4_air 25 = .ok (.getfield 19, 3) := dec_of dT_X4_air_0_ok 13 rfl
theorem dX4_air_28 : decode cX4_air 28 = .ok (.iload_n 1, 1) := dec_of dT_X4_air_0_ok 14 rfl
theorem dX4_air_29 : decode cX4_air 29 = .ok (.putfield 124, 3) := dec_of dT_X4_air_0_ok 15 rfl
theorem dX4_air_32 : decode cX4_air 32 = .ok (.aload_n 0, 1) := dec_of dT_X4_air_0_ok 16 rfl
theorem dX4_air_33 : decode cX4_air 33 = .ok (.getfield 19, 3) := dec_of dT_X4_air_0_ok 17 rfl
theorem dX4_air_36 : decode cX4_air 36 = .ok (.iload_n 2, 1) := dec_of dT_X4_air_0_ok 18 rfl
theorem dX4_air_37 : decode cX4_air 37 = .ok (.putfield 127, 3) := dec_of dT_X4_air_0_ok 19 rfl
theorem dX4_air_40 : decode cX4_air 40 = .ok (.aload_n 0, 1) := dec_of dT_X4_air_0_ok 20 rfl
theorem dX4_air_41 : decode cX4_air 41 = .ok (.getfield 19, 3) := dec_of dT_X4_air_0_ok 21 rfl
theorem dX4_air_44 : decode cX4_air 44 = .ok (.iload_n 3, 1) := dec_of dT_X4_air_0_ok 22 rfl
theorem dX4_air_45 : decode cX4_air 45 = .ok (.putfield 130, 3) := dec_of dT_X4_air_0_ok 23 rfl
theorem dX4_air_48 : decode cX4_air 48 = .ok (.aload_n 0, 1) := dec_of dT_X4_air_0_ok 24 rfl
theorem dX4_air_49 : decode cX4_air 49 = .ok (.invokevirtual 93, 3) := dec_of dT_X4_air_0_ok 25 rfl
theorem dX4_air_52 : decode cX4_air 52 = .ok (.ireturn, 1) := dec_of dT_X4_air_0_ok 26 rfl
def dT_X4_lose_0 : List (Nat × Instr × Nat) := [(0, .iload_n 1, 1), (1, .iconst 0, 1), (2, .sipush 200, 3), (5, .invokestatic 61, 3), (8, .ifCond .eq 14, 3), (11, .iload_n 2, 1), (12, .iconst 0, 1), (13, .sipush 200, 3), (16, .invokestatic 61, 3), (19, .ifCond .ne 6, 3), (22, .bipush (-2), 2), (24, .ireturn, 1), (25, .aload_n 0, 1), (26, .getfield 19, 3), (29, .iload_n 1, 1), (30, .putfield 133, 3), (33, .aload_n 0, 1), (34, .getfield 19, 3), (37, .iload_n 2, 1), (38, .putfield 136, 3), (41, .aload_n 0, 1), (42, .invokevirtual 93, 3), (45, .ireturn, 1)]
theorem dT_X4_lose_0_ok : (dT_X4_lose_0.all fun e => decide (decode cX4_lose e.1 = .ok (e.2.1, e.2.2))) = true := by decide +kernel
theorem dX4_lose_0 : decode cX4_lose 0 = .ok (.iload_n 1, 1) := dec_of dT_X4_lose_0_ok 0 rfl
theorem dX4_lose_1 : decode cX4_lose 1 = .ok (.iconst 0, 1) := dec_of dT_X4_lose_0_ok 1 rfl
theorem dX4_lose_2 : decode cX4_lose 2 = .ok (.sipush 200, 3) := dec_of dT_X4_lose_0_ok 2 rfl
theorem dX4_lose_5 : decode cX4_lose 5 = .ok (.invokestatic 61, 3) := dec_of dT_X4_lose_0_ok 3 rfl
theorem dX4_lose_8 : decode cX4_lose 8 = .ok (.ifCond .eq 14, 3) := dec_of dT_X4_lose_0_ok 4 rfl
theorem dX4_lose_11 : decode cX4_lose 11 = .ok (.iload_n 2, 1) := dec_of dT_X4_lose_0_ok 5 rfl
theorem dX4_lose_12 : decode cX4_lose 12 = .ok (.iconst 0, 1) := dec_of dT_X4_lose_0_ok 6 rfl
theorem dX4_lose_13 : decode cX4_lose 13 = .ok (.sipush 200, 3) := dec_of dT_X4_lose_0_ok 7 rfl
theorem dX4_lose_16 : decode cX4_lose 16 = .ok (.invokestatic 61, 3) := dec_of dT_X4_lose_0_ok 8 rfl
theorem dX4_lose_19 : decode cX4_lose 19 = .ok (.ifCond .ne 6, 3) := dec_of dT_X4_lose_0_ok 9 rfl
theorem dX4_lose_22 : decode cX4_lose 22 = .ok (.bipush (-2), 2) := dec_of dT_X4_lose_0_ok 10 rfl
theorem dX4_lose_24 : decode cX4_lose 24 = .ok (.ireturn, 1) := dec_of dT_X4_lose_0_ok 11 rfl
theorem dX4_lose_25 : decode cX4_lose 25 = .ok (.aload_n 0, 1) := dec_of dT_X4_lose_0_ok 12 rfl
theorem dX4_lose_26 : decode cX4_lose 26 = .ok (.getfield 19, 3) := dec_of dT_X4_lose_0_ok 13 rfl
theorem dX4_lose_29 : decode cX4_lose 29 = .ok (.iload_n 1, 1) := dec_of dT_X4_lose_0_ok 14 rfl
theorem dX4_lose_30 : decode cX4_lose 30 = .ok (.putfield 133, 3) := dec_of dT_X4_lose_0_ok 15 rfl
theorem dX4_lose_33 : decode cX4_lose 33 = .ok (.aload_n 0, 1) := dec_of dT_X4_lose_0_ok 16 rfl
theorem dX4_lose_34 : decode cX4_lose 34 = .ok (.getfield 19, 3) := dec_of dT_X4_lose_0_ok 17 rfl
theorem dX4_lose_37 : decode cX4_lose 37 = .ok (.iload_n 2, 1) := dec_of dT_X4_lose_0_ok 18 rfl
theorem dX4_lose_38 : decode cX4_lose 38 = .ok (.putfield 136, 3) := dec_of dT_X4_lose_0_ok 19 rfl
theorem dX4_lose_41 : decode cX4_lose 41 = .ok (.aload_n 0, 1) := dec_of dT_X4_lose_0_ok 20 rfl
theorem dX4_lose_42 : decode cX4_lose 42 = .ok (.invokevirtual 93, 3) := dec_of dT_X4_lose_0_ok 21 rfl
theorem dX4_lose_45 : decode cX4_lose 45 = .ok (.ireturn, 1) := dec_of dT_X4_lose_0_ok 22 rfl
def dT_X4_scrambled_0 : List (Nat × Instr × Nat) := [(0, .aload_n 0, 1), (1, .iload_n 1, 1), (2, .invokevirtual 78, 3), (5, .ifCond .eq 24, 3), (8, .aload_n 0, 1), (9, .getfield 12, 3), (12, .getfield 139, 3), (15, .aload_n 0, 1), (16, .getfield 12, 3), (19, .getfield 65, 3), (22, .iload_n 1, 1), (23, .invokestatic 85, 3), (26, .goto 5, 3), (29, .bipush (-2), 2), (31, .ireturn, 1)]
theorem dT_X4_scrambled_0_ok : (dT_X4_scrambled_0.all fun e => decide (decode cX4_scrambled e.1 = .ok (e.2.1, e.2.2))) = true := by decide +kernel
theorem dX4_scrambled_0 : decode cX4_scrambled 0 = .ok (.aload_n 0, 1) := dec_of dT_X4_scrambled_0_ok 0 rfl
theorem dX4_scrambled_1 : decode cX4_scrambled 1 = .ok (.iload_n 1, 1) := dec_of dT_X4_scrambled_0_ok 1 rfl
theorem dX4_scrambled_2 : decode cX4_scrambled 2 = .ok (.invokevirtual 78, 3) := dec_of dT_X4_scrambled_0_ok 2 rfl
theorem dX4_scrambled_5 : decode cX4_scrambled 5 = .ok (.ifCond .eq 24, 3) := dec_of dT_X4_scrambled_0_ok 3 rfl
theorem dX4_scrambled_8 : decode cX4_scrambled 8 = .ok (.aload_n 0, 1) := dec_of dT_X4_scrambled_0_ok 4 rfl
theorem dX4_scrambled_9 : decode cX4_scrambled 9 = .ok (.getfield 12, 3) := dec_of dT_X4_scrambled_0_ok 5 rfl
theorem dX4_scrambled_12 : decode cX4_scrambled 12 = .ok (.getfield 139, 3) := dec_of dT_X4_scrambled_0_ok 6 rfl
theorem dX4_scrambled_15 : decode cX4_scrambled 15 = .ok (.aload_n 0, 1) := dec_of dT_X4_scrambled_0_ok 7 rfl
theorem dX4_scrambled_16 : decode cX4_scrambled 16 = .ok (.getfield 12, 3) := dec_of dT_X4_scrambled_0_ok 8 rfl
theorem dX4_scrambled_19 : decode cX4_scrambled 19 = .ok (.getfield 65, 3) := dec_of dT_X4_scrambled_0_ok 9 rfl
theorem dX4_scrambled_22 : decode cX4_scrambled 22 = .ok (.iload_n 1, 1) := dec_of dT_X4_scrambled_0_ok 10 rfl
theorem dX4_scrambled_23 : decode cX4_scrambled 23 = .ok (.invokestatic 85, 3) := dec_of dT_X4_scrambled_0_ok 11 rfl
theorem dX4_scrambled_26 : decode cX4_scrambled 26 = .ok (.goto 5, 3) := dec_of dT_X4_scrambled_0_ok 12 rfl
theorem dX4_scrambled_29 : decode cX4_scrambled 29 = .ok (.bipush (-2), 2) := dec_of dT_X4_scrambled_0_ok 13 rfl
theorem dX4_scrambled_31 : decode cX4_scrambled 31 = .ok (.ireturn, 1) := dec_of dT_X4_scrambled_0_ok 14 rfl
def dT_X4_voice_0 : List (Nat × Instr × Nat) := [(0, .iload_n 1, 1), (1, .iconst 0, 1), (2, .aload_n 0, 1), (3, .getfield 12, 3), (6, .invokevirtual 142, 3), (9, .iconst 1, 1), (10, .isub, 1), (11, .invokestatic 61, 3), (14, .ifCond .eq 14, 3), (17, .aload_n 0, 1), (18, .getfield 12, 3), (21, .iload_n 1, 1), (22, .invokevirtual 145, 3), (25, .goto 5, 3), (28, .ldc 149, 2), (30, .ireturn, 1)]
theorem dT_X4_voice_0_ok : (dT_X4_voice_0.all fun e => decide (decode cX4_voice e.1 = .ok (e.2.1, e.2.2))) = true := by decide +kernel
theorem dX4_voice_0 : decode cX4_voice 0 = .ok (.iload_n 1, 1) := dec_of dT_X4_voice_0_ok 0 rfl
theorem dX4_voice_1 : decode cX4_voice 1 = .ok (.iconst 0, 1) := dec_of dT_X4_voice_0_ok 1 rfl
theorem dX4_voice_2 : decode cX4_voice 2 = .ok (.aload_n 0, 1) := dec_of dT_X4_voice_0_ok 2 rfl
theorem dX4_voice_3 : decode cX4_voice 3 = .ok (.getfield 12, 3) := dec_of dT_X4_voice_0_ok 3 rfl
theorem dX4_voice_6 : decode cX4_voice 6 = .ok (.invokevirtual 142, 3) := dec_of dT_X4_voice_0_ok 4 rfl
theorem dX4_voice_9 : decode cX4_voice 9 = .ok (.iconst 1, 1) := dec_of dT_X4_voice_0_ok 5 rfl
theorem dX4_voice_10 : decode cX4_voice 10 = .ok (.isub, 1) := dec_of dT_X4_voice_0_ok 6 rfl
theorem dX4_voice_11 : decode cX4_voice 11 = .ok (.invokestatic 61, 3) := dec_of dT_X4_voice_0_ok 7 rfl
theorem dX4_voice_14 : decode cX4_voice 14 = .ok (.ifCond .eq 14, 3) := dec_of dT_X4_voice_0_ok 8 rfl
theorem dX4_voice_17 : decode cX4_voice 17 = .ok (.aload_n 0, 1) := dec_of dT_X4_voice_0_ok 9 rfl
theorem dX4_voice_18 : decode cX4_voice 18 = .ok (.getfield 12, 3) := dec_of dT_X4_voice_0_ok 10 rfl
theorem dX4_voice_21 : decode cX4_voice 21 = .ok (.iload_n 1, 1) := dec_of dT_X4_voice_0_ok 11 rfl
theorem dX4_voice_22 : decode cX4_voice 22 = .ok (.invokevirtual 145, 3) := dec_of dT_X4_voice_0_ok 12 rfl
theorem dX4_voice_25 : decode cX4_voice 25 = .ok (.goto 5, 3) := dec_of dT_X4_voice_0_ok 13 rfl
theorem dX4_voice_28 : decode cX4_voice 28 = .ok (.ldc 149, 2) := dec_of dT_X4_voice_0_ok 14 rfl
theorem dX4_voice_30 : decode cX4_voice 30 = .ok (.ireturn, 1) := dec_of dT_X4_voice_0_ok 15 rfl
def dT_X4_hear_0 : List (Nat × Instr × Nat) := [(0, .aload_n 0, 1), (1, .getfield 26, 3), (4, .aload_n 0, 1), (5, .getfield 12, 3), (8, .aload_n 0, 1), (9, .getfield 19, 3), (12, .aload_n 0, 1), (13, .getfield 19, 3), (16, .getfield 130, 3), (19, .invokevirtual 150, 3), (22, .aload_n 0, 1), (23, .iconst 1, 1), (24, .putfield 44, 3), (27, .aload_n 0, 1), (28, .getfield 26, 3), (31, .getfield 154, 3), (34, .ireturn, 1)]
theorem dT_X4_hear_0_ok : (dT_X4_hear_0.all fun e => decide (decode cX4_hear e.1 = .ok (e.2.1, e.2.2))) = true := by decide +kernel
theorem dX4_hear_0 : decode cX4_hear 0 = .ok (.aload_n 0, 1) := dec_of dT_X4_hear_0_ok 0 rfl
theorem dX4_hear_1 : decode cX4_hear 1 = .ok (.getfield 26, 3) := dec_of dT_X4_hear_0_ok 1 rfl
theorem dX4_hear_4 : decode cX4_hear 4 = .ok (.aload_n 0, 1) := dec_of dT_X4_hear_0_ok 2 rfl
theorem dX4_hear_5 : decode cX4_hear 5 = .ok (.getfield 12, 3) := dec_of dT_X4_hear_0_ok 3 rfl
theorem dX4_hear_8 : decode cX4_hear 8 = .ok (.aload_n 0, 1) := dec_of dT_X4_hear_0_ok 4 rfl
theorem dX4_hear_9 : decode cX4_hear 9 = .ok (.getfield 19, 3) := dec_of dT_X4_hear_0_ok 5 rfl
theorem dX4_hear_12 : decode cX4_hear 12 = .ok (.aload_n 0, 1) := dec_of dT_X4_hear_0_ok 6 rfl
theorem dX4_hear_13 : decode cX4_hear 13 = .ok (.getfield 19, 3) := dec_of dT_X4_hear_0_ok 7 rfl
theorem dX4_hear_16 : decode cX4_hear 16 = .ok (.getfield 130, 3) := dec_of dT_X4_hear_0_ok 8 rfl
theorem dX4_hear_19 : decode cX4_hear 19 = .ok (.invokevirtual 150, 3) := dec_of dT_X4_hear_0_ok 9 rfl
theorem dX4_hear_22 : decode cX4_hear 22 = .ok (.aload_n 0, 1) := dec_of dT_X4_hear_0_ok 10 rfl
theorem dX4_hear_23 : decode cX4_hear 23 = .ok (.iconst 1, 1) := dec_of dT_X4_hear_0_ok 11 rfl
theorem dX4_hear_24 : decode cX4_hear 24 = .ok (.putfield 44, 3) := dec_of dT_X4_hear_0_ok 12 rfl
theorem dX4_hear_27 : decode cX4_hear 27 = .ok (.aload_n 0, 1) := dec_of dT_X4_hear_0_ok 13 rfl
theorem dX4_hear_28 : decode cX4_hear 28 = .ok (.getfield 26, 3) := dec_of dT_X4_hear_0_ok 14 rfl
theorem dX4_hear_31 : decode cX4_hear 31 = .ok (.getfield 154, 3) := dec_of dT_X4_hear_0_ok 15 rfl
theorem dX4_hear_34 : decode cX4_hear 34 = .ok (.ireturn, 1) := dec_of dT_X4_hear_0_ok 16 rfl
def dT_X4_sample_0 : List (Nat × Instr × Nat) := [(0, .aload_n 0, 1), (1, .getfield 44, 3), (4, .ifCond .eq 31, 3), (7, .iload_n 1, 1), (8, .iconst 0, 1), (9, .aload_n 0, 1), (10, .getfield 26, 3), (13, .getfield 154, 3), (16, .iconst 1, 1), (17, .isub, 1), (18, .invokestatic 61, 3), (21, .ifCond .eq 14, 3), (24, .aload_n 0, 1), (25, .getfield 26, 3), (28, .iload_n 1, 1), (29, .invokevirtual 157, 3), (32, .goto 5, 3), (35, .ldc 149, 2), (37, .ireturn, 1)]
theorem dT_X4_sample_0_ok : (dT_X4_sample_0.all fun e => decide (decode cX4_sample e.1 = .ok (e.2.1, e.2.2))) = true := by decide +kernel
theorem dX4_sample_0 : decode cX4_sample 0 = .ok (.aload_n 0, 1) := dec_of dT_X4_sample_0_ok 0 rfl
theorem dX4_sample_1 : decode cX4_sample 1 = .ok (.getfield 44, 3) := dec_of dT_X4_sample_0_ok 1 rfl
theorem dX4_sample_4 : decode cX4_sample 4 = .ok (.ifCond .eq 31, 3) := dec_of dT_X4_sample_0_ok 2 rfl
theorem dX4_sample_7 : decode cX4_sample 7 = .ok (.iload_n 1, 1) := dec_of dT_X4_sample_0_ok 3 rfl
theorem dX4_sample_8 : decode cX4_sample 8 = .ok (.iconst 0, 1) := dec_of dT_X4_sample_0_ok 4 rfl
theorem dX4_sample_9 : decode cX4_sample 9 = .ok (.aload_n 0, 1) := dec_of dT_X4_sample_0_ok 5 rfl
theorem dX4_sample_10 : decode cX4_sample 10 = .ok (.getfield 26, 3) := dec_of dT_X4_sample_0_ok 6 rfl
theorem dX4_sample_13 : decode cX4_sample 13 = .ok (.getfield 154, 3) := dec_of dT_X4_sample_0_ok 7 rfl
theorem dX4_sample_16 : decode cX4_sample 16 = .ok (.iconst 1, 1) := dec_of dT_X4_sample_0_ok 8 rfl
theorem dX4_sample_17 : decode cX4_sample 17 = .ok (.isub, 1) := dec_of dT_X4_sample_0_ok 9 rfl
theorem dX4_sample_18 : decode cX4_sample 18 = .ok (.invokestatic 61, 3) := dec_of dT_X4_sample_0_ok 10 rfl
theorem dX4_sample_21 : decode cX4_sample 21 = .ok (.ifCond .eq 14, 3) := dec_of dT_X4_sample_0_ok 11 rfl
theorem dX4_sample_24 : decode cX4_sample 24 = .ok (.aload_n 0, 1) := dec_of dT_X4_sample_0_ok 12 rfl
theorem dX4_sample_25 : decode cX4_sample 25 = .ok (.getfield 26, 3) := dec_of dT_X4_sample_0_ok 13 rfl
theorem dX4_sample_28 : decode cX4_sample 28 = .ok (.iload_n 1, 1) := dec_of dT_X4_sample_0_ok 14 rfl
theorem dX4_sample_29 : decode cX4_sample 29 = .ok (.invokevirtual 157, 3) := dec_of dT_X4_sample_0_ok 15 rfl
theorem dX4_sample_32 : decode cX4_sample 32 = .ok (.goto 5, 3) := dec_of dT_X4_sample_0_ok 16 rfl
theorem dX4_sample_35 : decode cX4_sample 35 = .ok (.ldc 149, 2) := dec_of dT_X4_sample_0_ok 17 rfl
theorem dX4_sample_37 : decode cX4_sample 37 = .ok (.ireturn, 1) := dec_of dT_X4_sample_0_ok 18 rfl
def dT_X4_least_0 : List (Nat × Instr × Nat) := [(0, .iload_n 1, 1), (1, .iconst 0, 1), (2, .ldc 160, 2), (4, .invokestatic 61, 3), (7, .ifCond .ne 6, 3), (10, .bipush (-2), 2), (12, .ireturn, 1), (13, .aload_n 0, 1), (14, .getfield 40, 3), (17, .istore_n 2, 1), (18, .aload_n 0, 1), (19, .iload_n 1, 1), (20, .putfield 40, 3), (23, .iload_n 2, 1), (24, .ireturn, 1)]
theorem dT_X4_least_0_ok : (dT_X4_least_0.all fun e => decide (decode cX4_least e.1 = .ok (e.2.1, e.2.2))) = true := by decide +kernel
theorem dX4_least_0 : decode cX4_least 0 = .ok (.iload_n 1, 1) := dec_of dT_X4_least_0_ok 0 rfl
theorem dX4_least_1 : decode cX4_least 1 = .ok (.iconst 0, 1) := dec_of dT_X4_least_0_ok 1 rfl
theorem dX4_least_2 : decode cX4_least 2 = .ok (.ldc 160, 2) := dec_of dT_X4_least_0_ok 2 rfl
theorem dX4_least_4 : decode cX4_least 4 = .ok (.invokestatic 61, 3) := dec_of dT_X4_least_0_ok 3 rfl
theorem dX4_least_7 : decode cX4_least 7 = .ok (.ifCond .ne 6, 3) := dec_of dT_X4_least_0_ok 4 rfl
theorem dX4_least_10 : decode cX4_least 10 = .ok (.bipush (-2), 2) := dec_of dT_X4_least_0_ok 5 rfl
theorem dX4_least_12 : decode cX4_least 12 = .ok (.ireturn, 1) := dec_of dT_X4_least_0_ok 6 rfl
theorem dX4_least_13 : decode cX4_least 13 = .ok (.aload_n 0, 1) := dec_of dT_X4_least_0_ok 7 rfl
theorem dX4_least_14 : decode cX4_least 14 = .ok (.getfield 40, 3) := dec_of dT_X4_least_0_ok 8 rfl
theorem dX4_least_17 : decode cX4_least 17 = .ok (.istore_n 2, 1) := dec_of dT_X4_least_0_ok 9 rfl
theorem dX4_least_18 : decode cX4_least 18 = .ok (.aload_n 0, 1) := dec_of dT_X4_least_0_ok 10 rfl
theorem dX4_least_19 : decode cX4_least 19 = .ok (.iload_n 1, 1) := dec_of dT_X4_least_0_ok 11 rfl
theorem dX4_least_20 : decode cX4_least 20 = .ok (.putfield 40, 3) := dec_of dT_X4_least_0_ok 12 rfl
theorem dX4_least_23 : decode cX4_least 23 = .ok (.iload_n 2, 1) := dec_of dT_X4_least_0_ok 13 rfl
theorem dX4_least_24 : decode cX4_least 24 = .ok (.ireturn, 1) := dec_of dT_X4_least_0_ok 14 rfl
def dT_X4_find_0 : List (Nat × Instr × Nat) := [(0, .aload_n 0, 1), (1, .getfield 44, 3), (4, .ifCond .ne 6, 3), (7, .bipush (-3), 2), (9, .ireturn, 1), (10, .aload_n 0, 1), (11, .aload_n 0, 1), (12, .getfield 26, 3), (15, .aload_n 0, 1), (16, .getfield 12, 3), (19, .aload_n 0, 1), (20, .getfield 19, 3), (23, .invokevirtual 161, 3), (26, .aload_n 0, 1), (27, .getfield 40, 3), (30, .invokevirtual 164, 3), (33, .putfield 48, 3), (36, .aload_n 0, 1), (37, .getfield 48, 3), (40, .iconst (-1), 1), (41, .if_icmp .ne 8, 3), (44, .aload_n 0, 1), (45, .iconst 0, 1), (46, .putfield 51, 3), (49, .aload_n 0, 1), (50, .getfield 48, 3), (53, .ireturn, 1)]
theorem dT_X4_find_0_ok : (dT_X4_find_0.all fun e => decide (decode cX4_find e.1 = .ok (e.2.1, e.2.2))) = true := by decide +kernel
theorem dX4_find_0 : decode cX4_find 0 = .ok (.aload_n 0, 1) := dec_of dT_X4_find_0_ok 0 rfl
theorem dX4_find_1 : decode cX4_find 1 = .ok (.getfield 44, 3) := dec_of dT_X4_find_0_ok 1 rfl
theorem dX4_find_4 : decode cX4_find 4 = .ok (.ifCond .ne 6, 3) := dec_of dT_X4_find_0_ok 2 rfl
theorem dX4_find_7 : decode cX4_find 7 = .ok (.bipush (-3), 2) := dec_of dT_X4_find_0_ok 3 rfl
theorem dX4_find_9 : decode cX4_find 9 = .ok (.ireturn, 1) := dec_of dT_X4_find_0_ok 4 rfl
theorem dX4_find_10 : decode cX4_find 10 = .ok (.aload_n 0, 1) := dec_of dT_X4_find_0_ok 5 rfl
theorem dX4_find_11 : decode cX4_find 11 = .ok (.aload_n 0, 1) := dec_of dT_X4_find_0_ok 6 rfl
theorem dX4_find_12 : decode cX4_find 12 = .ok (.getfield 26, 3) := dec_of dT_X4_find_0_ok 7 rfl
theorem dX4_find_15 : decode cX4_find 15 = .ok (.aload_n 0, 1) := dec_of dT_X4_find_0_ok 8 rfl
theorem dX4_find_16 : decode cX4_find 16 = .ok (.getfield 12, 3) := dec_of dT_X4_find_0_ok 9 rfl
theorem dX4_find_19 : decode cX4_find 19 = .ok (.aload_n 0, 1) := dec_of dT_X4_find_0_ok 10 rfl
theorem dX4_find_20 : decode cX4_find 20 = .ok (.getfield 19, 3) := dec_of dT_X4_find_0_ok 11 rfl
theorem dX4_find_23 : decode cX4_find 23 = .ok (.invokevirtual 161, 3) := dec_of dT_X4_find_0_ok 12 rfl
theorem dX4_find_26 : decode cX4_find 26 = .ok (.aload_n 0, 1) := dec_of dT_X4_find_0_ok 13 rfl
theorem dX4_find_27 : decode cX4_find 27 = .ok (.getfield 40, 3) := dec_of dT_X4_find_0_ok 14 rfl
theorem dX4_find_30 : decode cX4_find 30 = .ok (.invokevirtual 164, 3) := dec_of dT_X4_find_0_ok 15 rfl
theorem dX4_find_33 : decode cX4_find 33 = .ok (.putfield 48, 3) := dec_of dT_X4_find_0_ok 16 rfl
theorem dX4_find_36 : decode cX4_find 36 = .ok (.aload_n 0, 1) := dec_of dT_X4_find_0_ok 17 rfl
theorem dX4_find_37 : decode cX4_find 37 = .ok (.getfield 48, 3) := dec_of dT_X4_find_0_ok 18 rfl
theorem dX4_find_40 : decode cX4_find 40 = .ok (.iconst (-1), 1) := dec_of dT_X4_find_0_ok 19 rfl
theorem dX4_find_41 : decode cX4_find 41 = .ok (.if_icmp .ne 8, 3) := dec_of dT_X4_find_0_ok 20 rfl
theorem dX4_find_44 : decode cX4_find 44 = .ok (.aload_n 0, 1) := dec_of dT_X4_find_0_ok 21 rfl
theorem dX4_find_45 : decode cX4_find 45 = .ok (.iconst 0, 1) := dec_of dT_X4_find_0_ok 22 rfl
theorem dX4_find_46 : decode cX4_find 46 = .ok (.putfield 51, 3) := dec_of dT_X4_find_0_ok 23 rfl
theorem dX4_find_49 : decode cX4_find 49 = .ok (.aload_n 0, 1) := dec_of dT_X4_find_0_ok 24 rfl
theorem dX4_find_50 : decode cX4_find 50 = .ok (.getfield 48, 3) := dec_of dT_X4_find_0_ok 25 rfl
theorem dX4_find_53 : decode cX4_find 53 = .ok (.ireturn, 1) := dec_of dT_X4_find_0_ok 26 rfl
def dT_X4_likeness_0 : List (Nat × Instr × Nat) := [(0, .aload_n 0, 1), (1, .getfield 44, 3), (4, .ifCond .eq 33, 3), (7, .iload_n 1, 1), (8, .iconst 0, 1), (9, .aload_n 0, 1), (10, .getfield 19, 3), (13, .invokevirtual 161, 3), (16, .invokestatic 61, 3), (19, .ifCond .eq 18, 3), (22, .aload_n 0, 1), (23, .getfield 26, 3), (26, .aload_n 0, 1), (27, .getfield 12, 3), (30, .iload_n 1, 1), (31, .invokevirtual 168, 3), (34, .goto 5, 3), (37, .ldc 149, 2), (39, .ireturn, 1)]
theorem dT_X4_likeness_0_ok : (dT_X4_likeness_0.all fun e => decide (decode cX4_likeness e.1 = .ok (e.2.1, e.2.2))) = true := by decide +kernel
theorem dX4_likeness_0 : decode cX4_likeness 0 = .ok (.aload_n 0, 1) := dec_of dT_X4_likeness_0_ok 0 rfl
theorem dX4_likeness_1 : decode cX4_likeness 1 = .ok (.getfield 44, 3) := dec_of dT_X4_likeness_0_ok 1 rfl
theorem dX4_likeness_4 : decode cX4_likeness 4 = .ok (.ifCond .eq 33, 3) := dec_of dT_X4_likeness_0_ok 2 rfl
theorem dX4_likeness_7 : decode cX4_likeness 7 = .ok (.iload_n 1, 1) := dec_of dT_X4_likeness_0_ok 3 rfl
theorem dX4_likeness_8 : decode cX4_likeness 8 = .ok (.iconst 0, 1) := dec_of dT_X4_likeness_0_ok 4 rfl
theorem dX4_likeness_9 : decode cX4_likeness 9 = .ok (.aload_n 0, 1) := dec_of dT_X4_likeness_0_ok 5 rfl
theorem dX4_likeness_10 : decode cX4_likeness 10 = .ok (.getfield 19, 3) := dec_of dT_X4_likeness_0_ok 6 rfl
theorem dX4_likeness_13 : decode cX4_likeness 13 = .ok (.invokevirtual 161, 3) := dec_of dT_X4_likeness_0_ok 7 rfl
theorem dX4_likeness_16 : decode cX4_likeness 16 = .ok (.invokestatic 61, 3) := dec_of dT_X4_likeness_0_ok 8 rfl
theorem dX4_likeness_19 : decode cX4_likeness 19 = .ok (.ifCond .eq 18, 3) := dec_of dT_X4_likeness_0_ok 9 rfl
theorem dX4_likeness_22 : decode cX4_likeness 22 = .ok (.aload_n 0, 1) := dec_of dT_X4_likeness_0_ok 10 rfl
theorem dX4_likeness_23 : decode cX4_likeness 23 = .ok (.getfield 26, 3) := dec_of dT_X4_likeness_0_ok 11 rfl
theorem dX4_likeness_26 : decode cX4_likeness 26 = .ok (.aload_n 0, 1) := dec_of dT_X4_likeness_0_ok 12 rfl
theorem dX4_likeness_27 : decode cX4_likeness 27 = .ok (.getfield 12, 3) := dec_of dT_X4_likeness_0_ok 13 rfl
theorem dX4_likeness_30 : decode cX4_likeness 30 = .ok (.iload_n 1, 1) := dec_of dT_X4_likeness_0_ok 14 rfl
theorem dX4_likeness_31 : decode cX4_likeness 31 = .ok (.invokevirtual 168, 3) := dec_of dT_X4_likeness_0_ok 15 rfl
theorem dX4_likeness_34 : decode cX4_likeness 34 = .ok (.goto 5, 3) := dec_of dT_X4_likeness_0_ok 16 rfl
theorem dX4_likeness_37 : decode cX4_likeness 37 = .ok (.ldc 149, 2) := dec_of dT_X4_likeness_0_ok 17 rfl
theorem dX4_likeness_39 : decode cX4_likeness 39 = .ok (.ireturn, 1) := dec_of dT_X4_likeness_0_ok 18 rfl
def dT_X4_bring_0 : List (Nat × Instr × Nat) := [(0, .iload_n 1, 1), (1, .iload_n 2, 1), (2, .iload_n 3, 1), (3, .iload 4, 2), (5, .invokestatic 112, 3), (8, .ifCond .ne 7, 3), (11, .ldc2_w 172, 3), (14, .lreturn, 1), (15, .aload_n 0, 1), (16, .getfield 48, 3), (19, .iconst (-1), 1), (20, .if_icmp .eq 13, 3), (23, .aload_n 0, 1), (24, .getfield 12, 3), (27, .getfield 65, 3), (30, .ifCond .ne 7, 3), (33, .ldc2_w 174, 3), (36, .lreturn, 1), (37, .aload_n 0, 1), (38, .getfield 36, 3), (41, .getfield 176, 3), (44, .iload_n 1, 1), (45, .iload_n 2, 1), (46, .iload_n 3, 1), (47, .iload 4, 2), (49, .invokestatic 120, 3), (52, .aload_n 0, 1), (53, .getfield 36, 3), (56, .aload_n 0, 1), (57, .getfield 12, 3), (60, .aload_n 0, 1), (61, .getfield 26, 3), (64, .aload_n 0, 1), (65, .getfield 48, 3), (68, .invokevirtual 179, 3), (71, .aload_n 0, 1), (72, .aload_n 0, 1), (73, .getfield 36, 3), (76, .getfield 183, 3), (79, .putfield 54, 3), (82, .aload_n 0, 1), (83, .aload_n 0, 1), (84, .getfield 36, 3), (87, .getfield 183, 3), (90, .aload_n 0, 1), (91, .getfield 12, 3), (94, .getfield 65, 3), (97, .aload_n 0, 1), (98, .getfield 12, 3), (101, .getfield 186, 3), (104, .invokestatic 189, 3), (107, .putfield 58, 3), (110, .aload_n 0, 1), (111, .iconst 1, 1), (112, .putfield 51, 3), (115, .aload_n 0, 1), (116, .getfield 36, 3), (119, .getfield 193, 3), (122, .lreturn, 1)]
theorem dT_X4_bring_0_ok : (dT_X4_bring_0.all fun e => decide (decode cX4_bring e.1 = .ok (e.2.1, e.2.2))) = true := by decide +kernel
theorem dX4_bring_0 : decode cX4_bring 0 = .ok (.iload_n 1, 1) := dec_of dT_X4_bring_0_ok 0 rfl
theorem dX4_bring_1 : decode cX4_bring 1 = .ok (.iload_n 2, 1) := dec_of dT_X4_bring_0_ok 1 rfl
theorem dX4_bring_2 : decode cX4_bring 2 = .ok (.iload_n 3, 1) := dec_of dT_X4_bring_0_ok 2 rfl
theorem dX4_bring_3 : decode cX4_bring 3 = .ok (.iload 4, 2) := dec_of dT_X4_bring_0_ok 3 rfl
theorem dX4_bring_5 : decode cX4_bring 5 = .ok (.invokestatic 112, 3) := dec_of dT_X4_bring_0_ok 4 rfl
theorem dX4_bring_8 : decode cX4_bring 8 = .ok (.ifCond .ne 7, 3) := dec_of dT_X4_bring_0_ok 5 rfl
theorem dX4_bring_11 : decode cX4_bring 11 = .ok (.ldc2_w 172, 3) := dec_of dT_X4_bring_0_ok 6 rfl
theorem dX4_bring_14 : decode cX4_bring 14 = .ok (.lreturn, 1) := dec_of dT_X4_bring_0_ok 7 rfl
theorem dX4_bring_15 : decode cX4_bring 15 = .ok (.aload_n 0, 1) := dec_of dT_X4_bring_0_ok 8 rfl
theorem dX4_bring_16 : decode cX4_bring 16 = .ok (.getfield 48, 3) := dec_of dT_X4_bring_0_ok 9 rfl
theorem dX4_bring_19 : decode cX4_bring 19 = .ok (.iconst (-1), 1) := dec_of dT_X4_bring_0_ok 10 rfl
theorem dX4_bring_20 : decode cX4_bring 20 = .ok (.if_icmp .eq 13, 3) := dec_of dT_X4_bring_0_ok 11 rfl
theorem dX4_bring_23 : decode cX4_bring 23 = .ok (.aload_n 0, 1) := dec_of dT_X4_bring_0_ok 12 rfl
theorem dX4_bring_24 : decode cX4_bring 24 = .ok (.getfield 12, 3) := dec_of dT_X4_bring_0_ok 13 rfl
theorem dX4_bring_27 : decode cX4_bring 27 = .ok (.getfield 65, 3) := dec_of dT_X4_bring_0_ok 14 rfl
theorem dX4_bring_30 : decode cX4_bring 30 = .ok (.ifCond .ne 7, 3) := dec_of dT_X4_bring_0_ok 15 rfl
theorem dX4_bring_33 : decode cX4_bring 33 = .ok (.ldc2_w 174, 3) := dec_of dT_X4_bring_0_ok 16 rfl
theorem dX4_bring_36 : decode cX4_bring 36 = .ok (.lreturn, 1) := dec_of dT_X4_bring_0_ok 17 rfl
theorem dX4_bring_37 : decode cX4_bring 37 = .ok (.aload_n 0, 1) := dec_of dT_X4_bring_0_ok 18 rfl
theorem dX4_bring_38 : decode cX4_bring 38 = .ok (.getfield 36, 3) := dec_of dT_X4_bring_0_ok 19 rfl
theorem dX4_bring_41 : decode cX4_bring 41 = .ok (.getfield 176, 3) := dec_of dT_X4_bring_0_ok 20 rfl
theorem dX4_bring_44 : decode cX4_bring 44 = .ok (.iload_n 1, 1) := dec_of dT_X4_bring_0_ok 21 rfl
theorem dX4_bring_45 : decode cX4_bring 45 = .ok (.iload_n 2, 1) := dec_of dT_X4_bring_0_ok 22 rfl
theorem dX4_bring_46 : decode cX4_bring 46 = .ok (.iload_n 3, 1) := dec_of dT_X4_bring_0_ok 23 rfl
theorem dX4_bring_47 : decode cX4_bring 47 = .ok (.iload 4, 2) := dec_of dT_X4_bring_0_ok 24 rfl
theorem dX4_bring_49 : decode cX4_bring 49 = .ok (.invokestatic 120, 3) := dec_of dT_X4_bring_0_ok 25 rfl
theorem dX4_bring_52 : decode cX4_bring 52 = .ok (.aload_n 0, 1) := dec_of dT_X4_bring_0_ok 26 rfl
theorem dX4_bring_53 : decode cX4_bring 53 = .ok (.getfield 36, 3) := dec_of dT_X4_bring_0_ok 27 rfl
theorem dX4_bring_56 : decode cX4_bring 56 = .ok (.aload_n 0, 1) := dec_of dT_X4_bring_0_ok 28 rfl
theorem dX4_bring_57 : decode cX4_bring 57 = .ok (.getfield 12, 3) := dec_of dT_X4_bring_0_ok 29 rfl
theorem dX4_bring_60 : decode cX4_bring 60 = .ok (.aload_n 0, 1) := dec_of dT_X4_bring_0_ok 30 rfl
theorem dX4_bring_61 : decode cX4_bring 61 = .ok (.getfield 26, 3) := dec_of dT_X4_bring_0_ok 31 rfl
theorem dX4_bring_64 : decode cX4_bring 64 = .ok (.aload_n 0, 1) := dec_of dT_X4_bring_0_ok 32 rfl
theorem dX4_bring_65 : decode cX4_bring 65 = .ok (.getfield 48, 3) := dec_of dT_X4_bring_0_ok 33 rfl
theorem dX4_bring_68 : decode cX4_bring 68 = .ok (.invokevirtual 179, 3) := dec_of dT_X4_bring_0_ok 34 rfl
theorem dX4_bring_71 : decode cX4_bring 71 = .ok (.aload_n 0, 1) := dec_of dT_X4_bring_0_ok 35 rfl
theorem dX4_bring_72 : decode cX4_bring 72 = .ok (.aload_n 0, 1) := dec_of dT_X4_bring_0_ok 36 rfl
theorem dX4_bring_73 : decode cX4_bring 73 = .ok (.getfield 36, 3) := dec_of dT_X4_bring_0_ok 37 rfl
theorem dX4_bring_76 : decode cX4_bring 76 = .ok (.getfield 183, 3) := dec_of dT_X4_bring_0_ok 38 rfl
theorem dX4_bring_79 : decode cX4_bring 79 = .ok (.putfield 54, 3) := dec_of dT_X4_bring_0_ok 39 rfl
theorem dX4_bring_82 : decode cX4_bring 82 = .ok (.aload_n 0, 1) := dec_of dT_X4_bring_0_ok 40 rfl
theorem dX4_bring_83 : decode cX4_bring 83 = .ok (.aload_n 0, 1) := dec_of dT_X4_bring_0_ok 41 rfl
theorem dX4_bring_84 : decode cX4_bring 84 = .ok (.getfield 36, 3) := dec_of dT_X4_bring_0_ok 42 rfl
theorem dX4_bring_87 : decode cX4_bring 87 = .ok (.getfield 183, 3) := dec_of dT_X4_bring_0_ok 43 rfl
theorem dX4_bring_90 : decode cX4_bring 90 = .ok (.aload_n 0, 1) := dec_of dT_X4_bring_0_ok 44 rfl
theorem dX4_bring_91 : decode cX4_bring 91 = .ok (.getfield 12, 3) := dec_of dT_X4_bring_0_ok 45 rfl
theorem dX4_bring_94 : decode cX4_bring 94 = .ok (.getfield 65, 3) := dec_of dT_X4_bring_0_ok 46 rfl
theorem dX4_bring_97 : decode cX4_bring 97 = .ok (.aload_n 0, 1) := dec_of dT_X4_bring_0_ok 47 rfl
theorem dX4_bring_98 : decode cX4_bring 98 = .ok (.getfield 12, 3) := dec_of dT_X4_bring_0_ok 48 rfl
theorem dX4_bring_101 : decode cX4_bring 101 = .ok (.getfield 186, 3) := dec_of dT_X4_bring_0_ok 49 rfl
theorem dX4_bring_104 : decode cX4_bring 104 = .ok (.invokestatic 189, 3) := dec_of dT_X4_bring_0_ok 50 rfl
theorem dX4_bring_107 : decode cX4_bring 107 = .ok (.putfield 58, 3) := dec_of dT_X4_bring_0_ok 51 rfl
theorem dX4_bring_110 : decode cX4_bring 110 = .ok (.aload_n 0, 1) := dec_of dT_X4_bring_0_ok 52 rfl
theorem dX4_bring_111 : decode cX4_bring 111 = .ok (.iconst 1, 1) := dec_of dT_X4_bring_0_ok 53 rfl
theorem dX4_bring_112 : decode cX4_bring 112 = .ok (.putfield 51, 3) := dec_of dT_X4_bring_0_ok 54 rfl
theorem dX4_bring_115 : decode cX4_bring 115 = .ok (.aload_n 0, 1) := dec_of dT_X4_bring_0_ok 55 rfl
theorem dX4_bring_116 : decode cX4_bring 116 = .ok (.getfield 36, 3) := dec_of dT_X4_bring_0_ok 56 rfl
theorem dX4_bring_119 : decode cX4_bring 119 = .ok (.getfield 193, 3) := dec_of dT_X4_bring_0_ok 57 rfl
theorem dX4_bring_122 : decode cX4_bring 122 = .ok (.lreturn, 1) := dec_of dT_X4_bring_0_ok 58 rfl
def dT_X4_brought_0 : List (Nat × Instr × Nat) := [(0, .iload_n 1, 1), (1, .iconst 0, 1), (2, .iconst 1, 1), (3, .invokestatic 61, 3), (6, .ifCond .eq 11, 3), (9, .aload_n 0, 1), (10, .iload_n 2, 1), (11, .invokevirtual 78, 3), (14, .ifCond .ne 6, 3), (17, .bipush (-2), 2), (19, .ireturn, 1), (20, .aload_n 0, 1), (21, .getfield 51, 3), (24, .ifCond .ne 6, 3), (27, .bipush (-3), 2), (29, .ireturn, 1), (30, .iload_n 1, 1), (31, .iconst 1, 1), (32, .if_icmp .ne 10, 3), (35, .aload_n 0, 1), (36, .getfield 54, 3), (39, .goto 7, 3), (42, .aload_n 0, 1), (43, .getfield 58, 3), (46, .aload_n 0, 1), (47, .getfield 12, 3), (50, .getfield 65, 3), (53, .iload_n 2, 1), (54, .invokestatic 85, 3), (57, .ireturn, 1)]
theorem dT_X4_brought_0_ok : (dT_X4_brought_0.all fun e => decide (decode cX4_brought e.1 = .ok (e.2.1, e.2.2))) = true := by decide +kernel
theorem dX4_brought_0 : decode cX4_brought 0 = .ok (.iload_n 1, 1) := dec_of dT_X4_brought_0_ok 0 rfl
theorem dX4_brought_1 : decode cX4_brought 1 = .ok (.iconst 0, 1) := dec_of dT_X4_brought_0_ok 1 rfl
theorem dX4_brought_2 : decode cX4_brought 2 = .ok (.iconst 1, 1) := dec_of dT_X4_brought_0_ok 2 rfl
theorem dX4_brought_3 : decode cX4_brought 3 = .ok (.invokestatic 61, 3) := dec_of dT_X4_brought_0_ok 3 rfl
theorem dX4_brought_6 : decode cX4_brought 6 = .ok (.ifCond .eq 11, 3) := dec_of dT_X4_brought_0_ok 4 rfl
theorem dX4_brought_9 : decode cX4_brought 9 = .ok (.aload_n 0, 1) := dec_of dT_X4_brought_0_ok 5 rfl
theorem dX4_brought_10 : decode cX4_brought 10 = .ok (.iload_n 2, 1) := dec_of dT_X4_brought_0_ok 6 rfl
theorem dX4_brought_11 : decode cX4_brought 11 = .ok (.invokevirtual 78, 3) := dec_of dT_X4_brought_0_ok 7 rfl
theorem dX4_brought_14 : decode cX4_brought 14 = .ok (.ifCond .ne 6, 3) := dec_of dT_X4_brought_0_ok 8 rfl
theorem dX4_brought_17 : decode cX4_brought 17 = .ok (.bipush (-2), 2) := dec_of dT_X4_brought_0_ok 9 rfl
theorem dX4_brought_19 : decode cX4_brought 19 = .ok (.ireturn, 1) := dec_of dT_X4_brought_0_ok 10 rfl
theorem dX4_brought_20 : decode cX4_brought 20 = .ok (.aload_n 0, 1) := dec_of dT_X4_brought_0_ok 11 rfl
theorem dX4_brought_21 : decode cX4_brought 21 = .ok (.getfield 51, 3) := dec_of dT_X4_brought_0_ok 12 rfl
theorem dX4_brought_24 : decode cX4_brought 24 = .ok (.ifCond .ne 6, 3) := dec_of dT_X4_brought_0_ok 13 rfl
theorem dX4_brought_27 : decode cX4_brought 27 = .ok (.bipush (-3), 2) := dec_of dT_X4_brought_0_ok 14 rfl
theorem dX4_brought_29 : decode cX4_brought 29 = .ok (.ireturn, 1) := dec_of dT_X4_brought_0_ok 15 rfl
theorem dX4_brought_30 : decode cX4_brought 30 = .ok (.iload_n 1, 1) := dec_of dT_X4_brought_0_ok 16 rfl
theorem dX4_brought_31 : decode cX4_brought 31 = .ok (.iconst 1, 1) := dec_of dT_X4_brought_0_ok 17 rfl
theorem dX4_brought_32 : decode cX4_brought 32 = .ok (.if_icmp .ne 10, 3) := dec_of dT_X4_brought_0_ok 18 rfl
theorem dX4_brought_35 : decode cX4_brought 35 = .ok (.aload_n 0, 1) := dec_of dT_X4_brought_0_ok 19 rfl
theorem dX4_brought_36 : decode cX4_brought 36 = .ok (.getfield 54, 3) := dec_of dT_X4_brought_0_ok 20 rfl
theorem dX4_brought_39 : decode cX4_brought 39 = .ok (.goto 7, 3) := dec_of dT_X4_brought_0_ok 21 rfl
theorem dX4_brought_42 : decode cX4_brought 42 = .ok (.aload_n 0, 1) := dec_of dT_X4_brought_0_ok 22 rfl
theorem dX4_brought_43 : decode cX4_brought 43 = .ok (.getfield 58, 3) := dec_of dT_X4_brought_0_ok 23 rfl
theorem dX4_brought_46 : decode cX4_brought 46 = .ok (.aload_n 0, 1) := dec_of dT_X4_brought_0_ok 24 rfl
theorem dX4_brought_47 : decode cX4_brought 47 = .ok (.getfield 12, 3) := dec_of dT_X4_brought_0_ok 25 rfl
theorem dX4_brought_50 : decode cX4_brought 50 = .ok (.getfield 65, 3) := dec_of dT_X4_brought_0_ok 26 rfl
theorem dX4_brought_53 : decode cX4_brought 53 = .ok (.iload_n 2, 1) := dec_of dT_X4_brought_0_ok 27 rfl
theorem dX4_brought_54 : decode cX4_brought 54 = .ok (.invokestatic 85, 3) := dec_of dT_X4_brought_0_ok 28 rfl
theorem dX4_brought_57 : decode cX4_brought 57 = .ok (.ireturn, 1) := dec_of dT_X4_brought_0_ok 29 rfl
def dT_X4_errors_0 : List (Nat × Instr × Nat) := [(0, .aload_n 0, 1), (1, .getfield 51, 3), (4, .ifCond .eq 20, 3), (7, .aload_n 0, 1), (8, .getfield 58, 3), (11, .aload_n 0, 1), (12, .getfield 12, 3), (15, .getfield 82, 3), (18, .invokestatic 196, 3), (21, .goto 5, 3), (24, .bipush (-3), 2), (26, .ireturn, 1)]
theorem dT_X4_errors_0_ok : (dT_X4_errors_0.all fun e => decide (decode cX4_errors e.1 = .ok (e.2.1, e.2.2))) = true := by decide +kernel
theorem dX4_errors_0 : decode cX4_errors 0 = .ok (.aload_n 0, 1) := dec_of dT_X4_errors_0_ok 0 rfl
theorem dX4_errors_1 : decode cX4_errors 1 = .ok (.getfield 51, 3) := dec_of dT_X4_errors_0_ok 1 rfl
theorem dX4_errors_4 : decode cX4_errors 4 = .ok (.ifCond .eq 20, 3) := dec_of dT_X4_errors_0_ok 2 rfl
theorem dX4_errors_7 : decode cX4_errors 7 = .ok (.aload_n 0, 1) := dec_of dT_X4_errors_0_ok 3 rfl
theorem dX4_errors_8 : decode cX4_errors 8 = .ok (.getfield 58, 3) := dec_of dT_X4_errors_0_ok 4 rfl
theorem dX4_errors_11 : decode cX4_errors 11 = .ok (.aload_n 0, 1) := dec_of dT_X4_errors_0_ok 5 rfl
theorem dX4_errors_12 : decode cX4_errors 12 = .ok (.getfield 12, 3) := dec_of dT_X4_errors_0_ok 6 rfl
theorem dX4_errors_15 : decode cX4_errors 15 = .ok (.getfield 82, 3) := dec_of dT_X4_errors_0_ok 7 rfl
theorem dX4_errors_18 : decode cX4_errors 18 = .ok (.invokestatic 196, 3) := dec_of dT_X4_errors_0_ok 8 rfl
theorem dX4_errors_21 : decode cX4_errors 21 = .ok (.goto 5, 3) := dec_of dT_X4_errors_0_ok 9 rfl
theorem dX4_errors_24 : decode cX4_errors 24 = .ok (.bipush (-3), 2) := dec_of dT_X4_errors_0_ok 10 rfl
theorem dX4_errors_26 : decode cX4_errors 26 = .ok (.ireturn, 1) := dec_of dT_X4_errors_0_ok 11 rfl
def dT_X4_sweep_0 : List (Nat × Instr × Nat) := [(0, .iload_n 1, 1), (1, .iconst 1, 1), (2, .bipush 20, 2), (4, .invokestatic 61, 3), (7, .ifCond .ne 6, 3), (10, .bipush (-2), 2), (12, .ireturn, 1), (13, .iconst 0, 1), (14, .istore_n 2, 1), (15, .iconst 0, 1), (16, .istore_n 3, 1), (17, .iload_n 3, 1), (18, .iload_n 1, 1), (19, .if_icmp .ge 25, 3), (22, .iload_n 2, 1), (23, .aload_n 0, 1), (24, .aload_n 0, 1), (25, .getfield 19, 3), (28, .getfield 130, 3), (31, .iload_n 3, 1), (32, .iadd, 1), (33, .invokevirtual 200, 3), (36, .iadd, 1), (37, .istore_n 2, 1), (38, .iinc 3 1, 3), (41, .goto (-24), 3), (44, .iload_n 2, 1), (45, .ireturn, 1)]
theorem dT_X4_sweep_0_ok : (dT_X4_sweep_0.all fun e => decide (decode cX4_sweep e.1 = .ok (e.2.1, e.2.2))) = true := by decide +kernel
theorem dX4_sweep_0 : decode cX4_sweep 0 = .ok (.iload_n 1, 1) := dec_of dT_X4_sweep_0_ok 0 rfl
theorem dX4_sweep_1 : decode cX4_sweep 1 = .ok (.iconst 1, 1) := dec_of dT_X4_sweep_0_ok 1 rfl
theorem dX4_sweep_2 : decode cX4_sweep 2 = .ok (.bipush 20, 2) := dec_of dT_X4_sweep_0_ok 2 rfl
theorem dX4_sweep_4 : decode cX4_sweep 4 = .ok (.invokestatic 61, 3) := dec_of dT_X4_sweep_0_ok 3 rfl
theorem dX4_sweep_7 : decode cX4_sweep 7 = .ok (.ifCond .ne 6, 3) := dec_of dT_X4_sweep_0_ok 4 rfl
theorem dX4_sweep_10 : decode cX4_sweep 10 = .ok (.bipush (-2), 2) := dec_of dT_X4_sweep_0_ok 5 rfl
theorem dX4_sweep_12 : decode cX4_sweep 12 = .ok (.ireturn, 1) := dec_of dT_X4_sweep_0_ok 6 rfl
theorem dX4_sweep_13 : decode cX4_sweep 13 = .ok (.iconst 0, 1) := dec_of dT_X4_sweep_0_ok 7 rfl
theorem dX4_sweep_14 : decode cX4_sweep 14 = .ok (.istore_n 2, 1) := dec_of dT_X4_sweep_0_ok 8 rfl
theorem dX4_sweep_15 : decode cX4_sweep 15 = .ok (.iconst 0, 1) := dec_of dT_X4_sweep_0_ok 9 rfl
theorem dX4_sweep_16 : decode cX4_sweep 16 = .ok (.istore_n 3, 1) := dec_of dT_X4_sweep_0_ok 10 rfl
theorem dX4_sweep_17 : decode cX4_sweep 17 = .ok (.iload_n 3, 1) := dec_of dT_X4_sweep_0_ok 11 rfl
theorem dX4_sweep_18 : decode cX4_sweep 18 = .ok (.iload_n 1, 1) := dec_of dT_X4_sweep_0_ok 12 rfl
theorem dX4_sweep_19 : decode cX4_sweep 19 = .ok (.if_icmp .ge 25, 3) := dec_of dT_X4_sweep_0_ok 13 rfl
theorem dX4_sweep_22 : decode cX4_sweep 22 = .ok (.iload_n 2, 1) := dec_of dT_X4_sweep_0_ok 14 rfl
theorem dX4_sweep_23 : decode cX4_sweep 23 = .ok (.aload_n 0, 1) := dec_of dT_X4_sweep_0_ok 15 rfl
theorem dX4_sweep_24 : decode cX4_sweep 24 = .ok (.aload_n 0, 1) := dec_of dT_X4_sweep_0_ok 16 rfl
theorem dX4_sweep_25 : decode cX4_sweep 25 = .ok (.getfield 19, 3) := dec_of dT_X4_sweep_0_ok 17 rfl
theorem dX4_sweep_28 : decode cX4_sweep 28 = .ok (.getfield 130, 3) := dec_of dT_X4_sweep_0_ok 18 rfl
theorem dX4_sweep_31 : decode cX4_sweep 31 = .ok (.iload_n 3, 1) := dec_of dT_X4_sweep_0_ok 19 rfl
theorem dX4_sweep_32 : decode cX4_sweep 32 = .ok (.iadd, 1) := dec_of dT_X4_sweep_0_ok 20 rfl
theorem dX4_sweep_33 : decode cX4_sweep 33 = .ok (.invokevirtual 200, 3) := dec_of dT_X4_sweep_0_ok 21 rfl
theorem dX4_sweep_36 : decode cX4_sweep 36 = .ok (.iadd, 1) := dec_of dT_X4_sweep_0_ok 22 rfl
theorem dX4_sweep_37 : decode cX4_sweep 37 = .ok (.istore_n 2, 1) := dec_of dT_X4_sweep_0_ok 23 rfl
theorem dX4_sweep_38 : decode cX4_sweep 38 = .ok (.iinc 3 1, 3) := dec_of dT_X4_sweep_0_ok 24 rfl
theorem dX4_sweep_41 : decode cX4_sweep 41 = .ok (.goto (-24), 3) := dec_of dT_X4_sweep_0_ok 25 rfl
theorem dX4_sweep_44 : decode cX4_sweep 44 = .ok (.iload_n 2, 1) := dec_of dT_X4_sweep_0_ok 26 rfl
theorem dX4_sweep_45 : decode cX4_sweep 45 = .ok (.ireturn, 1) := dec_of dT_X4_sweep_0_ok 27 rfl
def dT_X4_whole_0 : List (Nat × Instr × Nat) := [(0, .iload_n 1, 1), (1, .iconst 1, 1), (2, .bipush 20, 2), (4, .invokestatic 61, 3), (7, .ifCond .ne 6, 3), (10, .bipush (-2), 2), (12, .ireturn, 1), (13, .iconst 0, 1), (14, .istore_n 2, 1), (15, .iload_n 2, 1), (16, .iload_n 1, 1), (17, .if_icmp .ge 29, 3), (20, .aload_n 0, 1), (21, .aload_n 0, 1), (22, .getfield 19, 3), (25, .getfield 130, 3), (28, .iload_n 2, 1), (29, .iadd, 1), (30, .invokevirtual 200, 3), (33, .ifCond .ne 7, 3), (36, .iload_n 2, 1), (37, .iconst 1, 1), (38, .iadd, 1), (39, .ireturn, 1), (40, .iinc 2 1, 3), (43, .goto (-28), 3), (46, .iconst (-1), 1), (47, .ireturn, 1)]
theorem dT_X4_whole_0_ok : (dT_X4_whole_0.all fun e => decide (decode cX4_whole e.1 = .ok (e.2.1, e.2.2))) = true := by decide +kernel
theorem dX4_whole_0 : decode cX4_whole 0 = .ok (.iload_n 1, 1) := dec_of dT_X4_whole_0_ok 0 rfl
theorem dX4_whole_1 : decode cX4_whole 1 = .ok (.iconst 1, 1) := dec_of dT_X4_whole_0_ok 1 rfl
theorem dX4_whole_2 : decode cX4_whole 2 = .ok (.bipush 20, 2) := dec_of dT_X4_whole_0_ok 2 rfl
theorem dX4_whole_4 : decode cX4_whole 4 = .ok (.invokestatic 61, 3) := dec_of dT_X4_whole_0_ok 3 rfl
theorem dX4_whole_7 : decode cX4_whole 7 = .ok (.ifCond .ne 6, 3) := dec_of dT_X4_whole_0_ok 4 rfl
theorem dX4_whole_10 : decode cX4_whole 10 = .ok (.bipush (-2), 2) := dec_of dT_X4_whole_0_ok 5 rfl
theorem dX4_whole_12 : decode cX4_whole 12 = .ok (.ireturn, 1) := dec_of dT_X4_whole_0_ok 6 rfl
theorem dX4_whole_13 : decode cX4_whole 13 = .ok (.iconst 0, 1) := dec_of dT_X4_whole_0_ok 7 rfl
theorem dX4_whole_14 : decode cX4_whole 14 = .ok (.istore_n 2, 1) := dec_of dT_X4_whole_0_ok 8 rfl
theorem dX4_whole_15 : decode cX4_whole 15 = .ok (.iload_n 2, 1) := dec_of dT_X4_whole_0_ok 9 rfl
theorem dX4_whole_16 : decode cX4_whole 16 = .ok (.iload_n 1, 1) := dec_of dT_X4_whole_0_ok 10 rfl
theorem dX4_whole_17 : decode cX4_whole 17 = .ok (.if_icmp .ge 29, 3) := dec_of dT_X4_whole_0_ok 11 rfl
theorem dX4_whole_20 : decode cX4_whole 20 = .ok (.aload_n 0, 1) := dec_of dT_X4_whole_0_ok 12 rfl
theorem dX4_whole_21 : decode cX4_whole 21 = .ok (.aload_n 0, 1) := dec_of dT_X4_whole_0_ok 13 rfl
theorem dX4_whole_22 : decode cX4_whole 22 = .ok (.getfield 19, 3) := dec_of dT_X4_whole_0_ok 14 rfl
theorem dX4_whole_25 : decode cX4_whole 25 = .ok (.getfield 130, 3) := dec_of dT_X4_whole_0_ok 15 rfl
theorem dX4_whole_28 : decode cX4_whole 28 = .ok (.iload_n 2, 1) := dec_of dT_X4_whole_0_ok 16 rfl
theorem dX4_whole_29 : decode cX4_whole 29 = .ok (.iadd, 1) := dec_of dT_X4_whole_0_ok 17 rfl
theorem dX4_whole_30 : decode cX4_whole 30 = .ok (.invokevirtual 200, 3) := dec_of dT_X4_whole_0_ok 18 rfl
theorem dX4_whole_33 : decode cX4_whole 33 = .ok (.ifCond .ne 7, 3) := dec_of dT_X4_whole_0_ok 19 rfl
theorem dX4_whole_36 : decode cX4_whole 36 = .ok (.iload_n 2, 1) := dec_of dT_X4_whole_0_ok 20 rfl
theorem dX4_whole_37 : decode cX4_whole 37 = .ok (.iconst 1, 1) := dec_of dT_X4_whole_0_ok 21 rfl
theorem dX4_whole_38 : decode cX4_whole 38 = .ok (.iadd, 1) := dec_of dT_X4_whole_0_ok 22 rfl
theorem dX4_whole_39 : decode cX4_whole 39 = .ok (.ireturn, 1) := dec_of dT_X4_whole_0_ok 23 rfl
theorem dX4_whole_40 : decode cX4_whole 40 = .ok (.iinc 2 1, 3) := dec_of dT_X4_whole_0_ok 24 rfl
theorem dX4_whole_43 : decode cX4_whole 43 = .ok (.goto (-28), 3) := dec_of dT_X4_whole_0_ok 25 rfl
theorem dX4_whole_46 : decode cX4_whole 46 = .ok (.iconst (-1), 1) := dec_of dT_X4_whole_0_ok 26 rfl
theorem dX4_whole_47 : decode cX4_whole 47 = .ok (.ireturn, 1) := dec_of dT_X4_whole_0_ok 27 rfl
def dT_X4_count_0 : List (Nat × Instr × Nat) := [(0, .iload_n 1, 1), (1, .tableswitch 88 0 4 #[35, 43, 51, 70, 75], 35), (36, .aload_n 0, 1), (37, .getfield 12, 3), (40, .getfield 65, 3), (43, .ireturn, 1), (44, .aload_n 0, 1), (45, .getfield 12, 3), (48, .invokevirtual 142, 3), (51, .ireturn, 1), (52, .aload_n 0, 1), (53, .getfield 44, 3), (56, .ifCond .eq 13, 3), (59, .aload_n 0, 1), (60, .getfield 26, 3), (63, .getfield 154, 3), (66, .goto 4, 3), (69, .iconst (-1), 1), (70, .ireturn, 1), (71, .aload_n 0, 1), (72, .getfield 48, 3), (75, .ireturn, 1), (76, .aload_n 0, 1), (77, .getfield 51, 3), (80, .ifCond .eq 7, 3), (83, .iconst 1, 1), (84, .goto 4, 3), (87, .iconst 0, 1), (88, .ireturn, 1), (89, .bipush (-2), 2), (91, .ireturn, 1)]
theorem dT_X4_count_0_ok : (dT_X4_count_0.all fun e => decide (decode cX4_count e.1 = .ok (e.2.1, e.2.2))) = true := by decide +kernel
theorem dX4_count_0 : decode cX4_count 0 = .ok (.iload_n 1, 1) := dec_of dT_X4_count_0_ok 0 rfl
theorem dX4_count_1 : decode cX4_count 1 = .ok (.tableswitch 88 0 4 #[35, 43, 51, 70, 75], 35) := dec_of dT_X4_count_0_ok 1 rfl
theorem dX4_count_36 : decode cX4_count 36 = .ok (.aload_n 0, 1) := dec_of dT_X4_count_0_ok 2 rfl
theorem dX4_count_37 : decode cX4_count 37 = .ok (.getfield 12, 3) := dec_of dT_X4_count_0_ok 3 rfl
theorem dX4_count_40 : decode cX4_count 40 = .ok (.getfield 65, 3) := dec_of dT_X4_count_0_ok 4 rfl
theorem dX4_count_43 : decode cX4_count 43 = .ok (.ireturn, 1) := dec_of dT_X4_count_0_ok 5 rfl
theorem dX4_count_44 : decode cX4_count 44 = .ok (.aload_n 0, 1) := dec_of dT_X4_count_0_ok 6 rfl
theorem dX4_count_45 : decode cX4_count 45 = .ok (.getfield 12, 3) := dec_of dT_X4_count_0_ok 7 rfl
theorem dX4_count_48 : decode cX4_count 48 = .ok (.invokevirtual 142, 3) := dec_of dT_X4_count_0_ok 8 rfl
theorem dX4_count_51 : decode cX4_count 51 = .ok (.ireturn, 1) := dec_of dT_X4_count_0_ok 9 rfl
theorem dX4_count_52 : decode cX4_count 52 = .ok (.aload_n 0, 1) := dec_of dT_X4_count_0_ok 10 rfl
theorem dX4_count_53 : decode cX4_count 53 = .ok (.getfield 44, 3) := dec_of dT_X4_count_0_ok 11 rfl
theorem dX4_count_56 : decode cX4_count 56 = .ok (.ifCond .eq 13, 3) := dec_of dT_X4_count_0_ok 12 rfl
theorem dX4_count_59 : decode cX4_count 59 = .ok (.aload_n 0, 1) := dec_of dT_X4_count_0_ok 13 rfl
theorem dX4_count_60 : decode cX4_count 60 = .ok (.getfield 26, 3) := dec_of dT_X4_count_0_ok 14 rfl
theorem dX4_count_63 : decode cX4_count 63 = .ok (.getfield 154, 3) := dec_of dT_X4_count_0_ok 15 rfl
theorem dX4_count_66 : decode cX4_count 66 = .ok (.goto 4, 3) := dec_of dT_X4_count_0_ok 16 rfl
theorem dX4_count_69 : decode cX4_count 69 = .ok (.iconst (-1), 1) := dec_of dT_X4_count_0_ok 17 rfl
theorem dX4_count_70 : decode cX4_count 70 = .ok (.ireturn, 1) := dec_of dT_X4_count_0_ok 18 rfl
theorem dX4_count_71 : decode cX4_count 71 = .ok (.aload_n 0, 1) := dec_of dT_X4_count_0_ok 19 rfl
theorem dX4_count_72 : decode cX4_count 72 = .ok (.getfield 48, 3) := dec_of dT_X4_count_0_ok 20 rfl
theorem dX4_count_75 : decode cX4_count 75 = .ok (.ireturn, 1) := dec_of dT_X4_count_0_ok 21 rfl
theorem dX4_count_76 : decode cX4_count 76 = .ok (.aload_n 0, 1) := dec_of dT_X4_count_0_ok 22 rfl
theorem dX4_count_77 : decode cX4_count 77 = .ok (.getfield 51, 3) := dec_of dT_X4_count_0_ok 23 rfl
theorem dX4_count_80 : decode cX4_count 80 = .ok (.ifCond .eq 7, 3) := dec_of dT_X4_count_0_ok 24 rfl
theorem dX4_count_83 : decode cX4_count 83 = .ok (.iconst 1, 1) := dec_of dT_X4_count_0_ok 25 rfl
theorem dX4_count_84 : decode cX4_count 84 = .ok (.goto 4, 3) := dec_of dT_X4_count_0_ok 26 rfl
theorem dX4_count_87 : decode cX4_count 87 = .ok (.iconst 0, 1) := dec_of dT_X4_count_0_ok 27 rfl
theorem dX4_count_88 : decode cX4_count 88 = .ok (.ireturn, 1) := dec_of dT_X4_count_0_ok 28 rfl
theorem dX4_count_89 : decode cX4_count 89 = .ok (.bipush (-2), 2) := dec_of dT_X4_count_0_ok 29 rfl
theorem dX4_count_91 : decode cX4_count 91 = .ok (.ireturn, 1) := dec_of dT_X4_count_0_ok 30 rfl
def dT_X4_changed_0 : List (Nat × Instr × Nat) := [(0, .aload_n 0, 1), (1, .invokevirtual 72, 3), (4, .iconst 1, 1), (5, .ireturn, 1)]
theorem dT_X4_changed_0_ok : (dT_X4_changed_0.all fun e => decide (decode cX4_changed e.1 = .ok (e.2.1, e.2.2))) = true := by decide +kernel
theorem dX4_changed_0 : decode cX4_changed 0 = .ok (.aload_n 0, 1) := dec_of dT_X4_changed_0_ok 0 rfl
theorem dX4_changed_1 : decode cX4_changed 1 = .ok (.invokevirtual 72, 3) := dec_of dT_X4_changed_0_ok 1 rfl
theorem dX4_changed_4 : decode cX4_changed 4 = .ok (.iconst 1, 1) := dec_of dT_X4_changed_0_ok 2 rfl
theorem dX4_changed_5 : decode cX4_changed 5 = .ok (.ireturn, 1) := dec_of dT_X4_changed_0_ok 3 rfl
def dT_X4_endHeard_0 : List (Nat × Instr × Nat) := [(0, .aload_n 0, 1), (1, .iconst 0, 1), (2, .putfield 44, 3), (5, .aload_n 0, 1), (6, .iconst (-1), 1), (7, .putfield 48, 3), (10, .aload_n 0, 1), (11, .iconst 0, 1), (12, .putfield 51, 3), (15, .return_, 1)]
theorem dT_X4_endHeard_0_ok : (dT_X4_endHeard_0.all fun e => decide (decode cX4_endHeard e.1 = .ok (e.2.1, e.2.2))) = true := by decide +kernel
theorem dX4_endHeard_0 : decode cX4_endHeard 0 = .ok (.aload_n 0, 1) := dec_of dT_X4_endHeard_0_ok 0 rfl
theorem dX4_endHeard_1 : decode cX4_endHeard 1 = .ok (.iconst 0, 1) := dec_of dT_X4_endHeard_0_ok 1 rfl
theorem dX4_endHeard_2 : decode cX4_endHeard 2 = .ok (.putfield 44, 3) := dec_of dT_X4_endHeard_0_ok 2 rfl
theorem dX4_endHeard_5 : decode cX4_endHeard 5 = .ok (.aload_n 0, 1) := dec_of dT_X4_endHeard_0_ok 3 rfl
theorem dX4_endHeard_6 : decode cX4_endHeard 6 = .ok (.iconst (-1), 1) := dec_of dT_X4_endHeard_0_ok 4 rfl
theorem dX4_endHeard_7 : decode cX4_endHeard 7 = .ok (.putfield 48, 3) := dec_of dT_X4_endHeard_0_ok 5 rfl
theorem dX4_endHeard_10 : decode cX4_endHeard 10 = .ok (.aload_n 0, 1) := dec_of dT_X4_endHeard_0_ok 6 rfl
theorem dX4_endHeard_11 : decode cX4_endHeard 11 = .ok (.iconst 0, 1) := dec_of dT_X4_endHeard_0_ok 7 rfl
theorem dX4_endHeard_12 : decode cX4_endHeard 12 = .ok (.putfield 51, 3) := dec_of dT_X4_endHeard_0_ok 8 rfl
theorem dX4_endHeard_15 : decode cX4_endHeard 15 = .ok (.return_, 1) := dec_of dT_X4_endHeard_0_ok 9 rfl
def dT_X4_isBitPlace_0 : List (Nat × Instr × Nat) := [(0, .iload_n 1, 1), (1, .iconst 0, 1), (2, .aload_n 0, 1), (3, .getfield 12, 3), (6, .getfield 65, 3), (9, .iconst 1, 1), (10, .isub, 1), (11, .invokestatic 61, 3), (14, .ireturn, 1)]
theorem dT_X4_isBitPlace_0_ok : (dT_X4_isBitPlace_0.all fun e => decide (decode cX4_isBitPlace e.1 = .ok (e.2.1, e.2.2))) = true := by decide +kernel
theorem dX4_isBitPlace_0 : decode cX4_isBitPlace 0 = .ok (.iload_n 1, 1) := dec_of dT_X4_isBitPlace_0_ok 0 rfl
theorem dX4_isBitPlace_1 : decode cX4_isBitPlace 1 = .ok (.iconst 0, 1) := dec_of dT_X4_isBitPlace_0_ok 1 rfl
theorem dX4_isBitPlace_2 : decode cX4_isBitPlace 2 = .ok (.aload_n 0, 1) := dec_of dT_X4_isBitPlace_0_ok 2 rfl
theorem dX4_isBitPlace_3 : decode cX4_isBitPlace 3 = .ok (.getfield 12, 3) := dec_of dT_X4_isBitPlace_0_ok 3 rfl
theorem dX4_isBitPlace_6 : decode cX4_isBitPlace 6 = .ok (.getfield 65, 3) := dec_of dT_X4_isBitPlace_0_ok 4 rfl
theorem dX4_isBitPlace_9 : decode cX4_isBitPlace 9 = .ok (.iconst 1, 1) := dec_of dT_X4_isBitPlace_0_ok 5 rfl
theorem dX4_isBitPlace_10 : decode cX4_isBitPlace 10 = .ok (.isub, 1) := dec_of dT_X4_isBitPlace_0_ok 6 rfl
theorem dX4_isBitPlace_11 : decode cX4_isBitPlace 11 = .ok (.invokestatic 61, 3) := dec_of dT_X4_isBitPlace_0_ok 7 rfl
theorem dX4_isBitPlace_14 : decode cX4_isBitPlace 14 = .ok (.ireturn, 1) := dec_of dT_X4_isBitPlace_0_ok 8 rfl
def dT_X4_errorsOfSending_0 : List (Nat × Instr × Nat) := [(0, .aload_n 0, 1), (1, .getfield 30, 3), (4, .aload_n 0, 1), (5, .getfield 12, 3), (8, .aload_n 0, 1), (9, .getfield 19, 3), (12, .iload_n 1, 1), (13, .invokevirtual 150, 3), (16, .aload_n 0, 1), (17, .getfield 30, 3), (20, .aload_n 0, 1), (21, .getfield 12, 3), (24, .aload_n 0, 1), (25, .getfield 19, 3), (28, .invokevirtual 161, 3), (31, .aload_n 0, 1), (32, .getfield 40, 3), (35, .invokevirtual 164, 3), (38, .istore_n 2, 1), (39, .iload_n 2, 1), (40, .iconst (-1), 1), (41, .if_icmp .eq 13, 3), (44, .aload_n 0, 1), (45, .getfield 12, 3), (48, .getfield 65, 3), (51, .ifCond .ne 11, 3), (54, .aload_n 0, 1), (55, .getfield 12, 3), (58, .getfield 65, 3), (61, .ireturn, 1), (62, .aload_n 0, 1), (63, .getfield 19, 3), (66, .getfield 116, 3), (69, .iconst 0, 1), (70, .aload_n 0, 1), (71, .getfield 36, 3), (74, .getfield 176, 3), (77, .iconst 0, 1), (78, .iconst 4, 1), (79, .invokestatic 203, 3), (82, .aload_n 0, 1), (83, .getfield 36, 3), (86, .aload_n 0, 1), (87, .getfield 12, 3), (90, .aload_n 0, 1), (91, .getfield 30, 3), (94, .iload_n 2, 1), (95, .invokevirtual 179, 3), (98, .aload_n 0, 1), (99, .getfield 36, 3), (102, .getfield 183, 3), (105, .aload_n 0, 1), (106, .getfield 12, 3), (109, .getfield 65, 3), (112, .aload_n 0, 1), (113, .getfield 12, 3), (116, .getfield 186, 3), (119, .invokestatic 189, 3), (122, .aload_n 0, 1), (123, .getfield 12, 3)]
theorem dT_X4_errorsOfSending_0_ok : (dT_X4_errorsOfSending_0.all fun e => decide (decode cX4_errorsOfSending e.1 = .ok (e.2.1, e.2.2))) = true := by decide +kernel
theorem dX4_errorsOfSending_0 : decode cX4_errorsOfSending 0 = .ok (.aload_n 0, 1) := dec_of dT_X4_errorsOfSending_0_ok 0 rfl
theorem dX4_errorsOfSending_1 : decode cX4_errorsOfSending 1 = .ok (.getfield 30, 3) := dec_of dT_X4_errorsOfSending_0_ok 1 rfl
theorem dX4_errorsOfSending_4 : decode cX4_errorsOfSending 4 = .ok (.aload_n 0, 1) := dec_of dT_X4_errorsOfSending_0_ok 2 rfl
theorem dX4_errorsOfSending_5 : decode cX4_errorsOfSending 5 = .ok (.getfield 12, 3) := dec_of dT_X4_errorsOfSending_0_ok 3 rfl
theorem dX4_errorsOfSending_8 : decode cX4_errorsOfSending 8 = .ok (.aload_n 0, 1) := dec_of dT_X4_errorsOfSending_0_ok 4 rfl
theorem dX4_errorsOfSending_9 : decode cX4_errorsOfSending 9 = .ok (.getfield 19, 3) := dec_of dT_X4_errorsOfSending_0_ok 5 rfl
theorem dX4_errorsOfSending_12 : decode cX4_errorsOfSending 12 = .ok (.iload_n 1, 1) := dec_of dT_X4_errorsOfSending_0_ok 6 rfl
theorem dX4_errorsOfSending_13 : decode cX4_errorsOfSending 13 = .ok (.invokevirtual 150, 3) := dec_of dT_X4_errorsOfSending_0_ok 7 rfl
theorem dX4_errorsOfSending_16 : decode cX4_errorsOfSending 16 = .ok (.aload_n 0, 1) := dec_of dT_X4_errorsOfSending_0_ok 8 rfl
theorem dX4_errorsOfSending_17 : decode cX4_errorsOfSending 17 = .ok (.getfield 30, 3) := dec_of dT_X4_errorsOfSending_0_ok 9 rfl
theorem dX4_errorsOfSending_20 : decode cX4_errorsOfSending 20 = .ok (.aload_n 0, 1) := dec_of dT_X4_errorsOfSending_0_ok 10 rfl
theorem dX4_errorsOfSending_21 : decode cX4_errorsOfSending 21 = .ok (.getfield 12, 3) := dec_of dT_X4_errorsOfSending_0_ok 11 rfl
theorem dX4_errorsOfSending_24 : decode cX4_errorsOfSending 24 = .ok (.aload_n 0, 1) := dec_of dT_X4_errorsOfSending_0_ok 12 rfl
theorem dX4_errorsOfSending_25 : decode cX4_errorsOfSending 25 = .ok (.getfield 19, 3) := dec_of dT_X4_errorsOfSending_0_ok 13 rfl
theorem dX4_errorsOfSending_28 : decode cX4_errorsOfSending 28 = .ok (.invokevirtual 161, 3) := dec_of dT_X4_errorsOfSending_0_ok 14 rfl
theorem dX4_errorsOfSending_31 : decode cX4_errorsOfSending 31 = .ok (.aload_n 0, 1) := dec_of dT_X4_errorsOfSending_0_ok 15 rfl
theorem dX4_errorsOfSending_32 : decode cX4_errorsOfSending 32 = .ok (.getfield 40, 3) := dec_of dT_X4_errorsOfSending_0_ok 16 rfl
theorem dX4_errorsOfSending_35 : decode cX4_errorsOfSending 35 = .ok (.invokevirtual 164, 3) := dec_of dT_X4_errorsOfSending_0_ok 17 rfl
theorem dX4_errorsOfSending_38 : decode cX4_errorsOfSending 38 = .ok (.istore_n 2, 1) := dec_of dT_X4_errorsOfSending_0_ok 18 rfl
theorem dX4_errorsOfSending_39 : decode cX4_errorsOfSending 39 = .ok (.iload_n 2, 1) := dec_of dT_X4_errorsOfSending_0_ok 19 rfl
theorem dX4_errorsOfSending_40 : decode cX4_errorsOfSending 40 = .ok (.iconst (-1), 1) := dec_of dT_X4_errorsOfSending_0_ok 20 rfl
theorem dX4_errorsOfSending_41 : decode cX4_errorsOfSending 41 = .ok (.if_icmp .eq 13, 3) := dec_of dT_X4_errorsOfSending_0_ok 21 rfl
theorem dX4_errorsOfSending_44 : decode cX4_errorsOfSending 44 = .ok (.aload_n 0, 1) := dec_of dT_X4_errorsOfSending_0_ok 22 rfl
theorem dX4_errorsOfSending_45 : decode cX4_errorsOfSending 45 = .ok (.getfield 12, 3) := dec_of dT_X4_errorsOfSending_0_ok 23 rfl
theorem dX4_errorsOfSending_48 : decode cX4_errorsOfSending 48 = .ok (.getfield 65, 3) := dec_of dT_X4_errorsOfSending_0_ok 24 rfl
theorem dX4_errorsOfSending_51 : decode cX4_errorsOfSending 51 = .ok (.ifCond .ne 11, 3) := dec_of dT_X4_errorsOfSending_0_ok 25 rfl
theorem dX4_errorsOfSending_54 : decode cX4_errorsOfSending 54 = .ok (.aload_n 0, 1) := dec_of dT_X4_errorsOfSending_0_ok 26 rfl
theorem dX4_errorsOfSending_55 : decode cX4_errorsOfSending 55 = .ok (.getfield 12, 3) := dec_of dT_X4_errorsOfSending_0_ok 27 rfl
theorem dX4_errorsOfSending_58 : decode cX4_errorsOfSending 58 = .ok (.getfield 65, 3) := dec_of dT_X4_errorsOfSending_0_ok 28 rfl
theorem dX4_errorsOfSending_61 : decode cX4_errorsOfSending 61 = .ok (.ireturn, 1) := dec_of dT_X4_errorsOfSending_0_ok 29 rfl
theorem dX4_errorsOfSending_62 : decode cX4_errorsOfSending 62 = .ok (.aload_n 0, 1) := dec_of dT_X4_errorsOfSending_0_ok 30 rfl
theorem dX4_errorsOfSending_63 : decode cX4_errorsOfSending 63 = .ok (.getfield 19, 3) := dec_of dT_X4_errorsOfSending_0_ok 31 rfl
theorem dX4_errorsOfSending_66 : decode cX4_errorsOfSending 66 = .ok (.getfield 116, 3) := dec_of dT_X4_errorsOfSending_0_ok 32 rfl
theorem dX4_errorsOfSending_69 : decode cX4_errorsOfSending 69 = .ok (.iconst 0, 1) := dec_of dT_X4_errorsOfSending_0_ok 33 rfl
theorem dX4_errorsOfSending_70 : decode cX4_errorsOfSending 70 = .ok (.aload_n 0, 1) := dec_of dT_X4_errorsOfSending_0_ok 34 rfl
theorem dX4_errorsOfSending_71 : decode cX4_errorsOfSending 71 = .ok (.getfield 36, 3) := dec_of dT_X4_errorsOfSending_0_ok 35 rfl
theorem dX4_errorsOfSending_74 : decode cX4_errorsOfSending 74 = .ok (.getfield 176, 3) := dec_of dT_X4_errorsOfSending_0_ok 36 rfl
theorem dX4_errorsOfSending_77 : decode cX4_errorsOfSending 77 = .ok (.iconst 0, 1) := dec_of dT_X4_errorsOfSending_0_ok 37 rfl
theorem dX4_errorsOfSending_78 : decode cX4_errorsOfSending 78 = .ok (.iconst 4, 1) := dec_of dT_X4_errorsOfSending_0_ok 38 rfl
theorem dX4_errorsOfSending_79 : decode cX4_errorsOfSending 79 = .ok (.invokestatic 203, 3) := dec_of dT_X4_errorsOfSending_0_ok 39 rfl
theorem dX4_errorsOfSending_82 : decode cX4_errorsOfSending 82 = .ok (.aload_n 0, 1) := dec_of dT_X4_errorsOfSending_0_ok 40 rfl
theorem dX4_errorsOfSending_83 : decode cX4_errorsOfSending 83 = .ok (.getfield 36, 3) := dec_of dT_X4_errorsOfSending_0_ok 41 rfl
theorem dX4_errorsOfSending_86 : decode cX4_errorsOfSending 86 = .ok (.aload_n 0, 1) := dec_of dT_X4_errorsOfSending_0_ok 42 rfl
theorem dX4_errorsOfSending_87 : decode cX4_errorsOfSending 87 = .ok (.getfield 12, 3) := dec_of dT_X4_errorsOfSending_0_ok 43 rfl
theorem dX4_errorsOfSending_90 : decode cX4_errorsOfSending 90 = .ok (.aload_n 0, 1) := dec_of dT_X4_errorsOfSending_0_ok 44 rfl
theorem dX4_errorsOfSending_91 : decode cX4_errorsOfSending 91 = .ok (.getfield 30, 3) := dec_of dT_X4_errorsOfSending_0_ok 45 rfl
theorem dX4_errorsOfSending_94 : decode cX4_errorsOfSending 94 = .ok (.iload_n 2, 1) := dec_of dT_X4_errorsOfSending_0_ok 46 rfl
theorem dX4_errorsOfSending_95 : decode cX4_errorsOfSending 95 = .ok (.invokevirtual 179, 3) := dec_of dT_X4_errorsOfSending_0_ok 47 rfl
theorem dX4_errorsOfSending_98 : decode cX4_errorsOfSending 98 = .ok (.aload_n 0, 1) := dec_of dT_X4_errorsOfSending_0_ok 48 rfl
theorem dX4_errorsOfSending_99 : decode cX4_errorsOfSending 99 = .ok (.getfield 36, 3) := dec_of dT_X4_errorsOfSending_0_ok 49 rfl
theorem dX4_errorsOfSending_102 : decode cX4_errorsOfSending 102 = .ok (.getfield 183, 3) := dec_of dT_X4_errorsOfSending_0_ok 50 rfl
theorem dX4_errorsOfSending_105 : decode cX4_errorsOfSending 105 = .ok (.aload_n 0, 1) := dec_of dT_X4_errorsOfSending_0_ok 51 rfl
theorem dX4_errorsOfSending_106 : decode cX4_errorsOfSending 106 = .ok (.getfield 12, 3) := dec_of dT_X4_errorsOfSending_0_ok 52 rfl
theorem dX4_errorsOfSending_109 : decode cX4_errorsOfSending 109 = .ok (.getfield 65, 3) := dec_of dT_X4_errorsOfSending_0_ok 53 rfl
theorem dX4_errorsOfSending_112 : decode cX4_errorsOfSending 112 = .ok (.aload_n 0, 1) := dec_of dT_X4_errorsOfSending_0_ok 54 rfl
theorem dX4_errorsOfSending_113 : decode cX4_errorsOfSending 113 = .ok (.getfield 12, 3) := dec_of dT_X4_errorsOfSending_0_ok 55 rfl
theorem dX4_errorsOfSending_116 : decode cX4_errorsOfSending 116 = .ok (.getfield 186, 3) := dec_of dT_X4_errorsOfSending_0_ok 56 rfl
theorem dX4_errorsOfSending_119 : decode cX4_errorsOfSending 119 = .ok (.invokestatic 189, 3) := dec_of dT_X4_errorsOfSending_0_ok 57 rfl
theorem dX4_errorsOfSending_122 : decode cX4_errorsOfSending 122 = .ok (.aload_n 0, 1) := dec_of dT_X4_errorsOfSending_0_ok 58 rfl
theorem dX4_errorsOfSending_123 : decode cX4_errorsOfSending 123 = .ok (.getfield 12, 3) := dec_of dT_X4_errorsOfSending_0_ok 59 rfl
def dT_X4_errorsOfSending_60 : List (Nat × Instr × Nat) := [(126, .getfield 82, 3), (129, .invokestatic 196, 3), (132, .ireturn, 1)]
theorem dT_X4_errorsOfSending_60_ok : (dT_X4_errorsOfSending_60.all fun e => decide (decode cX4_errorsOfSending e.1 = .ok (e.2.1, e.2.2))) = true := by decide +kernel
theorem dX4_errorsOfSending_126 : decode cX4_errorsOfSending 126 = .ok (.getfield 82, 3) := dec_of dT_X4_errorsOfSending_60_ok 0 rfl
theorem dX4_errorsOfSending_129 : decode cX4_errorsOfSending 129 = .ok (.invokestatic 196, 3) := dec_of dT_X4_errorsOfSending_60_ok 1 rfl
theorem dX4_errorsOfSending_132 : decode cX4_errorsOfSending 132 = .ok (.ireturn, 1) := dec_of dT_X4_errorsOfSending_60_ok 2 rfl
def dT_X4_within_0 : List (Nat × Instr × Nat) := [(0, .iload_n 0, 1), (1, .iload_n 1, 1), (2, .if_icmp .lt 12, 3), (5, .iload_n 0, 1), (6, .iload_n 2, 1), (7, .if_icmp .gt 7, 3), (10, .iconst 1, 1), (11, .goto 4, 3), (14, .iconst 0, 1), (15, .ireturn, 1)]
theorem dT_X4_within_0_ok : (dT_X4_within_0.all fun e => decide (decode cX4_within e.1 = .ok (e.2.1, e.2.2))) = true := by decide +kernel
theorem dX4_within_0 : decode cX4_within 0 = .ok (.iload_n 0, 1) := dec_of dT_X4_within_0_ok 0 rfl
theorem dX4_within_1 : decode cX4_within 1 = .ok (.iload_n 1, 1) := dec_of dT_X4_within_0_ok 1 rfl
theorem dX4_within_2 : decode cX4_within 2 = .ok (.if_icmp .lt 12, 3) := dec_of dT_X4_within_0_ok 2 rfl
theorem dX4_within_5 : decode cX4_within 5 = .ok (.iload_n 0, 1) := dec_of dT_X4_within_0_ok 3 rfl
theorem dX4_within_6 : decode cX4_within 6 = .ok (.iload_n 2, 1) := dec_of dT_X4_within_0_ok 4 rfl
theorem dX4_within_7 : decode cX4_within 7 = .ok (.if_icmp .gt 7, 3) := dec_of dT_X4_within_0_ok 5 rfl
theorem dX4_within_10 : decode cX4_within 10 = .ok (.iconst 1, 1) := dec_of dT_X4_within_0_ok 6 rfl
theorem dX4_within_11 : decode cX4_within 11 = .ok (.goto 4, 3) := dec_of dT_X4_within_0_ok 7 rfl
theorem dX4_within_14 : decode cX4_within 14 = .ok (.iconst 0, 1) := dec_of dT_X4_within_0_ok 8 rfl
theorem dX4_within_15 : decode cX4_within 15 = .ok (.ireturn, 1) := dec_of dT_X4_within_0_ok 9 rfl
def dT_X4_areTaps_0 : List (Nat × Instr × Nat) := [(0, .iload_n 0, 1), (1, .bipush (-20), 2), (3, .bipush 20, 2), (5, .invokestatic 61, 3), (8, .ifCond .eq 40, 3), (11, .iload_n 1, 1), (12, .bipush (-20), 2), (14, .bipush 20, 2), (16, .invokestatic 61, 3), (19, .ifCond .eq 29, 3), (22, .iload_n 2, 1), (23, .bipush (-20), 2), (25, .bipush 20, 2), (27, .invokestatic 61, 3), (30, .ifCond .eq 18, 3), (33, .iload_n 3, 1), (34, .bipush (-20), 2), (36, .bipush 20, 2), (38, .invokestatic 61, 3), (41, .ifCond .eq 7, 3), (44, .iconst 1, 1), (45, .goto 4, 3), (48, .iconst 0, 1), (49, .ireturn, 1)]
theorem dT_X4_areTaps_0_ok : (dT_X4_areTaps_0.all fun e => decide (decode cX4_areTaps e.1 = .ok (e.2.1, e.2.2))) = true := by decide +kernel
theorem dX4_areTaps_0 : decode cX4_areTaps 0 = .ok (.iload_n 0, 1) := dec_of dT_X4_areTaps_0_ok 0 rfl
theorem dX4_areTaps_1 : decode cX4_areTaps 1 = .ok (.bipush (-20), 2) := dec_of dT_X4_areTaps_0_ok 1 rfl
theorem dX4_areTaps_3 : decode cX4_areTaps 3 = .ok (.bipush 20, 2) := dec_of dT_X4_areTaps_0_ok 2 rfl
theorem dX4_areTaps_5 : decode cX4_areTaps 5 = .ok (.invokestatic 61, 3) := dec_of dT_X4_areTaps_0_ok 3 rfl
theorem dX4_areTaps_8 : decode cX4_areTaps 8 = .ok (.ifCond .eq 40, 3) := dec_of dT_X4_areTaps_0_ok 4 rfl
theorem dX4_areTaps_11 : decode cX4_areTaps 11 = .ok (.iload_n 1, 1) := dec_of dT_X4_areTaps_0_ok 5 rfl
theorem dX4_areTaps_12 : decode cX4_areTaps 12 = .ok (.bipush (-20), 2) := dec_of dT_X4_areTaps_0_ok 6 rfl
theorem dX4_areTaps_14 : decode cX4_areTaps 14 = .ok (.bipush 20, 2) := dec_of dT_X4_areTaps_0_ok 7 rfl
theorem dX4_areTaps_16 : decode cX4_areTaps 16 = .ok (.invokestatic 61, 3) := dec_of dT_X4_areTaps_0_ok 8 rfl
theorem dX4_areTaps_19 : decode cX4_areTaps 19 = .ok (.ifCond .eq 29, 3) := dec_of dT_X4_areTaps_0_ok 9 rfl
theorem dX4_areTaps_22 : decode cX4_areTaps 22 = .ok (.iload_n 2, 1) := dec_of dT_X4_areTaps_0_ok 10 rfl
theorem dX4_areTaps_23 : decode cX4_areTaps 23 = .ok (.bipush (-20), 2) := dec_of dT_X4_areTaps_0_ok 11 rfl
theorem dX4_areTaps_25 : decode cX4_areTaps 25 = .ok (.bipush 20, 2) := dec_of dT_X4_areTaps_0_ok 12 rfl
theorem dX4_areTaps_27 : decode cX4_areTaps 27 = .ok (.invokestatic 61, 3) := dec_of dT_X4_areTaps_0_ok 13 rfl
theorem dX4_areTaps_30 : decode cX4_areTaps 30 = .ok (.ifCond .eq 18, 3) := dec_of dT_X4_areTaps_0_ok 14 rfl
theorem dX4_areTaps_33 : decode cX4_areTaps 33 = .ok (.iload_n 3, 1) := dec_of dT_X4_areTaps_0_ok 15 rfl
theorem dX4_areTaps_34 : decode cX4_areTaps 34 = .ok (.bipush (-20), 2) := dec_of dT_X4_areTaps_0_ok 16 rfl
theorem dX4_areTaps_36 : decode cX4_areTaps 36 = .ok (.bipush 20, 2) := dec_of dT_X4_areTaps_0_ok 17 rfl
theorem dX4_areTaps_38 : decode cX4_areTaps 38 = .ok (.invokestatic 61, 3) := dec_of dT_X4_areTaps_0_ok 18 rfl
theorem dX4_areTaps_41 : decode cX4_areTaps 41 = .ok (.ifCond .eq 7, 3) := dec_of dT_X4_areTaps_0_ok 19 rfl
theorem dX4_areTaps_44 : decode cX4_areTaps 44 = .ok (.iconst 1, 1) := dec_of dT_X4_areTaps_0_ok 20 rfl
theorem dX4_areTaps_45 : decode cX4_areTaps 45 = .ok (.goto 4, 3) := dec_of dT_X4_areTaps_0_ok 21 rfl
theorem dX4_areTaps_48 : decode cX4_areTaps 48 = .ok (.iconst 0, 1) := dec_of dT_X4_areTaps_0_ok 22 rfl
theorem dX4_areTaps_49 : decode cX4_areTaps 49 = .ok (.ireturn, 1) := dec_of dT_X4_areTaps_0_ok 23 rfl
def dT_X4_setFour_0 : List (Nat × Instr × Nat) := [(0, .aload_n 0, 1), (1, .arraylength, 1), (2, .iconst 4, 1), (3, .if_icmp .eq 4, 3), (6, .return_, 1), (7, .aload_n 0, 1), (8, .iconst 0, 1), (9, .iload_n 1, 1), (10, .iastore, 1), (11, .aload_n 0, 1), (12, .iconst 1, 1), (13, .iload_n 2, 1), (14, .iastore, 1), (15, .aload_n 0, 1), (16, .iconst 2, 1), (17, .iload_n 3, 1), (18, .iastore, 1), (19, .aload_n 0, 1), (20, .iconst 3, 1), (21, .iload 4, 2), (23, .iastore, 1), (24, .return_, 1)]
theorem dT_X4_setFour_0_ok : (dT_X4_setFour_0.all fun e => decide (decode cX4_setFour e.1 = .ok (e.2.1, e.2.2))) = true := by decide +kernel
theorem dX4_setFour_0 : decode cX4_setFour 0 = .ok (.aload_n 0, 1) := dec_of dT_X4_setFour_0_ok 0 rfl
theorem dX4_setFour_1 : decode cX4_setFour 1 = .ok (.arraylength, 1) := dec_of dT_X4_setFour_0_ok 1 rfl
theorem dX4_setFour_2 : decode cX4_setFour 2 = .ok (.iconst 4, 1) := dec_of dT_X4_setFour_0_ok 2 rfl
theorem dX4_setFour_3 : decode cX4_setFour 3 = .ok (.if_icmp .eq 4, 3) := dec_of dT_X4_setFour_0_ok 3 rfl
theorem dX4_setFour_6 : decode cX4_setFour 6 = .ok (.return_, 1) := dec_of dT_X4_setFour_0_ok 4 rfl
theorem dX4_setFour_7 : decode cX4_setFour 7 = .ok (.aload_n 0, 1) := dec_of dT_X4_setFour_0_ok 5 rfl
theorem dX4_setFour_8 : decode cX4_setFour 8 = .ok (.iconst 0, 1) := dec_of dT_X4_setFour_0_ok 6 rfl
theorem dX4_setFour_9 : decode cX4_setFour 9 = .ok (.iload_n 1, 1) := dec_of dT_X4_setFour_0_ok 7 rfl
theorem dX4_setFour_10 : decode cX4_setFour 10 = .ok (.iastore, 1) := dec_of dT_X4_setFour_0_ok 8 rfl
theorem dX4_setFour_11 : decode cX4_setFour 11 = .ok (.aload_n 0, 1) := dec_of dT_X4_setFour_0_ok 9 rfl
theorem dX4_setFour_12 : decode cX4_setFour 12 = .ok (.iconst 1, 1) := dec_of dT_X4_setFour_0_ok 10 rfl
theorem dX4_setFour_13 : decode cX4_setFour 13 = .ok (.iload_n 2, 1) := dec_of dT_X4_setFour_0_ok 11 rfl
theorem dX4_setFour_14 : decode cX4_setFour 14 = .ok (.iastore, 1) := dec_of dT_X4_setFour_0_ok 12 rfl
theorem dX4_setFour_15 : decode cX4_setFour 15 = .ok (.aload_n 0, 1) := dec_of dT_X4_setFour_0_ok 13 rfl
theorem dX4_setFour_16 : decode cX4_setFour 16 = .ok (.iconst 2, 1) := dec_of dT_X4_setFour_0_ok 14 rfl
theorem dX4_setFour_17 : decode cX4_setFour 17 = .ok (.iload_n 3, 1) := dec_of dT_X4_setFour_0_ok 15 rfl
theorem dX4_setFour_18 : decode cX4_setFour 18 = .ok (.iastore, 1) := dec_of dT_X4_setFour_0_ok 16 rfl
theorem dX4_setFour_19 : decode cX4_setFour 19 = .ok (.aload_n 0, 1) := dec_of dT_X4_setFour_0_ok 17 rfl
theorem dX4_setFour_20 : decode cX4_setFour 20 = .ok (.iconst 3, 1) := dec_of dT_X4_setFour_0_ok 18 rfl
theorem dX4_setFour_21 : decode cX4_setFour 21 = .ok (.iload 4, 2) := dec_of dT_X4_setFour_0_ok 19 rfl
theorem dX4_setFour_23 : decode cX4_setFour 23 = .ok (.iastore, 1) := dec_of dT_X4_setFour_0_ok 20 rfl
theorem dX4_setFour_24 : decode cX4_setFour 24 = .ok (.return_, 1) := dec_of dT_X4_setFour_0_ok 21 rfl
def dT_X4_bitOf_0 : List (Nat × Instr × Nat) := [(0, .lload_n 0, 1), (1, .iload_n 2, 1), (2, .iconst 1, 1), (3, .isub, 1), (4, .iload_n 3, 1), (5, .isub, 1), (6, .lshr, 1), (7, .l2i, 1), (8, .iconst 1, 1), (9, .iand, 1), (10, .ireturn, 1)]
theorem dT_X4_bitOf_0_ok : (dT_X4_bitOf_0.all fun e => decide (decode cX4_bitOf e.1 = .ok (e.2.1, e.2.2))) = true := by decide +kernel
theorem dX4_bitOf_0 : decode cX4_bitOf 0 = .ok (.lload_n 0, 1) := dec_of dT_X4_bitOf_0_ok 0 rfl
theorem dX4_bitOf_1 : decode cX4_bitOf 1 = .ok (.iload_n 2, 1) := dec_of dT_X4_bitOf_0_ok 1 rfl
theorem dX4_bitOf_2 : decode cX4_bitOf 2 = .ok (.iconst 1, 1) := dec_of dT_X4_bitOf_0_ok 2 rfl
theorem dX4_bitOf_3 : decode cX4_bitOf 3 = .ok (.isub, 1) := dec_of dT_X4_bitOf_0_ok 3 rfl
theorem dX4_bitOf_4 : decode cX4_bitOf 4 = .ok (.iload_n 3, 1) := dec_of dT_X4_bitOf_0_ok 4 rfl
theorem dX4_bitOf_5 : decode cX4_bitOf 5 = .ok (.isub, 1) := dec_of dT_X4_bitOf_0_ok 5 rfl
theorem dX4_bitOf_6 : decode cX4_bitOf 6 = .ok (.lshr, 1) := dec_of dT_X4_bitOf_0_ok 6 rfl
theorem dX4_bitOf_7 : decode cX4_bitOf 7 = .ok (.l2i, 1) := dec_of dT_X4_bitOf_0_ok 7 rfl
theorem dX4_bitOf_8 : decode cX4_bitOf 8 = .ok (.iconst 1, 1) := dec_of dT_X4_bitOf_0_ok 8 rfl
theorem dX4_bitOf_9 : decode cX4_bitOf 9 = .ok (.iand, 1) := dec_of dT_X4_bitOf_0_ok 9 rfl
theorem dX4_bitOf_10 : decode cX4_bitOf 10 = .ok (.ireturn, 1) := dec_of dT_X4_bitOf_0_ok 10 rfl
def dT_X4_differences_0 : List (Nat × Instr × Nat) := [(0, .lload_n 0, 1), (1, .lload_n 2, 1), (2, .lxor, 1), (3, .invokestatic 209, 3), (6, .ireturn, 1)]
theorem dT_X4_differences_0_ok : (dT_X4_differences_0.all fun e => decide (decode cX4_differences e.1 = .ok (e.2.1, e.2.2))) = true := by decide +kernel
theorem dX4_differences_0 : decode cX4_differences 0 = .ok (.lload_n 0, 1) := dec_of dT_X4_differences_0_ok 0 rfl
theorem dX4_differences_1 : decode cX4_differences 1 = .ok (.lload_n 2, 1) := dec_of dT_X4_differences_0_ok 1 rfl
theorem dX4_differences_2 : decode cX4_differences 2 = .ok (.lxor, 1) := dec_of dT_X4_differences_0_ok 2 rfl
theorem dX4_differences_3 : decode cX4_differences 3 = .ok (.invokestatic 209, 3) := dec_of dT_X4_differences_0_ok 3 rfl
theorem dX4_differences_6 : decode cX4_differences 6 = .ok (.ireturn, 1) := dec_of dT_X4_differences_0_ok 4 rfl
def dT_X4_oddness_0 : List (Nat × Instr × Nat) := [(0, .lload_n 0, 1), (1, .invokestatic 209, 3), (4, .iconst 1, 1), (5, .iand, 1), (6, .ireturn, 1)]
theorem dT_X4_oddness_0_ok : (dT_X4_oddness_0.all fun e => decide (decode cX4_oddness e.1 = .ok (e.2.1, e.2.2))) = true := by decide +kernel
theorem dX4_oddness_0 : decode cX4_oddness 0 = .ok (.lload_n 0, 1) := dec_of dT_X4_oddness_0_ok 0 rfl
theorem dX4_oddness_1 : decode cX4_oddness 1 = .ok (.invokestatic 209, 3) := dec_of dT_X4_oddness_0_ok 1 rfl
theorem dX4_oddness_4 : decode cX4_oddness 4 = .ok (.iconst 1, 1) := dec_of dT_X4_oddness_0_ok 2 rfl
theorem dX4_oddness_5 : decode cX4_oddness 5 = .ok (.iand, 1) := dec_of dT_X4_oddness_0_ok 3 rfl
theorem dX4_oddness_6 : decode cX4_oddness 6 = .ok (.ireturn, 1) := dec_of dT_X4_oddness_0_ok 4 rfl
def dT_X4_mix_0 : List (Nat × Instr × Nat) := [(0, .lconst 0, 1), (1, .lstore 4, 2), (3, .iconst 0, 1), (4, .istore 6, 2), (6, .iload 6, 2), (8, .iload_n 2, 1), (9, .if_icmp .ge 35, 3), (12, .ldc2_w 215, 3), (15, .lload 4, 2), (17, .lmul, 1), (18, .lload_n 0, 1), (19, .iload_n 2, 1), (20, .iload 6, 2), (22, .invokestatic 85, 3), (25, .lload 4, 2), (27, .iload_n 3, 1), (28, .i2l, 1), (29, .land, 1), (30, .invokestatic 217, 3), (33, .ixor, 1), (34, .i2l, 1), (35, .ladd, 1), (36, .lstore 4, 2), (38, .iinc 6 1, 3), (41, .goto (-35), 3), (44, .lload 4, 2), (46, .lreturn, 1)]
theorem dT_X4_mix_0_ok : (dT_X4_mix_0.all fun e => decide (decode cX4_mix e.1 = .ok (e.2.1, e.2.2))) = true := by decide +kernel
theorem dX4_mix_0 : decode cX4_mix 0 = .ok (.lconst 0, 1) := dec_of dT_X4_mix_0_ok 0 rfl
theorem dX4_mix_1 : decode cX4_mix 1 = .ok (.lstore 4, 2) := dec_of dT_X4_mix_0_ok 1 rfl
theorem dX4_mix_3 : decode cX4_mix 3 = .ok (.iconst 0, 1) := dec_of dT_X4_mix_0_ok 2 rfl
theorem dX4_mix_4 : decode cX4_mix 4 = .ok (.istore 6, 2) := dec_of dT_X4_mix_0_ok 3 rfl
theorem dX4_mix_6 : decode cX4_mix 6 = .ok (.iload 6, 2) := dec_of dT_X4_mix_0_ok 4 rfl
theorem dX4_mix_8 : decode cX4_mix 8 = .ok (.iload_n 2, 1) := dec_of dT_X4_mix_0_ok 5 rfl
theorem dX4_mix_9 : decode cX4_mix 9 = .ok (.if_icmp .ge 35, 3) := dec_of dT_X4_mix_0_ok 6 rfl
theorem dX4_mix_12 : decode cX4_mix 12 = .ok (.ldc2_w 215, 3) := dec_of dT_X4_mix_0_ok 7 rfl
theorem dX4_mix_15 : decode cX4_mix 15 = .ok (.lload 4, 2) := dec_of dT_X4_mix_0_ok 8 rfl
theorem dX4_mix_17 : decode cX4_mix 17 = .ok (.lmul, 1) := dec_of dT_X4_mix_0_ok 9 rfl
theorem dX4_mix_18 : decode cX4_mix 18 = .ok (.lload_n 0, 1) := dec_of dT_X4_mix_0_ok 10 rfl
theorem dX4_mix_19 : decode cX4_mix 19 = .ok (.iload_n 2, 1) := dec_of dT_X4_mix_0_ok 11 rfl
theorem dX4_mix_20 : decode cX4_mix 20 = .ok (.iload 6, 2) := dec_of dT_X4_mix_0_ok 12 rfl
theorem dX4_mix_22 : decode cX4_mix 22 = .ok (.invokestatic 85, 3) := dec_of dT_X4_mix_0_ok 13 rfl
theorem dX4_mix_25 : decode cX4_mix 25 = .ok (.lload 4, 2) := dec_of dT_X4_mix_0_ok 14 rfl
theorem dX4_mix_27 : decode cX4_mix 27 = .ok (.iload_n 3, 1) := dec_of dT_X4_mix_0_ok 15 rfl
theorem dX4_mix_28 : decode cX4_mix 28 = .ok (.i2l, 1) := dec_of dT_X4_mix_0_ok 16 rfl
theorem dX4_mix_29 : decode cX4_mix 29 = .ok (.land, 1) := dec_of dT_X4_mix_0_ok 17 rfl
theorem dX4_mix_30 : decode cX4_mix 30 = .ok (.invokestatic 217, 3) := dec_of dT_X4_mix_0_ok 18 rfl
theorem dX4_mix_33 : decode cX4_mix 33 = .ok (.ixor, 1) := dec_of dT_X4_mix_0_ok 19 rfl
theorem dX4_mix_34 : decode cX4_mix 34 = .ok (.i2l, 1) := dec_of dT_X4_mix_0_ok 20 rfl
theorem dX4_mix_35 : decode cX4_mix 35 = .ok (.ladd, 1) := dec_of dT_X4_mix_0_ok 21 rfl
theorem dX4_mix_36 : decode cX4_mix 36 = .ok (.lstore 4, 2) := dec_of dT_X4_mix_0_ok 22 rfl
theorem dX4_mix_38 : decode cX4_mix 38 = .ok (.iinc 6 1, 3) := dec_of dT_X4_mix_0_ok 23 rfl
theorem dX4_mix_41 : decode cX4_mix 41 = .ok (.goto (-35), 3) := dec_of dT_X4_mix_0_ok 24 rfl
theorem dX4_mix_44 : decode cX4_mix 44 = .ok (.lload 4, 2) := dec_of dT_X4_mix_0_ok 25 rfl
theorem dX4_mix_46 : decode cX4_mix 46 = .ok (.lreturn, 1) := dec_of dT_X4_mix_0_ok 26 rfl
def dT_X4_unmix_0 : List (Nat × Instr × Nat) := [(0, .lconst 0, 1), (1, .lstore 4, 2), (3, .iconst 0, 1), (4, .istore 6, 2), (6, .iload 6, 2), (8, .iload_n 2, 1), (9, .if_icmp .ge 43, 3), (12, .lload_n 0, 1), (13, .iload_n 2, 1), (14, .iload 6, 2), (16, .isub, 1), (17, .lshr, 1), (18, .lstore 7, 2), (20, .ldc2_w 215, 3), (23, .lload 4, 2), (25, .lmul, 1), (26, .lload_n 0, 1), (27, .iload_n 2, 1), (28, .iload 6, 2), (30, .invokestatic 85, 3), (33, .lload 7, 2), (35, .iload_n 3, 1), (36, .i2l, 1), (37, .land, 1), (38, .invokestatic 217, 3), (41, .ixor, 1), (42, .i2l, 1), (43, .ladd, 1), (44, .lstore 4, 2), (46, .iinc 6 1, 3), (49, .goto (-43), 3), (52, .lload 4, 2), (54, .lreturn, 1)]
theorem dT_X4_unmix_0_ok : (dT_X4_unmix_0.all fun e => decide (decode cX4_unmix e.1 = .ok (e.2.1, e.2.2))) = true := by decide +kernel
theorem dX4_unmix_0 : decode cX4_unmix 0 = .ok (.lconst 0, 1) := dec_of dT_X4_unmix_0_ok 0 rfl
theorem dX4_unmix_1 : decode cX4_unmix 1 = .ok (.lstore 4, 2) := dec_of dT_X4_unmix_0_ok 1 rfl
theorem dX4_unmix_3 : decode cX4_unmix 3 = .ok (.iconst 0, 1) := dec_of dT_X4_unmix_0_ok 2 rfl
theorem dX4_unmix_4 : decode cX4_unmix 4 = .ok (.istore 6, 2) := dec_of dT_X4_unmix_0_ok 3 rfl
theorem dX4_unmix_6 : decode cX4_unmix 6 = .ok (.iload 6, 2) := dec_of dT_X4_unmix_0_ok 4 rfl
theorem dX4_unmix_8 : decode cX4_unmix 8 = .ok (.iload_n 2, 1) := dec_of dT_X4_unmix_0_ok 5 rfl
theorem dX4_unmix_9 : decode cX4_unmix 9 = .ok (.if_icmp .ge 43, 3) := dec_of dT_X4_unmix_0_ok 6 rfl
theorem dX4_unmix_12 : decode cX4_unmix 12 = .ok (.lload_n 0, 1) := dec_of dT_X4_unmix_0_ok 7 rfl
theorem dX4_unmix_13 : decode cX4_unmix 13 = .ok (.iload_n 2, 1) := dec_of dT_X4_unmix_0_ok 8 rfl
theorem dX4_unmix_14 : decode cX4_unmix 14 = .ok (.iload 6, 2) := dec_of dT_X4_unmix_0_ok 9 rfl
theorem dX4_unmix_16 : decode cX4_unmix 16 = .ok (.isub, 1) := dec_of dT_X4_unmix_0_ok 10 rfl
theorem dX4_unmix_17 : decode cX4_unmix 17 = .ok (.lshr, 1) := dec_of dT_X4_unmix_0_ok 11 rfl
theorem dX4_unmix_18 : decode cX4_unmix 18 = .ok (.lstore 7, 2) := dec_of dT_X4_unmix_0_ok 12 rfl
theorem dX4_unmix_20 : decode cX4_unmix 20 = .ok (.ldc2_w 215, 3) := dec_of dT_X4_unmix_0_ok 13 rfl
theorem dX4_unmix_23 : decode cX4_unmix 23 = .ok (.lload 4, 2) := dec_of dT_X4_unmix_0_ok 14 rfl
theorem dX4_unmix_25 : decode cX4_unmix 25 = .ok (.lmul, 1) := dec_of dT_X4_unmix_0_ok 15 rfl
theorem dX4_unmix_26 : decode cX4_unmix 26 = .ok (.lload_n 0, 1) := dec_of dT_X4_unmix_0_ok 16 rfl
theorem dX4_unmix_27 : decode cX4_unmix 27 = .ok (.iload_n 2, 1) := dec_of dT_X4_unmix_0_ok 17 rfl
theorem dX4_unmix_28 : decode cX4_unmix 28 = .ok (.iload 6, 2) := dec_of dT_X4_unmix_0_ok 18 rfl
theorem dX4_unmix_30 : decode cX4_unmix 30 = .ok (.invokestatic 85, 3) := dec_of dT_X4_unmix_0_ok 19 rfl
theorem dX4_unmix_33 : decode cX4_unmix 33 = .ok (.lload 7, 2) := dec_of dT_X4_unmix_0_ok 20 rfl
theorem dX4_unmix_35 : decode cX4_unmix 35 = .ok (.iload_n 3, 1) := dec_of dT_X4_unmix_0_ok 21 rfl
theorem dX4_unmix_36 : decode cX4_unmix 36 = .ok (.i2l, 1) := dec_of dT_X4_unmix_0_ok 22 rfl
theorem dX4_unmix_37 : decode cX4_unmix 37 = .ok (.land, 1) := dec_of dT_X4_unmix_0_ok 23 rfl
theorem dX4_unmix_38 : decode cX4_unmix 38 = .ok (.invokestatic 217, 3) := dec_of dT_X4_unmix_0_ok 24 rfl
theorem dX4_unmix_41 : decode cX4_unmix 41 = .ok (.ixor, 1) := dec_of dT_X4_unmix_0_ok 25 rfl
theorem dX4_unmix_42 : decode cX4_unmix 42 = .ok (.i2l, 1) := dec_of dT_X4_unmix_0_ok 26 rfl
theorem dX4_unmix_43 : decode cX4_unmix 43 = .ok (.ladd, 1) := dec_of dT_X4_unmix_0_ok 27 rfl
theorem dX4_unmix_44 : decode cX4_unmix 44 = .ok (.lstore 4, 2) := dec_of dT_X4_unmix_0_ok 28 rfl
theorem dX4_unmix_46 : decode cX4_unmix 46 = .ok (.iinc 6 1, 3) := dec_of dT_X4_unmix_0_ok 29 rfl
theorem dX4_unmix_49 : decode cX4_unmix 49 = .ok (.goto (-43), 3) := dec_of dT_X4_unmix_0_ok 30 rfl
theorem dX4_unmix_52 : decode cX4_unmix 52 = .ok (.lload 4, 2) := dec_of dT_X4_unmix_0_ok 31 rfl
theorem dX4_unmix_54 : decode cX4_unmix 54 = .ok (.lreturn, 1) := dec_of dT_X4_unmix_0_ok 32 rfl
