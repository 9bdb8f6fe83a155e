def dT_L_law_0 : List (Nat × Instr × Nat) := [(0, .new 7, 3), (3, .dup, 1), (4, .invokespecial 9, 3), (7, .astore_n 1, 1), (8, .new 10, 3), (11, .dup, 1), (12, .invokespecial 12, 3), (15, .astore_n 2, 1), (16, .iconst 0, 1), (17, .istore_n 3, 1), (18, .iload_n 3, 1), (19, .aload_n 0, 1), (20, .arraylength, 1), (21, .iconst 5, 1), (22, .isub, 1), (23, .if_icmp .gt 772, 3), (26, .aload_n 0, 1), (27, .iload_n 3, 1), (28, .iaload, 1), (29, .bipush 31, 2), (31, .iand, 1), (32, .tableswitch 757 0 22 #[108, 171, 184, 207, 230, 263, 286, 319, 372, 415, 448, 471, 494, 507, 530, 553, 566, 589, 642, 675, 688, 711, 734], 108), (140, .aload_n 1, 1), (141, .aload_n 0, 1), (142, .iload_n 3, 1), (143, .iconst 1, 1), (144, .iadd, 1), (145, .iaload, 1), (146, .i2l, 1), (147, .bipush 32, 2), (149, .lshl, 1), (150, .aload_n 0, 1), (151, .iload_n 3, 1), (152, .iconst 2, 1), (153, .iadd, 1)]
theorem dT_L_law_0_ok : (dT_L_law_0.all fun e => decide (decode cL_law e.1 = .ok (e.2.1, e.2.2))) = true := by decide +kernel
theorem dL_law_0 : decode cL_law 0 = .ok (.new 7, 3) := dec_of dT_L_law_0_ok 0 rfl
theorem dL_law_3 : decode cL_law 3 = .ok (.dup, 1) := dec_of dT_L_law_0_ok 1 rfl
theorem dL_law_4 : decode cL_law 4 = .ok (.invokespecial 9, 3) := dec_of dT_L_law_0_ok 2 rfl
theorem dL_law_7 : decode cL_law 7 = .ok (.astore_n 1, 1) := dec_of dT_L_law_0_ok 3 rfl
theorem dL_law_8 : decode cL_law 8 = .ok (.new 10, 3) := dec_of dT_L_law_0_ok 4 rfl
theorem dL_law_11 : decode cL_law 11 = .ok (.dup, 1) := dec_of dT_L_law_0_ok 5 rfl
theorem dL_law_12 : decode cL_law 12 = .ok (.invokespecial 12, 3) := dec_of dT_L_law_0_ok 6 rfl
theorem dL_law_15 : decode cL_law 15 = .ok (.astore_n 2, 1) := dec_of dT_L_law_0_ok 7 rfl
theorem dL_law_16 : decode cL_law 16 = .ok (.iconst 0, 1) := dec_of dT_L_law_0_ok 8 rfl
theorem dL_law_17 : decode cL_law 17 = .ok (.istore_n 3, 1) := dec_of dT_L_law_0_ok 9 rfl
theorem dL_law_18 : decode cL_law 18 = .ok (.iload_n 3, 1) := dec_of dT_L_law_0_ok 10 rfl
theorem dL_law_19 : decode cL_law 19 = .ok (.aload_n 0, 1) := dec_of dT_L_law_0_ok 11 rfl
theorem dL_law_20 : decode cL_law 20 = .ok (.arraylength, 1) := dec_of dT_L_law_0_ok 12 rfl
theorem dL_law_21 : decode cL_law 21 = .ok (.iconst 5, 1) := dec_of dT_L_law_0_ok 13 rfl
theorem dL_law_22 : decode cL_law 22 = .ok (.isub, 1) := dec_of dT_L_law_0_ok 14 rfl
theorem dL_law_23 : decode cL_law 23 = .ok (.if_icmp .gt 772, 3) := dec_of dT_L_law_0_ok 15 rfl
theorem dL_law_26 : decode cL_law 26 = .ok (.aload_n 0, 1) := dec_of dT_L_law_0_ok 16 rfl
theorem dL_law_27 : decode cL_law 27 = .ok (.iload_n 3, 1) := dec_of dT_L_law_0_ok 17 rfl
theorem dL_law_28 : decode cL_law 28 = .ok (.iaload, 1) := dec_of dT_L_law_0_ok 18 rfl
theorem dL_law_29 : decode cL_law 29 = .ok (.bipush 31, 2) := dec_of dT_L_law_0_ok 19 rfl
theorem dL_law_31 : decode cL_law 31 = .ok (.iand, 1) := dec_of dT_L_law_0_ok 20 rfl
theorem dL_law_32 : decode cL_law 32 = .ok (.tableswitch 757 0 22 #[108, 171, 184, 207, 230, 263, 286, 319, 372, 415, 448, 471, 494, 507, 530, 553, 566, 589, 642, 675, 688, 711, 734], 108) := dec_of dT_L_law_0_ok 21 rfl
theorem dL_law_140 : decode cL_law 140 = .ok (.aload_n 1, 1) := dec_of dT_L_law_0_ok 22 rfl
theorem dL_law_141 : decode cL_law 141 = .ok (.aload_n 0, 1) := dec_of dT_L_law_0_ok 23 rfl
theorem dL_law_142 : decode cL_law 142 = .ok (.iload_n 3, 1) := dec_of dT_L_law_0_ok 24 rfl
theorem dL_law_143 : decode cL_law 143 = .ok (.iconst 1, 1) := dec_of dT_L_law_0_ok 25 rfl
theorem dL_law_144 : decode cL_law 144 = .ok (.iadd, 1) := dec_of dT_L_law_0_ok 26 rfl
theorem dL_law_145 : decode cL_law 145 = .ok (.iaload, 1) := dec_of dT_L_law_0_ok 27 rfl
theorem dL_law_146 : decode cL_law 146 = .ok (.i2l, 1) := dec_of dT_L_law_0_ok 28 rfl
theorem dL_law_147 : decode cL_law 147 = .ok (.bipush 32, 2) := dec_of dT_L_law_0_ok 29 rfl
theorem dL_law_149 : decode cL_law 149 = .ok (.lshl, 1) := dec_of dT_L_law_0_ok 30 rfl
theorem dL_law_150 : decode cL_law 150 = .ok (.aload_n 0, 1) := dec_of dT_L_law_0_ok 31 rfl
theorem dL_law_151 : decode cL_law 151 = .ok (.iload_n 3, 1) := dec_of dT_L_law_0_ok 32 rfl
theorem dL_law_152 : decode cL_law 152 = .ok (.iconst 2, 1) := dec_of dT_L_law_0_ok 33 rfl
theorem dL_law_153 : decode cL_law 153 = .ok (.iadd, 1) := dec_of dT_L_law_0_ok 34 rfl
def dT_L_law_35 : List (Nat × Instr × Nat) := [(154, .iaload, 1), (155, .i2l, 1), (156, .ldc2_w 13, 3), (159, .land, 1), (160, .lor, 1), (161, .aload_n 0, 1), (162, .iload_n 3, 1), (163, .iconst 3, 1), (164, .iadd, 1), (165, .iaload, 1), (166, .invokevirtual 15, 3), (169, .pop, 1), (170, .aload_n 2, 1), (171, .aload_n 0, 1), (172, .iload_n 3, 1), (173, .iconst 1, 1), (174, .iadd, 1), (175, .iaload, 1), (176, .i2l, 1), (177, .bipush 32, 2), (179, .lshl, 1), (180, .aload_n 0, 1), (181, .iload_n 3, 1), (182, .iconst 2, 1), (183, .iadd, 1), (184, .iaload, 1), (185, .i2l, 1), (186, .ldc2_w 13, 3), (189, .land, 1), (190, .lor, 1), (191, .aload_n 0, 1), (192, .iload_n 3, 1), (193, .iconst 3, 1), (194, .iadd, 1), (195, .iaload, 1)]
theorem dT_L_law_35_ok : (dT_L_law_35.all fun e => decide (decode cL_law e.1 = .ok (e.2.1, e.2.2))) = true := by decide +kernel
theorem dL_law_154 : decode cL_law 154 = .ok (.iaload, 1) := dec_of dT_L_law_35_ok 0 rfl
theorem dL_law_155 : decode cL_law 155 = .ok (.i2l, 1) := dec_of dT_L_law_35_ok 1 rfl
theorem dL_law_156 : decode cL_law 156 = .ok (.ldc2_w 13, 3) := dec_of dT_L_law_35_ok 2 rfl
theorem dL_law_159 : decode cL_law 159 = .ok (.land, 1) := dec_of dT_L_law_35_ok 3 rfl
theorem dL_law_160 : decode cL_law 160 = .ok (.lor, 1) := dec_of dT_L_law_35_ok 4 rfl
theorem dL_law_161 : decode cL_law 161 = .ok (.aload_n 0, 1) := dec_of dT_L_law_35_ok 5 rfl
theorem dL_law_162 : decode cL_law 162 = .ok (.iload_n 3, 1) := dec_of dT_L_law_35_ok 6 rfl
theorem dL_law_163 : decode cL_law 163 = .ok (.iconst 3, 1) := dec_of dT_L_law_35_ok 7 rfl
theorem dL_law_164 : decode cL_law 164 = .ok (.iadd, 1) := dec_of dT_L_law_35_ok 8 rfl
theorem dL_law_165 : decode cL_law 165 = .ok (.iaload, 1) := dec_of dT_L_law_35_ok 9 rfl
theorem dL_law_166 : decode cL_law 166 = .ok (.invokevirtual 15, 3) := dec_of dT_L_law_35_ok 10 rfl
theorem dL_law_169 : decode cL_law 169 = .ok (.pop, 1) := dec_of dT_L_law_35_ok 11 rfl
theorem dL_law_170 : decode cL_law 170 = .ok (.aload_n 2, 1) := dec_of dT_L_law_35_ok 12 rfl
theorem dL_law_171 : decode cL_law 171 = .ok (.aload_n 0, 1) := dec_of dT_L_law_35_ok 13 rfl
theorem dL_law_172 : decode cL_law 172 = .ok (.iload_n 3, 1) := dec_of dT_L_law_35_ok 14 rfl
theorem dL_law_173 : decode cL_law 173 = .ok (.iconst 1, 1) := dec_of dT_L_law_35_ok 15 rfl
theorem dL_law_174 : decode cL_law 174 = .ok (.iadd, 1) := dec_of dT_L_law_35_ok 16 rfl
theorem dL_law_175 : decode cL_law 175 = .ok (.iaload, 1) := dec_of dT_L_law_35_ok 17 rfl
theorem dL_law_176 : decode cL_law 176 = .ok (.i2l, 1) := dec_of dT_L_law_35_ok 18 rfl
theorem dL_law_177 : decode cL_law 177 = .ok (.bipush 32, 2) := dec_of dT_L_law_35_ok 19 rfl
theorem dL_law_179 : decode cL_law 179 = .ok (.lshl, 1) := dec_of dT_L_law_35_ok 20 rfl
theorem dL_law_180 : decode cL_law 180 = .ok (.aload_n 0, 1) := dec_of dT_L_law_35_ok 21 rfl
theorem dL_law_181 : decode cL_law 181 = .ok (.iload_n 3, 1) := dec_of dT_L_law_35_ok 22 rfl
theorem dL_law_182 : decode cL_law 182 = .ok (.iconst 2, 1) := dec_of dT_L_law_35_ok 23 rfl
theorem dL_law_183 : decode cL_law 183 = .ok (.iadd, 1) := dec_of dT_L_law_35_ok 24 rfl
theorem dL_law_184 : decode cL_law 184 = .ok (.iaload, 1) := dec_of dT_L_law_35_ok 25 rfl
theorem dL_law_185 : decode cL_law 185 = .ok (.i2l, 1) := dec_of dT_L_law_35_ok 26 rfl
theorem dL_law_186 : decode cL_law 186 = .ok (.ldc2_w 13, 3) := dec_of dT_L_law_35_ok 27 rfl
theorem dL_law_189 : decode cL_law 189 = .ok (.land, 1) := dec_of dT_L_law_35_ok 28 rfl
theorem dL_law_190 : decode cL_law 190 = .ok (.lor, 1) := dec_of dT_L_law_35_ok 29 rfl
theorem dL_law_191 : decode cL_law 191 = .ok (.aload_n 0, 1) := dec_of dT_L_law_35_ok 30 rfl
theorem dL_law_192 : decode cL_law 192 = .ok (.iload_n 3, 1) := dec_of dT_L_law_35_ok 31 rfl
theorem dL_law_193 : decode cL_law 193 = .ok (.iconst 3, 1) := dec_of dT_L_law_35_ok 32 rfl
theorem dL_law_194 : decode cL_law 194 = .ok (.iadd, 1) := dec_of dT_L_law_35_ok 33 rfl
theorem dL_law_195 : decode cL_law 195 = .ok (.iaload, 1) := dec_of dT_L_law_35_ok 34 rfl
def dT_L_law_70 : List (Nat × Instr × Nat) := [(196, .invokevirtual 19, 3), (199, .pop, 1), (200, .goto 589, 3), (203, .aload_n 1, 1), (204, .invokevirtual 20, 3), (207, .pop, 1), (208, .aload_n 2, 1), (209, .invokevirtual 24, 3), (212, .pop, 1), (213, .goto 576, 3), (216, .aload_n 1, 1), (217, .aload_n 0, 1), (218, .iload_n 3, 1), (219, .iconst 1, 1), (220, .iadd, 1), (221, .iaload, 1), (222, .invokevirtual 25, 3), (225, .pop, 1), (226, .aload_n 2, 1), (227, .aload_n 0, 1), (228, .iload_n 3, 1), (229, .iconst 1, 1), (230, .iadd, 1), (231, .iaload, 1), (232, .invokevirtual 29, 3), (235, .pop, 1), (236, .goto 553, 3), (239, .aload_n 1, 1), (240, .aload_n 0, 1), (241, .iload_n 3, 1), (242, .iconst 1, 1), (243, .iadd, 1), (244, .iaload, 1), (245, .invokevirtual 30, 3), (248, .pop, 1)]
theorem dT_L_law_70_ok : (dT_L_law_70.all fun e => decide (decode cL_law e.1 = .ok (e.2.1, e.2.2))) = true := by decide +kernel
theorem dL_law_196 : decode cL_law 196 = .ok (.invokevirtual 19, 3) := dec_of dT_L_law_70_ok 0 rfl
theorem dL_law_199 : decode cL_law 199 = .ok (.pop, 1) := dec_of dT_L_law_70_ok 1 rfl
theorem dL_law_200 : decode cL_law 200 = .ok (.goto 589, 3) := dec_of dT_L_law_70_ok 2 rfl
theorem dL_law_203 : decode cL_law 203 = .ok (.aload_n 1, 1) := dec_of dT_L_law_70_ok 3 rfl
theorem dL_law_204 : decode cL_law 204 = .ok (.invokevirtual 20, 3) := dec_of dT_L_law_70_ok 4 rfl
theorem dL_law_207 : decode cL_law 207 = .ok (.pop, 1) := dec_of dT_L_law_70_ok 5 rfl
theorem dL_law_208 : decode cL_law 208 = .ok (.aload_n 2, 1) := dec_of dT_L_law_70_ok 6 rfl
theorem dL_law_209 : decode cL_law 209 = .ok (.invokevirtual 24, 3) := dec_of dT_L_law_70_ok 7 rfl
theorem dL_law_212 : decode cL_law 212 = .ok (.pop, 1) := dec_of dT_L_law_70_ok 8 rfl
theorem dL_law_213 : decode cL_law 213 = .ok (.goto 576, 3) := dec_of dT_L_law_70_ok 9 rfl
theorem dL_law_216 : decode cL_law 216 = .ok (.aload_n 1, 1) := dec_of dT_L_law_70_ok 10 rfl
theorem dL_law_217 : decode cL_law 217 = .ok (.aload_n 0, 1) := dec_of dT_L_law_70_ok 11 rfl
theorem dL_law_218 : decode cL_law 218 = .ok (.iload_n 3, 1) := dec_of dT_L_law_70_ok 12 rfl
theorem dL_law_219 : decode cL_law 219 = .ok (.iconst 1, 1) := dec_of dT_L_law_70_ok 13 rfl
theorem dL_law_220 : decode cL_law 220 = .ok (.iadd, 1) := dec_of dT_L_law_70_ok 14 rfl
theorem dL_law_221 : decode cL_law 221 = .ok (.iaload, 1) := dec_of dT_L_law_70_ok 15 rfl
theorem dL_law_222 : decode cL_law 222 = .ok (.invokevirtual 25, 3) := dec_of dT_L_law_70_ok 16 rfl
theorem dL_law_225 : decode cL_law 225 = .ok (.pop, 1) := dec_of dT_L_law_70_ok 17 rfl
theorem dL_law_226 : decode cL_law 226 = .ok (.aload_n 2, 1) := dec_of dT_L_law_70_ok 18 rfl
theorem dL_law_227 : decode cL_law 227 = .ok (.aload_n 0, 1) := dec_of dT_L_law_70_ok 19 rfl
theorem dL_law_228 : decode cL_law 228 = .ok (.iload_n 3, 1) := dec_of dT_L_law_70_ok 20 rfl
theorem dL_law_229 : decode cL_law 229 = .ok (.iconst 1, 1) := dec_of dT_L_law_70_ok 21 rfl
theorem dL_law_230 : decode cL_law 230 = .ok (.iadd, 1) := dec_of dT_L_law_70_ok 22 rfl
theorem dL_law_231 : decode cL_law 231 = .ok (.iaload, 1) := dec_of dT_L_law_70_ok 23 rfl
theorem dL_law_232 : decode cL_law 232 = .ok (.invokevirtual 29, 3) := dec_of dT_L_law_70_ok 24 rfl
theorem dL_law_235 : decode cL_law 235 = .ok (.pop, 1) := dec_of dT_L_law_70_ok 25 rfl
theorem dL_law_236 : decode cL_law 236 = .ok (.goto 553, 3) := dec_of dT_L_law_70_ok 26 rfl
theorem dL_law_239 : decode cL_law 239 = .ok (.aload_n 1, 1) := dec_of dT_L_law_70_ok 27 rfl
theorem dL_law_240 : decode cL_law 240 = .ok (.aload_n 0, 1) := dec_of dT_L_law_70_ok 28 rfl
theorem dL_law_241 : decode cL_law 241 = .ok (.iload_n 3, 1) := dec_of dT_L_law_70_ok 29 rfl
theorem dL_law_242 : decode cL_law 242 = .ok (.iconst 1, 1) := dec_of dT_L_law_70_ok 30 rfl
theorem dL_law_243 : decode cL_law 243 = .ok (.iadd, 1) := dec_of dT_L_law_70_ok 31 rfl
theorem dL_law_244 : decode cL_law 244 = .ok (.iaload, 1) := dec_of dT_L_law_70_ok 32 rfl
theorem dL_law_245 : decode cL_law 245 = .ok (.invokevirtual 30, 3) := dec_of dT_L_law_70_ok 33 rfl
theorem dL_law_248 : decode cL_law 248 = .ok (.pop, 1) := dec_of dT_L_law_70_ok 34 rfl
def dT_L_law_105 : List (Nat × Instr × Nat) := [(249, .aload_n 2, 1), (250, .aload_n 0, 1), (251, .iload_n 3, 1), (252, .iconst 1, 1), (253, .iadd, 1), (254, .iaload, 1), (255, .invokevirtual 33, 3), (258, .pop, 1), (259, .goto 530, 3), (262, .aload_n 1, 1), (263, .aload_n 0, 1), (264, .iload_n 3, 1), (265, .iconst 1, 1), (266, .iadd, 1), (267, .iaload, 1), (268, .aload_n 0, 1), (269, .iload_n 3, 1), (270, .iconst 2, 1), (271, .iadd, 1), (272, .iaload, 1), (273, .invokevirtual 34, 3), (276, .pop, 1), (277, .aload_n 2, 1), (278, .aload_n 0, 1), (279, .iload_n 3, 1), (280, .iconst 1, 1), (281, .iadd, 1), (282, .iaload, 1), (283, .aload_n 0, 1), (284, .iload_n 3, 1), (285, .iconst 2, 1), (286, .iadd, 1), (287, .iaload, 1), (288, .invokevirtual 38, 3), (291, .pop, 1)]
theorem dT_L_law_105_ok : (dT_L_law_105.all fun e => decide (decode cL_law e.1 = .ok (e.2.1, e.2.2))) = true := by decide +kernel
theorem dL_law_249 : decode cL_law 249 = .ok (.aload_n 2, 1) := dec_of dT_L_law_105_ok 0 rfl
theorem dL_law_250 : decode cL_law 250 = .ok (.aload_n 0, 1) := dec_of dT_L_law_105_ok 1 rfl
theorem dL_law_251 : decode cL_law 251 = .ok (.iload_n 3, 1) := dec_of dT_L_law_105_ok 2 rfl
theorem dL_law_252 : decode cL_law 252 = .ok (.iconst 1, 1) := dec_of dT_L_law_105_ok 3 rfl
theorem dL_law_253 : decode cL_law 253 = .ok (.iadd, 1) := dec_of dT_L_law_105_ok 4 rfl
theorem dL_law_254 : decode cL_law 254 = .ok (.iaload, 1) := dec_of dT_L_law_105_ok 5 rfl
theorem dL_law_255 : decode cL_law 255 = .ok (.invokevirtual 33, 3) := dec_of dT_L_law_105_ok 6 rfl
theorem dL_law_258 : decode cL_law 258 = .ok (.pop, 1) := dec_of dT_L_law_105_ok 7 rfl
theorem dL_law_259 : decode cL_law 259 = .ok (.goto 530, 3) := dec_of dT_L_law_105_ok 8 rfl
theorem dL_law_262 : decode cL_law 262 = .ok (.aload_n 1, 1) := dec_of dT_L_law_105_ok 9 rfl
theorem dL_law_263 : decode cL_law 263 = .ok (.aload_n 0, 1) := dec_of dT_L_law_105_ok 10 rfl
theorem dL_law_264 : decode cL_law 264 = .ok (.iload_n 3, 1) := dec_of dT_L_law_105_ok 11 rfl
theorem dL_law_265 : decode cL_law 265 = .ok (.iconst 1, 1) := dec_of dT_L_law_105_ok 12 rfl
theorem dL_law_266 : decode cL_law 266 = .ok (.iadd, 1) := dec_of dT_L_law_105_ok 13 rfl
theorem dL_law_267 : decode cL_law 267 = .ok (.iaload, 1) := dec_of dT_L_law_105_ok 14 rfl
theorem dL_law_268 : decode cL_law 268 = .ok (.aload_n 0, 1) := dec_of dT_L_law_105_ok 15 rfl
theorem dL_law_269 : decode cL_law 269 = .ok (.iload_n 3, 1) := dec_of dT_L_law_105_ok 16 rfl
theorem dL_law_270 : decode cL_law 270 = .ok (.iconst 2, 1) := dec_of dT_L_law_105_ok 17 rfl
theorem dL_law_271 : decode cL_law 271 = .ok (.iadd, 1) := dec_of dT_L_law_105_ok 18 rfl
theorem dL_law_272 : decode cL_law 272 = .ok (.iaload, 1) := dec_of dT_L_law_105_ok 19 rfl
theorem dL_law_273 : decode cL_law 273 = .ok (.invokevirtual 34, 3) := dec_of dT_L_law_105_ok 20 rfl
theorem dL_law_276 : decode cL_law 276 = .ok (.pop, 1) := dec_of dT_L_law_105_ok 21 rfl
theorem dL_law_277 : decode cL_law 277 = .ok (.aload_n 2, 1) := dec_of dT_L_law_105_ok 22 rfl
theorem dL_law_278 : decode cL_law 278 = .ok (.aload_n 0, 1) := dec_of dT_L_law_105_ok 23 rfl
theorem dL_law_279 : decode cL_law 279 = .ok (.iload_n 3, 1) := dec_of dT_L_law_105_ok 24 rfl
theorem dL_law_280 : decode cL_law 280 = .ok (.iconst 1, 1) := dec_of dT_L_law_105_ok 25 rfl
theorem dL_law_281 : decode cL_law 281 = .ok (.iadd, 1) := dec_of dT_L_law_105_ok 26 rfl
theorem dL_law_282 : decode cL_law 282 = .ok (.iaload, 1) := dec_of dT_L_law_105_ok 27 rfl
theorem dL_law_283 : decode cL_law 283 = .ok (.aload_n 0, 1) := dec_of dT_L_law_105_ok 28 rfl
theorem dL_law_284 : decode cL_law 284 = .ok (.iload_n 3, 1) := dec_of dT_L_law_105_ok 29 rfl
theorem dL_law_285 : decode cL_law 285 = .ok (.iconst 2, 1) := dec_of dT_L_law_105_ok 30 rfl
theorem dL_law_286 : decode cL_law 286 = .ok (.iadd, 1) := dec_of dT_L_law_105_ok 31 rfl
theorem dL_law_287 : decode cL_law 287 = .ok (.iaload, 1) := dec_of dT_L_law_105_ok 32 rfl
theorem dL_law_288 : decode cL_law 288 = .ok (.invokevirtual 38, 3) := dec_of dT_L_law_105_ok 33 rfl
theorem dL_law_291 : decode cL_law 291 = .ok (.pop, 1) := dec_of dT_L_law_105_ok 34 rfl
