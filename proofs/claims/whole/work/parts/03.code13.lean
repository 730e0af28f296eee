/-! ===== the code of the methods, instruction by instruction (printed by program) ===== -/
def ck285_0 : List (Nat × Instr × Nat) := [(0, .aload_n 0, 1), (1, .getfield 288, 3), (4, .ifCond .ne 5, 3), (7, .iconst (-1), 1), (8, .ireturn, 1), (9, .iconst 0, 1), (10, .istore_n 1, 1), (11, .iload_n 1, 1), (12, .sipush 205, 3), (15, .if_icmp .ge 21, 3), (18, .aload_n 0, 1), (19, .getfield 61, 3), (22, .iload_n 1, 1), (23, .aload_n 0, 1), (24, .getfield 99, 3), (27, .iload_n 1, 1)]
set_option maxRecDepth 100000 in
theorem dk285_0 : ∀ e ∈ ck285_0, decode prog_14_method_123_code e.1 = .ok e.2 := by decide +kernel
def ck285_1 : List (Nat × Instr × Nat) := [(28, .iaload, 1), (29, .iastore, 1), (30, .iinc 1 1, 3), (33, .goto (-22), 3), (36, .aload_n 0, 1), (37, .iconst 0, 1), (38, .putfield 285, 3), (41, .aload_n 0, 1), (42, .getfield 61, 3), (45, .bipush 21, 2), (47, .iaload, 1), (48, .ireturn, 1)]
set_option maxRecDepth 100000 in
theorem dk285_1 : ∀ e ∈ ck285_1, decode prog_14_method_123_code e.1 = .ok e.2 := by decide +kernel
def ck285 : List (Nat × List (Nat × Instr × Nat)) := [(28, ck285_0), (49, ck285_1)]
theorem dk285 : cOk prog_14_method_123_code ck285 := cOk_c dk285_0 (cOk_c dk285_1 (cOk_n))
def ck286_0 : List (Nat × Instr × Nat) := [(0, .iload_n 1, 1), (1, .tableswitch 163 0 13 #[71, 76, 81, 86, 91, 96, 104, 112, 127, 135, 140, 145, 150, 158], 71), (72, .aload_n 0, 1), (73, .getfield 267, 3), (76, .ireturn, 1), (77, .aload_n 0, 1), (78, .getfield 273, 3), (81, .ireturn, 1), (82, .aload_n 0, 1), (83, .getfield 295, 3), (86, .ireturn, 1), (87, .aload_n 0, 1), (88, .getfield 109, 3), (91, .ireturn, 1), (92, .aload_n 0, 1), (93, .getfield 67, 3)]
set_option maxRecDepth 100000 in
theorem dk286_0 : ∀ e ∈ ck286_0, decode prog_14_method_124_code e.1 = .ok e.2 := by decide +kernel
def ck286_1 : List (Nat × Instr × Nat) := [(96, .ireturn, 1), (97, .aload_n 0, 1), (98, .getfield 61, 3), (101, .bipush 21, 2), (103, .iaload, 1), (104, .ireturn, 1), (105, .aload_n 0, 1), (106, .getfield 61, 3), (109, .bipush 22, 2), (111, .iaload, 1), (112, .ireturn, 1), (113, .aload_n 0, 1), (114, .invokevirtual 417, 3), (117, .aload_n 0, 1), (118, .getfield 61, 3), (121, .bipush 18, 2)]
set_option maxRecDepth 100000 in
theorem dk286_1 : ∀ e ∈ ck286_1, decode prog_14_method_124_code e.1 = .ok e.2 := by decide +kernel
def ck286_2 : List (Nat × Instr × Nat) := [(123, .iaload, 1), (124, .iconst (-1), 1), (125, .ixor, 1), (126, .iand, 1), (127, .ireturn, 1), (128, .aload_n 0, 1), (129, .getfield 61, 3), (132, .bipush 23, 2), (134, .iaload, 1), (135, .ireturn, 1), (136, .aload_n 0, 1), (137, .getfield 358, 3), (140, .ireturn, 1), (141, .aload_n 0, 1), (142, .getfield 282, 3), (145, .ireturn, 1)]
set_option maxRecDepth 100000 in
theorem dk286_2 : ∀ e ∈ ck286_2, decode prog_14_method_124_code e.1 = .ok e.2 := by decide +kernel
def ck286_3 : List (Nat × Instr × Nat) := [(146, .aload_n 0, 1), (147, .getfield 276, 3), (150, .ireturn, 1), (151, .aload_n 0, 1), (152, .getfield 61, 3), (155, .bipush 24, 2), (157, .iaload, 1), (158, .ireturn, 1), (159, .aload_n 0, 1), (160, .getfield 285, 3), (163, .ireturn, 1), (164, .ldc_w 375, 3), (167, .ireturn, 1)]
set_option maxRecDepth 100000 in
theorem dk286_3 : ∀ e ∈ ck286_3, decode prog_14_method_124_code e.1 = .ok e.2 := by decide +kernel
def ck286 : List (Nat × List (Nat × Instr × Nat)) := [(96, ck286_0), (123, ck286_1), (146, ck286_2), (168, ck286_3)]
theorem dk286 : cOk prog_14_method_124_code ck286 := cOk_c dk286_0 (cOk_c dk286_1 (cOk_c dk286_2 (cOk_c dk286_3 (cOk_n))))
def ck287_0 : List (Nat × Instr × Nat) := [(0, .iload_n 0, 1), (1, .iload_n 1, 1), (2, .if_icmp .ge 7, 3), (5, .iconst (-1), 1), (6, .goto 13, 3), (9, .iload_n 0, 1), (10, .iload_n 1, 1), (11, .if_icmp .ne 7, 3), (14, .iconst 0, 1), (15, .goto 4, 3), (18, .iconst 1, 1), (19, .ireturn, 1)]
set_option maxRecDepth 100000 in
theorem dk287_0 : ∀ e ∈ ck287_0, decode prog_21_method_40_code e.1 = .ok e.2 := by decide +kernel
def ck287 : List (Nat × List (Nat × Instr × Nat)) := [(20, ck287_0)]
theorem dk287 : cOk prog_21_method_40_code ck287 := cOk_c dk287_0 (cOk_n)
def ck288_0 : List (Nat × Instr × Nat) := [(0, .iload_n 0, 1), (1, .iload_n 0, 1), (2, .iconst 1, 1), (3, .iushr, 1), (4, .ldc_w 265, 3), (7, .iand, 1), (8, .isub, 1), (9, .istore_n 0, 1), (10, .iload_n 0, 1), (11, .ldc_w 266, 3), (14, .iand, 1), (15, .iload_n 0, 1), (16, .iconst 2, 1), (17, .iushr, 1), (18, .ldc_w 266, 3), (21, .iand, 1)]
set_option maxRecDepth 100000 in
theorem dk288_0 : ∀ e ∈ ck288_0, decode prog_21_method_49_code e.1 = .ok e.2 := by decide +kernel
def ck288_1 : List (Nat × Instr × Nat) := [(22, .iadd, 1), (23, .istore_n 0, 1), (24, .iload_n 0, 1), (25, .iload_n 0, 1), (26, .iconst 4, 1), (27, .iushr, 1), (28, .iadd, 1), (29, .ldc_w 267, 3), (32, .iand, 1), (33, .istore_n 0, 1), (34, .iload_n 0, 1), (35, .iload_n 0, 1), (36, .bipush 8, 2), (38, .iushr, 1), (39, .iadd, 1), (40, .istore_n 0, 1)]
set_option maxRecDepth 100000 in
theorem dk288_1 : ∀ e ∈ ck288_1, decode prog_21_method_49_code e.1 = .ok e.2 := by decide +kernel
def ck288_2 : List (Nat × Instr × Nat) := [(41, .iload_n 0, 1), (42, .iload_n 0, 1), (43, .bipush 16, 2), (45, .iushr, 1), (46, .iadd, 1), (47, .istore_n 0, 1), (48, .iload_n 0, 1), (49, .bipush 63, 2), (51, .iand, 1), (52, .ireturn, 1)]
set_option maxRecDepth 100000 in
theorem dk288_2 : ∀ e ∈ ck288_2, decode prog_21_method_49_code e.1 = .ok e.2 := by decide +kernel
def ck288 : List (Nat × List (Nat × Instr × Nat)) := [(22, ck288_0), (41, ck288_1), (53, ck288_2)]
theorem dk288 : cOk prog_21_method_49_code ck288 := cOk_c dk288_0 (cOk_c dk288_1 (cOk_c dk288_2 (cOk_n)))
def ck289_0 : List (Nat × Instr × Nat) := [(0, .aload_n 0, 1), (1, .getfield 9, 3), (4, .arraylength, 1), (5, .aload_n 0, 1), (6, .invokevirtual 335, 3), (9, .ishr, 1), (10, .ireturn, 1)]
set_option maxRecDepth 100000 in
theorem dk289_0 : ∀ e ∈ ck289_0, decode prog_24_method_54_code e.1 = .ok e.2 := by decide +kernel
def ck289 : List (Nat × List (Nat × Instr × Nat)) := [(11, ck289_0)]
theorem dk289 : cOk prog_24_method_54_code ck289 := cOk_c dk289_0 (cOk_n)
def ck290_0 : List (Nat × Instr × Nat) := [(0, .aload_n 0, 1), (1, .invokevirtual 492, 3), (4, .ifCond .eq 12, 3), (7, .aload_n 0, 1), (8, .getfield 9, 3), (11, .iload_n 1, 1), (12, .invokestatic 495, 3), (15, .ireturn, 1), (16, .aload_n 0, 1), (17, .getfield 9, 3), (20, .iload_n 1, 1), (21, .invokestatic 498, 3), (24, .ireturn, 1)]
set_option maxRecDepth 100000 in
theorem dk290_0 : ∀ e ∈ ck290_0, decode prog_24_method_56_code e.1 = .ok e.2 := by decide +kernel
def ck290 : List (Nat × List (Nat × Instr × Nat)) := [(25, ck290_0)]
theorem dk290 : cOk prog_24_method_56_code ck290 := cOk_c dk290_0 (cOk_n)
def ck291_0 : List (Nat × Instr × Nat) := [(0, .aload_n 0, 1), (1, .iload_n 1, 1), (2, .iconst 0, 1), (3, .invokevirtual 633, 3), (6, .ireturn, 1)]
set_option maxRecDepth 100000 in
theorem dk291_0 : ∀ e ∈ ck291_0, decode prog_24_method_79_code e.1 = .ok e.2 := by decide +kernel
def ck291 : List (Nat × List (Nat × Instr × Nat)) := [(7, ck291_0)]
theorem dk291 : cOk prog_24_method_79_code ck291 := cOk_c dk291_0 (cOk_n)
def ck292_0 : List (Nat × Instr × Nat) := [(0, .aload_n 0, 1), (1, .invokevirtual 492, 3), (4, .ifCond .eq 19, 3), (7, .aload_n 0, 1), (8, .getfield 9, 3), (11, .iload_n 1, 1), (12, .iload_n 2, 1), (13, .aload_n 0, 1), (14, .invokevirtual 505, 3), (17, .invokestatic 637, 3), (20, .goto 16, 3), (23, .aload_n 0, 1), (24, .getfield 9, 3), (27, .iload_n 1, 1), (28, .iload_n 2, 1), (29, .aload_n 0, 1)]
set_option maxRecDepth 100000 in
theorem dk292_0 : ∀ e ∈ ck292_0, decode prog_24_method_80_code e.1 = .ok e.2 := by decide +kernel
def ck292_1 : List (Nat × Instr × Nat) := [(30, .invokevirtual 505, 3), (33, .invokestatic 640, 3), (36, .ireturn, 1)]
set_option maxRecDepth 100000 in
theorem dk292_1 : ∀ e ∈ ck292_1, decode prog_24_method_80_code e.1 = .ok e.2 := by decide +kernel
def ck292 : List (Nat × List (Nat × Instr × Nat)) := [(30, ck292_0), (37, ck292_1)]
theorem dk292 : cOk prog_24_method_80_code ck292 := cOk_c dk292_0 (cOk_c dk292_1 (cOk_n))
def ck293_0 : List (Nat × Instr × Nat) := [(0, .getstatic 38, 3), (3, .ifCond .eq 10, 3), (6, .aload_n 0, 1), (7, .getfield 15, 3), (10, .goto 4, 3), (13, .iconst 1, 1), (14, .ireturn, 1)]
set_option maxRecDepth 100000 in
theorem dk293_0 : ∀ e ∈ ck293_0, decode prog_24_method_152_code e.1 = .ok e.2 := by decide +kernel
def ck293 : List (Nat × List (Nat × Instr × Nat)) := [(15, ck293_0)]
theorem dk293 : cOk prog_24_method_152_code ck293 := cOk_c dk293_0 (cOk_n)
def ck294_0 : List (Nat × Instr × Nat) := [(0, .getstatic 38, 3), (3, .ifCond .eq 14, 3), (6, .aload_n 0, 1), (7, .getfield 15, 3), (10, .ifCond .ne 7, 3), (13, .iconst 1, 1), (14, .goto 4, 3), (17, .iconst 0, 1), (18, .ireturn, 1)]
set_option maxRecDepth 100000 in
theorem dk294_0 : ∀ e ∈ ck294_0, decode prog_24_method_154_code e.1 = .ok e.2 := by decide +kernel
def ck294 : List (Nat × List (Nat × Instr × Nat)) := [(19, ck294_0)]
theorem dk294 : cOk prog_24_method_154_code ck294 := cOk_c dk294_0 (cOk_n)
def ck295_0 : List (Nat × Instr × Nat) := [(0, .iload_n 0, 1), (1, .iload_n 1, 1), (2, .getstatic 1053, 3), (5, .invokestatic 1059, 3), (8, .pop, 1), (9, .return_, 1)]
set_option maxRecDepth 100000 in
theorem dk295_0 : ∀ e ∈ ck295_0, decode prog_24_method_155_code e.1 = .ok e.2 := by decide +kernel
def ck295 : List (Nat × List (Nat × Instr × Nat)) := [(10, ck295_0)]
theorem dk295 : cOk prog_24_method_155_code ck295 := cOk_c dk295_0 (cOk_n)
def ck296_0 : List (Nat × Instr × Nat) := [(0, .iload_n 1, 1), (1, .aload_n 0, 1), (2, .arraylength, 1), (3, .invokestatic 9, 3), (6, .aload_n 0, 1), (7, .iload_n 1, 1), (8, .baload, 1), (9, .sipush 255, 3), (12, .iand, 1), (13, .i2c, 1), (14, .ireturn, 1)]
set_option maxRecDepth 100000 in
theorem dk296_0 : ∀ e ∈ ck296_0, decode prog_25_method_2_code e.1 = .ok e.2 := by decide +kernel
def ck296 : List (Nat × List (Nat × Instr × Nat)) := [(15, ck296_0)]
theorem dk296 : cOk prog_25_method_2_code ck296 := cOk_c dk296_0 (cOk_n)
def ck297_0 : List (Nat × Instr × Nat) := [(0, .iload_n 0, 1), (1, .ifCond .lt 14, 3), (4, .iload_n 0, 1), (5, .sipush 255, 3), (8, .if_icmp .gt 7, 3), (11, .iconst 1, 1), (12, .goto 4, 3), (15, .iconst 0, 1), (16, .ireturn, 1)]
set_option maxRecDepth 100000 in
theorem dk297_0 : ∀ e ∈ ck297_0, decode prog_25_method_4_code e.1 = .ok e.2 := by decide +kernel
def ck297 : List (Nat × List (Nat × Instr × Nat)) := [(17, ck297_0)]
theorem dk297 : cOk prog_25_method_4_code ck297 := cOk_c dk297_0 (cOk_n)
def ck298_0 : List (Nat × Instr × Nat) := [(0, .iload_n 1, 1), (1, .invokestatic 88, 3), (4, .ifCond .ne 5, 3), (7, .iconst (-1), 1), (8, .ireturn, 1), (9, .iload_n 2, 1), (10, .iconst 0, 1), (11, .invokestatic 92, 3), (14, .istore_n 2, 1), (15, .iload_n 3, 1), (16, .aload_n 0, 1), (17, .arraylength, 1), (18, .invokestatic 38, 3), (21, .istore_n 3, 1), (22, .iload_n 2, 1), (23, .iload_n 3, 1)]
set_option maxRecDepth 100000 in
theorem dk298_0 : ∀ e ∈ ck298_0, decode prog_25_method_22_code e.1 = .ok e.2 := by decide +kernel
def ck298_1 : List (Nat × Instr × Nat) := [(24, .if_icmp .lt 5, 3), (27, .iconst (-1), 1), (28, .ireturn, 1), (29, .aload_n 0, 1), (30, .iload_n 1, 1), (31, .iload_n 2, 1), (32, .iload_n 3, 1), (33, .invokestatic 95, 3), (36, .ireturn, 1)]
set_option maxRecDepth 100000 in
theorem dk298_1 : ∀ e ∈ ck298_1, decode prog_25_method_22_code e.1 = .ok e.2 := by decide +kernel
def ck298 : List (Nat × List (Nat × Instr × Nat)) := [(24, ck298_0), (37, ck298_1)]
theorem dk298 : cOk prog_25_method_22_code ck298 := cOk_c dk298_0 (cOk_c dk298_1 (cOk_n))
def ck299_0 : List (Nat × Instr × Nat) := [(0, .iload_n 1, 1), (1, .i2b, 1), (2, .istore 4, 2), (4, .iload_n 2, 1), (5, .istore 5, 2), (7, .iload 5, 2), (9, .iload_n 3, 1), (10, .if_icmp .ge 21, 3), (13, .aload_n 0, 1), (14, .iload 5, 2), (16, .baload, 1), (17, .iload 4, 2), (19, .if_icmp .ne 6, 3), (22, .iload 5, 2), (24, .ireturn, 1), (25, .iinc 5 1, 3)]
set_option maxRecDepth 100000 in
theorem dk299_0 : ∀ e ∈ ck299_0, decode prog_25_method_23_code e.1 = .ok e.2 := by decide +kernel
def ck299_1 : List (Nat × Instr × Nat) := [(28, .goto (-21), 3), (31, .iconst (-1), 1), (32, .ireturn, 1)]
set_option maxRecDepth 100000 in
theorem dk299_1 : ∀ e ∈ ck299_1, decode prog_25_method_23_code e.1 = .ok e.2 := by decide +kernel
def ck299 : List (Nat × List (Nat × Instr × Nat)) := [(28, ck299_0), (33, ck299_1)]
theorem dk299 : cOk prog_25_method_23_code ck299 := cOk_c dk299_0 (cOk_c dk299_1 (cOk_n))
def ck300_0 : List (Nat × Instr × Nat) := [(0, .iconst 0, 1), (1, .istore_n 2, 1), (2, .aload_n 0, 1), (3, .arraylength, 1), (4, .istore_n 3, 1), (5, .iload_n 2, 1), (6, .iload_n 3, 1), (7, .if_icmp .ge 13, 3), (10, .aload_n 0, 1), (11, .iload_n 2, 1), (12, .iload_n 1, 1), (13, .iastore, 1), (14, .iinc 2 1, 3), (17, .goto (-12), 3), (20, .return_, 1)]
set_option maxRecDepth 100000 in
theorem dk300_0 : ∀ e ∈ ck300_0, decode prog_31_method_103_code e.1 = .ok e.2 := by decide +kernel
def ck300 : List (Nat × List (Nat × Instr × Nat)) := [(21, ck300_0)]
theorem dk300 : cOk prog_31_method_103_code ck300 := cOk_c dk300_0 (cOk_n)
def ck301_0 : List (Nat × Instr × Nat) := [(0, .iload_n 1, 1), (1, .aload_n 0, 1), (2, .arraylength, 1), (3, .if_icmp .ne 11, 3), (6, .aload_n 0, 1), (7, .invokevirtual 316, 3), (10, .checkcast 317, 3), (13, .areturn, 1), (14, .iload_n 1, 1), (15, .newarray .int, 2), (17, .astore_n 2, 1), (18, .aload_n 0, 1), (19, .iconst 0, 1), (20, .aload_n 2, 1), (21, .iconst 0, 1), (22, .aload_n 0, 1)]
set_option maxRecDepth 100000 in
theorem dk301_0 : ∀ e ∈ ck301_0, decode prog_31_method_123_code e.1 = .ok e.2 := by decide +kernel
def ck301_1 : List (Nat × Instr × Nat) := [(23, .arraylength, 1), (24, .iload_n 1, 1), (25, .invokestatic 304, 3), (28, .invokestatic 150, 3), (31, .aload_n 2, 1), (32, .areturn, 1)]
set_option maxRecDepth 100000 in
theorem dk301_1 : ∀ e ∈ ck301_1, decode prog_31_method_123_code e.1 = .ok e.2 := by decide +kernel
def ck301 : List (Nat × List (Nat × Instr × Nat)) := [(23, ck301_0), (33, ck301_1)]
theorem dk301 : cOk prog_31_method_123_code ck301 := cOk_c dk301_0 (cOk_c dk301_1 (cOk_n))
def ck302_0 : List (Nat × Instr × Nat) := [(0, .iload_n 0, 1), (1, .ifCond .lt 8, 3), (4, .iload_n 0, 1), (5, .iload_n 1, 1), (6, .if_icmp .lt 10, 3), (9, .aload_n 2, 1), (10, .iload_n 0, 1), (11, .iload_n 1, 1), (12, .invokestatic 95, 3), (15, .athrow, 1), (16, .iload_n 0, 1), (17, .ireturn, 1)]
set_option maxRecDepth 100000 in
theorem dk302_0 : ∀ e ∈ ck302_0, decode prog_33_method_11_code e.1 = .ok e.2 := by decide +kernel
def ck302 : List (Nat × List (Nat × Instr × Nat)) := [(18, ck302_0)]
theorem dk302 : cOk prog_33_method_11_code ck302 := cOk_c dk302_0 (cOk_n)
