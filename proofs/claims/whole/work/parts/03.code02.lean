/-! ===== the code of the methods, instruction by instruction (printed by program) ===== -/
def ck33_0 : List (Nat × Instr × Nat) := [(0, .aload_n 1, 1), (1, .aload_n 0, 1), (2, .getfield 20, 3), (5, .invokevirtual 50, 3), (8, .iconst 0, 1), (9, .istore_n 2, 1), (10, .iload_n 2, 1), (11, .aload_n 0, 1), (12, .getfield 20, 3), (15, .getfield 35, 3), (18, .if_icmp .ge 31, 3), (21, .aload_n 0, 1), (22, .getfield 9, 3), (25, .aload_n 0, 1), (26, .getfield 20, 3), (29, .getfield 35, 3)]
set_option maxRecDepth 100000 in
theorem dk33_0 : ∀ e ∈ ck33_0, decode prog_5_method_12_code e.1 = .ok e.2 := by decide +kernel
def ck33_1 : List (Nat × Instr × Nat) := [(32, .iconst 1, 1), (33, .isub, 1), (34, .iload_n 2, 1), (35, .isub, 1), (36, .aload_n 0, 1), (37, .getfield 24, 3), (40, .iload_n 2, 1), (41, .iaload, 1), (42, .iastore, 1), (43, .iinc 2 1, 3), (46, .goto (-36), 3), (49, .aload_n 0, 1), (50, .iconst 0, 1), (51, .putfield 27, 3), (54, .return_, 1)]
set_option maxRecDepth 100000 in
theorem dk33_1 : ∀ e ∈ ck33_1, decode prog_5_method_12_code e.1 = .ok e.2 := by decide +kernel
def ck33 : List (Nat × List (Nat × Instr × Nat)) := [(32, ck33_0), (55, ck33_1)]
theorem dk33 : cOk prog_5_method_12_code ck33 := cOk_c dk33_0 (cOk_c dk33_1 (cOk_n))
def ck34_0 : List (Nat × Instr × Nat) := [(0, .aload_n 0, 1), (1, .invokespecial 1, 3), (4, .aload_n 0, 1), (5, .aload_n 1, 1), (6, .putfield 7, 3), (9, .return_, 1)]
set_option maxRecDepth 100000 in
theorem dk34_0 : ∀ e ∈ ck34_0, decode prog_6_method_1_code e.1 = .ok e.2 := by decide +kernel
def ck34 : List (Nat × List (Nat × Instr × Nat)) := [(10, ck34_0)]
theorem dk34 : cOk prog_6_method_1_code ck34 := cOk_c dk34_0 (cOk_n)
def ck35_0 : List (Nat × Instr × Nat) := [(0, .iconst 0, 1), (1, .istore_n 3, 1), (2, .iconst 0, 1), (3, .istore 4, 2), (5, .iload 4, 2), (7, .aload_n 0, 1), (8, .getfield 7, 3), (11, .arraylength, 1), (12, .if_icmp .ge 228, 3), (15, .aload_n 0, 1), (16, .getfield 7, 3), (19, .iload 4, 2), (21, .iaload, 1), (22, .bipush 14, 2), (24, .ishr, 1), (25, .istore 5, 2)]
set_option maxRecDepth 100000 in
theorem dk35_0 : ∀ e ∈ ck35_0, decode prog_6_method_2_code e.1 = .ok e.2 := by decide +kernel
def ck35_1 : List (Nat × Instr × Nat) := [(27, .aload_n 0, 1), (28, .getfield 7, 3), (31, .iload 4, 2), (33, .iaload, 1), (34, .sipush 16383, 3), (37, .iand, 1), (38, .istore 6, 2), (40, .iload 5, 2), (42, .iconst 1, 1), (43, .if_icmp .gt 47, 3), (46, .iload_n 3, 1), (47, .aload_n 2, 1), (48, .arraylength, 1), (49, .if_icmp .ge 16, 3), (52, .iload 5, 2), (54, .iconst 1, 1)]
set_option maxRecDepth 100000 in
theorem dk35_1 : ∀ e ∈ ck35_1, decode prog_6_method_2_code e.1 = .ok e.2 := by decide +kernel
def ck35_2 : List (Nat × Instr × Nat) := [(55, .if_icmp .ne 12, 3), (58, .iload 6, 2), (60, .aload_n 1, 1), (61, .arraylength, 1), (62, .if_icmp .lt 5, 3), (65, .iconst 0, 1), (66, .ireturn, 1), (67, .aload_n 2, 1), (68, .iload_n 3, 1), (69, .iload 5, 2), (71, .ifCond .ne 8, 3), (74, .iload 6, 2), (76, .goto 7, 3), (79, .aload_n 1, 1), (80, .iload 6, 2), (82, .iaload, 1)]
set_option maxRecDepth 100000 in
theorem dk35_2 : ∀ e ∈ ck35_2, decode prog_6_method_2_code e.1 = .ok e.2 := by decide +kernel
def ck35_3 : List (Nat × Instr × Nat) := [(83, .iastore, 1), (84, .iinc 3 1, 3), (87, .goto 147, 3), (90, .iload_n 3, 1), (91, .iconst 1, 1), (92, .if_icmp .lt 14, 3), (95, .iload 5, 2), (97, .iconst 4, 1), (98, .if_icmp .le 10, 3), (101, .iload_n 3, 1), (102, .iconst 2, 1), (103, .if_icmp .ge 5, 3), (106, .iconst 0, 1), (107, .ireturn, 1), (108, .aload_n 2, 1), (109, .iload_n 3, 1)]
set_option maxRecDepth 100000 in
theorem dk35_3 : ∀ e ∈ ck35_3, decode prog_6_method_2_code e.1 = .ok e.2 := by decide +kernel
def ck35_4 : List (Nat × Instr × Nat) := [(110, .iconst 1, 1), (111, .isub, 1), (112, .iaload, 1), (113, .istore 7, 2), (115, .iload 5, 2), (117, .iconst 2, 1), (118, .if_icmp .ne 6, 3), (121, .iload 7, 2), (123, .ireturn, 1), (124, .iload 5, 2), (126, .iconst 3, 1), (127, .if_icmp .ne 32, 3), (130, .iinc 3 (-1), 3), (133, .iload 7, 2), (135, .ifCond .ne 17, 3), (138, .iload 6, 2)]
set_option maxRecDepth 100000 in
theorem dk35_4 : ∀ e ∈ ck35_4, decode prog_6_method_2_code e.1 = .ok e.2 := by decide +kernel
def ck35_5 : List (Nat × Instr × Nat) := [(140, .iload 4, 2), (142, .if_icmp .le 10, 3), (145, .iload 6, 2), (147, .iconst 1, 1), (148, .isub, 1), (149, .goto 5, 3), (152, .iload 4, 2), (154, .istore 4, 2), (156, .goto 78, 3), (159, .iload 5, 2), (161, .iconst 4, 1), (162, .if_icmp .ne 15, 3), (165, .aload_n 2, 1), (166, .iload_n 3, 1), (167, .iconst 1, 1), (168, .isub, 1)]
set_option maxRecDepth 100000 in
theorem dk35_5 : ∀ e ∈ ck35_5, decode prog_6_method_2_code e.1 = .ok e.2 := by decide +kernel
def ck35_6 : List (Nat × Instr × Nat) := [(169, .iconst 1, 1), (170, .iload 7, 2), (172, .isub, 1), (173, .iastore, 1), (174, .goto 60, 3), (177, .iinc 3 (-1), 3), (180, .iload 5, 2), (182, .aload_n 2, 1), (183, .iload_n 3, 1), (184, .iconst 1, 1), (185, .isub, 1), (186, .iaload, 1), (187, .i2l, 1), (188, .iload 7, 2), (190, .i2l, 1), (191, .invokestatic 13, 3)]
set_option maxRecDepth 100000 in
theorem dk35_6 : ∀ e ∈ ck35_6, decode prog_6_method_2_code e.1 = .ok e.2 := by decide +kernel
def ck35_7 : List (Nat × Instr × Nat) := [(194, .lstore 8, 2), (196, .aload_n 2, 1), (197, .iload_n 3, 1), (198, .iconst 1, 1), (199, .isub, 1), (200, .lload 8, 2), (202, .ldc2_w 17, 3), (205, .lcmp, 1), (206, .ifCond .le 9, 3), (209, .ldc2_w 17, 3), (212, .goto 20, 3), (215, .lload 8, 2), (217, .ldc2_w 19, 3), (220, .lcmp, 1), (221, .ifCond .ge 9, 3), (224, .ldc2_w 19, 3)]
set_option maxRecDepth 100000 in
theorem dk35_7 : ∀ e ∈ ck35_7, decode prog_6_method_2_code e.1 = .ok e.2 := by decide +kernel
def ck35_8 : List (Nat × Instr × Nat) := [(227, .goto 5, 3), (230, .lload 8, 2), (232, .l2i, 1), (233, .iastore, 1), (234, .iinc 4 1, 3), (237, .goto (-232), 3), (240, .iconst 0, 1), (241, .ireturn, 1)]
set_option maxRecDepth 100000 in
theorem dk35_8 : ∀ e ∈ ck35_8, decode prog_6_method_2_code e.1 = .ok e.2 := by decide +kernel
def ck35 : List (Nat × List (Nat × Instr × Nat)) := [(27, ck35_0), (55, ck35_1), (83, ck35_2), (110, ck35_3), (140, ck35_4), (169, ck35_5), (194, ck35_6), (227, ck35_7), (242, ck35_8)]
theorem dk35 : cOk prog_6_method_2_code ck35 := cOk_c dk35_0 (cOk_c dk35_1 (cOk_c dk35_2 (cOk_c dk35_3 (cOk_c dk35_4 (cOk_c dk35_5 (cOk_c dk35_6 (cOk_c dk35_7 (cOk_c dk35_8 (cOk_n)))))))))
def ck36_0 : List (Nat × Instr × Nat) := [(0, .iload_n 0, 1), (1, .tableswitch 113 5 12 #[47, 51, 55, 59, 73, 85, 97, 109], 47), (48, .lload_n 1, 1), (49, .lload_n 3, 1), (50, .ladd, 1), (51, .lreturn, 1), (52, .lload_n 1, 1), (53, .lload_n 3, 1), (54, .lsub, 1), (55, .lreturn, 1), (56, .lload_n 1, 1), (57, .lload_n 3, 1), (58, .lmul, 1), (59, .lreturn, 1), (60, .lload_n 3, 1), (61, .lconst 0, 1)]
set_option maxRecDepth 100000 in
theorem dk36_0 : ∀ e ∈ ck36_0, decode prog_6_method_3_code e.1 = .ok e.2 := by decide +kernel
def ck36_1 : List (Nat × Instr × Nat) := [(62, .lcmp, 1), (63, .ifCond .ne 7, 3), (66, .lconst 0, 1), (67, .goto 6, 3), (70, .lload_n 1, 1), (71, .lload_n 3, 1), (72, .ldiv, 1), (73, .lreturn, 1), (74, .lload_n 1, 1), (75, .lload_n 3, 1), (76, .lcmp, 1), (77, .ifCond .ne 7, 3), (80, .lconst 1, 1), (81, .goto 4, 3), (84, .lconst 0, 1), (85, .lreturn, 1)]
set_option maxRecDepth 100000 in
theorem dk36_1 : ∀ e ∈ ck36_1, decode prog_6_method_3_code e.1 = .ok e.2 := by decide +kernel
def ck36_2 : List (Nat × Instr × Nat) := [(86, .lload_n 1, 1), (87, .lload_n 3, 1), (88, .lcmp, 1), (89, .ifCond .ge 7, 3), (92, .lconst 1, 1), (93, .goto 4, 3), (96, .lconst 0, 1), (97, .lreturn, 1), (98, .lload_n 1, 1), (99, .lload_n 3, 1), (100, .lcmp, 1), (101, .ifCond .le 7, 3), (104, .lconst 1, 1), (105, .goto 4, 3), (108, .lconst 0, 1), (109, .lreturn, 1)]
set_option maxRecDepth 100000 in
theorem dk36_2 : ∀ e ∈ ck36_2, decode prog_6_method_3_code e.1 = .ok e.2 := by decide +kernel
def ck36_3 : List (Nat × Instr × Nat) := [(110, .lload_n 1, 1), (111, .lload_n 3, 1), (112, .land, 1), (113, .lreturn, 1), (114, .lload_n 1, 1), (115, .lload_n 3, 1), (116, .lor, 1), (117, .lreturn, 1)]
set_option maxRecDepth 100000 in
theorem dk36_3 : ∀ e ∈ ck36_3, decode prog_6_method_3_code e.1 = .ok e.2 := by decide +kernel
def ck36 : List (Nat × List (Nat × Instr × Nat)) := [(62, ck36_0), (86, ck36_1), (110, ck36_2), (118, ck36_3)]
theorem dk36 : cOk prog_6_method_3_code ck36 := cOk_c dk36_0 (cOk_c dk36_1 (cOk_c dk36_2 (cOk_c dk36_3 (cOk_n))))
def ck37_0 : List (Nat × Instr × Nat) := [(0, .aload_n 0, 1), (1, .invokespecial 3, 3), (4, .aload_n 0, 1), (5, .sipush 241, 3), (8, .newarray .int, 2), (10, .putfield 11, 3), (13, .aload_n 0, 1), (14, .aload_n 1, 1), (15, .putfield 17, 3), (18, .return_, 1)]
set_option maxRecDepth 100000 in
theorem dk37_0 : ∀ e ∈ ck37_0, decode prog_7_method_1_code e.1 = .ok e.2 := by decide +kernel
def ck37 : List (Nat × List (Nat × Instr × Nat)) := [(19, ck37_0)]
theorem dk37 : cOk prog_7_method_1_code ck37 := cOk_c dk37_0 (cOk_n)
def ck38_0 : List (Nat × Instr × Nat) := [(0, .aload_n 0, 1), (1, .iconst 0, 1), (2, .putfield 21, 3), (5, .aload_n 0, 1), (6, .iconst 0, 1), (7, .putfield 25, 3), (10, .iconst 0, 1), (11, .istore_n 1, 1), (12, .iload_n 1, 1), (13, .sipush 240, 3), (16, .if_icmp .gt 44, 3), (19, .aload_n 0, 1), (20, .invokevirtual 28, 3), (23, .ifCond .ne 8, 3), (26, .aload_n 0, 1), (27, .getfield 21, 3)]
set_option maxRecDepth 100000 in
theorem dk38_0 : ∀ e ∈ ck38_0, decode prog_7_method_2_code e.1 = .ok e.2 := by decide +kernel
def ck38_1 : List (Nat × Instr × Nat) := [(30, .ireturn, 1), (31, .aload_n 0, 1), (32, .invokevirtual 32, 3), (35, .ifCond .ne 5, 3), (38, .iconst (-1), 1), (39, .ireturn, 1), (40, .aload_n 0, 1), (41, .bipush 59, 2), (43, .invokevirtual 36, 3), (46, .ifCond .ne 8, 3), (49, .aload_n 0, 1), (50, .getfield 21, 3), (53, .ireturn, 1), (54, .iinc 1 1, 3), (57, .goto (-45), 3), (60, .aload_n 0, 1)]
set_option maxRecDepth 100000 in
theorem dk38_1 : ∀ e ∈ ck38_1, decode prog_7_method_2_code e.1 = .ok e.2 := by decide +kernel
def ck38_2 : List (Nat × Instr × Nat) := [(61, .getfield 21, 3), (64, .ireturn, 1)]
set_option maxRecDepth 100000 in
theorem dk38_2 : ∀ e ∈ ck38_2, decode prog_7_method_2_code e.1 = .ok e.2 := by decide +kernel
def ck38 : List (Nat × List (Nat × Instr × Nat)) := [(30, ck38_0), (61, ck38_1), (65, ck38_2)]
theorem dk38 : cOk prog_7_method_2_code ck38 := cOk_c dk38_0 (cOk_c dk38_1 (cOk_c dk38_2 (cOk_n)))
def ck39_0 : List (Nat × Instr × Nat) := [(0, .new 40, 3), (3, .dup, 1), (4, .aload_n 0, 1), (5, .getfield 11, 3), (8, .aload_n 0, 1), (9, .getfield 25, 3), (12, .invokestatic 42, 3), (15, .invokespecial 48, 3), (18, .areturn, 1)]
set_option maxRecDepth 100000 in
theorem dk39_0 : ∀ e ∈ ck39_0, decode prog_7_method_3_code e.1 = .ok e.2 := by decide +kernel
def ck39 : List (Nat × List (Nat × Instr × Nat)) := [(19, ck39_0)]
theorem dk39 : cOk prog_7_method_3_code ck39 := cOk_c dk39_0 (cOk_n)
def ck40_0 : List (Nat × Instr × Nat) := [(0, .aload_n 0, 1), (1, .aload_n 0, 1), (2, .getfield 17, 3), (5, .aload_n 0, 1), (6, .getfield 21, 3), (9, .invokevirtual 51, 3), (12, .putfield 21, 3), (15, .aload_n 0, 1), (16, .getfield 17, 3), (19, .aload_n 0, 1), (20, .getfield 21, 3), (23, .invokevirtual 55, 3), (26, .ireturn, 1)]
set_option maxRecDepth 100000 in
theorem dk40_0 : ∀ e ∈ ck40_0, decode prog_7_method_4_code e.1 = .ok e.2 := by decide +kernel
def ck40 : List (Nat × List (Nat × Instr × Nat)) := [(27, ck40_0)]
theorem dk40 : cOk prog_7_method_4_code ck40 := cOk_c dk40_0 (cOk_n)
def ck41_0 : List (Nat × Instr × Nat) := [(0, .aload_n 0, 1), (1, .invokevirtual 32, 3), (4, .iload_n 1, 1), (5, .if_icmp .eq 5, 3), (8, .iconst 0, 1), (9, .ireturn, 1), (10, .aload_n 0, 1), (11, .dup, 1), (12, .getfield 21, 3), (15, .iconst 1, 1), (16, .iadd, 1), (17, .putfield 21, 3), (20, .iconst 1, 1), (21, .ireturn, 1)]
set_option maxRecDepth 100000 in
theorem dk41_0 : ∀ e ∈ ck41_0, decode prog_7_method_5_code e.1 = .ok e.2 := by decide +kernel
def ck41 : List (Nat × List (Nat × Instr × Nat)) := [(22, ck41_0)]
theorem dk41 : cOk prog_7_method_5_code ck41 := cOk_c dk41_0 (cOk_n)
def ck42_0 : List (Nat × Instr × Nat) := [(0, .aload_n 0, 1), (1, .getfield 25, 3), (4, .aload_n 0, 1), (5, .getfield 11, 3), (8, .arraylength, 1), (9, .if_icmp .ge 28, 3), (12, .aload_n 0, 1), (13, .getfield 11, 3), (16, .aload_n 0, 1), (17, .getfield 25, 3), (20, .iload_n 1, 1), (21, .bipush 14, 2), (23, .ishl, 1), (24, .iload_n 2, 1), (25, .ior, 1), (26, .iastore, 1)]
set_option maxRecDepth 100000 in
theorem dk42_0 : ∀ e ∈ ck42_0, decode prog_7_method_6_code e.1 = .ok e.2 := by decide +kernel
def ck42_1 : List (Nat × Instr × Nat) := [(27, .aload_n 0, 1), (28, .dup, 1), (29, .getfield 25, 3), (32, .iconst 1, 1), (33, .iadd, 1), (34, .putfield 25, 3), (37, .return_, 1)]
set_option maxRecDepth 100000 in
theorem dk42_1 : ∀ e ∈ ck42_1, decode prog_7_method_6_code e.1 = .ok e.2 := by decide +kernel
def ck42 : List (Nat × List (Nat × Instr × Nat)) := [(27, ck42_0), (38, ck42_1)]
theorem dk42 : cOk prog_7_method_6_code ck42 := cOk_c dk42_0 (cOk_c dk42_1 (cOk_n))
def ck43_0 : List (Nat × Instr × Nat) := [(0, .aload_n 0, 1), (1, .bipush 121, 2), (3, .invokevirtual 36, 3), (6, .ifCond .eq 12, 3), (9, .aload_n 0, 1), (10, .bipush 58, 2), (12, .invokevirtual 36, 3), (15, .ifCond .ne 5, 3), (18, .iconst 0, 1), (19, .ireturn, 1), (20, .aload_n 0, 1), (21, .invokevirtual 32, 3), (24, .istore_n 1, 1), (25, .iload_n 1, 1), (26, .bipush 33, 2), (28, .if_icmp .eq 13, 3)]
set_option maxRecDepth 100000 in
theorem dk43_0 : ∀ e ∈ ck43_0, decode prog_7_method_7_code e.1 = .ok e.2 := by decide +kernel
def ck43_1 : List (Nat × Instr × Nat) := [(31, .iload_n 1, 1), (32, .bipush 40, 2), (34, .if_icmp .eq 7, 3), (37, .iconst 1, 1), (38, .goto 4, 3), (41, .iconst 0, 1), (42, .istore_n 2, 1), (43, .iload_n 2, 1), (44, .ifCond .eq 13, 3), (47, .aload_n 0, 1), (48, .iconst 0, 1), (49, .invokevirtual 58, 3), (52, .ifCond .ne 5, 3), (55, .iconst 0, 1), (56, .ireturn, 1), (57, .iload_n 2, 1)]
set_option maxRecDepth 100000 in
theorem dk43_1 : ∀ e ∈ ck43_1, decode prog_7_method_7_code e.1 = .ok e.2 := by decide +kernel
def ck43_2 : List (Nat × Instr × Nat) := [(58, .ifCond .eq 13, 3), (61, .aload_n 0, 1), (62, .invokevirtual 32, 3), (65, .invokestatic 61, 3), (68, .ifCond .eq 74, 3), (71, .aload_n 0, 1), (72, .iconst 0, 1), (73, .iload_n 2, 1), (74, .invokevirtual 64, 3), (77, .ifCond .eq 12, 3), (80, .aload_n 0, 1), (81, .bipush 63, 2), (83, .invokevirtual 36, 3), (86, .ifCond .ne 5, 3), (89, .iconst 0, 1), (90, .ireturn, 1)]
set_option maxRecDepth 100000 in
theorem dk43_2 : ∀ e ∈ ck43_2, decode prog_7_method_7_code e.1 = .ok e.2 := by decide +kernel
def ck43_3 : List (Nat × Instr × Nat) := [(91, .aload_n 0, 1), (92, .getfield 25, 3), (95, .istore_n 3, 1), (96, .aload_n 0, 1), (97, .iconst 3, 1), (98, .iconst 0, 1), (99, .invokevirtual 68, 3), (102, .aload_n 0, 1), (103, .iconst 0, 1), (104, .invokevirtual 58, 3), (107, .ifCond .ne 5, 3), (110, .iconst 0, 1), (111, .ireturn, 1), (112, .aload_n 0, 1), (113, .iconst 2, 1), (114, .iconst 0, 1)]
set_option maxRecDepth 100000 in
theorem dk43_3 : ∀ e ∈ ck43_3, decode prog_7_method_7_code e.1 = .ok e.2 := by decide +kernel
def ck43_4 : List (Nat × Instr × Nat) := [(115, .invokevirtual 68, 3), (118, .iload_n 3, 1), (119, .aload_n 0, 1), (120, .getfield 11, 3), (123, .arraylength, 1), (124, .if_icmp .ge 16, 3), (127, .aload_n 0, 1), (128, .getfield 11, 3), (131, .iload_n 3, 1), (132, .dup2, 1), (133, .iaload, 1), (134, .aload_n 0, 1), (135, .getfield 25, 3), (138, .ior, 1), (139, .iastore, 1), (140, .iconst 1, 1)]
set_option maxRecDepth 100000 in
theorem dk43_4 : ∀ e ∈ ck43_4, decode prog_7_method_7_code e.1 = .ok e.2 := by decide +kernel
def ck43_5 : List (Nat × Instr × Nat) := [(141, .ireturn, 1), (142, .aload_n 0, 1), (143, .iconst 2, 1), (144, .iconst 0, 1), (145, .invokevirtual 68, 3), (148, .iconst 1, 1), (149, .ireturn, 1)]
set_option maxRecDepth 100000 in
theorem dk43_5 : ∀ e ∈ ck43_5, decode prog_7_method_7_code e.1 = .ok e.2 := by decide +kernel
def ck43 : List (Nat × List (Nat × Instr × Nat)) := [(31, ck43_0), (58, ck43_1), (91, ck43_2), (115, ck43_3), (141, ck43_4), (150, ck43_5)]
theorem dk43 : cOk prog_7_method_7_code ck43 := cOk_c dk43_0 (cOk_c dk43_1 (cOk_c dk43_2 (cOk_c dk43_3 (cOk_c dk43_4 (cOk_c dk43_5 (cOk_n))))))
def ck44_0 : List (Nat × Instr × Nat) := [(0, .iload_n 0, 1), (1, .bipush 61, 2), (3, .if_icmp .eq 15, 3), (6, .iload_n 0, 1), (7, .bipush 60, 2), (9, .if_icmp .eq 9, 3), (12, .iload_n 0, 1), (13, .bipush 62, 2), (15, .if_icmp .ne 7, 3), (18, .iconst 1, 1), (19, .goto 4, 3), (22, .iconst 0, 1), (23, .ireturn, 1)]
set_option maxRecDepth 100000 in
theorem dk44_0 : ∀ e ∈ ck44_0, decode prog_7_method_8_code e.1 = .ok e.2 := by decide +kernel
def ck44 : List (Nat × List (Nat × Instr × Nat)) := [(24, ck44_0)]
theorem dk44 : cOk prog_7_method_8_code ck44 := cOk_c dk44_0 (cOk_n)
def ck45_0 : List (Nat × Instr × Nat) := [(0, .aload_n 0, 1), (1, .iload_n 1, 1), (2, .iload_n 2, 1), (3, .invokevirtual 72, 3), (6, .istore_n 3, 1), (7, .iconst 0, 1), (8, .istore 4, 2), (10, .iload 4, 2), (12, .sipush 240, 3), (15, .if_icmp .ge 36, 3), (18, .iload_n 3, 1), (19, .ifCond .eq 32, 3), (22, .aload_n 0, 1), (23, .bipush 124, 2), (25, .invokevirtual 36, 3), (28, .ifCond .eq 23, 3)]
set_option maxRecDepth 100000 in
theorem dk45_0 : ∀ e ∈ ck45_0, decode prog_7_method_9_code e.1 = .ok e.2 := by decide +kernel
def ck45_1 : List (Nat × Instr × Nat) := [(31, .aload_n 0, 1), (32, .iload_n 1, 1), (33, .iconst 0, 1), (34, .invokevirtual 72, 3), (37, .istore_n 3, 1), (38, .aload_n 0, 1), (39, .bipush 13, 2), (41, .iconst 0, 1), (42, .invokevirtual 68, 3), (45, .iinc 4 1, 3), (48, .goto (-38), 3), (51, .iload_n 3, 1), (52, .ireturn, 1)]
set_option maxRecDepth 100000 in
theorem dk45_1 : ∀ e ∈ ck45_1, decode prog_7_method_9_code e.1 = .ok e.2 := by decide +kernel
def ck45 : List (Nat × List (Nat × Instr × Nat)) := [(31, ck45_0), (53, ck45_1)]
theorem dk45 : cOk prog_7_method_9_code ck45 := cOk_c dk45_0 (cOk_c dk45_1 (cOk_n))
def ck46_0 : List (Nat × Instr × Nat) := [(0, .aload_n 0, 1), (1, .iload_n 1, 1), (2, .iload_n 2, 1), (3, .invokevirtual 75, 3), (6, .istore_n 3, 1), (7, .iconst 0, 1), (8, .istore 4, 2), (10, .iload 4, 2), (12, .sipush 240, 3), (15, .if_icmp .ge 36, 3), (18, .iload_n 3, 1), (19, .ifCond .eq 32, 3), (22, .aload_n 0, 1), (23, .bipush 38, 2), (25, .invokevirtual 36, 3), (28, .ifCond .eq 23, 3)]
set_option maxRecDepth 100000 in
theorem dk46_0 : ∀ e ∈ ck46_0, decode prog_7_method_10_code e.1 = .ok e.2 := by decide +kernel
def ck46_1 : List (Nat × Instr × Nat) := [(31, .aload_n 0, 1), (32, .iload_n 1, 1), (33, .iconst 0, 1), (34, .invokevirtual 75, 3), (37, .istore_n 3, 1), (38, .aload_n 0, 1), (39, .bipush 12, 2), (41, .iconst 0, 1), (42, .invokevirtual 68, 3), (45, .iinc 4 1, 3), (48, .goto (-38), 3), (51, .iload_n 3, 1), (52, .ireturn, 1)]
set_option maxRecDepth 100000 in
theorem dk46_1 : ∀ e ∈ ck46_1, decode prog_7_method_10_code e.1 = .ok e.2 := by decide +kernel
def ck46 : List (Nat × List (Nat × Instr × Nat)) := [(31, ck46_0), (53, ck46_1)]
theorem dk46 : cOk prog_7_method_10_code ck46 := cOk_c dk46_0 (cOk_c dk46_1 (cOk_n))
def ck47_0 : List (Nat × Instr × Nat) := [(0, .aload_n 0, 1), (1, .invokevirtual 32, 3), (4, .istore_n 3, 1), (5, .iload_n 2, 1), (6, .ifCond .ne 84, 3), (9, .iload_n 3, 1), (10, .bipush 33, 2), (12, .if_icmp .eq 9, 3), (15, .iload_n 3, 1), (16, .bipush 40, 2), (18, .if_icmp .ne 72, 3), (21, .iload_n 1, 1), (22, .bipush 6, 2), (24, .if_icmp .lt 5, 3), (27, .iconst 0, 1), (28, .ireturn, 1)]
set_option maxRecDepth 100000 in
theorem dk47_0 : ∀ e ∈ ck47_0, decode prog_7_method_11_code e.1 = .ok e.2 := by decide +kernel
def ck47_1 : List (Nat × Instr × Nat) := [(29, .aload_n 0, 1), (30, .dup, 1), (31, .getfield 21, 3), (34, .iconst 1, 1), (35, .iadd, 1), (36, .putfield 21, 3), (39, .iload_n 3, 1), (40, .bipush 40, 2), (42, .if_icmp .ne 29, 3), (45, .aload_n 0, 1), (46, .iload_n 1, 1), (47, .iconst 1, 1), (48, .iadd, 1), (49, .iconst 0, 1), (50, .invokevirtual 64, 3), (53, .ifCond .eq 16, 3)]
set_option maxRecDepth 100000 in
theorem dk47_1 : ∀ e ∈ ck47_1, decode prog_7_method_11_code e.1 = .ok e.2 := by decide +kernel
def ck47_2 : List (Nat × Instr × Nat) := [(56, .aload_n 0, 1), (57, .bipush 41, 2), (59, .invokevirtual 36, 3), (62, .ifCond .eq 7, 3), (65, .iconst 1, 1), (66, .goto 4, 3), (69, .iconst 0, 1), (70, .ireturn, 1), (71, .aload_n 0, 1), (72, .iload_n 1, 1), (73, .iconst 1, 1), (74, .iadd, 1), (75, .iconst 0, 1), (76, .invokevirtual 75, 3), (79, .istore 4, 2), (81, .aload_n 0, 1)]
set_option maxRecDepth 100000 in
theorem dk47_2 : ∀ e ∈ ck47_2, decode prog_7_method_11_code e.1 = .ok e.2 := by decide +kernel
def ck47_3 : List (Nat × Instr × Nat) := [(82, .iconst 4, 1), (83, .iconst 0, 1), (84, .invokevirtual 68, 3), (87, .iload 4, 2), (89, .ireturn, 1), (90, .iload_n 2, 1), (91, .ifCond .ne 13, 3), (94, .aload_n 0, 1), (95, .iload_n 1, 1), (96, .invokevirtual 58, 3), (99, .ifCond .ne 5, 3), (102, .iconst 0, 1), (103, .ireturn, 1), (104, .aload_n 0, 1), (105, .invokevirtual 32, 3), (108, .istore 4, 2)]
set_option maxRecDepth 100000 in
theorem dk47_3 : ∀ e ∈ ck47_3, decode prog_7_method_11_code e.1 = .ok e.2 := by decide +kernel
def ck47_4 : List (Nat × Instr × Nat) := [(110, .iload 4, 2), (112, .invokestatic 61, 3), (115, .ifCond .ne 5, 3), (118, .iconst 0, 1), (119, .ireturn, 1), (120, .aload_n 0, 1), (121, .dup, 1), (122, .getfield 21, 3), (125, .iconst 1, 1), (126, .iadd, 1), (127, .putfield 21, 3), (130, .aload_n 0, 1), (131, .iload_n 1, 1), (132, .invokevirtual 58, 3), (135, .istore 5, 2), (137, .aload_n 0, 1)]
set_option maxRecDepth 100000 in
theorem dk47_4 : ∀ e ∈ ck47_4, decode prog_7_method_11_code e.1 = .ok e.2 := by decide +kernel
def ck47_5 : List (Nat × Instr × Nat) := [(138, .iload 4, 2), (140, .bipush 61, 2), (142, .if_icmp .ne 8, 3), (145, .bipush 9, 2), (147, .goto 17, 3), (150, .iload 4, 2), (152, .bipush 60, 2), (154, .if_icmp .ne 8, 3), (157, .bipush 10, 2), (159, .goto 5, 3), (162, .bipush 11, 2), (164, .iconst 0, 1), (165, .invokevirtual 68, 3), (168, .iload 5, 2), (170, .ireturn, 1)]
set_option maxRecDepth 100000 in
theorem dk47_5 : ∀ e ∈ ck47_5, decode prog_7_method_11_code e.1 = .ok e.2 := by decide +kernel
def ck47 : List (Nat × List (Nat × Instr × Nat)) := [(29, ck47_0), (56, ck47_1), (82, ck47_2), (110, ck47_3), (138, ck47_4), (171, ck47_5)]
theorem dk47 : cOk prog_7_method_11_code ck47 := cOk_c dk47_0 (cOk_c dk47_1 (cOk_c dk47_2 (cOk_c dk47_3 (cOk_c dk47_4 (cOk_c dk47_5 (cOk_n))))))
def ck48_0 : List (Nat × Instr × Nat) := [(0, .aload_n 0, 1), (1, .iload_n 1, 1), (2, .invokevirtual 78, 3), (5, .istore_n 2, 1), (6, .iconst 0, 1), (7, .istore_n 3, 1), (8, .iload_n 3, 1), (9, .sipush 240, 3), (12, .if_icmp .ge 70, 3), (15, .iload_n 2, 1), (16, .ifCond .eq 66, 3), (19, .aload_n 0, 1), (20, .invokevirtual 32, 3), (23, .istore 4, 2), (25, .iload 4, 2), (27, .bipush 43, 2)]
set_option maxRecDepth 100000 in
theorem dk48_0 : ∀ e ∈ ck48_0, decode prog_7_method_12_code e.1 = .ok e.2 := by decide +kernel
def ck48_1 : List (Nat × Instr × Nat) := [(29, .if_icmp .eq 13, 3), (32, .iload 4, 2), (34, .bipush 45, 2), (36, .if_icmp .eq 6, 3), (39, .goto 43, 3), (42, .aload_n 0, 1), (43, .dup, 1), (44, .getfield 21, 3), (47, .iconst 1, 1), (48, .iadd, 1), (49, .putfield 21, 3), (52, .aload_n 0, 1), (53, .iload_n 1, 1), (54, .invokevirtual 78, 3), (57, .istore_n 2, 1), (58, .aload_n 0, 1)]
set_option maxRecDepth 100000 in
theorem dk48_1 : ∀ e ∈ ck48_1, decode prog_7_method_12_code e.1 = .ok e.2 := by decide +kernel
def ck48_2 : List (Nat × Instr × Nat) := [(59, .iload 4, 2), (61, .bipush 43, 2), (63, .if_icmp .ne 7, 3), (66, .iconst 5, 1), (67, .goto 5, 3), (70, .bipush 6, 2), (72, .iconst 0, 1), (73, .invokevirtual 68, 3), (76, .iinc 3 1, 3), (79, .goto (-71), 3), (82, .iload_n 2, 1), (83, .ireturn, 1)]
set_option maxRecDepth 100000 in
theorem dk48_2 : ∀ e ∈ ck48_2, decode prog_7_method_12_code e.1 = .ok e.2 := by decide +kernel
def ck48 : List (Nat × List (Nat × Instr × Nat)) := [(29, ck48_0), (59, ck48_1), (84, ck48_2)]
theorem dk48 : cOk prog_7_method_12_code ck48 := cOk_c dk48_0 (cOk_c dk48_1 (cOk_c dk48_2 (cOk_n)))
def ck49_0 : List (Nat × Instr × Nat) := [(0, .aload_n 0, 1), (1, .iload_n 1, 1), (2, .invokevirtual 81, 3), (5, .istore_n 2, 1), (6, .iconst 0, 1), (7, .istore_n 3, 1), (8, .iload_n 3, 1), (9, .sipush 240, 3), (12, .if_icmp .ge 71, 3), (15, .iload_n 2, 1), (16, .ifCond .eq 67, 3), (19, .aload_n 0, 1), (20, .invokevirtual 32, 3), (23, .istore 4, 2), (25, .iload 4, 2), (27, .bipush 42, 2)]
set_option maxRecDepth 100000 in
theorem dk49_0 : ∀ e ∈ ck49_0, decode prog_7_method_13_code e.1 = .ok e.2 := by decide +kernel
def ck49_1 : List (Nat × Instr × Nat) := [(29, .if_icmp .eq 13, 3), (32, .iload 4, 2), (34, .bipush 47, 2), (36, .if_icmp .eq 6, 3), (39, .goto 44, 3), (42, .aload_n 0, 1), (43, .dup, 1), (44, .getfield 21, 3), (47, .iconst 1, 1), (48, .iadd, 1), (49, .putfield 21, 3), (52, .aload_n 0, 1), (53, .iload_n 1, 1), (54, .invokevirtual 81, 3), (57, .istore_n 2, 1), (58, .aload_n 0, 1)]
set_option maxRecDepth 100000 in
theorem dk49_1 : ∀ e ∈ ck49_1, decode prog_7_method_13_code e.1 = .ok e.2 := by decide +kernel
def ck49_2 : List (Nat × Instr × Nat) := [(59, .iload 4, 2), (61, .bipush 42, 2), (63, .if_icmp .ne 8, 3), (66, .bipush 7, 2), (68, .goto 5, 3), (71, .bipush 8, 2), (73, .iconst 0, 1), (74, .invokevirtual 68, 3), (77, .iinc 3 1, 3), (80, .goto (-72), 3), (83, .iload_n 2, 1), (84, .ireturn, 1)]
set_option maxRecDepth 100000 in
theorem dk49_2 : ∀ e ∈ ck49_2, decode prog_7_method_13_code e.1 = .ok e.2 := by decide +kernel
def ck49 : List (Nat × List (Nat × Instr × Nat)) := [(29, ck49_0), (59, ck49_1), (85, ck49_2)]
theorem dk49 : cOk prog_7_method_13_code ck49 := cOk_c dk49_0 (cOk_c dk49_1 (cOk_c dk49_2 (cOk_n)))
def ck50_0 : List (Nat × Instr × Nat) := [(0, .aload_n 0, 1), (1, .invokevirtual 32, 3), (4, .istore_n 2, 1), (5, .iload_n 2, 1), (6, .bipush 91, 2), (8, .if_icmp .ne 46, 3), (11, .iload_n 1, 1), (12, .bipush 6, 2), (14, .if_icmp .lt 5, 3), (17, .iconst 0, 1), (18, .ireturn, 1), (19, .aload_n 0, 1), (20, .dup, 1), (21, .getfield 21, 3), (24, .iconst 1, 1), (25, .iadd, 1)]
set_option maxRecDepth 100000 in
theorem dk50_0 : ∀ e ∈ ck50_0, decode prog_7_method_14_code e.1 = .ok e.2 := by decide +kernel
def ck50_1 : List (Nat × Instr × Nat) := [(26, .putfield 21, 3), (29, .aload_n 0, 1), (30, .iload_n 1, 1), (31, .iconst 1, 1), (32, .iadd, 1), (33, .invokevirtual 58, 3), (36, .ifCond .eq 16, 3), (39, .aload_n 0, 1), (40, .bipush 93, 2), (42, .invokevirtual 36, 3), (45, .ifCond .eq 7, 3), (48, .iconst 1, 1), (49, .goto 4, 3), (52, .iconst 0, 1), (53, .ireturn, 1), (54, .aload_n 0, 1)]
set_option maxRecDepth 100000 in
theorem dk50_1 : ∀ e ∈ ck50_1, decode prog_7_method_14_code e.1 = .ok e.2 := by decide +kernel
def ck50_2 : List (Nat × Instr × Nat) := [(55, .getfield 17, 3), (58, .aload_n 0, 1), (59, .getfield 21, 3), (62, .invokevirtual 84, 3), (65, .ifCond .eq 8, 3), (68, .aload_n 0, 1), (69, .invokevirtual 87, 3), (72, .ireturn, 1), (73, .iload_n 2, 1), (74, .ifCond .ne 7, 3), (77, .iconst (-1), 1), (78, .goto 10, 3), (81, .ldc 90, 2), (83, .iload_n 2, 1), (84, .i2c, 1), (85, .invokevirtual 92, 3)]
set_option maxRecDepth 100000 in
theorem dk50_2 : ∀ e ∈ ck50_2, decode prog_7_method_14_code e.1 = .ok e.2 := by decide +kernel
def ck50_3 : List (Nat × Instr × Nat) := [(88, .istore_n 3, 1), (89, .iload_n 3, 1), (90, .ifCond .ge 5, 3), (93, .iconst 0, 1), (94, .ireturn, 1), (95, .aload_n 0, 1), (96, .dup, 1), (97, .getfield 21, 3), (100, .iconst 1, 1), (101, .iadd, 1), (102, .putfield 21, 3), (105, .aload_n 0, 1), (106, .iconst 1, 1), (107, .iload_n 3, 1), (108, .invokevirtual 68, 3), (111, .iconst 1, 1)]
set_option maxRecDepth 100000 in
theorem dk50_3 : ∀ e ∈ ck50_3, decode prog_7_method_14_code e.1 = .ok e.2 := by decide +kernel
def ck50_4 : List (Nat × Instr × Nat) := [(112, .ireturn, 1)]
set_option maxRecDepth 100000 in
theorem dk50_4 : ∀ e ∈ ck50_4, decode prog_7_method_14_code e.1 = .ok e.2 := by decide +kernel
def ck50 : List (Nat × List (Nat × Instr × Nat)) := [(26, ck50_0), (55, ck50_1), (88, ck50_2), (112, ck50_3), (113, ck50_4)]
theorem dk50 : cOk prog_7_method_14_code ck50 := cOk_c dk50_0 (cOk_c dk50_1 (cOk_c dk50_2 (cOk_c dk50_3 (cOk_c dk50_4 (cOk_n)))))
def ck51_0 : List (Nat × Instr × Nat) := [(0, .iconst 0, 1), (1, .istore_n 1, 1), (2, .iconst 0, 1), (3, .istore_n 2, 1), (4, .iload_n 2, 1), (5, .iconst 4, 1), (6, .if_icmp .ge 53, 3), (9, .aload_n 0, 1), (10, .getfield 17, 3), (13, .aload_n 0, 1), (14, .getfield 21, 3), (17, .invokevirtual 84, 3), (20, .ifCond .eq 39, 3), (23, .iload_n 1, 1), (24, .bipush 10, 2), (26, .imul, 1)]
set_option maxRecDepth 100000 in
theorem dk51_0 : ∀ e ∈ ck51_0, decode prog_7_method_15_code e.1 = .ok e.2 := by decide +kernel
def ck51_1 : List (Nat × Instr × Nat) := [(27, .aload_n 0, 1), (28, .getfield 17, 3), (31, .aload_n 0, 1), (32, .getfield 21, 3), (35, .invokevirtual 55, 3), (38, .iadd, 1), (39, .bipush 48, 2), (41, .isub, 1), (42, .istore_n 1, 1), (43, .aload_n 0, 1), (44, .dup, 1), (45, .getfield 21, 3), (48, .iconst 1, 1), (49, .iadd, 1), (50, .putfield 21, 3), (53, .iinc 2 1, 3)]
set_option maxRecDepth 100000 in
theorem dk51_1 : ∀ e ∈ ck51_1, decode prog_7_method_15_code e.1 = .ok e.2 := by decide +kernel
def ck51_2 : List (Nat × Instr × Nat) := [(56, .goto (-52), 3), (59, .aload_n 0, 1), (60, .iconst 0, 1), (61, .iload_n 1, 1), (62, .invokevirtual 68, 3), (65, .aload_n 0, 1), (66, .getfield 17, 3), (69, .aload_n 0, 1), (70, .getfield 21, 3), (73, .invokevirtual 84, 3), (76, .ifCond .ne 7, 3), (79, .iconst 1, 1), (80, .goto 4, 3), (83, .iconst 0, 1), (84, .ireturn, 1)]
set_option maxRecDepth 100000 in
theorem dk51_2 : ∀ e ∈ ck51_2, decode prog_7_method_15_code e.1 = .ok e.2 := by decide +kernel
def ck51 : List (Nat × List (Nat × Instr × Nat)) := [(27, ck51_0), (56, ck51_1), (85, ck51_2)]
theorem dk51 : cOk prog_7_method_15_code ck51 := cOk_c dk51_0 (cOk_c dk51_1 (cOk_c dk51_2 (cOk_n)))
def ck52_0 : List (Nat × Instr × Nat) := [(0, .aload_n 0, 1), (1, .invokespecial 3, 3), (4, .aload_n 0, 1), (5, .new 9, 3), (8, .dup, 1), (9, .bipush 64, 2), (11, .invokespecial 11, 3), (14, .putfield 14, 3), (17, .aload_n 0, 1), (18, .new 20, 3), (21, .dup, 1), (22, .invokespecial 22, 3), (25, .putfield 23, 3), (28, .aload_n 0, 1), (29, .bipush 6, 2), (31, .newarray .int, 2)]
set_option maxRecDepth 100000 in
theorem dk52_0 : ∀ e ∈ ck52_0, decode prog_8_method_1_code e.1 = .ok e.2 := by decide +kernel
def ck52_1 : List (Nat × Instr × Nat) := [(33, .putfield 27, 3), (36, .aload_n 0, 1), (37, .bipush 64, 2), (39, .newarray .int, 2), (41, .putfield 31, 3), (44, .aload_n 0, 1), (45, .bipush 18, 2), (47, .newarray .int, 2), (49, .putfield 34, 3), (52, .aload_n 0, 1), (53, .aload_n 1, 1), (54, .putfield 37, 3), (57, .return_, 1)]
set_option maxRecDepth 100000 in
theorem dk52_1 : ∀ e ∈ ck52_1, decode prog_8_method_1_code e.1 = .ok e.2 := by decide +kernel
def ck52 : List (Nat × List (Nat × Instr × Nat)) := [(33, ck52_0), (58, ck52_1)]
theorem dk52 : cOk prog_8_method_1_code ck52 := cOk_c dk52_0 (cOk_c dk52_1 (cOk_n))
