/-! ===== the code of the methods, instruction by instruction (printed by program) ===== -/
def ck102_0 : List (Nat × Instr × Nat) := [(0, .iload_n 1, 1), (1, .ifCond .lt 20, 3), (4, .iload_n 1, 1), (5, .aload_n 0, 1), (6, .getfield 13, 3), (9, .if_icmp .ge 12, 3), (12, .aload_n 0, 1), (13, .getfield 9, 3), (16, .iload_n 1, 1), (17, .caload, 1), (18, .goto 4, 3), (21, .iconst 0, 1), (22, .ireturn, 1)]
set_option maxRecDepth 100000 in
theorem dk102_0 : ∀ e ∈ ck102_0, decode prog_11_method_5_code e.1 = .ok e.2 := by decide +kernel
def ck102 : List (Nat × List (Nat × Instr × Nat)) := [(23, ck102_0)]
theorem dk102 : cOk prog_11_method_5_code ck102 := cOk_c dk102_0 (cOk_n)
def ck103_0 : List (Nat × Instr × Nat) := [(0, .iload_n 1, 1), (1, .ifCond .lt 37, 3), (4, .iload_n 1, 1), (5, .aload_n 0, 1), (6, .getfield 13, 3), (9, .if_icmp .ge 29, 3), (12, .aload_n 0, 1), (13, .getfield 9, 3), (16, .iload_n 1, 1), (17, .caload, 1), (18, .bipush 48, 2), (20, .if_icmp .lt 18, 3), (23, .aload_n 0, 1), (24, .getfield 9, 3), (27, .iload_n 1, 1), (28, .caload, 1)]
set_option maxRecDepth 100000 in
theorem dk103_0 : ∀ e ∈ ck103_0, decode prog_11_method_6_code e.1 = .ok e.2 := by decide +kernel
def ck103_1 : List (Nat × Instr × Nat) := [(29, .bipush 57, 2), (31, .if_icmp .gt 7, 3), (34, .iconst 1, 1), (35, .goto 4, 3), (38, .iconst 0, 1), (39, .ireturn, 1)]
set_option maxRecDepth 100000 in
theorem dk103_1 : ∀ e ∈ ck103_1, decode prog_11_method_6_code e.1 = .ok e.2 := by decide +kernel
def ck103 : List (Nat × List (Nat × Instr × Nat)) := [(29, ck103_0), (40, ck103_1)]
theorem dk103 : cOk prog_11_method_6_code ck103 := cOk_c dk103_0 (cOk_c dk103_1 (cOk_n))
def ck104_0 : List (Nat × Instr × Nat) := [(0, .aload_n 0, 1), (1, .invokespecial 3, 3), (4, .aload_n 0, 1), (5, .new 9, 3), (8, .dup, 1), (9, .bipush 7, 2), (11, .invokespecial 11, 3), (14, .putfield 14, 3), (17, .aload_n 0, 1), (18, .new 20, 3), (21, .dup, 1), (22, .invokespecial 22, 3), (25, .putfield 23, 3), (28, .aload_n 0, 1), (29, .bipush 10, 2), (31, .newarray .int, 2)]
set_option maxRecDepth 100000 in
theorem dk104_0 : ∀ e ∈ ck104_0, decode prog_12_method_1_code e.1 = .ok e.2 := by decide +kernel
def ck104_1 : List (Nat × Instr × Nat) := [(33, .putfield 27, 3), (36, .aload_n 0, 1), (37, .bipush 10, 2), (39, .newarray .int, 2), (41, .putfield 31, 3), (44, .aload_n 0, 1), (45, .bipush 10, 2), (47, .newarray .boolean, 2), (49, .putfield 34, 3), (52, .aload_n 0, 1), (53, .bipush 21, 2), (55, .newarray .int, 2), (57, .putfield 38, 3), (60, .aload_n 0, 1), (61, .sipush 189, 3), (64, .newarray .int, 2)]
set_option maxRecDepth 100000 in
theorem dk104_1 : ∀ e ∈ ck104_1, decode prog_12_method_1_code e.1 = .ok e.2 := by decide +kernel
def ck104_2 : List (Nat × Instr × Nat) := [(66, .putfield 41, 3), (69, .aload_n 0, 1), (70, .aload_n 1, 1), (71, .putfield 44, 3), (74, .return_, 1)]
set_option maxRecDepth 100000 in
theorem dk104_2 : ∀ e ∈ ck104_2, decode prog_12_method_1_code e.1 = .ok e.2 := by decide +kernel
def ck104 : List (Nat × List (Nat × Instr × Nat)) := [(33, ck104_0), (66, ck104_1), (75, ck104_2)]
theorem dk104 : cOk prog_12_method_1_code ck104 := cOk_c dk104_0 (cOk_c dk104_1 (cOk_c dk104_2 (cOk_n)))
def ck105_0 : List (Nat × Instr × Nat) := [(0, .aload_n 0, 1), (1, .getfield 48, 3), (4, .bipush 10, 2), (6, .if_icmp .ge 43, 3), (9, .aload_n 0, 1), (10, .getfield 27, 3), (13, .aload_n 0, 1), (14, .getfield 48, 3), (17, .iload_n 1, 1), (18, .iastore, 1), (19, .aload_n 0, 1), (20, .getfield 31, 3), (23, .aload_n 0, 1), (24, .getfield 48, 3), (27, .iload_n 2, 1), (28, .iastore, 1)]
set_option maxRecDepth 100000 in
theorem dk105_0 : ∀ e ∈ ck105_0, decode prog_12_method_2_code e.1 = .ok e.2 := by decide +kernel
def ck105_1 : List (Nat × Instr × Nat) := [(29, .aload_n 0, 1), (30, .getfield 34, 3), (33, .aload_n 0, 1), (34, .getfield 48, 3), (37, .iload_n 3, 1), (38, .bastore, 1), (39, .aload_n 0, 1), (40, .dup, 1), (41, .getfield 48, 3), (44, .iconst 1, 1), (45, .iadd, 1), (46, .putfield 48, 3), (49, .return_, 1)]
set_option maxRecDepth 100000 in
theorem dk105_1 : ∀ e ∈ ck105_1, decode prog_12_method_2_code e.1 = .ok e.2 := by decide +kernel
def ck105 : List (Nat × List (Nat × Instr × Nat)) := [(29, ck105_0), (50, ck105_1)]
theorem dk105 : cOk prog_12_method_2_code ck105 := cOk_c dk105_0 (cOk_c dk105_1 (cOk_n))
def ck106_0 : List (Nat × Instr × Nat) := [(0, .aload_n 0, 1), (1, .getfield 14, 3), (4, .iconst 0, 1), (5, .putfield 52, 3), (8, .aload_n 0, 1), (9, .getfield 41, 3), (12, .iconst 0, 1), (13, .invokestatic 55, 3), (16, .aload_n 0, 1), (17, .getfield 44, 3), (20, .getfield 61, 3), (23, .getfield 67, 3), (26, .istore_n 2, 1), (27, .iconst 0, 1), (28, .istore_n 3, 1), (29, .iload_n 3, 1)]
set_option maxRecDepth 100000 in
theorem dk106_0 : ∀ e ∈ ck106_0, decode prog_12_method_3_code e.1 = .ok e.2 := by decide +kernel
def ck106_1 : List (Nat × Instr × Nat) := [(30, .iload_n 2, 1), (31, .if_icmp .gt 98, 3), (34, .aload_n 0, 1), (35, .getfield 23, 3), (38, .aload_n 0, 1), (39, .getfield 44, 3), (42, .getfield 61, 3), (45, .invokevirtual 72, 3), (48, .iload_n 3, 1), (49, .iload_n 2, 1), (50, .if_icmp .ge 40, 3), (53, .aload_n 0, 1), (54, .getfield 23, 3), (57, .iload_n 3, 1), (58, .invokevirtual 76, 3), (61, .iload_n 1, 1)]
set_option maxRecDepth 100000 in
theorem dk106_1 : ∀ e ∈ ck106_1, decode prog_12_method_3_code e.1 = .ok e.2 := by decide +kernel
def ck106_2 : List (Nat × Instr × Nat) := [(62, .iadd, 1), (63, .bipush 9, 2), (65, .invokestatic 80, 3), (68, .istore 4, 2), (70, .aload_n 0, 1), (71, .getfield 23, 3), (74, .aload_n 0, 1), (75, .getfield 23, 3), (78, .getfield 86, 3), (81, .iload_n 3, 1), (82, .iload 4, 2), (84, .invokestatic 89, 3), (87, .putfield 86, 3), (90, .aload_n 0, 1), (91, .invokevirtual 93, 3), (94, .aload_n 0, 1)]
set_option maxRecDepth 100000 in
theorem dk106_2 : ∀ e ∈ ck106_2, decode prog_12_method_3_code e.1 = .ok e.2 := by decide +kernel
def ck106_3 : List (Nat × Instr × Nat) := [(95, .invokevirtual 96, 3), (98, .ifCond .eq 25, 3), (101, .aload_n 0, 1), (102, .getfield 14, 3), (105, .iload_n 3, 1), (106, .iload_n 2, 1), (107, .if_icmp .ge 7, 3), (110, .iload_n 3, 1), (111, .goto 5, 3), (114, .bipush 9, 2), (116, .invokevirtual 100, 3), (119, .aload_n 0, 1), (120, .invokevirtual 103, 3), (123, .iinc 3 1, 3), (126, .goto (-97), 3), (129, .return_, 1)]
set_option maxRecDepth 100000 in
theorem dk106_3 : ∀ e ∈ ck106_3, decode prog_12_method_3_code e.1 = .ok e.2 := by decide +kernel
def ck106 : List (Nat × List (Nat × Instr × Nat)) := [(30, ck106_0), (62, ck106_1), (95, ck106_2), (130, ck106_3)]
theorem dk106 : cOk prog_12_method_3_code ck106 := cOk_c dk106_0 (cOk_c dk106_1 (cOk_c dk106_2 (cOk_c dk106_3 (cOk_n))))
def ck107_0 : List (Nat × Instr × Nat) := [(0, .iconst 1, 1), (1, .istore_n 1, 1), (2, .iload_n 1, 1), (3, .aload_n 0, 1), (4, .getfield 44, 3), (7, .getfield 61, 3), (10, .invokevirtual 106, 3), (13, .if_icmp .gt 42, 3), (16, .iload_n 1, 1), (17, .aload_n 0, 1), (18, .getfield 38, 3), (21, .arraylength, 1), (22, .if_icmp .ge 33, 3), (25, .aload_n 0, 1), (26, .getfield 44, 3), (29, .aload_n 0, 1)]
set_option maxRecDepth 100000 in
theorem dk107_0 : ∀ e ∈ ck107_0, decode prog_12_method_4_code e.1 = .ok e.2 := by decide +kernel
def ck107_1 : List (Nat × Instr × Nat) := [(30, .getfield 23, 3), (33, .invokevirtual 110, 3), (36, .aload_n 0, 1), (37, .getfield 38, 3), (40, .iload_n 1, 1), (41, .aload_n 0, 1), (42, .getfield 23, 3), (45, .getfield 114, 3), (48, .iastore, 1), (49, .iinc 1 1, 3), (52, .goto (-50), 3), (55, .return_, 1)]
set_option maxRecDepth 100000 in
theorem dk107_1 : ∀ e ∈ ck107_1, decode prog_12_method_4_code e.1 = .ok e.2 := by decide +kernel
def ck107 : List (Nat × List (Nat × Instr × Nat)) := [(30, ck107_0), (56, ck107_1)]
theorem dk107 : cOk prog_12_method_4_code ck107 := cOk_c dk107_0 (cOk_c dk107_1 (cOk_n))
def ck108_0 : List (Nat × Instr × Nat) := [(0, .iconst 0, 1), (1, .istore_n 1, 1), (2, .iload_n 1, 1), (3, .aload_n 0, 1), (4, .getfield 48, 3), (7, .if_icmp .ge 60, 3), (10, .aload_n 0, 1), (11, .getfield 27, 3), (14, .iload_n 1, 1), (15, .iaload, 1), (16, .aload_n 0, 1), (17, .getfield 44, 3), (20, .getfield 61, 3), (23, .invokevirtual 106, 3), (26, .invokestatic 80, 3), (29, .istore_n 2, 1)]
set_option maxRecDepth 100000 in
theorem dk108_0 : ∀ e ∈ ck108_0, decode prog_12_method_5_code e.1 = .ok e.2 := by decide +kernel
def ck108_1 : List (Nat × Instr × Nat) := [(30, .aload_n 0, 1), (31, .getfield 38, 3), (34, .iload_n 2, 1), (35, .iaload, 1), (36, .aload_n 0, 1), (37, .getfield 31, 3), (40, .iload_n 1, 1), (41, .iaload, 1), (42, .if_icmp .ne 7, 3), (45, .iconst 1, 1), (46, .goto 4, 3), (49, .iconst 0, 1), (50, .aload_n 0, 1), (51, .getfield 34, 3), (54, .iload_n 1, 1), (55, .baload, 1)]
set_option maxRecDepth 100000 in
theorem dk108_1 : ∀ e ∈ ck108_1, decode prog_12_method_5_code e.1 = .ok e.2 := by decide +kernel
def ck108_2 : List (Nat × Instr × Nat) := [(56, .if_icmp .eq 5, 3), (59, .iconst 0, 1), (60, .ireturn, 1), (61, .iinc 1 1, 3), (64, .goto (-62), 3), (67, .iconst 1, 1), (68, .ireturn, 1)]
set_option maxRecDepth 100000 in
theorem dk108_2 : ∀ e ∈ ck108_2, decode prog_12_method_5_code e.1 = .ok e.2 := by decide +kernel
def ck108 : List (Nat × List (Nat × Instr × Nat)) := [(30, ck108_0), (56, ck108_1), (69, ck108_2)]
theorem dk108 : cOk prog_12_method_5_code ck108 := cOk_c dk108_0 (cOk_c dk108_1 (cOk_c dk108_2 (cOk_n)))
def ck109_0 : List (Nat × Instr × Nat) := [(0, .iconst 1, 1), (1, .istore_n 1, 1), (2, .iload_n 1, 1), (3, .aload_n 0, 1), (4, .getfield 44, 3), (7, .getfield 61, 3), (10, .invokevirtual 106, 3), (13, .if_icmp .gt 38, 3), (16, .iload_n 1, 1), (17, .aload_n 0, 1), (18, .getfield 38, 3), (21, .arraylength, 1), (22, .if_icmp .ge 29, 3), (25, .aload_n 0, 1), (26, .getfield 41, 3), (29, .iload_n 1, 1)]
set_option maxRecDepth 100000 in
theorem dk109_0 : ∀ e ∈ ck109_0, decode prog_12_method_6_code e.1 = .ok e.2 := by decide +kernel
def ck109_1 : List (Nat × Instr × Nat) := [(30, .bipush 9, 2), (32, .imul, 1), (33, .aload_n 0, 1), (34, .getfield 38, 3), (37, .iload_n 1, 1), (38, .iaload, 1), (39, .iadd, 1), (40, .dup2, 1), (41, .iaload, 1), (42, .iconst 1, 1), (43, .iadd, 1), (44, .iastore, 1), (45, .iinc 1 1, 3), (48, .goto (-46), 3), (51, .return_, 1)]
set_option maxRecDepth 100000 in
theorem dk109_1 : ∀ e ∈ ck109_1, decode prog_12_method_6_code e.1 = .ok e.2 := by decide +kernel
def ck109 : List (Nat × List (Nat × Instr × Nat)) := [(30, ck109_0), (52, ck109_1)]
theorem dk109 : cOk prog_12_method_6_code ck109 := cOk_c dk109_0 (cOk_c dk109_1 (cOk_n))
def ck110_0 : List (Nat × Instr × Nat) := [(0, .iconst (-1), 1), (1, .istore_n 1, 1), (2, .aload_n 0, 1), (3, .getfield 14, 3), (6, .getfield 52, 3), (9, .iconst 1, 1), (10, .iadd, 1), (11, .istore_n 2, 1), (12, .iconst 1, 1), (13, .istore_n 3, 1), (14, .iload_n 3, 1), (15, .aload_n 0, 1), (16, .getfield 44, 3), (19, .getfield 61, 3), (22, .invokevirtual 106, 3), (25, .if_icmp .gt 68, 3)]
set_option maxRecDepth 100000 in
theorem dk110_0 : ∀ e ∈ ck110_0, decode prog_12_method_7_code e.1 = .ok e.2 := by decide +kernel
def ck110_1 : List (Nat × Instr × Nat) := [(28, .aload_n 0, 1), (29, .getfield 14, 3), (32, .getfield 52, 3), (35, .ifCond .le 58, 3), (38, .iconst 0, 1), (39, .istore 4, 2), (41, .iconst 0, 1), (42, .istore 5, 2), (44, .iload 5, 2), (46, .bipush 9, 2), (48, .if_icmp .ge 28, 3), (51, .iload 4, 2), (53, .aload_n 0, 1), (54, .getfield 41, 3), (57, .iload_n 3, 1), (58, .bipush 9, 2)]
set_option maxRecDepth 100000 in
theorem dk110_1 : ∀ e ∈ ck110_1, decode prog_12_method_7_code e.1 = .ok e.2 := by decide +kernel
def ck110_2 : List (Nat × Instr × Nat) := [(60, .imul, 1), (61, .iload 5, 2), (63, .iadd, 1), (64, .iaload, 1), (65, .invokestatic 117, 3), (68, .istore 4, 2), (70, .iinc 5 1, 3), (73, .goto (-29), 3), (76, .iload 4, 2), (78, .iload_n 2, 1), (79, .if_icmp .ge 8, 3), (82, .iload 4, 2), (84, .istore_n 2, 1), (85, .iload_n 3, 1), (86, .istore_n 1, 1), (87, .iinc 3 1, 3)]
set_option maxRecDepth 100000 in
theorem dk110_2 : ∀ e ∈ ck110_2, decode prog_12_method_7_code e.1 = .ok e.2 := by decide +kernel
def ck110_3 : List (Nat × Instr × Nat) := [(90, .goto (-76), 3), (93, .iload_n 1, 1), (94, .ireturn, 1)]
set_option maxRecDepth 100000 in
theorem dk110_3 : ∀ e ∈ ck110_3, decode prog_12_method_7_code e.1 = .ok e.2 := by decide +kernel
def ck110 : List (Nat × List (Nat × Instr × Nat)) := [(28, ck110_0), (60, ck110_1), (90, ck110_2), (95, ck110_3)]
theorem dk110 : cOk prog_12_method_7_code ck110 := cOk_c dk110_0 (cOk_c dk110_1 (cOk_c dk110_2 (cOk_c dk110_3 (cOk_n))))
def ck111_0 : List (Nat × Instr × Nat) := [(0, .aload_n 0, 1), (1, .invokespecial 1, 3), (4, .aload_n 0, 1), (5, .new 7, 3), (8, .dup, 1), (9, .invokespecial 9, 3), (12, .putfield 10, 3), (15, .aload_n 0, 1), (16, .new 16, 3), (19, .dup, 1), (20, .aload_n 0, 1), (21, .getfield 10, 3), (24, .invokespecial 18, 3), (27, .putfield 21, 3), (30, .aload_n 0, 1), (31, .new 25, 3)]
set_option maxRecDepth 100000 in
theorem dk111_0 : ∀ e ∈ ck111_0, decode prog_1_method_1_code e.1 = .ok e.2 := by decide +kernel
def ck111_1 : List (Nat × Instr × Nat) := [(34, .dup, 1), (35, .aload_n 0, 1), (36, .getfield 10, 3), (39, .invokespecial 27, 3), (42, .putfield 28, 3), (45, .aload_n 0, 1), (46, .iconst 4, 1), (47, .anewarray 32, 3), (50, .putfield 34, 3), (53, .aload_n 0, 1), (54, .iconst (-1), 1), (55, .putfield 38, 3), (58, .aload_n 0, 1), (59, .new 42, 3), (62, .dup, 1), (63, .invokespecial 44, 3)]
set_option maxRecDepth 100000 in
theorem dk111_1 : ∀ e ∈ ck111_1, decode prog_1_method_1_code e.1 = .ok e.2 := by decide +kernel
def ck111_2 : List (Nat × Instr × Nat) := [(66, .putfield 45, 3), (69, .aload_n 0, 1), (70, .new 42, 3), (73, .dup, 1), (74, .invokespecial 44, 3), (77, .putfield 49, 3), (80, .aload_n 0, 1), (81, .new 52, 3), (84, .dup, 1), (85, .invokespecial 54, 3), (88, .putfield 55, 3), (91, .aload_n 0, 1), (92, .new 59, 3), (95, .dup, 1), (96, .aload_n 0, 1), (97, .getfield 45, 3)]
set_option maxRecDepth 100000 in
theorem dk111_2 : ∀ e ∈ ck111_2, decode prog_1_method_1_code e.1 = .ok e.2 := by decide +kernel
def ck111_3 : List (Nat × Instr × Nat) := [(100, .invokespecial 61, 3), (103, .putfield 64, 3), (106, .aload_n 0, 1), (107, .new 68, 3), (110, .dup, 1), (111, .invokespecial 70, 3), (114, .putfield 71, 3), (117, .aload_n 0, 1), (118, .new 75, 3), (121, .dup, 1), (122, .aload_n 0, 1), (123, .getfield 64, 3), (126, .invokespecial 77, 3), (129, .putfield 80, 3), (132, .aload_n 0, 1), (133, .new 84, 3)]
set_option maxRecDepth 100000 in
theorem dk111_3 : ∀ e ∈ ck111_3, decode prog_1_method_1_code e.1 = .ok e.2 := by decide +kernel
def ck111_4 : List (Nat × Instr × Nat) := [(136, .dup, 1), (137, .aload_n 0, 1), (138, .getfield 64, 3), (141, .invokespecial 86, 3), (144, .putfield 87, 3), (147, .aload_n 0, 1), (148, .iconst 5, 1), (149, .newarray .int, 2), (151, .putfield 91, 3), (154, .return_, 1)]
set_option maxRecDepth 100000 in
theorem dk111_4 : ∀ e ∈ ck111_4, decode prog_1_method_1_code e.1 = .ok e.2 := by decide +kernel
def ck111 : List (Nat × List (Nat × Instr × Nat)) := [(34, ck111_0), (66, ck111_1), (100, ck111_2), (136, ck111_3), (155, ck111_4)]
theorem dk111 : cOk prog_1_method_1_code ck111 := cOk_c dk111_0 (cOk_c dk111_1 (cOk_c dk111_2 (cOk_c dk111_3 (cOk_c dk111_4 (cOk_n)))))
def ck112_0 : List (Nat × Instr × Nat) := [(0, .iload_n 1, 1), (1, .invokestatic 95, 3), (4, .iload_n 2, 1), (5, .invokestatic 95, 3), (8, .iadd, 1), (9, .iload_n 3, 1), (10, .invokestatic 95, 3), (13, .iadd, 1), (14, .iload 4, 2), (16, .invokestatic 95, 3), (19, .iadd, 1), (20, .iload 5, 2), (22, .invokestatic 95, 3), (25, .iadd, 1), (26, .istore 6, 2), (28, .aload_n 0, 1)]
set_option maxRecDepth 100000 in
theorem dk112_0 : ∀ e ∈ ck112_0, decode prog_1_method_2_code e.1 = .ok e.2 := by decide +kernel
def ck112_1 : List (Nat × Instr × Nat) := [(29, .getfield 10, 3), (32, .getfield 99, 3), (35, .iload 6, 2), (37, .iadd, 1), (38, .sipush 240, 3), (41, .if_icmp .le 5, 3), (44, .iconst (-1), 1), (45, .ireturn, 1), (46, .aload_n 0, 1), (47, .getfield 10, 3), (50, .iload_n 1, 1), (51, .invokevirtual 102, 3), (54, .aload_n 0, 1), (55, .getfield 10, 3), (58, .iload_n 2, 1), (59, .invokevirtual 102, 3)]
set_option maxRecDepth 100000 in
theorem dk112_1 : ∀ e ∈ ck112_1, decode prog_1_method_2_code e.1 = .ok e.2 := by decide +kernel
def ck112_2 : List (Nat × Instr × Nat) := [(62, .aload_n 0, 1), (63, .getfield 10, 3), (66, .iload_n 3, 1), (67, .invokevirtual 102, 3), (70, .aload_n 0, 1), (71, .getfield 10, 3), (74, .iload 4, 2), (76, .invokevirtual 102, 3), (79, .aload_n 0, 1), (80, .getfield 10, 3), (83, .iload 5, 2), (85, .invokevirtual 102, 3), (88, .aload_n 0, 1), (89, .getfield 10, 3), (92, .getfield 99, 3), (95, .ireturn, 1)]
set_option maxRecDepth 100000 in
theorem dk112_2 : ∀ e ∈ ck112_2, decode prog_1_method_2_code e.1 = .ok e.2 := by decide +kernel
def ck112 : List (Nat × List (Nat × Instr × Nat)) := [(29, ck112_0), (62, ck112_1), (96, ck112_2)]
theorem dk112 : cOk prog_1_method_2_code ck112 := cOk_c dk112_0 (cOk_c dk112_1 (cOk_c dk112_2 (cOk_n)))
def ck113_0 : List (Nat × Instr × Nat) := [(0, .iload_n 1, 1), (1, .ifCond .lt 14, 3), (4, .iload_n 1, 1), (5, .aload_n 0, 1), (6, .getfield 10, 3), (9, .getfield 99, 3), (12, .if_icmp .le 5, 3), (15, .iconst 0, 1), (16, .ireturn, 1), (17, .aload_n 0, 1), (18, .getfield 10, 3), (21, .iload_n 1, 1), (22, .putfield 99, 3), (25, .iconst 1, 1), (26, .ireturn, 1)]
set_option maxRecDepth 100000 in
theorem dk113_0 : ∀ e ∈ ck113_0, decode prog_1_method_3_code e.1 = .ok e.2 := by decide +kernel
def ck113 : List (Nat × List (Nat × Instr × Nat)) := [(27, ck113_0)]
theorem dk113 : cOk prog_1_method_3_code ck113 := cOk_c dk113_0 (cOk_n)
def ck114_0 : List (Nat × Instr × Nat) := [(0, .iload_n 1, 1), (1, .ifCond .ne 15, 3), (4, .aload_n 0, 1), (5, .getfield 21, 3), (8, .aload_n 0, 1), (9, .getfield 49, 3), (12, .invokevirtual 106, 3), (15, .ireturn, 1), (16, .iload_n 1, 1), (17, .iconst 1, 1), (18, .if_icmp .ne 13, 3), (21, .aload_n 0, 1), (22, .getfield 28, 3), (25, .invokevirtual 110, 3), (28, .goto 5, 3), (31, .bipush (-2), 2)]
set_option maxRecDepth 100000 in
theorem dk114_0 : ∀ e ∈ ck114_0, decode prog_1_method_4_code e.1 = .ok e.2 := by decide +kernel
def ck114_1 : List (Nat × Instr × Nat) := [(33, .ireturn, 1)]
set_option maxRecDepth 100000 in
theorem dk114_1 : ∀ e ∈ ck114_1, decode prog_1_method_4_code e.1 = .ok e.2 := by decide +kernel
def ck114 : List (Nat × List (Nat × Instr × Nat)) := [(33, ck114_0), (34, ck114_1)]
theorem dk114 : cOk prog_1_method_4_code ck114 := cOk_c dk114_0 (cOk_c dk114_1 (cOk_n))
def ck115_0 : List (Nat × Instr × Nat) := [(0, .iload_n 1, 1), (1, .ifCond .ne 23, 3), (4, .aload_n 0, 1), (5, .getfield 21, 3), (8, .aload_n 0, 1), (9, .getfield 49, 3), (12, .invokevirtual 106, 3), (15, .iconst (-1), 1), (16, .if_icmp .ne 8, 3), (19, .aload_n 0, 1), (20, .invokevirtual 113, 3), (23, .ireturn, 1), (24, .iload_n 1, 1), (25, .iconst 1, 1), (26, .if_icmp .ne 27, 3), (29, .aload_n 0, 1)]
set_option maxRecDepth 100000 in
theorem dk115_0 : ∀ e ∈ ck115_0, decode prog_1_method_5_code e.1 = .ok e.2 := by decide +kernel
def ck115_1 : List (Nat × Instr × Nat) := [(30, .getfield 116, 3), (33, .iconst 4, 1), (34, .if_icmp .ge 19, 3), (37, .aload_n 0, 1), (38, .getfield 28, 3), (41, .invokevirtual 110, 3), (44, .iconst (-1), 1), (45, .if_icmp .ne 8, 3), (48, .aload_n 0, 1), (49, .invokevirtual 119, 3), (52, .ireturn, 1), (53, .iconst (-1), 1), (54, .ireturn, 1)]
set_option maxRecDepth 100000 in
theorem dk115_1 : ∀ e ∈ ck115_1, decode prog_1_method_5_code e.1 = .ok e.2 := by decide +kernel
def ck115 : List (Nat × List (Nat × Instr × Nat)) := [(30, ck115_0), (55, ck115_1)]
theorem dk115 : cOk prog_1_method_5_code ck115 := cOk_c dk115_0 (cOk_c dk115_1 (cOk_n))
def ck116_0 : List (Nat × Instr × Nat) := [(0, .aload_n 0, 1), (1, .invokevirtual 122, 3), (4, .ifCond .eq 12, 3), (7, .iload_n 1, 1), (8, .ifCond .lt 8, 3), (11, .iload_n 1, 1), (12, .iconst 4, 1), (13, .if_icmp .le 5, 3), (16, .iconst (-1), 1), (17, .ireturn, 1), (18, .iload_n 1, 1), (19, .iconst 4, 1), (20, .if_icmp .ne 13, 3), (23, .aload_n 0, 1), (24, .getfield 55, 3), (27, .getfield 126, 3)]
set_option maxRecDepth 100000 in
theorem dk116_0 : ∀ e ∈ ck116_0, decode prog_1_method_6_code e.1 = .ok e.2 := by decide +kernel
def ck116_1 : List (Nat × Instr × Nat) := [(30, .goto 12, 3), (33, .aload_n 0, 1), (34, .getfield 45, 3), (37, .getfield 129, 3), (40, .iload_n 1, 1), (41, .iaload, 1), (42, .ireturn, 1)]
set_option maxRecDepth 100000 in
theorem dk116_1 : ∀ e ∈ ck116_1, decode prog_1_method_6_code e.1 = .ok e.2 := by decide +kernel
def ck116 : List (Nat × List (Nat × Instr × Nat)) := [(30, ck116_0), (43, ck116_1)]
theorem dk116 : cOk prog_1_method_6_code ck116 := cOk_c dk116_0 (cOk_c dk116_1 (cOk_n))
def ck117_0 : List (Nat × Instr × Nat) := [(0, .aload_n 0, 1), (1, .iload_n 1, 1), (2, .invokevirtual 132, 3), (5, .ifCond .eq 12, 3), (8, .iload_n 2, 1), (9, .ifCond .lt 8, 3), (12, .iload_n 2, 1), (13, .iconst 4, 1), (14, .if_icmp .le 5, 3), (17, .iconst (-1), 1), (18, .ireturn, 1), (19, .iload_n 2, 1), (20, .iconst 4, 1), (21, .if_icmp .ne 17, 3), (24, .aload_n 0, 1), (25, .getfield 55, 3)]
set_option maxRecDepth 100000 in
theorem dk117_0 : ∀ e ∈ ck117_0, decode prog_1_method_7_code e.1 = .ok e.2 := by decide +kernel
def ck117_1 : List (Nat × Instr × Nat) := [(28, .getfield 136, 3), (31, .iload_n 1, 1), (32, .ishr, 1), (33, .iconst 1, 1), (34, .iand, 1), (35, .goto 12, 3), (38, .aload_n 0, 1), (39, .getfield 45, 3), (42, .iload_n 1, 1), (43, .iload_n 2, 1), (44, .invokevirtual 139, 3), (47, .ireturn, 1)]
set_option maxRecDepth 100000 in
theorem dk117_1 : ∀ e ∈ ck117_1, decode prog_1_method_7_code e.1 = .ok e.2 := by decide +kernel
def ck117 : List (Nat × List (Nat × Instr × Nat)) := [(28, ck117_0), (48, ck117_1)]
theorem dk117 : cOk prog_1_method_7_code ck117 := cOk_c dk117_0 (cOk_c dk117_1 (cOk_n))
def ck118_0 : List (Nat × Instr × Nat) := [(0, .aload_n 0, 1), (1, .iload_n 1, 1), (2, .invokevirtual 143, 3), (5, .ifCond .eq 13, 3), (8, .iload_n 2, 1), (9, .ifCond .lt 9, 3), (12, .iload_n 2, 1), (13, .bipush 6, 2), (15, .if_icmp .le 13, 3), (18, .new 146, 3), (21, .dup, 1), (22, .ldc 148, 2), (24, .invokespecial 150, 3), (27, .athrow, 1), (28, .iload_n 2, 1), (29, .tableswitch 101 0 5 #[39, 48, 57, 66, 75, 84], 39)]
set_option maxRecDepth 100000 in
theorem dk118_0 : ∀ e ∈ ck118_0, decode prog_1_method_8_code e.1 = .ok e.2 := by decide +kernel
def ck118_1 : List (Nat × Instr × Nat) := [(68, .aload_n 0, 1), (69, .getfield 55, 3), (72, .iload_n 1, 1), (73, .invokevirtual 153, 3), (76, .ireturn, 1), (77, .aload_n 0, 1), (78, .getfield 55, 3), (81, .iload_n 1, 1), (82, .invokevirtual 156, 3), (85, .ireturn, 1), (86, .aload_n 0, 1), (87, .getfield 55, 3), (90, .iload_n 1, 1), (91, .invokevirtual 159, 3), (94, .ireturn, 1), (95, .aload_n 0, 1)]
set_option maxRecDepth 100000 in
theorem dk118_1 : ∀ e ∈ ck118_1, decode prog_1_method_8_code e.1 = .ok e.2 := by decide +kernel
def ck118_2 : List (Nat × Instr × Nat) := [(96, .getfield 45, 3), (99, .iload_n 1, 1), (100, .invokevirtual 162, 3), (103, .ireturn, 1), (104, .aload_n 0, 1), (105, .getfield 55, 3), (108, .iload_n 1, 1), (109, .invokevirtual 165, 3), (112, .ireturn, 1), (113, .aload_n 0, 1), (114, .getfield 55, 3), (117, .iload_n 1, 1), (118, .invokevirtual 168, 3), (121, .ifCond .eq 7, 3), (124, .iconst 1, 1), (125, .goto 4, 3)]
set_option maxRecDepth 100000 in
theorem dk118_2 : ∀ e ∈ ck118_2, decode prog_1_method_8_code e.1 = .ok e.2 := by decide +kernel
def ck118_3 : List (Nat × Instr × Nat) := [(128, .iconst 0, 1), (129, .ireturn, 1), (130, .aload_n 0, 1), (131, .getfield 64, 3), (134, .aload_n 0, 1), (135, .getfield 55, 3), (138, .iload_n 1, 1), (139, .invokevirtual 171, 3), (142, .ireturn, 1)]
set_option maxRecDepth 100000 in
theorem dk118_3 : ∀ e ∈ ck118_3, decode prog_1_method_8_code e.1 = .ok e.2 := by decide +kernel
def ck118 : List (Nat × List (Nat × Instr × Nat)) := [(68, ck118_0), (96, ck118_1), (128, ck118_2), (143, ck118_3)]
theorem dk118 : cOk prog_1_method_8_code ck118 := cOk_c dk118_0 (cOk_c dk118_1 (cOk_c dk118_2 (cOk_c dk118_3 (cOk_n))))
def ck119_0 : List (Nat × Instr × Nat) := [(0, .iload_n 1, 1), (1, .iconst (-1), 1), (2, .if_icmp .lt 11, 3), (5, .iload_n 1, 1), (6, .aload_n 0, 1), (7, .getfield 116, 3), (10, .if_icmp .lt 5, 3), (13, .iconst 0, 1), (14, .ireturn, 1), (15, .aload_n 0, 1), (16, .iload_n 1, 1), (17, .putfield 38, 3), (20, .aload_n 0, 1), (21, .getfield 64, 3), (24, .iload_n 1, 1), (25, .iconst (-1), 1)]
set_option maxRecDepth 100000 in
theorem dk119_0 : ∀ e ∈ ck119_0, decode prog_1_method_9_code e.1 = .ok e.2 := by decide +kernel
def ck119_1 : List (Nat × Instr × Nat) := [(26, .if_icmp .ne 7, 3), (29, .aconst_null, 1), (30, .goto 9, 3), (33, .aload_n 0, 1), (34, .getfield 34, 3), (37, .iload_n 1, 1), (38, .aaload, 1), (39, .putfield 175, 3), (42, .iconst 1, 1), (43, .ireturn, 1)]
set_option maxRecDepth 100000 in
theorem dk119_1 : ∀ e ∈ ck119_1, decode prog_1_method_9_code e.1 = .ok e.2 := by decide +kernel
def ck119 : List (Nat × List (Nat × Instr × Nat)) := [(26, ck119_0), (44, ck119_1)]
theorem dk119 : cOk prog_1_method_9_code ck119 := cOk_c dk119_0 (cOk_c dk119_1 (cOk_n))
def ck120_0 : List (Nat × Instr × Nat) := [(0, .aload_n 0, 1), (1, .invokevirtual 122, 3), (4, .ifCond .eq 17, 3), (7, .aload_n 0, 1), (8, .getfield 64, 3), (11, .aload_n 0, 1), (12, .getfield 55, 3), (15, .invokevirtual 179, 3), (18, .goto 5, 3), (21, .ldc 183, 2), (23, .ireturn, 1)]
set_option maxRecDepth 100000 in
theorem dk120_0 : ∀ e ∈ ck120_0, decode prog_1_method_10_code e.1 = .ok e.2 := by decide +kernel
def ck120 : List (Nat × List (Nat × Instr × Nat)) := [(24, ck120_0)]
theorem dk120 : cOk prog_1_method_10_code ck120 := cOk_c dk120_0 (cOk_n)
def ck121_0 : List (Nat × Instr × Nat) := [(0, .aload_n 0, 1), (1, .iload_n 1, 1), (2, .invokevirtual 143, 3), (5, .ifCond .ne 9, 3), (8, .aload_n 0, 1), (9, .iconst 0, 1), (10, .invokevirtual 184, 3), (13, .ireturn, 1), (14, .iload_n 2, 1), (15, .ifCond .lt 8, 3), (18, .iload_n 2, 1), (19, .iconst 2, 1), (20, .if_icmp .le 9, 3), (23, .aload_n 0, 1), (24, .iconst 1, 1), (25, .invokevirtual 184, 3)]
set_option maxRecDepth 100000 in
theorem dk121_0 : ∀ e ∈ ck121_0, decode prog_1_method_11_code e.1 = .ok e.2 := by decide +kernel
def ck121_1 : List (Nat × Instr × Nat) := [(28, .ireturn, 1), (29, .aload_n 0, 1), (30, .getfield 55, 3), (33, .iload_n 1, 1), (34, .invokevirtual 156, 3), (37, .istore_n 3, 1), (38, .iload_n 3, 1), (39, .iload_n 2, 1), (40, .if_icmp .ne 9, 3), (43, .aload_n 0, 1), (44, .iconst 2, 1), (45, .invokevirtual 184, 3), (48, .ireturn, 1), (49, .aload_n 0, 1), (50, .getfield 71, 3), (53, .aload_n 0, 1)]
set_option maxRecDepth 100000 in
theorem dk121_1 : ∀ e ∈ ck121_1, decode prog_1_method_11_code e.1 = .ok e.2 := by decide +kernel
def ck121_2 : List (Nat × Instr × Nat) := [(54, .getfield 55, 3), (57, .invokevirtual 187, 3), (60, .aload_n 0, 1), (61, .getfield 55, 3), (64, .aload_n 0, 1), (65, .getfield 55, 3), (68, .getfield 191, 3), (71, .iload_n 1, 1), (72, .iload_n 2, 1), (73, .invokestatic 194, 3), (76, .putfield 191, 3), (79, .iload_n 3, 1), (80, .ireturn, 1)]
set_option maxRecDepth 100000 in
theorem dk121_2 : ∀ e ∈ ck121_2, decode prog_1_method_11_code e.1 = .ok e.2 := by decide +kernel
def ck121 : List (Nat × List (Nat × Instr × Nat)) := [(28, ck121_0), (54, ck121_1), (81, ck121_2)]
theorem dk121 : cOk prog_1_method_11_code ck121 := cOk_c dk121_0 (cOk_c dk121_1 (cOk_c dk121_2 (cOk_n)))
def ck122_0 : List (Nat × Instr × Nat) := [(0, .aload_n 0, 1), (1, .iload_n 1, 1), (2, .invokevirtual 143, 3), (5, .ifCond .eq 11, 3), (8, .aload_n 0, 1), (9, .iload_n 2, 1), (10, .invokevirtual 143, 3), (13, .ifCond .ne 9, 3), (16, .aload_n 0, 1), (17, .iconst 0, 1), (18, .invokevirtual 184, 3), (21, .ireturn, 1), (22, .iload_n 1, 1), (23, .iload_n 2, 1), (24, .if_icmp .ne 9, 3), (27, .aload_n 0, 1)]
set_option maxRecDepth 100000 in
theorem dk122_0 : ∀ e ∈ ck122_0, decode prog_1_method_12_code e.1 = .ok e.2 := by decide +kernel
def ck122_1 : List (Nat × Instr × Nat) := [(28, .iconst 2, 1), (29, .invokevirtual 184, 3), (32, .ireturn, 1), (33, .aload_n 0, 1), (34, .getfield 71, 3), (37, .aload_n 0, 1), (38, .getfield 55, 3), (41, .invokevirtual 187, 3), (44, .aload_n 0, 1), (45, .getfield 55, 3), (48, .iload_n 1, 1), (49, .iload_n 2, 1), (50, .invokevirtual 198, 3), (53, .aload_n 0, 1), (54, .getfield 55, 3), (57, .iload_n 1, 1)]
set_option maxRecDepth 100000 in
theorem dk122_1 : ∀ e ∈ ck122_1, decode prog_1_method_12_code e.1 = .ok e.2 := by decide +kernel
def ck122_2 : List (Nat × Instr × Nat) := [(58, .invokevirtual 165, 3), (61, .ireturn, 1)]
set_option maxRecDepth 100000 in
theorem dk122_2 : ∀ e ∈ ck122_2, decode prog_1_method_12_code e.1 = .ok e.2 := by decide +kernel
def ck122 : List (Nat × List (Nat × Instr × Nat)) := [(28, ck122_0), (58, ck122_1), (62, ck122_2)]
theorem dk122 : cOk prog_1_method_12_code ck122 := cOk_c dk122_0 (cOk_c dk122_1 (cOk_c dk122_2 (cOk_n)))
def ck123_0 : List (Nat × Instr × Nat) := [(0, .aload_n 0, 1), (1, .iload_n 1, 1), (2, .invokevirtual 143, 3), (5, .ifCond .ne 9, 3), (8, .aload_n 0, 1), (9, .iconst 0, 1), (10, .invokevirtual 184, 3), (13, .ireturn, 1), (14, .aload_n 0, 1), (15, .getfield 55, 3), (18, .iload_n 1, 1), (19, .invokevirtual 159, 3), (22, .istore_n 2, 1), (23, .iload_n 2, 1), (24, .bipush 9, 2), (26, .if_icmp .lt 9, 3)]
set_option maxRecDepth 100000 in
theorem dk123_0 : ∀ e ∈ ck123_0, decode prog_1_method_13_code e.1 = .ok e.2 := by decide +kernel
def ck123_1 : List (Nat × Instr × Nat) := [(29, .aload_n 0, 1), (30, .iconst 2, 1), (31, .invokevirtual 184, 3), (34, .ireturn, 1), (35, .aload_n 0, 1), (36, .getfield 71, 3), (39, .aload_n 0, 1), (40, .getfield 55, 3), (43, .invokevirtual 187, 3), (46, .aload_n 0, 1), (47, .getfield 55, 3), (50, .aload_n 0, 1), (51, .getfield 55, 3), (54, .getfield 202, 3), (57, .iload_n 1, 1), (58, .iload_n 2, 1)]
set_option maxRecDepth 100000 in
theorem dk123_1 : ∀ e ∈ ck123_1, decode prog_1_method_13_code e.1 = .ok e.2 := by decide +kernel
def ck123_2 : List (Nat × Instr × Nat) := [(59, .iconst 1, 1), (60, .iadd, 1), (61, .invokestatic 194, 3), (64, .putfield 202, 3), (67, .iload_n 2, 1), (68, .iconst 1, 1), (69, .iadd, 1), (70, .ireturn, 1)]
set_option maxRecDepth 100000 in
theorem dk123_2 : ∀ e ∈ ck123_2, decode prog_1_method_13_code e.1 = .ok e.2 := by decide +kernel
def ck123 : List (Nat × List (Nat × Instr × Nat)) := [(29, ck123_0), (59, ck123_1), (71, ck123_2)]
theorem dk123 : cOk prog_1_method_13_code ck123 := cOk_c dk123_0 (cOk_c dk123_1 (cOk_c dk123_2 (cOk_n)))
def ck124_0 : List (Nat × Instr × Nat) := [(0, .aload_n 0, 1), (1, .iload_n 1, 1), (2, .invokevirtual 132, 3), (5, .ifCond .ne 9, 3), (8, .aload_n 0, 1), (9, .iconst 0, 1), (10, .invokevirtual 184, 3), (13, .ireturn, 1), (14, .aload_n 0, 1), (15, .getfield 55, 3), (18, .getfield 136, 3), (21, .iload_n 1, 1), (22, .ishr, 1), (23, .iconst 1, 1), (24, .iand, 1), (25, .iconst 1, 1)]
set_option maxRecDepth 100000 in
theorem dk124_0 : ∀ e ∈ ck124_0, decode prog_1_method_14_code e.1 = .ok e.2 := by decide +kernel
def ck124_1 : List (Nat × Instr × Nat) := [(26, .if_icmp .ne 9, 3), (29, .aload_n 0, 1), (30, .iconst 2, 1), (31, .invokevirtual 184, 3), (34, .ireturn, 1), (35, .aload_n 0, 1), (36, .getfield 55, 3), (39, .getfield 126, 3), (42, .ifCond .gt 9, 3), (45, .aload_n 0, 1), (46, .iconst 3, 1), (47, .invokevirtual 184, 3), (50, .ireturn, 1), (51, .aload_n 0, 1), (52, .getfield 71, 3), (55, .aload_n 0, 1)]
set_option maxRecDepth 100000 in
theorem dk124_1 : ∀ e ∈ ck124_1, decode prog_1_method_14_code e.1 = .ok e.2 := by decide +kernel
def ck124_2 : List (Nat × Instr × Nat) := [(56, .getfield 55, 3), (59, .invokevirtual 187, 3), (62, .aload_n 0, 1), (63, .getfield 55, 3), (66, .dup, 1), (67, .getfield 136, 3), (70, .iconst 1, 1), (71, .iload_n 1, 1), (72, .ishl, 1), (73, .ior, 1), (74, .putfield 136, 3), (77, .aload_n 0, 1), (78, .getfield 55, 3), (81, .dup, 1), (82, .getfield 126, 3), (85, .iconst 1, 1)]
set_option maxRecDepth 100000 in
theorem dk124_2 : ∀ e ∈ ck124_2, decode prog_1_method_14_code e.1 = .ok e.2 := by decide +kernel
def ck124_3 : List (Nat × Instr × Nat) := [(86, .isub, 1), (87, .putfield 126, 3), (90, .aload_n 0, 1), (91, .getfield 55, 3), (94, .getfield 126, 3), (97, .ireturn, 1)]
set_option maxRecDepth 100000 in
theorem dk124_3 : ∀ e ∈ ck124_3, decode prog_1_method_14_code e.1 = .ok e.2 := by decide +kernel
def ck124 : List (Nat × List (Nat × Instr × Nat)) := [(26, ck124_0), (56, ck124_1), (86, ck124_2), (98, ck124_3)]
theorem dk124 : cOk prog_1_method_14_code ck124 := cOk_c dk124_0 (cOk_c dk124_1 (cOk_c dk124_2 (cOk_c dk124_3 (cOk_n))))
