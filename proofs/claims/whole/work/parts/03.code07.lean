/-! ===== the code of the methods, instruction by instruction (printed by program) ===== -/
def ck158_0 : List (Nat × Instr × Nat) := [(0, .aload_n 0, 1), (1, .getfield 49, 3), (4, .astore_n 1, 1), (5, .aload_n 0, 1), (6, .aload_n 0, 1), (7, .getfield 45, 3), (10, .putfield 49, 3), (13, .aload_n 0, 1), (14, .aload_n 1, 1), (15, .putfield 45, 3), (18, .aload_n 0, 1), (19, .getfield 64, 3), (22, .aload_n 1, 1), (23, .putfield 367, 3), (26, .aload_n 0, 1), (27, .getfield 55, 3)]
set_option maxRecDepth 100000 in
theorem dk158_0 : ∀ e ∈ ck158_0, decode prog_1_method_48_code e.1 = .ok e.2 := by decide +kernel
def ck158_1 : List (Nat × Instr × Nat) := [(30, .aload_n 1, 1), (31, .invokevirtual 368, 3), (34, .aload_n 0, 1), (35, .getfield 71, 3), (38, .invokevirtual 371, 3), (41, .aload_n 0, 1), (42, .getfield 87, 3), (45, .iconst 0, 1), (46, .putfield 308, 3), (49, .aload_n 0, 1), (50, .getfield 10, 3), (53, .iconst 0, 1), (54, .putfield 99, 3), (57, .aload_n 0, 1), (58, .getfield 45, 3), (61, .getfield 355, 3)]
set_option maxRecDepth 100000 in
theorem dk158_1 : ∀ e ∈ ck158_1, decode prog_1_method_48_code e.1 = .ok e.2 := by decide +kernel
def ck158_2 : List (Nat × Instr × Nat) := [(64, .ireturn, 1)]
set_option maxRecDepth 100000 in
theorem dk158_2 : ∀ e ∈ ck158_2, decode prog_1_method_48_code e.1 = .ok e.2 := by decide +kernel
def ck158 : List (Nat × List (Nat × Instr × Nat)) := [(30, ck158_0), (64, ck158_1), (65, ck158_2)]
theorem dk158 : cOk prog_1_method_48_code ck158 := cOk_c dk158_0 (cOk_c dk158_1 (cOk_c dk158_2 (cOk_n)))
def ck159_0 : List (Nat × Instr × Nat) := [(0, .aload_n 0, 1), (1, .getfield 34, 3), (4, .aload_n 0, 1), (5, .getfield 116, 3), (8, .aload_n 0, 1), (9, .getfield 28, 3), (12, .invokevirtual 374, 3), (15, .aastore, 1), (16, .aload_n 0, 1), (17, .getfield 10, 3), (20, .iconst 0, 1), (21, .putfield 99, 3), (24, .aload_n 0, 1), (25, .dup, 1), (26, .getfield 116, 3), (29, .iconst 1, 1)]
set_option maxRecDepth 100000 in
theorem dk159_0 : ∀ e ∈ ck159_0, decode prog_1_method_49_code e.1 = .ok e.2 := by decide +kernel
def ck159_1 : List (Nat × Instr × Nat) := [(30, .iadd, 1), (31, .putfield 116, 3), (34, .aload_n 0, 1), (35, .getfield 116, 3), (38, .iconst 1, 1), (39, .isub, 1), (40, .ireturn, 1)]
set_option maxRecDepth 100000 in
theorem dk159_1 : ∀ e ∈ ck159_1, decode prog_1_method_49_code e.1 = .ok e.2 := by decide +kernel
def ck159 : List (Nat × List (Nat × Instr × Nat)) := [(30, ck159_0), (41, ck159_1)]
theorem dk159 : cOk prog_1_method_49_code ck159 := cOk_c dk159_0 (cOk_c dk159_1 (cOk_n))
def ck160_0 : List (Nat × Instr × Nat) := [(0, .aload_n 0, 1), (1, .getfield 64, 3), (4, .aload_n 0, 1), (5, .getfield 55, 3), (8, .invokevirtual 378, 3), (11, .aload_n 0, 1), (12, .getfield 71, 3), (15, .aload_n 0, 1), (16, .getfield 55, 3), (19, .aload_n 0, 1), (20, .getfield 64, 3), (23, .getfield 381, 3), (26, .aload_n 0, 1), (27, .getfield 64, 3), (30, .getfield 384, 3), (33, .invokevirtual 387, 3)]
set_option maxRecDepth 100000 in
theorem dk160_0 : ∀ e ∈ ck160_0, decode prog_1_method_50_code e.1 = .ok e.2 := by decide +kernel
def ck160_1 : List (Nat × Instr × Nat) := [(36, .return_, 1)]
set_option maxRecDepth 100000 in
theorem dk160_1 : ∀ e ∈ ck160_1, decode prog_1_method_50_code e.1 = .ok e.2 := by decide +kernel
def ck160 : List (Nat × List (Nat × Instr × Nat)) := [(36, ck160_0), (37, ck160_1)]
theorem dk160 : cOk prog_1_method_50_code ck160 := cOk_c dk160_0 (cOk_c dk160_1 (cOk_n))
def ck161_0 : List (Nat × Instr × Nat) := [(0, .aload_n 0, 1), (1, .aload_n 0, 1), (2, .getfield 226, 3), (5, .ldc2_w 390, 3), (8, .lmul, 1), (9, .ldc2_w 392, 3), (12, .ladd, 1), (13, .putfield 226, 3), (16, .iload_n 1, 1), (17, .iconst 1, 1), (18, .if_icmp .ge 7, 3), (21, .iconst 0, 1), (22, .goto 14, 3), (25, .aload_n 0, 1), (26, .getfield 226, 3), (29, .bipush 33, 2)]
set_option maxRecDepth 100000 in
theorem dk161_0 : ∀ e ∈ ck161_0, decode prog_1_method_51_code e.1 = .ok e.2 := by decide +kernel
def ck161_1 : List (Nat × Instr × Nat) := [(31, .lushr, 1), (32, .iload_n 1, 1), (33, .i2l, 1), (34, .lrem, 1), (35, .l2i, 1), (36, .ireturn, 1)]
set_option maxRecDepth 100000 in
theorem dk161_1 : ∀ e ∈ ck161_1, decode prog_1_method_51_code e.1 = .ok e.2 := by decide +kernel
def ck161 : List (Nat × List (Nat × Instr × Nat)) := [(31, ck161_0), (37, ck161_1)]
theorem dk161 : cOk prog_1_method_51_code ck161 := cOk_c dk161_0 (cOk_c dk161_1 (cOk_n))
def ck162_0 : List (Nat × Instr × Nat) := [(0, .aload_n 0, 1), (1, .getfield 55, 3), (4, .getfield 205, 3), (7, .aload_n 0, 1), (8, .getfield 45, 3), (11, .invokevirtual 208, 3), (14, .if_icmp .lt 14, 3), (17, .aload_n 0, 1), (18, .getfield 55, 3), (21, .aload_n 0, 1), (22, .getfield 45, 3), (25, .invokevirtual 217, 3), (28, .iconst 0, 1), (29, .istore_n 1, 1), (30, .iload_n 1, 1), (31, .aload_n 0, 1)]
set_option maxRecDepth 100000 in
theorem dk162_0 : ∀ e ∈ ck162_0, decode prog_1_method_52_code e.1 = .ok e.2 := by decide +kernel
def ck162_1 : List (Nat × Instr × Nat) := [(32, .getfield 45, 3), (35, .getfield 355, 3), (38, .if_icmp .ge 32, 3), (41, .aload_n 0, 1), (42, .getfield 55, 3), (45, .aload_n 0, 1), (46, .getfield 55, 3), (49, .getfield 191, 3), (52, .iload_n 1, 1), (53, .aload_n 0, 1), (54, .iconst 3, 1), (55, .invokevirtual 394, 3), (58, .invokestatic 194, 3), (61, .putfield 191, 3), (64, .iinc 1 1, 3), (67, .goto (-37), 3)]
set_option maxRecDepth 100000 in
theorem dk162_1 : ∀ e ∈ ck162_1, decode prog_1_method_52_code e.1 = .ok e.2 := by decide +kernel
def ck162_2 : List (Nat × Instr × Nat) := [(70, .aload_n 0, 1), (71, .bipush 10, 2), (73, .invokevirtual 394, 3), (76, .aload_n 0, 1), (77, .getfield 223, 3), (80, .if_icmp .ge 41, 3), (83, .aload_n 0, 1), (84, .aload_n 0, 1), (85, .getfield 45, 3), (88, .getfield 355, 3), (91, .invokevirtual 394, 3), (94, .istore_n 1, 1), (95, .aload_n 0, 1), (96, .aload_n 0, 1), (97, .getfield 45, 3), (100, .getfield 355, 3)]
set_option maxRecDepth 100000 in
theorem dk162_2 : ∀ e ∈ ck162_2, decode prog_1_method_52_code e.1 = .ok e.2 := by decide +kernel
def ck162_3 : List (Nat × Instr × Nat) := [(103, .invokevirtual 394, 3), (106, .istore_n 2, 1), (107, .iload_n 1, 1), (108, .iload_n 2, 1), (109, .if_icmp .eq 12, 3), (112, .aload_n 0, 1), (113, .getfield 55, 3), (116, .iload_n 1, 1), (117, .iload_n 2, 1), (118, .invokevirtual 198, 3), (121, .aload_n 0, 1), (122, .getfield 55, 3), (125, .getfield 205, 3), (128, .istore_n 1, 1), (129, .iload_n 1, 1), (130, .aload_n 0, 1)]
set_option maxRecDepth 100000 in
theorem dk162_3 : ∀ e ∈ ck162_3, decode prog_1_method_52_code e.1 = .ok e.2 := by decide +kernel
def ck162_4 : List (Nat × Instr × Nat) := [(131, .getfield 45, 3), (134, .invokevirtual 208, 3), (137, .if_icmp .ge 13, 3), (140, .aload_n 0, 1), (141, .invokevirtual 211, 3), (144, .iinc 1 1, 3), (147, .goto (-18), 3), (150, .return_, 1)]
set_option maxRecDepth 100000 in
theorem dk162_4 : ∀ e ∈ ck162_4, decode prog_1_method_52_code e.1 = .ok e.2 := by decide +kernel
def ck162 : List (Nat × List (Nat × Instr × Nat)) := [(32, ck162_0), (70, ck162_1), (103, ck162_2), (131, ck162_3), (151, ck162_4)]
theorem dk162 : cOk prog_1_method_52_code ck162 := cOk_c dk162_0 (cOk_c dk162_1 (cOk_c dk162_2 (cOk_c dk162_3 (cOk_c dk162_4 (cOk_n)))))
def ck163_0 : List (Nat × Instr × Nat) := [(0, .iload_n 0, 1), (1, .iload_n 1, 1), (2, .if_icmp .lt 12, 3), (5, .iload_n 0, 1), (6, .iload_n 2, 1), (7, .if_icmp .gt 7, 3), (10, .iconst 1, 1), (11, .goto 4, 3), (14, .iconst 0, 1), (15, .ireturn, 1)]
set_option maxRecDepth 100000 in
theorem dk163_0 : ∀ e ∈ ck163_0, decode prog_14_method_1_code e.1 = .ok e.2 := by decide +kernel
def ck163 : List (Nat × List (Nat × Instr × Nat)) := [(16, ck163_0)]
theorem dk163 : cOk prog_14_method_1_code ck163 := cOk_c dk163_0 (cOk_n)
def ck164_0 : List (Nat × Instr × Nat) := [(0, .iload_n 0, 1), (1, .iload_n 1, 1), (2, .ishr, 1), (3, .iconst 1, 1), (4, .iand, 1), (5, .iconst 1, 1), (6, .if_icmp .ne 7, 3), (9, .iconst 1, 1), (10, .goto 4, 3), (13, .iconst 0, 1), (14, .ireturn, 1)]
set_option maxRecDepth 100000 in
theorem dk164_0 : ∀ e ∈ ck164_0, decode prog_14_method_2_code e.1 = .ok e.2 := by decide +kernel
def ck164 : List (Nat × List (Nat × Instr × Nat)) := [(15, ck164_0)]
theorem dk164 : cOk prog_14_method_2_code ck164 := cOk_c dk164_0 (cOk_n)
def ck165_0 : List (Nat × Instr × Nat) := [(0, .aload_n 0, 1), (1, .invokespecial 3, 3), (4, .aload_n 0, 1), (5, .sipush 240, 3), (8, .newarray .int, 2), (10, .putfield 9, 3), (13, .aload_n 0, 1), (14, .sipush 2600, 3), (17, .newarray .int, 2), (19, .putfield 13, 3), (22, .aload_n 0, 1), (23, .sipush 2600, 3), (26, .newarray .int, 2), (28, .putfield 16, 3), (31, .aload_n 0, 1), (32, .iconst 5, 1)]
set_option maxRecDepth 100000 in
theorem dk165_0 : ∀ e ∈ ck165_0, decode prog_14_method_3_code e.1 = .ok e.2 := by decide +kernel
def ck165_1 : List (Nat × Instr × Nat) := [(33, .newarray .int, 2), (35, .putfield 19, 3), (38, .aload_n 0, 1), (39, .iconst 5, 1), (40, .newarray .int, 2), (42, .putfield 22, 3), (45, .aload_n 0, 1), (46, .sipush 700, 3), (49, .newarray .int, 2), (51, .putfield 25, 3), (54, .aload_n 0, 1), (55, .sipush 700, 3), (58, .newarray .int, 2), (60, .putfield 28, 3), (63, .aload_n 0, 1), (64, .sipush 700, 3)]
set_option maxRecDepth 100000 in
theorem dk165_1 : ∀ e ∈ ck165_1, decode prog_14_method_3_code e.1 = .ok e.2 := by decide +kernel
def ck165_2 : List (Nat × Instr × Nat) := [(67, .newarray .int, 2), (69, .putfield 31, 3), (72, .aload_n 0, 1), (73, .bipush 6, 2), (75, .newarray .int, 2), (77, .putfield 34, 3), (80, .aload_n 0, 1), (81, .bipush 80, 2), (83, .newarray .int, 2), (85, .putfield 37, 3), (88, .aload_n 0, 1), (89, .iconst 5, 1), (90, .newarray .int, 2), (92, .putfield 40, 3), (95, .aload_n 0, 1), (96, .bipush 24, 2)]
set_option maxRecDepth 100000 in
theorem dk165_2 : ∀ e ∈ ck165_2, decode prog_14_method_3_code e.1 = .ok e.2 := by decide +kernel
def ck165_3 : List (Nat × Instr × Nat) := [(98, .newarray .int, 2), (100, .putfield 43, 3), (103, .aload_n 0, 1), (104, .iconst 4, 1), (105, .newarray .int, 2), (107, .putfield 46, 3), (110, .aload_n 0, 1), (111, .bipush 24, 2), (113, .newarray .int, 2), (115, .putfield 49, 3), (118, .aload_n 0, 1), (119, .iconst 5, 1), (120, .newarray .int, 2), (122, .putfield 52, 3), (125, .aload_n 0, 1), (126, .bipush 24, 2)]
set_option maxRecDepth 100000 in
theorem dk165_3 : ∀ e ∈ ck165_3, decode prog_14_method_3_code e.1 = .ok e.2 := by decide +kernel
def ck165_4 : List (Nat × Instr × Nat) := [(128, .newarray .int, 2), (130, .putfield 55, 3), (133, .aload_n 0, 1), (134, .bipush 24, 2), (136, .newarray .int, 2), (138, .putfield 58, 3), (141, .aload_n 0, 1), (142, .sipush 205, 3), (145, .newarray .int, 2), (147, .putfield 61, 3), (150, .aload_n 0, 1), (151, .iconst 5, 1), (152, .newarray .int, 2), (154, .putfield 64, 3), (157, .aload_n 0, 1), (158, .iconst (-1), 1)]
set_option maxRecDepth 100000 in
theorem dk165_4 : ∀ e ∈ ck165_4, decode prog_14_method_3_code e.1 = .ok e.2 := by decide +kernel
def ck165_5 : List (Nat × Instr × Nat) := [(159, .putfield 67, 3), (162, .aload_n 0, 1), (163, .sipush 8200, 3), (166, .newarray .int, 2), (168, .putfield 71, 3), (171, .aload_n 0, 1), (172, .bipush 24, 2), (174, .newarray .int, 2), (176, .putfield 74, 3), (179, .aload_n 0, 1), (180, .bipush 6, 2), (182, .newarray .int, 2), (184, .putfield 77, 3), (187, .aload_n 0, 1), (188, .bipush 6, 2), (190, .newarray .int, 2)]
set_option maxRecDepth 100000 in
theorem dk165_5 : ∀ e ∈ ck165_5, decode prog_14_method_3_code e.1 = .ok e.2 := by decide +kernel
def ck165_6 : List (Nat × Instr × Nat) := [(192, .putfield 80, 3), (195, .aload_n 0, 1), (196, .bipush 10, 2), (198, .newarray .int, 2), (200, .putfield 83, 3), (203, .aload_n 0, 1), (204, .bipush 10, 2), (206, .newarray .int, 2), (208, .putfield 86, 3), (211, .aload_n 0, 1), (212, .bipush 10, 2), (214, .newarray .boolean, 2), (216, .putfield 89, 3), (219, .aload_n 0, 1), (220, .sipush 210, 3), (223, .newarray .int, 2)]
set_option maxRecDepth 100000 in
theorem dk165_6 : ∀ e ∈ ck165_6, decode prog_14_method_3_code e.1 = .ok e.2 := by decide +kernel
def ck165_7 : List (Nat × Instr × Nat) := [(225, .putfield 93, 3), (228, .aload_n 0, 1), (229, .bipush 6, 2), (231, .newarray .int, 2), (233, .putfield 96, 3), (236, .aload_n 0, 1), (237, .sipush 205, 3), (240, .newarray .int, 2), (242, .putfield 99, 3), (245, .return_, 1)]
set_option maxRecDepth 100000 in
theorem dk165_7 : ∀ e ∈ ck165_7, decode prog_14_method_3_code e.1 = .ok e.2 := by decide +kernel
def ck165 : List (Nat × List (Nat × Instr × Nat)) := [(33, ck165_0), (67, ck165_1), (98, ck165_2), (128, ck165_3), (159, ck165_4), (192, ck165_5), (225, ck165_6), (246, ck165_7)]
theorem dk165 : cOk prog_14_method_3_code ck165 := cOk_c dk165_0 (cOk_c dk165_1 (cOk_c dk165_2 (cOk_c dk165_3 (cOk_c dk165_4 (cOk_c dk165_5 (cOk_c dk165_6 (cOk_c dk165_7 (cOk_n))))))))
def ck166_0 : List (Nat × Instr × Nat) := [(0, .aload_n 0, 1), (1, .getfield 102, 3), (4, .ireturn, 1)]
set_option maxRecDepth 100000 in
theorem dk166_0 : ∀ e ∈ ck166_0, decode prog_14_method_4_code e.1 = .ok e.2 := by decide +kernel
def ck166 : List (Nat × List (Nat × Instr × Nat)) := [(5, ck166_0)]
theorem dk166 : cOk prog_14_method_4_code ck166 := cOk_c dk166_0 (cOk_n)
def ck167_0 : List (Nat × Instr × Nat) := [(0, .iload 5, 2), (2, .iconst 4, 1), (3, .if_icmp .ge 7, 3), (6, .iload_n 0, 1), (7, .goto 38, 3), (10, .iload 5, 2), (12, .bipush 8, 2), (14, .if_icmp .ge 7, 3), (17, .iload_n 1, 1), (18, .goto 27, 3), (21, .iload 5, 2), (23, .bipush 12, 2), (25, .if_icmp .ge 7, 3), (28, .iload_n 2, 1), (29, .goto 16, 3), (32, .iload 5, 2)]
set_option maxRecDepth 100000 in
theorem dk167_0 : ∀ e ∈ ck167_0, decode prog_14_method_5_code e.1 = .ok e.2 := by decide +kernel
def ck167_1 : List (Nat × Instr × Nat) := [(34, .bipush 16, 2), (36, .if_icmp .ge 7, 3), (39, .iload_n 3, 1), (40, .goto 5, 3), (43, .iload 4, 2), (45, .istore 6, 2), (47, .iload 6, 2), (49, .bipush 24, 2), (51, .bipush 8, 2), (53, .iload 5, 2), (55, .iconst 4, 1), (56, .irem, 1), (57, .imul, 1), (58, .isub, 1), (59, .ishr, 1), (60, .sipush 255, 3)]
set_option maxRecDepth 100000 in
theorem dk167_1 : ∀ e ∈ ck167_1, decode prog_14_method_5_code e.1 = .ok e.2 := by decide +kernel
def ck167_2 : List (Nat × Instr × Nat) := [(63, .iand, 1), (64, .ireturn, 1)]
set_option maxRecDepth 100000 in
theorem dk167_2 : ∀ e ∈ ck167_2, decode prog_14_method_5_code e.1 = .ok e.2 := by decide +kernel
def ck167 : List (Nat × List (Nat × Instr × Nat)) := [(34, ck167_0), (63, ck167_1), (65, ck167_2)]
theorem dk167 : cOk prog_14_method_5_code ck167 := cOk_c dk167_0 (cOk_c dk167_1 (cOk_c dk167_2 (cOk_n)))
def ck168_0 : List (Nat × Instr × Nat) := [(0, .iconst 0, 1), (1, .istore 6, 2), (3, .iconst 0, 1), (4, .istore 7, 2), (6, .iload 7, 2), (8, .bipush 20, 2), (10, .if_icmp .ge 34, 3), (13, .iload 6, 2), (15, .iload_n 1, 1), (16, .iload_n 2, 1), (17, .iload_n 3, 1), (18, .iload 4, 2), (20, .iload 5, 2), (22, .iload 7, 2), (24, .invokestatic 105, 3), (27, .ifCond .eq 7, 3)]
set_option maxRecDepth 100000 in
theorem dk168_0 : ∀ e ∈ ck168_0, decode prog_14_method_6_code e.1 = .ok e.2 := by decide +kernel
def ck168_1 : List (Nat × Instr × Nat) := [(30, .iconst 1, 1), (31, .goto 4, 3), (34, .iconst 0, 1), (35, .iadd, 1), (36, .istore 6, 2), (38, .iinc 7 1, 3), (41, .goto (-35), 3), (44, .aload_n 0, 1), (45, .getfield 109, 3), (48, .iload 6, 2), (50, .iadd, 1), (51, .sipush 240, 3), (54, .if_icmp .le 5, 3), (57, .iconst (-1), 1), (58, .ireturn, 1), (59, .iconst 0, 1)]
set_option maxRecDepth 100000 in
theorem dk168_1 : ∀ e ∈ ck168_1, decode prog_14_method_6_code e.1 = .ok e.2 := by decide +kernel
def ck168_2 : List (Nat × Instr × Nat) := [(60, .istore 7, 2), (62, .iload 7, 2), (64, .bipush 20, 2), (66, .if_icmp .ge 49, 3), (69, .iload_n 1, 1), (70, .iload_n 2, 1), (71, .iload_n 3, 1), (72, .iload 4, 2), (74, .iload 5, 2), (76, .iload 7, 2), (78, .invokestatic 105, 3), (81, .istore 8, 2), (83, .iload 8, 2), (85, .ifCond .eq 24, 3), (88, .aload_n 0, 1), (89, .getfield 9, 3)]
set_option maxRecDepth 100000 in
theorem dk168_2 : ∀ e ∈ ck168_2, decode prog_14_method_6_code e.1 = .ok e.2 := by decide +kernel
def ck168_3 : List (Nat × Instr × Nat) := [(92, .aload_n 0, 1), (93, .getfield 109, 3), (96, .iload 8, 2), (98, .iastore, 1), (99, .aload_n 0, 1), (100, .dup, 1), (101, .getfield 109, 3), (104, .iconst 1, 1), (105, .iadd, 1), (106, .putfield 109, 3), (109, .iinc 7 1, 3), (112, .goto (-50), 3), (115, .aload_n 0, 1), (116, .getfield 109, 3), (119, .ireturn, 1)]
set_option maxRecDepth 100000 in
theorem dk168_3 : ∀ e ∈ ck168_3, decode prog_14_method_6_code e.1 = .ok e.2 := by decide +kernel
def ck168 : List (Nat × List (Nat × Instr × Nat)) := [(30, ck168_0), (60, ck168_1), (92, ck168_2), (120, ck168_3)]
theorem dk168 : cOk prog_14_method_6_code ck168 := cOk_c dk168_0 (cOk_c dk168_1 (cOk_c dk168_2 (cOk_c dk168_3 (cOk_n))))
def ck169_0 : List (Nat × Instr × Nat) := [(0, .iload_n 1, 1), (1, .ifCond .lt 11, 3), (4, .iload_n 1, 1), (5, .aload_n 0, 1), (6, .getfield 109, 3), (9, .if_icmp .le 5, 3), (12, .iconst 0, 1), (13, .ireturn, 1), (14, .aload_n 0, 1), (15, .iload_n 1, 1), (16, .putfield 109, 3), (19, .iconst 1, 1), (20, .ireturn, 1)]
set_option maxRecDepth 100000 in
theorem dk169_0 : ∀ e ∈ ck169_0, decode prog_14_method_7_code e.1 = .ok e.2 := by decide +kernel
def ck169 : List (Nat × List (Nat × Instr × Nat)) := [(21, ck169_0)]
theorem dk169 : cOk prog_14_method_7_code ck169 := cOk_c dk169_0 (cOk_n)
def ck170_0 : List (Nat × Instr × Nat) := [(0, .aload_n 0, 1), (1, .getfield 112, 3), (4, .aload_n 0, 1), (5, .getfield 109, 3), (8, .if_icmp .ge 15, 3), (11, .aload_n 0, 1), (12, .getfield 9, 3), (15, .aload_n 0, 1), (16, .getfield 112, 3), (19, .iaload, 1), (20, .goto 4, 3), (23, .iconst (-1), 1), (24, .ireturn, 1)]
set_option maxRecDepth 100000 in
theorem dk170_0 : ∀ e ∈ ck170_0, decode prog_14_method_8_code e.1 = .ok e.2 := by decide +kernel
def ck170 : List (Nat × List (Nat × Instr × Nat)) := [(25, ck170_0)]
theorem dk170 : cOk prog_14_method_8_code ck170 := cOk_c dk170_0 (cOk_n)
def ck171_0 : List (Nat × Instr × Nat) := [(0, .aload_n 0, 1), (1, .invokevirtual 115, 3), (4, .bipush 32, 2), (6, .if_icmp .ne 16, 3), (9, .aload_n 0, 1), (10, .dup, 1), (11, .getfield 112, 3), (14, .iconst 1, 1), (15, .iadd, 1), (16, .putfield 112, 3), (19, .goto (-19), 3), (22, .aload_n 0, 1), (23, .invokevirtual 115, 3), (26, .ireturn, 1)]
set_option maxRecDepth 100000 in
theorem dk171_0 : ∀ e ∈ ck171_0, decode prog_14_method_9_code e.1 = .ok e.2 := by decide +kernel
def ck171 : List (Nat × List (Nat × Instr × Nat)) := [(27, ck171_0)]
theorem dk171 : cOk prog_14_method_9_code ck171 := cOk_c dk171_0 (cOk_n)
def ck172_0 : List (Nat × Instr × Nat) := [(0, .aload_n 0, 1), (1, .aload_n 0, 1), (2, .getfield 119, 3), (5, .iconst (-1), 1), (6, .if_icmp .ne 10, 3), (9, .aload_n 0, 1), (10, .getfield 112, 3), (13, .goto 7, 3), (16, .aload_n 0, 1), (17, .getfield 119, 3), (20, .putfield 119, 3), (23, .return_, 1)]
set_option maxRecDepth 100000 in
theorem dk172_0 : ∀ e ∈ ck172_0, decode prog_14_method_10_code e.1 = .ok e.2 := by decide +kernel
def ck172 : List (Nat × List (Nat × Instr × Nat)) := [(24, ck172_0)]
theorem dk172 : cOk prog_14_method_10_code ck172 := cOk_c dk172_0 (cOk_n)
def ck173_0 : List (Nat × Instr × Nat) := [(0, .iload_n 0, 1), (1, .bipush 48, 2), (3, .if_icmp .lt 13, 3), (6, .iload_n 0, 1), (7, .bipush 57, 2), (9, .if_icmp .gt 7, 3), (12, .iconst 1, 1), (13, .goto 4, 3), (16, .iconst 0, 1), (17, .ireturn, 1)]
set_option maxRecDepth 100000 in
theorem dk173_0 : ∀ e ∈ ck173_0, decode prog_14_method_11_code e.1 = .ok e.2 := by decide +kernel
def ck173 : List (Nat × List (Nat × Instr × Nat)) := [(18, ck173_0)]
theorem dk173 : cOk prog_14_method_11_code ck173 := cOk_c dk173_0 (cOk_n)
def ck174_0 : List (Nat × Instr × Nat) := [(0, .aload_n 0, 1), (1, .getfield 13, 3), (4, .sipush 520, 3), (7, .aload_n 0, 1), (8, .getfield 122, 3), (11, .imul, 1), (12, .aload_n 0, 1), (13, .getfield 19, 3), (16, .aload_n 0, 1), (17, .getfield 122, 3), (20, .iaload, 1), (21, .iadd, 1), (22, .iload_n 1, 1), (23, .iastore, 1), (24, .aload_n 0, 1), (25, .getfield 16, 3)]
set_option maxRecDepth 100000 in
theorem dk174_0 : ∀ e ∈ ck174_0, decode prog_14_method_12_code e.1 = .ok e.2 := by decide +kernel
def ck174_1 : List (Nat × Instr × Nat) := [(28, .sipush 520, 3), (31, .aload_n 0, 1), (32, .getfield 122, 3), (35, .imul, 1), (36, .aload_n 0, 1), (37, .getfield 19, 3), (40, .aload_n 0, 1), (41, .getfield 122, 3), (44, .iaload, 1), (45, .iadd, 1), (46, .iload_n 2, 1), (47, .iastore, 1), (48, .aload_n 0, 1), (49, .getfield 19, 3), (52, .aload_n 0, 1), (53, .getfield 122, 3)]
set_option maxRecDepth 100000 in
theorem dk174_1 : ∀ e ∈ ck174_1, decode prog_14_method_12_code e.1 = .ok e.2 := by decide +kernel
def ck174_2 : List (Nat × Instr × Nat) := [(56, .dup2, 1), (57, .iaload, 1), (58, .iconst 1, 1), (59, .iadd, 1), (60, .iastore, 1), (61, .return_, 1)]
set_option maxRecDepth 100000 in
theorem dk174_2 : ∀ e ∈ ck174_2, decode prog_14_method_12_code e.1 = .ok e.2 := by decide +kernel
def ck174 : List (Nat × List (Nat × Instr × Nat)) := [(28, ck174_0), (56, ck174_1), (62, ck174_2)]
theorem dk174 : cOk prog_14_method_12_code ck174 := cOk_c dk174_0 (cOk_c dk174_1 (cOk_c dk174_2 (cOk_n)))
def ck175_0 : List (Nat × Instr × Nat) := [(0, .iload_n 0, 1), (1, .bipush 119, 2), (3, .if_icmp .ne 7, 3), (6, .iconst 0, 1), (7, .goto 54, 3), (10, .iload_n 0, 1), (11, .bipush 104, 2), (13, .if_icmp .ne 7, 3), (16, .iconst 1, 1), (17, .goto 44, 3), (20, .iload_n 0, 1), (21, .bipush 112, 2), (23, .if_icmp .ne 7, 3), (26, .iconst 2, 1), (27, .goto 34, 3), (30, .iload_n 0, 1)]
set_option maxRecDepth 100000 in
theorem dk175_0 : ∀ e ∈ ck175_0, decode prog_14_method_13_code e.1 = .ok e.2 := by decide +kernel
def ck175_1 : List (Nat × Instr × Nat) := [(31, .bipush 110, 2), (33, .if_icmp .ne 7, 3), (36, .iconst 3, 1), (37, .goto 24, 3), (40, .iload_n 0, 1), (41, .bipush 114, 2), (43, .if_icmp .ne 7, 3), (46, .iconst 4, 1), (47, .goto 14, 3), (50, .iload_n 0, 1), (51, .bipush 99, 2), (53, .if_icmp .ne 7, 3), (56, .iconst 5, 1), (57, .goto 4, 3), (60, .iconst (-1), 1), (61, .ireturn, 1)]
set_option maxRecDepth 100000 in
theorem dk175_1 : ∀ e ∈ ck175_1, decode prog_14_method_13_code e.1 = .ok e.2 := by decide +kernel
def ck175 : List (Nat × List (Nat × Instr × Nat)) := [(31, ck175_0), (62, ck175_1)]
theorem dk175 : cOk prog_14_method_13_code ck175 := cOk_c dk175_0 (cOk_c dk175_1 (cOk_n))
def ck176_0 : List (Nat × Instr × Nat) := [(0, .aload_n 0, 1), (1, .getfield 125, 3), (4, .bipush 6, 2), (6, .if_icmp .ne 7, 3), (9, .aload_n 0, 1), (10, .invokevirtual 128, 3), (13, .aload_n 0, 1), (14, .dup, 1), (15, .getfield 125, 3), (18, .iconst 1, 1), (19, .iadd, 1), (20, .putfield 125, 3), (23, .aload_n 0, 1), (24, .dup, 1), (25, .getfield 112, 3), (28, .iconst 1, 1)]
set_option maxRecDepth 100000 in
theorem dk176_0 : ∀ e ∈ ck176_0, decode prog_14_method_14_code e.1 = .ok e.2 := by decide +kernel
def ck176_1 : List (Nat × Instr × Nat) := [(29, .iadd, 1), (30, .putfield 112, 3), (33, .return_, 1)]
set_option maxRecDepth 100000 in
theorem dk176_1 : ∀ e ∈ ck176_1, decode prog_14_method_14_code e.1 = .ok e.2 := by decide +kernel
def ck176 : List (Nat × List (Nat × Instr × Nat)) := [(29, ck176_0), (34, ck176_1)]
theorem dk176 : cOk prog_14_method_14_code ck176 := cOk_c dk176_0 (cOk_c dk176_1 (cOk_n))
def ck177_0 : List (Nat × Instr × Nat) := [(0, .aload_n 0, 1), (1, .getfield 119, 3), (4, .iconst (-1), 1), (5, .if_icmp .ne 15, 3), (8, .aload_n 0, 1), (9, .invokevirtual 131, 3), (12, .iload_n 1, 1), (13, .if_icmp .eq 7, 3), (16, .aload_n 0, 1), (17, .invokevirtual 128, 3), (20, .aload_n 0, 1), (21, .dup, 1), (22, .getfield 112, 3), (25, .iconst 1, 1), (26, .iadd, 1), (27, .putfield 112, 3)]
set_option maxRecDepth 100000 in
theorem dk177_0 : ∀ e ∈ ck177_0, decode prog_14_method_15_code e.1 = .ok e.2 := by decide +kernel
def ck177_1 : List (Nat × Instr × Nat) := [(30, .aload_n 0, 1), (31, .dup, 1), (32, .getfield 125, 3), (35, .iconst 1, 1), (36, .isub, 1), (37, .putfield 125, 3), (40, .return_, 1)]
set_option maxRecDepth 100000 in
theorem dk177_1 : ∀ e ∈ ck177_1, decode prog_14_method_15_code e.1 = .ok e.2 := by decide +kernel
def ck177 : List (Nat × List (Nat × Instr × Nat)) := [(30, ck177_0), (41, ck177_1)]
theorem dk177 : cOk prog_14_method_15_code ck177 := cOk_c dk177_0 (cOk_c dk177_1 (cOk_n))
def ck178_0 : List (Nat × Instr × Nat) := [(0, .iconst 0, 1), (1, .istore_n 1, 1), (2, .iconst 0, 1), (3, .istore_n 2, 1), (4, .iload_n 2, 1), (5, .iconst 4, 1), (6, .if_icmp .ge 42, 3), (9, .aload_n 0, 1), (10, .invokevirtual 115, 3), (13, .invokestatic 134, 3), (16, .ifCond .eq 32, 3), (19, .bipush 10, 2), (21, .iload_n 1, 1), (22, .imul, 1), (23, .aload_n 0, 1), (24, .invokevirtual 115, 3)]
set_option maxRecDepth 100000 in
theorem dk178_0 : ∀ e ∈ ck178_0, decode prog_14_method_16_code e.1 = .ok e.2 := by decide +kernel
def ck178_1 : List (Nat × Instr × Nat) := [(27, .iadd, 1), (28, .bipush 48, 2), (30, .isub, 1), (31, .istore_n 1, 1), (32, .aload_n 0, 1), (33, .dup, 1), (34, .getfield 112, 3), (37, .iconst 1, 1), (38, .iadd, 1), (39, .putfield 112, 3), (42, .iinc 2 1, 3), (45, .goto (-41), 3), (48, .aload_n 0, 1), (49, .invokevirtual 115, 3), (52, .invokestatic 134, 3), (55, .ifCond .eq 7, 3)]
set_option maxRecDepth 100000 in
theorem dk178_1 : ∀ e ∈ ck178_1, decode prog_14_method_16_code e.1 = .ok e.2 := by decide +kernel
def ck178_2 : List (Nat × Instr × Nat) := [(58, .aload_n 0, 1), (59, .invokevirtual 128, 3), (62, .iload_n 1, 1), (63, .ireturn, 1)]
set_option maxRecDepth 100000 in
theorem dk178_2 : ∀ e ∈ ck178_2, decode prog_14_method_16_code e.1 = .ok e.2 := by decide +kernel
def ck178 : List (Nat × List (Nat × Instr × Nat)) := [(27, ck178_0), (58, ck178_1), (64, ck178_2)]
theorem dk178 : cOk prog_14_method_16_code ck178 := cOk_c dk178_0 (cOk_c dk178_1 (cOk_c dk178_2 (cOk_n)))
def ck179_0 : List (Nat × Instr × Nat) := [(0, .aload_n 0, 1), (1, .invokevirtual 131, 3), (4, .istore_n 1, 1), (5, .iload_n 1, 1), (6, .invokestatic 134, 3), (9, .ifCond .eq 15, 3), (12, .aload_n 0, 1), (13, .iconst 0, 1), (14, .aload_n 0, 1), (15, .invokevirtual 138, 3), (18, .invokevirtual 141, 3), (21, .goto 68, 3), (24, .iload_n 1, 1), (25, .invokestatic 145, 3), (28, .iconst (-1), 1), (29, .if_icmp .eq 25, 3)]
set_option maxRecDepth 100000 in
theorem dk179_0 : ∀ e ∈ ck179_0, decode prog_14_method_17_code e.1 = .ok e.2 := by decide +kernel
def ck179_1 : List (Nat × Instr × Nat) := [(32, .aload_n 0, 1), (33, .dup, 1), (34, .getfield 112, 3), (37, .iconst 1, 1), (38, .iadd, 1), (39, .putfield 112, 3), (42, .aload_n 0, 1), (43, .iconst 1, 1), (44, .iload_n 1, 1), (45, .invokestatic 145, 3), (48, .invokevirtual 141, 3), (51, .goto 38, 3), (54, .iload_n 1, 1), (55, .bipush 91, 2), (57, .if_icmp .ne 28, 3), (60, .aload_n 0, 1)]
set_option maxRecDepth 100000 in
theorem dk179_1 : ∀ e ∈ ck179_1, decode prog_14_method_17_code e.1 = .ok e.2 := by decide +kernel
def ck179_2 : List (Nat × Instr × Nat) := [(61, .invokevirtual 149, 3), (64, .aload_n 0, 1), (65, .getfield 119, 3), (68, .iconst (-1), 1), (69, .if_icmp .ne 20, 3), (72, .aload_n 0, 1), (73, .invokevirtual 152, 3), (76, .aload_n 0, 1), (77, .bipush 93, 2), (79, .invokevirtual 155, 3), (82, .goto 7, 3), (85, .aload_n 0, 1), (86, .invokevirtual 128, 3), (89, .return_, 1)]
set_option maxRecDepth 100000 in
theorem dk179_2 : ∀ e ∈ ck179_2, decode prog_14_method_17_code e.1 = .ok e.2 := by decide +kernel
def ck179 : List (Nat × List (Nat × Instr × Nat)) := [(32, ck179_0), (61, ck179_1), (90, ck179_2)]
theorem dk179 : cOk prog_14_method_17_code ck179 := cOk_c dk179_0 (cOk_c dk179_1 (cOk_c dk179_2 (cOk_n)))
def ck180_0 : List (Nat × Instr × Nat) := [(0, .aload_n 0, 1), (1, .invokevirtual 159, 3), (4, .aload_n 0, 1), (5, .getfield 119, 3), (8, .iconst (-1), 1), (9, .if_icmp .ne 10, 3), (12, .aload_n 0, 1), (13, .invokevirtual 131, 3), (16, .goto 4, 3), (19, .iconst (-1), 1), (20, .istore_n 1, 1), (21, .iload_n 1, 1), (22, .bipush 42, 2), (24, .if_icmp .eq 9, 3), (27, .iload_n 1, 1), (28, .bipush 47, 2)]
set_option maxRecDepth 100000 in
theorem dk180_0 : ∀ e ∈ ck180_0, decode prog_14_method_18_code e.1 = .ok e.2 := by decide +kernel
def ck180_1 : List (Nat × Instr × Nat) := [(30, .if_icmp .ne 53, 3), (33, .aload_n 0, 1), (34, .dup, 1), (35, .getfield 112, 3), (38, .iconst 1, 1), (39, .iadd, 1), (40, .putfield 112, 3), (43, .aload_n 0, 1), (44, .invokevirtual 159, 3), (47, .aload_n 0, 1), (48, .iload_n 1, 1), (49, .bipush 42, 2), (51, .if_icmp .ne 7, 3), (54, .iconst 4, 1), (55, .goto 4, 3), (58, .iconst 5, 1)]
set_option maxRecDepth 100000 in
theorem dk180_1 : ∀ e ∈ ck180_1, decode prog_14_method_18_code e.1 = .ok e.2 := by decide +kernel
def ck180_2 : List (Nat × Instr × Nat) := [(59, .iconst 0, 1), (60, .invokevirtual 141, 3), (63, .aload_n 0, 1), (64, .getfield 119, 3), (67, .iconst (-1), 1), (68, .if_icmp .ne 10, 3), (71, .aload_n 0, 1), (72, .invokevirtual 131, 3), (75, .goto 4, 3), (78, .iconst (-1), 1), (79, .istore_n 1, 1), (80, .goto (-59), 3), (83, .return_, 1)]
set_option maxRecDepth 100000 in
theorem dk180_2 : ∀ e ∈ ck180_2, decode prog_14_method_18_code e.1 = .ok e.2 := by decide +kernel
def ck180 : List (Nat × List (Nat × Instr × Nat)) := [(30, ck180_0), (59, ck180_1), (84, ck180_2)]
theorem dk180 : cOk prog_14_method_18_code ck180 := cOk_c dk180_0 (cOk_c dk180_1 (cOk_c dk180_2 (cOk_n)))
def ck181_0 : List (Nat × Instr × Nat) := [(0, .aload_n 0, 1), (1, .invokevirtual 162, 3), (4, .aload_n 0, 1), (5, .getfield 119, 3), (8, .iconst (-1), 1), (9, .if_icmp .ne 10, 3), (12, .aload_n 0, 1), (13, .invokevirtual 131, 3), (16, .goto 4, 3), (19, .iconst (-1), 1), (20, .istore_n 1, 1), (21, .iload_n 1, 1), (22, .bipush 43, 2), (24, .if_icmp .eq 9, 3), (27, .iload_n 1, 1), (28, .bipush 45, 2)]
set_option maxRecDepth 100000 in
theorem dk181_0 : ∀ e ∈ ck181_0, decode prog_14_method_19_code e.1 = .ok e.2 := by decide +kernel
def ck181_1 : List (Nat × Instr × Nat) := [(30, .if_icmp .ne 53, 3), (33, .aload_n 0, 1), (34, .dup, 1), (35, .getfield 112, 3), (38, .iconst 1, 1), (39, .iadd, 1), (40, .putfield 112, 3), (43, .aload_n 0, 1), (44, .invokevirtual 162, 3), (47, .aload_n 0, 1), (48, .iload_n 1, 1), (49, .bipush 43, 2), (51, .if_icmp .ne 7, 3), (54, .iconst 2, 1), (55, .goto 4, 3), (58, .iconst 3, 1)]
set_option maxRecDepth 100000 in
theorem dk181_1 : ∀ e ∈ ck181_1, decode prog_14_method_19_code e.1 = .ok e.2 := by decide +kernel
def ck181_2 : List (Nat × Instr × Nat) := [(59, .iconst 0, 1), (60, .invokevirtual 141, 3), (63, .aload_n 0, 1), (64, .getfield 119, 3), (67, .iconst (-1), 1), (68, .if_icmp .ne 10, 3), (71, .aload_n 0, 1), (72, .invokevirtual 131, 3), (75, .goto 4, 3), (78, .iconst (-1), 1), (79, .istore_n 1, 1), (80, .goto (-59), 3), (83, .return_, 1)]
set_option maxRecDepth 100000 in
theorem dk181_2 : ∀ e ∈ ck181_2, decode prog_14_method_19_code e.1 = .ok e.2 := by decide +kernel
def ck181 : List (Nat × List (Nat × Instr × Nat)) := [(30, ck181_0), (59, ck181_1), (84, ck181_2)]
theorem dk181 : cOk prog_14_method_19_code ck181 := cOk_c dk181_0 (cOk_c dk181_1 (cOk_c dk181_2 (cOk_n)))
def ck182_0 : List (Nat × Instr × Nat) := [(0, .iload_n 0, 1), (1, .bipush 61, 2), (3, .if_icmp .eq 15, 3), (6, .iload_n 0, 1), (7, .bipush 60, 2), (9, .if_icmp .eq 9, 3), (12, .iload_n 0, 1), (13, .bipush 62, 2), (15, .if_icmp .ne 7, 3), (18, .iconst 1, 1), (19, .goto 4, 3), (22, .iconst 0, 1), (23, .ireturn, 1)]
set_option maxRecDepth 100000 in
theorem dk182_0 : ∀ e ∈ ck182_0, decode prog_14_method_20_code e.1 = .ok e.2 := by decide +kernel
def ck182 : List (Nat × List (Nat × Instr × Nat)) := [(24, ck182_0)]
theorem dk182 : cOk prog_14_method_20_code ck182 := cOk_c dk182_0 (cOk_n)
def ck183_0 : List (Nat × Instr × Nat) := [(0, .aload_n 0, 1), (1, .getfield 119, 3), (4, .iconst (-1), 1), (5, .if_icmp .ne 10, 3), (8, .aload_n 0, 1), (9, .invokevirtual 131, 3), (12, .goto 4, 3), (15, .iconst (-1), 1), (16, .istore_n 1, 1), (17, .iload_n 1, 1), (18, .invokestatic 165, 3), (21, .ifCond .ne 8, 3), (24, .aload_n 0, 1), (25, .invokevirtual 128, 3), (28, .return_, 1), (29, .aload_n 0, 1)]
set_option maxRecDepth 100000 in
theorem dk183_0 : ∀ e ∈ ck183_0, decode prog_14_method_21_code e.1 = .ok e.2 := by decide +kernel
def ck183_1 : List (Nat × Instr × Nat) := [(30, .dup, 1), (31, .getfield 112, 3), (34, .iconst 1, 1), (35, .iadd, 1), (36, .putfield 112, 3), (39, .aload_n 0, 1), (40, .invokevirtual 152, 3), (43, .aload_n 0, 1), (44, .iload_n 1, 1), (45, .bipush 61, 2), (47, .if_icmp .ne 8, 3), (50, .bipush 6, 2), (52, .goto 16, 3), (55, .iload_n 1, 1), (56, .bipush 60, 2), (58, .if_icmp .ne 8, 3)]
set_option maxRecDepth 100000 in
theorem dk183_1 : ∀ e ∈ ck183_1, decode prog_14_method_21_code e.1 = .ok e.2 := by decide +kernel
def ck183_2 : List (Nat × Instr × Nat) := [(61, .bipush 7, 2), (63, .goto 5, 3), (66, .bipush 8, 2), (68, .iconst 0, 1), (69, .invokevirtual 141, 3), (72, .return_, 1)]
set_option maxRecDepth 100000 in
theorem dk183_2 : ∀ e ∈ ck183_2, decode prog_14_method_21_code e.1 = .ok e.2 := by decide +kernel
def ck183 : List (Nat × List (Nat × Instr × Nat)) := [(30, ck183_0), (61, ck183_1), (73, ck183_2)]
theorem dk183 : cOk prog_14_method_21_code ck183 := cOk_c dk183_0 (cOk_c dk183_1 (cOk_c dk183_2 (cOk_n)))
