/-! ===== the code of the methods, instruction by instruction (printed by program) ===== -/
def ck184_0 : List (Nat × Instr × Nat) := [(0, .aload_n 0, 1), (1, .invokevirtual 131, 3), (4, .istore_n 1, 1), (5, .iload_n 1, 1), (6, .bipush 33, 2), (8, .if_icmp .ne 39, 3), (11, .aload_n 0, 1), (12, .invokevirtual 149, 3), (15, .aload_n 0, 1), (16, .getfield 119, 3), (19, .iconst (-1), 1), (20, .if_icmp .ne 74, 3), (23, .aload_n 0, 1), (24, .invokevirtual 168, 3), (27, .aload_n 0, 1), (28, .bipush 9, 2)]
set_option maxRecDepth 100000 in
theorem dk184_0 : ∀ e ∈ ck184_0, decode prog_14_method_22_code e.1 = .ok e.2 := by decide +kernel
def ck184_1 : List (Nat × Instr × Nat) := [(30, .iconst 0, 1), (31, .invokevirtual 141, 3), (34, .aload_n 0, 1), (35, .dup, 1), (36, .getfield 125, 3), (39, .iconst 1, 1), (40, .isub, 1), (41, .putfield 125, 3), (44, .goto 50, 3), (47, .iload_n 1, 1), (48, .bipush 40, 2), (50, .if_icmp .ne 28, 3), (53, .aload_n 0, 1), (54, .invokevirtual 149, 3), (57, .aload_n 0, 1), (58, .getfield 119, 3)]
set_option maxRecDepth 100000 in
theorem dk184_1 : ∀ e ∈ ck184_1, decode prog_14_method_22_code e.1 = .ok e.2 := by decide +kernel
def ck184_2 : List (Nat × Instr × Nat) := [(61, .iconst (-1), 1), (62, .if_icmp .ne 32, 3), (65, .aload_n 0, 1), (66, .invokevirtual 171, 3), (69, .aload_n 0, 1), (70, .bipush 41, 2), (72, .invokevirtual 155, 3), (75, .goto 19, 3), (78, .aload_n 0, 1), (79, .invokevirtual 152, 3), (82, .aload_n 0, 1), (83, .getfield 119, 3), (86, .iconst (-1), 1), (87, .if_icmp .ne 7, 3), (90, .aload_n 0, 1), (91, .invokevirtual 174, 3)]
set_option maxRecDepth 100000 in
theorem dk184_2 : ∀ e ∈ ck184_2, decode prog_14_method_22_code e.1 = .ok e.2 := by decide +kernel
def ck184_3 : List (Nat × Instr × Nat) := [(94, .return_, 1)]
set_option maxRecDepth 100000 in
theorem dk184_3 : ∀ e ∈ ck184_3, decode prog_14_method_22_code e.1 = .ok e.2 := by decide +kernel
def ck184 : List (Nat × List (Nat × Instr × Nat)) := [(30, ck184_0), (61, ck184_1), (94, ck184_2), (95, ck184_3)]
theorem dk184 : cOk prog_14_method_22_code ck184 := cOk_c dk184_0 (cOk_c dk184_1 (cOk_c dk184_2 (cOk_c dk184_3 (cOk_n))))
def ck185_0 : List (Nat × Instr × Nat) := [(0, .aload_n 0, 1), (1, .getfield 119, 3), (4, .iconst (-1), 1), (5, .if_icmp .ne 36, 3), (8, .aload_n 0, 1), (9, .invokevirtual 131, 3), (12, .bipush 38, 2), (14, .if_icmp .ne 27, 3), (17, .aload_n 0, 1), (18, .dup, 1), (19, .getfield 112, 3), (22, .iconst 1, 1), (23, .iadd, 1), (24, .putfield 112, 3), (27, .aload_n 0, 1), (28, .invokevirtual 168, 3)]
set_option maxRecDepth 100000 in
theorem dk185_0 : ∀ e ∈ ck185_0, decode prog_14_method_23_code e.1 = .ok e.2 := by decide +kernel
def ck185_1 : List (Nat × Instr × Nat) := [(31, .aload_n 0, 1), (32, .bipush 10, 2), (34, .iconst 0, 1), (35, .invokevirtual 141, 3), (38, .goto (-38), 3), (41, .return_, 1)]
set_option maxRecDepth 100000 in
theorem dk185_1 : ∀ e ∈ ck185_1, decode prog_14_method_23_code e.1 = .ok e.2 := by decide +kernel
def ck185 : List (Nat × List (Nat × Instr × Nat)) := [(31, ck185_0), (42, ck185_1)]
theorem dk185 : cOk prog_14_method_23_code ck185 := cOk_c dk185_0 (cOk_c dk185_1 (cOk_n))
def ck186_0 : List (Nat × Instr × Nat) := [(0, .aload_n 0, 1), (1, .getfield 119, 3), (4, .iconst (-1), 1), (5, .if_icmp .ne 40, 3), (8, .aload_n 0, 1), (9, .invokevirtual 131, 3), (12, .bipush 124, 2), (14, .if_icmp .ne 31, 3), (17, .aload_n 0, 1), (18, .dup, 1), (19, .getfield 112, 3), (22, .iconst 1, 1), (23, .iadd, 1), (24, .putfield 112, 3), (27, .aload_n 0, 1), (28, .invokevirtual 168, 3)]
set_option maxRecDepth 100000 in
theorem dk186_0 : ∀ e ∈ ck186_0, decode prog_14_method_24_code e.1 = .ok e.2 := by decide +kernel
def ck186_1 : List (Nat × Instr × Nat) := [(31, .aload_n 0, 1), (32, .invokevirtual 177, 3), (35, .aload_n 0, 1), (36, .bipush 11, 2), (38, .iconst 0, 1), (39, .invokevirtual 141, 3), (42, .goto (-42), 3), (45, .return_, 1)]
set_option maxRecDepth 100000 in
theorem dk186_1 : ∀ e ∈ ck186_1, decode prog_14_method_24_code e.1 = .ok e.2 := by decide +kernel
def ck186 : List (Nat × List (Nat × Instr × Nat)) := [(31, ck186_0), (46, ck186_1)]
theorem dk186 : cOk prog_14_method_24_code ck186 := cOk_c dk186_0 (cOk_c dk186_1 (cOk_n))
def ck187_0 : List (Nat × Instr × Nat) := [(0, .aload_n 0, 1), (1, .invokevirtual 168, 3), (4, .aload_n 0, 1), (5, .invokevirtual 177, 3), (8, .aload_n 0, 1), (9, .invokevirtual 180, 3), (12, .return_, 1)]
set_option maxRecDepth 100000 in
theorem dk187_0 : ∀ e ∈ ck187_0, decode prog_14_method_25_code e.1 = .ok e.2 := by decide +kernel
def ck187 : List (Nat × List (Nat × Instr × Nat)) := [(13, ck187_0)]
theorem dk187 : cOk prog_14_method_25_code ck187 := cOk_c dk187_0 (cOk_n)
def ck188_0 : List (Nat × Instr × Nat) := [(0, .sipush 140, 3), (3, .aload_n 0, 1), (4, .getfield 122, 3), (7, .imul, 1), (8, .aload_n 0, 1), (9, .getfield 22, 3), (12, .aload_n 0, 1), (13, .getfield 122, 3), (16, .iaload, 1), (17, .iadd, 1), (18, .istore_n 1, 1), (19, .aload_n 0, 1), (20, .getfield 119, 3), (23, .iconst (-1), 1), (24, .if_icmp .ne 16, 3), (27, .aload_n 0, 1)]
set_option maxRecDepth 100000 in
theorem dk188_0 : ∀ e ∈ ck188_0, decode prog_14_method_26_code e.1 = .ok e.2 := by decide +kernel
def ck188_1 : List (Nat × Instr × Nat) := [(28, .invokevirtual 131, 3), (31, .bipush 121, 2), (33, .if_icmp .eq 7, 3), (36, .aload_n 0, 1), (37, .invokevirtual 128, 3), (40, .aload_n 0, 1), (41, .dup, 1), (42, .getfield 112, 3), (45, .iconst 1, 1), (46, .iadd, 1), (47, .putfield 112, 3), (50, .aload_n 0, 1), (51, .getfield 119, 3), (54, .iconst (-1), 1), (55, .if_icmp .ne 16, 3), (58, .aload_n 0, 1)]
set_option maxRecDepth 100000 in
theorem dk188_1 : ∀ e ∈ ck188_1, decode prog_14_method_26_code e.1 = .ok e.2 := by decide +kernel
def ck188_2 : List (Nat × Instr × Nat) := [(59, .invokevirtual 131, 3), (62, .bipush 58, 2), (64, .if_icmp .eq 7, 3), (67, .aload_n 0, 1), (68, .invokevirtual 128, 3), (71, .aload_n 0, 1), (72, .dup, 1), (73, .getfield 112, 3), (76, .iconst 1, 1), (77, .iadd, 1), (78, .putfield 112, 3), (81, .aload_n 0, 1), (82, .getfield 119, 3), (85, .iconst (-1), 1), (86, .if_icmp .eq 4, 3), (89, .return_, 1)]
set_option maxRecDepth 100000 in
theorem dk188_2 : ∀ e ∈ ck188_2, decode prog_14_method_26_code e.1 = .ok e.2 := by decide +kernel
def ck188_3 : List (Nat × Instr × Nat) := [(90, .aload_n 0, 1), (91, .getfield 25, 3), (94, .iload_n 1, 1), (95, .aload_n 0, 1), (96, .getfield 19, 3), (99, .aload_n 0, 1), (100, .getfield 122, 3), (103, .iaload, 1), (104, .iastore, 1), (105, .aload_n 0, 1), (106, .invokevirtual 131, 3), (109, .bipush 33, 2), (111, .if_icmp .eq 12, 3), (114, .aload_n 0, 1), (115, .invokevirtual 131, 3), (118, .bipush 40, 2)]
set_option maxRecDepth 100000 in
theorem dk188_3 : ∀ e ∈ ck188_3, decode prog_14_method_26_code e.1 = .ok e.2 := by decide +kernel
def ck188_4 : List (Nat × Instr × Nat) := [(120, .if_icmp .ne 7, 3), (123, .iconst 1, 1), (124, .goto 4, 3), (127, .iconst 0, 1), (128, .istore_n 2, 1), (129, .iload_n 2, 1), (130, .ifCond .eq 10, 3), (133, .aload_n 0, 1), (134, .invokevirtual 171, 3), (137, .goto 47, 3), (140, .aload_n 0, 1), (141, .invokevirtual 152, 3), (144, .aload_n 0, 1), (145, .getfield 119, 3), (148, .iconst (-1), 1), (149, .if_icmp .ne 17, 3)]
set_option maxRecDepth 100000 in
theorem dk188_4 : ∀ e ∈ ck188_4, decode prog_14_method_26_code e.1 = .ok e.2 := by decide +kernel
def ck188_5 : List (Nat × Instr × Nat) := [(152, .aload_n 0, 1), (153, .invokevirtual 131, 3), (156, .invokestatic 165, 3), (159, .ifCond .eq 7, 3), (162, .iconst 1, 1), (163, .goto 4, 3), (166, .iconst 0, 1), (167, .istore_n 2, 1), (168, .iload_n 2, 1), (169, .ifCond .eq 15, 3), (172, .aload_n 0, 1), (173, .invokevirtual 174, 3), (176, .aload_n 0, 1), (177, .invokevirtual 177, 3), (180, .aload_n 0, 1), (181, .invokevirtual 180, 3)]
set_option maxRecDepth 100000 in
theorem dk188_5 : ∀ e ∈ ck188_5, decode prog_14_method_26_code e.1 = .ok e.2 := by decide +kernel
def ck188_6 : List (Nat × Instr × Nat) := [(184, .aload_n 0, 1), (185, .getfield 28, 3), (188, .iload_n 1, 1), (189, .aload_n 0, 1), (190, .getfield 25, 3), (193, .iload_n 1, 1), (194, .iaload, 1), (195, .iastore, 1), (196, .iload_n 2, 1), (197, .ifCond .eq 54, 3), (200, .aload_n 0, 1), (201, .getfield 119, 3), (204, .iconst (-1), 1), (205, .if_icmp .ne 46, 3), (208, .aload_n 0, 1), (209, .invokevirtual 131, 3)]
set_option maxRecDepth 100000 in
theorem dk188_6 : ∀ e ∈ ck188_6, decode prog_14_method_26_code e.1 = .ok e.2 := by decide +kernel
def ck188_7 : List (Nat × Instr × Nat) := [(212, .bipush 63, 2), (214, .if_icmp .eq 8, 3), (217, .aload_n 0, 1), (218, .invokevirtual 128, 3), (221, .return_, 1), (222, .aload_n 0, 1), (223, .dup, 1), (224, .getfield 112, 3), (227, .iconst 1, 1), (228, .iadd, 1), (229, .putfield 112, 3), (232, .aload_n 0, 1), (233, .getfield 28, 3), (236, .iload_n 1, 1), (237, .aload_n 0, 1), (238, .getfield 19, 3)]
set_option maxRecDepth 100000 in
theorem dk188_7 : ∀ e ∈ ck188_7, decode prog_14_method_26_code e.1 = .ok e.2 := by decide +kernel
def ck188_8 : List (Nat × Instr × Nat) := [(241, .aload_n 0, 1), (242, .getfield 122, 3), (245, .iaload, 1), (246, .iastore, 1), (247, .aload_n 0, 1), (248, .invokevirtual 152, 3), (251, .aload_n 0, 1), (252, .getfield 31, 3), (255, .iload_n 1, 1), (256, .aload_n 0, 1), (257, .getfield 19, 3), (260, .aload_n 0, 1), (261, .getfield 122, 3), (264, .iaload, 1), (265, .iastore, 1), (266, .aload_n 0, 1)]
set_option maxRecDepth 100000 in
theorem dk188_8 : ∀ e ∈ ck188_8, decode prog_14_method_26_code e.1 = .ok e.2 := by decide +kernel
def ck188_9 : List (Nat × Instr × Nat) := [(267, .getfield 22, 3), (270, .aload_n 0, 1), (271, .getfield 122, 3), (274, .dup2, 1), (275, .iaload, 1), (276, .iconst 1, 1), (277, .iadd, 1), (278, .iastore, 1), (279, .return_, 1)]
set_option maxRecDepth 100000 in
theorem dk188_9 : ∀ e ∈ ck188_9, decode prog_14_method_26_code e.1 = .ok e.2 := by decide +kernel
def ck188 : List (Nat × List (Nat × Instr × Nat)) := [(28, ck188_0), (59, ck188_1), (90, ck188_2), (120, ck188_3), (152, ck188_4), (184, ck188_5), (212, ck188_6), (241, ck188_7), (267, ck188_8), (280, ck188_9)]
theorem dk188 : cOk prog_14_method_26_code ck188 := cOk_c dk188_0 (cOk_c dk188_1 (cOk_c dk188_2 (cOk_c dk188_3 (cOk_c dk188_4 (cOk_c dk188_5 (cOk_c dk188_6 (cOk_c dk188_7 (cOk_c dk188_8 (cOk_c dk188_9 (cOk_n))))))))))
def ck189_0 : List (Nat × Instr × Nat) := [(0, .aload_n 0, 1), (1, .iload_n 1, 1), (2, .putfield 122, 3), (5, .aload_n 0, 1), (6, .iconst 0, 1), (7, .putfield 112, 3), (10, .aload_n 0, 1), (11, .iconst (-1), 1), (12, .putfield 119, 3), (15, .aload_n 0, 1), (16, .iconst 0, 1), (17, .putfield 125, 3), (20, .aload_n 0, 1), (21, .getfield 19, 3), (24, .iload_n 1, 1), (25, .iconst 0, 1)]
set_option maxRecDepth 100000 in
theorem dk189_0 : ∀ e ∈ ck189_0, decode prog_14_method_27_code e.1 = .ok e.2 := by decide +kernel
def ck189_1 : List (Nat × Instr × Nat) := [(26, .iastore, 1), (27, .aload_n 0, 1), (28, .getfield 22, 3), (31, .iload_n 1, 1), (32, .iconst 0, 1), (33, .iastore, 1), (34, .return_, 1)]
set_option maxRecDepth 100000 in
theorem dk189_1 : ∀ e ∈ ck189_1, decode prog_14_method_27_code e.1 = .ok e.2 := by decide +kernel
def ck189 : List (Nat × List (Nat × Instr × Nat)) := [(26, ck189_0), (35, ck189_1)]
theorem dk189 : cOk prog_14_method_27_code ck189 := cOk_c dk189_0 (cOk_c dk189_1 (cOk_n))
def ck190_0 : List (Nat × Instr × Nat) := [(0, .aload_n 0, 1), (1, .getfield 119, 3), (4, .iconst (-1), 1), (5, .if_icmp .ne 15, 3), (8, .aload_n 0, 1), (9, .invokevirtual 131, 3), (12, .iconst (-1), 1), (13, .if_icmp .eq 7, 3), (16, .aload_n 0, 1), (17, .invokevirtual 128, 3), (20, .aload_n 0, 1), (21, .getfield 119, 3), (24, .ireturn, 1)]
set_option maxRecDepth 100000 in
theorem dk190_0 : ∀ e ∈ ck190_0, decode prog_14_method_28_code e.1 = .ok e.2 := by decide +kernel
def ck190 : List (Nat × List (Nat × Instr × Nat)) := [(25, ck190_0)]
theorem dk190 : cOk prog_14_method_28_code ck190 := cOk_c dk190_0 (cOk_n)
def ck191_0 : List (Nat × Instr × Nat) := [(0, .aload_n 0, 1), (1, .iload_n 1, 1), (2, .invokevirtual 183, 3), (5, .aload_n 0, 1), (6, .invokevirtual 186, 3), (9, .aload_n 0, 1), (10, .getfield 119, 3), (13, .iconst (-1), 1), (14, .if_icmp .ne 29, 3), (17, .aload_n 0, 1), (18, .invokevirtual 131, 3), (21, .bipush 59, 2), (23, .if_icmp .ne 20, 3), (26, .aload_n 0, 1), (27, .dup, 1), (28, .getfield 112, 3)]
set_option maxRecDepth 100000 in
theorem dk191_0 : ∀ e ∈ ck191_0, decode prog_14_method_29_code e.1 = .ok e.2 := by decide +kernel
def ck191_1 : List (Nat × Instr × Nat) := [(31, .iconst 1, 1), (32, .iadd, 1), (33, .putfield 112, 3), (36, .aload_n 0, 1), (37, .invokevirtual 186, 3), (40, .goto (-31), 3), (43, .aload_n 0, 1), (44, .invokevirtual 189, 3), (47, .ireturn, 1)]
set_option maxRecDepth 100000 in
theorem dk191_1 : ∀ e ∈ ck191_1, decode prog_14_method_29_code e.1 = .ok e.2 := by decide +kernel
def ck191 : List (Nat × List (Nat × Instr × Nat)) := [(31, ck191_0), (48, ck191_1)]
theorem dk191 : cOk prog_14_method_29_code ck191 := cOk_c dk191_0 (cOk_c dk191_1 (cOk_n))
def ck192_0 : List (Nat × Instr × Nat) := [(0, .ldc2_w 192, 3), (3, .ldc2_w 194, 3), (6, .lload_n 0, 1), (7, .invokestatic 196, 3), (10, .invokestatic 202, 3), (13, .l2i, 1), (14, .ireturn, 1)]
set_option maxRecDepth 100000 in
theorem dk192_0 : ∀ e ∈ ck192_0, decode prog_14_method_30_code e.1 = .ok e.2 := by decide +kernel
def ck192 : List (Nat × List (Nat × Instr × Nat)) := [(15, ck192_0)]
theorem dk192 : cOk prog_14_method_30_code ck192 := cOk_c dk192_0 (cOk_n)
def ck193_0 : List (Nat × Instr × Nat) := [(0, .iload_n 0, 1), (1, .tableswitch 143 2 10 #[51, 58, 65, 72, 89, 101, 113, 143, 125], 51), (52, .lload_n 1, 1), (53, .lload_n 3, 1), (54, .ladd, 1), (55, .invokestatic 205, 3), (58, .ireturn, 1), (59, .lload_n 1, 1), (60, .lload_n 3, 1), (61, .lsub, 1), (62, .invokestatic 205, 3), (65, .ireturn, 1), (66, .lload_n 1, 1), (67, .lload_n 3, 1), (68, .lmul, 1), (69, .invokestatic 205, 3)]
set_option maxRecDepth 100000 in
theorem dk193_0 : ∀ e ∈ ck193_0, decode prog_14_method_31_code e.1 = .ok e.2 := by decide +kernel
def ck193_1 : List (Nat × Instr × Nat) := [(72, .ireturn, 1), (73, .lload_n 3, 1), (74, .lconst 0, 1), (75, .lcmp, 1), (76, .ifCond .ne 7, 3), (79, .iconst 0, 1), (80, .goto 9, 3), (83, .lload_n 1, 1), (84, .lload_n 3, 1), (85, .ldiv, 1), (86, .invokestatic 205, 3), (89, .ireturn, 1), (90, .lload_n 1, 1), (91, .lload_n 3, 1), (92, .lcmp, 1), (93, .ifCond .ne 7, 3)]
set_option maxRecDepth 100000 in
theorem dk193_1 : ∀ e ∈ ck193_1, decode prog_14_method_31_code e.1 = .ok e.2 := by decide +kernel
def ck193_2 : List (Nat × Instr × Nat) := [(96, .iconst 1, 1), (97, .goto 4, 3), (100, .iconst 0, 1), (101, .ireturn, 1), (102, .lload_n 1, 1), (103, .lload_n 3, 1), (104, .lcmp, 1), (105, .ifCond .ge 7, 3), (108, .iconst 1, 1), (109, .goto 4, 3), (112, .iconst 0, 1), (113, .ireturn, 1), (114, .lload_n 1, 1), (115, .lload_n 3, 1), (116, .lcmp, 1), (117, .ifCond .le 7, 3)]
set_option maxRecDepth 100000 in
theorem dk193_2 : ∀ e ∈ ck193_2, decode prog_14_method_31_code e.1 = .ok e.2 := by decide +kernel
def ck193_3 : List (Nat × Instr × Nat) := [(120, .iconst 1, 1), (121, .goto 4, 3), (124, .iconst 0, 1), (125, .ireturn, 1), (126, .lload_n 1, 1), (127, .lconst 0, 1), (128, .lcmp, 1), (129, .ifCond .eq 13, 3), (132, .lload_n 3, 1), (133, .lconst 0, 1), (134, .lcmp, 1), (135, .ifCond .eq 7, 3), (138, .iconst 1, 1), (139, .goto 4, 3), (142, .iconst 0, 1), (143, .ireturn, 1)]
set_option maxRecDepth 100000 in
theorem dk193_3 : ∀ e ∈ ck193_3, decode prog_14_method_31_code e.1 = .ok e.2 := by decide +kernel
def ck193_4 : List (Nat × Instr × Nat) := [(144, .lload_n 1, 1), (145, .lconst 0, 1), (146, .lcmp, 1), (147, .ifCond .ne 9, 3), (150, .lload_n 3, 1), (151, .lconst 0, 1), (152, .lcmp, 1), (153, .ifCond .eq 7, 3), (156, .iconst 1, 1), (157, .goto 4, 3), (160, .iconst 0, 1), (161, .ireturn, 1)]
set_option maxRecDepth 100000 in
theorem dk193_4 : ∀ e ∈ ck193_4, decode prog_14_method_31_code e.1 = .ok e.2 := by decide +kernel
def ck193 : List (Nat × List (Nat × Instr × Nat)) := [(72, ck193_0), (96, ck193_1), (120, ck193_2), (144, ck193_3), (162, ck193_4)]
theorem dk193 : cOk prog_14_method_31_code ck193 := cOk_c dk193_0 (cOk_c dk193_1 (cOk_c dk193_2 (cOk_c dk193_3 (cOk_c dk193_4 (cOk_n)))))
def ck194_0 : List (Nat × Instr × Nat) := [(0, .iconst 0, 1), (1, .istore 4, 2), (3, .sipush 520, 3), (6, .iload_n 1, 1), (7, .imul, 1), (8, .iload_n 2, 1), (9, .iadd, 1), (10, .istore 5, 2), (12, .iload 5, 2), (14, .sipush 520, 3), (17, .iload_n 1, 1), (18, .imul, 1), (19, .iload_n 3, 1), (20, .iadd, 1), (21, .if_icmp .ge 150, 3), (24, .aload_n 0, 1)]
set_option maxRecDepth 100000 in
theorem dk194_0 : ∀ e ∈ ck194_0, decode prog_14_method_32_code e.1 = .ok e.2 := by decide +kernel
def ck194_1 : List (Nat × Instr × Nat) := [(25, .getfield 13, 3), (28, .iload 5, 2), (30, .iaload, 1), (31, .ifCond .eq 14, 3), (34, .aload_n 0, 1), (35, .getfield 13, 3), (38, .iload 5, 2), (40, .iaload, 1), (41, .iconst 1, 1), (42, .if_icmp .ne 48, 3), (45, .aload_n 0, 1), (46, .getfield 37, 3), (49, .iload 4, 2), (51, .aload_n 0, 1), (52, .getfield 13, 3), (55, .iload 5, 2)]
set_option maxRecDepth 100000 in
theorem dk194_1 : ∀ e ∈ ck194_1, decode prog_14_method_32_code e.1 = .ok e.2 := by decide +kernel
def ck194_2 : List (Nat × Instr × Nat) := [(57, .iaload, 1), (58, .ifCond .ne 13, 3), (61, .aload_n 0, 1), (62, .getfield 16, 3), (65, .iload 5, 2), (67, .iaload, 1), (68, .goto 15, 3), (71, .aload_n 0, 1), (72, .getfield 34, 3), (75, .aload_n 0, 1), (76, .getfield 16, 3), (79, .iload 5, 2), (81, .iaload, 1), (82, .iaload, 1), (83, .iastore, 1), (84, .iinc 4 1, 3)]
set_option maxRecDepth 100000 in
theorem dk194_2 : ∀ e ∈ ck194_2, decode prog_14_method_32_code e.1 = .ok e.2 := by decide +kernel
def ck194_3 : List (Nat × Instr × Nat) := [(87, .goto 78, 3), (90, .aload_n 0, 1), (91, .getfield 13, 3), (94, .iload 5, 2), (96, .iaload, 1), (97, .bipush 9, 2), (99, .if_icmp .ne 26, 3), (102, .aload_n 0, 1), (103, .getfield 37, 3), (106, .iload 4, 2), (108, .iconst 1, 1), (109, .isub, 1), (110, .iconst 1, 1), (111, .aload_n 0, 1), (112, .getfield 37, 3), (115, .iload 4, 2)]
set_option maxRecDepth 100000 in
theorem dk194_3 : ∀ e ∈ ck194_3, decode prog_14_method_32_code e.1 = .ok e.2 := by decide +kernel
def ck194_4 : List (Nat × Instr × Nat) := [(117, .iconst 1, 1), (118, .isub, 1), (119, .iaload, 1), (120, .isub, 1), (121, .iastore, 1), (122, .goto 43, 3), (125, .iinc 4 (-1), 3), (128, .aload_n 0, 1), (129, .getfield 37, 3), (132, .iload 4, 2), (134, .iconst 1, 1), (135, .isub, 1), (136, .aload_n 0, 1), (137, .getfield 13, 3), (140, .iload 5, 2), (142, .iaload, 1)]
set_option maxRecDepth 100000 in
theorem dk194_4 : ∀ e ∈ ck194_4, decode prog_14_method_32_code e.1 = .ok e.2 := by decide +kernel
def ck194_5 : List (Nat × Instr × Nat) := [(143, .aload_n 0, 1), (144, .getfield 37, 3), (147, .iload 4, 2), (149, .iconst 1, 1), (150, .isub, 1), (151, .iaload, 1), (152, .i2l, 1), (153, .aload_n 0, 1), (154, .getfield 37, 3), (157, .iload 4, 2), (159, .iaload, 1), (160, .i2l, 1), (161, .invokestatic 209, 3), (164, .iastore, 1), (165, .iinc 5 1, 3), (168, .goto (-156), 3)]
set_option maxRecDepth 100000 in
theorem dk194_5 : ∀ e ∈ ck194_5, decode prog_14_method_32_code e.1 = .ok e.2 := by decide +kernel
def ck194_6 : List (Nat × Instr × Nat) := [(171, .aload_n 0, 1), (172, .getfield 37, 3), (175, .iconst 0, 1), (176, .iaload, 1), (177, .ireturn, 1)]
set_option maxRecDepth 100000 in
theorem dk194_6 : ∀ e ∈ ck194_6, decode prog_14_method_32_code e.1 = .ok e.2 := by decide +kernel
def ck194 : List (Nat × List (Nat × Instr × Nat)) := [(25, ck194_0), (57, ck194_1), (87, ck194_2), (117, ck194_3), (143, ck194_4), (171, ck194_5), (178, ck194_6)]
theorem dk194 : cOk prog_14_method_32_code ck194 := cOk_c dk194_0 (cOk_c dk194_1 (cOk_c dk194_2 (cOk_c dk194_3 (cOk_c dk194_4 (cOk_c dk194_5 (cOk_c dk194_6 (cOk_n)))))))
def ck195_0 : List (Nat × Instr × Nat) := [(0, .sipush 140, 3), (3, .iload_n 1, 1), (4, .imul, 1), (5, .istore_n 2, 1), (6, .iload_n 2, 1), (7, .sipush 140, 3), (10, .iload_n 1, 1), (11, .imul, 1), (12, .aload_n 0, 1), (13, .getfield 22, 3), (16, .iload_n 1, 1), (17, .iaload, 1), (18, .iadd, 1), (19, .if_icmp .ge 62, 3), (22, .aload_n 0, 1), (23, .getfield 25, 3)]
set_option maxRecDepth 100000 in
theorem dk195_0 : ∀ e ∈ ck195_0, decode prog_14_method_33_code e.1 = .ok e.2 := by decide +kernel
def ck195_1 : List (Nat × Instr × Nat) := [(26, .iload_n 2, 1), (27, .iaload, 1), (28, .aload_n 0, 1), (29, .getfield 28, 3), (32, .iload_n 2, 1), (33, .iaload, 1), (34, .if_icmp .eq 23, 3), (37, .aload_n 0, 1), (38, .iload_n 1, 1), (39, .aload_n 0, 1), (40, .getfield 25, 3), (43, .iload_n 2, 1), (44, .iaload, 1), (45, .aload_n 0, 1), (46, .getfield 28, 3), (49, .iload_n 2, 1)]
set_option maxRecDepth 100000 in
theorem dk195_1 : ∀ e ∈ ck195_1, decode prog_14_method_33_code e.1 = .ok e.2 := by decide +kernel
def ck195_2 : List (Nat × Instr × Nat) := [(50, .iaload, 1), (51, .invokevirtual 213, 3), (54, .ifCond .eq 21, 3), (57, .aload_n 0, 1), (58, .iload_n 1, 1), (59, .aload_n 0, 1), (60, .getfield 28, 3), (63, .iload_n 2, 1), (64, .iaload, 1), (65, .aload_n 0, 1), (66, .getfield 31, 3), (69, .iload_n 2, 1), (70, .iaload, 1), (71, .invokevirtual 213, 3), (74, .ireturn, 1), (75, .iinc 2 1, 3)]
set_option maxRecDepth 100000 in
theorem dk195_2 : ∀ e ∈ ck195_2, decode prog_14_method_33_code e.1 = .ok e.2 := by decide +kernel
def ck195_3 : List (Nat × Instr × Nat) := [(78, .goto (-72), 3), (81, .iconst 0, 1), (82, .ireturn, 1)]
set_option maxRecDepth 100000 in
theorem dk195_3 : ∀ e ∈ ck195_3, decode prog_14_method_33_code e.1 = .ok e.2 := by decide +kernel
def ck195 : List (Nat × List (Nat × Instr × Nat)) := [(26, ck195_0), (50, ck195_1), (78, ck195_2), (83, ck195_3)]
theorem dk195 : cOk prog_14_method_33_code ck195 := cOk_c dk195_0 (cOk_c dk195_1 (cOk_c dk195_2 (cOk_c dk195_3 (cOk_n))))
def ck196_0 : List (Nat × Instr × Nat) := [(0, .aload_n 0, 1), (1, .invokevirtual 131, 3), (4, .invokestatic 134, 3), (7, .ifCond .ne 9, 3), (10, .aload_n 0, 1), (11, .invokevirtual 128, 3), (14, .iload_n 1, 1), (15, .ireturn, 1), (16, .aload_n 0, 1), (17, .invokevirtual 115, 3), (20, .bipush 48, 2), (22, .isub, 1), (23, .istore_n 3, 1), (24, .aload_n 0, 1), (25, .dup, 1), (26, .getfield 112, 3)]
set_option maxRecDepth 100000 in
theorem dk196_0 : ∀ e ∈ ck196_0, decode prog_14_method_34_code e.1 = .ok e.2 := by decide +kernel
def ck196_1 : List (Nat × Instr × Nat) := [(29, .iconst 1, 1), (30, .iadd, 1), (31, .putfield 112, 3), (34, .aload_n 0, 1), (35, .invokevirtual 115, 3), (38, .invokestatic 134, 3), (41, .ifCond .eq 26, 3), (44, .bipush 10, 2), (46, .iload_n 3, 1), (47, .imul, 1), (48, .aload_n 0, 1), (49, .invokevirtual 115, 3), (52, .iadd, 1), (53, .bipush 48, 2), (55, .isub, 1), (56, .istore_n 3, 1)]
set_option maxRecDepth 100000 in
theorem dk196_1 : ∀ e ∈ ck196_1, decode prog_14_method_34_code e.1 = .ok e.2 := by decide +kernel
def ck196_2 : List (Nat × Instr × Nat) := [(57, .aload_n 0, 1), (58, .dup, 1), (59, .getfield 112, 3), (62, .iconst 1, 1), (63, .iadd, 1), (64, .putfield 112, 3), (67, .aload_n 0, 1), (68, .invokevirtual 115, 3), (71, .invokestatic 134, 3), (74, .ifCond .eq 10, 3), (77, .aload_n 0, 1), (78, .invokevirtual 128, 3), (81, .goto 26, 3), (84, .iload_n 3, 1), (85, .iload_n 1, 1), (86, .iload_n 2, 1)]
set_option maxRecDepth 100000 in
theorem dk196_2 : ∀ e ∈ ck196_2, decode prog_14_method_34_code e.1 = .ok e.2 := by decide +kernel
def ck196_3 : List (Nat × Instr × Nat) := [(87, .invokestatic 217, 3), (90, .ifCond .ne 17, 3), (93, .aload_n 0, 1), (94, .dup, 1), (95, .getfield 112, 3), (98, .iconst 1, 1), (99, .isub, 1), (100, .putfield 112, 3), (103, .aload_n 0, 1), (104, .invokevirtual 128, 3), (107, .iload_n 3, 1), (108, .ireturn, 1)]
set_option maxRecDepth 100000 in
theorem dk196_3 : ∀ e ∈ ck196_3, decode prog_14_method_34_code e.1 = .ok e.2 := by decide +kernel
def ck196 : List (Nat × List (Nat × Instr × Nat)) := [(29, ck196_0), (57, ck196_1), (87, ck196_2), (109, ck196_3)]
theorem dk196 : cOk prog_14_method_34_code ck196 := cOk_c dk196_0 (cOk_c dk196_1 (cOk_c dk196_2 (cOk_c dk196_3 (cOk_n))))
def ck197_0 : List (Nat × Instr × Nat) := [(0, .iload_n 0, 1), (1, .lookupswitch 141 #[(98, 87), (105, 129), (115, 35)], 35), (36, .iload_n 1, 1), (37, .bipush 119, 2), (39, .if_icmp .ne 7, 3), (42, .iconst 0, 1), (43, .goto 44, 3), (46, .iload_n 1, 1), (47, .bipush 111, 2), (49, .if_icmp .ne 7, 3), (52, .iconst 1, 1), (53, .goto 34, 3), (56, .iload_n 1, 1), (57, .bipush 103, 2), (59, .if_icmp .ne 7, 3), (62, .iconst 2, 1)]
set_option maxRecDepth 100000 in
theorem dk197_0 : ∀ e ∈ ck197_0, decode prog_14_method_35_code e.1 = .ok e.2 := by decide +kernel
def ck197_1 : List (Nat × Instr × Nat) := [(63, .goto 24, 3), (66, .iload_n 1, 1), (67, .bipush 114, 2), (69, .if_icmp .ne 7, 3), (72, .iconst 3, 1), (73, .goto 14, 3), (76, .iload_n 1, 1), (77, .bipush 121, 2), (79, .if_icmp .ne 7, 3), (82, .iconst 4, 1), (83, .goto 4, 3), (86, .iconst (-1), 1), (87, .ireturn, 1), (88, .iload_n 1, 1), (89, .bipush 114, 2), (91, .if_icmp .ne 7, 3)]
set_option maxRecDepth 100000 in
theorem dk197_1 : ∀ e ∈ ck197_1, decode prog_14_method_35_code e.1 = .ok e.2 := by decide +kernel
def ck197_2 : List (Nat × Instr × Nat) := [(94, .iconst 0, 1), (95, .goto 34, 3), (98, .iload_n 1, 1), (99, .bipush 99, 2), (101, .if_icmp .ne 7, 3), (104, .iconst 1, 1), (105, .goto 24, 3), (108, .iload_n 1, 1), (109, .bipush 107, 2), (111, .if_icmp .ne 7, 3), (114, .iconst 2, 1), (115, .goto 14, 3), (118, .iload_n 1, 1), (119, .bipush 100, 2), (121, .if_icmp .ne 7, 3), (124, .iconst 3, 1)]
set_option maxRecDepth 100000 in
theorem dk197_2 : ∀ e ∈ ck197_2, decode prog_14_method_35_code e.1 = .ok e.2 := by decide +kernel
def ck197_3 : List (Nat × Instr × Nat) := [(125, .goto 4, 3), (128, .iconst (-1), 1), (129, .ireturn, 1), (130, .iload_n 1, 1), (131, .bipush 114, 2), (133, .if_icmp .ne 7, 3), (136, .iconst 0, 1), (137, .goto 4, 3), (140, .iconst (-1), 1), (141, .ireturn, 1), (142, .iload_n 1, 1), (143, .bipush 119, 2), (145, .if_icmp .ne 7, 3), (148, .iconst 0, 1), (149, .goto 34, 3), (152, .iload_n 1, 1)]
set_option maxRecDepth 100000 in
theorem dk197_3 : ∀ e ∈ ck197_3, decode prog_14_method_35_code e.1 = .ok e.2 := by decide +kernel
def ck197_4 : List (Nat × Instr × Nat) := [(153, .bipush 108, 2), (155, .if_icmp .ne 7, 3), (158, .iconst 1, 1), (159, .goto 24, 3), (162, .iload_n 1, 1), (163, .bipush 104, 2), (165, .if_icmp .ne 7, 3), (168, .iconst 2, 1), (169, .goto 14, 3), (172, .iload_n 1, 1), (173, .bipush 115, 2), (175, .if_icmp .ne 7, 3), (178, .iconst 3, 1), (179, .goto 4, 3), (182, .iconst (-1), 1), (183, .ireturn, 1)]
set_option maxRecDepth 100000 in
theorem dk197_4 : ∀ e ∈ ck197_4, decode prog_14_method_35_code e.1 = .ok e.2 := by decide +kernel
def ck197 : List (Nat × List (Nat × Instr × Nat)) := [(63, ck197_0), (94, ck197_1), (125, ck197_2), (153, ck197_3), (184, ck197_4)]
theorem dk197 : cOk prog_14_method_35_code ck197 := cOk_c dk197_0 (cOk_c dk197_1 (cOk_c dk197_2 (cOk_c dk197_3 (cOk_c dk197_4 (cOk_n)))))
def ck198_0 : List (Nat × Instr × Nat) := [(0, .iload_n 0, 1), (1, .lookupswitch 76 #[(98, 59), (105, 74), (115, 35)], 35), (36, .iload_n 1, 1), (37, .ifCond .ne 7, 3), (40, .iconst 3, 1), (41, .goto 18, 3), (44, .iload_n 1, 1), (45, .iconst 2, 1), (46, .if_icmp .eq 8, 3), (49, .iload_n 1, 1), (50, .iconst 3, 1), (51, .if_icmp .ne 7, 3), (54, .iconst 1, 1), (55, .goto 4, 3), (58, .iconst 0, 1), (59, .ireturn, 1)]
set_option maxRecDepth 100000 in
theorem dk198_0 : ∀ e ∈ ck198_0, decode prog_14_method_36_code e.1 = .ok e.2 := by decide +kernel
def ck198_1 : List (Nat × Instr × Nat) := [(60, .iload_n 1, 1), (61, .ifCond .eq 8, 3), (64, .iload_n 1, 1), (65, .iconst 2, 1), (66, .if_icmp .ne 7, 3), (69, .iconst 1, 1), (70, .goto 4, 3), (73, .iconst 0, 1), (74, .ireturn, 1), (75, .iconst 0, 1), (76, .ireturn, 1), (77, .iload_n 1, 1), (78, .ifCond .ne 7, 3), (81, .iconst 1, 1), (82, .goto 4, 3), (85, .iconst 0, 1)]
set_option maxRecDepth 100000 in
theorem dk198_1 : ∀ e ∈ ck198_1, decode prog_14_method_36_code e.1 = .ok e.2 := by decide +kernel
def ck198_2 : List (Nat × Instr × Nat) := [(86, .ireturn, 1)]
set_option maxRecDepth 100000 in
theorem dk198_2 : ∀ e ∈ ck198_2, decode prog_14_method_36_code e.1 = .ok e.2 := by decide +kernel
def ck198 : List (Nat × List (Nat × Instr × Nat)) := [(60, ck198_0), (86, ck198_1), (87, ck198_2)]
theorem dk198 : cOk prog_14_method_36_code ck198 := cOk_c dk198_0 (cOk_c dk198_1 (cOk_c dk198_2 (cOk_n)))
def ck199_0 : List (Nat × Instr × Nat) := [(0, .iload_n 0, 1), (1, .lookupswitch 102 #[(98, 68), (105, 99), (115, 35)], 35), (36, .iload_n 1, 1), (37, .iconst 1, 1), (38, .if_icmp .ne 8, 3), (41, .bipush 8, 2), (43, .goto 25, 3), (46, .iload_n 1, 1), (47, .iconst 2, 1), (48, .if_icmp .ne 8, 3), (51, .bipush 60, 2), (53, .goto 15, 3), (56, .iload_n 1, 1), (57, .iconst 3, 1), (58, .if_icmp .ne 8, 3), (61, .bipush 20, 2)]
set_option maxRecDepth 100000 in
theorem dk199_0 : ∀ e ∈ ck199_0, decode prog_14_method_37_code e.1 = .ok e.2 := by decide +kernel
def ck199_1 : List (Nat × Instr × Nat) := [(63, .goto 5, 3), (66, .bipush 9, 2), (68, .ireturn, 1), (69, .iload_n 1, 1), (70, .ifCond .ne 8, 3), (73, .bipush 20, 2), (75, .goto 24, 3), (78, .iload_n 1, 1), (79, .iconst 1, 1), (80, .if_icmp .ne 8, 3), (83, .bipush 8, 2), (85, .goto 14, 3), (88, .iload_n 1, 1), (89, .iconst 2, 1), (90, .if_icmp .ne 8, 3), (93, .bipush 9, 2)]
set_option maxRecDepth 100000 in
theorem dk199_1 : ∀ e ∈ ck199_1, decode prog_14_method_37_code e.1 = .ok e.2 := by decide +kernel
def ck199_2 : List (Nat × Instr × Nat) := [(95, .goto 4, 3), (98, .iconst 1, 1), (99, .ireturn, 1), (100, .bipush 19, 2), (102, .ireturn, 1), (103, .iload_n 1, 1), (104, .iconst 1, 1), (105, .if_icmp .ne 7, 3), (108, .iconst 2, 1), (109, .goto 5, 3), (112, .bipush 9, 2), (114, .ireturn, 1)]
set_option maxRecDepth 100000 in
theorem dk199_2 : ∀ e ∈ ck199_2, decode prog_14_method_37_code e.1 = .ok e.2 := by decide +kernel
def ck199 : List (Nat × List (Nat × Instr × Nat)) := [(63, ck199_0), (95, ck199_1), (115, ck199_2)]
theorem dk199 : cOk prog_14_method_37_code ck199 := cOk_c dk199_0 (cOk_c dk199_1 (cOk_c dk199_2 (cOk_n)))
def ck200_0 : List (Nat × Instr × Nat) := [(0, .iload_n 0, 1), (1, .lookupswitch 95 #[(98, 74), (105, 93), (115, 35)], 35), (36, .iload_n 1, 1), (37, .ifCond .ne 7, 3), (40, .iconst 5, 1), (41, .goto 33, 3), (44, .iload_n 1, 1), (45, .iconst 1, 1), (46, .if_icmp .ne 7, 3), (49, .iconst 2, 1), (50, .goto 24, 3), (53, .iload_n 1, 1), (54, .iconst 2, 1), (55, .if_icmp .ne 8, 3), (58, .bipush 6, 2), (60, .goto 14, 3)]
set_option maxRecDepth 100000 in
theorem dk200_0 : ∀ e ∈ ck200_0, decode prog_14_method_38_code e.1 = .ok e.2 := by decide +kernel
def ck200_1 : List (Nat × Instr × Nat) := [(63, .iload_n 1, 1), (64, .iconst 3, 1), (65, .if_icmp .ne 8, 3), (68, .bipush 10, 2), (70, .goto 4, 3), (73, .iconst 3, 1), (74, .ireturn, 1), (75, .iload_n 1, 1), (76, .ifCond .ne 7, 3), (79, .iconst 1, 1), (80, .goto 13, 3), (83, .iload_n 1, 1), (84, .iconst 2, 1), (85, .if_icmp .ne 7, 3), (88, .iconst 3, 1), (89, .goto 4, 3)]
set_option maxRecDepth 100000 in
theorem dk200_1 : ∀ e ∈ ck200_1, decode prog_14_method_38_code e.1 = .ok e.2 := by decide +kernel
def ck200_2 : List (Nat × Instr × Nat) := [(92, .iconst 0, 1), (93, .ireturn, 1), (94, .iconst 0, 1), (95, .ireturn, 1), (96, .iload_n 1, 1), (97, .iconst 1, 1), (98, .if_icmp .ne 7, 3), (101, .iconst 1, 1), (102, .goto 13, 3), (105, .iload_n 1, 1), (106, .iconst 3, 1), (107, .if_icmp .ne 7, 3), (110, .iconst 2, 1), (111, .goto 4, 3), (114, .iconst 3, 1), (115, .ireturn, 1)]
set_option maxRecDepth 100000 in
theorem dk200_2 : ∀ e ∈ ck200_2, decode prog_14_method_38_code e.1 = .ok e.2 := by decide +kernel
def ck200 : List (Nat × List (Nat × Instr × Nat)) := [(63, ck200_0), (92, ck200_1), (116, ck200_2)]
theorem dk200 : cOk prog_14_method_38_code ck200 := cOk_c dk200_0 (cOk_c dk200_1 (cOk_c dk200_2 (cOk_n)))
