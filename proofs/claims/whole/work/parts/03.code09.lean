/-! ===== the code of the methods, instruction by instruction (printed by program) ===== -/
def ck201_0 : List (Nat × Instr × Nat) := [(0, .iconst 0, 1), (1, .istore 5, 2), (3, .iload 5, 2), (5, .iload 4, 2), (7, .if_icmp .ge 21, 3), (10, .aload_n 2, 1), (11, .iload_n 3, 1), (12, .iload 5, 2), (14, .iadd, 1), (15, .iload_n 1, 1), (16, .iload 5, 2), (18, .invokestatic 221, 3), (21, .iastore, 1), (22, .iinc 5 1, 3), (25, .goto (-22), 3), (28, .iconst 0, 1)]
set_option maxRecDepth 100000 in
theorem dk201_0 : ∀ e ∈ ck201_0, decode prog_14_method_39_code e.1 = .ok e.2 := by decide +kernel
def ck201_1 : List (Nat × Instr × Nat) := [(29, .istore 5, 2), (31, .iload_n 1, 1), (32, .aload_n 0, 1), (33, .invokevirtual 131, 3), (36, .invokestatic 225, 3), (39, .istore 6, 2), (41, .aload_n 0, 1), (42, .getfield 119, 3), (45, .iconst (-1), 1), (46, .if_icmp .ne 85, 3), (49, .iload 6, 2), (51, .iconst (-1), 1), (52, .if_icmp .eq 79, 3), (55, .iload 5, 2), (57, .iload 6, 2), (59, .invokestatic 228, 3)]
set_option maxRecDepth 100000 in
theorem dk201_1 : ∀ e ∈ ck201_1, decode prog_14_method_39_code e.1 = .ok e.2 := by decide +kernel
def ck201_2 : List (Nat × Instr × Nat) := [(62, .ifCond .ne 69, 3), (65, .iload 5, 2), (67, .iconst 1, 1), (68, .iload 6, 2), (70, .ishl, 1), (71, .ior, 1), (72, .istore 5, 2), (74, .aload_n 0, 1), (75, .dup, 1), (76, .getfield 112, 3), (79, .iconst 1, 1), (80, .iadd, 1), (81, .putfield 112, 3), (84, .aload_n 2, 1), (85, .iload_n 3, 1), (86, .iload 6, 2)]
set_option maxRecDepth 100000 in
theorem dk201_2 : ∀ e ∈ ck201_2, decode prog_14_method_39_code e.1 = .ok e.2 := by decide +kernel
def ck201_3 : List (Nat × Instr × Nat) := [(88, .iadd, 1), (89, .aload_n 0, 1), (90, .iload_n 1, 1), (91, .iload 6, 2), (93, .invokestatic 232, 3), (96, .iload_n 1, 1), (97, .iload 6, 2), (99, .invokestatic 235, 3), (102, .invokevirtual 238, 3), (105, .iastore, 1), (106, .aload_n 0, 1), (107, .getfield 119, 3), (110, .iconst (-1), 1), (111, .if_icmp .ne 14, 3), (114, .iload_n 1, 1), (115, .aload_n 0, 1)]
set_option maxRecDepth 100000 in
theorem dk201_3 : ∀ e ∈ ck201_3, decode prog_14_method_39_code e.1 = .ok e.2 := by decide +kernel
def ck201_4 : List (Nat × Instr × Nat) := [(116, .invokevirtual 131, 3), (119, .invokestatic 225, 3), (122, .goto 4, 3), (125, .iconst (-1), 1), (126, .istore 6, 2), (128, .goto (-87), 3), (131, .return_, 1)]
set_option maxRecDepth 100000 in
theorem dk201_4 : ∀ e ∈ ck201_4, decode prog_14_method_39_code e.1 = .ok e.2 := by decide +kernel
def ck201 : List (Nat × List (Nat × Instr × Nat)) := [(29, ck201_0), (62, ck201_1), (88, ck201_2), (116, ck201_3), (132, ck201_4)]
theorem dk201 : cOk prog_14_method_39_code ck201 := cOk_c dk201_0 (cOk_c dk201_1 (cOk_c dk201_2 (cOk_c dk201_3 (cOk_c dk201_4 (cOk_n)))))
def ck202_0 : List (Nat × Instr × Nat) := [(0, .aload_n 0, 1), (1, .dup, 1), (2, .getfield 112, 3), (5, .iconst 1, 1), (6, .iadd, 1), (7, .putfield 112, 3), (10, .iload_n 1, 1), (11, .lookupswitch 103 #[(98, 47), (105, 76), (115, 33)], 33), (44, .aload_n 0, 1), (45, .iload_n 1, 1), (46, .aload_n 0, 1), (47, .getfield 40, 3), (50, .iconst 0, 1), (51, .iconst 5, 1), (52, .invokevirtual 241, 3), (55, .goto 85, 3)]
set_option maxRecDepth 100000 in
theorem dk202_0 : ∀ e ∈ ck202_0, decode prog_14_method_40_code e.1 = .ok e.2 := by decide +kernel
def ck202_1 : List (Nat × Instr × Nat) := [(58, .aload_n 0, 1), (59, .iload_n 1, 1), (60, .aload_n 0, 1), (61, .getfield 43, 3), (64, .iconst 4, 1), (65, .aload_n 0, 1), (66, .getfield 245, 3), (69, .imul, 1), (70, .iconst 4, 1), (71, .invokevirtual 241, 3), (74, .aload_n 0, 1), (75, .dup, 1), (76, .getfield 245, 3), (79, .iconst 1, 1), (80, .iadd, 1), (81, .putfield 245, 3)]
set_option maxRecDepth 100000 in
theorem dk202_1 : ∀ e ∈ ck202_1, decode prog_14_method_40_code e.1 = .ok e.2 := by decide +kernel
def ck202_2 : List (Nat × Instr × Nat) := [(84, .goto 56, 3), (87, .aload_n 0, 1), (88, .iload_n 1, 1), (89, .aload_n 0, 1), (90, .getfield 46, 3), (93, .aload_n 0, 1), (94, .getfield 248, 3), (97, .iconst 1, 1), (98, .invokevirtual 241, 3), (101, .aload_n 0, 1), (102, .dup, 1), (103, .getfield 248, 3), (106, .iconst 1, 1), (107, .iadd, 1), (108, .putfield 248, 3), (111, .goto 29, 3)]
set_option maxRecDepth 100000 in
theorem dk202_2 : ∀ e ∈ ck202_2, decode prog_14_method_40_code e.1 = .ok e.2 := by decide +kernel
def ck202_3 : List (Nat × Instr × Nat) := [(114, .aload_n 0, 1), (115, .iload_n 1, 1), (116, .aload_n 0, 1), (117, .getfield 49, 3), (120, .iconst 4, 1), (121, .aload_n 0, 1), (122, .getfield 251, 3), (125, .imul, 1), (126, .iconst 4, 1), (127, .invokevirtual 241, 3), (130, .aload_n 0, 1), (131, .dup, 1), (132, .getfield 251, 3), (135, .iconst 1, 1), (136, .iadd, 1), (137, .putfield 251, 3)]
set_option maxRecDepth 100000 in
theorem dk202_3 : ∀ e ∈ ck202_3, decode prog_14_method_40_code e.1 = .ok e.2 := by decide +kernel
def ck202_4 : List (Nat × Instr × Nat) := [(140, .return_, 1)]
set_option maxRecDepth 100000 in
theorem dk202_4 : ∀ e ∈ ck202_4, decode prog_14_method_40_code e.1 = .ok e.2 := by decide +kernel
def ck202 : List (Nat × List (Nat × Instr × Nat)) := [(58, ck202_0), (84, ck202_1), (114, ck202_2), (140, ck202_3), (141, ck202_4)]
theorem dk202 : cOk prog_14_method_40_code ck202 := cOk_c dk202_0 (cOk_c dk202_1 (cOk_c dk202_2 (cOk_c dk202_3 (cOk_c dk202_4 (cOk_n)))))
def ck203_0 : List (Nat × Instr × Nat) := [(0, .aload_n 0, 1), (1, .getfield 251, 3), (4, .ifCond .le 22, 3), (7, .aload_n 0, 1), (8, .getfield 40, 3), (11, .iconst 1, 1), (12, .iaload, 1), (13, .aload_n 0, 1), (14, .getfield 40, 3), (17, .iconst 0, 1), (18, .iaload, 1), (19, .if_icmp .ge 7, 3), (22, .iconst 1, 1), (23, .goto 4, 3), (26, .iconst 0, 1), (27, .istore_n 1, 1)]
set_option maxRecDepth 100000 in
theorem dk203_0 : ∀ e ∈ ck203_0, decode prog_14_method_41_code e.1 = .ok e.2 := by decide +kernel
def ck203_1 : List (Nat × Instr × Nat) := [(28, .iconst 0, 1), (29, .istore_n 2, 1), (30, .iload_n 2, 1), (31, .aload_n 0, 1), (32, .getfield 245, 3), (35, .if_icmp .ge 107, 3), (38, .iload_n 1, 1), (39, .ifCond .eq 26, 3), (42, .aload_n 0, 1), (43, .getfield 43, 3), (46, .iconst 4, 1), (47, .iload_n 2, 1), (48, .imul, 1), (49, .iconst 1, 1), (50, .iadd, 1), (51, .iaload, 1)]
set_option maxRecDepth 100000 in
theorem dk203_1 : ∀ e ∈ ck203_1, decode prog_14_method_41_code e.1 = .ok e.2 := by decide +kernel
def ck203_2 : List (Nat × Instr × Nat) := [(52, .aload_n 0, 1), (53, .getfield 40, 3), (56, .iconst 0, 1), (57, .iaload, 1), (58, .if_icmp .ge 7, 3), (61, .iconst 1, 1), (62, .goto 4, 3), (65, .iconst 0, 1), (66, .istore_n 1, 1), (67, .iconst 0, 1), (68, .istore_n 3, 1), (69, .iload_n 3, 1), (70, .iload_n 2, 1), (71, .if_icmp .ge 65, 3), (74, .iload_n 1, 1), (75, .ifCond .eq 53, 3)]
set_option maxRecDepth 100000 in
theorem dk203_2 : ∀ e ∈ ck203_2, decode prog_14_method_41_code e.1 = .ok e.2 := by decide +kernel
def ck203_3 : List (Nat × Instr × Nat) := [(78, .aload_n 0, 1), (79, .getfield 43, 3), (82, .iconst 4, 1), (83, .iload_n 3, 1), (84, .imul, 1), (85, .iconst 0, 1), (86, .iadd, 1), (87, .iaload, 1), (88, .aload_n 0, 1), (89, .getfield 43, 3), (92, .iconst 4, 1), (93, .iload_n 2, 1), (94, .imul, 1), (95, .iconst 0, 1), (96, .iadd, 1), (97, .iaload, 1)]
set_option maxRecDepth 100000 in
theorem dk203_3 : ∀ e ∈ ck203_3, decode prog_14_method_41_code e.1 = .ok e.2 := by decide +kernel
def ck203_4 : List (Nat × Instr × Nat) := [(98, .if_icmp .ne 26, 3), (101, .aload_n 0, 1), (102, .getfield 43, 3), (105, .iconst 4, 1), (106, .iload_n 3, 1), (107, .imul, 1), (108, .iconst 1, 1), (109, .iadd, 1), (110, .iaload, 1), (111, .aload_n 0, 1), (112, .getfield 43, 3), (115, .iconst 4, 1), (116, .iload_n 2, 1), (117, .imul, 1), (118, .iconst 1, 1), (119, .iadd, 1)]
set_option maxRecDepth 100000 in
theorem dk203_4 : ∀ e ∈ ck203_4, decode prog_14_method_41_code e.1 = .ok e.2 := by decide +kernel
def ck203_5 : List (Nat × Instr × Nat) := [(120, .iaload, 1), (121, .if_icmp .eq 7, 3), (124, .iconst 1, 1), (125, .goto 4, 3), (128, .iconst 0, 1), (129, .istore_n 1, 1), (130, .iinc 3 1, 3), (133, .goto (-64), 3), (136, .iinc 2 1, 3), (139, .goto (-109), 3), (142, .iconst 0, 1), (143, .istore_n 2, 1), (144, .iload_n 2, 1), (145, .aload_n 0, 1), (146, .getfield 248, 3), (149, .if_icmp .ge 47, 3)]
set_option maxRecDepth 100000 in
theorem dk203_5 : ∀ e ∈ ck203_5, decode prog_14_method_41_code e.1 = .ok e.2 := by decide +kernel
def ck203_6 : List (Nat × Instr × Nat) := [(152, .iconst 0, 1), (153, .istore_n 3, 1), (154, .iload_n 3, 1), (155, .iload_n 2, 1), (156, .if_icmp .ge 34, 3), (159, .iload_n 1, 1), (160, .ifCond .eq 22, 3), (163, .aload_n 0, 1), (164, .getfield 46, 3), (167, .iload_n 3, 1), (168, .iaload, 1), (169, .aload_n 0, 1), (170, .getfield 46, 3), (173, .iload_n 2, 1), (174, .iaload, 1), (175, .if_icmp .eq 7, 3)]
set_option maxRecDepth 100000 in
theorem dk203_6 : ∀ e ∈ ck203_6, decode prog_14_method_41_code e.1 = .ok e.2 := by decide +kernel
def ck203_7 : List (Nat × Instr × Nat) := [(178, .iconst 1, 1), (179, .goto 4, 3), (182, .iconst 0, 1), (183, .istore_n 1, 1), (184, .iinc 3 1, 3), (187, .goto (-33), 3), (190, .iinc 2 1, 3), (193, .goto (-49), 3), (196, .iload_n 1, 1), (197, .ireturn, 1)]
set_option maxRecDepth 100000 in
theorem dk203_7 : ∀ e ∈ ck203_7, decode prog_14_method_41_code e.1 = .ok e.2 := by decide +kernel
def ck203 : List (Nat × List (Nat × Instr × Nat)) := [(28, ck203_0), (52, ck203_1), (78, ck203_2), (98, ck203_3), (120, ck203_4), (152, ck203_5), (178, ck203_6), (198, ck203_7)]
theorem dk203 : cOk prog_14_method_41_code ck203 := cOk_c dk203_0 (cOk_c dk203_1 (cOk_c dk203_2 (cOk_c dk203_3 (cOk_c dk203_4 (cOk_c dk203_5 (cOk_c dk203_6 (cOk_c dk203_7 (cOk_n))))))))
def ck204_0 : List (Nat × Instr × Nat) := [(0, .aload_n 0, 1), (1, .iconst 0, 1), (2, .putfield 112, 3), (5, .aload_n 0, 1), (6, .iconst (-1), 1), (7, .putfield 119, 3), (10, .aload_n 0, 1), (11, .iconst 0, 1), (12, .putfield 245, 3), (15, .aload_n 0, 1), (16, .iconst 0, 1), (17, .putfield 248, 3), (20, .aload_n 0, 1), (21, .iconst 0, 1), (22, .putfield 251, 3), (25, .iconst 0, 1)]
set_option maxRecDepth 100000 in
theorem dk204_0 : ∀ e ∈ ck204_0, decode prog_14_method_42_code e.1 = .ok e.2 := by decide +kernel
def ck204_1 : List (Nat × Instr × Nat) := [(26, .istore_n 1, 1), (27, .iconst 0, 1), (28, .istore_n 2, 1), (29, .iload_n 2, 1), (30, .iconst 5, 1), (31, .if_icmp .ge 21, 3), (34, .aload_n 0, 1), (35, .getfield 40, 3), (38, .iload_n 2, 1), (39, .bipush 115, 2), (41, .iload_n 2, 1), (42, .invokestatic 221, 3), (45, .iastore, 1), (46, .iinc 2 1, 3), (49, .goto (-20), 3), (52, .iconst 1, 1)]
set_option maxRecDepth 100000 in
theorem dk204_1 : ∀ e ∈ ck204_1, decode prog_14_method_42_code e.1 = .ok e.2 := by decide +kernel
def ck204_2 : List (Nat × Instr × Nat) := [(53, .istore_n 2, 1), (54, .iload_n 2, 1), (55, .ifCond .eq 154, 3), (58, .aload_n 0, 1), (59, .getfield 119, 3), (62, .iconst (-1), 1), (63, .if_icmp .ne 146, 3), (66, .aload_n 0, 1), (67, .invokevirtual 131, 3), (70, .istore_n 3, 1), (71, .iload_n 3, 1), (72, .bipush 115, 2), (74, .if_icmp .ne 7, 3), (77, .iload_n 1, 1), (78, .ifCond .eq 47, 3), (81, .iload_n 3, 1)]
set_option maxRecDepth 100000 in
theorem dk204_2 : ∀ e ∈ ck204_2, decode prog_14_method_42_code e.1 = .ok e.2 := by decide +kernel
def ck204_3 : List (Nat × Instr × Nat) := [(82, .bipush 98, 2), (84, .if_icmp .ne 12, 3), (87, .aload_n 0, 1), (88, .getfield 245, 3), (91, .bipush 6, 2), (93, .if_icmp .lt 32, 3), (96, .iload_n 3, 1), (97, .bipush 105, 2), (99, .if_icmp .ne 11, 3), (102, .aload_n 0, 1), (103, .getfield 248, 3), (106, .iconst 4, 1), (107, .if_icmp .lt 18, 3), (110, .iload_n 3, 1), (111, .bipush 109, 2), (113, .if_icmp .ne 16, 3)]
set_option maxRecDepth 100000 in
theorem dk204_3 : ∀ e ∈ ck204_3, decode prog_14_method_42_code e.1 = .ok e.2 := by decide +kernel
def ck204_4 : List (Nat × Instr × Nat) := [(116, .aload_n 0, 1), (117, .getfield 251, 3), (120, .bipush 6, 2), (122, .if_icmp .ge 7, 3), (125, .iconst 1, 1), (126, .goto 4, 3), (129, .iconst 0, 1), (130, .istore 4, 2), (132, .iload 4, 2), (134, .ifCond .eq 27, 3), (137, .iload_n 1, 1), (138, .ifCond .ne 9, 3), (141, .iload_n 3, 1), (142, .bipush 115, 2), (144, .if_icmp .ne 7, 3), (147, .iconst 1, 1)]
set_option maxRecDepth 100000 in
theorem dk204_4 : ∀ e ∈ ck204_4, decode prog_14_method_42_code e.1 = .ok e.2 := by decide +kernel
def ck204_5 : List (Nat × Instr × Nat) := [(148, .goto 4, 3), (151, .iconst 0, 1), (152, .istore_n 1, 1), (153, .aload_n 0, 1), (154, .iload_n 3, 1), (155, .invokevirtual 254, 3), (158, .goto 7, 3), (161, .aload_n 0, 1), (162, .invokevirtual 128, 3), (165, .aload_n 0, 1), (166, .getfield 119, 3), (169, .iconst (-1), 1), (170, .if_icmp .ne 16, 3), (173, .aload_n 0, 1), (174, .invokevirtual 131, 3), (177, .bipush 59, 2)]
set_option maxRecDepth 100000 in
theorem dk204_5 : ∀ e ∈ ck204_5, decode prog_14_method_42_code e.1 = .ok e.2 := by decide +kernel
def ck204_6 : List (Nat × Instr × Nat) := [(179, .if_icmp .ne 7, 3), (182, .iconst 1, 1), (183, .goto 4, 3), (186, .iconst 0, 1), (187, .istore_n 2, 1), (188, .aload_n 0, 1), (189, .dup, 1), (190, .getfield 112, 3), (193, .iload_n 2, 1), (194, .ifCond .eq 7, 3), (197, .iconst 1, 1), (198, .goto 4, 3), (201, .iconst 0, 1), (202, .iadd, 1), (203, .putfield 112, 3), (206, .goto (-152), 3)]
set_option maxRecDepth 100000 in
theorem dk204_6 : ∀ e ∈ ck204_6, decode prog_14_method_42_code e.1 = .ok e.2 := by decide +kernel
def ck204_7 : List (Nat × Instr × Nat) := [(209, .aload_n 0, 1), (210, .getfield 119, 3), (213, .iconst (-1), 1), (214, .if_icmp .ne 22, 3), (217, .aload_n 0, 1), (218, .invokevirtual 131, 3), (221, .iconst (-1), 1), (222, .if_icmp .ne 10, 3), (225, .aload_n 0, 1), (226, .invokevirtual 257, 3), (229, .ifCond .ne 7, 3), (232, .aload_n 0, 1), (233, .invokevirtual 128, 3), (236, .aload_n 0, 1), (237, .getfield 119, 3), (240, .ireturn, 1)]
set_option maxRecDepth 100000 in
theorem dk204_7 : ∀ e ∈ ck204_7, decode prog_14_method_42_code e.1 = .ok e.2 := by decide +kernel
def ck204 : List (Nat × List (Nat × Instr × Nat)) := [(26, ck204_0), (53, ck204_1), (82, ck204_2), (116, ck204_3), (148, ck204_4), (179, ck204_5), (209, ck204_6), (241, ck204_7)]
theorem dk204 : cOk prog_14_method_42_code ck204 := cOk_c dk204_0 (cOk_c dk204_1 (cOk_c dk204_2 (cOk_c dk204_3 (cOk_c dk204_4 (cOk_c dk204_5 (cOk_c dk204_6 (cOk_c dk204_7 (cOk_n))))))))
def ck205_0 : List (Nat × Instr × Nat) := [(0, .iload_n 1, 1), (1, .ifCond .ne 10, 3), (4, .aload_n 0, 1), (5, .invokevirtual 261, 3), (8, .goto 18, 3), (11, .iload_n 1, 1), (12, .iconst 1, 1), (13, .if_icmp .ne 11, 3), (16, .aload_n 0, 1), (17, .iconst 4, 1), (18, .invokevirtual 264, 3), (21, .goto 5, 3), (24, .bipush (-2), 2), (26, .ireturn, 1)]
set_option maxRecDepth 100000 in
theorem dk205_0 : ∀ e ∈ ck205_0, decode prog_14_method_43_code e.1 = .ok e.2 := by decide +kernel
def ck205 : List (Nat × List (Nat × Instr × Nat)) := [(27, ck205_0)]
theorem dk205 : cOk prog_14_method_43_code ck205 := cOk_c dk205_0 (cOk_n)
def ck206_0 : List (Nat × Instr × Nat) := [(0, .iconst 0, 1), (1, .istore_n 1, 1), (2, .iload_n 1, 1), (3, .bipush 24, 2), (5, .if_icmp .ge 16, 3), (8, .aload_n 0, 1), (9, .getfield 61, 3), (12, .iload_n 1, 1), (13, .iconst 0, 1), (14, .iastore, 1), (15, .iinc 1 1, 3), (18, .goto (-16), 3), (21, .iconst 0, 1), (22, .istore_n 1, 1), (23, .iload_n 1, 1), (24, .aload_n 0, 1)]
set_option maxRecDepth 100000 in
theorem dk206_0 : ∀ e ∈ ck206_0, decode prog_14_method_44_code e.1 = .ok e.2 := by decide +kernel
def ck206_1 : List (Nat × Instr × Nat) := [(25, .getfield 267, 3), (28, .if_icmp .ge 48, 3), (31, .aload_n 0, 1), (32, .getfield 61, 3), (35, .iconst 0, 1), (36, .iload_n 1, 1), (37, .iadd, 1), (38, .aload_n 0, 1), (39, .iload_n 1, 1), (40, .iconst 1, 1), (41, .invokevirtual 270, 3), (44, .iastore, 1), (45, .aload_n 0, 1), (46, .getfield 61, 3), (49, .bipush 6, 2), (51, .iload_n 1, 1)]
set_option maxRecDepth 100000 in
theorem dk206_1 : ∀ e ∈ ck206_1, decode prog_14_method_44_code e.1 = .ok e.2 := by decide +kernel
def ck206_2 : List (Nat × Instr × Nat) := [(52, .iadd, 1), (53, .aload_n 0, 1), (54, .iload_n 1, 1), (55, .iconst 2, 1), (56, .invokevirtual 270, 3), (59, .iastore, 1), (60, .aload_n 0, 1), (61, .getfield 61, 3), (64, .bipush 12, 2), (66, .iload_n 1, 1), (67, .iadd, 1), (68, .iload_n 1, 1), (69, .iastore, 1), (70, .iinc 1 1, 3), (73, .goto (-50), 3), (76, .aload_n 0, 1)]
set_option maxRecDepth 100000 in
theorem dk206_2 : ∀ e ∈ ck206_2, decode prog_14_method_44_code e.1 = .ok e.2 := by decide +kernel
def ck206_3 : List (Nat × Instr × Nat) := [(77, .getfield 61, 3), (80, .bipush 20, 2), (82, .aload_n 0, 1), (83, .getfield 52, 3), (86, .iconst 4, 1), (87, .iaload, 1), (88, .iastore, 1), (89, .aload_n 0, 1), (90, .getfield 61, 3), (93, .bipush 22, 2), (95, .aload_n 0, 1), (96, .getfield 52, 3), (99, .iconst 1, 1), (100, .iaload, 1), (101, .iastore, 1), (102, .return_, 1)]
set_option maxRecDepth 100000 in
theorem dk206_3 : ∀ e ∈ ck206_3, decode prog_14_method_44_code e.1 = .ok e.2 := by decide +kernel
def ck206 : List (Nat × List (Nat × Instr × Nat)) := [(25, ck206_0), (52, ck206_1), (77, ck206_2), (103, ck206_3)]
theorem dk206 : cOk prog_14_method_44_code ck206 := cOk_c dk206_0 (cOk_c dk206_1 (cOk_c dk206_2 (cOk_c dk206_3 (cOk_n))))
def ck207_0 : List (Nat × Instr × Nat) := [(0, .aload_n 0, 1), (1, .aload_n 0, 1), (2, .getfield 245, 3), (5, .putfield 273, 3), (8, .aload_n 0, 1), (9, .aload_n 0, 1), (10, .getfield 251, 3), (13, .putfield 267, 3), (16, .iconst 0, 1), (17, .istore_n 1, 1), (18, .iload_n 1, 1), (19, .iconst 5, 1), (20, .if_icmp .ge 21, 3), (23, .aload_n 0, 1), (24, .getfield 52, 3), (27, .iload_n 1, 1)]
set_option maxRecDepth 100000 in
theorem dk207_0 : ∀ e ∈ ck207_0, decode prog_14_method_45_code e.1 = .ok e.2 := by decide +kernel
def ck207_1 : List (Nat × Instr × Nat) := [(28, .aload_n 0, 1), (29, .getfield 40, 3), (32, .iload_n 1, 1), (33, .iaload, 1), (34, .iastore, 1), (35, .iinc 1 1, 3), (38, .goto (-20), 3), (41, .iconst 0, 1), (42, .istore_n 1, 1), (43, .iload_n 1, 1), (44, .bipush 24, 2), (46, .if_icmp .ge 21, 3), (49, .aload_n 0, 1), (50, .getfield 55, 3), (53, .iload_n 1, 1), (54, .aload_n 0, 1)]
set_option maxRecDepth 100000 in
theorem dk207_1 : ∀ e ∈ ck207_1, decode prog_14_method_45_code e.1 = .ok e.2 := by decide +kernel
def ck207_2 : List (Nat × Instr × Nat) := [(55, .getfield 43, 3), (58, .iload_n 1, 1), (59, .iaload, 1), (60, .iastore, 1), (61, .iinc 1 1, 3), (64, .goto (-21), 3), (67, .iconst 0, 1), (68, .istore_n 1, 1), (69, .iload_n 1, 1), (70, .bipush 24, 2), (72, .if_icmp .ge 21, 3), (75, .aload_n 0, 1), (76, .getfield 58, 3), (79, .iload_n 1, 1), (80, .aload_n 0, 1), (81, .getfield 49, 3)]
set_option maxRecDepth 100000 in
theorem dk207_2 : ∀ e ∈ ck207_2, decode prog_14_method_45_code e.1 = .ok e.2 := by decide +kernel
def ck207_3 : List (Nat × Instr × Nat) := [(84, .iload_n 1, 1), (85, .iaload, 1), (86, .iastore, 1), (87, .iinc 1 1, 3), (90, .goto (-21), 3), (93, .aload_n 0, 1), (94, .iconst 0, 1), (95, .putfield 276, 3), (98, .iconst 0, 1), (99, .istore_n 1, 1), (100, .iload_n 1, 1), (101, .aload_n 0, 1), (102, .getfield 248, 3), (105, .if_icmp .ge 26, 3), (108, .aload_n 0, 1), (109, .dup, 1)]
set_option maxRecDepth 100000 in
theorem dk207_3 : ∀ e ∈ ck207_3, decode prog_14_method_45_code e.1 = .ok e.2 := by decide +kernel
def ck207_4 : List (Nat × Instr × Nat) := [(110, .getfield 276, 3), (113, .iconst 1, 1), (114, .aload_n 0, 1), (115, .getfield 46, 3), (118, .iload_n 1, 1), (119, .iaload, 1), (120, .ishl, 1), (121, .ior, 1), (122, .putfield 276, 3), (125, .iinc 1 1, 3), (128, .goto (-28), 3), (131, .aload_n 0, 1), (132, .invokevirtual 279, 3), (135, .aload_n 0, 1), (136, .getfield 61, 3), (139, .bipush 24, 2)]
set_option maxRecDepth 100000 in
theorem dk207_4 : ∀ e ∈ ck207_4, decode prog_14_method_45_code e.1 = .ok e.2 := by decide +kernel
def ck207_5 : List (Nat × Instr × Nat) := [(141, .iconst 0, 1), (142, .iastore, 1), (143, .aload_n 0, 1), (144, .iconst 0, 1), (145, .putfield 282, 3), (148, .aload_n 0, 1), (149, .iconst 0, 1), (150, .putfield 285, 3), (153, .aload_n 0, 1), (154, .iconst 0, 1), (155, .putfield 288, 3), (158, .aload_n 0, 1), (159, .getfield 267, 3), (162, .ireturn, 1)]
set_option maxRecDepth 100000 in
theorem dk207_5 : ∀ e ∈ ck207_5, decode prog_14_method_45_code e.1 = .ok e.2 := by decide +kernel
def ck207 : List (Nat × List (Nat × Instr × Nat)) := [(28, ck207_0), (55, ck207_1), (84, ck207_2), (110, ck207_3), (141, ck207_4), (163, ck207_5)]
theorem dk207 : cOk prog_14_method_45_code ck207 := cOk_c dk207_0 (cOk_c dk207_1 (cOk_c dk207_2 (cOk_c dk207_3 (cOk_c dk207_4 (cOk_c dk207_5 (cOk_n))))))
def ck208_0 : List (Nat × Instr × Nat) := [(0, .iload_n 1, 1), (1, .ifCond .ne 21, 3), (4, .aload_n 0, 1), (5, .invokevirtual 261, 3), (8, .iconst (-1), 1), (9, .if_icmp .ne 13, 3), (12, .aload_n 0, 1), (13, .iconst 0, 1), (14, .putfield 109, 3), (17, .aload_n 0, 1), (18, .invokevirtual 292, 3), (21, .ireturn, 1), (22, .iload_n 1, 1), (23, .iconst 1, 1), (24, .if_icmp .ne 45, 3), (27, .aload_n 0, 1)]
set_option maxRecDepth 100000 in
theorem dk208_0 : ∀ e ∈ ck208_0, decode prog_14_method_46_code e.1 = .ok e.2 := by decide +kernel
def ck208_1 : List (Nat × Instr × Nat) := [(28, .getfield 295, 3), (31, .iconst 4, 1), (32, .if_icmp .ge 37, 3), (35, .aload_n 0, 1), (36, .aload_n 0, 1), (37, .getfield 295, 3), (40, .invokevirtual 264, 3), (43, .iconst (-1), 1), (44, .if_icmp .ne 25, 3), (47, .aload_n 0, 1), (48, .iconst 0, 1), (49, .putfield 109, 3), (52, .aload_n 0, 1), (53, .dup, 1), (54, .getfield 295, 3), (57, .iconst 1, 1)]
set_option maxRecDepth 100000 in
theorem dk208_1 : ∀ e ∈ ck208_1, decode prog_14_method_46_code e.1 = .ok e.2 := by decide +kernel
def ck208_2 : List (Nat × Instr × Nat) := [(58, .iadd, 1), (59, .putfield 295, 3), (62, .aload_n 0, 1), (63, .getfield 295, 3), (66, .iconst 1, 1), (67, .isub, 1), (68, .ireturn, 1), (69, .iconst (-1), 1), (70, .ireturn, 1)]
set_option maxRecDepth 100000 in
theorem dk208_2 : ∀ e ∈ ck208_2, decode prog_14_method_46_code e.1 = .ok e.2 := by decide +kernel
def ck208 : List (Nat × List (Nat × Instr × Nat)) := [(28, ck208_0), (58, ck208_1), (71, ck208_2)]
theorem dk208 : cOk prog_14_method_46_code ck208 := cOk_c dk208_0 (cOk_c dk208_1 (cOk_c dk208_2 (cOk_n)))
def ck209_0 : List (Nat × Instr × Nat) := [(0, .aload_n 0, 1), (1, .getfield 58, 3), (4, .iconst 4, 1), (5, .iload_n 1, 1), (6, .imul, 1), (7, .iload_n 2, 1), (8, .iadd, 1), (9, .iaload, 1), (10, .ireturn, 1)]
set_option maxRecDepth 100000 in
theorem dk209_0 : ∀ e ∈ ck209_0, decode prog_14_method_47_code e.1 = .ok e.2 := by decide +kernel
def ck209 : List (Nat × List (Nat × Instr × Nat)) := [(11, ck209_0)]
theorem dk209 : cOk prog_14_method_47_code ck209 := cOk_c dk209_0 (cOk_n)
def ck210_0 : List (Nat × Instr × Nat) := [(0, .aload_n 0, 1), (1, .getfield 55, 3), (4, .iconst 4, 1), (5, .iload_n 1, 1), (6, .imul, 1), (7, .iload_n 2, 1), (8, .iadd, 1), (9, .iaload, 1), (10, .ireturn, 1)]
set_option maxRecDepth 100000 in
theorem dk210_0 : ∀ e ∈ ck210_0, decode prog_14_method_48_code e.1 = .ok e.2 := by decide +kernel
def ck210 : List (Nat × List (Nat × Instr × Nat)) := [(11, ck210_0)]
theorem dk210 : cOk prog_14_method_48_code ck210 := cOk_c dk210_0 (cOk_n)
def ck211_0 : List (Nat × Instr × Nat) := [(0, .iload_n 1, 1), (1, .iconst 0, 1), (2, .aload_n 0, 1), (3, .getfield 267, 3), (6, .iconst 1, 1), (7, .isub, 1), (8, .invokestatic 217, 3), (11, .ireturn, 1)]
set_option maxRecDepth 100000 in
theorem dk211_0 : ∀ e ∈ ck211_0, decode prog_14_method_49_code e.1 = .ok e.2 := by decide +kernel
def ck211 : List (Nat × List (Nat × Instr × Nat)) := [(12, ck211_0)]
theorem dk211 : cOk prog_14_method_49_code ck211 := cOk_c dk211_0 (cOk_n)
def ck212_0 : List (Nat × Instr × Nat) := [(0, .iload_n 1, 1), (1, .iconst 0, 1), (2, .aload_n 0, 1), (3, .getfield 273, 3), (6, .iconst 1, 1), (7, .isub, 1), (8, .invokestatic 217, 3), (11, .ireturn, 1)]
set_option maxRecDepth 100000 in
theorem dk212_0 : ∀ e ∈ ck212_0, decode prog_14_method_50_code e.1 = .ok e.2 := by decide +kernel
def ck212 : List (Nat × List (Nat × Instr × Nat)) := [(12, ck212_0)]
theorem dk212 : cOk prog_14_method_50_code ck212 := cOk_c dk212_0 (cOk_n)
def ck213_0 : List (Nat × Instr × Nat) := [(0, .aload_n 0, 1), (1, .getfield 61, 3), (4, .bipush 18, 2), (6, .iaload, 1), (7, .iload_n 1, 1), (8, .invokestatic 228, 3), (11, .ifCond .ne 7, 3), (14, .iconst 1, 1), (15, .goto 4, 3), (18, .iconst 0, 1), (19, .ireturn, 1)]
set_option maxRecDepth 100000 in
theorem dk213_0 : ∀ e ∈ ck213_0, decode prog_14_method_51_code e.1 = .ok e.2 := by decide +kernel
def ck213 : List (Nat × List (Nat × Instr × Nat)) := [(20, ck213_0)]
theorem dk213 : cOk prog_14_method_51_code ck213 := cOk_c dk213_0 (cOk_n)
def ck214_0 : List (Nat × Instr × Nat) := [(0, .iconst 1, 1), (1, .aload_n 0, 1), (2, .getfield 267, 3), (5, .ishl, 1), (6, .iconst 1, 1), (7, .isub, 1), (8, .ireturn, 1)]
set_option maxRecDepth 100000 in
theorem dk214_0 : ∀ e ∈ ck214_0, decode prog_14_method_52_code e.1 = .ok e.2 := by decide +kernel
def ck214 : List (Nat × List (Nat × Instr × Nat)) := [(9, ck214_0)]
theorem dk214 : cOk prog_14_method_52_code ck214 := cOk_c dk214_0 (cOk_n)
def ck215_0 : List (Nat × Instr × Nat) := [(0, .aload_n 0, 1), (1, .iload_n 1, 1), (2, .iconst 0, 1), (3, .invokevirtual 270, 3), (6, .istore_n 2, 1), (7, .aload_n 0, 1), (8, .getfield 67, 3), (11, .iconst (-1), 1), (12, .if_icmp .eq 101, 3), (15, .aload_n 0, 1), (16, .getfield 34, 3), (19, .iconst 0, 1), (20, .aload_n 0, 1), (21, .iload_n 1, 1), (22, .iconst 0, 1), (23, .invokevirtual 270, 3)]
set_option maxRecDepth 100000 in
theorem dk215_0 : ∀ e ∈ ck215_0, decode prog_14_method_53_code e.1 = .ok e.2 := by decide +kernel
def ck215_1 : List (Nat × Instr × Nat) := [(26, .iastore, 1), (27, .aload_n 0, 1), (28, .getfield 34, 3), (31, .iconst 1, 1), (32, .aload_n 0, 1), (33, .getfield 61, 3), (36, .bipush 6, 2), (38, .iload_n 1, 1), (39, .iadd, 1), (40, .iaload, 1), (41, .iastore, 1), (42, .aload_n 0, 1), (43, .getfield 34, 3), (46, .iconst 2, 1), (47, .aload_n 0, 1), (48, .getfield 61, 3)]
set_option maxRecDepth 100000 in
theorem dk215_1 : ∀ e ∈ ck215_1, decode prog_14_method_53_code e.1 = .ok e.2 := by decide +kernel
def ck215_2 : List (Nat × Instr × Nat) := [(51, .bipush 12, 2), (53, .iload_n 1, 1), (54, .iadd, 1), (55, .iaload, 1), (56, .iastore, 1), (57, .aload_n 0, 1), (58, .getfield 34, 3), (61, .iconst 3, 1), (62, .aload_n 0, 1), (63, .getfield 267, 3), (66, .aload_n 0, 1), (67, .getfield 61, 3), (70, .bipush 18, 2), (72, .iaload, 1), (73, .invokestatic 298, 3), (76, .isub, 1)]
set_option maxRecDepth 100000 in
theorem dk215_2 : ∀ e ∈ ck215_2, decode prog_14_method_53_code e.1 = .ok e.2 := by decide +kernel
def ck215_3 : List (Nat × Instr × Nat) := [(77, .iastore, 1), (78, .aload_n 0, 1), (79, .getfield 34, 3), (82, .iconst 4, 1), (83, .aload_n 0, 1), (84, .getfield 61, 3), (87, .bipush 21, 2), (89, .iaload, 1), (90, .iastore, 1), (91, .aload_n 0, 1), (92, .getfield 34, 3), (95, .iconst 5, 1), (96, .aload_n 0, 1), (97, .getfield 61, 3), (100, .bipush 22, 2), (102, .iaload, 1)]
set_option maxRecDepth 100000 in
theorem dk215_3 : ∀ e ∈ ck215_3, decode prog_14_method_53_code e.1 = .ok e.2 := by decide +kernel
def ck215_4 : List (Nat × Instr × Nat) := [(103, .iastore, 1), (104, .aload_n 0, 1), (105, .aload_n 0, 1), (106, .getfield 67, 3), (109, .invokevirtual 303, 3), (112, .istore_n 2, 1), (113, .iconst 0, 1), (114, .bipush 99, 2), (116, .iload_n 2, 1), (117, .invokestatic 306, 3), (120, .invokestatic 308, 3), (123, .ireturn, 1)]
set_option maxRecDepth 100000 in
theorem dk215_4 : ∀ e ∈ ck215_4, decode prog_14_method_53_code e.1 = .ok e.2 := by decide +kernel
def ck215 : List (Nat × List (Nat × Instr × Nat)) := [(26, ck215_0), (51, ck215_1), (77, ck215_2), (103, ck215_3), (124, ck215_4)]
theorem dk215 : cOk prog_14_method_53_code ck215 := cOk_c dk215_0 (cOk_c dk215_1 (cOk_c dk215_2 (cOk_c dk215_3 (cOk_c dk215_4 (cOk_n)))))
def ck216_0 : List (Nat × Instr × Nat) := [(0, .iconst 0, 1), (1, .istore_n 1, 1), (2, .iconst 0, 1), (3, .istore_n 2, 1), (4, .iload_n 2, 1), (5, .aload_n 0, 1), (6, .getfield 267, 3), (9, .if_icmp .ge 40, 3), (12, .iload_n 1, 1), (13, .aload_n 0, 1), (14, .iload_n 2, 1), (15, .invokevirtual 310, 3), (18, .ifCond .eq 22, 3), (21, .aload_n 0, 1), (22, .getfield 61, 3), (25, .iconst 0, 1)]
set_option maxRecDepth 100000 in
theorem dk216_0 : ∀ e ∈ ck216_0, decode prog_14_method_54_code e.1 = .ok e.2 := by decide +kernel
def ck216_1 : List (Nat × Instr × Nat) := [(26, .iload_n 2, 1), (27, .iadd, 1), (28, .iaload, 1), (29, .iconst 1, 1), (30, .isub, 1), (31, .aload_n 0, 1), (32, .iload_n 2, 1), (33, .invokevirtual 313, 3), (36, .imul, 1), (37, .goto 4, 3), (40, .iconst 0, 1), (41, .iadd, 1), (42, .istore_n 1, 1), (43, .iinc 2 1, 3), (46, .goto (-42), 3), (49, .aload_n 0, 1)]
set_option maxRecDepth 100000 in
theorem dk216_1 : ∀ e ∈ ck216_1, decode prog_14_method_54_code e.1 = .ok e.2 := by decide +kernel
def ck216_2 : List (Nat × Instr × Nat) := [(50, .getfield 276, 3), (53, .aload_n 0, 1), (54, .getfield 61, 3), (57, .bipush 21, 2), (59, .iaload, 1), (60, .invokestatic 228, 3), (63, .ifCond .eq 9, 3), (66, .iconst 2, 1), (67, .iload_n 1, 1), (68, .imul, 1), (69, .goto 4, 3), (72, .iload_n 1, 1), (73, .ireturn, 1)]
set_option maxRecDepth 100000 in
theorem dk216_2 : ∀ e ∈ ck216_2, decode prog_14_method_54_code e.1 = .ok e.2 := by decide +kernel
def ck216 : List (Nat × List (Nat × Instr × Nat)) := [(26, ck216_0), (50, ck216_1), (74, ck216_2)]
theorem dk216 : cOk prog_14_method_54_code ck216 := cOk_c dk216_0 (cOk_c dk216_1 (cOk_c dk216_2 (cOk_n)))
def ck217_0 : List (Nat × Instr × Nat) := [(0, .iload_n 1, 1), (1, .iload_n 2, 1), (2, .iadd, 1), (3, .iconst 0, 1), (4, .aload_n 0, 1), (5, .getfield 52, 3), (8, .iconst 0, 1), (9, .iaload, 1), (10, .iconst 1, 1), (11, .isub, 1), (12, .invokestatic 217, 3), (15, .ifCond .eq 9, 3), (18, .iload_n 1, 1), (19, .iload_n 2, 1), (20, .iadd, 1), (21, .goto 4, 3)]
set_option maxRecDepth 100000 in
theorem dk217_0 : ∀ e ∈ ck217_0, decode prog_14_method_55_code e.1 = .ok e.2 := by decide +kernel
def ck217_1 : List (Nat × Instr × Nat) := [(24, .iload_n 1, 1), (25, .ireturn, 1)]
set_option maxRecDepth 100000 in
theorem dk217_1 : ∀ e ∈ ck217_1, decode prog_14_method_55_code e.1 = .ok e.2 := by decide +kernel
def ck217 : List (Nat × List (Nat × Instr × Nat)) := [(24, ck217_0), (26, ck217_1)]
theorem dk217 : cOk prog_14_method_55_code ck217 := cOk_c dk217_0 (cOk_c dk217_1 (cOk_n))
def ck218_0 : List (Nat × Instr × Nat) := [(0, .iconst 0, 1), (1, .istore_n 1, 1), (2, .iload_n 1, 1), (3, .aload_n 0, 1), (4, .getfield 273, 3), (7, .if_icmp .ge 43, 3), (10, .aload_n 0, 1), (11, .iload_n 1, 1), (12, .iconst 0, 1), (13, .invokevirtual 316, 3), (16, .aload_n 0, 1), (17, .getfield 61, 3), (20, .bipush 21, 2), (22, .iaload, 1), (23, .if_icmp .ne 21, 3), (26, .aload_n 0, 1)]
set_option maxRecDepth 100000 in
theorem dk218_0 : ∀ e ∈ ck218_0, decode prog_14_method_56_code e.1 = .ok e.2 := by decide +kernel
def ck218_1 : List (Nat × Instr × Nat) := [(27, .iload_n 1, 1), (28, .iconst 1, 1), (29, .invokevirtual 316, 3), (32, .aload_n 0, 1), (33, .getfield 61, 3), (36, .bipush 22, 2), (38, .iaload, 1), (39, .if_icmp .ne 5, 3), (42, .iload_n 1, 1), (43, .ireturn, 1), (44, .iinc 1 1, 3), (47, .goto (-45), 3), (50, .iconst (-1), 1), (51, .ireturn, 1)]
set_option maxRecDepth 100000 in
theorem dk218_1 : ∀ e ∈ ck218_1, decode prog_14_method_56_code e.1 = .ok e.2 := by decide +kernel
def ck218 : List (Nat × List (Nat × Instr × Nat)) := [(27, ck218_0), (52, ck218_1)]
theorem dk218 : cOk prog_14_method_56_code ck218 := cOk_c dk218_0 (cOk_c dk218_1 (cOk_n))
