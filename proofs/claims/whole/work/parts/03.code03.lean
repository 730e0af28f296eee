/-! ===== the code of the methods, instruction by instruction (printed by program) ===== -/
def ck53_0 : List (Nat × Instr × Nat) := [(0, .aload_n 0, 1), (1, .getfield 23, 3), (4, .aload_n 1, 1), (5, .invokevirtual 41, 3), (8, .aload_n 0, 1), (9, .getfield 37, 3), (12, .aload_n 0, 1), (13, .getfield 23, 3), (16, .invokevirtual 45, 3), (19, .istore_n 3, 1), (20, .iload_n 2, 1), (21, .ifCond .ne 11, 3), (24, .aload_n 0, 1), (25, .getfield 23, 3), (28, .getfield 51, 3), (31, .ireturn, 1)]
set_option maxRecDepth 100000 in
theorem dk53_0 : ∀ e ∈ ck53_0, decode prog_8_method_2_code e.1 = .ok e.2 := by decide +kernel
def ck53_1 : List (Nat × Instr × Nat) := [(32, .iload_n 2, 1), (33, .iconst 1, 1), (34, .if_icmp .ne 7, 3), (37, .iload_n 3, 1), (38, .goto 20, 3), (41, .aload_n 0, 1), (42, .getfield 37, 3), (45, .invokevirtual 55, 3), (48, .aload_n 0, 1), (49, .getfield 23, 3), (52, .getfield 59, 3), (55, .iconst (-1), 1), (56, .ixor, 1), (57, .iand, 1), (58, .ireturn, 1)]
set_option maxRecDepth 100000 in
theorem dk53_1 : ∀ e ∈ ck53_1, decode prog_8_method_2_code e.1 = .ok e.2 := by decide +kernel
def ck53 : List (Nat × List (Nat × Instr × Nat)) := [(32, ck53_0), (59, ck53_1)]
theorem dk53 : cOk prog_8_method_2_code ck53 := cOk_c dk53_0 (cOk_c dk53_1 (cOk_n))
def ck54_0 : List (Nat × Instr × Nat) := [(0, .aload_n 0, 1), (1, .getfield 23, 3), (4, .aload_n 1, 1), (5, .invokevirtual 41, 3), (8, .iconst 0, 1), (9, .istore_n 3, 1), (10, .iload_n 3, 1), (11, .iload_n 2, 1), (12, .if_icmp .ge 40, 3), (15, .aload_n 0, 1), (16, .getfield 23, 3), (19, .getfield 62, 3), (22, .aload_n 0, 1), (23, .getfield 37, 3), (26, .getfield 65, 3), (29, .invokevirtual 69, 3)]
set_option maxRecDepth 100000 in
theorem dk54_0 : ∀ e ∈ ck54_0, decode prog_8_method_3_code e.1 = .ok e.2 := by decide +kernel
def ck54_1 : List (Nat × Instr × Nat) := [(32, .if_icmp .ge 20, 3), (35, .aload_n 0, 1), (36, .getfield 37, 3), (39, .aload_n 0, 1), (40, .getfield 23, 3), (43, .invokevirtual 74, 3), (46, .iinc 3 1, 3), (49, .goto (-39), 3), (52, .aload_n 0, 1), (53, .getfield 23, 3), (56, .getfield 51, 3), (59, .ireturn, 1)]
set_option maxRecDepth 100000 in
theorem dk54_1 : ∀ e ∈ ck54_1, decode prog_8_method_3_code e.1 = .ok e.2 := by decide +kernel
def ck54 : List (Nat × List (Nat × Instr × Nat)) := [(32, ck54_0), (60, ck54_1)]
theorem dk54 : cOk prog_8_method_3_code ck54 := cOk_c dk54_0 (cOk_c dk54_1 (cOk_n))
def ck55_0 : List (Nat × Instr × Nat) := [(0, .aload_n 0, 1), (1, .getfield 37, 3), (4, .getfield 65, 3), (7, .getfield 77, 3), (10, .istore_n 3, 1), (11, .iconst 1, 1), (12, .istore 4, 2), (14, .iconst 0, 1), (15, .istore 5, 2), (17, .iload 5, 2), (19, .iload_n 3, 1), (20, .if_icmp .ge 15, 3), (23, .iload 4, 2), (25, .iconst 3, 1), (26, .imul, 1), (27, .istore 4, 2)]
set_option maxRecDepth 100000 in
theorem dk55_0 : ∀ e ∈ ck55_0, decode prog_8_method_4_code e.1 = .ok e.2 := by decide +kernel
def ck55_1 : List (Nat × Instr × Nat) := [(29, .iinc 5 1, 3), (32, .goto (-15), 3), (35, .aload_n 0, 1), (36, .iconst (-1), 1), (37, .putfield 80, 3), (40, .aload_n 0, 1), (41, .iconst (-1), 1), (42, .putfield 83, 3), (45, .iconst 0, 1), (46, .istore 5, 2), (48, .iload 5, 2), (50, .iload 4, 2), (52, .if_icmp .ge 94, 3), (55, .iload 5, 2), (57, .iload_n 3, 1), (58, .invokestatic 86, 3)]
set_option maxRecDepth 100000 in
theorem dk55_1 : ∀ e ∈ ck55_1, decode prog_8_method_4_code e.1 = .ok e.2 := by decide +kernel
def ck55_2 : List (Nat × Instr × Nat) := [(61, .istore 6, 2), (63, .iload 6, 2), (65, .aload_n 1, 1), (66, .getfield 90, 3), (69, .iload_n 3, 1), (70, .invokestatic 93, 3), (73, .istore 7, 2), (75, .aload_n 0, 1), (76, .getfield 80, 3), (79, .iconst (-1), 1), (80, .if_icmp .eq 12, 3), (83, .iload 7, 2), (85, .aload_n 0, 1), (86, .getfield 80, 3), (89, .if_icmp .ge 51, 3), (92, .aload_n 0, 1)]
set_option maxRecDepth 100000 in
theorem dk55_2 : ∀ e ∈ ck55_2, decode prog_8_method_4_code e.1 = .ok e.2 := by decide +kernel
def ck55_3 : List (Nat × Instr × Nat) := [(93, .getfield 23, 3), (96, .aload_n 1, 1), (97, .invokevirtual 41, 3), (100, .aload_n 0, 1), (101, .getfield 23, 3), (104, .iload 6, 2), (106, .putfield 90, 3), (109, .aload_n 0, 1), (110, .getfield 37, 3), (113, .aload_n 0, 1), (114, .getfield 23, 3), (117, .invokevirtual 45, 3), (120, .iload_n 2, 1), (121, .if_icmp .ne 19, 3), (124, .aload_n 0, 1), (125, .iload 7, 2)]
set_option maxRecDepth 100000 in
theorem dk55_3 : ∀ e ∈ ck55_3, decode prog_8_method_4_code e.1 = .ok e.2 := by decide +kernel
def ck55_4 : List (Nat × Instr × Nat) := [(127, .putfield 80, 3), (130, .aload_n 0, 1), (131, .iload 6, 2), (133, .iload_n 3, 1), (134, .invokestatic 97, 3), (137, .putfield 83, 3), (140, .iinc 5 1, 3), (143, .goto (-95), 3), (146, .return_, 1)]
set_option maxRecDepth 100000 in
theorem dk55_4 : ∀ e ∈ ck55_4, decode prog_8_method_4_code e.1 = .ok e.2 := by decide +kernel
def ck55 : List (Nat × List (Nat × Instr × Nat)) := [(29, ck55_0), (61, ck55_1), (93, ck55_2), (127, ck55_3), (147, ck55_4)]
theorem dk55 : cOk prog_8_method_4_code ck55 := cOk_c dk55_0 (cOk_c dk55_1 (cOk_c dk55_2 (cOk_c dk55_3 (cOk_c dk55_4 (cOk_n)))))
def ck56_0 : List (Nat × Instr × Nat) := [(0, .iconst 0, 1), (1, .istore_n 2, 1), (2, .iload_n 0, 1), (3, .istore_n 3, 1), (4, .iload_n 1, 1), (5, .iconst 1, 1), (6, .isub, 1), (7, .istore 4, 2), (9, .iload 4, 2), (11, .ifCond .lt 23, 3), (14, .iload_n 2, 1), (15, .iload 4, 2), (17, .iload_n 3, 1), (18, .iconst 3, 1), (19, .irem, 1), (20, .invokestatic 100, 3)]
set_option maxRecDepth 100000 in
theorem dk56_0 : ∀ e ∈ ck56_0, decode prog_8_method_5_code e.1 = .ok e.2 := by decide +kernel
def ck56_1 : List (Nat × Instr × Nat) := [(23, .istore_n 2, 1), (24, .iload_n 3, 1), (25, .iconst 3, 1), (26, .idiv, 1), (27, .istore_n 3, 1), (28, .iinc 4 (-1), 3), (31, .goto (-22), 3), (34, .iload_n 2, 1), (35, .ireturn, 1)]
set_option maxRecDepth 100000 in
theorem dk56_1 : ∀ e ∈ ck56_1, decode prog_8_method_5_code e.1 = .ok e.2 := by decide +kernel
def ck56 : List (Nat × List (Nat × Instr × Nat)) := [(23, ck56_0), (36, ck56_1)]
theorem dk56 : cOk prog_8_method_5_code ck56 := cOk_c dk56_0 (cOk_c dk56_1 (cOk_n))
def ck57_0 : List (Nat × Instr × Nat) := [(0, .iconst 0, 1), (1, .istore_n 3, 1), (2, .iconst 0, 1), (3, .istore 4, 2), (5, .iload 4, 2), (7, .iload_n 2, 1), (8, .if_icmp .ge 27, 3), (11, .iload_n 0, 1), (12, .iload 4, 2), (14, .invokestatic 103, 3), (17, .iload_n 1, 1), (18, .iload 4, 2), (20, .invokestatic 103, 3), (23, .if_icmp .eq 6, 3), (26, .iinc 3 1, 3), (29, .iinc 4 1, 3)]
set_option maxRecDepth 100000 in
theorem dk57_0 : ∀ e ∈ ck57_0, decode prog_8_method_6_code e.1 = .ok e.2 := by decide +kernel
def ck57_1 : List (Nat × Instr × Nat) := [(32, .goto (-27), 3), (35, .iload_n 3, 1), (36, .ireturn, 1)]
set_option maxRecDepth 100000 in
theorem dk57_1 : ∀ e ∈ ck57_1, decode prog_8_method_6_code e.1 = .ok e.2 := by decide +kernel
def ck57 : List (Nat × List (Nat × Instr × Nat)) := [(32, ck57_0), (37, ck57_1)]
theorem dk57 : cOk prog_8_method_6_code ck57 := cOk_c dk57_0 (cOk_c dk57_1 (cOk_n))
def ck58_0 : List (Nat × Instr × Nat) := [(0, .iconst 0, 1), (1, .istore_n 2, 1), (2, .iconst 0, 1), (3, .istore_n 3, 1), (4, .iload_n 3, 1), (5, .iload_n 1, 1), (6, .if_icmp .ge 20, 3), (9, .iload_n 2, 1), (10, .bipush 10, 2), (12, .imul, 1), (13, .iload_n 0, 1), (14, .iload_n 3, 1), (15, .invokestatic 103, 3), (18, .iadd, 1), (19, .istore_n 2, 1), (20, .iinc 3 1, 3)]
set_option maxRecDepth 100000 in
theorem dk58_0 : ∀ e ∈ ck58_0, decode prog_8_method_7_code e.1 = .ok e.2 := by decide +kernel
def ck58_1 : List (Nat × Instr × Nat) := [(23, .goto (-19), 3), (26, .iload_n 2, 1), (27, .ireturn, 1)]
set_option maxRecDepth 100000 in
theorem dk58_1 : ∀ e ∈ ck58_1, decode prog_8_method_7_code e.1 = .ok e.2 := by decide +kernel
def ck58 : List (Nat × List (Nat × Instr × Nat)) := [(23, ck58_0), (28, ck58_1)]
theorem dk58 : cOk prog_8_method_7_code ck58 := cOk_c dk58_0 (cOk_c dk58_1 (cOk_n))
def ck59_0 : List (Nat × Instr × Nat) := [(0, .aload_n 0, 1), (1, .getfield 37, 3), (4, .getfield 65, 3), (7, .getfield 77, 3), (10, .istore_n 3, 1), (11, .iconst 1, 1), (12, .istore 4, 2), (14, .iconst 0, 1), (15, .istore 5, 2), (17, .iload 5, 2), (19, .iload_n 3, 1), (20, .if_icmp .ge 27, 3), (23, .aload_n 0, 1), (24, .getfield 27, 3), (27, .iload 5, 2), (29, .iload 5, 2)]
set_option maxRecDepth 100000 in
theorem dk59_0 : ∀ e ∈ ck59_0, decode prog_8_method_8_code e.1 = .ok e.2 := by decide +kernel
def ck59_1 : List (Nat × Instr × Nat) := [(31, .iastore, 1), (32, .iload 4, 2), (34, .iload 5, 2), (36, .iconst 1, 1), (37, .iadd, 1), (38, .imul, 1), (39, .istore 4, 2), (41, .iinc 5 1, 3), (44, .goto (-27), 3), (47, .aload_n 0, 1), (48, .iconst (-1), 1), (49, .putfield 80, 3), (52, .aload_n 0, 1), (53, .iconst (-1), 1), (54, .putfield 83, 3), (57, .iconst 0, 1)]
set_option maxRecDepth 100000 in
theorem dk59_1 : ∀ e ∈ ck59_1, decode prog_8_method_8_code e.1 = .ok e.2 := by decide +kernel
def ck59_2 : List (Nat × Instr × Nat) := [(58, .istore 5, 2), (60, .iload 5, 2), (62, .iload 4, 2), (64, .if_icmp .ge 139, 3), (67, .iconst 0, 1), (68, .istore 6, 2), (70, .iconst 0, 1), (71, .istore 7, 2), (73, .iconst 0, 1), (74, .istore 8, 2), (76, .iload 8, 2), (78, .iload_n 3, 1), (79, .if_icmp .ge 40, 3), (82, .iload 6, 2), (84, .aload_n 0, 1), (85, .getfield 27, 3)]
set_option maxRecDepth 100000 in
theorem dk59_2 : ∀ e ∈ ck59_2, decode prog_8_method_8_code e.1 = .ok e.2 := by decide +kernel
def ck59_3 : List (Nat × Instr × Nat) := [(88, .iload 8, 2), (90, .iaload, 1), (91, .iload 8, 2), (93, .invokestatic 100, 3), (96, .istore 6, 2), (98, .iload 7, 2), (100, .bipush 10, 2), (102, .imul, 1), (103, .aload_n 0, 1), (104, .getfield 27, 3), (107, .iload 8, 2), (109, .iaload, 1), (110, .iadd, 1), (111, .istore 7, 2), (113, .iinc 8 1, 3), (116, .goto (-40), 3)]
set_option maxRecDepth 100000 in
theorem dk59_3 : ∀ e ∈ ck59_3, decode prog_8_method_8_code e.1 = .ok e.2 := by decide +kernel
def ck59_4 : List (Nat × Instr × Nat) := [(119, .iload 6, 2), (121, .aload_n 1, 1), (122, .getfield 106, 3), (125, .iload_n 3, 1), (126, .invokestatic 93, 3), (129, .istore 8, 2), (131, .aload_n 0, 1), (132, .getfield 80, 3), (135, .iconst (-1), 1), (136, .if_icmp .eq 12, 3), (139, .iload 8, 2), (141, .aload_n 0, 1), (142, .getfield 80, 3), (145, .if_icmp .ge 47, 3), (148, .aload_n 0, 1), (149, .getfield 23, 3)]
set_option maxRecDepth 100000 in
theorem dk59_4 : ∀ e ∈ ck59_4, decode prog_8_method_8_code e.1 = .ok e.2 := by decide +kernel
def ck59_5 : List (Nat × Instr × Nat) := [(152, .aload_n 1, 1), (153, .invokevirtual 41, 3), (156, .aload_n 0, 1), (157, .getfield 23, 3), (160, .iload 6, 2), (162, .putfield 106, 3), (165, .aload_n 0, 1), (166, .getfield 37, 3), (169, .aload_n 0, 1), (170, .getfield 23, 3), (173, .invokevirtual 45, 3), (176, .iload_n 2, 1), (177, .if_icmp .ne 15, 3), (180, .aload_n 0, 1), (181, .iload 8, 2), (183, .putfield 80, 3)]
set_option maxRecDepth 100000 in
theorem dk59_5 : ∀ e ∈ ck59_5, decode prog_8_method_8_code e.1 = .ok e.2 := by decide +kernel
def ck59_6 : List (Nat × Instr × Nat) := [(186, .aload_n 0, 1), (187, .iload 7, 2), (189, .putfield 83, 3), (192, .aload_n 0, 1), (193, .iload_n 3, 1), (194, .invokevirtual 109, 3), (197, .iinc 5 1, 3), (200, .goto (-140), 3), (203, .return_, 1)]
set_option maxRecDepth 100000 in
theorem dk59_6 : ∀ e ∈ ck59_6, decode prog_8_method_8_code e.1 = .ok e.2 := by decide +kernel
def ck59 : List (Nat × List (Nat × Instr × Nat)) := [(31, ck59_0), (58, ck59_1), (88, ck59_2), (119, ck59_3), (152, ck59_4), (186, ck59_5), (204, ck59_6)]
theorem dk59 : cOk prog_8_method_8_code ck59 := cOk_c dk59_0 (cOk_c dk59_1 (cOk_c dk59_2 (cOk_c dk59_3 (cOk_c dk59_4 (cOk_c dk59_5 (cOk_c dk59_6 (cOk_n)))))))
def ck60_0 : List (Nat × Instr × Nat) := [(0, .iload_n 1, 1), (1, .iconst 2, 1), (2, .isub, 1), (3, .istore_n 2, 1), (4, .iload_n 2, 1), (5, .ifCond .lt 26, 3), (8, .aload_n 0, 1), (9, .getfield 27, 3), (12, .iload_n 2, 1), (13, .iaload, 1), (14, .aload_n 0, 1), (15, .getfield 27, 3), (18, .iload_n 2, 1), (19, .iconst 1, 1), (20, .iadd, 1), (21, .iaload, 1)]
set_option maxRecDepth 100000 in
theorem dk60_0 : ∀ e ∈ ck60_0, decode prog_8_method_9_code e.1 = .ok e.2 := by decide +kernel
def ck60_1 : List (Nat × Instr × Nat) := [(22, .if_icmp .le 9, 3), (25, .iinc 2 (-1), 3), (28, .goto (-24), 3), (31, .iload_n 2, 1), (32, .ifCond .ge 4, 3), (35, .return_, 1), (36, .iload_n 1, 1), (37, .iconst 1, 1), (38, .isub, 1), (39, .istore_n 3, 1), (40, .iload_n 3, 1), (41, .iload_n 2, 1), (42, .if_icmp .le 24, 3), (45, .aload_n 0, 1), (46, .getfield 27, 3), (49, .iload_n 3, 1)]
set_option maxRecDepth 100000 in
theorem dk60_1 : ∀ e ∈ ck60_1, decode prog_8_method_9_code e.1 = .ok e.2 := by decide +kernel
def ck60_2 : List (Nat × Instr × Nat) := [(50, .iaload, 1), (51, .aload_n 0, 1), (52, .getfield 27, 3), (55, .iload_n 2, 1), (56, .iaload, 1), (57, .if_icmp .ge 9, 3), (60, .iinc 3 (-1), 3), (63, .goto (-23), 3), (66, .aload_n 0, 1), (67, .iload_n 2, 1), (68, .iload_n 3, 1), (69, .invokevirtual 112, 3), (72, .iload_n 2, 1), (73, .iconst 1, 1), (74, .iadd, 1), (75, .istore 4, 2)]
set_option maxRecDepth 100000 in
theorem dk60_2 : ∀ e ∈ ck60_2, decode prog_8_method_9_code e.1 = .ok e.2 := by decide +kernel
def ck60_3 : List (Nat × Instr × Nat) := [(77, .iload_n 1, 1), (78, .iconst 1, 1), (79, .isub, 1), (80, .istore 5, 2), (82, .iload 4, 2), (84, .iload 5, 2), (86, .if_icmp .ge 20, 3), (89, .aload_n 0, 1), (90, .iload 4, 2), (92, .iload 5, 2), (94, .invokevirtual 112, 3), (97, .iinc 4 1, 3), (100, .iinc 5 (-1), 3), (103, .goto (-21), 3), (106, .return_, 1)]
set_option maxRecDepth 100000 in
theorem dk60_3 : ∀ e ∈ ck60_3, decode prog_8_method_9_code e.1 = .ok e.2 := by decide +kernel
def ck60 : List (Nat × List (Nat × Instr × Nat)) := [(22, ck60_0), (50, ck60_1), (77, ck60_2), (107, ck60_3)]
theorem dk60 : cOk prog_8_method_9_code ck60 := cOk_c dk60_0 (cOk_c dk60_1 (cOk_c dk60_2 (cOk_c dk60_3 (cOk_n))))
def ck61_0 : List (Nat × Instr × Nat) := [(0, .aload_n 0, 1), (1, .getfield 27, 3), (4, .iload_n 1, 1), (5, .iaload, 1), (6, .istore_n 3, 1), (7, .aload_n 0, 1), (8, .getfield 27, 3), (11, .iload_n 1, 1), (12, .aload_n 0, 1), (13, .getfield 27, 3), (16, .iload_n 2, 1), (17, .iaload, 1), (18, .iastore, 1), (19, .aload_n 0, 1), (20, .getfield 27, 3), (23, .iload_n 2, 1)]
set_option maxRecDepth 100000 in
theorem dk61_0 : ∀ e ∈ ck61_0, decode prog_8_method_10_code e.1 = .ok e.2 := by decide +kernel
def ck61_1 : List (Nat × Instr × Nat) := [(24, .iload_n 3, 1), (25, .iastore, 1), (26, .return_, 1)]
set_option maxRecDepth 100000 in
theorem dk61_1 : ∀ e ∈ ck61_1, decode prog_8_method_10_code e.1 = .ok e.2 := by decide +kernel
def ck61 : List (Nat × List (Nat × Instr × Nat)) := [(24, ck61_0), (27, ck61_1)]
theorem dk61 : cOk prog_8_method_10_code ck61 := cOk_c dk61_0 (cOk_c dk61_1 (cOk_n))
def ck62_0 : List (Nat × Instr × Nat) := [(0, .iconst 0, 1), (1, .istore_n 3, 1), (2, .iload_n 3, 1), (3, .aload_n 0, 1), (4, .getfield 37, 3), (7, .invokevirtual 55, 3), (10, .if_icmp .gt 85, 3), (13, .aload_n 0, 1), (14, .getfield 23, 3), (17, .aload_n 1, 1), (18, .invokevirtual 41, 3), (21, .iconst 0, 1), (22, .istore 4, 2), (24, .iload 4, 2), (26, .aload_n 0, 1), (27, .getfield 37, 3)]
set_option maxRecDepth 100000 in
theorem dk62_0 : ∀ e ∈ ck62_0, decode prog_8_method_11_code e.1 = .ok e.2 := by decide +kernel
def ck62_1 : List (Nat × Instr × Nat) := [(30, .getfield 65, 3), (33, .getfield 77, 3), (36, .if_icmp .ge 36, 3), (39, .aload_n 0, 1), (40, .getfield 23, 3), (43, .aload_n 0, 1), (44, .getfield 23, 3), (47, .getfield 90, 3), (50, .iload 4, 2), (52, .iload_n 3, 1), (53, .iload 4, 2), (55, .ishr, 1), (56, .iconst 1, 1), (57, .iand, 1), (58, .iconst 2, 1), (59, .imul, 1)]
set_option maxRecDepth 100000 in
theorem dk62_1 : ∀ e ∈ ck62_1, decode prog_8_method_11_code e.1 = .ok e.2 := by decide +kernel
def ck62_2 : List (Nat × Instr × Nat) := [(60, .invokestatic 100, 3), (63, .putfield 90, 3), (66, .iinc 4 1, 3), (69, .goto (-45), 3), (72, .aload_n 0, 1), (73, .getfield 31, 3), (76, .iload_n 3, 1), (77, .aload_n 0, 1), (78, .getfield 37, 3), (81, .aload_n 0, 1), (82, .getfield 23, 3), (85, .invokevirtual 45, 3), (88, .iastore, 1), (89, .iinc 3 1, 3), (92, .goto (-90), 3), (95, .iconst 0, 1)]
set_option maxRecDepth 100000 in
theorem dk62_2 : ∀ e ∈ ck62_2, decode prog_8_method_11_code e.1 = .ok e.2 := by decide +kernel
def ck62_3 : List (Nat × Instr × Nat) := [(96, .istore_n 3, 1), (97, .iconst 0, 1), (98, .istore 4, 2), (100, .iload 4, 2), (102, .aload_n 0, 1), (103, .getfield 37, 3), (106, .invokevirtual 55, 3), (109, .if_icmp .gt 42, 3), (112, .iload 4, 2), (114, .iload_n 2, 1), (115, .ishr, 1), (116, .iconst 1, 1), (117, .iand, 1), (118, .ifCond .ne 27, 3), (121, .aload_n 0, 1), (122, .getfield 31, 3)]
set_option maxRecDepth 100000 in
theorem dk62_3 : ∀ e ∈ ck62_3, decode prog_8_method_11_code e.1 = .ok e.2 := by decide +kernel
def ck62_4 : List (Nat × Instr × Nat) := [(125, .iload 4, 2), (127, .iaload, 1), (128, .aload_n 0, 1), (129, .getfield 31, 3), (132, .iload 4, 2), (134, .iconst 1, 1), (135, .iload_n 2, 1), (136, .ishl, 1), (137, .ior, 1), (138, .iaload, 1), (139, .if_icmp .eq 6, 3), (142, .iinc 3 1, 3), (145, .iinc 4 1, 3), (148, .goto (-48), 3), (151, .iload_n 3, 1), (152, .ireturn, 1)]
set_option maxRecDepth 100000 in
theorem dk62_4 : ∀ e ∈ ck62_4, decode prog_8_method_11_code e.1 = .ok e.2 := by decide +kernel
def ck62 : List (Nat × List (Nat × Instr × Nat)) := [(30, ck62_0), (60, ck62_1), (96, ck62_2), (125, ck62_3), (153, ck62_4)]
theorem dk62 : cOk prog_8_method_11_code ck62 := cOk_c dk62_0 (cOk_c dk62_1 (cOk_c dk62_2 (cOk_c dk62_3 (cOk_c dk62_4 (cOk_n)))))
def ck63_0 : List (Nat × Instr × Nat) := [(0, .iconst 0, 1), (1, .istore 4, 2), (3, .iload 4, 2), (5, .bipush 9, 2), (7, .if_icmp .ge 102, 3), (10, .iload 4, 2), (12, .iconst 3, 1), (13, .idiv, 1), (14, .istore 5, 2), (16, .iload 4, 2), (18, .iconst 3, 1), (19, .irem, 1), (20, .istore 6, 2), (22, .aload_n 0, 1), (23, .getfield 23, 3), (26, .aload_n 1, 1)]
set_option maxRecDepth 100000 in
theorem dk63_0 : ∀ e ∈ ck63_0, decode prog_8_method_12_code e.1 = .ok e.2 := by decide +kernel
def ck63_1 : List (Nat × Instr × Nat) := [(27, .invokevirtual 41, 3), (30, .aload_n 0, 1), (31, .getfield 23, 3), (34, .aload_n 1, 1), (35, .getfield 90, 3), (38, .iload_n 2, 1), (39, .iload 5, 2), (41, .invokestatic 100, 3), (44, .iload_n 3, 1), (45, .iload 6, 2), (47, .invokestatic 100, 3), (50, .putfield 90, 3), (53, .aload_n 0, 1), (54, .getfield 37, 3), (57, .aload_n 0, 1), (58, .getfield 23, 3)]
set_option maxRecDepth 100000 in
theorem dk63_1 : ∀ e ∈ ck63_1, decode prog_8_method_12_code e.1 = .ok e.2 := by decide +kernel
def ck63_2 : List (Nat × Instr × Nat) := [(61, .invokevirtual 45, 3), (64, .istore 7, 2), (66, .aload_n 0, 1), (67, .getfield 34, 3), (70, .iload 4, 2), (72, .aload_n 0, 1), (73, .iload 7, 2), (75, .aload_n 1, 1), (76, .iload_n 2, 1), (77, .iload 5, 2), (79, .invokevirtual 116, 3), (82, .iastore, 1), (83, .aload_n 0, 1), (84, .getfield 34, 3), (87, .bipush 9, 2), (89, .iload 4, 2)]
set_option maxRecDepth 100000 in
theorem dk63_2 : ∀ e ∈ ck63_2, decode prog_8_method_12_code e.1 = .ok e.2 := by decide +kernel
def ck63_3 : List (Nat × Instr × Nat) := [(91, .iadd, 1), (92, .aload_n 0, 1), (93, .iload 7, 2), (95, .aload_n 1, 1), (96, .iload_n 3, 1), (97, .iload 6, 2), (99, .invokevirtual 116, 3), (102, .iastore, 1), (103, .iinc 4 1, 3), (106, .goto (-103), 3), (109, .return_, 1)]
set_option maxRecDepth 100000 in
theorem dk63_3 : ∀ e ∈ ck63_3, decode prog_8_method_12_code e.1 = .ok e.2 := by decide +kernel
def ck63 : List (Nat × List (Nat × Instr × Nat)) := [(27, ck63_0), (61, ck63_1), (91, ck63_2), (110, ck63_3)]
theorem dk63 : cOk prog_8_method_12_code ck63 := cOk_c dk63_0 (cOk_c dk63_1 (cOk_c dk63_2 (cOk_c dk63_3 (cOk_n))))
def ck64_0 : List (Nat × Instr × Nat) := [(0, .iload_n 1, 1), (1, .aload_n 2, 1), (2, .iload_n 3, 1), (3, .invokevirtual 120, 3), (6, .if_icmp .ne 8, 3), (9, .bipush 6, 2), (11, .goto 4, 3), (14, .iconst 0, 1), (15, .istore 5, 2), (17, .iload 4, 2), (19, .iconst 1, 1), (20, .if_icmp .eq 6, 3), (23, .iinc 5 (-1), 3), (26, .aload_n 0, 1), (27, .getfield 23, 3), (30, .iload_n 3, 1)]
set_option maxRecDepth 100000 in
theorem dk64_0 : ∀ e ∈ ck64_0, decode prog_8_method_13_code e.1 = .ok e.2 := by decide +kernel
def ck64_1 : List (Nat × Instr × Nat) := [(31, .invokevirtual 124, 3), (34, .ifCond .eq 8, 3), (37, .iload 5, 2), (39, .goto 7, 3), (42, .iload 5, 2), (44, .iconst 2, 1), (45, .isub, 1), (46, .ireturn, 1)]
set_option maxRecDepth 100000 in
theorem dk64_1 : ∀ e ∈ ck64_1, decode prog_8_method_13_code e.1 = .ok e.2 := by decide +kernel
def ck64 : List (Nat × List (Nat × Instr × Nat)) := [(31, ck64_0), (47, ck64_1)]
theorem dk64 : cOk prog_8_method_13_code ck64 := cOk_c dk64_0 (cOk_c dk64_1 (cOk_n))
def ck65_0 : List (Nat × Instr × Nat) := [(0, .aload_n 0, 1), (1, .getfield 34, 3), (4, .iload_n 1, 1), (5, .bipush 9, 2), (7, .imul, 1), (8, .iload_n 2, 1), (9, .iconst 3, 1), (10, .imul, 1), (11, .iadd, 1), (12, .iload_n 3, 1), (13, .iadd, 1), (14, .iaload, 1), (15, .ireturn, 1)]
set_option maxRecDepth 100000 in
theorem dk65_0 : ∀ e ∈ ck65_0, decode prog_8_method_14_code e.1 = .ok e.2 := by decide +kernel
def ck65 : List (Nat × List (Nat × Instr × Nat)) := [(16, ck65_0)]
theorem dk65 : cOk prog_8_method_14_code ck65 := cOk_c dk65_0 (cOk_n)
def ck66_0 : List (Nat × Instr × Nat) := [(0, .aload_n 0, 1), (1, .getfield 14, 3), (4, .iconst 0, 1), (5, .putfield 128, 3), (8, .iconst 0, 1), (9, .istore_n 1, 1), (10, .iload_n 1, 1), (11, .iconst 3, 1), (12, .if_icmp .ge 44, 3), (15, .iconst 0, 1), (16, .istore_n 2, 1), (17, .iload_n 2, 1), (18, .iconst 3, 1), (19, .if_icmp .ge 31, 3), (22, .aload_n 0, 1), (23, .iload_n 1, 1)]
set_option maxRecDepth 100000 in
theorem dk66_0 : ∀ e ∈ ck66_0, decode prog_8_method_15_code e.1 = .ok e.2 := by decide +kernel
def ck66_1 : List (Nat × Instr × Nat) := [(24, .iload_n 2, 1), (25, .invokevirtual 131, 3), (28, .ifCond .eq 16, 3), (31, .aload_n 0, 1), (32, .getfield 14, 3), (35, .bipush 10, 2), (37, .iload_n 1, 1), (38, .imul, 1), (39, .iload_n 2, 1), (40, .iadd, 1), (41, .invokevirtual 135, 3), (44, .iinc 2 1, 3), (47, .goto (-30), 3), (50, .iinc 1 1, 3), (53, .goto (-43), 3), (56, .return_, 1)]
set_option maxRecDepth 100000 in
theorem dk66_1 : ∀ e ∈ ck66_1, decode prog_8_method_15_code e.1 = .ok e.2 := by decide +kernel
def ck66 : List (Nat × List (Nat × Instr × Nat)) := [(24, ck66_0), (57, ck66_1)]
theorem dk66 : cOk prog_8_method_15_code ck66 := cOk_c dk66_0 (cOk_c dk66_1 (cOk_n))
def ck67_0 : List (Nat × Instr × Nat) := [(0, .iconst 0, 1), (1, .istore_n 3, 1), (2, .iload_n 3, 1), (3, .iconst 3, 1), (4, .if_icmp .ge 45, 3), (7, .aload_n 0, 1), (8, .iconst 0, 1), (9, .iload_n 3, 1), (10, .iload_n 2, 1), (11, .invokevirtual 138, 3), (14, .aload_n 0, 1), (15, .iconst 0, 1), (16, .iload_n 1, 1), (17, .iload_n 2, 1), (18, .invokevirtual 138, 3), (21, .if_icmp .gt 20, 3)]
set_option maxRecDepth 100000 in
theorem dk67_0 : ∀ e ∈ ck67_0, decode prog_8_method_16_code e.1 = .ok e.2 := by decide +kernel
def ck67_1 : List (Nat × Instr × Nat) := [(24, .aload_n 0, 1), (25, .iconst 1, 1), (26, .iload_n 1, 1), (27, .iload_n 3, 1), (28, .invokevirtual 138, 3), (31, .aload_n 0, 1), (32, .iconst 1, 1), (33, .iload_n 1, 1), (34, .iload_n 2, 1), (35, .invokevirtual 138, 3), (38, .if_icmp .le 5, 3), (41, .iconst 0, 1), (42, .ireturn, 1), (43, .iinc 3 1, 3), (46, .goto (-44), 3), (49, .iconst 1, 1)]
set_option maxRecDepth 100000 in
theorem dk67_1 : ∀ e ∈ ck67_1, decode prog_8_method_16_code e.1 = .ok e.2 := by decide +kernel
def ck67_2 : List (Nat × Instr × Nat) := [(50, .ireturn, 1)]
set_option maxRecDepth 100000 in
theorem dk67_2 : ∀ e ∈ ck67_2, decode prog_8_method_16_code e.1 = .ok e.2 := by decide +kernel
def ck67 : List (Nat × List (Nat × Instr × Nat)) := [(24, ck67_0), (50, ck67_1), (51, ck67_2)]
theorem dk67 : cOk prog_8_method_16_code ck67 := cOk_c dk67_0 (cOk_c dk67_1 (cOk_c dk67_2 (cOk_n)))
def ck68_0 : List (Nat × Instr × Nat) := [(0, .iload_n 3, 1), (1, .istore 4, 2), (3, .iconst 0, 1), (4, .istore 5, 2), (6, .iload 5, 2), (8, .aload_n 0, 1), (9, .getfield 37, 3), (12, .getfield 65, 3), (15, .getfield 77, 3), (18, .if_icmp .ge 72, 3), (21, .aload_n 1, 1), (22, .iload_n 2, 1), (23, .invokevirtual 141, 3), (26, .aload_n 1, 1), (27, .iload 5, 2), (29, .invokevirtual 141, 3)]
set_option maxRecDepth 100000 in
theorem dk68_0 : ∀ e ∈ ck68_0, decode prog_8_method_17_code e.1 = .ok e.2 := by decide +kernel
def ck68_1 : List (Nat × Instr × Nat) := [(32, .isub, 1), (33, .istore 6, 2), (35, .aload_n 1, 1), (36, .iload 5, 2), (38, .invokevirtual 124, 3), (41, .ifCond .eq 43, 3), (44, .iload 6, 2), (46, .ifCond .lt 38, 3), (49, .aload_n 1, 1), (50, .getfield 62, 3), (53, .iload_n 3, 1), (54, .aload_n 0, 1), (55, .getfield 37, 3), (58, .getfield 65, 3), (61, .iload 5, 2), (63, .invokevirtual 144, 3)]
set_option maxRecDepth 100000 in
theorem dk68_1 : ∀ e ∈ ck68_1, decode prog_8_method_17_code e.1 = .ok e.2 := by decide +kernel
def ck68_2 : List (Nat × Instr × Nat) := [(66, .isub, 1), (67, .invokestatic 147, 3), (70, .istore 7, 2), (72, .iload 4, 2), (74, .iload 7, 2), (76, .iload 6, 2), (78, .iadd, 1), (79, .invokestatic 152, 3), (82, .istore 4, 2), (84, .iinc 5 1, 3), (87, .goto (-81), 3), (90, .iload 4, 2), (92, .iload_n 3, 1), (93, .if_icmp .ge 8, 3), (96, .iload 4, 2), (98, .goto 4, 3)]
set_option maxRecDepth 100000 in
theorem dk68_2 : ∀ e ∈ ck68_2, decode prog_8_method_17_code e.1 = .ok e.2 := by decide +kernel
def ck68_3 : List (Nat × Instr × Nat) := [(101, .iconst (-1), 1), (102, .ireturn, 1)]
set_option maxRecDepth 100000 in
theorem dk68_3 : ∀ e ∈ ck68_3, decode prog_8_method_17_code e.1 = .ok e.2 := by decide +kernel
def ck68 : List (Nat × List (Nat × Instr × Nat)) := [(32, ck68_0), (66, ck68_1), (101, ck68_2), (103, ck68_3)]
theorem dk68 : cOk prog_8_method_17_code ck68 := cOk_c dk68_0 (cOk_c dk68_1 (cOk_c dk68_2 (cOk_c dk68_3 (cOk_n))))
def ck69_0 : List (Nat × Instr × Nat) := [(0, .aload_n 0, 1), (1, .getfield 14, 3), (4, .iconst 0, 1), (5, .putfield 128, 3), (8, .iconst 1, 1), (9, .aload_n 0, 1), (10, .getfield 37, 3), (13, .getfield 65, 3), (16, .getfield 155, 3), (19, .ishl, 1), (20, .istore 4, 2), (22, .iconst 0, 1), (23, .istore 5, 2), (25, .iload 5, 2), (27, .iload 4, 2), (29, .if_icmp .ge 95, 3)]
set_option maxRecDepth 100000 in
theorem dk69_0 : ∀ e ∈ ck69_0, decode prog_8_method_18_code e.1 = .ok e.2 := by decide +kernel
def ck69_1 : List (Nat × Instr × Nat) := [(32, .iload 5, 2), (34, .invokestatic 158, 3), (37, .istore 6, 2), (39, .iload 6, 2), (41, .iload_n 2, 1), (42, .if_icmp .lt 76, 3), (45, .iload 6, 2), (47, .iload_n 3, 1), (48, .if_icmp .gt 70, 3), (51, .iload 5, 2), (53, .aload_n 1, 1), (54, .getfield 163, 3), (57, .iand, 1), (58, .ifCond .ne 60, 3), (61, .aload_n 0, 1), (62, .getfield 23, 3)]
set_option maxRecDepth 100000 in
theorem dk69_1 : ∀ e ∈ ck69_1, decode prog_8_method_18_code e.1 = .ok e.2 := by decide +kernel
def ck69_2 : List (Nat × Instr × Nat) := [(65, .aload_n 1, 1), (66, .invokevirtual 41, 3), (69, .aload_n 0, 1), (70, .getfield 23, 3), (73, .dup, 1), (74, .getfield 163, 3), (77, .iload 5, 2), (79, .ior, 1), (80, .putfield 163, 3), (83, .aload_n 0, 1), (84, .getfield 37, 3), (87, .aload_n 0, 1), (88, .getfield 23, 3), (91, .invokevirtual 45, 3), (94, .pop, 1), (95, .aload_n 0, 1)]
set_option maxRecDepth 100000 in
theorem dk69_2 : ∀ e ∈ ck69_2, decode prog_8_method_18_code e.1 = .ok e.2 := by decide +kernel
def ck69_3 : List (Nat × Instr × Nat) := [(96, .getfield 23, 3), (99, .getfield 59, 3), (102, .aload_n 1, 1), (103, .getfield 59, 3), (106, .if_icmp .ne 12, 3), (109, .aload_n 0, 1), (110, .getfield 14, 3), (113, .iload 5, 2), (115, .invokevirtual 135, 3), (118, .iinc 5 1, 3), (121, .goto (-96), 3), (124, .return_, 1)]
set_option maxRecDepth 100000 in
theorem dk69_3 : ∀ e ∈ ck69_3, decode prog_8_method_18_code e.1 = .ok e.2 := by decide +kernel
def ck69 : List (Nat × List (Nat × Instr × Nat)) := [(32, ck69_0), (65, ck69_1), (96, ck69_2), (125, ck69_3)]
theorem dk69 : cOk prog_8_method_18_code ck69 := cOk_c dk69_0 (cOk_c dk69_1 (cOk_c dk69_2 (cOk_c dk69_3 (cOk_n))))
def ck70_0 : List (Nat × Instr × Nat) := [(0, .aload_n 0, 1), (1, .iconst 0, 1), (2, .invokevirtual 19, 3), (5, .istore_n 1, 1), (6, .iconst 1, 1), (7, .istore_n 2, 1), (8, .iload_n 2, 1), (9, .aload_n 0, 1), (10, .getfield 15, 3), (13, .if_icmp .ge 30, 3), (16, .aload_n 0, 1), (17, .iload_n 2, 1), (18, .invokevirtual 19, 3), (21, .invokestatic 23, 3), (24, .iload_n 1, 1), (25, .invokestatic 23, 3)]
set_option maxRecDepth 100000 in
theorem dk70_0 : ∀ e ∈ ck70_0, decode prog_4_method_5_code e.1 = .ok e.2 := by decide +kernel
def ck70_1 : List (Nat × Instr × Nat) := [(28, .if_icmp .ge 9, 3), (31, .aload_n 0, 1), (32, .iload_n 2, 1), (33, .invokevirtual 19, 3), (36, .istore_n 1, 1), (37, .iinc 2 1, 3), (40, .goto (-32), 3), (43, .iload_n 1, 1), (44, .ireturn, 1)]
set_option maxRecDepth 100000 in
theorem dk70_1 : ∀ e ∈ ck70_1, decode prog_4_method_5_code e.1 = .ok e.2 := by decide +kernel
def ck70 : List (Nat × List (Nat × Instr × Nat)) := [(28, ck70_0), (45, ck70_1)]
theorem dk70 : cOk prog_4_method_5_code ck70 := cOk_c dk70_0 (cOk_c dk70_1 (cOk_n))
def ck71_0 : List (Nat × Instr × Nat) := [(0, .lconst 0, 1), (1, .lstore 4, 2), (3, .aload_n 1, 1), (4, .getfield 59, 3), (7, .aload_n 0, 1), (8, .aload_n 1, 1), (9, .invokevirtual 166, 3), (12, .iconst (-1), 1), (13, .ixor, 1), (14, .iand, 1), (15, .istore 6, 2), (17, .iconst 0, 1), (18, .istore 7, 2), (20, .iload 7, 2), (22, .iload 6, 2), (24, .if_icmp .gt 133, 3)]
set_option maxRecDepth 100000 in
theorem dk71_0 : ∀ e ∈ ck71_0, decode prog_8_method_19_code e.1 = .ok e.2 := by decide +kernel
def ck71_1 : List (Nat × Instr × Nat) := [(27, .iload 7, 2), (29, .iload 6, 2), (31, .iconst (-1), 1), (32, .ixor, 1), (33, .iand, 1), (34, .ifCond .ne 15, 3), (37, .aload_n 0, 1), (38, .iload 6, 2), (40, .iload 7, 2), (42, .iload_n 3, 1), (43, .invokevirtual 169, 3), (46, .goto 4, 3), (49, .lconst 0, 1), (50, .lstore 8, 2), (52, .lload 8, 2), (54, .lconst 0, 1)]
set_option maxRecDepth 100000 in
theorem dk71_1 : ∀ e ∈ ck71_1, decode prog_8_method_19_code e.1 = .ok e.2 := by decide +kernel
def ck71_2 : List (Nat × Instr × Nat) := [(55, .lcmp, 1), (56, .ifCond .le 95, 3), (59, .aload_n 0, 1), (60, .getfield 23, 3), (63, .aload_n 1, 1), (64, .invokevirtual 41, 3), (67, .iconst 0, 1), (68, .istore 10, 2), (70, .iload 10, 2), (72, .aload_n 0, 1), (73, .getfield 37, 3), (76, .getfield 65, 3), (79, .getfield 77, 3), (82, .if_icmp .ge 47, 3), (85, .iload 7, 2), (87, .iload 10, 2)]
set_option maxRecDepth 100000 in
theorem dk71_2 : ∀ e ∈ ck71_2, decode prog_8_method_19_code e.1 = .ok e.2 := by decide +kernel
def ck71_3 : List (Nat × Instr × Nat) := [(89, .ishr, 1), (90, .iconst 1, 1), (91, .iand, 1), (92, .iconst 1, 1), (93, .if_icmp .ne 30, 3), (96, .aload_n 0, 1), (97, .getfield 23, 3), (100, .aload_n 0, 1), (101, .getfield 23, 3), (104, .getfield 90, 3), (107, .iload 10, 2), (109, .iconst 2, 1), (110, .aload_n 1, 1), (111, .iload 10, 2), (113, .invokevirtual 120, 3), (116, .isub, 1)]
set_option maxRecDepth 100000 in
theorem dk71_3 : ∀ e ∈ ck71_3, decode prog_8_method_19_code e.1 = .ok e.2 := by decide +kernel
def ck71_4 : List (Nat × Instr × Nat) := [(117, .invokestatic 100, 3), (120, .putfield 90, 3), (123, .iinc 10 1, 3), (126, .goto (-56), 3), (129, .aload_n 0, 1), (130, .getfield 37, 3), (133, .aload_n 0, 1), (134, .getfield 23, 3), (137, .invokevirtual 45, 3), (140, .iload_n 2, 1), (141, .if_icmp .ne 10, 3), (144, .lload 4, 2), (146, .lload 8, 2), (148, .ladd, 1), (149, .lstore 4, 2), (151, .iinc 7 1, 3)]
set_option maxRecDepth 100000 in
theorem dk71_4 : ∀ e ∈ ck71_4, decode prog_8_method_19_code e.1 = .ok e.2 := by decide +kernel
def ck71_5 : List (Nat × Instr × Nat) := [(154, .goto (-134), 3), (157, .lload 4, 2), (159, .l2i, 1), (160, .ireturn, 1)]
set_option maxRecDepth 100000 in
theorem dk71_5 : ∀ e ∈ ck71_5, decode prog_8_method_19_code e.1 = .ok e.2 := by decide +kernel
def ck71 : List (Nat × List (Nat × Instr × Nat)) := [(27, ck71_0), (55, ck71_1), (89, ck71_2), (117, ck71_3), (154, ck71_4), (161, ck71_5)]
theorem dk71 : cOk prog_8_method_19_code ck71 := cOk_c dk71_0 (cOk_c dk71_1 (cOk_c dk71_2 (cOk_c dk71_3 (cOk_c dk71_4 (cOk_c dk71_5 (cOk_n))))))
