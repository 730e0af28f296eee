/-! ===== the code of the methods, instruction by instruction (printed by program) ===== -/
def ck219_0 : List (Nat × Instr × Nat) := [(0, .aload_n 0, 1), (1, .invokevirtual 319, 3), (4, .istore_n 1, 1), (5, .aload_n 0, 1), (6, .getfield 61, 3), (9, .bipush 22, 2), (11, .aload_n 0, 1), (12, .aload_n 0, 1), (13, .getfield 61, 3), (16, .bipush 22, 2), (18, .iaload, 1), (19, .iload_n 1, 1), (20, .aload_n 0, 1), (21, .getfield 52, 3), (24, .iconst 2, 1), (25, .iaload, 1)]
set_option maxRecDepth 100000 in
theorem dk219_0 : ∀ e ∈ ck219_0, decode prog_14_method_57_code e.1 = .ok e.2 := by decide +kernel
def ck219_1 : List (Nat × Instr × Nat) := [(26, .if_icmp .lt 7, 3), (29, .iconst 1, 1), (30, .goto 19, 3), (33, .iload_n 1, 1), (34, .aload_n 0, 1), (35, .getfield 52, 3), (38, .iconst 2, 1), (39, .iaload, 1), (40, .ineg, 1), (41, .if_icmp .gt 7, 3), (44, .iconst (-1), 1), (45, .goto 4, 3), (48, .iconst 0, 1), (49, .invokevirtual 322, 3), (52, .iastore, 1), (53, .aload_n 0, 1)]
set_option maxRecDepth 100000 in
theorem dk219_1 : ∀ e ∈ ck219_1, decode prog_14_method_57_code e.1 = .ok e.2 := by decide +kernel
def ck219_2 : List (Nat × Instr × Nat) := [(54, .getfield 61, 3), (57, .bipush 21, 2), (59, .dup2, 1), (60, .iaload, 1), (61, .iconst 1, 1), (62, .iadd, 1), (63, .iastore, 1), (64, .aload_n 0, 1), (65, .invokevirtual 325, 3), (68, .istore_n 2, 1), (69, .iconst 0, 1), (70, .istore_n 3, 1), (71, .iload_n 2, 1), (72, .iconst (-1), 1), (73, .if_icmp .eq 15, 3), (76, .aload_n 0, 1)]
set_option maxRecDepth 100000 in
theorem dk219_2 : ∀ e ∈ ck219_2, decode prog_14_method_57_code e.1 = .ok e.2 := by decide +kernel
def ck219_3 : List (Nat × Instr × Nat) := [(77, .dup, 1), (78, .getfield 328, 3), (81, .iconst 1, 1), (82, .iload_n 2, 1), (83, .ishl, 1), (84, .ior, 1), (85, .putfield 328, 3), (88, .iload_n 2, 1), (89, .iconst (-1), 1), (90, .if_icmp .eq 118, 3), (93, .aload_n 0, 1), (94, .getfield 61, 3), (97, .bipush 19, 2), (99, .iaload, 1), (100, .iload_n 2, 1), (101, .invokestatic 228, 3)]
set_option maxRecDepth 100000 in
theorem dk219_3 : ∀ e ∈ ck219_3, decode prog_14_method_57_code e.1 = .ok e.2 := by decide +kernel
def ck219_4 : List (Nat × Instr × Nat) := [(104, .ifCond .ne 104, 3), (107, .iconst 0, 1), (108, .istore 4, 2), (110, .iload 4, 2), (112, .aload_n 0, 1), (113, .getfield 267, 3), (116, .if_icmp .ge 48, 3), (119, .iload_n 3, 1), (120, .aload_n 0, 1), (121, .iload 4, 2), (123, .invokevirtual 310, 3), (126, .ifCond .eq 29, 3), (129, .aload_n 0, 1), (130, .getfield 61, 3), (133, .bipush 6, 2), (135, .iload 4, 2)]
set_option maxRecDepth 100000 in
theorem dk219_4 : ∀ e ∈ ck219_4, decode prog_14_method_57_code e.1 = .ok e.2 := by decide +kernel
def ck219_5 : List (Nat × Instr × Nat) := [(137, .iadd, 1), (138, .iaload, 1), (139, .aload_n 0, 1), (140, .iload_n 2, 1), (141, .iconst 2, 1), (142, .invokevirtual 316, 3), (145, .if_icmp .ge 10, 3), (148, .iconst 1, 1), (149, .iload 4, 2), (151, .ishl, 1), (152, .goto 4, 3), (155, .iconst 0, 1), (156, .ior, 1), (157, .istore_n 3, 1), (158, .iinc 4 1, 3), (161, .goto (-51), 3)]
set_option maxRecDepth 100000 in
theorem dk219_5 : ∀ e ∈ ck219_5, decode prog_14_method_57_code e.1 = .ok e.2 := by decide +kernel
def ck219_6 : List (Nat × Instr × Nat) := [(164, .aload_n 0, 1), (165, .getfield 61, 3), (168, .bipush 18, 2), (170, .dup2, 1), (171, .iaload, 1), (172, .iload_n 3, 1), (173, .ior, 1), (174, .iastore, 1), (175, .aload_n 0, 1), (176, .getfield 61, 3), (179, .bipush 22, 2), (181, .aload_n 0, 1), (182, .aload_n 0, 1), (183, .getfield 61, 3), (186, .bipush 22, 2), (188, .iaload, 1)]
set_option maxRecDepth 100000 in
theorem dk219_6 : ∀ e ∈ ck219_6, decode prog_14_method_57_code e.1 = .ok e.2 := by decide +kernel
def ck219_7 : List (Nat × Instr × Nat) := [(189, .aload_n 0, 1), (190, .iload_n 2, 1), (191, .iconst 3, 1), (192, .invokevirtual 316, 3), (195, .iconst 1, 1), (196, .if_icmp .ne 7, 3), (199, .iconst 1, 1), (200, .goto 4, 3), (203, .iconst (-1), 1), (204, .invokevirtual 322, 3), (207, .iastore, 1), (208, .iload_n 3, 1), (209, .ireturn, 1)]
set_option maxRecDepth 100000 in
theorem dk219_7 : ∀ e ∈ ck219_7, decode prog_14_method_57_code e.1 = .ok e.2 := by decide +kernel
def ck219 : List (Nat × List (Nat × Instr × Nat)) := [(26, ck219_0), (54, ck219_1), (77, ck219_2), (104, ck219_3), (137, ck219_4), (164, ck219_5), (189, ck219_6), (210, ck219_7)]
theorem dk219 : cOk prog_14_method_57_code ck219 := cOk_c dk219_0 (cOk_c dk219_1 (cOk_c dk219_2 (cOk_c dk219_3 (cOk_c dk219_4 (cOk_c dk219_5 (cOk_c dk219_6 (cOk_c dk219_7 (cOk_n))))))))
def ck220_0 : List (Nat × Instr × Nat) := [(0, .aload_n 0, 1), (1, .getfield 61, 3), (4, .bipush 21, 2), (6, .iaload, 1), (7, .aload_n 0, 1), (8, .getfield 52, 3), (11, .iconst 3, 1), (12, .iaload, 1), (13, .if_icmp .ne 7, 3), (16, .iconst 1, 1), (17, .goto 4, 3), (20, .iconst 0, 1), (21, .ireturn, 1)]
set_option maxRecDepth 100000 in
theorem dk220_0 : ∀ e ∈ ck220_0, decode prog_14_method_58_code e.1 = .ok e.2 := by decide +kernel
def ck220 : List (Nat × List (Nat × Instr × Nat)) := [(22, ck220_0)]
theorem dk220 : cOk prog_14_method_58_code ck220 := cOk_c dk220_0 (cOk_n)
def ck221_0 : List (Nat × Instr × Nat) := [(0, .aload_n 0, 1), (1, .invokevirtual 331, 3), (4, .ifCond .ne 11, 3), (7, .aload_n 0, 1), (8, .invokevirtual 334, 3), (11, .pop, 1), (12, .goto (-12), 3), (15, .return_, 1)]
set_option maxRecDepth 100000 in
theorem dk221_0 : ∀ e ∈ ck221_0, decode prog_14_method_59_code e.1 = .ok e.2 := by decide +kernel
def ck221 : List (Nat × List (Nat × Instr × Nat)) := [(16, ck221_0)]
theorem dk221 : cOk prog_14_method_59_code ck221 := cOk_c dk221_0 (cOk_n)
def ck222_0 : List (Nat × Instr × Nat) := [(0, .aload_n 0, 1), (1, .invokevirtual 319, 3), (4, .istore_n 1, 1), (5, .aload_n 0, 1), (6, .invokevirtual 334, 3), (9, .istore_n 2, 1), (10, .aload_n 0, 1), (11, .getfield 61, 3), (14, .bipush 24, 2), (16, .iaload, 1), (17, .bipush 60, 2), (19, .if_icmp .ne 49, 3), (22, .iconst 3, 1), (23, .istore_n 3, 1), (24, .iload_n 3, 1), (25, .sipush 180, 3)]
set_option maxRecDepth 100000 in
theorem dk222_0 : ∀ e ∈ ck222_0, decode prog_14_method_60_code e.1 = .ok e.2 := by decide +kernel
def ck222_1 : List (Nat × Instr × Nat) := [(28, .if_icmp .ge 29, 3), (31, .aload_n 0, 1), (32, .getfield 61, 3), (35, .bipush 25, 2), (37, .iload_n 3, 1), (38, .iadd, 1), (39, .iconst 3, 1), (40, .isub, 1), (41, .aload_n 0, 1), (42, .getfield 61, 3), (45, .bipush 25, 2), (47, .iload_n 3, 1), (48, .iadd, 1), (49, .iaload, 1), (50, .iastore, 1), (51, .iinc 3 1, 3)]
set_option maxRecDepth 100000 in
theorem dk222_1 : ∀ e ∈ ck222_1, decode prog_14_method_60_code e.1 = .ok e.2 := by decide +kernel
def ck222_2 : List (Nat × Instr × Nat) := [(54, .goto (-30), 3), (57, .aload_n 0, 1), (58, .getfield 61, 3), (61, .bipush 24, 2), (63, .dup2, 1), (64, .iaload, 1), (65, .iconst 1, 1), (66, .isub, 1), (67, .iastore, 1), (68, .bipush 25, 2), (70, .iconst 3, 1), (71, .aload_n 0, 1), (72, .getfield 61, 3), (75, .bipush 24, 2), (77, .iaload, 1), (78, .imul, 1)]
set_option maxRecDepth 100000 in
theorem dk222_2 : ∀ e ∈ ck222_2, decode prog_14_method_60_code e.1 = .ok e.2 := by decide +kernel
def ck222_3 : List (Nat × Instr × Nat) := [(79, .iadd, 1), (80, .istore_n 3, 1), (81, .aload_n 0, 1), (82, .getfield 61, 3), (85, .iload_n 3, 1), (86, .aload_n 0, 1), (87, .getfield 61, 3), (90, .bipush 22, 2), (92, .iaload, 1), (93, .iastore, 1), (94, .aload_n 0, 1), (95, .getfield 61, 3), (98, .iload_n 3, 1), (99, .iconst 1, 1), (100, .iadd, 1), (101, .iload_n 1, 1)]
set_option maxRecDepth 100000 in
theorem dk222_3 : ∀ e ∈ ck222_3, decode prog_14_method_60_code e.1 = .ok e.2 := by decide +kernel
def ck222_4 : List (Nat × Instr × Nat) := [(102, .iastore, 1), (103, .aload_n 0, 1), (104, .getfield 61, 3), (107, .iload_n 3, 1), (108, .iconst 2, 1), (109, .iadd, 1), (110, .iload_n 2, 1), (111, .iastore, 1), (112, .aload_n 0, 1), (113, .getfield 61, 3), (116, .bipush 24, 2), (118, .dup2, 1), (119, .iaload, 1), (120, .iconst 1, 1), (121, .iadd, 1), (122, .iastore, 1)]
set_option maxRecDepth 100000 in
theorem dk222_4 : ∀ e ∈ ck222_4, decode prog_14_method_60_code e.1 = .ok e.2 := by decide +kernel
def ck222_5 : List (Nat × Instr × Nat) := [(123, .return_, 1)]
set_option maxRecDepth 100000 in
theorem dk222_5 : ∀ e ∈ ck222_5, decode prog_14_method_60_code e.1 = .ok e.2 := by decide +kernel
def ck222 : List (Nat × List (Nat × Instr × Nat)) := [(28, ck222_0), (54, ck222_1), (79, ck222_2), (102, ck222_3), (123, ck222_4), (124, ck222_5)]
theorem dk222 : cOk prog_14_method_60_code ck222 := cOk_c dk222_0 (cOk_c dk222_1 (cOk_c dk222_2 (cOk_c dk222_3 (cOk_c dk222_4 (cOk_c dk222_5 (cOk_n))))))
def ck223_0 : List (Nat × Instr × Nat) := [(0, .iload_n 1, 1), (1, .aload_n 0, 1), (2, .getfield 52, 3), (5, .iconst 0, 1), (6, .iaload, 1), (7, .iconst 2, 1), (8, .idiv, 1), (9, .if_icmp .ge 7, 3), (12, .iconst 0, 1), (13, .goto 22, 3), (16, .iload_n 1, 1), (17, .aload_n 0, 1), (18, .getfield 52, 3), (21, .iconst 0, 1), (22, .iaload, 1), (23, .iconst 1, 1)]
set_option maxRecDepth 100000 in
theorem dk223_0 : ∀ e ∈ ck223_0, decode prog_14_method_61_code e.1 = .ok e.2 := by decide +kernel
def ck223_1 : List (Nat × Instr × Nat) := [(24, .isub, 1), (25, .iconst 2, 1), (26, .idiv, 1), (27, .if_icmp .le 7, 3), (30, .iconst 2, 1), (31, .goto 4, 3), (34, .iconst 1, 1), (35, .ireturn, 1)]
set_option maxRecDepth 100000 in
theorem dk223_1 : ∀ e ∈ ck223_1, decode prog_14_method_61_code e.1 = .ok e.2 := by decide +kernel
def ck223 : List (Nat × List (Nat × Instr × Nat)) := [(24, ck223_0), (36, ck223_1)]
theorem dk223 : cOk prog_14_method_61_code ck223 := cOk_c dk223_0 (cOk_c dk223_1 (cOk_n))
def ck224_0 : List (Nat × Instr × Nat) := [(0, .aload_n 0, 1), (1, .getfield 267, 3), (4, .ifCond .eq 12, 3), (7, .iload_n 1, 1), (8, .iconst 0, 1), (9, .iconst 4, 1), (10, .invokestatic 217, 3), (13, .ifCond .ne 7, 3), (16, .iconst (-1), 1), (17, .goto 24, 3), (20, .iload_n 1, 1), (21, .iconst 4, 1), (22, .if_icmp .ne 13, 3), (25, .aload_n 0, 1), (26, .getfield 61, 3), (29, .bipush 20, 2)]
set_option maxRecDepth 100000 in
theorem dk224_0 : ∀ e ∈ ck224_0, decode prog_14_method_62_code e.1 = .ok e.2 := by decide +kernel
def ck224_1 : List (Nat × Instr × Nat) := [(31, .iaload, 1), (32, .goto 9, 3), (35, .aload_n 0, 1), (36, .getfield 52, 3), (39, .iload_n 1, 1), (40, .iaload, 1), (41, .ireturn, 1)]
set_option maxRecDepth 100000 in
theorem dk224_1 : ∀ e ∈ ck224_1, decode prog_14_method_62_code e.1 = .ok e.2 := by decide +kernel
def ck224 : List (Nat × List (Nat × Instr × Nat)) := [(31, ck224_0), (42, ck224_1)]
theorem dk224 : cOk prog_14_method_62_code ck224 := cOk_c dk224_0 (cOk_c dk224_1 (cOk_n))
def ck225_0 : List (Nat × Instr × Nat) := [(0, .aload_n 0, 1), (1, .iload_n 1, 1), (2, .invokevirtual 337, 3), (5, .ifCond .eq 12, 3), (8, .iload_n 2, 1), (9, .iconst 0, 1), (10, .iconst 4, 1), (11, .invokestatic 217, 3), (14, .ifCond .ne 7, 3), (17, .iconst (-1), 1), (18, .goto 28, 3), (21, .iload_n 2, 1), (22, .iconst 4, 1), (23, .if_icmp .ne 17, 3), (26, .aload_n 0, 1), (27, .getfield 61, 3)]
set_option maxRecDepth 100000 in
theorem dk225_0 : ∀ e ∈ ck225_0, decode prog_14_method_63_code e.1 = .ok e.2 := by decide +kernel
def ck225_1 : List (Nat × Instr × Nat) := [(30, .bipush 19, 2), (32, .iaload, 1), (33, .iload_n 1, 1), (34, .ishr, 1), (35, .iconst 1, 1), (36, .iand, 1), (37, .goto 9, 3), (40, .aload_n 0, 1), (41, .iload_n 1, 1), (42, .iload_n 2, 1), (43, .invokevirtual 316, 3), (46, .ireturn, 1)]
set_option maxRecDepth 100000 in
theorem dk225_1 : ∀ e ∈ ck225_1, decode prog_14_method_63_code e.1 = .ok e.2 := by decide +kernel
def ck225 : List (Nat × List (Nat × Instr × Nat)) := [(30, ck225_0), (47, ck225_1)]
theorem dk225 : cOk prog_14_method_63_code ck225 := cOk_c dk225_0 (cOk_c dk225_1 (cOk_n))
def ck226_0 : List (Nat × Instr × Nat) := [(0, .aload_n 0, 1), (1, .aload_n 0, 1), (2, .iload_n 1, 1), (3, .invokevirtual 340, 3), (6, .ifCond .eq 17, 3), (9, .iload_n 2, 1), (10, .iconst 0, 1), (11, .bipush 6, 2), (13, .invokestatic 217, 3), (16, .ifCond .eq 7, 3), (19, .iconst 0, 1), (20, .goto 4, 3), (23, .iconst 1, 1), (24, .putfield 102, 3), (27, .aload_n 0, 1), (28, .getfield 102, 3)]
set_option maxRecDepth 100000 in
theorem dk226_0 : ∀ e ∈ ck226_0, decode prog_14_method_64_code e.1 = .ok e.2 := by decide +kernel
def ck226_1 : List (Nat × Instr × Nat) := [(31, .iconst 1, 1), (32, .if_icmp .ne 5, 3), (35, .iconst 0, 1), (36, .ireturn, 1), (37, .iload_n 2, 1), (38, .tableswitch 87 1 6 #[38, 47, 87, 57, 67, 81], 38), (76, .aload_n 0, 1), (77, .getfield 61, 3), (80, .iconst 0, 1), (81, .iload_n 1, 1), (82, .iadd, 1), (83, .iaload, 1), (84, .ireturn, 1), (85, .aload_n 0, 1), (86, .getfield 61, 3), (89, .bipush 6, 2)]
set_option maxRecDepth 100000 in
theorem dk226_1 : ∀ e ∈ ck226_1, decode prog_14_method_64_code e.1 = .ok e.2 := by decide +kernel
def ck226_2 : List (Nat × Instr × Nat) := [(91, .iload_n 1, 1), (92, .iadd, 1), (93, .iaload, 1), (94, .ireturn, 1), (95, .aload_n 0, 1), (96, .getfield 61, 3), (99, .bipush 12, 2), (101, .iload_n 1, 1), (102, .iadd, 1), (103, .iaload, 1), (104, .ireturn, 1), (105, .aload_n 0, 1), (106, .iload_n 1, 1), (107, .invokevirtual 310, 3), (110, .ifCond .eq 7, 3), (113, .iconst 1, 1)]
set_option maxRecDepth 100000 in
theorem dk226_2 : ∀ e ∈ ck226_2, decode prog_14_method_64_code e.1 = .ok e.2 := by decide +kernel
def ck226_3 : List (Nat × Instr × Nat) := [(114, .goto 4, 3), (117, .iconst 0, 1), (118, .ireturn, 1), (119, .aload_n 0, 1), (120, .iload_n 1, 1), (121, .invokevirtual 313, 3), (124, .ireturn, 1), (125, .aload_n 0, 1), (126, .iload_n 1, 1), (127, .iload_n 2, 1), (128, .invokevirtual 270, 3), (131, .ireturn, 1)]
set_option maxRecDepth 100000 in
theorem dk226_3 : ∀ e ∈ ck226_3, decode prog_14_method_64_code e.1 = .ok e.2 := by decide +kernel
def ck226 : List (Nat × List (Nat × Instr × Nat)) := [(31, ck226_0), (91, ck226_1), (114, ck226_2), (132, ck226_3)]
theorem dk226 : cOk prog_14_method_64_code ck226 := cOk_c dk226_0 (cOk_c dk226_1 (cOk_c dk226_2 (cOk_c dk226_3 (cOk_n))))
def ck227_0 : List (Nat × Instr × Nat) := [(0, .iload_n 1, 1), (1, .iconst (-1), 1), (2, .aload_n 0, 1), (3, .getfield 295, 3), (6, .iconst 1, 1), (7, .isub, 1), (8, .invokestatic 217, 3), (11, .ifCond .ne 5, 3), (14, .iconst 0, 1), (15, .ireturn, 1), (16, .aload_n 0, 1), (17, .iload_n 1, 1), (18, .putfield 67, 3), (21, .iconst 1, 1), (22, .ireturn, 1)]
set_option maxRecDepth 100000 in
theorem dk227_0 : ∀ e ∈ ck227_0, decode prog_14_method_65_code e.1 = .ok e.2 := by decide +kernel
def ck227 : List (Nat × List (Nat × Instr × Nat)) := [(23, ck227_0)]
theorem dk227 : cOk prog_14_method_65_code ck227 := cOk_c dk227_0 (cOk_n)
def ck228_0 : List (Nat × Instr × Nat) := [(0, .aload_n 0, 1), (1, .getfield 285, 3), (4, .bipush 40, 2), (6, .if_icmp .ne 46, 3), (9, .sipush 205, 3), (12, .istore_n 1, 1), (13, .iload_n 1, 1), (14, .sipush 8200, 3), (17, .if_icmp .ge 25, 3), (20, .aload_n 0, 1), (21, .getfield 71, 3), (24, .iload_n 1, 1), (25, .sipush 205, 3), (28, .isub, 1), (29, .aload_n 0, 1), (30, .getfield 71, 3)]
set_option maxRecDepth 100000 in
theorem dk228_0 : ∀ e ∈ ck228_0, decode prog_14_method_66_code e.1 = .ok e.2 := by decide +kernel
def ck228_1 : List (Nat × Instr × Nat) := [(33, .iload_n 1, 1), (34, .iaload, 1), (35, .iastore, 1), (36, .iinc 1 1, 3), (39, .goto (-26), 3), (42, .aload_n 0, 1), (43, .dup, 1), (44, .getfield 285, 3), (47, .iconst 1, 1), (48, .isub, 1), (49, .putfield 285, 3), (52, .iconst 0, 1), (53, .istore_n 1, 1), (54, .iload_n 1, 1), (55, .sipush 205, 3), (58, .if_icmp .ge 30, 3)]
set_option maxRecDepth 100000 in
theorem dk228_1 : ∀ e ∈ ck228_1, decode prog_14_method_66_code e.1 = .ok e.2 := by decide +kernel
def ck228_2 : List (Nat × Instr × Nat) := [(61, .aload_n 0, 1), (62, .getfield 71, 3), (65, .sipush 205, 3), (68, .aload_n 0, 1), (69, .getfield 285, 3), (72, .imul, 1), (73, .iload_n 1, 1), (74, .iadd, 1), (75, .aload_n 0, 1), (76, .getfield 61, 3), (79, .iload_n 1, 1), (80, .iaload, 1), (81, .iastore, 1), (82, .iinc 1 1, 3), (85, .goto (-31), 3), (88, .aload_n 0, 1)]
set_option maxRecDepth 100000 in
theorem dk228_2 : ∀ e ∈ ck228_2, decode prog_14_method_66_code e.1 = .ok e.2 := by decide +kernel
def ck228_3 : List (Nat × Instr × Nat) := [(89, .dup, 1), (90, .getfield 285, 3), (93, .iconst 1, 1), (94, .iadd, 1), (95, .putfield 285, 3), (98, .return_, 1)]
set_option maxRecDepth 100000 in
theorem dk228_3 : ∀ e ∈ ck228_3, decode prog_14_method_66_code e.1 = .ok e.2 := by decide +kernel
def ck228 : List (Nat × List (Nat × Instr × Nat)) := [(33, ck228_0), (61, ck228_1), (89, ck228_2), (99, ck228_3)]
theorem dk228 : cOk prog_14_method_66_code ck228 := cOk_c dk228_0 (cOk_c dk228_1 (cOk_c dk228_2 (cOk_c dk228_3 (cOk_n))))
def ck229_0 : List (Nat × Instr × Nat) := [(0, .iload_n 1, 1), (1, .iconst (-1), 1), (2, .if_icmp .eq 13, 3), (5, .aload_n 0, 1), (6, .getfield 64, 3), (9, .iload_n 1, 1), (10, .dup2, 1), (11, .iaload, 1), (12, .iconst 1, 1), (13, .iadd, 1), (14, .iastore, 1), (15, .iload_n 1, 1), (16, .iconst (-1), 1), (17, .if_icmp .eq 7, 3), (20, .iconst 1, 1), (21, .goto 4, 3)]
set_option maxRecDepth 100000 in
theorem dk229_0 : ∀ e ∈ ck229_0, decode prog_14_method_67_code e.1 = .ok e.2 := by decide +kernel
def ck229_1 : List (Nat × Instr × Nat) := [(24, .iconst 0, 1), (25, .ireturn, 1)]
set_option maxRecDepth 100000 in
theorem dk229_1 : ∀ e ∈ ck229_1, decode prog_14_method_67_code e.1 = .ok e.2 := by decide +kernel
def ck229 : List (Nat × List (Nat × Instr × Nat)) := [(24, ck229_0), (26, ck229_1)]
theorem dk229 : cOk prog_14_method_67_code ck229 := cOk_c dk229_0 (cOk_c dk229_1 (cOk_n))
def ck230_0 : List (Nat × Instr × Nat) := [(0, .aload_n 0, 1), (1, .aload_n 0, 1), (2, .iload_n 1, 1), (3, .invokevirtual 340, 3), (6, .ifCond .ne 7, 3), (9, .iconst 0, 1), (10, .goto 33, 3), (13, .iload_n 2, 1), (14, .iconst 0, 1), (15, .iconst 2, 1), (16, .invokestatic 217, 3), (19, .ifCond .ne 7, 3), (22, .iconst 1, 1), (23, .goto 20, 3), (26, .aload_n 0, 1), (27, .getfield 61, 3)]
set_option maxRecDepth 100000 in
theorem dk230_0 : ∀ e ∈ ck230_0, decode prog_14_method_68_code e.1 = .ok e.2 := by decide +kernel
def ck230_1 : List (Nat × Instr × Nat) := [(30, .iconst 0, 1), (31, .iload_n 1, 1), (32, .iadd, 1), (33, .iaload, 1), (34, .iload_n 2, 1), (35, .if_icmp .ne 7, 3), (38, .iconst 2, 1), (39, .goto 4, 3), (42, .iconst (-1), 1), (43, .invokevirtual 343, 3), (46, .ifCond .eq 5, 3), (49, .iconst (-1), 1), (50, .ireturn, 1), (51, .aload_n 0, 1), (52, .invokevirtual 346, 3), (55, .aload_n 0, 1)]
set_option maxRecDepth 100000 in
theorem dk230_1 : ∀ e ∈ ck230_1, decode prog_14_method_68_code e.1 = .ok e.2 := by decide +kernel
def ck230_2 : List (Nat × Instr × Nat) := [(56, .getfield 61, 3), (59, .iconst 0, 1), (60, .iload_n 1, 1), (61, .iadd, 1), (62, .iaload, 1), (63, .istore_n 3, 1), (64, .aload_n 0, 1), (65, .getfield 61, 3), (68, .iconst 0, 1), (69, .iload_n 1, 1), (70, .iadd, 1), (71, .iload_n 2, 1), (72, .iastore, 1), (73, .iload_n 3, 1), (74, .ireturn, 1)]
set_option maxRecDepth 100000 in
theorem dk230_2 : ∀ e ∈ ck230_2, decode prog_14_method_68_code e.1 = .ok e.2 := by decide +kernel
def ck230 : List (Nat × List (Nat × Instr × Nat)) := [(30, ck230_0), (56, ck230_1), (75, ck230_2)]
theorem dk230 : cOk prog_14_method_68_code ck230 := cOk_c dk230_0 (cOk_c dk230_1 (cOk_c dk230_2 (cOk_n)))
def ck231_0 : List (Nat × Instr × Nat) := [(0, .aload_n 0, 1), (1, .getfield 61, 3), (4, .bipush 12, 2), (6, .iload_n 1, 1), (7, .iadd, 1), (8, .iaload, 1), (9, .istore_n 3, 1), (10, .aload_n 0, 1), (11, .getfield 61, 3), (14, .bipush 12, 2), (16, .iload_n 1, 1), (17, .iadd, 1), (18, .aload_n 0, 1), (19, .getfield 61, 3), (22, .bipush 12, 2), (24, .iload_n 2, 1)]
set_option maxRecDepth 100000 in
theorem dk231_0 : ∀ e ∈ ck231_0, decode prog_14_method_69_code e.1 = .ok e.2 := by decide +kernel
def ck231_1 : List (Nat × Instr × Nat) := [(25, .iadd, 1), (26, .iaload, 1), (27, .iastore, 1), (28, .aload_n 0, 1), (29, .getfield 61, 3), (32, .bipush 12, 2), (34, .iload_n 2, 1), (35, .iadd, 1), (36, .iload_n 3, 1), (37, .iastore, 1), (38, .return_, 1)]
set_option maxRecDepth 100000 in
theorem dk231_1 : ∀ e ∈ ck231_1, decode prog_14_method_69_code e.1 = .ok e.2 := by decide +kernel
def ck231 : List (Nat × List (Nat × Instr × Nat)) := [(25, ck231_0), (39, ck231_1)]
theorem dk231 : cOk prog_14_method_69_code ck231 := cOk_c dk231_0 (cOk_c dk231_1 (cOk_n))
def ck232_0 : List (Nat × Instr × Nat) := [(0, .aload_n 0, 1), (1, .aload_n 0, 1), (2, .iload_n 1, 1), (3, .invokevirtual 340, 3), (6, .ifCond .eq 11, 3), (9, .aload_n 0, 1), (10, .iload_n 2, 1), (11, .invokevirtual 340, 3), (14, .ifCond .ne 7, 3), (17, .iconst 0, 1), (18, .goto 13, 3), (21, .iload_n 1, 1), (22, .iload_n 2, 1), (23, .if_icmp .ne 7, 3), (26, .iconst 2, 1), (27, .goto 4, 3)]
set_option maxRecDepth 100000 in
theorem dk232_0 : ∀ e ∈ ck232_0, decode prog_14_method_70_code e.1 = .ok e.2 := by decide +kernel
def ck232_1 : List (Nat × Instr × Nat) := [(30, .iconst (-1), 1), (31, .invokevirtual 343, 3), (34, .ifCond .eq 5, 3), (37, .iconst (-1), 1), (38, .ireturn, 1), (39, .aload_n 0, 1), (40, .invokevirtual 346, 3), (43, .aload_n 0, 1), (44, .iload_n 1, 1), (45, .iload_n 2, 1), (46, .invokevirtual 349, 3), (49, .aload_n 0, 1), (50, .getfield 61, 3), (53, .bipush 12, 2), (55, .iload_n 1, 1), (56, .iadd, 1)]
set_option maxRecDepth 100000 in
theorem dk232_1 : ∀ e ∈ ck232_1, decode prog_14_method_70_code e.1 = .ok e.2 := by decide +kernel
def ck232_2 : List (Nat × Instr × Nat) := [(57, .iaload, 1), (58, .ireturn, 1)]
set_option maxRecDepth 100000 in
theorem dk232_2 : ∀ e ∈ ck232_2, decode prog_14_method_70_code e.1 = .ok e.2 := by decide +kernel
def ck232 : List (Nat × List (Nat × Instr × Nat)) := [(30, ck232_0), (57, ck232_1), (59, ck232_2)]
theorem dk232 : cOk prog_14_method_70_code ck232 := cOk_c dk232_0 (cOk_c dk232_1 (cOk_c dk232_2 (cOk_n)))
def ck233_0 : List (Nat × Instr × Nat) := [(0, .aload_n 0, 1), (1, .aload_n 0, 1), (2, .iload_n 1, 1), (3, .invokevirtual 340, 3), (6, .ifCond .ne 7, 3), (9, .iconst 0, 1), (10, .goto 22, 3), (13, .aload_n 0, 1), (14, .getfield 61, 3), (17, .bipush 6, 2), (19, .iload_n 1, 1), (20, .iadd, 1), (21, .iaload, 1), (22, .bipush 9, 2), (24, .if_icmp .ne 7, 3), (27, .iconst 2, 1)]
set_option maxRecDepth 100000 in
theorem dk233_0 : ∀ e ∈ ck233_0, decode prog_14_method_71_code e.1 = .ok e.2 := by decide +kernel
def ck233_1 : List (Nat × Instr × Nat) := [(28, .goto 4, 3), (31, .iconst (-1), 1), (32, .invokevirtual 343, 3), (35, .ifCond .eq 5, 3), (38, .iconst (-1), 1), (39, .ireturn, 1), (40, .aload_n 0, 1), (41, .invokevirtual 346, 3), (44, .aload_n 0, 1), (45, .getfield 61, 3), (48, .bipush 6, 2), (50, .iload_n 1, 1), (51, .iadd, 1), (52, .dup2, 1), (53, .iaload, 1), (54, .iconst 1, 1)]
set_option maxRecDepth 100000 in
theorem dk233_1 : ∀ e ∈ ck233_1, decode prog_14_method_71_code e.1 = .ok e.2 := by decide +kernel
def ck233_2 : List (Nat × Instr × Nat) := [(55, .iadd, 1), (56, .iastore, 1), (57, .aload_n 0, 1), (58, .getfield 61, 3), (61, .bipush 6, 2), (63, .iload_n 1, 1), (64, .iadd, 1), (65, .iaload, 1), (66, .ireturn, 1)]
set_option maxRecDepth 100000 in
theorem dk233_2 : ∀ e ∈ ck233_2, decode prog_14_method_71_code e.1 = .ok e.2 := by decide +kernel
def ck233 : List (Nat × List (Nat × Instr × Nat)) := [(28, ck233_0), (55, ck233_1), (67, ck233_2)]
theorem dk233 : cOk prog_14_method_71_code ck233 := cOk_c dk233_0 (cOk_c dk233_1 (cOk_c dk233_2 (cOk_n)))
def ck234_0 : List (Nat × Instr × Nat) := [(0, .aload_n 0, 1), (1, .aload_n 0, 1), (2, .iload_n 1, 1), (3, .invokevirtual 337, 3), (6, .ifCond .ne 7, 3), (9, .iconst 0, 1), (10, .goto 36, 3), (13, .aload_n 0, 1), (14, .getfield 61, 3), (17, .bipush 19, 2), (19, .iaload, 1), (20, .iload_n 1, 1), (21, .invokestatic 228, 3), (24, .ifCond .eq 7, 3), (27, .iconst 2, 1), (28, .goto 18, 3)]
set_option maxRecDepth 100000 in
theorem dk234_0 : ∀ e ∈ ck234_0, decode prog_14_method_72_code e.1 = .ok e.2 := by decide +kernel
def ck234_1 : List (Nat × Instr × Nat) := [(31, .aload_n 0, 1), (32, .getfield 61, 3), (35, .bipush 20, 2), (37, .iaload, 1), (38, .ifCond .ne 7, 3), (41, .iconst 3, 1), (42, .goto 4, 3), (45, .iconst (-1), 1), (46, .invokevirtual 343, 3), (49, .ifCond .eq 5, 3), (52, .iconst (-1), 1), (53, .ireturn, 1), (54, .aload_n 0, 1), (55, .invokevirtual 346, 3), (58, .aload_n 0, 1), (59, .getfield 61, 3)]
set_option maxRecDepth 100000 in
theorem dk234_1 : ∀ e ∈ ck234_1, decode prog_14_method_72_code e.1 = .ok e.2 := by decide +kernel
def ck234_2 : List (Nat × Instr × Nat) := [(62, .bipush 19, 2), (64, .dup2, 1), (65, .iaload, 1), (66, .iconst 1, 1), (67, .iload_n 1, 1), (68, .ishl, 1), (69, .ior, 1), (70, .iastore, 1), (71, .aload_n 0, 1), (72, .getfield 61, 3), (75, .bipush 20, 2), (77, .dup2, 1), (78, .iaload, 1), (79, .iconst 1, 1), (80, .isub, 1), (81, .iastore, 1)]
set_option maxRecDepth 100000 in
theorem dk234_2 : ∀ e ∈ ck234_2, decode prog_14_method_72_code e.1 = .ok e.2 := by decide +kernel
def ck234_3 : List (Nat × Instr × Nat) := [(82, .aload_n 0, 1), (83, .getfield 61, 3), (86, .bipush 20, 2), (88, .iaload, 1), (89, .ireturn, 1)]
set_option maxRecDepth 100000 in
theorem dk234_3 : ∀ e ∈ ck234_3, decode prog_14_method_72_code e.1 = .ok e.2 := by decide +kernel
def ck234 : List (Nat × List (Nat × Instr × Nat)) := [(31, ck234_0), (62, ck234_1), (82, ck234_2), (90, ck234_3)]
theorem dk234 : cOk prog_14_method_72_code ck234 := cOk_c dk234_0 (cOk_c dk234_1 (cOk_c dk234_2 (cOk_c dk234_3 (cOk_n))))
def ck235_0 : List (Nat × Instr × Nat) := [(0, .aload_n 0, 1), (1, .aload_n 0, 1), (2, .getfield 267, 3), (5, .ifCond .ne 7, 3), (8, .iconst 0, 1), (9, .goto 40, 3), (12, .iload_n 1, 1), (13, .iconst 1, 1), (14, .bipush 20, 2), (16, .invokestatic 217, 3), (19, .ifCond .ne 7, 3), (22, .iconst 1, 1), (23, .goto 26, 3), (26, .aload_n 0, 1), (27, .getfield 61, 3), (30, .bipush 21, 2)]
set_option maxRecDepth 100000 in
theorem dk235_0 : ∀ e ∈ ck235_0, decode prog_14_method_73_code e.1 = .ok e.2 := by decide +kernel
def ck235_1 : List (Nat × Instr × Nat) := [(32, .iaload, 1), (33, .iload_n 1, 1), (34, .iadd, 1), (35, .aload_n 0, 1), (36, .getfield 52, 3), (39, .iconst 3, 1), (40, .iaload, 1), (41, .if_icmp .le 7, 3), (44, .iconst 4, 1), (45, .goto 4, 3), (48, .iconst (-1), 1), (49, .invokevirtual 343, 3), (52, .ifCond .eq 5, 3), (55, .iconst (-1), 1), (56, .ireturn, 1), (57, .iconst 0, 1)]
set_option maxRecDepth 100000 in
theorem dk235_1 : ∀ e ∈ ck235_1, decode prog_14_method_73_code e.1 = .ok e.2 := by decide +kernel
def ck235_2 : List (Nat × Instr × Nat) := [(58, .istore_n 2, 1), (59, .iload_n 2, 1), (60, .iload_n 1, 1), (61, .if_icmp .ge 17, 3), (64, .aload_n 0, 1), (65, .invokevirtual 346, 3), (68, .aload_n 0, 1), (69, .invokevirtual 352, 3), (72, .iinc 2 1, 3), (75, .goto (-16), 3), (78, .aload_n 0, 1), (79, .getfield 61, 3), (82, .bipush 22, 2), (84, .iaload, 1), (85, .ireturn, 1)]
set_option maxRecDepth 100000 in
theorem dk235_2 : ∀ e ∈ ck235_2, decode prog_14_method_73_code e.1 = .ok e.2 := by decide +kernel
def ck235 : List (Nat × List (Nat × Instr × Nat)) := [(32, ck235_0), (58, ck235_1), (86, ck235_2)]
theorem dk235 : cOk prog_14_method_73_code ck235 := cOk_c dk235_0 (cOk_c dk235_1 (cOk_c dk235_2 (cOk_n)))
def ck236_0 : List (Nat × Instr × Nat) := [(0, .aload_n 0, 1), (1, .getfield 61, 3), (4, .bipush 21, 2), (6, .iconst 0, 1), (7, .iastore, 1), (8, .aload_n 0, 1), (9, .getfield 61, 3), (12, .bipush 22, 2), (14, .aload_n 0, 1), (15, .getfield 52, 3), (18, .iconst 1, 1), (19, .iaload, 1), (20, .iastore, 1), (21, .aload_n 0, 1), (22, .getfield 61, 3), (25, .bipush 18, 2)]
set_option maxRecDepth 100000 in
theorem dk236_0 : ∀ e ∈ ck236_0, decode prog_14_method_74_code e.1 = .ok e.2 := by decide +kernel
def ck236_1 : List (Nat × Instr × Nat) := [(27, .iconst 0, 1), (28, .iastore, 1), (29, .aload_n 0, 1), (30, .getfield 61, 3), (33, .bipush 23, 2), (35, .dup2, 1), (36, .iaload, 1), (37, .iconst 1, 1), (38, .iadd, 1), (39, .iastore, 1), (40, .return_, 1)]
set_option maxRecDepth 100000 in
theorem dk236_1 : ∀ e ∈ ck236_1, decode prog_14_method_74_code e.1 = .ok e.2 := by decide +kernel
def ck236 : List (Nat × List (Nat × Instr × Nat)) := [(27, ck236_0), (41, ck236_1)]
theorem dk236 : cOk prog_14_method_74_code ck236 := cOk_c dk236_0 (cOk_c dk236_1 (cOk_n))
def ck237_0 : List (Nat × Instr × Nat) := [(0, .aload_n 0, 1), (1, .aload_n 0, 1), (2, .getfield 267, 3), (5, .ifCond .ne 7, 3), (8, .iconst 0, 1), (9, .goto 15, 3), (12, .aload_n 0, 1), (13, .invokevirtual 331, 3), (16, .ifCond .ne 7, 3), (19, .iconst 4, 1), (20, .goto 4, 3), (23, .iconst (-1), 1), (24, .invokevirtual 343, 3), (27, .ifCond .eq 5, 3), (30, .iconst (-1), 1), (31, .ireturn, 1)]
set_option maxRecDepth 100000 in
theorem dk237_0 : ∀ e ∈ ck237_0, decode prog_14_method_75_code e.1 = .ok e.2 := by decide +kernel
def ck237_1 : List (Nat × Instr × Nat) := [(32, .aload_n 0, 1), (33, .invokevirtual 346, 3), (36, .aload_n 0, 1), (37, .invokevirtual 355, 3), (40, .aload_n 0, 1), (41, .getfield 61, 3), (44, .bipush 23, 2), (46, .iaload, 1), (47, .ireturn, 1)]
set_option maxRecDepth 100000 in
theorem dk237_1 : ∀ e ∈ ck237_1, decode prog_14_method_75_code e.1 = .ok e.2 := by decide +kernel
def ck237 : List (Nat × List (Nat × Instr × Nat)) := [(32, ck237_0), (48, ck237_1)]
theorem dk237 : cOk prog_14_method_75_code ck237 := cOk_c dk237_0 (cOk_c dk237_1 (cOk_n))
def ck238_0 : List (Nat × Instr × Nat) := [(0, .iload_n 1, 1), (1, .iconst 0, 1), (2, .bipush 9, 2), (4, .invokestatic 217, 3), (7, .ifCond .eq 11, 3), (10, .iload_n 1, 1), (11, .aload_n 0, 1), (12, .getfield 358, 3), (15, .if_icmp .ne 5, 3), (18, .iconst 0, 1), (19, .ireturn, 1), (20, .aload_n 0, 1), (21, .iload_n 1, 1), (22, .putfield 358, 3), (25, .iconst 1, 1), (26, .ireturn, 1)]
set_option maxRecDepth 100000 in
theorem dk238_0 : ∀ e ∈ ck238_0, decode prog_14_method_76_code e.1 = .ok e.2 := by decide +kernel
def ck238 : List (Nat × List (Nat × Instr × Nat)) := [(27, ck238_0)]
theorem dk238 : cOk prog_14_method_76_code ck238 := cOk_c dk238_0 (cOk_n)
def ck239_0 : List (Nat × Instr × Nat) := [(0, .aload_n 0, 1), (1, .aload_n 0, 1), (2, .getfield 361, 3), (5, .ldc2_w 365, 3), (8, .lmul, 1), (9, .ldc2_w 367, 3), (12, .ladd, 1), (13, .putfield 361, 3), (16, .aload_n 0, 1), (17, .getfield 361, 3), (20, .bipush 33, 2), (22, .lushr, 1), (23, .iload_n 1, 1), (24, .i2l, 1), (25, .lrem, 1), (26, .l2i, 1)]
set_option maxRecDepth 100000 in
theorem dk239_0 : ∀ e ∈ ck239_0, decode prog_14_method_77_code e.1 = .ok e.2 := by decide +kernel
def ck239_1 : List (Nat × Instr × Nat) := [(27, .ireturn, 1)]
set_option maxRecDepth 100000 in
theorem dk239_1 : ∀ e ∈ ck239_1, decode prog_14_method_77_code e.1 = .ok e.2 := by decide +kernel
def ck239 : List (Nat × List (Nat × Instr × Nat)) := [(27, ck239_0), (28, ck239_1)]
theorem dk239 : cOk prog_14_method_77_code ck239 := cOk_c dk239_0 (cOk_c dk239_1 (cOk_n))
def ck240_0 : List (Nat × Instr × Nat) := [(0, .aload_n 0, 1), (1, .invokevirtual 331, 3), (4, .ifCond .eq 7, 3), (7, .aload_n 0, 1), (8, .invokevirtual 355, 3), (11, .iconst 0, 1), (12, .istore_n 1, 1), (13, .iload_n 1, 1), (14, .aload_n 0, 1), (15, .getfield 267, 3), (18, .if_icmp .ge 22, 3), (21, .aload_n 0, 1), (22, .getfield 61, 3), (25, .iconst 0, 1), (26, .iload_n 1, 1), (27, .iadd, 1)]
set_option maxRecDepth 100000 in
theorem dk240_0 : ∀ e ∈ ck240_0, decode prog_14_method_78_code e.1 = .ok e.2 := by decide +kernel
def ck240_1 : List (Nat × Instr × Nat) := [(28, .aload_n 0, 1), (29, .iconst 3, 1), (30, .invokevirtual 369, 3), (33, .iastore, 1), (34, .iinc 1 1, 3), (37, .goto (-24), 3), (40, .aload_n 0, 1), (41, .bipush 10, 2), (43, .invokevirtual 369, 3), (46, .aload_n 0, 1), (47, .getfield 358, 3), (50, .if_icmp .ge 27, 3), (53, .aload_n 0, 1), (54, .aload_n 0, 1), (55, .getfield 267, 3), (58, .invokevirtual 369, 3)]
set_option maxRecDepth 100000 in
theorem dk240_1 : ∀ e ∈ ck240_1, decode prog_14_method_78_code e.1 = .ok e.2 := by decide +kernel
def ck240_2 : List (Nat × Instr × Nat) := [(61, .istore_n 1, 1), (62, .aload_n 0, 1), (63, .aload_n 0, 1), (64, .getfield 267, 3), (67, .invokevirtual 369, 3), (70, .istore_n 2, 1), (71, .aload_n 0, 1), (72, .iload_n 1, 1), (73, .iload_n 2, 1), (74, .invokevirtual 349, 3), (77, .aload_n 0, 1), (78, .invokevirtual 331, 3), (81, .ifCond .ne 10, 3), (84, .aload_n 0, 1), (85, .invokevirtual 352, 3), (88, .goto (-11), 3)]
set_option maxRecDepth 100000 in
theorem dk240_2 : ∀ e ∈ ck240_2, decode prog_14_method_78_code e.1 = .ok e.2 := by decide +kernel
def ck240_3 : List (Nat × Instr × Nat) := [(91, .return_, 1)]
set_option maxRecDepth 100000 in
theorem dk240_3 : ∀ e ∈ ck240_3, decode prog_14_method_78_code e.1 = .ok e.2 := by decide +kernel
def ck240 : List (Nat × List (Nat × Instr × Nat)) := [(28, ck240_0), (61, ck240_1), (91, ck240_2), (92, ck240_3)]
theorem dk240 : cOk prog_14_method_78_code ck240 := cOk_c dk240_0 (cOk_c dk240_1 (cOk_c dk240_2 (cOk_c dk240_3 (cOk_n))))
