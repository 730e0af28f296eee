/-! ===== the code of the methods, instruction by instruction (printed by program) ===== -/
def ck264_0 : List (Nat × Instr × Nat) := [(0, .aload_n 0, 1), (1, .getfield 61, 3), (4, .bipush 18, 2), (6, .iaload, 1), (7, .istore_n 2, 1), (8, .aload_n 0, 1), (9, .invokevirtual 388, 3), (12, .aload_n 0, 1), (13, .getfield 61, 3), (16, .bipush 19, 2), (18, .dup2, 1), (19, .iaload, 1), (20, .iload_n 1, 1), (21, .ior, 1), (22, .iastore, 1), (23, .aload_n 0, 1)]
set_option maxRecDepth 100000 in
theorem dk264_0 : ∀ e ∈ ck264_0, decode prog_14_method_102_code e.1 = .ok e.2 := by decide +kernel
def ck264_1 : List (Nat × Instr × Nat) := [(24, .invokevirtual 391, 3), (27, .aload_n 0, 1), (28, .getfield 382, 3), (31, .iload_n 2, 1), (32, .if_icmp .ne 7, 3), (35, .iconst 1, 1), (36, .goto 4, 3), (39, .iconst 0, 1), (40, .ireturn, 1)]
set_option maxRecDepth 100000 in
theorem dk264_1 : ∀ e ∈ ck264_1, decode prog_14_method_102_code e.1 = .ok e.2 := by decide +kernel
def ck264 : List (Nat × List (Nat × Instr × Nat)) := [(24, ck264_0), (41, ck264_1)]
theorem dk264 : cOk prog_14_method_102_code ck264 := cOk_c dk264_0 (cOk_c dk264_1 (cOk_n))
def ck265_0 : List (Nat × Instr × Nat) := [(0, .iload_n 1, 1), (1, .aload_n 0, 1), (2, .getfield 61, 3), (5, .bipush 19, 2), (7, .iaload, 1), (8, .iand, 1), (9, .ifCond .ne 15, 3), (12, .aload_n 0, 1), (13, .iload_n 1, 1), (14, .invokevirtual 434, 3), (17, .ifCond .eq 7, 3), (20, .iconst 1, 1), (21, .goto 4, 3), (24, .iconst 0, 1), (25, .ireturn, 1)]
set_option maxRecDepth 100000 in
theorem dk265_0 : ∀ e ∈ ck265_0, decode prog_14_method_103_code e.1 = .ok e.2 := by decide +kernel
def ck265 : List (Nat × List (Nat × Instr × Nat)) := [(26, ck265_0)]
theorem dk265 : cOk prog_14_method_103_code ck265 := cOk_c dk265_0 (cOk_n)
def ck266_0 : List (Nat × Instr × Nat) := [(0, .aload_n 0, 1), (1, .getfield 267, 3), (4, .ifCond .eq 17, 3), (7, .iload_n 1, 1), (8, .iconst 0, 1), (9, .iconst 3, 1), (10, .invokestatic 217, 3), (13, .ifCond .eq 8, 3), (16, .iload_n 2, 1), (17, .iconst (-1), 1), (18, .if_icmp .ge 5, 3), (21, .iconst (-1), 1), (22, .ireturn, 1), (23, .iconst 0, 1), (24, .istore_n 3, 1), (25, .iconst 0, 1)]
set_option maxRecDepth 100000 in
theorem dk266_0 : ∀ e ∈ ck266_0, decode prog_14_method_104_code e.1 = .ok e.2 := by decide +kernel
def ck266_1 : List (Nat × Instr × Nat) := [(26, .istore 4, 2), (28, .iload 4, 2), (30, .iconst 1, 1), (31, .aload_n 0, 1), (32, .getfield 273, 3), (35, .ishl, 1), (36, .if_icmp .ge 38, 3), (39, .iload 4, 2), (41, .invokestatic 298, 3), (44, .iload_n 1, 1), (45, .if_icmp .ne 23, 3), (48, .aload_n 0, 1), (49, .iload 4, 2), (51, .invokevirtual 437, 3), (54, .ifCond .eq 14, 3), (57, .iload_n 3, 1)]
set_option maxRecDepth 100000 in
theorem dk266_1 : ∀ e ∈ ck266_1, decode prog_14_method_104_code e.1 = .ok e.2 := by decide +kernel
def ck266_2 : List (Nat × Instr × Nat) := [(58, .iload_n 2, 1), (59, .if_icmp .ne 6, 3), (62, .iload 4, 2), (64, .ireturn, 1), (65, .iinc 3 1, 3), (68, .iinc 4 1, 3), (71, .goto (-43), 3), (74, .iload_n 2, 1), (75, .iconst (-1), 1), (76, .if_icmp .ne 7, 3), (79, .iload_n 3, 1), (80, .goto 4, 3), (83, .iconst (-1), 1), (84, .ireturn, 1)]
set_option maxRecDepth 100000 in
theorem dk266_2 : ∀ e ∈ ck266_2, decode prog_14_method_104_code e.1 = .ok e.2 := by decide +kernel
def ck266 : List (Nat × List (Nat × Instr × Nat)) := [(26, ck266_0), (58, ck266_1), (85, ck266_2)]
theorem dk266 : cOk prog_14_method_104_code ck266 := cOk_c dk266_0 (cOk_c dk266_1 (cOk_c dk266_2 (cOk_n)))
def ck267_0 : List (Nat × Instr × Nat) := [(0, .aload_n 0, 1), (1, .getfield 267, 3), (4, .ifCond .ne 5, 3), (7, .iconst (-1), 1), (8, .ireturn, 1), (9, .iconst (-1), 1), (10, .istore_n 1, 1), (11, .iconst 0, 1), (12, .istore_n 2, 1), (13, .iload_n 2, 1), (14, .iconst 1, 1), (15, .aload_n 0, 1), (16, .getfield 273, 3), (19, .ishl, 1), (20, .if_icmp .ge 49, 3), (23, .iload_n 1, 1)]
set_option maxRecDepth 100000 in
theorem dk267_0 : ∀ e ∈ ck267_0, decode prog_14_method_105_code e.1 = .ok e.2 := by decide +kernel
def ck267_1 : List (Nat × Instr × Nat) := [(24, .iconst (-1), 1), (25, .if_icmp .eq 14, 3), (28, .iload_n 2, 1), (29, .invokestatic 298, 3), (32, .iload_n 1, 1), (33, .invokestatic 298, 3), (36, .if_icmp .ge 7, 3), (39, .iconst 1, 1), (40, .goto 4, 3), (43, .iconst 0, 1), (44, .istore_n 3, 1), (45, .iload_n 3, 1), (46, .ifCond .eq 15, 3), (49, .aload_n 0, 1), (50, .iload_n 2, 1), (51, .invokevirtual 437, 3)]
set_option maxRecDepth 100000 in
theorem dk267_1 : ∀ e ∈ ck267_1, decode prog_14_method_105_code e.1 = .ok e.2 := by decide +kernel
def ck267_2 : List (Nat × Instr × Nat) := [(54, .ifCond .eq 7, 3), (57, .iload_n 2, 1), (58, .goto 4, 3), (61, .iload_n 1, 1), (62, .istore_n 1, 1), (63, .iinc 2 1, 3), (66, .goto (-53), 3), (69, .iload_n 1, 1), (70, .ireturn, 1)]
set_option maxRecDepth 100000 in
theorem dk267_2 : ∀ e ∈ ck267_2, decode prog_14_method_105_code e.1 = .ok e.2 := by decide +kernel
def ck267 : List (Nat × List (Nat × Instr × Nat)) := [(24, ck267_0), (54, ck267_1), (71, ck267_2)]
theorem dk267 : cOk prog_14_method_105_code ck267 := cOk_c dk267_0 (cOk_c dk267_1 (cOk_c dk267_2 (cOk_n)))
def ck268_0 : List (Nat × Instr × Nat) := [(0, .aload_n 0, 1), (1, .getfield 267, 3), (4, .ifCond .eq 38, 3), (7, .iload_n 1, 1), (8, .iconst 1, 1), (9, .bipush 20, 2), (11, .invokestatic 217, 3), (14, .ifCond .eq 28, 3), (17, .iload_n 2, 1), (18, .iconst 0, 1), (19, .aload_n 0, 1), (20, .getfield 52, 3), (23, .iconst 0, 1), (24, .iaload, 1), (25, .iconst 1, 1), (26, .isub, 1)]
set_option maxRecDepth 100000 in
theorem dk268_0 : ∀ e ∈ ck268_0, decode prog_14_method_106_code e.1 = .ok e.2 := by decide +kernel
def ck268_1 : List (Nat × Instr × Nat) := [(27, .invokestatic 217, 3), (30, .ifCond .eq 12, 3), (33, .aload_n 0, 1), (34, .getfield 282, 3), (37, .bipush 10, 2), (39, .if_icmp .ne 5, 3), (42, .iconst (-1), 1), (43, .ireturn, 1), (44, .aload_n 0, 1), (45, .getfield 83, 3), (48, .aload_n 0, 1), (49, .getfield 282, 3), (52, .iload_n 1, 1), (53, .iastore, 1), (54, .aload_n 0, 1), (55, .getfield 86, 3)]
set_option maxRecDepth 100000 in
theorem dk268_1 : ∀ e ∈ ck268_1, decode prog_14_method_106_code e.1 = .ok e.2 := by decide +kernel
def ck268_2 : List (Nat × Instr × Nat) := [(58, .aload_n 0, 1), (59, .getfield 282, 3), (62, .iload_n 2, 1), (63, .iastore, 1), (64, .aload_n 0, 1), (65, .getfield 89, 3), (68, .aload_n 0, 1), (69, .getfield 282, 3), (72, .iload_n 3, 1), (73, .bastore, 1), (74, .aload_n 0, 1), (75, .dup, 1), (76, .getfield 282, 3), (79, .iconst 1, 1), (80, .iadd, 1), (81, .putfield 282, 3)]
set_option maxRecDepth 100000 in
theorem dk268_2 : ∀ e ∈ ck268_2, decode prog_14_method_106_code e.1 = .ok e.2 := by decide +kernel
def ck268_3 : List (Nat × Instr × Nat) := [(84, .aload_n 0, 1), (85, .getfield 282, 3), (88, .ireturn, 1)]
set_option maxRecDepth 100000 in
theorem dk268_3 : ∀ e ∈ ck268_3, decode prog_14_method_106_code e.1 = .ok e.2 := by decide +kernel
def ck268 : List (Nat × List (Nat × Instr × Nat)) := [(27, ck268_0), (58, ck268_1), (84, ck268_2), (89, ck268_3)]
theorem dk268 : cOk prog_14_method_106_code ck268 := cOk_c dk268_0 (cOk_c dk268_1 (cOk_c dk268_2 (cOk_c dk268_3 (cOk_n))))
def ck269_0 : List (Nat × Instr × Nat) := [(0, .iload_n 1, 1), (1, .bipush 9, 2), (3, .if_icmp .eq 11, 3), (6, .aload_n 0, 1), (7, .iload_n 1, 1), (8, .invokevirtual 340, 3), (11, .ifCond .eq 7, 3), (14, .iconst 1, 1), (15, .goto 4, 3), (18, .iconst 0, 1), (19, .ireturn, 1)]
set_option maxRecDepth 100000 in
theorem dk269_0 : ∀ e ∈ ck269_0, decode prog_14_method_107_code e.1 = .ok e.2 := by decide +kernel
def ck269 : List (Nat × List (Nat × Instr × Nat)) := [(20, ck269_0)]
theorem dk269 : cOk prog_14_method_107_code ck269 := cOk_c dk269_0 (cOk_n)
def ck270_0 : List (Nat × Instr × Nat) := [(0, .aload_n 0, 1), (1, .invokevirtual 388, 3), (4, .iconst 0, 1), (5, .istore_n 2, 1), (6, .iload_n 2, 1), (7, .bipush 9, 2), (9, .if_icmp .gt 126, 3), (12, .aload_n 0, 1), (13, .iload_n 2, 1), (14, .invokevirtual 440, 3), (17, .ifCond .eq 112, 3), (20, .iload_n 2, 1), (21, .bipush 9, 2), (23, .if_icmp .ne 7, 3), (26, .iconst 0, 1), (27, .goto 9, 3)]
set_option maxRecDepth 100000 in
theorem dk270_0 : ∀ e ∈ ck270_0, decode prog_14_method_108_code e.1 = .ok e.2 := by decide +kernel
def ck270_1 : List (Nat × Instr × Nat) := [(30, .aload_n 0, 1), (31, .iload_n 2, 1), (32, .iconst 0, 1), (33, .invokevirtual 270, 3), (36, .istore_n 3, 1), (37, .iload_n 2, 1), (38, .bipush 9, 2), (40, .if_icmp .eq 21, 3), (43, .aload_n 0, 1), (44, .getfield 58, 3), (47, .iconst 4, 1), (48, .iload_n 2, 1), (49, .imul, 1), (50, .iconst 0, 1), (51, .iadd, 1), (52, .bipush 9, 2)]
set_option maxRecDepth 100000 in
theorem dk270_1 : ∀ e ∈ ck270_1, decode prog_14_method_108_code e.1 = .ok e.2 := by decide +kernel
def ck270_2 : List (Nat × Instr × Nat) := [(54, .iload_n 3, 1), (55, .iload_n 1, 1), (56, .iadd, 1), (57, .invokestatic 306, 3), (60, .iastore, 1), (61, .aload_n 0, 1), (62, .invokevirtual 279, 3), (65, .iconst 1, 1), (66, .istore 4, 2), (68, .iload 4, 2), (70, .bipush 20, 2), (72, .if_icmp .gt 40, 3), (75, .aload_n 0, 1), (76, .invokevirtual 331, 3), (79, .ifCond .ne 8, 3), (82, .aload_n 0, 1)]
set_option maxRecDepth 100000 in
theorem dk270_2 : ∀ e ∈ ck270_2, decode prog_14_method_108_code e.1 = .ok e.2 := by decide +kernel
def ck270_3 : List (Nat × Instr × Nat) := [(83, .invokevirtual 334, 3), (86, .pop, 1), (87, .aload_n 0, 1), (88, .getfield 93, 3), (91, .bipush 21, 2), (93, .iload_n 2, 1), (94, .imul, 1), (95, .iload 4, 2), (97, .iadd, 1), (98, .aload_n 0, 1), (99, .getfield 61, 3), (102, .bipush 22, 2), (104, .iaload, 1), (105, .iastore, 1), (106, .iinc 4 1, 3), (109, .goto (-41), 3)]
set_option maxRecDepth 100000 in
theorem dk270_3 : ∀ e ∈ ck270_3, decode prog_14_method_108_code e.1 = .ok e.2 := by decide +kernel
def ck270_4 : List (Nat × Instr × Nat) := [(112, .iload_n 2, 1), (113, .bipush 9, 2), (115, .if_icmp .eq 14, 3), (118, .aload_n 0, 1), (119, .getfield 58, 3), (122, .iconst 4, 1), (123, .iload_n 2, 1), (124, .imul, 1), (125, .iconst 0, 1), (126, .iadd, 1), (127, .iload_n 3, 1), (128, .iastore, 1), (129, .iinc 2 1, 3), (132, .goto (-126), 3), (135, .aload_n 0, 1), (136, .invokevirtual 385, 3)]
set_option maxRecDepth 100000 in
theorem dk270_4 : ∀ e ∈ ck270_4, decode prog_14_method_108_code e.1 = .ok e.2 := by decide +kernel
def ck270_5 : List (Nat × Instr × Nat) := [(139, .return_, 1)]
set_option maxRecDepth 100000 in
theorem dk270_5 : ∀ e ∈ ck270_5, decode prog_14_method_108_code e.1 = .ok e.2 := by decide +kernel
def ck270 : List (Nat × List (Nat × Instr × Nat)) := [(30, ck270_0), (54, ck270_1), (83, ck270_2), (112, ck270_3), (139, ck270_4), (140, ck270_5)]
theorem dk270 : cOk prog_14_method_108_code ck270 := cOk_c dk270_0 (cOk_c dk270_1 (cOk_c dk270_2 (cOk_c dk270_3 (cOk_c dk270_4 (cOk_c dk270_5 (cOk_n))))))
def ck271_0 : List (Nat × Instr × Nat) := [(0, .aload_n 0, 1), (1, .iload_n 1, 1), (2, .invokevirtual 440, 3), (5, .istore_n 2, 1), (6, .iconst 0, 1), (7, .istore_n 3, 1), (8, .iload_n 3, 1), (9, .aload_n 0, 1), (10, .getfield 282, 3), (13, .if_icmp .ge 58, 3), (16, .iload_n 2, 1), (17, .ifCond .eq 54, 3), (20, .aload_n 0, 1), (21, .getfield 93, 3), (24, .bipush 21, 2), (26, .iload_n 1, 1)]
set_option maxRecDepth 100000 in
theorem dk271_0 : ∀ e ∈ ck271_0, decode prog_14_method_109_code e.1 = .ok e.2 := by decide +kernel
def ck271_1 : List (Nat × Instr × Nat) := [(27, .imul, 1), (28, .aload_n 0, 1), (29, .getfield 83, 3), (32, .iload_n 3, 1), (33, .iaload, 1), (34, .iadd, 1), (35, .iaload, 1), (36, .aload_n 0, 1), (37, .getfield 86, 3), (40, .iload_n 3, 1), (41, .iaload, 1), (42, .if_icmp .ne 7, 3), (45, .iconst 1, 1), (46, .goto 4, 3), (49, .iconst 0, 1), (50, .aload_n 0, 1)]
set_option maxRecDepth 100000 in
theorem dk271_1 : ∀ e ∈ ck271_1, decode prog_14_method_109_code e.1 = .ok e.2 := by decide +kernel
def ck271_2 : List (Nat × Instr × Nat) := [(51, .getfield 89, 3), (54, .iload_n 3, 1), (55, .baload, 1), (56, .if_icmp .ne 7, 3), (59, .iconst 1, 1), (60, .goto 4, 3), (63, .iconst 0, 1), (64, .istore_n 2, 1), (65, .iinc 3 1, 3), (68, .goto (-60), 3), (71, .iload_n 2, 1), (72, .ireturn, 1)]
set_option maxRecDepth 100000 in
theorem dk271_2 : ∀ e ∈ ck271_2, decode prog_14_method_109_code e.1 = .ok e.2 := by decide +kernel
def ck271 : List (Nat × List (Nat × Instr × Nat)) := [(27, ck271_0), (51, ck271_1), (73, ck271_2)]
theorem dk271 : cOk prog_14_method_109_code ck271 := cOk_c dk271_0 (cOk_c dk271_1 (cOk_c dk271_2 (cOk_n)))
def ck272_0 : List (Nat × Instr × Nat) := [(0, .aload_n 0, 1), (1, .getfield 267, 3), (4, .ifCond .le 16, 3), (7, .iload_n 1, 1), (8, .iconst 1, 1), (9, .iconst 5, 1), (10, .invokestatic 217, 3), (13, .ifCond .eq 7, 3), (16, .iconst 1, 1), (17, .goto 4, 3), (20, .iconst 0, 1), (21, .ireturn, 1)]
set_option maxRecDepth 100000 in
theorem dk272_0 : ∀ e ∈ ck272_0, decode prog_14_method_110_code e.1 = .ok e.2 := by decide +kernel
def ck272 : List (Nat × List (Nat × Instr × Nat)) := [(22, ck272_0)]
theorem dk272 : cOk prog_14_method_110_code ck272 := cOk_c dk272_0 (cOk_n)
def ck273_0 : List (Nat × Instr × Nat) := [(0, .aload_n 0, 1), (1, .iload_n 1, 1), (2, .invokevirtual 443, 3), (5, .ifCond .eq 8, 3), (8, .iload_n 2, 1), (9, .iconst (-1), 1), (10, .if_icmp .ge 5, 3), (13, .iconst (-1), 1), (14, .ireturn, 1), (15, .aload_n 0, 1), (16, .iload_n 1, 1), (17, .invokevirtual 446, 3), (20, .iconst 0, 1), (21, .istore_n 3, 1), (22, .iconst 0, 1), (23, .istore 4, 2)]
set_option maxRecDepth 100000 in
theorem dk273_0 : ∀ e ∈ ck273_0, decode prog_14_method_111_code e.1 = .ok e.2 := by decide +kernel
def ck273_1 : List (Nat × Instr × Nat) := [(25, .iload 4, 2), (27, .bipush 9, 2), (29, .if_icmp .gt 29, 3), (32, .aload_n 0, 1), (33, .iload 4, 2), (35, .invokevirtual 449, 3), (38, .ifCond .eq 14, 3), (41, .iload_n 3, 1), (42, .iload_n 2, 1), (43, .if_icmp .ne 6, 3), (46, .iload 4, 2), (48, .ireturn, 1), (49, .iinc 3 1, 3), (52, .iinc 4 1, 3), (55, .goto (-30), 3), (58, .iload_n 2, 1)]
set_option maxRecDepth 100000 in
theorem dk273_1 : ∀ e ∈ ck273_1, decode prog_14_method_111_code e.1 = .ok e.2 := by decide +kernel
def ck273_2 : List (Nat × Instr × Nat) := [(59, .iconst (-1), 1), (60, .if_icmp .ne 7, 3), (63, .iload_n 3, 1), (64, .goto 4, 3), (67, .iconst (-1), 1), (68, .ireturn, 1)]
set_option maxRecDepth 100000 in
theorem dk273_2 : ∀ e ∈ ck273_2, decode prog_14_method_111_code e.1 = .ok e.2 := by decide +kernel
def ck273 : List (Nat × List (Nat × Instr × Nat)) := [(25, ck273_0), (59, ck273_1), (69, ck273_2)]
theorem dk273 : cOk prog_14_method_111_code ck273 := cOk_c dk273_0 (cOk_c dk273_1 (cOk_c dk273_2 (cOk_n)))
def ck274_0 : List (Nat × Instr × Nat) := [(0, .iconst 0, 1), (1, .istore_n 2, 1), (2, .iconst 0, 1), (3, .istore_n 3, 1), (4, .iload_n 3, 1), (5, .aload_n 0, 1), (6, .getfield 52, 3), (9, .iconst 0, 1), (10, .iaload, 1), (11, .if_icmp .ge 70, 3), (14, .iconst 0, 1), (15, .istore 4, 2), (17, .iconst 0, 1), (18, .istore 5, 2), (20, .iload 5, 2), (22, .bipush 9, 2)]
set_option maxRecDepth 100000 in
theorem dk274_0 : ∀ e ∈ ck274_0, decode prog_14_method_112_code e.1 = .ok e.2 := by decide +kernel
def ck274_1 : List (Nat × Instr × Nat) := [(24, .if_icmp .gt 44, 3), (27, .iload 4, 2), (29, .aload_n 0, 1), (30, .iload 5, 2), (32, .invokevirtual 449, 3), (35, .ifCond .eq 23, 3), (38, .aload_n 0, 1), (39, .getfield 93, 3), (42, .bipush 21, 2), (44, .iload 5, 2), (46, .imul, 1), (47, .iload_n 1, 1), (48, .iadd, 1), (49, .iaload, 1), (50, .iload_n 3, 1), (51, .if_icmp .ne 7, 3)]
set_option maxRecDepth 100000 in
theorem dk274_1 : ∀ e ∈ ck274_1, decode prog_14_method_112_code e.1 = .ok e.2 := by decide +kernel
def ck274_2 : List (Nat × Instr × Nat) := [(54, .iconst 1, 1), (55, .goto 4, 3), (58, .iconst 0, 1), (59, .iadd, 1), (60, .istore 4, 2), (62, .iinc 5 1, 3), (65, .goto (-45), 3), (68, .iload_n 2, 1), (69, .iload 4, 2), (71, .invokestatic 308, 3), (74, .istore_n 2, 1), (75, .iinc 3 1, 3), (78, .goto (-74), 3), (81, .iload_n 2, 1), (82, .ireturn, 1)]
set_option maxRecDepth 100000 in
theorem dk274_2 : ∀ e ∈ ck274_2, decode prog_14_method_112_code e.1 = .ok e.2 := by decide +kernel
def ck274 : List (Nat × List (Nat × Instr × Nat)) := [(24, ck274_0), (54, ck274_1), (83, ck274_2)]
theorem dk274 : cOk prog_14_method_112_code ck274 := cOk_c dk274_0 (cOk_c dk274_1 (cOk_c dk274_2 (cOk_n)))
def ck275_0 : List (Nat × Instr × Nat) := [(0, .aload_n 0, 1), (1, .iload_n 1, 1), (2, .invokevirtual 443, 3), (5, .ifCond .eq 13, 3), (8, .aload_n 0, 1), (9, .iload_n 1, 1), (10, .iconst 0, 1), (11, .invokevirtual 452, 3), (14, .iconst (-1), 1), (15, .if_icmp .ne 5, 3), (18, .iconst (-1), 1), (19, .ireturn, 1), (20, .iconst 1, 1), (21, .istore_n 2, 1), (22, .aload_n 0, 1), (23, .iconst 1, 1)]
set_option maxRecDepth 100000 in
theorem dk275_0 : ∀ e ∈ ck275_0, decode prog_14_method_113_code e.1 = .ok e.2 := by decide +kernel
def ck275_1 : List (Nat × Instr × Nat) := [(24, .invokevirtual 455, 3), (27, .istore_n 3, 1), (28, .iconst 2, 1), (29, .istore 4, 2), (31, .iload 4, 2), (33, .aload_n 0, 1), (34, .getfield 52, 3), (37, .iconst 3, 1), (38, .iaload, 1), (39, .if_icmp .gt 29, 3), (42, .aload_n 0, 1), (43, .iload 4, 2), (45, .invokevirtual 455, 3), (48, .istore 5, 2), (50, .iload 5, 2), (52, .iload_n 3, 1)]
set_option maxRecDepth 100000 in
theorem dk275_1 : ∀ e ∈ ck275_1, decode prog_14_method_113_code e.1 = .ok e.2 := by decide +kernel
def ck275_2 : List (Nat × Instr × Nat) := [(53, .if_icmp .ge 9, 3), (56, .iload 4, 2), (58, .istore_n 2, 1), (59, .iload 5, 2), (61, .istore_n 3, 1), (62, .iinc 4 1, 3), (65, .goto (-34), 3), (68, .iload_n 2, 1), (69, .ireturn, 1)]
set_option maxRecDepth 100000 in
theorem dk275_2 : ∀ e ∈ ck275_2, decode prog_14_method_113_code e.1 = .ok e.2 := by decide +kernel
def ck275 : List (Nat × List (Nat × Instr × Nat)) := [(24, ck275_0), (53, ck275_1), (70, ck275_2)]
theorem dk275 : cOk prog_14_method_113_code ck275 := cOk_c dk275_0 (cOk_c dk275_1 (cOk_c dk275_2 (cOk_n)))
def ck276_0 : List (Nat × Instr × Nat) := [(0, .iload_n 1, 1), (1, .aload_n 0, 1), (2, .getfield 267, 3), (5, .if_icmp .ne 64, 3), (8, .aload_n 0, 1), (9, .invokevirtual 388, 3), (12, .iconst 0, 1), (13, .istore 5, 2), (15, .iload 5, 2), (17, .aload_n 0, 1), (18, .getfield 267, 3), (21, .if_icmp .ge 25, 3), (24, .aload_n 0, 1), (25, .getfield 61, 3), (28, .iconst 0, 1), (29, .iload 5, 2)]
set_option maxRecDepth 100000 in
theorem dk276_0 : ∀ e ∈ ck276_0, decode prog_14_method_114_code e.1 = .ok e.2 := by decide +kernel
def ck276_1 : List (Nat × Instr × Nat) := [(31, .iadd, 1), (32, .aload_n 0, 1), (33, .getfield 96, 3), (36, .iload 5, 2), (38, .iaload, 1), (39, .iastore, 1), (40, .iinc 5 1, 3), (43, .goto (-28), 3), (46, .aload_n 0, 1), (47, .invokevirtual 391, 3), (50, .aload_n 0, 1), (51, .aload_n 0, 1), (52, .getfield 379, 3), (55, .invokevirtual 394, 3), (58, .iload_n 2, 1), (59, .if_icmp .ne 8, 3)]
set_option maxRecDepth 100000 in
theorem dk276_1 : ∀ e ∈ ck276_1, decode prog_14_method_114_code e.1 = .ok e.2 := by decide +kernel
def ck276_2 : List (Nat × Instr × Nat) := [(62, .iload 4, 2), (64, .goto 4, 3), (67, .iconst 0, 1), (68, .ireturn, 1), (69, .aload_n 0, 1), (70, .getfield 96, 3), (73, .iload_n 1, 1), (74, .aload_n 0, 1), (75, .getfield 61, 3), (78, .iconst 0, 1), (79, .iload_n 1, 1), (80, .iadd, 1), (81, .iaload, 1), (82, .iastore, 1), (83, .aload_n 0, 1), (84, .iload_n 1, 1)]
set_option maxRecDepth 100000 in
theorem dk276_2 : ∀ e ∈ ck276_2, decode prog_14_method_114_code e.1 = .ok e.2 := by decide +kernel
def ck276_3 : List (Nat × Instr × Nat) := [(85, .invokevirtual 310, 3), (88, .ifCond .eq 13, 3), (91, .aload_n 0, 1), (92, .getfield 96, 3), (95, .iload_n 1, 1), (96, .iaload, 1), (97, .iconst 1, 1), (98, .if_icmp .ne 15, 3), (101, .aload_n 0, 1), (102, .iload_n 1, 1), (103, .iconst 1, 1), (104, .iadd, 1), (105, .iload_n 2, 1), (106, .iload_n 3, 1), (107, .iload 4, 2), (109, .invokevirtual 458, 3)]
set_option maxRecDepth 100000 in
theorem dk276_3 : ∀ e ∈ ck276_3, decode prog_14_method_114_code e.1 = .ok e.2 := by decide +kernel
def ck276_4 : List (Nat × Instr × Nat) := [(112, .ireturn, 1), (113, .iload 4, 2), (115, .i2l, 1), (116, .iload_n 3, 1), (117, .i2l, 1), (118, .lmul, 1), (119, .ldc2_w 462, 3), (122, .ldiv, 1), (123, .l2i, 1), (124, .istore 5, 2), (126, .aload_n 0, 1), (127, .iload_n 1, 1), (128, .iconst 1, 1), (129, .iadd, 1), (130, .iload_n 2, 1), (131, .iload_n 3, 1)]
set_option maxRecDepth 100000 in
theorem dk276_4 : ∀ e ∈ ck276_4, decode prog_14_method_114_code e.1 = .ok e.2 := by decide +kernel
def ck276_5 : List (Nat × Instr × Nat) := [(132, .iload 4, 2), (134, .iload 5, 2), (136, .isub, 1), (137, .invokevirtual 458, 3), (140, .istore 6, 2), (142, .aload_n 0, 1), (143, .getfield 96, 3), (146, .iload_n 1, 1), (147, .iconst 2, 1), (148, .aload_n 0, 1), (149, .getfield 61, 3), (152, .iconst 0, 1), (153, .iload_n 1, 1), (154, .iadd, 1), (155, .iaload, 1), (156, .isub, 1)]
set_option maxRecDepth 100000 in
theorem dk276_5 : ∀ e ∈ ck276_5, decode prog_14_method_114_code e.1 = .ok e.2 := by decide +kernel
def ck276_6 : List (Nat × Instr × Nat) := [(157, .iastore, 1), (158, .iload 6, 2), (160, .aload_n 0, 1), (161, .iload_n 1, 1), (162, .iconst 1, 1), (163, .iadd, 1), (164, .iload_n 2, 1), (165, .iload_n 3, 1), (166, .iload 5, 2), (168, .invokevirtual 458, 3), (171, .iadd, 1), (172, .ireturn, 1)]
set_option maxRecDepth 100000 in
theorem dk276_6 : ∀ e ∈ ck276_6, decode prog_14_method_114_code e.1 = .ok e.2 := by decide +kernel
def ck276 : List (Nat × List (Nat × Instr × Nat)) := [(31, ck276_0), (62, ck276_1), (85, ck276_2), (112, ck276_3), (132, ck276_4), (157, ck276_5), (173, ck276_6)]
theorem dk276 : cOk prog_14_method_114_code ck276 := cOk_c dk276_0 (cOk_c dk276_1 (cOk_c dk276_2 (cOk_c dk276_3 (cOk_c dk276_4 (cOk_c dk276_5 (cOk_c dk276_6 (cOk_n)))))))
def ck277_0 : List (Nat × Instr × Nat) := [(0, .aload_n 0, 1), (1, .getfield 267, 3), (4, .ifCond .le 35, 3), (7, .iload_n 1, 1), (8, .iconst 0, 1), (9, .iconst 2, 1), (10, .invokestatic 217, 3), (13, .ifCond .eq 26, 3), (16, .iload_n 2, 1), (17, .iconst 0, 1), (18, .bipush 100, 2), (20, .invokestatic 217, 3), (23, .ifCond .eq 16, 3), (26, .aload_n 0, 1), (27, .iconst 0, 1), (28, .iload_n 1, 1)]
set_option maxRecDepth 100000 in
theorem dk277_0 : ∀ e ∈ ck277_0, decode prog_14_method_115_code e.1 = .ok e.2 := by decide +kernel
def ck277_1 : List (Nat × Instr × Nat) := [(29, .iload_n 2, 1), (30, .ldc_w 464, 3), (33, .invokevirtual 458, 3), (36, .goto 4, 3), (39, .iconst (-1), 1), (40, .ireturn, 1)]
set_option maxRecDepth 100000 in
theorem dk277_1 : ∀ e ∈ ck277_1, decode prog_14_method_115_code e.1 = .ok e.2 := by decide +kernel
def ck277 : List (Nat × List (Nat × Instr × Nat)) := [(29, ck277_0), (41, ck277_1)]
theorem dk277 : cOk prog_14_method_115_code ck277 := cOk_c dk277_0 (cOk_c dk277_1 (cOk_n))
def ck278_0 : List (Nat × Instr × Nat) := [(0, .iconst 0, 1), (1, .istore_n 2, 1), (2, .iconst 0, 1), (3, .istore_n 3, 1), (4, .iload_n 3, 1), (5, .aload_n 0, 1), (6, .getfield 267, 3), (9, .if_icmp .ge 47, 3), (12, .iload_n 2, 1), (13, .aload_n 0, 1), (14, .iload_n 3, 1), (15, .invokevirtual 310, 3), (18, .ifCond .eq 29, 3), (21, .iload_n 1, 1), (22, .iconst (-1), 1), (23, .if_icmp .eq 15, 3)]
set_option maxRecDepth 100000 in
theorem dk278_0 : ∀ e ∈ ck278_0, decode prog_14_method_116_code e.1 = .ok e.2 := by decide +kernel
def ck278_1 : List (Nat × Instr × Nat) := [(26, .aload_n 0, 1), (27, .getfield 61, 3), (30, .iconst 0, 1), (31, .iload_n 3, 1), (32, .iadd, 1), (33, .iaload, 1), (34, .iload_n 1, 1), (35, .if_icmp .ne 12, 3), (38, .aload_n 0, 1), (39, .iload_n 3, 1), (40, .iconst 0, 1), (41, .invokevirtual 270, 3), (44, .goto 4, 3), (47, .iconst 0, 1), (48, .iadd, 1), (49, .istore_n 2, 1)]
set_option maxRecDepth 100000 in
theorem dk278_1 : ∀ e ∈ ck278_1, decode prog_14_method_116_code e.1 = .ok e.2 := by decide +kernel
def ck278_2 : List (Nat × Instr × Nat) := [(50, .iinc 3 1, 3), (53, .goto (-49), 3), (56, .iload_n 2, 1), (57, .ireturn, 1)]
set_option maxRecDepth 100000 in
theorem dk278_2 : ∀ e ∈ ck278_2, decode prog_14_method_116_code e.1 = .ok e.2 := by decide +kernel
def ck278 : List (Nat × List (Nat × Instr × Nat)) := [(26, ck278_0), (50, ck278_1), (58, ck278_2)]
theorem dk278 : cOk prog_14_method_116_code ck278 := cOk_c dk278_0 (cOk_c dk278_1 (cOk_c dk278_2 (cOk_n)))
def ck279_0 : List (Nat × Instr × Nat) := [(0, .aload_n 0, 1), (1, .iload_n 1, 1), (2, .invokevirtual 340, 3), (5, .ifCond .eq 14, 3), (8, .iload_n 2, 1), (9, .iconst 0, 1), (10, .sipush 999, 3), (13, .invokestatic 217, 3), (16, .ifCond .ne 5, 3), (19, .iconst (-1), 1), (20, .ireturn, 1), (21, .aload_n 0, 1), (22, .iload_n 1, 1), (23, .invokevirtual 310, 3), (26, .ifCond .eq 20, 3), (29, .iload_n 2, 1)]
set_option maxRecDepth 100000 in
theorem dk279_0 : ∀ e ∈ ck279_0, decode prog_14_method_117_code e.1 = .ok e.2 := by decide +kernel
def ck279_1 : List (Nat × Instr × Nat) := [(30, .aload_n 0, 1), (31, .iload_n 1, 1), (32, .iconst 0, 1), (33, .invokevirtual 270, 3), (36, .imul, 1), (37, .aload_n 0, 1), (38, .iconst (-1), 1), (39, .invokevirtual 465, 3), (42, .idiv, 1), (43, .goto 4, 3), (46, .iconst 0, 1), (47, .ireturn, 1)]
set_option maxRecDepth 100000 in
theorem dk279_1 : ∀ e ∈ ck279_1, decode prog_14_method_117_code e.1 = .ok e.2 := by decide +kernel
def ck279 : List (Nat × List (Nat × Instr × Nat)) := [(30, ck279_0), (48, ck279_1)]
theorem dk279 : cOk prog_14_method_117_code ck279 := cOk_c dk279_0 (cOk_c dk279_1 (cOk_n))
def ck280_0 : List (Nat × Instr × Nat) := [(0, .aload_n 0, 1), (1, .getfield 267, 3), (4, .ifCond .eq 12, 3), (7, .iload_n 1, 1), (8, .iconst 0, 1), (9, .iconst 2, 1), (10, .invokestatic 217, 3), (13, .ifCond .ne 5, 3), (16, .iconst (-1), 1), (17, .ireturn, 1), (18, .iconst (-1), 1), (19, .istore_n 2, 1), (20, .iconst 0, 1), (21, .istore_n 3, 1), (22, .iconst 0, 1), (23, .istore 4, 2)]
set_option maxRecDepth 100000 in
theorem dk280_0 : ∀ e ∈ ck280_0, decode prog_14_method_118_code e.1 = .ok e.2 := by decide +kernel
def ck280_1 : List (Nat × Instr × Nat) := [(25, .iload 4, 2), (27, .aload_n 0, 1), (28, .getfield 267, 3), (31, .if_icmp .ge 70, 3), (34, .aload_n 0, 1), (35, .iload 4, 2), (37, .invokevirtual 310, 3), (40, .ifCond .eq 29, 3), (43, .iload_n 2, 1), (44, .iconst (-1), 1), (45, .if_icmp .eq 19, 3), (48, .aload_n 0, 1), (49, .iload 4, 2), (51, .iconst 0, 1), (52, .invokevirtual 270, 3), (55, .aload_n 0, 1)]
set_option maxRecDepth 100000 in
theorem dk280_1 : ∀ e ∈ ck280_1, decode prog_14_method_118_code e.1 = .ok e.2 := by decide +kernel
def ck280_2 : List (Nat × Instr × Nat) := [(56, .iload_n 2, 1), (57, .iconst 0, 1), (58, .invokevirtual 270, 3), (61, .if_icmp .le 8, 3), (64, .iload 4, 2), (66, .goto 4, 3), (69, .iload_n 2, 1), (70, .istore_n 2, 1), (71, .iload_n 3, 1), (72, .aload_n 0, 1), (73, .getfield 61, 3), (76, .iconst 0, 1), (77, .iload 4, 2), (79, .iadd, 1), (80, .iaload, 1), (81, .iconst 1, 1)]
set_option maxRecDepth 100000 in
theorem dk280_2 : ∀ e ∈ ck280_2, decode prog_14_method_118_code e.1 = .ok e.2 := by decide +kernel
def ck280_3 : List (Nat × Instr × Nat) := [(82, .if_icmp .ne 10, 3), (85, .iconst 1, 1), (86, .iload 4, 2), (88, .ishl, 1), (89, .goto 4, 3), (92, .iconst 0, 1), (93, .ior, 1), (94, .istore_n 3, 1), (95, .iinc 4 1, 3), (98, .goto (-73), 3), (101, .aload_n 0, 1), (102, .iconst 2, 1), (103, .invokevirtual 465, 3), (106, .aload_n 0, 1), (107, .iconst 0, 1), (108, .invokevirtual 465, 3)]
set_option maxRecDepth 100000 in
theorem dk280_3 : ∀ e ∈ ck280_3, decode prog_14_method_118_code e.1 = .ok e.2 := by decide +kernel
def ck280_4 : List (Nat × Instr × Nat) := [(111, .isub, 1), (112, .istore 4, 2), (114, .iload_n 1, 1), (115, .ifCond .ne 7, 3), (118, .iload_n 2, 1), (119, .goto 31, 3), (122, .iload_n 1, 1), (123, .iconst 1, 1), (124, .if_icmp .ne 7, 3), (127, .iload_n 3, 1), (128, .goto 22, 3), (131, .iload 4, 2), (133, .ifCond .le 7, 3), (136, .iconst 2, 1), (137, .goto 13, 3), (140, .iload 4, 2)]
set_option maxRecDepth 100000 in
theorem dk280_4 : ∀ e ∈ ck280_4, decode prog_14_method_118_code e.1 = .ok e.2 := by decide +kernel
def ck280_5 : List (Nat × Instr × Nat) := [(142, .ifCond .ge 7, 3), (145, .iconst 0, 1), (146, .goto 4, 3), (149, .iconst 1, 1), (150, .ireturn, 1)]
set_option maxRecDepth 100000 in
theorem dk280_5 : ∀ e ∈ ck280_5, decode prog_14_method_118_code e.1 = .ok e.2 := by decide +kernel
def ck280 : List (Nat × List (Nat × Instr × Nat)) := [(25, ck280_0), (56, ck280_1), (82, ck280_2), (111, ck280_3), (142, ck280_4), (151, ck280_5)]
theorem dk280 : cOk prog_14_method_118_code ck280 := cOk_c dk280_0 (cOk_c dk280_1 (cOk_c dk280_2 (cOk_c dk280_3 (cOk_c dk280_4 (cOk_c dk280_5 (cOk_n))))))
def ck281_0 : List (Nat × Instr × Nat) := [(0, .aload_n 0, 1), (1, .iload_n 1, 1), (2, .invokevirtual 340, 3), (5, .ifCond .eq 11, 3), (8, .aload_n 0, 1), (9, .iload_n 1, 1), (10, .invokevirtual 310, 3), (13, .ifCond .ne 5, 3), (16, .iconst (-1), 1), (17, .ireturn, 1), (18, .iconst 0, 1), (19, .istore_n 2, 1), (20, .iload_n 2, 1), (21, .bipush 9, 2), (23, .if_icmp .gt 40, 3), (26, .aload_n 0, 1)]
set_option maxRecDepth 100000 in
theorem dk281_0 : ∀ e ∈ ck281_0, decode prog_14_method_119_code e.1 = .ok e.2 := by decide +kernel
def ck281_1 : List (Nat × Instr × Nat) := [(27, .invokevirtual 388, 3), (30, .aload_n 0, 1), (31, .getfield 61, 3), (34, .bipush 6, 2), (36, .iload_n 1, 1), (37, .iadd, 1), (38, .iload_n 2, 1), (39, .iastore, 1), (40, .aload_n 0, 1), (41, .invokevirtual 391, 3), (44, .aload_n 0, 1), (45, .getfield 382, 3), (48, .iload_n 1, 1), (49, .invokestatic 228, 3), (52, .ifCond .ne 5, 3), (55, .iload_n 2, 1)]
set_option maxRecDepth 100000 in
theorem dk281_1 : ∀ e ∈ ck281_1, decode prog_14_method_119_code e.1 = .ok e.2 := by decide +kernel
def ck281_2 : List (Nat × Instr × Nat) := [(56, .ireturn, 1), (57, .iinc 2 1, 3), (60, .goto (-40), 3), (63, .iconst (-1), 1), (64, .ireturn, 1)]
set_option maxRecDepth 100000 in
theorem dk281_2 : ∀ e ∈ ck281_2, decode prog_14_method_119_code e.1 = .ok e.2 := by decide +kernel
def ck281 : List (Nat × List (Nat × Instr × Nat)) := [(27, ck281_0), (56, ck281_1), (65, ck281_2)]
theorem dk281 : cOk prog_14_method_119_code ck281 := cOk_c dk281_0 (cOk_c dk281_1 (cOk_c dk281_2 (cOk_n)))
def ck282_0 : List (Nat × Instr × Nat) := [(0, .aload_n 0, 1), (1, .getfield 267, 3), (4, .ifCond .ne 5, 3), (7, .iconst (-1), 1), (8, .ireturn, 1), (9, .aload_n 0, 1), (10, .invokevirtual 388, 3), (13, .aload_n 0, 1), (14, .invokevirtual 391, 3), (17, .aload_n 0, 1), (18, .getfield 328, 3), (21, .ireturn, 1)]
set_option maxRecDepth 100000 in
theorem dk282_0 : ∀ e ∈ ck282_0, decode prog_14_method_120_code e.1 = .ok e.2 := by decide +kernel
def ck282 : List (Nat × List (Nat × Instr × Nat)) := [(22, ck282_0)]
theorem dk282 : cOk prog_14_method_120_code ck282 := cOk_c dk282_0 (cOk_n)
def ck283_0 : List (Nat × Instr × Nat) := [(0, .aload_n 0, 1), (1, .getfield 267, 3), (4, .ifCond .ne 9, 3), (7, .ldc_w 375, 3), (10, .goto 7, 3), (13, .aload_n 0, 1), (14, .invokevirtual 319, 3), (17, .ireturn, 1)]
set_option maxRecDepth 100000 in
theorem dk283_0 : ∀ e ∈ ck283_0, decode prog_14_method_121_code e.1 = .ok e.2 := by decide +kernel
def ck283 : List (Nat × List (Nat × Instr × Nat)) := [(18, ck283_0)]
theorem dk283 : cOk prog_14_method_121_code ck283 := cOk_c dk283_0 (cOk_n)
def ck284_0 : List (Nat × Instr × Nat) := [(0, .aload_n 0, 1), (1, .getfield 267, 3), (4, .ifCond .ne 5, 3), (7, .iconst (-1), 1), (8, .ireturn, 1), (9, .iconst 0, 1), (10, .istore_n 1, 1), (11, .iload_n 1, 1), (12, .sipush 205, 3), (15, .if_icmp .ge 21, 3), (18, .aload_n 0, 1), (19, .getfield 99, 3), (22, .iload_n 1, 1), (23, .aload_n 0, 1), (24, .getfield 61, 3), (27, .iload_n 1, 1)]
set_option maxRecDepth 100000 in
theorem dk284_0 : ∀ e ∈ ck284_0, decode prog_14_method_122_code e.1 = .ok e.2 := by decide +kernel
def ck284_1 : List (Nat × Instr × Nat) := [(28, .iaload, 1), (29, .iastore, 1), (30, .iinc 1 1, 3), (33, .goto (-22), 3), (36, .aload_n 0, 1), (37, .iconst 1, 1), (38, .putfield 288, 3), (41, .aload_n 0, 1), (42, .getfield 61, 3), (45, .bipush 21, 2), (47, .iaload, 1), (48, .ireturn, 1)]
set_option maxRecDepth 100000 in
theorem dk284_1 : ∀ e ∈ ck284_1, decode prog_14_method_122_code e.1 = .ok e.2 := by decide +kernel
def ck284 : List (Nat × List (Nat × Instr × Nat)) := [(28, ck284_0), (49, ck284_1)]
theorem dk284 : cOk prog_14_method_122_code ck284 := cOk_c dk284_0 (cOk_c dk284_1 (cOk_n))
