/-! ===== the code of the methods, instruction by instruction (printed by program) ===== -/
def ck241_0 : List (Nat × Instr × Nat) := [(0, .aload_n 0, 1), (1, .getfield 267, 3), (4, .ifCond .eq 13, 3), (7, .iload_n 1, 1), (8, .iconst 1, 1), (9, .bipush 20, 2), (11, .invokestatic 217, 3), (14, .ifCond .ne 5, 3), (17, .iconst (-1), 1), (18, .ireturn, 1), (19, .aload_n 0, 1), (20, .lload_n 2, 1), (21, .putfield 361, 3), (24, .iconst 0, 1), (25, .istore 4, 2), (27, .iload 4, 2)]
set_option maxRecDepth 100000 in
theorem dk241_0 : ∀ e ∈ ck241_0, decode prog_14_method_79_code e.1 = .ok e.2 := by decide +kernel
def ck241_1 : List (Nat × Instr × Nat) := [(29, .iload_n 1, 1), (30, .if_icmp .ge 17, 3), (33, .aload_n 0, 1), (34, .invokevirtual 346, 3), (37, .aload_n 0, 1), (38, .invokevirtual 372, 3), (41, .iinc 4 1, 3), (44, .goto (-17), 3), (47, .aload_n 0, 1), (48, .getfield 61, 3), (51, .bipush 22, 2), (53, .iaload, 1), (54, .ireturn, 1)]
set_option maxRecDepth 100000 in
theorem dk241_1 : ∀ e ∈ ck241_1, decode prog_14_method_79_code e.1 = .ok e.2 := by decide +kernel
def ck241 : List (Nat × List (Nat × Instr × Nat)) := [(29, ck241_0), (55, ck241_1)]
theorem dk241 : cOk prog_14_method_79_code ck241 := cOk_c dk241_0 (cOk_c dk241_1 (cOk_n))
def ck242_0 : List (Nat × Instr × Nat) := [(0, .iload_n 1, 1), (1, .iconst 0, 1), (2, .iconst 4, 1), (3, .invokestatic 217, 3), (6, .ifCond .eq 12, 3), (9, .aload_n 0, 1), (10, .getfield 64, 3), (13, .iload_n 1, 1), (14, .iaload, 1), (15, .goto 4, 3), (18, .iconst (-1), 1), (19, .ireturn, 1)]
set_option maxRecDepth 100000 in
theorem dk242_0 : ∀ e ∈ ck242_0, decode prog_14_method_80_code e.1 = .ok e.2 := by decide +kernel
def ck242 : List (Nat × List (Nat × Instr × Nat)) := [(20, ck242_0)]
theorem dk242 : cOk prog_14_method_80_code ck242 := cOk_c dk242_0 (cOk_n)
def ck243_0 : List (Nat × Instr × Nat) := [(0, .aload_n 0, 1), (1, .getfield 285, 3), (4, .ifCond .ne 5, 3), (7, .iconst (-1), 1), (8, .ireturn, 1), (9, .aload_n 0, 1), (10, .dup, 1), (11, .getfield 285, 3), (14, .iconst 1, 1), (15, .isub, 1), (16, .putfield 285, 3), (19, .iconst 0, 1), (20, .istore_n 1, 1), (21, .iload_n 1, 1), (22, .sipush 205, 3), (25, .if_icmp .ge 30, 3)]
set_option maxRecDepth 100000 in
theorem dk243_0 : ∀ e ∈ ck243_0, decode prog_14_method_81_code e.1 = .ok e.2 := by decide +kernel
def ck243_1 : List (Nat × Instr × Nat) := [(28, .aload_n 0, 1), (29, .getfield 61, 3), (32, .iload_n 1, 1), (33, .aload_n 0, 1), (34, .getfield 71, 3), (37, .sipush 205, 3), (40, .aload_n 0, 1), (41, .getfield 285, 3), (44, .imul, 1), (45, .iload_n 1, 1), (46, .iadd, 1), (47, .iaload, 1), (48, .iastore, 1), (49, .iinc 1 1, 3), (52, .goto (-31), 3), (55, .aload_n 0, 1)]
set_option maxRecDepth 100000 in
theorem dk243_1 : ∀ e ∈ ck243_1, decode prog_14_method_81_code e.1 = .ok e.2 := by decide +kernel
def ck243_2 : List (Nat × Instr × Nat) := [(56, .getfield 285, 3), (59, .ireturn, 1)]
set_option maxRecDepth 100000 in
theorem dk243_2 : ∀ e ∈ ck243_2, decode prog_14_method_81_code e.1 = .ok e.2 := by decide +kernel
def ck243 : List (Nat × List (Nat × Instr × Nat)) := [(28, ck243_0), (56, ck243_1), (60, ck243_2)]
theorem dk243 : cOk prog_14_method_81_code ck243 := cOk_c dk243_0 (cOk_c dk243_1 (cOk_c dk243_2 (cOk_n)))
def ck244_0 : List (Nat × Instr × Nat) := [(0, .iload_n 1, 1), (1, .iconst 0, 1), (2, .aload_n 0, 1), (3, .getfield 61, 3), (6, .bipush 24, 2), (8, .iaload, 1), (9, .iconst 1, 1), (10, .isub, 1), (11, .invokestatic 217, 3), (14, .ifCond .eq 38, 3), (17, .iload_n 2, 1), (18, .iconst 0, 1), (19, .iconst 2, 1), (20, .invokestatic 217, 3), (23, .ifCond .eq 29, 3), (26, .aload_n 0, 1)]
set_option maxRecDepth 100000 in
theorem dk244_0 : ∀ e ∈ ck244_0, decode prog_14_method_82_code e.1 = .ok e.2 := by decide +kernel
def ck244_1 : List (Nat × Instr × Nat) := [(27, .getfield 61, 3), (30, .bipush 25, 2), (32, .iconst 3, 1), (33, .aload_n 0, 1), (34, .getfield 61, 3), (37, .bipush 24, 2), (39, .iaload, 1), (40, .iconst 1, 1), (41, .isub, 1), (42, .iload_n 1, 1), (43, .isub, 1), (44, .imul, 1), (45, .iadd, 1), (46, .iload_n 2, 1), (47, .iadd, 1), (48, .iaload, 1)]
set_option maxRecDepth 100000 in
theorem dk244_1 : ∀ e ∈ ck244_1, decode prog_14_method_82_code e.1 = .ok e.2 := by decide +kernel
def ck244_2 : List (Nat × Instr × Nat) := [(49, .goto 6, 3), (52, .ldc_w 375, 3), (55, .ireturn, 1)]
set_option maxRecDepth 100000 in
theorem dk244_2 : ∀ e ∈ ck244_2, decode prog_14_method_82_code e.1 = .ok e.2 := by decide +kernel
def ck244 : List (Nat × List (Nat × Instr × Nat)) := [(27, ck244_0), (49, ck244_1), (56, ck244_2)]
theorem dk244 : cOk prog_14_method_82_code ck244 := cOk_c dk244_0 (cOk_c dk244_1 (cOk_c dk244_2 (cOk_n)))
def ck245_0 : List (Nat × Instr × Nat) := [(0, .iconst 0, 1), (1, .istore_n 1, 1), (2, .iload_n 1, 1), (3, .bipush 24, 2), (5, .if_icmp .ge 21, 3), (8, .aload_n 0, 1), (9, .getfield 74, 3), (12, .iload_n 1, 1), (13, .aload_n 0, 1), (14, .getfield 61, 3), (17, .iload_n 1, 1), (18, .iaload, 1), (19, .iastore, 1), (20, .iinc 1 1, 3), (23, .goto (-21), 3), (26, .aload_n 0, 1)]
set_option maxRecDepth 100000 in
theorem dk245_0 : ∀ e ∈ ck245_0, decode prog_14_method_83_code e.1 = .ok e.2 := by decide +kernel
def ck245_1 : List (Nat × Instr × Nat) := [(27, .iconst 0, 1), (28, .putfield 328, 3), (31, .return_, 1)]
set_option maxRecDepth 100000 in
theorem dk245_1 : ∀ e ∈ ck245_1, decode prog_14_method_83_code e.1 = .ok e.2 := by decide +kernel
def ck245 : List (Nat × List (Nat × Instr × Nat)) := [(27, ck245_0), (32, ck245_1)]
theorem dk245 : cOk prog_14_method_83_code ck245 := cOk_c dk245_0 (cOk_c dk245_1 (cOk_n))
def ck246_0 : List (Nat × Instr × Nat) := [(0, .iconst 0, 1), (1, .istore_n 1, 1), (2, .iload_n 1, 1), (3, .bipush 24, 2), (5, .if_icmp .ge 21, 3), (8, .aload_n 0, 1), (9, .getfield 61, 3), (12, .iload_n 1, 1), (13, .aload_n 0, 1), (14, .getfield 74, 3), (17, .iload_n 1, 1), (18, .iaload, 1), (19, .iastore, 1), (20, .iinc 1 1, 3), (23, .goto (-21), 3), (26, .return_, 1)]
set_option maxRecDepth 100000 in
theorem dk246_0 : ∀ e ∈ ck246_0, decode prog_14_method_84_code e.1 = .ok e.2 := by decide +kernel
def ck246 : List (Nat × List (Nat × Instr × Nat)) := [(27, ck246_0)]
theorem dk246 : cOk prog_14_method_84_code ck246 := cOk_c dk246_0 (cOk_n)
def ck247_0 : List (Nat × Instr × Nat) := [(0, .aload_n 0, 1), (1, .invokevirtual 376, 3), (4, .aload_n 0, 1), (5, .aload_n 0, 1), (6, .getfield 61, 3), (9, .bipush 22, 2), (11, .iaload, 1), (12, .putfield 379, 3), (15, .aload_n 0, 1), (16, .aload_n 0, 1), (17, .getfield 61, 3), (20, .bipush 18, 2), (22, .iaload, 1), (23, .putfield 382, 3), (26, .aload_n 0, 1), (27, .invokevirtual 385, 3)]
set_option maxRecDepth 100000 in
theorem dk247_0 : ∀ e ∈ ck247_0, decode prog_14_method_85_code e.1 = .ok e.2 := by decide +kernel
def ck247_1 : List (Nat × Instr × Nat) := [(30, .return_, 1)]
set_option maxRecDepth 100000 in
theorem dk247_1 : ∀ e ∈ ck247_1, decode prog_14_method_85_code e.1 = .ok e.2 := by decide +kernel
def ck247 : List (Nat × List (Nat × Instr × Nat)) := [(30, ck247_0), (31, ck247_1)]
theorem dk247 : cOk prog_14_method_85_code ck247 := cOk_c dk247_0 (cOk_c dk247_1 (cOk_n))
def ck248_0 : List (Nat × Instr × Nat) := [(0, .aload_n 0, 1), (1, .getfield 267, 3), (4, .ifCond .eq 12, 3), (7, .iload_n 1, 1), (8, .iconst 0, 1), (9, .iconst 2, 1), (10, .invokestatic 217, 3), (13, .ifCond .ne 5, 3), (16, .iconst (-1), 1), (17, .ireturn, 1), (18, .aload_n 0, 1), (19, .invokevirtual 388, 3), (22, .aload_n 0, 1), (23, .invokevirtual 391, 3), (26, .iload_n 1, 1), (27, .ifCond .ne 10, 3)]
set_option maxRecDepth 100000 in
theorem dk248_0 : ∀ e ∈ ck248_0, decode prog_14_method_86_code e.1 = .ok e.2 := by decide +kernel
def ck248_1 : List (Nat × Instr × Nat) := [(30, .aload_n 0, 1), (31, .getfield 379, 3), (34, .goto 23, 3), (37, .iload_n 1, 1), (38, .iconst 1, 1), (39, .if_icmp .ne 14, 3), (42, .aload_n 0, 1), (43, .aload_n 0, 1), (44, .getfield 379, 3), (47, .invokevirtual 394, 3), (50, .goto 7, 3), (53, .aload_n 0, 1), (54, .getfield 382, 3), (57, .ireturn, 1)]
set_option maxRecDepth 100000 in
theorem dk248_1 : ∀ e ∈ ck248_1, decode prog_14_method_86_code e.1 = .ok e.2 := by decide +kernel
def ck248 : List (Nat × List (Nat × Instr × Nat)) := [(30, ck248_0), (58, ck248_1)]
theorem dk248 : cOk prog_14_method_86_code ck248 := cOk_c dk248_0 (cOk_c dk248_1 (cOk_n))
def ck249_0 : List (Nat × Instr × Nat) := [(0, .aload_n 0, 1), (1, .getfield 267, 3), (4, .ifCond .eq 13, 3), (7, .iload_n 1, 1), (8, .iconst 0, 1), (9, .bipush 20, 2), (11, .invokestatic 217, 3), (14, .ifCond .ne 5, 3), (17, .iconst (-1), 1), (18, .ireturn, 1), (19, .aload_n 0, 1), (20, .invokevirtual 388, 3), (23, .iconst 0, 1), (24, .istore_n 2, 1), (25, .iload_n 2, 1), (26, .iload_n 1, 1)]
set_option maxRecDepth 100000 in
theorem dk249_0 : ∀ e ∈ ck249_0, decode prog_14_method_87_code e.1 = .ok e.2 := by decide +kernel
def ck249_1 : List (Nat × Instr × Nat) := [(27, .if_icmp .ge 21, 3), (30, .aload_n 0, 1), (31, .invokevirtual 331, 3), (34, .ifCond .ne 14, 3), (37, .aload_n 0, 1), (38, .invokevirtual 334, 3), (41, .pop, 1), (42, .iinc 2 1, 3), (45, .goto (-20), 3), (48, .aload_n 0, 1), (49, .getfield 61, 3), (52, .bipush 22, 2), (54, .iaload, 1), (55, .istore_n 2, 1), (56, .aload_n 0, 1), (57, .invokevirtual 385, 3)]
set_option maxRecDepth 100000 in
theorem dk249_1 : ∀ e ∈ ck249_1, decode prog_14_method_87_code e.1 = .ok e.2 := by decide +kernel
def ck249_2 : List (Nat × Instr × Nat) := [(60, .iload_n 2, 1), (61, .ireturn, 1)]
set_option maxRecDepth 100000 in
theorem dk249_2 : ∀ e ∈ ck249_2, decode prog_14_method_87_code e.1 = .ok e.2 := by decide +kernel
def ck249 : List (Nat × List (Nat × Instr × Nat)) := [(27, ck249_0), (60, ck249_1), (62, ck249_2)]
theorem dk249 : cOk prog_14_method_87_code ck249 := cOk_c dk249_0 (cOk_c dk249_1 (cOk_c dk249_2 (cOk_n)))
def ck250_0 : List (Nat × Instr × Nat) := [(0, .aload_n 0, 1), (1, .getfield 397, 3), (4, .iconst (-1), 1), (5, .if_icmp .eq 27, 3), (8, .iload_n 2, 1), (9, .aload_n 0, 1), (10, .getfield 400, 3), (13, .if_icmp .lt 19, 3), (16, .iload_n 2, 1), (17, .aload_n 0, 1), (18, .getfield 400, 3), (21, .if_icmp .ne 21, 3), (24, .iload_n 1, 1), (25, .aload_n 0, 1), (26, .getfield 397, 3), (29, .if_icmp .ge 13, 3)]
set_option maxRecDepth 100000 in
theorem dk250_0 : ∀ e ∈ ck250_0, decode prog_14_method_88_code e.1 = .ok e.2 := by decide +kernel
def ck250_1 : List (Nat × Instr × Nat) := [(32, .aload_n 0, 1), (33, .iload_n 1, 1), (34, .putfield 397, 3), (37, .aload_n 0, 1), (38, .iload_n 2, 1), (39, .putfield 400, 3), (42, .return_, 1)]
set_option maxRecDepth 100000 in
theorem dk250_1 : ∀ e ∈ ck250_1, decode prog_14_method_88_code e.1 = .ok e.2 := by decide +kernel
def ck250 : List (Nat × List (Nat × Instr × Nat)) := [(32, ck250_0), (43, ck250_1)]
theorem dk250 : cOk prog_14_method_88_code ck250 := cOk_c dk250_0 (cOk_c dk250_1 (cOk_n))
def ck251_0 : List (Nat × Instr × Nat) := [(0, .iload_n 1, 1), (1, .aload_n 0, 1), (2, .getfield 267, 3), (5, .if_icmp .ne 65, 3), (8, .aload_n 0, 1), (9, .invokevirtual 388, 3), (12, .iconst 0, 1), (13, .istore 5, 2), (15, .iload 5, 2), (17, .aload_n 0, 1), (18, .getfield 267, 3), (21, .if_icmp .ge 25, 3), (24, .aload_n 0, 1), (25, .getfield 61, 3), (28, .iconst 0, 1), (29, .iload 5, 2)]
set_option maxRecDepth 100000 in
theorem dk251_0 : ∀ e ∈ ck251_0, decode prog_14_method_89_code e.1 = .ok e.2 := by decide +kernel
def ck251_1 : List (Nat × Instr × Nat) := [(31, .iadd, 1), (32, .aload_n 0, 1), (33, .getfield 77, 3), (36, .iload 5, 2), (38, .iaload, 1), (39, .iastore, 1), (40, .iinc 5 1, 3), (43, .goto (-28), 3), (46, .aload_n 0, 1), (47, .invokevirtual 391, 3), (50, .aload_n 0, 1), (51, .aload_n 0, 1), (52, .getfield 379, 3), (55, .invokevirtual 394, 3), (58, .iload_n 2, 1), (59, .if_icmp .ne 10, 3)]
set_option maxRecDepth 100000 in
theorem dk251_1 : ∀ e ∈ ck251_1, decode prog_14_method_89_code e.1 = .ok e.2 := by decide +kernel
def ck251_2 : List (Nat × Instr × Nat) := [(62, .aload_n 0, 1), (63, .iload_n 3, 1), (64, .iload 4, 2), (66, .invokevirtual 403, 3), (69, .return_, 1), (70, .iconst 0, 1), (71, .istore 5, 2), (73, .iload 5, 2), (75, .iconst 3, 1), (76, .if_icmp .ge 53, 3), (79, .aload_n 0, 1), (80, .getfield 77, 3), (83, .iload_n 1, 1), (84, .iload 5, 2), (86, .iastore, 1), (87, .aload_n 0, 1)]
set_option maxRecDepth 100000 in
theorem dk251_2 : ∀ e ∈ ck251_2, decode prog_14_method_89_code e.1 = .ok e.2 := by decide +kernel
def ck251_3 : List (Nat × Instr × Nat) := [(88, .iload_n 1, 1), (89, .iconst 1, 1), (90, .iadd, 1), (91, .iload_n 2, 1), (92, .bipush 10, 2), (94, .iload_n 3, 1), (95, .imul, 1), (96, .iload 5, 2), (98, .iadd, 1), (99, .iload 4, 2), (101, .iload 5, 2), (103, .aload_n 0, 1), (104, .getfield 61, 3), (107, .iconst 0, 1), (108, .iload_n 1, 1), (109, .iadd, 1)]
set_option maxRecDepth 100000 in
theorem dk251_3 : ∀ e ∈ ck251_3, decode prog_14_method_89_code e.1 = .ok e.2 := by decide +kernel
def ck251_4 : List (Nat × Instr × Nat) := [(110, .iaload, 1), (111, .if_icmp .ne 7, 3), (114, .iconst 0, 1), (115, .goto 4, 3), (118, .iconst 1, 1), (119, .iadd, 1), (120, .invokevirtual 406, 3), (123, .iinc 5 1, 3), (126, .goto (-53), 3), (129, .return_, 1)]
set_option maxRecDepth 100000 in
theorem dk251_4 : ∀ e ∈ ck251_4, decode prog_14_method_89_code e.1 = .ok e.2 := by decide +kernel
def ck251 : List (Nat × List (Nat × Instr × Nat)) := [(31, ck251_0), (62, ck251_1), (88, ck251_2), (110, ck251_3), (130, ck251_4)]
theorem dk251 : cOk prog_14_method_89_code ck251 := cOk_c dk251_0 (cOk_c dk251_1 (cOk_c dk251_2 (cOk_c dk251_3 (cOk_c dk251_4 (cOk_n)))))
def ck252_0 : List (Nat × Instr × Nat) := [(0, .aload_n 0, 1), (1, .getfield 267, 3), (4, .ifCond .le 25, 3), (7, .iload_n 1, 1), (8, .iconst 0, 1), (9, .iconst 2, 1), (10, .invokestatic 217, 3), (13, .ifCond .eq 16, 3), (16, .iload_n 2, 1), (17, .iconst 0, 1), (18, .iconst 1, 1), (19, .invokestatic 217, 3), (22, .ifCond .eq 7, 3), (25, .iconst 1, 1), (26, .goto 4, 3), (29, .iconst 0, 1)]
set_option maxRecDepth 100000 in
theorem dk252_0 : ∀ e ∈ ck252_0, decode prog_14_method_90_code e.1 = .ok e.2 := by decide +kernel
def ck252_1 : List (Nat × Instr × Nat) := [(30, .ireturn, 1)]
set_option maxRecDepth 100000 in
theorem dk252_1 : ∀ e ∈ ck252_1, decode prog_14_method_90_code e.1 = .ok e.2 := by decide +kernel
def ck252 : List (Nat × List (Nat × Instr × Nat)) := [(30, ck252_0), (31, ck252_1)]
theorem dk252 : cOk prog_14_method_90_code ck252 := cOk_c dk252_0 (cOk_c dk252_1 (cOk_n))
def ck253_0 : List (Nat × Instr × Nat) := [(0, .aload_n 0, 1), (1, .iload_n 1, 1), (2, .iload_n 2, 1), (3, .invokevirtual 410, 3), (6, .ifCond .ne 5, 3), (9, .iconst (-1), 1), (10, .ireturn, 1), (11, .aload_n 0, 1), (12, .iconst (-1), 1), (13, .putfield 397, 3), (16, .aload_n 0, 1), (17, .iconst 0, 1), (18, .iload_n 1, 1), (19, .iconst 0, 1), (20, .iconst 0, 1), (21, .invokevirtual 406, 3)]
set_option maxRecDepth 100000 in
theorem dk253_0 : ∀ e ∈ ck253_0, decode prog_14_method_91_code e.1 = .ok e.2 := by decide +kernel
def ck253_1 : List (Nat × Instr × Nat) := [(24, .aload_n 0, 1), (25, .getfield 397, 3), (28, .iconst (-1), 1), (29, .if_icmp .eq 8, 3), (32, .iload_n 2, 1), (33, .iconst 1, 1), (34, .if_icmp .ne 10, 3), (37, .aload_n 0, 1), (38, .getfield 397, 3), (41, .goto 7, 3), (44, .aload_n 0, 1), (45, .getfield 400, 3), (48, .ireturn, 1)]
set_option maxRecDepth 100000 in
theorem dk253_1 : ∀ e ∈ ck253_1, decode prog_14_method_91_code e.1 = .ok e.2 := by decide +kernel
def ck253 : List (Nat × List (Nat × Instr × Nat)) := [(24, ck253_0), (49, ck253_1)]
theorem dk253 : cOk prog_14_method_91_code ck253 := cOk_c dk253_0 (cOk_c dk253_1 (cOk_n))
def ck254_0 : List (Nat × Instr × Nat) := [(0, .iload_n 2, 1), (1, .ifCond .ne 67, 3), (4, .aload_n 0, 1), (5, .invokevirtual 388, 3), (8, .iconst 0, 1), (9, .istore 6, 2), (11, .iload 6, 2), (13, .aload_n 0, 1), (14, .getfield 267, 3), (17, .if_icmp .ge 26, 3), (20, .aload_n 0, 1), (21, .getfield 61, 3), (24, .bipush 12, 2), (26, .aload_n 0, 1), (27, .getfield 80, 3), (30, .iload 6, 2)]
set_option maxRecDepth 100000 in
theorem dk254_0 : ∀ e ∈ ck254_0, decode prog_14_method_92_code e.1 = .ok e.2 := by decide +kernel
def ck254_1 : List (Nat × Instr × Nat) := [(32, .iaload, 1), (33, .iadd, 1), (34, .iload 6, 2), (36, .iastore, 1), (37, .iinc 6 1, 3), (40, .goto (-29), 3), (43, .aload_n 0, 1), (44, .invokevirtual 391, 3), (47, .aload_n 0, 1), (48, .aload_n 0, 1), (49, .getfield 379, 3), (52, .invokevirtual 394, 3), (55, .iload_n 3, 1), (56, .if_icmp .ne 11, 3), (59, .aload_n 0, 1), (60, .iload 4, 2)]
set_option maxRecDepth 100000 in
theorem dk254_1 : ∀ e ∈ ck254_1, decode prog_14_method_92_code e.1 = .ok e.2 := by decide +kernel
def ck254_2 : List (Nat × Instr × Nat) := [(62, .iload 5, 2), (64, .invokevirtual 403, 3), (67, .return_, 1), (68, .iconst 0, 1), (69, .istore 6, 2), (71, .iload 6, 2), (73, .aload_n 0, 1), (74, .getfield 267, 3), (77, .if_icmp .ge 72, 3), (80, .iload_n 2, 1), (81, .iload 6, 2), (83, .invokestatic 228, 3), (86, .ifCond .eq 57, 3), (89, .aload_n 0, 1), (90, .getfield 80, 3), (93, .iload_n 1, 1)]
set_option maxRecDepth 100000 in
theorem dk254_2 : ∀ e ∈ ck254_2, decode prog_14_method_92_code e.1 = .ok e.2 := by decide +kernel
def ck254_3 : List (Nat × Instr × Nat) := [(94, .iload 6, 2), (96, .iastore, 1), (97, .aload_n 0, 1), (98, .iload_n 1, 1), (99, .iconst 1, 1), (100, .iadd, 1), (101, .iload_n 2, 1), (102, .iconst 1, 1), (103, .iload 6, 2), (105, .ishl, 1), (106, .iconst (-1), 1), (107, .ixor, 1), (108, .iand, 1), (109, .iload_n 3, 1), (110, .bipush 10, 2), (112, .iload 4, 2)]
set_option maxRecDepth 100000 in
theorem dk254_3 : ∀ e ∈ ck254_3, decode prog_14_method_92_code e.1 = .ok e.2 := by decide +kernel
def ck254_4 : List (Nat × Instr × Nat) := [(114, .imul, 1), (115, .iload 6, 2), (117, .iadd, 1), (118, .iload 5, 2), (120, .aload_n 0, 1), (121, .getfield 61, 3), (124, .bipush 12, 2), (126, .iload 6, 2), (128, .iadd, 1), (129, .iaload, 1), (130, .iload_n 1, 1), (131, .if_icmp .ne 7, 3), (134, .iconst 0, 1), (135, .goto 4, 3), (138, .iconst 1, 1), (139, .iadd, 1)]
set_option maxRecDepth 100000 in
theorem dk254_4 : ∀ e ∈ ck254_4, decode prog_14_method_92_code e.1 = .ok e.2 := by decide +kernel
def ck254_5 : List (Nat × Instr × Nat) := [(140, .invokevirtual 413, 3), (143, .iinc 6 1, 3), (146, .goto (-75), 3), (149, .return_, 1)]
set_option maxRecDepth 100000 in
theorem dk254_5 : ∀ e ∈ ck254_5, decode prog_14_method_92_code e.1 = .ok e.2 := by decide +kernel
def ck254 : List (Nat × List (Nat × Instr × Nat)) := [(32, ck254_0), (62, ck254_1), (94, ck254_2), (114, ck254_3), (140, ck254_4), (150, ck254_5)]
theorem dk254 : cOk prog_14_method_92_code ck254 := cOk_c dk254_0 (cOk_c dk254_1 (cOk_c dk254_2 (cOk_c dk254_3 (cOk_c dk254_4 (cOk_c dk254_5 (cOk_n))))))
def ck255_0 : List (Nat × Instr × Nat) := [(0, .aload_n 0, 1), (1, .iload_n 1, 1), (2, .iload_n 2, 1), (3, .invokevirtual 410, 3), (6, .ifCond .ne 5, 3), (9, .iconst (-1), 1), (10, .ireturn, 1), (11, .aload_n 0, 1), (12, .iconst (-1), 1), (13, .putfield 397, 3), (16, .aload_n 0, 1), (17, .iconst 0, 1), (18, .aload_n 0, 1), (19, .invokevirtual 417, 3), (22, .iload_n 1, 1), (23, .iconst 0, 1)]
set_option maxRecDepth 100000 in
theorem dk255_0 : ∀ e ∈ ck255_0, decode prog_14_method_93_code e.1 = .ok e.2 := by decide +kernel
def ck255_1 : List (Nat × Instr × Nat) := [(24, .iconst 0, 1), (25, .invokevirtual 413, 3), (28, .aload_n 0, 1), (29, .getfield 397, 3), (32, .iconst (-1), 1), (33, .if_icmp .eq 8, 3), (36, .iload_n 2, 1), (37, .iconst 1, 1), (38, .if_icmp .ne 10, 3), (41, .aload_n 0, 1), (42, .getfield 397, 3), (45, .goto 7, 3), (48, .aload_n 0, 1), (49, .getfield 400, 3), (52, .ireturn, 1)]
set_option maxRecDepth 100000 in
theorem dk255_1 : ∀ e ∈ ck255_1, decode prog_14_method_93_code e.1 = .ok e.2 := by decide +kernel
def ck255 : List (Nat × List (Nat × Instr × Nat)) := [(24, ck255_0), (53, ck255_1)]
theorem dk255 : cOk prog_14_method_93_code ck255 := cOk_c dk255_0 (cOk_c dk255_1 (cOk_n))
def ck256_0 : List (Nat × Instr × Nat) := [(0, .aload_n 0, 1), (1, .invokevirtual 388, 3), (4, .iconst 0, 1), (5, .istore_n 2, 1), (6, .iload_n 2, 1), (7, .aload_n 0, 1), (8, .getfield 267, 3), (11, .if_icmp .ge 30, 3), (14, .aload_n 0, 1), (15, .getfield 61, 3), (18, .iconst 0, 1), (19, .iload_n 2, 1), (20, .iadd, 1), (21, .iload_n 1, 1), (22, .iload_n 2, 1), (23, .invokestatic 228, 3)]
set_option maxRecDepth 100000 in
theorem dk256_0 : ∀ e ∈ ck256_0, decode prog_14_method_94_code e.1 = .ok e.2 := by decide +kernel
def ck256_1 : List (Nat × Instr × Nat) := [(26, .ifCond .eq 7, 3), (29, .iconst 2, 1), (30, .goto 4, 3), (33, .iconst 0, 1), (34, .iastore, 1), (35, .iinc 2 1, 3), (38, .goto (-32), 3), (41, .aload_n 0, 1), (42, .invokevirtual 391, 3), (45, .aload_n 0, 1), (46, .aload_n 0, 1), (47, .getfield 379, 3), (50, .invokevirtual 394, 3), (53, .ireturn, 1)]
set_option maxRecDepth 100000 in
theorem dk256_1 : ∀ e ∈ ck256_1, decode prog_14_method_94_code e.1 = .ok e.2 := by decide +kernel
def ck256 : List (Nat × List (Nat × Instr × Nat)) := [(26, ck256_0), (54, ck256_1)]
theorem dk256 : cOk prog_14_method_94_code ck256 := cOk_c dk256_0 (cOk_c dk256_1 (cOk_n))
def ck257_0 : List (Nat × Instr × Nat) := [(0, .aload_n 0, 1), (1, .iload_n 1, 1), (2, .invokevirtual 340, 3), (5, .ifCond .ne 5, 3), (8, .iconst (-1), 1), (9, .ireturn, 1), (10, .iconst 0, 1), (11, .istore_n 2, 1), (12, .iconst 0, 1), (13, .istore_n 3, 1), (14, .iload_n 3, 1), (15, .aload_n 0, 1), (16, .invokevirtual 417, 3), (19, .if_icmp .gt 42, 3), (22, .iload_n 2, 1), (23, .iload_n 3, 1)]
set_option maxRecDepth 100000 in
theorem dk257_0 : ∀ e ∈ ck257_0, decode prog_14_method_95_code e.1 = .ok e.2 := by decide +kernel
def ck257_1 : List (Nat × Instr × Nat) := [(24, .iload_n 1, 1), (25, .invokestatic 228, 3), (28, .ifCond .ne 24, 3), (31, .aload_n 0, 1), (32, .iload_n 3, 1), (33, .invokevirtual 420, 3), (36, .aload_n 0, 1), (37, .iload_n 3, 1), (38, .iconst 1, 1), (39, .iload_n 1, 1), (40, .ishl, 1), (41, .ior, 1), (42, .invokevirtual 420, 3), (45, .if_icmp .eq 7, 3), (48, .iconst 1, 1), (49, .goto 4, 3)]
set_option maxRecDepth 100000 in
theorem dk257_1 : ∀ e ∈ ck257_1, decode prog_14_method_95_code e.1 = .ok e.2 := by decide +kernel
def ck257_2 : List (Nat × Instr × Nat) := [(52, .iconst 0, 1), (53, .iadd, 1), (54, .istore_n 2, 1), (55, .iinc 3 1, 3), (58, .goto (-44), 3), (61, .iload_n 2, 1), (62, .ireturn, 1)]
set_option maxRecDepth 100000 in
theorem dk257_2 : ∀ e ∈ ck257_2, decode prog_14_method_95_code e.1 = .ok e.2 := by decide +kernel
def ck257 : List (Nat × List (Nat × Instr × Nat)) := [(24, ck257_0), (52, ck257_1), (63, ck257_2)]
theorem dk257 : cOk prog_14_method_95_code ck257 := cOk_c dk257_0 (cOk_c dk257_1 (cOk_c dk257_2 (cOk_n)))
def ck258_0 : List (Nat × Instr × Nat) := [(0, .aload_n 0, 1), (1, .getfield 61, 3), (4, .iconst 0, 1), (5, .iload 5, 2), (7, .iadd, 1), (8, .iaload, 1), (9, .istore 6, 2), (11, .aload_n 0, 1), (12, .invokevirtual 388, 3), (15, .aload_n 0, 1), (16, .getfield 61, 3), (19, .iconst 0, 1), (20, .iload_n 1, 1), (21, .iadd, 1), (22, .iload_n 3, 1), (23, .iastore, 1)]
set_option maxRecDepth 100000 in
theorem dk258_0 : ∀ e ∈ ck258_0, decode prog_14_method_96_code e.1 = .ok e.2 := by decide +kernel
def ck258_1 : List (Nat × Instr × Nat) := [(24, .aload_n 0, 1), (25, .getfield 61, 3), (28, .iconst 0, 1), (29, .iload_n 2, 1), (30, .iadd, 1), (31, .iload 4, 2), (33, .iastore, 1), (34, .aload_n 0, 1), (35, .invokevirtual 391, 3), (38, .aload_n 0, 1), (39, .aload_n 0, 1), (40, .getfield 379, 3), (43, .invokevirtual 394, 3), (46, .iload 6, 2), (48, .if_icmp .ne 8, 3), (51, .bipush 6, 2)]
set_option maxRecDepth 100000 in
theorem dk258_1 : ∀ e ∈ ck258_1, decode prog_14_method_96_code e.1 = .ok e.2 := by decide +kernel
def ck258_2 : List (Nat × Instr × Nat) := [(53, .goto 4, 3), (56, .iconst 0, 1), (57, .istore 7, 2), (59, .iload 7, 2), (61, .iload 5, 2), (63, .iload_n 1, 1), (64, .if_icmp .ne 7, 3), (67, .iload_n 3, 1), (68, .goto 5, 3), (71, .iload 4, 2), (73, .iconst 1, 1), (74, .if_icmp .ne 7, 3), (77, .iconst 0, 1), (78, .goto 4, 3), (81, .iconst 1, 1), (82, .isub, 1)]
set_option maxRecDepth 100000 in
theorem dk258_2 : ∀ e ∈ ck258_2, decode prog_14_method_96_code e.1 = .ok e.2 := by decide +kernel
def ck258_3 : List (Nat × Instr × Nat) := [(83, .istore 7, 2), (85, .aload_n 0, 1), (86, .getfield 382, 3), (89, .iload 5, 2), (91, .invokestatic 228, 3), (94, .ifCond .eq 10, 3), (97, .iload 7, 2), (99, .iconst 2, 1), (100, .isub, 1), (101, .goto 5, 3), (104, .iload 7, 2), (106, .ireturn, 1)]
set_option maxRecDepth 100000 in
theorem dk258_3 : ∀ e ∈ ck258_3, decode prog_14_method_96_code e.1 = .ok e.2 := by decide +kernel
def ck258 : List (Nat × List (Nat × Instr × Nat)) := [(24, ck258_0), (53, ck258_1), (83, ck258_2), (107, ck258_3)]
theorem dk258 : cOk prog_14_method_96_code ck258 := cOk_c dk258_0 (cOk_c dk258_1 (cOk_c dk258_2 (cOk_c dk258_3 (cOk_n))))
def ck259_0 : List (Nat × Instr × Nat) := [(0, .aload_n 0, 1), (1, .iload_n 1, 1), (2, .invokevirtual 340, 3), (5, .ifCond .eq 20, 3), (8, .aload_n 0, 1), (9, .iload_n 2, 1), (10, .invokevirtual 340, 3), (13, .ifCond .eq 12, 3), (16, .iload_n 1, 1), (17, .iload_n 2, 1), (18, .if_icmp .eq 7, 3), (21, .iconst 1, 1), (22, .goto 4, 3), (25, .iconst 0, 1), (26, .ireturn, 1)]
set_option maxRecDepth 100000 in
theorem dk259_0 : ∀ e ∈ ck259_0, decode prog_14_method_97_code e.1 = .ok e.2 := by decide +kernel
def ck259 : List (Nat × List (Nat × Instr × Nat)) := [(27, ck259_0)]
theorem dk259 : cOk prog_14_method_97_code ck259 := cOk_c dk259_0 (cOk_n)
def ck260_0 : List (Nat × Instr × Nat) := [(0, .aload_n 0, 1), (1, .iload_n 1, 1), (2, .iload_n 2, 1), (3, .invokevirtual 423, 3), (6, .ifCond .eq 32, 3), (9, .iload_n 3, 1), (10, .iconst 0, 1), (11, .iconst 2, 1), (12, .invokestatic 217, 3), (15, .ifCond .eq 23, 3), (18, .iload 4, 2), (20, .iconst 0, 1), (21, .iconst 2, 1), (22, .invokestatic 217, 3), (25, .ifCond .eq 13, 3), (28, .iload 5, 2)]
set_option maxRecDepth 100000 in
theorem dk260_0 : ∀ e ∈ ck260_0, decode prog_14_method_98_code e.1 = .ok e.2 := by decide +kernel
def ck260_1 : List (Nat × Instr × Nat) := [(30, .iconst 0, 1), (31, .iconst 1, 1), (32, .invokestatic 217, 3), (35, .ifCond .ne 7, 3), (38, .ldc_w 375, 3), (41, .ireturn, 1), (42, .aload_n 0, 1), (43, .iload_n 1, 1), (44, .iload_n 2, 1), (45, .iload_n 3, 1), (46, .iload 4, 2), (48, .iload 5, 2), (50, .ifCond .ne 7, 3), (53, .iload_n 1, 1), (54, .goto 4, 3), (57, .iload_n 2, 1)]
set_option maxRecDepth 100000 in
theorem dk260_1 : ∀ e ∈ ck260_1, decode prog_14_method_98_code e.1 = .ok e.2 := by decide +kernel
def ck260_2 : List (Nat × Instr × Nat) := [(58, .invokevirtual 426, 3), (61, .ireturn, 1)]
set_option maxRecDepth 100000 in
theorem dk260_2 : ∀ e ∈ ck260_2, decode prog_14_method_98_code e.1 = .ok e.2 := by decide +kernel
def ck260 : List (Nat × List (Nat × Instr × Nat)) := [(30, ck260_0), (58, ck260_1), (62, ck260_2)]
theorem dk260 : cOk prog_14_method_98_code ck260 := cOk_c dk260_0 (cOk_c dk260_1 (cOk_c dk260_2 (cOk_n)))
def ck261_0 : List (Nat × Instr × Nat) := [(0, .iconst 0, 1), (1, .istore 5, 2), (3, .iload 5, 2), (5, .iconst 3, 1), (6, .if_icmp .ge 58, 3), (9, .aload_n 0, 1), (10, .iload_n 1, 1), (11, .iload_n 2, 1), (12, .iload 5, 2), (14, .iload 4, 2), (16, .iload_n 1, 1), (17, .invokevirtual 426, 3), (20, .aload_n 0, 1), (21, .iload_n 1, 1), (22, .iload_n 2, 1), (23, .iload_n 3, 1)]
set_option maxRecDepth 100000 in
theorem dk261_0 : ∀ e ∈ ck261_0, decode prog_14_method_99_code e.1 = .ok e.2 := by decide +kernel
def ck261_1 : List (Nat × Instr × Nat) := [(24, .iload 4, 2), (26, .iload_n 1, 1), (27, .invokevirtual 426, 3), (30, .if_icmp .gt 26, 3), (33, .aload_n 0, 1), (34, .iload_n 1, 1), (35, .iload_n 2, 1), (36, .iload_n 3, 1), (37, .iload 5, 2), (39, .iload_n 2, 1), (40, .invokevirtual 426, 3), (43, .aload_n 0, 1), (44, .iload_n 1, 1), (45, .iload_n 2, 1), (46, .iload_n 3, 1), (47, .iload 4, 2)]
set_option maxRecDepth 100000 in
theorem dk261_1 : ∀ e ∈ ck261_1, decode prog_14_method_99_code e.1 = .ok e.2 := by decide +kernel
def ck261_2 : List (Nat × Instr × Nat) := [(49, .iload_n 2, 1), (50, .invokevirtual 426, 3), (53, .if_icmp .le 5, 3), (56, .iconst 0, 1), (57, .ireturn, 1), (58, .iinc 5 1, 3), (61, .goto (-58), 3), (64, .iconst 1, 1), (65, .ireturn, 1)]
set_option maxRecDepth 100000 in
theorem dk261_2 : ∀ e ∈ ck261_2, decode prog_14_method_99_code e.1 = .ok e.2 := by decide +kernel
def ck261 : List (Nat × List (Nat × Instr × Nat)) := [(24, ck261_0), (49, ck261_1), (66, ck261_2)]
theorem dk261 : cOk prog_14_method_99_code ck261 := cOk_c dk261_0 (cOk_c dk261_1 (cOk_c dk261_2 (cOk_n)))
def ck262_0 : List (Nat × Instr × Nat) := [(0, .aload_n 0, 1), (1, .iload_n 1, 1), (2, .iload_n 2, 1), (3, .invokevirtual 423, 3), (6, .ifCond .eq 8, 3), (9, .iload_n 3, 1), (10, .iconst (-1), 1), (11, .if_icmp .ge 5, 3), (14, .iconst (-1), 1), (15, .ireturn, 1), (16, .iconst 0, 1), (17, .istore 4, 2), (19, .iconst 0, 1), (20, .istore 5, 2), (22, .iload 5, 2), (24, .bipush 9, 2)]
set_option maxRecDepth 100000 in
theorem dk262_0 : ∀ e ∈ ck262_0, decode prog_14_method_100_code e.1 = .ok e.2 := by decide +kernel
def ck262_1 : List (Nat × Instr × Nat) := [(26, .if_icmp .ge 48, 3), (29, .aload_n 0, 1), (30, .iload_n 1, 1), (31, .iload_n 2, 1), (32, .iload 5, 2), (34, .iconst 3, 1), (35, .idiv, 1), (36, .iload 5, 2), (38, .iconst 3, 1), (39, .irem, 1), (40, .invokevirtual 430, 3), (43, .ifCond .eq 25, 3), (46, .iload 4, 2), (48, .iload_n 3, 1), (49, .if_icmp .ne 16, 3), (52, .bipush 10, 2)]
set_option maxRecDepth 100000 in
theorem dk262_1 : ∀ e ∈ ck262_1, decode prog_14_method_100_code e.1 = .ok e.2 := by decide +kernel
def ck262_2 : List (Nat × Instr × Nat) := [(54, .iload 5, 2), (56, .iconst 3, 1), (57, .idiv, 1), (58, .imul, 1), (59, .iload 5, 2), (61, .iconst 3, 1), (62, .irem, 1), (63, .iadd, 1), (64, .ireturn, 1), (65, .iinc 4 1, 3), (68, .iinc 5 1, 3), (71, .goto (-49), 3), (74, .iload_n 3, 1), (75, .iconst (-1), 1), (76, .if_icmp .ne 8, 3), (79, .iload 4, 2)]
set_option maxRecDepth 100000 in
theorem dk262_2 : ∀ e ∈ ck262_2, decode prog_14_method_100_code e.1 = .ok e.2 := by decide +kernel
def ck262_3 : List (Nat × Instr × Nat) := [(81, .goto 4, 3), (84, .iconst (-1), 1), (85, .ireturn, 1)]
set_option maxRecDepth 100000 in
theorem dk262_3 : ∀ e ∈ ck262_3, decode prog_14_method_100_code e.1 = .ok e.2 := by decide +kernel
def ck262 : List (Nat × List (Nat × Instr × Nat)) := [(26, ck262_0), (54, ck262_1), (81, ck262_2), (86, ck262_3)]
theorem dk262 : cOk prog_14_method_100_code ck262 := cOk_c dk262_0 (cOk_c dk262_1 (cOk_c dk262_2 (cOk_c dk262_3 (cOk_n))))
def ck263_0 : List (Nat × Instr × Nat) := [(0, .aload_n 0, 1), (1, .iload_n 1, 1), (2, .invokevirtual 340, 3), (5, .ifCond .eq 49, 3), (8, .aload_n 0, 1), (9, .iload_n 2, 1), (10, .invokevirtual 337, 3), (13, .ifCond .eq 41, 3), (16, .aload_n 0, 1), (17, .iload_n 1, 1), (18, .invokevirtual 310, 3), (21, .ifCond .eq 33, 3), (24, .aload_n 0, 1), (25, .getfield 61, 3), (28, .bipush 19, 2), (30, .iaload, 1)]
set_option maxRecDepth 100000 in
theorem dk263_0 : ∀ e ∈ ck263_0, decode prog_14_method_101_code e.1 = .ok e.2 := by decide +kernel
def ck263_1 : List (Nat × Instr × Nat) := [(31, .iload_n 2, 1), (32, .invokestatic 228, 3), (35, .ifCond .ne 19, 3), (38, .aload_n 0, 1), (39, .iload_n 2, 1), (40, .iconst 0, 1), (41, .invokevirtual 316, 3), (44, .aload_n 0, 1), (45, .getfield 61, 3), (48, .bipush 21, 2), (50, .iaload, 1), (51, .if_icmp .gt 5, 3), (54, .iconst (-1), 1), (55, .ireturn, 1), (56, .aload_n 0, 1), (57, .iload_n 2, 1)]
set_option maxRecDepth 100000 in
theorem dk263_1 : ∀ e ∈ ck263_1, decode prog_14_method_101_code e.1 = .ok e.2 := by decide +kernel
def ck263_2 : List (Nat × Instr × Nat) := [(58, .iconst 0, 1), (59, .invokevirtual 316, 3), (62, .istore_n 3, 1), (63, .iconst 0, 1), (64, .istore 4, 2), (66, .iload 4, 2), (68, .aload_n 0, 1), (69, .getfield 267, 3), (72, .if_icmp .ge 77, 3), (75, .aload_n 0, 1), (76, .getfield 61, 3), (79, .bipush 12, 2), (81, .iload_n 1, 1), (82, .iadd, 1), (83, .iaload, 1), (84, .aload_n 0, 1)]
set_option maxRecDepth 100000 in
theorem dk263_2 : ∀ e ∈ ck263_2, decode prog_14_method_101_code e.1 = .ok e.2 := by decide +kernel
def ck263_3 : List (Nat × Instr × Nat) := [(85, .getfield 61, 3), (88, .bipush 12, 2), (90, .iload 4, 2), (92, .iadd, 1), (93, .iaload, 1), (94, .isub, 1), (95, .istore 5, 2), (97, .aload_n 0, 1), (98, .iload 4, 2), (100, .invokevirtual 310, 3), (103, .ifCond .eq 40, 3), (106, .iload 5, 2), (108, .ifCond .lt 35, 3), (111, .iload_n 3, 1), (112, .aload_n 0, 1), (113, .getfield 61, 3)]
set_option maxRecDepth 100000 in
theorem dk263_3 : ∀ e ∈ ck263_3, decode prog_14_method_101_code e.1 = .ok e.2 := by decide +kernel
def ck263_4 : List (Nat × Instr × Nat) := [(116, .bipush 21, 2), (118, .iaload, 1), (119, .aload_n 0, 1), (120, .iload_n 2, 1), (121, .iconst 0, 1), (122, .invokevirtual 316, 3), (125, .aload_n 0, 1), (126, .iload 4, 2), (128, .iconst 3, 1), (129, .invokevirtual 270, 3), (132, .isub, 1), (133, .invokestatic 308, 3), (136, .iload 5, 2), (138, .iadd, 1), (139, .invokestatic 306, 3), (142, .istore_n 3, 1)]
set_option maxRecDepth 100000 in
theorem dk263_4 : ∀ e ∈ ck263_4, decode prog_14_method_101_code e.1 = .ok e.2 := by decide +kernel
def ck263_5 : List (Nat × Instr × Nat) := [(143, .iinc 4 1, 3), (146, .goto (-80), 3), (149, .iload_n 3, 1), (150, .aload_n 0, 1), (151, .iload_n 2, 1), (152, .iconst 0, 1), (153, .invokevirtual 316, 3), (156, .if_icmp .ge 7, 3), (159, .iload_n 3, 1), (160, .goto 4, 3), (163, .iconst (-1), 1), (164, .ireturn, 1)]
set_option maxRecDepth 100000 in
theorem dk263_5 : ∀ e ∈ ck263_5, decode prog_14_method_101_code e.1 = .ok e.2 := by decide +kernel
def ck263 : List (Nat × List (Nat × Instr × Nat)) := [(31, ck263_0), (58, ck263_1), (85, ck263_2), (116, ck263_3), (143, ck263_4), (165, ck263_5)]
theorem dk263 : cOk prog_14_method_101_code ck263 := cOk_c dk263_0 (cOk_c dk263_1 (cOk_c dk263_2 (cOk_c dk263_3 (cOk_c dk263_4 (cOk_c dk263_5 (cOk_n))))))
