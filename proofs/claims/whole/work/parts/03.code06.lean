/-! ===== the code of the methods, instruction by instruction (printed by program) ===== -/
def ck125_0 : List (Nat × Instr × Nat) := [(0, .aload_n 0, 1), (1, .invokevirtual 122, 3), (4, .ifCond .ne 9, 3), (7, .aload_n 0, 1), (8, .iconst 0, 1), (9, .invokevirtual 184, 3), (12, .ireturn, 1), (13, .iload_n 1, 1), (14, .iconst 1, 1), (15, .if_icmp .lt 9, 3), (18, .iload_n 1, 1), (19, .bipush 20, 2), (21, .if_icmp .le 9, 3), (24, .aload_n 0, 1), (25, .iconst 1, 1), (26, .invokevirtual 184, 3)]
set_option maxRecDepth 100000 in
theorem dk125_0 : ∀ e ∈ ck125_0, decode prog_1_method_15_code e.1 = .ok e.2 := by decide +kernel
def ck125_1 : List (Nat × Instr × Nat) := [(29, .ireturn, 1), (30, .aload_n 0, 1), (31, .getfield 55, 3), (34, .getfield 205, 3), (37, .iload_n 1, 1), (38, .iadd, 1), (39, .aload_n 0, 1), (40, .getfield 45, 3), (43, .invokevirtual 208, 3), (46, .if_icmp .le 9, 3), (49, .aload_n 0, 1), (50, .iconst 4, 1), (51, .invokevirtual 184, 3), (54, .ireturn, 1), (55, .iconst 0, 1), (56, .istore_n 2, 1)]
set_option maxRecDepth 100000 in
theorem dk125_1 : ∀ e ∈ ck125_1, decode prog_1_method_15_code e.1 = .ok e.2 := by decide +kernel
def ck125_2 : List (Nat × Instr × Nat) := [(57, .iload_n 2, 1), (58, .iload_n 1, 1), (59, .if_icmp .ge 24, 3), (62, .aload_n 0, 1), (63, .getfield 71, 3), (66, .aload_n 0, 1), (67, .getfield 55, 3), (70, .invokevirtual 187, 3), (73, .aload_n 0, 1), (74, .invokevirtual 211, 3), (77, .iinc 2 1, 3), (80, .goto (-23), 3), (83, .aload_n 0, 1), (84, .getfield 55, 3), (87, .getfield 214, 3), (90, .ireturn, 1)]
set_option maxRecDepth 100000 in
theorem dk125_2 : ∀ e ∈ ck125_2, decode prog_1_method_15_code e.1 = .ok e.2 := by decide +kernel
def ck125 : List (Nat × List (Nat × Instr × Nat)) := [(29, ck125_0), (57, ck125_1), (91, ck125_2)]
theorem dk125 : cOk prog_1_method_15_code ck125 := cOk_c dk125_0 (cOk_c dk125_1 (cOk_c dk125_2 (cOk_n)))
def ck126_0 : List (Nat × Instr × Nat) := [(0, .aload_n 0, 1), (1, .invokevirtual 122, 3), (4, .ifCond .ne 9, 3), (7, .aload_n 0, 1), (8, .iconst 0, 1), (9, .invokevirtual 184, 3), (12, .ireturn, 1), (13, .aload_n 0, 1), (14, .getfield 55, 3), (17, .getfield 205, 3), (20, .aload_n 0, 1), (21, .getfield 45, 3), (24, .invokevirtual 208, 3), (27, .if_icmp .ge 9, 3), (30, .aload_n 0, 1), (31, .iconst 4, 1)]
set_option maxRecDepth 100000 in
theorem dk126_0 : ∀ e ∈ ck126_0, decode prog_1_method_16_code e.1 = .ok e.2 := by decide +kernel
def ck126_1 : List (Nat × Instr × Nat) := [(32, .invokevirtual 184, 3), (35, .ireturn, 1), (36, .aload_n 0, 1), (37, .getfield 71, 3), (40, .aload_n 0, 1), (41, .getfield 55, 3), (44, .invokevirtual 187, 3), (47, .aload_n 0, 1), (48, .getfield 55, 3), (51, .aload_n 0, 1), (52, .getfield 45, 3), (55, .invokevirtual 217, 3), (58, .aload_n 0, 1), (59, .getfield 55, 3), (62, .getfield 220, 3), (65, .ireturn, 1)]
set_option maxRecDepth 100000 in
theorem dk126_1 : ∀ e ∈ ck126_1, decode prog_1_method_16_code e.1 = .ok e.2 := by decide +kernel
def ck126 : List (Nat × List (Nat × Instr × Nat)) := [(32, ck126_0), (66, ck126_1)]
theorem dk126 : cOk prog_1_method_16_code ck126 := cOk_c dk126_0 (cOk_c dk126_1 (cOk_n))
def ck127_0 : List (Nat × Instr × Nat) := [(0, .iload_n 1, 1), (1, .ifCond .lt 17, 3), (4, .iload_n 1, 1), (5, .bipush 9, 2), (7, .if_icmp .gt 11, 3), (10, .iload_n 1, 1), (11, .aload_n 0, 1), (12, .getfield 223, 3), (15, .if_icmp .ne 5, 3), (18, .iconst 0, 1), (19, .ireturn, 1), (20, .aload_n 0, 1), (21, .iload_n 1, 1), (22, .putfield 223, 3), (25, .iconst 1, 1), (26, .ireturn, 1)]
set_option maxRecDepth 100000 in
theorem dk127_0 : ∀ e ∈ ck127_0, decode prog_1_method_17_code e.1 = .ok e.2 := by decide +kernel
def ck127 : List (Nat × List (Nat × Instr × Nat)) := [(27, ck127_0)]
theorem dk127 : cOk prog_1_method_17_code ck127 := cOk_c dk127_0 (cOk_n)
def ck128_0 : List (Nat × Instr × Nat) := [(0, .aload_n 0, 1), (1, .invokevirtual 122, 3), (4, .ifCond .eq 14, 3), (7, .iload_n 1, 1), (8, .iconst 1, 1), (9, .if_icmp .lt 9, 3), (12, .iload_n 1, 1), (13, .bipush 20, 2), (15, .if_icmp .le 5, 3), (18, .iconst (-1), 1), (19, .ireturn, 1), (20, .aload_n 0, 1), (21, .lload_n 2, 1), (22, .putfield 226, 3), (25, .iconst 0, 1), (26, .istore 4, 2)]
set_option maxRecDepth 100000 in
theorem dk128_0 : ∀ e ∈ ck128_0, decode prog_1_method_18_code e.1 = .ok e.2 := by decide +kernel
def ck128_1 : List (Nat × Instr × Nat) := [(28, .iload 4, 2), (30, .iload_n 1, 1), (31, .if_icmp .ge 24, 3), (34, .aload_n 0, 1), (35, .getfield 71, 3), (38, .aload_n 0, 1), (39, .getfield 55, 3), (42, .invokevirtual 187, 3), (45, .aload_n 0, 1), (46, .invokevirtual 230, 3), (49, .iinc 4 1, 3), (52, .goto (-24), 3), (55, .aload_n 0, 1), (56, .getfield 55, 3), (59, .getfield 214, 3), (62, .ireturn, 1)]
set_option maxRecDepth 100000 in
theorem dk128_1 : ∀ e ∈ ck128_1, decode prog_1_method_18_code e.1 = .ok e.2 := by decide +kernel
def ck128 : List (Nat × List (Nat × Instr × Nat)) := [(28, ck128_0), (63, ck128_1)]
theorem dk128 : cOk prog_1_method_18_code ck128 := cOk_c dk128_0 (cOk_c dk128_1 (cOk_n))
def ck129_0 : List (Nat × Instr × Nat) := [(0, .iload_n 1, 1), (1, .ifCond .lt 12, 3), (4, .iload_n 1, 1), (5, .aload_n 0, 1), (6, .getfield 91, 3), (9, .arraylength, 1), (10, .if_icmp .lt 7, 3), (13, .iconst (-1), 1), (14, .goto 9, 3), (17, .aload_n 0, 1), (18, .getfield 91, 3), (21, .iload_n 1, 1), (22, .iaload, 1), (23, .ireturn, 1)]
set_option maxRecDepth 100000 in
theorem dk129_0 : ∀ e ∈ ck129_0, decode prog_1_method_19_code e.1 = .ok e.2 := by decide +kernel
def ck129 : List (Nat × List (Nat × Instr × Nat)) := [(24, ck129_0)]
theorem dk129 : cOk prog_1_method_19_code ck129 := cOk_c dk129_0 (cOk_n)
def ck130_0 : List (Nat × Instr × Nat) := [(0, .aload_n 0, 1), (1, .getfield 71, 3), (4, .getfield 233, 3), (7, .ifCond .ne 5, 3), (10, .iconst (-1), 1), (11, .ireturn, 1), (12, .aload_n 0, 1), (13, .getfield 71, 3), (16, .aload_n 0, 1), (17, .getfield 55, 3), (20, .invokevirtual 236, 3), (23, .aload_n 0, 1), (24, .getfield 71, 3), (27, .getfield 233, 3), (30, .ireturn, 1)]
set_option maxRecDepth 100000 in
theorem dk130_0 : ∀ e ∈ ck130_0, decode prog_1_method_20_code e.1 = .ok e.2 := by decide +kernel
def ck130 : List (Nat × List (Nat × Instr × Nat)) := [(31, ck130_0)]
theorem dk130 : cOk prog_1_method_20_code ck130 := cOk_c dk130_0 (cOk_n)
def ck131_0 : List (Nat × Instr × Nat) := [(0, .iload_n 1, 1), (1, .ifCond .lt 27, 3), (4, .iload_n 1, 1), (5, .aload_n 0, 1), (6, .getfield 71, 3), (9, .aload_n 0, 1), (10, .getfield 55, 3), (13, .invokevirtual 239, 3), (16, .if_icmp .ge 12, 3), (19, .iload_n 2, 1), (20, .ifCond .lt 8, 3), (23, .iload_n 2, 1), (24, .iconst 2, 1), (25, .if_icmp .le 6, 3), (28, .ldc 183, 2), (30, .ireturn, 1)]
set_option maxRecDepth 100000 in
theorem dk131_0 : ∀ e ∈ ck131_0, decode prog_1_method_21_code e.1 = .ok e.2 := by decide +kernel
def ck131_1 : List (Nat × Instr × Nat) := [(31, .aload_n 0, 1), (32, .getfield 71, 3), (35, .aload_n 0, 1), (36, .getfield 55, 3), (39, .iload_n 1, 1), (40, .invokevirtual 242, 3), (43, .istore_n 3, 1), (44, .iload_n 2, 1), (45, .ifCond .ne 8, 3), (48, .iload_n 3, 1), (49, .invokestatic 245, 3), (52, .ireturn, 1), (53, .iload_n 2, 1), (54, .iconst 1, 1), (55, .if_icmp .ne 10, 3), (58, .iload_n 3, 1)]
set_option maxRecDepth 100000 in
theorem dk131_1 : ∀ e ∈ ck131_1, decode prog_1_method_21_code e.1 = .ok e.2 := by decide +kernel
def ck131_2 : List (Nat × Instr × Nat) := [(59, .invokestatic 248, 3), (62, .goto 7, 3), (65, .iload_n 3, 1), (66, .invokestatic 251, 3), (69, .ireturn, 1)]
set_option maxRecDepth 100000 in
theorem dk131_2 : ∀ e ∈ ck131_2, decode prog_1_method_21_code e.1 = .ok e.2 := by decide +kernel
def ck131 : List (Nat × List (Nat × Instr × Nat)) := [(31, ck131_0), (59, ck131_1), (70, ck131_2)]
theorem dk131 : cOk prog_1_method_21_code ck131 := cOk_c dk131_0 (cOk_c dk131_1 (cOk_c dk131_2 (cOk_n)))
def ck132_0 : List (Nat × Instr × Nat) := [(0, .aload_n 0, 1), (1, .invokevirtual 122, 3), (4, .ifCond .eq 27, 3), (7, .iload_n 1, 1), (8, .ifCond .lt 23, 3), (11, .iload_n 1, 1), (12, .iconst 2, 1), (13, .if_icmp .gt 18, 3), (16, .aload_n 0, 1), (17, .getfield 80, 3), (20, .aload_n 0, 1), (21, .getfield 55, 3), (24, .iload_n 1, 1), (25, .invokevirtual 254, 3), (28, .goto 4, 3), (31, .iconst (-1), 1)]
set_option maxRecDepth 100000 in
theorem dk132_0 : ∀ e ∈ ck132_0, decode prog_1_method_22_code e.1 = .ok e.2 := by decide +kernel
def ck132_1 : List (Nat × Instr × Nat) := [(32, .ireturn, 1)]
set_option maxRecDepth 100000 in
theorem dk132_1 : ∀ e ∈ ck132_1, decode prog_1_method_22_code e.1 = .ok e.2 := by decide +kernel
def ck132 : List (Nat × List (Nat × Instr × Nat)) := [(32, ck132_0), (33, ck132_1)]
theorem dk132 : cOk prog_1_method_22_code ck132 := cOk_c dk132_0 (cOk_c dk132_1 (cOk_n))
def ck133_0 : List (Nat × Instr × Nat) := [(0, .aload_n 0, 1), (1, .invokevirtual 122, 3), (4, .ifCond .eq 28, 3), (7, .iload_n 1, 1), (8, .ifCond .lt 24, 3), (11, .iload_n 1, 1), (12, .bipush 20, 2), (14, .if_icmp .gt 18, 3), (17, .aload_n 0, 1), (18, .getfield 80, 3), (21, .aload_n 0, 1), (22, .getfield 55, 3), (25, .iload_n 1, 1), (26, .invokevirtual 257, 3), (29, .goto 4, 3), (32, .iconst (-1), 1)]
set_option maxRecDepth 100000 in
theorem dk133_0 : ∀ e ∈ ck133_0, decode prog_1_method_23_code e.1 = .ok e.2 := by decide +kernel
def ck133_1 : List (Nat × Instr × Nat) := [(33, .ireturn, 1)]
set_option maxRecDepth 100000 in
theorem dk133_1 : ∀ e ∈ ck133_1, decode prog_1_method_23_code e.1 = .ok e.2 := by decide +kernel
def ck133 : List (Nat × List (Nat × Instr × Nat)) := [(33, ck133_0), (34, ck133_1)]
theorem dk133 : cOk prog_1_method_23_code ck133 := cOk_c dk133_0 (cOk_c dk133_1 (cOk_n))
def ck134_0 : List (Nat × Instr × Nat) := [(0, .aload_n 0, 1), (1, .invokevirtual 122, 3), (4, .ifCond .eq 19, 3), (7, .iload_n 1, 1), (8, .invokestatic 260, 3), (11, .ifCond .eq 12, 3), (14, .iload_n 2, 1), (15, .ifCond .lt 8, 3), (18, .iload_n 2, 1), (19, .iconst 1, 1), (20, .if_icmp .le 5, 3), (23, .iconst (-1), 1), (24, .ireturn, 1), (25, .aload_n 0, 1), (26, .getfield 80, 3), (29, .aload_n 0, 1)]
set_option maxRecDepth 100000 in
theorem dk134_0 : ∀ e ∈ ck134_0, decode prog_1_method_24_code e.1 = .ok e.2 := by decide +kernel
def ck134_1 : List (Nat × Instr × Nat) := [(30, .getfield 55, 3), (33, .iload_n 1, 1), (34, .invokevirtual 263, 3), (37, .iload_n 2, 1), (38, .ifCond .ne 13, 3), (41, .aload_n 0, 1), (42, .getfield 80, 3), (45, .getfield 267, 3), (48, .goto 10, 3), (51, .aload_n 0, 1), (52, .getfield 80, 3), (55, .getfield 270, 3), (58, .ireturn, 1)]
set_option maxRecDepth 100000 in
theorem dk134_1 : ∀ e ∈ ck134_1, decode prog_1_method_24_code e.1 = .ok e.2 := by decide +kernel
def ck134 : List (Nat × List (Nat × Instr × Nat)) := [(30, ck134_0), (59, ck134_1)]
theorem dk134 : cOk prog_1_method_24_code ck134 := cOk_c dk134_0 (cOk_c dk134_1 (cOk_n))
def ck135_0 : List (Nat × Instr × Nat) := [(0, .aload_n 0, 1), (1, .invokevirtual 122, 3), (4, .ifCond .eq 19, 3), (7, .iload_n 1, 1), (8, .invokestatic 260, 3), (11, .ifCond .eq 12, 3), (14, .iload_n 2, 1), (15, .ifCond .lt 8, 3), (18, .iload_n 2, 1), (19, .iconst 1, 1), (20, .if_icmp .le 5, 3), (23, .iconst (-1), 1), (24, .ireturn, 1), (25, .aload_n 0, 1), (26, .getfield 80, 3), (29, .aload_n 0, 1)]
set_option maxRecDepth 100000 in
theorem dk135_0 : ∀ e ∈ ck135_0, decode prog_1_method_25_code e.1 = .ok e.2 := by decide +kernel
def ck135_1 : List (Nat × Instr × Nat) := [(30, .getfield 55, 3), (33, .iload_n 1, 1), (34, .invokevirtual 273, 3), (37, .iload_n 2, 1), (38, .ifCond .ne 13, 3), (41, .aload_n 0, 1), (42, .getfield 80, 3), (45, .getfield 267, 3), (48, .goto 10, 3), (51, .aload_n 0, 1), (52, .getfield 80, 3), (55, .getfield 270, 3), (58, .ireturn, 1)]
set_option maxRecDepth 100000 in
theorem dk135_1 : ∀ e ∈ ck135_1, decode prog_1_method_25_code e.1 = .ok e.2 := by decide +kernel
def ck135 : List (Nat × List (Nat × Instr × Nat)) := [(30, ck135_0), (59, ck135_1)]
theorem dk135 : cOk prog_1_method_25_code ck135 := cOk_c dk135_0 (cOk_c dk135_1 (cOk_n))
def ck136_0 : List (Nat × Instr × Nat) := [(0, .aload_n 0, 1), (1, .iload_n 1, 1), (2, .invokevirtual 143, 3), (5, .ifCond .eq 18, 3), (8, .aload_n 0, 1), (9, .getfield 80, 3), (12, .aload_n 0, 1), (13, .getfield 55, 3), (16, .iload_n 1, 1), (17, .invokevirtual 276, 3), (20, .goto 4, 3), (23, .iconst (-1), 1), (24, .ireturn, 1)]
set_option maxRecDepth 100000 in
theorem dk136_0 : ∀ e ∈ ck136_0, decode prog_1_method_26_code e.1 = .ok e.2 := by decide +kernel
def ck136 : List (Nat × List (Nat × Instr × Nat)) := [(25, ck136_0)]
theorem dk136 : cOk prog_1_method_26_code ck136 := cOk_c dk136_0 (cOk_n)
def ck137_0 : List (Nat × Instr × Nat) := [(0, .aload_n 0, 1), (1, .iload_n 1, 1), (2, .invokevirtual 143, 3), (5, .ifCond .eq 16, 3), (8, .aload_n 0, 1), (9, .iload_n 2, 1), (10, .invokevirtual 143, 3), (13, .ifCond .eq 8, 3), (16, .iload_n 1, 1), (17, .iload_n 2, 1), (18, .if_icmp .ne 6, 3), (21, .ldc 183, 2), (23, .ireturn, 1), (24, .iload_n 3, 1), (25, .ifCond .lt 30, 3), (28, .iload_n 3, 1)]
set_option maxRecDepth 100000 in
theorem dk137_0 : ∀ e ∈ ck137_0, decode prog_1_method_27_code e.1 = .ok e.2 := by decide +kernel
def ck137_1 : List (Nat × Instr × Nat) := [(29, .iconst 2, 1), (30, .if_icmp .gt 25, 3), (33, .iload 4, 2), (35, .ifCond .lt 20, 3), (38, .iload 4, 2), (40, .iconst 2, 1), (41, .if_icmp .gt 14, 3), (44, .iload 5, 2), (46, .ifCond .lt 9, 3), (49, .iload 5, 2), (51, .iconst 1, 1), (52, .if_icmp .le 6, 3), (55, .ldc 183, 2), (57, .ireturn, 1), (58, .aload_n 0, 1), (59, .getfield 80, 3)]
set_option maxRecDepth 100000 in
theorem dk137_1 : ∀ e ∈ ck137_1, decode prog_1_method_27_code e.1 = .ok e.2 := by decide +kernel
def ck137_2 : List (Nat × Instr × Nat) := [(62, .aload_n 0, 1), (63, .getfield 55, 3), (66, .iload_n 1, 1), (67, .iload_n 2, 1), (68, .invokevirtual 279, 3), (71, .aload_n 0, 1), (72, .getfield 80, 3), (75, .iload 5, 2), (77, .iload_n 3, 1), (78, .iload 4, 2), (80, .invokevirtual 283, 3), (83, .ireturn, 1)]
set_option maxRecDepth 100000 in
theorem dk137_2 : ∀ e ∈ ck137_2, decode prog_1_method_27_code e.1 = .ok e.2 := by decide +kernel
def ck137 : List (Nat × List (Nat × Instr × Nat)) := [(29, ck137_0), (62, ck137_1), (84, ck137_2)]
theorem dk137 : cOk prog_1_method_27_code ck137 := cOk_c dk137_0 (cOk_c dk137_1 (cOk_c dk137_2 (cOk_n)))
def ck138_0 : List (Nat × Instr × Nat) := [(0, .aload_n 0, 1), (1, .iload_n 1, 1), (2, .invokevirtual 143, 3), (5, .ifCond .eq 16, 3), (8, .aload_n 0, 1), (9, .iload_n 2, 1), (10, .invokevirtual 143, 3), (13, .ifCond .eq 8, 3), (16, .iload_n 1, 1), (17, .iload_n 2, 1), (18, .if_icmp .ne 5, 3), (21, .iconst (-1), 1), (22, .ireturn, 1), (23, .aload_n 0, 1), (24, .getfield 80, 3), (27, .aload_n 0, 1)]
set_option maxRecDepth 100000 in
theorem dk138_0 : ∀ e ∈ ck138_0, decode prog_1_method_28_code e.1 = .ok e.2 := by decide +kernel
def ck138_1 : List (Nat × Instr × Nat) := [(28, .getfield 55, 3), (31, .iload_n 1, 1), (32, .iload_n 2, 1), (33, .invokevirtual 279, 3), (36, .aload_n 0, 1), (37, .getfield 80, 3), (40, .invokevirtual 286, 3), (43, .aload_n 0, 1), (44, .getfield 80, 3), (47, .getfield 289, 3), (50, .iload_n 3, 1), (51, .invokevirtual 293, 3), (54, .ireturn, 1)]
set_option maxRecDepth 100000 in
theorem dk138_1 : ∀ e ∈ ck138_1, decode prog_1_method_28_code e.1 = .ok e.2 := by decide +kernel
def ck138 : List (Nat × List (Nat × Instr × Nat)) := [(28, ck138_0), (55, ck138_1)]
theorem dk138 : cOk prog_1_method_28_code ck138 := cOk_c dk138_0 (cOk_c dk138_1 (cOk_n))
def ck139_0 : List (Nat × Instr × Nat) := [(0, .aload_n 0, 1), (1, .iload_n 1, 1), (2, .invokevirtual 143, 3), (5, .ifCond .eq 22, 3), (8, .aload_n 0, 1), (9, .iload_n 2, 1), (10, .invokevirtual 132, 3), (13, .ifCond .eq 14, 3), (16, .aload_n 0, 1), (17, .getfield 55, 3), (20, .iload_n 1, 1), (21, .invokevirtual 168, 3), (24, .ifCond .ne 5, 3), (27, .iconst (-1), 1), (28, .ireturn, 1), (29, .aload_n 0, 1)]
set_option maxRecDepth 100000 in
theorem dk139_0 : ∀ e ∈ ck139_0, decode prog_1_method_29_code e.1 = .ok e.2 := by decide +kernel
def ck139_1 : List (Nat × Instr × Nat) := [(30, .getfield 55, 3), (33, .getfield 136, 3), (36, .iload_n 2, 1), (37, .ishr, 1), (38, .iconst 1, 1), (39, .iand, 1), (40, .iconst 1, 1), (41, .if_icmp .ne 5, 3), (44, .iconst (-1), 1), (45, .ireturn, 1), (46, .aload_n 0, 1), (47, .getfield 80, 3), (50, .aload_n 0, 1), (51, .getfield 55, 3), (54, .iload_n 1, 1), (55, .aload_n 0, 1)]
set_option maxRecDepth 100000 in
theorem dk139_1 : ∀ e ∈ ck139_1, decode prog_1_method_29_code e.1 = .ok e.2 := by decide +kernel
def ck139_2 : List (Nat × Instr × Nat) := [(56, .getfield 45, 3), (59, .iload_n 2, 1), (60, .iconst 0, 1), (61, .invokevirtual 139, 3), (64, .invokevirtual 298, 3), (67, .ireturn, 1)]
set_option maxRecDepth 100000 in
theorem dk139_2 : ∀ e ∈ ck139_2, decode prog_1_method_29_code e.1 = .ok e.2 := by decide +kernel
def ck139 : List (Nat × List (Nat × Instr × Nat)) := [(30, ck139_0), (56, ck139_1), (68, ck139_2)]
theorem dk139 : cOk prog_1_method_29_code ck139 := cOk_c dk139_0 (cOk_c dk139_1 (cOk_c dk139_2 (cOk_n)))
def ck140_0 : List (Nat × Instr × Nat) := [(0, .aload_n 0, 1), (1, .invokevirtual 122, 3), (4, .ifCond .eq 12, 3), (7, .iload_n 1, 1), (8, .ifCond .lt 8, 3), (11, .iload_n 1, 1), (12, .iconst 3, 1), (13, .if_icmp .le 5, 3), (16, .iconst (-1), 1), (17, .ireturn, 1), (18, .aload_n 0, 1), (19, .getfield 80, 3), (22, .aload_n 0, 1), (23, .getfield 55, 3), (26, .iload_n 1, 1), (27, .iload_n 1, 1)]
set_option maxRecDepth 100000 in
theorem dk140_0 : ∀ e ∈ ck140_0, decode prog_1_method_30_code e.1 = .ok e.2 := by decide +kernel
def ck140_1 : List (Nat × Instr × Nat) := [(28, .invokevirtual 302, 3), (31, .aload_n 0, 1), (32, .getfield 80, 3), (35, .getfield 289, 3), (38, .iload_n 2, 1), (39, .invokevirtual 293, 3), (42, .ireturn, 1)]
set_option maxRecDepth 100000 in
theorem dk140_1 : ∀ e ∈ ck140_1, decode prog_1_method_30_code e.1 = .ok e.2 := by decide +kernel
def ck140 : List (Nat × List (Nat × Instr × Nat)) := [(28, ck140_0), (43, ck140_1)]
theorem dk140 : cOk prog_1_method_30_code ck140 := cOk_c dk140_0 (cOk_c dk140_1 (cOk_n))
def ck141_0 : List (Nat × Instr × Nat) := [(0, .aload_n 0, 1), (1, .invokevirtual 122, 3), (4, .ifCond .ne 5, 3), (7, .iconst (-1), 1), (8, .ireturn, 1), (9, .aload_n 0, 1), (10, .getfield 80, 3), (13, .aload_n 0, 1), (14, .getfield 55, 3), (17, .iconst 0, 1), (18, .bipush 6, 2), (20, .invokevirtual 302, 3), (23, .aload_n 0, 1), (24, .getfield 80, 3), (27, .getfield 289, 3), (30, .invokevirtual 305, 3)]
set_option maxRecDepth 100000 in
theorem dk141_0 : ∀ e ∈ ck141_0, decode prog_1_method_31_code e.1 = .ok e.2 := by decide +kernel
def ck141_1 : List (Nat × Instr × Nat) := [(33, .ireturn, 1)]
set_option maxRecDepth 100000 in
theorem dk141_1 : ∀ e ∈ ck141_1, decode prog_1_method_31_code e.1 = .ok e.2 := by decide +kernel
def ck141 : List (Nat × List (Nat × Instr × Nat)) := [(33, ck141_0), (34, ck141_1)]
theorem dk141 : cOk prog_1_method_31_code ck141 := cOk_c dk141_0 (cOk_c dk141_1 (cOk_n))
def ck142_0 : List (Nat × Instr × Nat) := [(0, .aload_n 0, 1), (1, .invokevirtual 122, 3), (4, .ifCond .eq 14, 3), (7, .iload_n 1, 1), (8, .iconst 1, 1), (9, .if_icmp .lt 9, 3), (12, .iload_n 1, 1), (13, .bipush 20, 2), (15, .if_icmp .le 5, 3), (18, .iconst (-1), 1), (19, .ireturn, 1), (20, .iload_n 2, 1), (21, .ifCond .lt 28, 3), (24, .iload_n 2, 1), (25, .aload_n 0, 1), (26, .getfield 45, 3)]
set_option maxRecDepth 100000 in
theorem dk142_0 : ∀ e ∈ ck142_0, decode prog_1_method_32_code e.1 = .ok e.2 := by decide +kernel
def ck142_1 : List (Nat × Instr × Nat) := [(29, .getfield 129, 3), (32, .iconst 0, 1), (33, .iaload, 1), (34, .if_icmp .ge 15, 3), (37, .aload_n 0, 1), (38, .getfield 87, 3), (41, .getfield 308, 3), (44, .bipush 10, 2), (46, .if_icmp .lt 5, 3), (49, .iconst (-1), 1), (50, .ireturn, 1), (51, .aload_n 0, 1), (52, .getfield 87, 3), (55, .iload_n 1, 1), (56, .iload_n 2, 1), (57, .iload_n 3, 1)]
set_option maxRecDepth 100000 in
theorem dk142_1 : ∀ e ∈ ck142_1, decode prog_1_method_32_code e.1 = .ok e.2 := by decide +kernel
def ck142_2 : List (Nat × Instr × Nat) := [(58, .invokevirtual 311, 3), (61, .aload_n 0, 1), (62, .getfield 87, 3), (65, .getfield 308, 3), (68, .ireturn, 1)]
set_option maxRecDepth 100000 in
theorem dk142_2 : ∀ e ∈ ck142_2, decode prog_1_method_32_code e.1 = .ok e.2 := by decide +kernel
def ck142 : List (Nat × List (Nat × Instr × Nat)) := [(29, ck142_0), (58, ck142_1), (69, ck142_2)]
theorem dk142 : cOk prog_1_method_32_code ck142 := cOk_c dk142_0 (cOk_c dk142_1 (cOk_c dk142_2 (cOk_n)))
def ck143_0 : List (Nat × Instr × Nat) := [(0, .aload_n 0, 1), (1, .invokevirtual 122, 3), (4, .ifCond .eq 13, 3), (7, .iload_n 1, 1), (8, .iconst 1, 1), (9, .if_icmp .lt 8, 3), (12, .iload_n 1, 1), (13, .iconst 5, 1), (14, .if_icmp .le 5, 3), (17, .iconst (-1), 1), (18, .ireturn, 1), (19, .aload_n 0, 1), (20, .getfield 87, 3), (23, .iload_n 1, 1), (24, .invokevirtual 315, 3), (27, .aload_n 0, 1)]
set_option maxRecDepth 100000 in
theorem dk143_0 : ∀ e ∈ ck143_0, decode prog_1_method_33_code e.1 = .ok e.2 := by decide +kernel
def ck143_1 : List (Nat × Instr × Nat) := [(28, .getfield 87, 3), (31, .getfield 318, 3), (34, .iload_n 2, 1), (35, .invokevirtual 293, 3), (38, .ireturn, 1)]
set_option maxRecDepth 100000 in
theorem dk143_1 : ∀ e ∈ ck143_1, decode prog_1_method_33_code e.1 = .ok e.2 := by decide +kernel
def ck143 : List (Nat × List (Nat × Instr × Nat)) := [(28, ck143_0), (39, ck143_1)]
theorem dk143 : cOk prog_1_method_33_code ck143 := cOk_c dk143_0 (cOk_c dk143_1 (cOk_n))
def ck144_0 : List (Nat × Instr × Nat) := [(0, .aload_n 0, 1), (1, .invokevirtual 122, 3), (4, .ifCond .eq 13, 3), (7, .iload_n 1, 1), (8, .iconst 1, 1), (9, .if_icmp .lt 8, 3), (12, .iload_n 1, 1), (13, .iconst 5, 1), (14, .if_icmp .le 5, 3), (17, .iconst (-1), 1), (18, .ireturn, 1), (19, .aload_n 0, 1), (20, .getfield 87, 3), (23, .iload_n 1, 1), (24, .invokevirtual 315, 3), (27, .aload_n 0, 1)]
set_option maxRecDepth 100000 in
theorem dk144_0 : ∀ e ∈ ck144_0, decode prog_1_method_34_code e.1 = .ok e.2 := by decide +kernel
def ck144_1 : List (Nat × Instr × Nat) := [(28, .getfield 87, 3), (31, .invokevirtual 319, 3), (34, .ireturn, 1)]
set_option maxRecDepth 100000 in
theorem dk144_1 : ∀ e ∈ ck144_1, decode prog_1_method_34_code e.1 = .ok e.2 := by decide +kernel
def ck144 : List (Nat × List (Nat × Instr × Nat)) := [(28, ck144_0), (35, ck144_1)]
theorem dk144 : cOk prog_1_method_34_code ck144 := cOk_c dk144_0 (cOk_c dk144_1 (cOk_n))
def ck145_0 : List (Nat × Instr × Nat) := [(0, .aload_n 0, 1), (1, .invokevirtual 122, 3), (4, .ifCond .eq 20, 3), (7, .iload_n 1, 1), (8, .invokestatic 260, 3), (11, .ifCond .eq 13, 3), (14, .iload_n 2, 1), (15, .ifCond .lt 9, 3), (18, .iload_n 2, 1), (19, .bipush 100, 2), (21, .if_icmp .le 5, 3), (24, .iconst (-1), 1), (25, .ireturn, 1), (26, .aload_n 0, 1), (27, .getfield 80, 3), (30, .aload_n 0, 1)]
set_option maxRecDepth 100000 in
theorem dk145_0 : ∀ e ∈ ck145_0, decode prog_1_method_35_code e.1 = .ok e.2 := by decide +kernel
def ck145_1 : List (Nat × Instr × Nat) := [(31, .getfield 55, 3), (34, .iload_n 1, 1), (35, .iload_n 2, 1), (36, .invokevirtual 322, 3), (39, .ireturn, 1)]
set_option maxRecDepth 100000 in
theorem dk145_1 : ∀ e ∈ ck145_1, decode prog_1_method_35_code e.1 = .ok e.2 := by decide +kernel
def ck145 : List (Nat × List (Nat × Instr × Nat)) := [(31, ck145_0), (40, ck145_1)]
theorem dk145 : cOk prog_1_method_35_code ck145 := cOk_c dk145_0 (cOk_c dk145_1 (cOk_n))
def ck146_0 : List (Nat × Instr × Nat) := [(0, .aload_n 0, 1), (1, .iload_n 1, 1), (2, .invokevirtual 143, 3), (5, .ifCond .eq 14, 3), (8, .iload_n 2, 1), (9, .ifCond .lt 10, 3), (12, .iload_n 2, 1), (13, .sipush 999, 3), (16, .if_icmp .le 5, 3), (19, .iconst (-1), 1), (20, .ireturn, 1), (21, .aload_n 0, 1), (22, .getfield 80, 3), (25, .aload_n 0, 1), (26, .getfield 55, 3), (29, .iconst 0, 1)]
set_option maxRecDepth 100000 in
theorem dk146_0 : ∀ e ∈ ck146_0, decode prog_1_method_36_code e.1 = .ok e.2 := by decide +kernel
def ck146_1 : List (Nat × Instr × Nat) := [(30, .invokevirtual 325, 3), (33, .aload_n 0, 1), (34, .getfield 80, 3), (37, .aload_n 0, 1), (38, .getfield 55, 3), (41, .iconst 1, 1), (42, .invokevirtual 325, 3), (45, .iadd, 1), (46, .aload_n 0, 1), (47, .getfield 80, 3), (50, .aload_n 0, 1), (51, .getfield 55, 3), (54, .iconst 2, 1), (55, .invokevirtual 325, 3), (58, .iadd, 1), (59, .istore_n 3, 1)]
set_option maxRecDepth 100000 in
theorem dk146_1 : ∀ e ∈ ck146_1, decode prog_1_method_36_code e.1 = .ok e.2 := by decide +kernel
def ck146_2 : List (Nat × Instr × Nat) := [(60, .aload_n 0, 1), (61, .getfield 55, 3), (64, .iload_n 1, 1), (65, .invokevirtual 168, 3), (68, .ifCond .eq 22, 3), (71, .iload_n 3, 1), (72, .ifCond .le 18, 3), (75, .iload_n 2, 1), (76, .aload_n 0, 1), (77, .getfield 55, 3), (80, .iload_n 1, 1), (81, .invokevirtual 153, 3), (84, .imul, 1), (85, .iload_n 3, 1), (86, .idiv, 1), (87, .goto 4, 3)]
set_option maxRecDepth 100000 in
theorem dk146_2 : ∀ e ∈ ck146_2, decode prog_1_method_36_code e.1 = .ok e.2 := by decide +kernel
def ck146_3 : List (Nat × Instr × Nat) := [(90, .iconst 0, 1), (91, .ireturn, 1)]
set_option maxRecDepth 100000 in
theorem dk146_3 : ∀ e ∈ ck146_3, decode prog_1_method_36_code e.1 = .ok e.2 := by decide +kernel
def ck146 : List (Nat × List (Nat × Instr × Nat)) := [(30, ck146_0), (60, ck146_1), (90, ck146_2), (92, ck146_3)]
theorem dk146 : cOk prog_1_method_36_code ck146 := cOk_c dk146_0 (cOk_c dk146_1 (cOk_c dk146_2 (cOk_c dk146_3 (cOk_n))))
def ck147_0 : List (Nat × Instr × Nat) := [(0, .aload_n 0, 1), (1, .invokevirtual 122, 3), (4, .ifCond .ne 5, 3), (7, .iconst (-1), 1), (8, .ireturn, 1), (9, .iload_n 1, 1), (10, .tableswitch 80 0 2 #[26, 38, 50], 26), (36, .aload_n 0, 1), (37, .getfield 80, 3), (40, .aload_n 0, 1), (41, .getfield 55, 3), (44, .invokevirtual 328, 3), (47, .ireturn, 1), (48, .aload_n 0, 1), (49, .getfield 80, 3), (52, .aload_n 0, 1)]
set_option maxRecDepth 100000 in
theorem dk147_0 : ∀ e ∈ ck147_0, decode prog_1_method_37_code e.1 = .ok e.2 := by decide +kernel
def ck147_1 : List (Nat × Instr × Nat) := [(53, .getfield 55, 3), (56, .invokevirtual 331, 3), (59, .ireturn, 1), (60, .iconst 1, 1), (61, .aload_n 0, 1), (62, .getfield 80, 3), (65, .aload_n 0, 1), (66, .getfield 55, 3), (69, .iconst 2, 1), (70, .invokevirtual 325, 3), (73, .aload_n 0, 1), (74, .getfield 80, 3), (77, .aload_n 0, 1), (78, .getfield 55, 3), (81, .iconst 0, 1), (82, .invokevirtual 325, 3)]
set_option maxRecDepth 100000 in
theorem dk147_1 : ∀ e ∈ ck147_1, decode prog_1_method_37_code e.1 = .ok e.2 := by decide +kernel
def ck147_2 : List (Nat × Instr × Nat) := [(85, .invokestatic 334, 3), (88, .iadd, 1), (89, .ireturn, 1), (90, .iconst (-1), 1), (91, .ireturn, 1)]
set_option maxRecDepth 100000 in
theorem dk147_2 : ∀ e ∈ ck147_2, decode prog_1_method_37_code e.1 = .ok e.2 := by decide +kernel
def ck147 : List (Nat × List (Nat × Instr × Nat)) := [(53, ck147_0), (85, ck147_1), (92, ck147_2)]
theorem dk147 : cOk prog_1_method_37_code ck147 := cOk_c dk147_0 (cOk_c dk147_1 (cOk_c dk147_2 (cOk_n)))
def ck148_0 : List (Nat × Instr × Nat) := [(0, .aload_n 0, 1), (1, .iload_n 1, 1), (2, .invokevirtual 143, 3), (5, .ifCond .eq 29, 3), (8, .aload_n 0, 1), (9, .getfield 55, 3), (12, .iload_n 1, 1), (13, .invokevirtual 168, 3), (16, .ifCond .eq 18, 3), (19, .aload_n 0, 1), (20, .getfield 80, 3), (23, .aload_n 0, 1), (24, .getfield 55, 3), (27, .iload_n 1, 1), (28, .invokevirtual 339, 3), (31, .goto 4, 3)]
set_option maxRecDepth 100000 in
theorem dk148_0 : ∀ e ∈ ck148_0, decode prog_1_method_38_code e.1 = .ok e.2 := by decide +kernel
def ck148_1 : List (Nat × Instr × Nat) := [(34, .iconst (-1), 1), (35, .ireturn, 1)]
set_option maxRecDepth 100000 in
theorem dk148_1 : ∀ e ∈ ck148_1, decode prog_1_method_38_code e.1 = .ok e.2 := by decide +kernel
def ck148 : List (Nat × List (Nat × Instr × Nat)) := [(34, ck148_0), (36, ck148_1)]
theorem dk148 : cOk prog_1_method_38_code ck148 := cOk_c dk148_0 (cOk_c dk148_1 (cOk_n))
def ck149_0 : List (Nat × Instr × Nat) := [(0, .aload_n 0, 1), (1, .invokevirtual 122, 3), (4, .ifCond .eq 17, 3), (7, .aload_n 0, 1), (8, .getfield 80, 3), (11, .aload_n 0, 1), (12, .getfield 55, 3), (15, .invokevirtual 342, 3), (18, .goto 4, 3), (21, .iconst (-1), 1), (22, .ireturn, 1)]
set_option maxRecDepth 100000 in
theorem dk149_0 : ∀ e ∈ ck149_0, decode prog_1_method_39_code e.1 = .ok e.2 := by decide +kernel
def ck149 : List (Nat × List (Nat × Instr × Nat)) := [(23, ck149_0)]
theorem dk149 : cOk prog_1_method_39_code ck149 := cOk_c dk149_0 (cOk_n)
def ck150_0 : List (Nat × Instr × Nat) := [(0, .aload_n 0, 1), (1, .invokevirtual 122, 3), (4, .ifCond .ne 5, 3), (7, .iconst (-1), 1), (8, .ireturn, 1), (9, .aload_n 0, 1), (10, .getfield 71, 3), (13, .aload_n 0, 1), (14, .getfield 55, 3), (17, .invokevirtual 345, 3), (20, .aload_n 0, 1), (21, .getfield 55, 3), (24, .getfield 205, 3), (27, .ireturn, 1)]
set_option maxRecDepth 100000 in
theorem dk150_0 : ∀ e ∈ ck150_0, decode prog_1_method_40_code e.1 = .ok e.2 := by decide +kernel
def ck150 : List (Nat × List (Nat × Instr × Nat)) := [(28, ck150_0)]
theorem dk150 : cOk prog_1_method_40_code ck150 := cOk_c dk150_0 (cOk_n)
def ck151_0 : List (Nat × Instr × Nat) := [(0, .aload_n 0, 1), (1, .getfield 71, 3), (4, .getfield 348, 3), (7, .ifCond .ne 5, 3), (10, .iconst (-1), 1), (11, .ireturn, 1), (12, .aload_n 0, 1), (13, .getfield 71, 3), (16, .aload_n 0, 1), (17, .getfield 55, 3), (20, .invokevirtual 352, 3), (23, .aload_n 0, 1), (24, .getfield 55, 3), (27, .getfield 205, 3), (30, .ireturn, 1)]
set_option maxRecDepth 100000 in
theorem dk151_0 : ∀ e ∈ ck151_0, decode prog_1_method_41_code e.1 = .ok e.2 := by decide +kernel
def ck151 : List (Nat × List (Nat × Instr × Nat)) := [(31, ck151_0)]
theorem dk151 : cOk prog_1_method_41_code ck151 := cOk_c dk151_0 (cOk_n)
def ck152_0 : List (Nat × Instr × Nat) := [(0, .iload_n 1, 1), (1, .tableswitch 178 0 13 #[71, 79, 87, 92, 100, 105, 113, 121, 129, 137, 142, 150, 158, 170], 71), (72, .aload_n 0, 1), (73, .getfield 45, 3), (76, .getfield 355, 3), (79, .ireturn, 1), (80, .aload_n 0, 1), (81, .getfield 45, 3), (84, .getfield 358, 3), (87, .ireturn, 1), (88, .aload_n 0, 1), (89, .getfield 116, 3), (92, .ireturn, 1), (93, .aload_n 0, 1), (94, .getfield 10, 3), (97, .getfield 99, 3)]
set_option maxRecDepth 100000 in
theorem dk152_0 : ∀ e ∈ ck152_0, decode prog_1_method_42_code e.1 = .ok e.2 := by decide +kernel
def ck152_1 : List (Nat × Instr × Nat) := [(100, .ireturn, 1), (101, .aload_n 0, 1), (102, .getfield 38, 3), (105, .ireturn, 1), (106, .aload_n 0, 1), (107, .getfield 55, 3), (110, .getfield 205, 3), (113, .ireturn, 1), (114, .aload_n 0, 1), (115, .getfield 55, 3), (118, .getfield 214, 3), (121, .ireturn, 1), (122, .aload_n 0, 1), (123, .getfield 55, 3), (126, .getfield 361, 3), (129, .ireturn, 1)]
set_option maxRecDepth 100000 in
theorem dk152_1 : ∀ e ∈ ck152_1, decode prog_1_method_42_code e.1 = .ok e.2 := by decide +kernel
def ck152_2 : List (Nat × Instr × Nat) := [(130, .aload_n 0, 1), (131, .getfield 55, 3), (134, .getfield 220, 3), (137, .ireturn, 1), (138, .aload_n 0, 1), (139, .getfield 223, 3), (142, .ireturn, 1), (143, .aload_n 0, 1), (144, .getfield 87, 3), (147, .getfield 308, 3), (150, .ireturn, 1), (151, .aload_n 0, 1), (152, .getfield 45, 3), (155, .getfield 364, 3), (158, .ireturn, 1), (159, .aload_n 0, 1)]
set_option maxRecDepth 100000 in
theorem dk152_2 : ∀ e ∈ ck152_2, decode prog_1_method_42_code e.1 = .ok e.2 := by decide +kernel
def ck152_3 : List (Nat × Instr × Nat) := [(160, .getfield 71, 3), (163, .aload_n 0, 1), (164, .getfield 55, 3), (167, .invokevirtual 239, 3), (170, .ireturn, 1), (171, .aload_n 0, 1), (172, .getfield 71, 3), (175, .getfield 233, 3), (178, .ireturn, 1), (179, .ldc 183, 2), (181, .ireturn, 1)]
set_option maxRecDepth 100000 in
theorem dk152_3 : ∀ e ∈ ck152_3, decode prog_1_method_42_code e.1 = .ok e.2 := by decide +kernel
def ck152 : List (Nat × List (Nat × Instr × Nat)) := [(100, ck152_0), (130, ck152_1), (160, ck152_2), (182, ck152_3)]
theorem dk152 : cOk prog_1_method_42_code ck152 := cOk_c dk152_0 (cOk_c dk152_1 (cOk_c dk152_2 (cOk_c dk152_3 (cOk_n))))
def ck153_0 : List (Nat × Instr × Nat) := [(0, .aload_n 0, 1), (1, .getfield 45, 3), (4, .getfield 355, 3), (7, .ifCond .le 7, 3), (10, .iconst 1, 1), (11, .goto 4, 3), (14, .iconst 0, 1), (15, .ireturn, 1)]
set_option maxRecDepth 100000 in
theorem dk153_0 : ∀ e ∈ ck153_0, decode prog_1_method_43_code e.1 = .ok e.2 := by decide +kernel
def ck153 : List (Nat × List (Nat × Instr × Nat)) := [(16, ck153_0)]
theorem dk153 : cOk prog_1_method_43_code ck153 := cOk_c dk153_0 (cOk_n)
def ck154_0 : List (Nat × Instr × Nat) := [(0, .iload_n 1, 1), (1, .ifCond .lt 18, 3), (4, .iload_n 1, 1), (5, .aload_n 0, 1), (6, .getfield 45, 3), (9, .getfield 355, 3), (12, .if_icmp .ge 7, 3), (15, .iconst 1, 1), (16, .goto 4, 3), (19, .iconst 0, 1), (20, .ireturn, 1)]
set_option maxRecDepth 100000 in
theorem dk154_0 : ∀ e ∈ ck154_0, decode prog_1_method_44_code e.1 = .ok e.2 := by decide +kernel
def ck154 : List (Nat × List (Nat × Instr × Nat)) := [(21, ck154_0)]
theorem dk154 : cOk prog_1_method_44_code ck154 := cOk_c dk154_0 (cOk_n)
def ck155_0 : List (Nat × Instr × Nat) := [(0, .iload_n 1, 1), (1, .ifCond .lt 18, 3), (4, .iload_n 1, 1), (5, .aload_n 0, 1), (6, .getfield 45, 3), (9, .getfield 358, 3), (12, .if_icmp .ge 7, 3), (15, .iconst 1, 1), (16, .goto 4, 3), (19, .iconst 0, 1), (20, .ireturn, 1)]
set_option maxRecDepth 100000 in
theorem dk155_0 : ∀ e ∈ ck155_0, decode prog_1_method_45_code e.1 = .ok e.2 := by decide +kernel
def ck155 : List (Nat × List (Nat × Instr × Nat)) := [(21, ck155_0)]
theorem dk155 : cOk prog_1_method_45_code ck155 := cOk_c dk155_0 (cOk_n)
def ck156_0 : List (Nat × Instr × Nat) := [(0, .iload_n 0, 1), (1, .ifCond .lt 12, 3), (4, .iload_n 0, 1), (5, .iconst 2, 1), (6, .if_icmp .gt 7, 3), (9, .iconst 1, 1), (10, .goto 4, 3), (13, .iconst 0, 1), (14, .ireturn, 1)]
set_option maxRecDepth 100000 in
theorem dk156_0 : ∀ e ∈ ck156_0, decode prog_1_method_46_code e.1 = .ok e.2 := by decide +kernel
def ck156 : List (Nat × List (Nat × Instr × Nat)) := [(15, ck156_0)]
theorem dk156 : cOk prog_1_method_46_code ck156 := cOk_c dk156_0 (cOk_n)
def ck157_0 : List (Nat × Instr × Nat) := [(0, .aload_n 0, 1), (1, .getfield 91, 3), (4, .iload_n 1, 1), (5, .dup2, 1), (6, .iaload, 1), (7, .iconst 1, 1), (8, .iadd, 1), (9, .iastore, 1), (10, .iconst (-1), 1), (11, .ireturn, 1)]
set_option maxRecDepth 100000 in
theorem dk157_0 : ∀ e ∈ ck157_0, decode prog_1_method_47_code e.1 = .ok e.2 := by decide +kernel
def ck157 : List (Nat × List (Nat × Instr × Nat)) := [(12, ck157_0)]
theorem dk157 : cOk prog_1_method_47_code ck157 := cOk_c dk157_0 (cOk_n)
