/-! ===== the code of the methods, instruction by instruction (printed by program) ===== -/
def ck72_0 : List (Nat × Instr × Nat) := [(0, .ldc2_w 173, 3), (3, .lstore 4, 2), (5, .iconst 0, 1), (6, .istore 6, 2), (8, .iload 6, 2), (10, .aload_n 0, 1), (11, .getfield 37, 3), (14, .getfield 65, 3), (17, .getfield 77, 3), (20, .if_icmp .ge 52, 3), (23, .iload_n 1, 1), (24, .iload 6, 2), (26, .ishr, 1), (27, .iconst 1, 1), (28, .iand, 1), (29, .iconst 1, 1)]
set_option maxRecDepth 100000 in
theorem dk72_0 : ∀ e ∈ ck72_0, decode prog_8_method_20_code e.1 = .ok e.2 := by decide +kernel
def ck72_1 : List (Nat × Instr × Nat) := [(30, .if_icmp .ne 36, 3), (33, .lload 4, 2), (35, .iload_n 3, 1), (36, .i2l, 1), (37, .lmul, 1), (38, .ldc2_w 175, 3), (41, .ldiv, 1), (42, .lstore 7, 2), (44, .iload_n 2, 1), (45, .iload 6, 2), (47, .ishr, 1), (48, .iconst 1, 1), (49, .iand, 1), (50, .iconst 1, 1), (51, .if_icmp .ne 8, 3), (54, .lload 7, 2)]
set_option maxRecDepth 100000 in
theorem dk72_1 : ∀ e ∈ ck72_1, decode prog_8_method_20_code e.1 = .ok e.2 := by decide +kernel
def ck72_2 : List (Nat × Instr × Nat) := [(56, .goto 8, 3), (59, .lload 4, 2), (61, .lload 7, 2), (63, .lsub, 1), (64, .lstore 4, 2), (66, .iinc 6 1, 3), (69, .goto (-61), 3), (72, .lload 4, 2), (74, .lreturn, 1)]
set_option maxRecDepth 100000 in
theorem dk72_2 : ∀ e ∈ ck72_2, decode prog_8_method_20_code e.1 = .ok e.2 := by decide +kernel
def ck72 : List (Nat × List (Nat × Instr × Nat)) := [(30, ck72_0), (56, ck72_1), (75, ck72_2)]
theorem dk72 : cOk prog_8_method_20_code ck72 := cOk_c dk72_0 (cOk_c dk72_1 (cOk_c dk72_2 (cOk_n)))
def ck73_0 : List (Nat × Instr × Nat) := [(0, .iconst 0, 1), (1, .istore_n 3, 1), (2, .iconst 0, 1), (3, .istore 4, 2), (5, .iload 4, 2), (7, .aload_n 0, 1), (8, .getfield 37, 3), (11, .getfield 65, 3), (14, .getfield 77, 3), (17, .if_icmp .ge 37, 3), (20, .aload_n 1, 1), (21, .iload 4, 2), (23, .invokevirtual 124, 3), (26, .ifCond .eq 22, 3), (29, .aload_n 1, 1), (30, .iload 4, 2)]
set_option maxRecDepth 100000 in
theorem dk73_0 : ∀ e ∈ ck73_0, decode prog_8_method_21_code e.1 = .ok e.2 := by decide +kernel
def ck73_1 : List (Nat × Instr × Nat) := [(32, .invokevirtual 120, 3), (35, .iload_n 2, 1), (36, .if_icmp .ne 12, 3), (39, .iload_n 3, 1), (40, .aload_n 1, 1), (41, .iload 4, 2), (43, .invokevirtual 177, 3), (46, .iadd, 1), (47, .istore_n 3, 1), (48, .iinc 4 1, 3), (51, .goto (-46), 3), (54, .iload_n 3, 1), (55, .ireturn, 1)]
set_option maxRecDepth 100000 in
theorem dk73_1 : ∀ e ∈ ck73_1, decode prog_8_method_21_code e.1 = .ok e.2 := by decide +kernel
def ck73 : List (Nat × List (Nat × Instr × Nat)) := [(32, ck73_0), (56, ck73_1)]
theorem dk73 : cOk prog_8_method_21_code ck73 := cOk_c dk73_0 (cOk_c dk73_1 (cOk_n))
def ck74_0 : List (Nat × Instr × Nat) := [(0, .iconst (-1), 1), (1, .istore_n 2, 1), (2, .iconst 0, 1), (3, .istore_n 3, 1), (4, .iload_n 3, 1), (5, .aload_n 0, 1), (6, .getfield 37, 3), (9, .getfield 65, 3), (12, .getfield 77, 3), (15, .if_icmp .ge 37, 3), (18, .aload_n 1, 1), (19, .iload_n 3, 1), (20, .invokevirtual 124, 3), (23, .ifCond .eq 23, 3), (26, .iload_n 2, 1), (27, .iconst (-1), 1)]
set_option maxRecDepth 100000 in
theorem dk74_0 : ∀ e ∈ ck74_0, decode prog_8_method_22_code e.1 = .ok e.2 := by decide +kernel
def ck74_1 : List (Nat × Instr × Nat) := [(28, .if_icmp .eq 16, 3), (31, .aload_n 1, 1), (32, .iload_n 3, 1), (33, .invokevirtual 177, 3), (36, .aload_n 1, 1), (37, .iload_n 2, 1), (38, .invokevirtual 177, 3), (41, .if_icmp .le 5, 3), (44, .iload_n 3, 1), (45, .istore_n 2, 1), (46, .iinc 3 1, 3), (49, .goto (-45), 3), (52, .iload_n 2, 1), (53, .ireturn, 1)]
set_option maxRecDepth 100000 in
theorem dk74_1 : ∀ e ∈ ck74_1, decode prog_8_method_22_code e.1 = .ok e.2 := by decide +kernel
def ck74 : List (Nat × List (Nat × Instr × Nat)) := [(28, ck74_0), (54, ck74_1)]
theorem dk74 : cOk prog_8_method_22_code ck74 := cOk_c dk74_0 (cOk_c dk74_1 (cOk_n))
def ck75_0 : List (Nat × Instr × Nat) := [(0, .iconst 0, 1), (1, .istore_n 2, 1), (2, .iconst 0, 1), (3, .istore_n 3, 1), (4, .iload_n 3, 1), (5, .aload_n 0, 1), (6, .getfield 37, 3), (9, .getfield 65, 3), (12, .getfield 77, 3), (15, .if_icmp .ge 24, 3), (18, .aload_n 1, 1), (19, .iload_n 3, 1), (20, .invokevirtual 120, 3), (23, .iconst 1, 1), (24, .if_icmp .ne 9, 3), (27, .iload_n 2, 1)]
set_option maxRecDepth 100000 in
theorem dk75_0 : ∀ e ∈ ck75_0, decode prog_8_method_23_code e.1 = .ok e.2 := by decide +kernel
def ck75_1 : List (Nat × Instr × Nat) := [(28, .iconst 1, 1), (29, .iload_n 3, 1), (30, .ishl, 1), (31, .ior, 1), (32, .istore_n 2, 1), (33, .iinc 3 1, 3), (36, .goto (-32), 3), (39, .iload_n 2, 1), (40, .ireturn, 1)]
set_option maxRecDepth 100000 in
theorem dk75_1 : ∀ e ∈ ck75_1, decode prog_8_method_23_code e.1 = .ok e.2 := by decide +kernel
def ck75 : List (Nat × List (Nat × Instr × Nat)) := [(28, ck75_0), (41, ck75_1)]
theorem dk75 : cOk prog_8_method_23_code ck75 := cOk_c dk75_0 (cOk_c dk75_1 (cOk_n))
def ck76_0 : List (Nat × Instr × Nat) := [(0, .iconst 0, 1), (1, .istore_n 3, 1), (2, .iload_n 3, 1), (3, .bipush 9, 2), (5, .if_icmp .gt 61, 3), (8, .aload_n 0, 1), (9, .getfield 23, 3), (12, .aload_n 1, 1), (13, .invokevirtual 41, 3), (16, .aload_n 0, 1), (17, .getfield 23, 3), (20, .aload_n 0, 1), (21, .getfield 23, 3), (24, .getfield 180, 3), (27, .iload_n 2, 1), (28, .iload_n 3, 1)]
set_option maxRecDepth 100000 in
theorem dk76_0 : ∀ e ∈ ck76_0, decode prog_8_method_24_code e.1 = .ok e.2 := by decide +kernel
def ck76_1 : List (Nat × Instr × Nat) := [(29, .invokestatic 100, 3), (32, .putfield 180, 3), (35, .aload_n 0, 1), (36, .getfield 37, 3), (39, .aload_n 0, 1), (40, .getfield 23, 3), (43, .invokevirtual 45, 3), (46, .pop, 1), (47, .aload_n 0, 1), (48, .getfield 23, 3), (51, .iload_n 2, 1), (52, .invokevirtual 124, 3), (55, .ifCond .eq 5, 3), (58, .iload_n 3, 1), (59, .ireturn, 1), (60, .iinc 3 1, 3)]
set_option maxRecDepth 100000 in
theorem dk76_1 : ∀ e ∈ ck76_1, decode prog_8_method_24_code e.1 = .ok e.2 := by decide +kernel
def ck76_2 : List (Nat × Instr × Nat) := [(63, .goto (-61), 3), (66, .iconst (-1), 1), (67, .ireturn, 1)]
set_option maxRecDepth 100000 in
theorem dk76_2 : ∀ e ∈ ck76_2, decode prog_8_method_24_code e.1 = .ok e.2 := by decide +kernel
def ck76 : List (Nat × List (Nat × Instr × Nat)) := [(29, ck76_0), (63, ck76_1), (68, ck76_2)]
theorem dk76 : cOk prog_8_method_24_code ck76 := cOk_c dk76_0 (cOk_c dk76_1 (cOk_c dk76_2 (cOk_n)))
def ck77_0 : List (Nat × Instr × Nat) := [(0, .iconst 0, 1), (1, .istore_n 2, 1), (2, .aload_n 0, 1), (3, .getfield 23, 3), (6, .aload_n 1, 1), (7, .invokevirtual 41, 3), (10, .aload_n 1, 1), (11, .getfield 62, 3), (14, .istore_n 3, 1), (15, .iload_n 3, 1), (16, .aload_n 0, 1), (17, .getfield 37, 3), (20, .getfield 65, 3), (23, .invokevirtual 69, 3), (26, .if_icmp .ge 43, 3), (29, .aload_n 0, 1)]
set_option maxRecDepth 100000 in
theorem dk77_0 : ∀ e ∈ ck77_0, decode prog_8_method_25_code e.1 = .ok e.2 := by decide +kernel
def ck77_1 : List (Nat × Instr × Nat) := [(30, .getfield 37, 3), (33, .aload_n 0, 1), (34, .getfield 23, 3), (37, .invokevirtual 74, 3), (40, .aload_n 0, 1), (41, .getfield 37, 3), (44, .getfield 183, 3), (47, .iconst (-1), 1), (48, .if_icmp .eq 15, 3), (51, .iload_n 2, 1), (52, .iconst 1, 1), (53, .aload_n 0, 1), (54, .getfield 37, 3), (57, .getfield 183, 3), (60, .ishl, 1), (61, .ior, 1)]
set_option maxRecDepth 100000 in
theorem dk77_1 : ∀ e ∈ ck77_1, decode prog_8_method_25_code e.1 = .ok e.2 := by decide +kernel
def ck77_2 : List (Nat × Instr × Nat) := [(62, .istore_n 2, 1), (63, .iinc 3 1, 3), (66, .goto (-51), 3), (69, .iload_n 2, 1), (70, .ireturn, 1)]
set_option maxRecDepth 100000 in
theorem dk77_2 : ∀ e ∈ ck77_2, decode prog_8_method_25_code e.1 = .ok e.2 := by decide +kernel
def ck77 : List (Nat × List (Nat × Instr × Nat)) := [(30, ck77_0), (62, ck77_1), (71, ck77_2)]
theorem dk77 : cOk prog_8_method_25_code ck77 := cOk_c dk77_0 (cOk_c dk77_1 (cOk_c dk77_2 (cOk_n)))
def ck78_0 : List (Nat × Instr × Nat) := [(0, .aload_n 0, 1), (1, .invokespecial 3, 3), (4, .aload_n 0, 1), (5, .bipush 6, 2), (7, .newarray .int, 2), (9, .putfield 9, 3), (12, .aload_n 0, 1), (13, .bipush 40, 2), (15, .newarray .int, 2), (17, .putfield 17, 3), (20, .aload_n 0, 1), (21, .aload_n 1, 1), (22, .putfield 20, 3), (25, .return_, 1)]
set_option maxRecDepth 100000 in
theorem dk78_0 : ∀ e ∈ ck78_0, decode prog_9_method_1_code e.1 = .ok e.2 := by decide +kernel
def ck78 : List (Nat × List (Nat × Instr × Nat)) := [(26, ck78_0)]
theorem dk78 : cOk prog_9_method_1_code ck78 := cOk_c dk78_0 (cOk_n)
def ck79_0 : List (Nat × Instr × Nat) := [(0, .aload_n 0, 1), (1, .getfield 24, 3), (4, .astore_n 3, 1), (5, .aload_n 3, 1), (6, .ifnonnull 9, 3), (9, .aload_n 1, 1), (10, .iload_n 2, 1), (11, .invokevirtual 28, 3), (14, .ireturn, 1), (15, .aload_n 0, 1), (16, .getfield 9, 3), (19, .iconst 0, 1), (20, .aload_n 1, 1), (21, .iload_n 2, 1), (22, .invokevirtual 28, 3), (25, .iastore, 1)]
set_option maxRecDepth 100000 in
theorem dk79_0 : ∀ e ∈ ck79_0, decode prog_9_method_2_code e.1 = .ok e.2 := by decide +kernel
def ck79_1 : List (Nat × Instr × Nat) := [(26, .aload_n 0, 1), (27, .getfield 9, 3), (30, .iconst 1, 1), (31, .aload_n 1, 1), (32, .iload_n 2, 1), (33, .invokevirtual 34, 3), (36, .iastore, 1), (37, .aload_n 0, 1), (38, .getfield 9, 3), (41, .iconst 2, 1), (42, .aload_n 1, 1), (43, .iload_n 2, 1), (44, .invokevirtual 37, 3), (47, .iastore, 1), (48, .aload_n 0, 1), (49, .getfield 9, 3)]
set_option maxRecDepth 100000 in
theorem dk79_1 : ∀ e ∈ ck79_1, decode prog_9_method_2_code e.1 = .ok e.2 := by decide +kernel
def ck79_2 : List (Nat × Instr × Nat) := [(52, .iconst 3, 1), (53, .aload_n 1, 1), (54, .getfield 40, 3), (57, .invokestatic 44, 3), (60, .iastore, 1), (61, .aload_n 0, 1), (62, .getfield 9, 3), (65, .iconst 4, 1), (66, .aload_n 1, 1), (67, .getfield 49, 3), (70, .iastore, 1), (71, .aload_n 0, 1), (72, .getfield 9, 3), (75, .iconst 5, 1), (76, .aload_n 1, 1), (77, .getfield 52, 3)]
set_option maxRecDepth 100000 in
theorem dk79_2 : ∀ e ∈ ck79_2, decode prog_9_method_2_code e.1 = .ok e.2 := by decide +kernel
def ck79_3 : List (Nat × Instr × Nat) := [(80, .iastore, 1), (81, .aload_n 3, 1), (82, .aload_n 0, 1), (83, .getfield 9, 3), (86, .aload_n 0, 1), (87, .getfield 17, 3), (90, .invokevirtual 55, 3), (93, .istore 4, 2), (95, .iload 4, 2), (97, .ifCond .ge 7, 3), (100, .iconst 0, 1), (101, .goto 17, 3), (104, .iload 4, 2), (106, .bipush 99, 2), (108, .if_icmp .le 8, 3), (111, .bipush 99, 2)]
set_option maxRecDepth 100000 in
theorem dk79_3 : ∀ e ∈ ck79_3, decode prog_9_method_2_code e.1 = .ok e.2 := by decide +kernel
def ck79_4 : List (Nat × Instr × Nat) := [(113, .goto 5, 3), (116, .iload 4, 2), (118, .ireturn, 1)]
set_option maxRecDepth 100000 in
theorem dk79_4 : ∀ e ∈ ck79_4, decode prog_9_method_2_code e.1 = .ok e.2 := by decide +kernel
def ck79 : List (Nat × List (Nat × Instr × Nat)) := [(26, ck79_0), (52, ck79_1), (80, ck79_2), (113, ck79_3), (119, ck79_4)]
theorem dk79 : cOk prog_9_method_2_code ck79 := cOk_c dk79_0 (cOk_c dk79_1 (cOk_c dk79_2 (cOk_c dk79_3 (cOk_c dk79_4 (cOk_n)))))
def ck80_0 : List (Nat × Instr × Nat) := [(0, .iconst 0, 1), (1, .istore_n 2, 1), (2, .iconst 0, 1), (3, .istore_n 3, 1), (4, .iload_n 3, 1), (5, .aload_n 0, 1), (6, .getfield 20, 3), (9, .getfield 59, 3), (12, .if_icmp .ge 44, 3), (15, .aload_n 1, 1), (16, .iload_n 3, 1), (17, .invokevirtual 64, 3), (20, .istore 4, 2), (22, .iload 4, 2), (24, .iconst 1, 1), (25, .if_icmp .eq 25, 3)]
set_option maxRecDepth 100000 in
theorem dk80_0 : ∀ e ∈ ck80_0, decode prog_9_method_3_code e.1 = .ok e.2 := by decide +kernel
def ck80_1 : List (Nat × Instr × Nat) := [(28, .aload_n 1, 1), (29, .iload_n 3, 1), (30, .invokevirtual 67, 3), (33, .ifCond .eq 17, 3), (36, .iload_n 2, 1), (37, .iload 4, 2), (39, .iconst 1, 1), (40, .isub, 1), (41, .aload_n 0, 1), (42, .aload_n 1, 1), (43, .iload_n 3, 1), (44, .invokevirtual 71, 3), (47, .imul, 1), (48, .iadd, 1), (49, .istore_n 2, 1), (50, .iinc 3 1, 3)]
set_option maxRecDepth 100000 in
theorem dk80_1 : ∀ e ∈ ck80_1, decode prog_9_method_3_code e.1 = .ok e.2 := by decide +kernel
def ck80_2 : List (Nat × Instr × Nat) := [(53, .goto (-49), 3), (56, .aload_n 0, 1), (57, .getfield 20, 3), (60, .getfield 75, 3), (63, .aload_n 1, 1), (64, .getfield 49, 3), (67, .ishr, 1), (68, .iconst 1, 1), (69, .iand, 1), (70, .iconst 1, 1), (71, .if_icmp .ne 9, 3), (74, .iconst 2, 1), (75, .iload_n 2, 1), (76, .imul, 1), (77, .goto 4, 3), (80, .iload_n 2, 1)]
set_option maxRecDepth 100000 in
theorem dk80_2 : ∀ e ∈ ck80_2, decode prog_9_method_3_code e.1 = .ok e.2 := by decide +kernel
def ck80_3 : List (Nat × Instr × Nat) := [(81, .ireturn, 1)]
set_option maxRecDepth 100000 in
theorem dk80_3 : ∀ e ∈ ck80_3, decode prog_9_method_3_code e.1 = .ok e.2 := by decide +kernel
def ck80 : List (Nat × List (Nat × Instr × Nat)) := [(28, ck80_0), (53, ck80_1), (81, ck80_2), (82, ck80_3)]
theorem dk80 : cOk prog_9_method_3_code ck80 := cOk_c dk80_0 (cOk_c dk80_1 (cOk_c dk80_2 (cOk_c dk80_3 (cOk_n))))
def ck81_0 : List (Nat × Instr × Nat) := [(0, .aload_n 0, 1), (1, .getfield 20, 3), (4, .getfield 78, 3), (7, .iconst 2, 1), (8, .iaload, 1), (9, .istore_n 2, 1), (10, .aload_n 0, 1), (11, .aload_n 0, 1), (12, .aload_n 1, 1), (13, .invokevirtual 81, 3), (16, .putfield 85, 3), (19, .aload_n 0, 1), (20, .getfield 85, 3), (23, .iload_n 2, 1), (24, .if_icmp .lt 12, 3), (27, .aload_n 0, 1)]
set_option maxRecDepth 100000 in
theorem dk81_0 : ∀ e ∈ ck81_0, decode prog_9_method_4_code e.1 = .ok e.2 := by decide +kernel
def ck81_1 : List (Nat × Instr × Nat) := [(28, .aload_n 1, 1), (29, .iconst 1, 1), (30, .invokevirtual 88, 3), (33, .goto 18, 3), (36, .aload_n 0, 1), (37, .getfield 85, 3), (40, .iload_n 2, 1), (41, .ineg, 1), (42, .if_icmp .gt 9, 3), (45, .aload_n 0, 1), (46, .aload_n 1, 1), (47, .iconst 0, 1), (48, .invokevirtual 88, 3), (51, .aload_n 1, 1), (52, .dup, 1), (53, .getfield 49, 3)]
set_option maxRecDepth 100000 in
theorem dk81_1 : ∀ e ∈ ck81_1, decode prog_9_method_4_code e.1 = .ok e.2 := by decide +kernel
def ck81_2 : List (Nat × Instr × Nat) := [(56, .iconst 1, 1), (57, .iadd, 1), (58, .putfield 49, 3), (61, .aload_n 0, 1), (62, .iconst 0, 1), (63, .putfield 92, 3), (66, .aload_n 0, 1), (67, .aload_n 0, 1), (68, .getfield 20, 3), (71, .aload_n 1, 1), (72, .getfield 49, 3), (75, .aload_n 1, 1), (76, .getfield 52, 3), (79, .invokevirtual 95, 3), (82, .putfield 99, 3), (85, .aload_n 0, 1)]
set_option maxRecDepth 100000 in
theorem dk81_2 : ∀ e ∈ ck81_2, decode prog_9_method_4_code e.1 = .ok e.2 := by decide +kernel
def ck81_3 : List (Nat × Instr × Nat) := [(86, .getfield 99, 3), (89, .iconst (-1), 1), (90, .if_icmp .eq 51, 3), (93, .aload_n 1, 1), (94, .getfield 102, 3), (97, .aload_n 0, 1), (98, .getfield 99, 3), (101, .ishr, 1), (102, .iconst 1, 1), (103, .iand, 1), (104, .ifCond .ne 37, 3), (107, .aload_n 0, 1), (108, .aload_n 1, 1), (109, .aload_n 0, 1), (110, .getfield 20, 3), (113, .aload_n 0, 1)]
set_option maxRecDepth 100000 in
theorem dk81_3 : ∀ e ∈ ck81_3, decode prog_9_method_4_code e.1 = .ok e.2 := by decide +kernel
def ck81_4 : List (Nat × Instr × Nat) := [(114, .getfield 99, 3), (117, .iconst 2, 1), (118, .invokevirtual 105, 3), (121, .invokevirtual 108, 3), (124, .aload_n 0, 1), (125, .aload_n 1, 1), (126, .aload_n 0, 1), (127, .getfield 20, 3), (130, .aload_n 0, 1), (131, .getfield 99, 3), (134, .iconst 3, 1), (135, .invokevirtual 105, 3), (138, .invokevirtual 88, 3), (141, .return_, 1)]
set_option maxRecDepth 100000 in
theorem dk81_4 : ∀ e ∈ ck81_4, decode prog_9_method_4_code e.1 = .ok e.2 := by decide +kernel
def ck81 : List (Nat × List (Nat × Instr × Nat)) := [(28, ck81_0), (56, ck81_1), (86, ck81_2), (114, ck81_3), (142, ck81_4)]
theorem dk81 : cOk prog_9_method_4_code ck81 := cOk_c dk81_0 (cOk_c dk81_1 (cOk_c dk81_2 (cOk_c dk81_3 (cOk_c dk81_4 (cOk_n)))))
def ck82_0 : List (Nat × Instr × Nat) := [(0, .iload_n 2, 1), (1, .ifCond .ne 12, 3), (4, .aload_n 1, 1), (5, .getfield 52, 3), (8, .iconst 1, 1), (9, .isub, 1), (10, .goto 9, 3), (13, .aload_n 1, 1), (14, .getfield 52, 3), (17, .iconst 1, 1), (18, .iadd, 1), (19, .istore_n 3, 1), (20, .iload_n 3, 1), (21, .ifCond .lt 21, 3), (24, .iload_n 3, 1), (25, .aload_n 0, 1)]
set_option maxRecDepth 100000 in
theorem dk82_0 : ∀ e ∈ ck82_0, decode prog_9_method_5_code e.1 = .ok e.2 := by decide +kernel
def ck82_1 : List (Nat × Instr × Nat) := [(26, .getfield 20, 3), (29, .getfield 78, 3), (32, .iconst 0, 1), (33, .iaload, 1), (34, .if_icmp .ge 8, 3), (37, .aload_n 1, 1), (38, .iload_n 3, 1), (39, .putfield 52, 3), (42, .return_, 1)]
set_option maxRecDepth 100000 in
theorem dk82_1 : ∀ e ∈ ck82_1, decode prog_9_method_5_code e.1 = .ok e.2 := by decide +kernel
def ck82 : List (Nat × List (Nat × Instr × Nat)) := [(26, ck82_0), (43, ck82_1)]
theorem dk82 : cOk prog_9_method_5_code ck82 := cOk_c dk82_0 (cOk_c dk82_1 (cOk_n))
def ck83_0 : List (Nat × Instr × Nat) := [(0, .iconst 0, 1), (1, .istore_n 3, 1), (2, .iload_n 3, 1), (3, .aload_n 0, 1), (4, .getfield 20, 3), (7, .getfield 59, 3), (10, .if_icmp .ge 38, 3), (13, .aload_n 1, 1), (14, .iload_n 3, 1), (15, .invokevirtual 67, 3), (18, .ifCond .eq 24, 3), (21, .aload_n 1, 1), (22, .iload_n 3, 1), (23, .invokevirtual 34, 3), (26, .iload_n 2, 1), (27, .if_icmp .ge 15, 3)]
set_option maxRecDepth 100000 in
theorem dk83_0 : ∀ e ∈ ck83_0, decode prog_9_method_6_code e.1 = .ok e.2 := by decide +kernel
def ck83_1 : List (Nat × Instr × Nat) := [(30, .aload_n 0, 1), (31, .dup, 1), (32, .getfield 92, 3), (35, .iconst 1, 1), (36, .iload_n 3, 1), (37, .ishl, 1), (38, .ior, 1), (39, .putfield 92, 3), (42, .iinc 3 1, 3), (45, .goto (-43), 3), (48, .aload_n 1, 1), (49, .dup, 1), (50, .getfield 40, 3), (53, .aload_n 0, 1), (54, .getfield 92, 3), (57, .iconst (-1), 1)]
set_option maxRecDepth 100000 in
theorem dk83_1 : ∀ e ∈ ck83_1, decode prog_9_method_6_code e.1 = .ok e.2 := by decide +kernel
def ck83_2 : List (Nat × Instr × Nat) := [(58, .ixor, 1), (59, .iand, 1), (60, .putfield 40, 3), (63, .return_, 1)]
set_option maxRecDepth 100000 in
theorem dk83_2 : ∀ e ∈ ck83_2, decode prog_9_method_6_code e.1 = .ok e.2 := by decide +kernel
def ck83 : List (Nat × List (Nat × Instr × Nat)) := [(30, ck83_0), (58, ck83_1), (64, ck83_2)]
theorem dk83 : cOk prog_9_method_6_code ck83 := cOk_c dk83_0 (cOk_c dk83_1 (cOk_c dk83_2 (cOk_n)))
def ck84_0 : List (Nat × Instr × Nat) := [(0, .aload_n 1, 1), (1, .getfield 49, 3), (4, .istore_n 2, 1), (5, .iload_n 2, 1), (6, .aload_n 0, 1), (7, .getfield 20, 3), (10, .invokevirtual 111, 3), (13, .if_icmp .ge 14, 3), (16, .aload_n 0, 1), (17, .aload_n 1, 1), (18, .invokevirtual 115, 3), (21, .iinc 2 1, 3), (24, .goto (-19), 3), (27, .aload_n 0, 1), (28, .getfield 20, 3), (31, .getfield 78, 3)]
set_option maxRecDepth 100000 in
theorem dk84_0 : ∀ e ∈ ck84_0, decode prog_9_method_7_code e.1 = .ok e.2 := by decide +kernel
def ck84_1 : List (Nat × Instr × Nat) := [(34, .iconst 0, 1), (35, .iaload, 1), (36, .istore_n 2, 1), (37, .aload_n 1, 1), (38, .getfield 52, 3), (41, .iload_n 2, 1), (42, .iconst 2, 1), (43, .idiv, 1), (44, .if_icmp .ge 5, 3), (47, .iconst 0, 1), (48, .ireturn, 1), (49, .aload_n 1, 1), (50, .getfield 52, 3), (53, .iload_n 2, 1), (54, .iconst 1, 1), (55, .isub, 1)]
set_option maxRecDepth 100000 in
theorem dk84_1 : ∀ e ∈ ck84_1, decode prog_9_method_7_code e.1 = .ok e.2 := by decide +kernel
def ck84_2 : List (Nat × Instr × Nat) := [(56, .iconst 2, 1), (57, .idiv, 1), (58, .if_icmp .le 7, 3), (61, .iconst 2, 1), (62, .goto 4, 3), (65, .iconst 1, 1), (66, .ireturn, 1)]
set_option maxRecDepth 100000 in
theorem dk84_2 : ∀ e ∈ ck84_2, decode prog_9_method_7_code e.1 = .ok e.2 := by decide +kernel
def ck84 : List (Nat × List (Nat × Instr × Nat)) := [(34, ck84_0), (56, ck84_1), (67, ck84_2)]
theorem dk84 : cOk prog_9_method_7_code ck84 := cOk_c dk84_0 (cOk_c dk84_1 (cOk_c dk84_2 (cOk_n)))
def ck85_0 : List (Nat × Instr × Nat) := [(0, .iconst 1, 1), (1, .aload_n 0, 1), (2, .getfield 20, 3), (5, .getfield 59, 3), (8, .ishl, 1), (9, .iconst 1, 1), (10, .isub, 1), (11, .ireturn, 1)]
set_option maxRecDepth 100000 in
theorem dk85_0 : ∀ e ∈ ck85_0, decode prog_9_method_8_code e.1 = .ok e.2 := by decide +kernel
def ck85 : List (Nat × List (Nat × Instr × Nat)) := [(12, ck85_0)]
theorem dk85 : cOk prog_9_method_8_code ck85 := cOk_c dk85_0 (cOk_n)
def ck86_0 : List (Nat × Instr × Nat) := [(0, .aload_n 0, 1), (1, .invokespecial 1, 3), (4, .return_, 1)]
set_option maxRecDepth 100000 in
theorem dk86_0 : ∀ e ∈ ck86_0, decode prog_10_method_1_code e.1 = .ok e.2 := by decide +kernel
def ck86 : List (Nat × List (Nat × Instr × Nat)) := [(5, ck86_0)]
theorem dk86 : cOk prog_10_method_1_code ck86 := cOk_c dk86_0 (cOk_n)
def ck87_0 : List (Nat × Instr × Nat) := [(0, .iload_n 0, 1), (1, .iload_n 1, 1), (2, .iconst 4, 1), (3, .imul, 1), (4, .ishr, 1), (5, .bipush 15, 2), (7, .iand, 1), (8, .ireturn, 1)]
set_option maxRecDepth 100000 in
theorem dk87_0 : ∀ e ∈ ck87_0, decode prog_10_method_2_code e.1 = .ok e.2 := by decide +kernel
def ck87 : List (Nat × List (Nat × Instr × Nat)) := [(9, ck87_0)]
theorem dk87 : cOk prog_10_method_2_code ck87 := cOk_c dk87_0 (cOk_n)
def ck88_0 : List (Nat × Instr × Nat) := [(0, .iload_n 1, 1), (1, .iconst 4, 1), (2, .imul, 1), (3, .istore_n 3, 1), (4, .iload_n 0, 1), (5, .bipush 15, 2), (7, .iload_n 3, 1), (8, .ishl, 1), (9, .iconst (-1), 1), (10, .ixor, 1), (11, .iand, 1), (12, .iload_n 2, 1), (13, .iload_n 3, 1), (14, .ishl, 1), (15, .ior, 1), (16, .ireturn, 1)]
set_option maxRecDepth 100000 in
theorem dk88_0 : ∀ e ∈ ck88_0, decode prog_10_method_3_code e.1 = .ok e.2 := by decide +kernel
def ck88 : List (Nat × List (Nat × Instr × Nat)) := [(17, ck88_0)]
theorem dk88 : cOk prog_10_method_3_code ck88 := cOk_c dk88_0 (cOk_n)
def ck89_0 : List (Nat × Instr × Nat) := [(0, .aload_n 0, 1), (1, .getfield 9, 3), (4, .iload_n 1, 1), (5, .iconst 4, 1), (6, .imul, 1), (7, .ishr, 1), (8, .bipush 15, 2), (10, .iand, 1), (11, .ireturn, 1)]
set_option maxRecDepth 100000 in
theorem dk89_0 : ∀ e ∈ ck89_0, decode prog_10_method_4_code e.1 = .ok e.2 := by decide +kernel
def ck89 : List (Nat × List (Nat × Instr × Nat)) := [(12, ck89_0)]
theorem dk89 : cOk prog_10_method_4_code ck89 := cOk_c dk89_0 (cOk_n)
def ck90_0 : List (Nat × Instr × Nat) := [(0, .aload_n 0, 1), (1, .getfield 13, 3), (4, .iload_n 1, 1), (5, .iconst 4, 1), (6, .imul, 1), (7, .ishr, 1), (8, .bipush 15, 2), (10, .iand, 1), (11, .ireturn, 1)]
set_option maxRecDepth 100000 in
theorem dk90_0 : ∀ e ∈ ck90_0, decode prog_10_method_5_code e.1 = .ok e.2 := by decide +kernel
def ck90 : List (Nat × List (Nat × Instr × Nat)) := [(12, ck90_0)]
theorem dk90 : cOk prog_10_method_5_code ck90 := cOk_c dk90_0 (cOk_n)
def ck91_0 : List (Nat × Instr × Nat) := [(0, .aload_n 0, 1), (1, .getfield 16, 3), (4, .iload_n 1, 1), (5, .iconst 4, 1), (6, .imul, 1), (7, .ishr, 1), (8, .bipush 15, 2), (10, .iand, 1), (11, .ireturn, 1)]
set_option maxRecDepth 100000 in
theorem dk91_0 : ∀ e ∈ ck91_0, decode prog_10_method_6_code e.1 = .ok e.2 := by decide +kernel
def ck91 : List (Nat × List (Nat × Instr × Nat)) := [(12, ck91_0)]
theorem dk91 : cOk prog_10_method_6_code ck91 := cOk_c dk91_0 (cOk_n)
def ck92_0 : List (Nat × Instr × Nat) := [(0, .aload_n 0, 1), (1, .getfield 19, 3), (4, .iload_n 1, 1), (5, .iconst 4, 1), (6, .imul, 1), (7, .ishr, 1), (8, .bipush 15, 2), (10, .iand, 1), (11, .ireturn, 1)]
set_option maxRecDepth 100000 in
theorem dk92_0 : ∀ e ∈ ck92_0, decode prog_10_method_7_code e.1 = .ok e.2 := by decide +kernel
def ck92 : List (Nat × List (Nat × Instr × Nat)) := [(12, ck92_0)]
theorem dk92 : cOk prog_10_method_7_code ck92 := cOk_c dk92_0 (cOk_n)
def ck93_0 : List (Nat × Instr × Nat) := [(0, .aload_n 0, 1), (1, .getfield 22, 3), (4, .iload_n 1, 1), (5, .ishr, 1), (6, .iconst 1, 1), (7, .iand, 1), (8, .iconst 1, 1), (9, .if_icmp .ne 7, 3), (12, .iconst 1, 1), (13, .goto 4, 3), (16, .iconst 0, 1), (17, .ireturn, 1)]
set_option maxRecDepth 100000 in
theorem dk93_0 : ∀ e ∈ ck93_0, decode prog_10_method_8_code e.1 = .ok e.2 := by decide +kernel
def ck93 : List (Nat × List (Nat × Instr × Nat)) := [(18, ck93_0)]
theorem dk93 : cOk prog_10_method_8_code ck93 := cOk_c dk93_0 (cOk_n)
def ck94_0 : List (Nat × Instr × Nat) := [(0, .aload_n 0, 1), (1, .iload_n 1, 1), (2, .invokevirtual 25, 3), (5, .istore_n 3, 1), (6, .aload_n 0, 1), (7, .aload_n 0, 1), (8, .getfield 19, 3), (11, .iload_n 1, 1), (12, .aload_n 0, 1), (13, .iload_n 2, 1), (14, .invokevirtual 25, 3), (17, .invokestatic 29, 3), (20, .putfield 19, 3), (23, .aload_n 0, 1), (24, .aload_n 0, 1), (25, .getfield 19, 3)]
set_option maxRecDepth 100000 in
theorem dk94_0 : ∀ e ∈ ck94_0, decode prog_10_method_9_code e.1 = .ok e.2 := by decide +kernel
def ck94_1 : List (Nat × Instr × Nat) := [(28, .iload_n 2, 1), (29, .iload_n 3, 1), (30, .invokestatic 29, 3), (33, .putfield 19, 3), (36, .return_, 1)]
set_option maxRecDepth 100000 in
theorem dk94_1 : ∀ e ∈ ck94_1, decode prog_10_method_9_code e.1 = .ok e.2 := by decide +kernel
def ck94 : List (Nat × List (Nat × Instr × Nat)) := [(28, ck94_0), (37, ck94_1)]
theorem dk94 : cOk prog_10_method_9_code ck94 := cOk_c dk94_0 (cOk_c dk94_1 (cOk_n))
def ck95_0 : List (Nat × Instr × Nat) := [(0, .iconst 0, 1), (1, .istore_n 2, 1), (2, .iload_n 2, 1), (3, .aload_n 1, 1), (4, .getfield 33, 3), (7, .if_icmp .ge 76, 3), (10, .aload_n 0, 1), (11, .aload_n 0, 1), (12, .getfield 9, 3), (15, .iload_n 2, 1), (16, .aload_n 1, 1), (17, .iload_n 2, 1), (18, .iconst 0, 1), (19, .invokevirtual 38, 3), (22, .invokestatic 29, 3), (25, .putfield 9, 3)]
set_option maxRecDepth 100000 in
theorem dk95_0 : ∀ e ∈ ck95_0, decode prog_10_method_10_code e.1 = .ok e.2 := by decide +kernel
def ck95_1 : List (Nat × Instr × Nat) := [(28, .aload_n 0, 1), (29, .aload_n 0, 1), (30, .getfield 13, 3), (33, .iload_n 2, 1), (34, .aload_n 1, 1), (35, .iload_n 2, 1), (36, .iconst 1, 1), (37, .invokevirtual 38, 3), (40, .invokestatic 29, 3), (43, .putfield 13, 3), (46, .aload_n 0, 1), (47, .aload_n 0, 1), (48, .getfield 16, 3), (51, .iload_n 2, 1), (52, .aload_n 1, 1), (53, .iload_n 2, 1)]
set_option maxRecDepth 100000 in
theorem dk95_1 : ∀ e ∈ ck95_1, decode prog_10_method_10_code e.1 = .ok e.2 := by decide +kernel
def ck95_2 : List (Nat × Instr × Nat) := [(54, .iconst 2, 1), (55, .invokevirtual 38, 3), (58, .invokestatic 29, 3), (61, .putfield 16, 3), (64, .aload_n 0, 1), (65, .aload_n 0, 1), (66, .getfield 19, 3), (69, .iload_n 2, 1), (70, .iload_n 2, 1), (71, .invokestatic 29, 3), (74, .putfield 19, 3), (77, .iinc 2 1, 3), (80, .goto (-78), 3), (83, .aload_n 0, 1), (84, .iconst 0, 1), (85, .putfield 42, 3)]
set_option maxRecDepth 100000 in
theorem dk95_2 : ∀ e ∈ ck95_2, decode prog_10_method_10_code e.1 = .ok e.2 := by decide +kernel
def ck95_3 : List (Nat × Instr × Nat) := [(88, .aload_n 0, 1), (89, .aload_n 1, 1), (90, .getfield 45, 3), (93, .iconst 4, 1), (94, .iaload, 1), (95, .putfield 49, 3), (98, .aload_n 0, 1), (99, .iconst 0, 1), (100, .putfield 52, 3), (103, .aload_n 0, 1), (104, .aload_n 1, 1), (105, .invokevirtual 55, 3), (108, .aload_n 0, 1), (109, .iconst 0, 1), (110, .putfield 59, 3), (113, .return_, 1)]
set_option maxRecDepth 100000 in
theorem dk95_3 : ∀ e ∈ ck95_3, decode prog_10_method_10_code e.1 = .ok e.2 := by decide +kernel
def ck95 : List (Nat × List (Nat × Instr × Nat)) := [(28, ck95_0), (54, ck95_1), (88, ck95_2), (114, ck95_3)]
theorem dk95 : cOk prog_10_method_10_code ck95 := cOk_c dk95_0 (cOk_c dk95_1 (cOk_c dk95_2 (cOk_c dk95_3 (cOk_n))))
def ck96_0 : List (Nat × Instr × Nat) := [(0, .aload_n 0, 1), (1, .iconst 0, 1), (2, .putfield 62, 3), (5, .aload_n 0, 1), (6, .aload_n 1, 1), (7, .getfield 45, 3), (10, .iconst 1, 1), (11, .iaload, 1), (12, .putfield 65, 3), (15, .aload_n 0, 1), (16, .iconst 1, 1), (17, .aload_n 1, 1), (18, .getfield 33, 3), (21, .ishl, 1), (22, .iconst 1, 1), (23, .isub, 1)]
set_option maxRecDepth 100000 in
theorem dk96_0 : ∀ e ∈ ck96_0, decode prog_10_method_11_code e.1 = .ok e.2 := by decide +kernel
def ck96_1 : List (Nat × Instr × Nat) := [(24, .putfield 22, 3), (27, .aload_n 0, 1), (28, .dup, 1), (29, .getfield 59, 3), (32, .iconst 1, 1), (33, .iadd, 1), (34, .putfield 59, 3), (37, .return_, 1)]
set_option maxRecDepth 100000 in
theorem dk96_1 : ∀ e ∈ ck96_1, decode prog_10_method_11_code e.1 = .ok e.2 := by decide +kernel
def ck96 : List (Nat × List (Nat × Instr × Nat)) := [(24, ck96_0), (38, ck96_1)]
theorem dk96 : cOk prog_10_method_11_code ck96 := cOk_c dk96_0 (cOk_c dk96_1 (cOk_n))
def ck97_0 : List (Nat × Instr × Nat) := [(0, .aload_n 0, 1), (1, .aload_n 1, 1), (2, .getfield 9, 3), (5, .putfield 9, 3), (8, .aload_n 0, 1), (9, .aload_n 1, 1), (10, .getfield 13, 3), (13, .putfield 13, 3), (16, .aload_n 0, 1), (17, .aload_n 1, 1), (18, .getfield 16, 3), (21, .putfield 16, 3), (24, .aload_n 0, 1), (25, .aload_n 1, 1), (26, .getfield 19, 3), (29, .putfield 19, 3)]
set_option maxRecDepth 100000 in
theorem dk97_0 : ∀ e ∈ ck97_0, decode prog_10_method_12_code e.1 = .ok e.2 := by decide +kernel
def ck97_1 : List (Nat × Instr × Nat) := [(32, .aload_n 0, 1), (33, .aload_n 1, 1), (34, .getfield 22, 3), (37, .putfield 22, 3), (40, .aload_n 0, 1), (41, .aload_n 1, 1), (42, .getfield 42, 3), (45, .putfield 42, 3), (48, .aload_n 0, 1), (49, .aload_n 1, 1), (50, .getfield 49, 3), (53, .putfield 49, 3), (56, .aload_n 0, 1), (57, .aload_n 1, 1), (58, .getfield 62, 3), (61, .putfield 62, 3)]
set_option maxRecDepth 100000 in
theorem dk97_1 : ∀ e ∈ ck97_1, decode prog_10_method_12_code e.1 = .ok e.2 := by decide +kernel
def ck97_2 : List (Nat × Instr × Nat) := [(64, .aload_n 0, 1), (65, .aload_n 1, 1), (66, .getfield 65, 3), (69, .putfield 65, 3), (72, .aload_n 0, 1), (73, .aload_n 1, 1), (74, .getfield 59, 3), (77, .putfield 59, 3), (80, .aload_n 0, 1), (81, .aload_n 1, 1), (82, .getfield 52, 3), (85, .putfield 52, 3), (88, .return_, 1)]
set_option maxRecDepth 100000 in
theorem dk97_2 : ∀ e ∈ ck97_2, decode prog_10_method_12_code e.1 = .ok e.2 := by decide +kernel
def ck97 : List (Nat × List (Nat × Instr × Nat)) := [(32, ck97_0), (64, ck97_1), (89, ck97_2)]
theorem dk97 : cOk prog_10_method_12_code ck97 := cOk_c dk97_0 (cOk_c dk97_1 (cOk_c dk97_2 (cOk_n)))
def ck98_0 : List (Nat × Instr × Nat) := [(0, .aload_n 0, 1), (1, .invokespecial 1, 3), (4, .aload_n 0, 1), (5, .sipush 240, 3), (8, .newarray .char, 2), (10, .putfield 9, 3), (13, .return_, 1)]
set_option maxRecDepth 100000 in
theorem dk98_0 : ∀ e ∈ ck98_0, decode prog_11_method_1_code e.1 = .ok e.2 := by decide +kernel
def ck98 : List (Nat × List (Nat × Instr × Nat)) := [(14, ck98_0)]
theorem dk98 : cOk prog_11_method_1_code ck98 := cOk_c dk98_0 (cOk_n)
def ck99_0 : List (Nat × Instr × Nat) := [(0, .iconst 0, 1), (1, .istore_n 1, 1), (2, .bipush 24, 2), (4, .istore_n 2, 1), (5, .iload_n 2, 1), (6, .ifCond .lt 22, 3), (9, .iload_n 0, 1), (10, .iload_n 2, 1), (11, .ishr, 1), (12, .sipush 255, 3), (15, .iand, 1), (16, .ifCond .eq 6, 3), (19, .iinc 1 1, 3), (22, .iinc 2 (-8), 3), (25, .goto (-20), 3), (28, .iload_n 1, 1)]
set_option maxRecDepth 100000 in
theorem dk99_0 : ∀ e ∈ ck99_0, decode prog_11_method_2_code e.1 = .ok e.2 := by decide +kernel
def ck99_1 : List (Nat × Instr × Nat) := [(29, .ireturn, 1)]
set_option maxRecDepth 100000 in
theorem dk99_1 : ∀ e ∈ ck99_1, decode prog_11_method_2_code e.1 = .ok e.2 := by decide +kernel
def ck99 : List (Nat × List (Nat × Instr × Nat)) := [(29, ck99_0), (30, ck99_1)]
theorem dk99 : cOk prog_11_method_2_code ck99 := cOk_c dk99_0 (cOk_c dk99_1 (cOk_n))
def ck100_0 : List (Nat × Instr × Nat) := [(0, .bipush 24, 2), (2, .istore_n 2, 1), (3, .iload_n 2, 1), (4, .ifCond .lt 52, 3), (7, .iload_n 1, 1), (8, .iload_n 2, 1), (9, .ishr, 1), (10, .sipush 255, 3), (13, .iand, 1), (14, .istore_n 3, 1), (15, .iload_n 3, 1), (16, .ifCond .eq 34, 3), (19, .aload_n 0, 1), (20, .getfield 13, 3), (23, .sipush 240, 3), (26, .if_icmp .ge 24, 3)]
set_option maxRecDepth 100000 in
theorem dk100_0 : ∀ e ∈ ck100_0, decode prog_11_method_3_code e.1 = .ok e.2 := by decide +kernel
def ck100_1 : List (Nat × Instr × Nat) := [(29, .aload_n 0, 1), (30, .getfield 9, 3), (33, .aload_n 0, 1), (34, .getfield 13, 3), (37, .iload_n 3, 1), (38, .i2c, 1), (39, .castore, 1), (40, .aload_n 0, 1), (41, .dup, 1), (42, .getfield 13, 3), (45, .iconst 1, 1), (46, .iadd, 1), (47, .putfield 13, 3), (50, .iinc 2 (-8), 3), (53, .goto (-50), 3), (56, .return_, 1)]
set_option maxRecDepth 100000 in
theorem dk100_1 : ∀ e ∈ ck100_1, decode prog_11_method_3_code e.1 = .ok e.2 := by decide +kernel
def ck100 : List (Nat × List (Nat × Instr × Nat)) := [(29, ck100_0), (57, ck100_1)]
theorem dk100 : cOk prog_11_method_3_code ck100 := cOk_c dk100_0 (cOk_c dk100_1 (cOk_n))
def ck101_0 : List (Nat × Instr × Nat) := [(0, .iload_n 1, 1), (1, .istore_n 2, 1), (2, .iload_n 1, 1), (3, .istore_n 3, 1), (4, .iload_n 3, 1), (5, .aload_n 0, 1), (6, .getfield 13, 3), (9, .if_icmp .ge 24, 3), (12, .aload_n 0, 1), (13, .getfield 9, 3), (16, .iload_n 3, 1), (17, .caload, 1), (18, .bipush 32, 2), (20, .if_icmp .ne 13, 3), (23, .iload_n 3, 1), (24, .iconst 1, 1)]
set_option maxRecDepth 100000 in
theorem dk101_0 : ∀ e ∈ ck101_0, decode prog_11_method_4_code e.1 = .ok e.2 := by decide +kernel
def ck101_1 : List (Nat × Instr × Nat) := [(25, .iadd, 1), (26, .istore_n 2, 1), (27, .iinc 3 1, 3), (30, .goto (-26), 3), (33, .iload_n 2, 1), (34, .ireturn, 1)]
set_option maxRecDepth 100000 in
theorem dk101_1 : ∀ e ∈ ck101_1, decode prog_11_method_4_code e.1 = .ok e.2 := by decide +kernel
def ck101 : List (Nat × List (Nat × Instr × Nat)) := [(25, ck101_0), (35, ck101_1)]
theorem dk101 : cOk prog_11_method_4_code ck101 := cOk_c dk101_0 (cOk_c dk101_1 (cOk_n))
