/-! ===== the code of the methods, instruction by instruction (printed by program) ===== -/
def ck1_0 : List (Nat × Instr × Nat) := [(0, .aload_n 0, 1), (1, .invokespecial 3, 3), (4, .aload_n 0, 1), (5, .iconst 5, 1), (6, .newarray .int, 2), (8, .putfield 11, 3), (11, .aload_n 0, 1), (12, .bipush 24, 2), (14, .newarray .int, 2), (16, .putfield 15, 3), (19, .aload_n 0, 1), (20, .bipush 24, 2), (22, .newarray .int, 2), (24, .putfield 18, 3), (27, .return_, 1)]
set_option maxRecDepth 100000 in
theorem dk1_0 : ∀ e ∈ ck1_0, decode prog_2_method_1_code e.1 = .ok e.2 := by decide +kernel
def ck1 : List (Nat × List (Nat × Instr × Nat)) := [(28, ck1_0)]
theorem dk1 : cOk prog_2_method_1_code ck1 := cOk_c dk1_0 (cOk_n)
def ck2_0 : List (Nat × Instr × Nat) := [(0, .aload_n 0, 1), (1, .getfield 11, 3), (4, .iconst 3, 1), (5, .iaload, 1), (6, .ireturn, 1)]
set_option maxRecDepth 100000 in
theorem dk2_0 : ∀ e ∈ ck2_0, decode prog_2_method_2_code e.1 = .ok e.2 := by decide +kernel
def ck2 : List (Nat × List (Nat × Instr × Nat)) := [(7, ck2_0)]
theorem dk2 : cOk prog_2_method_2_code ck2 := cOk_c dk2_0 (cOk_n)
def ck3_0 : List (Nat × Instr × Nat) := [(0, .aload_n 0, 1), (1, .getfield 15, 3), (4, .iload_n 1, 1), (5, .iconst 4, 1), (6, .imul, 1), (7, .iload_n 2, 1), (8, .iadd, 1), (9, .iaload, 1), (10, .ireturn, 1)]
set_option maxRecDepth 100000 in
theorem dk3_0 : ∀ e ∈ ck3_0, decode prog_2_method_3_code e.1 = .ok e.2 := by decide +kernel
def ck3 : List (Nat × List (Nat × Instr × Nat)) := [(11, ck3_0)]
theorem dk3 : cOk prog_2_method_3_code ck3 := cOk_c dk3_0 (cOk_n)
def ck4_0 : List (Nat × Instr × Nat) := [(0, .aload_n 0, 1), (1, .getfield 18, 3), (4, .iload_n 1, 1), (5, .iconst 4, 1), (6, .imul, 1), (7, .iload_n 2, 1), (8, .iadd, 1), (9, .iaload, 1), (10, .ireturn, 1)]
set_option maxRecDepth 100000 in
theorem dk4_0 : ∀ e ∈ ck4_0, decode prog_2_method_4_code e.1 = .ok e.2 := by decide +kernel
def ck4 : List (Nat × List (Nat × Instr × Nat)) := [(11, ck4_0)]
theorem dk4 : cOk prog_2_method_4_code ck4 := cOk_c dk4_0 (cOk_n)
def ck5_0 : List (Nat × Instr × Nat) := [(0, .aload_n 0, 1), (1, .getfield 18, 3), (4, .iload_n 1, 1), (5, .iconst 4, 1), (6, .imul, 1), (7, .iconst 3, 1), (8, .iadd, 1), (9, .iaload, 1), (10, .ireturn, 1)]
set_option maxRecDepth 100000 in
theorem dk5_0 : ∀ e ∈ ck5_0, decode prog_2_method_5_code e.1 = .ok e.2 := by decide +kernel
def ck5 : List (Nat × List (Nat × Instr × Nat)) := [(11, ck5_0)]
theorem dk5 : cOk prog_2_method_5_code ck5 := cOk_c dk5_0 (cOk_n)
def ck6_0 : List (Nat × Instr × Nat) := [(0, .iconst 0, 1), (1, .istore_n 3, 1), (2, .iload_n 3, 1), (3, .aload_n 0, 1), (4, .getfield 21, 3), (7, .if_icmp .ge 31, 3), (10, .aload_n 0, 1), (11, .iload_n 3, 1), (12, .iconst 0, 1), (13, .invokevirtual 25, 3), (16, .iload_n 1, 1), (17, .if_icmp .ne 15, 3), (20, .aload_n 0, 1), (21, .iload_n 3, 1), (22, .iconst 1, 1), (23, .invokevirtual 25, 3)]
set_option maxRecDepth 100000 in
theorem dk6_0 : ∀ e ∈ ck6_0, decode prog_2_method_6_code e.1 = .ok e.2 := by decide +kernel
def ck6_1 : List (Nat × Instr × Nat) := [(26, .iload_n 2, 1), (27, .if_icmp .ne 5, 3), (30, .iload_n 3, 1), (31, .ireturn, 1), (32, .iinc 3 1, 3), (35, .goto (-33), 3), (38, .iconst (-1), 1), (39, .ireturn, 1)]
set_option maxRecDepth 100000 in
theorem dk6_1 : ∀ e ∈ ck6_1, decode prog_2_method_6_code e.1 = .ok e.2 := by decide +kernel
def ck6 : List (Nat × List (Nat × Instr × Nat)) := [(26, ck6_0), (40, ck6_1)]
theorem dk6 : cOk prog_2_method_6_code ck6 := cOk_c dk6_0 (cOk_c dk6_1 (cOk_n))
def ck7_0 : List (Nat × Instr × Nat) := [(0, .aload_n 0, 1), (1, .iconst 0, 1), (2, .putfield 21, 3), (5, .aload_n 0, 1), (6, .iconst 0, 1), (7, .putfield 29, 3), (10, .aload_n 0, 1), (11, .iconst 0, 1), (12, .putfield 32, 3), (15, .aload_n 0, 1), (16, .iconst 0, 1), (17, .putfield 35, 3), (20, .return_, 1)]
set_option maxRecDepth 100000 in
theorem dk7_0 : ∀ e ∈ ck7_0, decode prog_2_method_7_code e.1 = .ok e.2 := by decide +kernel
def ck7 : List (Nat × List (Nat × Instr × Nat)) := [(21, ck7_0)]
theorem dk7 : cOk prog_2_method_7_code ck7 := cOk_c dk7_0 (cOk_n)
def ck8_0 : List (Nat × Instr × Nat) := [(0, .aload_n 0, 1), (1, .getfield 21, 3), (4, .bipush 6, 2), (6, .if_icmp .ge 35, 3), (9, .aload_n 1, 1), (10, .arraylength, 1), (11, .iconst 4, 1), (12, .if_icmp .lt 29, 3), (15, .aload_n 1, 1), (16, .iconst 0, 1), (17, .aload_n 0, 1), (18, .getfield 15, 3), (21, .aload_n 0, 1), (22, .getfield 21, 3), (25, .iconst 4, 1), (26, .imul, 1)]
set_option maxRecDepth 100000 in
theorem dk8_0 : ∀ e ∈ ck8_0, decode prog_2_method_8_code e.1 = .ok e.2 := by decide +kernel
def ck8_1 : List (Nat × Instr × Nat) := [(27, .iconst 4, 1), (28, .invokestatic 39, 3), (31, .aload_n 0, 1), (32, .dup, 1), (33, .getfield 21, 3), (36, .iconst 1, 1), (37, .iadd, 1), (38, .putfield 21, 3), (41, .return_, 1)]
set_option maxRecDepth 100000 in
theorem dk8_1 : ∀ e ∈ ck8_1, decode prog_2_method_8_code e.1 = .ok e.2 := by decide +kernel
def ck8 : List (Nat × List (Nat × Instr × Nat)) := [(27, ck8_0), (42, ck8_1)]
theorem dk8 : cOk prog_2_method_8_code ck8 := cOk_c dk8_0 (cOk_c dk8_1 (cOk_n))
def ck9_0 : List (Nat × Instr × Nat) := [(0, .aload_n 0, 1), (1, .getfield 29, 3), (4, .bipush 6, 2), (6, .if_icmp .ge 35, 3), (9, .aload_n 1, 1), (10, .arraylength, 1), (11, .iconst 4, 1), (12, .if_icmp .lt 29, 3), (15, .aload_n 1, 1), (16, .iconst 0, 1), (17, .aload_n 0, 1), (18, .getfield 18, 3), (21, .aload_n 0, 1), (22, .getfield 29, 3), (25, .iconst 4, 1), (26, .imul, 1)]
set_option maxRecDepth 100000 in
theorem dk9_0 : ∀ e ∈ ck9_0, decode prog_2_method_9_code e.1 = .ok e.2 := by decide +kernel
def ck9_1 : List (Nat × Instr × Nat) := [(27, .iconst 4, 1), (28, .invokestatic 39, 3), (31, .aload_n 0, 1), (32, .dup, 1), (33, .getfield 29, 3), (36, .iconst 1, 1), (37, .iadd, 1), (38, .putfield 29, 3), (41, .return_, 1)]
set_option maxRecDepth 100000 in
theorem dk9_1 : ∀ e ∈ ck9_1, decode prog_2_method_9_code e.1 = .ok e.2 := by decide +kernel
def ck9 : List (Nat × List (Nat × Instr × Nat)) := [(27, ck9_0), (42, ck9_1)]
theorem dk9 : cOk prog_2_method_9_code ck9 := cOk_c dk9_0 (cOk_c dk9_1 (cOk_n))
def ck10_0 : List (Nat × Instr × Nat) := [(0, .aload_n 0, 1), (1, .aload_n 0, 1), (2, .getfield 35, 3), (5, .ifCond .ne 15, 3), (8, .aload_n 0, 1), (9, .getfield 32, 3), (12, .iload_n 1, 1), (13, .ishr, 1), (14, .iconst 1, 1), (15, .iand, 1), (16, .iconst 1, 1), (17, .if_icmp .ne 7, 3), (20, .iconst 1, 1), (21, .goto 4, 3), (24, .iconst 0, 1), (25, .putfield 35, 3)]
set_option maxRecDepth 100000 in
theorem dk10_0 : ∀ e ∈ ck10_0, decode prog_2_method_10_code e.1 = .ok e.2 := by decide +kernel
def ck10_1 : List (Nat × Instr × Nat) := [(28, .aload_n 0, 1), (29, .dup, 1), (30, .getfield 32, 3), (33, .iconst 1, 1), (34, .iload_n 1, 1), (35, .ishl, 1), (36, .ior, 1), (37, .putfield 32, 3), (40, .return_, 1)]
set_option maxRecDepth 100000 in
theorem dk10_1 : ∀ e ∈ ck10_1, decode prog_2_method_10_code e.1 = .ok e.2 := by decide +kernel
def ck10 : List (Nat × List (Nat × Instr × Nat)) := [(28, ck10_0), (41, ck10_1)]
theorem dk10 : cOk prog_2_method_10_code ck10 := cOk_c dk10_0 (cOk_c dk10_1 (cOk_n))
def ck11_0 : List (Nat × Instr × Nat) := [(0, .aload_n 0, 1), (1, .getfield 29, 3), (4, .ifCond .eq 25, 3), (7, .aload_n 0, 1), (8, .getfield 35, 3), (11, .ifCond .ne 18, 3), (14, .aload_n 0, 1), (15, .getfield 11, 3), (18, .iconst 1, 1), (19, .iaload, 1), (20, .aload_n 0, 1), (21, .getfield 11, 3), (24, .iconst 0, 1), (25, .iaload, 1), (26, .if_icmp .lt 5, 3), (29, .iconst 0, 1)]
set_option maxRecDepth 100000 in
theorem dk11_0 : ∀ e ∈ ck11_0, decode prog_2_method_11_code e.1 = .ok e.2 := by decide +kernel
def ck11_1 : List (Nat × Instr × Nat) := [(30, .ireturn, 1), (31, .iconst 0, 1), (32, .istore_n 1, 1), (33, .iload_n 1, 1), (34, .aload_n 0, 1), (35, .getfield 21, 3), (38, .if_icmp .ge 43, 3), (41, .aload_n 0, 1), (42, .iload_n 1, 1), (43, .iconst 1, 1), (44, .invokevirtual 25, 3), (47, .istore_n 2, 1), (48, .iload_n 2, 1), (49, .aload_n 0, 1), (50, .getfield 11, 3), (53, .iconst 0, 1)]
set_option maxRecDepth 100000 in
theorem dk11_1 : ∀ e ∈ ck11_1, decode prog_2_method_11_code e.1 = .ok e.2 := by decide +kernel
def ck11_2 : List (Nat × Instr × Nat) := [(54, .iaload, 1), (55, .if_icmp .ge 18, 3), (58, .aload_n 0, 1), (59, .aload_n 0, 1), (60, .iload_n 1, 1), (61, .iconst 0, 1), (62, .invokevirtual 25, 3), (65, .iload_n 2, 1), (66, .invokevirtual 45, 3), (69, .iload_n 1, 1), (70, .if_icmp .eq 5, 3), (73, .iconst 0, 1), (74, .ireturn, 1), (75, .iinc 1 1, 3), (78, .goto (-45), 3), (81, .iconst 1, 1)]
set_option maxRecDepth 100000 in
theorem dk11_2 : ∀ e ∈ ck11_2, decode prog_2_method_11_code e.1 = .ok e.2 := by decide +kernel
def ck11_3 : List (Nat × Instr × Nat) := [(82, .ireturn, 1)]
set_option maxRecDepth 100000 in
theorem dk11_3 : ∀ e ∈ ck11_3, decode prog_2_method_11_code e.1 = .ok e.2 := by decide +kernel
def ck11 : List (Nat × List (Nat × Instr × Nat)) := [(30, ck11_0), (54, ck11_1), (82, ck11_2), (83, ck11_3)]
theorem dk11 : cOk prog_2_method_11_code ck11 := cOk_c dk11_0 (cOk_c dk11_1 (cOk_c dk11_2 (cOk_c dk11_3 (cOk_n))))
def ck12_0 : List (Nat × Instr × Nat) := [(0, .aload_n 0, 1), (1, .invokespecial 3, 3), (4, .aload_n 0, 1), (5, .iconst 5, 1), (6, .newarray .int, 2), (8, .putfield 11, 3), (11, .aload_n 0, 1), (12, .iconst 4, 1), (13, .newarray .int, 2), (15, .putfield 17, 3), (18, .aload_n 0, 1), (19, .aload_n 1, 1), (20, .putfield 20, 3), (23, .return_, 1)]
set_option maxRecDepth 100000 in
theorem dk12_0 : ∀ e ∈ ck12_0, decode prog_3_method_1_code e.1 = .ok e.2 := by decide +kernel
def ck12 : List (Nat × List (Nat × Instr × Nat)) := [(24, ck12_0)]
theorem dk12 : cOk prog_3_method_1_code ck12 := cOk_c dk12_0 (cOk_n)
def ck13_0 : List (Nat × Instr × Nat) := [(0, .aload_n 1, 1), (1, .invokevirtual 24, 3), (4, .getstatic 27, 3), (7, .iconst 0, 1), (8, .aload_n 1, 1), (9, .getfield 30, 3), (12, .iconst 0, 1), (13, .aload_n 1, 1), (14, .getfield 30, 3), (17, .arraylength, 1), (18, .invokestatic 33, 3), (21, .aload_n 0, 1), (22, .getfield 17, 3), (25, .iconst 0, 1), (26, .invokestatic 39, 3), (29, .aload_n 0, 1)]
set_option maxRecDepth 100000 in
theorem dk13_0 : ∀ e ∈ ck13_0, decode prog_3_method_2_code e.1 = .ok e.2 := by decide +kernel
def ck13_1 : List (Nat × Instr × Nat) := [(30, .iconst 0, 1), (31, .putfield 45, 3), (34, .iconst 0, 1), (35, .istore_n 2, 1), (36, .iload_n 2, 1), (37, .sipush 240, 3), (40, .if_icmp .gt 65, 3), (43, .aload_n 0, 1), (44, .aload_n 1, 1), (45, .invokevirtual 51, 3), (48, .ifCond .ne 8, 3), (51, .aload_n 0, 1), (52, .getfield 45, 3), (55, .ireturn, 1), (56, .aload_n 0, 1), (57, .getfield 45, 3)]
set_option maxRecDepth 100000 in
theorem dk13_1 : ∀ e ∈ ck13_1, decode prog_3_method_2_code e.1 = .ok e.2 := by decide +kernel
def ck13_2 : List (Nat × Instr × Nat) := [(60, .aload_n 0, 1), (61, .getfield 20, 3), (64, .getfield 55, 3), (67, .if_icmp .lt 22, 3), (70, .aload_n 1, 1), (71, .invokevirtual 58, 3), (74, .ifCond .eq 7, 3), (77, .iconst (-1), 1), (78, .goto 10, 3), (81, .aload_n 0, 1), (82, .getfield 20, 3), (85, .getfield 55, 3), (88, .ireturn, 1), (89, .aload_n 0, 1), (90, .dup, 1), (91, .getfield 45, 3)]
set_option maxRecDepth 100000 in
theorem dk13_2 : ∀ e ∈ ck13_2, decode prog_3_method_2_code e.1 = .ok e.2 := by decide +kernel
def ck13_3 : List (Nat × Instr × Nat) := [(94, .iconst 1, 1), (95, .iadd, 1), (96, .putfield 45, 3), (99, .iinc 2 1, 3), (102, .goto (-66), 3), (105, .aload_n 0, 1), (106, .getfield 45, 3), (109, .ireturn, 1)]
set_option maxRecDepth 100000 in
theorem dk13_3 : ∀ e ∈ ck13_3, decode prog_3_method_2_code e.1 = .ok e.2 := by decide +kernel
def ck13 : List (Nat × List (Nat × Instr × Nat)) := [(30, ck13_0), (60, ck13_1), (94, ck13_2), (110, ck13_3)]
theorem dk13 : cOk prog_3_method_2_code ck13 := cOk_c dk13_0 (cOk_c dk13_1 (cOk_c dk13_2 (cOk_c dk13_3 (cOk_n))))
def ck14_0 : List (Nat × Instr × Nat) := [(0, .aload_n 0, 1), (1, .aload_n 0, 1), (2, .getfield 20, 3), (5, .aload_n 0, 1), (6, .getfield 45, 3), (9, .invokevirtual 62, 3), (12, .putfield 45, 3), (15, .aload_n 0, 1), (16, .getfield 20, 3), (19, .aload_n 0, 1), (20, .getfield 45, 3), (23, .invokevirtual 66, 3), (26, .istore_n 2, 1), (27, .iload_n 2, 1), (28, .ifCond .ne 7, 3), (31, .iconst (-1), 1)]
set_option maxRecDepth 100000 in
theorem dk14_0 : ∀ e ∈ ck14_0, decode prog_3_method_3_code e.1 = .ok e.2 := by decide +kernel
def ck14_1 : List (Nat × Instr × Nat) := [(32, .goto 10, 3), (35, .ldc 69, 2), (37, .iload_n 2, 1), (38, .i2c, 1), (39, .invokevirtual 71, 3), (42, .istore_n 3, 1), (43, .iload_n 3, 1), (44, .ifCond .lt 17, 3), (47, .aload_n 0, 1), (48, .getfield 17, 3), (51, .iload_n 3, 1), (52, .iaload, 1), (53, .getstatic 76, 3), (56, .iload_n 3, 1), (57, .iaload, 1), (58, .if_icmp .lt 5, 3)]
set_option maxRecDepth 100000 in
theorem dk14_1 : ∀ e ∈ ck14_1, decode prog_3_method_3_code e.1 = .ok e.2 := by decide +kernel
def ck14_2 : List (Nat × Instr × Nat) := [(61, .iconst 0, 1), (62, .ireturn, 1), (63, .aload_n 0, 1), (64, .getfield 17, 3), (67, .iload_n 3, 1), (68, .dup2, 1), (69, .iaload, 1), (70, .iconst 1, 1), (71, .iadd, 1), (72, .iastore, 1), (73, .aload_n 0, 1), (74, .dup, 1), (75, .getfield 45, 3), (78, .iconst 1, 1), (79, .iadd, 1), (80, .putfield 45, 3)]
set_option maxRecDepth 100000 in
theorem dk14_2 : ∀ e ∈ ck14_2, decode prog_3_method_3_code e.1 = .ok e.2 := by decide +kernel
def ck14_3 : List (Nat × Instr × Nat) := [(83, .getstatic 27, 3), (86, .getstatic 79, 3), (89, .iload_n 3, 1), (90, .iaload, 1), (91, .aload_n 0, 1), (92, .getfield 11, 3), (95, .iconst 0, 1), (96, .getstatic 79, 3), (99, .iload_n 3, 1), (100, .iconst 1, 1), (101, .iadd, 1), (102, .iaload, 1), (103, .getstatic 79, 3), (106, .iload_n 3, 1), (107, .iaload, 1), (108, .isub, 1)]
set_option maxRecDepth 100000 in
theorem dk14_3 : ∀ e ∈ ck14_3, decode prog_3_method_3_code e.1 = .ok e.2 := by decide +kernel
def ck14_4 : List (Nat × Instr × Nat) := [(109, .invokestatic 33, 3), (112, .aload_n 0, 1), (113, .iload_n 3, 1), (114, .invokevirtual 82, 3), (117, .ifCond .ne 5, 3), (120, .iconst 0, 1), (121, .ireturn, 1), (122, .iload_n 3, 1), (123, .ifCond .ne 24, 3), (126, .aload_n 0, 1), (127, .getfield 11, 3), (130, .iconst 0, 1), (131, .aload_n 1, 1), (132, .getfield 30, 3), (135, .iconst 0, 1), (136, .aload_n 1, 1)]
set_option maxRecDepth 100000 in
theorem dk14_4 : ∀ e ∈ ck14_4, decode prog_3_method_3_code e.1 = .ok e.2 := by decide +kernel
def ck14_5 : List (Nat × Instr × Nat) := [(137, .getfield 30, 3), (140, .arraylength, 1), (141, .invokestatic 33, 3), (144, .goto 45, 3), (147, .iload_n 3, 1), (148, .iconst 1, 1), (149, .if_icmp .ne 14, 3), (152, .aload_n 1, 1), (153, .aload_n 0, 1), (154, .getfield 11, 3), (157, .invokevirtual 86, 3), (160, .goto 29, 3), (163, .iload_n 3, 1), (164, .iconst 2, 1), (165, .if_icmp .ne 16, 3), (168, .aload_n 1, 1)]
set_option maxRecDepth 100000 in
theorem dk14_5 : ∀ e ∈ ck14_5, decode prog_3_method_3_code e.1 = .ok e.2 := by decide +kernel
def ck14_6 : List (Nat × Instr × Nat) := [(169, .aload_n 0, 1), (170, .getfield 11, 3), (173, .iconst 0, 1), (174, .iaload, 1), (175, .invokevirtual 90, 3), (178, .goto 11, 3), (181, .aload_n 1, 1), (182, .aload_n 0, 1), (183, .getfield 11, 3), (186, .invokevirtual 94, 3), (189, .iconst 1, 1), (190, .ireturn, 1)]
set_option maxRecDepth 100000 in
theorem dk14_6 : ∀ e ∈ ck14_6, decode prog_3_method_3_code e.1 = .ok e.2 := by decide +kernel
def ck14 : List (Nat × List (Nat × Instr × Nat)) := [(32, ck14_0), (61, ck14_1), (83, ck14_2), (109, ck14_3), (137, ck14_4), (169, ck14_5), (191, ck14_6)]
theorem dk14 : cOk prog_3_method_3_code ck14 := cOk_c dk14_0 (cOk_c dk14_1 (cOk_c dk14_2 (cOk_c dk14_3 (cOk_c dk14_4 (cOk_c dk14_5 (cOk_c dk14_6 (cOk_n)))))))
def ck15_0 : List (Nat × Instr × Nat) := [(0, .iconst 0, 1), (1, .istore_n 2, 1), (2, .iconst 0, 1), (3, .istore_n 3, 1), (4, .iload_n 3, 1), (5, .sipush 240, 3), (8, .if_icmp .gt 106, 3), (11, .aload_n 0, 1), (12, .aload_n 0, 1), (13, .getfield 20, 3), (16, .aload_n 0, 1), (17, .getfield 45, 3), (20, .invokevirtual 62, 3), (23, .putfield 45, 3), (26, .aload_n 0, 1), (27, .getfield 20, 3)]
set_option maxRecDepth 100000 in
theorem dk15_0 : ∀ e ∈ ck15_0, decode prog_3_method_4_code e.1 = .ok e.2 := by decide +kernel
def ck15_1 : List (Nat × Instr × Nat) := [(30, .aload_n 0, 1), (31, .getfield 45, 3), (34, .invokevirtual 66, 3), (37, .istore 4, 2), (39, .iload 4, 2), (41, .ifCond .eq 10, 3), (44, .iload 4, 2), (46, .bipush 59, 2), (48, .if_icmp .ne 5, 3), (51, .iconst 1, 1), (52, .ireturn, 1), (53, .iload_n 1, 1), (54, .iload 4, 2), (56, .invokestatic 97, 3), (59, .istore 5, 2), (61, .iload 5, 2)]
set_option maxRecDepth 100000 in
theorem dk15_1 : ∀ e ∈ ck15_1, decode prog_3_method_4_code e.1 = .ok e.2 := by decide +kernel
def ck15_2 : List (Nat × Instr × Nat) := [(63, .iconst (-1), 1), (64, .if_icmp .eq 13, 3), (67, .iload_n 2, 1), (68, .iload 5, 2), (70, .ishr, 1), (71, .iconst 1, 1), (72, .iand, 1), (73, .iconst 1, 1), (74, .if_icmp .ne 5, 3), (77, .iconst 0, 1), (78, .ireturn, 1), (79, .iload_n 2, 1), (80, .iconst 1, 1), (81, .iload 5, 2), (83, .ishl, 1), (84, .ior, 1)]
set_option maxRecDepth 100000 in
theorem dk15_2 : ∀ e ∈ ck15_2, decode prog_3_method_4_code e.1 = .ok e.2 := by decide +kernel
def ck15_3 : List (Nat × Instr × Nat) := [(85, .istore_n 2, 1), (86, .aload_n 0, 1), (87, .dup, 1), (88, .getfield 45, 3), (91, .iconst 1, 1), (92, .iadd, 1), (93, .putfield 45, 3), (96, .aload_n 0, 1), (97, .iload_n 1, 1), (98, .iload 5, 2), (100, .invokevirtual 101, 3), (103, .ifCond .ne 5, 3), (106, .iconst 0, 1), (107, .ireturn, 1), (108, .iinc 3 1, 3), (111, .goto (-107), 3)]
set_option maxRecDepth 100000 in
theorem dk15_3 : ∀ e ∈ ck15_3, decode prog_3_method_4_code e.1 = .ok e.2 := by decide +kernel
def ck15_4 : List (Nat × Instr × Nat) := [(114, .iconst 0, 1), (115, .ireturn, 1)]
set_option maxRecDepth 100000 in
theorem dk15_4 : ∀ e ∈ ck15_4, decode prog_3_method_4_code e.1 = .ok e.2 := by decide +kernel
def ck15 : List (Nat × List (Nat × Instr × Nat)) := [(30, ck15_0), (63, ck15_1), (85, ck15_2), (114, ck15_3), (116, ck15_4)]
theorem dk15 : cOk prog_3_method_4_code ck15 := cOk_c dk15_0 (cOk_c dk15_1 (cOk_c dk15_2 (cOk_c dk15_3 (cOk_c dk15_4 (cOk_n)))))
def ck16_0 : List (Nat × Instr × Nat) := [(0, .getstatic 79, 3), (3, .iload_n 0, 1), (4, .iaload, 1), (5, .istore_n 2, 1), (6, .iload_n 2, 1), (7, .getstatic 79, 3), (10, .iload_n 0, 1), (11, .iconst 1, 1), (12, .iadd, 1), (13, .iaload, 1), (14, .if_icmp .ge 27, 3), (17, .ldc 105, 2), (19, .iload_n 2, 1), (20, .invokevirtual 107, 3), (23, .iload_n 1, 1), (24, .if_icmp .ne 11, 3)]
set_option maxRecDepth 100000 in
theorem dk16_0 : ∀ e ∈ ck16_0, decode prog_3_method_5_code e.1 = .ok e.2 := by decide +kernel
def ck16_1 : List (Nat × Instr × Nat) := [(27, .iload_n 2, 1), (28, .getstatic 79, 3), (31, .iload_n 0, 1), (32, .iaload, 1), (33, .isub, 1), (34, .ireturn, 1), (35, .iinc 2 1, 3), (38, .goto (-32), 3), (41, .iconst (-1), 1), (42, .ireturn, 1)]
set_option maxRecDepth 100000 in
theorem dk16_1 : ∀ e ∈ ck16_1, decode prog_3_method_5_code e.1 = .ok e.2 := by decide +kernel
def ck16 : List (Nat × List (Nat × Instr × Nat)) := [(27, ck16_0), (43, ck16_1)]
theorem dk16 : cOk prog_3_method_5_code ck16 := cOk_c dk16_0 (cOk_c dk16_1 (cOk_n))
def ck17_0 : List (Nat × Instr × Nat) := [(0, .aload_n 0, 1), (1, .aload_n 0, 1), (2, .getfield 20, 3), (5, .aload_n 0, 1), (6, .getfield 45, 3), (9, .invokevirtual 62, 3), (12, .putfield 45, 3), (15, .aload_n 0, 1), (16, .getfield 20, 3), (19, .aload_n 0, 1), (20, .getfield 45, 3), (23, .invokevirtual 111, 3), (26, .ifCond .ne 5, 3), (29, .iconst 0, 1), (30, .ireturn, 1), (31, .aload_n 0, 1)]
set_option maxRecDepth 100000 in
theorem dk17_0 : ∀ e ∈ ck17_0, decode prog_3_method_6_code e.1 = .ok e.2 := by decide +kernel
def ck17_1 : List (Nat × Instr × Nat) := [(32, .getfield 20, 3), (35, .aload_n 0, 1), (36, .getfield 45, 3), (39, .invokevirtual 66, 3), (42, .bipush 48, 2), (44, .isub, 1), (45, .istore_n 3, 1), (46, .aload_n 0, 1), (47, .dup, 1), (48, .getfield 45, 3), (51, .iconst 1, 1), (52, .iadd, 1), (53, .putfield 45, 3), (56, .aload_n 0, 1), (57, .getfield 20, 3), (60, .aload_n 0, 1)]
set_option maxRecDepth 100000 in
theorem dk17_1 : ∀ e ∈ ck17_1, decode prog_3_method_6_code e.1 = .ok e.2 := by decide +kernel
def ck17_2 : List (Nat × Instr × Nat) := [(61, .getfield 45, 3), (64, .invokevirtual 111, 3), (67, .ifCond .eq 33, 3), (70, .iload_n 3, 1), (71, .bipush 10, 2), (73, .imul, 1), (74, .aload_n 0, 1), (75, .getfield 20, 3), (78, .aload_n 0, 1), (79, .getfield 45, 3), (82, .invokevirtual 66, 3), (85, .iadd, 1), (86, .bipush 48, 2), (88, .isub, 1), (89, .istore_n 3, 1), (90, .aload_n 0, 1)]
set_option maxRecDepth 100000 in
theorem dk17_2 : ∀ e ∈ ck17_2, decode prog_3_method_6_code e.1 = .ok e.2 := by decide +kernel
def ck17_3 : List (Nat × Instr × Nat) := [(91, .dup, 1), (92, .getfield 45, 3), (95, .iconst 1, 1), (96, .iadd, 1), (97, .putfield 45, 3), (100, .aload_n 0, 1), (101, .getfield 20, 3), (104, .aload_n 0, 1), (105, .getfield 45, 3), (108, .invokevirtual 111, 3), (111, .ifCond .eq 5, 3), (114, .iconst 0, 1), (115, .ireturn, 1), (116, .getstatic 79, 3), (119, .iload_n 1, 1), (120, .iaload, 1)]
set_option maxRecDepth 100000 in
theorem dk17_3 : ∀ e ∈ ck17_3, decode prog_3_method_6_code e.1 = .ok e.2 := by decide +kernel
def ck17_4 : List (Nat × Instr × Nat) := [(121, .iload_n 2, 1), (122, .iadd, 1), (123, .istore 4, 2), (125, .iload_n 3, 1), (126, .getstatic 114, 3), (129, .iload 4, 2), (131, .iaload, 1), (132, .if_icmp .lt 13, 3), (135, .iload_n 3, 1), (136, .getstatic 117, 3), (139, .iload 4, 2), (141, .iaload, 1), (142, .if_icmp .le 15, 3), (145, .aload_n 0, 1), (146, .dup, 1), (147, .getfield 45, 3)]
set_option maxRecDepth 100000 in
theorem dk17_4 : ∀ e ∈ ck17_4, decode prog_3_method_6_code e.1 = .ok e.2 := by decide +kernel
def ck17_5 : List (Nat × Instr × Nat) := [(150, .iconst 1, 1), (151, .isub, 1), (152, .putfield 45, 3), (155, .iconst 0, 1), (156, .ireturn, 1), (157, .aload_n 0, 1), (158, .getfield 11, 3), (161, .iload_n 2, 1), (162, .iload_n 3, 1), (163, .iastore, 1), (164, .iconst 1, 1), (165, .ireturn, 1)]
set_option maxRecDepth 100000 in
theorem dk17_5 : ∀ e ∈ ck17_5, decode prog_3_method_6_code e.1 = .ok e.2 := by decide +kernel
def ck17 : List (Nat × List (Nat × Instr × Nat)) := [(32, ck17_0), (61, ck17_1), (91, ck17_2), (121, ck17_3), (150, ck17_4), (166, ck17_5)]
theorem dk17 : cOk prog_3_method_6_code ck17 := cOk_c dk17_0 (cOk_c dk17_1 (cOk_c dk17_2 (cOk_c dk17_3 (cOk_c dk17_4 (cOk_c dk17_5 (cOk_n))))))
def ck18_0 : List (Nat × Instr × Nat) := [(0, .aload_n 0, 1), (1, .invokespecial 3, 3), (4, .aload_n 0, 1), (5, .iload_n 1, 1), (6, .newarray .int, 2), (8, .putfield 9, 3), (11, .return_, 1)]
set_option maxRecDepth 100000 in
theorem dk18_0 : ∀ e ∈ ck18_0, decode prog_4_method_1_code e.1 = .ok e.2 := by decide +kernel
def ck18 : List (Nat × List (Nat × Instr × Nat)) := [(12, ck18_0)]
theorem dk18 : cOk prog_4_method_1_code ck18 := cOk_c dk18_0 (cOk_n)
def ck19_0 : List (Nat × Instr × Nat) := [(0, .aload_n 0, 1), (1, .getfield 15, 3), (4, .aload_n 0, 1), (5, .getfield 9, 3), (8, .arraylength, 1), (9, .if_icmp .ge 23, 3), (12, .aload_n 0, 1), (13, .getfield 9, 3), (16, .aload_n 0, 1), (17, .getfield 15, 3), (20, .iload_n 1, 1), (21, .iastore, 1), (22, .aload_n 0, 1), (23, .dup, 1), (24, .getfield 15, 3), (27, .iconst 1, 1)]
set_option maxRecDepth 100000 in
theorem dk19_0 : ∀ e ∈ ck19_0, decode prog_4_method_2_code e.1 = .ok e.2 := by decide +kernel
def ck19_1 : List (Nat × Instr × Nat) := [(28, .iadd, 1), (29, .putfield 15, 3), (32, .return_, 1)]
set_option maxRecDepth 100000 in
theorem dk19_1 : ∀ e ∈ ck19_1, decode prog_4_method_2_code e.1 = .ok e.2 := by decide +kernel
def ck19 : List (Nat × List (Nat × Instr × Nat)) := [(28, ck19_0), (33, ck19_1)]
theorem dk19 : cOk prog_4_method_2_code ck19 := cOk_c dk19_0 (cOk_c dk19_1 (cOk_n))
def ck20_0 : List (Nat × Instr × Nat) := [(0, .iload_n 1, 1), (1, .ifCond .lt 20, 3), (4, .iload_n 1, 1), (5, .aload_n 0, 1), (6, .getfield 15, 3), (9, .if_icmp .ge 12, 3), (12, .aload_n 0, 1), (13, .getfield 9, 3), (16, .iload_n 1, 1), (17, .iaload, 1), (18, .goto 4, 3), (21, .iconst (-1), 1), (22, .ireturn, 1)]
set_option maxRecDepth 100000 in
theorem dk20_0 : ∀ e ∈ ck20_0, decode prog_4_method_3_code e.1 = .ok e.2 := by decide +kernel
def ck20 : List (Nat × List (Nat × Instr × Nat)) := [(23, ck20_0)]
theorem dk20 : cOk prog_4_method_3_code ck20 := cOk_c dk20_0 (cOk_n)
def ck21_0 : List (Nat × Instr × Nat) := [(0, .iload_n 1, 1), (1, .iconst (-1), 1), (2, .if_icmp .ne 10, 3), (5, .aload_n 0, 1), (6, .getfield 15, 3), (9, .goto 8, 3), (12, .aload_n 0, 1), (13, .iload_n 1, 1), (14, .invokevirtual 19, 3), (17, .ireturn, 1)]
set_option maxRecDepth 100000 in
theorem dk21_0 : ∀ e ∈ ck21_0, decode prog_4_method_4_code e.1 = .ok e.2 := by decide +kernel
def ck21 : List (Nat × List (Nat × Instr × Nat)) := [(18, ck21_0)]
theorem dk21 : cOk prog_4_method_4_code ck21 := cOk_c dk21_0 (cOk_n)
def ck22_0 : List (Nat × Instr × Nat) := [(0, .aload_n 0, 1), (1, .invokespecial 1, 3), (4, .aload_n 0, 1), (5, .sipush 1024, 3), (8, .newarray .int, 2), (10, .putfield 9, 3), (13, .aload_n 0, 1), (14, .bipush 40, 2), (16, .anewarray 13, 3), (19, .putfield 15, 3), (22, .aload_n 0, 1), (23, .new 13, 3), (26, .dup, 1), (27, .invokespecial 19, 3), (30, .putfield 20, 3), (33, .aload_n 0, 1)]
set_option maxRecDepth 100000 in
theorem dk22_0 : ∀ e ∈ ck22_0, decode prog_5_method_1_code e.1 = .ok e.2 := by decide +kernel
def ck22_1 : List (Nat × Instr × Nat) := [(34, .bipush 60, 2), (36, .newarray .int, 2), (38, .putfield 24, 3), (41, .iconst 0, 1), (42, .istore_n 1, 1), (43, .iload_n 1, 1), (44, .bipush 40, 2), (46, .if_icmp .ge 22, 3), (49, .aload_n 0, 1), (50, .getfield 15, 3), (53, .iload_n 1, 1), (54, .new 13, 3), (57, .dup, 1), (58, .invokespecial 19, 3), (61, .aastore, 1), (62, .iinc 1 1, 3)]
set_option maxRecDepth 100000 in
theorem dk22_1 : ∀ e ∈ ck22_1, decode prog_5_method_1_code e.1 = .ok e.2 := by decide +kernel
def ck22_2 : List (Nat × Instr × Nat) := [(65, .goto (-22), 3), (68, .return_, 1)]
set_option maxRecDepth 100000 in
theorem dk22_2 : ∀ e ∈ ck22_2, decode prog_5_method_1_code e.1 = .ok e.2 := by decide +kernel
def ck22 : List (Nat × List (Nat × Instr × Nat)) := [(34, ck22_0), (65, ck22_1), (69, ck22_2)]
theorem dk22 : cOk prog_5_method_1_code ck22 := cOk_c dk22_0 (cOk_c dk22_1 (cOk_c dk22_2 (cOk_n)))
def ck23_0 : List (Nat × Instr × Nat) := [(0, .aload_n 0, 1), (1, .iconst 0, 1), (2, .putfield 27, 3), (5, .aload_n 0, 1), (6, .iconst 0, 1), (7, .putfield 31, 3), (10, .return_, 1)]
set_option maxRecDepth 100000 in
theorem dk23_0 : ∀ e ∈ ck23_0, decode prog_5_method_2_code e.1 = .ok e.2 := by decide +kernel
def ck23 : List (Nat × List (Nat × Instr × Nat)) := [(11, ck23_0)]
theorem dk23 : cOk prog_5_method_2_code ck23 := cOk_c dk23_0 (cOk_n)
def ck24_0 : List (Nat × Instr × Nat) := [(0, .aload_n 0, 1), (1, .getfield 9, 3), (4, .aload_n 1, 1), (5, .getfield 35, 3), (8, .sipush 1023, 3), (11, .iand, 1), (12, .iload_n 2, 1), (13, .sipush 2048, 3), (16, .iadd, 1), (17, .bipush 10, 2), (19, .ishl, 1), (20, .iload_n 3, 1), (21, .iconst 4, 1), (22, .ishl, 1), (23, .ior, 1), (24, .aload_n 1, 1)]
set_option maxRecDepth 100000 in
theorem dk24_0 : ∀ e ∈ ck24_0, decode prog_5_method_3_code e.1 = .ok e.2 := by decide +kernel
def ck24_1 : List (Nat × Instr × Nat) := [(25, .getfield 38, 3), (28, .ior, 1), (29, .iastore, 1), (30, .aload_n 1, 1), (31, .dup, 1), (32, .getfield 35, 3), (35, .iconst 1, 1), (36, .iadd, 1), (37, .putfield 35, 3), (40, .return_, 1)]
set_option maxRecDepth 100000 in
theorem dk24_1 : ∀ e ∈ ck24_1, decode prog_5_method_3_code e.1 = .ok e.2 := by decide +kernel
def ck24 : List (Nat × List (Nat × Instr × Nat)) := [(25, ck24_0), (41, ck24_1)]
theorem dk24 : cOk prog_5_method_3_code ck24 := cOk_c dk24_0 (cOk_c dk24_1 (cOk_n))
def ck25_0 : List (Nat × Instr × Nat) := [(0, .aload_n 1, 1), (1, .getfield 35, 3), (4, .bipush 60, 2), (6, .invokestatic 41, 3), (9, .ireturn, 1)]
set_option maxRecDepth 100000 in
theorem dk25_0 : ∀ e ∈ ck25_0, decode prog_5_method_4_code e.1 = .ok e.2 := by decide +kernel
def ck25 : List (Nat × List (Nat × Instr × Nat)) := [(10, ck25_0)]
theorem dk25 : cOk prog_5_method_4_code ck25 := cOk_c dk25_0 (cOk_n)
def ck26_0 : List (Nat × Instr × Nat) := [(0, .aload_n 0, 1), (1, .getfield 9, 3), (4, .aload_n 1, 1), (5, .getfield 35, 3), (8, .iconst 1, 1), (9, .isub, 1), (10, .iload_n 2, 1), (11, .isub, 1), (12, .sipush 1023, 3), (15, .iand, 1), (16, .iaload, 1), (17, .ireturn, 1)]
set_option maxRecDepth 100000 in
theorem dk26_0 : ∀ e ∈ ck26_0, decode prog_5_method_5_code e.1 = .ok e.2 := by decide +kernel
def ck26 : List (Nat × List (Nat × Instr × Nat)) := [(18, ck26_0)]
theorem dk26 : cOk prog_5_method_5_code ck26 := cOk_c dk26_0 (cOk_n)
def ck27_0 : List (Nat × Instr × Nat) := [(0, .iload_n 0, 1), (1, .bipush 15, 2), (3, .iand, 1), (4, .ireturn, 1)]
set_option maxRecDepth 100000 in
theorem dk27_0 : ∀ e ∈ ck27_0, decode prog_5_method_6_code e.1 = .ok e.2 := by decide +kernel
def ck27 : List (Nat × List (Nat × Instr × Nat)) := [(5, ck27_0)]
theorem dk27 : cOk prog_5_method_6_code ck27 := cOk_c dk27_0 (cOk_n)
def ck28_0 : List (Nat × Instr × Nat) := [(0, .iload_n 0, 1), (1, .bipush 10, 2), (3, .ishr, 1), (4, .sipush 2048, 3), (7, .isub, 1), (8, .ireturn, 1)]
set_option maxRecDepth 100000 in
theorem dk28_0 : ∀ e ∈ ck28_0, decode prog_5_method_7_code e.1 = .ok e.2 := by decide +kernel
def ck28 : List (Nat × List (Nat × Instr × Nat)) := [(9, ck28_0)]
theorem dk28 : cOk prog_5_method_7_code ck28 := cOk_c dk28_0 (cOk_n)
def ck29_0 : List (Nat × Instr × Nat) := [(0, .iload_n 0, 1), (1, .iconst 4, 1), (2, .ishr, 1), (3, .bipush 63, 2), (5, .iand, 1), (6, .ireturn, 1)]
set_option maxRecDepth 100000 in
theorem dk29_0 : ∀ e ∈ ck29_0, decode prog_5_method_8_code e.1 = .ok e.2 := by decide +kernel
def ck29 : List (Nat × List (Nat × Instr × Nat)) := [(7, ck29_0)]
theorem dk29 : cOk prog_5_method_8_code ck29 := cOk_c dk29_0 (cOk_n)
def ck30_0 : List (Nat × Instr × Nat) := [(0, .aload_n 0, 1), (1, .getfield 15, 3), (4, .aload_n 0, 1), (5, .getfield 47, 3), (8, .aaload, 1), (9, .aload_n 1, 1), (10, .invokevirtual 50, 3), (13, .aload_n 0, 1), (14, .aload_n 0, 1), (15, .getfield 47, 3), (18, .iconst 1, 1), (19, .iadd, 1), (20, .bipush 40, 2), (22, .irem, 1), (23, .putfield 47, 3), (26, .aload_n 0, 1)]
set_option maxRecDepth 100000 in
theorem dk30_0 : ∀ e ∈ ck30_0, decode prog_5_method_9_code e.1 = .ok e.2 := by decide +kernel
def ck30_1 : List (Nat × Instr × Nat) := [(27, .aload_n 0, 1), (28, .getfield 27, 3), (31, .iconst 1, 1), (32, .iadd, 1), (33, .bipush 40, 2), (35, .invokestatic 41, 3), (38, .putfield 27, 3), (41, .return_, 1)]
set_option maxRecDepth 100000 in
theorem dk30_1 : ∀ e ∈ ck30_1, decode prog_5_method_9_code e.1 = .ok e.2 := by decide +kernel
def ck30 : List (Nat × List (Nat × Instr × Nat)) := [(27, ck30_0), (42, ck30_1)]
theorem dk30 : cOk prog_5_method_9_code ck30 := cOk_c dk30_0 (cOk_c dk30_1 (cOk_n))
def ck31_0 : List (Nat × Instr × Nat) := [(0, .aload_n 0, 1), (1, .getfield 27, 3), (4, .ifCond .le 42, 3), (7, .aload_n 0, 1), (8, .aload_n 0, 1), (9, .getfield 47, 3), (12, .bipush 40, 2), (14, .iadd, 1), (15, .iconst 1, 1), (16, .isub, 1), (17, .bipush 40, 2), (19, .irem, 1), (20, .putfield 47, 3), (23, .aload_n 1, 1), (24, .aload_n 0, 1), (25, .getfield 15, 3)]
set_option maxRecDepth 100000 in
theorem dk31_0 : ∀ e ∈ ck31_0, decode prog_5_method_10_code e.1 = .ok e.2 := by decide +kernel
def ck31_1 : List (Nat × Instr × Nat) := [(28, .aload_n 0, 1), (29, .getfield 47, 3), (32, .aaload, 1), (33, .invokevirtual 50, 3), (36, .aload_n 0, 1), (37, .dup, 1), (38, .getfield 27, 3), (41, .iconst 1, 1), (42, .isub, 1), (43, .putfield 27, 3), (46, .return_, 1)]
set_option maxRecDepth 100000 in
theorem dk31_1 : ∀ e ∈ ck31_1, decode prog_5_method_10_code e.1 = .ok e.2 := by decide +kernel
def ck31 : List (Nat × List (Nat × Instr × Nat)) := [(28, ck31_0), (47, ck31_1)]
theorem dk31 : cOk prog_5_method_10_code ck31 := cOk_c dk31_0 (cOk_c dk31_1 (cOk_n))
def ck32_0 : List (Nat × Instr × Nat) := [(0, .aload_n 0, 1), (1, .getfield 20, 3), (4, .aload_n 1, 1), (5, .invokevirtual 50, 3), (8, .aload_n 0, 1), (9, .getfield 20, 3), (12, .aload_n 0, 1), (13, .aload_n 1, 1), (14, .invokevirtual 54, 3), (17, .putfield 35, 3), (20, .iconst 0, 1), (21, .istore_n 2, 1), (22, .iload_n 2, 1), (23, .aload_n 0, 1), (24, .getfield 20, 3), (27, .getfield 35, 3)]
set_option maxRecDepth 100000 in
theorem dk32_0 : ∀ e ∈ ck32_0, decode prog_5_method_11_code e.1 = .ok e.2 := by decide +kernel
def ck32_1 : List (Nat × Instr × Nat) := [(30, .if_icmp .ge 21, 3), (33, .aload_n 0, 1), (34, .getfield 24, 3), (37, .iload_n 2, 1), (38, .aload_n 0, 1), (39, .aload_n 1, 1), (40, .iload_n 2, 1), (41, .invokevirtual 58, 3), (44, .iastore, 1), (45, .iinc 2 1, 3), (48, .goto (-26), 3), (51, .aload_n 0, 1), (52, .iconst 1, 1), (53, .putfield 31, 3), (56, .return_, 1)]
set_option maxRecDepth 100000 in
theorem dk32_1 : ∀ e ∈ ck32_1, decode prog_5_method_11_code e.1 = .ok e.2 := by decide +kernel
def ck32 : List (Nat × List (Nat × Instr × Nat)) := [(30, ck32_0), (57, ck32_1)]
theorem dk32 : cOk prog_5_method_11_code ck32 := cOk_c dk32_0 (cOk_c dk32_1 (cOk_n))
