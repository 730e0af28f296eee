/-! ===== the code of the methods, instruction by instruction (printed by program) ===== -/
def ck0_24 : List (Nat × Instr × Nat) := [(734, .iadd, 1), (735, .iaload, 1), (736, .i2l, 1), (737, .bipush 32, 2), (739, .lshl, 1), (740, .aload_n 0, 1), (741, .iload 4, 2), (743, .iconst 3, 1), (744, .iadd, 1), (745, .iaload, 1), (746, .i2l, 1), (747, .ldc2_w 92, 3), (750, .land, 1), (751, .lor, 1), (752, .invokevirtual 94, 3), (755, .aload_n 2, 1)]
set_option maxRecDepth 100000 in
theorem dk0_24 : ∀ e ∈ ck0_24, decode code e.1 = .ok e.2 := by decide +kernel
def ck0_25 : List (Nat × Instr × Nat) := [(756, .aload_n 0, 1), (757, .iload 4, 2), (759, .iconst 1, 1), (760, .iadd, 1), (761, .iaload, 1), (762, .aload_n 0, 1), (763, .iload 4, 2), (765, .iconst 2, 1), (766, .iadd, 1), (767, .iaload, 1), (768, .i2l, 1), (769, .bipush 32, 2), (771, .lshl, 1), (772, .aload_n 0, 1), (773, .iload 4, 2), (775, .iconst 3, 1)]
set_option maxRecDepth 100000 in
theorem dk0_25 : ∀ e ∈ ck0_25, decode code e.1 = .ok e.2 := by decide +kernel
def ck0_26 : List (Nat × Instr × Nat) := [(776, .iadd, 1), (777, .iaload, 1), (778, .i2l, 1), (779, .ldc2_w 92, 3), (782, .land, 1), (783, .lor, 1), (784, .invokevirtual 98, 3), (787, .if_icmp .eq 753, 3), (790, .iconst 0, 1), (791, .ireturn, 1), (792, .aload_n 1, 1), (793, .aload_n 0, 1), (794, .iload 4, 2), (796, .iconst 1, 1), (797, .iadd, 1), (798, .iaload, 1)]
set_option maxRecDepth 100000 in
theorem dk0_26 : ∀ e ∈ ck0_26, decode code e.1 = .ok e.2 := by decide +kernel
def ck0_27 : List (Nat × Instr × Nat) := [(799, .invokevirtual 99, 3), (802, .aload_n 2, 1), (803, .aload_n 0, 1), (804, .iload 4, 2), (806, .iconst 1, 1), (807, .iadd, 1), (808, .iaload, 1), (809, .invokevirtual 102, 3), (812, .if_icmp .eq 728, 3), (815, .iconst 0, 1), (816, .ireturn, 1), (817, .aload_n 1, 1), (818, .invokevirtual 103, 3), (821, .aload_n 2, 1), (822, .invokevirtual 106, 3), (825, .if_icmp .eq 715, 3)]
set_option maxRecDepth 100000 in
theorem dk0_27 : ∀ e ∈ ck0_27, decode code e.1 = .ok e.2 := by decide +kernel
def ck0_28 : List (Nat × Instr × Nat) := [(828, .iconst 0, 1), (829, .ireturn, 1), (830, .aload_n 1, 1), (831, .aload_n 0, 1), (832, .iload 4, 2), (834, .iconst 1, 1), (835, .iadd, 1), (836, .iaload, 1), (837, .aload_n 0, 1), (838, .iload 4, 2), (840, .iconst 2, 1), (841, .iadd, 1), (842, .iaload, 1), (843, .invokevirtual 107, 3), (846, .aload_n 2, 1), (847, .aload_n 0, 1)]
set_option maxRecDepth 100000 in
theorem dk0_28 : ∀ e ∈ ck0_28, decode code e.1 = .ok e.2 := by decide +kernel
def ck0_29 : List (Nat × Instr × Nat) := [(848, .iload 4, 2), (850, .iconst 1, 1), (851, .iadd, 1), (852, .iaload, 1), (853, .aload_n 0, 1), (854, .iload 4, 2), (856, .iconst 2, 1), (857, .iadd, 1), (858, .iaload, 1), (859, .invokevirtual 110, 3), (862, .if_icmp .eq 678, 3), (865, .iconst 0, 1), (866, .ireturn, 1), (867, .aload_n 1, 1), (868, .aload_n 0, 1), (869, .iload 4, 2)]
set_option maxRecDepth 100000 in
theorem dk0_29 : ∀ e ∈ ck0_29, decode code e.1 = .ok e.2 := by decide +kernel
def ck0_30 : List (Nat × Instr × Nat) := [(871, .iconst 1, 1), (872, .iadd, 1), (873, .iaload, 1), (874, .invokevirtual 111, 3), (877, .aload_n 2, 1), (878, .aload_n 0, 1), (879, .iload 4, 2), (881, .iconst 1, 1), (882, .iadd, 1), (883, .iaload, 1), (884, .invokevirtual 114, 3), (887, .if_icmp .eq 653, 3), (890, .iconst 0, 1), (891, .ireturn, 1), (892, .aload_n 1, 1), (893, .aload_n 0, 1)]
set_option maxRecDepth 100000 in
theorem dk0_30 : ∀ e ∈ ck0_30, decode code e.1 = .ok e.2 := by decide +kernel
def ck0_31 : List (Nat × Instr × Nat) := [(894, .iload 4, 2), (896, .iconst 1, 1), (897, .iadd, 1), (898, .iaload, 1), (899, .invokevirtual 115, 3), (902, .aload_n 2, 1), (903, .aload_n 0, 1), (904, .iload 4, 2), (906, .iconst 1, 1), (907, .iadd, 1), (908, .iaload, 1), (909, .invokevirtual 118, 3), (912, .if_icmp .eq 628, 3), (915, .iconst 0, 1), (916, .ireturn, 1), (917, .aload_n 1, 1)]
set_option maxRecDepth 100000 in
theorem dk0_31 : ∀ e ∈ ck0_31, decode code e.1 = .ok e.2 := by decide +kernel
def ck0_32 : List (Nat × Instr × Nat) := [(918, .aload_n 0, 1), (919, .iload 4, 2), (921, .iconst 1, 1), (922, .iadd, 1), (923, .iaload, 1), (924, .aload_n 0, 1), (925, .iload 4, 2), (927, .iconst 2, 1), (928, .iadd, 1), (929, .iaload, 1), (930, .invokevirtual 119, 3), (933, .aload_n 2, 1), (934, .aload_n 0, 1), (935, .iload 4, 2), (937, .iconst 1, 1), (938, .iadd, 1)]
set_option maxRecDepth 100000 in
theorem dk0_32 : ∀ e ∈ ck0_32, decode code e.1 = .ok e.2 := by decide +kernel
def ck0_33 : List (Nat × Instr × Nat) := [(939, .iaload, 1), (940, .aload_n 0, 1), (941, .iload 4, 2), (943, .iconst 2, 1), (944, .iadd, 1), (945, .iaload, 1), (946, .invokevirtual 122, 3), (949, .if_icmp .eq 591, 3), (952, .iconst 0, 1), (953, .ireturn, 1), (954, .aload_n 1, 1), (955, .aload_n 0, 1), (956, .iload 4, 2), (958, .iconst 1, 1), (959, .iadd, 1), (960, .iaload, 1)]
set_option maxRecDepth 100000 in
theorem dk0_33 : ∀ e ∈ ck0_33, decode code e.1 = .ok e.2 := by decide +kernel
def ck0_34 : List (Nat × Instr × Nat) := [(961, .aload_n 0, 1), (962, .iload 4, 2), (964, .iconst 2, 1), (965, .iadd, 1), (966, .iaload, 1), (967, .invokevirtual 123, 3), (970, .aload_n 2, 1), (971, .aload_n 0, 1), (972, .iload 4, 2), (974, .iconst 1, 1), (975, .iadd, 1), (976, .iaload, 1), (977, .aload_n 0, 1), (978, .iload 4, 2), (980, .iconst 2, 1), (981, .iadd, 1)]
set_option maxRecDepth 100000 in
theorem dk0_34 : ∀ e ∈ ck0_34, decode code e.1 = .ok e.2 := by decide +kernel
def ck0_35 : List (Nat × Instr × Nat) := [(982, .iaload, 1), (983, .invokevirtual 126, 3), (986, .if_icmp .eq 554, 3), (989, .iconst 0, 1), (990, .ireturn, 1), (991, .aload_n 1, 1), (992, .aload_n 0, 1), (993, .iload 4, 2), (995, .iconst 1, 1), (996, .iadd, 1), (997, .iaload, 1), (998, .invokevirtual 127, 3), (1001, .aload_n 2, 1), (1002, .aload_n 0, 1), (1003, .iload 4, 2), (1005, .iconst 1, 1)]
set_option maxRecDepth 100000 in
theorem dk0_35 : ∀ e ∈ ck0_35, decode code e.1 = .ok e.2 := by decide +kernel
