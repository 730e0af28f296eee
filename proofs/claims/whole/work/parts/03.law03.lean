/-! ===== the code of the methods, instruction by instruction (printed by program) ===== -/
def ck0_36 : List (Nat × Instr × Nat) := [(1006, .iadd, 1), (1007, .iaload, 1), (1008, .invokevirtual 130, 3), (1011, .if_icmp .eq 529, 3), (1014, .iconst 0, 1), (1015, .ireturn, 1), (1016, .aload_n 1, 1), (1017, .aload_n 0, 1), (1018, .iload 4, 2), (1020, .iconst 1, 1), (1021, .iadd, 1), (1022, .iaload, 1), (1023, .aload_n 0, 1), (1024, .iload 4, 2), (1026, .iconst 2, 1), (1027, .iadd, 1)]
set_option maxRecDepth 100000 in
theorem dk0_36 : ∀ e ∈ ck0_36, decode code e.1 = .ok e.2 := by decide +kernel
def ck0_37 : List (Nat × Instr × Nat) := [(1028, .iaload, 1), (1029, .aload_n 0, 1), (1030, .iload 4, 2), (1032, .iconst 3, 1), (1033, .iadd, 1), (1034, .iaload, 1), (1035, .aload_n 0, 1), (1036, .iload 4, 2), (1038, .iconst 4, 1), (1039, .iadd, 1), (1040, .iaload, 1), (1041, .aload_n 0, 1), (1042, .iload 4, 2), (1044, .iconst 5, 1), (1045, .iadd, 1), (1046, .iaload, 1)]
set_option maxRecDepth 100000 in
theorem dk0_37 : ∀ e ∈ ck0_37, decode code e.1 = .ok e.2 := by decide +kernel
def ck0_38 : List (Nat × Instr × Nat) := [(1047, .invokevirtual 131, 3), (1050, .aload_n 2, 1), (1051, .aload_n 0, 1), (1052, .iload 4, 2), (1054, .iconst 1, 1), (1055, .iadd, 1), (1056, .iaload, 1), (1057, .aload_n 0, 1), (1058, .iload 4, 2), (1060, .iconst 2, 1), (1061, .iadd, 1), (1062, .iaload, 1), (1063, .aload_n 0, 1), (1064, .iload 4, 2), (1066, .iconst 3, 1), (1067, .iadd, 1)]
set_option maxRecDepth 100000 in
theorem dk0_38 : ∀ e ∈ ck0_38, decode code e.1 = .ok e.2 := by decide +kernel
def ck0_39 : List (Nat × Instr × Nat) := [(1068, .iaload, 1), (1069, .aload_n 0, 1), (1070, .iload 4, 2), (1072, .iconst 4, 1), (1073, .iadd, 1), (1074, .iaload, 1), (1075, .aload_n 0, 1), (1076, .iload 4, 2), (1078, .iconst 5, 1), (1079, .iadd, 1), (1080, .iaload, 1), (1081, .invokevirtual 134, 3), (1084, .if_icmp .eq 456, 3), (1087, .iconst 0, 1), (1088, .ireturn, 1), (1089, .aload_n 1, 1)]
set_option maxRecDepth 100000 in
theorem dk0_39 : ∀ e ∈ ck0_39, decode code e.1 = .ok e.2 := by decide +kernel
def ck0_40 : List (Nat × Instr × Nat) := [(1090, .aload_n 0, 1), (1091, .iload 4, 2), (1093, .iconst 1, 1), (1094, .iadd, 1), (1095, .iaload, 1), (1096, .aload_n 0, 1), (1097, .iload 4, 2), (1099, .iconst 2, 1), (1100, .iadd, 1), (1101, .iaload, 1), (1102, .aload_n 0, 1), (1103, .iload 4, 2), (1105, .iconst 3, 1), (1106, .iadd, 1), (1107, .iaload, 1), (1108, .invokevirtual 135, 3)]
set_option maxRecDepth 100000 in
theorem dk0_40 : ∀ e ∈ ck0_40, decode code e.1 = .ok e.2 := by decide +kernel
def ck0_41 : List (Nat × Instr × Nat) := [(1111, .aload_n 2, 1), (1112, .aload_n 0, 1), (1113, .iload 4, 2), (1115, .iconst 1, 1), (1116, .iadd, 1), (1117, .iaload, 1), (1118, .aload_n 0, 1), (1119, .iload 4, 2), (1121, .iconst 2, 1), (1122, .iadd, 1), (1123, .iaload, 1), (1124, .aload_n 0, 1), (1125, .iload 4, 2), (1127, .iconst 3, 1), (1128, .iadd, 1), (1129, .iaload, 1)]
set_option maxRecDepth 100000 in
theorem dk0_41 : ∀ e ∈ ck0_41, decode code e.1 = .ok e.2 := by decide +kernel
def ck0_42 : List (Nat × Instr × Nat) := [(1130, .invokevirtual 139, 3), (1133, .if_icmp .eq 407, 3), (1136, .iconst 0, 1), (1137, .ireturn, 1), (1138, .aload_n 1, 1), (1139, .aload_n 0, 1), (1140, .iload 4, 2), (1142, .iconst 1, 1), (1143, .iadd, 1), (1144, .iaload, 1), (1145, .aload_n 0, 1), (1146, .iload 4, 2), (1148, .iconst 2, 1), (1149, .iadd, 1), (1150, .iaload, 1), (1151, .invokevirtual 140, 3)]
set_option maxRecDepth 100000 in
theorem dk0_42 : ∀ e ∈ ck0_42, decode code e.1 = .ok e.2 := by decide +kernel
def ck0_43 : List (Nat × Instr × Nat) := [(1154, .aload_n 2, 1), (1155, .aload_n 0, 1), (1156, .iload 4, 2), (1158, .iconst 1, 1), (1159, .iadd, 1), (1160, .iaload, 1), (1161, .aload_n 0, 1), (1162, .iload 4, 2), (1164, .iconst 2, 1), (1165, .iadd, 1), (1166, .iaload, 1), (1167, .invokevirtual 143, 3), (1170, .if_icmp .eq 370, 3), (1173, .iconst 0, 1), (1174, .ireturn, 1), (1175, .aload_n 1, 1)]
set_option maxRecDepth 100000 in
theorem dk0_43 : ∀ e ∈ ck0_43, decode code e.1 = .ok e.2 := by decide +kernel
def ck0_44 : List (Nat × Instr × Nat) := [(1176, .aload_n 0, 1), (1177, .iload 4, 2), (1179, .iconst 1, 1), (1180, .iadd, 1), (1181, .iaload, 1), (1182, .aload_n 0, 1), (1183, .iload 4, 2), (1185, .iconst 2, 1), (1186, .iadd, 1), (1187, .iaload, 1), (1188, .invokevirtual 144, 3), (1191, .aload_n 2, 1), (1192, .aload_n 0, 1), (1193, .iload 4, 2), (1195, .iconst 1, 1), (1196, .iadd, 1)]
set_option maxRecDepth 100000 in
theorem dk0_44 : ∀ e ∈ ck0_44, decode code e.1 = .ok e.2 := by decide +kernel
def ck0_45 : List (Nat × Instr × Nat) := [(1197, .iaload, 1), (1198, .aload_n 0, 1), (1199, .iload 4, 2), (1201, .iconst 2, 1), (1202, .iadd, 1), (1203, .iaload, 1), (1204, .invokevirtual 147, 3), (1207, .if_icmp .eq 333, 3), (1210, .iconst 0, 1), (1211, .ireturn, 1), (1212, .aload_n 1, 1), (1213, .invokevirtual 148, 3), (1216, .aload_n 2, 1), (1217, .invokevirtual 151, 3), (1220, .if_icmp .eq 320, 3), (1223, .iconst 0, 1)]
set_option maxRecDepth 100000 in
theorem dk0_45 : ∀ e ∈ ck0_45, decode code e.1 = .ok e.2 := by decide +kernel
def ck0_46 : List (Nat × Instr × Nat) := [(1224, .ireturn, 1), (1225, .aload_n 1, 1), (1226, .aload_n 0, 1), (1227, .iload 4, 2), (1229, .iconst 1, 1), (1230, .iadd, 1), (1231, .iaload, 1), (1232, .aload_n 0, 1), (1233, .iload 4, 2), (1235, .iconst 2, 1), (1236, .iadd, 1), (1237, .iaload, 1), (1238, .aload_n 0, 1), (1239, .iload 4, 2), (1241, .iconst 3, 1), (1242, .iadd, 1)]
set_option maxRecDepth 100000 in
theorem dk0_46 : ∀ e ∈ ck0_46, decode code e.1 = .ok e.2 := by decide +kernel
def ck0_47 : List (Nat × Instr × Nat) := [(1243, .iaload, 1), (1244, .ifCond .eq 7, 3), (1247, .iconst 1, 1), (1248, .goto 4, 3), (1251, .iconst 0, 1), (1252, .invokevirtual 152, 3), (1255, .aload_n 2, 1), (1256, .aload_n 0, 1), (1257, .iload 4, 2), (1259, .iconst 1, 1), (1260, .iadd, 1), (1261, .iaload, 1), (1262, .aload_n 0, 1), (1263, .iload 4, 2), (1265, .iconst 2, 1), (1266, .iadd, 1)]
set_option maxRecDepth 100000 in
theorem dk0_47 : ∀ e ∈ ck0_47, decode code e.1 = .ok e.2 := by decide +kernel
