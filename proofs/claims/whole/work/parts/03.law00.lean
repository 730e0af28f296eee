/-! ===== the code of the methods, instruction by instruction (printed by program) ===== -/
def ck0_0 : List (Nat × Instr × Nat) := [(0, .new 8, 3), (3, .dup, 1), (4, .invokespecial 15, 3), (7, .astore_n 1, 1), (8, .new 16, 3), (11, .dup, 1), (12, .invokespecial 18, 3), (15, .astore_n 2, 1), (16, .iconst 1, 1), (17, .newarray .long, 2), (19, .astore_n 3, 1), (20, .iconst 0, 1), (21, .istore 4, 2), (23, .iload 4, 2), (25, .aload_n 0, 1), (26, .arraylength, 1)]
set_option maxRecDepth 100000 in
theorem dk0_0 : ∀ e ∈ ck0_0, decode code e.1 = .ok e.2 := by decide +kernel
def ck0_1 : List (Nat × Instr × Nat) := [(27, .bipush 6, 2), (29, .isub, 1), (30, .if_icmp .gt 1516, 3), (33, .aload_n 0, 1), (34, .iload 4, 2), (36, .iaload, 1), (37, .bipush 63, 2), (39, .iand, 1), (40, .tableswitch 1500 0 40 #[180, 253, 278, 303, 328, 353, 390, 458, 483, 496, 533, 570, 595, 620, 645, 658, 683, 752, 777, 790, 827, 852, 877, 914, 951, 976, 1049, 1098, 1135, 1172, 1185, 1250, 1287, 1312, 1349, 1386, 1411, 1436, 1449, 1462, 1475], 180), (220, .aload_n 1, 1), (221, .aload_n 0, 1), (222, .iload 4, 2), (224, .iconst 1, 1), (225, .iadd, 1), (226, .iaload, 1), (227, .aload_n 0, 1)]
set_option maxRecDepth 100000 in
theorem dk0_1 : ∀ e ∈ ck0_1, decode code e.1 = .ok e.2 := by decide +kernel
def ck0_2 : List (Nat × Instr × Nat) := [(228, .iload 4, 2), (230, .iconst 2, 1), (231, .iadd, 1), (232, .iaload, 1), (233, .aload_n 0, 1), (234, .iload 4, 2), (236, .iconst 3, 1), (237, .iadd, 1), (238, .iaload, 1), (239, .aload_n 0, 1), (240, .iload 4, 2), (242, .iconst 4, 1), (243, .iadd, 1), (244, .iaload, 1), (245, .aload_n 0, 1), (246, .iload 4, 2)]
set_option maxRecDepth 100000 in
theorem dk0_2 : ∀ e ∈ ck0_2, decode code e.1 = .ok e.2 := by decide +kernel
def ck0_3 : List (Nat × Instr × Nat) := [(248, .iconst 5, 1), (249, .iadd, 1), (250, .iaload, 1), (251, .invokevirtual 19, 3), (254, .aload_n 2, 1), (255, .aload_n 0, 1), (256, .iload 4, 2), (258, .iconst 1, 1), (259, .iadd, 1), (260, .iaload, 1), (261, .aload_n 0, 1), (262, .iload 4, 2), (264, .iconst 2, 1), (265, .iadd, 1), (266, .iaload, 1), (267, .aload_n 0, 1)]
set_option maxRecDepth 100000 in
theorem dk0_3 : ∀ e ∈ ck0_3, decode code e.1 = .ok e.2 := by decide +kernel
def ck0_4 : List (Nat × Instr × Nat) := [(268, .iload 4, 2), (270, .iconst 3, 1), (271, .iadd, 1), (272, .iaload, 1), (273, .aload_n 0, 1), (274, .iload 4, 2), (276, .iconst 4, 1), (277, .iadd, 1), (278, .iaload, 1), (279, .aload_n 0, 1), (280, .iload 4, 2), (282, .iconst 5, 1), (283, .iadd, 1), (284, .iaload, 1), (285, .invokevirtual 23, 3), (288, .if_icmp .eq 1252, 3)]
set_option maxRecDepth 100000 in
theorem dk0_4 : ∀ e ∈ ck0_4, decode code e.1 = .ok e.2 := by decide +kernel
def ck0_5 : List (Nat × Instr × Nat) := [(291, .iconst 0, 1), (292, .ireturn, 1), (293, .aload_n 1, 1), (294, .aload_n 0, 1), (295, .iload 4, 2), (297, .iconst 1, 1), (298, .iadd, 1), (299, .iaload, 1), (300, .invokevirtual 24, 3), (303, .aload_n 2, 1), (304, .aload_n 0, 1), (305, .iload 4, 2), (307, .iconst 1, 1), (308, .iadd, 1), (309, .iaload, 1), (310, .invokevirtual 28, 3)]
set_option maxRecDepth 100000 in
theorem dk0_5 : ∀ e ∈ ck0_5, decode code e.1 = .ok e.2 := by decide +kernel
def ck0_6 : List (Nat × Instr × Nat) := [(313, .if_icmp .eq 1227, 3), (316, .iconst 0, 1), (317, .ireturn, 1), (318, .aload_n 1, 1), (319, .aload_n 0, 1), (320, .iload 4, 2), (322, .iconst 1, 1), (323, .iadd, 1), (324, .iaload, 1), (325, .invokevirtual 29, 3), (328, .aload_n 2, 1), (329, .aload_n 0, 1), (330, .iload 4, 2), (332, .iconst 1, 1), (333, .iadd, 1), (334, .iaload, 1)]
set_option maxRecDepth 100000 in
theorem dk0_6 : ∀ e ∈ ck0_6, decode code e.1 = .ok e.2 := by decide +kernel
def ck0_7 : List (Nat × Instr × Nat) := [(335, .invokevirtual 33, 3), (338, .if_icmp .eq 1202, 3), (341, .iconst 0, 1), (342, .ireturn, 1), (343, .aload_n 1, 1), (344, .aload_n 0, 1), (345, .iload 4, 2), (347, .iconst 1, 1), (348, .iadd, 1), (349, .iaload, 1), (350, .invokevirtual 34, 3), (353, .aload_n 2, 1), (354, .aload_n 0, 1), (355, .iload 4, 2), (357, .iconst 1, 1), (358, .iadd, 1)]
set_option maxRecDepth 100000 in
theorem dk0_7 : ∀ e ∈ ck0_7, decode code e.1 = .ok e.2 := by decide +kernel
def ck0_8 : List (Nat × Instr × Nat) := [(359, .iaload, 1), (360, .invokevirtual 37, 3), (363, .if_icmp .eq 1177, 3), (366, .iconst 0, 1), (367, .ireturn, 1), (368, .aload_n 1, 1), (369, .aload_n 0, 1), (370, .iload 4, 2), (372, .iconst 1, 1), (373, .iadd, 1), (374, .iaload, 1), (375, .invokevirtual 38, 3), (378, .aload_n 2, 1), (379, .aload_n 0, 1), (380, .iload 4, 2), (382, .iconst 1, 1)]
set_option maxRecDepth 100000 in
theorem dk0_8 : ∀ e ∈ ck0_8, decode code e.1 = .ok e.2 := by decide +kernel
def ck0_9 : List (Nat × Instr × Nat) := [(383, .iadd, 1), (384, .iaload, 1), (385, .invokevirtual 41, 3), (388, .if_icmp .eq 1152, 3), (391, .iconst 0, 1), (392, .ireturn, 1), (393, .aload_n 1, 1), (394, .aload_n 0, 1), (395, .iload 4, 2), (397, .iconst 1, 1), (398, .iadd, 1), (399, .iaload, 1), (400, .aload_n 0, 1), (401, .iload 4, 2), (403, .iconst 2, 1), (404, .iadd, 1)]
set_option maxRecDepth 100000 in
theorem dk0_9 : ∀ e ∈ ck0_9, decode code e.1 = .ok e.2 := by decide +kernel
def ck0_10 : List (Nat × Instr × Nat) := [(405, .iaload, 1), (406, .invokevirtual 42, 3), (409, .aload_n 2, 1), (410, .aload_n 0, 1), (411, .iload 4, 2), (413, .iconst 1, 1), (414, .iadd, 1), (415, .iaload, 1), (416, .aload_n 0, 1), (417, .iload 4, 2), (419, .iconst 2, 1), (420, .iadd, 1), (421, .iaload, 1), (422, .invokevirtual 45, 3), (425, .if_icmp .eq 1115, 3), (428, .iconst 0, 1)]
set_option maxRecDepth 100000 in
theorem dk0_10 : ∀ e ∈ ck0_10, decode code e.1 = .ok e.2 := by decide +kernel
def ck0_11 : List (Nat × Instr × Nat) := [(429, .ireturn, 1), (430, .aload_n 1, 1), (431, .aload_n 0, 1), (432, .iload 4, 2), (434, .iconst 1, 1), (435, .iadd, 1), (436, .iaload, 1), (437, .aload_n 0, 1), (438, .iload 4, 2), (440, .iconst 2, 1), (441, .iadd, 1), (442, .iaload, 1), (443, .aload_n 3, 1), (444, .invokestatic 46, 3), (447, .istore 5, 2), (449, .aload_n 2, 1)]
set_option maxRecDepth 100000 in
theorem dk0_11 : ∀ e ∈ ck0_11, decode code e.1 = .ok e.2 := by decide +kernel
