/-! ===== the code of the methods, instruction by instruction (printed by program) ===== -/
def ck0_12 : List (Nat × Instr × Nat) := [(450, .aload_n 0, 1), (451, .iload 4, 2), (453, .iconst 1, 1), (454, .iadd, 1), (455, .iaload, 1), (456, .aload_n 0, 1), (457, .iload 4, 2), (459, .iconst 2, 1), (460, .iadd, 1), (461, .iaload, 1), (462, .invokevirtual 51, 3), (465, .istore 6, 2), (467, .aload_n 2, 1), (468, .invokevirtual 52, 3), (471, .iload 5, 2), (473, .if_icmp .eq 5, 3)]
set_option maxRecDepth 100000 in
theorem dk0_12 : ∀ e ∈ ck0_12, decode code e.1 = .ok e.2 := by decide +kernel
def ck0_13 : List (Nat × Instr × Nat) := [(476, .iconst 0, 1), (477, .ireturn, 1), (478, .iload 5, 2), (480, .ifCond .ne 15, 3), (483, .aload_n 3, 1), (484, .iconst 0, 1), (485, .laload, 1), (486, .iload 6, 2), (488, .i2l, 1), (489, .lcmp, 1), (490, .ifCond .eq 5, 3), (493, .iconst 0, 1), (494, .ireturn, 1), (495, .goto 1045, 3), (498, .aload_n 1, 1), (499, .aload_n 0, 1)]
set_option maxRecDepth 100000 in
theorem dk0_13 : ∀ e ∈ ck0_13, decode code e.1 = .ok e.2 := by decide +kernel
def ck0_14 : List (Nat × Instr × Nat) := [(500, .iload 4, 2), (502, .iconst 1, 1), (503, .iadd, 1), (504, .iaload, 1), (505, .invokevirtual 56, 3), (508, .aload_n 2, 1), (509, .aload_n 0, 1), (510, .iload 4, 2), (512, .iconst 1, 1), (513, .iadd, 1), (514, .iaload, 1), (515, .invokevirtual 59, 3), (518, .if_icmp .eq 1022, 3), (521, .iconst 0, 1), (522, .ireturn, 1), (523, .aload_n 1, 1)]
set_option maxRecDepth 100000 in
theorem dk0_14 : ∀ e ∈ ck0_14, decode code e.1 = .ok e.2 := by decide +kernel
def ck0_15 : List (Nat × Instr × Nat) := [(524, .invokevirtual 60, 3), (527, .aload_n 2, 1), (528, .invokevirtual 63, 3), (531, .if_icmp .eq 1009, 3), (534, .iconst 0, 1), (535, .ireturn, 1), (536, .aload_n 1, 1), (537, .aload_n 0, 1), (538, .iload 4, 2), (540, .iconst 1, 1), (541, .iadd, 1), (542, .iaload, 1), (543, .aload_n 0, 1), (544, .iload 4, 2), (546, .iconst 2, 1), (547, .iadd, 1)]
set_option maxRecDepth 100000 in
theorem dk0_15 : ∀ e ∈ ck0_15, decode code e.1 = .ok e.2 := by decide +kernel
def ck0_16 : List (Nat × Instr × Nat) := [(548, .iaload, 1), (549, .invokevirtual 64, 3), (552, .aload_n 2, 1), (553, .aload_n 0, 1), (554, .iload 4, 2), (556, .iconst 1, 1), (557, .iadd, 1), (558, .iaload, 1), (559, .aload_n 0, 1), (560, .iload 4, 2), (562, .iconst 2, 1), (563, .iadd, 1), (564, .iaload, 1), (565, .invokevirtual 67, 3), (568, .if_icmp .eq 972, 3), (571, .iconst 0, 1)]
set_option maxRecDepth 100000 in
theorem dk0_16 : ∀ e ∈ ck0_16, decode code e.1 = .ok e.2 := by decide +kernel
def ck0_17 : List (Nat × Instr × Nat) := [(572, .ireturn, 1), (573, .aload_n 1, 1), (574, .aload_n 0, 1), (575, .iload 4, 2), (577, .iconst 1, 1), (578, .iadd, 1), (579, .iaload, 1), (580, .aload_n 0, 1), (581, .iload 4, 2), (583, .iconst 2, 1), (584, .iadd, 1), (585, .iaload, 1), (586, .invokevirtual 68, 3), (589, .aload_n 2, 1), (590, .aload_n 0, 1), (591, .iload 4, 2)]
set_option maxRecDepth 100000 in
theorem dk0_17 : ∀ e ∈ ck0_17, decode code e.1 = .ok e.2 := by decide +kernel
def ck0_18 : List (Nat × Instr × Nat) := [(593, .iconst 1, 1), (594, .iadd, 1), (595, .iaload, 1), (596, .aload_n 0, 1), (597, .iload 4, 2), (599, .iconst 2, 1), (600, .iadd, 1), (601, .iaload, 1), (602, .invokevirtual 71, 3), (605, .if_icmp .eq 935, 3), (608, .iconst 0, 1), (609, .ireturn, 1), (610, .aload_n 1, 1), (611, .aload_n 0, 1), (612, .iload 4, 2), (614, .iconst 1, 1)]
set_option maxRecDepth 100000 in
theorem dk0_18 : ∀ e ∈ ck0_18, decode code e.1 = .ok e.2 := by decide +kernel
def ck0_19 : List (Nat × Instr × Nat) := [(615, .iadd, 1), (616, .iaload, 1), (617, .invokevirtual 72, 3), (620, .aload_n 2, 1), (621, .aload_n 0, 1), (622, .iload 4, 2), (624, .iconst 1, 1), (625, .iadd, 1), (626, .iaload, 1), (627, .invokevirtual 75, 3), (630, .if_icmp .eq 910, 3), (633, .iconst 0, 1), (634, .ireturn, 1), (635, .aload_n 1, 1), (636, .aload_n 0, 1), (637, .iload 4, 2)]
set_option maxRecDepth 100000 in
theorem dk0_19 : ∀ e ∈ ck0_19, decode code e.1 = .ok e.2 := by decide +kernel
def ck0_20 : List (Nat × Instr × Nat) := [(639, .iconst 1, 1), (640, .iadd, 1), (641, .iaload, 1), (642, .invokevirtual 76, 3), (645, .aload_n 2, 1), (646, .aload_n 0, 1), (647, .iload 4, 2), (649, .iconst 1, 1), (650, .iadd, 1), (651, .iaload, 1), (652, .invokevirtual 79, 3), (655, .if_icmp .eq 885, 3), (658, .iconst 0, 1), (659, .ireturn, 1), (660, .aload_n 1, 1), (661, .aload_n 0, 1)]
set_option maxRecDepth 100000 in
theorem dk0_20 : ∀ e ∈ ck0_20, decode code e.1 = .ok e.2 := by decide +kernel
def ck0_21 : List (Nat × Instr × Nat) := [(662, .iload 4, 2), (664, .iconst 1, 1), (665, .iadd, 1), (666, .iaload, 1), (667, .invokevirtual 80, 3), (670, .aload_n 2, 1), (671, .aload_n 0, 1), (672, .iload 4, 2), (674, .iconst 1, 1), (675, .iadd, 1), (676, .iaload, 1), (677, .invokevirtual 83, 3), (680, .if_icmp .eq 860, 3), (683, .iconst 0, 1), (684, .ireturn, 1), (685, .aload_n 1, 1)]
set_option maxRecDepth 100000 in
theorem dk0_21 : ∀ e ∈ ck0_21, decode code e.1 = .ok e.2 := by decide +kernel
def ck0_22 : List (Nat × Instr × Nat) := [(686, .invokevirtual 84, 3), (689, .aload_n 2, 1), (690, .invokevirtual 87, 3), (693, .if_icmp .eq 847, 3), (696, .iconst 0, 1), (697, .ireturn, 1), (698, .aload_n 1, 1), (699, .aload_n 0, 1), (700, .iload 4, 2), (702, .iconst 1, 1), (703, .iadd, 1), (704, .iaload, 1), (705, .invokevirtual 88, 3), (708, .aload_n 2, 1), (709, .aload_n 0, 1), (710, .iload 4, 2)]
set_option maxRecDepth 100000 in
theorem dk0_22 : ∀ e ∈ ck0_22, decode code e.1 = .ok e.2 := by decide +kernel
def ck0_23 : List (Nat × Instr × Nat) := [(712, .iconst 1, 1), (713, .iadd, 1), (714, .iaload, 1), (715, .invokevirtual 91, 3), (718, .if_icmp .eq 822, 3), (721, .iconst 0, 1), (722, .ireturn, 1), (723, .aload_n 1, 1), (724, .aload_n 0, 1), (725, .iload 4, 2), (727, .iconst 1, 1), (728, .iadd, 1), (729, .iaload, 1), (730, .aload_n 0, 1), (731, .iload 4, 2), (733, .iconst 2, 1)]
set_option maxRecDepth 100000 in
theorem dk0_23 : ∀ e ∈ ck0_23, decode code e.1 = .ok e.2 := by decide +kernel
