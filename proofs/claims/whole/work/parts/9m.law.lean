def R_law : String := "MarginFolkLaw"
def lw_P (b : Addr) (xs : List Int32) (args : Array Value) (s : State) : Prop := args = #[.ref b] ∧ s.IntsAt b xs ∧ xs.length ≤ 3072 ∧ (Jvm.Cond.and given_1 narrow_1).before args s = true
def lw_Q (_ : Array Value) (s : State) (o : Outcome) (t : State) : Prop := o = .returned (some (.int 1)) ∧ Framed s o t [] 600000 7302250
def lw_Z (below : List Frame) (a : Array Value) (s : State) : State → Prop := fun t => ∃ o, t.status = .running ∧ Ended t below o ∧ lw_Q a s o t
/-- the law's own end, with 1 on the stack, nothing written that was there before, its room as the claim has it -/
theorem lw_ret {p : Program} {l : Launch} {e : Env} {s : State} {m : MethodId} {below : List Frame} {meth : Method} {c : Code} {b : Nat} (hx : p.tables.exec = Jvm.exec) (hb : c.code = code) (hr : meth.sig.returnType = ret) (hlocks : meth.locks = false) {pc : Nat} {H : Heap} {ls : Array Slot} (hdg : decode code pc = .ok (.ireturn, 1)) : W p l e room_1 s m #[Value.ref b] below meth c H [] 600000 7302250 (lw_Z below #[Value.ref b] s) (F0 m pc ls [.int 1]) := by
  intro T hT X
  obtain ⟨fs, hret, hrun, hended, hW, hframe⟩ := X.leave (v := some (.int 1)) (hlocks := hlocks) (fun h => by rw [hr] at h; cases h)
  have hmeth' : T.vm.method? m = some meth := X.method'
  refine ⟨T.setFrames fs, ?_, .returned (some (.int 1)), hrun, hended, rfl, ⟨_, rfl⟩, hW, hframe⟩
  jvm_step X.here [X.here.top, hx, hb, hdg, hmeth', hr, ret, narrow_b1]
  (try refine ⟨rfl, ?_⟩); (try refine ⟨rfl, ?_⟩)
  first | (intro acts; rw [hret _ acts rfl rfl rfl]) | rw [hret _ _ rfl rfl rfl]
  exact Steps.refl _
/-- what holds at the law's entry: the machine, the code, the tables' words (any of lw_tbl by 'hts w (by decide +kernel)'), the script of L ints xs at the cell b, what the Statement gives of the start (any of its parts by flat_of_before) -/
def lw_At (p : Program) (s : State) (m : MethodId) (meth : Method) (c : Code) (b L : Nat) (xs : Nat → Int32) : Prop :=
  p.tables.exec = Jvm.exec ∧ c.code = code ∧ meth.sig.returnType = ret ∧ c.maxLocals = 4 ∧ s.vm.findClass R_law = some m.cls ∧ (∀ w ∈ lw_tbl, w.before #[Value.ref b] s = true) ∧ va_X b L xs s s.heap ∧ b < s.heap.size ∧ meth.locks = false ∧ (Jvm.Cond.and given_1 narrow_1).before #[Value.ref b] s = true
/-! the law: its words, its state -/
abbrev YL_law : mf_Y := (yL_law, cL_law, 4, (some .boolean))
def LL_law_p0 : List (Nat × Instr × Nat) := [(0, .new 7, 3), (3, .dup, 1), (4, .invokespecial 9, 3), (7, .astore_n 1, 1), (8, .new 10, 3), (11, .dup, 1), (12, .invokespecial 12, 3), (15, .astore_n 2, 1), (16, .iconst 0, 1), (17, .istore_n 3, 1), (18, .iload_n 3, 1), (19, .aload_n 0, 1), (20, .arraylength, 1), (21, .bipush 6, 2), (23, .isub, 1), (24, .if_icmp .gt 988, 3), (27, .aload_n 0, 1), (28, .iload_n 3, 1), (29, .iaload, 1), (30, .bipush 31, 2), (32, .iand, 1), (33, .tableswitch 973 0 30 #[139, 202, 225, 238, 261, 284, 317, 350, 393, 426, 459, 482, 495, 528, 571, 594, 637, 650, 673, 696, 729, 772, 805, 828, 851, 864, 887, 901, 914, 937, 950], 139), (172, .aload_n 1, 1), (173, .aload_n 0, 1), (174, .iload_n 3, 1), (175, .iconst 1, 1), (176, .iadd, 1), (177, .iaload, 1), (178, .aload_n 0, 1), (179, .iload_n 3, 1), (180, .iconst 2, 1), (181, .iadd, 1), (182, .iaload, 1), (183, .aload_n 0, 1), (184, .iload_n 3, 1), (185, .iconst 3, 1), (186, .iadd, 1), (187, .iaload, 1), (188, .aload_n 0, 1), (189, .iload_n 3, 1), (190, .iconst 4, 1), (191, .iadd, 1), (192, .iaload, 1), (193, .aload_n 0, 1), (194, .iload_n 3, 1), (195, .iconst 5, 1), (196, .iadd, 1), (197, .iaload, 1), (198, .invokevirtual 13, 3), (201, .aload_n 2, 1), (202, .aload_n 0, 1), (203, .iload_n 3, 1), (204, .iconst 1, 1), (205, .iadd, 1), (206, .iaload, 1), (207, .aload_n 0, 1), (208, .iload_n 3, 1), (209, .iconst 2, 1), (210, .iadd, 1), (211, .iaload, 1)]
set_option maxRecDepth 100000 in
theorem eL_law_p0 : mf_dec cL_law LL_law_p0 = true := by decide +kernel
def LL_law_p1 : List (Nat × Instr × Nat) := [(212, .aload_n 0, 1), (213, .iload_n 3, 1), (214, .iconst 3, 1), (215, .iadd, 1), (216, .iaload, 1), (217, .aload_n 0, 1), (218, .iload_n 3, 1), (219, .iconst 4, 1), (220, .iadd, 1), (221, .iaload, 1), (222, .aload_n 0, 1), (223, .iload_n 3, 1), (224, .iconst 5, 1), (225, .iadd, 1), (226, .iaload, 1), (227, .invokevirtual 17, 3), (230, .if_icmp .eq 776, 3), (233, .iconst 0, 1), (234, .ireturn, 1), (235, .aload_n 1, 1), (236, .aload_n 0, 1), (237, .iload_n 3, 1), (238, .iconst 1, 1), (239, .iadd, 1), (240, .iaload, 1), (241, .invokevirtual 18, 3), (244, .aload_n 2, 1), (245, .aload_n 0, 1), (246, .iload_n 3, 1), (247, .iconst 1, 1), (248, .iadd, 1), (249, .iaload, 1), (250, .invokevirtual 22, 3), (253, .if_icmp .eq 753, 3), (256, .iconst 0, 1), (257, .ireturn, 1), (258, .aload_n 1, 1), (259, .invokevirtual 23, 3), (262, .aload_n 2, 1), (263, .invokevirtual 27, 3), (266, .if_icmp .eq 740, 3), (269, .iconst 0, 1), (270, .ireturn, 1), (271, .aload_n 1, 1), (272, .aload_n 0, 1), (273, .iload_n 3, 1), (274, .iconst 1, 1), (275, .iadd, 1), (276, .iaload, 1), (277, .invokevirtual 28, 3), (280, .aload_n 2, 1), (281, .aload_n 0, 1), (282, .iload_n 3, 1), (283, .iconst 1, 1), (284, .iadd, 1), (285, .iaload, 1), (286, .invokevirtual 32, 3), (289, .if_icmp .eq 717, 3), (292, .iconst 0, 1), (293, .ireturn, 1)]
set_option maxRecDepth 100000 in
theorem eL_law_p1 : mf_dec cL_law LL_law_p1 = true := by decide +kernel
def LL_law_p2 : List (Nat × Instr × Nat) := [(294, .aload_n 1, 1), (295, .aload_n 0, 1), (296, .iload_n 3, 1), (297, .iconst 1, 1), (298, .iadd, 1), (299, .iaload, 1), (300, .invokevirtual 33, 3), (303, .aload_n 2, 1), (304, .aload_n 0, 1), (305, .iload_n 3, 1), (306, .iconst 1, 1), (307, .iadd, 1), (308, .iaload, 1), (309, .invokevirtual 36, 3), (312, .if_icmp .eq 694, 3), (315, .iconst 0, 1), (316, .ireturn, 1), (317, .aload_n 1, 1), (318, .aload_n 0, 1), (319, .iload_n 3, 1), (320, .iconst 1, 1), (321, .iadd, 1), (322, .iaload, 1), (323, .aload_n 0, 1), (324, .iload_n 3, 1), (325, .iconst 2, 1), (326, .iadd, 1), (327, .iaload, 1), (328, .invokevirtual 37, 3), (331, .aload_n 2, 1), (332, .aload_n 0, 1), (333, .iload_n 3, 1), (334, .iconst 1, 1), (335, .iadd, 1), (336, .iaload, 1), (337, .aload_n 0, 1), (338, .iload_n 3, 1), (339, .iconst 2, 1), (340, .iadd, 1), (341, .iaload, 1), (342, .invokevirtual 41, 3), (345, .if_icmp .eq 661, 3), (348, .iconst 0, 1), (349, .ireturn, 1), (350, .aload_n 1, 1), (351, .aload_n 0, 1), (352, .iload_n 3, 1), (353, .iconst 1, 1), (354, .iadd, 1), (355, .iaload, 1), (356, .aload_n 0, 1), (357, .iload_n 3, 1), (358, .iconst 2, 1), (359, .iadd, 1), (360, .iaload, 1), (361, .invokevirtual 42, 3), (364, .aload_n 2, 1), (365, .aload_n 0, 1), (366, .iload_n 3, 1), (367, .iconst 1, 1)]
set_option maxRecDepth 100000 in
theorem eL_law_p2 : mf_dec cL_law LL_law_p2 = true := by decide +kernel
def LL_law_p3 : List (Nat × Instr × Nat) := [(368, .iadd, 1), (369, .iaload, 1), (370, .aload_n 0, 1), (371, .iload_n 3, 1), (372, .iconst 2, 1), (373, .iadd, 1), (374, .iaload, 1), (375, .invokevirtual 45, 3), (378, .if_icmp .eq 628, 3), (381, .iconst 0, 1), (382, .ireturn, 1), (383, .aload_n 1, 1), (384, .aload_n 0, 1), (385, .iload_n 3, 1), (386, .iconst 1, 1), (387, .iadd, 1), (388, .iaload, 1), (389, .aload_n 0, 1), (390, .iload_n 3, 1), (391, .iconst 2, 1), (392, .iadd, 1), (393, .iaload, 1), (394, .aload_n 0, 1), (395, .iload_n 3, 1), (396, .iconst 3, 1), (397, .iadd, 1), (398, .iaload, 1), (399, .invokevirtual 46, 3), (402, .aload_n 2, 1), (403, .aload_n 0, 1), (404, .iload_n 3, 1), (405, .iconst 1, 1), (406, .iadd, 1), (407, .iaload, 1), (408, .aload_n 0, 1), (409, .iload_n 3, 1), (410, .iconst 2, 1), (411, .iadd, 1), (412, .iaload, 1), (413, .aload_n 0, 1), (414, .iload_n 3, 1), (415, .iconst 3, 1), (416, .iadd, 1), (417, .iaload, 1), (418, .invokevirtual 50, 3), (421, .if_icmp .eq 585, 3), (424, .iconst 0, 1), (425, .ireturn, 1), (426, .aload_n 1, 1), (427, .aload_n 0, 1), (428, .iload_n 3, 1), (429, .iconst 1, 1), (430, .iadd, 1), (431, .iaload, 1), (432, .aload_n 0, 1), (433, .iload_n 3, 1), (434, .iconst 2, 1), (435, .iadd, 1), (436, .iaload, 1), (437, .invokevirtual 51, 3)]
set_option maxRecDepth 100000 in
theorem eL_law_p3 : mf_dec cL_law LL_law_p3 = true := by decide +kernel
def LL_law_p4 : List (Nat × Instr × Nat) := [(440, .aload_n 2, 1), (441, .aload_n 0, 1), (442, .iload_n 3, 1), (443, .iconst 1, 1), (444, .iadd, 1), (445, .iaload, 1), (446, .aload_n 0, 1), (447, .iload_n 3, 1), (448, .iconst 2, 1), (449, .iadd, 1), (450, .iaload, 1), (451, .invokevirtual 54, 3), (454, .if_icmp .eq 552, 3), (457, .iconst 0, 1), (458, .ireturn, 1), (459, .aload_n 1, 1), (460, .aload_n 0, 1), (461, .iload_n 3, 1), (462, .iconst 1, 1), (463, .iadd, 1), (464, .iaload, 1), (465, .aload_n 0, 1), (466, .iload_n 3, 1), (467, .iconst 2, 1), (468, .iadd, 1), (469, .iaload, 1), (470, .invokevirtual 55, 3), (473, .aload_n 2, 1), (474, .aload_n 0, 1), (475, .iload_n 3, 1), (476, .iconst 1, 1), (477, .iadd, 1), (478, .iaload, 1), (479, .aload_n 0, 1), (480, .iload_n 3, 1), (481, .iconst 2, 1), (482, .iadd, 1), (483, .iaload, 1), (484, .invokevirtual 58, 3), (487, .if_icmp .eq 519, 3), (490, .iconst 0, 1), (491, .ireturn, 1), (492, .aload_n 1, 1), (493, .aload_n 0, 1), (494, .iload_n 3, 1), (495, .iconst 1, 1), (496, .iadd, 1), (497, .iaload, 1), (498, .invokevirtual 59, 3), (501, .aload_n 2, 1), (502, .aload_n 0, 1), (503, .iload_n 3, 1), (504, .iconst 1, 1), (505, .iadd, 1), (506, .iaload, 1), (507, .invokevirtual 62, 3), (510, .if_icmp .eq 496, 3), (513, .iconst 0, 1), (514, .ireturn, 1), (515, .aload_n 1, 1)]
set_option maxRecDepth 100000 in
theorem eL_law_p4 : mf_dec cL_law LL_law_p4 = true := by decide +kernel
def LL_law_p5 : List (Nat × Instr × Nat) := [(516, .invokevirtual 63, 3), (519, .aload_n 2, 1), (520, .invokevirtual 66, 3), (523, .if_icmp .eq 483, 3), (526, .iconst 0, 1), (527, .ireturn, 1), (528, .aload_n 1, 1), (529, .aload_n 0, 1), (530, .iload_n 3, 1), (531, .iconst 1, 1), (532, .iadd, 1), (533, .iaload, 1), (534, .aload_n 0, 1), (535, .iload_n 3, 1), (536, .iconst 2, 1), (537, .iadd, 1), (538, .iaload, 1), (539, .invokevirtual 67, 3), (542, .aload_n 2, 1), (543, .aload_n 0, 1), (544, .iload_n 3, 1), (545, .iconst 1, 1), (546, .iadd, 1), (547, .iaload, 1), (548, .aload_n 0, 1), (549, .iload_n 3, 1), (550, .iconst 2, 1), (551, .iadd, 1), (552, .iaload, 1), (553, .invokevirtual 70, 3), (556, .if_icmp .eq 450, 3), (559, .iconst 0, 1), (560, .ireturn, 1), (561, .aload_n 1, 1), (562, .aload_n 0, 1), (563, .iload_n 3, 1), (564, .iconst 1, 1), (565, .iadd, 1), (566, .iaload, 1), (567, .aload_n 0, 1), (568, .iload_n 3, 1), (569, .iconst 2, 1), (570, .iadd, 1), (571, .iaload, 1), (572, .aload_n 0, 1), (573, .iload_n 3, 1), (574, .iconst 3, 1), (575, .iadd, 1), (576, .iaload, 1), (577, .invokevirtual 71, 3), (580, .aload_n 2, 1), (581, .aload_n 0, 1), (582, .iload_n 3, 1), (583, .iconst 1, 1), (584, .iadd, 1), (585, .iaload, 1), (586, .aload_n 0, 1), (587, .iload_n 3, 1), (588, .iconst 2, 1), (589, .iadd, 1)]
set_option maxRecDepth 100000 in
theorem eL_law_p5 : mf_dec cL_law LL_law_p5 = true := by decide +kernel
def LL_law_p6 : List (Nat × Instr × Nat) := [(590, .iaload, 1), (591, .aload_n 0, 1), (592, .iload_n 3, 1), (593, .iconst 3, 1), (594, .iadd, 1), (595, .iaload, 1), (596, .invokevirtual 74, 3), (599, .if_icmp .eq 407, 3), (602, .iconst 0, 1), (603, .ireturn, 1), (604, .aload_n 1, 1), (605, .aload_n 0, 1), (606, .iload_n 3, 1), (607, .iconst 1, 1), (608, .iadd, 1), (609, .iaload, 1), (610, .invokevirtual 75, 3), (613, .aload_n 2, 1), (614, .aload_n 0, 1), (615, .iload_n 3, 1), (616, .iconst 1, 1), (617, .iadd, 1), (618, .iaload, 1), (619, .invokevirtual 78, 3), (622, .if_icmp .eq 384, 3), (625, .iconst 0, 1), (626, .ireturn, 1), (627, .aload_n 1, 1), (628, .aload_n 0, 1), (629, .iload_n 3, 1), (630, .iconst 1, 1), (631, .iadd, 1), (632, .iaload, 1), (633, .aload_n 0, 1), (634, .iload_n 3, 1), (635, .iconst 2, 1), (636, .iadd, 1), (637, .iaload, 1), (638, .aload_n 0, 1), (639, .iload_n 3, 1), (640, .iconst 3, 1), (641, .iadd, 1), (642, .iaload, 1), (643, .invokevirtual 79, 3), (646, .aload_n 2, 1), (647, .aload_n 0, 1), (648, .iload_n 3, 1), (649, .iconst 1, 1), (650, .iadd, 1), (651, .iaload, 1), (652, .aload_n 0, 1), (653, .iload_n 3, 1), (654, .iconst 2, 1), (655, .iadd, 1), (656, .iaload, 1), (657, .aload_n 0, 1), (658, .iload_n 3, 1), (659, .iconst 3, 1), (660, .iadd, 1), (661, .iaload, 1)]
set_option maxRecDepth 100000 in
theorem eL_law_p6 : mf_dec cL_law LL_law_p6 = true := by decide +kernel
def LL_law_p7 : List (Nat × Instr × Nat) := [(662, .invokevirtual 82, 3), (665, .if_icmp .eq 341, 3), (668, .iconst 0, 1), (669, .ireturn, 1), (670, .aload_n 1, 1), (671, .invokevirtual 83, 3), (674, .aload_n 2, 1), (675, .invokevirtual 86, 3), (678, .if_icmp .eq 328, 3), (681, .iconst 0, 1), (682, .ireturn, 1), (683, .aload_n 1, 1), (684, .aload_n 0, 1), (685, .iload_n 3, 1), (686, .iconst 1, 1), (687, .iadd, 1), (688, .iaload, 1), (689, .invokevirtual 87, 3), (692, .aload_n 2, 1), (693, .aload_n 0, 1), (694, .iload_n 3, 1), (695, .iconst 1, 1), (696, .iadd, 1), (697, .iaload, 1), (698, .invokevirtual 90, 3), (701, .if_icmp .eq 305, 3), (704, .iconst 0, 1), (705, .ireturn, 1), (706, .aload_n 1, 1), (707, .aload_n 0, 1), (708, .iload_n 3, 1), (709, .iconst 1, 1), (710, .iadd, 1), (711, .iaload, 1), (712, .invokevirtual 91, 3), (715, .aload_n 2, 1), (716, .aload_n 0, 1), (717, .iload_n 3, 1), (718, .iconst 1, 1), (719, .iadd, 1), (720, .iaload, 1), (721, .invokevirtual 94, 3), (724, .if_icmp .eq 282, 3), (727, .iconst 0, 1), (728, .ireturn, 1), (729, .aload_n 1, 1), (730, .aload_n 0, 1), (731, .iload_n 3, 1), (732, .iconst 1, 1), (733, .iadd, 1), (734, .iaload, 1), (735, .aload_n 0, 1), (736, .iload_n 3, 1), (737, .iconst 2, 1), (738, .iadd, 1), (739, .iaload, 1), (740, .invokevirtual 95, 3), (743, .aload_n 2, 1), (744, .aload_n 0, 1), (745, .iload_n 3, 1)]
set_option maxRecDepth 100000 in
theorem eL_law_p7 : mf_dec cL_law LL_law_p7 = true := by decide +kernel
def LL_law_p8 : List (Nat × Instr × Nat) := [(746, .iconst 1, 1), (747, .iadd, 1), (748, .iaload, 1), (749, .aload_n 0, 1), (750, .iload_n 3, 1), (751, .iconst 2, 1), (752, .iadd, 1), (753, .iaload, 1), (754, .invokevirtual 98, 3), (757, .if_icmp .eq 249, 3), (760, .iconst 0, 1), (761, .ireturn, 1), (762, .aload_n 1, 1), (763, .aload_n 0, 1), (764, .iload_n 3, 1), (765, .iconst 1, 1), (766, .iadd, 1), (767, .iaload, 1), (768, .aload_n 0, 1), (769, .iload_n 3, 1), (770, .iconst 2, 1), (771, .iadd, 1), (772, .iaload, 1), (773, .aload_n 0, 1), (774, .iload_n 3, 1), (775, .iconst 3, 1), (776, .iadd, 1), (777, .iaload, 1), (778, .invokevirtual 99, 3), (781, .aload_n 2, 1), (782, .aload_n 0, 1), (783, .iload_n 3, 1), (784, .iconst 1, 1), (785, .iadd, 1), (786, .iaload, 1), (787, .aload_n 0, 1), (788, .iload_n 3, 1), (789, .iconst 2, 1), (790, .iadd, 1), (791, .iaload, 1), (792, .aload_n 0, 1), (793, .iload_n 3, 1), (794, .iconst 3, 1), (795, .iadd, 1), (796, .iaload, 1), (797, .invokevirtual 103, 3), (800, .if_icmp .eq 206, 3), (803, .iconst 0, 1), (804, .ireturn, 1), (805, .aload_n 1, 1), (806, .aload_n 0, 1), (807, .iload_n 3, 1), (808, .iconst 1, 1), (809, .iadd, 1), (810, .iaload, 1), (811, .aload_n 0, 1), (812, .iload_n 3, 1), (813, .iconst 2, 1), (814, .iadd, 1), (815, .iaload, 1)]
set_option maxRecDepth 100000 in
theorem eL_law_p8 : mf_dec cL_law LL_law_p8 = true := by decide +kernel
def LL_law_p9 : List (Nat × Instr × Nat) := [(816, .invokevirtual 104, 3), (819, .aload_n 2, 1), (820, .aload_n 0, 1), (821, .iload_n 3, 1), (822, .iconst 1, 1), (823, .iadd, 1), (824, .iaload, 1), (825, .aload_n 0, 1), (826, .iload_n 3, 1), (827, .iconst 2, 1), (828, .iadd, 1), (829, .iaload, 1), (830, .invokevirtual 107, 3), (833, .if_icmp .eq 173, 3), (836, .iconst 0, 1), (837, .ireturn, 1), (838, .aload_n 1, 1), (839, .aload_n 0, 1), (840, .iload_n 3, 1), (841, .iconst 1, 1), (842, .iadd, 1), (843, .iaload, 1), (844, .invokevirtual 108, 3), (847, .aload_n 2, 1), (848, .aload_n 0, 1), (849, .iload_n 3, 1), (850, .iconst 1, 1), (851, .iadd, 1), (852, .iaload, 1), (853, .invokevirtual 111, 3), (856, .if_icmp .eq 150, 3), (859, .iconst 0, 1), (860, .ireturn, 1), (861, .aload_n 1, 1), (862, .aload_n 0, 1), (863, .iload_n 3, 1), (864, .iconst 1, 1), (865, .iadd, 1), (866, .iaload, 1), (867, .invokevirtual 112, 3), (870, .aload_n 2, 1), (871, .aload_n 0, 1), (872, .iload_n 3, 1), (873, .iconst 1, 1), (874, .iadd, 1), (875, .iaload, 1), (876, .invokevirtual 115, 3), (879, .if_icmp .eq 127, 3), (882, .iconst 0, 1), (883, .ireturn, 1), (884, .aload_n 1, 1), (885, .invokevirtual 116, 3), (888, .aload_n 2, 1), (889, .invokevirtual 120, 3), (892, .if_icmp .eq 114, 3), (895, .iconst 0, 1), (896, .ireturn, 1), (897, .aload_n 1, 1), (898, .aload_n 0, 1), (899, .iload_n 3, 1)]
set_option maxRecDepth 100000 in
theorem eL_law_p9 : mf_dec cL_law LL_law_p9 = true := by decide +kernel
def LL_law_p10 : List (Nat × Instr × Nat) := [(900, .iconst 1, 1), (901, .iadd, 1), (902, .iaload, 1), (903, .invokevirtual 121, 3), (906, .aload_n 2, 1), (907, .aload_n 0, 1), (908, .iload_n 3, 1), (909, .iconst 1, 1), (910, .iadd, 1), (911, .iaload, 1), (912, .invokevirtual 124, 3), (915, .if_icmp .eq 91, 3), (918, .iconst 0, 1), (919, .ireturn, 1), (920, .aload_n 1, 1), (921, .invokevirtual 125, 3), (924, .aload_n 2, 1), (925, .invokevirtual 129, 3), (928, .lcmp, 1), (929, .ifCond .eq 77, 3), (932, .iconst 0, 1), (933, .ireturn, 1), (934, .aload_n 1, 1), (935, .invokevirtual 130, 3), (938, .aload_n 2, 1), (939, .invokevirtual 133, 3), (942, .if_icmp .eq 64, 3), (945, .iconst 0, 1), (946, .ireturn, 1), (947, .aload_n 1, 1), (948, .aload_n 0, 1), (949, .iload_n 3, 1), (950, .iconst 1, 1), (951, .iadd, 1), (952, .iaload, 1), (953, .invokevirtual 134, 3), (956, .aload_n 2, 1), (957, .aload_n 0, 1), (958, .iload_n 3, 1), (959, .iconst 1, 1), (960, .iadd, 1), (961, .iaload, 1), (962, .invokevirtual 137, 3), (965, .if_icmp .eq 41, 3), (968, .iconst 0, 1), (969, .ireturn, 1), (970, .aload_n 1, 1), (971, .invokevirtual 138, 3), (974, .aload_n 2, 1), (975, .invokevirtual 141, 3), (978, .if_icmp .eq 28, 3), (981, .iconst 0, 1), (982, .ireturn, 1), (983, .aload_n 1, 1), (984, .aload_n 0, 1), (985, .iload_n 3, 1), (986, .iconst 1, 1), (987, .iadd, 1), (988, .iaload, 1), (989, .invokevirtual 142, 3)]
set_option maxRecDepth 100000 in
theorem eL_law_p10 : mf_dec cL_law LL_law_p10 = true := by decide +kernel
def LL_law_p11 : List (Nat × Instr × Nat) := [(992, .aload_n 2, 1), (993, .aload_n 0, 1), (994, .iload_n 3, 1), (995, .iconst 1, 1), (996, .iadd, 1), (997, .iaload, 1), (998, .invokevirtual 145, 3), (1001, .if_icmp .eq 5, 3), (1004, .iconst 0, 1), (1005, .ireturn, 1), (1006, .iinc 3 6, 3), (1009, .goto (-991), 3), (1012, .iconst 1, 1), (1013, .ireturn, 1)]
set_option maxRecDepth 100000 in
theorem eL_law_p11 : mf_dec cL_law LL_law_p11 = true := by decide +kernel
set_option maxRecDepth 100000 in
theorem ml_L_13 : Cond.methodLink RL 13 yX11_feed ∈ mf_tbl := mf_m3 (i := 20) rfl rfl
set_option maxRecDepth 100000 in
theorem im_X11_feed : Cond.instanceMethod yX11_feed ∈ mf_tbl := mf_m3 (i := 21) rfl rfl
set_option maxRecDepth 100000 in
theorem sl_X11_feed : Cond.selects yX11_feed.cls yX11_feed yX11_feed ∈ mf_tbl := mf_m3 (i := 22) rfl rfl
set_option maxRecDepth 100000 in
theorem ml_L_17 : Cond.methodLink RL 17 yX12_feed ∈ mf_tbl := mf_m7 (i := 0) rfl rfl
set_option maxRecDepth 100000 in
theorem im_X12_feed : Cond.instanceMethod yX12_feed ∈ mf_tbl := mf_m7 (i := 1) rfl rfl
set_option maxRecDepth 100000 in
theorem sl_X12_feed : Cond.selects yX12_feed.cls yX12_feed yX12_feed ∈ mf_tbl := mf_m7 (i := 2) rfl rfl
set_option maxRecDepth 100000 in
theorem ml_L_18 : Cond.methodLink RL 18 yX11_end ∈ mf_tbl := mf_m3 (i := 28) rfl rfl
set_option maxRecDepth 100000 in
theorem im_X11_end : Cond.instanceMethod yX11_end ∈ mf_tbl := mf_m3 (i := 29) rfl rfl
set_option maxRecDepth 100000 in
theorem sl_X11_end : Cond.selects yX11_end.cls yX11_end yX11_end ∈ mf_tbl := mf_m3 (i := 30) rfl rfl
set_option maxRecDepth 100000 in
theorem ml_L_22 : Cond.methodLink RL 22 yX12_end ∈ mf_tbl := mf_m7 (i := 4) rfl rfl
set_option maxRecDepth 100000 in
theorem im_X12_end : Cond.instanceMethod yX12_end ∈ mf_tbl := mf_m7 (i := 5) rfl rfl
set_option maxRecDepth 100000 in
theorem sl_X12_end : Cond.selects yX12_end.cls yX12_end yX12_end ∈ mf_tbl := mf_m7 (i := 6) rfl rfl
set_option maxRecDepth 100000 in
theorem ml_L_23 : Cond.methodLink RL 23 yX11_folio ∈ mf_tbl := mf_m3 (i := 32) rfl rfl
set_option maxRecDepth 100000 in
theorem im_X11_folio : Cond.instanceMethod yX11_folio ∈ mf_tbl := mf_m3 (i := 33) rfl rfl
set_option maxRecDepth 100000 in
theorem sl_X11_folio : Cond.selects yX11_folio.cls yX11_folio yX11_folio ∈ mf_tbl := mf_m3 (i := 34) rfl rfl
set_option maxRecDepth 100000 in
theorem ml_L_27 : Cond.methodLink RL 27 yX12_folio ∈ mf_tbl := mf_m7 (i := 8) rfl rfl
set_option maxRecDepth 100000 in
theorem im_X12_folio : Cond.instanceMethod yX12_folio ∈ mf_tbl := mf_m7 (i := 9) rfl rfl
set_option maxRecDepth 100000 in
theorem sl_X12_folio : Cond.selects yX12_folio.cls yX12_folio yX12_folio ∈ mf_tbl := mf_m7 (i := 10) rfl rfl
set_option maxRecDepth 100000 in
theorem ml_L_28 : Cond.methodLink RL 28 yX11_fault ∈ mf_tbl := mf_m4 (i := 9) rfl rfl
set_option maxRecDepth 100000 in
theorem im_X11_fault : Cond.instanceMethod yX11_fault ∈ mf_tbl := mf_m4 (i := 10) rfl rfl
set_option maxRecDepth 100000 in
theorem sl_X11_fault : Cond.selects yX11_fault.cls yX11_fault yX11_fault ∈ mf_tbl := mf_m4 (i := 11) rfl rfl
set_option maxRecDepth 100000 in
theorem ml_L_32 : Cond.methodLink RL 32 yX12_fault ∈ mf_tbl := mf_m7 (i := 189) rfl rfl
set_option maxRecDepth 100000 in
theorem im_X12_fault : Cond.instanceMethod yX12_fault ∈ mf_tbl := mf_m7 (i := 190) rfl rfl
set_option maxRecDepth 100000 in
theorem sl_X12_fault : Cond.selects yX12_fault.cls yX12_fault yX12_fault ∈ mf_tbl := mf_m7 (i := 191) rfl rfl
set_option maxRecDepth 100000 in
theorem ml_L_33 : Cond.methodLink RL 33 yX11_has ∈ mf_tbl := mf_m4 (i := 13) rfl rfl
set_option maxRecDepth 100000 in
theorem im_X11_has : Cond.instanceMethod yX11_has ∈ mf_tbl := mf_m4 (i := 14) rfl rfl
set_option maxRecDepth 100000 in
theorem sl_X11_has : Cond.selects yX11_has.cls yX11_has yX11_has ∈ mf_tbl := mf_m4 (i := 15) rfl rfl
set_option maxRecDepth 100000 in
theorem ml_L_36 : Cond.methodLink RL 36 yX12_has ∈ mf_tbl := mf_m7 (i := 193) rfl rfl
set_option maxRecDepth 100000 in
theorem im_X12_has : Cond.instanceMethod yX12_has ∈ mf_tbl := mf_m7 (i := 194) rfl rfl
set_option maxRecDepth 100000 in
theorem sl_X12_has : Cond.selects yX12_has.cls yX12_has yX12_has ∈ mf_tbl := mf_m7 (i := 195) rfl rfl
set_option maxRecDepth 100000 in
theorem ml_L_37 : Cond.methodLink RL 37 yX11_letter ∈ mf_tbl := mf_m4 (i := 72) rfl rfl
set_option maxRecDepth 100000 in
theorem im_X11_letter : Cond.instanceMethod yX11_letter ∈ mf_tbl := mf_m4 (i := 73) rfl rfl
set_option maxRecDepth 100000 in
theorem sl_X11_letter : Cond.selects yX11_letter.cls yX11_letter yX11_letter ∈ mf_tbl := mf_m4 (i := 74) rfl rfl
set_option maxRecDepth 100000 in
theorem ml_L_41 : Cond.methodLink RL 41 yX12_letter ∈ mf_tbl := mf_m8 (i := 19) rfl rfl
set_option maxRecDepth 100000 in
theorem im_X12_letter : Cond.instanceMethod yX12_letter ∈ mf_tbl := mf_m8 (i := 20) rfl rfl
set_option maxRecDepth 100000 in
theorem sl_X12_letter : Cond.selects yX12_letter.cls yX12_letter yX12_letter ∈ mf_tbl := mf_m8 (i := 21) rfl rfl
set_option maxRecDepth 100000 in
theorem ml_L_42 : Cond.methodLink RL 42 yX11_being ∈ mf_tbl := mf_m4 (i := 83) rfl rfl
set_option maxRecDepth 100000 in
theorem im_X11_being : Cond.instanceMethod yX11_being ∈ mf_tbl := mf_m4 (i := 84) rfl rfl
set_option maxRecDepth 100000 in
theorem sl_X11_being : Cond.selects yX11_being.cls yX11_being yX11_being ∈ mf_tbl := mf_m4 (i := 85) rfl rfl
set_option maxRecDepth 100000 in
theorem ml_L_45 : Cond.methodLink RL 45 yX12_being ∈ mf_tbl := mf_m8 (i := 28) rfl rfl
set_option maxRecDepth 100000 in
theorem im_X12_being : Cond.instanceMethod yX12_being ∈ mf_tbl := mf_m8 (i := 29) rfl rfl
set_option maxRecDepth 100000 in
theorem sl_X12_being : Cond.selects yX12_being.cls yX12_being yX12_being ∈ mf_tbl := mf_m8 (i := 30) rfl rfl
set_option maxRecDepth 100000 in
theorem ml_L_46 : Cond.methodLink RL 46 yX11_cell ∈ mf_tbl := mf_m4 (i := 90) rfl rfl
set_option maxRecDepth 100000 in
theorem im_X11_cell : Cond.instanceMethod yX11_cell ∈ mf_tbl := mf_m4 (i := 91) rfl rfl
set_option maxRecDepth 100000 in
theorem sl_X11_cell : Cond.selects yX11_cell.cls yX11_cell yX11_cell ∈ mf_tbl := mf_m4 (i := 92) rfl rfl
set_option maxRecDepth 100000 in
theorem ml_L_50 : Cond.methodLink RL 50 yX12_cell ∈ mf_tbl := mf_m8 (i := 32) rfl rfl
set_option maxRecDepth 100000 in
theorem im_X12_cell : Cond.instanceMethod yX12_cell ∈ mf_tbl := mf_m8 (i := 33) rfl rfl
set_option maxRecDepth 100000 in
theorem sl_X12_cell : Cond.selects yX12_cell.cls yX12_cell yX12_cell ∈ mf_tbl := mf_m8 (i := 34) rfl rfl
set_option maxRecDepth 100000 in
theorem ml_L_51 : Cond.methodLink RL 51 yX11_kept ∈ mf_tbl := mf_m4 (i := 112) rfl rfl
set_option maxRecDepth 100000 in
theorem im_X11_kept : Cond.instanceMethod yX11_kept ∈ mf_tbl := mf_m4 (i := 113) rfl rfl
set_option maxRecDepth 100000 in
theorem sl_X11_kept : Cond.selects yX11_kept.cls yX11_kept yX11_kept ∈ mf_tbl := mf_m4 (i := 114) rfl rfl
set_option maxRecDepth 100000 in
theorem ml_L_54 : Cond.methodLink RL 54 yX12_kept ∈ mf_tbl := mf_m8 (i := 52) rfl rfl
set_option maxRecDepth 100000 in
theorem im_X12_kept : Cond.instanceMethod yX12_kept ∈ mf_tbl := mf_m8 (i := 53) rfl rfl
set_option maxRecDepth 100000 in
theorem sl_X12_kept : Cond.selects yX12_kept.cls yX12_kept yX12_kept ∈ mf_tbl := mf_m8 (i := 54) rfl rfl
set_option maxRecDepth 100000 in
theorem ml_L_55 : Cond.methodLink RL 55 yX11_meets ∈ mf_tbl := mf_m4 (i := 122) rfl rfl
set_option maxRecDepth 100000 in
theorem im_X11_meets : Cond.instanceMethod yX11_meets ∈ mf_tbl := mf_m4 (i := 123) rfl rfl
set_option maxRecDepth 100000 in
theorem sl_X11_meets : Cond.selects yX11_meets.cls yX11_meets yX11_meets ∈ mf_tbl := mf_m4 (i := 124) rfl rfl
set_option maxRecDepth 100000 in
theorem ml_L_58 : Cond.methodLink RL 58 yX12_meets ∈ mf_tbl := mf_m8 (i := 57) rfl rfl
set_option maxRecDepth 100000 in
theorem im_X12_meets : Cond.instanceMethod yX12_meets ∈ mf_tbl := mf_m8 (i := 58) rfl rfl
set_option maxRecDepth 100000 in
theorem sl_X12_meets : Cond.selects yX12_meets.cls yX12_meets yX12_meets ∈ mf_tbl := mf_m8 (i := 59) rfl rfl
set_option maxRecDepth 100000 in
theorem ml_L_59 : Cond.methodLink RL 59 yX11_pairs ∈ mf_tbl := mf_m4 (i := 133) rfl rfl
set_option maxRecDepth 100000 in
theorem im_X11_pairs : Cond.instanceMethod yX11_pairs ∈ mf_tbl := mf_m4 (i := 134) rfl rfl
set_option maxRecDepth 100000 in
theorem sl_X11_pairs : Cond.selects yX11_pairs.cls yX11_pairs yX11_pairs ∈ mf_tbl := mf_m4 (i := 135) rfl rfl
set_option maxRecDepth 100000 in
theorem ml_L_62 : Cond.methodLink RL 62 yX12_pairs ∈ mf_tbl := mf_m8 (i := 65) rfl rfl
set_option maxRecDepth 100000 in
theorem im_X12_pairs : Cond.instanceMethod yX12_pairs ∈ mf_tbl := mf_m8 (i := 66) rfl rfl
set_option maxRecDepth 100000 in
theorem sl_X12_pairs : Cond.selects yX12_pairs.cls yX12_pairs yX12_pairs ∈ mf_tbl := mf_m8 (i := 67) rfl rfl
set_option maxRecDepth 100000 in
theorem ml_L_63 : Cond.methodLink RL 63 yX11_apart ∈ mf_tbl := mf_m4 (i := 141) rfl rfl
set_option maxRecDepth 100000 in
theorem im_X11_apart : Cond.instanceMethod yX11_apart ∈ mf_tbl := mf_m4 (i := 142) rfl rfl
set_option maxRecDepth 100000 in
theorem sl_X11_apart : Cond.selects yX11_apart.cls yX11_apart yX11_apart ∈ mf_tbl := mf_m4 (i := 143) rfl rfl
set_option maxRecDepth 100000 in
theorem ml_L_66 : Cond.methodLink RL 66 yX12_apart ∈ mf_tbl := mf_m8 (i := 74) rfl rfl
set_option maxRecDepth 100000 in
theorem im_X12_apart : Cond.instanceMethod yX12_apart ∈ mf_tbl := mf_m8 (i := 75) rfl rfl
set_option maxRecDepth 100000 in
theorem sl_X12_apart : Cond.selects yX12_apart.cls yX12_apart yX12_apart ∈ mf_tbl := mf_m8 (i := 76) rfl rfl
set_option maxRecDepth 100000 in
theorem ml_L_67 : Cond.methodLink RL 67 yX11_reading ∈ mf_tbl := mf_m4 (i := 150) rfl rfl
set_option maxRecDepth 100000 in
theorem im_X11_reading : Cond.instanceMethod yX11_reading ∈ mf_tbl := mf_m4 (i := 151) rfl rfl
set_option maxRecDepth 100000 in
theorem sl_X11_reading : Cond.selects yX11_reading.cls yX11_reading yX11_reading ∈ mf_tbl := mf_m4 (i := 152) rfl rfl
set_option maxRecDepth 100000 in
theorem ml_L_70 : Cond.methodLink RL 70 yX12_reading ∈ mf_tbl := mf_m8 (i := 78) rfl rfl
set_option maxRecDepth 100000 in
theorem im_X12_reading : Cond.instanceMethod yX12_reading ∈ mf_tbl := mf_m8 (i := 79) rfl rfl
set_option maxRecDepth 100000 in
theorem sl_X12_reading : Cond.selects yX12_reading.cls yX12_reading yX12_reading ∈ mf_tbl := mf_m8 (i := 80) rfl rfl
set_option maxRecDepth 100000 in
theorem ml_L_71 : Cond.methodLink RL 71 yX11_later ∈ mf_tbl := mf_m4 (i := 202) rfl rfl
set_option maxRecDepth 100000 in
theorem im_X11_later : Cond.instanceMethod yX11_later ∈ mf_tbl := mf_m4 (i := 203) rfl rfl
set_option maxRecDepth 100000 in
theorem sl_X11_later : Cond.selects yX11_later.cls yX11_later yX11_later ∈ mf_tbl := mf_m4 (i := 204) rfl rfl
set_option maxRecDepth 100000 in
theorem ml_L_74 : Cond.methodLink RL 74 yX12_later ∈ mf_tbl := mf_m8 (i := 133) rfl rfl
set_option maxRecDepth 100000 in
theorem im_X12_later : Cond.instanceMethod yX12_later ∈ mf_tbl := mf_m8 (i := 134) rfl rfl
set_option maxRecDepth 100000 in
theorem sl_X12_later : Cond.selects yX12_later.cls yX12_later yX12_later ∈ mf_tbl := mf_m8 (i := 135) rfl rfl
set_option maxRecDepth 100000 in
theorem ml_L_75 : Cond.methodLink RL 75 yX11_opening ∈ mf_tbl := mf_m4 (i := 211) rfl rfl
set_option maxRecDepth 100000 in
theorem im_X11_opening : Cond.instanceMethod yX11_opening ∈ mf_tbl := mf_m4 (i := 212) rfl rfl
set_option maxRecDepth 100000 in
theorem sl_X11_opening : Cond.selects yX11_opening.cls yX11_opening yX11_opening ∈ mf_tbl := mf_m4 (i := 213) rfl rfl
set_option maxRecDepth 100000 in
theorem ml_L_78 : Cond.methodLink RL 78 yX12_opening ∈ mf_tbl := mf_m8 (i := 141) rfl rfl
set_option maxRecDepth 100000 in
theorem im_X12_opening : Cond.instanceMethod yX12_opening ∈ mf_tbl := mf_m8 (i := 142) rfl rfl
set_option maxRecDepth 100000 in
theorem sl_X12_opening : Cond.selects yX12_opening.cls yX12_opening yX12_opening ∈ mf_tbl := mf_m8 (i := 143) rfl rfl
set_option maxRecDepth 100000 in
theorem ml_L_79 : Cond.methodLink RL 79 yX11_way ∈ mf_tbl := mf_m4 (i := 215) rfl rfl
set_option maxRecDepth 100000 in
theorem im_X11_way : Cond.instanceMethod yX11_way ∈ mf_tbl := mf_m4 (i := 216) rfl rfl
set_option maxRecDepth 100000 in
theorem sl_X11_way : Cond.selects yX11_way.cls yX11_way yX11_way ∈ mf_tbl := mf_m4 (i := 217) rfl rfl
set_option maxRecDepth 100000 in
theorem ml_L_82 : Cond.methodLink RL 82 yX12_way ∈ mf_tbl := mf_m8 (i := 145) rfl rfl
set_option maxRecDepth 100000 in
theorem im_X12_way : Cond.instanceMethod yX12_way ∈ mf_tbl := mf_m8 (i := 146) rfl rfl
set_option maxRecDepth 100000 in
theorem sl_X12_way : Cond.selects yX12_way.cls yX12_way yX12_way ∈ mf_tbl := mf_m8 (i := 147) rfl rfl
set_option maxRecDepth 100000 in
theorem ml_L_83 : Cond.methodLink RL 83 yX11_see ∈ mf_tbl := mf_m4 (i := 232) rfl rfl
set_option maxRecDepth 100000 in
theorem im_X11_see : Cond.instanceMethod yX11_see ∈ mf_tbl := mf_m4 (i := 233) rfl rfl
set_option maxRecDepth 100000 in
theorem sl_X11_see : Cond.selects yX11_see.cls yX11_see yX11_see ∈ mf_tbl := mf_m4 (i := 234) rfl rfl
set_option maxRecDepth 100000 in
theorem ml_L_86 : Cond.methodLink RL 86 yX12_see ∈ mf_tbl := mf_m8 (i := 157) rfl rfl
set_option maxRecDepth 100000 in
theorem im_X12_see : Cond.instanceMethod yX12_see ∈ mf_tbl := mf_m8 (i := 158) rfl rfl
set_option maxRecDepth 100000 in
theorem sl_X12_see : Cond.selects yX12_see.cls yX12_see yX12_see ∈ mf_tbl := mf_m8 (i := 159) rfl rfl
set_option maxRecDepth 100000 in
theorem ml_L_87 : Cond.methodLink RL 87 yX11_lay ∈ mf_tbl := mf_m5 (i := 4) rfl rfl
set_option maxRecDepth 100000 in
theorem im_X11_lay : Cond.instanceMethod yX11_lay ∈ mf_tbl := mf_m5 (i := 5) rfl rfl
set_option maxRecDepth 100000 in
theorem sl_X11_lay : Cond.selects yX11_lay.cls yX11_lay yX11_lay ∈ mf_tbl := mf_m5 (i := 6) rfl rfl
set_option maxRecDepth 100000 in
theorem ml_L_90 : Cond.methodLink RL 90 yX12_lay ∈ mf_tbl := mf_m8 (i := 165) rfl rfl
set_option maxRecDepth 100000 in
theorem im_X12_lay : Cond.instanceMethod yX12_lay ∈ mf_tbl := mf_m8 (i := 166) rfl rfl
set_option maxRecDepth 100000 in
theorem sl_X12_lay : Cond.selects yX12_lay.cls yX12_lay yX12_lay ∈ mf_tbl := mf_m8 (i := 167) rfl rfl
set_option maxRecDepth 100000 in
theorem ml_L_91 : Cond.methodLink RL 91 yX11_after ∈ mf_tbl := mf_m5 (i := 17) rfl rfl
set_option maxRecDepth 100000 in
theorem im_X11_after : Cond.instanceMethod yX11_after ∈ mf_tbl := mf_m5 (i := 18) rfl rfl
set_option maxRecDepth 100000 in
theorem sl_X11_after : Cond.selects yX11_after.cls yX11_after yX11_after ∈ mf_tbl := mf_m5 (i := 19) rfl rfl
set_option maxRecDepth 100000 in
theorem ml_L_94 : Cond.methodLink RL 94 yX12_after ∈ mf_tbl := mf_m8 (i := 177) rfl rfl
set_option maxRecDepth 100000 in
theorem im_X12_after : Cond.instanceMethod yX12_after ∈ mf_tbl := mf_m8 (i := 178) rfl rfl
set_option maxRecDepth 100000 in
theorem sl_X12_after : Cond.selects yX12_after.cls yX12_after yX12_after ∈ mf_tbl := mf_m8 (i := 179) rfl rfl
set_option maxRecDepth 100000 in
theorem ml_L_95 : Cond.methodLink RL 95 yX11_trim ∈ mf_tbl := mf_m5 (i := 31) rfl rfl
set_option maxRecDepth 100000 in
theorem im_X11_trim : Cond.instanceMethod yX11_trim ∈ mf_tbl := mf_m5 (i := 32) rfl rfl
set_option maxRecDepth 100000 in
theorem sl_X11_trim : Cond.selects yX11_trim.cls yX11_trim yX11_trim ∈ mf_tbl := mf_m5 (i := 33) rfl rfl
set_option maxRecDepth 100000 in
theorem ml_L_98 : Cond.methodLink RL 98 yX12_trim ∈ mf_tbl := mf_m8 (i := 181) rfl rfl
set_option maxRecDepth 100000 in
theorem im_X12_trim : Cond.instanceMethod yX12_trim ∈ mf_tbl := mf_m8 (i := 182) rfl rfl
set_option maxRecDepth 100000 in
theorem sl_X12_trim : Cond.selects yX12_trim.cls yX12_trim yX12_trim ∈ mf_tbl := mf_m8 (i := 183) rfl rfl
set_option maxRecDepth 100000 in
theorem ml_L_99 : Cond.methodLink RL 99 yX11_go ∈ mf_tbl := mf_m5 (i := 41) rfl rfl
set_option maxRecDepth 100000 in
theorem im_X11_go : Cond.instanceMethod yX11_go ∈ mf_tbl := mf_m5 (i := 42) rfl rfl
set_option maxRecDepth 100000 in
theorem sl_X11_go : Cond.selects yX11_go.cls yX11_go yX11_go ∈ mf_tbl := mf_m5 (i := 43) rfl rfl
set_option maxRecDepth 100000 in
theorem ml_L_103 : Cond.methodLink RL 103 yX12_go ∈ mf_tbl := mf_m8 (i := 189) rfl rfl
set_option maxRecDepth 100000 in
theorem im_X12_go : Cond.instanceMethod yX12_go ∈ mf_tbl := mf_m8 (i := 190) rfl rfl
set_option maxRecDepth 100000 in
theorem sl_X12_go : Cond.selects yX12_go.cls yX12_go yX12_go ∈ mf_tbl := mf_m8 (i := 191) rfl rfl
set_option maxRecDepth 100000 in
theorem ml_L_104 : Cond.methodLink RL 104 yX11_gloss ∈ mf_tbl := mf_m5 (i := 51) rfl rfl
set_option maxRecDepth 100000 in
theorem im_X11_gloss : Cond.instanceMethod yX11_gloss ∈ mf_tbl := mf_m5 (i := 52) rfl rfl
set_option maxRecDepth 100000 in
theorem sl_X11_gloss : Cond.selects yX11_gloss.cls yX11_gloss yX11_gloss ∈ mf_tbl := mf_m5 (i := 53) rfl rfl
set_option maxRecDepth 100000 in
theorem ml_L_107 : Cond.methodLink RL 107 yX12_gloss ∈ mf_tbl := mf_m8 (i := 197) rfl rfl
set_option maxRecDepth 100000 in
theorem im_X12_gloss : Cond.instanceMethod yX12_gloss ∈ mf_tbl := mf_m8 (i := 198) rfl rfl
set_option maxRecDepth 100000 in
theorem sl_X12_gloss : Cond.selects yX12_gloss.cls yX12_gloss yX12_gloss ∈ mf_tbl := mf_m8 (i := 199) rfl rfl
set_option maxRecDepth 100000 in
theorem ml_L_108 : Cond.methodLink RL 108 yX11_days ∈ mf_tbl := mf_m5 (i := 60) rfl rfl
set_option maxRecDepth 100000 in
theorem im_X11_days : Cond.instanceMethod yX11_days ∈ mf_tbl := mf_m5 (i := 61) rfl rfl
set_option maxRecDepth 100000 in
theorem sl_X11_days : Cond.selects yX11_days.cls yX11_days yX11_days ∈ mf_tbl := mf_m5 (i := 62) rfl rfl
set_option maxRecDepth 100000 in
theorem ml_L_111 : Cond.methodLink RL 111 yX12_days ∈ mf_tbl := mf_m8 (i := 209) rfl rfl
set_option maxRecDepth 100000 in
theorem im_X12_days : Cond.instanceMethod yX12_days ∈ mf_tbl := mf_m8 (i := 210) rfl rfl
set_option maxRecDepth 100000 in
theorem sl_X12_days : Cond.selects yX12_days.cls yX12_days yX12_days ∈ mf_tbl := mf_m8 (i := 211) rfl rfl
set_option maxRecDepth 100000 in
theorem ml_L_112 : Cond.methodLink RL 112 yX11_chance ∈ mf_tbl := mf_m5 (i := 65) rfl rfl
set_option maxRecDepth 100000 in
theorem im_X11_chance : Cond.instanceMethod yX11_chance ∈ mf_tbl := mf_m5 (i := 66) rfl rfl
set_option maxRecDepth 100000 in
theorem sl_X11_chance : Cond.selects yX11_chance.cls yX11_chance yX11_chance ∈ mf_tbl := mf_m5 (i := 67) rfl rfl
set_option maxRecDepth 100000 in
theorem ml_L_115 : Cond.methodLink RL 115 yX12_chance ∈ mf_tbl := mf_m8 (i := 217) rfl rfl
set_option maxRecDepth 100000 in
theorem im_X12_chance : Cond.instanceMethod yX12_chance ∈ mf_tbl := mf_m8 (i := 218) rfl rfl
set_option maxRecDepth 100000 in
theorem sl_X12_chance : Cond.selects yX12_chance.cls yX12_chance yX12_chance ∈ mf_tbl := mf_m8 (i := 219) rfl rfl
set_option maxRecDepth 100000 in
theorem ml_L_116 : Cond.methodLink RL 116 yX11_undo ∈ mf_tbl := mf_m5 (i := 76) rfl rfl
set_option maxRecDepth 100000 in
theorem im_X11_undo : Cond.instanceMethod yX11_undo ∈ mf_tbl := mf_m5 (i := 77) rfl rfl
set_option maxRecDepth 100000 in
theorem sl_X11_undo : Cond.selects yX11_undo.cls yX11_undo yX11_undo ∈ mf_tbl := mf_m5 (i := 78) rfl rfl
set_option maxRecDepth 100000 in
theorem ml_L_120 : Cond.methodLink RL 120 yX12_undo ∈ mf_tbl := mf_m8 (i := 185) rfl rfl
set_option maxRecDepth 100000 in
theorem im_X12_undo : Cond.instanceMethod yX12_undo ∈ mf_tbl := mf_m8 (i := 186) rfl rfl
set_option maxRecDepth 100000 in
theorem sl_X12_undo : Cond.selects yX12_undo.cls yX12_undo yX12_undo ∈ mf_tbl := mf_m8 (i := 187) rfl rfl
set_option maxRecDepth 100000 in
theorem ml_L_121 : Cond.methodLink RL 121 yX11_seed ∈ mf_tbl := mf_m5 (i := 80) rfl rfl
set_option maxRecDepth 100000 in
theorem im_X11_seed : Cond.instanceMethod yX11_seed ∈ mf_tbl := mf_m5 (i := 81) rfl rfl
set_option maxRecDepth 100000 in
theorem sl_X11_seed : Cond.selects yX11_seed.cls yX11_seed yX11_seed ∈ mf_tbl := mf_m5 (i := 82) rfl rfl
set_option maxRecDepth 100000 in
theorem ml_L_124 : Cond.methodLink RL 124 yX12_seed ∈ mf_tbl := mf_m8 (i := 213) rfl rfl
set_option maxRecDepth 100000 in
theorem im_X12_seed : Cond.instanceMethod yX12_seed ∈ mf_tbl := mf_m8 (i := 214) rfl rfl
set_option maxRecDepth 100000 in
theorem sl_X12_seed : Cond.selects yX12_seed.cls yX12_seed yX12_seed ∈ mf_tbl := mf_m8 (i := 215) rfl rfl
set_option maxRecDepth 100000 in
theorem ml_L_125 : Cond.methodLink RL 125 yX11_ask ∈ mf_tbl := mf_m5 (i := 84) rfl rfl
set_option maxRecDepth 100000 in
theorem im_X11_ask : Cond.instanceMethod yX11_ask ∈ mf_tbl := mf_m5 (i := 85) rfl rfl
set_option maxRecDepth 100000 in
theorem sl_X11_ask : Cond.selects yX11_ask.cls yX11_ask yX11_ask ∈ mf_tbl := mf_m5 (i := 86) rfl rfl
set_option maxRecDepth 100000 in
theorem ml_L_129 : Cond.methodLink RL 129 yX12_ask ∈ mf_tbl := mf_m8 (i := 229) rfl rfl
set_option maxRecDepth 100000 in
theorem im_X12_ask : Cond.instanceMethod yX12_ask ∈ mf_tbl := mf_m8 (i := 230) rfl rfl
set_option maxRecDepth 100000 in
theorem sl_X12_ask : Cond.selects yX12_ask.cls yX12_ask yX12_ask ∈ mf_tbl := mf_m8 (i := 231) rfl rfl
set_option maxRecDepth 100000 in
theorem ml_L_130 : Cond.methodLink RL 130 yX11_image ∈ mf_tbl := mf_m5 (i := 109) rfl rfl
set_option maxRecDepth 100000 in
theorem im_X11_image : Cond.instanceMethod yX11_image ∈ mf_tbl := mf_m5 (i := 110) rfl rfl
set_option maxRecDepth 100000 in
theorem sl_X11_image : Cond.selects yX11_image.cls yX11_image yX11_image ∈ mf_tbl := mf_m5 (i := 111) rfl rfl
set_option maxRecDepth 100000 in
theorem ml_L_133 : Cond.methodLink RL 133 yX12_image ∈ mf_tbl := mf_m9 (i := 10) rfl rfl
set_option maxRecDepth 100000 in
theorem im_X12_image : Cond.instanceMethod yX12_image ∈ mf_tbl := mf_m9 (i := 11) rfl rfl
set_option maxRecDepth 100000 in
theorem sl_X12_image : Cond.selects yX12_image.cls yX12_image yX12_image ∈ mf_tbl := mf_m9 (i := 12) rfl rfl
set_option maxRecDepth 100000 in
theorem ml_L_134 : Cond.methodLink RL 134 yX11_octet ∈ mf_tbl := mf_m5 (i := 124) rfl rfl
set_option maxRecDepth 100000 in
theorem im_X11_octet : Cond.instanceMethod yX11_octet ∈ mf_tbl := mf_m5 (i := 125) rfl rfl
set_option maxRecDepth 100000 in
theorem sl_X11_octet : Cond.selects yX11_octet.cls yX11_octet yX11_octet ∈ mf_tbl := mf_m5 (i := 126) rfl rfl
set_option maxRecDepth 100000 in
theorem ml_L_137 : Cond.methodLink RL 137 yX12_octet ∈ mf_tbl := mf_m9 (i := 25) rfl rfl
set_option maxRecDepth 100000 in
theorem im_X12_octet : Cond.instanceMethod yX12_octet ∈ mf_tbl := mf_m9 (i := 26) rfl rfl
set_option maxRecDepth 100000 in
theorem sl_X12_octet : Cond.selects yX12_octet.cls yX12_octet yX12_octet ∈ mf_tbl := mf_m9 (i := 27) rfl rfl
set_option maxRecDepth 100000 in
theorem ml_L_138 : Cond.methodLink RL 138 yX11_on ∈ mf_tbl := mf_m5 (i := 128) rfl rfl
set_option maxRecDepth 100000 in
theorem im_X11_on : Cond.instanceMethod yX11_on ∈ mf_tbl := mf_m5 (i := 129) rfl rfl
set_option maxRecDepth 100000 in
theorem sl_X11_on : Cond.selects yX11_on.cls yX11_on yX11_on ∈ mf_tbl := mf_m5 (i := 130) rfl rfl
set_option maxRecDepth 100000 in
theorem ml_L_141 : Cond.methodLink RL 141 yX12_on ∈ mf_tbl := mf_m9 (i := 29) rfl rfl
set_option maxRecDepth 100000 in
theorem im_X12_on : Cond.instanceMethod yX12_on ∈ mf_tbl := mf_m9 (i := 30) rfl rfl
set_option maxRecDepth 100000 in
theorem sl_X12_on : Cond.selects yX12_on.cls yX12_on yX12_on ∈ mf_tbl := mf_m9 (i := 31) rfl rfl
set_option maxRecDepth 100000 in
theorem ml_L_142 : Cond.methodLink RL 142 yX11_status ∈ mf_tbl := mf_m5 (i := 149) rfl rfl
set_option maxRecDepth 100000 in
theorem im_X11_status : Cond.instanceMethod yX11_status ∈ mf_tbl := mf_m5 (i := 150) rfl rfl
set_option maxRecDepth 100000 in
theorem sl_X11_status : Cond.selects yX11_status.cls yX11_status yX11_status ∈ mf_tbl := mf_m5 (i := 151) rfl rfl
set_option maxRecDepth 100000 in
theorem ml_L_145 : Cond.methodLink RL 145 yX12_status ∈ mf_tbl := mf_m9 (i := 45) rfl rfl
set_option maxRecDepth 100000 in
theorem im_X12_status : Cond.instanceMethod yX12_status ∈ mf_tbl := mf_m9 (i := 46) rfl rfl
set_option maxRecDepth 100000 in
theorem sl_X12_status : Cond.selects yX12_status.cls yX12_status yX12_status ∈ mf_tbl := mf_m9 (i := 47) rfl rfl

def lwV (xs : Nat → Int32) (i : Int) : Int := (xs i.toNat).toInt
theorem lwV_lt (xs : Nat → Int32) (i : Int) : lwV xs i < 2147483648 := Int32.toInt_lt _
def lwX (C : mf_G) (b L : Nat) (xs : Nat → Int32) : mf_Xt := fun args s => args = #[Value.ref b] ∧ va_X b L xs s s.heap ∧ b < s.heap.size ∧ C.1.1 = s.heap.size ∧ C.1.2.2.2 = b
def lwL (j : Int) : List (Nat × mf_AV) := [(3, (0, j)), (2, (2, 245)), (1, (2, 0)), (0, (2, -3))]
def lwI (S : aS) (g h : mf_M) : Prop := mf_GX g ∧ mf_GM g ∧ RX S g h ∧ RM S h
def cX (S : aS) (v : Int) (S' : aS) : mf_Kt := fun r g h => mf_GX g ∧ mf_GM g ∧ r = v ∧ RX S' g h ∧ RM S h
def cM (v : Int) (S' : aS) : mf_Kt := fun r g h => mf_GX g ∧ mf_GM g ∧ r = v ∧ RX S' g h ∧ RM S' h
theorem mf_isS {C : mf_G} {v : Value} (hv : mf_V C 2 v (-3)) : v = .ref C.1.2.2.2 := by
  rcases hv with ⟨_, h⟩ | ⟨_, h⟩ | ⟨h, _⟩ | ⟨_, h⟩ | ⟨h, _⟩ | ⟨k, _, h⟩
  · exact absurd h (by decide)
  · exact absurd h (by decide)
  · exact h
  · exact absurd h (by decide)
  · exact absurd h (by decide)
  · exact absurd h (by omega)
section LawR
variable {C : mf_G} {l : Launch} {Y : mf_Y} {R : Room} {n0 : Nat} {Z : mf_Zt} {pc : Nat} {lv : List (Nat × mf_AV)} {st : List mf_AV} {n : Nat} {g h : mf_M} {b L : Nat} {xs : Nat → Int32}
theorem mf_sld {i i' : Int} (hd : decode Y.2.1 pc = .ok (.iaload, 1)) (he : i = i') (h0 : 0 ≤ i') (h1 : i' < L) (kk : mf_AW C l Y R n0 Z (lwX C b L xs) (pc + 1) lv ((0, lwV xs i') :: st) n g h) : mf_AW C l Y R n0 Z (lwX C b L xs) pc lv ((0, i) :: (2, -3) :: st) n g h := by
  subst he
  intro p e s m args below meth c H locs ls sv lc hC hX hl hL hS hR hF hn
  obtain ⟨vi, w, sv1, rfl, ⟨j, rfl, hj⟩, hw1, hS1⟩ := mf_S2 hS
  have hw := mf_isS hw1
  obtain ⟨ha, hx, hbl, hcb, hsc⟩ := id hX
  rw [hsc] at hw
  subst hw
  have hc : j.toNatClampNeg = i.toNat := mf_clamp hj h0
  refine va_sld (A := fun q : Nat => C.1.1 ≤ q) hC.1 hC.2.1 hx hbl (by rw [hcb]; exact Nat.not_le.mpr hbl) hF (vp_in_iff.mpr ⟨by omega, by omega⟩) hd ?_
  exact kk p e s m args below meth c H locs ls _ lc hC hX hl hL ⟨⟨_, rfl, by unfold lwV; rw [hc]⟩, hS1⟩ hR hF hn
theorem mf_slen (hd : decode Y.2.1 pc = .ok (.arraylength, 1)) (hL3 : L ≤ 3072) (kk : mf_AW C l Y R n0 Z (lwX C b L xs) (pc + 1) lv ((0, (L : Int)) :: st) n g h) : mf_AW C l Y R n0 Z (lwX C b L xs) pc lv ((2, -3) :: st) n g h := by
  intro p e s m args below meth c H locs ls sv lc hC hX hl hL hS hR hF hn
  obtain ⟨w, sv1, rfl, hw1, hS1⟩ := mf_S1 hS
  have hw := mf_isS hw1
  obtain ⟨ha, hx, hbl, hcb, hsc⟩ := id hX
  rw [hsc] at hw
  subst hw
  refine va_slen (A := fun q : Nat => C.1.1 ≤ q) hC.1 hC.2.1 hx hbl (by rw [hcb]; exact Nat.not_le.mpr hbl) hF hd ?_
  exact kk p e s m args below meth c H locs ls _ lc hC hX hl hL ⟨⟨_, rfl, Int32.toInt_ofNat_of_lt (by omega)⟩, hS1⟩ hR hF hn
end LawR
theorem lw_sl : mf_sl 319 ≤ 7302250 := by decide +kernel
theorem lw_room : mf_room room_1 200 0 319 := ⟨by decide, by decide, by decide, Nat.le_trans (Nat.sub_le _ _) lw_sl⟩
theorem lw_end {C : mf_G} {l : Launch} {pc : Nat} {lv : List (Nat × mf_AV)} {g h : mf_M} {b L : Nat} {xs : Nat → Int32} (hd : decode code pc = .ok (.ireturn, 1)) : mf_AW C l YL_law room_1 0 lw_Z (lwX C b L xs) pc lv [(0, 1)] 319 g h := by
  intro p e s m args below meth c H locs ls sv lc hC hX hl hL hS hR hF hn
  obtain ⟨hx, hb, hml, hrt, hlk, _⟩ := hC
  obtain ⟨rfl, hX1, hbl, hcb, hsc⟩ := hX
  obtain ⟨v, sv1, rfl, ⟨y, rfl, hy⟩, hS1⟩ := mf_S1 hS
  have e1 : y = 1 := mf_toI (by rw [hy]; decide)
  subst e1
  cases sv1 with
  | cons a q => exact hS1.elim
  | nil =>
    refine va_forget (fun q hq => by rw [← hcb]; exact hF.2.2 q hq) ?_
    refine W.widen (k := 600000) (n := 7302250) (by decide) (Nat.le_trans (Nat.sub_le _ _) lw_sl) ?_
    exact lw_ret hx hb hrt hlk hd
/-! both keep what is the other's -/
theorem RX.frX {S : aS} {g h h' : mf_M} (R : RX S g h) (f : frX h h') : RX S g h' := by
  have hf := R.fi
  exact ⟨R.ok, R.cf, by rw [f 3 (by decide)]; exact R.tn, by rw [f 4 (by decide)]; exact R.tp, by rw [f 0 (by decide)]; exact R.fa, by rw [f 0 (by decide)]; exact R.pl, by rw [f 243 (by decide)]; exact R.rf, R.wd.keep (f 2 (by decide)), R.fo.keep (fun x h1 h2 => f x (by omega)), R.vik (fun a a1 a2 => f a (by omega)), R.kp.keep (by rw [f 88 (by decide)]) (f _ (by decide)), by rw [f 88 (by decide)]; exact R.kb, by rw [f 0 (by decide)]; exact R.un, by rw [f 0 (by decide)]; exact R.nx, R.usk (fun a a1 a2 => f a (by omega)), by rw [f 51 (by decide)]; exact R.sn, by rw [f 65 (by decide), f 66 (by decide)]; exact R.ss, by rw [f 0 (by decide)]; exact R.sd, by rw [f 0 (by decide)]; exact R.oc, by rw [f 244 (by decide)]; exact R.os, R.trk (fun a a1 a2 => f a (by omega))⟩
theorem RM.frH {S : aS} {h h' : mf_M} (R : RM S h) (f : frH h h') : RM S h' := by
  exact ⟨R.ok, by rw [f 245 (by decide)]; exact R.tn, by rw [f 246 (by decide)]; exact R.tp, by rw [f 245 (by decide)]; exact R.fa, by rw [f 245 (by decide)]; exact R.pl, by rw [f 247 (by decide)]; exact R.rf, R.wd.keep (fun a ha => f a (by omega)), R.fo.keep (fun a ha => f a (by simp only [List.mem_cons, List.not_mem_nil, or_false] at ha; omega)) (fun k _ => by rw [f 245 (by decide)]), by rw [vM_row (f 286 (by decide))]; exact R.vi, R.kp.row (f 286 (by decide)), by rw [f 245 (by decide)]; exact R.th, by rw [f 245 (by decide)]; exact R.un, by rw [f 245 (by decide)]; exact R.nx, fun j hj => ⟨by rw [vM_row (f 292 (by decide))]; exact (R.us j hj).1, (R.us j hj).2.row (f 292 (by decide))⟩, by rw [f 245 (by decide)]; exact R.sn, by rw [f 290 (by decide)]; exact R.ss, by rw [f 245 (by decide)]; exact R.sd, by rw [f 245 (by decide)]; exact R.oc, by rw [f 318 (by decide)]; exact R.os, by rw [f 245 (by decide)]; exact R.ao⟩
section LawP
variable {C : mf_G} {l : Launch} {d : Nat} {Y : mf_Y} {as : List mf_AV} {S S' : aS} {v : Int} {g h : mf_M}
theorem toXA (I : lwI S g h) (c : ∀ K : mf_Kt, (∀ h', RX S' g h' → frH h h' → K v g h') → xM C l d Y as g h K) : mf_MT C l d Y as 319 319 g h (cX S v S') :=
  mf_MT.mono (fun r g' h' q => ⟨q.1, q.2⟩) (c (fun r g' h' => mf_GM g' ∧ r = v ∧ RX S' g' h' ∧ RM S h') (fun h' R' f' => ⟨I.2.1, rfl, R', I.2.2.2.frH f'⟩) I.1)
theorem toXB (I : lwI S g h) (c : ∀ K : mf_Kt, K v g h → xM C l d Y as g h K) : mf_MT C l d Y as 319 319 g h (cX S v S) :=
  mf_MT.mono (fun r g' h' q => ⟨q.1, q.2⟩) (c (fun r g' h' => mf_GM g' ∧ r = v ∧ RX S g' h' ∧ RM S h') ⟨I.2.1, rfl, I.2.2.1, I.2.2.2⟩ I.1)
theorem toXC (I : lwI S g h) (c : ∀ K : mf_Kt, (∀ g' h', RX S' g' h' → frH h h' → (∀ a, a ≠ 0 → a ≠ 10 → a ≠ 45 → g' a = g a) → K v g' h') → xM C l d Y as g h K) : mf_MT C l d Y as 319 319 g h (cX S v S') :=
  mf_MT.mono (fun r g' h' q => ⟨q.1, q.2⟩) (c (fun r g' h' => mf_GM g' ∧ r = v ∧ RX S' g' h' ∧ RM S h') (fun g' h' R' f' fg => ⟨fun q hq => by rw [fg 245 (by decide) (by decide) (by decide)]; exact I.2.1 q hq, rfl, R', I.2.2.2.frH f'⟩) I.1)
theorem toMA {w r0 : Int} (J : cX S w S' r0 g h) (c : ∀ K : Int → mf_M → Prop, (∀ h', RM S' h' → frX h h' → K v h') → mM C l d Y as h K) : mf_MT C l d Y as 319 319 g h (cM v S') :=
  mf_MT.mono (fun r g' h' q => ⟨by rw [q.1]; exact J.1, by rw [q.1]; exact J.2.1, q.2.1, by rw [q.1]; exact q.2.2.1, q.2.2.2⟩) (c (fun r h' => r = v ∧ RX S' g h' ∧ RM S' h') (fun h' R' f' => ⟨rfl, J.2.2.2.1.frX f', R'⟩) g J.2.1)
theorem toMB {w r0 : Int} (J : cX S w S r0 g h) (c : ∀ K : Int → mf_M → Prop, K v h → mM C l d Y as h K) : mf_MT C l d Y as 319 319 g h (cM v S) :=
  mf_MT.mono (fun r g' h' q => ⟨by rw [q.1]; exact J.1, by rw [q.1]; exact J.2.1, q.2.1, by rw [q.1]; exact q.2.2.1, q.2.2.2⟩) (c (fun r h' => r = v ∧ RX S g h' ∧ RM S h') ⟨rfl, J.2.2.2.1, J.2.2.2.2⟩ g J.2.1)
end LawP
