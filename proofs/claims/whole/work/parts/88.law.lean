def m_swl : List Nat := [140, 232, 324, 428, 496, 576, 644, 712, 760, 816, 884, 947, 1003, 1059, 1127, 1195, 1251, 1264, 1332, 1388, 1444]
def m_swt (x : Int32) : Option Nat := if x.toInt < 0 ∨ 20 < x.toInt then some 1457 else m_swl[x.toInt.toNat]?
theorem m_swt_ok : ∀ (x : Int32) (tg : Nat), m_swt x = some tg → ((x.toInt < 0 ∨ 20 < x.toInt) ∧ ((40 : Nat) : Int) + (1417) = (tg : Int)) ∨ (¬ x.toInt < 0 ∧ ¬ 20 < x.toInt ∧ ∃ off : Int, (#[100, 192, 284, 388, 456, 536, 604, 672, 720, 776, 844, 907, 963, 1019, 1087, 1155, 1211, 1224, 1292, 1348, 1404] : Array Int)[(x.toInt - 0).toNat]? = some off ∧ ((40 : Nat) : Int) + off = (tg : Int)) := by
  intro x tg h
  unfold m_swt at h
  split at h
  · rename_i hx
    cases h
    exact Or.inl ⟨hx, by decide⟩
  · rename_i hx
    refine Or.inr ⟨fun z => hx (Or.inl z), fun z => hx (Or.inr z), (tg : Int) - 40, ?_, by omega⟩
    rw [Int.sub_zero]
    have hk : x.toInt.toNat < 21 := by omega
    have hall : ∀ k : Fin 21, (#[100, 192, 284, 388, 456, 536, 604, 672, 720, 776, 844, 907, 963, 1019, 1087, 1155, 1211, 1224, 1292, 1348, 1404] : Array Int)[k.val]? = (m_swl[k.val]?).map (fun t => (t : Int) - 40) := by decide +kernel
    have := hall ⟨x.toInt.toNat, hk⟩
    rw [h] at this
    exact this
def dl_L_law_0 : List (Nat × Instr × Nat) := [(0, .new 8, 3), (3, .dup, 1), (4, .invokespecial 79, 3), (7, .astore_n 1, 1), (8, .new 80, 3), (11, .dup, 1), (12, .invokespecial 82, 3), (15, .astore_n 2, 1), (16, .iconst 1, 1), (17, .newarray .long, 2), (19, .astore_n 3, 1), (20, .iconst 0, 1), (21, .istore 4, 2), (23, .iload 4, 2), (25, .aload_n 0, 1), (26, .arraylength, 1), (27, .bipush 6, 2), (29, .isub, 1), (30, .if_icmp .gt 1433, 3), (33, .aload_n 0, 1), (34, .iload 4, 2), (36, .iaload, 1), (37, .bipush 31, 2), (39, .iand, 1), (40, .tableswitch 1417 0 20 #[100, 192, 284, 388, 456, 536, 604, 672, 720, 776, 844, 907, 963, 1019, 1087, 1155, 1211, 1224, 1292, 1348, 1404], 100), (140, .aload_n 1, 1), (141, .aload_n 0, 1), (142, .iload 4, 2), (144, .iconst 1, 1), (145, .iadd, 1)]
theorem dk_L_law_0 : ∀ q ∈ dl_L_law_0, decode cL_law q.1 = .ok q.2 := by decide +kernel
def dl_L_law_1 : List (Nat × Instr × Nat) := [(146, .iaload, 1), (147, .aload_n 0, 1), (148, .iload 4, 2), (150, .iconst 2, 1), (151, .iadd, 1), (152, .iaload, 1), (153, .aload_n 0, 1), (154, .iload 4, 2), (156, .iconst 3, 1), (157, .iadd, 1), (158, .iaload, 1), (159, .aload_n 0, 1), (160, .iload 4, 2), (162, .iconst 4, 1), (163, .iadd, 1), (164, .iaload, 1), (165, .aload_n 3, 1), (166, .invokestatic 83, 3), (169, .istore 5, 2), (171, .aload_n 2, 1), (172, .aload_n 0, 1), (173, .iload 4, 2), (175, .iconst 1, 1), (176, .iadd, 1), (177, .iaload, 1), (178, .aload_n 0, 1), (179, .iload 4, 2), (181, .iconst 2, 1), (182, .iadd, 1), (183, .iaload, 1)]
theorem dk_L_law_1 : ∀ q ∈ dl_L_law_1, decode cL_law q.1 = .ok q.2 := by decide +kernel
def dl_L_law_2 : List (Nat × Instr × Nat) := [(184, .aload_n 0, 1), (185, .iload 4, 2), (187, .iconst 3, 1), (188, .iadd, 1), (189, .iaload, 1), (190, .aload_n 0, 1), (191, .iload 4, 2), (193, .iconst 4, 1), (194, .iadd, 1), (195, .iaload, 1), (196, .invokevirtual 88, 3), (199, .istore 6, 2), (201, .aload_n 2, 1), (202, .invokevirtual 89, 3), (205, .iload 5, 2), (207, .if_icmp .eq 5, 3), (210, .iconst 0, 1), (211, .ireturn, 1), (212, .iload 5, 2), (214, .ifCond .ne 15, 3), (217, .aload_n 3, 1), (218, .iconst 0, 1), (219, .laload, 1), (220, .iload 6, 2), (222, .i2l, 1), (223, .lcmp, 1), (224, .ifCond .eq 5, 3), (227, .iconst 0, 1), (228, .ireturn, 1), (229, .goto 1228, 3)]
theorem dk_L_law_2 : ∀ q ∈ dl_L_law_2, decode cL_law q.1 = .ok q.2 := by decide +kernel
def dl_L_law_3 : List (Nat × Instr × Nat) := [(232, .aload_n 1, 1), (233, .aload_n 0, 1), (234, .iload 4, 2), (236, .iconst 1, 1), (237, .iadd, 1), (238, .iaload, 1), (239, .aload_n 0, 1), (240, .iload 4, 2), (242, .iconst 2, 1), (243, .iadd, 1), (244, .iaload, 1), (245, .aload_n 0, 1), (246, .iload 4, 2), (248, .iconst 3, 1), (249, .iadd, 1), (250, .iaload, 1), (251, .aload_n 0, 1), (252, .iload 4, 2), (254, .iconst 4, 1), (255, .iadd, 1), (256, .iaload, 1), (257, .aload_n 3, 1), (258, .invokestatic 93, 3), (261, .istore 5, 2), (263, .aload_n 2, 1), (264, .aload_n 0, 1), (265, .iload 4, 2), (267, .iconst 1, 1), (268, .iadd, 1), (269, .iaload, 1)]
theorem dk_L_law_3 : ∀ q ∈ dl_L_law_3, decode cL_law q.1 = .ok q.2 := by decide +kernel
def dl_L_law_4 : List (Nat × Instr × Nat) := [(270, .aload_n 0, 1), (271, .iload 4, 2), (273, .iconst 2, 1), (274, .iadd, 1), (275, .iaload, 1), (276, .aload_n 0, 1), (277, .iload 4, 2), (279, .iconst 3, 1), (280, .iadd, 1), (281, .iaload, 1), (282, .aload_n 0, 1), (283, .iload 4, 2), (285, .iconst 4, 1), (286, .iadd, 1), (287, .iaload, 1), (288, .invokevirtual 95, 3), (291, .istore 6, 2), (293, .aload_n 2, 1), (294, .invokevirtual 89, 3), (297, .iload 5, 2), (299, .if_icmp .eq 5, 3), (302, .iconst 0, 1), (303, .ireturn, 1), (304, .iload 5, 2), (306, .ifCond .ne 15, 3), (309, .aload_n 3, 1), (310, .iconst 0, 1), (311, .laload, 1), (312, .iload 6, 2), (314, .i2l, 1)]
theorem dk_L_law_4 : ∀ q ∈ dl_L_law_4, decode cL_law q.1 = .ok q.2 := by decide +kernel
def dl_L_law_5 : List (Nat × Instr × Nat) := [(315, .lcmp, 1), (316, .ifCond .eq 5, 3), (319, .iconst 0, 1), (320, .ireturn, 1), (321, .goto 1136, 3), (324, .aload_n 1, 1), (325, .aload_n 0, 1), (326, .iload 4, 2), (328, .iconst 1, 1), (329, .iadd, 1), (330, .iaload, 1), (331, .aload_n 0, 1), (332, .iload 4, 2), (334, .iconst 2, 1), (335, .iadd, 1), (336, .iaload, 1), (337, .aload_n 0, 1), (338, .iload 4, 2), (340, .iconst 3, 1), (341, .iadd, 1), (342, .iaload, 1), (343, .aload_n 0, 1), (344, .iload 4, 2), (346, .iconst 4, 1), (347, .iadd, 1), (348, .iaload, 1), (349, .aload_n 0, 1), (350, .iload 4, 2), (352, .iconst 5, 1), (353, .iadd, 1)]
theorem dk_L_law_5 : ∀ q ∈ dl_L_law_5, decode cL_law q.1 = .ok q.2 := by decide +kernel
def dl_L_law_6 : List (Nat × Instr × Nat) := [(354, .iaload, 1), (355, .aload_n 3, 1), (356, .invokestatic 96, 3), (359, .istore 5, 2), (361, .aload_n 2, 1), (362, .aload_n 0, 1), (363, .iload 4, 2), (365, .iconst 1, 1), (366, .iadd, 1), (367, .iaload, 1), (368, .aload_n 0, 1), (369, .iload 4, 2), (371, .iconst 2, 1), (372, .iadd, 1), (373, .iaload, 1), (374, .aload_n 0, 1), (375, .iload 4, 2), (377, .iconst 3, 1), (378, .iadd, 1), (379, .iaload, 1), (380, .aload_n 0, 1), (381, .iload 4, 2), (383, .iconst 4, 1), (384, .iadd, 1), (385, .iaload, 1), (386, .aload_n 0, 1), (387, .iload 4, 2), (389, .iconst 5, 1), (390, .iadd, 1), (391, .iaload, 1)]
theorem dk_L_law_6 : ∀ q ∈ dl_L_law_6, decode cL_law q.1 = .ok q.2 := by decide +kernel
def dl_L_law_7 : List (Nat × Instr × Nat) := [(392, .invokevirtual 99, 3), (395, .istore 6, 2), (397, .aload_n 2, 1), (398, .invokevirtual 89, 3), (401, .iload 5, 2), (403, .if_icmp .eq 5, 3), (406, .iconst 0, 1), (407, .ireturn, 1), (408, .iload 5, 2), (410, .ifCond .ne 15, 3), (413, .aload_n 3, 1), (414, .iconst 0, 1), (415, .laload, 1), (416, .iload 6, 2), (418, .i2l, 1), (419, .lcmp, 1), (420, .ifCond .eq 5, 3), (423, .iconst 0, 1), (424, .ireturn, 1), (425, .goto 1032, 3), (428, .aload_n 1, 1), (429, .aload_n 0, 1), (430, .iload 4, 2), (432, .iconst 1, 1), (433, .iadd, 1), (434, .iaload, 1), (435, .aload_n 0, 1), (436, .iload 4, 2), (438, .iconst 2, 1), (439, .iadd, 1)]
theorem dk_L_law_7 : ∀ q ∈ dl_L_law_7, decode cL_law q.1 = .ok q.2 := by decide +kernel
def dl_L_law_8 : List (Nat × Instr × Nat) := [(440, .iaload, 1), (441, .aload_n 3, 1), (442, .invokestatic 100, 3), (445, .istore 5, 2), (447, .aload_n 2, 1), (448, .aload_n 0, 1), (449, .iload 4, 2), (451, .iconst 1, 1), (452, .iadd, 1), (453, .iaload, 1), (454, .aload_n 0, 1), (455, .iload 4, 2), (457, .iconst 2, 1), (458, .iadd, 1), (459, .iaload, 1), (460, .invokevirtual 103, 3), (463, .istore 6, 2), (465, .aload_n 2, 1), (466, .invokevirtual 89, 3), (469, .iload 5, 2), (471, .if_icmp .eq 5, 3), (474, .iconst 0, 1), (475, .ireturn, 1), (476, .iload 5, 2), (478, .ifCond .ne 15, 3), (481, .aload_n 3, 1), (482, .iconst 0, 1), (483, .laload, 1), (484, .iload 6, 2), (486, .i2l, 1)]
theorem dk_L_law_8 : ∀ q ∈ dl_L_law_8, decode cL_law q.1 = .ok q.2 := by decide +kernel
def dl_L_law_9 : List (Nat × Instr × Nat) := [(487, .lcmp, 1), (488, .ifCond .eq 5, 3), (491, .iconst 0, 1), (492, .ireturn, 1), (493, .goto 964, 3), (496, .aload_n 1, 1), (497, .aload_n 0, 1), (498, .iload 4, 2), (500, .iconst 1, 1), (501, .iadd, 1), (502, .iaload, 1), (503, .aload_n 0, 1), (504, .iload 4, 2), (506, .iconst 2, 1), (507, .iadd, 1), (508, .iaload, 1), (509, .aload_n 0, 1), (510, .iload 4, 2), (512, .iconst 3, 1), (513, .iadd, 1), (514, .iaload, 1), (515, .aload_n 3, 1), (516, .invokestatic 104, 3), (519, .istore 5, 2), (521, .aload_n 2, 1), (522, .aload_n 0, 1), (523, .iload 4, 2), (525, .iconst 1, 1), (526, .iadd, 1), (527, .iaload, 1)]
theorem dk_L_law_9 : ∀ q ∈ dl_L_law_9, decode cL_law q.1 = .ok q.2 := by decide +kernel
def dl_L_law_10 : List (Nat × Instr × Nat) := [(528, .aload_n 0, 1), (529, .iload 4, 2), (531, .iconst 2, 1), (532, .iadd, 1), (533, .iaload, 1), (534, .aload_n 0, 1), (535, .iload 4, 2), (537, .iconst 3, 1), (538, .iadd, 1), (539, .iaload, 1), (540, .invokevirtual 107, 3), (543, .istore 6, 2), (545, .aload_n 2, 1), (546, .invokevirtual 89, 3), (549, .iload 5, 2), (551, .if_icmp .eq 5, 3), (554, .iconst 0, 1), (555, .ireturn, 1), (556, .iload 5, 2), (558, .ifCond .ne 15, 3), (561, .aload_n 3, 1), (562, .iconst 0, 1), (563, .laload, 1), (564, .iload 6, 2), (566, .i2l, 1), (567, .lcmp, 1), (568, .ifCond .eq 5, 3), (571, .iconst 0, 1), (572, .ireturn, 1), (573, .goto 884, 3)]
theorem dk_L_law_10 : ∀ q ∈ dl_L_law_10, decode cL_law q.1 = .ok q.2 := by decide +kernel
def dl_L_law_11 : List (Nat × Instr × Nat) := [(576, .aload_n 1, 1), (577, .aload_n 0, 1), (578, .iload 4, 2), (580, .iconst 1, 1), (581, .iadd, 1), (582, .iaload, 1), (583, .aload_n 0, 1), (584, .iload 4, 2), (586, .iconst 2, 1), (587, .iadd, 1), (588, .iaload, 1), (589, .aload_n 3, 1), (590, .invokestatic 108, 3), (593, .istore 5, 2), (595, .aload_n 2, 1), (596, .aload_n 0, 1), (597, .iload 4, 2), (599, .iconst 1, 1), (600, .iadd, 1), (601, .iaload, 1), (602, .aload_n 0, 1), (603, .iload 4, 2), (605, .iconst 2, 1), (606, .iadd, 1), (607, .iaload, 1), (608, .invokevirtual 110, 3), (611, .istore 6, 2), (613, .aload_n 2, 1), (614, .invokevirtual 89, 3), (617, .iload 5, 2)]
theorem dk_L_law_11 : ∀ q ∈ dl_L_law_11, decode cL_law q.1 = .ok q.2 := by decide +kernel
def dl_L_law_12 : List (Nat × Instr × Nat) := [(619, .if_icmp .eq 5, 3), (622, .iconst 0, 1), (623, .ireturn, 1), (624, .iload 5, 2), (626, .ifCond .ne 15, 3), (629, .aload_n 3, 1), (630, .iconst 0, 1), (631, .laload, 1), (632, .iload 6, 2), (634, .i2l, 1), (635, .lcmp, 1), (636, .ifCond .eq 5, 3), (639, .iconst 0, 1), (640, .ireturn, 1), (641, .goto 816, 3), (644, .aload_n 1, 1), (645, .aload_n 0, 1), (646, .iload 4, 2), (648, .iconst 1, 1), (649, .iadd, 1), (650, .iaload, 1), (651, .aload_n 0, 1), (652, .iload 4, 2), (654, .iconst 2, 1), (655, .iadd, 1), (656, .iaload, 1), (657, .aload_n 3, 1), (658, .invokestatic 111, 3), (661, .istore 5, 2), (663, .aload_n 2, 1)]
theorem dk_L_law_12 : ∀ q ∈ dl_L_law_12, decode cL_law q.1 = .ok q.2 := by decide +kernel
def dl_L_law_13 : List (Nat × Instr × Nat) := [(664, .aload_n 0, 1), (665, .iload 4, 2), (667, .iconst 1, 1), (668, .iadd, 1), (669, .iaload, 1), (670, .aload_n 0, 1), (671, .iload 4, 2), (673, .iconst 2, 1), (674, .iadd, 1), (675, .iaload, 1), (676, .invokevirtual 113, 3), (679, .istore 6, 2), (681, .aload_n 2, 1), (682, .invokevirtual 89, 3), (685, .iload 5, 2), (687, .if_icmp .eq 5, 3), (690, .iconst 0, 1), (691, .ireturn, 1), (692, .iload 5, 2), (694, .ifCond .ne 15, 3), (697, .aload_n 3, 1), (698, .iconst 0, 1), (699, .laload, 1), (700, .iload 6, 2), (702, .i2l, 1), (703, .lcmp, 1), (704, .ifCond .eq 5, 3), (707, .iconst 0, 1), (708, .ireturn, 1), (709, .goto 748, 3)]
theorem dk_L_law_13 : ∀ q ∈ dl_L_law_13, decode cL_law q.1 = .ok q.2 := by decide +kernel
def dl_L_law_14 : List (Nat × Instr × Nat) := [(712, .aload_n 1, 1), (713, .aload_n 0, 1), (714, .iload 4, 2), (716, .iconst 1, 1), (717, .iadd, 1), (718, .iaload, 1), (719, .aload_n 0, 1), (720, .iload 4, 2), (722, .iconst 2, 1), (723, .iadd, 1), (724, .iaload, 1), (725, .invokestatic 114, 3), (728, .istore 5, 2), (730, .aload_n 2, 1), (731, .aload_n 0, 1), (732, .iload 4, 2), (734, .iconst 1, 1), (735, .iadd, 1), (736, .iaload, 1), (737, .aload_n 0, 1), (738, .iload 4, 2), (740, .iconst 2, 1), (741, .iadd, 1), (742, .iaload, 1), (743, .invokevirtual 117, 3), (746, .aload_n 2, 1), (747, .invokevirtual 89, 3), (750, .iload 5, 2), (752, .if_icmp .eq 5, 3), (755, .iconst 0, 1)]
theorem dk_L_law_14 : ∀ q ∈ dl_L_law_14, decode cL_law q.1 = .ok q.2 := by decide +kernel
def dl_L_law_15 : List (Nat × Instr × Nat) := [(756, .ireturn, 1), (757, .goto 700, 3), (760, .aload_n 1, 1), (761, .aload_n 0, 1), (762, .iload 4, 2), (764, .iconst 1, 1), (765, .iadd, 1), (766, .iaload, 1), (767, .aload_n 3, 1), (768, .invokestatic 118, 3), (771, .istore 5, 2), (773, .aload_n 2, 1), (774, .aload_n 0, 1), (775, .iload 4, 2), (777, .iconst 1, 1), (778, .iadd, 1), (779, .iaload, 1), (780, .invokevirtual 121, 3), (783, .istore 6, 2), (785, .aload_n 2, 1), (786, .invokevirtual 89, 3), (789, .iload 5, 2), (791, .if_icmp .eq 5, 3), (794, .iconst 0, 1), (795, .ireturn, 1), (796, .iload 5, 2), (798, .ifCond .ne 15, 3), (801, .aload_n 3, 1), (802, .iconst 0, 1), (803, .laload, 1)]
theorem dk_L_law_15 : ∀ q ∈ dl_L_law_15, decode cL_law q.1 = .ok q.2 := by decide +kernel
def dl_L_law_16 : List (Nat × Instr × Nat) := [(804, .iload 6, 2), (806, .i2l, 1), (807, .lcmp, 1), (808, .ifCond .eq 5, 3), (811, .iconst 0, 1), (812, .ireturn, 1), (813, .goto 644, 3), (816, .aload_n 1, 1), (817, .aload_n 0, 1), (818, .iload 4, 2), (820, .iconst 1, 1), (821, .iadd, 1), (822, .iaload, 1), (823, .aload_n 0, 1), (824, .iload 4, 2), (826, .iconst 2, 1), (827, .iadd, 1), (828, .iaload, 1), (829, .aload_n 3, 1), (830, .invokestatic 122, 3), (833, .istore 5, 2), (835, .aload_n 2, 1), (836, .aload_n 0, 1), (837, .iload 4, 2), (839, .iconst 1, 1), (840, .iadd, 1), (841, .iaload, 1), (842, .aload_n 0, 1), (843, .iload 4, 2), (845, .iconst 2, 1)]
theorem dk_L_law_16 : ∀ q ∈ dl_L_law_16, decode cL_law q.1 = .ok q.2 := by decide +kernel
def dl_L_law_17 : List (Nat × Instr × Nat) := [(846, .iadd, 1), (847, .iaload, 1), (848, .invokevirtual 124, 3), (851, .istore 6, 2), (853, .aload_n 2, 1), (854, .invokevirtual 89, 3), (857, .iload 5, 2), (859, .if_icmp .eq 5, 3), (862, .iconst 0, 1), (863, .ireturn, 1), (864, .iload 5, 2), (866, .ifCond .ne 15, 3), (869, .aload_n 3, 1), (870, .iconst 0, 1), (871, .laload, 1), (872, .iload 6, 2), (874, .i2l, 1), (875, .lcmp, 1), (876, .ifCond .eq 5, 3), (879, .iconst 0, 1), (880, .ireturn, 1), (881, .goto 576, 3), (884, .aload_n 1, 1), (885, .aload_n 0, 1), (886, .iload 4, 2), (888, .iconst 1, 1), (889, .iadd, 1), (890, .iaload, 1), (891, .aload_n 3, 1), (892, .invokestatic 125, 3)]
theorem dk_L_law_17 : ∀ q ∈ dl_L_law_17, decode cL_law q.1 = .ok q.2 := by decide +kernel
def dl_L_law_18 : List (Nat × Instr × Nat) := [(895, .istore 5, 2), (897, .aload_n 2, 1), (898, .aload_n 0, 1), (899, .iload 4, 2), (901, .iconst 1, 1), (902, .iadd, 1), (903, .iaload, 1), (904, .invokevirtual 127, 3), (907, .istore 6, 2), (909, .aload_n 2, 1), (910, .invokevirtual 89, 3), (913, .iload 5, 2), (915, .if_icmp .eq 5, 3), (918, .iconst 0, 1), (919, .ireturn, 1), (920, .iload 5, 2), (922, .ifCond .ne 22, 3), (925, .aload_n 3, 1), (926, .iconst 0, 1), (927, .laload, 1), (928, .iload 6, 2), (930, .ifCond .eq 7, 3), (933, .lconst 1, 1), (934, .goto 4, 3), (937, .lconst 0, 1), (938, .lcmp, 1), (939, .ifCond .eq 5, 3), (942, .iconst 0, 1), (943, .ireturn, 1), (944, .goto 513, 3)]
theorem dk_L_law_18 : ∀ q ∈ dl_L_law_18, decode cL_law q.1 = .ok q.2 := by decide +kernel
def dl_L_law_19 : List (Nat × Instr × Nat) := [(947, .aload_n 1, 1), (948, .aload_n 0, 1), (949, .iload 4, 2), (951, .iconst 1, 1), (952, .iadd, 1), (953, .iaload, 1), (954, .aload_n 3, 1), (955, .invokestatic 128, 3), (958, .istore 5, 2), (960, .aload_n 2, 1), (961, .aload_n 0, 1), (962, .iload 4, 2), (964, .iconst 1, 1), (965, .iadd, 1), (966, .iaload, 1), (967, .invokevirtual 130, 3), (970, .istore 6, 2), (972, .aload_n 2, 1), (973, .invokevirtual 89, 3), (976, .iload 5, 2), (978, .if_icmp .eq 5, 3), (981, .iconst 0, 1), (982, .ireturn, 1), (983, .iload 5, 2), (985, .ifCond .ne 15, 3), (988, .aload_n 3, 1), (989, .iconst 0, 1), (990, .laload, 1), (991, .iload 6, 2), (993, .i2l, 1)]
theorem dk_L_law_19 : ∀ q ∈ dl_L_law_19, decode cL_law q.1 = .ok q.2 := by decide +kernel
def dl_L_law_20 : List (Nat × Instr × Nat) := [(994, .lcmp, 1), (995, .ifCond .eq 5, 3), (998, .iconst 0, 1), (999, .ireturn, 1), (1000, .goto 457, 3), (1003, .aload_n 1, 1), (1004, .aload_n 0, 1), (1005, .iload 4, 2), (1007, .iconst 1, 1), (1008, .iadd, 1), (1009, .iaload, 1), (1010, .aload_n 3, 1), (1011, .invokestatic 131, 3), (1014, .istore 5, 2), (1016, .aload_n 2, 1), (1017, .aload_n 0, 1), (1018, .iload 4, 2), (1020, .iconst 1, 1), (1021, .iadd, 1), (1022, .iaload, 1), (1023, .invokevirtual 133, 3), (1026, .istore 6, 2), (1028, .aload_n 2, 1), (1029, .invokevirtual 89, 3), (1032, .iload 5, 2), (1034, .if_icmp .eq 5, 3), (1037, .iconst 0, 1), (1038, .ireturn, 1), (1039, .iload 5, 2), (1041, .ifCond .ne 15, 3)]
theorem dk_L_law_20 : ∀ q ∈ dl_L_law_20, decode cL_law q.1 = .ok q.2 := by decide +kernel
def dl_L_law_21 : List (Nat × Instr × Nat) := [(1044, .aload_n 3, 1), (1045, .iconst 0, 1), (1046, .laload, 1), (1047, .iload 6, 2), (1049, .i2l, 1), (1050, .lcmp, 1), (1051, .ifCond .eq 5, 3), (1054, .iconst 0, 1), (1055, .ireturn, 1), (1056, .goto 401, 3), (1059, .aload_n 1, 1), (1060, .aload_n 0, 1), (1061, .iload 4, 2), (1063, .iconst 1, 1), (1064, .iadd, 1), (1065, .iaload, 1), (1066, .aload_n 0, 1), (1067, .iload 4, 2), (1069, .iconst 2, 1), (1070, .iadd, 1), (1071, .iaload, 1), (1072, .aload_n 3, 1), (1073, .invokestatic 134, 3), (1076, .istore 5, 2), (1078, .aload_n 2, 1), (1079, .aload_n 0, 1), (1080, .iload 4, 2), (1082, .iconst 1, 1), (1083, .iadd, 1), (1084, .iaload, 1)]
theorem dk_L_law_21 : ∀ q ∈ dl_L_law_21, decode cL_law q.1 = .ok q.2 := by decide +kernel
def dl_L_law_22 : List (Nat × Instr × Nat) := [(1085, .aload_n 0, 1), (1086, .iload 4, 2), (1088, .iconst 2, 1), (1089, .iadd, 1), (1090, .iaload, 1), (1091, .invokevirtual 136, 3), (1094, .istore 6, 2), (1096, .aload_n 2, 1), (1097, .invokevirtual 89, 3), (1100, .iload 5, 2), (1102, .if_icmp .eq 5, 3), (1105, .iconst 0, 1), (1106, .ireturn, 1), (1107, .iload 5, 2), (1109, .ifCond .ne 15, 3), (1112, .aload_n 3, 1), (1113, .iconst 0, 1), (1114, .laload, 1), (1115, .iload 6, 2), (1117, .i2l, 1), (1118, .lcmp, 1), (1119, .ifCond .eq 5, 3), (1122, .iconst 0, 1), (1123, .ireturn, 1), (1124, .goto 333, 3), (1127, .aload_n 1, 1), (1128, .aload_n 0, 1), (1129, .iload 4, 2), (1131, .iconst 1, 1), (1132, .iadd, 1)]
theorem dk_L_law_22 : ∀ q ∈ dl_L_law_22, decode cL_law q.1 = .ok q.2 := by decide +kernel
def dl_L_law_23 : List (Nat × Instr × Nat) := [(1133, .iaload, 1), (1134, .aload_n 0, 1), (1135, .iload 4, 2), (1137, .iconst 2, 1), (1138, .iadd, 1), (1139, .iaload, 1), (1140, .aload_n 3, 1), (1141, .invokestatic 137, 3), (1144, .istore 5, 2), (1146, .aload_n 2, 1), (1147, .aload_n 0, 1), (1148, .iload 4, 2), (1150, .iconst 1, 1), (1151, .iadd, 1), (1152, .iaload, 1), (1153, .aload_n 0, 1), (1154, .iload 4, 2), (1156, .iconst 2, 1), (1157, .iadd, 1), (1158, .iaload, 1), (1159, .invokevirtual 139, 3), (1162, .istore 6, 2), (1164, .aload_n 2, 1), (1165, .invokevirtual 89, 3), (1168, .iload 5, 2), (1170, .if_icmp .eq 5, 3), (1173, .iconst 0, 1), (1174, .ireturn, 1), (1175, .iload 5, 2), (1177, .ifCond .ne 15, 3)]
theorem dk_L_law_23 : ∀ q ∈ dl_L_law_23, decode cL_law q.1 = .ok q.2 := by decide +kernel
def dl_L_law_24 : List (Nat × Instr × Nat) := [(1180, .aload_n 3, 1), (1181, .iconst 0, 1), (1182, .laload, 1), (1183, .iload 6, 2), (1185, .i2l, 1), (1186, .lcmp, 1), (1187, .ifCond .eq 5, 3), (1190, .iconst 0, 1), (1191, .ireturn, 1), (1192, .goto 265, 3), (1195, .aload_n 1, 1), (1196, .aload_n 0, 1), (1197, .iload 4, 2), (1199, .iconst 1, 1), (1200, .iadd, 1), (1201, .iaload, 1), (1202, .aload_n 3, 1), (1203, .invokestatic 140, 3), (1206, .istore 5, 2), (1208, .aload_n 2, 1), (1209, .aload_n 0, 1), (1210, .iload 4, 2), (1212, .iconst 1, 1), (1213, .iadd, 1), (1214, .iaload, 1), (1215, .invokevirtual 142, 3), (1218, .istore 6, 2), (1220, .aload_n 2, 1), (1221, .invokevirtual 89, 3), (1224, .iload 5, 2)]
theorem dk_L_law_24 : ∀ q ∈ dl_L_law_24, decode cL_law q.1 = .ok q.2 := by decide +kernel
def dl_L_law_25 : List (Nat × Instr × Nat) := [(1226, .if_icmp .eq 5, 3), (1229, .iconst 0, 1), (1230, .ireturn, 1), (1231, .iload 5, 2), (1233, .ifCond .ne 15, 3), (1236, .aload_n 3, 1), (1237, .iconst 0, 1), (1238, .laload, 1), (1239, .iload 6, 2), (1241, .i2l, 1), (1242, .lcmp, 1), (1243, .ifCond .eq 5, 3), (1246, .iconst 0, 1), (1247, .ireturn, 1), (1248, .goto 209, 3), (1251, .aload_n 1, 1), (1252, .invokevirtual 143, 3), (1255, .aload_n 2, 1), (1256, .invokevirtual 146, 3), (1259, .if_icmp .eq 198, 3), (1262, .iconst 0, 1), (1263, .ireturn, 1), (1264, .aload_n 1, 1), (1265, .aload_n 0, 1), (1266, .iload 4, 2), (1268, .iconst 1, 1), (1269, .iadd, 1), (1270, .iaload, 1), (1271, .aload_n 0, 1), (1272, .iload 4, 2)]
theorem dk_L_law_25 : ∀ q ∈ dl_L_law_25, decode cL_law q.1 = .ok q.2 := by decide +kernel
def dl_L_law_26 : List (Nat × Instr × Nat) := [(1274, .iconst 2, 1), (1275, .iadd, 1), (1276, .iaload, 1), (1277, .aload_n 3, 1), (1278, .invokestatic 147, 3), (1281, .istore 5, 2), (1283, .aload_n 2, 1), (1284, .aload_n 0, 1), (1285, .iload 4, 2), (1287, .iconst 1, 1), (1288, .iadd, 1), (1289, .iaload, 1), (1290, .aload_n 0, 1), (1291, .iload 4, 2), (1293, .iconst 2, 1), (1294, .iadd, 1), (1295, .iaload, 1), (1296, .invokevirtual 149, 3), (1299, .istore 6, 2), (1301, .aload_n 2, 1), (1302, .invokevirtual 89, 3), (1305, .iload 5, 2), (1307, .if_icmp .eq 5, 3), (1310, .iconst 0, 1), (1311, .ireturn, 1), (1312, .iload 5, 2), (1314, .ifCond .ne 15, 3), (1317, .aload_n 3, 1), (1318, .iconst 0, 1), (1319, .laload, 1)]
theorem dk_L_law_26 : ∀ q ∈ dl_L_law_26, decode cL_law q.1 = .ok q.2 := by decide +kernel
def dl_L_law_27 : List (Nat × Instr × Nat) := [(1320, .iload 6, 2), (1322, .i2l, 1), (1323, .lcmp, 1), (1324, .ifCond .eq 5, 3), (1327, .iconst 0, 1), (1328, .ireturn, 1), (1329, .goto 128, 3), (1332, .aload_n 1, 1), (1333, .aload_n 0, 1), (1334, .iload 4, 2), (1336, .iconst 1, 1), (1337, .iadd, 1), (1338, .iaload, 1), (1339, .aload_n 3, 1), (1340, .invokestatic 150, 3), (1343, .istore 5, 2), (1345, .aload_n 2, 1), (1346, .aload_n 0, 1), (1347, .iload 4, 2), (1349, .iconst 1, 1), (1350, .iadd, 1), (1351, .iaload, 1), (1352, .invokevirtual 152, 3), (1355, .istore 6, 2), (1357, .aload_n 2, 1), (1358, .invokevirtual 89, 3), (1361, .iload 5, 2), (1363, .if_icmp .eq 5, 3), (1366, .iconst 0, 1), (1367, .ireturn, 1)]
theorem dk_L_law_27 : ∀ q ∈ dl_L_law_27, decode cL_law q.1 = .ok q.2 := by decide +kernel
def dl_L_law_28 : List (Nat × Instr × Nat) := [(1368, .iload 5, 2), (1370, .ifCond .ne 15, 3), (1373, .aload_n 3, 1), (1374, .iconst 0, 1), (1375, .laload, 1), (1376, .iload 6, 2), (1378, .i2l, 1), (1379, .lcmp, 1), (1380, .ifCond .eq 5, 3), (1383, .iconst 0, 1), (1384, .ireturn, 1), (1385, .goto 72, 3), (1388, .aload_n 1, 1), (1389, .aload_n 0, 1), (1390, .iload 4, 2), (1392, .iconst 1, 1), (1393, .iadd, 1), (1394, .iaload, 1), (1395, .aload_n 3, 1), (1396, .invokestatic 153, 3), (1399, .istore 5, 2), (1401, .aload_n 2, 1), (1402, .aload_n 0, 1), (1403, .iload 4, 2), (1405, .iconst 1, 1), (1406, .iadd, 1), (1407, .iaload, 1), (1408, .invokevirtual 155, 3), (1411, .istore 6, 2), (1413, .aload_n 2, 1)]
theorem dk_L_law_28 : ∀ q ∈ dl_L_law_28, decode cL_law q.1 = .ok q.2 := by decide +kernel
def dl_L_law_29 : List (Nat × Instr × Nat) := [(1414, .invokevirtual 89, 3), (1417, .iload 5, 2), (1419, .if_icmp .eq 5, 3), (1422, .iconst 0, 1), (1423, .ireturn, 1), (1424, .iload 5, 2), (1426, .ifCond .ne 15, 3), (1429, .aload_n 3, 1), (1430, .iconst 0, 1), (1431, .laload, 1), (1432, .iload 6, 2), (1434, .i2l, 1), (1435, .lcmp, 1), (1436, .ifCond .eq 5, 3), (1439, .iconst 0, 1), (1440, .ireturn, 1), (1441, .goto 16, 3), (1444, .aload_n 1, 1), (1445, .invokevirtual 156, 3), (1448, .aload_n 2, 1), (1449, .invokevirtual 159, 3), (1452, .if_icmp .eq 5, 3), (1455, .iconst 0, 1), (1456, .ireturn, 1), (1457, .iinc 4 6, 3), (1460, .goto (-1437), 3), (1463, .iconst 1, 1), (1464, .ireturn, 1)]
theorem dk_L_law_29 : ∀ q ∈ dl_L_law_29, decode cL_law q.1 = .ok q.2 := by decide +kernel
def cd_L_law_0 (L : Nat) (xs : Nat → Int32) : List (Nat × m_Op) := [(0, o_new 7 15 [.null, .null, .null, .null, .null, .null, .null, .null, .int 0, .int 0, .int 0, .int 0, .int 0, .int 0, .int 0] 3), (3, o_dup 4), (4, o_callv 7 22 1 90 628 7), (7, o_astore 1 8), (8, o_new 8 36 [.int 0, .int 0, .null, .null, .null, .int 0, .null, .null, .null, .null, .null, .null, .int 0, .null, .null, .null, .null, .int 0, .null, .null, .null, .null, .int 0, .int 0, .null, .null, .null, .int 0, .null, .null, .null, .null, .int 0, .int 0, .int 0, .int 0] 11), (11, o_dup 12), (12, o_callv 8 61 1 24 379 15), (15, o_astore 2 16), (16, o_const (1) 17), (17, o_newl 1 19), (19, o_astore 3 20), (20, o_const (0) 21), (21, o_istore 4 23), (23, o_iload 4 25), (25, o_aload 0 26), (26, o_slen L 27), (27, o_const (6) 29), (29, o_bin (fun x y => x - y) 30), (30, o_icmpgt 1463 33), (33, o_aload 0 34), (34, o_iload 4 36), (36, o_sald L xs 37), (37, o_const (31) 39), (39, o_bin (fun x y => x &&& y) 40), (40, o_switch m_swt), (140, o_aload 1 141), (141, o_aload 0 142), (142, o_iload 4 144), (144, o_const (1) 145), (145, o_bin (fun x y => x + y) 146), (146, o_sald L xs 147), (147, o_aload 0 148), (148, o_iload 4 150), (150, o_const (2) 151), (151, o_bin (fun x y => x + y) 152), (152, o_sald L xs 153), (153, o_aload 0 154), (154, o_iload 4 156), (156, o_const (3) 157), (157, o_bin (fun x y => x + y) 158), (158, o_sald L xs 159), (159, o_aload 0 160), (160, o_iload 4 162), (162, o_const (4) 163), (163, o_bin (fun x y => x + y) 164), (164, o_sald L xs 165), (165, o_aload 3 166), (166, o_call 123 6 7 43 169), (169, o_istore 5 171), (171, o_aload 2 172), (172, o_aload 0 173), (173, o_iload 4 175), (175, o_const (1) 176), (176, o_bin (fun x y => x + y) 177), (177, o_sald L xs 178), (178, o_aload 0 179), (179, o_iload 4 181), (181, o_const (2) 182), (182, o_bin (fun x y => x + y) 183), (183, o_sald L xs 184)]
set_option maxRecDepth 20000 in
set_option maxHeartbeats 4000000 in
theorem ok_L_law_0 (L : Nat) (xs : Nat → Int32) : ∀ q ∈ cd_L_law_0 L xs, m_OK (fun G => G.2.2.2.2 = (L, xs)) m_my (cL_law, 7, RL, false, (some .boolean), []) q.1 q.2 :=
  m_cn (pc := 0) (ok_new (hc0 := (rfl : vwCl[7]? = some (RX6, TX6, 15))) in_X6 tyX6 tyX6_ok wd_24 wd_25 wd_1 df_X6 (fun _ => rfl) dv_X6 (m_dk dk_L_law_0 0 rfl) rfl) <|
  m_cn (pc := 3) (ok_dup (m_dk dk_L_law_0 1 rfl) rfl) <|
  m_cn (pc := 4) (ok_calli (T := mt_X6_init) my_X6_init rfl cw_X6_init rfl rfl (by decide) wd_26 wd_27 wd_1 rfl (by decide +kernel) (m_dk dk_L_law_0 2 rfl) rfl) <|
  m_cn (pc := 7) (ok_astore_n (m_dk dk_L_law_0 3 rfl) rfl rfl) <|
  m_cn (pc := 8) (ok_new (hc0 := (rfl : vwCl[8]? = some (RX7, TX7, 36))) in_X7 tyX7 tyX7_ok wd_783 wd_784 wd_6 df_X7 (fun _ => rfl) dv_X7 (m_dk dk_L_law_0 4 rfl) rfl) <|
  m_cn (pc := 11) (ok_dup (m_dk dk_L_law_0 5 rfl) rfl) <|
  m_cn (pc := 12) (ok_calli (T := mt_X7_init) my_X7_init rfl cw_X7_init rfl rfl (by decide) wd_785 wd_786 wd_6 rfl (by decide +kernel) (m_dk dk_L_law_0 6 rfl) rfl) <|
  m_cn (pc := 15) (ok_astore_n (m_dk dk_L_law_0 7 rfl) rfl rfl) <|
  m_cn (pc := 16) (ok_iconst (m_dk dk_L_law_0 8 rfl) (by decide) rfl) <|
  m_cn (pc := 17) (ok_newl wd_1081 (by decide) (m_dk dk_L_law_0 9 rfl) rfl) <|
  m_cn (pc := 19) (ok_astore_n (m_dk dk_L_law_0 10 rfl) rfl rfl) <|
  m_cn (pc := 20) (ok_iconst (m_dk dk_L_law_0 11 rfl) (by decide) rfl) <|
  m_cn (pc := 21) (ok_istore (m_dk dk_L_law_0 12 rfl) rfl) <|
  m_cn (pc := 23) (ok_iload (m_dk dk_L_law_0 13 rfl) rfl) <|
  m_cn (pc := 25) (ok_aload_n (m_dk dk_L_law_0 14 rfl) rfl rfl) <|
  m_cn (pc := 26) (ok_slen (xs := xs) (m_dk dk_L_law_0 15 rfl) rfl) <|
  m_cn (pc := 27) (ok_bipush (m_dk dk_L_law_0 16 rfl) (by decide) rfl) <|
  m_cn (pc := 29) (ok_isub (m_dk dk_L_law_0 17 rfl) rfl) <|
  m_cn (pc := 30) (ok_icmpgt (m_dk dk_L_law_0 18 rfl) rfl rfl) <|
  m_cn (pc := 33) (ok_aload_n (m_dk dk_L_law_0 19 rfl) rfl rfl) <|
  m_cn (pc := 34) (ok_iload (m_dk dk_L_law_0 20 rfl) rfl) <|
  m_cn (pc := 36) (ok_sald (m_dk dk_L_law_0 21 rfl) rfl) <|
  m_cn (pc := 37) (ok_bipush (m_dk dk_L_law_0 22 rfl) (by decide) rfl) <|
  m_cn (pc := 39) (ok_iand (m_dk dk_L_law_0 23 rfl) rfl) <|
  m_cn (pc := 40) (ok_switch (nx := 0) m_swt_ok (m_dk dk_L_law_0 24 rfl)) <|
  m_cn (pc := 140) (ok_aload_n (m_dk dk_L_law_0 25 rfl) rfl rfl) <|
  m_cn (pc := 141) (ok_aload_n (m_dk dk_L_law_0 26 rfl) rfl rfl) <|
  m_cn (pc := 142) (ok_iload (m_dk dk_L_law_0 27 rfl) rfl) <|
  m_cn (pc := 144) (ok_iconst (m_dk dk_L_law_0 28 rfl) (by decide) rfl) <|
  m_cn (pc := 145) (ok_iadd (m_dk dk_L_law_0 29 rfl) rfl) <|
  m_cn (pc := 146) (ok_sald (m_dk dk_L_law_1 0 rfl) rfl) <|
  m_cn (pc := 147) (ok_aload_n (m_dk dk_L_law_1 1 rfl) rfl rfl) <|
  m_cn (pc := 148) (ok_iload (m_dk dk_L_law_1 2 rfl) rfl) <|
  m_cn (pc := 150) (ok_iconst (m_dk dk_L_law_1 3 rfl) (by decide) rfl) <|
  m_cn (pc := 151) (ok_iadd (m_dk dk_L_law_1 4 rfl) rfl) <|
  m_cn (pc := 152) (ok_sald (m_dk dk_L_law_1 5 rfl) rfl) <|
  m_cn (pc := 153) (ok_aload_n (m_dk dk_L_law_1 6 rfl) rfl rfl) <|
  m_cn (pc := 154) (ok_iload (m_dk dk_L_law_1 7 rfl) rfl) <|
  m_cn (pc := 156) (ok_iconst (m_dk dk_L_law_1 8 rfl) (by decide) rfl) <|
  m_cn (pc := 157) (ok_iadd (m_dk dk_L_law_1 9 rfl) rfl) <|
  m_cn (pc := 158) (ok_sald (m_dk dk_L_law_1 10 rfl) rfl) <|
  m_cn (pc := 159) (ok_aload_n (m_dk dk_L_law_1 11 rfl) rfl rfl) <|
  m_cn (pc := 160) (ok_iload (m_dk dk_L_law_1 12 rfl) rfl) <|
  m_cn (pc := 162) (ok_iconst (m_dk dk_L_law_1 13 rfl) (by decide) rfl) <|
  m_cn (pc := 163) (ok_iadd (m_dk dk_L_law_1 14 rfl) rfl) <|
  m_cn (pc := 164) (ok_sald (m_dk dk_L_law_1 15 rfl) rfl) <|
  m_cn (pc := 165) (ok_aload_n (m_dk dk_L_law_1 16 rfl) rfl rfl) <|
  m_cn (pc := 166) (ok_callsw (hh9 := hh_L_cable) (T := mt_L_cable) my_L_cable rfl cw_L_cable rfl rfl (by decide) wd_189 wd_190 wd_0 (by decide +kernel) (m_dk dk_L_law_1 17 rfl) rfl) <|
  m_cn (pc := 169) (ok_istore (m_dk dk_L_law_1 18 rfl) rfl) <|
  m_cn (pc := 171) (ok_aload_n (m_dk dk_L_law_1 19 rfl) rfl rfl) <|
  m_cn (pc := 172) (ok_aload_n (m_dk dk_L_law_1 20 rfl) rfl rfl) <|
  m_cn (pc := 173) (ok_iload (m_dk dk_L_law_1 21 rfl) rfl) <|
  m_cn (pc := 175) (ok_iconst (m_dk dk_L_law_1 22 rfl) (by decide) rfl) <|
  m_cn (pc := 176) (ok_iadd (m_dk dk_L_law_1 23 rfl) rfl) <|
  m_cn (pc := 177) (ok_sald (m_dk dk_L_law_1 24 rfl) rfl) <|
  m_cn (pc := 178) (ok_aload_n (m_dk dk_L_law_1 25 rfl) rfl rfl) <|
  m_cn (pc := 179) (ok_iload (m_dk dk_L_law_1 26 rfl) rfl) <|
  m_cn (pc := 181) (ok_iconst (m_dk dk_L_law_1 27 rfl) (by decide) rfl) <|
  m_cn (pc := 182) (ok_iadd (m_dk dk_L_law_1 28 rfl) rfl) <|
  m_cn (pc := 183) (ok_sald (m_dk dk_L_law_1 29 rfl) rfl) <|
  m_nl
def cd_L_law_1 (L : Nat) (xs : Nat → Int32) : List (Nat × m_Op) := [(184, o_aload 0 185), (185, o_iload 4 187), (187, o_const (3) 188), (188, o_bin (fun x y => x + y) 189), (189, o_sald L xs 190), (190, o_aload 0 191), (191, o_iload 4 193), (193, o_const (4) 194), (194, o_bin (fun x y => x + y) 195), (195, o_sald L xs 196), (196, o_callv 8 73 5 0 0 199), (199, o_istore 6 201), (201, o_aload 2 202), (202, o_callv 8 62 1 0 0 205), (205, o_iload 5 207), (207, o_icmpeq 212 210), (210, o_const (0) 211), (211, o_zreturn), (212, o_iload 5 214), (214, o_ifne 229 217), (217, o_aload 3 218), (218, o_const (0) 219), (219, o_lald 220), (220, o_iload 6 222), (222, o_i2l 223), (223, o_lcmp 224), (224, o_ifeq 229 227), (227, o_const (0) 228), (228, o_zreturn), (229, o_goto 1457), (232, o_aload 1 233), (233, o_aload 0 234), (234, o_iload 4 236), (236, o_const (1) 237), (237, o_bin (fun x y => x + y) 238), (238, o_sald L xs 239), (239, o_aload 0 240), (240, o_iload 4 242), (242, o_const (2) 243), (243, o_bin (fun x y => x + y) 244), (244, o_sald L xs 245), (245, o_aload 0 246), (246, o_iload 4 248), (248, o_const (3) 249), (249, o_bin (fun x y => x + y) 250), (250, o_sald L xs 251), (251, o_aload 0 252), (252, o_iload 4 254), (254, o_const (4) 255), (255, o_bin (fun x y => x + y) 256), (256, o_sald L xs 257), (257, o_aload 3 258), (258, o_call 124 6 7 41 261), (261, o_istore 5 263), (263, o_aload 2 264), (264, o_aload 0 265), (265, o_iload 4 267), (267, o_const (1) 268), (268, o_bin (fun x y => x + y) 269), (269, o_sald L xs 270)]
set_option maxRecDepth 20000 in
set_option maxHeartbeats 4000000 in
theorem ok_L_law_1 (L : Nat) (xs : Nat → Int32) : ∀ q ∈ cd_L_law_1 L xs, m_OK (fun G => G.2.2.2.2 = (L, xs)) m_my (cL_law, 7, RL, false, (some .boolean), []) q.1 q.2 :=
  m_cn (pc := 184) (ok_aload_n (m_dk dk_L_law_2 0 rfl) rfl rfl) <|
  m_cn (pc := 185) (ok_iload (m_dk dk_L_law_2 1 rfl) rfl) <|
  m_cn (pc := 187) (ok_iconst (m_dk dk_L_law_2 2 rfl) (by decide) rfl) <|
  m_cn (pc := 188) (ok_iadd (m_dk dk_L_law_2 3 rfl) rfl) <|
  m_cn (pc := 189) (ok_sald (m_dk dk_L_law_2 4 rfl) rfl) <|
  m_cn (pc := 190) (ok_aload_n (m_dk dk_L_law_2 5 rfl) rfl rfl) <|
  m_cn (pc := 191) (ok_iload (m_dk dk_L_law_2 6 rfl) rfl) <|
  m_cn (pc := 193) (ok_iconst (m_dk dk_L_law_2 7 rfl) (by decide) rfl) <|
  m_cn (pc := 194) (ok_iadd (m_dk dk_L_law_2 8 rfl) rfl) <|
  m_cn (pc := 195) (ok_sald (m_dk dk_L_law_2 9 rfl) rfl) <|
  m_cn (pc := 196) (ok_callv (T := mt_X7_cable) my_X7_cable rfl cw_X7_cable rfl rfl (by decide) (r9 := (RX7, TX7, 36)) rfl rfl wd_902 wd_903 wd_904 wd_6 (by decide +kernel) (m_dk dk_L_law_2 10 rfl) rfl) <|
  m_cn (pc := 199) (ok_istore (m_dk dk_L_law_2 11 rfl) rfl) <|
  m_cn (pc := 201) (ok_aload_n (m_dk dk_L_law_2 12 rfl) rfl rfl) <|
  m_cn (pc := 202) (ok_callv (T := mt_X7_thrown) my_X7_thrown rfl cw_X7_thrown rfl rfl (by decide) (r9 := (RX7, TX7, 36)) rfl rfl wd_898 wd_899 wd_900 wd_6 (by decide +kernel) (m_dk dk_L_law_2 13 rfl) rfl) <|
  m_cn (pc := 205) (ok_iload (m_dk dk_L_law_2 14 rfl) rfl) <|
  m_cn (pc := 207) (ok_icmpeq (m_dk dk_L_law_2 15 rfl) rfl rfl) <|
  m_cn (pc := 210) (ok_iconst (m_dk dk_L_law_2 16 rfl) (by decide) rfl) <|
  m_cn (pc := 211) (ok_zreturn (nx := 0) rfl (m_dk dk_L_law_2 17 rfl)) <|
  m_cn (pc := 212) (ok_iload (m_dk dk_L_law_2 18 rfl) rfl) <|
  m_cn (pc := 214) (ok_ifne (m_dk dk_L_law_2 19 rfl) rfl rfl) <|
  m_cn (pc := 217) (ok_aload_n (m_dk dk_L_law_2 20 rfl) rfl rfl) <|
  m_cn (pc := 218) (ok_iconst (m_dk dk_L_law_2 21 rfl) (by decide) rfl) <|
  m_cn (pc := 219) (ok_lald (m_dk dk_L_law_2 22 rfl) rfl) <|
  m_cn (pc := 220) (ok_iload (m_dk dk_L_law_2 23 rfl) rfl) <|
  m_cn (pc := 222) (ok_i2l (m_dk dk_L_law_2 24 rfl) rfl) <|
  m_cn (pc := 223) (ok_lcmp (m_dk dk_L_law_2 25 rfl) rfl) <|
  m_cn (pc := 224) (ok_ifeq (m_dk dk_L_law_2 26 rfl) rfl rfl) <|
  m_cn (pc := 227) (ok_iconst (m_dk dk_L_law_2 27 rfl) (by decide) rfl) <|
  m_cn (pc := 228) (ok_zreturn (nx := 0) rfl (m_dk dk_L_law_2 28 rfl)) <|
  m_cn (pc := 229) (ok_goto (nx := 0) (m_dk dk_L_law_2 29 rfl) rfl) <|
  m_cn (pc := 232) (ok_aload_n (m_dk dk_L_law_3 0 rfl) rfl rfl) <|
  m_cn (pc := 233) (ok_aload_n (m_dk dk_L_law_3 1 rfl) rfl rfl) <|
  m_cn (pc := 234) (ok_iload (m_dk dk_L_law_3 2 rfl) rfl) <|
  m_cn (pc := 236) (ok_iconst (m_dk dk_L_law_3 3 rfl) (by decide) rfl) <|
  m_cn (pc := 237) (ok_iadd (m_dk dk_L_law_3 4 rfl) rfl) <|
  m_cn (pc := 238) (ok_sald (m_dk dk_L_law_3 5 rfl) rfl) <|
  m_cn (pc := 239) (ok_aload_n (m_dk dk_L_law_3 6 rfl) rfl rfl) <|
  m_cn (pc := 240) (ok_iload (m_dk dk_L_law_3 7 rfl) rfl) <|
  m_cn (pc := 242) (ok_iconst (m_dk dk_L_law_3 8 rfl) (by decide) rfl) <|
  m_cn (pc := 243) (ok_iadd (m_dk dk_L_law_3 9 rfl) rfl) <|
  m_cn (pc := 244) (ok_sald (m_dk dk_L_law_3 10 rfl) rfl) <|
  m_cn (pc := 245) (ok_aload_n (m_dk dk_L_law_3 11 rfl) rfl rfl) <|
  m_cn (pc := 246) (ok_iload (m_dk dk_L_law_3 12 rfl) rfl) <|
  m_cn (pc := 248) (ok_iconst (m_dk dk_L_law_3 13 rfl) (by decide) rfl) <|
  m_cn (pc := 249) (ok_iadd (m_dk dk_L_law_3 14 rfl) rfl) <|
  m_cn (pc := 250) (ok_sald (m_dk dk_L_law_3 15 rfl) rfl) <|
  m_cn (pc := 251) (ok_aload_n (m_dk dk_L_law_3 16 rfl) rfl rfl) <|
  m_cn (pc := 252) (ok_iload (m_dk dk_L_law_3 17 rfl) rfl) <|
  m_cn (pc := 254) (ok_iconst (m_dk dk_L_law_3 18 rfl) (by decide) rfl) <|
  m_cn (pc := 255) (ok_iadd (m_dk dk_L_law_3 19 rfl) rfl) <|
  m_cn (pc := 256) (ok_sald (m_dk dk_L_law_3 20 rfl) rfl) <|
  m_cn (pc := 257) (ok_aload_n (m_dk dk_L_law_3 21 rfl) rfl rfl) <|
  m_cn (pc := 258) (ok_callsw (hh9 := hh_L_demand) (T := mt_L_demand) my_L_demand rfl cw_L_demand rfl rfl (by decide) wd_361 wd_362 wd_0 (by decide +kernel) (m_dk dk_L_law_3 22 rfl) rfl) <|
  m_cn (pc := 261) (ok_istore (m_dk dk_L_law_3 23 rfl) rfl) <|
  m_cn (pc := 263) (ok_aload_n (m_dk dk_L_law_3 24 rfl) rfl rfl) <|
  m_cn (pc := 264) (ok_aload_n (m_dk dk_L_law_3 25 rfl) rfl rfl) <|
  m_cn (pc := 265) (ok_iload (m_dk dk_L_law_3 26 rfl) rfl) <|
  m_cn (pc := 267) (ok_iconst (m_dk dk_L_law_3 27 rfl) (by decide) rfl) <|
  m_cn (pc := 268) (ok_iadd (m_dk dk_L_law_3 28 rfl) rfl) <|
  m_cn (pc := 269) (ok_sald (m_dk dk_L_law_3 29 rfl) rfl) <|
  m_nl
def cd_L_law_2 (L : Nat) (xs : Nat → Int32) : List (Nat × m_Op) := [(270, o_aload 0 271), (271, o_iload 4 273), (273, o_const (2) 274), (274, o_bin (fun x y => x + y) 275), (275, o_sald L xs 276), (276, o_aload 0 277), (277, o_iload 4 279), (279, o_const (3) 280), (280, o_bin (fun x y => x + y) 281), (281, o_sald L xs 282), (282, o_aload 0 283), (283, o_iload 4 285), (285, o_const (4) 286), (286, o_bin (fun x y => x + y) 287), (287, o_sald L xs 288), (288, o_callv 8 74 5 0 0 291), (291, o_istore 6 293), (293, o_aload 2 294), (294, o_callv 8 62 1 0 0 297), (297, o_iload 5 299), (299, o_icmpeq 304 302), (302, o_const (0) 303), (303, o_zreturn), (304, o_iload 5 306), (306, o_ifne 321 309), (309, o_aload 3 310), (310, o_const (0) 311), (311, o_lald 312), (312, o_iload 6 314), (314, o_i2l 315), (315, o_lcmp 316), (316, o_ifeq 321 319), (319, o_const (0) 320), (320, o_zreturn), (321, o_goto 1457), (324, o_aload 1 325), (325, o_aload 0 326), (326, o_iload 4 328), (328, o_const (1) 329), (329, o_bin (fun x y => x + y) 330), (330, o_sald L xs 331), (331, o_aload 0 332), (332, o_iload 4 334), (334, o_const (2) 335), (335, o_bin (fun x y => x + y) 336), (336, o_sald L xs 337), (337, o_aload 0 338), (338, o_iload 4 340), (340, o_const (3) 341), (341, o_bin (fun x y => x + y) 342), (342, o_sald L xs 343), (343, o_aload 0 344), (344, o_iload 4 346), (346, o_const (4) 347), (347, o_bin (fun x y => x + y) 348), (348, o_sald L xs 349), (349, o_aload 0 350), (350, o_iload 4 352), (352, o_const (5) 353), (353, o_bin (fun x y => x + y) 354)]
set_option maxRecDepth 20000 in
set_option maxHeartbeats 4000000 in
theorem ok_L_law_2 (L : Nat) (xs : Nat → Int32) : ∀ q ∈ cd_L_law_2 L xs, m_OK (fun G => G.2.2.2.2 = (L, xs)) m_my (cL_law, 7, RL, false, (some .boolean), []) q.1 q.2 :=
  m_cn (pc := 270) (ok_aload_n (m_dk dk_L_law_4 0 rfl) rfl rfl) <|
  m_cn (pc := 271) (ok_iload (m_dk dk_L_law_4 1 rfl) rfl) <|
  m_cn (pc := 273) (ok_iconst (m_dk dk_L_law_4 2 rfl) (by decide) rfl) <|
  m_cn (pc := 274) (ok_iadd (m_dk dk_L_law_4 3 rfl) rfl) <|
  m_cn (pc := 275) (ok_sald (m_dk dk_L_law_4 4 rfl) rfl) <|
  m_cn (pc := 276) (ok_aload_n (m_dk dk_L_law_4 5 rfl) rfl rfl) <|
  m_cn (pc := 277) (ok_iload (m_dk dk_L_law_4 6 rfl) rfl) <|
  m_cn (pc := 279) (ok_iconst (m_dk dk_L_law_4 7 rfl) (by decide) rfl) <|
  m_cn (pc := 280) (ok_iadd (m_dk dk_L_law_4 8 rfl) rfl) <|
  m_cn (pc := 281) (ok_sald (m_dk dk_L_law_4 9 rfl) rfl) <|
  m_cn (pc := 282) (ok_aload_n (m_dk dk_L_law_4 10 rfl) rfl rfl) <|
  m_cn (pc := 283) (ok_iload (m_dk dk_L_law_4 11 rfl) rfl) <|
  m_cn (pc := 285) (ok_iconst (m_dk dk_L_law_4 12 rfl) (by decide) rfl) <|
  m_cn (pc := 286) (ok_iadd (m_dk dk_L_law_4 13 rfl) rfl) <|
  m_cn (pc := 287) (ok_sald (m_dk dk_L_law_4 14 rfl) rfl) <|
  m_cn (pc := 288) (ok_callv (T := mt_X7_demand) my_X7_demand rfl cw_X7_demand rfl rfl (by decide) (r9 := (RX7, TX7, 36)) rfl rfl wd_919 wd_920 wd_921 wd_6 (by decide +kernel) (m_dk dk_L_law_4 15 rfl) rfl) <|
  m_cn (pc := 291) (ok_istore (m_dk dk_L_law_4 16 rfl) rfl) <|
  m_cn (pc := 293) (ok_aload_n (m_dk dk_L_law_4 17 rfl) rfl rfl) <|
  m_cn (pc := 294) (ok_callv (T := mt_X7_thrown) my_X7_thrown rfl cw_X7_thrown rfl rfl (by decide) (r9 := (RX7, TX7, 36)) rfl rfl wd_898 wd_899 wd_900 wd_6 (by decide +kernel) (m_dk dk_L_law_4 18 rfl) rfl) <|
  m_cn (pc := 297) (ok_iload (m_dk dk_L_law_4 19 rfl) rfl) <|
  m_cn (pc := 299) (ok_icmpeq (m_dk dk_L_law_4 20 rfl) rfl rfl) <|
  m_cn (pc := 302) (ok_iconst (m_dk dk_L_law_4 21 rfl) (by decide) rfl) <|
  m_cn (pc := 303) (ok_zreturn (nx := 0) rfl (m_dk dk_L_law_4 22 rfl)) <|
  m_cn (pc := 304) (ok_iload (m_dk dk_L_law_4 23 rfl) rfl) <|
  m_cn (pc := 306) (ok_ifne (m_dk dk_L_law_4 24 rfl) rfl rfl) <|
  m_cn (pc := 309) (ok_aload_n (m_dk dk_L_law_4 25 rfl) rfl rfl) <|
  m_cn (pc := 310) (ok_iconst (m_dk dk_L_law_4 26 rfl) (by decide) rfl) <|
  m_cn (pc := 311) (ok_lald (m_dk dk_L_law_4 27 rfl) rfl) <|
  m_cn (pc := 312) (ok_iload (m_dk dk_L_law_4 28 rfl) rfl) <|
  m_cn (pc := 314) (ok_i2l (m_dk dk_L_law_4 29 rfl) rfl) <|
  m_cn (pc := 315) (ok_lcmp (m_dk dk_L_law_5 0 rfl) rfl) <|
  m_cn (pc := 316) (ok_ifeq (m_dk dk_L_law_5 1 rfl) rfl rfl) <|
  m_cn (pc := 319) (ok_iconst (m_dk dk_L_law_5 2 rfl) (by decide) rfl) <|
  m_cn (pc := 320) (ok_zreturn (nx := 0) rfl (m_dk dk_L_law_5 3 rfl)) <|
  m_cn (pc := 321) (ok_goto (nx := 0) (m_dk dk_L_law_5 4 rfl) rfl) <|
  m_cn (pc := 324) (ok_aload_n (m_dk dk_L_law_5 5 rfl) rfl rfl) <|
  m_cn (pc := 325) (ok_aload_n (m_dk dk_L_law_5 6 rfl) rfl rfl) <|
  m_cn (pc := 326) (ok_iload (m_dk dk_L_law_5 7 rfl) rfl) <|
  m_cn (pc := 328) (ok_iconst (m_dk dk_L_law_5 8 rfl) (by decide) rfl) <|
  m_cn (pc := 329) (ok_iadd (m_dk dk_L_law_5 9 rfl) rfl) <|
  m_cn (pc := 330) (ok_sald (m_dk dk_L_law_5 10 rfl) rfl) <|
  m_cn (pc := 331) (ok_aload_n (m_dk dk_L_law_5 11 rfl) rfl rfl) <|
  m_cn (pc := 332) (ok_iload (m_dk dk_L_law_5 12 rfl) rfl) <|
  m_cn (pc := 334) (ok_iconst (m_dk dk_L_law_5 13 rfl) (by decide) rfl) <|
  m_cn (pc := 335) (ok_iadd (m_dk dk_L_law_5 14 rfl) rfl) <|
  m_cn (pc := 336) (ok_sald (m_dk dk_L_law_5 15 rfl) rfl) <|
  m_cn (pc := 337) (ok_aload_n (m_dk dk_L_law_5 16 rfl) rfl rfl) <|
  m_cn (pc := 338) (ok_iload (m_dk dk_L_law_5 17 rfl) rfl) <|
  m_cn (pc := 340) (ok_iconst (m_dk dk_L_law_5 18 rfl) (by decide) rfl) <|
  m_cn (pc := 341) (ok_iadd (m_dk dk_L_law_5 19 rfl) rfl) <|
  m_cn (pc := 342) (ok_sald (m_dk dk_L_law_5 20 rfl) rfl) <|
  m_cn (pc := 343) (ok_aload_n (m_dk dk_L_law_5 21 rfl) rfl rfl) <|
  m_cn (pc := 344) (ok_iload (m_dk dk_L_law_5 22 rfl) rfl) <|
  m_cn (pc := 346) (ok_iconst (m_dk dk_L_law_5 23 rfl) (by decide) rfl) <|
  m_cn (pc := 347) (ok_iadd (m_dk dk_L_law_5 24 rfl) rfl) <|
  m_cn (pc := 348) (ok_sald (m_dk dk_L_law_5 25 rfl) rfl) <|
  m_cn (pc := 349) (ok_aload_n (m_dk dk_L_law_5 26 rfl) rfl rfl) <|
  m_cn (pc := 350) (ok_iload (m_dk dk_L_law_5 27 rfl) rfl) <|
  m_cn (pc := 352) (ok_iconst (m_dk dk_L_law_5 28 rfl) (by decide) rfl) <|
  m_cn (pc := 353) (ok_iadd (m_dk dk_L_law_5 29 rfl) rfl) <|
  m_nl
def cd_L_law_3 (L : Nat) (xs : Nat → Int32) : List (Nat × m_Op) := [(354, o_sald L xs 355), (355, o_aload 3 356), (356, o_call 125 7 9 847 359), (359, o_istore 5 361), (361, o_aload 2 362), (362, o_aload 0 363), (363, o_iload 4 365), (365, o_const (1) 366), (366, o_bin (fun x y => x + y) 367), (367, o_sald L xs 368), (368, o_aload 0 369), (369, o_iload 4 371), (371, o_const (2) 372), (372, o_bin (fun x y => x + y) 373), (373, o_sald L xs 374), (374, o_aload 0 375), (375, o_iload 4 377), (377, o_const (3) 378), (378, o_bin (fun x y => x + y) 379), (379, o_sald L xs 380), (380, o_aload 0 381), (381, o_iload 4 383), (383, o_const (4) 384), (384, o_bin (fun x y => x + y) 385), (385, o_sald L xs 386), (386, o_aload 0 387), (387, o_iload 4 389), (389, o_const (5) 390), (390, o_bin (fun x y => x + y) 391), (391, o_sald L xs 392), (392, o_callv 8 75 6 0 0 395), (395, o_istore 6 397), (397, o_aload 2 398), (398, o_callv 8 62 1 0 0 401), (401, o_iload 5 403), (403, o_icmpeq 408 406), (406, o_const (0) 407), (407, o_zreturn), (408, o_iload 5 410), (410, o_ifne 425 413), (413, o_aload 3 414), (414, o_const (0) 415), (415, o_lald 416), (416, o_iload 6 418), (418, o_i2l 419), (419, o_lcmp 420), (420, o_ifeq 425 423), (423, o_const (0) 424), (424, o_zreturn), (425, o_goto 1457), (428, o_aload 1 429), (429, o_aload 0 430), (430, o_iload 4 432), (432, o_const (1) 433), (433, o_bin (fun x y => x + y) 434), (434, o_sald L xs 435), (435, o_aload 0 436), (436, o_iload 4 438), (438, o_const (2) 439), (439, o_bin (fun x y => x + y) 440)]
set_option maxRecDepth 20000 in
set_option maxHeartbeats 4000000 in
theorem ok_L_law_3 (L : Nat) (xs : Nat → Int32) : ∀ q ∈ cd_L_law_3 L xs, m_OK (fun G => G.2.2.2.2 = (L, xs)) m_my (cL_law, 7, RL, false, (some .boolean), []) q.1 q.2 :=
  m_cn (pc := 354) (ok_sald (m_dk dk_L_law_6 0 rfl) rfl) <|
  m_cn (pc := 355) (ok_aload_n (m_dk dk_L_law_6 1 rfl) rfl rfl) <|
  m_cn (pc := 356) (ok_callsw (hh9 := hh_L_sell) (T := mt_L_sell) my_L_sell rfl cw_L_sell rfl rfl (by decide) wd_401 wd_402 wd_0 (by decide +kernel) (m_dk dk_L_law_6 2 rfl) rfl) <|
  m_cn (pc := 359) (ok_istore (m_dk dk_L_law_6 3 rfl) rfl) <|
  m_cn (pc := 361) (ok_aload_n (m_dk dk_L_law_6 4 rfl) rfl rfl) <|
  m_cn (pc := 362) (ok_aload_n (m_dk dk_L_law_6 5 rfl) rfl rfl) <|
  m_cn (pc := 363) (ok_iload (m_dk dk_L_law_6 6 rfl) rfl) <|
  m_cn (pc := 365) (ok_iconst (m_dk dk_L_law_6 7 rfl) (by decide) rfl) <|
  m_cn (pc := 366) (ok_iadd (m_dk dk_L_law_6 8 rfl) rfl) <|
  m_cn (pc := 367) (ok_sald (m_dk dk_L_law_6 9 rfl) rfl) <|
  m_cn (pc := 368) (ok_aload_n (m_dk dk_L_law_6 10 rfl) rfl rfl) <|
  m_cn (pc := 369) (ok_iload (m_dk dk_L_law_6 11 rfl) rfl) <|
  m_cn (pc := 371) (ok_iconst (m_dk dk_L_law_6 12 rfl) (by decide) rfl) <|
  m_cn (pc := 372) (ok_iadd (m_dk dk_L_law_6 13 rfl) rfl) <|
  m_cn (pc := 373) (ok_sald (m_dk dk_L_law_6 14 rfl) rfl) <|
  m_cn (pc := 374) (ok_aload_n (m_dk dk_L_law_6 15 rfl) rfl rfl) <|
  m_cn (pc := 375) (ok_iload (m_dk dk_L_law_6 16 rfl) rfl) <|
  m_cn (pc := 377) (ok_iconst (m_dk dk_L_law_6 17 rfl) (by decide) rfl) <|
  m_cn (pc := 378) (ok_iadd (m_dk dk_L_law_6 18 rfl) rfl) <|
  m_cn (pc := 379) (ok_sald (m_dk dk_L_law_6 19 rfl) rfl) <|
  m_cn (pc := 380) (ok_aload_n (m_dk dk_L_law_6 20 rfl) rfl rfl) <|
  m_cn (pc := 381) (ok_iload (m_dk dk_L_law_6 21 rfl) rfl) <|
  m_cn (pc := 383) (ok_iconst (m_dk dk_L_law_6 22 rfl) (by decide) rfl) <|
  m_cn (pc := 384) (ok_iadd (m_dk dk_L_law_6 23 rfl) rfl) <|
  m_cn (pc := 385) (ok_sald (m_dk dk_L_law_6 24 rfl) rfl) <|
  m_cn (pc := 386) (ok_aload_n (m_dk dk_L_law_6 25 rfl) rfl rfl) <|
  m_cn (pc := 387) (ok_iload (m_dk dk_L_law_6 26 rfl) rfl) <|
  m_cn (pc := 389) (ok_iconst (m_dk dk_L_law_6 27 rfl) (by decide) rfl) <|
  m_cn (pc := 390) (ok_iadd (m_dk dk_L_law_6 28 rfl) rfl) <|
  m_cn (pc := 391) (ok_sald (m_dk dk_L_law_6 29 rfl) rfl) <|
  m_cn (pc := 392) (ok_callv (T := mt_X7_sell) my_X7_sell rfl cw_X7_sell rfl rfl (by decide) (r9 := (RX7, TX7, 36)) rfl rfl wd_923 wd_924 wd_925 wd_6 (by decide +kernel) (m_dk dk_L_law_7 0 rfl) rfl) <|
  m_cn (pc := 395) (ok_istore (m_dk dk_L_law_7 1 rfl) rfl) <|
  m_cn (pc := 397) (ok_aload_n (m_dk dk_L_law_7 2 rfl) rfl rfl) <|
  m_cn (pc := 398) (ok_callv (T := mt_X7_thrown) my_X7_thrown rfl cw_X7_thrown rfl rfl (by decide) (r9 := (RX7, TX7, 36)) rfl rfl wd_898 wd_899 wd_900 wd_6 (by decide +kernel) (m_dk dk_L_law_7 3 rfl) rfl) <|
  m_cn (pc := 401) (ok_iload (m_dk dk_L_law_7 4 rfl) rfl) <|
  m_cn (pc := 403) (ok_icmpeq (m_dk dk_L_law_7 5 rfl) rfl rfl) <|
  m_cn (pc := 406) (ok_iconst (m_dk dk_L_law_7 6 rfl) (by decide) rfl) <|
  m_cn (pc := 407) (ok_zreturn (nx := 0) rfl (m_dk dk_L_law_7 7 rfl)) <|
  m_cn (pc := 408) (ok_iload (m_dk dk_L_law_7 8 rfl) rfl) <|
  m_cn (pc := 410) (ok_ifne (m_dk dk_L_law_7 9 rfl) rfl rfl) <|
  m_cn (pc := 413) (ok_aload_n (m_dk dk_L_law_7 10 rfl) rfl rfl) <|
  m_cn (pc := 414) (ok_iconst (m_dk dk_L_law_7 11 rfl) (by decide) rfl) <|
  m_cn (pc := 415) (ok_lald (m_dk dk_L_law_7 12 rfl) rfl) <|
  m_cn (pc := 416) (ok_iload (m_dk dk_L_law_7 13 rfl) rfl) <|
  m_cn (pc := 418) (ok_i2l (m_dk dk_L_law_7 14 rfl) rfl) <|
  m_cn (pc := 419) (ok_lcmp (m_dk dk_L_law_7 15 rfl) rfl) <|
  m_cn (pc := 420) (ok_ifeq (m_dk dk_L_law_7 16 rfl) rfl rfl) <|
  m_cn (pc := 423) (ok_iconst (m_dk dk_L_law_7 17 rfl) (by decide) rfl) <|
  m_cn (pc := 424) (ok_zreturn (nx := 0) rfl (m_dk dk_L_law_7 18 rfl)) <|
  m_cn (pc := 425) (ok_goto (nx := 0) (m_dk dk_L_law_7 19 rfl) rfl) <|
  m_cn (pc := 428) (ok_aload_n (m_dk dk_L_law_7 20 rfl) rfl rfl) <|
  m_cn (pc := 429) (ok_aload_n (m_dk dk_L_law_7 21 rfl) rfl rfl) <|
  m_cn (pc := 430) (ok_iload (m_dk dk_L_law_7 22 rfl) rfl) <|
  m_cn (pc := 432) (ok_iconst (m_dk dk_L_law_7 23 rfl) (by decide) rfl) <|
  m_cn (pc := 433) (ok_iadd (m_dk dk_L_law_7 24 rfl) rfl) <|
  m_cn (pc := 434) (ok_sald (m_dk dk_L_law_7 25 rfl) rfl) <|
  m_cn (pc := 435) (ok_aload_n (m_dk dk_L_law_7 26 rfl) rfl rfl) <|
  m_cn (pc := 436) (ok_iload (m_dk dk_L_law_7 27 rfl) rfl) <|
  m_cn (pc := 438) (ok_iconst (m_dk dk_L_law_7 28 rfl) (by decide) rfl) <|
  m_cn (pc := 439) (ok_iadd (m_dk dk_L_law_7 29 rfl) rfl) <|
  m_nl
def cd_L_law_4 (L : Nat) (xs : Nat → Int32) : List (Nat × m_Op) := [(440, o_sald L xs 441), (441, o_aload 3 442), (442, o_call 126 4 5 29 445), (445, o_istore 5 447), (447, o_aload 2 448), (448, o_aload 0 449), (449, o_iload 4 451), (451, o_const (1) 452), (452, o_bin (fun x y => x + y) 453), (453, o_sald L xs 454), (454, o_aload 0 455), (455, o_iload 4 457), (457, o_const (2) 458), (458, o_bin (fun x y => x + y) 459), (459, o_sald L xs 460), (460, o_callv 8 77 3 0 0 463), (463, o_istore 6 465), (465, o_aload 2 466), (466, o_callv 8 62 1 0 0 469), (469, o_iload 5 471), (471, o_icmpeq 476 474), (474, o_const (0) 475), (475, o_zreturn), (476, o_iload 5 478), (478, o_ifne 493 481), (481, o_aload 3 482), (482, o_const (0) 483), (483, o_lald 484), (484, o_iload 6 486), (486, o_i2l 487), (487, o_lcmp 488), (488, o_ifeq 493 491), (491, o_const (0) 492), (492, o_zreturn), (493, o_goto 1457), (496, o_aload 1 497), (497, o_aload 0 498), (498, o_iload 4 500), (500, o_const (1) 501), (501, o_bin (fun x y => x + y) 502), (502, o_sald L xs 503), (503, o_aload 0 504), (504, o_iload 4 506), (506, o_const (2) 507), (507, o_bin (fun x y => x + y) 508), (508, o_sald L xs 509), (509, o_aload 0 510), (510, o_iload 4 512), (512, o_const (3) 513), (513, o_bin (fun x y => x + y) 514), (514, o_sald L xs 515), (515, o_aload 3 516), (516, o_call 127 5 5 28 519), (519, o_istore 5 521), (521, o_aload 2 522), (522, o_aload 0 523), (523, o_iload 4 525), (525, o_const (1) 526), (526, o_bin (fun x y => x + y) 527), (527, o_sald L xs 528)]
set_option maxRecDepth 20000 in
set_option maxHeartbeats 4000000 in
theorem ok_L_law_4 (L : Nat) (xs : Nat → Int32) : ∀ q ∈ cd_L_law_4 L xs, m_OK (fun G => G.2.2.2.2 = (L, xs)) m_my (cL_law, 7, RL, false, (some .boolean), []) q.1 q.2 :=
  m_cn (pc := 440) (ok_sald (m_dk dk_L_law_8 0 rfl) rfl) <|
  m_cn (pc := 441) (ok_aload_n (m_dk dk_L_law_8 1 rfl) rfl rfl) <|
  m_cn (pc := 442) (ok_callsw (hh9 := hh_L_cut) (T := mt_L_cut) my_L_cut rfl cw_L_cut rfl rfl (by decide) wd_506 wd_507 wd_0 (by decide +kernel) (m_dk dk_L_law_8 2 rfl) rfl) <|
  m_cn (pc := 445) (ok_istore (m_dk dk_L_law_8 3 rfl) rfl) <|
  m_cn (pc := 447) (ok_aload_n (m_dk dk_L_law_8 4 rfl) rfl rfl) <|
  m_cn (pc := 448) (ok_aload_n (m_dk dk_L_law_8 5 rfl) rfl rfl) <|
  m_cn (pc := 449) (ok_iload (m_dk dk_L_law_8 6 rfl) rfl) <|
  m_cn (pc := 451) (ok_iconst (m_dk dk_L_law_8 7 rfl) (by decide) rfl) <|
  m_cn (pc := 452) (ok_iadd (m_dk dk_L_law_8 8 rfl) rfl) <|
  m_cn (pc := 453) (ok_sald (m_dk dk_L_law_8 9 rfl) rfl) <|
  m_cn (pc := 454) (ok_aload_n (m_dk dk_L_law_8 10 rfl) rfl rfl) <|
  m_cn (pc := 455) (ok_iload (m_dk dk_L_law_8 11 rfl) rfl) <|
  m_cn (pc := 457) (ok_iconst (m_dk dk_L_law_8 12 rfl) (by decide) rfl) <|
  m_cn (pc := 458) (ok_iadd (m_dk dk_L_law_8 13 rfl) rfl) <|
  m_cn (pc := 459) (ok_sald (m_dk dk_L_law_8 14 rfl) rfl) <|
  m_cn (pc := 460) (ok_callv (T := mt_X7_cut) my_X7_cut rfl cw_X7_cut rfl rfl (by decide) (r9 := (RX7, TX7, 36)) rfl rfl wd_932 wd_933 wd_934 wd_6 (by decide +kernel) (m_dk dk_L_law_8 15 rfl) rfl) <|
  m_cn (pc := 463) (ok_istore (m_dk dk_L_law_8 16 rfl) rfl) <|
  m_cn (pc := 465) (ok_aload_n (m_dk dk_L_law_8 17 rfl) rfl rfl) <|
  m_cn (pc := 466) (ok_callv (T := mt_X7_thrown) my_X7_thrown rfl cw_X7_thrown rfl rfl (by decide) (r9 := (RX7, TX7, 36)) rfl rfl wd_898 wd_899 wd_900 wd_6 (by decide +kernel) (m_dk dk_L_law_8 18 rfl) rfl) <|
  m_cn (pc := 469) (ok_iload (m_dk dk_L_law_8 19 rfl) rfl) <|
  m_cn (pc := 471) (ok_icmpeq (m_dk dk_L_law_8 20 rfl) rfl rfl) <|
  m_cn (pc := 474) (ok_iconst (m_dk dk_L_law_8 21 rfl) (by decide) rfl) <|
  m_cn (pc := 475) (ok_zreturn (nx := 0) rfl (m_dk dk_L_law_8 22 rfl)) <|
  m_cn (pc := 476) (ok_iload (m_dk dk_L_law_8 23 rfl) rfl) <|
  m_cn (pc := 478) (ok_ifne (m_dk dk_L_law_8 24 rfl) rfl rfl) <|
  m_cn (pc := 481) (ok_aload_n (m_dk dk_L_law_8 25 rfl) rfl rfl) <|
  m_cn (pc := 482) (ok_iconst (m_dk dk_L_law_8 26 rfl) (by decide) rfl) <|
  m_cn (pc := 483) (ok_lald (m_dk dk_L_law_8 27 rfl) rfl) <|
  m_cn (pc := 484) (ok_iload (m_dk dk_L_law_8 28 rfl) rfl) <|
  m_cn (pc := 486) (ok_i2l (m_dk dk_L_law_8 29 rfl) rfl) <|
  m_cn (pc := 487) (ok_lcmp (m_dk dk_L_law_9 0 rfl) rfl) <|
  m_cn (pc := 488) (ok_ifeq (m_dk dk_L_law_9 1 rfl) rfl rfl) <|
  m_cn (pc := 491) (ok_iconst (m_dk dk_L_law_9 2 rfl) (by decide) rfl) <|
  m_cn (pc := 492) (ok_zreturn (nx := 0) rfl (m_dk dk_L_law_9 3 rfl)) <|
  m_cn (pc := 493) (ok_goto (nx := 0) (m_dk dk_L_law_9 4 rfl) rfl) <|
  m_cn (pc := 496) (ok_aload_n (m_dk dk_L_law_9 5 rfl) rfl rfl) <|
  m_cn (pc := 497) (ok_aload_n (m_dk dk_L_law_9 6 rfl) rfl rfl) <|
  m_cn (pc := 498) (ok_iload (m_dk dk_L_law_9 7 rfl) rfl) <|
  m_cn (pc := 500) (ok_iconst (m_dk dk_L_law_9 8 rfl) (by decide) rfl) <|
  m_cn (pc := 501) (ok_iadd (m_dk dk_L_law_9 9 rfl) rfl) <|
  m_cn (pc := 502) (ok_sald (m_dk dk_L_law_9 10 rfl) rfl) <|
  m_cn (pc := 503) (ok_aload_n (m_dk dk_L_law_9 11 rfl) rfl rfl) <|
  m_cn (pc := 504) (ok_iload (m_dk dk_L_law_9 12 rfl) rfl) <|
  m_cn (pc := 506) (ok_iconst (m_dk dk_L_law_9 13 rfl) (by decide) rfl) <|
  m_cn (pc := 507) (ok_iadd (m_dk dk_L_law_9 14 rfl) rfl) <|
  m_cn (pc := 508) (ok_sald (m_dk dk_L_law_9 15 rfl) rfl) <|
  m_cn (pc := 509) (ok_aload_n (m_dk dk_L_law_9 16 rfl) rfl rfl) <|
  m_cn (pc := 510) (ok_iload (m_dk dk_L_law_9 17 rfl) rfl) <|
  m_cn (pc := 512) (ok_iconst (m_dk dk_L_law_9 18 rfl) (by decide) rfl) <|
  m_cn (pc := 513) (ok_iadd (m_dk dk_L_law_9 19 rfl) rfl) <|
  m_cn (pc := 514) (ok_sald (m_dk dk_L_law_9 20 rfl) rfl) <|
  m_cn (pc := 515) (ok_aload_n (m_dk dk_L_law_9 21 rfl) rfl rfl) <|
  m_cn (pc := 516) (ok_callsw (hh9 := hh_L_ship) (T := mt_L_ship) my_L_ship rfl cw_L_ship rfl rfl (by decide) wd_543 wd_544 wd_0 (by decide +kernel) (m_dk dk_L_law_9 22 rfl) rfl) <|
  m_cn (pc := 519) (ok_istore (m_dk dk_L_law_9 23 rfl) rfl) <|
  m_cn (pc := 521) (ok_aload_n (m_dk dk_L_law_9 24 rfl) rfl rfl) <|
  m_cn (pc := 522) (ok_aload_n (m_dk dk_L_law_9 25 rfl) rfl rfl) <|
  m_cn (pc := 523) (ok_iload (m_dk dk_L_law_9 26 rfl) rfl) <|
  m_cn (pc := 525) (ok_iconst (m_dk dk_L_law_9 27 rfl) (by decide) rfl) <|
  m_cn (pc := 526) (ok_iadd (m_dk dk_L_law_9 28 rfl) rfl) <|
  m_cn (pc := 527) (ok_sald (m_dk dk_L_law_9 29 rfl) rfl) <|
  m_nl
def cd_L_law_5 (L : Nat) (xs : Nat → Int32) : List (Nat × m_Op) := [(528, o_aload 0 529), (529, o_iload 4 531), (531, o_const (2) 532), (532, o_bin (fun x y => x + y) 533), (533, o_sald L xs 534), (534, o_aload 0 535), (535, o_iload 4 537), (537, o_const (3) 538), (538, o_bin (fun x y => x + y) 539), (539, o_sald L xs 540), (540, o_callv 8 78 4 0 0 543), (543, o_istore 6 545), (545, o_aload 2 546), (546, o_callv 8 62 1 0 0 549), (549, o_iload 5 551), (551, o_icmpeq 556 554), (554, o_const (0) 555), (555, o_zreturn), (556, o_iload 5 558), (558, o_ifne 573 561), (561, o_aload 3 562), (562, o_const (0) 563), (563, o_lald 564), (564, o_iload 6 566), (566, o_i2l 567), (567, o_lcmp 568), (568, o_ifeq 573 571), (571, o_const (0) 572), (572, o_zreturn), (573, o_goto 1457), (576, o_aload 1 577), (577, o_aload 0 578), (578, o_iload 4 580), (580, o_const (1) 581), (581, o_bin (fun x y => x + y) 582), (582, o_sald L xs 583), (583, o_aload 0 584), (584, o_iload 4 586), (586, o_const (2) 587), (587, o_bin (fun x y => x + y) 588), (588, o_sald L xs 589), (589, o_aload 3 590), (590, o_call 128 4 4 24 593), (593, o_istore 5 595), (595, o_aload 2 596), (596, o_aload 0 597), (597, o_iload 4 599), (599, o_const (1) 600), (600, o_bin (fun x y => x + y) 601), (601, o_sald L xs 602), (602, o_aload 0 603), (603, o_iload 4 605), (605, o_const (2) 606), (606, o_bin (fun x y => x + y) 607), (607, o_sald L xs 608), (608, o_callv 8 80 3 0 0 611), (611, o_istore 6 613), (613, o_aload 2 614), (614, o_callv 8 62 1 0 0 617), (617, o_iload 5 619)]
set_option maxRecDepth 20000 in
set_option maxHeartbeats 4000000 in
theorem ok_L_law_5 (L : Nat) (xs : Nat → Int32) : ∀ q ∈ cd_L_law_5 L xs, m_OK (fun G => G.2.2.2.2 = (L, xs)) m_my (cL_law, 7, RL, false, (some .boolean), []) q.1 q.2 :=
  m_cn (pc := 528) (ok_aload_n (m_dk dk_L_law_10 0 rfl) rfl rfl) <|
  m_cn (pc := 529) (ok_iload (m_dk dk_L_law_10 1 rfl) rfl) <|
  m_cn (pc := 531) (ok_iconst (m_dk dk_L_law_10 2 rfl) (by decide) rfl) <|
  m_cn (pc := 532) (ok_iadd (m_dk dk_L_law_10 3 rfl) rfl) <|
  m_cn (pc := 533) (ok_sald (m_dk dk_L_law_10 4 rfl) rfl) <|
  m_cn (pc := 534) (ok_aload_n (m_dk dk_L_law_10 5 rfl) rfl rfl) <|
  m_cn (pc := 535) (ok_iload (m_dk dk_L_law_10 6 rfl) rfl) <|
  m_cn (pc := 537) (ok_iconst (m_dk dk_L_law_10 7 rfl) (by decide) rfl) <|
  m_cn (pc := 538) (ok_iadd (m_dk dk_L_law_10 8 rfl) rfl) <|
  m_cn (pc := 539) (ok_sald (m_dk dk_L_law_10 9 rfl) rfl) <|
  m_cn (pc := 540) (ok_callv (T := mt_X7_ship) my_X7_ship rfl cw_X7_ship rfl rfl (by decide) (r9 := (RX7, TX7, 36)) rfl rfl wd_948 wd_949 wd_950 wd_6 (by decide +kernel) (m_dk dk_L_law_10 10 rfl) rfl) <|
  m_cn (pc := 543) (ok_istore (m_dk dk_L_law_10 11 rfl) rfl) <|
  m_cn (pc := 545) (ok_aload_n (m_dk dk_L_law_10 12 rfl) rfl rfl) <|
  m_cn (pc := 546) (ok_callv (T := mt_X7_thrown) my_X7_thrown rfl cw_X7_thrown rfl rfl (by decide) (r9 := (RX7, TX7, 36)) rfl rfl wd_898 wd_899 wd_900 wd_6 (by decide +kernel) (m_dk dk_L_law_10 13 rfl) rfl) <|
  m_cn (pc := 549) (ok_iload (m_dk dk_L_law_10 14 rfl) rfl) <|
  m_cn (pc := 551) (ok_icmpeq (m_dk dk_L_law_10 15 rfl) rfl rfl) <|
  m_cn (pc := 554) (ok_iconst (m_dk dk_L_law_10 16 rfl) (by decide) rfl) <|
  m_cn (pc := 555) (ok_zreturn (nx := 0) rfl (m_dk dk_L_law_10 17 rfl)) <|
  m_cn (pc := 556) (ok_iload (m_dk dk_L_law_10 18 rfl) rfl) <|
  m_cn (pc := 558) (ok_ifne (m_dk dk_L_law_10 19 rfl) rfl rfl) <|
  m_cn (pc := 561) (ok_aload_n (m_dk dk_L_law_10 20 rfl) rfl rfl) <|
  m_cn (pc := 562) (ok_iconst (m_dk dk_L_law_10 21 rfl) (by decide) rfl) <|
  m_cn (pc := 563) (ok_lald (m_dk dk_L_law_10 22 rfl) rfl) <|
  m_cn (pc := 564) (ok_iload (m_dk dk_L_law_10 23 rfl) rfl) <|
  m_cn (pc := 566) (ok_i2l (m_dk dk_L_law_10 24 rfl) rfl) <|
  m_cn (pc := 567) (ok_lcmp (m_dk dk_L_law_10 25 rfl) rfl) <|
  m_cn (pc := 568) (ok_ifeq (m_dk dk_L_law_10 26 rfl) rfl rfl) <|
  m_cn (pc := 571) (ok_iconst (m_dk dk_L_law_10 27 rfl) (by decide) rfl) <|
  m_cn (pc := 572) (ok_zreturn (nx := 0) rfl (m_dk dk_L_law_10 28 rfl)) <|
  m_cn (pc := 573) (ok_goto (nx := 0) (m_dk dk_L_law_10 29 rfl) rfl) <|
  m_cn (pc := 576) (ok_aload_n (m_dk dk_L_law_11 0 rfl) rfl rfl) <|
  m_cn (pc := 577) (ok_aload_n (m_dk dk_L_law_11 1 rfl) rfl rfl) <|
  m_cn (pc := 578) (ok_iload (m_dk dk_L_law_11 2 rfl) rfl) <|
  m_cn (pc := 580) (ok_iconst (m_dk dk_L_law_11 3 rfl) (by decide) rfl) <|
  m_cn (pc := 581) (ok_iadd (m_dk dk_L_law_11 4 rfl) rfl) <|
  m_cn (pc := 582) (ok_sald (m_dk dk_L_law_11 5 rfl) rfl) <|
  m_cn (pc := 583) (ok_aload_n (m_dk dk_L_law_11 6 rfl) rfl rfl) <|
  m_cn (pc := 584) (ok_iload (m_dk dk_L_law_11 7 rfl) rfl) <|
  m_cn (pc := 586) (ok_iconst (m_dk dk_L_law_11 8 rfl) (by decide) rfl) <|
  m_cn (pc := 587) (ok_iadd (m_dk dk_L_law_11 9 rfl) rfl) <|
  m_cn (pc := 588) (ok_sald (m_dk dk_L_law_11 10 rfl) rfl) <|
  m_cn (pc := 589) (ok_aload_n (m_dk dk_L_law_11 11 rfl) rfl rfl) <|
  m_cn (pc := 590) (ok_callsw (hh9 := hh_L_send) (T := mt_L_send) my_L_send rfl cw_L_send rfl rfl (by decide) wd_571 wd_572 wd_0 (by decide +kernel) (m_dk dk_L_law_11 12 rfl) rfl) <|
  m_cn (pc := 593) (ok_istore (m_dk dk_L_law_11 13 rfl) rfl) <|
  m_cn (pc := 595) (ok_aload_n (m_dk dk_L_law_11 14 rfl) rfl rfl) <|
  m_cn (pc := 596) (ok_aload_n (m_dk dk_L_law_11 15 rfl) rfl rfl) <|
  m_cn (pc := 597) (ok_iload (m_dk dk_L_law_11 16 rfl) rfl) <|
  m_cn (pc := 599) (ok_iconst (m_dk dk_L_law_11 17 rfl) (by decide) rfl) <|
  m_cn (pc := 600) (ok_iadd (m_dk dk_L_law_11 18 rfl) rfl) <|
  m_cn (pc := 601) (ok_sald (m_dk dk_L_law_11 19 rfl) rfl) <|
  m_cn (pc := 602) (ok_aload_n (m_dk dk_L_law_11 20 rfl) rfl rfl) <|
  m_cn (pc := 603) (ok_iload (m_dk dk_L_law_11 21 rfl) rfl) <|
  m_cn (pc := 605) (ok_iconst (m_dk dk_L_law_11 22 rfl) (by decide) rfl) <|
  m_cn (pc := 606) (ok_iadd (m_dk dk_L_law_11 23 rfl) rfl) <|
  m_cn (pc := 607) (ok_sald (m_dk dk_L_law_11 24 rfl) rfl) <|
  m_cn (pc := 608) (ok_callv (T := mt_X7_send) my_X7_send rfl cw_X7_send rfl rfl (by decide) (r9 := (RX7, TX7, 36)) rfl rfl wd_952 wd_953 wd_954 wd_6 (by decide +kernel) (m_dk dk_L_law_11 25 rfl) rfl) <|
  m_cn (pc := 611) (ok_istore (m_dk dk_L_law_11 26 rfl) rfl) <|
  m_cn (pc := 613) (ok_aload_n (m_dk dk_L_law_11 27 rfl) rfl rfl) <|
  m_cn (pc := 614) (ok_callv (T := mt_X7_thrown) my_X7_thrown rfl cw_X7_thrown rfl rfl (by decide) (r9 := (RX7, TX7, 36)) rfl rfl wd_898 wd_899 wd_900 wd_6 (by decide +kernel) (m_dk dk_L_law_11 28 rfl) rfl) <|
  m_cn (pc := 617) (ok_iload (m_dk dk_L_law_11 29 rfl) rfl) <|
  m_nl
def cd_L_law_6 (L : Nat) (xs : Nat → Int32) : List (Nat × m_Op) := [(619, o_icmpeq 624 622), (622, o_const (0) 623), (623, o_zreturn), (624, o_iload 5 626), (626, o_ifne 641 629), (629, o_aload 3 630), (630, o_const (0) 631), (631, o_lald 632), (632, o_iload 6 634), (634, o_i2l 635), (635, o_lcmp 636), (636, o_ifeq 641 639), (639, o_const (0) 640), (640, o_zreturn), (641, o_goto 1457), (644, o_aload 1 645), (645, o_aload 0 646), (646, o_iload 4 648), (648, o_const (1) 649), (649, o_bin (fun x y => x + y) 650), (650, o_sald L xs 651), (651, o_aload 0 652), (652, o_iload 4 654), (654, o_const (2) 655), (655, o_bin (fun x y => x + y) 656), (656, o_sald L xs 657), (657, o_aload 3 658), (658, o_call 129 4 3 18 661), (661, o_istore 5 663), (663, o_aload 2 664), (664, o_aload 0 665), (665, o_iload 4 667), (667, o_const (1) 668), (668, o_bin (fun x y => x + y) 669), (669, o_sald L xs 670), (670, o_aload 0 671), (671, o_iload 4 673), (673, o_const (2) 674), (674, o_bin (fun x y => x + y) 675), (675, o_sald L xs 676), (676, o_callv 8 81 3 0 0 679), (679, o_istore 6 681), (681, o_aload 2 682), (682, o_callv 8 62 1 0 0 685), (685, o_iload 5 687), (687, o_icmpeq 692 690), (690, o_const (0) 691), (691, o_zreturn), (692, o_iload 5 694), (694, o_ifne 709 697), (697, o_aload 3 698), (698, o_const (0) 699), (699, o_lald 700), (700, o_iload 6 702), (702, o_i2l 703), (703, o_lcmp 704), (704, o_ifeq 709 707), (707, o_const (0) 708), (708, o_zreturn), (709, o_goto 1457)]
set_option maxRecDepth 20000 in
set_option maxHeartbeats 4000000 in
theorem ok_L_law_6 (L : Nat) (xs : Nat → Int32) : ∀ q ∈ cd_L_law_6 L xs, m_OK (fun G => G.2.2.2.2 = (L, xs)) m_my (cL_law, 7, RL, false, (some .boolean), []) q.1 q.2 :=
  m_cn (pc := 619) (ok_icmpeq (m_dk dk_L_law_12 0 rfl) rfl rfl) <|
  m_cn (pc := 622) (ok_iconst (m_dk dk_L_law_12 1 rfl) (by decide) rfl) <|
  m_cn (pc := 623) (ok_zreturn (nx := 0) rfl (m_dk dk_L_law_12 2 rfl)) <|
  m_cn (pc := 624) (ok_iload (m_dk dk_L_law_12 3 rfl) rfl) <|
  m_cn (pc := 626) (ok_ifne (m_dk dk_L_law_12 4 rfl) rfl rfl) <|
  m_cn (pc := 629) (ok_aload_n (m_dk dk_L_law_12 5 rfl) rfl rfl) <|
  m_cn (pc := 630) (ok_iconst (m_dk dk_L_law_12 6 rfl) (by decide) rfl) <|
  m_cn (pc := 631) (ok_lald (m_dk dk_L_law_12 7 rfl) rfl) <|
  m_cn (pc := 632) (ok_iload (m_dk dk_L_law_12 8 rfl) rfl) <|
  m_cn (pc := 634) (ok_i2l (m_dk dk_L_law_12 9 rfl) rfl) <|
  m_cn (pc := 635) (ok_lcmp (m_dk dk_L_law_12 10 rfl) rfl) <|
  m_cn (pc := 636) (ok_ifeq (m_dk dk_L_law_12 11 rfl) rfl rfl) <|
  m_cn (pc := 639) (ok_iconst (m_dk dk_L_law_12 12 rfl) (by decide) rfl) <|
  m_cn (pc := 640) (ok_zreturn (nx := 0) rfl (m_dk dk_L_law_12 13 rfl)) <|
  m_cn (pc := 641) (ok_goto (nx := 0) (m_dk dk_L_law_12 14 rfl) rfl) <|
  m_cn (pc := 644) (ok_aload_n (m_dk dk_L_law_12 15 rfl) rfl rfl) <|
  m_cn (pc := 645) (ok_aload_n (m_dk dk_L_law_12 16 rfl) rfl rfl) <|
  m_cn (pc := 646) (ok_iload (m_dk dk_L_law_12 17 rfl) rfl) <|
  m_cn (pc := 648) (ok_iconst (m_dk dk_L_law_12 18 rfl) (by decide) rfl) <|
  m_cn (pc := 649) (ok_iadd (m_dk dk_L_law_12 19 rfl) rfl) <|
  m_cn (pc := 650) (ok_sald (m_dk dk_L_law_12 20 rfl) rfl) <|
  m_cn (pc := 651) (ok_aload_n (m_dk dk_L_law_12 21 rfl) rfl rfl) <|
  m_cn (pc := 652) (ok_iload (m_dk dk_L_law_12 22 rfl) rfl) <|
  m_cn (pc := 654) (ok_iconst (m_dk dk_L_law_12 23 rfl) (by decide) rfl) <|
  m_cn (pc := 655) (ok_iadd (m_dk dk_L_law_12 24 rfl) rfl) <|
  m_cn (pc := 656) (ok_sald (m_dk dk_L_law_12 25 rfl) rfl) <|
  m_cn (pc := 657) (ok_aload_n (m_dk dk_L_law_12 26 rfl) rfl rfl) <|
  m_cn (pc := 658) (ok_callsw (hh9 := hh_L_fill) (T := mt_L_fill) my_L_fill rfl cw_L_fill rfl rfl (by decide) wd_584 wd_585 wd_0 (by decide +kernel) (m_dk dk_L_law_12 27 rfl) rfl) <|
  m_cn (pc := 661) (ok_istore (m_dk dk_L_law_12 28 rfl) rfl) <|
  m_cn (pc := 663) (ok_aload_n (m_dk dk_L_law_12 29 rfl) rfl rfl) <|
  m_cn (pc := 664) (ok_aload_n (m_dk dk_L_law_13 0 rfl) rfl rfl) <|
  m_cn (pc := 665) (ok_iload (m_dk dk_L_law_13 1 rfl) rfl) <|
  m_cn (pc := 667) (ok_iconst (m_dk dk_L_law_13 2 rfl) (by decide) rfl) <|
  m_cn (pc := 668) (ok_iadd (m_dk dk_L_law_13 3 rfl) rfl) <|
  m_cn (pc := 669) (ok_sald (m_dk dk_L_law_13 4 rfl) rfl) <|
  m_cn (pc := 670) (ok_aload_n (m_dk dk_L_law_13 5 rfl) rfl rfl) <|
  m_cn (pc := 671) (ok_iload (m_dk dk_L_law_13 6 rfl) rfl) <|
  m_cn (pc := 673) (ok_iconst (m_dk dk_L_law_13 7 rfl) (by decide) rfl) <|
  m_cn (pc := 674) (ok_iadd (m_dk dk_L_law_13 8 rfl) rfl) <|
  m_cn (pc := 675) (ok_sald (m_dk dk_L_law_13 9 rfl) rfl) <|
  m_cn (pc := 676) (ok_callv (T := mt_X7_fill) my_X7_fill rfl cw_X7_fill rfl rfl (by decide) (r9 := (RX7, TX7, 36)) rfl rfl wd_968 wd_969 wd_970 wd_6 (by decide +kernel) (m_dk dk_L_law_13 10 rfl) rfl) <|
  m_cn (pc := 679) (ok_istore (m_dk dk_L_law_13 11 rfl) rfl) <|
  m_cn (pc := 681) (ok_aload_n (m_dk dk_L_law_13 12 rfl) rfl rfl) <|
  m_cn (pc := 682) (ok_callv (T := mt_X7_thrown) my_X7_thrown rfl cw_X7_thrown rfl rfl (by decide) (r9 := (RX7, TX7, 36)) rfl rfl wd_898 wd_899 wd_900 wd_6 (by decide +kernel) (m_dk dk_L_law_13 13 rfl) rfl) <|
  m_cn (pc := 685) (ok_iload (m_dk dk_L_law_13 14 rfl) rfl) <|
  m_cn (pc := 687) (ok_icmpeq (m_dk dk_L_law_13 15 rfl) rfl rfl) <|
  m_cn (pc := 690) (ok_iconst (m_dk dk_L_law_13 16 rfl) (by decide) rfl) <|
  m_cn (pc := 691) (ok_zreturn (nx := 0) rfl (m_dk dk_L_law_13 17 rfl)) <|
  m_cn (pc := 692) (ok_iload (m_dk dk_L_law_13 18 rfl) rfl) <|
  m_cn (pc := 694) (ok_ifne (m_dk dk_L_law_13 19 rfl) rfl rfl) <|
  m_cn (pc := 697) (ok_aload_n (m_dk dk_L_law_13 20 rfl) rfl rfl) <|
  m_cn (pc := 698) (ok_iconst (m_dk dk_L_law_13 21 rfl) (by decide) rfl) <|
  m_cn (pc := 699) (ok_lald (m_dk dk_L_law_13 22 rfl) rfl) <|
  m_cn (pc := 700) (ok_iload (m_dk dk_L_law_13 23 rfl) rfl) <|
  m_cn (pc := 702) (ok_i2l (m_dk dk_L_law_13 24 rfl) rfl) <|
  m_cn (pc := 703) (ok_lcmp (m_dk dk_L_law_13 25 rfl) rfl) <|
  m_cn (pc := 704) (ok_ifeq (m_dk dk_L_law_13 26 rfl) rfl rfl) <|
  m_cn (pc := 707) (ok_iconst (m_dk dk_L_law_13 27 rfl) (by decide) rfl) <|
  m_cn (pc := 708) (ok_zreturn (nx := 0) rfl (m_dk dk_L_law_13 28 rfl)) <|
  m_cn (pc := 709) (ok_goto (nx := 0) (m_dk dk_L_law_13 29 rfl) rfl) <|
  m_nl
def cd_L_law_7 (L : Nat) (xs : Nat → Int32) : List (Nat × m_Op) := [(712, o_aload 1 713), (713, o_aload 0 714), (714, o_iload 4 716), (716, o_const (1) 717), (717, o_bin (fun x y => x + y) 718), (718, o_sald L xs 719), (719, o_aload 0 720), (720, o_iload 4 722), (722, o_const (2) 723), (723, o_bin (fun x y => x + y) 724), (724, o_sald L xs 725), (725, o_call 130 3 2 12 728), (728, o_istore 5 730), (730, o_aload 2 731), (731, o_aload 0 732), (732, o_iload 4 734), (734, o_const (1) 735), (735, o_bin (fun x y => x + y) 736), (736, o_sald L xs 737), (737, o_aload 0 738), (738, o_iload 4 740), (740, o_const (2) 741), (741, o_bin (fun x y => x + y) 742), (742, o_sald L xs 743), (743, o_callv 8 82 3 0 0 746), (746, o_aload 2 747), (747, o_callv 8 62 1 0 0 750), (750, o_iload 5 752), (752, o_icmpeq 757 755), (755, o_const (0) 756), (756, o_zreturn), (757, o_goto 1457), (760, o_aload 1 761), (761, o_aload 0 762), (762, o_iload 4 764), (764, o_const (1) 765), (765, o_bin (fun x y => x + y) 766), (766, o_sald L xs 767), (767, o_aload 3 768), (768, o_call 131 3 2 12 771), (771, o_istore 5 773), (773, o_aload 2 774), (774, o_aload 0 775), (775, o_iload 4 777), (777, o_const (1) 778), (778, o_bin (fun x y => x + y) 779), (779, o_sald L xs 780), (780, o_callv 8 95 2 0 0 783), (783, o_istore 6 785), (785, o_aload 2 786), (786, o_callv 8 62 1 0 0 789), (789, o_iload 5 791), (791, o_icmpeq 796 794), (794, o_const (0) 795), (795, o_zreturn), (796, o_iload 5 798), (798, o_ifne 813 801), (801, o_aload 3 802), (802, o_const (0) 803), (803, o_lald 804)]
set_option maxRecDepth 20000 in
set_option maxHeartbeats 4000000 in
theorem ok_L_law_7 (L : Nat) (xs : Nat → Int32) : ∀ q ∈ cd_L_law_7 L xs, m_OK (fun G => G.2.2.2.2 = (L, xs)) m_my (cL_law, 7, RL, false, (some .boolean), []) q.1 q.2 :=
  m_cn (pc := 712) (ok_aload_n (m_dk dk_L_law_14 0 rfl) rfl rfl) <|
  m_cn (pc := 713) (ok_aload_n (m_dk dk_L_law_14 1 rfl) rfl rfl) <|
  m_cn (pc := 714) (ok_iload (m_dk dk_L_law_14 2 rfl) rfl) <|
  m_cn (pc := 716) (ok_iconst (m_dk dk_L_law_14 3 rfl) (by decide) rfl) <|
  m_cn (pc := 717) (ok_iadd (m_dk dk_L_law_14 4 rfl) rfl) <|
  m_cn (pc := 718) (ok_sald (m_dk dk_L_law_14 5 rfl) rfl) <|
  m_cn (pc := 719) (ok_aload_n (m_dk dk_L_law_14 6 rfl) rfl rfl) <|
  m_cn (pc := 720) (ok_iload (m_dk dk_L_law_14 7 rfl) rfl) <|
  m_cn (pc := 722) (ok_iconst (m_dk dk_L_law_14 8 rfl) (by decide) rfl) <|
  m_cn (pc := 723) (ok_iadd (m_dk dk_L_law_14 9 rfl) rfl) <|
  m_cn (pc := 724) (ok_sald (m_dk dk_L_law_14 10 rfl) rfl) <|
  m_cn (pc := 725) (ok_callsw (hh9 := hh_L_storm) (T := mt_L_storm) my_L_storm rfl cw_L_storm rfl rfl (by decide) wd_592 wd_593 wd_0 (by decide +kernel) (m_dk dk_L_law_14 11 rfl) rfl) <|
  m_cn (pc := 728) (ok_istore (m_dk dk_L_law_14 12 rfl) rfl) <|
  m_cn (pc := 730) (ok_aload_n (m_dk dk_L_law_14 13 rfl) rfl rfl) <|
  m_cn (pc := 731) (ok_aload_n (m_dk dk_L_law_14 14 rfl) rfl rfl) <|
  m_cn (pc := 732) (ok_iload (m_dk dk_L_law_14 15 rfl) rfl) <|
  m_cn (pc := 734) (ok_iconst (m_dk dk_L_law_14 16 rfl) (by decide) rfl) <|
  m_cn (pc := 735) (ok_iadd (m_dk dk_L_law_14 17 rfl) rfl) <|
  m_cn (pc := 736) (ok_sald (m_dk dk_L_law_14 18 rfl) rfl) <|
  m_cn (pc := 737) (ok_aload_n (m_dk dk_L_law_14 19 rfl) rfl rfl) <|
  m_cn (pc := 738) (ok_iload (m_dk dk_L_law_14 20 rfl) rfl) <|
  m_cn (pc := 740) (ok_iconst (m_dk dk_L_law_14 21 rfl) (by decide) rfl) <|
  m_cn (pc := 741) (ok_iadd (m_dk dk_L_law_14 22 rfl) rfl) <|
  m_cn (pc := 742) (ok_sald (m_dk dk_L_law_14 23 rfl) rfl) <|
  m_cn (pc := 743) (ok_callv (T := mt_X7_storm) my_X7_storm rfl cw_X7_storm rfl rfl (by decide) (r9 := (RX7, TX7, 36)) rfl rfl wd_972 wd_973 wd_974 wd_6 (by decide +kernel) (m_dk dk_L_law_14 24 rfl) rfl) <|
  m_cn (pc := 746) (ok_aload_n (m_dk dk_L_law_14 25 rfl) rfl rfl) <|
  m_cn (pc := 747) (ok_callv (T := mt_X7_thrown) my_X7_thrown rfl cw_X7_thrown rfl rfl (by decide) (r9 := (RX7, TX7, 36)) rfl rfl wd_898 wd_899 wd_900 wd_6 (by decide +kernel) (m_dk dk_L_law_14 26 rfl) rfl) <|
  m_cn (pc := 750) (ok_iload (m_dk dk_L_law_14 27 rfl) rfl) <|
  m_cn (pc := 752) (ok_icmpeq (m_dk dk_L_law_14 28 rfl) rfl rfl) <|
  m_cn (pc := 755) (ok_iconst (m_dk dk_L_law_14 29 rfl) (by decide) rfl) <|
  m_cn (pc := 756) (ok_zreturn (nx := 0) rfl (m_dk dk_L_law_15 0 rfl)) <|
  m_cn (pc := 757) (ok_goto (nx := 0) (m_dk dk_L_law_15 1 rfl) rfl) <|
  m_cn (pc := 760) (ok_aload_n (m_dk dk_L_law_15 2 rfl) rfl rfl) <|
  m_cn (pc := 761) (ok_aload_n (m_dk dk_L_law_15 3 rfl) rfl rfl) <|
  m_cn (pc := 762) (ok_iload (m_dk dk_L_law_15 4 rfl) rfl) <|
  m_cn (pc := 764) (ok_iconst (m_dk dk_L_law_15 5 rfl) (by decide) rfl) <|
  m_cn (pc := 765) (ok_iadd (m_dk dk_L_law_15 6 rfl) rfl) <|
  m_cn (pc := 766) (ok_sald (m_dk dk_L_law_15 7 rfl) rfl) <|
  m_cn (pc := 767) (ok_aload_n (m_dk dk_L_law_15 8 rfl) rfl rfl) <|
  m_cn (pc := 768) (ok_callsw (hh9 := hh_L_pass) (T := mt_L_pass) my_L_pass rfl cw_L_pass rfl rfl (by decide) wd_599 wd_600 wd_0 (by decide +kernel) (m_dk dk_L_law_15 9 rfl) rfl) <|
  m_cn (pc := 771) (ok_istore (m_dk dk_L_law_15 10 rfl) rfl) <|
  m_cn (pc := 773) (ok_aload_n (m_dk dk_L_law_15 11 rfl) rfl rfl) <|
  m_cn (pc := 774) (ok_aload_n (m_dk dk_L_law_15 12 rfl) rfl rfl) <|
  m_cn (pc := 775) (ok_iload (m_dk dk_L_law_15 13 rfl) rfl) <|
  m_cn (pc := 777) (ok_iconst (m_dk dk_L_law_15 14 rfl) (by decide) rfl) <|
  m_cn (pc := 778) (ok_iadd (m_dk dk_L_law_15 15 rfl) rfl) <|
  m_cn (pc := 779) (ok_sald (m_dk dk_L_law_15 16 rfl) rfl) <|
  m_cn (pc := 780) (ok_callv (T := mt_X7_pass) my_X7_pass rfl cw_X7_pass rfl rfl (by decide) (r9 := (RX7, TX7, 36)) rfl rfl wd_976 wd_977 wd_978 wd_6 (by decide +kernel) (m_dk dk_L_law_15 17 rfl) rfl) <|
  m_cn (pc := 783) (ok_istore (m_dk dk_L_law_15 18 rfl) rfl) <|
  m_cn (pc := 785) (ok_aload_n (m_dk dk_L_law_15 19 rfl) rfl rfl) <|
  m_cn (pc := 786) (ok_callv (T := mt_X7_thrown) my_X7_thrown rfl cw_X7_thrown rfl rfl (by decide) (r9 := (RX7, TX7, 36)) rfl rfl wd_898 wd_899 wd_900 wd_6 (by decide +kernel) (m_dk dk_L_law_15 20 rfl) rfl) <|
  m_cn (pc := 789) (ok_iload (m_dk dk_L_law_15 21 rfl) rfl) <|
  m_cn (pc := 791) (ok_icmpeq (m_dk dk_L_law_15 22 rfl) rfl rfl) <|
  m_cn (pc := 794) (ok_iconst (m_dk dk_L_law_15 23 rfl) (by decide) rfl) <|
  m_cn (pc := 795) (ok_zreturn (nx := 0) rfl (m_dk dk_L_law_15 24 rfl)) <|
  m_cn (pc := 796) (ok_iload (m_dk dk_L_law_15 25 rfl) rfl) <|
  m_cn (pc := 798) (ok_ifne (m_dk dk_L_law_15 26 rfl) rfl rfl) <|
  m_cn (pc := 801) (ok_aload_n (m_dk dk_L_law_15 27 rfl) rfl rfl) <|
  m_cn (pc := 802) (ok_iconst (m_dk dk_L_law_15 28 rfl) (by decide) rfl) <|
  m_cn (pc := 803) (ok_lald (m_dk dk_L_law_15 29 rfl) rfl) <|
  m_nl
def cd_L_law_8 (L : Nat) (xs : Nat → Int32) : List (Nat × m_Op) := [(804, o_iload 6 806), (806, o_i2l 807), (807, o_lcmp 808), (808, o_ifeq 813 811), (811, o_const (0) 812), (812, o_zreturn), (813, o_goto 1457), (816, o_aload 1 817), (817, o_aload 0 818), (818, o_iload 4 820), (820, o_const (1) 821), (821, o_bin (fun x y => x + y) 822), (822, o_sald L xs 823), (823, o_aload 0 824), (824, o_iload 4 826), (826, o_const (2) 827), (827, o_bin (fun x y => x + y) 828), (828, o_sald L xs 829), (829, o_aload 3 830), (830, o_call 132 4 2 12 833), (833, o_istore 5 835), (835, o_aload 2 836), (836, o_aload 0 837), (837, o_iload 4 839), (839, o_const (1) 840), (840, o_bin (fun x y => x + y) 841), (841, o_sald L xs 842), (842, o_aload 0 843), (843, o_iload 4 845), (845, o_const (2) 846), (846, o_bin (fun x y => x + y) 847), (847, o_sald L xs 848), (848, o_callv 8 96 3 0 0 851), (851, o_istore 6 853), (853, o_aload 2 854), (854, o_callv 8 62 1 0 0 857), (857, o_iload 5 859), (859, o_icmpeq 864 862), (862, o_const (0) 863), (863, o_zreturn), (864, o_iload 5 866), (866, o_ifne 881 869), (869, o_aload 3 870), (870, o_const (0) 871), (871, o_lald 872), (872, o_iload 6 874), (874, o_i2l 875), (875, o_lcmp 876), (876, o_ifeq 881 879), (879, o_const (0) 880), (880, o_zreturn), (881, o_goto 1457), (884, o_aload 1 885), (885, o_aload 0 886), (886, o_iload 4 888), (888, o_const (1) 889), (889, o_bin (fun x y => x + y) 890), (890, o_sald L xs 891), (891, o_aload 3 892), (892, o_call 133 3 1 6 895)]
set_option maxRecDepth 20000 in
set_option maxHeartbeats 4000000 in
theorem ok_L_law_8 (L : Nat) (xs : Nat → Int32) : ∀ q ∈ cd_L_law_8 L xs, m_OK (fun G => G.2.2.2.2 = (L, xs)) m_my (cL_law, 7, RL, false, (some .boolean), []) q.1 q.2 :=
  m_cn (pc := 804) (ok_iload (m_dk dk_L_law_16 0 rfl) rfl) <|
  m_cn (pc := 806) (ok_i2l (m_dk dk_L_law_16 1 rfl) rfl) <|
  m_cn (pc := 807) (ok_lcmp (m_dk dk_L_law_16 2 rfl) rfl) <|
  m_cn (pc := 808) (ok_ifeq (m_dk dk_L_law_16 3 rfl) rfl rfl) <|
  m_cn (pc := 811) (ok_iconst (m_dk dk_L_law_16 4 rfl) (by decide) rfl) <|
  m_cn (pc := 812) (ok_zreturn (nx := 0) rfl (m_dk dk_L_law_16 5 rfl)) <|
  m_cn (pc := 813) (ok_goto (nx := 0) (m_dk dk_L_law_16 6 rfl) rfl) <|
  m_cn (pc := 816) (ok_aload_n (m_dk dk_L_law_16 7 rfl) rfl rfl) <|
  m_cn (pc := 817) (ok_aload_n (m_dk dk_L_law_16 8 rfl) rfl rfl) <|
  m_cn (pc := 818) (ok_iload (m_dk dk_L_law_16 9 rfl) rfl) <|
  m_cn (pc := 820) (ok_iconst (m_dk dk_L_law_16 10 rfl) (by decide) rfl) <|
  m_cn (pc := 821) (ok_iadd (m_dk dk_L_law_16 11 rfl) rfl) <|
  m_cn (pc := 822) (ok_sald (m_dk dk_L_law_16 12 rfl) rfl) <|
  m_cn (pc := 823) (ok_aload_n (m_dk dk_L_law_16 13 rfl) rfl rfl) <|
  m_cn (pc := 824) (ok_iload (m_dk dk_L_law_16 14 rfl) rfl) <|
  m_cn (pc := 826) (ok_iconst (m_dk dk_L_law_16 15 rfl) (by decide) rfl) <|
  m_cn (pc := 827) (ok_iadd (m_dk dk_L_law_16 16 rfl) rfl) <|
  m_cn (pc := 828) (ok_sald (m_dk dk_L_law_16 17 rfl) rfl) <|
  m_cn (pc := 829) (ok_aload_n (m_dk dk_L_law_16 18 rfl) rfl rfl) <|
  m_cn (pc := 830) (ok_callsw (hh9 := hh_L_owned) (T := mt_L_owned) my_L_owned rfl cw_L_owned rfl rfl (by decide) wd_687 wd_688 wd_0 (by decide +kernel) (m_dk dk_L_law_16 19 rfl) rfl) <|
  m_cn (pc := 833) (ok_istore (m_dk dk_L_law_16 20 rfl) rfl) <|
  m_cn (pc := 835) (ok_aload_n (m_dk dk_L_law_16 21 rfl) rfl rfl) <|
  m_cn (pc := 836) (ok_aload_n (m_dk dk_L_law_16 22 rfl) rfl rfl) <|
  m_cn (pc := 837) (ok_iload (m_dk dk_L_law_16 23 rfl) rfl) <|
  m_cn (pc := 839) (ok_iconst (m_dk dk_L_law_16 24 rfl) (by decide) rfl) <|
  m_cn (pc := 840) (ok_iadd (m_dk dk_L_law_16 25 rfl) rfl) <|
  m_cn (pc := 841) (ok_sald (m_dk dk_L_law_16 26 rfl) rfl) <|
  m_cn (pc := 842) (ok_aload_n (m_dk dk_L_law_16 27 rfl) rfl rfl) <|
  m_cn (pc := 843) (ok_iload (m_dk dk_L_law_16 28 rfl) rfl) <|
  m_cn (pc := 845) (ok_iconst (m_dk dk_L_law_16 29 rfl) (by decide) rfl) <|
  m_cn (pc := 846) (ok_iadd (m_dk dk_L_law_17 0 rfl) rfl) <|
  m_cn (pc := 847) (ok_sald (m_dk dk_L_law_17 1 rfl) rfl) <|
  m_cn (pc := 848) (ok_callv (T := mt_X7_owned) my_X7_owned rfl cw_X7_owned rfl rfl (by decide) (r9 := (RX7, TX7, 36)) rfl rfl wd_1028 wd_1029 wd_1030 wd_6 (by decide +kernel) (m_dk dk_L_law_17 2 rfl) rfl) <|
  m_cn (pc := 851) (ok_istore (m_dk dk_L_law_17 3 rfl) rfl) <|
  m_cn (pc := 853) (ok_aload_n (m_dk dk_L_law_17 4 rfl) rfl rfl) <|
  m_cn (pc := 854) (ok_callv (T := mt_X7_thrown) my_X7_thrown rfl cw_X7_thrown rfl rfl (by decide) (r9 := (RX7, TX7, 36)) rfl rfl wd_898 wd_899 wd_900 wd_6 (by decide +kernel) (m_dk dk_L_law_17 5 rfl) rfl) <|
  m_cn (pc := 857) (ok_iload (m_dk dk_L_law_17 6 rfl) rfl) <|
  m_cn (pc := 859) (ok_icmpeq (m_dk dk_L_law_17 7 rfl) rfl rfl) <|
  m_cn (pc := 862) (ok_iconst (m_dk dk_L_law_17 8 rfl) (by decide) rfl) <|
  m_cn (pc := 863) (ok_zreturn (nx := 0) rfl (m_dk dk_L_law_17 9 rfl)) <|
  m_cn (pc := 864) (ok_iload (m_dk dk_L_law_17 10 rfl) rfl) <|
  m_cn (pc := 866) (ok_ifne (m_dk dk_L_law_17 11 rfl) rfl rfl) <|
  m_cn (pc := 869) (ok_aload_n (m_dk dk_L_law_17 12 rfl) rfl rfl) <|
  m_cn (pc := 870) (ok_iconst (m_dk dk_L_law_17 13 rfl) (by decide) rfl) <|
  m_cn (pc := 871) (ok_lald (m_dk dk_L_law_17 14 rfl) rfl) <|
  m_cn (pc := 872) (ok_iload (m_dk dk_L_law_17 15 rfl) rfl) <|
  m_cn (pc := 874) (ok_i2l (m_dk dk_L_law_17 16 rfl) rfl) <|
  m_cn (pc := 875) (ok_lcmp (m_dk dk_L_law_17 17 rfl) rfl) <|
  m_cn (pc := 876) (ok_ifeq (m_dk dk_L_law_17 18 rfl) rfl rfl) <|
  m_cn (pc := 879) (ok_iconst (m_dk dk_L_law_17 19 rfl) (by decide) rfl) <|
  m_cn (pc := 880) (ok_zreturn (nx := 0) rfl (m_dk dk_L_law_17 20 rfl)) <|
  m_cn (pc := 881) (ok_goto (nx := 0) (m_dk dk_L_law_17 21 rfl) rfl) <|
  m_cn (pc := 884) (ok_aload_n (m_dk dk_L_law_17 22 rfl) rfl rfl) <|
  m_cn (pc := 885) (ok_aload_n (m_dk dk_L_law_17 23 rfl) rfl rfl) <|
  m_cn (pc := 886) (ok_iload (m_dk dk_L_law_17 24 rfl) rfl) <|
  m_cn (pc := 888) (ok_iconst (m_dk dk_L_law_17 25 rfl) (by decide) rfl) <|
  m_cn (pc := 889) (ok_iadd (m_dk dk_L_law_17 26 rfl) rfl) <|
  m_cn (pc := 890) (ok_sald (m_dk dk_L_law_17 27 rfl) rfl) <|
  m_cn (pc := 891) (ok_aload_n (m_dk dk_L_law_17 28 rfl) rfl rfl) <|
  m_cn (pc := 892) (ok_callsw (hh9 := hh_L_isWhole) (T := mt_L_isWhole) my_L_isWhole rfl cw_L_isWhole rfl rfl (by decide) wd_694 wd_695 wd_0 (by decide +kernel) (m_dk dk_L_law_17 29 rfl) rfl) <|
  m_nl
def cd_L_law_9 (L : Nat) (xs : Nat → Int32) : List (Nat × m_Op) := [(895, o_istore 5 897), (897, o_aload 2 898), (898, o_aload 0 899), (899, o_iload 4 901), (901, o_const (1) 902), (902, o_bin (fun x y => x + y) 903), (903, o_sald L xs 904), (904, o_callv 8 97 2 0 0 907), (907, o_istore 6 909), (909, o_aload 2 910), (910, o_callv 8 62 1 0 0 913), (913, o_iload 5 915), (915, o_icmpeq 920 918), (918, o_const (0) 919), (919, o_zreturn), (920, o_iload 5 922), (922, o_ifne 944 925), (925, o_aload 3 926), (926, o_const (0) 927), (927, o_lald 928), (928, o_iload 6 930), (930, o_ifeq 937 933), (933, o_lconst 1 934), (934, o_goto 938), (937, o_lconst 0 938), (938, o_lcmp 939), (939, o_ifeq 944 942), (942, o_const (0) 943), (943, o_zreturn), (944, o_goto 1457), (947, o_aload 1 948), (948, o_aload 0 949), (949, o_iload 4 951), (951, o_const (1) 952), (952, o_bin (fun x y => x + y) 953), (953, o_sald L xs 954), (954, o_aload 3 955), (955, o_call 134 3 1 6 958), (958, o_istore 5 960), (960, o_aload 2 961), (961, o_aload 0 962), (962, o_iload 4 964), (964, o_const (1) 965), (965, o_bin (fun x y => x + y) 966), (966, o_sald L xs 967), (967, o_callv 8 98 2 0 0 970), (970, o_istore 6 972), (972, o_aload 2 973), (973, o_callv 8 62 1 0 0 976), (976, o_iload 5 978), (978, o_icmpeq 983 981), (981, o_const (0) 982), (982, o_zreturn), (983, o_iload 5 985), (985, o_ifne 1000 988), (988, o_aload 3 989), (989, o_const (0) 990), (990, o_lald 991), (991, o_iload 6 993), (993, o_i2l 994)]
set_option maxRecDepth 20000 in
set_option maxHeartbeats 4000000 in
theorem ok_L_law_9 (L : Nat) (xs : Nat → Int32) : ∀ q ∈ cd_L_law_9 L xs, m_OK (fun G => G.2.2.2.2 = (L, xs)) m_my (cL_law, 7, RL, false, (some .boolean), []) q.1 q.2 :=
  m_cn (pc := 895) (ok_istore (m_dk dk_L_law_18 0 rfl) rfl) <|
  m_cn (pc := 897) (ok_aload_n (m_dk dk_L_law_18 1 rfl) rfl rfl) <|
  m_cn (pc := 898) (ok_aload_n (m_dk dk_L_law_18 2 rfl) rfl rfl) <|
  m_cn (pc := 899) (ok_iload (m_dk dk_L_law_18 3 rfl) rfl) <|
  m_cn (pc := 901) (ok_iconst (m_dk dk_L_law_18 4 rfl) (by decide) rfl) <|
  m_cn (pc := 902) (ok_iadd (m_dk dk_L_law_18 5 rfl) rfl) <|
  m_cn (pc := 903) (ok_sald (m_dk dk_L_law_18 6 rfl) rfl) <|
  m_cn (pc := 904) (ok_callv (T := mt_X7_isWhole) my_X7_isWhole rfl cw_X7_isWhole rfl rfl (by decide) (r9 := (RX7, TX7, 36)) rfl rfl wd_1032 wd_1033 wd_1034 wd_6 (by decide +kernel) (m_dk dk_L_law_18 7 rfl) rfl) <|
  m_cn (pc := 907) (ok_istore (m_dk dk_L_law_18 8 rfl) rfl) <|
  m_cn (pc := 909) (ok_aload_n (m_dk dk_L_law_18 9 rfl) rfl rfl) <|
  m_cn (pc := 910) (ok_callv (T := mt_X7_thrown) my_X7_thrown rfl cw_X7_thrown rfl rfl (by decide) (r9 := (RX7, TX7, 36)) rfl rfl wd_898 wd_899 wd_900 wd_6 (by decide +kernel) (m_dk dk_L_law_18 10 rfl) rfl) <|
  m_cn (pc := 913) (ok_iload (m_dk dk_L_law_18 11 rfl) rfl) <|
  m_cn (pc := 915) (ok_icmpeq (m_dk dk_L_law_18 12 rfl) rfl rfl) <|
  m_cn (pc := 918) (ok_iconst (m_dk dk_L_law_18 13 rfl) (by decide) rfl) <|
  m_cn (pc := 919) (ok_zreturn (nx := 0) rfl (m_dk dk_L_law_18 14 rfl)) <|
  m_cn (pc := 920) (ok_iload (m_dk dk_L_law_18 15 rfl) rfl) <|
  m_cn (pc := 922) (ok_ifne (m_dk dk_L_law_18 16 rfl) rfl rfl) <|
  m_cn (pc := 925) (ok_aload_n (m_dk dk_L_law_18 17 rfl) rfl rfl) <|
  m_cn (pc := 926) (ok_iconst (m_dk dk_L_law_18 18 rfl) (by decide) rfl) <|
  m_cn (pc := 927) (ok_lald (m_dk dk_L_law_18 19 rfl) rfl) <|
  m_cn (pc := 928) (ok_iload (m_dk dk_L_law_18 20 rfl) rfl) <|
  m_cn (pc := 930) (ok_ifeq (m_dk dk_L_law_18 21 rfl) rfl rfl) <|
  m_cn (pc := 933) (ok_lconst (m_dk dk_L_law_18 22 rfl) (by decide) rfl) <|
  m_cn (pc := 934) (ok_goto (nx := 0) (m_dk dk_L_law_18 23 rfl) rfl) <|
  m_cn (pc := 937) (ok_lconst (m_dk dk_L_law_18 24 rfl) (by decide) rfl) <|
  m_cn (pc := 938) (ok_lcmp (m_dk dk_L_law_18 25 rfl) rfl) <|
  m_cn (pc := 939) (ok_ifeq (m_dk dk_L_law_18 26 rfl) rfl rfl) <|
  m_cn (pc := 942) (ok_iconst (m_dk dk_L_law_18 27 rfl) (by decide) rfl) <|
  m_cn (pc := 943) (ok_zreturn (nx := 0) rfl (m_dk dk_L_law_18 28 rfl)) <|
  m_cn (pc := 944) (ok_goto (nx := 0) (m_dk dk_L_law_18 29 rfl) rfl) <|
  m_cn (pc := 947) (ok_aload_n (m_dk dk_L_law_19 0 rfl) rfl rfl) <|
  m_cn (pc := 948) (ok_aload_n (m_dk dk_L_law_19 1 rfl) rfl rfl) <|
  m_cn (pc := 949) (ok_iload (m_dk dk_L_law_19 2 rfl) rfl) <|
  m_cn (pc := 951) (ok_iconst (m_dk dk_L_law_19 3 rfl) (by decide) rfl) <|
  m_cn (pc := 952) (ok_iadd (m_dk dk_L_law_19 4 rfl) rfl) <|
  m_cn (pc := 953) (ok_sald (m_dk dk_L_law_19 5 rfl) rfl) <|
  m_cn (pc := 954) (ok_aload_n (m_dk dk_L_law_19 6 rfl) rfl rfl) <|
  m_cn (pc := 955) (ok_callsw (hh9 := hh_L_way) (T := mt_L_way) my_L_way rfl cw_L_way rfl rfl (by decide) wd_701 wd_702 wd_0 (by decide +kernel) (m_dk dk_L_law_19 7 rfl) rfl) <|
  m_cn (pc := 958) (ok_istore (m_dk dk_L_law_19 8 rfl) rfl) <|
  m_cn (pc := 960) (ok_aload_n (m_dk dk_L_law_19 9 rfl) rfl rfl) <|
  m_cn (pc := 961) (ok_aload_n (m_dk dk_L_law_19 10 rfl) rfl rfl) <|
  m_cn (pc := 962) (ok_iload (m_dk dk_L_law_19 11 rfl) rfl) <|
  m_cn (pc := 964) (ok_iconst (m_dk dk_L_law_19 12 rfl) (by decide) rfl) <|
  m_cn (pc := 965) (ok_iadd (m_dk dk_L_law_19 13 rfl) rfl) <|
  m_cn (pc := 966) (ok_sald (m_dk dk_L_law_19 14 rfl) rfl) <|
  m_cn (pc := 967) (ok_callv (T := mt_X7_way) my_X7_way rfl cw_X7_way rfl rfl (by decide) (r9 := (RX7, TX7, 36)) rfl rfl wd_1036 wd_1037 wd_1038 wd_6 (by decide +kernel) (m_dk dk_L_law_19 15 rfl) rfl) <|
  m_cn (pc := 970) (ok_istore (m_dk dk_L_law_19 16 rfl) rfl) <|
  m_cn (pc := 972) (ok_aload_n (m_dk dk_L_law_19 17 rfl) rfl rfl) <|
  m_cn (pc := 973) (ok_callv (T := mt_X7_thrown) my_X7_thrown rfl cw_X7_thrown rfl rfl (by decide) (r9 := (RX7, TX7, 36)) rfl rfl wd_898 wd_899 wd_900 wd_6 (by decide +kernel) (m_dk dk_L_law_19 18 rfl) rfl) <|
  m_cn (pc := 976) (ok_iload (m_dk dk_L_law_19 19 rfl) rfl) <|
  m_cn (pc := 978) (ok_icmpeq (m_dk dk_L_law_19 20 rfl) rfl rfl) <|
  m_cn (pc := 981) (ok_iconst (m_dk dk_L_law_19 21 rfl) (by decide) rfl) <|
  m_cn (pc := 982) (ok_zreturn (nx := 0) rfl (m_dk dk_L_law_19 22 rfl)) <|
  m_cn (pc := 983) (ok_iload (m_dk dk_L_law_19 23 rfl) rfl) <|
  m_cn (pc := 985) (ok_ifne (m_dk dk_L_law_19 24 rfl) rfl rfl) <|
  m_cn (pc := 988) (ok_aload_n (m_dk dk_L_law_19 25 rfl) rfl rfl) <|
  m_cn (pc := 989) (ok_iconst (m_dk dk_L_law_19 26 rfl) (by decide) rfl) <|
  m_cn (pc := 990) (ok_lald (m_dk dk_L_law_19 27 rfl) rfl) <|
  m_cn (pc := 991) (ok_iload (m_dk dk_L_law_19 28 rfl) rfl) <|
  m_cn (pc := 993) (ok_i2l (m_dk dk_L_law_19 29 rfl) rfl) <|
  m_nl
def cd_L_law_10 (L : Nat) (xs : Nat → Int32) : List (Nat × m_Op) := [(994, o_lcmp 995), (995, o_ifeq 1000 998), (998, o_const (0) 999), (999, o_zreturn), (1000, o_goto 1457), (1003, o_aload 1 1004), (1004, o_aload 0 1005), (1005, o_iload 4 1007), (1007, o_const (1) 1008), (1008, o_bin (fun x y => x + y) 1009), (1009, o_sald L xs 1010), (1010, o_aload 3 1011), (1011, o_call 135 3 1 6 1014), (1014, o_istore 5 1016), (1016, o_aload 2 1017), (1017, o_aload 0 1018), (1018, o_iload 4 1020), (1020, o_const (1) 1021), (1021, o_bin (fun x y => x + y) 1022), (1022, o_sald L xs 1023), (1023, o_callv 8 99 2 0 0 1026), (1026, o_istore 6 1028), (1028, o_aload 2 1029), (1029, o_callv 8 62 1 0 0 1032), (1032, o_iload 5 1034), (1034, o_icmpeq 1039 1037), (1037, o_const (0) 1038), (1038, o_zreturn), (1039, o_iload 5 1041), (1041, o_ifne 1056 1044), (1044, o_aload 3 1045), (1045, o_const (0) 1046), (1046, o_lald 1047), (1047, o_iload 6 1049), (1049, o_i2l 1050), (1050, o_lcmp 1051), (1051, o_ifeq 1056 1054), (1054, o_const (0) 1055), (1055, o_zreturn), (1056, o_goto 1457), (1059, o_aload 1 1060), (1060, o_aload 0 1061), (1061, o_iload 4 1063), (1063, o_const (1) 1064), (1064, o_bin (fun x y => x + y) 1065), (1065, o_sald L xs 1066), (1066, o_aload 0 1067), (1067, o_iload 4 1069), (1069, o_const (2) 1070), (1070, o_bin (fun x y => x + y) 1071), (1071, o_sald L xs 1072), (1072, o_aload 3 1073), (1073, o_call 136 4 2 12 1076), (1076, o_istore 5 1078), (1078, o_aload 2 1079), (1079, o_aload 0 1080), (1080, o_iload 4 1082), (1082, o_const (1) 1083), (1083, o_bin (fun x y => x + y) 1084), (1084, o_sald L xs 1085)]
set_option maxRecDepth 20000 in
set_option maxHeartbeats 4000000 in
theorem ok_L_law_10 (L : Nat) (xs : Nat → Int32) : ∀ q ∈ cd_L_law_10 L xs, m_OK (fun G => G.2.2.2.2 = (L, xs)) m_my (cL_law, 7, RL, false, (some .boolean), []) q.1 q.2 :=
  m_cn (pc := 994) (ok_lcmp (m_dk dk_L_law_20 0 rfl) rfl) <|
  m_cn (pc := 995) (ok_ifeq (m_dk dk_L_law_20 1 rfl) rfl rfl) <|
  m_cn (pc := 998) (ok_iconst (m_dk dk_L_law_20 2 rfl) (by decide) rfl) <|
  m_cn (pc := 999) (ok_zreturn (nx := 0) rfl (m_dk dk_L_law_20 3 rfl)) <|
  m_cn (pc := 1000) (ok_goto (nx := 0) (m_dk dk_L_law_20 4 rfl) rfl) <|
  m_cn (pc := 1003) (ok_aload_n (m_dk dk_L_law_20 5 rfl) rfl rfl) <|
  m_cn (pc := 1004) (ok_aload_n (m_dk dk_L_law_20 6 rfl) rfl rfl) <|
  m_cn (pc := 1005) (ok_iload (m_dk dk_L_law_20 7 rfl) rfl) <|
  m_cn (pc := 1007) (ok_iconst (m_dk dk_L_law_20 8 rfl) (by decide) rfl) <|
  m_cn (pc := 1008) (ok_iadd (m_dk dk_L_law_20 9 rfl) rfl) <|
  m_cn (pc := 1009) (ok_sald (m_dk dk_L_law_20 10 rfl) rfl) <|
  m_cn (pc := 1010) (ok_aload_n (m_dk dk_L_law_20 11 rfl) rfl rfl) <|
  m_cn (pc := 1011) (ok_callsw (hh9 := hh_L_lent) (T := mt_L_lent) my_L_lent rfl cw_L_lent rfl rfl (by decide) wd_708 wd_709 wd_0 (by decide +kernel) (m_dk dk_L_law_20 12 rfl) rfl) <|
  m_cn (pc := 1014) (ok_istore (m_dk dk_L_law_20 13 rfl) rfl) <|
  m_cn (pc := 1016) (ok_aload_n (m_dk dk_L_law_20 14 rfl) rfl rfl) <|
  m_cn (pc := 1017) (ok_aload_n (m_dk dk_L_law_20 15 rfl) rfl rfl) <|
  m_cn (pc := 1018) (ok_iload (m_dk dk_L_law_20 16 rfl) rfl) <|
  m_cn (pc := 1020) (ok_iconst (m_dk dk_L_law_20 17 rfl) (by decide) rfl) <|
  m_cn (pc := 1021) (ok_iadd (m_dk dk_L_law_20 18 rfl) rfl) <|
  m_cn (pc := 1022) (ok_sald (m_dk dk_L_law_20 19 rfl) rfl) <|
  m_cn (pc := 1023) (ok_callv (T := mt_X7_lent) my_X7_lent rfl cw_X7_lent rfl rfl (by decide) (r9 := (RX7, TX7, 36)) rfl rfl wd_1044 wd_1045 wd_1046 wd_6 (by decide +kernel) (m_dk dk_L_law_20 20 rfl) rfl) <|
  m_cn (pc := 1026) (ok_istore (m_dk dk_L_law_20 21 rfl) rfl) <|
  m_cn (pc := 1028) (ok_aload_n (m_dk dk_L_law_20 22 rfl) rfl rfl) <|
  m_cn (pc := 1029) (ok_callv (T := mt_X7_thrown) my_X7_thrown rfl cw_X7_thrown rfl rfl (by decide) (r9 := (RX7, TX7, 36)) rfl rfl wd_898 wd_899 wd_900 wd_6 (by decide +kernel) (m_dk dk_L_law_20 23 rfl) rfl) <|
  m_cn (pc := 1032) (ok_iload (m_dk dk_L_law_20 24 rfl) rfl) <|
  m_cn (pc := 1034) (ok_icmpeq (m_dk dk_L_law_20 25 rfl) rfl rfl) <|
  m_cn (pc := 1037) (ok_iconst (m_dk dk_L_law_20 26 rfl) (by decide) rfl) <|
  m_cn (pc := 1038) (ok_zreturn (nx := 0) rfl (m_dk dk_L_law_20 27 rfl)) <|
  m_cn (pc := 1039) (ok_iload (m_dk dk_L_law_20 28 rfl) rfl) <|
  m_cn (pc := 1041) (ok_ifne (m_dk dk_L_law_20 29 rfl) rfl rfl) <|
  m_cn (pc := 1044) (ok_aload_n (m_dk dk_L_law_21 0 rfl) rfl rfl) <|
  m_cn (pc := 1045) (ok_iconst (m_dk dk_L_law_21 1 rfl) (by decide) rfl) <|
  m_cn (pc := 1046) (ok_lald (m_dk dk_L_law_21 2 rfl) rfl) <|
  m_cn (pc := 1047) (ok_iload (m_dk dk_L_law_21 3 rfl) rfl) <|
  m_cn (pc := 1049) (ok_i2l (m_dk dk_L_law_21 4 rfl) rfl) <|
  m_cn (pc := 1050) (ok_lcmp (m_dk dk_L_law_21 5 rfl) rfl) <|
  m_cn (pc := 1051) (ok_ifeq (m_dk dk_L_law_21 6 rfl) rfl rfl) <|
  m_cn (pc := 1054) (ok_iconst (m_dk dk_L_law_21 7 rfl) (by decide) rfl) <|
  m_cn (pc := 1055) (ok_zreturn (nx := 0) rfl (m_dk dk_L_law_21 8 rfl)) <|
  m_cn (pc := 1056) (ok_goto (nx := 0) (m_dk dk_L_law_21 9 rfl) rfl) <|
  m_cn (pc := 1059) (ok_aload_n (m_dk dk_L_law_21 10 rfl) rfl rfl) <|
  m_cn (pc := 1060) (ok_aload_n (m_dk dk_L_law_21 11 rfl) rfl rfl) <|
  m_cn (pc := 1061) (ok_iload (m_dk dk_L_law_21 12 rfl) rfl) <|
  m_cn (pc := 1063) (ok_iconst (m_dk dk_L_law_21 13 rfl) (by decide) rfl) <|
  m_cn (pc := 1064) (ok_iadd (m_dk dk_L_law_21 14 rfl) rfl) <|
  m_cn (pc := 1065) (ok_sald (m_dk dk_L_law_21 15 rfl) rfl) <|
  m_cn (pc := 1066) (ok_aload_n (m_dk dk_L_law_21 16 rfl) rfl rfl) <|
  m_cn (pc := 1067) (ok_iload (m_dk dk_L_law_21 17 rfl) rfl) <|
  m_cn (pc := 1069) (ok_iconst (m_dk dk_L_law_21 18 rfl) (by decide) rfl) <|
  m_cn (pc := 1070) (ok_iadd (m_dk dk_L_law_21 19 rfl) rfl) <|
  m_cn (pc := 1071) (ok_sald (m_dk dk_L_law_21 20 rfl) rfl) <|
  m_cn (pc := 1072) (ok_aload_n (m_dk dk_L_law_21 21 rfl) rfl rfl) <|
  m_cn (pc := 1073) (ok_callsw (hh9 := hh_L_owes) (T := mt_L_owes) my_L_owes rfl cw_L_owes rfl rfl (by decide) wd_715 wd_716 wd_0 (by decide +kernel) (m_dk dk_L_law_21 22 rfl) rfl) <|
  m_cn (pc := 1076) (ok_istore (m_dk dk_L_law_21 23 rfl) rfl) <|
  m_cn (pc := 1078) (ok_aload_n (m_dk dk_L_law_21 24 rfl) rfl rfl) <|
  m_cn (pc := 1079) (ok_aload_n (m_dk dk_L_law_21 25 rfl) rfl rfl) <|
  m_cn (pc := 1080) (ok_iload (m_dk dk_L_law_21 26 rfl) rfl) <|
  m_cn (pc := 1082) (ok_iconst (m_dk dk_L_law_21 27 rfl) (by decide) rfl) <|
  m_cn (pc := 1083) (ok_iadd (m_dk dk_L_law_21 28 rfl) rfl) <|
  m_cn (pc := 1084) (ok_sald (m_dk dk_L_law_21 29 rfl) rfl) <|
  m_nl
def cd_L_law_11 (L : Nat) (xs : Nat → Int32) : List (Nat × m_Op) := [(1085, o_aload 0 1086), (1086, o_iload 4 1088), (1088, o_const (2) 1089), (1089, o_bin (fun x y => x + y) 1090), (1090, o_sald L xs 1091), (1091, o_callv 8 100 3 0 0 1094), (1094, o_istore 6 1096), (1096, o_aload 2 1097), (1097, o_callv 8 62 1 0 0 1100), (1100, o_iload 5 1102), (1102, o_icmpeq 1107 1105), (1105, o_const (0) 1106), (1106, o_zreturn), (1107, o_iload 5 1109), (1109, o_ifne 1124 1112), (1112, o_aload 3 1113), (1113, o_const (0) 1114), (1114, o_lald 1115), (1115, o_iload 6 1117), (1117, o_i2l 1118), (1118, o_lcmp 1119), (1119, o_ifeq 1124 1122), (1122, o_const (0) 1123), (1123, o_zreturn), (1124, o_goto 1457), (1127, o_aload 1 1128), (1128, o_aload 0 1129), (1129, o_iload 4 1131), (1131, o_const (1) 1132), (1132, o_bin (fun x y => x + y) 1133), (1133, o_sald L xs 1134), (1134, o_aload 0 1135), (1135, o_iload 4 1137), (1137, o_const (2) 1138), (1138, o_bin (fun x y => x + y) 1139), (1139, o_sald L xs 1140), (1140, o_aload 3 1141), (1141, o_call 137 4 2 12 1144), (1144, o_istore 5 1146), (1146, o_aload 2 1147), (1147, o_aload 0 1148), (1148, o_iload 4 1150), (1150, o_const (1) 1151), (1151, o_bin (fun x y => x + y) 1152), (1152, o_sald L xs 1153), (1153, o_aload 0 1154), (1154, o_iload 4 1156), (1156, o_const (2) 1157), (1157, o_bin (fun x y => x + y) 1158), (1158, o_sald L xs 1159), (1159, o_callv 8 101 3 0 0 1162), (1162, o_istore 6 1164), (1164, o_aload 2 1165), (1165, o_callv 8 62 1 0 0 1168), (1168, o_iload 5 1170), (1170, o_icmpeq 1175 1173), (1173, o_const (0) 1174), (1174, o_zreturn), (1175, o_iload 5 1177), (1177, o_ifne 1192 1180)]
set_option maxRecDepth 20000 in
set_option maxHeartbeats 4000000 in
theorem ok_L_law_11 (L : Nat) (xs : Nat → Int32) : ∀ q ∈ cd_L_law_11 L xs, m_OK (fun G => G.2.2.2.2 = (L, xs)) m_my (cL_law, 7, RL, false, (some .boolean), []) q.1 q.2 :=
  m_cn (pc := 1085) (ok_aload_n (m_dk dk_L_law_22 0 rfl) rfl rfl) <|
  m_cn (pc := 1086) (ok_iload (m_dk dk_L_law_22 1 rfl) rfl) <|
  m_cn (pc := 1088) (ok_iconst (m_dk dk_L_law_22 2 rfl) (by decide) rfl) <|
  m_cn (pc := 1089) (ok_iadd (m_dk dk_L_law_22 3 rfl) rfl) <|
  m_cn (pc := 1090) (ok_sald (m_dk dk_L_law_22 4 rfl) rfl) <|
  m_cn (pc := 1091) (ok_callv (T := mt_X7_owes) my_X7_owes rfl cw_X7_owes rfl rfl (by decide) (r9 := (RX7, TX7, 36)) rfl rfl wd_1048 wd_1049 wd_1050 wd_6 (by decide +kernel) (m_dk dk_L_law_22 5 rfl) rfl) <|
  m_cn (pc := 1094) (ok_istore (m_dk dk_L_law_22 6 rfl) rfl) <|
  m_cn (pc := 1096) (ok_aload_n (m_dk dk_L_law_22 7 rfl) rfl rfl) <|
  m_cn (pc := 1097) (ok_callv (T := mt_X7_thrown) my_X7_thrown rfl cw_X7_thrown rfl rfl (by decide) (r9 := (RX7, TX7, 36)) rfl rfl wd_898 wd_899 wd_900 wd_6 (by decide +kernel) (m_dk dk_L_law_22 8 rfl) rfl) <|
  m_cn (pc := 1100) (ok_iload (m_dk dk_L_law_22 9 rfl) rfl) <|
  m_cn (pc := 1102) (ok_icmpeq (m_dk dk_L_law_22 10 rfl) rfl rfl) <|
  m_cn (pc := 1105) (ok_iconst (m_dk dk_L_law_22 11 rfl) (by decide) rfl) <|
  m_cn (pc := 1106) (ok_zreturn (nx := 0) rfl (m_dk dk_L_law_22 12 rfl)) <|
  m_cn (pc := 1107) (ok_iload (m_dk dk_L_law_22 13 rfl) rfl) <|
  m_cn (pc := 1109) (ok_ifne (m_dk dk_L_law_22 14 rfl) rfl rfl) <|
  m_cn (pc := 1112) (ok_aload_n (m_dk dk_L_law_22 15 rfl) rfl rfl) <|
  m_cn (pc := 1113) (ok_iconst (m_dk dk_L_law_22 16 rfl) (by decide) rfl) <|
  m_cn (pc := 1114) (ok_lald (m_dk dk_L_law_22 17 rfl) rfl) <|
  m_cn (pc := 1115) (ok_iload (m_dk dk_L_law_22 18 rfl) rfl) <|
  m_cn (pc := 1117) (ok_i2l (m_dk dk_L_law_22 19 rfl) rfl) <|
  m_cn (pc := 1118) (ok_lcmp (m_dk dk_L_law_22 20 rfl) rfl) <|
  m_cn (pc := 1119) (ok_ifeq (m_dk dk_L_law_22 21 rfl) rfl rfl) <|
  m_cn (pc := 1122) (ok_iconst (m_dk dk_L_law_22 22 rfl) (by decide) rfl) <|
  m_cn (pc := 1123) (ok_zreturn (nx := 0) rfl (m_dk dk_L_law_22 23 rfl)) <|
  m_cn (pc := 1124) (ok_goto (nx := 0) (m_dk dk_L_law_22 24 rfl) rfl) <|
  m_cn (pc := 1127) (ok_aload_n (m_dk dk_L_law_22 25 rfl) rfl rfl) <|
  m_cn (pc := 1128) (ok_aload_n (m_dk dk_L_law_22 26 rfl) rfl rfl) <|
  m_cn (pc := 1129) (ok_iload (m_dk dk_L_law_22 27 rfl) rfl) <|
  m_cn (pc := 1131) (ok_iconst (m_dk dk_L_law_22 28 rfl) (by decide) rfl) <|
  m_cn (pc := 1132) (ok_iadd (m_dk dk_L_law_22 29 rfl) rfl) <|
  m_cn (pc := 1133) (ok_sald (m_dk dk_L_law_23 0 rfl) rfl) <|
  m_cn (pc := 1134) (ok_aload_n (m_dk dk_L_law_23 1 rfl) rfl rfl) <|
  m_cn (pc := 1135) (ok_iload (m_dk dk_L_law_23 2 rfl) rfl) <|
  m_cn (pc := 1137) (ok_iconst (m_dk dk_L_law_23 3 rfl) (by decide) rfl) <|
  m_cn (pc := 1138) (ok_iadd (m_dk dk_L_law_23 4 rfl) rfl) <|
  m_cn (pc := 1139) (ok_sald (m_dk dk_L_law_23 5 rfl) rfl) <|
  m_cn (pc := 1140) (ok_aload_n (m_dk dk_L_law_23 6 rfl) rfl rfl) <|
  m_cn (pc := 1141) (ok_callsw (hh9 := hh_L_owesAnew) (T := mt_L_owesAnew) my_L_owesAnew rfl cw_L_owesAnew rfl rfl (by decide) wd_722 wd_723 wd_0 (by decide +kernel) (m_dk dk_L_law_23 7 rfl) rfl) <|
  m_cn (pc := 1144) (ok_istore (m_dk dk_L_law_23 8 rfl) rfl) <|
  m_cn (pc := 1146) (ok_aload_n (m_dk dk_L_law_23 9 rfl) rfl rfl) <|
  m_cn (pc := 1147) (ok_aload_n (m_dk dk_L_law_23 10 rfl) rfl rfl) <|
  m_cn (pc := 1148) (ok_iload (m_dk dk_L_law_23 11 rfl) rfl) <|
  m_cn (pc := 1150) (ok_iconst (m_dk dk_L_law_23 12 rfl) (by decide) rfl) <|
  m_cn (pc := 1151) (ok_iadd (m_dk dk_L_law_23 13 rfl) rfl) <|
  m_cn (pc := 1152) (ok_sald (m_dk dk_L_law_23 14 rfl) rfl) <|
  m_cn (pc := 1153) (ok_aload_n (m_dk dk_L_law_23 15 rfl) rfl rfl) <|
  m_cn (pc := 1154) (ok_iload (m_dk dk_L_law_23 16 rfl) rfl) <|
  m_cn (pc := 1156) (ok_iconst (m_dk dk_L_law_23 17 rfl) (by decide) rfl) <|
  m_cn (pc := 1157) (ok_iadd (m_dk dk_L_law_23 18 rfl) rfl) <|
  m_cn (pc := 1158) (ok_sald (m_dk dk_L_law_23 19 rfl) rfl) <|
  m_cn (pc := 1159) (ok_callv (T := mt_X7_owesAnew) my_X7_owesAnew rfl cw_X7_owesAnew rfl rfl (by decide) (r9 := (RX7, TX7, 36)) rfl rfl wd_1052 wd_1053 wd_1054 wd_6 (by decide +kernel) (m_dk dk_L_law_23 20 rfl) rfl) <|
  m_cn (pc := 1162) (ok_istore (m_dk dk_L_law_23 21 rfl) rfl) <|
  m_cn (pc := 1164) (ok_aload_n (m_dk dk_L_law_23 22 rfl) rfl rfl) <|
  m_cn (pc := 1165) (ok_callv (T := mt_X7_thrown) my_X7_thrown rfl cw_X7_thrown rfl rfl (by decide) (r9 := (RX7, TX7, 36)) rfl rfl wd_898 wd_899 wd_900 wd_6 (by decide +kernel) (m_dk dk_L_law_23 23 rfl) rfl) <|
  m_cn (pc := 1168) (ok_iload (m_dk dk_L_law_23 24 rfl) rfl) <|
  m_cn (pc := 1170) (ok_icmpeq (m_dk dk_L_law_23 25 rfl) rfl rfl) <|
  m_cn (pc := 1173) (ok_iconst (m_dk dk_L_law_23 26 rfl) (by decide) rfl) <|
  m_cn (pc := 1174) (ok_zreturn (nx := 0) rfl (m_dk dk_L_law_23 27 rfl)) <|
  m_cn (pc := 1175) (ok_iload (m_dk dk_L_law_23 28 rfl) rfl) <|
  m_cn (pc := 1177) (ok_ifne (m_dk dk_L_law_23 29 rfl) rfl rfl) <|
  m_nl
def cd_L_law_12 (L : Nat) (xs : Nat → Int32) : List (Nat × m_Op) := [(1180, o_aload 3 1181), (1181, o_const (0) 1182), (1182, o_lald 1183), (1183, o_iload 6 1185), (1185, o_i2l 1186), (1186, o_lcmp 1187), (1187, o_ifeq 1192 1190), (1190, o_const (0) 1191), (1191, o_zreturn), (1192, o_goto 1457), (1195, o_aload 1 1196), (1196, o_aload 0 1197), (1197, o_iload 4 1199), (1199, o_const (1) 1200), (1200, o_bin (fun x y => x + y) 1201), (1201, o_sald L xs 1202), (1202, o_aload 3 1203), (1203, o_call 138 3 1 6 1206), (1206, o_istore 5 1208), (1208, o_aload 2 1209), (1209, o_aload 0 1210), (1210, o_iload 4 1212), (1212, o_const (1) 1213), (1213, o_bin (fun x y => x + y) 1214), (1214, o_sald L xs 1215), (1215, o_callv 8 102 2 0 0 1218), (1218, o_istore 6 1220), (1220, o_aload 2 1221), (1221, o_callv 8 62 1 0 0 1224), (1224, o_iload 5 1226), (1226, o_icmpeq 1231 1229), (1229, o_const (0) 1230), (1230, o_zreturn), (1231, o_iload 5 1233), (1233, o_ifne 1248 1236), (1236, o_aload 3 1237), (1237, o_const (0) 1238), (1238, o_lald 1239), (1239, o_iload 6 1241), (1241, o_i2l 1242), (1242, o_lcmp 1243), (1243, o_ifeq 1248 1246), (1246, o_const (0) 1247), (1247, o_zreturn), (1248, o_goto 1457), (1251, o_aload 1 1252), (1252, o_callv 7 39 1 0 0 1255), (1255, o_aload 2 1256), (1256, o_callv 8 103 1 0 0 1259), (1259, o_icmpeq 1457 1262), (1262, o_const (0) 1263), (1263, o_zreturn), (1264, o_aload 1 1265), (1265, o_aload 0 1266), (1266, o_iload 4 1268), (1268, o_const (1) 1269), (1269, o_bin (fun x y => x + y) 1270), (1270, o_sald L xs 1271), (1271, o_aload 0 1272), (1272, o_iload 4 1274)]
set_option maxRecDepth 20000 in
set_option maxHeartbeats 4000000 in
theorem ok_L_law_12 (L : Nat) (xs : Nat → Int32) : ∀ q ∈ cd_L_law_12 L xs, m_OK (fun G => G.2.2.2.2 = (L, xs)) m_my (cL_law, 7, RL, false, (some .boolean), []) q.1 q.2 :=
  m_cn (pc := 1180) (ok_aload_n (m_dk dk_L_law_24 0 rfl) rfl rfl) <|
  m_cn (pc := 1181) (ok_iconst (m_dk dk_L_law_24 1 rfl) (by decide) rfl) <|
  m_cn (pc := 1182) (ok_lald (m_dk dk_L_law_24 2 rfl) rfl) <|
  m_cn (pc := 1183) (ok_iload (m_dk dk_L_law_24 3 rfl) rfl) <|
  m_cn (pc := 1185) (ok_i2l (m_dk dk_L_law_24 4 rfl) rfl) <|
  m_cn (pc := 1186) (ok_lcmp (m_dk dk_L_law_24 5 rfl) rfl) <|
  m_cn (pc := 1187) (ok_ifeq (m_dk dk_L_law_24 6 rfl) rfl rfl) <|
  m_cn (pc := 1190) (ok_iconst (m_dk dk_L_law_24 7 rfl) (by decide) rfl) <|
  m_cn (pc := 1191) (ok_zreturn (nx := 0) rfl (m_dk dk_L_law_24 8 rfl)) <|
  m_cn (pc := 1192) (ok_goto (nx := 0) (m_dk dk_L_law_24 9 rfl) rfl) <|
  m_cn (pc := 1195) (ok_aload_n (m_dk dk_L_law_24 10 rfl) rfl rfl) <|
  m_cn (pc := 1196) (ok_aload_n (m_dk dk_L_law_24 11 rfl) rfl rfl) <|
  m_cn (pc := 1197) (ok_iload (m_dk dk_L_law_24 12 rfl) rfl) <|
  m_cn (pc := 1199) (ok_iconst (m_dk dk_L_law_24 13 rfl) (by decide) rfl) <|
  m_cn (pc := 1200) (ok_iadd (m_dk dk_L_law_24 14 rfl) rfl) <|
  m_cn (pc := 1201) (ok_sald (m_dk dk_L_law_24 15 rfl) rfl) <|
  m_cn (pc := 1202) (ok_aload_n (m_dk dk_L_law_24 16 rfl) rfl rfl) <|
  m_cn (pc := 1203) (ok_callsw (hh9 := hh_L_account) (T := mt_L_account) my_L_account rfl cw_L_account rfl rfl (by decide) wd_755 wd_756 wd_0 (by decide +kernel) (m_dk dk_L_law_24 17 rfl) rfl) <|
  m_cn (pc := 1206) (ok_istore (m_dk dk_L_law_24 18 rfl) rfl) <|
  m_cn (pc := 1208) (ok_aload_n (m_dk dk_L_law_24 19 rfl) rfl rfl) <|
  m_cn (pc := 1209) (ok_aload_n (m_dk dk_L_law_24 20 rfl) rfl rfl) <|
  m_cn (pc := 1210) (ok_iload (m_dk dk_L_law_24 21 rfl) rfl) <|
  m_cn (pc := 1212) (ok_iconst (m_dk dk_L_law_24 22 rfl) (by decide) rfl) <|
  m_cn (pc := 1213) (ok_iadd (m_dk dk_L_law_24 23 rfl) rfl) <|
  m_cn (pc := 1214) (ok_sald (m_dk dk_L_law_24 24 rfl) rfl) <|
  m_cn (pc := 1215) (ok_callv (T := mt_X7_account) my_X7_account rfl cw_X7_account rfl rfl (by decide) (r9 := (RX7, TX7, 36)) rfl rfl wd_1057 wd_1058 wd_1059 wd_6 (by decide +kernel) (m_dk dk_L_law_24 25 rfl) rfl) <|
  m_cn (pc := 1218) (ok_istore (m_dk dk_L_law_24 26 rfl) rfl) <|
  m_cn (pc := 1220) (ok_aload_n (m_dk dk_L_law_24 27 rfl) rfl rfl) <|
  m_cn (pc := 1221) (ok_callv (T := mt_X7_thrown) my_X7_thrown rfl cw_X7_thrown rfl rfl (by decide) (r9 := (RX7, TX7, 36)) rfl rfl wd_898 wd_899 wd_900 wd_6 (by decide +kernel) (m_dk dk_L_law_24 28 rfl) rfl) <|
  m_cn (pc := 1224) (ok_iload (m_dk dk_L_law_24 29 rfl) rfl) <|
  m_cn (pc := 1226) (ok_icmpeq (m_dk dk_L_law_25 0 rfl) rfl rfl) <|
  m_cn (pc := 1229) (ok_iconst (m_dk dk_L_law_25 1 rfl) (by decide) rfl) <|
  m_cn (pc := 1230) (ok_zreturn (nx := 0) rfl (m_dk dk_L_law_25 2 rfl)) <|
  m_cn (pc := 1231) (ok_iload (m_dk dk_L_law_25 3 rfl) rfl) <|
  m_cn (pc := 1233) (ok_ifne (m_dk dk_L_law_25 4 rfl) rfl rfl) <|
  m_cn (pc := 1236) (ok_aload_n (m_dk dk_L_law_25 5 rfl) rfl rfl) <|
  m_cn (pc := 1237) (ok_iconst (m_dk dk_L_law_25 6 rfl) (by decide) rfl) <|
  m_cn (pc := 1238) (ok_lald (m_dk dk_L_law_25 7 rfl) rfl) <|
  m_cn (pc := 1239) (ok_iload (m_dk dk_L_law_25 8 rfl) rfl) <|
  m_cn (pc := 1241) (ok_i2l (m_dk dk_L_law_25 9 rfl) rfl) <|
  m_cn (pc := 1242) (ok_lcmp (m_dk dk_L_law_25 10 rfl) rfl) <|
  m_cn (pc := 1243) (ok_ifeq (m_dk dk_L_law_25 11 rfl) rfl rfl) <|
  m_cn (pc := 1246) (ok_iconst (m_dk dk_L_law_25 12 rfl) (by decide) rfl) <|
  m_cn (pc := 1247) (ok_zreturn (nx := 0) rfl (m_dk dk_L_law_25 13 rfl)) <|
  m_cn (pc := 1248) (ok_goto (nx := 0) (m_dk dk_L_law_25 14 rfl) rfl) <|
  m_cn (pc := 1251) (ok_aload_n (m_dk dk_L_law_25 15 rfl) rfl rfl) <|
  m_cn (pc := 1252) (ok_callv (T := mt_X6_spent) my_X6_spent rfl cw_X6_spent rfl rfl (by decide) (r9 := (RX6, TX6, 15)) rfl rfl wd_181 wd_182 wd_183 wd_1 (by decide +kernel) (m_dk dk_L_law_25 16 rfl) rfl) <|
  m_cn (pc := 1255) (ok_aload_n (m_dk dk_L_law_25 17 rfl) rfl rfl) <|
  m_cn (pc := 1256) (ok_callv (T := mt_X7_spent) my_X7_spent rfl cw_X7_spent rfl rfl (by decide) (r9 := (RX7, TX7, 36)) rfl rfl wd_1061 wd_1062 wd_1063 wd_6 (by decide +kernel) (m_dk dk_L_law_25 18 rfl) rfl) <|
  m_cn (pc := 1259) (ok_icmpeq (m_dk dk_L_law_25 19 rfl) rfl rfl) <|
  m_cn (pc := 1262) (ok_iconst (m_dk dk_L_law_25 20 rfl) (by decide) rfl) <|
  m_cn (pc := 1263) (ok_zreturn (nx := 0) rfl (m_dk dk_L_law_25 21 rfl)) <|
  m_cn (pc := 1264) (ok_aload_n (m_dk dk_L_law_25 22 rfl) rfl rfl) <|
  m_cn (pc := 1265) (ok_aload_n (m_dk dk_L_law_25 23 rfl) rfl rfl) <|
  m_cn (pc := 1266) (ok_iload (m_dk dk_L_law_25 24 rfl) rfl) <|
  m_cn (pc := 1268) (ok_iconst (m_dk dk_L_law_25 25 rfl) (by decide) rfl) <|
  m_cn (pc := 1269) (ok_iadd (m_dk dk_L_law_25 26 rfl) rfl) <|
  m_cn (pc := 1270) (ok_sald (m_dk dk_L_law_25 27 rfl) rfl) <|
  m_cn (pc := 1271) (ok_aload_n (m_dk dk_L_law_25 28 rfl) rfl rfl) <|
  m_cn (pc := 1272) (ok_iload (m_dk dk_L_law_25 29 rfl) rfl) <|
  m_nl
def cd_L_law_13 (L : Nat) (xs : Nat → Int32) : List (Nat × m_Op) := [(1274, o_const (2) 1275), (1275, o_bin (fun x y => x + y) 1276), (1276, o_sald L xs 1277), (1277, o_aload 3 1278), (1278, o_call 139 4 2 12 1281), (1281, o_istore 5 1283), (1283, o_aload 2 1284), (1284, o_aload 0 1285), (1285, o_iload 4 1287), (1287, o_const (1) 1288), (1288, o_bin (fun x y => x + y) 1289), (1289, o_sald L xs 1290), (1290, o_aload 0 1291), (1291, o_iload 4 1293), (1293, o_const (2) 1294), (1294, o_bin (fun x y => x + y) 1295), (1295, o_sald L xs 1296), (1296, o_callv 8 104 3 0 0 1299), (1299, o_istore 6 1301), (1301, o_aload 2 1302), (1302, o_callv 8 62 1 0 0 1305), (1305, o_iload 5 1307), (1307, o_icmpeq 1312 1310), (1310, o_const (0) 1311), (1311, o_zreturn), (1312, o_iload 5 1314), (1314, o_ifne 1329 1317), (1317, o_aload 3 1318), (1318, o_const (0) 1319), (1319, o_lald 1320), (1320, o_iload 6 1322), (1322, o_i2l 1323), (1323, o_lcmp 1324), (1324, o_ifeq 1329 1327), (1327, o_const (0) 1328), (1328, o_zreturn), (1329, o_goto 1457), (1332, o_aload 1 1333), (1333, o_aload 0 1334), (1334, o_iload 4 1336), (1336, o_const (1) 1337), (1337, o_bin (fun x y => x + y) 1338), (1338, o_sald L xs 1339), (1339, o_aload 3 1340), (1340, o_call 140 3 1 6 1343), (1343, o_istore 5 1345), (1345, o_aload 2 1346), (1346, o_aload 0 1347), (1347, o_iload 4 1349), (1349, o_const (1) 1350), (1350, o_bin (fun x y => x + y) 1351), (1351, o_sald L xs 1352), (1352, o_callv 8 105 2 0 0 1355), (1355, o_istore 6 1357), (1357, o_aload 2 1358), (1358, o_callv 8 62 1 0 0 1361), (1361, o_iload 5 1363), (1363, o_icmpeq 1368 1366), (1366, o_const (0) 1367), (1367, o_zreturn)]
set_option maxRecDepth 20000 in
set_option maxHeartbeats 4000000 in
theorem ok_L_law_13 (L : Nat) (xs : Nat → Int32) : ∀ q ∈ cd_L_law_13 L xs, m_OK (fun G => G.2.2.2.2 = (L, xs)) m_my (cL_law, 7, RL, false, (some .boolean), []) q.1 q.2 :=
  m_cn (pc := 1274) (ok_iconst (m_dk dk_L_law_26 0 rfl) (by decide) rfl) <|
  m_cn (pc := 1275) (ok_iadd (m_dk dk_L_law_26 1 rfl) rfl) <|
  m_cn (pc := 1276) (ok_sald (m_dk dk_L_law_26 2 rfl) rfl) <|
  m_cn (pc := 1277) (ok_aload_n (m_dk dk_L_law_26 3 rfl) rfl rfl) <|
  m_cn (pc := 1278) (ok_callsw (hh9 := hh_L_sold) (T := mt_L_sold) my_L_sold rfl cw_L_sold rfl rfl (by decide) wd_762 wd_763 wd_0 (by decide +kernel) (m_dk dk_L_law_26 4 rfl) rfl) <|
  m_cn (pc := 1281) (ok_istore (m_dk dk_L_law_26 5 rfl) rfl) <|
  m_cn (pc := 1283) (ok_aload_n (m_dk dk_L_law_26 6 rfl) rfl rfl) <|
  m_cn (pc := 1284) (ok_aload_n (m_dk dk_L_law_26 7 rfl) rfl rfl) <|
  m_cn (pc := 1285) (ok_iload (m_dk dk_L_law_26 8 rfl) rfl) <|
  m_cn (pc := 1287) (ok_iconst (m_dk dk_L_law_26 9 rfl) (by decide) rfl) <|
  m_cn (pc := 1288) (ok_iadd (m_dk dk_L_law_26 10 rfl) rfl) <|
  m_cn (pc := 1289) (ok_sald (m_dk dk_L_law_26 11 rfl) rfl) <|
  m_cn (pc := 1290) (ok_aload_n (m_dk dk_L_law_26 12 rfl) rfl rfl) <|
  m_cn (pc := 1291) (ok_iload (m_dk dk_L_law_26 13 rfl) rfl) <|
  m_cn (pc := 1293) (ok_iconst (m_dk dk_L_law_26 14 rfl) (by decide) rfl) <|
  m_cn (pc := 1294) (ok_iadd (m_dk dk_L_law_26 15 rfl) rfl) <|
  m_cn (pc := 1295) (ok_sald (m_dk dk_L_law_26 16 rfl) rfl) <|
  m_cn (pc := 1296) (ok_callv (T := mt_X7_sold) my_X7_sold rfl cw_X7_sold rfl rfl (by decide) (r9 := (RX7, TX7, 36)) rfl rfl wd_1065 wd_1066 wd_1067 wd_6 (by decide +kernel) (m_dk dk_L_law_26 17 rfl) rfl) <|
  m_cn (pc := 1299) (ok_istore (m_dk dk_L_law_26 18 rfl) rfl) <|
  m_cn (pc := 1301) (ok_aload_n (m_dk dk_L_law_26 19 rfl) rfl rfl) <|
  m_cn (pc := 1302) (ok_callv (T := mt_X7_thrown) my_X7_thrown rfl cw_X7_thrown rfl rfl (by decide) (r9 := (RX7, TX7, 36)) rfl rfl wd_898 wd_899 wd_900 wd_6 (by decide +kernel) (m_dk dk_L_law_26 20 rfl) rfl) <|
  m_cn (pc := 1305) (ok_iload (m_dk dk_L_law_26 21 rfl) rfl) <|
  m_cn (pc := 1307) (ok_icmpeq (m_dk dk_L_law_26 22 rfl) rfl rfl) <|
  m_cn (pc := 1310) (ok_iconst (m_dk dk_L_law_26 23 rfl) (by decide) rfl) <|
  m_cn (pc := 1311) (ok_zreturn (nx := 0) rfl (m_dk dk_L_law_26 24 rfl)) <|
  m_cn (pc := 1312) (ok_iload (m_dk dk_L_law_26 25 rfl) rfl) <|
  m_cn (pc := 1314) (ok_ifne (m_dk dk_L_law_26 26 rfl) rfl rfl) <|
  m_cn (pc := 1317) (ok_aload_n (m_dk dk_L_law_26 27 rfl) rfl rfl) <|
  m_cn (pc := 1318) (ok_iconst (m_dk dk_L_law_26 28 rfl) (by decide) rfl) <|
  m_cn (pc := 1319) (ok_lald (m_dk dk_L_law_26 29 rfl) rfl) <|
  m_cn (pc := 1320) (ok_iload (m_dk dk_L_law_27 0 rfl) rfl) <|
  m_cn (pc := 1322) (ok_i2l (m_dk dk_L_law_27 1 rfl) rfl) <|
  m_cn (pc := 1323) (ok_lcmp (m_dk dk_L_law_27 2 rfl) rfl) <|
  m_cn (pc := 1324) (ok_ifeq (m_dk dk_L_law_27 3 rfl) rfl rfl) <|
  m_cn (pc := 1327) (ok_iconst (m_dk dk_L_law_27 4 rfl) (by decide) rfl) <|
  m_cn (pc := 1328) (ok_zreturn (nx := 0) rfl (m_dk dk_L_law_27 5 rfl)) <|
  m_cn (pc := 1329) (ok_goto (nx := 0) (m_dk dk_L_law_27 6 rfl) rfl) <|
  m_cn (pc := 1332) (ok_aload_n (m_dk dk_L_law_27 7 rfl) rfl rfl) <|
  m_cn (pc := 1333) (ok_aload_n (m_dk dk_L_law_27 8 rfl) rfl rfl) <|
  m_cn (pc := 1334) (ok_iload (m_dk dk_L_law_27 9 rfl) rfl) <|
  m_cn (pc := 1336) (ok_iconst (m_dk dk_L_law_27 10 rfl) (by decide) rfl) <|
  m_cn (pc := 1337) (ok_iadd (m_dk dk_L_law_27 11 rfl) rfl) <|
  m_cn (pc := 1338) (ok_sald (m_dk dk_L_law_27 12 rfl) rfl) <|
  m_cn (pc := 1339) (ok_aload_n (m_dk dk_L_law_27 13 rfl) rfl rfl) <|
  m_cn (pc := 1340) (ok_callsw (hh9 := hh_L_place) (T := mt_L_place) my_L_place rfl cw_L_place rfl rfl (by decide) wd_769 wd_770 wd_0 (by decide +kernel) (m_dk dk_L_law_27 14 rfl) rfl) <|
  m_cn (pc := 1343) (ok_istore (m_dk dk_L_law_27 15 rfl) rfl) <|
  m_cn (pc := 1345) (ok_aload_n (m_dk dk_L_law_27 16 rfl) rfl rfl) <|
  m_cn (pc := 1346) (ok_aload_n (m_dk dk_L_law_27 17 rfl) rfl rfl) <|
  m_cn (pc := 1347) (ok_iload (m_dk dk_L_law_27 18 rfl) rfl) <|
  m_cn (pc := 1349) (ok_iconst (m_dk dk_L_law_27 19 rfl) (by decide) rfl) <|
  m_cn (pc := 1350) (ok_iadd (m_dk dk_L_law_27 20 rfl) rfl) <|
  m_cn (pc := 1351) (ok_sald (m_dk dk_L_law_27 21 rfl) rfl) <|
  m_cn (pc := 1352) (ok_callv (T := mt_X7_place) my_X7_place rfl cw_X7_place rfl rfl (by decide) (r9 := (RX7, TX7, 36)) rfl rfl wd_1069 wd_1070 wd_1071 wd_6 (by decide +kernel) (m_dk dk_L_law_27 22 rfl) rfl) <|
  m_cn (pc := 1355) (ok_istore (m_dk dk_L_law_27 23 rfl) rfl) <|
  m_cn (pc := 1357) (ok_aload_n (m_dk dk_L_law_27 24 rfl) rfl rfl) <|
  m_cn (pc := 1358) (ok_callv (T := mt_X7_thrown) my_X7_thrown rfl cw_X7_thrown rfl rfl (by decide) (r9 := (RX7, TX7, 36)) rfl rfl wd_898 wd_899 wd_900 wd_6 (by decide +kernel) (m_dk dk_L_law_27 25 rfl) rfl) <|
  m_cn (pc := 1361) (ok_iload (m_dk dk_L_law_27 26 rfl) rfl) <|
  m_cn (pc := 1363) (ok_icmpeq (m_dk dk_L_law_27 27 rfl) rfl rfl) <|
  m_cn (pc := 1366) (ok_iconst (m_dk dk_L_law_27 28 rfl) (by decide) rfl) <|
  m_cn (pc := 1367) (ok_zreturn (nx := 0) rfl (m_dk dk_L_law_27 29 rfl)) <|
  m_nl
def cd_L_law_14 (L : Nat) (xs : Nat → Int32) : List (Nat × m_Op) := [(1368, o_iload 5 1370), (1370, o_ifne 1385 1373), (1373, o_aload 3 1374), (1374, o_const (0) 1375), (1375, o_lald 1376), (1376, o_iload 6 1378), (1378, o_i2l 1379), (1379, o_lcmp 1380), (1380, o_ifeq 1385 1383), (1383, o_const (0) 1384), (1384, o_zreturn), (1385, o_goto 1457), (1388, o_aload 1 1389), (1389, o_aload 0 1390), (1390, o_iload 4 1392), (1392, o_const (1) 1393), (1393, o_bin (fun x y => x + y) 1394), (1394, o_sald L xs 1395), (1395, o_aload 3 1396), (1396, o_call 141 3 1 6 1399), (1399, o_istore 5 1401), (1401, o_aload 2 1402), (1402, o_aload 0 1403), (1403, o_iload 4 1405), (1405, o_const (1) 1406), (1406, o_bin (fun x y => x + y) 1407), (1407, o_sald L xs 1408), (1408, o_callv 8 106 2 0 0 1411), (1411, o_istore 6 1413), (1413, o_aload 2 1414), (1414, o_callv 8 62 1 0 0 1417), (1417, o_iload 5 1419), (1419, o_icmpeq 1424 1422), (1422, o_const (0) 1423), (1423, o_zreturn), (1424, o_iload 5 1426), (1426, o_ifne 1441 1429), (1429, o_aload 3 1430), (1430, o_const (0) 1431), (1431, o_lald 1432), (1432, o_iload 6 1434), (1434, o_i2l 1435), (1435, o_lcmp 1436), (1436, o_ifeq 1441 1439), (1439, o_const (0) 1440), (1440, o_zreturn), (1441, o_goto 1457), (1444, o_aload 1 1445), (1445, o_callv 7 43 1 0 0 1448), (1448, o_aload 2 1449), (1449, o_callv 8 107 1 0 0 1452), (1452, o_icmpeq 1457 1455), (1455, o_const (0) 1456), (1456, o_zreturn), (1457, o_iinc 4 (6) 1460), (1460, o_goto 23), (1463, o_const (1) 1464), (1464, o_zreturn)]
set_option maxRecDepth 20000 in
set_option maxHeartbeats 4000000 in
theorem ok_L_law_14 (L : Nat) (xs : Nat → Int32) : ∀ q ∈ cd_L_law_14 L xs, m_OK (fun G => G.2.2.2.2 = (L, xs)) m_my (cL_law, 7, RL, false, (some .boolean), []) q.1 q.2 :=
  m_cn (pc := 1368) (ok_iload (m_dk dk_L_law_28 0 rfl) rfl) <|
  m_cn (pc := 1370) (ok_ifne (m_dk dk_L_law_28 1 rfl) rfl rfl) <|
  m_cn (pc := 1373) (ok_aload_n (m_dk dk_L_law_28 2 rfl) rfl rfl) <|
  m_cn (pc := 1374) (ok_iconst (m_dk dk_L_law_28 3 rfl) (by decide) rfl) <|
  m_cn (pc := 1375) (ok_lald (m_dk dk_L_law_28 4 rfl) rfl) <|
  m_cn (pc := 1376) (ok_iload (m_dk dk_L_law_28 5 rfl) rfl) <|
  m_cn (pc := 1378) (ok_i2l (m_dk dk_L_law_28 6 rfl) rfl) <|
  m_cn (pc := 1379) (ok_lcmp (m_dk dk_L_law_28 7 rfl) rfl) <|
  m_cn (pc := 1380) (ok_ifeq (m_dk dk_L_law_28 8 rfl) rfl rfl) <|
  m_cn (pc := 1383) (ok_iconst (m_dk dk_L_law_28 9 rfl) (by decide) rfl) <|
  m_cn (pc := 1384) (ok_zreturn (nx := 0) rfl (m_dk dk_L_law_28 10 rfl)) <|
  m_cn (pc := 1385) (ok_goto (nx := 0) (m_dk dk_L_law_28 11 rfl) rfl) <|
  m_cn (pc := 1388) (ok_aload_n (m_dk dk_L_law_28 12 rfl) rfl rfl) <|
  m_cn (pc := 1389) (ok_aload_n (m_dk dk_L_law_28 13 rfl) rfl rfl) <|
  m_cn (pc := 1390) (ok_iload (m_dk dk_L_law_28 14 rfl) rfl) <|
  m_cn (pc := 1392) (ok_iconst (m_dk dk_L_law_28 15 rfl) (by decide) rfl) <|
  m_cn (pc := 1393) (ok_iadd (m_dk dk_L_law_28 16 rfl) rfl) <|
  m_cn (pc := 1394) (ok_sald (m_dk dk_L_law_28 17 rfl) rfl) <|
  m_cn (pc := 1395) (ok_aload_n (m_dk dk_L_law_28 18 rfl) rfl rfl) <|
  m_cn (pc := 1396) (ok_callsw (hh9 := hh_L_worked) (T := mt_L_worked) my_L_worked rfl cw_L_worked rfl rfl (by decide) wd_776 wd_777 wd_0 (by decide +kernel) (m_dk dk_L_law_28 19 rfl) rfl) <|
  m_cn (pc := 1399) (ok_istore (m_dk dk_L_law_28 20 rfl) rfl) <|
  m_cn (pc := 1401) (ok_aload_n (m_dk dk_L_law_28 21 rfl) rfl rfl) <|
  m_cn (pc := 1402) (ok_aload_n (m_dk dk_L_law_28 22 rfl) rfl rfl) <|
  m_cn (pc := 1403) (ok_iload (m_dk dk_L_law_28 23 rfl) rfl) <|
  m_cn (pc := 1405) (ok_iconst (m_dk dk_L_law_28 24 rfl) (by decide) rfl) <|
  m_cn (pc := 1406) (ok_iadd (m_dk dk_L_law_28 25 rfl) rfl) <|
  m_cn (pc := 1407) (ok_sald (m_dk dk_L_law_28 26 rfl) rfl) <|
  m_cn (pc := 1408) (ok_callv (T := mt_X7_worked) my_X7_worked rfl cw_X7_worked rfl rfl (by decide) (r9 := (RX7, TX7, 36)) rfl rfl wd_1073 wd_1074 wd_1075 wd_6 (by decide +kernel) (m_dk dk_L_law_28 27 rfl) rfl) <|
  m_cn (pc := 1411) (ok_istore (m_dk dk_L_law_28 28 rfl) rfl) <|
  m_cn (pc := 1413) (ok_aload_n (m_dk dk_L_law_28 29 rfl) rfl rfl) <|
  m_cn (pc := 1414) (ok_callv (T := mt_X7_thrown) my_X7_thrown rfl cw_X7_thrown rfl rfl (by decide) (r9 := (RX7, TX7, 36)) rfl rfl wd_898 wd_899 wd_900 wd_6 (by decide +kernel) (m_dk dk_L_law_29 0 rfl) rfl) <|
  m_cn (pc := 1417) (ok_iload (m_dk dk_L_law_29 1 rfl) rfl) <|
  m_cn (pc := 1419) (ok_icmpeq (m_dk dk_L_law_29 2 rfl) rfl rfl) <|
  m_cn (pc := 1422) (ok_iconst (m_dk dk_L_law_29 3 rfl) (by decide) rfl) <|
  m_cn (pc := 1423) (ok_zreturn (nx := 0) rfl (m_dk dk_L_law_29 4 rfl)) <|
  m_cn (pc := 1424) (ok_iload (m_dk dk_L_law_29 5 rfl) rfl) <|
  m_cn (pc := 1426) (ok_ifne (m_dk dk_L_law_29 6 rfl) rfl rfl) <|
  m_cn (pc := 1429) (ok_aload_n (m_dk dk_L_law_29 7 rfl) rfl rfl) <|
  m_cn (pc := 1430) (ok_iconst (m_dk dk_L_law_29 8 rfl) (by decide) rfl) <|
  m_cn (pc := 1431) (ok_lald (m_dk dk_L_law_29 9 rfl) rfl) <|
  m_cn (pc := 1432) (ok_iload (m_dk dk_L_law_29 10 rfl) rfl) <|
  m_cn (pc := 1434) (ok_i2l (m_dk dk_L_law_29 11 rfl) rfl) <|
  m_cn (pc := 1435) (ok_lcmp (m_dk dk_L_law_29 12 rfl) rfl) <|
  m_cn (pc := 1436) (ok_ifeq (m_dk dk_L_law_29 13 rfl) rfl rfl) <|
  m_cn (pc := 1439) (ok_iconst (m_dk dk_L_law_29 14 rfl) (by decide) rfl) <|
  m_cn (pc := 1440) (ok_zreturn (nx := 0) rfl (m_dk dk_L_law_29 15 rfl)) <|
  m_cn (pc := 1441) (ok_goto (nx := 0) (m_dk dk_L_law_29 16 rfl) rfl) <|
  m_cn (pc := 1444) (ok_aload_n (m_dk dk_L_law_29 17 rfl) rfl rfl) <|
  m_cn (pc := 1445) (ok_callv (T := mt_X6_seal) my_X6_seal rfl cw_X6_seal rfl rfl (by decide) (r9 := (RX6, TX6, 15)) rfl rfl wd_185 wd_186 wd_187 wd_1 (by decide +kernel) (m_dk dk_L_law_29 18 rfl) rfl) <|
  m_cn (pc := 1448) (ok_aload_n (m_dk dk_L_law_29 19 rfl) rfl rfl) <|
  m_cn (pc := 1449) (ok_callv (T := mt_X7_seal) my_X7_seal rfl cw_X7_seal rfl rfl (by decide) (r9 := (RX7, TX7, 36)) rfl rfl wd_1077 wd_1078 wd_1079 wd_6 (by decide +kernel) (m_dk dk_L_law_29 20 rfl) rfl) <|
  m_cn (pc := 1452) (ok_icmpeq (m_dk dk_L_law_29 21 rfl) rfl rfl) <|
  m_cn (pc := 1455) (ok_iconst (m_dk dk_L_law_29 22 rfl) (by decide) rfl) <|
  m_cn (pc := 1456) (ok_zreturn (nx := 0) rfl (m_dk dk_L_law_29 23 rfl)) <|
  m_cn (pc := 1457) (ok_iinc (m_dk dk_L_law_29 24 rfl) (by decide) rfl) <|
  m_cn (pc := 1460) (ok_goto (nx := 0) (m_dk dk_L_law_29 25 rfl) rfl) <|
  m_cn (pc := 1463) (ok_iconst (m_dk dk_L_law_29 26 rfl) (by decide) rfl) <|
  m_cn (pc := 1464) (ok_zreturn (nx := 0) rfl (m_dk dk_L_law_29 27 rfl)) <|
  m_nl
def cd_L_law (L : Nat) (xs : Nat → Int32) : List (Nat × m_Op) := cd_L_law_0 L xs ++ (cd_L_law_1 L xs ++ (cd_L_law_2 L xs ++ (cd_L_law_3 L xs ++ (cd_L_law_4 L xs ++ (cd_L_law_5 L xs ++ (cd_L_law_6 L xs ++ (cd_L_law_7 L xs ++ (cd_L_law_8 L xs ++ (cd_L_law_9 L xs ++ (cd_L_law_10 L xs ++ (cd_L_law_11 L xs ++ (cd_L_law_12 L xs ++ (cd_L_law_13 L xs ++ (cd_L_law_14 L xs))))))))))))))
theorem ok_L_law (L : Nat) (xs : Nat → Int32) : ∀ pc : Nat, m_OK (fun G => G.2.2.2.2 = (L, xs)) m_my (cL_law, 7, RL, false, (some .boolean), []) pc (m_lk (cd_L_law L xs) pc) := m_lk_ok _ (List.forall_mem_append.mpr ⟨ok_L_law_0 L xs, List.forall_mem_append.mpr ⟨ok_L_law_1 L xs, List.forall_mem_append.mpr ⟨ok_L_law_2 L xs, List.forall_mem_append.mpr ⟨ok_L_law_3 L xs, List.forall_mem_append.mpr ⟨ok_L_law_4 L xs, List.forall_mem_append.mpr ⟨ok_L_law_5 L xs, List.forall_mem_append.mpr ⟨ok_L_law_6 L xs, List.forall_mem_append.mpr ⟨ok_L_law_7 L xs, List.forall_mem_append.mpr ⟨ok_L_law_8 L xs, List.forall_mem_append.mpr ⟨ok_L_law_9 L xs, List.forall_mem_append.mpr ⟨ok_L_law_10 L xs, List.forall_mem_append.mpr ⟨ok_L_law_11 L xs, List.forall_mem_append.mpr ⟨ok_L_law_12 L xs, List.forall_mem_append.mpr ⟨ok_L_law_13 L xs, ok_L_law_14 L xs⟩⟩⟩⟩⟩⟩⟩⟩⟩⟩⟩⟩⟩⟩)
