def dl_L_adds_0 : List (Nat × Instr × Nat) := [(0, .iload 4, 2), (2, .iconst 2, 1), (3, .ishr, 1), (4, .bipush 6, 2), (6, .invokestatic 85, 3), (9, .istore 6, 2), (11, .iload 6, 2), (13, .iconst 1, 1), (14, .iadd, 1), (15, .iload 4, 2), (17, .iconst 5, 1), (18, .ishr, 1), (19, .iconst 5, 1), (20, .invokestatic 85, 3), (23, .iadd, 1), (24, .bipush 6, 2), (26, .irem, 1), (27, .istore 7, 2), (29, .iload 5, 2), (31, .bipush 6, 2), (33, .invokestatic 85, 3), (36, .istore 8, 2), (38, .iload 4, 2), (40, .iconst 4, 1), (41, .invokestatic 85, 3), (44, .istore 9, 2), (46, .iload 9, 2), (48, .iconst 2, 1), (49, .if_icmp .ge 128, 3), (52, .iconst 1, 1), (53, .iload 5, 2), (55, .iconst 3, 1), (56, .ishr, 1), (57, .bipush 8, 2), (59, .invokestatic 85, 3), (62, .iadd, 1), (63, .istore 10, 2), (65, .aload_n 0, 1), (66, .iload 6, 2), (68, .iload 7, 2)]
theorem dk_L_adds_0 : ∀ q ∈ dl_L_adds_0, decode cL_adds q.1 = .ok q.2 := by decide +kernel
def dl_L_adds_1 : List (Nat × Instr × Nat) := [(70, .iload 10, 2), (72, .iload 8, 2), (74, .invokestatic 90, 3), (77, .istore 11, 2), (79, .aload_n 1, 1), (80, .iconst 0, 1), (81, .iaload, 1), (82, .bipush 10, 2), (84, .if_icmp .ne 16, 3), (87, .iload 11, 2), (89, .ldc 24, 2), (91, .if_icmp .ne 7, 3), (94, .iconst 1, 1), (95, .goto 4, 3), (98, .iconst 0, 1), (99, .ireturn, 1), (100, .aload_n 2, 1), (101, .iconst 4, 1), (102, .aload_n 1, 1), (103, .iconst 0, 1), (104, .iaload, 1), (105, .imul, 1), (106, .iload 6, 2), (108, .iastore, 1), (109, .aload_n 2, 1), (110, .iconst 4, 1), (111, .aload_n 1, 1), (112, .iconst 0, 1), (113, .iaload, 1), (114, .imul, 1), (115, .iconst 1, 1), (116, .iadd, 1), (117, .iload 7, 2), (119, .iastore, 1), (120, .aload_n 2, 1), (121, .iconst 4, 1), (122, .aload_n 1, 1), (123, .iconst 0, 1), (124, .iaload, 1), (125, .imul, 1)]
theorem dk_L_adds_1 : ∀ q ∈ dl_L_adds_1, decode cL_adds q.1 = .ok q.2 := by decide +kernel
def dl_L_adds_2 : List (Nat × Instr × Nat) := [(126, .iconst 2, 1), (127, .iadd, 1), (128, .iload 10, 2), (130, .iastore, 1), (131, .aload_n 1, 1), (132, .iconst 0, 1), (133, .dup2, 1), (134, .iaload, 1), (135, .iconst 1, 1), (136, .iadd, 1), (137, .iastore, 1), (138, .iload 11, 2), (140, .aload_n 1, 1), (141, .iconst 0, 1), (142, .iaload, 1), (143, .iconst 1, 1), (144, .isub, 1), (145, .if_icmp .ne 30, 3), (148, .aload_n 0, 1), (149, .iload 11, 2), (151, .iload 8, 2), (153, .invokestatic 93, 3), (156, .iload 10, 2), (158, .if_icmp .ne 17, 3), (161, .aload_n 0, 1), (162, .iload 11, 2), (164, .invokestatic 96, 3), (167, .iconst 1, 1), (168, .if_icmp .ne 7, 3), (171, .iconst 1, 1), (172, .goto 4, 3), (175, .iconst 0, 1), (176, .ireturn, 1), (177, .iload 9, 2), (179, .iconst 2, 1), (180, .if_icmp .ne 134, 3), (183, .iconst 1, 1), (184, .iload 5, 2), (186, .iconst 3, 1), (187, .ishr, 1)]
theorem dk_L_adds_2 : ∀ q ∈ dl_L_adds_2, decode cL_adds q.1 = .ok q.2 := by decide +kernel
def dl_L_adds_3 : List (Nat × Instr × Nat) := [(188, .iconst 4, 1), (189, .invokestatic 85, 3), (192, .iadd, 1), (193, .istore 10, 2), (195, .aload_n 0, 1), (196, .iload 8, 2), (198, .iload 6, 2), (200, .iload 7, 2), (202, .iload 10, 2), (204, .invokestatic 99, 3), (207, .istore 11, 2), (209, .aload_n 1, 1), (210, .iconst 1, 1), (211, .iaload, 1), (212, .bipush 10, 2), (214, .if_icmp .ne 16, 3), (217, .iload 11, 2), (219, .ldc 24, 2), (221, .if_icmp .ne 7, 3), (224, .iconst 1, 1), (225, .goto 4, 3), (228, .iconst 0, 1), (229, .ireturn, 1), (230, .aload_n 3, 1), (231, .iconst 4, 1), (232, .aload_n 1, 1), (233, .iconst 1, 1), (234, .iaload, 1), (235, .imul, 1), (236, .iload 8, 2), (238, .iastore, 1), (239, .aload_n 3, 1), (240, .iconst 4, 1), (241, .aload_n 1, 1), (242, .iconst 1, 1), (243, .iaload, 1), (244, .imul, 1), (245, .iconst 1, 1), (246, .iadd, 1), (247, .iload 6, 2)]
theorem dk_L_adds_3 : ∀ q ∈ dl_L_adds_3, decode cL_adds q.1 = .ok q.2 := by decide +kernel
def dl_L_adds_4 : List (Nat × Instr × Nat) := [(249, .iastore, 1), (250, .aload_n 3, 1), (251, .iconst 4, 1), (252, .aload_n 1, 1), (253, .iconst 1, 1), (254, .iaload, 1), (255, .imul, 1), (256, .iconst 2, 1), (257, .iadd, 1), (258, .iload 7, 2), (260, .iastore, 1), (261, .aload_n 3, 1), (262, .iconst 4, 1), (263, .aload_n 1, 1), (264, .iconst 1, 1), (265, .iaload, 1), (266, .imul, 1), (267, .iconst 3, 1), (268, .iadd, 1), (269, .iload 10, 2), (271, .iastore, 1), (272, .aload_n 1, 1), (273, .iconst 1, 1), (274, .dup2, 1), (275, .iaload, 1), (276, .iconst 1, 1), (277, .iadd, 1), (278, .iastore, 1), (279, .iload 11, 2), (281, .aload_n 1, 1), (282, .iconst 1, 1), (283, .iaload, 1), (284, .iconst 1, 1), (285, .isub, 1), (286, .if_icmp .ne 26, 3), (289, .aload_n 0, 1), (290, .iload 11, 2), (292, .invokestatic 101, 3), (295, .iconst (-1), 1), (296, .if_icmp .ne 16, 3)]
theorem dk_L_adds_4 : ∀ q ∈ dl_L_adds_4, decode cL_adds q.1 = .ok q.2 := by decide +kernel
def dl_L_adds_5 : List (Nat × Instr × Nat) := [(299, .aload_n 0, 1), (300, .iload 11, 2), (302, .invokestatic 103, 3), (305, .ifCond .ne 7, 3), (308, .iconst 1, 1), (309, .goto 4, 3), (312, .iconst 0, 1), (313, .ireturn, 1), (314, .aload_n 0, 1), (315, .iload 6, 2), (317, .bipush 10, 2), (319, .iload 5, 2), (321, .sipush 191, 3), (324, .invokestatic 85, 3), (327, .iadd, 1), (328, .iload 5, 2), (330, .bipush 8, 2), (332, .ishr, 1), (333, .bipush 11, 2), (335, .invokestatic 85, 3), (338, .invokestatic 105, 3), (341, .istore 10, 2), (343, .aload_n 1, 1), (344, .iconst 3, 1), (345, .dup2, 1), (346, .iaload, 1), (347, .aload_n 1, 1), (348, .iconst 3, 1), (349, .iaload, 1), (350, .iconst 3, 1), (351, .if_icmp .ne 7, 3), (354, .iconst 0, 1), (355, .goto 4, 3), (358, .iconst 1, 1), (359, .iadd, 1), (360, .iastore, 1), (361, .iload 10, 2), (363, .aload_n 1, 1), (364, .iconst 3, 1), (365, .iaload, 1)]
theorem dk_L_adds_5 : ∀ q ∈ dl_L_adds_5, decode cL_adds q.1 = .ok q.2 := by decide +kernel
def dl_L_adds_6 : List (Nat × Instr × Nat) := [(366, .iconst 1, 1), (367, .isub, 1), (368, .if_icmp .eq 10, 3), (371, .iload 10, 2), (373, .ldc 24, 2), (375, .if_icmp .ne 7, 3), (378, .iconst 1, 1), (379, .goto 4, 3), (382, .iconst 0, 1), (383, .ireturn, 1)]
theorem dk_L_adds_6 : ∀ q ∈ dl_L_adds_6, decode cL_adds q.1 = .ok q.2 := by decide +kernel
def cd_L_adds : List (Nat × m_Op) := [(0, o_iload 4 2), (2, o_const (2) 3), (3, o_bin (fun x y => x >>> (y &&& 31)) 4), (4, o_const (6) 6), (6, o_call 77 2 0 0 9), (9, o_istore 6 11), (11, o_iload 6 13), (13, o_const (1) 14), (14, o_bin (fun x y => x + y) 15), (15, o_iload 4 17), (17, o_const (5) 18), (18, o_bin (fun x y => x >>> (y &&& 31)) 19), (19, o_const (5) 20), (20, o_call 77 2 0 0 23), (23, o_bin (fun x y => x + y) 24), (24, o_const (6) 26), (26, o_div (fun x y => x - x / y * y) 27), (27, o_istore 7 29), (29, o_iload 5 31), (31, o_const (6) 33), (33, o_call 77 2 0 0 36), (36, o_istore 8 38), (38, o_iload 4 40), (40, o_const (4) 41), (41, o_call 77 2 0 0 44), (44, o_istore 9 46), (46, o_iload 9 48), (48, o_const (2) 49), (49, o_icmpge 177 52), (52, o_const (1) 53), (53, o_iload 5 55), (55, o_const (3) 56), (56, o_bin (fun x y => x >>> (y &&& 31)) 57), (57, o_const (8) 59), (59, o_call 77 2 0 0 62), (62, o_bin (fun x y => x + y) 63), (63, o_istore 10 65), (65, o_aload 0 66), (66, o_iload 6 68), (68, o_iload 7 70), (70, o_iload 10 72), (72, o_iload 8 74), (74, o_call 78 5 7 43 77), (77, o_istore 11 79), (79, o_aload 1 80), (80, o_const (0) 81), (81, o_iald 0 82), (82, o_const (10) 84), (84, o_icmpne 100 87), (87, o_iload 11 89), (89, o_const (-1000003) 91), (91, o_icmpne 98 94), (94, o_const (1) 95), (95, o_goto 99), (98, o_const (0) 99), (99, o_zreturn), (100, o_aload 2 101), (101, o_const (4) 102), (102, o_aload 1 103), (103, o_const (0) 104), (104, o_iald 0 105), (105, o_bin (fun x y => x * y) 106), (106, o_iload 6 108), (108, o_iast 109), (109, o_aload 2 110), (110, o_const (4) 111), (111, o_aload 1 112), (112, o_const (0) 113), (113, o_iald 0 114), (114, o_bin (fun x y => x * y) 115), (115, o_const (1) 116), (116, o_bin (fun x y => x + y) 117), (117, o_iload 7 119), (119, o_iast 120), (120, o_aload 2 121), (121, o_const (4) 122), (122, o_aload 1 123), (123, o_const (0) 124), (124, o_iald 0 125), (125, o_bin (fun x y => x * y) 126), (126, o_const (2) 127), (127, o_bin (fun x y => x + y) 128), (128, o_iload 10 130), (130, o_iast 131), (131, o_aload 1 132), (132, o_const (0) 133), (133, o_dup2 134), (134, o_iald 0 135), (135, o_const (1) 136), (136, o_bin (fun x y => x + y) 137), (137, o_iast 138), (138, o_iload 11 140), (140, o_aload 1 141), (141, o_const (0) 142), (142, o_iald 0 143), (143, o_const (1) 144), (144, o_bin (fun x y => x - y) 145), (145, o_icmpne 175 148), (148, o_aload 0 149), (149, o_iload 11 151), (151, o_iload 8 153), (153, o_call 87 3 2 12 156), (156, o_iload 10 158), (158, o_icmpne 175 161), (161, o_aload 0 162), (162, o_iload 11 164), (164, o_call 88 2 1 6 167), (167, o_const (1) 168), (168, o_icmpne 175 171), (171, o_const (1) 172), (172, o_goto 176), (175, o_const (0) 176), (176, o_zreturn), (177, o_iload 9 179), (179, o_const (2) 180), (180, o_icmpne 314 183), (183, o_const (1) 184), (184, o_iload 5 186), (186, o_const (3) 187), (187, o_bin (fun x y => x >>> (y &&& 31)) 188), (188, o_const (4) 189), (189, o_call 77 2 0 0 192), (192, o_bin (fun x y => x + y) 193), (193, o_istore 10 195), (195, o_aload 0 196), (196, o_iload 8 198), (198, o_iload 6 200), (200, o_iload 7 202), (202, o_iload 10 204), (204, o_call 79 5 7 41 207), (207, o_istore 11 209), (209, o_aload 1 210), (210, o_const (1) 211), (211, o_iald 0 212), (212, o_const (10) 214), (214, o_icmpne 230 217), (217, o_iload 11 219), (219, o_const (-1000003) 221), (221, o_icmpne 228 224), (224, o_const (1) 225), (225, o_goto 229), (228, o_const (0) 229), (229, o_zreturn), (230, o_aload 3 231), (231, o_const (4) 232), (232, o_aload 1 233), (233, o_const (1) 234), (234, o_iald 0 235), (235, o_bin (fun x y => x * y) 236), (236, o_iload 8 238), (238, o_iast 239), (239, o_aload 3 240), (240, o_const (4) 241), (241, o_aload 1 242), (242, o_const (1) 243), (243, o_iald 0 244), (244, o_bin (fun x y => x * y) 245), (245, o_const (1) 246), (246, o_bin (fun x y => x + y) 247), (247, o_iload 6 249), (249, o_iast 250), (250, o_aload 3 251), (251, o_const (4) 252), (252, o_aload 1 253), (253, o_const (1) 254), (254, o_iald 0 255), (255, o_bin (fun x y => x * y) 256), (256, o_const (2) 257), (257, o_bin (fun x y => x + y) 258), (258, o_iload 7 260), (260, o_iast 261), (261, o_aload 3 262), (262, o_const (4) 263), (263, o_aload 1 264), (264, o_const (1) 265), (265, o_iald 0 266), (266, o_bin (fun x y => x * y) 267), (267, o_const (3) 268), (268, o_bin (fun x y => x + y) 269), (269, o_iload 10 271), (271, o_iast 272), (272, o_aload 1 273), (273, o_const (1) 274), (274, o_dup2 275), (275, o_iald 0 276), (276, o_const (1) 277), (277, o_bin (fun x y => x + y) 278), (278, o_iast 279), (279, o_iload 11 281), (281, o_aload 1 282), (282, o_const (1) 283), (283, o_iald 0 284), (284, o_const (1) 285), (285, o_bin (fun x y => x - y) 286), (286, o_icmpne 312 289), (289, o_aload 0 290), (290, o_iload 11 292), (292, o_call 89 2 1 6 295), (295, o_const (-1) 296), (296, o_icmpne 312 299), (299, o_aload 0 300), (300, o_iload 11 302), (302, o_call 90 2 1 6 305), (305, o_ifne 312 308), (308, o_const (1) 309), (309, o_goto 313), (312, o_const (0) 313), (313, o_zreturn), (314, o_aload 0 315), (315, o_iload 6 317), (317, o_const (10) 319), (319, o_iload 5 321), (321, o_const (191) 324), (324, o_call 77 2 0 0 327), (327, o_bin (fun x y => x + y) 328), (328, o_iload 5 330), (330, o_const (8) 332), (332, o_bin (fun x y => x >>> (y &&& 31)) 333), (333, o_const (11) 335), (335, o_call 77 2 0 0 338), (338, o_call 82 4 5 28 341), (341, o_istore 10 343), (343, o_aload 1 344), (344, o_const (3) 345), (345, o_dup2 346), (346, o_iald 0 347), (347, o_aload 1 348), (348, o_const (3) 349), (349, o_iald 0 350), (350, o_const (3) 351), (351, o_icmpne 358 354), (354, o_const (0) 355), (355, o_goto 359), (358, o_const (1) 359), (359, o_bin (fun x y => x + y) 360), (360, o_iast 361), (361, o_iload 10 363), (363, o_aload 1 364), (364, o_const (3) 365), (365, o_iald 0 366), (366, o_const (1) 367), (367, o_bin (fun x y => x - y) 368), (368, o_icmpeq 378 371), (371, o_iload 10 373), (373, o_const (-1000003) 375), (375, o_icmpne 382 378), (378, o_const (1) 379), (379, o_goto 383), (382, o_const (0) 383), (383, o_zreturn)]
set_option maxRecDepth 20000 in
set_option maxHeartbeats 4000000 in
theorem ok_L_adds {GP : m_G → Prop} : ∀ q ∈ cd_L_adds, m_OK GP m_my (cL_adds, 12, RL, false, (some .boolean), []) q.1 q.2 :=
  m_cn (pc := 0) (ok_iload (m_dk dk_L_adds_0 0 rfl) rfl) <|
  m_cn (pc := 2) (ok_iconst (m_dk dk_L_adds_0 1 rfl) (by decide) rfl) <|
  m_cn (pc := 3) (ok_ishr (m_dk dk_L_adds_0 2 rfl) rfl) <|
  m_cn (pc := 4) (ok_bipush (m_dk dk_L_adds_0 3 rfl) (by decide) rfl) <|
  m_cn (pc := 6) (ok_calls (T := mt_L_low) my_L_low rfl cw_L_low rfl rfl (by decide) wd_376 wd_377 wd_0 (by decide +kernel) (m_dk dk_L_adds_0 4 rfl) rfl) <|
  m_cn (pc := 9) (ok_istore (m_dk dk_L_adds_0 5 rfl) rfl (by decide)) <|
  m_cn (pc := 11) (ok_iload (m_dk dk_L_adds_0 6 rfl) rfl) <|
  m_cn (pc := 13) (ok_iconst (m_dk dk_L_adds_0 7 rfl) (by decide) rfl) <|
  m_cn (pc := 14) (ok_iadd (m_dk dk_L_adds_0 8 rfl) rfl) <|
  m_cn (pc := 15) (ok_iload (m_dk dk_L_adds_0 9 rfl) rfl) <|
  m_cn (pc := 17) (ok_iconst (m_dk dk_L_adds_0 10 rfl) (by decide) rfl) <|
  m_cn (pc := 18) (ok_ishr (m_dk dk_L_adds_0 11 rfl) rfl) <|
  m_cn (pc := 19) (ok_iconst (m_dk dk_L_adds_0 12 rfl) (by decide) rfl) <|
  m_cn (pc := 20) (ok_calls (T := mt_L_low) my_L_low rfl cw_L_low rfl rfl (by decide) wd_376 wd_377 wd_0 (by decide +kernel) (m_dk dk_L_adds_0 13 rfl) rfl) <|
  m_cn (pc := 23) (ok_iadd (m_dk dk_L_adds_0 14 rfl) rfl) <|
  m_cn (pc := 24) (ok_bipush (m_dk dk_L_adds_0 15 rfl) (by decide) rfl) <|
  m_cn (pc := 26) (ok_irem (m_dk dk_L_adds_0 16 rfl) rfl) <|
  m_cn (pc := 27) (ok_istore (m_dk dk_L_adds_0 17 rfl) rfl (by decide)) <|
  m_cn (pc := 29) (ok_iload (m_dk dk_L_adds_0 18 rfl) rfl) <|
  m_cn (pc := 31) (ok_bipush (m_dk dk_L_adds_0 19 rfl) (by decide) rfl) <|
  m_cn (pc := 33) (ok_calls (T := mt_L_low) my_L_low rfl cw_L_low rfl rfl (by decide) wd_376 wd_377 wd_0 (by decide +kernel) (m_dk dk_L_adds_0 20 rfl) rfl) <|
  m_cn (pc := 36) (ok_istore (m_dk dk_L_adds_0 21 rfl) rfl (by decide)) <|
  m_cn (pc := 38) (ok_iload (m_dk dk_L_adds_0 22 rfl) rfl) <|
  m_cn (pc := 40) (ok_iconst (m_dk dk_L_adds_0 23 rfl) (by decide) rfl) <|
  m_cn (pc := 41) (ok_calls (T := mt_L_low) my_L_low rfl cw_L_low rfl rfl (by decide) wd_376 wd_377 wd_0 (by decide +kernel) (m_dk dk_L_adds_0 24 rfl) rfl) <|
  m_cn (pc := 44) (ok_istore (m_dk dk_L_adds_0 25 rfl) rfl (by decide)) <|
  m_cn (pc := 46) (ok_iload (m_dk dk_L_adds_0 26 rfl) rfl) <|
  m_cn (pc := 48) (ok_iconst (m_dk dk_L_adds_0 27 rfl) (by decide) rfl) <|
  m_cn (pc := 49) (ok_icmpge (m_dk dk_L_adds_0 28 rfl) rfl rfl) <|
  m_cn (pc := 52) (ok_iconst (m_dk dk_L_adds_0 29 rfl) (by decide) rfl) <|
  m_cn (pc := 53) (ok_iload (m_dk dk_L_adds_0 30 rfl) rfl) <|
  m_cn (pc := 55) (ok_iconst (m_dk dk_L_adds_0 31 rfl) (by decide) rfl) <|
  m_cn (pc := 56) (ok_ishr (m_dk dk_L_adds_0 32 rfl) rfl) <|
  m_cn (pc := 57) (ok_bipush (m_dk dk_L_adds_0 33 rfl) (by decide) rfl) <|
  m_cn (pc := 59) (ok_calls (T := mt_L_low) my_L_low rfl cw_L_low rfl rfl (by decide) wd_376 wd_377 wd_0 (by decide +kernel) (m_dk dk_L_adds_0 34 rfl) rfl) <|
  m_cn (pc := 62) (ok_iadd (m_dk dk_L_adds_0 35 rfl) rfl) <|
  m_cn (pc := 63) (ok_istore (m_dk dk_L_adds_0 36 rfl) rfl (by decide)) <|
  m_cn (pc := 65) (ok_aload_n (m_dk dk_L_adds_0 37 rfl) rfl rfl) <|
  m_cn (pc := 66) (ok_iload (m_dk dk_L_adds_0 38 rfl) rfl) <|
  m_cn (pc := 68) (ok_iload (m_dk dk_L_adds_0 39 rfl) rfl) <|
  m_cn (pc := 70) (ok_iload (m_dk dk_L_adds_1 0 rfl) rfl) <|
  m_cn (pc := 72) (ok_iload (m_dk dk_L_adds_1 1 rfl) rfl) <|
  m_cn (pc := 74) (ok_callsw (hh9 := hh_L_cable) (T := mt_L_cable) my_L_cable rfl cw_L_cable rfl rfl (by decide) wd_383 wd_384 wd_0 (by decide +kernel) (m_dk dk_L_adds_1 2 rfl) rfl) <|
  m_cn (pc := 77) (ok_istore (m_dk dk_L_adds_1 3 rfl) rfl (by decide)) <|
  m_cn (pc := 79) (ok_aload_n (m_dk dk_L_adds_1 4 rfl) rfl rfl) <|
  m_cn (pc := 80) (ok_iconst (m_dk dk_L_adds_1 5 rfl) (by decide) rfl) <|
  m_cn (pc := 81) (ok_iald (m_dk dk_L_adds_1 6 rfl) rfl) <|
  m_cn (pc := 82) (ok_bipush (m_dk dk_L_adds_1 7 rfl) (by decide) rfl) <|
  m_cn (pc := 84) (ok_icmpne (m_dk dk_L_adds_1 8 rfl) rfl rfl) <|
  m_cn (pc := 87) (ok_iload (m_dk dk_L_adds_1 9 rfl) rfl) <|
  m_cn (pc := 89) (ok_ldc (m_dk dk_L_adds_1 10 rfl) wd_372 rfl) <|
  m_cn (pc := 91) (ok_icmpne (m_dk dk_L_adds_1 11 rfl) rfl rfl) <|
  m_cn (pc := 94) (ok_iconst (m_dk dk_L_adds_1 12 rfl) (by decide) rfl) <|
  m_cn (pc := 95) (ok_goto (nx := 0) (m_dk dk_L_adds_1 13 rfl) rfl) <|
  m_cn (pc := 98) (ok_iconst (m_dk dk_L_adds_1 14 rfl) (by decide) rfl) <|
  m_cn (pc := 99) (ok_zreturn (nx := 0) rfl (m_dk dk_L_adds_1 15 rfl)) <|
  m_cn (pc := 100) (ok_aload_n (m_dk dk_L_adds_1 16 rfl) rfl rfl) <|
  m_cn (pc := 101) (ok_iconst (m_dk dk_L_adds_1 17 rfl) (by decide) rfl) <|
  m_cn (pc := 102) (ok_aload_n (m_dk dk_L_adds_1 18 rfl) rfl rfl) <|
  m_cn (pc := 103) (ok_iconst (m_dk dk_L_adds_1 19 rfl) (by decide) rfl) <|
  m_cn (pc := 104) (ok_iald (m_dk dk_L_adds_1 20 rfl) rfl) <|
  m_cn (pc := 105) (ok_imul (m_dk dk_L_adds_1 21 rfl) rfl) <|
  m_cn (pc := 106) (ok_iload (m_dk dk_L_adds_1 22 rfl) rfl) <|
  m_cn (pc := 108) (ok_iast (m_dk dk_L_adds_1 23 rfl) rfl) <|
  m_cn (pc := 109) (ok_aload_n (m_dk dk_L_adds_1 24 rfl) rfl rfl) <|
  m_cn (pc := 110) (ok_iconst (m_dk dk_L_adds_1 25 rfl) (by decide) rfl) <|
  m_cn (pc := 111) (ok_aload_n (m_dk dk_L_adds_1 26 rfl) rfl rfl) <|
  m_cn (pc := 112) (ok_iconst (m_dk dk_L_adds_1 27 rfl) (by decide) rfl) <|
  m_cn (pc := 113) (ok_iald (m_dk dk_L_adds_1 28 rfl) rfl) <|
  m_cn (pc := 114) (ok_imul (m_dk dk_L_adds_1 29 rfl) rfl) <|
  m_cn (pc := 115) (ok_iconst (m_dk dk_L_adds_1 30 rfl) (by decide) rfl) <|
  m_cn (pc := 116) (ok_iadd (m_dk dk_L_adds_1 31 rfl) rfl) <|
  m_cn (pc := 117) (ok_iload (m_dk dk_L_adds_1 32 rfl) rfl) <|
  m_cn (pc := 119) (ok_iast (m_dk dk_L_adds_1 33 rfl) rfl) <|
  m_cn (pc := 120) (ok_aload_n (m_dk dk_L_adds_1 34 rfl) rfl rfl) <|
  m_cn (pc := 121) (ok_iconst (m_dk dk_L_adds_1 35 rfl) (by decide) rfl) <|
  m_cn (pc := 122) (ok_aload_n (m_dk dk_L_adds_1 36 rfl) rfl rfl) <|
  m_cn (pc := 123) (ok_iconst (m_dk dk_L_adds_1 37 rfl) (by decide) rfl) <|
  m_cn (pc := 124) (ok_iald (m_dk dk_L_adds_1 38 rfl) rfl) <|
  m_cn (pc := 125) (ok_imul (m_dk dk_L_adds_1 39 rfl) rfl) <|
  m_cn (pc := 126) (ok_iconst (m_dk dk_L_adds_2 0 rfl) (by decide) rfl) <|
  m_cn (pc := 127) (ok_iadd (m_dk dk_L_adds_2 1 rfl) rfl) <|
  m_cn (pc := 128) (ok_iload (m_dk dk_L_adds_2 2 rfl) rfl) <|
  m_cn (pc := 130) (ok_iast (m_dk dk_L_adds_2 3 rfl) rfl) <|
  m_cn (pc := 131) (ok_aload_n (m_dk dk_L_adds_2 4 rfl) rfl rfl) <|
  m_cn (pc := 132) (ok_iconst (m_dk dk_L_adds_2 5 rfl) (by decide) rfl) <|
  m_cn (pc := 133) (ok_dup2 (m_dk dk_L_adds_2 6 rfl) rfl) <|
  m_cn (pc := 134) (ok_iald (m_dk dk_L_adds_2 7 rfl) rfl) <|
  m_cn (pc := 135) (ok_iconst (m_dk dk_L_adds_2 8 rfl) (by decide) rfl) <|
  m_cn (pc := 136) (ok_iadd (m_dk dk_L_adds_2 9 rfl) rfl) <|
  m_cn (pc := 137) (ok_iast (m_dk dk_L_adds_2 10 rfl) rfl) <|
  m_cn (pc := 138) (ok_iload (m_dk dk_L_adds_2 11 rfl) rfl) <|
  m_cn (pc := 140) (ok_aload_n (m_dk dk_L_adds_2 12 rfl) rfl rfl) <|
  m_cn (pc := 141) (ok_iconst (m_dk dk_L_adds_2 13 rfl) (by decide) rfl) <|
  m_cn (pc := 142) (ok_iald (m_dk dk_L_adds_2 14 rfl) rfl) <|
  m_cn (pc := 143) (ok_iconst (m_dk dk_L_adds_2 15 rfl) (by decide) rfl) <|
  m_cn (pc := 144) (ok_isub (m_dk dk_L_adds_2 16 rfl) rfl) <|
  m_cn (pc := 145) (ok_icmpne (m_dk dk_L_adds_2 17 rfl) rfl rfl) <|
  m_cn (pc := 148) (ok_aload_n (m_dk dk_L_adds_2 18 rfl) rfl rfl) <|
  m_cn (pc := 149) (ok_iload (m_dk dk_L_adds_2 19 rfl) rfl) <|
  m_cn (pc := 151) (ok_iload (m_dk dk_L_adds_2 20 rfl) rfl) <|
  m_cn (pc := 153) (ok_callsw (hh9 := hh_L_owned) (T := mt_L_owned) my_L_owned rfl cw_L_owned rfl rfl (by decide) wd_466 wd_467 wd_0 (by decide +kernel) (m_dk dk_L_adds_2 21 rfl) rfl) <|
  m_cn (pc := 156) (ok_iload (m_dk dk_L_adds_2 22 rfl) rfl) <|
  m_cn (pc := 158) (ok_icmpne (m_dk dk_L_adds_2 23 rfl) rfl rfl) <|
  m_cn (pc := 161) (ok_aload_n (m_dk dk_L_adds_2 24 rfl) rfl rfl) <|
  m_cn (pc := 162) (ok_iload (m_dk dk_L_adds_2 25 rfl) rfl) <|
  m_cn (pc := 164) (ok_callsw (hh9 := hh_L_isWhole) (T := mt_L_isWhole) my_L_isWhole rfl cw_L_isWhole rfl rfl (by decide) wd_477 wd_478 wd_0 (by decide +kernel) (m_dk dk_L_adds_2 26 rfl) rfl) <|
  m_cn (pc := 167) (ok_iconst (m_dk dk_L_adds_2 27 rfl) (by decide) rfl) <|
  m_cn (pc := 168) (ok_icmpne (m_dk dk_L_adds_2 28 rfl) rfl rfl) <|
  m_cn (pc := 171) (ok_iconst (m_dk dk_L_adds_2 29 rfl) (by decide) rfl) <|
  m_cn (pc := 172) (ok_goto (nx := 0) (m_dk dk_L_adds_2 30 rfl) rfl) <|
  m_cn (pc := 175) (ok_iconst (m_dk dk_L_adds_2 31 rfl) (by decide) rfl) <|
  m_cn (pc := 176) (ok_zreturn (nx := 0) rfl (m_dk dk_L_adds_2 32 rfl)) <|
  m_cn (pc := 177) (ok_iload (m_dk dk_L_adds_2 33 rfl) rfl) <|
  m_cn (pc := 179) (ok_iconst (m_dk dk_L_adds_2 34 rfl) (by decide) rfl) <|
  m_cn (pc := 180) (ok_icmpne (m_dk dk_L_adds_2 35 rfl) rfl rfl) <|
  m_cn (pc := 183) (ok_iconst (m_dk dk_L_adds_2 36 rfl) (by decide) rfl) <|
  m_cn (pc := 184) (ok_iload (m_dk dk_L_adds_2 37 rfl) rfl) <|
  m_cn (pc := 186) (ok_iconst (m_dk dk_L_adds_2 38 rfl) (by decide) rfl) <|
  m_cn (pc := 187) (ok_ishr (m_dk dk_L_adds_2 39 rfl) rfl) <|
  m_cn (pc := 188) (ok_iconst (m_dk dk_L_adds_3 0 rfl) (by decide) rfl) <|
  m_cn (pc := 189) (ok_calls (T := mt_L_low) my_L_low rfl cw_L_low rfl rfl (by decide) wd_376 wd_377 wd_0 (by decide +kernel) (m_dk dk_L_adds_3 1 rfl) rfl) <|
  m_cn (pc := 192) (ok_iadd (m_dk dk_L_adds_3 2 rfl) rfl) <|
  m_cn (pc := 193) (ok_istore (m_dk dk_L_adds_3 3 rfl) rfl (by decide)) <|
  m_cn (pc := 195) (ok_aload_n (m_dk dk_L_adds_3 4 rfl) rfl rfl) <|
  m_cn (pc := 196) (ok_iload (m_dk dk_L_adds_3 5 rfl) rfl) <|
  m_cn (pc := 198) (ok_iload (m_dk dk_L_adds_3 6 rfl) rfl) <|
  m_cn (pc := 200) (ok_iload (m_dk dk_L_adds_3 7 rfl) rfl) <|
  m_cn (pc := 202) (ok_iload (m_dk dk_L_adds_3 8 rfl) rfl) <|
  m_cn (pc := 204) (ok_callsw (hh9 := hh_L_demand) (T := mt_L_demand) my_L_demand rfl cw_L_demand rfl rfl (by decide) wd_484 wd_485 wd_0 (by decide +kernel) (m_dk dk_L_adds_3 9 rfl) rfl) <|
  m_cn (pc := 207) (ok_istore (m_dk dk_L_adds_3 10 rfl) rfl (by decide)) <|
  m_cn (pc := 209) (ok_aload_n (m_dk dk_L_adds_3 11 rfl) rfl rfl) <|
  m_cn (pc := 210) (ok_iconst (m_dk dk_L_adds_3 12 rfl) (by decide) rfl) <|
  m_cn (pc := 211) (ok_iald (m_dk dk_L_adds_3 13 rfl) rfl) <|
  m_cn (pc := 212) (ok_bipush (m_dk dk_L_adds_3 14 rfl) (by decide) rfl) <|
  m_cn (pc := 214) (ok_icmpne (m_dk dk_L_adds_3 15 rfl) rfl rfl) <|
  m_cn (pc := 217) (ok_iload (m_dk dk_L_adds_3 16 rfl) rfl) <|
  m_cn (pc := 219) (ok_ldc (m_dk dk_L_adds_3 17 rfl) wd_372 rfl) <|
  m_cn (pc := 221) (ok_icmpne (m_dk dk_L_adds_3 18 rfl) rfl rfl) <|
  m_cn (pc := 224) (ok_iconst (m_dk dk_L_adds_3 19 rfl) (by decide) rfl) <|
  m_cn (pc := 225) (ok_goto (nx := 0) (m_dk dk_L_adds_3 20 rfl) rfl) <|
  m_cn (pc := 228) (ok_iconst (m_dk dk_L_adds_3 21 rfl) (by decide) rfl) <|
  m_cn (pc := 229) (ok_zreturn (nx := 0) rfl (m_dk dk_L_adds_3 22 rfl)) <|
  m_cn (pc := 230) (ok_aload_n (m_dk dk_L_adds_3 23 rfl) rfl rfl) <|
  m_cn (pc := 231) (ok_iconst (m_dk dk_L_adds_3 24 rfl) (by decide) rfl) <|
  m_cn (pc := 232) (ok_aload_n (m_dk dk_L_adds_3 25 rfl) rfl rfl) <|
  m_cn (pc := 233) (ok_iconst (m_dk dk_L_adds_3 26 rfl) (by decide) rfl) <|
  m_cn (pc := 234) (ok_iald (m_dk dk_L_adds_3 27 rfl) rfl) <|
  m_cn (pc := 235) (ok_imul (m_dk dk_L_adds_3 28 rfl) rfl) <|
  m_cn (pc := 236) (ok_iload (m_dk dk_L_adds_3 29 rfl) rfl) <|
  m_cn (pc := 238) (ok_iast (m_dk dk_L_adds_3 30 rfl) rfl) <|
  m_cn (pc := 239) (ok_aload_n (m_dk dk_L_adds_3 31 rfl) rfl rfl) <|
  m_cn (pc := 240) (ok_iconst (m_dk dk_L_adds_3 32 rfl) (by decide) rfl) <|
  m_cn (pc := 241) (ok_aload_n (m_dk dk_L_adds_3 33 rfl) rfl rfl) <|
  m_cn (pc := 242) (ok_iconst (m_dk dk_L_adds_3 34 rfl) (by decide) rfl) <|
  m_cn (pc := 243) (ok_iald (m_dk dk_L_adds_3 35 rfl) rfl) <|
  m_cn (pc := 244) (ok_imul (m_dk dk_L_adds_3 36 rfl) rfl) <|
  m_cn (pc := 245) (ok_iconst (m_dk dk_L_adds_3 37 rfl) (by decide) rfl) <|
  m_cn (pc := 246) (ok_iadd (m_dk dk_L_adds_3 38 rfl) rfl) <|
  m_cn (pc := 247) (ok_iload (m_dk dk_L_adds_3 39 rfl) rfl) <|
  m_cn (pc := 249) (ok_iast (m_dk dk_L_adds_4 0 rfl) rfl) <|
  m_cn (pc := 250) (ok_aload_n (m_dk dk_L_adds_4 1 rfl) rfl rfl) <|
  m_cn (pc := 251) (ok_iconst (m_dk dk_L_adds_4 2 rfl) (by decide) rfl) <|
  m_cn (pc := 252) (ok_aload_n (m_dk dk_L_adds_4 3 rfl) rfl rfl) <|
  m_cn (pc := 253) (ok_iconst (m_dk dk_L_adds_4 4 rfl) (by decide) rfl) <|
  m_cn (pc := 254) (ok_iald (m_dk dk_L_adds_4 5 rfl) rfl) <|
  m_cn (pc := 255) (ok_imul (m_dk dk_L_adds_4 6 rfl) rfl) <|
  m_cn (pc := 256) (ok_iconst (m_dk dk_L_adds_4 7 rfl) (by decide) rfl) <|
  m_cn (pc := 257) (ok_iadd (m_dk dk_L_adds_4 8 rfl) rfl) <|
  m_cn (pc := 258) (ok_iload (m_dk dk_L_adds_4 9 rfl) rfl) <|
  m_cn (pc := 260) (ok_iast (m_dk dk_L_adds_4 10 rfl) rfl) <|
  m_cn (pc := 261) (ok_aload_n (m_dk dk_L_adds_4 11 rfl) rfl rfl) <|
  m_cn (pc := 262) (ok_iconst (m_dk dk_L_adds_4 12 rfl) (by decide) rfl) <|
  m_cn (pc := 263) (ok_aload_n (m_dk dk_L_adds_4 13 rfl) rfl rfl) <|
  m_cn (pc := 264) (ok_iconst (m_dk dk_L_adds_4 14 rfl) (by decide) rfl) <|
  m_cn (pc := 265) (ok_iald (m_dk dk_L_adds_4 15 rfl) rfl) <|
  m_cn (pc := 266) (ok_imul (m_dk dk_L_adds_4 16 rfl) rfl) <|
  m_cn (pc := 267) (ok_iconst (m_dk dk_L_adds_4 17 rfl) (by decide) rfl) <|
  m_cn (pc := 268) (ok_iadd (m_dk dk_L_adds_4 18 rfl) rfl) <|
  m_cn (pc := 269) (ok_iload (m_dk dk_L_adds_4 19 rfl) rfl) <|
  m_cn (pc := 271) (ok_iast (m_dk dk_L_adds_4 20 rfl) rfl) <|
  m_cn (pc := 272) (ok_aload_n (m_dk dk_L_adds_4 21 rfl) rfl rfl) <|
  m_cn (pc := 273) (ok_iconst (m_dk dk_L_adds_4 22 rfl) (by decide) rfl) <|
  m_cn (pc := 274) (ok_dup2 (m_dk dk_L_adds_4 23 rfl) rfl) <|
  m_cn (pc := 275) (ok_iald (m_dk dk_L_adds_4 24 rfl) rfl) <|
  m_cn (pc := 276) (ok_iconst (m_dk dk_L_adds_4 25 rfl) (by decide) rfl) <|
  m_cn (pc := 277) (ok_iadd (m_dk dk_L_adds_4 26 rfl) rfl) <|
  m_cn (pc := 278) (ok_iast (m_dk dk_L_adds_4 27 rfl) rfl) <|
  m_cn (pc := 279) (ok_iload (m_dk dk_L_adds_4 28 rfl) rfl) <|
  m_cn (pc := 281) (ok_aload_n (m_dk dk_L_adds_4 29 rfl) rfl rfl) <|
  m_cn (pc := 282) (ok_iconst (m_dk dk_L_adds_4 30 rfl) (by decide) rfl) <|
  m_cn (pc := 283) (ok_iald (m_dk dk_L_adds_4 31 rfl) rfl) <|
  m_cn (pc := 284) (ok_iconst (m_dk dk_L_adds_4 32 rfl) (by decide) rfl) <|
  m_cn (pc := 285) (ok_isub (m_dk dk_L_adds_4 33 rfl) rfl) <|
  m_cn (pc := 286) (ok_icmpne (m_dk dk_L_adds_4 34 rfl) rfl rfl) <|
  m_cn (pc := 289) (ok_aload_n (m_dk dk_L_adds_4 35 rfl) rfl rfl) <|
  m_cn (pc := 290) (ok_iload (m_dk dk_L_adds_4 36 rfl) rfl) <|
  m_cn (pc := 292) (ok_callsw (hh9 := hh_L_way) (T := mt_L_way) my_L_way rfl cw_L_way rfl rfl (by decide) wd_524 wd_525 wd_0 (by decide +kernel) (m_dk dk_L_adds_4 37 rfl) rfl) <|
  m_cn (pc := 295) (ok_iconst (m_dk dk_L_adds_4 38 rfl) (by decide) rfl) <|
  m_cn (pc := 296) (ok_icmpne (m_dk dk_L_adds_4 39 rfl) rfl rfl) <|
  m_cn (pc := 299) (ok_aload_n (m_dk dk_L_adds_5 0 rfl) rfl rfl) <|
  m_cn (pc := 300) (ok_iload (m_dk dk_L_adds_5 1 rfl) rfl) <|
  m_cn (pc := 302) (ok_callsw (hh9 := hh_L_lent) (T := mt_L_lent) my_L_lent rfl cw_L_lent rfl rfl (by decide) wd_531 wd_532 wd_0 (by decide +kernel) (m_dk dk_L_adds_5 2 rfl) rfl) <|
  m_cn (pc := 305) (ok_ifne (m_dk dk_L_adds_5 3 rfl) rfl rfl) <|
  m_cn (pc := 308) (ok_iconst (m_dk dk_L_adds_5 4 rfl) (by decide) rfl) <|
  m_cn (pc := 309) (ok_goto (nx := 0) (m_dk dk_L_adds_5 5 rfl) rfl) <|
  m_cn (pc := 312) (ok_iconst (m_dk dk_L_adds_5 6 rfl) (by decide) rfl) <|
  m_cn (pc := 313) (ok_zreturn (nx := 0) rfl (m_dk dk_L_adds_5 7 rfl)) <|
  m_cn (pc := 314) (ok_aload_n (m_dk dk_L_adds_5 8 rfl) rfl rfl) <|
  m_cn (pc := 315) (ok_iload (m_dk dk_L_adds_5 9 rfl) rfl) <|
  m_cn (pc := 317) (ok_bipush (m_dk dk_L_adds_5 10 rfl) (by decide) rfl) <|
  m_cn (pc := 319) (ok_iload (m_dk dk_L_adds_5 11 rfl) rfl) <|
  m_cn (pc := 321) (ok_sipush (m_dk dk_L_adds_5 12 rfl) (by decide) rfl) <|
  m_cn (pc := 324) (ok_calls (T := mt_L_low) my_L_low rfl cw_L_low rfl rfl (by decide) wd_376 wd_377 wd_0 (by decide +kernel) (m_dk dk_L_adds_5 13 rfl) rfl) <|
  m_cn (pc := 327) (ok_iadd (m_dk dk_L_adds_5 14 rfl) rfl) <|
  m_cn (pc := 328) (ok_iload (m_dk dk_L_adds_5 15 rfl) rfl) <|
  m_cn (pc := 330) (ok_bipush (m_dk dk_L_adds_5 16 rfl) (by decide) rfl) <|
  m_cn (pc := 332) (ok_ishr (m_dk dk_L_adds_5 17 rfl) rfl) <|
  m_cn (pc := 333) (ok_bipush (m_dk dk_L_adds_5 18 rfl) (by decide) rfl) <|
  m_cn (pc := 335) (ok_calls (T := mt_L_low) my_L_low rfl cw_L_low rfl rfl (by decide) wd_376 wd_377 wd_0 (by decide +kernel) (m_dk dk_L_adds_5 19 rfl) rfl) <|
  m_cn (pc := 338) (ok_callsw (hh9 := hh_L_ship) (T := mt_L_ship) my_L_ship rfl cw_L_ship rfl rfl (by decide) wd_538 wd_539 wd_0 (by decide +kernel) (m_dk dk_L_adds_5 20 rfl) rfl) <|
  m_cn (pc := 341) (ok_istore (m_dk dk_L_adds_5 21 rfl) rfl (by decide)) <|
  m_cn (pc := 343) (ok_aload_n (m_dk dk_L_adds_5 22 rfl) rfl rfl) <|
  m_cn (pc := 344) (ok_iconst (m_dk dk_L_adds_5 23 rfl) (by decide) rfl) <|
  m_cn (pc := 345) (ok_dup2 (m_dk dk_L_adds_5 24 rfl) rfl) <|
  m_cn (pc := 346) (ok_iald (m_dk dk_L_adds_5 25 rfl) rfl) <|
  m_cn (pc := 347) (ok_aload_n (m_dk dk_L_adds_5 26 rfl) rfl rfl) <|
  m_cn (pc := 348) (ok_iconst (m_dk dk_L_adds_5 27 rfl) (by decide) rfl) <|
  m_cn (pc := 349) (ok_iald (m_dk dk_L_adds_5 28 rfl) rfl) <|
  m_cn (pc := 350) (ok_iconst (m_dk dk_L_adds_5 29 rfl) (by decide) rfl) <|
  m_cn (pc := 351) (ok_icmpne (m_dk dk_L_adds_5 30 rfl) rfl rfl) <|
  m_cn (pc := 354) (ok_iconst (m_dk dk_L_adds_5 31 rfl) (by decide) rfl) <|
  m_cn (pc := 355) (ok_goto (nx := 0) (m_dk dk_L_adds_5 32 rfl) rfl) <|
  m_cn (pc := 358) (ok_iconst (m_dk dk_L_adds_5 33 rfl) (by decide) rfl) <|
  m_cn (pc := 359) (ok_iadd (m_dk dk_L_adds_5 34 rfl) rfl) <|
  m_cn (pc := 360) (ok_iast (m_dk dk_L_adds_5 35 rfl) rfl) <|
  m_cn (pc := 361) (ok_iload (m_dk dk_L_adds_5 36 rfl) rfl) <|
  m_cn (pc := 363) (ok_aload_n (m_dk dk_L_adds_5 37 rfl) rfl rfl) <|
  m_cn (pc := 364) (ok_iconst (m_dk dk_L_adds_5 38 rfl) (by decide) rfl) <|
  m_cn (pc := 365) (ok_iald (m_dk dk_L_adds_5 39 rfl) rfl) <|
  m_cn (pc := 366) (ok_iconst (m_dk dk_L_adds_6 0 rfl) (by decide) rfl) <|
  m_cn (pc := 367) (ok_isub (m_dk dk_L_adds_6 1 rfl) rfl) <|
  m_cn (pc := 368) (ok_icmpeq (m_dk dk_L_adds_6 2 rfl) rfl rfl) <|
  m_cn (pc := 371) (ok_iload (m_dk dk_L_adds_6 3 rfl) rfl) <|
  m_cn (pc := 373) (ok_ldc (m_dk dk_L_adds_6 4 rfl) wd_372 rfl) <|
  m_cn (pc := 375) (ok_icmpne (m_dk dk_L_adds_6 5 rfl) rfl rfl) <|
  m_cn (pc := 378) (ok_iconst (m_dk dk_L_adds_6 6 rfl) (by decide) rfl) <|
  m_cn (pc := 379) (ok_goto (nx := 0) (m_dk dk_L_adds_6 7 rfl) rfl) <|
  m_cn (pc := 382) (ok_iconst (m_dk dk_L_adds_6 8 rfl) (by decide) rfl) <|
  m_cn (pc := 383) (ok_zreturn (nx := 0) rfl (m_dk dk_L_adds_6 9 rfl)) <|
  m_nl
theorem mk_L_adds {GP : m_G → Prop} {cds : Nat → Nat → m_Op} (h : cds 97 = m_lk cd_L_adds) : m_MOK GP m_my cds 97 := ⟨RL, false, [], by decide +kernel, rfl, (fun h9 => by first | rfl | cases h9), Or.inl ⟨rfl, rfl⟩, fun pc => by rw [h]; exact m_lk_ok _ ok_L_adds pc⟩
def dl_L_sets_0 : List (Nat × Instr × Nat) := [(0, .iload_n 3, 1), (1, .bipush 8, 2), (3, .invokestatic 85, 3), (6, .istore 5, 2), (8, .aload_n 1, 1), (9, .iconst 0, 1), (10, .iaload, 1), (11, .ifCond .ne 7, 3), (14, .iconst 0, 1), (15, .goto 12, 3), (18, .iload_n 3, 1), (19, .iconst 3, 1), (20, .ishr, 1), (21, .aload_n 1, 1), (22, .iconst 0, 1), (23, .iaload, 1), (24, .invokestatic 85, 3), (27, .istore 6, 2), (29, .iload 5, 2), (31, .iconst 2, 1), (32, .if_icmp .ge 193, 3), (35, .iload 4, 2), (37, .bipush 6, 2), (39, .invokestatic 85, 3), (42, .istore 7, 2), (44, .iload 7, 2), (46, .iconst 1, 1), (47, .iadd, 1), (48, .iload 4, 2), (50, .iconst 3, 1), (51, .ishr, 1), (52, .iconst 5, 1), (53, .invokestatic 85, 3), (56, .iadd, 1), (57, .bipush 6, 2), (59, .irem, 1), (60, .istore 8, 2), (62, .iconst 1, 1), (63, .iload 4, 2), (65, .bipush 6, 2)]
theorem dk_L_sets_0 : ∀ q ∈ dl_L_sets_0, decode cL_sets q.1 = .ok q.2 := by decide +kernel
def dl_L_sets_1 : List (Nat × Instr × Nat) := [(67, .ishr, 1), (68, .iconst 3, 1), (69, .invokestatic 85, 3), (72, .iadd, 1), (73, .istore 9, 2), (75, .iload 4, 2), (77, .bipush 8, 2), (79, .ishr, 1), (80, .sipush 1000, 3), (83, .invokestatic 85, 3), (86, .istore 10, 2), (88, .aload_n 0, 1), (89, .iload 6, 2), (91, .iload 8, 2), (93, .invokestatic 93, 3), (96, .istore 11, 2), (98, .aload_n 0, 1), (99, .iload 7, 2), (101, .invokestatic 108, 3), (104, .istore 12, 2), (106, .aload_n 0, 1), (107, .iload 7, 2), (109, .iload 8, 2), (111, .invokestatic 110, 3), (114, .istore 13, 2), (116, .aload_n 0, 1), (117, .iload 6, 2), (119, .iload 7, 2), (121, .iload 8, 2), (123, .iload 9, 2), (125, .iload 10, 2), (127, .invokestatic 112, 3), (130, .istore 14, 2), (132, .aload_n 1, 1), (133, .iconst 0, 1), (134, .iaload, 1), (135, .ifCond .ne 18, 3), (138, .iload 14, 2), (140, .ldc 18, 2), (142, .if_icmp .ne 7, 3)]
theorem dk_L_sets_1 : ∀ q ∈ dl_L_sets_1, decode cL_sets q.1 = .ok q.2 := by decide +kernel
def dl_L_sets_2 : List (Nat × Instr × Nat) := [(145, .iconst 1, 1), (146, .goto 78, 3), (149, .iconst 0, 1), (150, .goto 74, 3), (153, .iload 14, 2), (155, .ldc 24, 2), (157, .if_icmp .ne 22, 3), (160, .aload_n 0, 1), (161, .iload 7, 2), (163, .invokestatic 108, 3), (166, .iload 12, 2), (168, .if_icmp .ne 7, 3), (171, .iconst 1, 1), (172, .goto 52, 3), (175, .iconst 0, 1), (176, .goto 48, 3), (179, .iload 14, 2), (181, .iload 11, 2), (183, .iload 9, 2), (185, .iadd, 1), (186, .if_icmp .ne 37, 3), (189, .aload_n 0, 1), (190, .iload 7, 2), (192, .invokestatic 108, 3), (195, .iload 12, 2), (197, .iload 10, 2), (199, .iadd, 1), (200, .if_icmp .ne 23, 3), (203, .aload_n 0, 1), (204, .iload 7, 2), (206, .iload 8, 2), (208, .invokestatic 110, 3), (211, .iload 13, 2), (213, .iload 10, 2), (215, .iadd, 1), (216, .if_icmp .ne 7, 3), (219, .iconst 1, 1), (220, .goto 4, 3), (223, .iconst 0, 1), (224, .ireturn, 1)]
theorem dk_L_sets_2 : ∀ q ∈ dl_L_sets_2, decode cL_sets q.1 = .ok q.2 := by decide +kernel
def dl_L_sets_3 : List (Nat × Instr × Nat) := [(225, .iload 5, 2), (227, .iconst 4, 1), (228, .if_icmp .ge 190, 3), (231, .aload_n 1, 1), (232, .iconst 0, 1), (233, .iaload, 1), (234, .ifCond .le 17, 3), (237, .aload_n 0, 1), (238, .iload 6, 2), (240, .invokestatic 96, 3), (243, .iconst 1, 1), (244, .if_icmp .ne 7, 3), (247, .iconst 1, 1), (248, .goto 4, 3), (251, .iconst 0, 1), (252, .istore 7, 2), (254, .aload_n 2, 1), (255, .iconst 4, 1), (256, .iload 6, 2), (258, .imul, 1), (259, .iaload, 1), (260, .aload_n 2, 1), (261, .iconst 4, 1), (262, .iload 6, 2), (264, .imul, 1), (265, .iconst 1, 1), (266, .iadd, 1), (267, .iaload, 1), (268, .isub, 1), (269, .istore 8, 2), (271, .aload_n 0, 1), (272, .iload 6, 2), (274, .iload 4, 2), (276, .sipush 200, 3), (279, .iload 8, 2), (281, .ifCond .ge 9, 3), (284, .iload 8, 2), (286, .ineg, 1), (287, .goto 5, 3), (290, .iload 8, 2)]
theorem dk_L_sets_3 : ∀ q ∈ dl_L_sets_3, decode cL_sets q.1 = .ok q.2 := by decide +kernel
def dl_L_sets_4 : List (Nat × Instr × Nat) := [(292, .imul, 1), (293, .iconst 1, 1), (294, .iadd, 1), (295, .invokestatic 85, 3), (298, .invokestatic 115, 3), (301, .istore 9, 2), (303, .aload_n 1, 1), (304, .iconst 0, 1), (305, .iaload, 1), (306, .ifCond .ne 16, 3), (309, .iload 9, 2), (311, .ldc 18, 2), (313, .if_icmp .ne 7, 3), (316, .iconst 1, 1), (317, .goto 4, 3), (320, .iconst 0, 1), (321, .ireturn, 1), (322, .iload 7, 2), (324, .ifCond .eq 15, 3), (327, .aload_n 1, 1), (328, .iconst 2, 1), (329, .iaload, 1), (330, .bipush 16, 2), (332, .if_icmp .ge 7, 3), (335, .iconst 1, 1), (336, .goto 4, 3), (339, .iconst 0, 1), (340, .istore 10, 2), (342, .iload 10, 2), (344, .ifCond .eq 20, 3), (347, .aload_n 2, 1), (348, .bipush 40, 2), (350, .aload_n 1, 1), (351, .iconst 2, 1), (352, .iaload, 1), (353, .iadd, 1), (354, .iload 6, 2), (356, .iastore, 1), (357, .aload_n 1, 1), (358, .iconst 2, 1)]
theorem dk_L_sets_4 : ∀ q ∈ dl_L_sets_4, decode cL_sets q.1 = .ok q.2 := by decide +kernel
def dl_L_sets_5 : List (Nat × Instr × Nat) := [(359, .dup2, 1), (360, .iaload, 1), (361, .iconst 1, 1), (362, .iadd, 1), (363, .iastore, 1), (364, .iload 9, 2), (366, .iload 10, 2), (368, .ifCond .eq 11, 3), (371, .aload_n 1, 1), (372, .iconst 2, 1), (373, .iaload, 1), (374, .iconst 1, 1), (375, .isub, 1), (376, .goto 5, 3), (379, .ldc 24, 2), (381, .if_icmp .ne 35, 3), (384, .aload_n 0, 1), (385, .iload 6, 2), (387, .invokestatic 96, 3), (390, .iload 10, 2), (392, .ifCond .eq 7, 3), (395, .iconst 0, 1), (396, .goto 13, 3), (399, .iload 7, 2), (401, .ifCond .eq 7, 3), (404, .iconst 1, 1), (405, .goto 4, 3), (408, .iconst 0, 1), (409, .if_icmp .ne 7, 3), (412, .iconst 1, 1), (413, .goto 4, 3), (416, .iconst 0, 1), (417, .ireturn, 1), (418, .aload_n 1, 1), (419, .iconst 3, 1), (420, .iaload, 1), (421, .ifCond .ne 7, 3), (424, .iconst 0, 1), (425, .goto 12, 3), (428, .iload_n 3, 1)]
theorem dk_L_sets_5 : ∀ q ∈ dl_L_sets_5, decode cL_sets q.1 = .ok q.2 := by decide +kernel
def dl_L_sets_6 : List (Nat × Instr × Nat) := [(429, .iconst 3, 1), (430, .ishr, 1), (431, .aload_n 1, 1), (432, .iconst 3, 1), (433, .iaload, 1), (434, .invokestatic 85, 3), (437, .istore 7, 2), (439, .iload 5, 2), (441, .bipush 7, 2), (443, .if_icmp .ge 92, 3), (446, .iload 5, 2), (448, .iconst 4, 1), (449, .if_icmp .eq 9, 3), (452, .aload_n 1, 1), (453, .iconst 2, 1), (454, .iaload, 1), (455, .ifCond .ne 7, 3), (458, .iconst (-1), 1), (459, .goto 11, 3), (462, .iload 4, 2), (464, .aload_n 1, 1), (465, .iconst 2, 1), (466, .iaload, 1), (467, .invokestatic 85, 3), (470, .istore 8, 2), (472, .aload_n 0, 1), (473, .iload 7, 2), (475, .iload 8, 2), (477, .invokestatic 117, 3), (480, .istore 9, 2), (482, .aload_n 1, 1), (483, .iconst 3, 1), (484, .iaload, 1), (485, .ifCond .ne 18, 3), (488, .iload 9, 2), (490, .ldc 18, 2), (492, .if_icmp .ne 7, 3), (495, .iconst 1, 1), (496, .goto 38, 3), (499, .iconst 0, 1)]
theorem dk_L_sets_6 : ∀ q ∈ dl_L_sets_6, decode cL_sets q.1 = .ok q.2 := by decide +kernel
def dl_L_sets_7 : List (Nat × Instr × Nat) := [(500, .goto 34, 3), (503, .iload 9, 2), (505, .iconst (-1), 1), (506, .if_icmp .lt 11, 3), (509, .iload 9, 2), (511, .aload_n 1, 1), (512, .iconst 2, 1), (513, .iaload, 1), (514, .if_icmp .lt 15, 3), (517, .iload 9, 2), (519, .ldc 24, 2), (521, .if_icmp .ne 12, 3), (524, .iload 8, 2), (526, .ifCond .lt 7, 3), (529, .iconst 1, 1), (530, .goto 4, 3), (533, .iconst 0, 1), (534, .ireturn, 1), (535, .iload 4, 2), (537, .iconst 2, 1), (538, .invokestatic 85, 3), (541, .ifCond .ne 57, 3), (544, .iload 4, 2), (546, .iconst 1, 1), (547, .ishr, 1), (548, .bipush 100, 2), (550, .invokestatic 85, 3), (553, .istore 8, 2), (555, .aload_n 0, 1), (556, .iload 8, 2), (558, .iload 8, 2), (560, .iload 4, 2), (562, .bipush 8, 2), (564, .ishr, 1), (565, .bipush 20, 2), (567, .invokestatic 85, 3), (570, .iadd, 1), (571, .invokestatic 119, 3), (574, .ifCond .ne 22, 3), (577, .aload_n 0, 1)]
theorem dk_L_sets_7 : ∀ q ∈ dl_L_sets_7, decode cL_sets q.1 = .ok q.2 := by decide +kernel
def dl_L_sets_8 : List (Nat × Instr × Nat) := [(578, .iload 8, 2), (580, .iload 8, 2), (582, .iconst 1, 1), (583, .isub, 1), (584, .invokestatic 119, 3), (587, .ldc 21, 2), (589, .if_icmp .ne 7, 3), (592, .iconst 1, 1), (593, .goto 4, 3), (596, .iconst 0, 1), (597, .ireturn, 1), (598, .aload_n 0, 1), (599, .iload 7, 2), (601, .iload 4, 2), (603, .iconst 1, 1), (604, .ishr, 1), (605, .bipush 11, 2), (607, .invokestatic 85, 3), (610, .invokestatic 121, 3), (613, .istore 8, 2), (615, .iload 8, 2), (617, .ifCond .lt 10, 3), (620, .iload 8, 2), (622, .bipush 10, 2), (624, .if_icmp .le 23, 3), (627, .iload 8, 2), (629, .ldc 24, 2), (631, .if_icmp .eq 16, 3), (634, .iload 8, 2), (636, .ldc 18, 2), (638, .if_icmp .ne 13, 3), (641, .aload_n 1, 1), (642, .iconst 3, 1), (643, .iaload, 1), (644, .ifCond .ne 7, 3), (647, .iconst 1, 1), (648, .goto 4, 3), (651, .iconst 0, 1), (652, .ireturn, 1)]
theorem dk_L_sets_8 : ∀ q ∈ dl_L_sets_8, decode cL_sets q.1 = .ok q.2 := by decide +kernel
def cd_L_sets : List (Nat × m_Op) := [(0, o_iload 3 1), (1, o_const (8) 3), (3, o_call 77 2 0 0 6), (6, o_istore 5 8), (8, o_aload 1 9), (9, o_const (0) 10), (10, o_iald 0 11), (11, o_ifne 18 14), (14, o_const (0) 15), (15, o_goto 27), (18, o_iload 3 19), (19, o_const (3) 20), (20, o_bin (fun x y => x >>> (y &&& 31)) 21), (21, o_aload 1 22), (22, o_const (0) 23), (23, o_iald 0 24), (24, o_call 77 2 0 0 27), (27, o_istore 6 29), (29, o_iload 5 31), (31, o_const (2) 32), (32, o_icmpge 225 35), (35, o_iload 4 37), (37, o_const (6) 39), (39, o_call 77 2 0 0 42), (42, o_istore 7 44), (44, o_iload 7 46), (46, o_const (1) 47), (47, o_bin (fun x y => x + y) 48), (48, o_iload 4 50), (50, o_const (3) 51), (51, o_bin (fun x y => x >>> (y &&& 31)) 52), (52, o_const (5) 53), (53, o_call 77 2 0 0 56), (56, o_bin (fun x y => x + y) 57), (57, o_const (6) 59), (59, o_div (fun x y => x - x / y * y) 60), (60, o_istore 8 62), (62, o_const (1) 63), (63, o_iload 4 65), (65, o_const (6) 67), (67, o_bin (fun x y => x >>> (y &&& 31)) 68), (68, o_const (3) 69), (69, o_call 77 2 0 0 72), (72, o_bin (fun x y => x + y) 73), (73, o_istore 9 75), (75, o_iload 4 77), (77, o_const (8) 79), (79, o_bin (fun x y => x >>> (y &&& 31)) 80), (80, o_const (1000) 83), (83, o_call 77 2 0 0 86), (86, o_istore 10 88), (88, o_aload 0 89), (89, o_iload 6 91), (91, o_iload 8 93), (93, o_call 87 3 2 12 96), (96, o_istore 11 98), (98, o_aload 0 99), (99, o_iload 7 101), (101, o_call 93 2 1 6 104), (104, o_istore 12 106), (106, o_aload 0 107), (107, o_iload 7 109), (109, o_iload 8 111), (111, o_call 94 3 2 12 114), (114, o_istore 13 116), (116, o_aload 0 117), (117, o_iload 6 119), (119, o_iload 7 121), (121, o_iload 8 123), (123, o_iload 9 125), (125, o_iload 10 127), (127, o_call 80 6 9 847 130), (130, o_istore 14 132), (132, o_aload 1 133), (133, o_const (0) 134), (134, o_iald 0 135), (135, o_ifne 153 138), (138, o_iload 14 140), (140, o_const (-1000001) 142), (142, o_icmpne 149 145), (145, o_const (1) 146), (146, o_goto 224), (149, o_const (0) 150), (150, o_goto 224), (153, o_iload 14 155), (155, o_const (-1000003) 157), (157, o_icmpne 179 160), (160, o_aload 0 161), (161, o_iload 7 163), (163, o_call 93 2 1 6 166), (166, o_iload 12 168), (168, o_icmpne 175 171), (171, o_const (1) 172), (172, o_goto 224), (175, o_const (0) 176), (176, o_goto 224), (179, o_iload 14 181), (181, o_iload 11 183), (183, o_iload 9 185), (185, o_bin (fun x y => x + y) 186), (186, o_icmpne 223 189), (189, o_aload 0 190), (190, o_iload 7 192), (192, o_call 93 2 1 6 195), (195, o_iload 12 197), (197, o_iload 10 199), (199, o_bin (fun x y => x + y) 200), (200, o_icmpne 223 203), (203, o_aload 0 204), (204, o_iload 7 206), (206, o_iload 8 208), (208, o_call 94 3 2 12 211), (211, o_iload 13 213), (213, o_iload 10 215), (215, o_bin (fun x y => x + y) 216), (216, o_icmpne 223 219), (219, o_const (1) 220), (220, o_goto 224), (223, o_const (0) 224), (224, o_zreturn), (225, o_iload 5 227), (227, o_const (4) 228), (228, o_icmpge 418 231), (231, o_aload 1 232), (232, o_const (0) 233), (233, o_iald 0 234), (234, o_ifle 251 237), (237, o_aload 0 238), (238, o_iload 6 240), (240, o_call 88 2 1 6 243), (243, o_const (1) 244), (244, o_icmpne 251 247), (247, o_const (1) 248), (248, o_goto 252), (251, o_const (0) 252), (252, o_istore 7 254), (254, o_aload 2 255), (255, o_const (4) 256), (256, o_iload 6 258), (258, o_bin (fun x y => x * y) 259), (259, o_iald 0 260), (260, o_aload 2 261), (261, o_const (4) 262), (262, o_iload 6 264), (264, o_bin (fun x y => x * y) 265), (265, o_const (1) 266), (266, o_bin (fun x y => x + y) 267), (267, o_iald 0 268), (268, o_bin (fun x y => x - y) 269), (269, o_istore 8 271), (271, o_aload 0 272), (272, o_iload 6 274), (274, o_iload 4 276), (276, o_const (200) 279), (279, o_iload 8 281), (281, o_ifge 290 284), (284, o_iload 8 286), (286, o_un (fun x => -x) 287), (287, o_goto 292), (290, o_iload 8 292), (292, o_bin (fun x y => x * y) 293), (293, o_const (1) 294), (294, o_bin (fun x y => x + y) 295), (295, o_call 77 2 0 0 298), (298, o_call 81 3 5 29 301), (301, o_istore 9 303), (303, o_aload 1 304), (304, o_const (0) 305), (305, o_iald 0 306), (306, o_ifne 322 309), (309, o_iload 9 311), (311, o_const (-1000001) 313), (313, o_icmpne 320 316), (316, o_const (1) 317), (317, o_goto 321), (320, o_const (0) 321), (321, o_zreturn), (322, o_iload 7 324), (324, o_ifeq 339 327), (327, o_aload 1 328), (328, o_const (2) 329), (329, o_iald 0 330), (330, o_const (16) 332), (332, o_icmpge 339 335), (335, o_const (1) 336), (336, o_goto 340), (339, o_const (0) 340), (340, o_istore 10 342), (342, o_iload 10 344), (344, o_ifeq 364 347), (347, o_aload 2 348), (348, o_const (40) 350), (350, o_aload 1 351), (351, o_const (2) 352), (352, o_iald 0 353), (353, o_bin (fun x y => x + y) 354), (354, o_iload 6 356), (356, o_iast 357), (357, o_aload 1 358), (358, o_const (2) 359), (359, o_dup2 360), (360, o_iald 0 361), (361, o_const (1) 362), (362, o_bin (fun x y => x + y) 363), (363, o_iast 364), (364, o_iload 9 366), (366, o_iload 10 368), (368, o_ifeq 379 371), (371, o_aload 1 372), (372, o_const (2) 373), (373, o_iald 0 374), (374, o_const (1) 375), (375, o_bin (fun x y => x - y) 376), (376, o_goto 381), (379, o_const (-1000003) 381), (381, o_icmpne 416 384), (384, o_aload 0 385), (385, o_iload 6 387), (387, o_call 88 2 1 6 390), (390, o_iload 10 392), (392, o_ifeq 399 395), (395, o_const (0) 396), (396, o_goto 409), (399, o_iload 7 401), (401, o_ifeq 408 404), (404, o_const (1) 405), (405, o_goto 409), (408, o_const (0) 409), (409, o_icmpne 416 412), (412, o_const (1) 413), (413, o_goto 417), (416, o_const (0) 417), (417, o_zreturn), (418, o_aload 1 419), (419, o_const (3) 420), (420, o_iald 0 421), (421, o_ifne 428 424), (424, o_const (0) 425), (425, o_goto 437), (428, o_iload 3 429), (429, o_const (3) 430), (430, o_bin (fun x y => x >>> (y &&& 31)) 431), (431, o_aload 1 432), (432, o_const (3) 433), (433, o_iald 0 434), (434, o_call 77 2 0 0 437), (437, o_istore 7 439), (439, o_iload 5 441), (441, o_const (7) 443), (443, o_icmpge 535 446), (446, o_iload 5 448), (448, o_const (4) 449), (449, o_icmpeq 458 452), (452, o_aload 1 453), (453, o_const (2) 454), (454, o_iald 0 455), (455, o_ifne 462 458), (458, o_const (-1) 459), (459, o_goto 470), (462, o_iload 4 464), (464, o_aload 1 465), (465, o_const (2) 466), (466, o_iald 0 467), (467, o_call 77 2 0 0 470), (470, o_istore 8 472), (472, o_aload 0 473), (473, o_iload 7 475), (475, o_iload 8 477), (477, o_call 83 3 4 24 480), (480, o_istore 9 482), (482, o_aload 1 483), (483, o_const (3) 484), (484, o_iald 0 485), (485, o_ifne 503 488), (488, o_iload 9 490), (490, o_const (-1000001) 492), (492, o_icmpne 499 495), (495, o_const (1) 496), (496, o_goto 534), (499, o_const (0) 500), (500, o_goto 534), (503, o_iload 9 505), (505, o_const (-1) 506), (506, o_icmplt 517 509), (509, o_iload 9 511), (511, o_aload 1 512), (512, o_const (2) 513), (513, o_iald 0 514), (514, o_icmplt 529 517), (517, o_iload 9 519), (519, o_const (-1000003) 521), (521, o_icmpne 533 524), (524, o_iload 8 526), (526, o_iflt 533 529), (529, o_const (1) 530), (530, o_goto 534), (533, o_const (0) 534), (534, o_zreturn), (535, o_iload 4 537), (537, o_const (2) 538), (538, o_call 77 2 0 0 541), (541, o_ifne 598 544), (544, o_iload 4 546), (546, o_const (1) 547), (547, o_bin (fun x y => x >>> (y &&& 31)) 548), (548, o_const (100) 550), (550, o_call 77 2 0 0 553), (553, o_istore 8 555), (555, o_aload 0 556), (556, o_iload 8 558), (558, o_iload 8 560), (560, o_iload 4 562), (562, o_const (8) 564), (564, o_bin (fun x y => x >>> (y &&& 31)) 565), (565, o_const (20) 567), (567, o_call 77 2 0 0 570), (570, o_bin (fun x y => x + y) 571), (571, o_call 85 3 2 12 574), (574, o_ifne 596 577), (577, o_aload 0 578), (578, o_iload 8 580), (580, o_iload 8 582), (582, o_const (1) 583), (583, o_bin (fun x y => x - y) 584), (584, o_call 85 3 2 12 587), (587, o_const (-1000002) 589), (589, o_icmpne 596 592), (592, o_const (1) 593), (593, o_goto 597), (596, o_const (0) 597), (597, o_zreturn), (598, o_aload 0 599), (599, o_iload 7 601), (601, o_iload 4 603), (603, o_const (1) 604), (604, o_bin (fun x y => x >>> (y &&& 31)) 605), (605, o_const (11) 607), (607, o_call 77 2 0 0 610), (610, o_call 84 3 3 18 613), (613, o_istore 8 615), (615, o_iload 8 617), (617, o_iflt 627 620), (620, o_iload 8 622), (622, o_const (10) 624), (624, o_icmple 647 627), (627, o_iload 8 629), (629, o_const (-1000003) 631), (631, o_icmpeq 647 634), (634, o_iload 8 636), (636, o_const (-1000001) 638), (638, o_icmpne 651 641), (641, o_aload 1 642), (642, o_const (3) 643), (643, o_iald 0 644), (644, o_ifne 651 647), (647, o_const (1) 648), (648, o_goto 652), (651, o_const (0) 652), (652, o_zreturn)]
set_option maxRecDepth 20000 in
set_option maxHeartbeats 4000000 in
theorem ok_L_sets {GP : m_G → Prop} : ∀ q ∈ cd_L_sets, m_OK GP m_my (cL_sets, 15, RL, false, (some .boolean), []) q.1 q.2 :=
  m_cn (pc := 0) (ok_iload_n (m_dk dk_L_sets_0 0 rfl) rfl rfl) <|
  m_cn (pc := 1) (ok_bipush (m_dk dk_L_sets_0 1 rfl) (by decide) rfl) <|
  m_cn (pc := 3) (ok_calls (T := mt_L_low) my_L_low rfl cw_L_low rfl rfl (by decide) wd_376 wd_377 wd_0 (by decide +kernel) (m_dk dk_L_sets_0 2 rfl) rfl) <|
  m_cn (pc := 6) (ok_istore (m_dk dk_L_sets_0 3 rfl) rfl (by decide)) <|
  m_cn (pc := 8) (ok_aload_n (m_dk dk_L_sets_0 4 rfl) rfl rfl) <|
  m_cn (pc := 9) (ok_iconst (m_dk dk_L_sets_0 5 rfl) (by decide) rfl) <|
  m_cn (pc := 10) (ok_iald (m_dk dk_L_sets_0 6 rfl) rfl) <|
  m_cn (pc := 11) (ok_ifne (m_dk dk_L_sets_0 7 rfl) rfl rfl) <|
  m_cn (pc := 14) (ok_iconst (m_dk dk_L_sets_0 8 rfl) (by decide) rfl) <|
  m_cn (pc := 15) (ok_goto (nx := 0) (m_dk dk_L_sets_0 9 rfl) rfl) <|
  m_cn (pc := 18) (ok_iload_n (m_dk dk_L_sets_0 10 rfl) rfl rfl) <|
  m_cn (pc := 19) (ok_iconst (m_dk dk_L_sets_0 11 rfl) (by decide) rfl) <|
  m_cn (pc := 20) (ok_ishr (m_dk dk_L_sets_0 12 rfl) rfl) <|
  m_cn (pc := 21) (ok_aload_n (m_dk dk_L_sets_0 13 rfl) rfl rfl) <|
  m_cn (pc := 22) (ok_iconst (m_dk dk_L_sets_0 14 rfl) (by decide) rfl) <|
  m_cn (pc := 23) (ok_iald (m_dk dk_L_sets_0 15 rfl) rfl) <|
  m_cn (pc := 24) (ok_calls (T := mt_L_low) my_L_low rfl cw_L_low rfl rfl (by decide) wd_376 wd_377 wd_0 (by decide +kernel) (m_dk dk_L_sets_0 16 rfl) rfl) <|
  m_cn (pc := 27) (ok_istore (m_dk dk_L_sets_0 17 rfl) rfl (by decide)) <|
  m_cn (pc := 29) (ok_iload (m_dk dk_L_sets_0 18 rfl) rfl) <|
  m_cn (pc := 31) (ok_iconst (m_dk dk_L_sets_0 19 rfl) (by decide) rfl) <|
  m_cn (pc := 32) (ok_icmpge (m_dk dk_L_sets_0 20 rfl) rfl rfl) <|
  m_cn (pc := 35) (ok_iload (m_dk dk_L_sets_0 21 rfl) rfl) <|
  m_cn (pc := 37) (ok_bipush (m_dk dk_L_sets_0 22 rfl) (by decide) rfl) <|
  m_cn (pc := 39) (ok_calls (T := mt_L_low) my_L_low rfl cw_L_low rfl rfl (by decide) wd_376 wd_377 wd_0 (by decide +kernel) (m_dk dk_L_sets_0 23 rfl) rfl) <|
  m_cn (pc := 42) (ok_istore (m_dk dk_L_sets_0 24 rfl) rfl (by decide)) <|
  m_cn (pc := 44) (ok_iload (m_dk dk_L_sets_0 25 rfl) rfl) <|
  m_cn (pc := 46) (ok_iconst (m_dk dk_L_sets_0 26 rfl) (by decide) rfl) <|
  m_cn (pc := 47) (ok_iadd (m_dk dk_L_sets_0 27 rfl) rfl) <|
  m_cn (pc := 48) (ok_iload (m_dk dk_L_sets_0 28 rfl) rfl) <|
  m_cn (pc := 50) (ok_iconst (m_dk dk_L_sets_0 29 rfl) (by decide) rfl) <|
  m_cn (pc := 51) (ok_ishr (m_dk dk_L_sets_0 30 rfl) rfl) <|
  m_cn (pc := 52) (ok_iconst (m_dk dk_L_sets_0 31 rfl) (by decide) rfl) <|
  m_cn (pc := 53) (ok_calls (T := mt_L_low) my_L_low rfl cw_L_low rfl rfl (by decide) wd_376 wd_377 wd_0 (by decide +kernel) (m_dk dk_L_sets_0 32 rfl) rfl) <|
  m_cn (pc := 56) (ok_iadd (m_dk dk_L_sets_0 33 rfl) rfl) <|
  m_cn (pc := 57) (ok_bipush (m_dk dk_L_sets_0 34 rfl) (by decide) rfl) <|
  m_cn (pc := 59) (ok_irem (m_dk dk_L_sets_0 35 rfl) rfl) <|
  m_cn (pc := 60) (ok_istore (m_dk dk_L_sets_0 36 rfl) rfl (by decide)) <|
  m_cn (pc := 62) (ok_iconst (m_dk dk_L_sets_0 37 rfl) (by decide) rfl) <|
  m_cn (pc := 63) (ok_iload (m_dk dk_L_sets_0 38 rfl) rfl) <|
  m_cn (pc := 65) (ok_bipush (m_dk dk_L_sets_0 39 rfl) (by decide) rfl) <|
  m_cn (pc := 67) (ok_ishr (m_dk dk_L_sets_1 0 rfl) rfl) <|
  m_cn (pc := 68) (ok_iconst (m_dk dk_L_sets_1 1 rfl) (by decide) rfl) <|
  m_cn (pc := 69) (ok_calls (T := mt_L_low) my_L_low rfl cw_L_low rfl rfl (by decide) wd_376 wd_377 wd_0 (by decide +kernel) (m_dk dk_L_sets_1 2 rfl) rfl) <|
  m_cn (pc := 72) (ok_iadd (m_dk dk_L_sets_1 3 rfl) rfl) <|
  m_cn (pc := 73) (ok_istore (m_dk dk_L_sets_1 4 rfl) rfl (by decide)) <|
  m_cn (pc := 75) (ok_iload (m_dk dk_L_sets_1 5 rfl) rfl) <|
  m_cn (pc := 77) (ok_bipush (m_dk dk_L_sets_1 6 rfl) (by decide) rfl) <|
  m_cn (pc := 79) (ok_ishr (m_dk dk_L_sets_1 7 rfl) rfl) <|
  m_cn (pc := 80) (ok_sipush (m_dk dk_L_sets_1 8 rfl) (by decide) rfl) <|
  m_cn (pc := 83) (ok_calls (T := mt_L_low) my_L_low rfl cw_L_low rfl rfl (by decide) wd_376 wd_377 wd_0 (by decide +kernel) (m_dk dk_L_sets_1 9 rfl) rfl) <|
  m_cn (pc := 86) (ok_istore (m_dk dk_L_sets_1 10 rfl) rfl (by decide)) <|
  m_cn (pc := 88) (ok_aload_n (m_dk dk_L_sets_1 11 rfl) rfl rfl) <|
  m_cn (pc := 89) (ok_iload (m_dk dk_L_sets_1 12 rfl) rfl) <|
  m_cn (pc := 91) (ok_iload (m_dk dk_L_sets_1 13 rfl) rfl) <|
  m_cn (pc := 93) (ok_callsw (hh9 := hh_L_owned) (T := mt_L_owned) my_L_owned rfl cw_L_owned rfl rfl (by decide) wd_466 wd_467 wd_0 (by decide +kernel) (m_dk dk_L_sets_1 14 rfl) rfl) <|
  m_cn (pc := 96) (ok_istore (m_dk dk_L_sets_1 15 rfl) rfl (by decide)) <|
  m_cn (pc := 98) (ok_aload_n (m_dk dk_L_sets_1 16 rfl) rfl rfl) <|
  m_cn (pc := 99) (ok_iload (m_dk dk_L_sets_1 17 rfl) rfl) <|
  m_cn (pc := 101) (ok_callsw (hh9 := hh_L_account) (T := mt_L_account) my_L_account rfl cw_L_account rfl rfl (by decide) wd_569 wd_570 wd_0 (by decide +kernel) (m_dk dk_L_sets_1 18 rfl) rfl) <|
  m_cn (pc := 104) (ok_istore (m_dk dk_L_sets_1 19 rfl) rfl (by decide)) <|
  m_cn (pc := 106) (ok_aload_n (m_dk dk_L_sets_1 20 rfl) rfl rfl) <|
  m_cn (pc := 107) (ok_iload (m_dk dk_L_sets_1 21 rfl) rfl) <|
  m_cn (pc := 109) (ok_iload (m_dk dk_L_sets_1 22 rfl) rfl) <|
  m_cn (pc := 111) (ok_callsw (hh9 := hh_L_sold) (T := mt_L_sold) my_L_sold rfl cw_L_sold rfl rfl (by decide) wd_576 wd_577 wd_0 (by decide +kernel) (m_dk dk_L_sets_1 23 rfl) rfl) <|
  m_cn (pc := 114) (ok_istore (m_dk dk_L_sets_1 24 rfl) rfl (by decide)) <|
  m_cn (pc := 116) (ok_aload_n (m_dk dk_L_sets_1 25 rfl) rfl rfl) <|
  m_cn (pc := 117) (ok_iload (m_dk dk_L_sets_1 26 rfl) rfl) <|
  m_cn (pc := 119) (ok_iload (m_dk dk_L_sets_1 27 rfl) rfl) <|
  m_cn (pc := 121) (ok_iload (m_dk dk_L_sets_1 28 rfl) rfl) <|
  m_cn (pc := 123) (ok_iload (m_dk dk_L_sets_1 29 rfl) rfl) <|
  m_cn (pc := 125) (ok_iload (m_dk dk_L_sets_1 30 rfl) rfl) <|
  m_cn (pc := 127) (ok_callsw (hh9 := hh_L_sell) (T := mt_L_sell) my_L_sell rfl cw_L_sell rfl rfl (by decide) wd_583 wd_584 wd_0 (by decide +kernel) (m_dk dk_L_sets_1 31 rfl) rfl) <|
  m_cn (pc := 130) (ok_istore (m_dk dk_L_sets_1 32 rfl) rfl (by decide)) <|
  m_cn (pc := 132) (ok_aload_n (m_dk dk_L_sets_1 33 rfl) rfl rfl) <|
  m_cn (pc := 133) (ok_iconst (m_dk dk_L_sets_1 34 rfl) (by decide) rfl) <|
  m_cn (pc := 134) (ok_iald (m_dk dk_L_sets_1 35 rfl) rfl) <|
  m_cn (pc := 135) (ok_ifne (m_dk dk_L_sets_1 36 rfl) rfl rfl) <|
  m_cn (pc := 138) (ok_iload (m_dk dk_L_sets_1 37 rfl) rfl) <|
  m_cn (pc := 140) (ok_ldc (m_dk dk_L_sets_1 38 rfl) wd_465 rfl) <|
  m_cn (pc := 142) (ok_icmpne (m_dk dk_L_sets_1 39 rfl) rfl rfl) <|
  m_cn (pc := 145) (ok_iconst (m_dk dk_L_sets_2 0 rfl) (by decide) rfl) <|
  m_cn (pc := 146) (ok_goto (nx := 0) (m_dk dk_L_sets_2 1 rfl) rfl) <|
  m_cn (pc := 149) (ok_iconst (m_dk dk_L_sets_2 2 rfl) (by decide) rfl) <|
  m_cn (pc := 150) (ok_goto (nx := 0) (m_dk dk_L_sets_2 3 rfl) rfl) <|
  m_cn (pc := 153) (ok_iload (m_dk dk_L_sets_2 4 rfl) rfl) <|
  m_cn (pc := 155) (ok_ldc (m_dk dk_L_sets_2 5 rfl) wd_372 rfl) <|
  m_cn (pc := 157) (ok_icmpne (m_dk dk_L_sets_2 6 rfl) rfl rfl) <|
  m_cn (pc := 160) (ok_aload_n (m_dk dk_L_sets_2 7 rfl) rfl rfl) <|
  m_cn (pc := 161) (ok_iload (m_dk dk_L_sets_2 8 rfl) rfl) <|
  m_cn (pc := 163) (ok_callsw (hh9 := hh_L_account) (T := mt_L_account) my_L_account rfl cw_L_account rfl rfl (by decide) wd_569 wd_570 wd_0 (by decide +kernel) (m_dk dk_L_sets_2 9 rfl) rfl) <|
  m_cn (pc := 166) (ok_iload (m_dk dk_L_sets_2 10 rfl) rfl) <|
  m_cn (pc := 168) (ok_icmpne (m_dk dk_L_sets_2 11 rfl) rfl rfl) <|
  m_cn (pc := 171) (ok_iconst (m_dk dk_L_sets_2 12 rfl) (by decide) rfl) <|
  m_cn (pc := 172) (ok_goto (nx := 0) (m_dk dk_L_sets_2 13 rfl) rfl) <|
  m_cn (pc := 175) (ok_iconst (m_dk dk_L_sets_2 14 rfl) (by decide) rfl) <|
  m_cn (pc := 176) (ok_goto (nx := 0) (m_dk dk_L_sets_2 15 rfl) rfl) <|
  m_cn (pc := 179) (ok_iload (m_dk dk_L_sets_2 16 rfl) rfl) <|
  m_cn (pc := 181) (ok_iload (m_dk dk_L_sets_2 17 rfl) rfl) <|
  m_cn (pc := 183) (ok_iload (m_dk dk_L_sets_2 18 rfl) rfl) <|
  m_cn (pc := 185) (ok_iadd (m_dk dk_L_sets_2 19 rfl) rfl) <|
  m_cn (pc := 186) (ok_icmpne (m_dk dk_L_sets_2 20 rfl) rfl rfl) <|
  m_cn (pc := 189) (ok_aload_n (m_dk dk_L_sets_2 21 rfl) rfl rfl) <|
  m_cn (pc := 190) (ok_iload (m_dk dk_L_sets_2 22 rfl) rfl) <|
  m_cn (pc := 192) (ok_callsw (hh9 := hh_L_account) (T := mt_L_account) my_L_account rfl cw_L_account rfl rfl (by decide) wd_569 wd_570 wd_0 (by decide +kernel) (m_dk dk_L_sets_2 23 rfl) rfl) <|
  m_cn (pc := 195) (ok_iload (m_dk dk_L_sets_2 24 rfl) rfl) <|
  m_cn (pc := 197) (ok_iload (m_dk dk_L_sets_2 25 rfl) rfl) <|
  m_cn (pc := 199) (ok_iadd (m_dk dk_L_sets_2 26 rfl) rfl) <|
  m_cn (pc := 200) (ok_icmpne (m_dk dk_L_sets_2 27 rfl) rfl rfl) <|
  m_cn (pc := 203) (ok_aload_n (m_dk dk_L_sets_2 28 rfl) rfl rfl) <|
  m_cn (pc := 204) (ok_iload (m_dk dk_L_sets_2 29 rfl) rfl) <|
  m_cn (pc := 206) (ok_iload (m_dk dk_L_sets_2 30 rfl) rfl) <|
  m_cn (pc := 208) (ok_callsw (hh9 := hh_L_sold) (T := mt_L_sold) my_L_sold rfl cw_L_sold rfl rfl (by decide) wd_576 wd_577 wd_0 (by decide +kernel) (m_dk dk_L_sets_2 31 rfl) rfl) <|
  m_cn (pc := 211) (ok_iload (m_dk dk_L_sets_2 32 rfl) rfl) <|
  m_cn (pc := 213) (ok_iload (m_dk dk_L_sets_2 33 rfl) rfl) <|
  m_cn (pc := 215) (ok_iadd (m_dk dk_L_sets_2 34 rfl) rfl) <|
  m_cn (pc := 216) (ok_icmpne (m_dk dk_L_sets_2 35 rfl) rfl rfl) <|
  m_cn (pc := 219) (ok_iconst (m_dk dk_L_sets_2 36 rfl) (by decide) rfl) <|
  m_cn (pc := 220) (ok_goto (nx := 0) (m_dk dk_L_sets_2 37 rfl) rfl) <|
  m_cn (pc := 223) (ok_iconst (m_dk dk_L_sets_2 38 rfl) (by decide) rfl) <|
  m_cn (pc := 224) (ok_zreturn (nx := 0) rfl (m_dk dk_L_sets_2 39 rfl)) <|
  m_cn (pc := 225) (ok_iload (m_dk dk_L_sets_3 0 rfl) rfl) <|
  m_cn (pc := 227) (ok_iconst (m_dk dk_L_sets_3 1 rfl) (by decide) rfl) <|
  m_cn (pc := 228) (ok_icmpge (m_dk dk_L_sets_3 2 rfl) rfl rfl) <|
  m_cn (pc := 231) (ok_aload_n (m_dk dk_L_sets_3 3 rfl) rfl rfl) <|
  m_cn (pc := 232) (ok_iconst (m_dk dk_L_sets_3 4 rfl) (by decide) rfl) <|
  m_cn (pc := 233) (ok_iald (m_dk dk_L_sets_3 5 rfl) rfl) <|
  m_cn (pc := 234) (ok_ifle (m_dk dk_L_sets_3 6 rfl) rfl rfl) <|
  m_cn (pc := 237) (ok_aload_n (m_dk dk_L_sets_3 7 rfl) rfl rfl) <|
  m_cn (pc := 238) (ok_iload (m_dk dk_L_sets_3 8 rfl) rfl) <|
  m_cn (pc := 240) (ok_callsw (hh9 := hh_L_isWhole) (T := mt_L_isWhole) my_L_isWhole rfl cw_L_isWhole rfl rfl (by decide) wd_477 wd_478 wd_0 (by decide +kernel) (m_dk dk_L_sets_3 9 rfl) rfl) <|
  m_cn (pc := 243) (ok_iconst (m_dk dk_L_sets_3 10 rfl) (by decide) rfl) <|
  m_cn (pc := 244) (ok_icmpne (m_dk dk_L_sets_3 11 rfl) rfl rfl) <|
  m_cn (pc := 247) (ok_iconst (m_dk dk_L_sets_3 12 rfl) (by decide) rfl) <|
  m_cn (pc := 248) (ok_goto (nx := 0) (m_dk dk_L_sets_3 13 rfl) rfl) <|
  m_cn (pc := 251) (ok_iconst (m_dk dk_L_sets_3 14 rfl) (by decide) rfl) <|
  m_cn (pc := 252) (ok_istore (m_dk dk_L_sets_3 15 rfl) rfl (by decide)) <|
  m_cn (pc := 254) (ok_aload_n (m_dk dk_L_sets_3 16 rfl) rfl rfl) <|
  m_cn (pc := 255) (ok_iconst (m_dk dk_L_sets_3 17 rfl) (by decide) rfl) <|
  m_cn (pc := 256) (ok_iload (m_dk dk_L_sets_3 18 rfl) rfl) <|
  m_cn (pc := 258) (ok_imul (m_dk dk_L_sets_3 19 rfl) rfl) <|
  m_cn (pc := 259) (ok_iald (m_dk dk_L_sets_3 20 rfl) rfl) <|
  m_cn (pc := 260) (ok_aload_n (m_dk dk_L_sets_3 21 rfl) rfl rfl) <|
  m_cn (pc := 261) (ok_iconst (m_dk dk_L_sets_3 22 rfl) (by decide) rfl) <|
  m_cn (pc := 262) (ok_iload (m_dk dk_L_sets_3 23 rfl) rfl) <|
  m_cn (pc := 264) (ok_imul (m_dk dk_L_sets_3 24 rfl) rfl) <|
  m_cn (pc := 265) (ok_iconst (m_dk dk_L_sets_3 25 rfl) (by decide) rfl) <|
  m_cn (pc := 266) (ok_iadd (m_dk dk_L_sets_3 26 rfl) rfl) <|
  m_cn (pc := 267) (ok_iald (m_dk dk_L_sets_3 27 rfl) rfl) <|
  m_cn (pc := 268) (ok_isub (m_dk dk_L_sets_3 28 rfl) rfl) <|
  m_cn (pc := 269) (ok_istore (m_dk dk_L_sets_3 29 rfl) rfl (by decide)) <|
  m_cn (pc := 271) (ok_aload_n (m_dk dk_L_sets_3 30 rfl) rfl rfl) <|
  m_cn (pc := 272) (ok_iload (m_dk dk_L_sets_3 31 rfl) rfl) <|
  m_cn (pc := 274) (ok_iload (m_dk dk_L_sets_3 32 rfl) rfl) <|
  m_cn (pc := 276) (ok_sipush (m_dk dk_L_sets_3 33 rfl) (by decide) rfl) <|
  m_cn (pc := 279) (ok_iload (m_dk dk_L_sets_3 34 rfl) rfl) <|
  m_cn (pc := 281) (ok_ifge (m_dk dk_L_sets_3 35 rfl) rfl rfl) <|
  m_cn (pc := 284) (ok_iload (m_dk dk_L_sets_3 36 rfl) rfl) <|
  m_cn (pc := 286) (ok_ineg (m_dk dk_L_sets_3 37 rfl) rfl) <|
  m_cn (pc := 287) (ok_goto (nx := 0) (m_dk dk_L_sets_3 38 rfl) rfl) <|
  m_cn (pc := 290) (ok_iload (m_dk dk_L_sets_3 39 rfl) rfl) <|
  m_cn (pc := 292) (ok_imul (m_dk dk_L_sets_4 0 rfl) rfl) <|
  m_cn (pc := 293) (ok_iconst (m_dk dk_L_sets_4 1 rfl) (by decide) rfl) <|
  m_cn (pc := 294) (ok_iadd (m_dk dk_L_sets_4 2 rfl) rfl) <|
  m_cn (pc := 295) (ok_calls (T := mt_L_low) my_L_low rfl cw_L_low rfl rfl (by decide) wd_376 wd_377 wd_0 (by decide +kernel) (m_dk dk_L_sets_4 3 rfl) rfl) <|
  m_cn (pc := 298) (ok_callsw (hh9 := hh_L_cut) (T := mt_L_cut) my_L_cut rfl cw_L_cut rfl rfl (by decide) wd_679 wd_680 wd_0 (by decide +kernel) (m_dk dk_L_sets_4 4 rfl) rfl) <|
  m_cn (pc := 301) (ok_istore (m_dk dk_L_sets_4 5 rfl) rfl (by decide)) <|
  m_cn (pc := 303) (ok_aload_n (m_dk dk_L_sets_4 6 rfl) rfl rfl) <|
  m_cn (pc := 304) (ok_iconst (m_dk dk_L_sets_4 7 rfl) (by decide) rfl) <|
  m_cn (pc := 305) (ok_iald (m_dk dk_L_sets_4 8 rfl) rfl) <|
  m_cn (pc := 306) (ok_ifne (m_dk dk_L_sets_4 9 rfl) rfl rfl) <|
  m_cn (pc := 309) (ok_iload (m_dk dk_L_sets_4 10 rfl) rfl) <|
  m_cn (pc := 311) (ok_ldc (m_dk dk_L_sets_4 11 rfl) wd_465 rfl) <|
  m_cn (pc := 313) (ok_icmpne (m_dk dk_L_sets_4 12 rfl) rfl rfl) <|
  m_cn (pc := 316) (ok_iconst (m_dk dk_L_sets_4 13 rfl) (by decide) rfl) <|
  m_cn (pc := 317) (ok_goto (nx := 0) (m_dk dk_L_sets_4 14 rfl) rfl) <|
  m_cn (pc := 320) (ok_iconst (m_dk dk_L_sets_4 15 rfl) (by decide) rfl) <|
  m_cn (pc := 321) (ok_zreturn (nx := 0) rfl (m_dk dk_L_sets_4 16 rfl)) <|
  m_cn (pc := 322) (ok_iload (m_dk dk_L_sets_4 17 rfl) rfl) <|
  m_cn (pc := 324) (ok_ifeq (m_dk dk_L_sets_4 18 rfl) rfl rfl) <|
  m_cn (pc := 327) (ok_aload_n (m_dk dk_L_sets_4 19 rfl) rfl rfl) <|
  m_cn (pc := 328) (ok_iconst (m_dk dk_L_sets_4 20 rfl) (by decide) rfl) <|
  m_cn (pc := 329) (ok_iald (m_dk dk_L_sets_4 21 rfl) rfl) <|
  m_cn (pc := 330) (ok_bipush (m_dk dk_L_sets_4 22 rfl) (by decide) rfl) <|
  m_cn (pc := 332) (ok_icmpge (m_dk dk_L_sets_4 23 rfl) rfl rfl) <|
  m_cn (pc := 335) (ok_iconst (m_dk dk_L_sets_4 24 rfl) (by decide) rfl) <|
  m_cn (pc := 336) (ok_goto (nx := 0) (m_dk dk_L_sets_4 25 rfl) rfl) <|
  m_cn (pc := 339) (ok_iconst (m_dk dk_L_sets_4 26 rfl) (by decide) rfl) <|
  m_cn (pc := 340) (ok_istore (m_dk dk_L_sets_4 27 rfl) rfl (by decide)) <|
  m_cn (pc := 342) (ok_iload (m_dk dk_L_sets_4 28 rfl) rfl) <|
  m_cn (pc := 344) (ok_ifeq (m_dk dk_L_sets_4 29 rfl) rfl rfl) <|
  m_cn (pc := 347) (ok_aload_n (m_dk dk_L_sets_4 30 rfl) rfl rfl) <|
  m_cn (pc := 348) (ok_bipush (m_dk dk_L_sets_4 31 rfl) (by decide) rfl) <|
  m_cn (pc := 350) (ok_aload_n (m_dk dk_L_sets_4 32 rfl) rfl rfl) <|
  m_cn (pc := 351) (ok_iconst (m_dk dk_L_sets_4 33 rfl) (by decide) rfl) <|
  m_cn (pc := 352) (ok_iald (m_dk dk_L_sets_4 34 rfl) rfl) <|
  m_cn (pc := 353) (ok_iadd (m_dk dk_L_sets_4 35 rfl) rfl) <|
  m_cn (pc := 354) (ok_iload (m_dk dk_L_sets_4 36 rfl) rfl) <|
  m_cn (pc := 356) (ok_iast (m_dk dk_L_sets_4 37 rfl) rfl) <|
  m_cn (pc := 357) (ok_aload_n (m_dk dk_L_sets_4 38 rfl) rfl rfl) <|
  m_cn (pc := 358) (ok_iconst (m_dk dk_L_sets_4 39 rfl) (by decide) rfl) <|
  m_cn (pc := 359) (ok_dup2 (m_dk dk_L_sets_5 0 rfl) rfl) <|
  m_cn (pc := 360) (ok_iald (m_dk dk_L_sets_5 1 rfl) rfl) <|
  m_cn (pc := 361) (ok_iconst (m_dk dk_L_sets_5 2 rfl) (by decide) rfl) <|
  m_cn (pc := 362) (ok_iadd (m_dk dk_L_sets_5 3 rfl) rfl) <|
  m_cn (pc := 363) (ok_iast (m_dk dk_L_sets_5 4 rfl) rfl) <|
  m_cn (pc := 364) (ok_iload (m_dk dk_L_sets_5 5 rfl) rfl) <|
  m_cn (pc := 366) (ok_iload (m_dk dk_L_sets_5 6 rfl) rfl) <|
  m_cn (pc := 368) (ok_ifeq (m_dk dk_L_sets_5 7 rfl) rfl rfl) <|
  m_cn (pc := 371) (ok_aload_n (m_dk dk_L_sets_5 8 rfl) rfl rfl) <|
  m_cn (pc := 372) (ok_iconst (m_dk dk_L_sets_5 9 rfl) (by decide) rfl) <|
  m_cn (pc := 373) (ok_iald (m_dk dk_L_sets_5 10 rfl) rfl) <|
  m_cn (pc := 374) (ok_iconst (m_dk dk_L_sets_5 11 rfl) (by decide) rfl) <|
  m_cn (pc := 375) (ok_isub (m_dk dk_L_sets_5 12 rfl) rfl) <|
  m_cn (pc := 376) (ok_goto (nx := 0) (m_dk dk_L_sets_5 13 rfl) rfl) <|
  m_cn (pc := 379) (ok_ldc (m_dk dk_L_sets_5 14 rfl) wd_372 rfl) <|
  m_cn (pc := 381) (ok_icmpne (m_dk dk_L_sets_5 15 rfl) rfl rfl) <|
  m_cn (pc := 384) (ok_aload_n (m_dk dk_L_sets_5 16 rfl) rfl rfl) <|
  m_cn (pc := 385) (ok_iload (m_dk dk_L_sets_5 17 rfl) rfl) <|
  m_cn (pc := 387) (ok_callsw (hh9 := hh_L_isWhole) (T := mt_L_isWhole) my_L_isWhole rfl cw_L_isWhole rfl rfl (by decide) wd_477 wd_478 wd_0 (by decide +kernel) (m_dk dk_L_sets_5 18 rfl) rfl) <|
  m_cn (pc := 390) (ok_iload (m_dk dk_L_sets_5 19 rfl) rfl) <|
  m_cn (pc := 392) (ok_ifeq (m_dk dk_L_sets_5 20 rfl) rfl rfl) <|
  m_cn (pc := 395) (ok_iconst (m_dk dk_L_sets_5 21 rfl) (by decide) rfl) <|
  m_cn (pc := 396) (ok_goto (nx := 0) (m_dk dk_L_sets_5 22 rfl) rfl) <|
  m_cn (pc := 399) (ok_iload (m_dk dk_L_sets_5 23 rfl) rfl) <|
  m_cn (pc := 401) (ok_ifeq (m_dk dk_L_sets_5 24 rfl) rfl rfl) <|
  m_cn (pc := 404) (ok_iconst (m_dk dk_L_sets_5 25 rfl) (by decide) rfl) <|
  m_cn (pc := 405) (ok_goto (nx := 0) (m_dk dk_L_sets_5 26 rfl) rfl) <|
  m_cn (pc := 408) (ok_iconst (m_dk dk_L_sets_5 27 rfl) (by decide) rfl) <|
  m_cn (pc := 409) (ok_icmpne (m_dk dk_L_sets_5 28 rfl) rfl rfl) <|
  m_cn (pc := 412) (ok_iconst (m_dk dk_L_sets_5 29 rfl) (by decide) rfl) <|
  m_cn (pc := 413) (ok_goto (nx := 0) (m_dk dk_L_sets_5 30 rfl) rfl) <|
  m_cn (pc := 416) (ok_iconst (m_dk dk_L_sets_5 31 rfl) (by decide) rfl) <|
  m_cn (pc := 417) (ok_zreturn (nx := 0) rfl (m_dk dk_L_sets_5 32 rfl)) <|
  m_cn (pc := 418) (ok_aload_n (m_dk dk_L_sets_5 33 rfl) rfl rfl) <|
  m_cn (pc := 419) (ok_iconst (m_dk dk_L_sets_5 34 rfl) (by decide) rfl) <|
  m_cn (pc := 420) (ok_iald (m_dk dk_L_sets_5 35 rfl) rfl) <|
  m_cn (pc := 421) (ok_ifne (m_dk dk_L_sets_5 36 rfl) rfl rfl) <|
  m_cn (pc := 424) (ok_iconst (m_dk dk_L_sets_5 37 rfl) (by decide) rfl) <|
  m_cn (pc := 425) (ok_goto (nx := 0) (m_dk dk_L_sets_5 38 rfl) rfl) <|
  m_cn (pc := 428) (ok_iload_n (m_dk dk_L_sets_5 39 rfl) rfl rfl) <|
  m_cn (pc := 429) (ok_iconst (m_dk dk_L_sets_6 0 rfl) (by decide) rfl) <|
  m_cn (pc := 430) (ok_ishr (m_dk dk_L_sets_6 1 rfl) rfl) <|
  m_cn (pc := 431) (ok_aload_n (m_dk dk_L_sets_6 2 rfl) rfl rfl) <|
  m_cn (pc := 432) (ok_iconst (m_dk dk_L_sets_6 3 rfl) (by decide) rfl) <|
  m_cn (pc := 433) (ok_iald (m_dk dk_L_sets_6 4 rfl) rfl) <|
  m_cn (pc := 434) (ok_calls (T := mt_L_low) my_L_low rfl cw_L_low rfl rfl (by decide) wd_376 wd_377 wd_0 (by decide +kernel) (m_dk dk_L_sets_6 5 rfl) rfl) <|
  m_cn (pc := 437) (ok_istore (m_dk dk_L_sets_6 6 rfl) rfl (by decide)) <|
  m_cn (pc := 439) (ok_iload (m_dk dk_L_sets_6 7 rfl) rfl) <|
  m_cn (pc := 441) (ok_bipush (m_dk dk_L_sets_6 8 rfl) (by decide) rfl) <|
  m_cn (pc := 443) (ok_icmpge (m_dk dk_L_sets_6 9 rfl) rfl rfl) <|
  m_cn (pc := 446) (ok_iload (m_dk dk_L_sets_6 10 rfl) rfl) <|
  m_cn (pc := 448) (ok_iconst (m_dk dk_L_sets_6 11 rfl) (by decide) rfl) <|
  m_cn (pc := 449) (ok_icmpeq (m_dk dk_L_sets_6 12 rfl) rfl rfl) <|
  m_cn (pc := 452) (ok_aload_n (m_dk dk_L_sets_6 13 rfl) rfl rfl) <|
  m_cn (pc := 453) (ok_iconst (m_dk dk_L_sets_6 14 rfl) (by decide) rfl) <|
  m_cn (pc := 454) (ok_iald (m_dk dk_L_sets_6 15 rfl) rfl) <|
  m_cn (pc := 455) (ok_ifne (m_dk dk_L_sets_6 16 rfl) rfl rfl) <|
  m_cn (pc := 458) (ok_iconst (m_dk dk_L_sets_6 17 rfl) (by decide) rfl) <|
  m_cn (pc := 459) (ok_goto (nx := 0) (m_dk dk_L_sets_6 18 rfl) rfl) <|
  m_cn (pc := 462) (ok_iload (m_dk dk_L_sets_6 19 rfl) rfl) <|
  m_cn (pc := 464) (ok_aload_n (m_dk dk_L_sets_6 20 rfl) rfl rfl) <|
  m_cn (pc := 465) (ok_iconst (m_dk dk_L_sets_6 21 rfl) (by decide) rfl) <|
  m_cn (pc := 466) (ok_iald (m_dk dk_L_sets_6 22 rfl) rfl) <|
  m_cn (pc := 467) (ok_calls (T := mt_L_low) my_L_low rfl cw_L_low rfl rfl (by decide) wd_376 wd_377 wd_0 (by decide +kernel) (m_dk dk_L_sets_6 23 rfl) rfl) <|
  m_cn (pc := 470) (ok_istore (m_dk dk_L_sets_6 24 rfl) rfl (by decide)) <|
  m_cn (pc := 472) (ok_aload_n (m_dk dk_L_sets_6 25 rfl) rfl rfl) <|
  m_cn (pc := 473) (ok_iload (m_dk dk_L_sets_6 26 rfl) rfl) <|
  m_cn (pc := 475) (ok_iload (m_dk dk_L_sets_6 27 rfl) rfl) <|
  m_cn (pc := 477) (ok_callsw (hh9 := hh_L_send) (T := mt_L_send) my_L_send rfl cw_L_send rfl rfl (by decide) wd_716 wd_717 wd_0 (by decide +kernel) (m_dk dk_L_sets_6 28 rfl) rfl) <|
  m_cn (pc := 480) (ok_istore (m_dk dk_L_sets_6 29 rfl) rfl (by decide)) <|
  m_cn (pc := 482) (ok_aload_n (m_dk dk_L_sets_6 30 rfl) rfl rfl) <|
  m_cn (pc := 483) (ok_iconst (m_dk dk_L_sets_6 31 rfl) (by decide) rfl) <|
  m_cn (pc := 484) (ok_iald (m_dk dk_L_sets_6 32 rfl) rfl) <|
  m_cn (pc := 485) (ok_ifne (m_dk dk_L_sets_6 33 rfl) rfl rfl) <|
  m_cn (pc := 488) (ok_iload (m_dk dk_L_sets_6 34 rfl) rfl) <|
  m_cn (pc := 490) (ok_ldc (m_dk dk_L_sets_6 35 rfl) wd_465 rfl) <|
  m_cn (pc := 492) (ok_icmpne (m_dk dk_L_sets_6 36 rfl) rfl rfl) <|
  m_cn (pc := 495) (ok_iconst (m_dk dk_L_sets_6 37 rfl) (by decide) rfl) <|
  m_cn (pc := 496) (ok_goto (nx := 0) (m_dk dk_L_sets_6 38 rfl) rfl) <|
  m_cn (pc := 499) (ok_iconst (m_dk dk_L_sets_6 39 rfl) (by decide) rfl) <|
  m_cn (pc := 500) (ok_goto (nx := 0) (m_dk dk_L_sets_7 0 rfl) rfl) <|
  m_cn (pc := 503) (ok_iload (m_dk dk_L_sets_7 1 rfl) rfl) <|
  m_cn (pc := 505) (ok_iconst (m_dk dk_L_sets_7 2 rfl) (by decide) rfl) <|
  m_cn (pc := 506) (ok_icmplt (m_dk dk_L_sets_7 3 rfl) rfl rfl) <|
  m_cn (pc := 509) (ok_iload (m_dk dk_L_sets_7 4 rfl) rfl) <|
  m_cn (pc := 511) (ok_aload_n (m_dk dk_L_sets_7 5 rfl) rfl rfl) <|
  m_cn (pc := 512) (ok_iconst (m_dk dk_L_sets_7 6 rfl) (by decide) rfl) <|
  m_cn (pc := 513) (ok_iald (m_dk dk_L_sets_7 7 rfl) rfl) <|
  m_cn (pc := 514) (ok_icmplt (m_dk dk_L_sets_7 8 rfl) rfl rfl) <|
  m_cn (pc := 517) (ok_iload (m_dk dk_L_sets_7 9 rfl) rfl) <|
  m_cn (pc := 519) (ok_ldc (m_dk dk_L_sets_7 10 rfl) wd_372 rfl) <|
  m_cn (pc := 521) (ok_icmpne (m_dk dk_L_sets_7 11 rfl) rfl rfl) <|
  m_cn (pc := 524) (ok_iload (m_dk dk_L_sets_7 12 rfl) rfl) <|
  m_cn (pc := 526) (ok_iflt (m_dk dk_L_sets_7 13 rfl) rfl rfl) <|
  m_cn (pc := 529) (ok_iconst (m_dk dk_L_sets_7 14 rfl) (by decide) rfl) <|
  m_cn (pc := 530) (ok_goto (nx := 0) (m_dk dk_L_sets_7 15 rfl) rfl) <|
  m_cn (pc := 533) (ok_iconst (m_dk dk_L_sets_7 16 rfl) (by decide) rfl) <|
  m_cn (pc := 534) (ok_zreturn (nx := 0) rfl (m_dk dk_L_sets_7 17 rfl)) <|
  m_cn (pc := 535) (ok_iload (m_dk dk_L_sets_7 18 rfl) rfl) <|
  m_cn (pc := 537) (ok_iconst (m_dk dk_L_sets_7 19 rfl) (by decide) rfl) <|
  m_cn (pc := 538) (ok_calls (T := mt_L_low) my_L_low rfl cw_L_low rfl rfl (by decide) wd_376 wd_377 wd_0 (by decide +kernel) (m_dk dk_L_sets_7 20 rfl) rfl) <|
  m_cn (pc := 541) (ok_ifne (m_dk dk_L_sets_7 21 rfl) rfl rfl) <|
  m_cn (pc := 544) (ok_iload (m_dk dk_L_sets_7 22 rfl) rfl) <|
  m_cn (pc := 546) (ok_iconst (m_dk dk_L_sets_7 23 rfl) (by decide) rfl) <|
  m_cn (pc := 547) (ok_ishr (m_dk dk_L_sets_7 24 rfl) rfl) <|
  m_cn (pc := 548) (ok_bipush (m_dk dk_L_sets_7 25 rfl) (by decide) rfl) <|
  m_cn (pc := 550) (ok_calls (T := mt_L_low) my_L_low rfl cw_L_low rfl rfl (by decide) wd_376 wd_377 wd_0 (by decide +kernel) (m_dk dk_L_sets_7 26 rfl) rfl) <|
  m_cn (pc := 553) (ok_istore (m_dk dk_L_sets_7 27 rfl) rfl (by decide)) <|
  m_cn (pc := 555) (ok_aload_n (m_dk dk_L_sets_7 28 rfl) rfl rfl) <|
  m_cn (pc := 556) (ok_iload (m_dk dk_L_sets_7 29 rfl) rfl) <|
  m_cn (pc := 558) (ok_iload (m_dk dk_L_sets_7 30 rfl) rfl) <|
  m_cn (pc := 560) (ok_iload (m_dk dk_L_sets_7 31 rfl) rfl) <|
  m_cn (pc := 562) (ok_bipush (m_dk dk_L_sets_7 32 rfl) (by decide) rfl) <|
  m_cn (pc := 564) (ok_ishr (m_dk dk_L_sets_7 33 rfl) rfl) <|
  m_cn (pc := 565) (ok_bipush (m_dk dk_L_sets_7 34 rfl) (by decide) rfl) <|
  m_cn (pc := 567) (ok_calls (T := mt_L_low) my_L_low rfl cw_L_low rfl rfl (by decide) wd_376 wd_377 wd_0 (by decide +kernel) (m_dk dk_L_sets_7 35 rfl) rfl) <|
  m_cn (pc := 570) (ok_iadd (m_dk dk_L_sets_7 36 rfl) rfl) <|
  m_cn (pc := 571) (ok_callsw (hh9 := hh_L_storm) (T := mt_L_storm) my_L_storm rfl cw_L_storm rfl rfl (by decide) wd_729 wd_730 wd_0 (by decide +kernel) (m_dk dk_L_sets_7 37 rfl) rfl) <|
  m_cn (pc := 574) (ok_ifne (m_dk dk_L_sets_7 38 rfl) rfl rfl) <|
  m_cn (pc := 577) (ok_aload_n (m_dk dk_L_sets_7 39 rfl) rfl rfl) <|
  m_cn (pc := 578) (ok_iload (m_dk dk_L_sets_8 0 rfl) rfl) <|
  m_cn (pc := 580) (ok_iload (m_dk dk_L_sets_8 1 rfl) rfl) <|
  m_cn (pc := 582) (ok_iconst (m_dk dk_L_sets_8 2 rfl) (by decide) rfl) <|
  m_cn (pc := 583) (ok_isub (m_dk dk_L_sets_8 3 rfl) rfl) <|
  m_cn (pc := 584) (ok_callsw (hh9 := hh_L_storm) (T := mt_L_storm) my_L_storm rfl cw_L_storm rfl rfl (by decide) wd_729 wd_730 wd_0 (by decide +kernel) (m_dk dk_L_sets_8 4 rfl) rfl) <|
  m_cn (pc := 587) (ok_ldc (m_dk dk_L_sets_8 5 rfl) wd_371 rfl) <|
  m_cn (pc := 589) (ok_icmpne (m_dk dk_L_sets_8 6 rfl) rfl rfl) <|
  m_cn (pc := 592) (ok_iconst (m_dk dk_L_sets_8 7 rfl) (by decide) rfl) <|
  m_cn (pc := 593) (ok_goto (nx := 0) (m_dk dk_L_sets_8 8 rfl) rfl) <|
  m_cn (pc := 596) (ok_iconst (m_dk dk_L_sets_8 9 rfl) (by decide) rfl) <|
  m_cn (pc := 597) (ok_zreturn (nx := 0) rfl (m_dk dk_L_sets_8 10 rfl)) <|
  m_cn (pc := 598) (ok_aload_n (m_dk dk_L_sets_8 11 rfl) rfl rfl) <|
  m_cn (pc := 599) (ok_iload (m_dk dk_L_sets_8 12 rfl) rfl) <|
  m_cn (pc := 601) (ok_iload (m_dk dk_L_sets_8 13 rfl) rfl) <|
  m_cn (pc := 603) (ok_iconst (m_dk dk_L_sets_8 14 rfl) (by decide) rfl) <|
  m_cn (pc := 604) (ok_ishr (m_dk dk_L_sets_8 15 rfl) rfl) <|
  m_cn (pc := 605) (ok_bipush (m_dk dk_L_sets_8 16 rfl) (by decide) rfl) <|
  m_cn (pc := 607) (ok_calls (T := mt_L_low) my_L_low rfl cw_L_low rfl rfl (by decide) wd_376 wd_377 wd_0 (by decide +kernel) (m_dk dk_L_sets_8 17 rfl) rfl) <|
  m_cn (pc := 610) (ok_callsw (hh9 := hh_L_fill) (T := mt_L_fill) my_L_fill rfl cw_L_fill rfl rfl (by decide) wd_736 wd_737 wd_0 (by decide +kernel) (m_dk dk_L_sets_8 18 rfl) rfl) <|
  m_cn (pc := 613) (ok_istore (m_dk dk_L_sets_8 19 rfl) rfl (by decide)) <|
  m_cn (pc := 615) (ok_iload (m_dk dk_L_sets_8 20 rfl) rfl) <|
  m_cn (pc := 617) (ok_iflt (m_dk dk_L_sets_8 21 rfl) rfl rfl) <|
  m_cn (pc := 620) (ok_iload (m_dk dk_L_sets_8 22 rfl) rfl) <|
  m_cn (pc := 622) (ok_bipush (m_dk dk_L_sets_8 23 rfl) (by decide) rfl) <|
  m_cn (pc := 624) (ok_icmple (m_dk dk_L_sets_8 24 rfl) rfl rfl) <|
  m_cn (pc := 627) (ok_iload (m_dk dk_L_sets_8 25 rfl) rfl) <|
  m_cn (pc := 629) (ok_ldc (m_dk dk_L_sets_8 26 rfl) wd_372 rfl) <|
  m_cn (pc := 631) (ok_icmpeq (m_dk dk_L_sets_8 27 rfl) rfl rfl) <|
  m_cn (pc := 634) (ok_iload (m_dk dk_L_sets_8 28 rfl) rfl) <|
  m_cn (pc := 636) (ok_ldc (m_dk dk_L_sets_8 29 rfl) wd_465 rfl) <|
  m_cn (pc := 638) (ok_icmpne (m_dk dk_L_sets_8 30 rfl) rfl rfl) <|
  m_cn (pc := 641) (ok_aload_n (m_dk dk_L_sets_8 31 rfl) rfl rfl) <|
  m_cn (pc := 642) (ok_iconst (m_dk dk_L_sets_8 32 rfl) (by decide) rfl) <|
  m_cn (pc := 643) (ok_iald (m_dk dk_L_sets_8 33 rfl) rfl) <|
  m_cn (pc := 644) (ok_ifne (m_dk dk_L_sets_8 34 rfl) rfl rfl) <|
  m_cn (pc := 647) (ok_iconst (m_dk dk_L_sets_8 35 rfl) (by decide) rfl) <|
  m_cn (pc := 648) (ok_goto (nx := 0) (m_dk dk_L_sets_8 36 rfl) rfl) <|
  m_cn (pc := 651) (ok_iconst (m_dk dk_L_sets_8 37 rfl) (by decide) rfl) <|
  m_cn (pc := 652) (ok_zreturn (nx := 0) rfl (m_dk dk_L_sets_8 38 rfl)) <|
  m_nl
theorem mk_L_sets {GP : m_G → Prop} {cds : Nat → Nat → m_Op} (h : cds 98 = m_lk cd_L_sets) : m_MOK GP m_my cds 98 := ⟨RL, false, [], by decide +kernel, rfl, (fun h9 => by first | rfl | cases h9), Or.inl ⟨rfl, rfl⟩, fun pc => by rw [h]; exact m_lk_ok _ ok_L_sets pc⟩
def dl_L_isWay_0 : List (Nat × Instr × Nat) := [(0, .iload_n 1, 1), (1, .ifCond .le 7, 3), (4, .iconst 1, 1), (5, .goto 4, 3), (8, .iconst 0, 1), (9, .istore 4, 2), (11, .iconst 0, 1), (12, .istore 5, 2), (14, .iload 5, 2), (16, .bipush 6, 2), (18, .if_icmp .ge 116, 3), (21, .iconst 0, 1), (22, .istore 6, 2), (24, .iconst 0, 1), (25, .istore 7, 2), (27, .iload 7, 2), (29, .bipush 10, 2), (31, .if_icmp .ge 53, 3), (34, .iload 6, 2), (36, .iload_n 1, 1), (37, .iload 7, 2), (39, .ishr, 1), (40, .iconst 1, 1), (41, .iand, 1), (42, .iconst 1, 1), (43, .if_icmp .ne 31, 3), (46, .aload_n 0, 1), (47, .iconst 4, 1), (48, .iload 7, 2), (50, .imul, 1), (51, .iaload, 1), (52, .iload 5, 2), (54, .if_icmp .eq 16, 3), (57, .aload_n 0, 1), (58, .iconst 4, 1), (59, .iload 7, 2), (61, .imul, 1), (62, .iconst 1, 1), (63, .iadd, 1), (64, .iaload, 1)]
theorem dk_L_isWay_0 : ∀ q ∈ dl_L_isWay_0, decode cL_isWay q.1 = .ok q.2 := by decide +kernel
def dl_L_isWay_1 : List (Nat × Instr × Nat) := [(65, .iload 5, 2), (67, .if_icmp .ne 7, 3), (70, .iconst 1, 1), (71, .goto 4, 3), (74, .iconst 0, 1), (75, .iadd, 1), (76, .istore 6, 2), (78, .iinc 7 1, 3), (81, .goto (-54), 3), (84, .iload 4, 2), (86, .ifCond .eq 39, 3), (89, .iload 5, 2), (91, .iload_n 2, 1), (92, .if_icmp .eq 9, 3), (95, .iload 5, 2), (97, .iload_n 3, 1), (98, .if_icmp .ne 12, 3), (101, .iload 6, 2), (103, .iconst 1, 1), (104, .if_icmp .ne 21, 3), (107, .goto 14, 3), (110, .iload 6, 2), (112, .ifCond .eq 9, 3), (115, .iload 6, 2), (117, .iconst 2, 1), (118, .if_icmp .ne 7, 3), (121, .iconst 1, 1), (122, .goto 4, 3), (125, .iconst 0, 1), (126, .istore 4, 2), (128, .iinc 5 1, 3), (131, .goto (-117), 3), (134, .iload 4, 2), (136, .ireturn, 1)]
theorem dk_L_isWay_1 : ∀ q ∈ dl_L_isWay_1, decode cL_isWay q.1 = .ok q.2 := by decide +kernel
def cd_L_isWay : List (Nat × m_Op) := [(0, o_iload 1 1), (1, o_ifle 8 4), (4, o_const (1) 5), (5, o_goto 9), (8, o_const (0) 9), (9, o_istore 4 11), (11, o_const (0) 12), (12, o_istore 5 14), (14, o_iload 5 16), (16, o_const (6) 18), (18, o_icmpge 134 21), (21, o_const (0) 22), (22, o_istore 6 24), (24, o_const (0) 25), (25, o_istore 7 27), (27, o_iload 7 29), (29, o_const (10) 31), (31, o_icmpge 84 34), (34, o_iload 6 36), (36, o_iload 1 37), (37, o_iload 7 39), (39, o_bin (fun x y => x >>> (y &&& 31)) 40), (40, o_const (1) 41), (41, o_bin (fun x y => x &&& y) 42), (42, o_const (1) 43), (43, o_icmpne 74 46), (46, o_aload 0 47), (47, o_const (4) 48), (48, o_iload 7 50), (50, o_bin (fun x y => x * y) 51), (51, o_iald 0 52), (52, o_iload 5 54), (54, o_icmpeq 70 57), (57, o_aload 0 58), (58, o_const (4) 59), (59, o_iload 7 61), (61, o_bin (fun x y => x * y) 62), (62, o_const (1) 63), (63, o_bin (fun x y => x + y) 64), (64, o_iald 0 65), (65, o_iload 5 67), (67, o_icmpne 74 70), (70, o_const (1) 71), (71, o_goto 75), (74, o_const (0) 75), (75, o_bin (fun x y => x + y) 76), (76, o_istore 6 78), (78, o_iinc 7 (1) 81), (81, o_goto 27), (84, o_iload 4 86), (86, o_ifeq 125 89), (89, o_iload 5 91), (91, o_iload 2 92), (92, o_icmpeq 101 95), (95, o_iload 5 97), (97, o_iload 3 98), (98, o_icmpne 110 101), (101, o_iload 6 103), (103, o_const (1) 104), (104, o_icmpne 125 107), (107, o_goto 121), (110, o_iload 6 112), (112, o_ifeq 121 115), (115, o_iload 6 117), (117, o_const (2) 118), (118, o_icmpne 125 121), (121, o_const (1) 122), (122, o_goto 126), (125, o_const (0) 126), (126, o_istore 4 128), (128, o_iinc 5 (1) 131), (131, o_goto 14), (134, o_iload 4 136), (136, o_zreturn)]
set_option maxRecDepth 20000 in
set_option maxHeartbeats 4000000 in
theorem ok_L_isWay {GP : m_G → Prop} : ∀ q ∈ cd_L_isWay, m_OK GP m_my (cL_isWay, 8, RL, false, (some .boolean), []) q.1 q.2 :=
  m_cn (pc := 0) (ok_iload_n (m_dk dk_L_isWay_0 0 rfl) rfl rfl) <|
  m_cn (pc := 1) (ok_ifle (m_dk dk_L_isWay_0 1 rfl) rfl rfl) <|
  m_cn (pc := 4) (ok_iconst (m_dk dk_L_isWay_0 2 rfl) (by decide) rfl) <|
  m_cn (pc := 5) (ok_goto (nx := 0) (m_dk dk_L_isWay_0 3 rfl) rfl) <|
  m_cn (pc := 8) (ok_iconst (m_dk dk_L_isWay_0 4 rfl) (by decide) rfl) <|
  m_cn (pc := 9) (ok_istore (m_dk dk_L_isWay_0 5 rfl) rfl (by decide)) <|
  m_cn (pc := 11) (ok_iconst (m_dk dk_L_isWay_0 6 rfl) (by decide) rfl) <|
  m_cn (pc := 12) (ok_istore (m_dk dk_L_isWay_0 7 rfl) rfl (by decide)) <|
  m_cn (pc := 14) (ok_iload (m_dk dk_L_isWay_0 8 rfl) rfl) <|
  m_cn (pc := 16) (ok_bipush (m_dk dk_L_isWay_0 9 rfl) (by decide) rfl) <|
  m_cn (pc := 18) (ok_icmpge (m_dk dk_L_isWay_0 10 rfl) rfl rfl) <|
  m_cn (pc := 21) (ok_iconst (m_dk dk_L_isWay_0 11 rfl) (by decide) rfl) <|
  m_cn (pc := 22) (ok_istore (m_dk dk_L_isWay_0 12 rfl) rfl (by decide)) <|
  m_cn (pc := 24) (ok_iconst (m_dk dk_L_isWay_0 13 rfl) (by decide) rfl) <|
  m_cn (pc := 25) (ok_istore (m_dk dk_L_isWay_0 14 rfl) rfl (by decide)) <|
  m_cn (pc := 27) (ok_iload (m_dk dk_L_isWay_0 15 rfl) rfl) <|
  m_cn (pc := 29) (ok_bipush (m_dk dk_L_isWay_0 16 rfl) (by decide) rfl) <|
  m_cn (pc := 31) (ok_icmpge (m_dk dk_L_isWay_0 17 rfl) rfl rfl) <|
  m_cn (pc := 34) (ok_iload (m_dk dk_L_isWay_0 18 rfl) rfl) <|
  m_cn (pc := 36) (ok_iload_n (m_dk dk_L_isWay_0 19 rfl) rfl rfl) <|
  m_cn (pc := 37) (ok_iload (m_dk dk_L_isWay_0 20 rfl) rfl) <|
  m_cn (pc := 39) (ok_ishr (m_dk dk_L_isWay_0 21 rfl) rfl) <|
  m_cn (pc := 40) (ok_iconst (m_dk dk_L_isWay_0 22 rfl) (by decide) rfl) <|
  m_cn (pc := 41) (ok_iand (m_dk dk_L_isWay_0 23 rfl) rfl) <|
  m_cn (pc := 42) (ok_iconst (m_dk dk_L_isWay_0 24 rfl) (by decide) rfl) <|
  m_cn (pc := 43) (ok_icmpne (m_dk dk_L_isWay_0 25 rfl) rfl rfl) <|
  m_cn (pc := 46) (ok_aload_n (m_dk dk_L_isWay_0 26 rfl) rfl rfl) <|
  m_cn (pc := 47) (ok_iconst (m_dk dk_L_isWay_0 27 rfl) (by decide) rfl) <|
  m_cn (pc := 48) (ok_iload (m_dk dk_L_isWay_0 28 rfl) rfl) <|
  m_cn (pc := 50) (ok_imul (m_dk dk_L_isWay_0 29 rfl) rfl) <|
  m_cn (pc := 51) (ok_iald (m_dk dk_L_isWay_0 30 rfl) rfl) <|
  m_cn (pc := 52) (ok_iload (m_dk dk_L_isWay_0 31 rfl) rfl) <|
  m_cn (pc := 54) (ok_icmpeq (m_dk dk_L_isWay_0 32 rfl) rfl rfl) <|
  m_cn (pc := 57) (ok_aload_n (m_dk dk_L_isWay_0 33 rfl) rfl rfl) <|
  m_cn (pc := 58) (ok_iconst (m_dk dk_L_isWay_0 34 rfl) (by decide) rfl) <|
  m_cn (pc := 59) (ok_iload (m_dk dk_L_isWay_0 35 rfl) rfl) <|
  m_cn (pc := 61) (ok_imul (m_dk dk_L_isWay_0 36 rfl) rfl) <|
  m_cn (pc := 62) (ok_iconst (m_dk dk_L_isWay_0 37 rfl) (by decide) rfl) <|
  m_cn (pc := 63) (ok_iadd (m_dk dk_L_isWay_0 38 rfl) rfl) <|
  m_cn (pc := 64) (ok_iald (m_dk dk_L_isWay_0 39 rfl) rfl) <|
  m_cn (pc := 65) (ok_iload (m_dk dk_L_isWay_1 0 rfl) rfl) <|
  m_cn (pc := 67) (ok_icmpne (m_dk dk_L_isWay_1 1 rfl) rfl rfl) <|
  m_cn (pc := 70) (ok_iconst (m_dk dk_L_isWay_1 2 rfl) (by decide) rfl) <|
  m_cn (pc := 71) (ok_goto (nx := 0) (m_dk dk_L_isWay_1 3 rfl) rfl) <|
  m_cn (pc := 74) (ok_iconst (m_dk dk_L_isWay_1 4 rfl) (by decide) rfl) <|
  m_cn (pc := 75) (ok_iadd (m_dk dk_L_isWay_1 5 rfl) rfl) <|
  m_cn (pc := 76) (ok_istore (m_dk dk_L_isWay_1 6 rfl) rfl (by decide)) <|
  m_cn (pc := 78) (ok_iinc (m_dk dk_L_isWay_1 7 rfl) (by decide) rfl (by decide)) <|
  m_cn (pc := 81) (ok_goto (nx := 0) (m_dk dk_L_isWay_1 8 rfl) rfl) <|
  m_cn (pc := 84) (ok_iload (m_dk dk_L_isWay_1 9 rfl) rfl) <|
  m_cn (pc := 86) (ok_ifeq (m_dk dk_L_isWay_1 10 rfl) rfl rfl) <|
  m_cn (pc := 89) (ok_iload (m_dk dk_L_isWay_1 11 rfl) rfl) <|
  m_cn (pc := 91) (ok_iload_n (m_dk dk_L_isWay_1 12 rfl) rfl rfl) <|
  m_cn (pc := 92) (ok_icmpeq (m_dk dk_L_isWay_1 13 rfl) rfl rfl) <|
  m_cn (pc := 95) (ok_iload (m_dk dk_L_isWay_1 14 rfl) rfl) <|
  m_cn (pc := 97) (ok_iload_n (m_dk dk_L_isWay_1 15 rfl) rfl rfl) <|
  m_cn (pc := 98) (ok_icmpne (m_dk dk_L_isWay_1 16 rfl) rfl rfl) <|
  m_cn (pc := 101) (ok_iload (m_dk dk_L_isWay_1 17 rfl) rfl) <|
  m_cn (pc := 103) (ok_iconst (m_dk dk_L_isWay_1 18 rfl) (by decide) rfl) <|
  m_cn (pc := 104) (ok_icmpne (m_dk dk_L_isWay_1 19 rfl) rfl rfl) <|
  m_cn (pc := 107) (ok_goto (nx := 0) (m_dk dk_L_isWay_1 20 rfl) rfl) <|
  m_cn (pc := 110) (ok_iload (m_dk dk_L_isWay_1 21 rfl) rfl) <|
  m_cn (pc := 112) (ok_ifeq (m_dk dk_L_isWay_1 22 rfl) rfl rfl) <|
  m_cn (pc := 115) (ok_iload (m_dk dk_L_isWay_1 23 rfl) rfl) <|
  m_cn (pc := 117) (ok_iconst (m_dk dk_L_isWay_1 24 rfl) (by decide) rfl) <|
  m_cn (pc := 118) (ok_icmpne (m_dk dk_L_isWay_1 25 rfl) rfl rfl) <|
  m_cn (pc := 121) (ok_iconst (m_dk dk_L_isWay_1 26 rfl) (by decide) rfl) <|
  m_cn (pc := 122) (ok_goto (nx := 0) (m_dk dk_L_isWay_1 27 rfl) rfl) <|
  m_cn (pc := 125) (ok_iconst (m_dk dk_L_isWay_1 28 rfl) (by decide) rfl) <|
  m_cn (pc := 126) (ok_istore (m_dk dk_L_isWay_1 29 rfl) rfl (by decide)) <|
  m_cn (pc := 128) (ok_iinc (m_dk dk_L_isWay_1 30 rfl) (by decide) rfl (by decide)) <|
  m_cn (pc := 131) (ok_goto (nx := 0) (m_dk dk_L_isWay_1 31 rfl) rfl) <|
  m_cn (pc := 134) (ok_iload (m_dk dk_L_isWay_1 32 rfl) rfl) <|
  m_cn (pc := 136) (ok_zreturn (nx := 0) rfl (m_dk dk_L_isWay_1 33 rfl)) <|
  m_nl
theorem mk_L_isWay {GP : m_G → Prop} {cds : Nat → Nat → m_Op} (h : cds 99 = m_lk cd_L_isWay) : m_MOK GP m_my cds 99 := ⟨RL, false, [], by decide +kernel, rfl, (fun h9 => by first | rfl | cases h9), Or.inl ⟨rfl, rfl⟩, fun pc => by rw [h]; exact m_lk_ok _ ok_L_isWay pc⟩
def dl_L_passes_0 : List (Nat × Instr × Nat) := [(0, .aload_n 1, 1), (1, .iconst 4, 1), (2, .iaload, 1), (3, .sipush 500, 3), (6, .if_icmp .ne 19, 3), (9, .aload_n 0, 1), (10, .iconst 1, 1), (11, .invokestatic 123, 3), (14, .ldc 24, 2), (16, .if_icmp .ne 7, 3), (19, .iconst 1, 1), (20, .goto 4, 3), (23, .iconst 0, 1), (24, .ireturn, 1), (25, .iconst 0, 1), (26, .istore 6, 2), (28, .lconst 0, 1), (29, .lstore 7, 2), (31, .aload_n 0, 1), (32, .invokevirtual 125, 3), (35, .istore 9, 2), (37, .iconst 0, 1), (38, .istore 10, 2), (40, .iload 10, 2), (42, .aload_n 1, 1), (43, .iconst 0, 1), (44, .iaload, 1), (45, .if_icmp .ge 23, 3), (48, .iload 6, 2), (50, .aload_n 0, 1), (51, .iload 10, 2), (53, .invokestatic 96, 3), (56, .iload 10, 2), (58, .ishl, 1), (59, .ior, 1), (60, .istore 6, 2), (62, .iinc 10 1, 3), (65, .goto (-25), 3), (68, .iconst 0, 1), (69, .istore 10, 2)]
theorem dk_L_passes_0 : ∀ q ∈ dl_L_passes_0, decode cL_passes q.1 = .ok q.2 := by decide +kernel
def dl_L_passes_1 : List (Nat × Instr × Nat) := [(71, .iload 10, 2), (73, .bipush 36, 2), (75, .if_icmp .ge 29, 3), (78, .lload 7, 2), (80, .aload_n 0, 1), (81, .iload 10, 2), (83, .bipush 6, 2), (85, .idiv, 1), (86, .iload 10, 2), (88, .bipush 6, 2), (90, .irem, 1), (91, .invokestatic 129, 3), (94, .i2l, 1), (95, .ladd, 1), (96, .lstore 7, 2), (98, .iinc 10 1, 3), (101, .goto (-30), 3), (104, .aload_n 1, 1), (105, .iconst 4, 1), (106, .dup2, 1), (107, .iaload, 1), (108, .iconst 1, 1), (109, .iadd, 1), (110, .iastore, 1), (111, .aload_n 0, 1), (112, .iconst 1, 1), (113, .invokestatic 123, 3), (116, .aload_n 1, 1), (117, .iconst 4, 1), (118, .iaload, 1), (119, .if_icmp .ne 7, 3), (122, .iconst 1, 1), (123, .goto 4, 3), (126, .iconst 0, 1), (127, .istore 10, 2), (129, .bipush 10, 2), (131, .newarray .int, 2), (133, .astore 11, 2), (135, .lconst 0, 1), (136, .lstore 12, 2)]
theorem dk_L_passes_1 : ∀ q ∈ dl_L_passes_1, decode cL_passes q.1 = .ok q.2 := by decide +kernel
def dl_L_passes_2 : List (Nat × Instr × Nat) := [(138, .iconst 0, 1), (139, .istore 14, 2), (141, .iload 14, 2), (143, .aload_n 1, 1), (144, .iconst 1, 1), (145, .iaload, 1), (146, .if_icmp .ge 200, 3), (149, .aload_n 0, 1), (150, .iload 14, 2), (152, .invokestatic 101, 3), (155, .istore 15, 2), (157, .aload_n 0, 1), (158, .iload 14, 2), (160, .invokestatic 103, 3), (163, .istore 16, 2), (165, .aload_n 3, 1), (166, .iconst 4, 1), (167, .iload 14, 2), (169, .imul, 1), (170, .iconst 3, 1), (171, .iadd, 1), (172, .iaload, 1), (173, .istore 17, 2), (175, .iconst 0, 1), (176, .istore 18, 2), (178, .iconst 0, 1), (179, .istore 19, 2), (181, .iload 19, 2), (183, .aload_n 1, 1), (184, .iconst 0, 1), (185, .iaload, 1), (186, .if_icmp .ge 66, 3), (189, .iload 15, 2), (191, .ifCond .lt 18, 3), (194, .iload 15, 2), (196, .iload 19, 2), (198, .ishr, 1), (199, .iconst 1, 1), (200, .iand, 1), (201, .iconst 1, 1)]
theorem dk_L_passes_2 : ∀ q ∈ dl_L_passes_2, decode cL_passes q.1 = .ok q.2 := by decide +kernel
def dl_L_passes_3 : List (Nat × Instr × Nat) := [(202, .if_icmp .ne 7, 3), (205, .iconst 1, 1), (206, .goto 4, 3), (209, .iconst 0, 1), (210, .istore 20, 2), (212, .aload 11, 2), (214, .iload 19, 2), (216, .dup2, 1), (217, .iaload, 1), (218, .iload 20, 2), (220, .ifCond .eq 8, 3), (223, .iload 17, 2), (225, .goto 4, 3), (228, .iconst 0, 1), (229, .iadd, 1), (230, .iastore, 1), (231, .iload 18, 2), (233, .iload 20, 2), (235, .ifCond .eq 7, 3), (238, .iconst 1, 1), (239, .goto 4, 3), (242, .iconst 0, 1), (243, .iadd, 1), (244, .istore 18, 2), (246, .iinc 19 1, 3), (249, .goto (-68), 3), (252, .lload 12, 2), (254, .ldc2_w 131, 3), (257, .iload 16, 2), (259, .i2l, 1), (260, .lmul, 1), (261, .ladd, 1), (262, .lstore 12, 2), (264, .iload 10, 2), (266, .ifCond .eq 71, 3), (269, .iload 15, 2), (271, .iconst (-1), 1), (272, .if_icmp .ne 11, 3), (275, .iload 16, 2), (277, .ifCond .ne 60, 3)]
theorem dk_L_passes_3 : ∀ q ∈ dl_L_passes_3, decode cL_passes q.1 = .ok q.2 := by decide +kernel
def dl_L_passes_4 : List (Nat × Instr × Nat) := [(280, .goto 53, 3), (283, .iload 16, 2), (285, .ifCond .lt 52, 3), (288, .iload 16, 2), (290, .iload 17, 2), (292, .iload 18, 2), (294, .imul, 1), (295, .if_icmp .gt 42, 3), (298, .iload 15, 2), (300, .iload 6, 2), (302, .iconst (-1), 1), (303, .ixor, 1), (304, .iand, 1), (305, .ifCond .ne 32, 3), (308, .aload_n 2, 1), (309, .iload 15, 2), (311, .aload_n 3, 1), (312, .iconst 4, 1), (313, .iload 14, 2), (315, .imul, 1), (316, .iconst 1, 1), (317, .iadd, 1), (318, .iaload, 1), (319, .aload_n 3, 1), (320, .iconst 4, 1), (321, .iload 14, 2), (323, .imul, 1), (324, .iconst 2, 1), (325, .iadd, 1), (326, .iaload, 1), (327, .invokestatic 133, 3), (330, .ifCond .eq 7, 3), (333, .iconst 1, 1), (334, .goto 4, 3), (337, .iconst 0, 1), (338, .istore 10, 2), (340, .iinc 14 1, 3), (343, .goto (-202), 3), (346, .lconst 0, 1), (347, .lstore 14, 2)]
theorem dk_L_passes_4 : ∀ q ∈ dl_L_passes_4, decode cL_passes q.1 = .ok q.2 := by decide +kernel
def dl_L_passes_5 : List (Nat × Instr × Nat) := [(349, .aload_n 0, 1), (350, .invokevirtual 125, 3), (353, .i2l, 1), (354, .lstore 16, 2), (356, .iconst 0, 1), (357, .istore 18, 2), (359, .iload 18, 2), (361, .bipush 36, 2), (363, .if_icmp .ge 29, 3), (366, .lload 14, 2), (368, .aload_n 0, 1), (369, .iload 18, 2), (371, .bipush 6, 2), (373, .idiv, 1), (374, .iload 18, 2), (376, .bipush 6, 2), (378, .irem, 1), (379, .invokestatic 129, 3), (382, .i2l, 1), (383, .ladd, 1), (384, .lstore 14, 2), (386, .iinc 18 1, 3), (389, .goto (-30), 3), (392, .iconst (-1), 1), (393, .istore 18, 2), (395, .iload 18, 2), (397, .bipush 6, 2), (399, .if_icmp .ge 21, 3), (402, .lload 16, 2), (404, .aload_n 0, 1), (405, .iload 18, 2), (407, .invokestatic 108, 3), (410, .i2l, 1), (411, .ladd, 1), (412, .lstore 16, 2), (414, .iinc 18 1, 3), (417, .goto (-22), 3), (420, .iconst 0, 1), (421, .istore 18, 2), (423, .iload 18, 2)]
theorem dk_L_passes_5 : ∀ q ∈ dl_L_passes_5, decode cL_passes q.1 = .ok q.2 := by decide +kernel
def dl_L_passes_6 : List (Nat × Instr × Nat) := [(425, .aload_n 1, 1), (426, .iconst 0, 1), (427, .iaload, 1), (428, .if_icmp .ge 76, 3), (431, .iconst 0, 1), (432, .istore 19, 2), (434, .iconst 0, 1), (435, .istore 20, 2), (437, .iload 20, 2), (439, .bipush 6, 2), (441, .if_icmp .ge 22, 3), (444, .iload 19, 2), (446, .aload_n 0, 1), (447, .iload 18, 2), (449, .iload 20, 2), (451, .invokestatic 93, 3), (454, .iadd, 1), (455, .istore 19, 2), (457, .iinc 20 1, 3), (460, .goto (-23), 3), (463, .iload 10, 2), (465, .ifCond .eq 30, 3), (468, .iload 19, 2), (470, .aload_n 2, 1), (471, .iconst 4, 1), (472, .iload 18, 2), (474, .imul, 1), (475, .iconst 2, 1), (476, .iadd, 1), (477, .iaload, 1), (478, .if_icmp .ne 17, 3), (481, .aload 11, 2), (483, .iload 18, 2), (485, .iaload, 1), (486, .iload 19, 2), (488, .if_icmp .gt 7, 3), (491, .iconst 1, 1), (492, .goto 4, 3), (495, .iconst 0, 1), (496, .istore 10, 2)]
theorem dk_L_passes_6 : ∀ q ∈ dl_L_passes_6, decode cL_passes q.1 = .ok q.2 := by decide +kernel
def dl_L_passes_7 : List (Nat × Instr × Nat) := [(498, .iinc 18 1, 3), (501, .goto (-78), 3), (504, .iconst 0, 1), (505, .istore 18, 2), (507, .iload 18, 2), (509, .aload_n 1, 1), (510, .iconst 3, 1), (511, .iaload, 1), (512, .if_icmp .ge 42, 3), (515, .iload 10, 2), (517, .ifCond .eq 28, 3), (520, .aload_n 0, 1), (521, .iload 18, 2), (523, .invokestatic 137, 3), (526, .ifCond .lt 19, 3), (529, .aload_n 0, 1), (530, .iload 18, 2), (532, .invokestatic 137, 3), (535, .sipush 1000, 3), (538, .if_icmp .gt 7, 3), (541, .iconst 1, 1), (542, .goto 4, 3), (545, .iconst 0, 1), (546, .istore 10, 2), (548, .iinc 18 1, 3), (551, .goto (-44), 3), (554, .iconst 0, 1), (555, .istore 18, 2), (557, .iload 18, 2), (559, .aload_n 1, 1), (560, .iconst 2, 1), (561, .iaload, 1), (562, .if_icmp .ge 64, 3), (565, .iload 10, 2), (567, .ifCond .eq 50, 3), (570, .aload_n 0, 1), (571, .iload 18, 2), (573, .invokestatic 139, 3), (576, .ifCond .lt 41, 3), (579, .aload_n 0, 1)]
theorem dk_L_passes_7 : ∀ q ∈ dl_L_passes_7, decode cL_passes q.1 = .ok q.2 := by decide +kernel
def dl_L_passes_8 : List (Nat × Instr × Nat) := [(580, .iload 18, 2), (582, .invokestatic 139, 3), (585, .iconst 5, 1), (586, .if_icmp .gt 31, 3), (589, .aload_n 0, 1), (590, .iload 18, 2), (592, .invokestatic 139, 3), (595, .iconst 5, 1), (596, .if_icmp .eq 17, 3), (599, .aload_n 0, 1), (600, .aload_n 2, 1), (601, .bipush 40, 2), (603, .iload 18, 2), (605, .iadd, 1), (606, .iaload, 1), (607, .invokestatic 96, 3), (610, .ifCond .ne 7, 3), (613, .iconst 1, 1), (614, .goto 4, 3), (617, .iconst 0, 1), (618, .istore 10, 2), (620, .iinc 18 1, 3), (623, .goto (-66), 3), (626, .iload 5, 2), (628, .bipush 36, 2), (630, .invokestatic 85, 3), (633, .istore 18, 2), (635, .aload 4, 2), (637, .iconst 0, 1), (638, .dup2, 1), (639, .iaload, 1), (640, .iconst 1, 1), (641, .iadd, 1), (642, .iastore, 1), (643, .iload 10, 2), (645, .ifCond .eq 47, 3), (648, .aload 4, 2), (650, .iconst 0, 1), (651, .iaload, 1), (652, .bipush 12, 2)]
theorem dk_L_passes_8 : ∀ q ∈ dl_L_passes_8, decode cL_passes q.1 = .ok q.2 := by decide +kernel
def dl_L_passes_9 : List (Nat × Instr × Nat) := [(654, .if_icmp .gt 34, 3), (657, .aload_n 0, 1), (658, .iload 18, 2), (660, .bipush 6, 2), (662, .idiv, 1), (663, .iload 18, 2), (665, .bipush 6, 2), (667, .irem, 1), (668, .invokestatic 141, 3), (671, .aload_n 0, 1), (672, .iload 18, 2), (674, .bipush 6, 2), (676, .idiv, 1), (677, .iload 18, 2), (679, .bipush 6, 2), (681, .irem, 1), (682, .invokestatic 129, 3), (685, .if_icmp .ne 7, 3), (688, .iconst 1, 1), (689, .goto 4, 3), (692, .iconst 0, 1), (693, .istore 10, 2), (695, .iload 10, 2), (697, .ifCond .eq 79, 3), (700, .lload 16, 2), (702, .lconst 0, 1), (703, .lcmp, 1), (704, .ifCond .ne 72, 3), (707, .lload 14, 2), (709, .lload 7, 2), (711, .lsub, 1), (712, .lload 12, 2), (714, .lcmp, 1), (715, .ifCond .lt 61, 3), (718, .lload 14, 2), (720, .lload 7, 2), (722, .lsub, 1), (723, .ldc2_w 143, 3), (726, .lload 12, 2), (728, .lmul, 1)]
theorem dk_L_passes_9 : ∀ q ∈ dl_L_passes_9, decode cL_passes q.1 = .ok q.2 := by decide +kernel
def dl_L_passes_10 : List (Nat × Instr × Nat) := [(729, .lcmp, 1), (730, .ifCond .gt 46, 3), (733, .lload 14, 2), (735, .lload 7, 2), (737, .lsub, 1), (738, .ldc2_w 131, 3), (741, .lrem, 1), (742, .lconst 0, 1), (743, .lcmp, 1), (744, .ifCond .ne 32, 3), (747, .aload_n 0, 1), (748, .invokevirtual 125, 3), (751, .iload 9, 2), (753, .if_icmp .lt 23, 3), (756, .aload_n 0, 1), (757, .invokevirtual 125, 3), (760, .iload 9, 2), (762, .bipush 20, 2), (764, .aload_n 1, 1), (765, .iconst 3, 1), (766, .iaload, 1), (767, .imul, 1), (768, .iadd, 1), (769, .if_icmp .gt 7, 3), (772, .iconst 1, 1), (773, .goto 4, 3), (776, .iconst 0, 1), (777, .ireturn, 1)]
theorem dk_L_passes_10 : ∀ q ∈ dl_L_passes_10, decode cL_passes q.1 = .ok q.2 := by decide +kernel
def cd_L_passes : List (Nat × m_Op) := [(0, o_aload 1 1), (1, o_const (4) 2), (2, o_iald 0 3), (3, o_const (500) 6), (6, o_icmpne 25 9), (9, o_aload 0 10), (10, o_const (1) 11), (11, o_call 86 2 2 12 14), (14, o_const (-1000003) 16), (16, o_icmpne 23 19), (19, o_const (1) 20), (20, o_goto 24), (23, o_const (0) 24), (24, o_zreturn), (25, o_const (0) 26), (26, o_istW 6 28), (28, o_lconst 0 29), (29, o_lstore 7 31), (31, o_aload 0 32), (32, o_callv 7 39 1 0 0 35), (35, o_istW 9 37), (37, o_const (0) 38), (38, o_istW 10 40), (40, o_iload 10 42), (42, o_aload 1 43), (43, o_const (0) 44), (44, o_iald 0 45), (45, o_icmpge 68 48), (48, o_iload 6 50), (50, o_aload 0 51), (51, o_iload 10 53), (53, o_call 88 2 1 6 56), (56, o_iload 10 58), (58, o_bin (fun x y => x <<< (y &&& 31)) 59), (59, o_bin (fun x y => x ||| y) 60), (60, o_istW 6 62), (62, o_iincW 10 (1) 65), (65, o_goto 40), (68, o_const (0) 69), (69, o_istW 10 71), (71, o_iload 10 73), (73, o_const (36) 75), (75, o_icmpge 104 78), (78, o_lload 7 80), (80, o_aload 0 81), (81, o_iload 10 83), (83, o_const (6) 85), (85, o_div (fun x y => x / y) 86), (86, o_iload 10 88), (88, o_const (6) 90), (90, o_div (fun x y => x - x / y * y) 91), (91, o_call 91 3 2 12 94), (94, o_i2l 95), (95, o_lbin (fun x y => x + y) 96), (96, o_lstore 7 98), (98, o_iincW 10 (1) 101), (101, o_goto 71), (104, o_aload 1 105), (105, o_const (4) 106), (106, o_dup2 107), (107, o_iald 0 108), (108, o_const (1) 109), (109, o_bin (fun x y => x + y) 110), (110, o_iast 111), (111, o_aload 0 112), (112, o_const (1) 113), (113, o_call 86 2 2 12 116), (116, o_aload 1 117), (117, o_const (4) 118), (118, o_iald 0 119), (119, o_icmpne 126 122), (122, o_const (1) 123), (123, o_goto 127), (126, o_const (0) 127), (127, o_istW 10 129), (129, o_const (10) 131), (131, o_newi 0 10 133), (133, o_astW 11 135), (135, o_lconst 0 136), (136, o_lstore 12 138), (138, o_const (0) 139), (139, o_istW 14 141), (141, o_iload 14 143), (143, o_aload 1 144), (144, o_const (1) 145), (145, o_iald 0 146), (146, o_icmpge 346 149), (149, o_aload 0 150), (150, o_iload 14 152), (152, o_call 89 2 1 6 155), (155, o_istW 15 157), (157, o_aload 0 158), (158, o_iload 14 160), (160, o_call 90 2 1 6 163), (163, o_istW 16 165), (165, o_aload 3 166), (166, o_const (4) 167), (167, o_iload 14 169), (169, o_bin (fun x y => x * y) 170), (170, o_const (3) 171), (171, o_bin (fun x y => x + y) 172), (172, o_iald 0 173), (173, o_istW 17 175), (175, o_const (0) 176), (176, o_istW 18 178), (178, o_const (0) 179), (179, o_istW 19 181), (181, o_iload 19 183), (183, o_aload 1 184), (184, o_const (0) 185), (185, o_iald 0 186), (186, o_icmpge 252 189), (189, o_iload 15 191), (191, o_iflt 209 194), (194, o_iload 15 196), (196, o_iload 19 198), (198, o_bin (fun x y => x >>> (y &&& 31)) 199), (199, o_const (1) 200), (200, o_bin (fun x y => x &&& y) 201), (201, o_const (1) 202), (202, o_icmpne 209 205), (205, o_const (1) 206), (206, o_goto 210), (209, o_const (0) 210), (210, o_istW 20 212), (212, o_aload 11 214), (214, o_iload 19 216), (216, o_dup2 217), (217, o_iald 0 218), (218, o_iload 20 220), (220, o_ifeq 228 223), (223, o_iload 17 225), (225, o_goto 229), (228, o_const (0) 229), (229, o_bin (fun x y => x + y) 230), (230, o_iast 231), (231, o_iload 18 233), (233, o_iload 20 235), (235, o_ifeq 242 238), (238, o_const (1) 239), (239, o_goto 243), (242, o_const (0) 243), (243, o_bin (fun x y => x + y) 244), (244, o_istW 18 246), (246, o_iincW 19 (1) 249), (249, o_goto 181), (252, o_lload 12 254), (254, o_lconst (200) 257), (257, o_iload 16 259), (259, o_i2l 260), (260, o_lbin (fun x y => x * y) 261), (261, o_lbin (fun x y => x + y) 262), (262, o_lstore 12 264), (264, o_iload 10 266), (266, o_ifeq 337 269), (269, o_iload 15 271), (271, o_const (-1) 272), (272, o_icmpne 283 275), (275, o_iload 16 277), (277, o_ifne 337 280), (280, o_goto 333), (283, o_iload 16 285), (285, o_iflt 337 288), (288, o_iload 16 290), (290, o_iload 17 292), (292, o_iload 18 294), (294, o_bin (fun x y => x * y) 295), (295, o_icmpgt 337 298), (298, o_iload 15 300), (300, o_iload 6 302), (302, o_const (-1) 303), (303, o_bin (fun x y => x ^^^ y) 304), (304, o_bin (fun x y => x &&& y) 305), (305, o_ifne 337 308), (308, o_aload 2 309), (309, o_iload 15 311), (311, o_aload 3 312), (312, o_const (4) 313), (313, o_iload 14 315), (315, o_bin (fun x y => x * y) 316), (316, o_const (1) 317), (317, o_bin (fun x y => x + y) 318), (318, o_iald 0 319), (319, o_aload 3 320), (320, o_const (4) 321), (321, o_iload 14 323), (323, o_bin (fun x y => x * y) 324), (324, o_const (2) 325), (325, o_bin (fun x y => x + y) 326), (326, o_iald 0 327), (327, o_call 99 4 0 0 330), (330, o_ifeq 337 333), (333, o_const (1) 334), (334, o_goto 338), (337, o_const (0) 338), (338, o_istW 10 340), (340, o_iincW 14 (1) 343), (343, o_goto 141), (346, o_lconst 0 347), (347, o_lstore 14 349), (349, o_aload 0 350), (350, o_callv 7 39 1 0 0 353), (353, o_i2l 354), (354, o_lstore 16 356), (356, o_const (0) 357), (357, o_istW 18 359), (359, o_iload 18 361), (361, o_const (36) 363), (363, o_icmpge 392 366), (366, o_lload 14 368), (368, o_aload 0 369), (369, o_iload 18 371), (371, o_const (6) 373), (373, o_div (fun x y => x / y) 374), (374, o_iload 18 376), (376, o_const (6) 378), (378, o_div (fun x y => x - x / y * y) 379), (379, o_call 91 3 2 12 382), (382, o_i2l 383), (383, o_lbin (fun x y => x + y) 384), (384, o_lstore 14 386), (386, o_iincW 18 (1) 389), (389, o_goto 359), (392, o_const (-1) 393), (393, o_istW 18 395), (395, o_iload 18 397), (397, o_const (6) 399), (399, o_icmpge 420 402), (402, o_lload 16 404), (404, o_aload 0 405), (405, o_iload 18 407), (407, o_call 93 2 1 6 410), (410, o_i2l 411), (411, o_lbin (fun x y => x + y) 412), (412, o_lstore 16 414), (414, o_iincW 18 (1) 417), (417, o_goto 395), (420, o_const (0) 421), (421, o_istW 18 423), (423, o_iload 18 425), (425, o_aload 1 426), (426, o_const (0) 427), (427, o_iald 0 428), (428, o_icmpge 504 431), (431, o_const (0) 432), (432, o_istW 19 434), (434, o_const (0) 435), (435, o_istW 20 437), (437, o_iload 20 439), (439, o_const (6) 441), (441, o_icmpge 463 444), (444, o_iload 19 446), (446, o_aload 0 447), (447, o_iload 18 449), (449, o_iload 20 451), (451, o_call 87 3 2 12 454), (454, o_bin (fun x y => x + y) 455), (455, o_istW 19 457), (457, o_iincW 20 (1) 460), (460, o_goto 437), (463, o_iload 10 465), (465, o_ifeq 495 468), (468, o_iload 19 470), (470, o_aload 2 471), (471, o_const (4) 472), (472, o_iload 18 474), (474, o_bin (fun x y => x * y) 475), (475, o_const (2) 476), (476, o_bin (fun x y => x + y) 477), (477, o_iald 0 478), (478, o_icmpne 495 481), (481, o_aload 11 483), (483, o_iload 18 485), (485, o_iald 0 486), (486, o_iload 19 488), (488, o_icmpgt 495 491), (491, o_const (1) 492), (492, o_goto 496), (495, o_const (0) 496), (496, o_istW 10 498), (498, o_iincW 18 (1) 501), (501, o_goto 423), (504, o_const (0) 505), (505, o_istW 18 507), (507, o_iload 18 509), (509, o_aload 1 510), (510, o_const (3) 511), (511, o_iald 0 512), (512, o_icmpge 554 515), (515, o_iload 10 517), (517, o_ifeq 545 520), (520, o_aload 0 521), (521, o_iload 18 523), (523, o_call 95 2 1 6 526), (526, o_iflt 545 529), (529, o_aload 0 530), (530, o_iload 18 532), (532, o_call 95 2 1 6 535), (535, o_const (1000) 538), (538, o_icmpgt 545 541), (541, o_const (1) 542), (542, o_goto 546), (545, o_const (0) 546), (546, o_istW 10 548), (548, o_iincW 18 (1) 551), (551, o_goto 507), (554, o_const (0) 555), (555, o_istW 18 557), (557, o_iload 18 559), (559, o_aload 1 560), (560, o_const (2) 561), (561, o_iald 0 562), (562, o_icmpge 626 565), (565, o_iload 10 567), (567, o_ifeq 617 570), (570, o_aload 0 571), (571, o_iload 18 573), (573, o_call 96 2 1 6 576), (576, o_iflt 617 579), (579, o_aload 0 580), (580, o_iload 18 582), (582, o_call 96 2 1 6 585), (585, o_const (5) 586), (586, o_icmpgt 617 589), (589, o_aload 0 590), (590, o_iload 18 592), (592, o_call 96 2 1 6 595), (595, o_const (5) 596), (596, o_icmpeq 613 599), (599, o_aload 0 600), (600, o_aload 2 601), (601, o_const (40) 603), (603, o_iload 18 605), (605, o_bin (fun x y => x + y) 606), (606, o_iald 0 607), (607, o_call 88 2 1 6 610), (610, o_ifne 617 613), (613, o_const (1) 614), (614, o_goto 618), (617, o_const (0) 618), (618, o_istW 10 620), (620, o_iincW 18 (1) 623), (623, o_goto 557), (626, o_iload 5 628), (628, o_const (36) 630), (630, o_call 77 2 0 0 633), (633, o_istW 18 635), (635, o_aload 4 637), (637, o_const (0) 638), (638, o_dup2 639), (639, o_iald 0 640), (640, o_const (1) 641), (641, o_bin (fun x y => x + y) 642), (642, o_iast 643), (643, o_iload 10 645), (645, o_ifeq 692 648), (648, o_aload 4 650), (650, o_const (0) 651), (651, o_iald 0 652), (652, o_const (12) 654), (654, o_icmpgt 688 657), (657, o_aload 0 658), (658, o_iload 18 660), (660, o_const (6) 662), (662, o_div (fun x y => x / y) 663), (663, o_iload 18 665), (665, o_const (6) 667), (667, o_div (fun x y => x - x / y * y) 668), (668, o_call 92 3 2 12 671), (671, o_aload 0 672), (672, o_iload 18 674), (674, o_const (6) 676), (676, o_div (fun x y => x / y) 677), (677, o_iload 18 679), (679, o_const (6) 681), (681, o_div (fun x y => x - x / y * y) 682), (682, o_call 91 3 2 12 685), (685, o_icmpne 692 688), (688, o_const (1) 689), (689, o_goto 693), (692, o_const (0) 693), (693, o_istW 10 695), (695, o_iload 10 697), (697, o_ifeq 776 700), (700, o_lload 16 702), (702, o_lconst 0 703), (703, o_lcmp 704), (704, o_ifne 776 707), (707, o_lload 14 709), (709, o_lload 7 711), (711, o_lbin (fun x y => x - y) 712), (712, o_lload 12 714), (714, o_lcmp 715), (715, o_iflt 776 718), (718, o_lload 14 720), (720, o_lload 7 722), (722, o_lbin (fun x y => x - y) 723), (723, o_lconst (5) 726), (726, o_lload 12 728), (728, o_lbin (fun x y => x * y) 729), (729, o_lcmp 730), (730, o_ifgt 776 733), (733, o_lload 14 735), (735, o_lload 7 737), (737, o_lbin (fun x y => x - y) 738), (738, o_lconst (200) 741), (741, o_ldiv (fun x y => x - x / y * y) 742), (742, o_lconst 0 743), (743, o_lcmp 744), (744, o_ifne 776 747), (747, o_aload 0 748), (748, o_callv 7 39 1 0 0 751), (751, o_iload 9 753), (753, o_icmplt 776 756), (756, o_aload 0 757), (757, o_callv 7 39 1 0 0 760), (760, o_iload 9 762), (762, o_const (20) 764), (764, o_aload 1 765), (765, o_const (3) 766), (766, o_iald 0 767), (767, o_bin (fun x y => x * y) 768), (768, o_bin (fun x y => x + y) 769), (769, o_icmpgt 776 772), (772, o_const (1) 773), (773, o_goto 777), (776, o_const (0) 777), (777, o_zreturn)]
set_option maxRecDepth 20000 in
set_option maxHeartbeats 4000000 in
theorem ok_L_passes {GP : m_G → Prop} : ∀ q ∈ cd_L_passes, m_OK GP m_my (cL_passes, 21, RL, false, (some .boolean), []) q.1 q.2 :=
  m_cn (pc := 0) (ok_aload_n (m_dk dk_L_passes_0 0 rfl) rfl rfl) <|
  m_cn (pc := 1) (ok_iconst (m_dk dk_L_passes_0 1 rfl) (by decide) rfl) <|
  m_cn (pc := 2) (ok_iald (m_dk dk_L_passes_0 2 rfl) rfl) <|
  m_cn (pc := 3) (ok_sipush (m_dk dk_L_passes_0 3 rfl) (by decide) rfl) <|
  m_cn (pc := 6) (ok_icmpne (m_dk dk_L_passes_0 4 rfl) rfl rfl) <|
  m_cn (pc := 9) (ok_aload_n (m_dk dk_L_passes_0 5 rfl) rfl rfl) <|
  m_cn (pc := 10) (ok_iconst (m_dk dk_L_passes_0 6 rfl) (by decide) rfl) <|
  m_cn (pc := 11) (ok_callsw (hh9 := hh_L_pass) (T := mt_L_pass) my_L_pass rfl cw_L_pass rfl rfl (by decide) wd_189 wd_190 wd_0 (by decide +kernel) (m_dk dk_L_passes_0 7 rfl) rfl) <|
  m_cn (pc := 14) (ok_ldc (m_dk dk_L_passes_0 8 rfl) wd_372 rfl) <|
  m_cn (pc := 16) (ok_icmpne (m_dk dk_L_passes_0 9 rfl) rfl rfl) <|
  m_cn (pc := 19) (ok_iconst (m_dk dk_L_passes_0 10 rfl) (by decide) rfl) <|
  m_cn (pc := 20) (ok_goto (nx := 0) (m_dk dk_L_passes_0 11 rfl) rfl) <|
  m_cn (pc := 23) (ok_iconst (m_dk dk_L_passes_0 12 rfl) (by decide) rfl) <|
  m_cn (pc := 24) (ok_zreturn (nx := 0) rfl (m_dk dk_L_passes_0 13 rfl)) <|
  m_cn (pc := 25) (ok_iconst (m_dk dk_L_passes_0 14 rfl) (by decide) rfl) <|
  m_cn (pc := 26) (ok_istW (m_dk dk_L_passes_0 15 rfl) rfl rfl) <|
  m_cn (pc := 28) (ok_lconst (m_dk dk_L_passes_0 16 rfl) (by decide) rfl) <|
  m_cn (pc := 29) (ok_lstore (m_dk dk_L_passes_0 17 rfl) rfl rfl) <|
  m_cn (pc := 31) (ok_aload_n (m_dk dk_L_passes_0 18 rfl) rfl rfl) <|
  m_cn (pc := 32) (ok_callv (T := mt_X6_spent) my_X6_spent rfl cw_X6_spent rfl rfl (by decide) (r9 := (RX6, TX6, 15)) rfl rfl wd_180 wd_181 wd_182 wd_1 (by decide +kernel) (m_dk dk_L_passes_0 19 rfl) rfl) <|
  m_cn (pc := 35) (ok_istW (m_dk dk_L_passes_0 20 rfl) rfl rfl) <|
  m_cn (pc := 37) (ok_iconst (m_dk dk_L_passes_0 21 rfl) (by decide) rfl) <|
  m_cn (pc := 38) (ok_istW (m_dk dk_L_passes_0 22 rfl) rfl rfl) <|
  m_cn (pc := 40) (ok_iload (m_dk dk_L_passes_0 23 rfl) rfl) <|
  m_cn (pc := 42) (ok_aload_n (m_dk dk_L_passes_0 24 rfl) rfl rfl) <|
  m_cn (pc := 43) (ok_iconst (m_dk dk_L_passes_0 25 rfl) (by decide) rfl) <|
  m_cn (pc := 44) (ok_iald (m_dk dk_L_passes_0 26 rfl) rfl) <|
  m_cn (pc := 45) (ok_icmpge (m_dk dk_L_passes_0 27 rfl) rfl rfl) <|
  m_cn (pc := 48) (ok_iload (m_dk dk_L_passes_0 28 rfl) rfl) <|
  m_cn (pc := 50) (ok_aload_n (m_dk dk_L_passes_0 29 rfl) rfl rfl) <|
  m_cn (pc := 51) (ok_iload (m_dk dk_L_passes_0 30 rfl) rfl) <|
  m_cn (pc := 53) (ok_callsw (hh9 := hh_L_isWhole) (T := mt_L_isWhole) my_L_isWhole rfl cw_L_isWhole rfl rfl (by decide) wd_477 wd_478 wd_0 (by decide +kernel) (m_dk dk_L_passes_0 31 rfl) rfl) <|
  m_cn (pc := 56) (ok_iload (m_dk dk_L_passes_0 32 rfl) rfl) <|
  m_cn (pc := 58) (ok_ishl (m_dk dk_L_passes_0 33 rfl) rfl) <|
  m_cn (pc := 59) (ok_ior (m_dk dk_L_passes_0 34 rfl) rfl) <|
  m_cn (pc := 60) (ok_istW (m_dk dk_L_passes_0 35 rfl) rfl rfl) <|
  m_cn (pc := 62) (ok_iincW (m_dk dk_L_passes_0 36 rfl) (by decide) rfl rfl) <|
  m_cn (pc := 65) (ok_goto (nx := 0) (m_dk dk_L_passes_0 37 rfl) rfl) <|
  m_cn (pc := 68) (ok_iconst (m_dk dk_L_passes_0 38 rfl) (by decide) rfl) <|
  m_cn (pc := 69) (ok_istW (m_dk dk_L_passes_0 39 rfl) rfl rfl) <|
  m_cn (pc := 71) (ok_iload (m_dk dk_L_passes_1 0 rfl) rfl) <|
  m_cn (pc := 73) (ok_bipush (m_dk dk_L_passes_1 1 rfl) (by decide) rfl) <|
  m_cn (pc := 75) (ok_icmpge (m_dk dk_L_passes_1 2 rfl) rfl rfl) <|
  m_cn (pc := 78) (ok_lload (m_dk dk_L_passes_1 3 rfl) rfl) <|
  m_cn (pc := 80) (ok_aload_n (m_dk dk_L_passes_1 4 rfl) rfl rfl) <|
  m_cn (pc := 81) (ok_iload (m_dk dk_L_passes_1 5 rfl) rfl) <|
  m_cn (pc := 83) (ok_bipush (m_dk dk_L_passes_1 6 rfl) (by decide) rfl) <|
  m_cn (pc := 85) (ok_idiv (m_dk dk_L_passes_1 7 rfl) rfl) <|
  m_cn (pc := 86) (ok_iload (m_dk dk_L_passes_1 8 rfl) rfl) <|
  m_cn (pc := 88) (ok_bipush (m_dk dk_L_passes_1 9 rfl) (by decide) rfl) <|
  m_cn (pc := 90) (ok_irem (m_dk dk_L_passes_1 10 rfl) rfl) <|
  m_cn (pc := 91) (ok_callsw (hh9 := hh_L_owes) (T := mt_L_owes) my_L_owes rfl cw_L_owes rfl rfl (by decide) wd_747 wd_748 wd_0 (by decide +kernel) (m_dk dk_L_passes_1 11 rfl) rfl) <|
  m_cn (pc := 94) (ok_i2l (m_dk dk_L_passes_1 12 rfl) rfl) <|
  m_cn (pc := 95) (ok_ladd (m_dk dk_L_passes_1 13 rfl) rfl) <|
  m_cn (pc := 96) (ok_lstore (m_dk dk_L_passes_1 14 rfl) rfl rfl) <|
  m_cn (pc := 98) (ok_iincW (m_dk dk_L_passes_1 15 rfl) (by decide) rfl rfl) <|
  m_cn (pc := 101) (ok_goto (nx := 0) (m_dk dk_L_passes_1 16 rfl) rfl) <|
  m_cn (pc := 104) (ok_aload_n (m_dk dk_L_passes_1 17 rfl) rfl rfl) <|
  m_cn (pc := 105) (ok_iconst (m_dk dk_L_passes_1 18 rfl) (by decide) rfl) <|
  m_cn (pc := 106) (ok_dup2 (m_dk dk_L_passes_1 19 rfl) rfl) <|
  m_cn (pc := 107) (ok_iald (m_dk dk_L_passes_1 20 rfl) rfl) <|
  m_cn (pc := 108) (ok_iconst (m_dk dk_L_passes_1 21 rfl) (by decide) rfl) <|
  m_cn (pc := 109) (ok_iadd (m_dk dk_L_passes_1 22 rfl) rfl) <|
  m_cn (pc := 110) (ok_iast (m_dk dk_L_passes_1 23 rfl) rfl) <|
  m_cn (pc := 111) (ok_aload_n (m_dk dk_L_passes_1 24 rfl) rfl rfl) <|
  m_cn (pc := 112) (ok_iconst (m_dk dk_L_passes_1 25 rfl) (by decide) rfl) <|
  m_cn (pc := 113) (ok_callsw (hh9 := hh_L_pass) (T := mt_L_pass) my_L_pass rfl cw_L_pass rfl rfl (by decide) wd_189 wd_190 wd_0 (by decide +kernel) (m_dk dk_L_passes_1 26 rfl) rfl) <|
  m_cn (pc := 116) (ok_aload_n (m_dk dk_L_passes_1 27 rfl) rfl rfl) <|
  m_cn (pc := 117) (ok_iconst (m_dk dk_L_passes_1 28 rfl) (by decide) rfl) <|
  m_cn (pc := 118) (ok_iald (m_dk dk_L_passes_1 29 rfl) rfl) <|
  m_cn (pc := 119) (ok_icmpne (m_dk dk_L_passes_1 30 rfl) rfl rfl) <|
  m_cn (pc := 122) (ok_iconst (m_dk dk_L_passes_1 31 rfl) (by decide) rfl) <|
  m_cn (pc := 123) (ok_goto (nx := 0) (m_dk dk_L_passes_1 32 rfl) rfl) <|
  m_cn (pc := 126) (ok_iconst (m_dk dk_L_passes_1 33 rfl) (by decide) rfl) <|
  m_cn (pc := 127) (ok_istW (m_dk dk_L_passes_1 34 rfl) rfl rfl) <|
  m_cn (pc := 129) (ok_bipush (m_dk dk_L_passes_1 35 rfl) (by decide) rfl) <|
  m_cn (pc := 131) (ok_newi wd_102 (by decide) (m_dk dk_L_passes_1 36 rfl) rfl) <|
  m_cn (pc := 133) (ok_astW (m_dk dk_L_passes_1 37 rfl) rfl rfl) <|
  m_cn (pc := 135) (ok_lconst (m_dk dk_L_passes_1 38 rfl) (by decide) rfl) <|
  m_cn (pc := 136) (ok_lstore (m_dk dk_L_passes_1 39 rfl) rfl rfl) <|
  m_cn (pc := 138) (ok_iconst (m_dk dk_L_passes_2 0 rfl) (by decide) rfl) <|
  m_cn (pc := 139) (ok_istW (m_dk dk_L_passes_2 1 rfl) rfl rfl) <|
  m_cn (pc := 141) (ok_iload (m_dk dk_L_passes_2 2 rfl) rfl) <|
  m_cn (pc := 143) (ok_aload_n (m_dk dk_L_passes_2 3 rfl) rfl rfl) <|
  m_cn (pc := 144) (ok_iconst (m_dk dk_L_passes_2 4 rfl) (by decide) rfl) <|
  m_cn (pc := 145) (ok_iald (m_dk dk_L_passes_2 5 rfl) rfl) <|
  m_cn (pc := 146) (ok_icmpge (m_dk dk_L_passes_2 6 rfl) rfl rfl) <|
  m_cn (pc := 149) (ok_aload_n (m_dk dk_L_passes_2 7 rfl) rfl rfl) <|
  m_cn (pc := 150) (ok_iload (m_dk dk_L_passes_2 8 rfl) rfl) <|
  m_cn (pc := 152) (ok_callsw (hh9 := hh_L_way) (T := mt_L_way) my_L_way rfl cw_L_way rfl rfl (by decide) wd_524 wd_525 wd_0 (by decide +kernel) (m_dk dk_L_passes_2 9 rfl) rfl) <|
  m_cn (pc := 155) (ok_istW (m_dk dk_L_passes_2 10 rfl) rfl rfl) <|
  m_cn (pc := 157) (ok_aload_n (m_dk dk_L_passes_2 11 rfl) rfl rfl) <|
  m_cn (pc := 158) (ok_iload (m_dk dk_L_passes_2 12 rfl) rfl) <|
  m_cn (pc := 160) (ok_callsw (hh9 := hh_L_lent) (T := mt_L_lent) my_L_lent rfl cw_L_lent rfl rfl (by decide) wd_531 wd_532 wd_0 (by decide +kernel) (m_dk dk_L_passes_2 13 rfl) rfl) <|
  m_cn (pc := 163) (ok_istW (m_dk dk_L_passes_2 14 rfl) rfl rfl) <|
  m_cn (pc := 165) (ok_aload_n (m_dk dk_L_passes_2 15 rfl) rfl rfl) <|
  m_cn (pc := 166) (ok_iconst (m_dk dk_L_passes_2 16 rfl) (by decide) rfl) <|
  m_cn (pc := 167) (ok_iload (m_dk dk_L_passes_2 17 rfl) rfl) <|
  m_cn (pc := 169) (ok_imul (m_dk dk_L_passes_2 18 rfl) rfl) <|
  m_cn (pc := 170) (ok_iconst (m_dk dk_L_passes_2 19 rfl) (by decide) rfl) <|
  m_cn (pc := 171) (ok_iadd (m_dk dk_L_passes_2 20 rfl) rfl) <|
  m_cn (pc := 172) (ok_iald (m_dk dk_L_passes_2 21 rfl) rfl) <|
  m_cn (pc := 173) (ok_istW (m_dk dk_L_passes_2 22 rfl) rfl rfl) <|
  m_cn (pc := 175) (ok_iconst (m_dk dk_L_passes_2 23 rfl) (by decide) rfl) <|
  m_cn (pc := 176) (ok_istW (m_dk dk_L_passes_2 24 rfl) rfl rfl) <|
  m_cn (pc := 178) (ok_iconst (m_dk dk_L_passes_2 25 rfl) (by decide) rfl) <|
  m_cn (pc := 179) (ok_istW (m_dk dk_L_passes_2 26 rfl) rfl rfl) <|
  m_cn (pc := 181) (ok_iload (m_dk dk_L_passes_2 27 rfl) rfl) <|
  m_cn (pc := 183) (ok_aload_n (m_dk dk_L_passes_2 28 rfl) rfl rfl) <|
  m_cn (pc := 184) (ok_iconst (m_dk dk_L_passes_2 29 rfl) (by decide) rfl) <|
  m_cn (pc := 185) (ok_iald (m_dk dk_L_passes_2 30 rfl) rfl) <|
  m_cn (pc := 186) (ok_icmpge (m_dk dk_L_passes_2 31 rfl) rfl rfl) <|
  m_cn (pc := 189) (ok_iload (m_dk dk_L_passes_2 32 rfl) rfl) <|
  m_cn (pc := 191) (ok_iflt (m_dk dk_L_passes_2 33 rfl) rfl rfl) <|
  m_cn (pc := 194) (ok_iload (m_dk dk_L_passes_2 34 rfl) rfl) <|
  m_cn (pc := 196) (ok_iload (m_dk dk_L_passes_2 35 rfl) rfl) <|
  m_cn (pc := 198) (ok_ishr (m_dk dk_L_passes_2 36 rfl) rfl) <|
  m_cn (pc := 199) (ok_iconst (m_dk dk_L_passes_2 37 rfl) (by decide) rfl) <|
  m_cn (pc := 200) (ok_iand (m_dk dk_L_passes_2 38 rfl) rfl) <|
  m_cn (pc := 201) (ok_iconst (m_dk dk_L_passes_2 39 rfl) (by decide) rfl) <|
  m_cn (pc := 202) (ok_icmpne (m_dk dk_L_passes_3 0 rfl) rfl rfl) <|
  m_cn (pc := 205) (ok_iconst (m_dk dk_L_passes_3 1 rfl) (by decide) rfl) <|
  m_cn (pc := 206) (ok_goto (nx := 0) (m_dk dk_L_passes_3 2 rfl) rfl) <|
  m_cn (pc := 209) (ok_iconst (m_dk dk_L_passes_3 3 rfl) (by decide) rfl) <|
  m_cn (pc := 210) (ok_istW (m_dk dk_L_passes_3 4 rfl) rfl rfl) <|
  m_cn (pc := 212) (ok_aload (m_dk dk_L_passes_3 5 rfl) rfl) <|
  m_cn (pc := 214) (ok_iload (m_dk dk_L_passes_3 6 rfl) rfl) <|
  m_cn (pc := 216) (ok_dup2 (m_dk dk_L_passes_3 7 rfl) rfl) <|
  m_cn (pc := 217) (ok_iald (m_dk dk_L_passes_3 8 rfl) rfl) <|
  m_cn (pc := 218) (ok_iload (m_dk dk_L_passes_3 9 rfl) rfl) <|
  m_cn (pc := 220) (ok_ifeq (m_dk dk_L_passes_3 10 rfl) rfl rfl) <|
  m_cn (pc := 223) (ok_iload (m_dk dk_L_passes_3 11 rfl) rfl) <|
  m_cn (pc := 225) (ok_goto (nx := 0) (m_dk dk_L_passes_3 12 rfl) rfl) <|
  m_cn (pc := 228) (ok_iconst (m_dk dk_L_passes_3 13 rfl) (by decide) rfl) <|
  m_cn (pc := 229) (ok_iadd (m_dk dk_L_passes_3 14 rfl) rfl) <|
  m_cn (pc := 230) (ok_iast (m_dk dk_L_passes_3 15 rfl) rfl) <|
  m_cn (pc := 231) (ok_iload (m_dk dk_L_passes_3 16 rfl) rfl) <|
  m_cn (pc := 233) (ok_iload (m_dk dk_L_passes_3 17 rfl) rfl) <|
  m_cn (pc := 235) (ok_ifeq (m_dk dk_L_passes_3 18 rfl) rfl rfl) <|
  m_cn (pc := 238) (ok_iconst (m_dk dk_L_passes_3 19 rfl) (by decide) rfl) <|
  m_cn (pc := 239) (ok_goto (nx := 0) (m_dk dk_L_passes_3 20 rfl) rfl) <|
  m_cn (pc := 242) (ok_iconst (m_dk dk_L_passes_3 21 rfl) (by decide) rfl) <|
  m_cn (pc := 243) (ok_iadd (m_dk dk_L_passes_3 22 rfl) rfl) <|
  m_cn (pc := 244) (ok_istW (m_dk dk_L_passes_3 23 rfl) rfl rfl) <|
  m_cn (pc := 246) (ok_iincW (m_dk dk_L_passes_3 24 rfl) (by decide) rfl rfl) <|
  m_cn (pc := 249) (ok_goto (nx := 0) (m_dk dk_L_passes_3 25 rfl) rfl) <|
  m_cn (pc := 252) (ok_lload (m_dk dk_L_passes_3 26 rfl) rfl) <|
  m_cn (pc := 254) (ok_ldc2 wd_754 (m_dk dk_L_passes_3 27 rfl) rfl) <|
  m_cn (pc := 257) (ok_iload (m_dk dk_L_passes_3 28 rfl) rfl) <|
  m_cn (pc := 259) (ok_i2l (m_dk dk_L_passes_3 29 rfl) rfl) <|
  m_cn (pc := 260) (ok_lmul (m_dk dk_L_passes_3 30 rfl) rfl) <|
  m_cn (pc := 261) (ok_ladd (m_dk dk_L_passes_3 31 rfl) rfl) <|
  m_cn (pc := 262) (ok_lstore (m_dk dk_L_passes_3 32 rfl) rfl rfl) <|
  m_cn (pc := 264) (ok_iload (m_dk dk_L_passes_3 33 rfl) rfl) <|
  m_cn (pc := 266) (ok_ifeq (m_dk dk_L_passes_3 34 rfl) rfl rfl) <|
  m_cn (pc := 269) (ok_iload (m_dk dk_L_passes_3 35 rfl) rfl) <|
  m_cn (pc := 271) (ok_iconst (m_dk dk_L_passes_3 36 rfl) (by decide) rfl) <|
  m_cn (pc := 272) (ok_icmpne (m_dk dk_L_passes_3 37 rfl) rfl rfl) <|
  m_cn (pc := 275) (ok_iload (m_dk dk_L_passes_3 38 rfl) rfl) <|
  m_cn (pc := 277) (ok_ifne (m_dk dk_L_passes_3 39 rfl) rfl rfl) <|
  m_cn (pc := 280) (ok_goto (nx := 0) (m_dk dk_L_passes_4 0 rfl) rfl) <|
  m_cn (pc := 283) (ok_iload (m_dk dk_L_passes_4 1 rfl) rfl) <|
  m_cn (pc := 285) (ok_iflt (m_dk dk_L_passes_4 2 rfl) rfl rfl) <|
  m_cn (pc := 288) (ok_iload (m_dk dk_L_passes_4 3 rfl) rfl) <|
  m_cn (pc := 290) (ok_iload (m_dk dk_L_passes_4 4 rfl) rfl) <|
  m_cn (pc := 292) (ok_iload (m_dk dk_L_passes_4 5 rfl) rfl) <|
  m_cn (pc := 294) (ok_imul (m_dk dk_L_passes_4 6 rfl) rfl) <|
  m_cn (pc := 295) (ok_icmpgt (m_dk dk_L_passes_4 7 rfl) rfl rfl) <|
  m_cn (pc := 298) (ok_iload (m_dk dk_L_passes_4 8 rfl) rfl) <|
  m_cn (pc := 300) (ok_iload (m_dk dk_L_passes_4 9 rfl) rfl) <|
  m_cn (pc := 302) (ok_iconst (m_dk dk_L_passes_4 10 rfl) (by decide) rfl) <|
  m_cn (pc := 303) (ok_ixor (m_dk dk_L_passes_4 11 rfl) rfl) <|
  m_cn (pc := 304) (ok_iand (m_dk dk_L_passes_4 12 rfl) rfl) <|
  m_cn (pc := 305) (ok_ifne (m_dk dk_L_passes_4 13 rfl) rfl rfl) <|
  m_cn (pc := 308) (ok_aload_n (m_dk dk_L_passes_4 14 rfl) rfl rfl) <|
  m_cn (pc := 309) (ok_iload (m_dk dk_L_passes_4 15 rfl) rfl) <|
  m_cn (pc := 311) (ok_aload_n (m_dk dk_L_passes_4 16 rfl) rfl rfl) <|
  m_cn (pc := 312) (ok_iconst (m_dk dk_L_passes_4 17 rfl) (by decide) rfl) <|
  m_cn (pc := 313) (ok_iload (m_dk dk_L_passes_4 18 rfl) rfl) <|
  m_cn (pc := 315) (ok_imul (m_dk dk_L_passes_4 19 rfl) rfl) <|
  m_cn (pc := 316) (ok_iconst (m_dk dk_L_passes_4 20 rfl) (by decide) rfl) <|
  m_cn (pc := 317) (ok_iadd (m_dk dk_L_passes_4 21 rfl) rfl) <|
  m_cn (pc := 318) (ok_iald (m_dk dk_L_passes_4 22 rfl) rfl) <|
  m_cn (pc := 319) (ok_aload_n (m_dk dk_L_passes_4 23 rfl) rfl rfl) <|
  m_cn (pc := 320) (ok_iconst (m_dk dk_L_passes_4 24 rfl) (by decide) rfl) <|
  m_cn (pc := 321) (ok_iload (m_dk dk_L_passes_4 25 rfl) rfl) <|
  m_cn (pc := 323) (ok_imul (m_dk dk_L_passes_4 26 rfl) rfl) <|
  m_cn (pc := 324) (ok_iconst (m_dk dk_L_passes_4 27 rfl) (by decide) rfl) <|
  m_cn (pc := 325) (ok_iadd (m_dk dk_L_passes_4 28 rfl) rfl) <|
  m_cn (pc := 326) (ok_iald (m_dk dk_L_passes_4 29 rfl) rfl) <|
  m_cn (pc := 327) (ok_calls (T := mt_L_isWay) my_L_isWay rfl cw_L_isWay rfl rfl (by decide) wd_755 wd_756 wd_0 (by decide +kernel) (m_dk dk_L_passes_4 30 rfl) rfl) <|
  m_cn (pc := 330) (ok_ifeq (m_dk dk_L_passes_4 31 rfl) rfl rfl) <|
  m_cn (pc := 333) (ok_iconst (m_dk dk_L_passes_4 32 rfl) (by decide) rfl) <|
  m_cn (pc := 334) (ok_goto (nx := 0) (m_dk dk_L_passes_4 33 rfl) rfl) <|
  m_cn (pc := 337) (ok_iconst (m_dk dk_L_passes_4 34 rfl) (by decide) rfl) <|
  m_cn (pc := 338) (ok_istW (m_dk dk_L_passes_4 35 rfl) rfl rfl) <|
  m_cn (pc := 340) (ok_iincW (m_dk dk_L_passes_4 36 rfl) (by decide) rfl rfl) <|
  m_cn (pc := 343) (ok_goto (nx := 0) (m_dk dk_L_passes_4 37 rfl) rfl) <|
  m_cn (pc := 346) (ok_lconst (m_dk dk_L_passes_4 38 rfl) (by decide) rfl) <|
  m_cn (pc := 347) (ok_lstore (m_dk dk_L_passes_4 39 rfl) rfl rfl) <|
  m_cn (pc := 349) (ok_aload_n (m_dk dk_L_passes_5 0 rfl) rfl rfl) <|
  m_cn (pc := 350) (ok_callv (T := mt_X6_spent) my_X6_spent rfl cw_X6_spent rfl rfl (by decide) (r9 := (RX6, TX6, 15)) rfl rfl wd_180 wd_181 wd_182 wd_1 (by decide +kernel) (m_dk dk_L_passes_5 1 rfl) rfl) <|
  m_cn (pc := 353) (ok_i2l (m_dk dk_L_passes_5 2 rfl) rfl) <|
  m_cn (pc := 354) (ok_lstore (m_dk dk_L_passes_5 3 rfl) rfl rfl) <|
  m_cn (pc := 356) (ok_iconst (m_dk dk_L_passes_5 4 rfl) (by decide) rfl) <|
  m_cn (pc := 357) (ok_istW (m_dk dk_L_passes_5 5 rfl) rfl rfl) <|
  m_cn (pc := 359) (ok_iload (m_dk dk_L_passes_5 6 rfl) rfl) <|
  m_cn (pc := 361) (ok_bipush (m_dk dk_L_passes_5 7 rfl) (by decide) rfl) <|
  m_cn (pc := 363) (ok_icmpge (m_dk dk_L_passes_5 8 rfl) rfl rfl) <|
  m_cn (pc := 366) (ok_lload (m_dk dk_L_passes_5 9 rfl) rfl) <|
  m_cn (pc := 368) (ok_aload_n (m_dk dk_L_passes_5 10 rfl) rfl rfl) <|
  m_cn (pc := 369) (ok_iload (m_dk dk_L_passes_5 11 rfl) rfl) <|
  m_cn (pc := 371) (ok_bipush (m_dk dk_L_passes_5 12 rfl) (by decide) rfl) <|
  m_cn (pc := 373) (ok_idiv (m_dk dk_L_passes_5 13 rfl) rfl) <|
  m_cn (pc := 374) (ok_iload (m_dk dk_L_passes_5 14 rfl) rfl) <|
  m_cn (pc := 376) (ok_bipush (m_dk dk_L_passes_5 15 rfl) (by decide) rfl) <|
  m_cn (pc := 378) (ok_irem (m_dk dk_L_passes_5 16 rfl) rfl) <|
  m_cn (pc := 379) (ok_callsw (hh9 := hh_L_owes) (T := mt_L_owes) my_L_owes rfl cw_L_owes rfl rfl (by decide) wd_747 wd_748 wd_0 (by decide +kernel) (m_dk dk_L_passes_5 17 rfl) rfl) <|
  m_cn (pc := 382) (ok_i2l (m_dk dk_L_passes_5 18 rfl) rfl) <|
  m_cn (pc := 383) (ok_ladd (m_dk dk_L_passes_5 19 rfl) rfl) <|
  m_cn (pc := 384) (ok_lstore (m_dk dk_L_passes_5 20 rfl) rfl rfl) <|
  m_cn (pc := 386) (ok_iincW (m_dk dk_L_passes_5 21 rfl) (by decide) rfl rfl) <|
  m_cn (pc := 389) (ok_goto (nx := 0) (m_dk dk_L_passes_5 22 rfl) rfl) <|
  m_cn (pc := 392) (ok_iconst (m_dk dk_L_passes_5 23 rfl) (by decide) rfl) <|
  m_cn (pc := 393) (ok_istW (m_dk dk_L_passes_5 24 rfl) rfl rfl) <|
  m_cn (pc := 395) (ok_iload (m_dk dk_L_passes_5 25 rfl) rfl) <|
  m_cn (pc := 397) (ok_bipush (m_dk dk_L_passes_5 26 rfl) (by decide) rfl) <|
  m_cn (pc := 399) (ok_icmpge (m_dk dk_L_passes_5 27 rfl) rfl rfl) <|
  m_cn (pc := 402) (ok_lload (m_dk dk_L_passes_5 28 rfl) rfl) <|
  m_cn (pc := 404) (ok_aload_n (m_dk dk_L_passes_5 29 rfl) rfl rfl) <|
  m_cn (pc := 405) (ok_iload (m_dk dk_L_passes_5 30 rfl) rfl) <|
  m_cn (pc := 407) (ok_callsw (hh9 := hh_L_account) (T := mt_L_account) my_L_account rfl cw_L_account rfl rfl (by decide) wd_569 wd_570 wd_0 (by decide +kernel) (m_dk dk_L_passes_5 31 rfl) rfl) <|
  m_cn (pc := 410) (ok_i2l (m_dk dk_L_passes_5 32 rfl) rfl) <|
  m_cn (pc := 411) (ok_ladd (m_dk dk_L_passes_5 33 rfl) rfl) <|
  m_cn (pc := 412) (ok_lstore (m_dk dk_L_passes_5 34 rfl) rfl rfl) <|
  m_cn (pc := 414) (ok_iincW (m_dk dk_L_passes_5 35 rfl) (by decide) rfl rfl) <|
  m_cn (pc := 417) (ok_goto (nx := 0) (m_dk dk_L_passes_5 36 rfl) rfl) <|
  m_cn (pc := 420) (ok_iconst (m_dk dk_L_passes_5 37 rfl) (by decide) rfl) <|
  m_cn (pc := 421) (ok_istW (m_dk dk_L_passes_5 38 rfl) rfl rfl) <|
  m_cn (pc := 423) (ok_iload (m_dk dk_L_passes_5 39 rfl) rfl) <|
  m_cn (pc := 425) (ok_aload_n (m_dk dk_L_passes_6 0 rfl) rfl rfl) <|
  m_cn (pc := 426) (ok_iconst (m_dk dk_L_passes_6 1 rfl) (by decide) rfl) <|
  m_cn (pc := 427) (ok_iald (m_dk dk_L_passes_6 2 rfl) rfl) <|
  m_cn (pc := 428) (ok_icmpge (m_dk dk_L_passes_6 3 rfl) rfl rfl) <|
  m_cn (pc := 431) (ok_iconst (m_dk dk_L_passes_6 4 rfl) (by decide) rfl) <|
  m_cn (pc := 432) (ok_istW (m_dk dk_L_passes_6 5 rfl) rfl rfl) <|
  m_cn (pc := 434) (ok_iconst (m_dk dk_L_passes_6 6 rfl) (by decide) rfl) <|
  m_cn (pc := 435) (ok_istW (m_dk dk_L_passes_6 7 rfl) rfl rfl) <|
  m_cn (pc := 437) (ok_iload (m_dk dk_L_passes_6 8 rfl) rfl) <|
  m_cn (pc := 439) (ok_bipush (m_dk dk_L_passes_6 9 rfl) (by decide) rfl) <|
  m_cn (pc := 441) (ok_icmpge (m_dk dk_L_passes_6 10 rfl) rfl rfl) <|
  m_cn (pc := 444) (ok_iload (m_dk dk_L_passes_6 11 rfl) rfl) <|
  m_cn (pc := 446) (ok_aload_n (m_dk dk_L_passes_6 12 rfl) rfl rfl) <|
  m_cn (pc := 447) (ok_iload (m_dk dk_L_passes_6 13 rfl) rfl) <|
  m_cn (pc := 449) (ok_iload (m_dk dk_L_passes_6 14 rfl) rfl) <|
  m_cn (pc := 451) (ok_callsw (hh9 := hh_L_owned) (T := mt_L_owned) my_L_owned rfl cw_L_owned rfl rfl (by decide) wd_466 wd_467 wd_0 (by decide +kernel) (m_dk dk_L_passes_6 15 rfl) rfl) <|
  m_cn (pc := 454) (ok_iadd (m_dk dk_L_passes_6 16 rfl) rfl) <|
  m_cn (pc := 455) (ok_istW (m_dk dk_L_passes_6 17 rfl) rfl rfl) <|
  m_cn (pc := 457) (ok_iincW (m_dk dk_L_passes_6 18 rfl) (by decide) rfl rfl) <|
  m_cn (pc := 460) (ok_goto (nx := 0) (m_dk dk_L_passes_6 19 rfl) rfl) <|
  m_cn (pc := 463) (ok_iload (m_dk dk_L_passes_6 20 rfl) rfl) <|
  m_cn (pc := 465) (ok_ifeq (m_dk dk_L_passes_6 21 rfl) rfl rfl) <|
  m_cn (pc := 468) (ok_iload (m_dk dk_L_passes_6 22 rfl) rfl) <|
  m_cn (pc := 470) (ok_aload_n (m_dk dk_L_passes_6 23 rfl) rfl rfl) <|
  m_cn (pc := 471) (ok_iconst (m_dk dk_L_passes_6 24 rfl) (by decide) rfl) <|
  m_cn (pc := 472) (ok_iload (m_dk dk_L_passes_6 25 rfl) rfl) <|
  m_cn (pc := 474) (ok_imul (m_dk dk_L_passes_6 26 rfl) rfl) <|
  m_cn (pc := 475) (ok_iconst (m_dk dk_L_passes_6 27 rfl) (by decide) rfl) <|
  m_cn (pc := 476) (ok_iadd (m_dk dk_L_passes_6 28 rfl) rfl) <|
  m_cn (pc := 477) (ok_iald (m_dk dk_L_passes_6 29 rfl) rfl) <|
  m_cn (pc := 478) (ok_icmpne (m_dk dk_L_passes_6 30 rfl) rfl rfl) <|
  m_cn (pc := 481) (ok_aload (m_dk dk_L_passes_6 31 rfl) rfl) <|
  m_cn (pc := 483) (ok_iload (m_dk dk_L_passes_6 32 rfl) rfl) <|
  m_cn (pc := 485) (ok_iald (m_dk dk_L_passes_6 33 rfl) rfl) <|
  m_cn (pc := 486) (ok_iload (m_dk dk_L_passes_6 34 rfl) rfl) <|
  m_cn (pc := 488) (ok_icmpgt (m_dk dk_L_passes_6 35 rfl) rfl rfl) <|
  m_cn (pc := 491) (ok_iconst (m_dk dk_L_passes_6 36 rfl) (by decide) rfl) <|
  m_cn (pc := 492) (ok_goto (nx := 0) (m_dk dk_L_passes_6 37 rfl) rfl) <|
  m_cn (pc := 495) (ok_iconst (m_dk dk_L_passes_6 38 rfl) (by decide) rfl) <|
  m_cn (pc := 496) (ok_istW (m_dk dk_L_passes_6 39 rfl) rfl rfl) <|
  m_cn (pc := 498) (ok_iincW (m_dk dk_L_passes_7 0 rfl) (by decide) rfl rfl) <|
  m_cn (pc := 501) (ok_goto (nx := 0) (m_dk dk_L_passes_7 1 rfl) rfl) <|
  m_cn (pc := 504) (ok_iconst (m_dk dk_L_passes_7 2 rfl) (by decide) rfl) <|
  m_cn (pc := 505) (ok_istW (m_dk dk_L_passes_7 3 rfl) rfl rfl) <|
  m_cn (pc := 507) (ok_iload (m_dk dk_L_passes_7 4 rfl) rfl) <|
  m_cn (pc := 509) (ok_aload_n (m_dk dk_L_passes_7 5 rfl) rfl rfl) <|
  m_cn (pc := 510) (ok_iconst (m_dk dk_L_passes_7 6 rfl) (by decide) rfl) <|
  m_cn (pc := 511) (ok_iald (m_dk dk_L_passes_7 7 rfl) rfl) <|
  m_cn (pc := 512) (ok_icmpge (m_dk dk_L_passes_7 8 rfl) rfl rfl) <|
  m_cn (pc := 515) (ok_iload (m_dk dk_L_passes_7 9 rfl) rfl) <|
  m_cn (pc := 517) (ok_ifeq (m_dk dk_L_passes_7 10 rfl) rfl rfl) <|
  m_cn (pc := 520) (ok_aload_n (m_dk dk_L_passes_7 11 rfl) rfl rfl) <|
  m_cn (pc := 521) (ok_iload (m_dk dk_L_passes_7 12 rfl) rfl) <|
  m_cn (pc := 523) (ok_callsw (hh9 := hh_L_place) (T := mt_L_place) my_L_place rfl cw_L_place rfl rfl (by decide) wd_758 wd_759 wd_0 (by decide +kernel) (m_dk dk_L_passes_7 13 rfl) rfl) <|
  m_cn (pc := 526) (ok_iflt (m_dk dk_L_passes_7 14 rfl) rfl rfl) <|
  m_cn (pc := 529) (ok_aload_n (m_dk dk_L_passes_7 15 rfl) rfl rfl) <|
  m_cn (pc := 530) (ok_iload (m_dk dk_L_passes_7 16 rfl) rfl) <|
  m_cn (pc := 532) (ok_callsw (hh9 := hh_L_place) (T := mt_L_place) my_L_place rfl cw_L_place rfl rfl (by decide) wd_758 wd_759 wd_0 (by decide +kernel) (m_dk dk_L_passes_7 17 rfl) rfl) <|
  m_cn (pc := 535) (ok_sipush (m_dk dk_L_passes_7 18 rfl) (by decide) rfl) <|
  m_cn (pc := 538) (ok_icmpgt (m_dk dk_L_passes_7 19 rfl) rfl rfl) <|
  m_cn (pc := 541) (ok_iconst (m_dk dk_L_passes_7 20 rfl) (by decide) rfl) <|
  m_cn (pc := 542) (ok_goto (nx := 0) (m_dk dk_L_passes_7 21 rfl) rfl) <|
  m_cn (pc := 545) (ok_iconst (m_dk dk_L_passes_7 22 rfl) (by decide) rfl) <|
  m_cn (pc := 546) (ok_istW (m_dk dk_L_passes_7 23 rfl) rfl rfl) <|
  m_cn (pc := 548) (ok_iincW (m_dk dk_L_passes_7 24 rfl) (by decide) rfl rfl) <|
  m_cn (pc := 551) (ok_goto (nx := 0) (m_dk dk_L_passes_7 25 rfl) rfl) <|
  m_cn (pc := 554) (ok_iconst (m_dk dk_L_passes_7 26 rfl) (by decide) rfl) <|
  m_cn (pc := 555) (ok_istW (m_dk dk_L_passes_7 27 rfl) rfl rfl) <|
  m_cn (pc := 557) (ok_iload (m_dk dk_L_passes_7 28 rfl) rfl) <|
  m_cn (pc := 559) (ok_aload_n (m_dk dk_L_passes_7 29 rfl) rfl rfl) <|
  m_cn (pc := 560) (ok_iconst (m_dk dk_L_passes_7 30 rfl) (by decide) rfl) <|
  m_cn (pc := 561) (ok_iald (m_dk dk_L_passes_7 31 rfl) rfl) <|
  m_cn (pc := 562) (ok_icmpge (m_dk dk_L_passes_7 32 rfl) rfl rfl) <|
  m_cn (pc := 565) (ok_iload (m_dk dk_L_passes_7 33 rfl) rfl) <|
  m_cn (pc := 567) (ok_ifeq (m_dk dk_L_passes_7 34 rfl) rfl rfl) <|
  m_cn (pc := 570) (ok_aload_n (m_dk dk_L_passes_7 35 rfl) rfl rfl) <|
  m_cn (pc := 571) (ok_iload (m_dk dk_L_passes_7 36 rfl) rfl) <|
  m_cn (pc := 573) (ok_callsw (hh9 := hh_L_worked) (T := mt_L_worked) my_L_worked rfl cw_L_worked rfl rfl (by decide) wd_765 wd_766 wd_0 (by decide +kernel) (m_dk dk_L_passes_7 37 rfl) rfl) <|
  m_cn (pc := 576) (ok_iflt (m_dk dk_L_passes_7 38 rfl) rfl rfl) <|
  m_cn (pc := 579) (ok_aload_n (m_dk dk_L_passes_7 39 rfl) rfl rfl) <|
  m_cn (pc := 580) (ok_iload (m_dk dk_L_passes_8 0 rfl) rfl) <|
  m_cn (pc := 582) (ok_callsw (hh9 := hh_L_worked) (T := mt_L_worked) my_L_worked rfl cw_L_worked rfl rfl (by decide) wd_765 wd_766 wd_0 (by decide +kernel) (m_dk dk_L_passes_8 1 rfl) rfl) <|
  m_cn (pc := 585) (ok_iconst (m_dk dk_L_passes_8 2 rfl) (by decide) rfl) <|
  m_cn (pc := 586) (ok_icmpgt (m_dk dk_L_passes_8 3 rfl) rfl rfl) <|
  m_cn (pc := 589) (ok_aload_n (m_dk dk_L_passes_8 4 rfl) rfl rfl) <|
  m_cn (pc := 590) (ok_iload (m_dk dk_L_passes_8 5 rfl) rfl) <|
  m_cn (pc := 592) (ok_callsw (hh9 := hh_L_worked) (T := mt_L_worked) my_L_worked rfl cw_L_worked rfl rfl (by decide) wd_765 wd_766 wd_0 (by decide +kernel) (m_dk dk_L_passes_8 6 rfl) rfl) <|
  m_cn (pc := 595) (ok_iconst (m_dk dk_L_passes_8 7 rfl) (by decide) rfl) <|
  m_cn (pc := 596) (ok_icmpeq (m_dk dk_L_passes_8 8 rfl) rfl rfl) <|
  m_cn (pc := 599) (ok_aload_n (m_dk dk_L_passes_8 9 rfl) rfl rfl) <|
  m_cn (pc := 600) (ok_aload_n (m_dk dk_L_passes_8 10 rfl) rfl rfl) <|
  m_cn (pc := 601) (ok_bipush (m_dk dk_L_passes_8 11 rfl) (by decide) rfl) <|
  m_cn (pc := 603) (ok_iload (m_dk dk_L_passes_8 12 rfl) rfl) <|
  m_cn (pc := 605) (ok_iadd (m_dk dk_L_passes_8 13 rfl) rfl) <|
  m_cn (pc := 606) (ok_iald (m_dk dk_L_passes_8 14 rfl) rfl) <|
  m_cn (pc := 607) (ok_callsw (hh9 := hh_L_isWhole) (T := mt_L_isWhole) my_L_isWhole rfl cw_L_isWhole rfl rfl (by decide) wd_477 wd_478 wd_0 (by decide +kernel) (m_dk dk_L_passes_8 15 rfl) rfl) <|
  m_cn (pc := 610) (ok_ifne (m_dk dk_L_passes_8 16 rfl) rfl rfl) <|
  m_cn (pc := 613) (ok_iconst (m_dk dk_L_passes_8 17 rfl) (by decide) rfl) <|
  m_cn (pc := 614) (ok_goto (nx := 0) (m_dk dk_L_passes_8 18 rfl) rfl) <|
  m_cn (pc := 617) (ok_iconst (m_dk dk_L_passes_8 19 rfl) (by decide) rfl) <|
  m_cn (pc := 618) (ok_istW (m_dk dk_L_passes_8 20 rfl) rfl rfl) <|
  m_cn (pc := 620) (ok_iincW (m_dk dk_L_passes_8 21 rfl) (by decide) rfl rfl) <|
  m_cn (pc := 623) (ok_goto (nx := 0) (m_dk dk_L_passes_8 22 rfl) rfl) <|
  m_cn (pc := 626) (ok_iload (m_dk dk_L_passes_8 23 rfl) rfl) <|
  m_cn (pc := 628) (ok_bipush (m_dk dk_L_passes_8 24 rfl) (by decide) rfl) <|
  m_cn (pc := 630) (ok_calls (T := mt_L_low) my_L_low rfl cw_L_low rfl rfl (by decide) wd_376 wd_377 wd_0 (by decide +kernel) (m_dk dk_L_passes_8 25 rfl) rfl) <|
  m_cn (pc := 633) (ok_istW (m_dk dk_L_passes_8 26 rfl) rfl rfl) <|
  m_cn (pc := 635) (ok_aload (m_dk dk_L_passes_8 27 rfl) rfl) <|
  m_cn (pc := 637) (ok_iconst (m_dk dk_L_passes_8 28 rfl) (by decide) rfl) <|
  m_cn (pc := 638) (ok_dup2 (m_dk dk_L_passes_8 29 rfl) rfl) <|
  m_cn (pc := 639) (ok_iald (m_dk dk_L_passes_8 30 rfl) rfl) <|
  m_cn (pc := 640) (ok_iconst (m_dk dk_L_passes_8 31 rfl) (by decide) rfl) <|
  m_cn (pc := 641) (ok_iadd (m_dk dk_L_passes_8 32 rfl) rfl) <|
  m_cn (pc := 642) (ok_iast (m_dk dk_L_passes_8 33 rfl) rfl) <|
  m_cn (pc := 643) (ok_iload (m_dk dk_L_passes_8 34 rfl) rfl) <|
  m_cn (pc := 645) (ok_ifeq (m_dk dk_L_passes_8 35 rfl) rfl rfl) <|
  m_cn (pc := 648) (ok_aload (m_dk dk_L_passes_8 36 rfl) rfl) <|
  m_cn (pc := 650) (ok_iconst (m_dk dk_L_passes_8 37 rfl) (by decide) rfl) <|
  m_cn (pc := 651) (ok_iald (m_dk dk_L_passes_8 38 rfl) rfl) <|
  m_cn (pc := 652) (ok_bipush (m_dk dk_L_passes_8 39 rfl) (by decide) rfl) <|
  m_cn (pc := 654) (ok_icmpgt (m_dk dk_L_passes_9 0 rfl) rfl rfl) <|
  m_cn (pc := 657) (ok_aload_n (m_dk dk_L_passes_9 1 rfl) rfl rfl) <|
  m_cn (pc := 658) (ok_iload (m_dk dk_L_passes_9 2 rfl) rfl) <|
  m_cn (pc := 660) (ok_bipush (m_dk dk_L_passes_9 3 rfl) (by decide) rfl) <|
  m_cn (pc := 662) (ok_idiv (m_dk dk_L_passes_9 4 rfl) rfl) <|
  m_cn (pc := 663) (ok_iload (m_dk dk_L_passes_9 5 rfl) rfl) <|
  m_cn (pc := 665) (ok_bipush (m_dk dk_L_passes_9 6 rfl) (by decide) rfl) <|
  m_cn (pc := 667) (ok_irem (m_dk dk_L_passes_9 7 rfl) rfl) <|
  m_cn (pc := 668) (ok_callsw (hh9 := hh_L_owesAnew) (T := mt_L_owesAnew) my_L_owesAnew rfl cw_L_owesAnew rfl rfl (by decide) wd_772 wd_773 wd_0 (by decide +kernel) (m_dk dk_L_passes_9 8 rfl) rfl) <|
  m_cn (pc := 671) (ok_aload_n (m_dk dk_L_passes_9 9 rfl) rfl rfl) <|
  m_cn (pc := 672) (ok_iload (m_dk dk_L_passes_9 10 rfl) rfl) <|
  m_cn (pc := 674) (ok_bipush (m_dk dk_L_passes_9 11 rfl) (by decide) rfl) <|
  m_cn (pc := 676) (ok_idiv (m_dk dk_L_passes_9 12 rfl) rfl) <|
  m_cn (pc := 677) (ok_iload (m_dk dk_L_passes_9 13 rfl) rfl) <|
  m_cn (pc := 679) (ok_bipush (m_dk dk_L_passes_9 14 rfl) (by decide) rfl) <|
  m_cn (pc := 681) (ok_irem (m_dk dk_L_passes_9 15 rfl) rfl) <|
  m_cn (pc := 682) (ok_callsw (hh9 := hh_L_owes) (T := mt_L_owes) my_L_owes rfl cw_L_owes rfl rfl (by decide) wd_747 wd_748 wd_0 (by decide +kernel) (m_dk dk_L_passes_9 16 rfl) rfl) <|
  m_cn (pc := 685) (ok_icmpne (m_dk dk_L_passes_9 17 rfl) rfl rfl) <|
  m_cn (pc := 688) (ok_iconst (m_dk dk_L_passes_9 18 rfl) (by decide) rfl) <|
  m_cn (pc := 689) (ok_goto (nx := 0) (m_dk dk_L_passes_9 19 rfl) rfl) <|
  m_cn (pc := 692) (ok_iconst (m_dk dk_L_passes_9 20 rfl) (by decide) rfl) <|
  m_cn (pc := 693) (ok_istW (m_dk dk_L_passes_9 21 rfl) rfl rfl) <|
  m_cn (pc := 695) (ok_iload (m_dk dk_L_passes_9 22 rfl) rfl) <|
  m_cn (pc := 697) (ok_ifeq (m_dk dk_L_passes_9 23 rfl) rfl rfl) <|
  m_cn (pc := 700) (ok_lload (m_dk dk_L_passes_9 24 rfl) rfl) <|
  m_cn (pc := 702) (ok_lconst (m_dk dk_L_passes_9 25 rfl) (by decide) rfl) <|
  m_cn (pc := 703) (ok_lcmp (m_dk dk_L_passes_9 26 rfl) rfl) <|
  m_cn (pc := 704) (ok_ifne (m_dk dk_L_passes_9 27 rfl) rfl rfl) <|
  m_cn (pc := 707) (ok_lload (m_dk dk_L_passes_9 28 rfl) rfl) <|
  m_cn (pc := 709) (ok_lload (m_dk dk_L_passes_9 29 rfl) rfl) <|
  m_cn (pc := 711) (ok_lsub (m_dk dk_L_passes_9 30 rfl) rfl) <|
  m_cn (pc := 712) (ok_lload (m_dk dk_L_passes_9 31 rfl) rfl) <|
  m_cn (pc := 714) (ok_lcmp (m_dk dk_L_passes_9 32 rfl) rfl) <|
  m_cn (pc := 715) (ok_iflt (m_dk dk_L_passes_9 33 rfl) rfl rfl) <|
  m_cn (pc := 718) (ok_lload (m_dk dk_L_passes_9 34 rfl) rfl) <|
  m_cn (pc := 720) (ok_lload (m_dk dk_L_passes_9 35 rfl) rfl) <|
  m_cn (pc := 722) (ok_lsub (m_dk dk_L_passes_9 36 rfl) rfl) <|
  m_cn (pc := 723) (ok_ldc2 wd_805 (m_dk dk_L_passes_9 37 rfl) rfl) <|
  m_cn (pc := 726) (ok_lload (m_dk dk_L_passes_9 38 rfl) rfl) <|
  m_cn (pc := 728) (ok_lmul (m_dk dk_L_passes_9 39 rfl) rfl) <|
  m_cn (pc := 729) (ok_lcmp (m_dk dk_L_passes_10 0 rfl) rfl) <|
  m_cn (pc := 730) (ok_ifgt (m_dk dk_L_passes_10 1 rfl) rfl rfl) <|
  m_cn (pc := 733) (ok_lload (m_dk dk_L_passes_10 2 rfl) rfl) <|
  m_cn (pc := 735) (ok_lload (m_dk dk_L_passes_10 3 rfl) rfl) <|
  m_cn (pc := 737) (ok_lsub (m_dk dk_L_passes_10 4 rfl) rfl) <|
  m_cn (pc := 738) (ok_ldc2 wd_754 (m_dk dk_L_passes_10 5 rfl) rfl) <|
  m_cn (pc := 741) (ok_lrem (m_dk dk_L_passes_10 6 rfl) rfl) <|
  m_cn (pc := 742) (ok_lconst (m_dk dk_L_passes_10 7 rfl) (by decide) rfl) <|
  m_cn (pc := 743) (ok_lcmp (m_dk dk_L_passes_10 8 rfl) rfl) <|
  m_cn (pc := 744) (ok_ifne (m_dk dk_L_passes_10 9 rfl) rfl rfl) <|
  m_cn (pc := 747) (ok_aload_n (m_dk dk_L_passes_10 10 rfl) rfl rfl) <|
  m_cn (pc := 748) (ok_callv (T := mt_X6_spent) my_X6_spent rfl cw_X6_spent rfl rfl (by decide) (r9 := (RX6, TX6, 15)) rfl rfl wd_180 wd_181 wd_182 wd_1 (by decide +kernel) (m_dk dk_L_passes_10 11 rfl) rfl) <|
  m_cn (pc := 751) (ok_iload (m_dk dk_L_passes_10 12 rfl) rfl) <|
  m_cn (pc := 753) (ok_icmplt (m_dk dk_L_passes_10 13 rfl) rfl rfl) <|
  m_cn (pc := 756) (ok_aload_n (m_dk dk_L_passes_10 14 rfl) rfl rfl) <|
  m_cn (pc := 757) (ok_callv (T := mt_X6_spent) my_X6_spent rfl cw_X6_spent rfl rfl (by decide) (r9 := (RX6, TX6, 15)) rfl rfl wd_180 wd_181 wd_182 wd_1 (by decide +kernel) (m_dk dk_L_passes_10 15 rfl) rfl) <|
  m_cn (pc := 760) (ok_iload (m_dk dk_L_passes_10 16 rfl) rfl) <|
  m_cn (pc := 762) (ok_bipush (m_dk dk_L_passes_10 17 rfl) (by decide) rfl) <|
  m_cn (pc := 764) (ok_aload_n (m_dk dk_L_passes_10 18 rfl) rfl rfl) <|
  m_cn (pc := 765) (ok_iconst (m_dk dk_L_passes_10 19 rfl) (by decide) rfl) <|
  m_cn (pc := 766) (ok_iald (m_dk dk_L_passes_10 20 rfl) rfl) <|
  m_cn (pc := 767) (ok_imul (m_dk dk_L_passes_10 21 rfl) rfl) <|
  m_cn (pc := 768) (ok_iadd (m_dk dk_L_passes_10 22 rfl) rfl) <|
  m_cn (pc := 769) (ok_icmpgt (m_dk dk_L_passes_10 23 rfl) rfl rfl) <|
  m_cn (pc := 772) (ok_iconst (m_dk dk_L_passes_10 24 rfl) (by decide) rfl) <|
  m_cn (pc := 773) (ok_goto (nx := 0) (m_dk dk_L_passes_10 25 rfl) rfl) <|
  m_cn (pc := 776) (ok_iconst (m_dk dk_L_passes_10 26 rfl) (by decide) rfl) <|
  m_cn (pc := 777) (ok_zreturn (nx := 0) rfl (m_dk dk_L_passes_10 27 rfl)) <|
  m_nl
theorem mk_L_passes {GP : m_G → Prop} {cds : Nat → Nat → m_Op} (h : cds 100 = m_lk cd_L_passes) : m_MOK GP m_my cds 100 := ⟨RL, false, [], by decide +kernel, rfl, (fun h9 => by first | rfl | cases h9), Or.inl ⟨rfl, rfl⟩, fun pc => by rw [h]; exact m_lk_ok _ ok_L_passes pc⟩
def dl_L_isSealed_0 : List (Nat × Instr × Nat) := [(0, .iconst 0, 1), (1, .istore_n 1, 1), (2, .iconst 0, 1), (3, .istore_n 2, 1), (4, .iload_n 2, 1), (5, .bipush 36, 2), (7, .if_icmp .ge 49, 3), (10, .iload_n 2, 1), (11, .bipush 6, 2), (13, .idiv, 1), (14, .iload_n 2, 1), (15, .bipush 6, 2), (17, .irem, 1), (18, .if_icmp .ne 7, 3), (21, .iload_n 1, 1), (22, .goto 27, 3), (25, .iload_n 1, 1), (26, .iconst 3, 1), (27, .ishl, 1), (28, .iload_n 1, 1), (29, .bipush 29, 2), (31, .iushr, 1), (32, .ixor, 1), (33, .bipush 31, 2), (35, .aload_n 0, 1), (36, .iload_n 2, 1), (37, .bipush 6, 2), (39, .idiv, 1), (40, .iload_n 2, 1), (41, .bipush 6, 2), (43, .irem, 1), (44, .invokestatic 129, 3), (47, .imul, 1), (48, .iadd, 1), (49, .istore_n 1, 1), (50, .iinc 2 1, 3), (53, .goto (-49), 3), (56, .aload_n 0, 1), (57, .invokevirtual 145, 3), (60, .iload_n 1, 1)]
theorem dk_L_isSealed_0 : ∀ q ∈ dl_L_isSealed_0, decode cL_isSealed q.1 = .ok q.2 := by decide +kernel
def dl_L_isSealed_1 : List (Nat × Instr × Nat) := [(61, .if_icmp .ne 30, 3), (64, .aload_n 0, 1), (65, .bipush 6, 2), (67, .invokestatic 108, 3), (70, .ldc 18, 2), (72, .if_icmp .ne 19, 3), (75, .aload_n 0, 1), (76, .bipush 6, 2), (78, .iconst 0, 1), (79, .invokestatic 129, 3), (82, .ldc 18, 2), (84, .if_icmp .ne 7, 3), (87, .iconst 1, 1), (88, .goto 4, 3), (91, .iconst 0, 1), (92, .ireturn, 1)]
theorem dk_L_isSealed_1 : ∀ q ∈ dl_L_isSealed_1, decode cL_isSealed q.1 = .ok q.2 := by decide +kernel
def cd_L_isSealed : List (Nat × m_Op) := [(0, o_const (0) 1), (1, o_istore 1 2), (2, o_const (0) 3), (3, o_istore 2 4), (4, o_iload 2 5), (5, o_const (36) 7), (7, o_icmpge 56 10), (10, o_iload 2 11), (11, o_const (6) 13), (13, o_div (fun x y => x / y) 14), (14, o_iload 2 15), (15, o_const (6) 17), (17, o_div (fun x y => x - x / y * y) 18), (18, o_icmpne 25 21), (21, o_iload 1 22), (22, o_goto 49), (25, o_iload 1 26), (26, o_const (3) 27), (27, o_bin (fun x y => x <<< (y &&& 31)) 28), (28, o_iload 1 29), (29, o_const (29) 31), (31, o_bin (fun x y => (x.toUInt32 >>> (y.toUInt32 &&& Int32.toUInt32 31)).toInt32) 32), (32, o_bin (fun x y => x ^^^ y) 33), (33, o_const (31) 35), (35, o_aload 0 36), (36, o_iload 2 37), (37, o_const (6) 39), (39, o_div (fun x y => x / y) 40), (40, o_iload 2 41), (41, o_const (6) 43), (43, o_div (fun x y => x - x / y * y) 44), (44, o_call 91 3 2 12 47), (47, o_bin (fun x y => x * y) 48), (48, o_bin (fun x y => x + y) 49), (49, o_istore 1 50), (50, o_iinc 2 (1) 53), (53, o_goto 4), (56, o_aload 0 57), (57, o_callv 7 43 1 0 0 60), (60, o_iload 1 61), (61, o_icmpne 91 64), (64, o_aload 0 65), (65, o_const (6) 67), (67, o_call 93 2 1 6 70), (70, o_const (-1000001) 72), (72, o_icmpne 91 75), (75, o_aload 0 76), (76, o_const (6) 78), (78, o_const (0) 79), (79, o_call 91 3 2 12 82), (82, o_const (-1000001) 84), (84, o_icmpne 91 87), (87, o_const (1) 88), (88, o_goto 92), (91, o_const (0) 92), (92, o_zreturn)]
set_option maxRecDepth 20000 in
set_option maxHeartbeats 4000000 in
theorem ok_L_isSealed {GP : m_G → Prop} : ∀ q ∈ cd_L_isSealed, m_OK GP m_my (cL_isSealed, 3, RL, false, (some .boolean), []) q.1 q.2 :=
  m_cn (pc := 0) (ok_iconst (m_dk dk_L_isSealed_0 0 rfl) (by decide) rfl) <|
  m_cn (pc := 1) (ok_istore_n (m_dk dk_L_isSealed_0 1 rfl) rfl rfl (by decide)) <|
  m_cn (pc := 2) (ok_iconst (m_dk dk_L_isSealed_0 2 rfl) (by decide) rfl) <|
  m_cn (pc := 3) (ok_istore_n (m_dk dk_L_isSealed_0 3 rfl) rfl rfl (by decide)) <|
  m_cn (pc := 4) (ok_iload_n (m_dk dk_L_isSealed_0 4 rfl) rfl rfl) <|
  m_cn (pc := 5) (ok_bipush (m_dk dk_L_isSealed_0 5 rfl) (by decide) rfl) <|
  m_cn (pc := 7) (ok_icmpge (m_dk dk_L_isSealed_0 6 rfl) rfl rfl) <|
  m_cn (pc := 10) (ok_iload_n (m_dk dk_L_isSealed_0 7 rfl) rfl rfl) <|
  m_cn (pc := 11) (ok_bipush (m_dk dk_L_isSealed_0 8 rfl) (by decide) rfl) <|
  m_cn (pc := 13) (ok_idiv (m_dk dk_L_isSealed_0 9 rfl) rfl) <|
  m_cn (pc := 14) (ok_iload_n (m_dk dk_L_isSealed_0 10 rfl) rfl rfl) <|
  m_cn (pc := 15) (ok_bipush (m_dk dk_L_isSealed_0 11 rfl) (by decide) rfl) <|
  m_cn (pc := 17) (ok_irem (m_dk dk_L_isSealed_0 12 rfl) rfl) <|
  m_cn (pc := 18) (ok_icmpne (m_dk dk_L_isSealed_0 13 rfl) rfl rfl) <|
  m_cn (pc := 21) (ok_iload_n (m_dk dk_L_isSealed_0 14 rfl) rfl rfl) <|
  m_cn (pc := 22) (ok_goto (nx := 0) (m_dk dk_L_isSealed_0 15 rfl) rfl) <|
  m_cn (pc := 25) (ok_iload_n (m_dk dk_L_isSealed_0 16 rfl) rfl rfl) <|
  m_cn (pc := 26) (ok_iconst (m_dk dk_L_isSealed_0 17 rfl) (by decide) rfl) <|
  m_cn (pc := 27) (ok_ishl (m_dk dk_L_isSealed_0 18 rfl) rfl) <|
  m_cn (pc := 28) (ok_iload_n (m_dk dk_L_isSealed_0 19 rfl) rfl rfl) <|
  m_cn (pc := 29) (ok_bipush (m_dk dk_L_isSealed_0 20 rfl) (by decide) rfl) <|
  m_cn (pc := 31) (ok_iushr (m_dk dk_L_isSealed_0 21 rfl) rfl) <|
  m_cn (pc := 32) (ok_ixor (m_dk dk_L_isSealed_0 22 rfl) rfl) <|
  m_cn (pc := 33) (ok_bipush (m_dk dk_L_isSealed_0 23 rfl) (by decide) rfl) <|
  m_cn (pc := 35) (ok_aload_n (m_dk dk_L_isSealed_0 24 rfl) rfl rfl) <|
  m_cn (pc := 36) (ok_iload_n (m_dk dk_L_isSealed_0 25 rfl) rfl rfl) <|
  m_cn (pc := 37) (ok_bipush (m_dk dk_L_isSealed_0 26 rfl) (by decide) rfl) <|
  m_cn (pc := 39) (ok_idiv (m_dk dk_L_isSealed_0 27 rfl) rfl) <|
  m_cn (pc := 40) (ok_iload_n (m_dk dk_L_isSealed_0 28 rfl) rfl rfl) <|
  m_cn (pc := 41) (ok_bipush (m_dk dk_L_isSealed_0 29 rfl) (by decide) rfl) <|
  m_cn (pc := 43) (ok_irem (m_dk dk_L_isSealed_0 30 rfl) rfl) <|
  m_cn (pc := 44) (ok_callsw (hh9 := hh_L_owes) (T := mt_L_owes) my_L_owes rfl cw_L_owes rfl rfl (by decide) wd_747 wd_748 wd_0 (by decide +kernel) (m_dk dk_L_isSealed_0 31 rfl) rfl) <|
  m_cn (pc := 47) (ok_imul (m_dk dk_L_isSealed_0 32 rfl) rfl) <|
  m_cn (pc := 48) (ok_iadd (m_dk dk_L_isSealed_0 33 rfl) rfl) <|
  m_cn (pc := 49) (ok_istore_n (m_dk dk_L_isSealed_0 34 rfl) rfl rfl (by decide)) <|
  m_cn (pc := 50) (ok_iinc (m_dk dk_L_isSealed_0 35 rfl) (by decide) rfl (by decide)) <|
  m_cn (pc := 53) (ok_goto (nx := 0) (m_dk dk_L_isSealed_0 36 rfl) rfl) <|
  m_cn (pc := 56) (ok_aload_n (m_dk dk_L_isSealed_0 37 rfl) rfl rfl) <|
  m_cn (pc := 57) (ok_callv (T := mt_X6_seal) my_X6_seal rfl cw_X6_seal rfl rfl (by decide) (r9 := (RX6, TX6, 15)) rfl rfl wd_809 wd_810 wd_811 wd_1 (by decide +kernel) (m_dk dk_L_isSealed_0 38 rfl) rfl) <|
  m_cn (pc := 60) (ok_iload_n (m_dk dk_L_isSealed_0 39 rfl) rfl rfl) <|
  m_cn (pc := 61) (ok_icmpne (m_dk dk_L_isSealed_1 0 rfl) rfl rfl) <|
  m_cn (pc := 64) (ok_aload_n (m_dk dk_L_isSealed_1 1 rfl) rfl rfl) <|
  m_cn (pc := 65) (ok_bipush (m_dk dk_L_isSealed_1 2 rfl) (by decide) rfl) <|
  m_cn (pc := 67) (ok_callsw (hh9 := hh_L_account) (T := mt_L_account) my_L_account rfl cw_L_account rfl rfl (by decide) wd_569 wd_570 wd_0 (by decide +kernel) (m_dk dk_L_isSealed_1 3 rfl) rfl) <|
  m_cn (pc := 70) (ok_ldc (m_dk dk_L_isSealed_1 4 rfl) wd_465 rfl) <|
  m_cn (pc := 72) (ok_icmpne (m_dk dk_L_isSealed_1 5 rfl) rfl rfl) <|
  m_cn (pc := 75) (ok_aload_n (m_dk dk_L_isSealed_1 6 rfl) rfl rfl) <|
  m_cn (pc := 76) (ok_bipush (m_dk dk_L_isSealed_1 7 rfl) (by decide) rfl) <|
  m_cn (pc := 78) (ok_iconst (m_dk dk_L_isSealed_1 8 rfl) (by decide) rfl) <|
  m_cn (pc := 79) (ok_callsw (hh9 := hh_L_owes) (T := mt_L_owes) my_L_owes rfl cw_L_owes rfl rfl (by decide) wd_747 wd_748 wd_0 (by decide +kernel) (m_dk dk_L_isSealed_1 9 rfl) rfl) <|
  m_cn (pc := 82) (ok_ldc (m_dk dk_L_isSealed_1 10 rfl) wd_465 rfl) <|
  m_cn (pc := 84) (ok_icmpne (m_dk dk_L_isSealed_1 11 rfl) rfl rfl) <|
  m_cn (pc := 87) (ok_iconst (m_dk dk_L_isSealed_1 12 rfl) (by decide) rfl) <|
  m_cn (pc := 88) (ok_goto (nx := 0) (m_dk dk_L_isSealed_1 13 rfl) rfl) <|
  m_cn (pc := 91) (ok_iconst (m_dk dk_L_isSealed_1 14 rfl) (by decide) rfl) <|
  m_cn (pc := 92) (ok_zreturn (nx := 0) rfl (m_dk dk_L_isSealed_1 15 rfl)) <|
  m_nl
theorem mk_L_isSealed {GP : m_G → Prop} {cds : Nat → Nat → m_Op} (h : cds 101 = m_lk cd_L_isSealed) : m_MOK GP m_my cds 101 := ⟨RL, false, [], by decide +kernel, rfl, (fun h9 => by first | rfl | cases h9), Or.inl ⟨rfl, rfl⟩, fun pc => by rw [h]; exact m_lk_ok _ ok_L_isSealed pc⟩
def dl_L_acts_0 : List (Nat × Instr × Nat) := [(0, .iload 5, 2), (2, .bipush 10, 2), (4, .invokestatic 85, 3), (7, .istore 7, 2), (9, .iload 7, 2), (11, .iconst 2, 1), (12, .if_icmp .lt 14, 3), (15, .aload_n 1, 1), (16, .iconst 0, 1), (17, .iaload, 1), (18, .aload_n 1, 1), (19, .iconst 1, 1), (20, .iaload, 1), (21, .iadd, 1), (22, .iconst 4, 1), (23, .if_icmp .ge 17, 3), (26, .aload_n 0, 1), (27, .aload_n 1, 1), (28, .aload_n 2, 1), (29, .aload_n 3, 1), (30, .iload 5, 2), (32, .iconst 4, 1), (33, .ishr, 1), (34, .iload 6, 2), (36, .invokestatic 148, 3), (39, .ireturn, 1), (40, .iload 7, 2), (42, .bipush 6, 2), (44, .if_icmp .ge 18, 3), (47, .aload_n 0, 1), (48, .aload_n 1, 1), (49, .aload_n 2, 1), (50, .iload 5, 2), (52, .iconst 4, 1), (53, .ishr, 1), (54, .iload 6, 2), (56, .invokestatic 152, 3), (59, .goto 28, 3), (62, .iload 7, 2), (64, .bipush 9, 2)]
theorem dk_L_acts_0 : ∀ q ∈ dl_L_acts_0, decode cL_acts q.1 = .ok q.2 := by decide +kernel
def dl_L_acts_1 : List (Nat × Instr × Nat) := [(66, .if_icmp .ge 17, 3), (69, .aload_n 0, 1), (70, .aload_n 1, 1), (71, .aload_n 2, 1), (72, .aload_n 3, 1), (73, .aload 4, 2), (75, .iload 6, 2), (77, .invokestatic 156, 3), (80, .goto 7, 3), (83, .aload_n 0, 1), (84, .invokestatic 160, 3), (87, .ireturn, 1)]
theorem dk_L_acts_1 : ∀ q ∈ dl_L_acts_1, decode cL_acts q.1 = .ok q.2 := by decide +kernel
def cd_L_acts : List (Nat × m_Op) := [(0, o_iload 5 2), (2, o_const (10) 4), (4, o_call 77 2 0 0 7), (7, o_istore 7 9), (9, o_iload 7 11), (11, o_const (2) 12), (12, o_icmplt 26 15), (15, o_aload 1 16), (16, o_const (0) 17), (17, o_iald 0 18), (18, o_aload 1 19), (19, o_const (1) 20), (20, o_iald 0 21), (21, o_bin (fun x y => x + y) 22), (22, o_const (4) 23), (23, o_icmpge 40 26), (26, o_aload 0 27), (27, o_aload 1 28), (28, o_aload 2 29), (29, o_aload 3 30), (30, o_iload 5 32), (32, o_const (4) 33), (33, o_bin (fun x y => x >>> (y &&& 31)) 34), (34, o_iload 6 36), (36, o_call 97 6 24 142 39), (39, o_zreturn), (40, o_iload 7 42), (42, o_const (6) 44), (44, o_icmpge 62 47), (47, o_aload 0 48), (48, o_aload 1 49), (49, o_aload 2 50), (50, o_iload 5 52), (52, o_const (4) 53), (53, o_bin (fun x y => x >>> (y &&& 31)) 54), (54, o_iload 6 56), (56, o_call 98 5 36 1008 59), (59, o_goto 87), (62, o_iload 7 64), (64, o_const (9) 66), (66, o_icmpge 83 69), (69, o_aload 0 70), (70, o_aload 1 71), (71, o_aload 2 72), (72, o_aload 3 73), (73, o_aload 4 75), (75, o_iload 6 77), (77, o_call 100 6 420 2600 80), (80, o_goto 87), (83, o_aload 0 84), (84, o_call 101 1 70 400 87), (87, o_zreturn)]
set_option maxRecDepth 20000 in
set_option maxHeartbeats 4000000 in
theorem ok_L_acts {GP : m_G → Prop} : ∀ q ∈ cd_L_acts, m_OK GP m_my (cL_acts, 8, RL, false, (some .boolean), []) q.1 q.2 :=
  m_cn (pc := 0) (ok_iload (m_dk dk_L_acts_0 0 rfl) rfl) <|
  m_cn (pc := 2) (ok_bipush (m_dk dk_L_acts_0 1 rfl) (by decide) rfl) <|
  m_cn (pc := 4) (ok_calls (T := mt_L_low) my_L_low rfl cw_L_low rfl rfl (by decide) wd_376 wd_377 wd_0 (by decide +kernel) (m_dk dk_L_acts_0 2 rfl) rfl) <|
  m_cn (pc := 7) (ok_istore (m_dk dk_L_acts_0 3 rfl) rfl (by decide)) <|
  m_cn (pc := 9) (ok_iload (m_dk dk_L_acts_0 4 rfl) rfl) <|
  m_cn (pc := 11) (ok_iconst (m_dk dk_L_acts_0 5 rfl) (by decide) rfl) <|
  m_cn (pc := 12) (ok_icmplt (m_dk dk_L_acts_0 6 rfl) rfl rfl) <|
  m_cn (pc := 15) (ok_aload_n (m_dk dk_L_acts_0 7 rfl) rfl rfl) <|
  m_cn (pc := 16) (ok_iconst (m_dk dk_L_acts_0 8 rfl) (by decide) rfl) <|
  m_cn (pc := 17) (ok_iald (m_dk dk_L_acts_0 9 rfl) rfl) <|
  m_cn (pc := 18) (ok_aload_n (m_dk dk_L_acts_0 10 rfl) rfl rfl) <|
  m_cn (pc := 19) (ok_iconst (m_dk dk_L_acts_0 11 rfl) (by decide) rfl) <|
  m_cn (pc := 20) (ok_iald (m_dk dk_L_acts_0 12 rfl) rfl) <|
  m_cn (pc := 21) (ok_iadd (m_dk dk_L_acts_0 13 rfl) rfl) <|
  m_cn (pc := 22) (ok_iconst (m_dk dk_L_acts_0 14 rfl) (by decide) rfl) <|
  m_cn (pc := 23) (ok_icmpge (m_dk dk_L_acts_0 15 rfl) rfl rfl) <|
  m_cn (pc := 26) (ok_aload_n (m_dk dk_L_acts_0 16 rfl) rfl rfl) <|
  m_cn (pc := 27) (ok_aload_n (m_dk dk_L_acts_0 17 rfl) rfl rfl) <|
  m_cn (pc := 28) (ok_aload_n (m_dk dk_L_acts_0 18 rfl) rfl rfl) <|
  m_cn (pc := 29) (ok_aload_n (m_dk dk_L_acts_0 19 rfl) rfl rfl) <|
  m_cn (pc := 30) (ok_iload (m_dk dk_L_acts_0 20 rfl) rfl) <|
  m_cn (pc := 32) (ok_iconst (m_dk dk_L_acts_0 21 rfl) (by decide) rfl) <|
  m_cn (pc := 33) (ok_ishr (m_dk dk_L_acts_0 22 rfl) rfl) <|
  m_cn (pc := 34) (ok_iload (m_dk dk_L_acts_0 23 rfl) rfl) <|
  m_cn (pc := 36) (ok_calls (T := mt_L_adds) my_L_adds rfl cw_L_adds rfl rfl (by decide) wd_380 wd_381 wd_0 (by decide +kernel) (m_dk dk_L_acts_0 24 rfl) rfl) <|
  m_cn (pc := 39) (ok_zreturn (nx := 0) rfl (m_dk dk_L_acts_0 25 rfl)) <|
  m_cn (pc := 40) (ok_iload (m_dk dk_L_acts_0 26 rfl) rfl) <|
  m_cn (pc := 42) (ok_bipush (m_dk dk_L_acts_0 27 rfl) (by decide) rfl) <|
  m_cn (pc := 44) (ok_icmpge (m_dk dk_L_acts_0 28 rfl) rfl rfl) <|
  m_cn (pc := 47) (ok_aload_n (m_dk dk_L_acts_0 29 rfl) rfl rfl) <|
  m_cn (pc := 48) (ok_aload_n (m_dk dk_L_acts_0 30 rfl) rfl rfl) <|
  m_cn (pc := 49) (ok_aload_n (m_dk dk_L_acts_0 31 rfl) rfl rfl) <|
  m_cn (pc := 50) (ok_iload (m_dk dk_L_acts_0 32 rfl) rfl) <|
  m_cn (pc := 52) (ok_iconst (m_dk dk_L_acts_0 33 rfl) (by decide) rfl) <|
  m_cn (pc := 53) (ok_ishr (m_dk dk_L_acts_0 34 rfl) rfl) <|
  m_cn (pc := 54) (ok_iload (m_dk dk_L_acts_0 35 rfl) rfl) <|
  m_cn (pc := 56) (ok_calls (T := mt_L_sets) my_L_sets rfl cw_L_sets rfl rfl (by decide) wd_566 wd_567 wd_0 (by decide +kernel) (m_dk dk_L_acts_0 36 rfl) rfl) <|
  m_cn (pc := 59) (ok_goto (nx := 0) (m_dk dk_L_acts_0 37 rfl) rfl) <|
  m_cn (pc := 62) (ok_iload (m_dk dk_L_acts_0 38 rfl) rfl) <|
  m_cn (pc := 64) (ok_bipush (m_dk dk_L_acts_0 39 rfl) (by decide) rfl) <|
  m_cn (pc := 66) (ok_icmpge (m_dk dk_L_acts_1 0 rfl) rfl rfl) <|
  m_cn (pc := 69) (ok_aload_n (m_dk dk_L_acts_1 1 rfl) rfl rfl) <|
  m_cn (pc := 70) (ok_aload_n (m_dk dk_L_acts_1 2 rfl) rfl rfl) <|
  m_cn (pc := 71) (ok_aload_n (m_dk dk_L_acts_1 3 rfl) rfl rfl) <|
  m_cn (pc := 72) (ok_aload_n (m_dk dk_L_acts_1 4 rfl) rfl rfl) <|
  m_cn (pc := 73) (ok_aload (m_dk dk_L_acts_1 5 rfl) rfl) <|
  m_cn (pc := 75) (ok_iload (m_dk dk_L_acts_1 6 rfl) rfl) <|
  m_cn (pc := 77) (ok_calls (T := mt_L_passes) my_L_passes rfl cw_L_passes rfl rfl (by decide) wd_744 wd_745 wd_0 (by decide +kernel) (m_dk dk_L_acts_1 7 rfl) rfl) <|
  m_cn (pc := 80) (ok_goto (nx := 0) (m_dk dk_L_acts_1 8 rfl) rfl) <|
  m_cn (pc := 83) (ok_aload_n (m_dk dk_L_acts_1 9 rfl) rfl rfl) <|
  m_cn (pc := 84) (ok_calls (T := mt_L_isSealed) my_L_isSealed rfl cw_L_isSealed rfl rfl (by decide) wd_806 wd_807 wd_0 (by decide +kernel) (m_dk dk_L_acts_1 10 rfl) rfl) <|
  m_cn (pc := 87) (ok_zreturn (nx := 0) rfl (m_dk dk_L_acts_1 11 rfl)) <|
  m_nl
theorem mk_L_acts {GP : m_G → Prop} {cds : Nat → Nat → m_Op} (h : cds 102 = m_lk cd_L_acts) : m_MOK GP m_my cds 102 := ⟨RL, false, [], by decide +kernel, rfl, (fun h9 => by first | rfl | cases h9), Or.inl ⟨rfl, rfl⟩, fun pc => by rw [h]; exact m_lk_ok _ ok_L_acts pc⟩
