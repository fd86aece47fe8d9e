def dl_X7_init : List (Nat × Instr × Nat) := [(0, .aload_n 0, 1), (1, .invokespecial 1, 3), (4, .aload_n 0, 1), (5, .bipush 10, 2), (7, .newarray .int, 2), (9, .putfield 7, 3), (12, .aload_n 0, 1), (13, .bipush 10, 2), (15, .newarray .int, 2), (17, .putfield 13, 3), (20, .aload_n 0, 1), (21, .bipush 60, 2), (23, .newarray .int, 2), (25, .putfield 16, 3), (28, .aload_n 0, 1), (29, .bipush 10, 2), (31, .newarray .int, 2), (33, .putfield 19, 3), (36, .aload_n 0, 1), (37, .bipush 10, 2), (39, .newarray .int, 2), (41, .putfield 22, 3), (44, .aload_n 0, 1), (45, .bipush 10, 2), (47, .newarray .int, 2), (49, .putfield 25, 3), (52, .aload_n 0, 1), (53, .bipush 10, 2), (55, .newarray .int, 2), (57, .putfield 28, 3), (60, .aload_n 0, 1), (61, .bipush 10, 2), (63, .newarray .int, 2), (65, .putfield 31, 3), (68, .aload_n 0, 1), (69, .bipush 10, 2), (71, .newarray .int, 2), (73, .putfield 34, 3), (76, .aload_n 0, 1), (77, .bipush 16, 2), (79, .newarray .int, 2), (81, .putfield 37, 3), (84, .aload_n 0, 1), (85, .bipush 16, 2), (87, .newarray .int, 2), (89, .putfield 40, 3), (92, .aload_n 0, 1), (93, .bipush 16, 2), (95, .newarray .int, 2), (97, .putfield 43, 3), (100, .aload_n 0, 1), (101, .bipush 16, 2), (103, .newarray .int, 2), (105, .putfield 46, 3), (108, .aload_n 0, 1), (109, .iconst 3, 1), (110, .newarray .int, 2), (112, .putfield 49, 3), (115, .aload_n 0, 1), (116, .iconst 3, 1), (117, .newarray .int, 2), (119, .putfield 52, 3), (122, .aload_n 0, 1), (123, .iconst 3, 1), (124, .newarray .int, 2), (126, .putfield 55, 3), (129, .aload_n 0, 1), (130, .iconst 3, 1), (131, .newarray .int, 2), (133, .putfield 58, 3), (136, .aload_n 0, 1), (137, .iconst (-1), 1), (138, .putfield 61, 3), (141, .aload_n 0, 1), (142, .iconst (-1), 1), (143, .putfield 65, 3), (146, .aload_n 0, 1), (147, .bipush 36, 2), (149, .newarray .int, 2), (151, .putfield 68, 3), (154, .aload_n 0, 1), (155, .bipush 36, 2), (157, .newarray .int, 2), (159, .putfield 71, 3), (162, .aload_n 0, 1), (163, .bipush 7, 2), (165, .newarray .int, 2), (167, .putfield 74, 3), (170, .aload_n 0, 1), (171, .bipush 60, 2), (173, .newarray .int, 2), (175, .putfield 77, 3), (178, .aload_n 0, 1), (179, .bipush 8, 2), (181, .newarray .int, 2), (183, .putfield 80, 3), (186, .aload_n 0, 1), (187, .bipush 8, 2), (189, .newarray .int, 2), (191, .putfield 83, 3), (194, .aload_n 0, 1), (195, .bipush 8, 2), (197, .newarray .int, 2), (199, .putfield 86, 3), (202, .iconst 0, 1), (203, .istore_n 1, 1), (204, .iload_n 1, 1), (205, .iconst 3, 1), (206, .if_icmp .ge 16, 3), (209, .aload_n 0, 1), (210, .getfield 58, 3), (213, .iload_n 1, 1), (214, .iconst (-1), 1), (215, .iastore, 1), (216, .iinc 1 1, 3), (219, .goto (-15), 3), (222, .return_, 1)]
theorem dk_X7_init : ∀ q ∈ dl_X7_init, decode cX7_init q.1 = .ok q.2 := by decide +kernel
def cd_X7_init : List (Nat × m_Op) := [(0, o_aload 0 1), (1, o_drop 4), (4, o_aload 0 5), (5, o_const (10) 7), (7, o_newi 0 10 9), (9, o_putr 8 2 12), (12, o_aload 0 13), (13, o_const (10) 15), (15, o_newi 0 10 17), (17, o_putr 8 3 20), (20, o_aload 0 21), (21, o_const (60) 23), (23, o_newi 0 60 25), (25, o_putr 8 4 28), (28, o_aload 0 29), (29, o_const (10) 31), (31, o_newi 0 10 33), (33, o_putr 8 6 36), (36, o_aload 0 37), (37, o_const (10) 39), (39, o_newi 0 10 41), (41, o_putr 8 7 44), (44, o_aload 0 45), (45, o_const (10) 47), (47, o_newi 0 10 49), (49, o_putr 8 8 52), (52, o_aload 0 53), (53, o_const (10) 55), (55, o_newi 0 10 57), (57, o_putr 8 9 60), (60, o_aload 0 61), (61, o_const (10) 63), (63, o_newi 0 10 65), (65, o_putr 8 10 68), (68, o_aload 0 69), (69, o_const (10) 71), (71, o_newi 0 10 73), (73, o_putr 8 11 76), (76, o_aload 0 77), (77, o_const (16) 79), (79, o_newi 0 16 81), (81, o_putr 8 13 84), (84, o_aload 0 85), (85, o_const (16) 87), (87, o_newi 0 16 89), (89, o_putr 8 14 92), (92, o_aload 0 93), (93, o_const (16) 95), (95, o_newi 0 16 97), (97, o_putr 8 15 100), (100, o_aload 0 101), (101, o_const (16) 103), (103, o_newi 0 16 105), (105, o_putr 8 16 108), (108, o_aload 0 109), (109, o_const (3) 110), (110, o_newi 0 3 112), (112, o_putr 8 18 115), (115, o_aload 0 116), (116, o_const (3) 117), (117, o_newi 0 3 119), (119, o_putr 8 19 122), (122, o_aload 0 123), (123, o_const (3) 124), (124, o_newi 0 3 126), (126, o_putr 8 20 129), (129, o_aload 0 130), (130, o_const (3) 131), (131, o_newi 0 3 133), (133, o_putr 8 21 136), (136, o_aload 0 137), (137, o_const (-1) 138), (138, o_puti 8 22 141), (141, o_aload 0 142), (142, o_const (-1) 143), (143, o_puti 8 23 146), (146, o_aload 0 147), (147, o_const (36) 149), (149, o_newi 0 36 151), (151, o_putr 8 24 154), (154, o_aload 0 155), (155, o_const (36) 157), (157, o_newi 0 36 159), (159, o_putr 8 25 162), (162, o_aload 0 163), (163, o_const (7) 165), (165, o_newi 0 7 167), (167, o_putr 8 26 170), (170, o_aload 0 171), (171, o_const (60) 173), (173, o_newi 0 60 175), (175, o_putr 8 28 178), (178, o_aload 0 179), (179, o_const (8) 181), (181, o_newi 0 8 183), (183, o_putr 8 29 186), (186, o_aload 0 187), (187, o_const (8) 189), (189, o_newi 0 8 191), (191, o_putr 8 30 194), (194, o_aload 0 195), (195, o_const (8) 197), (197, o_newi 0 8 199), (199, o_putr 8 31 202), (202, o_const (0) 203), (203, o_istore 1 204), (204, o_iload 1 205), (205, o_const (3) 206), (206, o_icmpge 222 209), (209, o_aload 0 210), (210, o_getf 8 21 213), (213, o_iload 1 214), (214, o_const (-1) 215), (215, o_iast 216), (216, o_iinc 1 (1) 219), (219, o_goto 204), (222, o_return)]
set_option maxRecDepth 20000 in
set_option maxHeartbeats 4000000 in
theorem ok_X7_init {GP : m_G → Prop} : ∀ q ∈ cd_X7_init, m_OK GP m_my (cX7_init, 2, RX7, true, none, []) q.1 q.2 :=
  m_cn (pc := 0) (ok_aload_n (m_dk dk_X7_init 0 rfl) rfl rfl) <|
  m_cn (pc := 1) (ok_drop wd_788 wd_30 wd_objinit (m_dk dk_X7_init 1 rfl) rfl) <|
  m_cn (pc := 4) (ok_aload_n (m_dk dk_X7_init 2 rfl) rfl rfl) <|
  m_cn (pc := 5) (ok_bipush (m_dk dk_X7_init 3 rfl) (by decide) rfl) <|
  m_cn (pc := 7) (ok_newi wd_103 (by decide) (m_dk dk_X7_init 4 rfl) rfl) <|
  m_cn (pc := 9) (ok_putrF (k := 2) (hc0 := (rfl : vwCl[8]? = some (RX7, TX7, 36))) (by decide) in_X7 wd_791 tyX7 tyX7_ok nmX7 rfl rfl rfl (tyX7_ok 2 (by decide)) (fun _ => rfl) (fun _ => rfl) (m_dk dk_X7_init 5 rfl) rfl) <|
  m_cn (pc := 12) (ok_aload_n (m_dk dk_X7_init 6 rfl) rfl rfl) <|
  m_cn (pc := 13) (ok_bipush (m_dk dk_X7_init 7 rfl) (by decide) rfl) <|
  m_cn (pc := 15) (ok_newi wd_103 (by decide) (m_dk dk_X7_init 8 rfl) rfl) <|
  m_cn (pc := 17) (ok_putrF (k := 3) (hc0 := (rfl : vwCl[8]? = some (RX7, TX7, 36))) (by decide) in_X7 wd_792 tyX7 tyX7_ok nmX7 rfl rfl rfl (tyX7_ok 3 (by decide)) (fun _ => rfl) (fun _ => rfl) (m_dk dk_X7_init 9 rfl) rfl) <|
  m_cn (pc := 20) (ok_aload_n (m_dk dk_X7_init 10 rfl) rfl rfl) <|
  m_cn (pc := 21) (ok_bipush (m_dk dk_X7_init 11 rfl) (by decide) rfl) <|
  m_cn (pc := 23) (ok_newi wd_103 (by decide) (m_dk dk_X7_init 12 rfl) rfl) <|
  m_cn (pc := 25) (ok_putrF (k := 4) (hc0 := (rfl : vwCl[8]? = some (RX7, TX7, 36))) (by decide) in_X7 wd_793 tyX7 tyX7_ok nmX7 rfl rfl rfl (tyX7_ok 4 (by decide)) (fun _ => rfl) (fun _ => rfl) (m_dk dk_X7_init 13 rfl) rfl) <|
  m_cn (pc := 28) (ok_aload_n (m_dk dk_X7_init 14 rfl) rfl rfl) <|
  m_cn (pc := 29) (ok_bipush (m_dk dk_X7_init 15 rfl) (by decide) rfl) <|
  m_cn (pc := 31) (ok_newi wd_103 (by decide) (m_dk dk_X7_init 16 rfl) rfl) <|
  m_cn (pc := 33) (ok_putrF (k := 6) (hc0 := (rfl : vwCl[8]? = some (RX7, TX7, 36))) (by decide) in_X7 wd_795 tyX7 tyX7_ok nmX7 rfl rfl rfl (tyX7_ok 6 (by decide)) (fun _ => rfl) (fun _ => rfl) (m_dk dk_X7_init 17 rfl) rfl) <|
  m_cn (pc := 36) (ok_aload_n (m_dk dk_X7_init 18 rfl) rfl rfl) <|
  m_cn (pc := 37) (ok_bipush (m_dk dk_X7_init 19 rfl) (by decide) rfl) <|
  m_cn (pc := 39) (ok_newi wd_103 (by decide) (m_dk dk_X7_init 20 rfl) rfl) <|
  m_cn (pc := 41) (ok_putrF (k := 7) (hc0 := (rfl : vwCl[8]? = some (RX7, TX7, 36))) (by decide) in_X7 wd_796 tyX7 tyX7_ok nmX7 rfl rfl rfl (tyX7_ok 7 (by decide)) (fun _ => rfl) (fun _ => rfl) (m_dk dk_X7_init 21 rfl) rfl) <|
  m_cn (pc := 44) (ok_aload_n (m_dk dk_X7_init 22 rfl) rfl rfl) <|
  m_cn (pc := 45) (ok_bipush (m_dk dk_X7_init 23 rfl) (by decide) rfl) <|
  m_cn (pc := 47) (ok_newi wd_103 (by decide) (m_dk dk_X7_init 24 rfl) rfl) <|
  m_cn (pc := 49) (ok_putrF (k := 8) (hc0 := (rfl : vwCl[8]? = some (RX7, TX7, 36))) (by decide) in_X7 wd_797 tyX7 tyX7_ok nmX7 rfl rfl rfl (tyX7_ok 8 (by decide)) (fun _ => rfl) (fun _ => rfl) (m_dk dk_X7_init 25 rfl) rfl) <|
  m_cn (pc := 52) (ok_aload_n (m_dk dk_X7_init 26 rfl) rfl rfl) <|
  m_cn (pc := 53) (ok_bipush (m_dk dk_X7_init 27 rfl) (by decide) rfl) <|
  m_cn (pc := 55) (ok_newi wd_103 (by decide) (m_dk dk_X7_init 28 rfl) rfl) <|
  m_cn (pc := 57) (ok_putrF (k := 9) (hc0 := (rfl : vwCl[8]? = some (RX7, TX7, 36))) (by decide) in_X7 wd_798 tyX7 tyX7_ok nmX7 rfl rfl rfl (tyX7_ok 9 (by decide)) (fun _ => rfl) (fun _ => rfl) (m_dk dk_X7_init 29 rfl) rfl) <|
  m_cn (pc := 60) (ok_aload_n (m_dk dk_X7_init 30 rfl) rfl rfl) <|
  m_cn (pc := 61) (ok_bipush (m_dk dk_X7_init 31 rfl) (by decide) rfl) <|
  m_cn (pc := 63) (ok_newi wd_103 (by decide) (m_dk dk_X7_init 32 rfl) rfl) <|
  m_cn (pc := 65) (ok_putrF (k := 10) (hc0 := (rfl : vwCl[8]? = some (RX7, TX7, 36))) (by decide) in_X7 wd_799 tyX7 tyX7_ok nmX7 rfl rfl rfl (tyX7_ok 10 (by decide)) (fun _ => rfl) (fun _ => rfl) (m_dk dk_X7_init 33 rfl) rfl) <|
  m_cn (pc := 68) (ok_aload_n (m_dk dk_X7_init 34 rfl) rfl rfl) <|
  m_cn (pc := 69) (ok_bipush (m_dk dk_X7_init 35 rfl) (by decide) rfl) <|
  m_cn (pc := 71) (ok_newi wd_103 (by decide) (m_dk dk_X7_init 36 rfl) rfl) <|
  m_cn (pc := 73) (ok_putrF (k := 11) (hc0 := (rfl : vwCl[8]? = some (RX7, TX7, 36))) (by decide) in_X7 wd_800 tyX7 tyX7_ok nmX7 rfl rfl rfl (tyX7_ok 11 (by decide)) (fun _ => rfl) (fun _ => rfl) (m_dk dk_X7_init 37 rfl) rfl) <|
  m_cn (pc := 76) (ok_aload_n (m_dk dk_X7_init 38 rfl) rfl rfl) <|
  m_cn (pc := 77) (ok_bipush (m_dk dk_X7_init 39 rfl) (by decide) rfl) <|
  m_cn (pc := 79) (ok_newi wd_103 (by decide) (m_dk dk_X7_init 40 rfl) rfl) <|
  m_cn (pc := 81) (ok_putrF (k := 13) (hc0 := (rfl : vwCl[8]? = some (RX7, TX7, 36))) (by decide) in_X7 wd_802 tyX7 tyX7_ok nmX7 rfl rfl rfl (tyX7_ok 13 (by decide)) (fun _ => rfl) (fun _ => rfl) (m_dk dk_X7_init 41 rfl) rfl) <|
  m_cn (pc := 84) (ok_aload_n (m_dk dk_X7_init 42 rfl) rfl rfl) <|
  m_cn (pc := 85) (ok_bipush (m_dk dk_X7_init 43 rfl) (by decide) rfl) <|
  m_cn (pc := 87) (ok_newi wd_103 (by decide) (m_dk dk_X7_init 44 rfl) rfl) <|
  m_cn (pc := 89) (ok_putrF (k := 14) (hc0 := (rfl : vwCl[8]? = some (RX7, TX7, 36))) (by decide) in_X7 wd_803 tyX7 tyX7_ok nmX7 rfl rfl rfl (tyX7_ok 14 (by decide)) (fun _ => rfl) (fun _ => rfl) (m_dk dk_X7_init 45 rfl) rfl) <|
  m_cn (pc := 92) (ok_aload_n (m_dk dk_X7_init 46 rfl) rfl rfl) <|
  m_cn (pc := 93) (ok_bipush (m_dk dk_X7_init 47 rfl) (by decide) rfl) <|
  m_cn (pc := 95) (ok_newi wd_103 (by decide) (m_dk dk_X7_init 48 rfl) rfl) <|
  m_cn (pc := 97) (ok_putrF (k := 15) (hc0 := (rfl : vwCl[8]? = some (RX7, TX7, 36))) (by decide) in_X7 wd_804 tyX7 tyX7_ok nmX7 rfl rfl rfl (tyX7_ok 15 (by decide)) (fun _ => rfl) (fun _ => rfl) (m_dk dk_X7_init 49 rfl) rfl) <|
  m_cn (pc := 100) (ok_aload_n (m_dk dk_X7_init 50 rfl) rfl rfl) <|
  m_cn (pc := 101) (ok_bipush (m_dk dk_X7_init 51 rfl) (by decide) rfl) <|
  m_cn (pc := 103) (ok_newi wd_103 (by decide) (m_dk dk_X7_init 52 rfl) rfl) <|
  m_cn (pc := 105) (ok_putrF (k := 16) (hc0 := (rfl : vwCl[8]? = some (RX7, TX7, 36))) (by decide) in_X7 wd_805 tyX7 tyX7_ok nmX7 rfl rfl rfl (tyX7_ok 16 (by decide)) (fun _ => rfl) (fun _ => rfl) (m_dk dk_X7_init 53 rfl) rfl) <|
  m_cn (pc := 108) (ok_aload_n (m_dk dk_X7_init 54 rfl) rfl rfl) <|
  m_cn (pc := 109) (ok_iconst (m_dk dk_X7_init 55 rfl) (by decide) rfl) <|
  m_cn (pc := 110) (ok_newi wd_103 (by decide) (m_dk dk_X7_init 56 rfl) rfl) <|
  m_cn (pc := 112) (ok_putrF (k := 18) (hc0 := (rfl : vwCl[8]? = some (RX7, TX7, 36))) (by decide) in_X7 wd_807 tyX7 tyX7_ok nmX7 rfl rfl rfl (tyX7_ok 18 (by decide)) (fun _ => rfl) (fun _ => rfl) (m_dk dk_X7_init 57 rfl) rfl) <|
  m_cn (pc := 115) (ok_aload_n (m_dk dk_X7_init 58 rfl) rfl rfl) <|
  m_cn (pc := 116) (ok_iconst (m_dk dk_X7_init 59 rfl) (by decide) rfl) <|
  m_cn (pc := 117) (ok_newi wd_103 (by decide) (m_dk dk_X7_init 60 rfl) rfl) <|
  m_cn (pc := 119) (ok_putrF (k := 19) (hc0 := (rfl : vwCl[8]? = some (RX7, TX7, 36))) (by decide) in_X7 wd_808 tyX7 tyX7_ok nmX7 rfl rfl rfl (tyX7_ok 19 (by decide)) (fun _ => rfl) (fun _ => rfl) (m_dk dk_X7_init 61 rfl) rfl) <|
  m_cn (pc := 122) (ok_aload_n (m_dk dk_X7_init 62 rfl) rfl rfl) <|
  m_cn (pc := 123) (ok_iconst (m_dk dk_X7_init 63 rfl) (by decide) rfl) <|
  m_cn (pc := 124) (ok_newi wd_103 (by decide) (m_dk dk_X7_init 64 rfl) rfl) <|
  m_cn (pc := 126) (ok_putrF (k := 20) (hc0 := (rfl : vwCl[8]? = some (RX7, TX7, 36))) (by decide) in_X7 wd_809 tyX7 tyX7_ok nmX7 rfl rfl rfl (tyX7_ok 20 (by decide)) (fun _ => rfl) (fun _ => rfl) (m_dk dk_X7_init 65 rfl) rfl) <|
  m_cn (pc := 129) (ok_aload_n (m_dk dk_X7_init 66 rfl) rfl rfl) <|
  m_cn (pc := 130) (ok_iconst (m_dk dk_X7_init 67 rfl) (by decide) rfl) <|
  m_cn (pc := 131) (ok_newi wd_103 (by decide) (m_dk dk_X7_init 68 rfl) rfl) <|
  m_cn (pc := 133) (ok_putrF (k := 21) (hc0 := (rfl : vwCl[8]? = some (RX7, TX7, 36))) (by decide) in_X7 wd_810 tyX7 tyX7_ok nmX7 rfl rfl rfl (tyX7_ok 21 (by decide)) (fun _ => rfl) (fun _ => rfl) (m_dk dk_X7_init 69 rfl) rfl) <|
  m_cn (pc := 136) (ok_aload_n (m_dk dk_X7_init 70 rfl) rfl rfl) <|
  m_cn (pc := 137) (ok_iconst (m_dk dk_X7_init 71 rfl) (by decide) rfl) <|
  m_cn (pc := 138) (ok_puti (k := 22) (hc0 := (rfl : vwCl[8]? = some (RX7, TX7, 36))) (by decide) in_X7 wd_811 tyX7 tyX7_ok nmX7 rfl (tyX7_ok 22 (by decide)) (m_dk dk_X7_init 72 rfl) rfl) <|
  m_cn (pc := 141) (ok_aload_n (m_dk dk_X7_init 73 rfl) rfl rfl) <|
  m_cn (pc := 142) (ok_iconst (m_dk dk_X7_init 74 rfl) (by decide) rfl) <|
  m_cn (pc := 143) (ok_puti (k := 23) (hc0 := (rfl : vwCl[8]? = some (RX7, TX7, 36))) (by decide) in_X7 wd_812 tyX7 tyX7_ok nmX7 rfl (tyX7_ok 23 (by decide)) (m_dk dk_X7_init 75 rfl) rfl) <|
  m_cn (pc := 146) (ok_aload_n (m_dk dk_X7_init 76 rfl) rfl rfl) <|
  m_cn (pc := 147) (ok_bipush (m_dk dk_X7_init 77 rfl) (by decide) rfl) <|
  m_cn (pc := 149) (ok_newi wd_103 (by decide) (m_dk dk_X7_init 78 rfl) rfl) <|
  m_cn (pc := 151) (ok_putrF (k := 24) (hc0 := (rfl : vwCl[8]? = some (RX7, TX7, 36))) (by decide) in_X7 wd_813 tyX7 tyX7_ok nmX7 rfl rfl rfl (tyX7_ok 24 (by decide)) (fun _ => rfl) (fun _ => rfl) (m_dk dk_X7_init 79 rfl) rfl) <|
  m_cn (pc := 154) (ok_aload_n (m_dk dk_X7_init 80 rfl) rfl rfl) <|
  m_cn (pc := 155) (ok_bipush (m_dk dk_X7_init 81 rfl) (by decide) rfl) <|
  m_cn (pc := 157) (ok_newi wd_103 (by decide) (m_dk dk_X7_init 82 rfl) rfl) <|
  m_cn (pc := 159) (ok_putrF (k := 25) (hc0 := (rfl : vwCl[8]? = some (RX7, TX7, 36))) (by decide) in_X7 wd_814 tyX7 tyX7_ok nmX7 rfl rfl rfl (tyX7_ok 25 (by decide)) (fun _ => rfl) (fun _ => rfl) (m_dk dk_X7_init 83 rfl) rfl) <|
  m_cn (pc := 162) (ok_aload_n (m_dk dk_X7_init 84 rfl) rfl rfl) <|
  m_cn (pc := 163) (ok_bipush (m_dk dk_X7_init 85 rfl) (by decide) rfl) <|
  m_cn (pc := 165) (ok_newi wd_103 (by decide) (m_dk dk_X7_init 86 rfl) rfl) <|
  m_cn (pc := 167) (ok_putrF (k := 26) (hc0 := (rfl : vwCl[8]? = some (RX7, TX7, 36))) (by decide) in_X7 wd_815 tyX7 tyX7_ok nmX7 rfl rfl rfl (tyX7_ok 26 (by decide)) (fun _ => rfl) (fun _ => rfl) (m_dk dk_X7_init 87 rfl) rfl) <|
  m_cn (pc := 170) (ok_aload_n (m_dk dk_X7_init 88 rfl) rfl rfl) <|
  m_cn (pc := 171) (ok_bipush (m_dk dk_X7_init 89 rfl) (by decide) rfl) <|
  m_cn (pc := 173) (ok_newi wd_103 (by decide) (m_dk dk_X7_init 90 rfl) rfl) <|
  m_cn (pc := 175) (ok_putrF (k := 28) (hc0 := (rfl : vwCl[8]? = some (RX7, TX7, 36))) (by decide) in_X7 wd_817 tyX7 tyX7_ok nmX7 rfl rfl rfl (tyX7_ok 28 (by decide)) (fun _ => rfl) (fun _ => rfl) (m_dk dk_X7_init 91 rfl) rfl) <|
  m_cn (pc := 178) (ok_aload_n (m_dk dk_X7_init 92 rfl) rfl rfl) <|
  m_cn (pc := 179) (ok_bipush (m_dk dk_X7_init 93 rfl) (by decide) rfl) <|
  m_cn (pc := 181) (ok_newi wd_103 (by decide) (m_dk dk_X7_init 94 rfl) rfl) <|
  m_cn (pc := 183) (ok_putrF (k := 29) (hc0 := (rfl : vwCl[8]? = some (RX7, TX7, 36))) (by decide) in_X7 wd_818 tyX7 tyX7_ok nmX7 rfl rfl rfl (tyX7_ok 29 (by decide)) (fun _ => rfl) (fun _ => rfl) (m_dk dk_X7_init 95 rfl) rfl) <|
  m_cn (pc := 186) (ok_aload_n (m_dk dk_X7_init 96 rfl) rfl rfl) <|
  m_cn (pc := 187) (ok_bipush (m_dk dk_X7_init 97 rfl) (by decide) rfl) <|
  m_cn (pc := 189) (ok_newi wd_103 (by decide) (m_dk dk_X7_init 98 rfl) rfl) <|
  m_cn (pc := 191) (ok_putrF (k := 30) (hc0 := (rfl : vwCl[8]? = some (RX7, TX7, 36))) (by decide) in_X7 wd_819 tyX7 tyX7_ok nmX7 rfl rfl rfl (tyX7_ok 30 (by decide)) (fun _ => rfl) (fun _ => rfl) (m_dk dk_X7_init 99 rfl) rfl) <|
  m_cn (pc := 194) (ok_aload_n (m_dk dk_X7_init 100 rfl) rfl rfl) <|
  m_cn (pc := 195) (ok_bipush (m_dk dk_X7_init 101 rfl) (by decide) rfl) <|
  m_cn (pc := 197) (ok_newi wd_103 (by decide) (m_dk dk_X7_init 102 rfl) rfl) <|
  m_cn (pc := 199) (ok_putrF (k := 31) (hc0 := (rfl : vwCl[8]? = some (RX7, TX7, 36))) (by decide) in_X7 wd_820 tyX7 tyX7_ok nmX7 rfl rfl rfl (tyX7_ok 31 (by decide)) (fun _ => rfl) (fun _ => rfl) (m_dk dk_X7_init 103 rfl) rfl) <|
  m_cn (pc := 202) (ok_iconst (m_dk dk_X7_init 104 rfl) (by decide) rfl) <|
  m_cn (pc := 203) (ok_istore_n (m_dk dk_X7_init 105 rfl) rfl rfl) <|
  m_cn (pc := 204) (ok_iload_n (m_dk dk_X7_init 106 rfl) rfl rfl) <|
  m_cn (pc := 205) (ok_iconst (m_dk dk_X7_init 107 rfl) (by decide) rfl) <|
  m_cn (pc := 206) (ok_icmpge (m_dk dk_X7_init 108 rfl) rfl rfl) <|
  m_cn (pc := 209) (ok_aload_n (m_dk dk_X7_init 109 rfl) rfl rfl) <|
  m_cn (pc := 210) (ok_getf (k := 21) (hc0 := (rfl : vwCl[8]? = some (RX7, TX7, 36))) (by decide) in_X7 wd_810 (m_dk dk_X7_init 110 rfl) rfl) <|
  m_cn (pc := 213) (ok_iload_n (m_dk dk_X7_init 111 rfl) rfl rfl) <|
  m_cn (pc := 214) (ok_iconst (m_dk dk_X7_init 112 rfl) (by decide) rfl) <|
  m_cn (pc := 215) (ok_iast (m_dk dk_X7_init 113 rfl) rfl) <|
  m_cn (pc := 216) (ok_iinc (m_dk dk_X7_init 114 rfl) (by decide) rfl) <|
  m_cn (pc := 219) (ok_goto (nx := 0) (m_dk dk_X7_init 115 rfl) rfl) <|
  m_cn (pc := 222) (ok_return (nx := 0) rfl (m_dk dk_X7_init 116 rfl)) <|
  m_nl
theorem mk_X7_init {GP : m_G → Prop} {cds : Nat → Nat → m_Op} (h : cds 61 = m_lk cd_X7_init) : m_MOK GP m_my cds 61 := ⟨RX7, true, [], by decide +kernel, rfl, (fun h9 => by first | rfl | cases h9), Or.inl ⟨rfl, rfl⟩, fun pc => by rw [h]; exact m_lk_ok _ ok_X7_init pc⟩
def dl_X7_thrown : List (Nat × Instr × Nat) := [(0, .aload_n 0, 1), (1, .getfield 89, 3), (4, .ireturn, 1)]
theorem dk_X7_thrown : ∀ q ∈ dl_X7_thrown, decode cX7_thrown q.1 = .ok q.2 := by decide +kernel
def cd_X7_thrown : List (Nat × m_Op) := [(0, o_aload 0 1), (1, o_getf 8 35 4), (4, o_ireturn)]
set_option maxRecDepth 20000 in
set_option maxHeartbeats 4000000 in
theorem ok_X7_thrown {GP : m_G → Prop} : ∀ q ∈ cd_X7_thrown, m_OK GP m_my (cX7_thrown, 1, RX7, false, (some .int), []) q.1 q.2 :=
  m_cn (pc := 0) (ok_aload_n (m_dk dk_X7_thrown 0 rfl) rfl rfl) <|
  m_cn (pc := 1) (ok_getf (k := 35) (hc0 := (rfl : vwCl[8]? = some (RX7, TX7, 36))) (by decide) in_X7 wd_824 (m_dk dk_X7_thrown 1 rfl) rfl) <|
  m_cn (pc := 4) (ok_ireturn (nx := 0) rfl (m_dk dk_X7_thrown 2 rfl)) <|
  m_nl
theorem mk_X7_thrown {GP : m_G → Prop} {cds : Nat → Nat → m_Op} (h : cds 62 = m_lk cd_X7_thrown) : m_MOK GP m_my cds 62 := ⟨RX7, false, [], by decide +kernel, rfl, (fun h9 => by first | rfl | cases h9), Or.inl ⟨rfl, rfl⟩, fun pc => by rw [h]; exact m_lk_ok _ ok_X7_thrown pc⟩
def dl_X7_in : List (Nat × Instr × Nat) := [(0, .iload_n 0, 1), (1, .iload_n 1, 1), (2, .if_icmp .lt 12, 3), (5, .iload_n 0, 1), (6, .iload_n 2, 1), (7, .if_icmp .gt 7, 3), (10, .iconst 1, 1), (11, .goto 4, 3), (14, .iconst 0, 1), (15, .ireturn, 1)]
theorem dk_X7_in : ∀ q ∈ dl_X7_in, decode cX7_in q.1 = .ok q.2 := by decide +kernel
def cd_X7_in : List (Nat × m_Op) := [(0, o_iload 0 1), (1, o_iload 1 2), (2, o_icmplt 14 5), (5, o_iload 0 6), (6, o_iload 2 7), (7, o_icmpgt 14 10), (10, o_const (1) 11), (11, o_goto 15), (14, o_const (0) 15), (15, o_zreturn)]
set_option maxRecDepth 20000 in
set_option maxHeartbeats 4000000 in
theorem ok_X7_in {GP : m_G → Prop} : ∀ q ∈ cd_X7_in, m_OK GP m_my (cX7_in, 3, RX7, false, (some .boolean), []) q.1 q.2 :=
  m_cn (pc := 0) (ok_iload_n (m_dk dk_X7_in 0 rfl) rfl rfl) <|
  m_cn (pc := 1) (ok_iload_n (m_dk dk_X7_in 1 rfl) rfl rfl) <|
  m_cn (pc := 2) (ok_icmplt (m_dk dk_X7_in 2 rfl) rfl rfl) <|
  m_cn (pc := 5) (ok_iload_n (m_dk dk_X7_in 3 rfl) rfl rfl) <|
  m_cn (pc := 6) (ok_iload_n (m_dk dk_X7_in 4 rfl) rfl rfl) <|
  m_cn (pc := 7) (ok_icmpgt (m_dk dk_X7_in 5 rfl) rfl rfl) <|
  m_cn (pc := 10) (ok_iconst (m_dk dk_X7_in 6 rfl) (by decide) rfl) <|
  m_cn (pc := 11) (ok_goto (nx := 0) (m_dk dk_X7_in 7 rfl) rfl) <|
  m_cn (pc := 14) (ok_iconst (m_dk dk_X7_in 8 rfl) (by decide) rfl) <|
  m_cn (pc := 15) (ok_zreturn (nx := 0) rfl (m_dk dk_X7_in 9 rfl)) <|
  m_nl
theorem mk_X7_in {GP : m_G → Prop} {cds : Nat → Nat → m_Op} (h : cds 63 = m_lk cd_X7_in) : m_MOK GP m_my cds 63 := ⟨RX7, false, [], by decide +kernel, rfl, (fun h9 => by first | rfl | cases h9), Or.inl ⟨rfl, rfl⟩, fun pc => by rw [h]; exact m_lk_ok _ ok_X7_in pc⟩
def dl_X7_goes : List (Nat × Instr × Nat) := [(0, .aload_n 0, 1), (1, .iload_n 1, 1), (2, .ifCond .ne 7, 3), (5, .iconst 1, 1), (6, .goto 20, 3), (9, .iload_n 2, 1), (10, .ifCond .ne 7, 3), (13, .iconst 2, 1), (14, .goto 12, 3), (17, .iload_n 3, 1), (18, .ifCond .ne 7, 3), (21, .iconst 3, 1), (22, .goto 4, 3), (25, .iconst 0, 1), (26, .putfield 89, 3), (29, .aload_n 0, 1), (30, .getfield 89, 3), (33, .ifCond .ne 7, 3), (36, .iconst 1, 1), (37, .goto 4, 3), (40, .iconst 0, 1), (41, .ireturn, 1)]
theorem dk_X7_goes : ∀ q ∈ dl_X7_goes, decode cX7_goes q.1 = .ok q.2 := by decide +kernel
def cd_X7_goes : List (Nat × m_Op) := [(0, o_aload 0 1), (1, o_iload 1 2), (2, o_ifne 9 5), (5, o_const (1) 6), (6, o_goto 26), (9, o_iload 2 10), (10, o_ifne 17 13), (13, o_const (2) 14), (14, o_goto 26), (17, o_iload 3 18), (18, o_ifne 25 21), (21, o_const (3) 22), (22, o_goto 26), (25, o_const (0) 26), (26, o_puti 8 35 29), (29, o_aload 0 30), (30, o_getf 8 35 33), (33, o_ifne 40 36), (36, o_const (1) 37), (37, o_goto 41), (40, o_const (0) 41), (41, o_zreturn)]
set_option maxRecDepth 20000 in
set_option maxHeartbeats 4000000 in
theorem ok_X7_goes {GP : m_G → Prop} : ∀ q ∈ cd_X7_goes, m_OK GP m_my (cX7_goes, 4, RX7, false, (some .boolean), []) q.1 q.2 :=
  m_cn (pc := 0) (ok_aload_n (m_dk dk_X7_goes 0 rfl) rfl rfl) <|
  m_cn (pc := 1) (ok_iload_n (m_dk dk_X7_goes 1 rfl) rfl rfl) <|
  m_cn (pc := 2) (ok_ifne (m_dk dk_X7_goes 2 rfl) rfl rfl) <|
  m_cn (pc := 5) (ok_iconst (m_dk dk_X7_goes 3 rfl) (by decide) rfl) <|
  m_cn (pc := 6) (ok_goto (nx := 0) (m_dk dk_X7_goes 4 rfl) rfl) <|
  m_cn (pc := 9) (ok_iload_n (m_dk dk_X7_goes 5 rfl) rfl rfl) <|
  m_cn (pc := 10) (ok_ifne (m_dk dk_X7_goes 6 rfl) rfl rfl) <|
  m_cn (pc := 13) (ok_iconst (m_dk dk_X7_goes 7 rfl) (by decide) rfl) <|
  m_cn (pc := 14) (ok_goto (nx := 0) (m_dk dk_X7_goes 8 rfl) rfl) <|
  m_cn (pc := 17) (ok_iload_n (m_dk dk_X7_goes 9 rfl) rfl rfl) <|
  m_cn (pc := 18) (ok_ifne (m_dk dk_X7_goes 10 rfl) rfl rfl) <|
  m_cn (pc := 21) (ok_iconst (m_dk dk_X7_goes 11 rfl) (by decide) rfl) <|
  m_cn (pc := 22) (ok_goto (nx := 0) (m_dk dk_X7_goes 12 rfl) rfl) <|
  m_cn (pc := 25) (ok_iconst (m_dk dk_X7_goes 13 rfl) (by decide) rfl) <|
  m_cn (pc := 26) (ok_puti (k := 35) (hc0 := (rfl : vwCl[8]? = some (RX7, TX7, 36))) (by decide) in_X7 wd_824 tyX7 tyX7_ok nmX7 rfl (tyX7_ok 35 (by decide)) (m_dk dk_X7_goes 14 rfl) rfl) <|
  m_cn (pc := 29) (ok_aload_n (m_dk dk_X7_goes 15 rfl) rfl rfl) <|
  m_cn (pc := 30) (ok_getf (k := 35) (hc0 := (rfl : vwCl[8]? = some (RX7, TX7, 36))) (by decide) in_X7 wd_824 (m_dk dk_X7_goes 16 rfl) rfl) <|
  m_cn (pc := 33) (ok_ifne (m_dk dk_X7_goes 17 rfl) rfl rfl) <|
  m_cn (pc := 36) (ok_iconst (m_dk dk_X7_goes 18 rfl) (by decide) rfl) <|
  m_cn (pc := 37) (ok_goto (nx := 0) (m_dk dk_X7_goes 19 rfl) rfl) <|
  m_cn (pc := 40) (ok_iconst (m_dk dk_X7_goes 20 rfl) (by decide) rfl) <|
  m_cn (pc := 41) (ok_zreturn (nx := 0) rfl (m_dk dk_X7_goes 21 rfl)) <|
  m_nl
theorem mk_X7_goes {GP : m_G → Prop} {cds : Nat → Nat → m_Op} (h : cds 64 = m_lk cd_X7_goes) : m_MOK GP m_my cds 64 := ⟨RX7, false, [], by decide +kernel, rfl, (fun h9 => by first | rfl | cases h9), Or.inl ⟨rfl, rfl⟩, fun pc => by rw [h]; exact m_lk_ok _ ok_X7_goes pc⟩
def dl_X7_isLanding : List (Nat × Instr × Nat) := [(0, .iload_n 0, 1), (1, .iconst 0, 1), (2, .iconst 5, 1), (3, .invokestatic 92, 3), (6, .ireturn, 1)]
theorem dk_X7_isLanding : ∀ q ∈ dl_X7_isLanding, decode cX7_isLanding q.1 = .ok q.2 := by decide +kernel
def cd_X7_isLanding : List (Nat × m_Op) := [(0, o_iload 0 1), (1, o_const (0) 2), (2, o_const (5) 3), (3, o_call 63 3 0 0 6), (6, o_zreturn)]
set_option maxRecDepth 20000 in
set_option maxHeartbeats 4000000 in
theorem ok_X7_isLanding {GP : m_G → Prop} : ∀ q ∈ cd_X7_isLanding, m_OK GP m_my (cX7_isLanding, 1, RX7, false, (some .boolean), []) q.1 q.2 :=
  m_cn (pc := 0) (ok_iload_n (m_dk dk_X7_isLanding 0 rfl) rfl rfl) <|
  m_cn (pc := 1) (ok_iconst (m_dk dk_X7_isLanding 1 rfl) (by decide) rfl) <|
  m_cn (pc := 2) (ok_iconst (m_dk dk_X7_isLanding 2 rfl) (by decide) rfl) <|
  m_cn (pc := 3) (ok_calls (T := mt_X7_in) my_X7_in rfl cw_X7_in rfl rfl (by decide) wd_909 wd_910 wd_6 (by decide +kernel) (m_dk dk_X7_isLanding 3 rfl) rfl) <|
  m_cn (pc := 6) (ok_zreturn (nx := 0) rfl (m_dk dk_X7_isLanding 4 rfl)) <|
  m_nl
theorem mk_X7_isLanding {GP : m_G → Prop} {cds : Nat → Nat → m_Op} (h : cds 65 = m_lk cd_X7_isLanding) : m_MOK GP m_my cds 65 := ⟨RX7, false, [], by decide +kernel, rfl, (fun h9 => by first | rfl | cases h9), Or.inl ⟨rfl, rfl⟩, fun pc => by rw [h]; exact m_lk_ok _ ok_X7_isLanding pc⟩
def dl_X7_isMember : List (Nat × Instr × Nat) := [(0, .iload_n 0, 1), (1, .iconst 0, 1), (2, .iconst 5, 1), (3, .invokestatic 92, 3), (6, .ireturn, 1)]
theorem dk_X7_isMember : ∀ q ∈ dl_X7_isMember, decode cX7_isMember q.1 = .ok q.2 := by decide +kernel
def cd_X7_isMember : List (Nat × m_Op) := [(0, o_iload 0 1), (1, o_const (0) 2), (2, o_const (5) 3), (3, o_call 63 3 0 0 6), (6, o_zreturn)]
set_option maxRecDepth 20000 in
set_option maxHeartbeats 4000000 in
theorem ok_X7_isMember {GP : m_G → Prop} : ∀ q ∈ cd_X7_isMember, m_OK GP m_my (cX7_isMember, 1, RX7, false, (some .boolean), []) q.1 q.2 :=
  m_cn (pc := 0) (ok_iload_n (m_dk dk_X7_isMember 0 rfl) rfl rfl) <|
  m_cn (pc := 1) (ok_iconst (m_dk dk_X7_isMember 1 rfl) (by decide) rfl) <|
  m_cn (pc := 2) (ok_iconst (m_dk dk_X7_isMember 2 rfl) (by decide) rfl) <|
  m_cn (pc := 3) (ok_calls (T := mt_X7_in) my_X7_in rfl cw_X7_in rfl rfl (by decide) wd_909 wd_910 wd_6 (by decide +kernel) (m_dk dk_X7_isMember 3 rfl) rfl) <|
  m_cn (pc := 6) (ok_zreturn (nx := 0) rfl (m_dk dk_X7_isMember 4 rfl)) <|
  m_nl
theorem mk_X7_isMember {GP : m_G → Prop} {cds : Nat → Nat → m_Op} (h : cds 66 = m_lk cd_X7_isMember) : m_MOK GP m_my cds 66 := ⟨RX7, false, [], by decide +kernel, rfl, (fun h9 => by first | rfl | cases h9), Or.inl ⟨rfl, rfl⟩, fun pc => by rw [h]; exact m_lk_ok _ ok_X7_isMember pc⟩
def dl_X7_isCable : List (Nat × Instr × Nat) := [(0, .iload_n 1, 1), (1, .iconst 0, 1), (2, .aload_n 0, 1), (3, .getfield 96, 3), (6, .iconst 1, 1), (7, .isub, 1), (8, .invokestatic 92, 3), (11, .ireturn, 1)]
theorem dk_X7_isCable : ∀ q ∈ dl_X7_isCable, decode cX7_isCable q.1 = .ok q.2 := by decide +kernel
def cd_X7_isCable : List (Nat × m_Op) := [(0, o_iload 1 1), (1, o_const (0) 2), (2, o_aload 0 3), (3, o_getf 8 1 6), (6, o_const (1) 7), (7, o_bin (fun x y => x - y) 8), (8, o_call 63 3 0 0 11), (11, o_zreturn)]
set_option maxRecDepth 20000 in
set_option maxHeartbeats 4000000 in
theorem ok_X7_isCable {GP : m_G → Prop} : ∀ q ∈ cd_X7_isCable, m_OK GP m_my (cX7_isCable, 2, RX7, false, (some .boolean), []) q.1 q.2 :=
  m_cn (pc := 0) (ok_iload_n (m_dk dk_X7_isCable 0 rfl) rfl rfl) <|
  m_cn (pc := 1) (ok_iconst (m_dk dk_X7_isCable 1 rfl) (by decide) rfl) <|
  m_cn (pc := 2) (ok_aload_n (m_dk dk_X7_isCable 2 rfl) rfl rfl) <|
  m_cn (pc := 3) (ok_getf (k := 1) (hc0 := (rfl : vwCl[8]? = some (RX7, TX7, 36))) (by decide) in_X7 wd_790 (m_dk dk_X7_isCable 3 rfl) rfl) <|
  m_cn (pc := 6) (ok_iconst (m_dk dk_X7_isCable 4 rfl) (by decide) rfl) <|
  m_cn (pc := 7) (ok_isub (m_dk dk_X7_isCable 5 rfl) rfl) <|
  m_cn (pc := 8) (ok_calls (T := mt_X7_in) my_X7_in rfl cw_X7_in rfl rfl (by decide) wd_909 wd_910 wd_6 (by decide +kernel) (m_dk dk_X7_isCable 6 rfl) rfl) <|
  m_cn (pc := 11) (ok_zreturn (nx := 0) rfl (m_dk dk_X7_isCable 7 rfl)) <|
  m_nl
theorem mk_X7_isCable {GP : m_G → Prop} {cds : Nat → Nat → m_Op} (h : cds 67 = m_lk cd_X7_isCable) : m_MOK GP m_my cds 67 := ⟨RX7, false, [], by decide +kernel, rfl, (fun h9 => by first | rfl | cases h9), Or.inl ⟨rfl, rfl⟩, fun pc => by rw [h]; exact m_lk_ok _ ok_X7_isCable pc⟩
def dl_X7_isDemand : List (Nat × Instr × Nat) := [(0, .iload_n 1, 1), (1, .iconst 0, 1), (2, .aload_n 0, 1), (3, .getfield 99, 3), (6, .iconst 1, 1), (7, .isub, 1), (8, .invokestatic 92, 3), (11, .ireturn, 1)]
theorem dk_X7_isDemand : ∀ q ∈ dl_X7_isDemand, decode cX7_isDemand q.1 = .ok q.2 := by decide +kernel
def cd_X7_isDemand : List (Nat × m_Op) := [(0, o_iload 1 1), (1, o_const (0) 2), (2, o_aload 0 3), (3, o_getf 8 5 6), (6, o_const (1) 7), (7, o_bin (fun x y => x - y) 8), (8, o_call 63 3 0 0 11), (11, o_zreturn)]
set_option maxRecDepth 20000 in
set_option maxHeartbeats 4000000 in
theorem ok_X7_isDemand {GP : m_G → Prop} : ∀ q ∈ cd_X7_isDemand, m_OK GP m_my (cX7_isDemand, 2, RX7, false, (some .boolean), []) q.1 q.2 :=
  m_cn (pc := 0) (ok_iload_n (m_dk dk_X7_isDemand 0 rfl) rfl rfl) <|
  m_cn (pc := 1) (ok_iconst (m_dk dk_X7_isDemand 1 rfl) (by decide) rfl) <|
  m_cn (pc := 2) (ok_aload_n (m_dk dk_X7_isDemand 2 rfl) rfl rfl) <|
  m_cn (pc := 3) (ok_getf (k := 5) (hc0 := (rfl : vwCl[8]? = some (RX7, TX7, 36))) (by decide) in_X7 wd_794 (m_dk dk_X7_isDemand 3 rfl) rfl) <|
  m_cn (pc := 6) (ok_iconst (m_dk dk_X7_isDemand 4 rfl) (by decide) rfl) <|
  m_cn (pc := 7) (ok_isub (m_dk dk_X7_isDemand 5 rfl) rfl) <|
  m_cn (pc := 8) (ok_calls (T := mt_X7_in) my_X7_in rfl cw_X7_in rfl rfl (by decide) wd_909 wd_910 wd_6 (by decide +kernel) (m_dk dk_X7_isDemand 6 rfl) rfl) <|
  m_cn (pc := 11) (ok_zreturn (nx := 0) rfl (m_dk dk_X7_isDemand 7 rfl)) <|
  m_nl
theorem mk_X7_isDemand {GP : m_G → Prop} {cds : Nat → Nat → m_Op} (h : cds 68 = m_lk cd_X7_isDemand) : m_MOK GP m_my cds 68 := ⟨RX7, false, [], by decide +kernel, rfl, (fun h9 => by first | rfl | cases h9), Or.inl ⟨rfl, rfl⟩, fun pc => by rw [h]; exact m_lk_ok _ ok_X7_isDemand pc⟩
def dl_X7_isCut : List (Nat × Instr × Nat) := [(0, .iload_n 1, 1), (1, .iconst 0, 1), (2, .aload_n 0, 1), (3, .getfield 102, 3), (6, .iconst 1, 1), (7, .isub, 1), (8, .invokestatic 92, 3), (11, .ireturn, 1)]
theorem dk_X7_isCut : ∀ q ∈ dl_X7_isCut, decode cX7_isCut q.1 = .ok q.2 := by decide +kernel
def cd_X7_isCut : List (Nat × m_Op) := [(0, o_iload 1 1), (1, o_const (0) 2), (2, o_aload 0 3), (3, o_getf 8 12 6), (6, o_const (1) 7), (7, o_bin (fun x y => x - y) 8), (8, o_call 63 3 0 0 11), (11, o_zreturn)]
set_option maxRecDepth 20000 in
set_option maxHeartbeats 4000000 in
theorem ok_X7_isCut {GP : m_G → Prop} : ∀ q ∈ cd_X7_isCut, m_OK GP m_my (cX7_isCut, 2, RX7, false, (some .boolean), []) q.1 q.2 :=
  m_cn (pc := 0) (ok_iload_n (m_dk dk_X7_isCut 0 rfl) rfl rfl) <|
  m_cn (pc := 1) (ok_iconst (m_dk dk_X7_isCut 1 rfl) (by decide) rfl) <|
  m_cn (pc := 2) (ok_aload_n (m_dk dk_X7_isCut 2 rfl) rfl rfl) <|
  m_cn (pc := 3) (ok_getf (k := 12) (hc0 := (rfl : vwCl[8]? = some (RX7, TX7, 36))) (by decide) in_X7 wd_801 (m_dk dk_X7_isCut 3 rfl) rfl) <|
  m_cn (pc := 6) (ok_iconst (m_dk dk_X7_isCut 4 rfl) (by decide) rfl) <|
  m_cn (pc := 7) (ok_isub (m_dk dk_X7_isCut 5 rfl) rfl) <|
  m_cn (pc := 8) (ok_calls (T := mt_X7_in) my_X7_in rfl cw_X7_in rfl rfl (by decide) wd_909 wd_910 wd_6 (by decide +kernel) (m_dk dk_X7_isCut 6 rfl) rfl) <|
  m_cn (pc := 11) (ok_zreturn (nx := 0) rfl (m_dk dk_X7_isCut 7 rfl)) <|
  m_nl
theorem mk_X7_isCut {GP : m_G → Prop} {cds : Nat → Nat → m_Op} (h : cds 69 = m_lk cd_X7_isCut) : m_MOK GP m_my cds 69 := ⟨RX7, false, [], by decide +kernel, rfl, (fun h9 => by first | rfl | cases h9), Or.inl ⟨rfl, rfl⟩, fun pc => by rw [h]; exact m_lk_ok _ ok_X7_isCut pc⟩
def dl_X7_isShip : List (Nat × Instr × Nat) := [(0, .iload_n 1, 1), (1, .iconst 0, 1), (2, .aload_n 0, 1), (3, .getfield 105, 3), (6, .iconst 1, 1), (7, .isub, 1), (8, .invokestatic 92, 3), (11, .ireturn, 1)]
theorem dk_X7_isShip : ∀ q ∈ dl_X7_isShip, decode cX7_isShip q.1 = .ok q.2 := by decide +kernel
def cd_X7_isShip : List (Nat × m_Op) := [(0, o_iload 1 1), (1, o_const (0) 2), (2, o_aload 0 3), (3, o_getf 8 17 6), (6, o_const (1) 7), (7, o_bin (fun x y => x - y) 8), (8, o_call 63 3 0 0 11), (11, o_zreturn)]
set_option maxRecDepth 20000 in
set_option maxHeartbeats 4000000 in
theorem ok_X7_isShip {GP : m_G → Prop} : ∀ q ∈ cd_X7_isShip, m_OK GP m_my (cX7_isShip, 2, RX7, false, (some .boolean), []) q.1 q.2 :=
  m_cn (pc := 0) (ok_iload_n (m_dk dk_X7_isShip 0 rfl) rfl rfl) <|
  m_cn (pc := 1) (ok_iconst (m_dk dk_X7_isShip 1 rfl) (by decide) rfl) <|
  m_cn (pc := 2) (ok_aload_n (m_dk dk_X7_isShip 2 rfl) rfl rfl) <|
  m_cn (pc := 3) (ok_getf (k := 17) (hc0 := (rfl : vwCl[8]? = some (RX7, TX7, 36))) (by decide) in_X7 wd_806 (m_dk dk_X7_isShip 3 rfl) rfl) <|
  m_cn (pc := 6) (ok_iconst (m_dk dk_X7_isShip 4 rfl) (by decide) rfl) <|
  m_cn (pc := 7) (ok_isub (m_dk dk_X7_isShip 5 rfl) rfl) <|
  m_cn (pc := 8) (ok_calls (T := mt_X7_in) my_X7_in rfl cw_X7_in rfl rfl (by decide) wd_909 wd_910 wd_6 (by decide +kernel) (m_dk dk_X7_isShip 6 rfl) rfl) <|
  m_cn (pc := 11) (ok_zreturn (nx := 0) rfl (m_dk dk_X7_isShip 7 rfl)) <|
  m_nl
theorem mk_X7_isShip {GP : m_G → Prop} {cds : Nat → Nat → m_Op} (h : cds 70 = m_lk cd_X7_isShip) : m_MOK GP m_my cds 70 := ⟨RX7, false, [], by decide +kernel, rfl, (fun h9 => by first | rfl | cases h9), Or.inl ⟨rfl, rfl⟩, fun pc => by rw [h]; exact m_lk_ok _ ok_X7_isShip pc⟩
def dl_X7_length : List (Nat × Instr × Nat) := [(0, .sipush 200, 3), (3, .aload_n 0, 1), (4, .getfield 7, 3), (7, .iload_n 1, 1), (8, .iaload, 1), (9, .aload_n 0, 1), (10, .getfield 13, 3), (13, .iload_n 1, 1), (14, .iaload, 1), (15, .isub, 1), (16, .imul, 1), (17, .istore_n 2, 1), (18, .iload_n 2, 1), (19, .ifCond .ge 8, 3), (22, .iload_n 2, 1), (23, .ineg, 1), (24, .goto 4, 3), (27, .iload_n 2, 1), (28, .ireturn, 1)]
theorem dk_X7_length : ∀ q ∈ dl_X7_length, decode cX7_length q.1 = .ok q.2 := by decide +kernel
def cd_X7_length : List (Nat × m_Op) := [(0, o_const (200) 3), (3, o_aload 0 4), (4, o_getf 8 2 7), (7, o_iload 1 8), (8, o_iald 0 9), (9, o_aload 0 10), (10, o_getf 8 3 13), (13, o_iload 1 14), (14, o_iald 0 15), (15, o_bin (fun x y => x - y) 16), (16, o_bin (fun x y => x * y) 17), (17, o_istore 2 18), (18, o_iload 2 19), (19, o_ifge 27 22), (22, o_iload 2 23), (23, o_un (fun x => -x) 24), (24, o_goto 28), (27, o_iload 2 28), (28, o_ireturn)]
set_option maxRecDepth 20000 in
set_option maxHeartbeats 4000000 in
theorem ok_X7_length {GP : m_G → Prop} : ∀ q ∈ cd_X7_length, m_OK GP m_my (cX7_length, 3, RX7, false, (some .int), []) q.1 q.2 :=
  m_cn (pc := 0) (ok_sipush (m_dk dk_X7_length 0 rfl) (by decide) rfl) <|
  m_cn (pc := 3) (ok_aload_n (m_dk dk_X7_length 1 rfl) rfl rfl) <|
  m_cn (pc := 4) (ok_getf (k := 2) (hc0 := (rfl : vwCl[8]? = some (RX7, TX7, 36))) (by decide) in_X7 wd_791 (m_dk dk_X7_length 2 rfl) rfl) <|
  m_cn (pc := 7) (ok_iload_n (m_dk dk_X7_length 3 rfl) rfl rfl) <|
  m_cn (pc := 8) (ok_iald (m_dk dk_X7_length 4 rfl) rfl) <|
  m_cn (pc := 9) (ok_aload_n (m_dk dk_X7_length 5 rfl) rfl rfl) <|
  m_cn (pc := 10) (ok_getf (k := 3) (hc0 := (rfl : vwCl[8]? = some (RX7, TX7, 36))) (by decide) in_X7 wd_792 (m_dk dk_X7_length 6 rfl) rfl) <|
  m_cn (pc := 13) (ok_iload_n (m_dk dk_X7_length 7 rfl) rfl rfl) <|
  m_cn (pc := 14) (ok_iald (m_dk dk_X7_length 8 rfl) rfl) <|
  m_cn (pc := 15) (ok_isub (m_dk dk_X7_length 9 rfl) rfl) <|
  m_cn (pc := 16) (ok_imul (m_dk dk_X7_length 10 rfl) rfl) <|
  m_cn (pc := 17) (ok_istore_n (m_dk dk_X7_length 11 rfl) rfl rfl) <|
  m_cn (pc := 18) (ok_iload_n (m_dk dk_X7_length 12 rfl) rfl rfl) <|
  m_cn (pc := 19) (ok_ifge (m_dk dk_X7_length 13 rfl) rfl rfl) <|
  m_cn (pc := 22) (ok_iload_n (m_dk dk_X7_length 14 rfl) rfl rfl) <|
  m_cn (pc := 23) (ok_ineg (m_dk dk_X7_length 15 rfl) rfl) <|
  m_cn (pc := 24) (ok_goto (nx := 0) (m_dk dk_X7_length 16 rfl) rfl) <|
  m_cn (pc := 27) (ok_iload_n (m_dk dk_X7_length 17 rfl) rfl rfl) <|
  m_cn (pc := 28) (ok_ireturn (nx := 0) rfl (m_dk dk_X7_length 18 rfl)) <|
  m_nl
theorem mk_X7_length {GP : m_G → Prop} {cds : Nat → Nat → m_Op} (h : cds 71 = m_lk cd_X7_length) : m_MOK GP m_my cds 71 := ⟨RX7, false, [], by decide +kernel, rfl, (fun h9 => by first | rfl | cases h9), Or.inl ⟨rfl, rfl⟩, fun pc => by rw [h]; exact m_lk_ok _ ok_X7_length pc⟩
def dl_X7_low : List (Nat × Instr × Nat) := [(0, .aload_n 0, 1), (1, .getfield 7, 3), (4, .iload_n 1, 1), (5, .iaload, 1), (6, .aload_n 0, 1), (7, .getfield 13, 3), (10, .iload_n 1, 1), (11, .iaload, 1), (12, .if_icmp .ge 12, 3), (15, .aload_n 0, 1), (16, .getfield 7, 3), (19, .iload_n 1, 1), (20, .iaload, 1), (21, .goto 9, 3), (24, .aload_n 0, 1), (25, .getfield 13, 3), (28, .iload_n 1, 1), (29, .iaload, 1), (30, .ireturn, 1)]
theorem dk_X7_low : ∀ q ∈ dl_X7_low, decode cX7_low q.1 = .ok q.2 := by decide +kernel
def cd_X7_low : List (Nat × m_Op) := [(0, o_aload 0 1), (1, o_getf 8 2 4), (4, o_iload 1 5), (5, o_iald 0 6), (6, o_aload 0 7), (7, o_getf 8 3 10), (10, o_iload 1 11), (11, o_iald 0 12), (12, o_icmpge 24 15), (15, o_aload 0 16), (16, o_getf 8 2 19), (19, o_iload 1 20), (20, o_iald 0 21), (21, o_goto 30), (24, o_aload 0 25), (25, o_getf 8 3 28), (28, o_iload 1 29), (29, o_iald 0 30), (30, o_ireturn)]
set_option maxRecDepth 20000 in
set_option maxHeartbeats 4000000 in
theorem ok_X7_low {GP : m_G → Prop} : ∀ q ∈ cd_X7_low, m_OK GP m_my (cX7_low, 2, RX7, false, (some .int), []) q.1 q.2 :=
  m_cn (pc := 0) (ok_aload_n (m_dk dk_X7_low 0 rfl) rfl rfl) <|
  m_cn (pc := 1) (ok_getf (k := 2) (hc0 := (rfl : vwCl[8]? = some (RX7, TX7, 36))) (by decide) in_X7 wd_791 (m_dk dk_X7_low 1 rfl) rfl) <|
  m_cn (pc := 4) (ok_iload_n (m_dk dk_X7_low 2 rfl) rfl rfl) <|
  m_cn (pc := 5) (ok_iald (m_dk dk_X7_low 3 rfl) rfl) <|
  m_cn (pc := 6) (ok_aload_n (m_dk dk_X7_low 4 rfl) rfl rfl) <|
  m_cn (pc := 7) (ok_getf (k := 3) (hc0 := (rfl : vwCl[8]? = some (RX7, TX7, 36))) (by decide) in_X7 wd_792 (m_dk dk_X7_low 5 rfl) rfl) <|
  m_cn (pc := 10) (ok_iload_n (m_dk dk_X7_low 6 rfl) rfl rfl) <|
  m_cn (pc := 11) (ok_iald (m_dk dk_X7_low 7 rfl) rfl) <|
  m_cn (pc := 12) (ok_icmpge (m_dk dk_X7_low 8 rfl) rfl rfl) <|
  m_cn (pc := 15) (ok_aload_n (m_dk dk_X7_low 9 rfl) rfl rfl) <|
  m_cn (pc := 16) (ok_getf (k := 2) (hc0 := (rfl : vwCl[8]? = some (RX7, TX7, 36))) (by decide) in_X7 wd_791 (m_dk dk_X7_low 10 rfl) rfl) <|
  m_cn (pc := 19) (ok_iload_n (m_dk dk_X7_low 11 rfl) rfl rfl) <|
  m_cn (pc := 20) (ok_iald (m_dk dk_X7_low 12 rfl) rfl) <|
  m_cn (pc := 21) (ok_goto (nx := 0) (m_dk dk_X7_low 13 rfl) rfl) <|
  m_cn (pc := 24) (ok_aload_n (m_dk dk_X7_low 14 rfl) rfl rfl) <|
  m_cn (pc := 25) (ok_getf (k := 3) (hc0 := (rfl : vwCl[8]? = some (RX7, TX7, 36))) (by decide) in_X7 wd_792 (m_dk dk_X7_low 15 rfl) rfl) <|
  m_cn (pc := 28) (ok_iload_n (m_dk dk_X7_low 16 rfl) rfl rfl) <|
  m_cn (pc := 29) (ok_iald (m_dk dk_X7_low 17 rfl) rfl) <|
  m_cn (pc := 30) (ok_ireturn (nx := 0) rfl (m_dk dk_X7_low 18 rfl)) <|
  m_nl
theorem mk_X7_low {GP : m_G → Prop} {cds : Nat → Nat → m_Op} (h : cds 72 = m_lk cd_X7_low) : m_MOK GP m_my cds 72 := ⟨RX7, false, [], by decide +kernel, rfl, (fun h9 => by first | rfl | cases h9), Or.inl ⟨rfl, rfl⟩, fun pc => by rw [h]; exact m_lk_ok _ ok_X7_low pc⟩
def dl_X7_cable : List (Nat × Instr × Nat) := [(0, .iload_n 1, 1), (1, .invokestatic 108, 3), (4, .ifCond .eq 22, 3), (7, .iload_n 2, 1), (8, .invokestatic 108, 3), (11, .ifCond .eq 15, 3), (14, .iload 4, 2), (16, .invokestatic 112, 3), (19, .ifCond .eq 7, 3), (22, .iconst 1, 1), (23, .goto 4, 3), (26, .iconst 0, 1), (27, .istore 5, 2), (29, .aload_n 0, 1), (30, .iload 5, 2), (32, .iload_n 1, 1), (33, .iload_n 2, 1), (34, .if_icmp .eq 17, 3), (37, .iload_n 3, 1), (38, .iconst 1, 1), (39, .bipush 8, 2), (41, .invokestatic 92, 3), (44, .ifCond .eq 7, 3), (47, .iconst 1, 1), (48, .goto 4, 3), (51, .iconst 0, 1), (52, .aload_n 0, 1), (53, .getfield 96, 3), (56, .bipush 10, 2), (58, .if_icmp .ge 7, 3), (61, .iconst 1, 1), (62, .goto 4, 3), (65, .iconst 0, 1), (66, .invokevirtual 115, 3), (69, .ifCond .ne 5, 3), (72, .iconst 0, 1), (73, .ireturn, 1), (74, .aload_n 0, 1), (75, .getfield 7, 3), (78, .aload_n 0, 1), (79, .getfield 96, 3), (82, .iload_n 1, 1), (83, .iastore, 1), (84, .aload_n 0, 1), (85, .getfield 13, 3), (88, .aload_n 0, 1), (89, .getfield 96, 3), (92, .iload_n 2, 1), (93, .iastore, 1), (94, .aload_n 0, 1), (95, .getfield 16, 3), (98, .bipush 6, 2), (100, .aload_n 0, 1), (101, .getfield 96, 3), (104, .imul, 1), (105, .iload 4, 2), (107, .iadd, 1), (108, .iload_n 3, 1), (109, .iastore, 1), (110, .aload_n 0, 1), (111, .dup, 1), (112, .getfield 96, 3), (115, .iconst 1, 1), (116, .iadd, 1), (117, .putfield 96, 3), (120, .aload_n 0, 1), (121, .getfield 96, 3), (124, .iconst 1, 1), (125, .isub, 1), (126, .ireturn, 1)]
theorem dk_X7_cable : ∀ q ∈ dl_X7_cable, decode cX7_cable q.1 = .ok q.2 := by decide +kernel
def cd_X7_cable : List (Nat × m_Op) := [(0, o_iload 1 1), (1, o_call 65 1 0 0 4), (4, o_ifeq 26 7), (7, o_iload 2 8), (8, o_call 65 1 0 0 11), (11, o_ifeq 26 14), (14, o_iload 4 16), (16, o_call 66 1 0 0 19), (19, o_ifeq 26 22), (22, o_const (1) 23), (23, o_goto 27), (26, o_const (0) 27), (27, o_istore 5 29), (29, o_aload 0 30), (30, o_iload 5 32), (32, o_iload 1 33), (33, o_iload 2 34), (34, o_icmpeq 51 37), (37, o_iload 3 38), (38, o_const (1) 39), (39, o_const (8) 41), (41, o_call 63 3 0 0 44), (44, o_ifeq 51 47), (47, o_const (1) 48), (48, o_goto 52), (51, o_const (0) 52), (52, o_aload 0 53), (53, o_getf 8 1 56), (56, o_const (10) 58), (58, o_icmpge 65 61), (61, o_const (1) 62), (62, o_goto 66), (65, o_const (0) 66), (66, o_callv 8 64 4 0 0 69), (69, o_ifne 74 72), (72, o_const (0) 73), (73, o_ireturn), (74, o_aload 0 75), (75, o_getf 8 2 78), (78, o_aload 0 79), (79, o_getf 8 1 82), (82, o_iload 1 83), (83, o_iast 84), (84, o_aload 0 85), (85, o_getf 8 3 88), (88, o_aload 0 89), (89, o_getf 8 1 92), (92, o_iload 2 93), (93, o_iast 94), (94, o_aload 0 95), (95, o_getf 8 4 98), (98, o_const (6) 100), (100, o_aload 0 101), (101, o_getf 8 1 104), (104, o_bin (fun x y => x * y) 105), (105, o_iload 4 107), (107, o_bin (fun x y => x + y) 108), (108, o_iload 3 109), (109, o_iast 110), (110, o_aload 0 111), (111, o_dup 112), (112, o_getf 8 1 115), (115, o_const (1) 116), (116, o_bin (fun x y => x + y) 117), (117, o_puti 8 1 120), (120, o_aload 0 121), (121, o_getf 8 1 124), (124, o_const (1) 125), (125, o_bin (fun x y => x - y) 126), (126, o_ireturn)]
set_option maxRecDepth 20000 in
set_option maxHeartbeats 4000000 in
theorem ok_X7_cable {GP : m_G → Prop} : ∀ q ∈ cd_X7_cable, m_OK GP m_my (cX7_cable, 6, RX7, false, (some .int), []) q.1 q.2 :=
  m_cn (pc := 0) (ok_iload_n (m_dk dk_X7_cable 0 rfl) rfl rfl) <|
  m_cn (pc := 1) (ok_calls (T := mt_X7_isLanding) my_X7_isLanding rfl cw_X7_isLanding rfl rfl (by decide) wd_906 wd_907 wd_6 (by decide +kernel) (m_dk dk_X7_cable 1 rfl) rfl) <|
  m_cn (pc := 4) (ok_ifeq (m_dk dk_X7_cable 2 rfl) rfl rfl) <|
  m_cn (pc := 7) (ok_iload_n (m_dk dk_X7_cable 3 rfl) rfl rfl) <|
  m_cn (pc := 8) (ok_calls (T := mt_X7_isLanding) my_X7_isLanding rfl cw_X7_isLanding rfl rfl (by decide) wd_906 wd_907 wd_6 (by decide +kernel) (m_dk dk_X7_cable 4 rfl) rfl) <|
  m_cn (pc := 11) (ok_ifeq (m_dk dk_X7_cable 5 rfl) rfl rfl) <|
  m_cn (pc := 14) (ok_iload (m_dk dk_X7_cable 6 rfl) rfl) <|
  m_cn (pc := 16) (ok_calls (T := mt_X7_isMember) my_X7_isMember rfl cw_X7_isMember rfl rfl (by decide) wd_912 wd_913 wd_6 (by decide +kernel) (m_dk dk_X7_cable 7 rfl) rfl) <|
  m_cn (pc := 19) (ok_ifeq (m_dk dk_X7_cable 8 rfl) rfl rfl) <|
  m_cn (pc := 22) (ok_iconst (m_dk dk_X7_cable 9 rfl) (by decide) rfl) <|
  m_cn (pc := 23) (ok_goto (nx := 0) (m_dk dk_X7_cable 10 rfl) rfl) <|
  m_cn (pc := 26) (ok_iconst (m_dk dk_X7_cable 11 rfl) (by decide) rfl) <|
  m_cn (pc := 27) (ok_istore (m_dk dk_X7_cable 12 rfl) rfl) <|
  m_cn (pc := 29) (ok_aload_n (m_dk dk_X7_cable 13 rfl) rfl rfl) <|
  m_cn (pc := 30) (ok_iload (m_dk dk_X7_cable 14 rfl) rfl) <|
  m_cn (pc := 32) (ok_iload_n (m_dk dk_X7_cable 15 rfl) rfl rfl) <|
  m_cn (pc := 33) (ok_iload_n (m_dk dk_X7_cable 16 rfl) rfl rfl) <|
  m_cn (pc := 34) (ok_icmpeq (m_dk dk_X7_cable 17 rfl) rfl rfl) <|
  m_cn (pc := 37) (ok_iload_n (m_dk dk_X7_cable 18 rfl) rfl rfl) <|
  m_cn (pc := 38) (ok_iconst (m_dk dk_X7_cable 19 rfl) (by decide) rfl) <|
  m_cn (pc := 39) (ok_bipush (m_dk dk_X7_cable 20 rfl) (by decide) rfl) <|
  m_cn (pc := 41) (ok_calls (T := mt_X7_in) my_X7_in rfl cw_X7_in rfl rfl (by decide) wd_909 wd_910 wd_6 (by decide +kernel) (m_dk dk_X7_cable 21 rfl) rfl) <|
  m_cn (pc := 44) (ok_ifeq (m_dk dk_X7_cable 22 rfl) rfl rfl) <|
  m_cn (pc := 47) (ok_iconst (m_dk dk_X7_cable 23 rfl) (by decide) rfl) <|
  m_cn (pc := 48) (ok_goto (nx := 0) (m_dk dk_X7_cable 24 rfl) rfl) <|
  m_cn (pc := 51) (ok_iconst (m_dk dk_X7_cable 25 rfl) (by decide) rfl) <|
  m_cn (pc := 52) (ok_aload_n (m_dk dk_X7_cable 26 rfl) rfl rfl) <|
  m_cn (pc := 53) (ok_getf (k := 1) (hc0 := (rfl : vwCl[8]? = some (RX7, TX7, 36))) (by decide) in_X7 wd_790 (m_dk dk_X7_cable 27 rfl) rfl) <|
  m_cn (pc := 56) (ok_bipush (m_dk dk_X7_cable 28 rfl) (by decide) rfl) <|
  m_cn (pc := 58) (ok_icmpge (m_dk dk_X7_cable 29 rfl) rfl rfl) <|
  m_cn (pc := 61) (ok_iconst (m_dk dk_X7_cable 30 rfl) (by decide) rfl) <|
  m_cn (pc := 62) (ok_goto (nx := 0) (m_dk dk_X7_cable 31 rfl) rfl) <|
  m_cn (pc := 65) (ok_iconst (m_dk dk_X7_cable 32 rfl) (by decide) rfl) <|
  m_cn (pc := 66) (ok_callv (T := mt_X7_goes) my_X7_goes rfl cw_X7_goes rfl rfl (by decide) (r9 := (RX7, TX7, 36)) rfl rfl wd_915 wd_917 (m_wk 21 (by decide +kernel) (by decide +kernel)) wd_6 (by decide +kernel) (m_dk dk_X7_cable 33 rfl) rfl) <|
  m_cn (pc := 69) (ok_ifne (m_dk dk_X7_cable 34 rfl) rfl rfl) <|
  m_cn (pc := 72) (ok_iconst (m_dk dk_X7_cable 35 rfl) (by decide) rfl) <|
  m_cn (pc := 73) (ok_ireturn (nx := 0) rfl (m_dk dk_X7_cable 36 rfl)) <|
  m_cn (pc := 74) (ok_aload_n (m_dk dk_X7_cable 37 rfl) rfl rfl) <|
  m_cn (pc := 75) (ok_getf (k := 2) (hc0 := (rfl : vwCl[8]? = some (RX7, TX7, 36))) (by decide) in_X7 wd_791 (m_dk dk_X7_cable 38 rfl) rfl) <|
  m_cn (pc := 78) (ok_aload_n (m_dk dk_X7_cable 39 rfl) rfl rfl) <|
  m_cn (pc := 79) (ok_getf (k := 1) (hc0 := (rfl : vwCl[8]? = some (RX7, TX7, 36))) (by decide) in_X7 wd_790 (m_dk dk_X7_cable 40 rfl) rfl) <|
  m_cn (pc := 82) (ok_iload_n (m_dk dk_X7_cable 41 rfl) rfl rfl) <|
  m_cn (pc := 83) (ok_iast (m_dk dk_X7_cable 42 rfl) rfl) <|
  m_cn (pc := 84) (ok_aload_n (m_dk dk_X7_cable 43 rfl) rfl rfl) <|
  m_cn (pc := 85) (ok_getf (k := 3) (hc0 := (rfl : vwCl[8]? = some (RX7, TX7, 36))) (by decide) in_X7 wd_792 (m_dk dk_X7_cable 44 rfl) rfl) <|
  m_cn (pc := 88) (ok_aload_n (m_dk dk_X7_cable 45 rfl) rfl rfl) <|
  m_cn (pc := 89) (ok_getf (k := 1) (hc0 := (rfl : vwCl[8]? = some (RX7, TX7, 36))) (by decide) in_X7 wd_790 (m_dk dk_X7_cable 46 rfl) rfl) <|
  m_cn (pc := 92) (ok_iload_n (m_dk dk_X7_cable 47 rfl) rfl rfl) <|
  m_cn (pc := 93) (ok_iast (m_dk dk_X7_cable 48 rfl) rfl) <|
  m_cn (pc := 94) (ok_aload_n (m_dk dk_X7_cable 49 rfl) rfl rfl) <|
  m_cn (pc := 95) (ok_getf (k := 4) (hc0 := (rfl : vwCl[8]? = some (RX7, TX7, 36))) (by decide) in_X7 wd_793 (m_dk dk_X7_cable 50 rfl) rfl) <|
  m_cn (pc := 98) (ok_bipush (m_dk dk_X7_cable 51 rfl) (by decide) rfl) <|
  m_cn (pc := 100) (ok_aload_n (m_dk dk_X7_cable 52 rfl) rfl rfl) <|
  m_cn (pc := 101) (ok_getf (k := 1) (hc0 := (rfl : vwCl[8]? = some (RX7, TX7, 36))) (by decide) in_X7 wd_790 (m_dk dk_X7_cable 53 rfl) rfl) <|
  m_cn (pc := 104) (ok_imul (m_dk dk_X7_cable 54 rfl) rfl) <|
  m_cn (pc := 105) (ok_iload (m_dk dk_X7_cable 55 rfl) rfl) <|
  m_cn (pc := 107) (ok_iadd (m_dk dk_X7_cable 56 rfl) rfl) <|
  m_cn (pc := 108) (ok_iload_n (m_dk dk_X7_cable 57 rfl) rfl rfl) <|
  m_cn (pc := 109) (ok_iast (m_dk dk_X7_cable 58 rfl) rfl) <|
  m_cn (pc := 110) (ok_aload_n (m_dk dk_X7_cable 59 rfl) rfl rfl) <|
  m_cn (pc := 111) (ok_dup (m_dk dk_X7_cable 60 rfl) rfl) <|
  m_cn (pc := 112) (ok_getf (k := 1) (hc0 := (rfl : vwCl[8]? = some (RX7, TX7, 36))) (by decide) in_X7 wd_790 (m_dk dk_X7_cable 61 rfl) rfl) <|
  m_cn (pc := 115) (ok_iconst (m_dk dk_X7_cable 62 rfl) (by decide) rfl) <|
  m_cn (pc := 116) (ok_iadd (m_dk dk_X7_cable 63 rfl) rfl) <|
  m_cn (pc := 117) (ok_puti (k := 1) (hc0 := (rfl : vwCl[8]? = some (RX7, TX7, 36))) (by decide) in_X7 wd_790 tyX7 tyX7_ok nmX7 rfl (tyX7_ok 1 (by decide)) (m_dk dk_X7_cable 64 rfl) rfl) <|
  m_cn (pc := 120) (ok_aload_n (m_dk dk_X7_cable 65 rfl) rfl rfl) <|
  m_cn (pc := 121) (ok_getf (k := 1) (hc0 := (rfl : vwCl[8]? = some (RX7, TX7, 36))) (by decide) in_X7 wd_790 (m_dk dk_X7_cable 66 rfl) rfl) <|
  m_cn (pc := 124) (ok_iconst (m_dk dk_X7_cable 67 rfl) (by decide) rfl) <|
  m_cn (pc := 125) (ok_isub (m_dk dk_X7_cable 68 rfl) rfl) <|
  m_cn (pc := 126) (ok_ireturn (nx := 0) rfl (m_dk dk_X7_cable 69 rfl)) <|
  m_nl
theorem mk_X7_cable {GP : m_G → Prop} {cds : Nat → Nat → m_Op} (h : cds 73 = m_lk cd_X7_cable) : m_MOK GP m_my cds 73 := ⟨RX7, false, [], by decide +kernel, rfl, (fun h9 => by first | rfl | cases h9), Or.inl ⟨rfl, rfl⟩, fun pc => by rw [h]; exact m_lk_ok _ ok_X7_cable pc⟩
def dl_X7_demand : List (Nat × Instr × Nat) := [(0, .iload_n 2, 1), (1, .invokestatic 108, 3), (4, .ifCond .eq 21, 3), (7, .iload_n 3, 1), (8, .invokestatic 108, 3), (11, .ifCond .eq 14, 3), (14, .iload_n 1, 1), (15, .invokestatic 112, 3), (18, .ifCond .eq 7, 3), (21, .iconst 1, 1), (22, .goto 4, 3), (25, .iconst 0, 1), (26, .istore 5, 2), (28, .aload_n 0, 1), (29, .iload 5, 2), (31, .iload_n 2, 1), (32, .iload_n 3, 1), (33, .if_icmp .eq 17, 3), (36, .iload 4, 2), (38, .iconst 1, 1), (39, .iconst 4, 1), (40, .invokestatic 92, 3), (43, .ifCond .eq 7, 3), (46, .iconst 1, 1), (47, .goto 4, 3), (50, .iconst 0, 1), (51, .aload_n 0, 1), (52, .getfield 99, 3), (55, .bipush 10, 2), (57, .if_icmp .ge 7, 3), (60, .iconst 1, 1), (61, .goto 4, 3), (64, .iconst 0, 1), (65, .invokevirtual 115, 3), (68, .ifCond .ne 5, 3), (71, .iconst 0, 1), (72, .ireturn, 1), (73, .aload_n 0, 1), (74, .getfield 19, 3), (77, .aload_n 0, 1), (78, .getfield 99, 3), (81, .iload_n 1, 1), (82, .iastore, 1), (83, .aload_n 0, 1), (84, .getfield 22, 3), (87, .aload_n 0, 1), (88, .getfield 99, 3), (91, .iload_n 2, 1), (92, .iastore, 1), (93, .aload_n 0, 1), (94, .getfield 25, 3), (97, .aload_n 0, 1), (98, .getfield 99, 3), (101, .iload_n 3, 1), (102, .iastore, 1), (103, .aload_n 0, 1), (104, .getfield 28, 3), (107, .aload_n 0, 1), (108, .getfield 99, 3), (111, .iload 4, 2), (113, .iastore, 1), (114, .aload_n 0, 1), (115, .getfield 31, 3), (118, .aload_n 0, 1), (119, .getfield 99, 3), (122, .iconst (-1), 1), (123, .iastore, 1), (124, .aload_n 0, 1), (125, .dup, 1), (126, .getfield 99, 3), (129, .iconst 1, 1), (130, .iadd, 1), (131, .putfield 99, 3), (134, .aload_n 0, 1), (135, .getfield 99, 3), (138, .iconst 1, 1), (139, .isub, 1), (140, .ireturn, 1)]
theorem dk_X7_demand : ∀ q ∈ dl_X7_demand, decode cX7_demand q.1 = .ok q.2 := by decide +kernel
def cd_X7_demand : List (Nat × m_Op) := [(0, o_iload 2 1), (1, o_call 65 1 0 0 4), (4, o_ifeq 25 7), (7, o_iload 3 8), (8, o_call 65 1 0 0 11), (11, o_ifeq 25 14), (14, o_iload 1 15), (15, o_call 66 1 0 0 18), (18, o_ifeq 25 21), (21, o_const (1) 22), (22, o_goto 26), (25, o_const (0) 26), (26, o_istore 5 28), (28, o_aload 0 29), (29, o_iload 5 31), (31, o_iload 2 32), (32, o_iload 3 33), (33, o_icmpeq 50 36), (36, o_iload 4 38), (38, o_const (1) 39), (39, o_const (4) 40), (40, o_call 63 3 0 0 43), (43, o_ifeq 50 46), (46, o_const (1) 47), (47, o_goto 51), (50, o_const (0) 51), (51, o_aload 0 52), (52, o_getf 8 5 55), (55, o_const (10) 57), (57, o_icmpge 64 60), (60, o_const (1) 61), (61, o_goto 65), (64, o_const (0) 65), (65, o_callv 8 64 4 0 0 68), (68, o_ifne 73 71), (71, o_const (0) 72), (72, o_ireturn), (73, o_aload 0 74), (74, o_getf 8 6 77), (77, o_aload 0 78), (78, o_getf 8 5 81), (81, o_iload 1 82), (82, o_iast 83), (83, o_aload 0 84), (84, o_getf 8 7 87), (87, o_aload 0 88), (88, o_getf 8 5 91), (91, o_iload 2 92), (92, o_iast 93), (93, o_aload 0 94), (94, o_getf 8 8 97), (97, o_aload 0 98), (98, o_getf 8 5 101), (101, o_iload 3 102), (102, o_iast 103), (103, o_aload 0 104), (104, o_getf 8 9 107), (107, o_aload 0 108), (108, o_getf 8 5 111), (111, o_iload 4 113), (113, o_iast 114), (114, o_aload 0 115), (115, o_getf 8 10 118), (118, o_aload 0 119), (119, o_getf 8 5 122), (122, o_const (-1) 123), (123, o_iast 124), (124, o_aload 0 125), (125, o_dup 126), (126, o_getf 8 5 129), (129, o_const (1) 130), (130, o_bin (fun x y => x + y) 131), (131, o_puti 8 5 134), (134, o_aload 0 135), (135, o_getf 8 5 138), (138, o_const (1) 139), (139, o_bin (fun x y => x - y) 140), (140, o_ireturn)]
set_option maxRecDepth 20000 in
set_option maxHeartbeats 4000000 in
theorem ok_X7_demand {GP : m_G → Prop} : ∀ q ∈ cd_X7_demand, m_OK GP m_my (cX7_demand, 6, RX7, false, (some .int), []) q.1 q.2 :=
  m_cn (pc := 0) (ok_iload_n (m_dk dk_X7_demand 0 rfl) rfl rfl) <|
  m_cn (pc := 1) (ok_calls (T := mt_X7_isLanding) my_X7_isLanding rfl cw_X7_isLanding rfl rfl (by decide) wd_906 wd_907 wd_6 (by decide +kernel) (m_dk dk_X7_demand 1 rfl) rfl) <|
  m_cn (pc := 4) (ok_ifeq (m_dk dk_X7_demand 2 rfl) rfl rfl) <|
  m_cn (pc := 7) (ok_iload_n (m_dk dk_X7_demand 3 rfl) rfl rfl) <|
  m_cn (pc := 8) (ok_calls (T := mt_X7_isLanding) my_X7_isLanding rfl cw_X7_isLanding rfl rfl (by decide) wd_906 wd_907 wd_6 (by decide +kernel) (m_dk dk_X7_demand 4 rfl) rfl) <|
  m_cn (pc := 11) (ok_ifeq (m_dk dk_X7_demand 5 rfl) rfl rfl) <|
  m_cn (pc := 14) (ok_iload_n (m_dk dk_X7_demand 6 rfl) rfl rfl) <|
  m_cn (pc := 15) (ok_calls (T := mt_X7_isMember) my_X7_isMember rfl cw_X7_isMember rfl rfl (by decide) wd_912 wd_913 wd_6 (by decide +kernel) (m_dk dk_X7_demand 7 rfl) rfl) <|
  m_cn (pc := 18) (ok_ifeq (m_dk dk_X7_demand 8 rfl) rfl rfl) <|
  m_cn (pc := 21) (ok_iconst (m_dk dk_X7_demand 9 rfl) (by decide) rfl) <|
  m_cn (pc := 22) (ok_goto (nx := 0) (m_dk dk_X7_demand 10 rfl) rfl) <|
  m_cn (pc := 25) (ok_iconst (m_dk dk_X7_demand 11 rfl) (by decide) rfl) <|
  m_cn (pc := 26) (ok_istore (m_dk dk_X7_demand 12 rfl) rfl) <|
  m_cn (pc := 28) (ok_aload_n (m_dk dk_X7_demand 13 rfl) rfl rfl) <|
  m_cn (pc := 29) (ok_iload (m_dk dk_X7_demand 14 rfl) rfl) <|
  m_cn (pc := 31) (ok_iload_n (m_dk dk_X7_demand 15 rfl) rfl rfl) <|
  m_cn (pc := 32) (ok_iload_n (m_dk dk_X7_demand 16 rfl) rfl rfl) <|
  m_cn (pc := 33) (ok_icmpeq (m_dk dk_X7_demand 17 rfl) rfl rfl) <|
  m_cn (pc := 36) (ok_iload (m_dk dk_X7_demand 18 rfl) rfl) <|
  m_cn (pc := 38) (ok_iconst (m_dk dk_X7_demand 19 rfl) (by decide) rfl) <|
  m_cn (pc := 39) (ok_iconst (m_dk dk_X7_demand 20 rfl) (by decide) rfl) <|
  m_cn (pc := 40) (ok_calls (T := mt_X7_in) my_X7_in rfl cw_X7_in rfl rfl (by decide) wd_909 wd_910 wd_6 (by decide +kernel) (m_dk dk_X7_demand 21 rfl) rfl) <|
  m_cn (pc := 43) (ok_ifeq (m_dk dk_X7_demand 22 rfl) rfl rfl) <|
  m_cn (pc := 46) (ok_iconst (m_dk dk_X7_demand 23 rfl) (by decide) rfl) <|
  m_cn (pc := 47) (ok_goto (nx := 0) (m_dk dk_X7_demand 24 rfl) rfl) <|
  m_cn (pc := 50) (ok_iconst (m_dk dk_X7_demand 25 rfl) (by decide) rfl) <|
  m_cn (pc := 51) (ok_aload_n (m_dk dk_X7_demand 26 rfl) rfl rfl) <|
  m_cn (pc := 52) (ok_getf (k := 5) (hc0 := (rfl : vwCl[8]? = some (RX7, TX7, 36))) (by decide) in_X7 wd_794 (m_dk dk_X7_demand 27 rfl) rfl) <|
  m_cn (pc := 55) (ok_bipush (m_dk dk_X7_demand 28 rfl) (by decide) rfl) <|
  m_cn (pc := 57) (ok_icmpge (m_dk dk_X7_demand 29 rfl) rfl rfl) <|
  m_cn (pc := 60) (ok_iconst (m_dk dk_X7_demand 30 rfl) (by decide) rfl) <|
  m_cn (pc := 61) (ok_goto (nx := 0) (m_dk dk_X7_demand 31 rfl) rfl) <|
  m_cn (pc := 64) (ok_iconst (m_dk dk_X7_demand 32 rfl) (by decide) rfl) <|
  m_cn (pc := 65) (ok_callv (T := mt_X7_goes) my_X7_goes rfl cw_X7_goes rfl rfl (by decide) (r9 := (RX7, TX7, 36)) rfl rfl wd_915 wd_917 (m_wk 21 (by decide +kernel) (by decide +kernel)) wd_6 (by decide +kernel) (m_dk dk_X7_demand 33 rfl) rfl) <|
  m_cn (pc := 68) (ok_ifne (m_dk dk_X7_demand 34 rfl) rfl rfl) <|
  m_cn (pc := 71) (ok_iconst (m_dk dk_X7_demand 35 rfl) (by decide) rfl) <|
  m_cn (pc := 72) (ok_ireturn (nx := 0) rfl (m_dk dk_X7_demand 36 rfl)) <|
  m_cn (pc := 73) (ok_aload_n (m_dk dk_X7_demand 37 rfl) rfl rfl) <|
  m_cn (pc := 74) (ok_getf (k := 6) (hc0 := (rfl : vwCl[8]? = some (RX7, TX7, 36))) (by decide) in_X7 wd_795 (m_dk dk_X7_demand 38 rfl) rfl) <|
  m_cn (pc := 77) (ok_aload_n (m_dk dk_X7_demand 39 rfl) rfl rfl) <|
  m_cn (pc := 78) (ok_getf (k := 5) (hc0 := (rfl : vwCl[8]? = some (RX7, TX7, 36))) (by decide) in_X7 wd_794 (m_dk dk_X7_demand 40 rfl) rfl) <|
  m_cn (pc := 81) (ok_iload_n (m_dk dk_X7_demand 41 rfl) rfl rfl) <|
  m_cn (pc := 82) (ok_iast (m_dk dk_X7_demand 42 rfl) rfl) <|
  m_cn (pc := 83) (ok_aload_n (m_dk dk_X7_demand 43 rfl) rfl rfl) <|
  m_cn (pc := 84) (ok_getf (k := 7) (hc0 := (rfl : vwCl[8]? = some (RX7, TX7, 36))) (by decide) in_X7 wd_796 (m_dk dk_X7_demand 44 rfl) rfl) <|
  m_cn (pc := 87) (ok_aload_n (m_dk dk_X7_demand 45 rfl) rfl rfl) <|
  m_cn (pc := 88) (ok_getf (k := 5) (hc0 := (rfl : vwCl[8]? = some (RX7, TX7, 36))) (by decide) in_X7 wd_794 (m_dk dk_X7_demand 46 rfl) rfl) <|
  m_cn (pc := 91) (ok_iload_n (m_dk dk_X7_demand 47 rfl) rfl rfl) <|
  m_cn (pc := 92) (ok_iast (m_dk dk_X7_demand 48 rfl) rfl) <|
  m_cn (pc := 93) (ok_aload_n (m_dk dk_X7_demand 49 rfl) rfl rfl) <|
  m_cn (pc := 94) (ok_getf (k := 8) (hc0 := (rfl : vwCl[8]? = some (RX7, TX7, 36))) (by decide) in_X7 wd_797 (m_dk dk_X7_demand 50 rfl) rfl) <|
  m_cn (pc := 97) (ok_aload_n (m_dk dk_X7_demand 51 rfl) rfl rfl) <|
  m_cn (pc := 98) (ok_getf (k := 5) (hc0 := (rfl : vwCl[8]? = some (RX7, TX7, 36))) (by decide) in_X7 wd_794 (m_dk dk_X7_demand 52 rfl) rfl) <|
  m_cn (pc := 101) (ok_iload_n (m_dk dk_X7_demand 53 rfl) rfl rfl) <|
  m_cn (pc := 102) (ok_iast (m_dk dk_X7_demand 54 rfl) rfl) <|
  m_cn (pc := 103) (ok_aload_n (m_dk dk_X7_demand 55 rfl) rfl rfl) <|
  m_cn (pc := 104) (ok_getf (k := 9) (hc0 := (rfl : vwCl[8]? = some (RX7, TX7, 36))) (by decide) in_X7 wd_798 (m_dk dk_X7_demand 56 rfl) rfl) <|
  m_cn (pc := 107) (ok_aload_n (m_dk dk_X7_demand 57 rfl) rfl rfl) <|
  m_cn (pc := 108) (ok_getf (k := 5) (hc0 := (rfl : vwCl[8]? = some (RX7, TX7, 36))) (by decide) in_X7 wd_794 (m_dk dk_X7_demand 58 rfl) rfl) <|
  m_cn (pc := 111) (ok_iload (m_dk dk_X7_demand 59 rfl) rfl) <|
  m_cn (pc := 113) (ok_iast (m_dk dk_X7_demand 60 rfl) rfl) <|
  m_cn (pc := 114) (ok_aload_n (m_dk dk_X7_demand 61 rfl) rfl rfl) <|
  m_cn (pc := 115) (ok_getf (k := 10) (hc0 := (rfl : vwCl[8]? = some (RX7, TX7, 36))) (by decide) in_X7 wd_799 (m_dk dk_X7_demand 62 rfl) rfl) <|
  m_cn (pc := 118) (ok_aload_n (m_dk dk_X7_demand 63 rfl) rfl rfl) <|
  m_cn (pc := 119) (ok_getf (k := 5) (hc0 := (rfl : vwCl[8]? = some (RX7, TX7, 36))) (by decide) in_X7 wd_794 (m_dk dk_X7_demand 64 rfl) rfl) <|
  m_cn (pc := 122) (ok_iconst (m_dk dk_X7_demand 65 rfl) (by decide) rfl) <|
  m_cn (pc := 123) (ok_iast (m_dk dk_X7_demand 66 rfl) rfl) <|
  m_cn (pc := 124) (ok_aload_n (m_dk dk_X7_demand 67 rfl) rfl rfl) <|
  m_cn (pc := 125) (ok_dup (m_dk dk_X7_demand 68 rfl) rfl) <|
  m_cn (pc := 126) (ok_getf (k := 5) (hc0 := (rfl : vwCl[8]? = some (RX7, TX7, 36))) (by decide) in_X7 wd_794 (m_dk dk_X7_demand 69 rfl) rfl) <|
  m_cn (pc := 129) (ok_iconst (m_dk dk_X7_demand 70 rfl) (by decide) rfl) <|
  m_cn (pc := 130) (ok_iadd (m_dk dk_X7_demand 71 rfl) rfl) <|
  m_cn (pc := 131) (ok_puti (k := 5) (hc0 := (rfl : vwCl[8]? = some (RX7, TX7, 36))) (by decide) in_X7 wd_794 tyX7 tyX7_ok nmX7 rfl (tyX7_ok 5 (by decide)) (m_dk dk_X7_demand 72 rfl) rfl) <|
  m_cn (pc := 134) (ok_aload_n (m_dk dk_X7_demand 73 rfl) rfl rfl) <|
  m_cn (pc := 135) (ok_getf (k := 5) (hc0 := (rfl : vwCl[8]? = some (RX7, TX7, 36))) (by decide) in_X7 wd_794 (m_dk dk_X7_demand 74 rfl) rfl) <|
  m_cn (pc := 138) (ok_iconst (m_dk dk_X7_demand 75 rfl) (by decide) rfl) <|
  m_cn (pc := 139) (ok_isub (m_dk dk_X7_demand 76 rfl) rfl) <|
  m_cn (pc := 140) (ok_ireturn (nx := 0) rfl (m_dk dk_X7_demand 77 rfl)) <|
  m_nl
theorem mk_X7_demand {GP : m_G → Prop} {cds : Nat → Nat → m_Op} (h : cds 74 = m_lk cd_X7_demand) : m_MOK GP m_my cds 74 := ⟨RX7, false, [], by decide +kernel, rfl, (fun h9 => by first | rfl | cases h9), Or.inl ⟨rfl, rfl⟩, fun pc => by rw [h]; exact m_lk_ok _ ok_X7_demand pc⟩
def dl_X7_sell : List (Nat × Instr × Nat) := [(0, .aload_n 0, 1), (1, .iload_n 1, 1), (2, .invokevirtual 119, 3), (5, .ifCond .eq 21, 3), (8, .iload_n 2, 1), (9, .invokestatic 112, 3), (12, .ifCond .eq 14, 3), (15, .iload_n 3, 1), (16, .invokestatic 112, 3), (19, .ifCond .eq 7, 3), (22, .iconst 1, 1), (23, .goto 4, 3), (26, .iconst 0, 1), (27, .istore 6, 2), (29, .iload_n 2, 1), (30, .iload_n 3, 1), (31, .if_icmp .eq 29, 3), (34, .iload 4, 2), (36, .iconst 1, 1), (37, .bipush 8, 2), (39, .invokestatic 92, 3), (42, .ifCond .eq 18, 3), (45, .iload 5, 2), (47, .iconst 0, 1), (48, .ldc 122, 2), (50, .invokestatic 92, 3), (53, .ifCond .eq 7, 3), (56, .iconst 1, 1), (57, .goto 4, 3), (60, .iconst 0, 1), (61, .istore 7, 2), (63, .aload_n 0, 1), (64, .iload 6, 2), (66, .iload 7, 2), (68, .iload 6, 2), (70, .ifCond .eq 41, 3), (73, .aload_n 0, 1), (74, .getfield 16, 3), (77, .bipush 6, 2), (79, .iload 6, 2), (81, .ifCond .eq 7, 3), (84, .iload_n 1, 1), (85, .goto 4, 3), (88, .iconst 0, 1), (89, .imul, 1), (90, .iload 6, 2), (92, .ifCond .eq 7, 3), (95, .iload_n 2, 1), (96, .goto 4, 3), (99, .iconst 0, 1), (100, .iadd, 1), (101, .iaload, 1), (102, .iload 4, 2), (104, .if_icmp .lt 7, 3), (107, .iconst 1, 1), (108, .goto 4, 3), (111, .iconst 0, 1), (112, .invokevirtual 115, 3), (115, .ifCond .ne 5, 3), (118, .iconst 0, 1), (119, .ireturn, 1), (120, .aload_n 0, 1), (121, .getfield 16, 3), (124, .bipush 6, 2), (126, .iload_n 1, 1), (127, .imul, 1), (128, .iload_n 2, 1), (129, .iadd, 1), (130, .dup2, 1), (131, .iaload, 1), (132, .iload 4, 2), (134, .isub, 1), (135, .iastore, 1), (136, .aload_n 0, 1), (137, .getfield 16, 3), (140, .bipush 6, 2), (142, .iload_n 1, 1), (143, .imul, 1), (144, .iload_n 3, 1), (145, .iadd, 1), (146, .dup2, 1), (147, .iaload, 1), (148, .iload 4, 2), (150, .iadd, 1), (151, .iastore, 1), (152, .aload_n 0, 1), (153, .getfield 74, 3), (156, .iload_n 2, 1), (157, .dup2, 1), (158, .iaload, 1), (159, .iload 5, 2), (161, .iadd, 1), (162, .iastore, 1), (163, .aload_n 0, 1), (164, .getfield 74, 3), (167, .iload_n 3, 1), (168, .dup2, 1), (169, .iaload, 1), (170, .iload 5, 2), (172, .isub, 1), (173, .iastore, 1), (174, .aload_n 0, 1), (175, .getfield 71, 3), (178, .bipush 6, 2), (180, .iload_n 2, 1), (181, .imul, 1), (182, .iload_n 3, 1), (183, .iadd, 1), (184, .dup2, 1), (185, .iaload, 1), (186, .iload 5, 2), (188, .iadd, 1), (189, .iastore, 1), (190, .aload_n 0, 1), (191, .getfield 16, 3), (194, .bipush 6, 2), (196, .iload_n 1, 1), (197, .imul, 1), (198, .iload_n 3, 1), (199, .iadd, 1), (200, .iaload, 1), (201, .ireturn, 1)]
theorem dk_X7_sell : ∀ q ∈ dl_X7_sell, decode cX7_sell q.1 = .ok q.2 := by decide +kernel
def cd_X7_sell : List (Nat × m_Op) := [(0, o_aload 0 1), (1, o_iload 1 2), (2, o_callv 8 67 2 0 0 5), (5, o_ifeq 26 8), (8, o_iload 2 9), (9, o_call 66 1 0 0 12), (12, o_ifeq 26 15), (15, o_iload 3 16), (16, o_call 66 1 0 0 19), (19, o_ifeq 26 22), (22, o_const (1) 23), (23, o_goto 27), (26, o_const (0) 27), (27, o_istore 6 29), (29, o_iload 2 30), (30, o_iload 3 31), (31, o_icmpeq 60 34), (34, o_iload 4 36), (36, o_const (1) 37), (37, o_const (8) 39), (39, o_call 63 3 0 0 42), (42, o_ifeq 60 45), (45, o_iload 5 47), (47, o_const (0) 48), (48, o_const (100000) 50), (50, o_call 63 3 0 0 53), (53, o_ifeq 60 56), (56, o_const (1) 57), (57, o_goto 61), (60, o_const (0) 61), (61, o_istore 7 63), (63, o_aload 0 64), (64, o_iload 6 66), (66, o_iload 7 68), (68, o_iload 6 70), (70, o_ifeq 111 73), (73, o_aload 0 74), (74, o_getf 8 4 77), (77, o_const (6) 79), (79, o_iload 6 81), (81, o_ifeq 88 84), (84, o_iload 1 85), (85, o_goto 89), (88, o_const (0) 89), (89, o_bin (fun x y => x * y) 90), (90, o_iload 6 92), (92, o_ifeq 99 95), (95, o_iload 2 96), (96, o_goto 100), (99, o_const (0) 100), (100, o_bin (fun x y => x + y) 101), (101, o_iald 0 102), (102, o_iload 4 104), (104, o_icmplt 111 107), (107, o_const (1) 108), (108, o_goto 112), (111, o_const (0) 112), (112, o_callv 8 64 4 0 0 115), (115, o_ifne 120 118), (118, o_const (0) 119), (119, o_ireturn), (120, o_aload 0 121), (121, o_getf 8 4 124), (124, o_const (6) 126), (126, o_iload 1 127), (127, o_bin (fun x y => x * y) 128), (128, o_iload 2 129), (129, o_bin (fun x y => x + y) 130), (130, o_dup2 131), (131, o_iald 0 132), (132, o_iload 4 134), (134, o_bin (fun x y => x - y) 135), (135, o_iast 136), (136, o_aload 0 137), (137, o_getf 8 4 140), (140, o_const (6) 142), (142, o_iload 1 143), (143, o_bin (fun x y => x * y) 144), (144, o_iload 3 145), (145, o_bin (fun x y => x + y) 146), (146, o_dup2 147), (147, o_iald 0 148), (148, o_iload 4 150), (150, o_bin (fun x y => x + y) 151), (151, o_iast 152), (152, o_aload 0 153), (153, o_getf 8 26 156), (156, o_iload 2 157), (157, o_dup2 158), (158, o_iald 0 159), (159, o_iload 5 161), (161, o_bin (fun x y => x + y) 162), (162, o_iast 163), (163, o_aload 0 164), (164, o_getf 8 26 167), (167, o_iload 3 168), (168, o_dup2 169), (169, o_iald 0 170), (170, o_iload 5 172), (172, o_bin (fun x y => x - y) 173), (173, o_iast 174), (174, o_aload 0 175), (175, o_getf 8 25 178), (178, o_const (6) 180), (180, o_iload 2 181), (181, o_bin (fun x y => x * y) 182), (182, o_iload 3 183), (183, o_bin (fun x y => x + y) 184), (184, o_dup2 185), (185, o_iald 0 186), (186, o_iload 5 188), (188, o_bin (fun x y => x + y) 189), (189, o_iast 190), (190, o_aload 0 191), (191, o_getf 8 4 194), (194, o_const (6) 196), (196, o_iload 1 197), (197, o_bin (fun x y => x * y) 198), (198, o_iload 3 199), (199, o_bin (fun x y => x + y) 200), (200, o_iald 0 201), (201, o_ireturn)]
set_option maxRecDepth 20000 in
set_option maxHeartbeats 4000000 in
theorem ok_X7_sell {GP : m_G → Prop} : ∀ q ∈ cd_X7_sell, m_OK GP m_my (cX7_sell, 8, RX7, false, (some .int), []) q.1 q.2 :=
  m_cn (pc := 0) (ok_aload_n (m_dk dk_X7_sell 0 rfl) rfl rfl) <|
  m_cn (pc := 1) (ok_iload_n (m_dk dk_X7_sell 1 rfl) rfl rfl) <|
  m_cn (pc := 2) (ok_callv (T := mt_X7_isCable) my_X7_isCable rfl cw_X7_isCable rfl rfl (by decide) (r9 := (RX7, TX7, 36)) rfl rfl wd_927 wd_929 (m_wk 22 (by decide +kernel) (by decide +kernel)) wd_6 (by decide +kernel) (m_dk dk_X7_sell 2 rfl) rfl) <|
  m_cn (pc := 5) (ok_ifeq (m_dk dk_X7_sell 3 rfl) rfl rfl) <|
  m_cn (pc := 8) (ok_iload_n (m_dk dk_X7_sell 4 rfl) rfl rfl) <|
  m_cn (pc := 9) (ok_calls (T := mt_X7_isMember) my_X7_isMember rfl cw_X7_isMember rfl rfl (by decide) wd_912 wd_913 wd_6 (by decide +kernel) (m_dk dk_X7_sell 5 rfl) rfl) <|
  m_cn (pc := 12) (ok_ifeq (m_dk dk_X7_sell 6 rfl) rfl rfl) <|
  m_cn (pc := 15) (ok_iload_n (m_dk dk_X7_sell 7 rfl) rfl rfl) <|
  m_cn (pc := 16) (ok_calls (T := mt_X7_isMember) my_X7_isMember rfl cw_X7_isMember rfl rfl (by decide) wd_912 wd_913 wd_6 (by decide +kernel) (m_dk dk_X7_sell 8 rfl) rfl) <|
  m_cn (pc := 19) (ok_ifeq (m_dk dk_X7_sell 9 rfl) rfl rfl) <|
  m_cn (pc := 22) (ok_iconst (m_dk dk_X7_sell 10 rfl) (by decide) rfl) <|
  m_cn (pc := 23) (ok_goto (nx := 0) (m_dk dk_X7_sell 11 rfl) rfl) <|
  m_cn (pc := 26) (ok_iconst (m_dk dk_X7_sell 12 rfl) (by decide) rfl) <|
  m_cn (pc := 27) (ok_istore (m_dk dk_X7_sell 13 rfl) rfl) <|
  m_cn (pc := 29) (ok_iload_n (m_dk dk_X7_sell 14 rfl) rfl rfl) <|
  m_cn (pc := 30) (ok_iload_n (m_dk dk_X7_sell 15 rfl) rfl rfl) <|
  m_cn (pc := 31) (ok_icmpeq (m_dk dk_X7_sell 16 rfl) rfl rfl) <|
  m_cn (pc := 34) (ok_iload (m_dk dk_X7_sell 17 rfl) rfl) <|
  m_cn (pc := 36) (ok_iconst (m_dk dk_X7_sell 18 rfl) (by decide) rfl) <|
  m_cn (pc := 37) (ok_bipush (m_dk dk_X7_sell 19 rfl) (by decide) rfl) <|
  m_cn (pc := 39) (ok_calls (T := mt_X7_in) my_X7_in rfl cw_X7_in rfl rfl (by decide) wd_909 wd_910 wd_6 (by decide +kernel) (m_dk dk_X7_sell 20 rfl) rfl) <|
  m_cn (pc := 42) (ok_ifeq (m_dk dk_X7_sell 21 rfl) rfl rfl) <|
  m_cn (pc := 45) (ok_iload (m_dk dk_X7_sell 22 rfl) rfl) <|
  m_cn (pc := 47) (ok_iconst (m_dk dk_X7_sell 23 rfl) (by decide) rfl) <|
  m_cn (pc := 48) (ok_ldc (m_dk dk_X7_sell 24 rfl) wd_931 rfl) <|
  m_cn (pc := 50) (ok_calls (T := mt_X7_in) my_X7_in rfl cw_X7_in rfl rfl (by decide) wd_909 wd_910 wd_6 (by decide +kernel) (m_dk dk_X7_sell 25 rfl) rfl) <|
  m_cn (pc := 53) (ok_ifeq (m_dk dk_X7_sell 26 rfl) rfl rfl) <|
  m_cn (pc := 56) (ok_iconst (m_dk dk_X7_sell 27 rfl) (by decide) rfl) <|
  m_cn (pc := 57) (ok_goto (nx := 0) (m_dk dk_X7_sell 28 rfl) rfl) <|
  m_cn (pc := 60) (ok_iconst (m_dk dk_X7_sell 29 rfl) (by decide) rfl) <|
  m_cn (pc := 61) (ok_istore (m_dk dk_X7_sell 30 rfl) rfl) <|
  m_cn (pc := 63) (ok_aload_n (m_dk dk_X7_sell 31 rfl) rfl rfl) <|
  m_cn (pc := 64) (ok_iload (m_dk dk_X7_sell 32 rfl) rfl) <|
  m_cn (pc := 66) (ok_iload (m_dk dk_X7_sell 33 rfl) rfl) <|
  m_cn (pc := 68) (ok_iload (m_dk dk_X7_sell 34 rfl) rfl) <|
  m_cn (pc := 70) (ok_ifeq (m_dk dk_X7_sell 35 rfl) rfl rfl) <|
  m_cn (pc := 73) (ok_aload_n (m_dk dk_X7_sell 36 rfl) rfl rfl) <|
  m_cn (pc := 74) (ok_getf (k := 4) (hc0 := (rfl : vwCl[8]? = some (RX7, TX7, 36))) (by decide) in_X7 wd_793 (m_dk dk_X7_sell 37 rfl) rfl) <|
  m_cn (pc := 77) (ok_bipush (m_dk dk_X7_sell 38 rfl) (by decide) rfl) <|
  m_cn (pc := 79) (ok_iload (m_dk dk_X7_sell 39 rfl) rfl) <|
  m_cn (pc := 81) (ok_ifeq (m_dk dk_X7_sell 40 rfl) rfl rfl) <|
  m_cn (pc := 84) (ok_iload_n (m_dk dk_X7_sell 41 rfl) rfl rfl) <|
  m_cn (pc := 85) (ok_goto (nx := 0) (m_dk dk_X7_sell 42 rfl) rfl) <|
  m_cn (pc := 88) (ok_iconst (m_dk dk_X7_sell 43 rfl) (by decide) rfl) <|
  m_cn (pc := 89) (ok_imul (m_dk dk_X7_sell 44 rfl) rfl) <|
  m_cn (pc := 90) (ok_iload (m_dk dk_X7_sell 45 rfl) rfl) <|
  m_cn (pc := 92) (ok_ifeq (m_dk dk_X7_sell 46 rfl) rfl rfl) <|
  m_cn (pc := 95) (ok_iload_n (m_dk dk_X7_sell 47 rfl) rfl rfl) <|
  m_cn (pc := 96) (ok_goto (nx := 0) (m_dk dk_X7_sell 48 rfl) rfl) <|
  m_cn (pc := 99) (ok_iconst (m_dk dk_X7_sell 49 rfl) (by decide) rfl) <|
  m_cn (pc := 100) (ok_iadd (m_dk dk_X7_sell 50 rfl) rfl) <|
  m_cn (pc := 101) (ok_iald (m_dk dk_X7_sell 51 rfl) rfl) <|
  m_cn (pc := 102) (ok_iload (m_dk dk_X7_sell 52 rfl) rfl) <|
  m_cn (pc := 104) (ok_icmplt (m_dk dk_X7_sell 53 rfl) rfl rfl) <|
  m_cn (pc := 107) (ok_iconst (m_dk dk_X7_sell 54 rfl) (by decide) rfl) <|
  m_cn (pc := 108) (ok_goto (nx := 0) (m_dk dk_X7_sell 55 rfl) rfl) <|
  m_cn (pc := 111) (ok_iconst (m_dk dk_X7_sell 56 rfl) (by decide) rfl) <|
  m_cn (pc := 112) (ok_callv (T := mt_X7_goes) my_X7_goes rfl cw_X7_goes rfl rfl (by decide) (r9 := (RX7, TX7, 36)) rfl rfl wd_915 wd_917 (m_wk 21 (by decide +kernel) (by decide +kernel)) wd_6 (by decide +kernel) (m_dk dk_X7_sell 57 rfl) rfl) <|
  m_cn (pc := 115) (ok_ifne (m_dk dk_X7_sell 58 rfl) rfl rfl) <|
  m_cn (pc := 118) (ok_iconst (m_dk dk_X7_sell 59 rfl) (by decide) rfl) <|
  m_cn (pc := 119) (ok_ireturn (nx := 0) rfl (m_dk dk_X7_sell 60 rfl)) <|
  m_cn (pc := 120) (ok_aload_n (m_dk dk_X7_sell 61 rfl) rfl rfl) <|
  m_cn (pc := 121) (ok_getf (k := 4) (hc0 := (rfl : vwCl[8]? = some (RX7, TX7, 36))) (by decide) in_X7 wd_793 (m_dk dk_X7_sell 62 rfl) rfl) <|
  m_cn (pc := 124) (ok_bipush (m_dk dk_X7_sell 63 rfl) (by decide) rfl) <|
  m_cn (pc := 126) (ok_iload_n (m_dk dk_X7_sell 64 rfl) rfl rfl) <|
  m_cn (pc := 127) (ok_imul (m_dk dk_X7_sell 65 rfl) rfl) <|
  m_cn (pc := 128) (ok_iload_n (m_dk dk_X7_sell 66 rfl) rfl rfl) <|
  m_cn (pc := 129) (ok_iadd (m_dk dk_X7_sell 67 rfl) rfl) <|
  m_cn (pc := 130) (ok_dup2 (m_dk dk_X7_sell 68 rfl) rfl) <|
  m_cn (pc := 131) (ok_iald (m_dk dk_X7_sell 69 rfl) rfl) <|
  m_cn (pc := 132) (ok_iload (m_dk dk_X7_sell 70 rfl) rfl) <|
  m_cn (pc := 134) (ok_isub (m_dk dk_X7_sell 71 rfl) rfl) <|
  m_cn (pc := 135) (ok_iast (m_dk dk_X7_sell 72 rfl) rfl) <|
  m_cn (pc := 136) (ok_aload_n (m_dk dk_X7_sell 73 rfl) rfl rfl) <|
  m_cn (pc := 137) (ok_getf (k := 4) (hc0 := (rfl : vwCl[8]? = some (RX7, TX7, 36))) (by decide) in_X7 wd_793 (m_dk dk_X7_sell 74 rfl) rfl) <|
  m_cn (pc := 140) (ok_bipush (m_dk dk_X7_sell 75 rfl) (by decide) rfl) <|
  m_cn (pc := 142) (ok_iload_n (m_dk dk_X7_sell 76 rfl) rfl rfl) <|
  m_cn (pc := 143) (ok_imul (m_dk dk_X7_sell 77 rfl) rfl) <|
  m_cn (pc := 144) (ok_iload_n (m_dk dk_X7_sell 78 rfl) rfl rfl) <|
  m_cn (pc := 145) (ok_iadd (m_dk dk_X7_sell 79 rfl) rfl) <|
  m_cn (pc := 146) (ok_dup2 (m_dk dk_X7_sell 80 rfl) rfl) <|
  m_cn (pc := 147) (ok_iald (m_dk dk_X7_sell 81 rfl) rfl) <|
  m_cn (pc := 148) (ok_iload (m_dk dk_X7_sell 82 rfl) rfl) <|
  m_cn (pc := 150) (ok_iadd (m_dk dk_X7_sell 83 rfl) rfl) <|
  m_cn (pc := 151) (ok_iast (m_dk dk_X7_sell 84 rfl) rfl) <|
  m_cn (pc := 152) (ok_aload_n (m_dk dk_X7_sell 85 rfl) rfl rfl) <|
  m_cn (pc := 153) (ok_getf (k := 26) (hc0 := (rfl : vwCl[8]? = some (RX7, TX7, 36))) (by decide) in_X7 wd_815 (m_dk dk_X7_sell 86 rfl) rfl) <|
  m_cn (pc := 156) (ok_iload_n (m_dk dk_X7_sell 87 rfl) rfl rfl) <|
  m_cn (pc := 157) (ok_dup2 (m_dk dk_X7_sell 88 rfl) rfl) <|
  m_cn (pc := 158) (ok_iald (m_dk dk_X7_sell 89 rfl) rfl) <|
  m_cn (pc := 159) (ok_iload (m_dk dk_X7_sell 90 rfl) rfl) <|
  m_cn (pc := 161) (ok_iadd (m_dk dk_X7_sell 91 rfl) rfl) <|
  m_cn (pc := 162) (ok_iast (m_dk dk_X7_sell 92 rfl) rfl) <|
  m_cn (pc := 163) (ok_aload_n (m_dk dk_X7_sell 93 rfl) rfl rfl) <|
  m_cn (pc := 164) (ok_getf (k := 26) (hc0 := (rfl : vwCl[8]? = some (RX7, TX7, 36))) (by decide) in_X7 wd_815 (m_dk dk_X7_sell 94 rfl) rfl) <|
  m_cn (pc := 167) (ok_iload_n (m_dk dk_X7_sell 95 rfl) rfl rfl) <|
  m_cn (pc := 168) (ok_dup2 (m_dk dk_X7_sell 96 rfl) rfl) <|
  m_cn (pc := 169) (ok_iald (m_dk dk_X7_sell 97 rfl) rfl) <|
  m_cn (pc := 170) (ok_iload (m_dk dk_X7_sell 98 rfl) rfl) <|
  m_cn (pc := 172) (ok_isub (m_dk dk_X7_sell 99 rfl) rfl) <|
  m_cn (pc := 173) (ok_iast (m_dk dk_X7_sell 100 rfl) rfl) <|
  m_cn (pc := 174) (ok_aload_n (m_dk dk_X7_sell 101 rfl) rfl rfl) <|
  m_cn (pc := 175) (ok_getf (k := 25) (hc0 := (rfl : vwCl[8]? = some (RX7, TX7, 36))) (by decide) in_X7 wd_814 (m_dk dk_X7_sell 102 rfl) rfl) <|
  m_cn (pc := 178) (ok_bipush (m_dk dk_X7_sell 103 rfl) (by decide) rfl) <|
  m_cn (pc := 180) (ok_iload_n (m_dk dk_X7_sell 104 rfl) rfl rfl) <|
  m_cn (pc := 181) (ok_imul (m_dk dk_X7_sell 105 rfl) rfl) <|
  m_cn (pc := 182) (ok_iload_n (m_dk dk_X7_sell 106 rfl) rfl rfl) <|
  m_cn (pc := 183) (ok_iadd (m_dk dk_X7_sell 107 rfl) rfl) <|
  m_cn (pc := 184) (ok_dup2 (m_dk dk_X7_sell 108 rfl) rfl) <|
  m_cn (pc := 185) (ok_iald (m_dk dk_X7_sell 109 rfl) rfl) <|
  m_cn (pc := 186) (ok_iload (m_dk dk_X7_sell 110 rfl) rfl) <|
  m_cn (pc := 188) (ok_iadd (m_dk dk_X7_sell 111 rfl) rfl) <|
  m_cn (pc := 189) (ok_iast (m_dk dk_X7_sell 112 rfl) rfl) <|
  m_cn (pc := 190) (ok_aload_n (m_dk dk_X7_sell 113 rfl) rfl rfl) <|
  m_cn (pc := 191) (ok_getf (k := 4) (hc0 := (rfl : vwCl[8]? = some (RX7, TX7, 36))) (by decide) in_X7 wd_793 (m_dk dk_X7_sell 114 rfl) rfl) <|
  m_cn (pc := 194) (ok_bipush (m_dk dk_X7_sell 115 rfl) (by decide) rfl) <|
  m_cn (pc := 196) (ok_iload_n (m_dk dk_X7_sell 116 rfl) rfl rfl) <|
  m_cn (pc := 197) (ok_imul (m_dk dk_X7_sell 117 rfl) rfl) <|
  m_cn (pc := 198) (ok_iload_n (m_dk dk_X7_sell 118 rfl) rfl rfl) <|
  m_cn (pc := 199) (ok_iadd (m_dk dk_X7_sell 119 rfl) rfl) <|
  m_cn (pc := 200) (ok_iald (m_dk dk_X7_sell 120 rfl) rfl) <|
  m_cn (pc := 201) (ok_ireturn (nx := 0) rfl (m_dk dk_X7_sell 121 rfl)) <|
  m_nl
theorem mk_X7_sell {GP : m_G → Prop} {cds : Nat → Nat → m_Op} (h : cds 75 = m_lk cd_X7_sell) : m_MOK GP m_my cds 75 := ⟨RX7, false, [], by decide +kernel, rfl, (fun h9 => by first | rfl | cases h9), Or.inl ⟨rfl, rfl⟩, fun pc => by rw [h]; exact m_lk_ok _ ok_X7_sell pc⟩
def dl_X7_cutOf : List (Nat × Instr × Nat) := [(0, .iconst 0, 1), (1, .istore_n 2, 1), (2, .iload_n 2, 1), (3, .aload_n 0, 1), (4, .getfield 102, 3), (7, .if_icmp .ge 31, 3), (10, .aload_n 0, 1), (11, .getfield 37, 3), (14, .iload_n 2, 1), (15, .iaload, 1), (16, .iload_n 1, 1), (17, .if_icmp .ne 15, 3), (20, .aload_n 0, 1), (21, .getfield 46, 3), (24, .iload_n 2, 1), (25, .iaload, 1), (26, .iconst 5, 1), (27, .if_icmp .ge 5, 3), (30, .iload_n 2, 1), (31, .ireturn, 1), (32, .iinc 2 1, 3), (35, .goto (-33), 3), (38, .iconst (-1), 1), (39, .ireturn, 1)]
theorem dk_X7_cutOf : ∀ q ∈ dl_X7_cutOf, decode cX7_cutOf q.1 = .ok q.2 := by decide +kernel
def cd_X7_cutOf : List (Nat × m_Op) := [(0, o_const (0) 1), (1, o_istore 2 2), (2, o_iload 2 3), (3, o_aload 0 4), (4, o_getf 8 12 7), (7, o_icmpge 38 10), (10, o_aload 0 11), (11, o_getf 8 13 14), (14, o_iload 2 15), (15, o_iald 0 16), (16, o_iload 1 17), (17, o_icmpne 32 20), (20, o_aload 0 21), (21, o_getf 8 16 24), (24, o_iload 2 25), (25, o_iald 0 26), (26, o_const (5) 27), (27, o_icmpge 32 30), (30, o_iload 2 31), (31, o_ireturn), (32, o_iinc 2 (1) 35), (35, o_goto 2), (38, o_const (-1) 39), (39, o_ireturn)]
set_option maxRecDepth 20000 in
set_option maxHeartbeats 4000000 in
theorem ok_X7_cutOf {GP : m_G → Prop} : ∀ q ∈ cd_X7_cutOf, m_OK GP m_my (cX7_cutOf, 3, RX7, false, (some .int), []) q.1 q.2 :=
  m_cn (pc := 0) (ok_iconst (m_dk dk_X7_cutOf 0 rfl) (by decide) rfl) <|
  m_cn (pc := 1) (ok_istore_n (m_dk dk_X7_cutOf 1 rfl) rfl rfl) <|
  m_cn (pc := 2) (ok_iload_n (m_dk dk_X7_cutOf 2 rfl) rfl rfl) <|
  m_cn (pc := 3) (ok_aload_n (m_dk dk_X7_cutOf 3 rfl) rfl rfl) <|
  m_cn (pc := 4) (ok_getf (k := 12) (hc0 := (rfl : vwCl[8]? = some (RX7, TX7, 36))) (by decide) in_X7 wd_801 (m_dk dk_X7_cutOf 4 rfl) rfl) <|
  m_cn (pc := 7) (ok_icmpge (m_dk dk_X7_cutOf 5 rfl) rfl rfl) <|
  m_cn (pc := 10) (ok_aload_n (m_dk dk_X7_cutOf 6 rfl) rfl rfl) <|
  m_cn (pc := 11) (ok_getf (k := 13) (hc0 := (rfl : vwCl[8]? = some (RX7, TX7, 36))) (by decide) in_X7 wd_802 (m_dk dk_X7_cutOf 7 rfl) rfl) <|
  m_cn (pc := 14) (ok_iload_n (m_dk dk_X7_cutOf 8 rfl) rfl rfl) <|
  m_cn (pc := 15) (ok_iald (m_dk dk_X7_cutOf 9 rfl) rfl) <|
  m_cn (pc := 16) (ok_iload_n (m_dk dk_X7_cutOf 10 rfl) rfl rfl) <|
  m_cn (pc := 17) (ok_icmpne (m_dk dk_X7_cutOf 11 rfl) rfl rfl) <|
  m_cn (pc := 20) (ok_aload_n (m_dk dk_X7_cutOf 12 rfl) rfl rfl) <|
  m_cn (pc := 21) (ok_getf (k := 16) (hc0 := (rfl : vwCl[8]? = some (RX7, TX7, 36))) (by decide) in_X7 wd_805 (m_dk dk_X7_cutOf 13 rfl) rfl) <|
  m_cn (pc := 24) (ok_iload_n (m_dk dk_X7_cutOf 14 rfl) rfl rfl) <|
  m_cn (pc := 25) (ok_iald (m_dk dk_X7_cutOf 15 rfl) rfl) <|
  m_cn (pc := 26) (ok_iconst (m_dk dk_X7_cutOf 16 rfl) (by decide) rfl) <|
  m_cn (pc := 27) (ok_icmpge (m_dk dk_X7_cutOf 17 rfl) rfl rfl) <|
  m_cn (pc := 30) (ok_iload_n (m_dk dk_X7_cutOf 18 rfl) rfl rfl) <|
  m_cn (pc := 31) (ok_ireturn (nx := 0) rfl (m_dk dk_X7_cutOf 19 rfl)) <|
  m_cn (pc := 32) (ok_iinc (m_dk dk_X7_cutOf 20 rfl) (by decide) rfl) <|
  m_cn (pc := 35) (ok_goto (nx := 0) (m_dk dk_X7_cutOf 21 rfl) rfl) <|
  m_cn (pc := 38) (ok_iconst (m_dk dk_X7_cutOf 22 rfl) (by decide) rfl) <|
  m_cn (pc := 39) (ok_ireturn (nx := 0) rfl (m_dk dk_X7_cutOf 23 rfl)) <|
  m_nl
theorem mk_X7_cutOf {GP : m_G → Prop} {cds : Nat → Nat → m_Op} (h : cds 76 = m_lk cd_X7_cutOf) : m_MOK GP m_my cds 76 := ⟨RX7, false, [], by decide +kernel, rfl, (fun h9 => by first | rfl | cases h9), Or.inl ⟨rfl, rfl⟩, fun pc => by rw [h]; exact m_lk_ok _ ok_X7_cutOf pc⟩
def dl_X7_cut : List (Nat × Instr × Nat) := [(0, .aload_n 0, 1), (1, .iload_n 1, 1), (2, .invokevirtual 119, 3), (5, .istore_n 3, 1), (6, .aload_n 0, 1), (7, .iload_n 3, 1), (8, .iload_n 3, 1), (9, .ifCond .eq 20, 3), (12, .iload_n 2, 1), (13, .iconst 0, 1), (14, .aload_n 0, 1), (15, .iload_n 1, 1), (16, .invokevirtual 123, 3), (19, .invokestatic 92, 3), (22, .ifCond .eq 7, 3), (25, .iconst 1, 1), (26, .goto 4, 3), (29, .iconst 0, 1), (30, .iload_n 3, 1), (31, .ifCond .eq 25, 3), (34, .aload_n 0, 1), (35, .iload_n 1, 1), (36, .invokevirtual 127, 3), (39, .iconst (-1), 1), (40, .if_icmp .ne 16, 3), (43, .aload_n 0, 1), (44, .getfield 102, 3), (47, .bipush 16, 2), (49, .if_icmp .ge 7, 3), (52, .iconst 1, 1), (53, .goto 4, 3), (56, .iconst 0, 1), (57, .invokevirtual 115, 3), (60, .ifCond .ne 5, 3), (63, .iconst 0, 1), (64, .ireturn, 1), (65, .aload_n 0, 1), (66, .getfield 37, 3), (69, .aload_n 0, 1), (70, .getfield 102, 3), (73, .iload_n 1, 1), (74, .iastore, 1), (75, .aload_n 0, 1), (76, .getfield 40, 3), (79, .aload_n 0, 1), (80, .getfield 102, 3), (83, .sipush 200, 3), (86, .aload_n 0, 1), (87, .iload_n 1, 1), (88, .invokevirtual 130, 3), (91, .imul, 1), (92, .iload_n 2, 1), (93, .iadd, 1), (94, .iastore, 1), (95, .aload_n 0, 1), (96, .getfield 43, 3), (99, .aload_n 0, 1), (100, .getfield 102, 3), (103, .aload_n 0, 1), (104, .getfield 133, 3), (107, .iastore, 1), (108, .aload_n 0, 1), (109, .dup, 1), (110, .getfield 102, 3), (113, .iconst 1, 1), (114, .iadd, 1), (115, .putfield 102, 3), (118, .aload_n 0, 1), (119, .getfield 102, 3), (122, .iconst 1, 1), (123, .isub, 1), (124, .ireturn, 1)]
theorem dk_X7_cut : ∀ q ∈ dl_X7_cut, decode cX7_cut q.1 = .ok q.2 := by decide +kernel
def cd_X7_cut : List (Nat × m_Op) := [(0, o_aload 0 1), (1, o_iload 1 2), (2, o_callv 8 67 2 0 0 5), (5, o_istore 3 6), (6, o_aload 0 7), (7, o_iload 3 8), (8, o_iload 3 9), (9, o_ifeq 29 12), (12, o_iload 2 13), (13, o_const (0) 14), (14, o_aload 0 15), (15, o_iload 1 16), (16, o_callv 8 71 2 0 0 19), (19, o_call 63 3 0 0 22), (22, o_ifeq 29 25), (25, o_const (1) 26), (26, o_goto 30), (29, o_const (0) 30), (30, o_iload 3 31), (31, o_ifeq 56 34), (34, o_aload 0 35), (35, o_iload 1 36), (36, o_callv 8 76 2 0 0 39), (39, o_const (-1) 40), (40, o_icmpne 56 43), (43, o_aload 0 44), (44, o_getf 8 12 47), (47, o_const (16) 49), (49, o_icmpge 56 52), (52, o_const (1) 53), (53, o_goto 57), (56, o_const (0) 57), (57, o_callv 8 64 4 0 0 60), (60, o_ifne 65 63), (63, o_const (0) 64), (64, o_ireturn), (65, o_aload 0 66), (66, o_getf 8 13 69), (69, o_aload 0 70), (70, o_getf 8 12 73), (73, o_iload 1 74), (74, o_iast 75), (75, o_aload 0 76), (76, o_getf 8 14 79), (79, o_aload 0 80), (80, o_getf 8 12 83), (83, o_const (200) 86), (86, o_aload 0 87), (87, o_iload 1 88), (88, o_callv 8 72 2 0 0 91), (91, o_bin (fun x y => x * y) 92), (92, o_iload 2 93), (93, o_bin (fun x y => x + y) 94), (94, o_iast 95), (95, o_aload 0 96), (96, o_getf 8 15 99), (99, o_aload 0 100), (100, o_getf 8 12 103), (103, o_aload 0 104), (104, o_getf 8 0 107), (107, o_iast 108), (108, o_aload 0 109), (109, o_dup 110), (110, o_getf 8 12 113), (113, o_const (1) 114), (114, o_bin (fun x y => x + y) 115), (115, o_puti 8 12 118), (118, o_aload 0 119), (119, o_getf 8 12 122), (122, o_const (1) 123), (123, o_bin (fun x y => x - y) 124), (124, o_ireturn)]
set_option maxRecDepth 20000 in
set_option maxHeartbeats 4000000 in
theorem ok_X7_cut {GP : m_G → Prop} : ∀ q ∈ cd_X7_cut, m_OK GP m_my (cX7_cut, 4, RX7, false, (some .int), []) q.1 q.2 :=
  m_cn (pc := 0) (ok_aload_n (m_dk dk_X7_cut 0 rfl) rfl rfl) <|
  m_cn (pc := 1) (ok_iload_n (m_dk dk_X7_cut 1 rfl) rfl rfl) <|
  m_cn (pc := 2) (ok_callv (T := mt_X7_isCable) my_X7_isCable rfl cw_X7_isCable rfl rfl (by decide) (r9 := (RX7, TX7, 36)) rfl rfl wd_927 wd_929 (m_wk 22 (by decide +kernel) (by decide +kernel)) wd_6 (by decide +kernel) (m_dk dk_X7_cut 2 rfl) rfl) <|
  m_cn (pc := 5) (ok_istore_n (m_dk dk_X7_cut 3 rfl) rfl rfl) <|
  m_cn (pc := 6) (ok_aload_n (m_dk dk_X7_cut 4 rfl) rfl rfl) <|
  m_cn (pc := 7) (ok_iload_n (m_dk dk_X7_cut 5 rfl) rfl rfl) <|
  m_cn (pc := 8) (ok_iload_n (m_dk dk_X7_cut 6 rfl) rfl rfl) <|
  m_cn (pc := 9) (ok_ifeq (m_dk dk_X7_cut 7 rfl) rfl rfl) <|
  m_cn (pc := 12) (ok_iload_n (m_dk dk_X7_cut 8 rfl) rfl rfl) <|
  m_cn (pc := 13) (ok_iconst (m_dk dk_X7_cut 9 rfl) (by decide) rfl) <|
  m_cn (pc := 14) (ok_aload_n (m_dk dk_X7_cut 10 rfl) rfl rfl) <|
  m_cn (pc := 15) (ok_iload_n (m_dk dk_X7_cut 11 rfl) rfl rfl) <|
  m_cn (pc := 16) (ok_callv (T := mt_X7_length) my_X7_length rfl cw_X7_length rfl rfl (by decide) (r9 := (RX7, TX7, 36)) rfl rfl wd_936 wd_938 (m_wk 23 (by decide +kernel) (by decide +kernel)) wd_6 (by decide +kernel) (m_dk dk_X7_cut 12 rfl) rfl) <|
  m_cn (pc := 19) (ok_calls (T := mt_X7_in) my_X7_in rfl cw_X7_in rfl rfl (by decide) wd_909 wd_910 wd_6 (by decide +kernel) (m_dk dk_X7_cut 13 rfl) rfl) <|
  m_cn (pc := 22) (ok_ifeq (m_dk dk_X7_cut 14 rfl) rfl rfl) <|
  m_cn (pc := 25) (ok_iconst (m_dk dk_X7_cut 15 rfl) (by decide) rfl) <|
  m_cn (pc := 26) (ok_goto (nx := 0) (m_dk dk_X7_cut 16 rfl) rfl) <|
  m_cn (pc := 29) (ok_iconst (m_dk dk_X7_cut 17 rfl) (by decide) rfl) <|
  m_cn (pc := 30) (ok_iload_n (m_dk dk_X7_cut 18 rfl) rfl rfl) <|
  m_cn (pc := 31) (ok_ifeq (m_dk dk_X7_cut 19 rfl) rfl rfl) <|
  m_cn (pc := 34) (ok_aload_n (m_dk dk_X7_cut 20 rfl) rfl rfl) <|
  m_cn (pc := 35) (ok_iload_n (m_dk dk_X7_cut 21 rfl) rfl rfl) <|
  m_cn (pc := 36) (ok_callv (T := mt_X7_cutOf) my_X7_cutOf rfl cw_X7_cutOf rfl rfl (by decide) (r9 := (RX7, TX7, 36)) rfl rfl wd_940 wd_942 (m_wk 24 (by decide +kernel) (by decide +kernel)) wd_6 (by decide +kernel) (m_dk dk_X7_cut 22 rfl) rfl) <|
  m_cn (pc := 39) (ok_iconst (m_dk dk_X7_cut 23 rfl) (by decide) rfl) <|
  m_cn (pc := 40) (ok_icmpne (m_dk dk_X7_cut 24 rfl) rfl rfl) <|
  m_cn (pc := 43) (ok_aload_n (m_dk dk_X7_cut 25 rfl) rfl rfl) <|
  m_cn (pc := 44) (ok_getf (k := 12) (hc0 := (rfl : vwCl[8]? = some (RX7, TX7, 36))) (by decide) in_X7 wd_801 (m_dk dk_X7_cut 26 rfl) rfl) <|
  m_cn (pc := 47) (ok_bipush (m_dk dk_X7_cut 27 rfl) (by decide) rfl) <|
  m_cn (pc := 49) (ok_icmpge (m_dk dk_X7_cut 28 rfl) rfl rfl) <|
  m_cn (pc := 52) (ok_iconst (m_dk dk_X7_cut 29 rfl) (by decide) rfl) <|
  m_cn (pc := 53) (ok_goto (nx := 0) (m_dk dk_X7_cut 30 rfl) rfl) <|
  m_cn (pc := 56) (ok_iconst (m_dk dk_X7_cut 31 rfl) (by decide) rfl) <|
  m_cn (pc := 57) (ok_callv (T := mt_X7_goes) my_X7_goes rfl cw_X7_goes rfl rfl (by decide) (r9 := (RX7, TX7, 36)) rfl rfl wd_915 wd_917 (m_wk 21 (by decide +kernel) (by decide +kernel)) wd_6 (by decide +kernel) (m_dk dk_X7_cut 32 rfl) rfl) <|
  m_cn (pc := 60) (ok_ifne (m_dk dk_X7_cut 33 rfl) rfl rfl) <|
  m_cn (pc := 63) (ok_iconst (m_dk dk_X7_cut 34 rfl) (by decide) rfl) <|
  m_cn (pc := 64) (ok_ireturn (nx := 0) rfl (m_dk dk_X7_cut 35 rfl)) <|
  m_cn (pc := 65) (ok_aload_n (m_dk dk_X7_cut 36 rfl) rfl rfl) <|
  m_cn (pc := 66) (ok_getf (k := 13) (hc0 := (rfl : vwCl[8]? = some (RX7, TX7, 36))) (by decide) in_X7 wd_802 (m_dk dk_X7_cut 37 rfl) rfl) <|
  m_cn (pc := 69) (ok_aload_n (m_dk dk_X7_cut 38 rfl) rfl rfl) <|
  m_cn (pc := 70) (ok_getf (k := 12) (hc0 := (rfl : vwCl[8]? = some (RX7, TX7, 36))) (by decide) in_X7 wd_801 (m_dk dk_X7_cut 39 rfl) rfl) <|
  m_cn (pc := 73) (ok_iload_n (m_dk dk_X7_cut 40 rfl) rfl rfl) <|
  m_cn (pc := 74) (ok_iast (m_dk dk_X7_cut 41 rfl) rfl) <|
  m_cn (pc := 75) (ok_aload_n (m_dk dk_X7_cut 42 rfl) rfl rfl) <|
  m_cn (pc := 76) (ok_getf (k := 14) (hc0 := (rfl : vwCl[8]? = some (RX7, TX7, 36))) (by decide) in_X7 wd_803 (m_dk dk_X7_cut 43 rfl) rfl) <|
  m_cn (pc := 79) (ok_aload_n (m_dk dk_X7_cut 44 rfl) rfl rfl) <|
  m_cn (pc := 80) (ok_getf (k := 12) (hc0 := (rfl : vwCl[8]? = some (RX7, TX7, 36))) (by decide) in_X7 wd_801 (m_dk dk_X7_cut 45 rfl) rfl) <|
  m_cn (pc := 83) (ok_sipush (m_dk dk_X7_cut 46 rfl) (by decide) rfl) <|
  m_cn (pc := 86) (ok_aload_n (m_dk dk_X7_cut 47 rfl) rfl rfl) <|
  m_cn (pc := 87) (ok_iload_n (m_dk dk_X7_cut 48 rfl) rfl rfl) <|
  m_cn (pc := 88) (ok_callv (T := mt_X7_low) my_X7_low rfl cw_X7_low rfl rfl (by decide) (r9 := (RX7, TX7, 36)) rfl rfl wd_944 wd_946 (m_wk 25 (by decide +kernel) (by decide +kernel)) wd_6 (by decide +kernel) (m_dk dk_X7_cut 49 rfl) rfl) <|
  m_cn (pc := 91) (ok_imul (m_dk dk_X7_cut 50 rfl) rfl) <|
  m_cn (pc := 92) (ok_iload_n (m_dk dk_X7_cut 51 rfl) rfl rfl) <|
  m_cn (pc := 93) (ok_iadd (m_dk dk_X7_cut 52 rfl) rfl) <|
  m_cn (pc := 94) (ok_iast (m_dk dk_X7_cut 53 rfl) rfl) <|
  m_cn (pc := 95) (ok_aload_n (m_dk dk_X7_cut 54 rfl) rfl rfl) <|
  m_cn (pc := 96) (ok_getf (k := 15) (hc0 := (rfl : vwCl[8]? = some (RX7, TX7, 36))) (by decide) in_X7 wd_804 (m_dk dk_X7_cut 55 rfl) rfl) <|
  m_cn (pc := 99) (ok_aload_n (m_dk dk_X7_cut 56 rfl) rfl rfl) <|
  m_cn (pc := 100) (ok_getf (k := 12) (hc0 := (rfl : vwCl[8]? = some (RX7, TX7, 36))) (by decide) in_X7 wd_801 (m_dk dk_X7_cut 57 rfl) rfl) <|
  m_cn (pc := 103) (ok_aload_n (m_dk dk_X7_cut 58 rfl) rfl rfl) <|
  m_cn (pc := 104) (ok_getf (k := 0) (hc0 := (rfl : vwCl[8]? = some (RX7, TX7, 36))) (by decide) in_X7 wd_789 (m_dk dk_X7_cut 59 rfl) rfl) <|
  m_cn (pc := 107) (ok_iast (m_dk dk_X7_cut 60 rfl) rfl) <|
  m_cn (pc := 108) (ok_aload_n (m_dk dk_X7_cut 61 rfl) rfl rfl) <|
  m_cn (pc := 109) (ok_dup (m_dk dk_X7_cut 62 rfl) rfl) <|
  m_cn (pc := 110) (ok_getf (k := 12) (hc0 := (rfl : vwCl[8]? = some (RX7, TX7, 36))) (by decide) in_X7 wd_801 (m_dk dk_X7_cut 63 rfl) rfl) <|
  m_cn (pc := 113) (ok_iconst (m_dk dk_X7_cut 64 rfl) (by decide) rfl) <|
  m_cn (pc := 114) (ok_iadd (m_dk dk_X7_cut 65 rfl) rfl) <|
  m_cn (pc := 115) (ok_puti (k := 12) (hc0 := (rfl : vwCl[8]? = some (RX7, TX7, 36))) (by decide) in_X7 wd_801 tyX7 tyX7_ok nmX7 rfl (tyX7_ok 12 (by decide)) (m_dk dk_X7_cut 66 rfl) rfl) <|
  m_cn (pc := 118) (ok_aload_n (m_dk dk_X7_cut 67 rfl) rfl rfl) <|
  m_cn (pc := 119) (ok_getf (k := 12) (hc0 := (rfl : vwCl[8]? = some (RX7, TX7, 36))) (by decide) in_X7 wd_801 (m_dk dk_X7_cut 68 rfl) rfl) <|
  m_cn (pc := 122) (ok_iconst (m_dk dk_X7_cut 69 rfl) (by decide) rfl) <|
  m_cn (pc := 123) (ok_isub (m_dk dk_X7_cut 70 rfl) rfl) <|
  m_cn (pc := 124) (ok_ireturn (nx := 0) rfl (m_dk dk_X7_cut 71 rfl)) <|
  m_nl
theorem mk_X7_cut {GP : m_G → Prop} {cds : Nat → Nat → m_Op} (h : cds 77 = m_lk cd_X7_cut) : m_MOK GP m_my cds 77 := ⟨RX7, false, [], by decide +kernel, rfl, (fun h9 => by first | rfl | cases h9), Or.inl ⟨rfl, rfl⟩, fun pc => by rw [h]; exact m_lk_ok _ ok_X7_cut pc⟩
def dl_X7_ship : List (Nat × Instr × Nat) := [(0, .aload_n 0, 1), (1, .iload_n 1, 1), (2, .invokestatic 108, 3), (5, .iload_n 2, 1), (6, .bipush 10, 2), (8, .sipush 200, 3), (11, .invokestatic 92, 3), (14, .ifCond .eq 17, 3), (17, .iload_n 3, 1), (18, .iconst 0, 1), (19, .bipush 10, 2), (21, .invokestatic 92, 3), (24, .ifCond .eq 7, 3), (27, .iconst 1, 1), (28, .goto 4, 3), (31, .iconst 0, 1), (32, .aload_n 0, 1), (33, .getfield 105, 3), (36, .iconst 3, 1), (37, .if_icmp .ge 7, 3), (40, .iconst 1, 1), (41, .goto 4, 3), (44, .iconst 0, 1), (45, .invokevirtual 115, 3), (48, .ifCond .ne 5, 3), (51, .iconst 0, 1), (52, .ireturn, 1), (53, .aload_n 0, 1), (54, .getfield 49, 3), (57, .aload_n 0, 1), (58, .getfield 105, 3), (61, .sipush 200, 3), (64, .iload_n 1, 1), (65, .imul, 1), (66, .iastore, 1), (67, .aload_n 0, 1), (68, .getfield 52, 3), (71, .aload_n 0, 1), (72, .getfield 105, 3), (75, .iload_n 2, 1), (76, .iastore, 1), (77, .aload_n 0, 1), (78, .getfield 55, 3), (81, .aload_n 0, 1), (82, .getfield 105, 3), (85, .iload_n 3, 1), (86, .iastore, 1), (87, .aload_n 0, 1), (88, .dup, 1), (89, .getfield 105, 3), (92, .iconst 1, 1), (93, .iadd, 1), (94, .putfield 105, 3), (97, .aload_n 0, 1), (98, .getfield 105, 3), (101, .iconst 1, 1), (102, .isub, 1), (103, .ireturn, 1)]
theorem dk_X7_ship : ∀ q ∈ dl_X7_ship, decode cX7_ship q.1 = .ok q.2 := by decide +kernel
def cd_X7_ship : List (Nat × m_Op) := [(0, o_aload 0 1), (1, o_iload 1 2), (2, o_call 65 1 0 0 5), (5, o_iload 2 6), (6, o_const (10) 8), (8, o_const (200) 11), (11, o_call 63 3 0 0 14), (14, o_ifeq 31 17), (17, o_iload 3 18), (18, o_const (0) 19), (19, o_const (10) 21), (21, o_call 63 3 0 0 24), (24, o_ifeq 31 27), (27, o_const (1) 28), (28, o_goto 32), (31, o_const (0) 32), (32, o_aload 0 33), (33, o_getf 8 17 36), (36, o_const (3) 37), (37, o_icmpge 44 40), (40, o_const (1) 41), (41, o_goto 45), (44, o_const (0) 45), (45, o_callv 8 64 4 0 0 48), (48, o_ifne 53 51), (51, o_const (0) 52), (52, o_ireturn), (53, o_aload 0 54), (54, o_getf 8 18 57), (57, o_aload 0 58), (58, o_getf 8 17 61), (61, o_const (200) 64), (64, o_iload 1 65), (65, o_bin (fun x y => x * y) 66), (66, o_iast 67), (67, o_aload 0 68), (68, o_getf 8 19 71), (71, o_aload 0 72), (72, o_getf 8 17 75), (75, o_iload 2 76), (76, o_iast 77), (77, o_aload 0 78), (78, o_getf 8 20 81), (81, o_aload 0 82), (82, o_getf 8 17 85), (85, o_iload 3 86), (86, o_iast 87), (87, o_aload 0 88), (88, o_dup 89), (89, o_getf 8 17 92), (92, o_const (1) 93), (93, o_bin (fun x y => x + y) 94), (94, o_puti 8 17 97), (97, o_aload 0 98), (98, o_getf 8 17 101), (101, o_const (1) 102), (102, o_bin (fun x y => x - y) 103), (103, o_ireturn)]
set_option maxRecDepth 20000 in
set_option maxHeartbeats 4000000 in
theorem ok_X7_ship {GP : m_G → Prop} : ∀ q ∈ cd_X7_ship, m_OK GP m_my (cX7_ship, 4, RX7, false, (some .int), []) q.1 q.2 :=
  m_cn (pc := 0) (ok_aload_n (m_dk dk_X7_ship 0 rfl) rfl rfl) <|
  m_cn (pc := 1) (ok_iload_n (m_dk dk_X7_ship 1 rfl) rfl rfl) <|
  m_cn (pc := 2) (ok_calls (T := mt_X7_isLanding) my_X7_isLanding rfl cw_X7_isLanding rfl rfl (by decide) wd_906 wd_907 wd_6 (by decide +kernel) (m_dk dk_X7_ship 2 rfl) rfl) <|
  m_cn (pc := 5) (ok_iload_n (m_dk dk_X7_ship 3 rfl) rfl rfl) <|
  m_cn (pc := 6) (ok_bipush (m_dk dk_X7_ship 4 rfl) (by decide) rfl) <|
  m_cn (pc := 8) (ok_sipush (m_dk dk_X7_ship 5 rfl) (by decide) rfl) <|
  m_cn (pc := 11) (ok_calls (T := mt_X7_in) my_X7_in rfl cw_X7_in rfl rfl (by decide) wd_909 wd_910 wd_6 (by decide +kernel) (m_dk dk_X7_ship 6 rfl) rfl) <|
  m_cn (pc := 14) (ok_ifeq (m_dk dk_X7_ship 7 rfl) rfl rfl) <|
  m_cn (pc := 17) (ok_iload_n (m_dk dk_X7_ship 8 rfl) rfl rfl) <|
  m_cn (pc := 18) (ok_iconst (m_dk dk_X7_ship 9 rfl) (by decide) rfl) <|
  m_cn (pc := 19) (ok_bipush (m_dk dk_X7_ship 10 rfl) (by decide) rfl) <|
  m_cn (pc := 21) (ok_calls (T := mt_X7_in) my_X7_in rfl cw_X7_in rfl rfl (by decide) wd_909 wd_910 wd_6 (by decide +kernel) (m_dk dk_X7_ship 11 rfl) rfl) <|
  m_cn (pc := 24) (ok_ifeq (m_dk dk_X7_ship 12 rfl) rfl rfl) <|
  m_cn (pc := 27) (ok_iconst (m_dk dk_X7_ship 13 rfl) (by decide) rfl) <|
  m_cn (pc := 28) (ok_goto (nx := 0) (m_dk dk_X7_ship 14 rfl) rfl) <|
  m_cn (pc := 31) (ok_iconst (m_dk dk_X7_ship 15 rfl) (by decide) rfl) <|
  m_cn (pc := 32) (ok_aload_n (m_dk dk_X7_ship 16 rfl) rfl rfl) <|
  m_cn (pc := 33) (ok_getf (k := 17) (hc0 := (rfl : vwCl[8]? = some (RX7, TX7, 36))) (by decide) in_X7 wd_806 (m_dk dk_X7_ship 17 rfl) rfl) <|
  m_cn (pc := 36) (ok_iconst (m_dk dk_X7_ship 18 rfl) (by decide) rfl) <|
  m_cn (pc := 37) (ok_icmpge (m_dk dk_X7_ship 19 rfl) rfl rfl) <|
  m_cn (pc := 40) (ok_iconst (m_dk dk_X7_ship 20 rfl) (by decide) rfl) <|
  m_cn (pc := 41) (ok_goto (nx := 0) (m_dk dk_X7_ship 21 rfl) rfl) <|
  m_cn (pc := 44) (ok_iconst (m_dk dk_X7_ship 22 rfl) (by decide) rfl) <|
  m_cn (pc := 45) (ok_callv (T := mt_X7_goes) my_X7_goes rfl cw_X7_goes rfl rfl (by decide) (r9 := (RX7, TX7, 36)) rfl rfl wd_915 wd_917 (m_wk 21 (by decide +kernel) (by decide +kernel)) wd_6 (by decide +kernel) (m_dk dk_X7_ship 23 rfl) rfl) <|
  m_cn (pc := 48) (ok_ifne (m_dk dk_X7_ship 24 rfl) rfl rfl) <|
  m_cn (pc := 51) (ok_iconst (m_dk dk_X7_ship 25 rfl) (by decide) rfl) <|
  m_cn (pc := 52) (ok_ireturn (nx := 0) rfl (m_dk dk_X7_ship 26 rfl)) <|
  m_cn (pc := 53) (ok_aload_n (m_dk dk_X7_ship 27 rfl) rfl rfl) <|
  m_cn (pc := 54) (ok_getf (k := 18) (hc0 := (rfl : vwCl[8]? = some (RX7, TX7, 36))) (by decide) in_X7 wd_807 (m_dk dk_X7_ship 28 rfl) rfl) <|
  m_cn (pc := 57) (ok_aload_n (m_dk dk_X7_ship 29 rfl) rfl rfl) <|
  m_cn (pc := 58) (ok_getf (k := 17) (hc0 := (rfl : vwCl[8]? = some (RX7, TX7, 36))) (by decide) in_X7 wd_806 (m_dk dk_X7_ship 30 rfl) rfl) <|
  m_cn (pc := 61) (ok_sipush (m_dk dk_X7_ship 31 rfl) (by decide) rfl) <|
  m_cn (pc := 64) (ok_iload_n (m_dk dk_X7_ship 32 rfl) rfl rfl) <|
  m_cn (pc := 65) (ok_imul (m_dk dk_X7_ship 33 rfl) rfl) <|
  m_cn (pc := 66) (ok_iast (m_dk dk_X7_ship 34 rfl) rfl) <|
  m_cn (pc := 67) (ok_aload_n (m_dk dk_X7_ship 35 rfl) rfl rfl) <|
  m_cn (pc := 68) (ok_getf (k := 19) (hc0 := (rfl : vwCl[8]? = some (RX7, TX7, 36))) (by decide) in_X7 wd_808 (m_dk dk_X7_ship 36 rfl) rfl) <|
  m_cn (pc := 71) (ok_aload_n (m_dk dk_X7_ship 37 rfl) rfl rfl) <|
  m_cn (pc := 72) (ok_getf (k := 17) (hc0 := (rfl : vwCl[8]? = some (RX7, TX7, 36))) (by decide) in_X7 wd_806 (m_dk dk_X7_ship 38 rfl) rfl) <|
  m_cn (pc := 75) (ok_iload_n (m_dk dk_X7_ship 39 rfl) rfl rfl) <|
  m_cn (pc := 76) (ok_iast (m_dk dk_X7_ship 40 rfl) rfl) <|
  m_cn (pc := 77) (ok_aload_n (m_dk dk_X7_ship 41 rfl) rfl rfl) <|
  m_cn (pc := 78) (ok_getf (k := 20) (hc0 := (rfl : vwCl[8]? = some (RX7, TX7, 36))) (by decide) in_X7 wd_809 (m_dk dk_X7_ship 42 rfl) rfl) <|
  m_cn (pc := 81) (ok_aload_n (m_dk dk_X7_ship 43 rfl) rfl rfl) <|
  m_cn (pc := 82) (ok_getf (k := 17) (hc0 := (rfl : vwCl[8]? = some (RX7, TX7, 36))) (by decide) in_X7 wd_806 (m_dk dk_X7_ship 44 rfl) rfl) <|
  m_cn (pc := 85) (ok_iload_n (m_dk dk_X7_ship 45 rfl) rfl rfl) <|
  m_cn (pc := 86) (ok_iast (m_dk dk_X7_ship 46 rfl) rfl) <|
  m_cn (pc := 87) (ok_aload_n (m_dk dk_X7_ship 47 rfl) rfl rfl) <|
  m_cn (pc := 88) (ok_dup (m_dk dk_X7_ship 48 rfl) rfl) <|
  m_cn (pc := 89) (ok_getf (k := 17) (hc0 := (rfl : vwCl[8]? = some (RX7, TX7, 36))) (by decide) in_X7 wd_806 (m_dk dk_X7_ship 49 rfl) rfl) <|
  m_cn (pc := 92) (ok_iconst (m_dk dk_X7_ship 50 rfl) (by decide) rfl) <|
  m_cn (pc := 93) (ok_iadd (m_dk dk_X7_ship 51 rfl) rfl) <|
  m_cn (pc := 94) (ok_puti (k := 17) (hc0 := (rfl : vwCl[8]? = some (RX7, TX7, 36))) (by decide) in_X7 wd_806 tyX7 tyX7_ok nmX7 rfl (tyX7_ok 17 (by decide)) (m_dk dk_X7_ship 52 rfl) rfl) <|
  m_cn (pc := 97) (ok_aload_n (m_dk dk_X7_ship 53 rfl) rfl rfl) <|
  m_cn (pc := 98) (ok_getf (k := 17) (hc0 := (rfl : vwCl[8]? = some (RX7, TX7, 36))) (by decide) in_X7 wd_806 (m_dk dk_X7_ship 54 rfl) rfl) <|
  m_cn (pc := 101) (ok_iconst (m_dk dk_X7_ship 55 rfl) (by decide) rfl) <|
  m_cn (pc := 102) (ok_isub (m_dk dk_X7_ship 56 rfl) rfl) <|
  m_cn (pc := 103) (ok_ireturn (nx := 0) rfl (m_dk dk_X7_ship 57 rfl)) <|
  m_nl
theorem mk_X7_ship {GP : m_G → Prop} {cds : Nat → Nat → m_Op} (h : cds 78 = m_lk cd_X7_ship) : m_MOK GP m_my cds 78 := ⟨RX7, false, [], by decide +kernel, rfl, (fun h9 => by first | rfl | cases h9), Or.inl ⟨rfl, rfl⟩, fun pc => by rw [h]; exact m_lk_ok _ ok_X7_ship pc⟩
def dl_X7_isSentTo : List (Nat × Instr × Nat) := [(0, .iconst 0, 1), (1, .istore_n 2, 1), (2, .iconst 0, 1), (3, .istore_n 3, 1), (4, .iload_n 3, 1), (5, .aload_n 0, 1), (6, .getfield 105, 3), (9, .if_icmp .ge 29, 3), (12, .iload_n 2, 1), (13, .ifCond .ne 13, 3), (16, .aload_n 0, 1), (17, .getfield 58, 3), (20, .iload_n 3, 1), (21, .iaload, 1), (22, .iload_n 1, 1), (23, .if_icmp .ne 7, 3), (26, .iconst 1, 1), (27, .goto 4, 3), (30, .iconst 0, 1), (31, .istore_n 2, 1), (32, .iinc 3 1, 3), (35, .goto (-31), 3), (38, .iload_n 2, 1), (39, .ireturn, 1)]
theorem dk_X7_isSentTo : ∀ q ∈ dl_X7_isSentTo, decode cX7_isSentTo q.1 = .ok q.2 := by decide +kernel
def cd_X7_isSentTo : List (Nat × m_Op) := [(0, o_const (0) 1), (1, o_istore 2 2), (2, o_const (0) 3), (3, o_istore 3 4), (4, o_iload 3 5), (5, o_aload 0 6), (6, o_getf 8 17 9), (9, o_icmpge 38 12), (12, o_iload 2 13), (13, o_ifne 26 16), (16, o_aload 0 17), (17, o_getf 8 21 20), (20, o_iload 3 21), (21, o_iald 0 22), (22, o_iload 1 23), (23, o_icmpne 30 26), (26, o_const (1) 27), (27, o_goto 31), (30, o_const (0) 31), (31, o_istore 2 32), (32, o_iinc 3 (1) 35), (35, o_goto 4), (38, o_iload 2 39), (39, o_zreturn)]
set_option maxRecDepth 20000 in
set_option maxHeartbeats 4000000 in
theorem ok_X7_isSentTo {GP : m_G → Prop} : ∀ q ∈ cd_X7_isSentTo, m_OK GP m_my (cX7_isSentTo, 4, RX7, false, (some .boolean), []) q.1 q.2 :=
  m_cn (pc := 0) (ok_iconst (m_dk dk_X7_isSentTo 0 rfl) (by decide) rfl) <|
  m_cn (pc := 1) (ok_istore_n (m_dk dk_X7_isSentTo 1 rfl) rfl rfl) <|
  m_cn (pc := 2) (ok_iconst (m_dk dk_X7_isSentTo 2 rfl) (by decide) rfl) <|
  m_cn (pc := 3) (ok_istore_n (m_dk dk_X7_isSentTo 3 rfl) rfl rfl) <|
  m_cn (pc := 4) (ok_iload_n (m_dk dk_X7_isSentTo 4 rfl) rfl rfl) <|
  m_cn (pc := 5) (ok_aload_n (m_dk dk_X7_isSentTo 5 rfl) rfl rfl) <|
  m_cn (pc := 6) (ok_getf (k := 17) (hc0 := (rfl : vwCl[8]? = some (RX7, TX7, 36))) (by decide) in_X7 wd_806 (m_dk dk_X7_isSentTo 6 rfl) rfl) <|
  m_cn (pc := 9) (ok_icmpge (m_dk dk_X7_isSentTo 7 rfl) rfl rfl) <|
  m_cn (pc := 12) (ok_iload_n (m_dk dk_X7_isSentTo 8 rfl) rfl rfl) <|
  m_cn (pc := 13) (ok_ifne (m_dk dk_X7_isSentTo 9 rfl) rfl rfl) <|
  m_cn (pc := 16) (ok_aload_n (m_dk dk_X7_isSentTo 10 rfl) rfl rfl) <|
  m_cn (pc := 17) (ok_getf (k := 21) (hc0 := (rfl : vwCl[8]? = some (RX7, TX7, 36))) (by decide) in_X7 wd_810 (m_dk dk_X7_isSentTo 11 rfl) rfl) <|
  m_cn (pc := 20) (ok_iload_n (m_dk dk_X7_isSentTo 12 rfl) rfl rfl) <|
  m_cn (pc := 21) (ok_iald (m_dk dk_X7_isSentTo 13 rfl) rfl) <|
  m_cn (pc := 22) (ok_iload_n (m_dk dk_X7_isSentTo 14 rfl) rfl rfl) <|
  m_cn (pc := 23) (ok_icmpne (m_dk dk_X7_isSentTo 15 rfl) rfl rfl) <|
  m_cn (pc := 26) (ok_iconst (m_dk dk_X7_isSentTo 16 rfl) (by decide) rfl) <|
  m_cn (pc := 27) (ok_goto (nx := 0) (m_dk dk_X7_isSentTo 17 rfl) rfl) <|
  m_cn (pc := 30) (ok_iconst (m_dk dk_X7_isSentTo 18 rfl) (by decide) rfl) <|
  m_cn (pc := 31) (ok_istore_n (m_dk dk_X7_isSentTo 19 rfl) rfl rfl) <|
  m_cn (pc := 32) (ok_iinc (m_dk dk_X7_isSentTo 20 rfl) (by decide) rfl) <|
  m_cn (pc := 35) (ok_goto (nx := 0) (m_dk dk_X7_isSentTo 21 rfl) rfl) <|
  m_cn (pc := 38) (ok_iload_n (m_dk dk_X7_isSentTo 22 rfl) rfl rfl) <|
  m_cn (pc := 39) (ok_zreturn (nx := 0) rfl (m_dk dk_X7_isSentTo 23 rfl)) <|
  m_nl
theorem mk_X7_isSentTo {GP : m_G → Prop} {cds : Nat → Nat → m_Op} (h : cds 79 = m_lk cd_X7_isSentTo) : m_MOK GP m_my cds 79 := ⟨RX7, false, [], by decide +kernel, rfl, (fun h9 => by first | rfl | cases h9), Or.inl ⟨rfl, rfl⟩, fun pc => by rw [h]; exact m_lk_ok _ ok_X7_isSentTo pc⟩
def dl_X7_send : List (Nat × Instr × Nat) := [(0, .aload_n 0, 1), (1, .iload_n 1, 1), (2, .invokevirtual 136, 3), (5, .ifCond .eq 20, 3), (8, .iload_n 2, 1), (9, .iconst (-1), 1), (10, .if_icmp .eq 11, 3), (13, .aload_n 0, 1), (14, .iload_n 2, 1), (15, .invokevirtual 139, 3), (18, .ifCond .eq 7, 3), (21, .iconst 1, 1), (22, .goto 4, 3), (25, .iconst 0, 1), (26, .istore_n 3, 1), (27, .aload_n 0, 1), (28, .iload_n 3, 1), (29, .iload_n 3, 1), (30, .ifCond .eq 30, 3), (33, .iload_n 2, 1), (34, .iconst (-1), 1), (35, .if_icmp .eq 21, 3), (38, .aload_n 0, 1), (39, .getfield 46, 3), (42, .iload_n 2, 1), (43, .iaload, 1), (44, .iconst 5, 1), (45, .if_icmp .ge 15, 3), (48, .aload_n 0, 1), (49, .iload_n 2, 1), (50, .invokevirtual 142, 3), (53, .ifCond .ne 7, 3), (56, .iconst 1, 1), (57, .goto 4, 3), (60, .iconst 0, 1), (61, .iconst 1, 1), (62, .invokevirtual 115, 3), (65, .ifCond .ne 5, 3), (68, .iconst 0, 1), (69, .ireturn, 1), (70, .aload_n 0, 1), (71, .getfield 58, 3), (74, .iload_n 1, 1), (75, .iaload, 1), (76, .istore 4, 2), (78, .aload_n 0, 1), (79, .getfield 58, 3), (82, .iload_n 1, 1), (83, .iload_n 2, 1), (84, .iastore, 1), (85, .iload 4, 2), (87, .ireturn, 1)]
theorem dk_X7_send : ∀ q ∈ dl_X7_send, decode cX7_send q.1 = .ok q.2 := by decide +kernel
def cd_X7_send : List (Nat × m_Op) := [(0, o_aload 0 1), (1, o_iload 1 2), (2, o_callv 8 70 2 0 0 5), (5, o_ifeq 25 8), (8, o_iload 2 9), (9, o_const (-1) 10), (10, o_icmpeq 21 13), (13, o_aload 0 14), (14, o_iload 2 15), (15, o_callv 8 69 2 0 0 18), (18, o_ifeq 25 21), (21, o_const (1) 22), (22, o_goto 26), (25, o_const (0) 26), (26, o_istore 3 27), (27, o_aload 0 28), (28, o_iload 3 29), (29, o_iload 3 30), (30, o_ifeq 60 33), (33, o_iload 2 34), (34, o_const (-1) 35), (35, o_icmpeq 56 38), (38, o_aload 0 39), (39, o_getf 8 16 42), (42, o_iload 2 43), (43, o_iald 0 44), (44, o_const (5) 45), (45, o_icmpge 60 48), (48, o_aload 0 49), (49, o_iload 2 50), (50, o_callv 8 79 2 0 0 53), (53, o_ifne 60 56), (56, o_const (1) 57), (57, o_goto 61), (60, o_const (0) 61), (61, o_const (1) 62), (62, o_callv 8 64 4 0 0 65), (65, o_ifne 70 68), (68, o_const (0) 69), (69, o_ireturn), (70, o_aload 0 71), (71, o_getf 8 21 74), (74, o_iload 1 75), (75, o_iald 0 76), (76, o_istore 4 78), (78, o_aload 0 79), (79, o_getf 8 21 82), (82, o_iload 1 83), (83, o_iload 2 84), (84, o_iast 85), (85, o_iload 4 87), (87, o_ireturn)]
set_option maxRecDepth 20000 in
set_option maxHeartbeats 4000000 in
theorem ok_X7_send {GP : m_G → Prop} : ∀ q ∈ cd_X7_send, m_OK GP m_my (cX7_send, 5, RX7, false, (some .int), []) q.1 q.2 :=
  m_cn (pc := 0) (ok_aload_n (m_dk dk_X7_send 0 rfl) rfl rfl) <|
  m_cn (pc := 1) (ok_iload_n (m_dk dk_X7_send 1 rfl) rfl rfl) <|
  m_cn (pc := 2) (ok_callv (T := mt_X7_isShip) my_X7_isShip rfl cw_X7_isShip rfl rfl (by decide) (r9 := (RX7, TX7, 36)) rfl rfl wd_956 wd_958 (m_wk 26 (by decide +kernel) (by decide +kernel)) wd_6 (by decide +kernel) (m_dk dk_X7_send 2 rfl) rfl) <|
  m_cn (pc := 5) (ok_ifeq (m_dk dk_X7_send 3 rfl) rfl rfl) <|
  m_cn (pc := 8) (ok_iload_n (m_dk dk_X7_send 4 rfl) rfl rfl) <|
  m_cn (pc := 9) (ok_iconst (m_dk dk_X7_send 5 rfl) (by decide) rfl) <|
  m_cn (pc := 10) (ok_icmpeq (m_dk dk_X7_send 6 rfl) rfl rfl) <|
  m_cn (pc := 13) (ok_aload_n (m_dk dk_X7_send 7 rfl) rfl rfl) <|
  m_cn (pc := 14) (ok_iload_n (m_dk dk_X7_send 8 rfl) rfl rfl) <|
  m_cn (pc := 15) (ok_callv (T := mt_X7_isCut) my_X7_isCut rfl cw_X7_isCut rfl rfl (by decide) (r9 := (RX7, TX7, 36)) rfl rfl wd_960 wd_962 (m_wk 27 (by decide +kernel) (by decide +kernel)) wd_6 (by decide +kernel) (m_dk dk_X7_send 9 rfl) rfl) <|
  m_cn (pc := 18) (ok_ifeq (m_dk dk_X7_send 10 rfl) rfl rfl) <|
  m_cn (pc := 21) (ok_iconst (m_dk dk_X7_send 11 rfl) (by decide) rfl) <|
  m_cn (pc := 22) (ok_goto (nx := 0) (m_dk dk_X7_send 12 rfl) rfl) <|
  m_cn (pc := 25) (ok_iconst (m_dk dk_X7_send 13 rfl) (by decide) rfl) <|
  m_cn (pc := 26) (ok_istore_n (m_dk dk_X7_send 14 rfl) rfl rfl) <|
  m_cn (pc := 27) (ok_aload_n (m_dk dk_X7_send 15 rfl) rfl rfl) <|
  m_cn (pc := 28) (ok_iload_n (m_dk dk_X7_send 16 rfl) rfl rfl) <|
  m_cn (pc := 29) (ok_iload_n (m_dk dk_X7_send 17 rfl) rfl rfl) <|
  m_cn (pc := 30) (ok_ifeq (m_dk dk_X7_send 18 rfl) rfl rfl) <|
  m_cn (pc := 33) (ok_iload_n (m_dk dk_X7_send 19 rfl) rfl rfl) <|
  m_cn (pc := 34) (ok_iconst (m_dk dk_X7_send 20 rfl) (by decide) rfl) <|
  m_cn (pc := 35) (ok_icmpeq (m_dk dk_X7_send 21 rfl) rfl rfl) <|
  m_cn (pc := 38) (ok_aload_n (m_dk dk_X7_send 22 rfl) rfl rfl) <|
  m_cn (pc := 39) (ok_getf (k := 16) (hc0 := (rfl : vwCl[8]? = some (RX7, TX7, 36))) (by decide) in_X7 wd_805 (m_dk dk_X7_send 23 rfl) rfl) <|
  m_cn (pc := 42) (ok_iload_n (m_dk dk_X7_send 24 rfl) rfl rfl) <|
  m_cn (pc := 43) (ok_iald (m_dk dk_X7_send 25 rfl) rfl) <|
  m_cn (pc := 44) (ok_iconst (m_dk dk_X7_send 26 rfl) (by decide) rfl) <|
  m_cn (pc := 45) (ok_icmpge (m_dk dk_X7_send 27 rfl) rfl rfl) <|
  m_cn (pc := 48) (ok_aload_n (m_dk dk_X7_send 28 rfl) rfl rfl) <|
  m_cn (pc := 49) (ok_iload_n (m_dk dk_X7_send 29 rfl) rfl rfl) <|
  m_cn (pc := 50) (ok_callv (T := mt_X7_isSentTo) my_X7_isSentTo rfl cw_X7_isSentTo rfl rfl (by decide) (r9 := (RX7, TX7, 36)) rfl rfl wd_964 wd_966 (m_wk 28 (by decide +kernel) (by decide +kernel)) wd_6 (by decide +kernel) (m_dk dk_X7_send 30 rfl) rfl) <|
  m_cn (pc := 53) (ok_ifne (m_dk dk_X7_send 31 rfl) rfl rfl) <|
  m_cn (pc := 56) (ok_iconst (m_dk dk_X7_send 32 rfl) (by decide) rfl) <|
  m_cn (pc := 57) (ok_goto (nx := 0) (m_dk dk_X7_send 33 rfl) rfl) <|
  m_cn (pc := 60) (ok_iconst (m_dk dk_X7_send 34 rfl) (by decide) rfl) <|
  m_cn (pc := 61) (ok_iconst (m_dk dk_X7_send 35 rfl) (by decide) rfl) <|
  m_cn (pc := 62) (ok_callv (T := mt_X7_goes) my_X7_goes rfl cw_X7_goes rfl rfl (by decide) (r9 := (RX7, TX7, 36)) rfl rfl wd_915 wd_917 (m_wk 21 (by decide +kernel) (by decide +kernel)) wd_6 (by decide +kernel) (m_dk dk_X7_send 36 rfl) rfl) <|
  m_cn (pc := 65) (ok_ifne (m_dk dk_X7_send 37 rfl) rfl rfl) <|
  m_cn (pc := 68) (ok_iconst (m_dk dk_X7_send 38 rfl) (by decide) rfl) <|
  m_cn (pc := 69) (ok_ireturn (nx := 0) rfl (m_dk dk_X7_send 39 rfl)) <|
  m_cn (pc := 70) (ok_aload_n (m_dk dk_X7_send 40 rfl) rfl rfl) <|
  m_cn (pc := 71) (ok_getf (k := 21) (hc0 := (rfl : vwCl[8]? = some (RX7, TX7, 36))) (by decide) in_X7 wd_810 (m_dk dk_X7_send 41 rfl) rfl) <|
  m_cn (pc := 74) (ok_iload_n (m_dk dk_X7_send 42 rfl) rfl rfl) <|
  m_cn (pc := 75) (ok_iald (m_dk dk_X7_send 43 rfl) rfl) <|
  m_cn (pc := 76) (ok_istore (m_dk dk_X7_send 44 rfl) rfl) <|
  m_cn (pc := 78) (ok_aload_n (m_dk dk_X7_send 45 rfl) rfl rfl) <|
  m_cn (pc := 79) (ok_getf (k := 21) (hc0 := (rfl : vwCl[8]? = some (RX7, TX7, 36))) (by decide) in_X7 wd_810 (m_dk dk_X7_send 46 rfl) rfl) <|
  m_cn (pc := 82) (ok_iload_n (m_dk dk_X7_send 47 rfl) rfl rfl) <|
  m_cn (pc := 83) (ok_iload_n (m_dk dk_X7_send 48 rfl) rfl rfl) <|
  m_cn (pc := 84) (ok_iast (m_dk dk_X7_send 49 rfl) rfl) <|
  m_cn (pc := 85) (ok_iload (m_dk dk_X7_send 50 rfl) rfl) <|
  m_cn (pc := 87) (ok_ireturn (nx := 0) rfl (m_dk dk_X7_send 51 rfl)) <|
  m_nl
theorem mk_X7_send {GP : m_G → Prop} {cds : Nat → Nat → m_Op} (h : cds 80 = m_lk cd_X7_send) : m_MOK GP m_my cds 80 := ⟨RX7, false, [], by decide +kernel, rfl, (fun h9 => by first | rfl | cases h9), Or.inl ⟨rfl, rfl⟩, fun pc => by rw [h]; exact m_lk_ok _ ok_X7_send pc⟩
def dl_X7_fill : List (Nat × Instr × Nat) := [(0, .aload_n 0, 1), (1, .iload_n 1, 1), (2, .invokevirtual 136, 3), (5, .istore_n 3, 1), (6, .aload_n 0, 1), (7, .iload_n 3, 1), (8, .iload_n 2, 1), (9, .iconst 0, 1), (10, .bipush 10, 2), (12, .invokestatic 92, 3), (15, .iload_n 3, 1), (16, .ifCond .eq 30, 3), (19, .aload_n 0, 1), (20, .getfield 58, 3), (23, .iload_n 1, 1), (24, .iaload, 1), (25, .iconst (-1), 1), (26, .if_icmp .ne 20, 3), (29, .aload_n 0, 1), (30, .getfield 49, 3), (33, .iload_n 1, 1), (34, .iaload, 1), (35, .sipush 200, 3), (38, .irem, 1), (39, .ifCond .ne 7, 3), (42, .iconst 1, 1), (43, .goto 4, 3), (46, .iconst 0, 1), (47, .invokevirtual 115, 3), (50, .ifCond .ne 5, 3), (53, .iconst 0, 1), (54, .ireturn, 1), (55, .aload_n 0, 1), (56, .getfield 55, 3), (59, .iload_n 1, 1), (60, .iaload, 1), (61, .istore 4, 2), (63, .aload_n 0, 1), (64, .getfield 55, 3), (67, .iload_n 1, 1), (68, .iload_n 2, 1), (69, .iastore, 1), (70, .iload 4, 2), (72, .ireturn, 1)]
theorem dk_X7_fill : ∀ q ∈ dl_X7_fill, decode cX7_fill q.1 = .ok q.2 := by decide +kernel
def cd_X7_fill : List (Nat × m_Op) := [(0, o_aload 0 1), (1, o_iload 1 2), (2, o_callv 8 70 2 0 0 5), (5, o_istore 3 6), (6, o_aload 0 7), (7, o_iload 3 8), (8, o_iload 2 9), (9, o_const (0) 10), (10, o_const (10) 12), (12, o_call 63 3 0 0 15), (15, o_iload 3 16), (16, o_ifeq 46 19), (19, o_aload 0 20), (20, o_getf 8 21 23), (23, o_iload 1 24), (24, o_iald 0 25), (25, o_const (-1) 26), (26, o_icmpne 46 29), (29, o_aload 0 30), (30, o_getf 8 18 33), (33, o_iload 1 34), (34, o_iald 0 35), (35, o_const (200) 38), (38, o_div (fun x y => x - x / y * y) 39), (39, o_ifne 46 42), (42, o_const (1) 43), (43, o_goto 47), (46, o_const (0) 47), (47, o_callv 8 64 4 0 0 50), (50, o_ifne 55 53), (53, o_const (0) 54), (54, o_ireturn), (55, o_aload 0 56), (56, o_getf 8 20 59), (59, o_iload 1 60), (60, o_iald 0 61), (61, o_istore 4 63), (63, o_aload 0 64), (64, o_getf 8 20 67), (67, o_iload 1 68), (68, o_iload 2 69), (69, o_iast 70), (70, o_iload 4 72), (72, o_ireturn)]
set_option maxRecDepth 20000 in
set_option maxHeartbeats 4000000 in
theorem ok_X7_fill {GP : m_G → Prop} : ∀ q ∈ cd_X7_fill, m_OK GP m_my (cX7_fill, 5, RX7, false, (some .int), []) q.1 q.2 :=
  m_cn (pc := 0) (ok_aload_n (m_dk dk_X7_fill 0 rfl) rfl rfl) <|
  m_cn (pc := 1) (ok_iload_n (m_dk dk_X7_fill 1 rfl) rfl rfl) <|
  m_cn (pc := 2) (ok_callv (T := mt_X7_isShip) my_X7_isShip rfl cw_X7_isShip rfl rfl (by decide) (r9 := (RX7, TX7, 36)) rfl rfl wd_956 wd_958 (m_wk 26 (by decide +kernel) (by decide +kernel)) wd_6 (by decide +kernel) (m_dk dk_X7_fill 2 rfl) rfl) <|
  m_cn (pc := 5) (ok_istore_n (m_dk dk_X7_fill 3 rfl) rfl rfl) <|
  m_cn (pc := 6) (ok_aload_n (m_dk dk_X7_fill 4 rfl) rfl rfl) <|
  m_cn (pc := 7) (ok_iload_n (m_dk dk_X7_fill 5 rfl) rfl rfl) <|
  m_cn (pc := 8) (ok_iload_n (m_dk dk_X7_fill 6 rfl) rfl rfl) <|
  m_cn (pc := 9) (ok_iconst (m_dk dk_X7_fill 7 rfl) (by decide) rfl) <|
  m_cn (pc := 10) (ok_bipush (m_dk dk_X7_fill 8 rfl) (by decide) rfl) <|
  m_cn (pc := 12) (ok_calls (T := mt_X7_in) my_X7_in rfl cw_X7_in rfl rfl (by decide) wd_909 wd_910 wd_6 (by decide +kernel) (m_dk dk_X7_fill 9 rfl) rfl) <|
  m_cn (pc := 15) (ok_iload_n (m_dk dk_X7_fill 10 rfl) rfl rfl) <|
  m_cn (pc := 16) (ok_ifeq (m_dk dk_X7_fill 11 rfl) rfl rfl) <|
  m_cn (pc := 19) (ok_aload_n (m_dk dk_X7_fill 12 rfl) rfl rfl) <|
  m_cn (pc := 20) (ok_getf (k := 21) (hc0 := (rfl : vwCl[8]? = some (RX7, TX7, 36))) (by decide) in_X7 wd_810 (m_dk dk_X7_fill 13 rfl) rfl) <|
  m_cn (pc := 23) (ok_iload_n (m_dk dk_X7_fill 14 rfl) rfl rfl) <|
  m_cn (pc := 24) (ok_iald (m_dk dk_X7_fill 15 rfl) rfl) <|
  m_cn (pc := 25) (ok_iconst (m_dk dk_X7_fill 16 rfl) (by decide) rfl) <|
  m_cn (pc := 26) (ok_icmpne (m_dk dk_X7_fill 17 rfl) rfl rfl) <|
  m_cn (pc := 29) (ok_aload_n (m_dk dk_X7_fill 18 rfl) rfl rfl) <|
  m_cn (pc := 30) (ok_getf (k := 18) (hc0 := (rfl : vwCl[8]? = some (RX7, TX7, 36))) (by decide) in_X7 wd_807 (m_dk dk_X7_fill 19 rfl) rfl) <|
  m_cn (pc := 33) (ok_iload_n (m_dk dk_X7_fill 20 rfl) rfl rfl) <|
  m_cn (pc := 34) (ok_iald (m_dk dk_X7_fill 21 rfl) rfl) <|
  m_cn (pc := 35) (ok_sipush (m_dk dk_X7_fill 22 rfl) (by decide) rfl) <|
  m_cn (pc := 38) (ok_irem (m_dk dk_X7_fill 23 rfl) rfl) <|
  m_cn (pc := 39) (ok_ifne (m_dk dk_X7_fill 24 rfl) rfl rfl) <|
  m_cn (pc := 42) (ok_iconst (m_dk dk_X7_fill 25 rfl) (by decide) rfl) <|
  m_cn (pc := 43) (ok_goto (nx := 0) (m_dk dk_X7_fill 26 rfl) rfl) <|
  m_cn (pc := 46) (ok_iconst (m_dk dk_X7_fill 27 rfl) (by decide) rfl) <|
  m_cn (pc := 47) (ok_callv (T := mt_X7_goes) my_X7_goes rfl cw_X7_goes rfl rfl (by decide) (r9 := (RX7, TX7, 36)) rfl rfl wd_915 wd_917 (m_wk 21 (by decide +kernel) (by decide +kernel)) wd_6 (by decide +kernel) (m_dk dk_X7_fill 28 rfl) rfl) <|
  m_cn (pc := 50) (ok_ifne (m_dk dk_X7_fill 29 rfl) rfl rfl) <|
  m_cn (pc := 53) (ok_iconst (m_dk dk_X7_fill 30 rfl) (by decide) rfl) <|
  m_cn (pc := 54) (ok_ireturn (nx := 0) rfl (m_dk dk_X7_fill 31 rfl)) <|
  m_cn (pc := 55) (ok_aload_n (m_dk dk_X7_fill 32 rfl) rfl rfl) <|
  m_cn (pc := 56) (ok_getf (k := 20) (hc0 := (rfl : vwCl[8]? = some (RX7, TX7, 36))) (by decide) in_X7 wd_809 (m_dk dk_X7_fill 33 rfl) rfl) <|
  m_cn (pc := 59) (ok_iload_n (m_dk dk_X7_fill 34 rfl) rfl rfl) <|
  m_cn (pc := 60) (ok_iald (m_dk dk_X7_fill 35 rfl) rfl) <|
  m_cn (pc := 61) (ok_istore (m_dk dk_X7_fill 36 rfl) rfl) <|
  m_cn (pc := 63) (ok_aload_n (m_dk dk_X7_fill 37 rfl) rfl rfl) <|
  m_cn (pc := 64) (ok_getf (k := 20) (hc0 := (rfl : vwCl[8]? = some (RX7, TX7, 36))) (by decide) in_X7 wd_809 (m_dk dk_X7_fill 38 rfl) rfl) <|
  m_cn (pc := 67) (ok_iload_n (m_dk dk_X7_fill 39 rfl) rfl rfl) <|
  m_cn (pc := 68) (ok_iload_n (m_dk dk_X7_fill 40 rfl) rfl rfl) <|
  m_cn (pc := 69) (ok_iast (m_dk dk_X7_fill 41 rfl) rfl) <|
  m_cn (pc := 70) (ok_iload (m_dk dk_X7_fill 42 rfl) rfl) <|
  m_cn (pc := 72) (ok_ireturn (nx := 0) rfl (m_dk dk_X7_fill 43 rfl)) <|
  m_nl
theorem mk_X7_fill {GP : m_G → Prop} {cds : Nat → Nat → m_Op} (h : cds 81 = m_lk cd_X7_fill) : m_MOK GP m_my cds 81 := ⟨RX7, false, [], by decide +kernel, rfl, (fun h9 => by first | rfl | cases h9), Or.inl ⟨rfl, rfl⟩, fun pc => by rw [h]; exact m_lk_ok _ ok_X7_fill pc⟩
def dl_X7_storm : List (Nat × Instr × Nat) := [(0, .aload_n 0, 1), (1, .iload_n 1, 1), (2, .iconst 0, 1), (3, .sipush 1000, 3), (6, .invokestatic 92, 3), (9, .ifCond .eq 18, 3), (12, .iload_n 2, 1), (13, .iload_n 1, 1), (14, .sipush 1000, 3), (17, .invokestatic 92, 3), (20, .ifCond .eq 7, 3), (23, .iconst 1, 1), (24, .goto 4, 3), (27, .iconst 0, 1), (28, .iconst 1, 1), (29, .iconst 1, 1), (30, .invokevirtual 115, 3), (33, .ifCond .eq 13, 3), (36, .aload_n 0, 1), (37, .iload_n 1, 1), (38, .putfield 61, 3), (41, .aload_n 0, 1), (42, .iload_n 2, 1), (43, .putfield 65, 3), (46, .return_, 1)]
theorem dk_X7_storm : ∀ q ∈ dl_X7_storm, decode cX7_storm q.1 = .ok q.2 := by decide +kernel
def cd_X7_storm : List (Nat × m_Op) := [(0, o_aload 0 1), (1, o_iload 1 2), (2, o_const (0) 3), (3, o_const (1000) 6), (6, o_call 63 3 0 0 9), (9, o_ifeq 27 12), (12, o_iload 2 13), (13, o_iload 1 14), (14, o_const (1000) 17), (17, o_call 63 3 0 0 20), (20, o_ifeq 27 23), (23, o_const (1) 24), (24, o_goto 28), (27, o_const (0) 28), (28, o_const (1) 29), (29, o_const (1) 30), (30, o_callv 8 64 4 0 0 33), (33, o_ifeq 46 36), (36, o_aload 0 37), (37, o_iload 1 38), (38, o_puti 8 22 41), (41, o_aload 0 42), (42, o_iload 2 43), (43, o_puti 8 23 46), (46, o_return)]
set_option maxRecDepth 20000 in
set_option maxHeartbeats 4000000 in
theorem ok_X7_storm {GP : m_G → Prop} : ∀ q ∈ cd_X7_storm, m_OK GP m_my (cX7_storm, 3, RX7, false, none, []) q.1 q.2 :=
  m_cn (pc := 0) (ok_aload_n (m_dk dk_X7_storm 0 rfl) rfl rfl) <|
  m_cn (pc := 1) (ok_iload_n (m_dk dk_X7_storm 1 rfl) rfl rfl) <|
  m_cn (pc := 2) (ok_iconst (m_dk dk_X7_storm 2 rfl) (by decide) rfl) <|
  m_cn (pc := 3) (ok_sipush (m_dk dk_X7_storm 3 rfl) (by decide) rfl) <|
  m_cn (pc := 6) (ok_calls (T := mt_X7_in) my_X7_in rfl cw_X7_in rfl rfl (by decide) wd_909 wd_910 wd_6 (by decide +kernel) (m_dk dk_X7_storm 4 rfl) rfl) <|
  m_cn (pc := 9) (ok_ifeq (m_dk dk_X7_storm 5 rfl) rfl rfl) <|
  m_cn (pc := 12) (ok_iload_n (m_dk dk_X7_storm 6 rfl) rfl rfl) <|
  m_cn (pc := 13) (ok_iload_n (m_dk dk_X7_storm 7 rfl) rfl rfl) <|
  m_cn (pc := 14) (ok_sipush (m_dk dk_X7_storm 8 rfl) (by decide) rfl) <|
  m_cn (pc := 17) (ok_calls (T := mt_X7_in) my_X7_in rfl cw_X7_in rfl rfl (by decide) wd_909 wd_910 wd_6 (by decide +kernel) (m_dk dk_X7_storm 9 rfl) rfl) <|
  m_cn (pc := 20) (ok_ifeq (m_dk dk_X7_storm 10 rfl) rfl rfl) <|
  m_cn (pc := 23) (ok_iconst (m_dk dk_X7_storm 11 rfl) (by decide) rfl) <|
  m_cn (pc := 24) (ok_goto (nx := 0) (m_dk dk_X7_storm 12 rfl) rfl) <|
  m_cn (pc := 27) (ok_iconst (m_dk dk_X7_storm 13 rfl) (by decide) rfl) <|
  m_cn (pc := 28) (ok_iconst (m_dk dk_X7_storm 14 rfl) (by decide) rfl) <|
  m_cn (pc := 29) (ok_iconst (m_dk dk_X7_storm 15 rfl) (by decide) rfl) <|
  m_cn (pc := 30) (ok_callv (T := mt_X7_goes) my_X7_goes rfl cw_X7_goes rfl rfl (by decide) (r9 := (RX7, TX7, 36)) rfl rfl wd_915 wd_917 (m_wk 21 (by decide +kernel) (by decide +kernel)) wd_6 (by decide +kernel) (m_dk dk_X7_storm 16 rfl) rfl) <|
  m_cn (pc := 33) (ok_ifeq (m_dk dk_X7_storm 17 rfl) rfl rfl) <|
  m_cn (pc := 36) (ok_aload_n (m_dk dk_X7_storm 18 rfl) rfl rfl) <|
  m_cn (pc := 37) (ok_iload_n (m_dk dk_X7_storm 19 rfl) rfl rfl) <|
  m_cn (pc := 38) (ok_puti (k := 22) (hc0 := (rfl : vwCl[8]? = some (RX7, TX7, 36))) (by decide) in_X7 wd_811 tyX7 tyX7_ok nmX7 rfl (tyX7_ok 22 (by decide)) (m_dk dk_X7_storm 20 rfl) rfl) <|
  m_cn (pc := 41) (ok_aload_n (m_dk dk_X7_storm 21 rfl) rfl rfl) <|
  m_cn (pc := 42) (ok_iload_n (m_dk dk_X7_storm 22 rfl) rfl rfl) <|
  m_cn (pc := 43) (ok_puti (k := 23) (hc0 := (rfl : vwCl[8]? = some (RX7, TX7, 36))) (by decide) in_X7 wd_812 tyX7 tyX7_ok nmX7 rfl (tyX7_ok 23 (by decide)) (m_dk dk_X7_storm 23 rfl) rfl) <|
  m_cn (pc := 46) (ok_return (nx := 0) rfl (m_dk dk_X7_storm 24 rfl)) <|
  m_nl
theorem mk_X7_storm {GP : m_G → Prop} {cds : Nat → Nat → m_Op} (h : cds 82 = m_lk cd_X7_storm) : m_MOK GP m_my cds 82 := ⟨RX7, false, [], by decide +kernel, rfl, (fun h9 => by first | rfl | cases h9), Or.inl ⟨rfl, rfl⟩, fun pc => by rw [h]; exact m_lk_ok _ ok_X7_storm pc⟩
def dl_X7_freeOf : List (Nat × Instr × Nat) := [(0, .iconst 0, 1), (1, .istore_n 2, 1), (2, .iconst 0, 1), (3, .istore_n 3, 1), (4, .iload_n 3, 1), (5, .bipush 6, 2), (7, .if_icmp .ge 23, 3), (10, .iload_n 2, 1), (11, .aload_n 0, 1), (12, .getfield 77, 3), (15, .bipush 6, 2), (17, .iload_n 1, 1), (18, .imul, 1), (19, .iload_n 3, 1), (20, .iadd, 1), (21, .iaload, 1), (22, .iadd, 1), (23, .istore_n 2, 1), (24, .iinc 3 1, 3), (27, .goto (-23), 3), (30, .iload_n 2, 1), (31, .ireturn, 1)]
theorem dk_X7_freeOf : ∀ q ∈ dl_X7_freeOf, decode cX7_freeOf q.1 = .ok q.2 := by decide +kernel
def cd_X7_freeOf : List (Nat × m_Op) := [(0, o_const (0) 1), (1, o_istore 2 2), (2, o_const (0) 3), (3, o_istore 3 4), (4, o_iload 3 5), (5, o_const (6) 7), (7, o_icmpge 30 10), (10, o_iload 2 11), (11, o_aload 0 12), (12, o_getf 8 28 15), (15, o_const (6) 17), (17, o_iload 1 18), (18, o_bin (fun x y => x * y) 19), (19, o_iload 3 20), (20, o_bin (fun x y => x + y) 21), (21, o_iald 0 22), (22, o_bin (fun x y => x + y) 23), (23, o_istore 2 24), (24, o_iinc 3 (1) 27), (27, o_goto 4), (30, o_iload 2 31), (31, o_ireturn)]
set_option maxRecDepth 20000 in
set_option maxHeartbeats 4000000 in
theorem ok_X7_freeOf {GP : m_G → Prop} : ∀ q ∈ cd_X7_freeOf, m_OK GP m_my (cX7_freeOf, 4, RX7, false, (some .int), []) q.1 q.2 :=
  m_cn (pc := 0) (ok_iconst (m_dk dk_X7_freeOf 0 rfl) (by decide) rfl) <|
  m_cn (pc := 1) (ok_istore_n (m_dk dk_X7_freeOf 1 rfl) rfl rfl) <|
  m_cn (pc := 2) (ok_iconst (m_dk dk_X7_freeOf 2 rfl) (by decide) rfl) <|
  m_cn (pc := 3) (ok_istore_n (m_dk dk_X7_freeOf 3 rfl) rfl rfl) <|
  m_cn (pc := 4) (ok_iload_n (m_dk dk_X7_freeOf 4 rfl) rfl rfl) <|
  m_cn (pc := 5) (ok_bipush (m_dk dk_X7_freeOf 5 rfl) (by decide) rfl) <|
  m_cn (pc := 7) (ok_icmpge (m_dk dk_X7_freeOf 6 rfl) rfl rfl) <|
  m_cn (pc := 10) (ok_iload_n (m_dk dk_X7_freeOf 7 rfl) rfl rfl) <|
  m_cn (pc := 11) (ok_aload_n (m_dk dk_X7_freeOf 8 rfl) rfl rfl) <|
  m_cn (pc := 12) (ok_getf (k := 28) (hc0 := (rfl : vwCl[8]? = some (RX7, TX7, 36))) (by decide) in_X7 wd_817 (m_dk dk_X7_freeOf 9 rfl) rfl) <|
  m_cn (pc := 15) (ok_bipush (m_dk dk_X7_freeOf 10 rfl) (by decide) rfl) <|
  m_cn (pc := 17) (ok_iload_n (m_dk dk_X7_freeOf 11 rfl) rfl rfl) <|
  m_cn (pc := 18) (ok_imul (m_dk dk_X7_freeOf 12 rfl) rfl) <|
  m_cn (pc := 19) (ok_iload_n (m_dk dk_X7_freeOf 13 rfl) rfl rfl) <|
  m_cn (pc := 20) (ok_iadd (m_dk dk_X7_freeOf 14 rfl) rfl) <|
  m_cn (pc := 21) (ok_iald (m_dk dk_X7_freeOf 15 rfl) rfl) <|
  m_cn (pc := 22) (ok_iadd (m_dk dk_X7_freeOf 16 rfl) rfl) <|
  m_cn (pc := 23) (ok_istore_n (m_dk dk_X7_freeOf 17 rfl) rfl rfl) <|
  m_cn (pc := 24) (ok_iinc (m_dk dk_X7_freeOf 18 rfl) (by decide) rfl) <|
  m_cn (pc := 27) (ok_goto (nx := 0) (m_dk dk_X7_freeOf 19 rfl) rfl) <|
  m_cn (pc := 30) (ok_iload_n (m_dk dk_X7_freeOf 20 rfl) rfl rfl) <|
  m_cn (pc := 31) (ok_ireturn (nx := 0) rfl (m_dk dk_X7_freeOf 21 rfl)) <|
  m_nl
theorem mk_X7_freeOf {GP : m_G → Prop} {cds : Nat → Nat → m_Op} (h : cds 83 = m_lk cd_X7_freeOf) : m_MOK GP m_my cds 83 := ⟨RX7, false, [], by decide +kernel, rfl, (fun h9 => by first | rfl | cases h9), Or.inl ⟨rfl, rfl⟩, fun pc => by rw [h]; exact m_lk_ok _ ok_X7_freeOf pc⟩
def dl_X7_lentOn : List (Nat × Instr × Nat) := [(0, .aload_n 0, 1), (1, .getfield 77, 3), (4, .bipush 6, 2), (6, .iload_n 1, 1), (7, .imul, 1), (8, .iload_n 2, 1), (9, .iadd, 1), (10, .iaload, 1), (11, .istore 5, 2), (13, .aload_n 0, 1), (14, .iload_n 1, 1), (15, .invokevirtual 127, 3), (18, .iconst (-1), 1), (19, .if_icmp .ne 23, 3), (22, .aload_n 0, 1), (23, .iload_n 1, 1), (24, .invokevirtual 145, 3), (27, .iload_n 3, 1), (28, .if_icmp .lt 14, 3), (31, .iload 4, 2), (33, .ifCond .eq 11, 3), (36, .iload 5, 2), (38, .iload_n 3, 1), (39, .if_icmp .ge 5, 3), (42, .iconst (-1), 1), (43, .ireturn, 1), (44, .iload 5, 2), (46, .iload_n 3, 1), (47, .if_icmp .ge 10, 3), (50, .iload_n 3, 1), (51, .iload 5, 2), (53, .isub, 1), (54, .goto 4, 3), (57, .iconst 0, 1), (58, .ireturn, 1)]
theorem dk_X7_lentOn : ∀ q ∈ dl_X7_lentOn, decode cX7_lentOn q.1 = .ok q.2 := by decide +kernel
def cd_X7_lentOn : List (Nat × m_Op) := [(0, o_aload 0 1), (1, o_getf 8 28 4), (4, o_const (6) 6), (6, o_iload 1 7), (7, o_bin (fun x y => x * y) 8), (8, o_iload 2 9), (9, o_bin (fun x y => x + y) 10), (10, o_iald 0 11), (11, o_istore 5 13), (13, o_aload 0 14), (14, o_iload 1 15), (15, o_callv 8 76 2 0 0 18), (18, o_const (-1) 19), (19, o_icmpne 42 22), (22, o_aload 0 23), (23, o_iload 1 24), (24, o_callv 8 83 2 0 0 27), (27, o_iload 3 28), (28, o_icmplt 42 31), (31, o_iload 4 33), (33, o_ifeq 44 36), (36, o_iload 5 38), (38, o_iload 3 39), (39, o_icmpge 44 42), (42, o_const (-1) 43), (43, o_ireturn), (44, o_iload 5 46), (46, o_iload 3 47), (47, o_icmpge 57 50), (50, o_iload 3 51), (51, o_iload 5 53), (53, o_bin (fun x y => x - y) 54), (54, o_goto 58), (57, o_const (0) 58), (58, o_ireturn)]
set_option maxRecDepth 20000 in
set_option maxHeartbeats 4000000 in
theorem ok_X7_lentOn {GP : m_G → Prop} : ∀ q ∈ cd_X7_lentOn, m_OK GP m_my (cX7_lentOn, 6, RX7, false, (some .int), []) q.1 q.2 :=
  m_cn (pc := 0) (ok_aload_n (m_dk dk_X7_lentOn 0 rfl) rfl rfl) <|
  m_cn (pc := 1) (ok_getf (k := 28) (hc0 := (rfl : vwCl[8]? = some (RX7, TX7, 36))) (by decide) in_X7 wd_817 (m_dk dk_X7_lentOn 1 rfl) rfl) <|
  m_cn (pc := 4) (ok_bipush (m_dk dk_X7_lentOn 2 rfl) (by decide) rfl) <|
  m_cn (pc := 6) (ok_iload_n (m_dk dk_X7_lentOn 3 rfl) rfl rfl) <|
  m_cn (pc := 7) (ok_imul (m_dk dk_X7_lentOn 4 rfl) rfl) <|
  m_cn (pc := 8) (ok_iload_n (m_dk dk_X7_lentOn 5 rfl) rfl rfl) <|
  m_cn (pc := 9) (ok_iadd (m_dk dk_X7_lentOn 6 rfl) rfl) <|
  m_cn (pc := 10) (ok_iald (m_dk dk_X7_lentOn 7 rfl) rfl) <|
  m_cn (pc := 11) (ok_istore (m_dk dk_X7_lentOn 8 rfl) rfl) <|
  m_cn (pc := 13) (ok_aload_n (m_dk dk_X7_lentOn 9 rfl) rfl rfl) <|
  m_cn (pc := 14) (ok_iload_n (m_dk dk_X7_lentOn 10 rfl) rfl rfl) <|
  m_cn (pc := 15) (ok_callv (T := mt_X7_cutOf) my_X7_cutOf rfl cw_X7_cutOf rfl rfl (by decide) (r9 := (RX7, TX7, 36)) rfl rfl wd_940 wd_942 (m_wk 24 (by decide +kernel) (by decide +kernel)) wd_6 (by decide +kernel) (m_dk dk_X7_lentOn 11 rfl) rfl) <|
  m_cn (pc := 18) (ok_iconst (m_dk dk_X7_lentOn 12 rfl) (by decide) rfl) <|
  m_cn (pc := 19) (ok_icmpne (m_dk dk_X7_lentOn 13 rfl) rfl rfl) <|
  m_cn (pc := 22) (ok_aload_n (m_dk dk_X7_lentOn 14 rfl) rfl rfl) <|
  m_cn (pc := 23) (ok_iload_n (m_dk dk_X7_lentOn 15 rfl) rfl rfl) <|
  m_cn (pc := 24) (ok_callv (T := mt_X7_freeOf) my_X7_freeOf rfl cw_X7_freeOf rfl rfl (by decide) (r9 := (RX7, TX7, 36)) rfl rfl wd_1000 wd_1002 (m_wk 34 (by decide +kernel) (by decide +kernel)) wd_6 (by decide +kernel) (m_dk dk_X7_lentOn 16 rfl) rfl) <|
  m_cn (pc := 27) (ok_iload_n (m_dk dk_X7_lentOn 17 rfl) rfl rfl) <|
  m_cn (pc := 28) (ok_icmplt (m_dk dk_X7_lentOn 18 rfl) rfl rfl) <|
  m_cn (pc := 31) (ok_iload (m_dk dk_X7_lentOn 19 rfl) rfl) <|
  m_cn (pc := 33) (ok_ifeq (m_dk dk_X7_lentOn 20 rfl) rfl rfl) <|
  m_cn (pc := 36) (ok_iload (m_dk dk_X7_lentOn 21 rfl) rfl) <|
  m_cn (pc := 38) (ok_iload_n (m_dk dk_X7_lentOn 22 rfl) rfl rfl) <|
  m_cn (pc := 39) (ok_icmpge (m_dk dk_X7_lentOn 23 rfl) rfl rfl) <|
  m_cn (pc := 42) (ok_iconst (m_dk dk_X7_lentOn 24 rfl) (by decide) rfl) <|
  m_cn (pc := 43) (ok_ireturn (nx := 0) rfl (m_dk dk_X7_lentOn 25 rfl)) <|
  m_cn (pc := 44) (ok_iload (m_dk dk_X7_lentOn 26 rfl) rfl) <|
  m_cn (pc := 46) (ok_iload_n (m_dk dk_X7_lentOn 27 rfl) rfl rfl) <|
  m_cn (pc := 47) (ok_icmpge (m_dk dk_X7_lentOn 28 rfl) rfl rfl) <|
  m_cn (pc := 50) (ok_iload_n (m_dk dk_X7_lentOn 29 rfl) rfl rfl) <|
  m_cn (pc := 51) (ok_iload (m_dk dk_X7_lentOn 30 rfl) rfl) <|
  m_cn (pc := 53) (ok_isub (m_dk dk_X7_lentOn 31 rfl) rfl) <|
  m_cn (pc := 54) (ok_goto (nx := 0) (m_dk dk_X7_lentOn 32 rfl) rfl) <|
  m_cn (pc := 57) (ok_iconst (m_dk dk_X7_lentOn 33 rfl) (by decide) rfl) <|
  m_cn (pc := 58) (ok_ireturn (nx := 0) rfl (m_dk dk_X7_lentOn 34 rfl)) <|
  m_nl
theorem mk_X7_lentOn {GP : m_G → Prop} {cds : Nat → Nat → m_Op} (h : cds 84 = m_lk cd_X7_lentOn) : m_MOK GP m_my cds 84 := ⟨RX7, false, [], by decide +kernel, rfl, (fun h9 => by first | rfl | cases h9), Or.inl ⟨rfl, rfl⟩, fun pc => by rw [h]; exact m_lk_ok _ ok_X7_lentOn pc⟩
def dl_X7_leads : List (Nat × Instr × Nat) := [(0, .aload_n 0, 1), (1, .getfield 83, 3), (4, .iload_n 2, 1), (5, .iaload, 1), (6, .istore_n 3, 1), (7, .aload_n 0, 1), (8, .getfield 7, 3), (11, .iload_n 1, 1), (12, .iaload, 1), (13, .iload_n 3, 1), (14, .if_icmp .ne 12, 3), (17, .aload_n 0, 1), (18, .getfield 13, 3), (21, .iload_n 1, 1), (22, .iaload, 1), (23, .goto 23, 3), (26, .aload_n 0, 1), (27, .getfield 13, 3), (30, .iload_n 1, 1), (31, .iaload, 1), (32, .iload_n 3, 1), (33, .if_icmp .ne 12, 3), (36, .aload_n 0, 1), (37, .getfield 7, 3), (40, .iload_n 1, 1), (41, .iaload, 1), (42, .goto 4, 3), (45, .iconst (-1), 1), (46, .istore 4, 2), (48, .iconst 0, 1), (49, .istore 5, 2), (51, .iload 5, 2), (53, .iload_n 2, 1), (54, .if_icmp .gt 29, 3), (57, .aload_n 0, 1), (58, .getfield 83, 3), (61, .iload 5, 2), (63, .iaload, 1), (64, .iload 4, 2), (66, .if_icmp .ne 7, 3), (69, .iconst (-1), 1), (70, .goto 5, 3), (73, .iload 4, 2), (75, .istore 4, 2), (77, .iinc 5 1, 3), (80, .goto (-29), 3), (83, .iload 4, 2), (85, .ireturn, 1)]
theorem dk_X7_leads : ∀ q ∈ dl_X7_leads, decode cX7_leads q.1 = .ok q.2 := by decide +kernel
def cd_X7_leads : List (Nat × m_Op) := [(0, o_aload 0 1), (1, o_getf 8 30 4), (4, o_iload 2 5), (5, o_iald 0 6), (6, o_istore 3 7), (7, o_aload 0 8), (8, o_getf 8 2 11), (11, o_iload 1 12), (12, o_iald 0 13), (13, o_iload 3 14), (14, o_icmpne 26 17), (17, o_aload 0 18), (18, o_getf 8 3 21), (21, o_iload 1 22), (22, o_iald 0 23), (23, o_goto 46), (26, o_aload 0 27), (27, o_getf 8 3 30), (30, o_iload 1 31), (31, o_iald 0 32), (32, o_iload 3 33), (33, o_icmpne 45 36), (36, o_aload 0 37), (37, o_getf 8 2 40), (40, o_iload 1 41), (41, o_iald 0 42), (42, o_goto 46), (45, o_const (-1) 46), (46, o_istore 4 48), (48, o_const (0) 49), (49, o_istore 5 51), (51, o_iload 5 53), (53, o_iload 2 54), (54, o_icmpgt 83 57), (57, o_aload 0 58), (58, o_getf 8 30 61), (61, o_iload 5 63), (63, o_iald 0 64), (64, o_iload 4 66), (66, o_icmpne 73 69), (69, o_const (-1) 70), (70, o_goto 75), (73, o_iload 4 75), (75, o_istore 4 77), (77, o_iinc 5 (1) 80), (80, o_goto 51), (83, o_iload 4 85), (85, o_ireturn)]
set_option maxRecDepth 20000 in
set_option maxHeartbeats 4000000 in
theorem ok_X7_leads {GP : m_G → Prop} : ∀ q ∈ cd_X7_leads, m_OK GP m_my (cX7_leads, 6, RX7, false, (some .int), []) q.1 q.2 :=
  m_cn (pc := 0) (ok_aload_n (m_dk dk_X7_leads 0 rfl) rfl rfl) <|
  m_cn (pc := 1) (ok_getf (k := 30) (hc0 := (rfl : vwCl[8]? = some (RX7, TX7, 36))) (by decide) in_X7 wd_819 (m_dk dk_X7_leads 1 rfl) rfl) <|
  m_cn (pc := 4) (ok_iload_n (m_dk dk_X7_leads 2 rfl) rfl rfl) <|
  m_cn (pc := 5) (ok_iald (m_dk dk_X7_leads 3 rfl) rfl) <|
  m_cn (pc := 6) (ok_istore_n (m_dk dk_X7_leads 4 rfl) rfl rfl) <|
  m_cn (pc := 7) (ok_aload_n (m_dk dk_X7_leads 5 rfl) rfl rfl) <|
  m_cn (pc := 8) (ok_getf (k := 2) (hc0 := (rfl : vwCl[8]? = some (RX7, TX7, 36))) (by decide) in_X7 wd_791 (m_dk dk_X7_leads 6 rfl) rfl) <|
  m_cn (pc := 11) (ok_iload_n (m_dk dk_X7_leads 7 rfl) rfl rfl) <|
  m_cn (pc := 12) (ok_iald (m_dk dk_X7_leads 8 rfl) rfl) <|
  m_cn (pc := 13) (ok_iload_n (m_dk dk_X7_leads 9 rfl) rfl rfl) <|
  m_cn (pc := 14) (ok_icmpne (m_dk dk_X7_leads 10 rfl) rfl rfl) <|
  m_cn (pc := 17) (ok_aload_n (m_dk dk_X7_leads 11 rfl) rfl rfl) <|
  m_cn (pc := 18) (ok_getf (k := 3) (hc0 := (rfl : vwCl[8]? = some (RX7, TX7, 36))) (by decide) in_X7 wd_792 (m_dk dk_X7_leads 12 rfl) rfl) <|
  m_cn (pc := 21) (ok_iload_n (m_dk dk_X7_leads 13 rfl) rfl rfl) <|
  m_cn (pc := 22) (ok_iald (m_dk dk_X7_leads 14 rfl) rfl) <|
  m_cn (pc := 23) (ok_goto (nx := 0) (m_dk dk_X7_leads 15 rfl) rfl) <|
  m_cn (pc := 26) (ok_aload_n (m_dk dk_X7_leads 16 rfl) rfl rfl) <|
  m_cn (pc := 27) (ok_getf (k := 3) (hc0 := (rfl : vwCl[8]? = some (RX7, TX7, 36))) (by decide) in_X7 wd_792 (m_dk dk_X7_leads 17 rfl) rfl) <|
  m_cn (pc := 30) (ok_iload_n (m_dk dk_X7_leads 18 rfl) rfl rfl) <|
  m_cn (pc := 31) (ok_iald (m_dk dk_X7_leads 19 rfl) rfl) <|
  m_cn (pc := 32) (ok_iload_n (m_dk dk_X7_leads 20 rfl) rfl rfl) <|
  m_cn (pc := 33) (ok_icmpne (m_dk dk_X7_leads 21 rfl) rfl rfl) <|
  m_cn (pc := 36) (ok_aload_n (m_dk dk_X7_leads 22 rfl) rfl rfl) <|
  m_cn (pc := 37) (ok_getf (k := 2) (hc0 := (rfl : vwCl[8]? = some (RX7, TX7, 36))) (by decide) in_X7 wd_791 (m_dk dk_X7_leads 23 rfl) rfl) <|
  m_cn (pc := 40) (ok_iload_n (m_dk dk_X7_leads 24 rfl) rfl rfl) <|
  m_cn (pc := 41) (ok_iald (m_dk dk_X7_leads 25 rfl) rfl) <|
  m_cn (pc := 42) (ok_goto (nx := 0) (m_dk dk_X7_leads 26 rfl) rfl) <|
  m_cn (pc := 45) (ok_iconst (m_dk dk_X7_leads 27 rfl) (by decide) rfl) <|
  m_cn (pc := 46) (ok_istore (m_dk dk_X7_leads 28 rfl) rfl) <|
  m_cn (pc := 48) (ok_iconst (m_dk dk_X7_leads 29 rfl) (by decide) rfl) <|
  m_cn (pc := 49) (ok_istore (m_dk dk_X7_leads 30 rfl) rfl) <|
  m_cn (pc := 51) (ok_iload (m_dk dk_X7_leads 31 rfl) rfl) <|
  m_cn (pc := 53) (ok_iload_n (m_dk dk_X7_leads 32 rfl) rfl rfl) <|
  m_cn (pc := 54) (ok_icmpgt (m_dk dk_X7_leads 33 rfl) rfl rfl) <|
  m_cn (pc := 57) (ok_aload_n (m_dk dk_X7_leads 34 rfl) rfl rfl) <|
  m_cn (pc := 58) (ok_getf (k := 30) (hc0 := (rfl : vwCl[8]? = some (RX7, TX7, 36))) (by decide) in_X7 wd_819 (m_dk dk_X7_leads 35 rfl) rfl) <|
  m_cn (pc := 61) (ok_iload (m_dk dk_X7_leads 36 rfl) rfl) <|
  m_cn (pc := 63) (ok_iald (m_dk dk_X7_leads 37 rfl) rfl) <|
  m_cn (pc := 64) (ok_iload (m_dk dk_X7_leads 38 rfl) rfl) <|
  m_cn (pc := 66) (ok_icmpne (m_dk dk_X7_leads 39 rfl) rfl rfl) <|
  m_cn (pc := 69) (ok_iconst (m_dk dk_X7_leads 40 rfl) (by decide) rfl) <|
  m_cn (pc := 70) (ok_goto (nx := 0) (m_dk dk_X7_leads 41 rfl) rfl) <|
  m_cn (pc := 73) (ok_iload (m_dk dk_X7_leads 42 rfl) rfl) <|
  m_cn (pc := 75) (ok_istore (m_dk dk_X7_leads 43 rfl) rfl) <|
  m_cn (pc := 77) (ok_iinc (m_dk dk_X7_leads 44 rfl) (by decide) rfl) <|
  m_cn (pc := 80) (ok_goto (nx := 0) (m_dk dk_X7_leads 45 rfl) rfl) <|
  m_cn (pc := 83) (ok_iload (m_dk dk_X7_leads 46 rfl) rfl) <|
  m_cn (pc := 85) (ok_ireturn (nx := 0) rfl (m_dk dk_X7_leads 47 rfl)) <|
  m_nl
theorem mk_X7_leads {GP : m_G → Prop} {cds : Nat → Nat → m_Op} (h : cds 85 = m_lk cd_X7_leads) : m_MOK GP m_my cds 85 := ⟨RX7, false, [], by decide +kernel, rfl, (fun h9 => by first | rfl | cases h9), Or.inl ⟨rfl, rfl⟩, fun pc => by rw [h]; exact m_lk_ok _ ok_X7_leads pc⟩
def dl_X7_findsWay : List (Nat × Instr × Nat) := [(0, .aload_n 0, 1), (1, .iconst 0, 1), (2, .putfield 148, 3), (5, .aload_n 0, 1), (6, .iconst 0, 1), (7, .putfield 151, 3), (10, .aload_n 0, 1), (11, .iconst 0, 1), (12, .putfield 154, 3), (15, .aload_n 0, 1), (16, .getfield 83, 3), (19, .iconst 0, 1), (20, .aload_n 0, 1), (21, .getfield 22, 3), (24, .iload_n 1, 1), (25, .iaload, 1), (26, .iastore, 1), (27, .aload_n 0, 1), (28, .getfield 80, 3), (31, .iconst 0, 1), (32, .iconst (-1), 1), (33, .iastore, 1), (34, .iconst 0, 1), (35, .istore_n 3, 1), (36, .iload_n 3, 1), (37, .ifCond .lt 124, 3), (40, .aload_n 0, 1), (41, .getfield 80, 3), (44, .iload_n 3, 1), (45, .dup2, 1), (46, .iaload, 1), (47, .iconst 1, 1), (48, .iadd, 1), (49, .iastore, 1), (50, .aload_n 0, 1), (51, .getfield 80, 3), (54, .iload_n 3, 1), (55, .iaload, 1), (56, .aload_n 0, 1), (57, .getfield 96, 3), (60, .if_icmp .lt 9, 3), (63, .iinc 3 (-1), 3), (66, .goto (-30), 3), (69, .aload_n 0, 1), (70, .aload_n 0, 1), (71, .getfield 80, 3), (74, .iload_n 3, 1), (75, .iaload, 1), (76, .iload_n 3, 1), (77, .invokevirtual 157, 3), (80, .istore 4, 2), (82, .iload 4, 2), (84, .iconst (-1), 1), (85, .if_icmp .eq 73, 3), (88, .aload_n 0, 1), (89, .aload_n 0, 1), (90, .getfield 80, 3), (93, .iload_n 3, 1), (94, .iaload, 1), (95, .aload_n 0, 1), (96, .getfield 19, 3), (99, .iload_n 1, 1), (100, .iaload, 1), (101, .aload_n 0, 1), (102, .getfield 28, 3), (105, .iload_n 1, 1), (106, .iaload, 1), (107, .iload_n 2, 1), (108, .invokevirtual 161, 3), (111, .iconst (-1), 1), (112, .if_icmp .eq 46, 3), (115, .aload_n 0, 1), (116, .getfield 83, 3), (119, .iload_n 3, 1), (120, .iconst 1, 1), (121, .iadd, 1), (122, .iload 4, 2), (124, .iastore, 1), (125, .iload 4, 2), (127, .aload_n 0, 1), (128, .getfield 25, 3), (131, .iload_n 1, 1), (132, .iaload, 1), (133, .if_icmp .ne 15, 3), (136, .aload_n 0, 1), (137, .iload_n 1, 1), (138, .iload_n 3, 1), (139, .iconst 1, 1), (140, .iadd, 1), (141, .iload_n 2, 1), (142, .invokevirtual 165, 3), (145, .goto 13, 3), (148, .iinc 3 1, 3), (151, .aload_n 0, 1), (152, .getfield 80, 3), (155, .iload_n 3, 1), (156, .iconst (-1), 1), (157, .iastore, 1), (158, .goto (-122), 3), (161, .aload_n 0, 1), (162, .getfield 148, 3), (165, .ifCond .le 7, 3), (168, .iconst 1, 1), (169, .goto 4, 3), (172, .iconst 0, 1), (173, .ireturn, 1)]
theorem dk_X7_findsWay : ∀ q ∈ dl_X7_findsWay, decode cX7_findsWay q.1 = .ok q.2 := by decide +kernel
def cd_X7_findsWay : List (Nat × m_Op) := [(0, o_aload 0 1), (1, o_const (0) 2), (2, o_puti 8 32 5), (5, o_aload 0 6), (6, o_const (0) 7), (7, o_puti 8 33 10), (10, o_aload 0 11), (11, o_const (0) 12), (12, o_puti 8 34 15), (15, o_aload 0 16), (16, o_getf 8 30 19), (19, o_const (0) 20), (20, o_aload 0 21), (21, o_getf 8 7 24), (24, o_iload 1 25), (25, o_iald 0 26), (26, o_iast 27), (27, o_aload 0 28), (28, o_getf 8 29 31), (31, o_const (0) 32), (32, o_const (-1) 33), (33, o_iast 34), (34, o_const (0) 35), (35, o_istore 3 36), (36, o_iload 3 37), (37, o_iflt 161 40), (40, o_aload 0 41), (41, o_getf 8 29 44), (44, o_iload 3 45), (45, o_dup2 46), (46, o_iald 0 47), (47, o_const (1) 48), (48, o_bin (fun x y => x + y) 49), (49, o_iast 50), (50, o_aload 0 51), (51, o_getf 8 29 54), (54, o_iload 3 55), (55, o_iald 0 56), (56, o_aload 0 57), (57, o_getf 8 1 60), (60, o_icmplt 69 63), (63, o_iinc 3 (-1) 66), (66, o_goto 36), (69, o_aload 0 70), (70, o_aload 0 71), (71, o_getf 8 29 74), (74, o_iload 3 75), (75, o_iald 0 76), (76, o_iload 3 77), (77, o_callv 8 85 3 0 0 80), (80, o_istore 4 82), (82, o_iload 4 84), (84, o_const (-1) 85), (85, o_icmpeq 158 88), (88, o_aload 0 89), (89, o_aload 0 90), (90, o_getf 8 29 93), (93, o_iload 3 94), (94, o_iald 0 95), (95, o_aload 0 96), (96, o_getf 8 6 99), (99, o_iload 1 100), (100, o_iald 0 101), (101, o_aload 0 102), (102, o_getf 8 9 105), (105, o_iload 1 106), (106, o_iald 0 107), (107, o_iload 2 108), (108, o_callv 8 84 5 0 0 111), (111, o_const (-1) 112), (112, o_icmpeq 158 115), (115, o_aload 0 116), (116, o_getf 8 30 119), (119, o_iload 3 120), (120, o_const (1) 121), (121, o_bin (fun x y => x + y) 122), (122, o_iload 4 124), (124, o_iast 125), (125, o_iload 4 127), (127, o_aload 0 128), (128, o_getf 8 8 131), (131, o_iload 1 132), (132, o_iald 0 133), (133, o_icmpne 148 136), (136, o_aload 0 137), (137, o_iload 1 138), (138, o_iload 3 139), (139, o_const (1) 140), (140, o_bin (fun x y => x + y) 141), (141, o_iload 2 142), (142, o_callv 8 87 4 0 0 145), (145, o_goto 158), (148, o_iinc 3 (1) 151), (151, o_aload 0 152), (152, o_getf 8 29 155), (155, o_iload 3 156), (156, o_const (-1) 157), (157, o_iast 158), (158, o_goto 36), (161, o_aload 0 162), (162, o_getf 8 32 165), (165, o_ifle 172 168), (168, o_const (1) 169), (169, o_goto 173), (172, o_const (0) 173), (173, o_zreturn)]
set_option maxRecDepth 20000 in
set_option maxHeartbeats 4000000 in
theorem ok_X7_findsWay {GP : m_G → Prop} : ∀ q ∈ cd_X7_findsWay, m_OK GP m_my (cX7_findsWay, 5, RX7, false, (some .boolean), []) q.1 q.2 :=
  m_cn (pc := 0) (ok_aload_n (m_dk dk_X7_findsWay 0 rfl) rfl rfl) <|
  m_cn (pc := 1) (ok_iconst (m_dk dk_X7_findsWay 1 rfl) (by decide) rfl) <|
  m_cn (pc := 2) (ok_puti (k := 32) (hc0 := (rfl : vwCl[8]? = some (RX7, TX7, 36))) (by decide) in_X7 wd_821 tyX7 tyX7_ok nmX7 rfl (tyX7_ok 32 (by decide)) (m_dk dk_X7_findsWay 2 rfl) rfl) <|
  m_cn (pc := 5) (ok_aload_n (m_dk dk_X7_findsWay 3 rfl) rfl rfl) <|
  m_cn (pc := 6) (ok_iconst (m_dk dk_X7_findsWay 4 rfl) (by decide) rfl) <|
  m_cn (pc := 7) (ok_puti (k := 33) (hc0 := (rfl : vwCl[8]? = some (RX7, TX7, 36))) (by decide) in_X7 wd_822 tyX7 tyX7_ok nmX7 rfl (tyX7_ok 33 (by decide)) (m_dk dk_X7_findsWay 5 rfl) rfl) <|
  m_cn (pc := 10) (ok_aload_n (m_dk dk_X7_findsWay 6 rfl) rfl rfl) <|
  m_cn (pc := 11) (ok_iconst (m_dk dk_X7_findsWay 7 rfl) (by decide) rfl) <|
  m_cn (pc := 12) (ok_puti (k := 34) (hc0 := (rfl : vwCl[8]? = some (RX7, TX7, 36))) (by decide) in_X7 wd_823 tyX7 tyX7_ok nmX7 rfl (tyX7_ok 34 (by decide)) (m_dk dk_X7_findsWay 8 rfl) rfl) <|
  m_cn (pc := 15) (ok_aload_n (m_dk dk_X7_findsWay 9 rfl) rfl rfl) <|
  m_cn (pc := 16) (ok_getf (k := 30) (hc0 := (rfl : vwCl[8]? = some (RX7, TX7, 36))) (by decide) in_X7 wd_819 (m_dk dk_X7_findsWay 10 rfl) rfl) <|
  m_cn (pc := 19) (ok_iconst (m_dk dk_X7_findsWay 11 rfl) (by decide) rfl) <|
  m_cn (pc := 20) (ok_aload_n (m_dk dk_X7_findsWay 12 rfl) rfl rfl) <|
  m_cn (pc := 21) (ok_getf (k := 7) (hc0 := (rfl : vwCl[8]? = some (RX7, TX7, 36))) (by decide) in_X7 wd_796 (m_dk dk_X7_findsWay 13 rfl) rfl) <|
  m_cn (pc := 24) (ok_iload_n (m_dk dk_X7_findsWay 14 rfl) rfl rfl) <|
  m_cn (pc := 25) (ok_iald (m_dk dk_X7_findsWay 15 rfl) rfl) <|
  m_cn (pc := 26) (ok_iast (m_dk dk_X7_findsWay 16 rfl) rfl) <|
  m_cn (pc := 27) (ok_aload_n (m_dk dk_X7_findsWay 17 rfl) rfl rfl) <|
  m_cn (pc := 28) (ok_getf (k := 29) (hc0 := (rfl : vwCl[8]? = some (RX7, TX7, 36))) (by decide) in_X7 wd_818 (m_dk dk_X7_findsWay 18 rfl) rfl) <|
  m_cn (pc := 31) (ok_iconst (m_dk dk_X7_findsWay 19 rfl) (by decide) rfl) <|
  m_cn (pc := 32) (ok_iconst (m_dk dk_X7_findsWay 20 rfl) (by decide) rfl) <|
  m_cn (pc := 33) (ok_iast (m_dk dk_X7_findsWay 21 rfl) rfl) <|
  m_cn (pc := 34) (ok_iconst (m_dk dk_X7_findsWay 22 rfl) (by decide) rfl) <|
  m_cn (pc := 35) (ok_istore_n (m_dk dk_X7_findsWay 23 rfl) rfl rfl) <|
  m_cn (pc := 36) (ok_iload_n (m_dk dk_X7_findsWay 24 rfl) rfl rfl) <|
  m_cn (pc := 37) (ok_iflt (m_dk dk_X7_findsWay 25 rfl) rfl rfl) <|
  m_cn (pc := 40) (ok_aload_n (m_dk dk_X7_findsWay 26 rfl) rfl rfl) <|
  m_cn (pc := 41) (ok_getf (k := 29) (hc0 := (rfl : vwCl[8]? = some (RX7, TX7, 36))) (by decide) in_X7 wd_818 (m_dk dk_X7_findsWay 27 rfl) rfl) <|
  m_cn (pc := 44) (ok_iload_n (m_dk dk_X7_findsWay 28 rfl) rfl rfl) <|
  m_cn (pc := 45) (ok_dup2 (m_dk dk_X7_findsWay 29 rfl) rfl) <|
  m_cn (pc := 46) (ok_iald (m_dk dk_X7_findsWay 30 rfl) rfl) <|
  m_cn (pc := 47) (ok_iconst (m_dk dk_X7_findsWay 31 rfl) (by decide) rfl) <|
  m_cn (pc := 48) (ok_iadd (m_dk dk_X7_findsWay 32 rfl) rfl) <|
  m_cn (pc := 49) (ok_iast (m_dk dk_X7_findsWay 33 rfl) rfl) <|
  m_cn (pc := 50) (ok_aload_n (m_dk dk_X7_findsWay 34 rfl) rfl rfl) <|
  m_cn (pc := 51) (ok_getf (k := 29) (hc0 := (rfl : vwCl[8]? = some (RX7, TX7, 36))) (by decide) in_X7 wd_818 (m_dk dk_X7_findsWay 35 rfl) rfl) <|
  m_cn (pc := 54) (ok_iload_n (m_dk dk_X7_findsWay 36 rfl) rfl rfl) <|
  m_cn (pc := 55) (ok_iald (m_dk dk_X7_findsWay 37 rfl) rfl) <|
  m_cn (pc := 56) (ok_aload_n (m_dk dk_X7_findsWay 38 rfl) rfl rfl) <|
  m_cn (pc := 57) (ok_getf (k := 1) (hc0 := (rfl : vwCl[8]? = some (RX7, TX7, 36))) (by decide) in_X7 wd_790 (m_dk dk_X7_findsWay 39 rfl) rfl) <|
  m_cn (pc := 60) (ok_icmplt (m_dk dk_X7_findsWay 40 rfl) rfl rfl) <|
  m_cn (pc := 63) (ok_iinc (m_dk dk_X7_findsWay 41 rfl) (by decide) rfl) <|
  m_cn (pc := 66) (ok_goto (nx := 0) (m_dk dk_X7_findsWay 42 rfl) rfl) <|
  m_cn (pc := 69) (ok_aload_n (m_dk dk_X7_findsWay 43 rfl) rfl rfl) <|
  m_cn (pc := 70) (ok_aload_n (m_dk dk_X7_findsWay 44 rfl) rfl rfl) <|
  m_cn (pc := 71) (ok_getf (k := 29) (hc0 := (rfl : vwCl[8]? = some (RX7, TX7, 36))) (by decide) in_X7 wd_818 (m_dk dk_X7_findsWay 45 rfl) rfl) <|
  m_cn (pc := 74) (ok_iload_n (m_dk dk_X7_findsWay 46 rfl) rfl rfl) <|
  m_cn (pc := 75) (ok_iald (m_dk dk_X7_findsWay 47 rfl) rfl) <|
  m_cn (pc := 76) (ok_iload_n (m_dk dk_X7_findsWay 48 rfl) rfl rfl) <|
  m_cn (pc := 77) (ok_callv (T := mt_X7_leads) my_X7_leads rfl cw_X7_leads rfl rfl (by decide) (r9 := (RX7, TX7, 36)) rfl rfl wd_992 wd_994 (m_wk 32 (by decide +kernel) (by decide +kernel)) wd_6 (by decide +kernel) (m_dk dk_X7_findsWay 49 rfl) rfl) <|
  m_cn (pc := 80) (ok_istore (m_dk dk_X7_findsWay 50 rfl) rfl) <|
  m_cn (pc := 82) (ok_iload (m_dk dk_X7_findsWay 51 rfl) rfl) <|
  m_cn (pc := 84) (ok_iconst (m_dk dk_X7_findsWay 52 rfl) (by decide) rfl) <|
  m_cn (pc := 85) (ok_icmpeq (m_dk dk_X7_findsWay 53 rfl) rfl rfl) <|
  m_cn (pc := 88) (ok_aload_n (m_dk dk_X7_findsWay 54 rfl) rfl rfl) <|
  m_cn (pc := 89) (ok_aload_n (m_dk dk_X7_findsWay 55 rfl) rfl rfl) <|
  m_cn (pc := 90) (ok_getf (k := 29) (hc0 := (rfl : vwCl[8]? = some (RX7, TX7, 36))) (by decide) in_X7 wd_818 (m_dk dk_X7_findsWay 56 rfl) rfl) <|
  m_cn (pc := 93) (ok_iload_n (m_dk dk_X7_findsWay 57 rfl) rfl rfl) <|
  m_cn (pc := 94) (ok_iald (m_dk dk_X7_findsWay 58 rfl) rfl) <|
  m_cn (pc := 95) (ok_aload_n (m_dk dk_X7_findsWay 59 rfl) rfl rfl) <|
  m_cn (pc := 96) (ok_getf (k := 6) (hc0 := (rfl : vwCl[8]? = some (RX7, TX7, 36))) (by decide) in_X7 wd_795 (m_dk dk_X7_findsWay 60 rfl) rfl) <|
  m_cn (pc := 99) (ok_iload_n (m_dk dk_X7_findsWay 61 rfl) rfl rfl) <|
  m_cn (pc := 100) (ok_iald (m_dk dk_X7_findsWay 62 rfl) rfl) <|
  m_cn (pc := 101) (ok_aload_n (m_dk dk_X7_findsWay 63 rfl) rfl rfl) <|
  m_cn (pc := 102) (ok_getf (k := 9) (hc0 := (rfl : vwCl[8]? = some (RX7, TX7, 36))) (by decide) in_X7 wd_798 (m_dk dk_X7_findsWay 64 rfl) rfl) <|
  m_cn (pc := 105) (ok_iload_n (m_dk dk_X7_findsWay 65 rfl) rfl rfl) <|
  m_cn (pc := 106) (ok_iald (m_dk dk_X7_findsWay 66 rfl) rfl) <|
  m_cn (pc := 107) (ok_iload_n (m_dk dk_X7_findsWay 67 rfl) rfl rfl) <|
  m_cn (pc := 108) (ok_callv (T := mt_X7_lentOn) my_X7_lentOn rfl cw_X7_lentOn rfl rfl (by decide) (r9 := (RX7, TX7, 36)) rfl rfl wd_996 wd_998 (m_wk 33 (by decide +kernel) (by decide +kernel)) wd_6 (by decide +kernel) (m_dk dk_X7_findsWay 68 rfl) rfl) <|
  m_cn (pc := 111) (ok_iconst (m_dk dk_X7_findsWay 69 rfl) (by decide) rfl) <|
  m_cn (pc := 112) (ok_icmpeq (m_dk dk_X7_findsWay 70 rfl) rfl rfl) <|
  m_cn (pc := 115) (ok_aload_n (m_dk dk_X7_findsWay 71 rfl) rfl rfl) <|
  m_cn (pc := 116) (ok_getf (k := 30) (hc0 := (rfl : vwCl[8]? = some (RX7, TX7, 36))) (by decide) in_X7 wd_819 (m_dk dk_X7_findsWay 72 rfl) rfl) <|
  m_cn (pc := 119) (ok_iload_n (m_dk dk_X7_findsWay 73 rfl) rfl rfl) <|
  m_cn (pc := 120) (ok_iconst (m_dk dk_X7_findsWay 74 rfl) (by decide) rfl) <|
  m_cn (pc := 121) (ok_iadd (m_dk dk_X7_findsWay 75 rfl) rfl) <|
  m_cn (pc := 122) (ok_iload (m_dk dk_X7_findsWay 76 rfl) rfl) <|
  m_cn (pc := 124) (ok_iast (m_dk dk_X7_findsWay 77 rfl) rfl) <|
  m_cn (pc := 125) (ok_iload (m_dk dk_X7_findsWay 78 rfl) rfl) <|
  m_cn (pc := 127) (ok_aload_n (m_dk dk_X7_findsWay 79 rfl) rfl rfl) <|
  m_cn (pc := 128) (ok_getf (k := 8) (hc0 := (rfl : vwCl[8]? = some (RX7, TX7, 36))) (by decide) in_X7 wd_797 (m_dk dk_X7_findsWay 80 rfl) rfl) <|
  m_cn (pc := 131) (ok_iload_n (m_dk dk_X7_findsWay 81 rfl) rfl rfl) <|
  m_cn (pc := 132) (ok_iald (m_dk dk_X7_findsWay 82 rfl) rfl) <|
  m_cn (pc := 133) (ok_icmpne (m_dk dk_X7_findsWay 83 rfl) rfl rfl) <|
  m_cn (pc := 136) (ok_aload_n (m_dk dk_X7_findsWay 84 rfl) rfl rfl) <|
  m_cn (pc := 137) (ok_iload_n (m_dk dk_X7_findsWay 85 rfl) rfl rfl) <|
  m_cn (pc := 138) (ok_iload_n (m_dk dk_X7_findsWay 86 rfl) rfl rfl) <|
  m_cn (pc := 139) (ok_iconst (m_dk dk_X7_findsWay 87 rfl) (by decide) rfl) <|
  m_cn (pc := 140) (ok_iadd (m_dk dk_X7_findsWay 88 rfl) rfl) <|
  m_cn (pc := 141) (ok_iload_n (m_dk dk_X7_findsWay 89 rfl) rfl rfl) <|
  m_cn (pc := 142) (ok_callv (T := mt_X7_looksAt) my_X7_looksAt rfl cw_X7_looksAt rfl rfl (by decide) (r9 := (RX7, TX7, 36)) rfl rfl wd_1004 wd_1006 (m_wk 35 (by decide +kernel) (by decide +kernel)) wd_6 (by decide +kernel) (m_dk dk_X7_findsWay 90 rfl) rfl) <|
  m_cn (pc := 145) (ok_goto (nx := 0) (m_dk dk_X7_findsWay 91 rfl) rfl) <|
  m_cn (pc := 148) (ok_iinc (m_dk dk_X7_findsWay 92 rfl) (by decide) rfl) <|
  m_cn (pc := 151) (ok_aload_n (m_dk dk_X7_findsWay 93 rfl) rfl rfl) <|
  m_cn (pc := 152) (ok_getf (k := 29) (hc0 := (rfl : vwCl[8]? = some (RX7, TX7, 36))) (by decide) in_X7 wd_818 (m_dk dk_X7_findsWay 94 rfl) rfl) <|
  m_cn (pc := 155) (ok_iload_n (m_dk dk_X7_findsWay 95 rfl) rfl rfl) <|
  m_cn (pc := 156) (ok_iconst (m_dk dk_X7_findsWay 96 rfl) (by decide) rfl) <|
  m_cn (pc := 157) (ok_iast (m_dk dk_X7_findsWay 97 rfl) rfl) <|
  m_cn (pc := 158) (ok_goto (nx := 0) (m_dk dk_X7_findsWay 98 rfl) rfl) <|
  m_cn (pc := 161) (ok_aload_n (m_dk dk_X7_findsWay 99 rfl) rfl rfl) <|
  m_cn (pc := 162) (ok_getf (k := 32) (hc0 := (rfl : vwCl[8]? = some (RX7, TX7, 36))) (by decide) in_X7 wd_821 (m_dk dk_X7_findsWay 100 rfl) rfl) <|
  m_cn (pc := 165) (ok_ifle (m_dk dk_X7_findsWay 101 rfl) rfl rfl) <|
  m_cn (pc := 168) (ok_iconst (m_dk dk_X7_findsWay 102 rfl) (by decide) rfl) <|
  m_cn (pc := 169) (ok_goto (nx := 0) (m_dk dk_X7_findsWay 103 rfl) rfl) <|
  m_cn (pc := 172) (ok_iconst (m_dk dk_X7_findsWay 104 rfl) (by decide) rfl) <|
  m_cn (pc := 173) (ok_zreturn (nx := 0) rfl (m_dk dk_X7_findsWay 105 rfl)) <|
  m_nl
theorem mk_X7_findsWay {GP : m_G → Prop} {cds : Nat → Nat → m_Op} (h : cds 86 = m_lk cd_X7_findsWay) : m_MOK GP m_my cds 86 := ⟨RX7, false, [], by decide +kernel, rfl, (fun h9 => by first | rfl | cases h9), Or.inl ⟨rfl, rfl⟩, fun pc => by rw [h]; exact m_lk_ok _ ok_X7_findsWay pc⟩
def dl_X7_looksAt : List (Nat × Instr × Nat) := [(0, .iconst 0, 1), (1, .istore 4, 2), (3, .iconst 0, 1), (4, .istore 5, 2), (6, .iconst 0, 1), (7, .istore 6, 2), (9, .iload 6, 2), (11, .iload_n 2, 1), (12, .if_icmp .ge 54, 3), (15, .iload 4, 2), (17, .aload_n 0, 1), (18, .aload_n 0, 1), (19, .getfield 80, 3), (22, .iload 6, 2), (24, .iaload, 1), (25, .aload_n 0, 1), (26, .getfield 19, 3), (29, .iload_n 1, 1), (30, .iaload, 1), (31, .aload_n 0, 1), (32, .getfield 28, 3), (35, .iload_n 1, 1), (36, .iaload, 1), (37, .iload_n 3, 1), (38, .invokevirtual 161, 3), (41, .iadd, 1), (42, .istore 4, 2), (44, .iload 5, 2), (46, .aload_n 0, 1), (47, .aload_n 0, 1), (48, .getfield 80, 3), (51, .iload 6, 2), (53, .iaload, 1), (54, .invokevirtual 123, 3), (57, .iadd, 1), (58, .istore 5, 2), (60, .iinc 6 1, 3), (63, .goto (-54), 3), (66, .aload_n 0, 1), (67, .getfield 148, 3), (70, .ifCond .eq 30, 3), (73, .iload 4, 2), (75, .aload_n 0, 1), (76, .getfield 151, 3), (79, .if_icmp .lt 21, 3), (82, .iload 4, 2), (84, .aload_n 0, 1), (85, .getfield 151, 3), (88, .if_icmp .ne 58, 3), (91, .iload 5, 2), (93, .aload_n 0, 1), (94, .getfield 154, 3), (97, .if_icmp .ge 49, 3), (100, .aload_n 0, 1), (101, .iload_n 2, 1), (102, .putfield 148, 3), (105, .aload_n 0, 1), (106, .iload 4, 2), (108, .putfield 151, 3), (111, .aload_n 0, 1), (112, .iload 5, 2), (114, .putfield 154, 3), (117, .iconst 0, 1), (118, .istore 6, 2), (120, .iload 6, 2), (122, .iload_n 2, 1), (123, .if_icmp .ge 23, 3), (126, .aload_n 0, 1), (127, .getfield 86, 3), (130, .iload 6, 2), (132, .aload_n 0, 1), (133, .getfield 80, 3), (136, .iload 6, 2), (138, .iaload, 1), (139, .iastore, 1), (140, .iinc 6 1, 3), (143, .goto (-23), 3), (146, .return_, 1)]
theorem dk_X7_looksAt : ∀ q ∈ dl_X7_looksAt, decode cX7_looksAt q.1 = .ok q.2 := by decide +kernel
def cd_X7_looksAt : List (Nat × m_Op) := [(0, o_const (0) 1), (1, o_istore 4 3), (3, o_const (0) 4), (4, o_istore 5 6), (6, o_const (0) 7), (7, o_istore 6 9), (9, o_iload 6 11), (11, o_iload 2 12), (12, o_icmpge 66 15), (15, o_iload 4 17), (17, o_aload 0 18), (18, o_aload 0 19), (19, o_getf 8 29 22), (22, o_iload 6 24), (24, o_iald 0 25), (25, o_aload 0 26), (26, o_getf 8 6 29), (29, o_iload 1 30), (30, o_iald 0 31), (31, o_aload 0 32), (32, o_getf 8 9 35), (35, o_iload 1 36), (36, o_iald 0 37), (37, o_iload 3 38), (38, o_callv 8 84 5 0 0 41), (41, o_bin (fun x y => x + y) 42), (42, o_istore 4 44), (44, o_iload 5 46), (46, o_aload 0 47), (47, o_aload 0 48), (48, o_getf 8 29 51), (51, o_iload 6 53), (53, o_iald 0 54), (54, o_callv 8 71 2 0 0 57), (57, o_bin (fun x y => x + y) 58), (58, o_istore 5 60), (60, o_iinc 6 (1) 63), (63, o_goto 9), (66, o_aload 0 67), (67, o_getf 8 32 70), (70, o_ifeq 100 73), (73, o_iload 4 75), (75, o_aload 0 76), (76, o_getf 8 33 79), (79, o_icmplt 100 82), (82, o_iload 4 84), (84, o_aload 0 85), (85, o_getf 8 33 88), (88, o_icmpne 146 91), (91, o_iload 5 93), (93, o_aload 0 94), (94, o_getf 8 34 97), (97, o_icmpge 146 100), (100, o_aload 0 101), (101, o_iload 2 102), (102, o_puti 8 32 105), (105, o_aload 0 106), (106, o_iload 4 108), (108, o_puti 8 33 111), (111, o_aload 0 112), (112, o_iload 5 114), (114, o_puti 8 34 117), (117, o_const (0) 118), (118, o_istore 6 120), (120, o_iload 6 122), (122, o_iload 2 123), (123, o_icmpge 146 126), (126, o_aload 0 127), (127, o_getf 8 31 130), (130, o_iload 6 132), (132, o_aload 0 133), (133, o_getf 8 29 136), (136, o_iload 6 138), (138, o_iald 0 139), (139, o_iast 140), (140, o_iinc 6 (1) 143), (143, o_goto 120), (146, o_return)]
set_option maxRecDepth 20000 in
set_option maxHeartbeats 4000000 in
theorem ok_X7_looksAt {GP : m_G → Prop} : ∀ q ∈ cd_X7_looksAt, m_OK GP m_my (cX7_looksAt, 7, RX7, false, none, []) q.1 q.2 :=
  m_cn (pc := 0) (ok_iconst (m_dk dk_X7_looksAt 0 rfl) (by decide) rfl) <|
  m_cn (pc := 1) (ok_istore (m_dk dk_X7_looksAt 1 rfl) rfl) <|
  m_cn (pc := 3) (ok_iconst (m_dk dk_X7_looksAt 2 rfl) (by decide) rfl) <|
  m_cn (pc := 4) (ok_istore (m_dk dk_X7_looksAt 3 rfl) rfl) <|
  m_cn (pc := 6) (ok_iconst (m_dk dk_X7_looksAt 4 rfl) (by decide) rfl) <|
  m_cn (pc := 7) (ok_istore (m_dk dk_X7_looksAt 5 rfl) rfl) <|
  m_cn (pc := 9) (ok_iload (m_dk dk_X7_looksAt 6 rfl) rfl) <|
  m_cn (pc := 11) (ok_iload_n (m_dk dk_X7_looksAt 7 rfl) rfl rfl) <|
  m_cn (pc := 12) (ok_icmpge (m_dk dk_X7_looksAt 8 rfl) rfl rfl) <|
  m_cn (pc := 15) (ok_iload (m_dk dk_X7_looksAt 9 rfl) rfl) <|
  m_cn (pc := 17) (ok_aload_n (m_dk dk_X7_looksAt 10 rfl) rfl rfl) <|
  m_cn (pc := 18) (ok_aload_n (m_dk dk_X7_looksAt 11 rfl) rfl rfl) <|
  m_cn (pc := 19) (ok_getf (k := 29) (hc0 := (rfl : vwCl[8]? = some (RX7, TX7, 36))) (by decide) in_X7 wd_818 (m_dk dk_X7_looksAt 12 rfl) rfl) <|
  m_cn (pc := 22) (ok_iload (m_dk dk_X7_looksAt 13 rfl) rfl) <|
  m_cn (pc := 24) (ok_iald (m_dk dk_X7_looksAt 14 rfl) rfl) <|
  m_cn (pc := 25) (ok_aload_n (m_dk dk_X7_looksAt 15 rfl) rfl rfl) <|
  m_cn (pc := 26) (ok_getf (k := 6) (hc0 := (rfl : vwCl[8]? = some (RX7, TX7, 36))) (by decide) in_X7 wd_795 (m_dk dk_X7_looksAt 16 rfl) rfl) <|
  m_cn (pc := 29) (ok_iload_n (m_dk dk_X7_looksAt 17 rfl) rfl rfl) <|
  m_cn (pc := 30) (ok_iald (m_dk dk_X7_looksAt 18 rfl) rfl) <|
  m_cn (pc := 31) (ok_aload_n (m_dk dk_X7_looksAt 19 rfl) rfl rfl) <|
  m_cn (pc := 32) (ok_getf (k := 9) (hc0 := (rfl : vwCl[8]? = some (RX7, TX7, 36))) (by decide) in_X7 wd_798 (m_dk dk_X7_looksAt 20 rfl) rfl) <|
  m_cn (pc := 35) (ok_iload_n (m_dk dk_X7_looksAt 21 rfl) rfl rfl) <|
  m_cn (pc := 36) (ok_iald (m_dk dk_X7_looksAt 22 rfl) rfl) <|
  m_cn (pc := 37) (ok_iload_n (m_dk dk_X7_looksAt 23 rfl) rfl rfl) <|
  m_cn (pc := 38) (ok_callv (T := mt_X7_lentOn) my_X7_lentOn rfl cw_X7_lentOn rfl rfl (by decide) (r9 := (RX7, TX7, 36)) rfl rfl wd_996 wd_998 (m_wk 33 (by decide +kernel) (by decide +kernel)) wd_6 (by decide +kernel) (m_dk dk_X7_looksAt 24 rfl) rfl) <|
  m_cn (pc := 41) (ok_iadd (m_dk dk_X7_looksAt 25 rfl) rfl) <|
  m_cn (pc := 42) (ok_istore (m_dk dk_X7_looksAt 26 rfl) rfl) <|
  m_cn (pc := 44) (ok_iload (m_dk dk_X7_looksAt 27 rfl) rfl) <|
  m_cn (pc := 46) (ok_aload_n (m_dk dk_X7_looksAt 28 rfl) rfl rfl) <|
  m_cn (pc := 47) (ok_aload_n (m_dk dk_X7_looksAt 29 rfl) rfl rfl) <|
  m_cn (pc := 48) (ok_getf (k := 29) (hc0 := (rfl : vwCl[8]? = some (RX7, TX7, 36))) (by decide) in_X7 wd_818 (m_dk dk_X7_looksAt 30 rfl) rfl) <|
  m_cn (pc := 51) (ok_iload (m_dk dk_X7_looksAt 31 rfl) rfl) <|
  m_cn (pc := 53) (ok_iald (m_dk dk_X7_looksAt 32 rfl) rfl) <|
  m_cn (pc := 54) (ok_callv (T := mt_X7_length) my_X7_length rfl cw_X7_length rfl rfl (by decide) (r9 := (RX7, TX7, 36)) rfl rfl wd_936 wd_938 (m_wk 23 (by decide +kernel) (by decide +kernel)) wd_6 (by decide +kernel) (m_dk dk_X7_looksAt 33 rfl) rfl) <|
  m_cn (pc := 57) (ok_iadd (m_dk dk_X7_looksAt 34 rfl) rfl) <|
  m_cn (pc := 58) (ok_istore (m_dk dk_X7_looksAt 35 rfl) rfl) <|
  m_cn (pc := 60) (ok_iinc (m_dk dk_X7_looksAt 36 rfl) (by decide) rfl) <|
  m_cn (pc := 63) (ok_goto (nx := 0) (m_dk dk_X7_looksAt 37 rfl) rfl) <|
  m_cn (pc := 66) (ok_aload_n (m_dk dk_X7_looksAt 38 rfl) rfl rfl) <|
  m_cn (pc := 67) (ok_getf (k := 32) (hc0 := (rfl : vwCl[8]? = some (RX7, TX7, 36))) (by decide) in_X7 wd_821 (m_dk dk_X7_looksAt 39 rfl) rfl) <|
  m_cn (pc := 70) (ok_ifeq (m_dk dk_X7_looksAt 40 rfl) rfl rfl) <|
  m_cn (pc := 73) (ok_iload (m_dk dk_X7_looksAt 41 rfl) rfl) <|
  m_cn (pc := 75) (ok_aload_n (m_dk dk_X7_looksAt 42 rfl) rfl rfl) <|
  m_cn (pc := 76) (ok_getf (k := 33) (hc0 := (rfl : vwCl[8]? = some (RX7, TX7, 36))) (by decide) in_X7 wd_822 (m_dk dk_X7_looksAt 43 rfl) rfl) <|
  m_cn (pc := 79) (ok_icmplt (m_dk dk_X7_looksAt 44 rfl) rfl rfl) <|
  m_cn (pc := 82) (ok_iload (m_dk dk_X7_looksAt 45 rfl) rfl) <|
  m_cn (pc := 84) (ok_aload_n (m_dk dk_X7_looksAt 46 rfl) rfl rfl) <|
  m_cn (pc := 85) (ok_getf (k := 33) (hc0 := (rfl : vwCl[8]? = some (RX7, TX7, 36))) (by decide) in_X7 wd_822 (m_dk dk_X7_looksAt 47 rfl) rfl) <|
  m_cn (pc := 88) (ok_icmpne (m_dk dk_X7_looksAt 48 rfl) rfl rfl) <|
  m_cn (pc := 91) (ok_iload (m_dk dk_X7_looksAt 49 rfl) rfl) <|
  m_cn (pc := 93) (ok_aload_n (m_dk dk_X7_looksAt 50 rfl) rfl rfl) <|
  m_cn (pc := 94) (ok_getf (k := 34) (hc0 := (rfl : vwCl[8]? = some (RX7, TX7, 36))) (by decide) in_X7 wd_823 (m_dk dk_X7_looksAt 51 rfl) rfl) <|
  m_cn (pc := 97) (ok_icmpge (m_dk dk_X7_looksAt 52 rfl) rfl rfl) <|
  m_cn (pc := 100) (ok_aload_n (m_dk dk_X7_looksAt 53 rfl) rfl rfl) <|
  m_cn (pc := 101) (ok_iload_n (m_dk dk_X7_looksAt 54 rfl) rfl rfl) <|
  m_cn (pc := 102) (ok_puti (k := 32) (hc0 := (rfl : vwCl[8]? = some (RX7, TX7, 36))) (by decide) in_X7 wd_821 tyX7 tyX7_ok nmX7 rfl (tyX7_ok 32 (by decide)) (m_dk dk_X7_looksAt 55 rfl) rfl) <|
  m_cn (pc := 105) (ok_aload_n (m_dk dk_X7_looksAt 56 rfl) rfl rfl) <|
  m_cn (pc := 106) (ok_iload (m_dk dk_X7_looksAt 57 rfl) rfl) <|
  m_cn (pc := 108) (ok_puti (k := 33) (hc0 := (rfl : vwCl[8]? = some (RX7, TX7, 36))) (by decide) in_X7 wd_822 tyX7 tyX7_ok nmX7 rfl (tyX7_ok 33 (by decide)) (m_dk dk_X7_looksAt 58 rfl) rfl) <|
  m_cn (pc := 111) (ok_aload_n (m_dk dk_X7_looksAt 59 rfl) rfl rfl) <|
  m_cn (pc := 112) (ok_iload (m_dk dk_X7_looksAt 60 rfl) rfl) <|
  m_cn (pc := 114) (ok_puti (k := 34) (hc0 := (rfl : vwCl[8]? = some (RX7, TX7, 36))) (by decide) in_X7 wd_823 tyX7 tyX7_ok nmX7 rfl (tyX7_ok 34 (by decide)) (m_dk dk_X7_looksAt 61 rfl) rfl) <|
  m_cn (pc := 117) (ok_iconst (m_dk dk_X7_looksAt 62 rfl) (by decide) rfl) <|
  m_cn (pc := 118) (ok_istore (m_dk dk_X7_looksAt 63 rfl) rfl) <|
  m_cn (pc := 120) (ok_iload (m_dk dk_X7_looksAt 64 rfl) rfl) <|
  m_cn (pc := 122) (ok_iload_n (m_dk dk_X7_looksAt 65 rfl) rfl rfl) <|
  m_cn (pc := 123) (ok_icmpge (m_dk dk_X7_looksAt 66 rfl) rfl rfl) <|
  m_cn (pc := 126) (ok_aload_n (m_dk dk_X7_looksAt 67 rfl) rfl rfl) <|
  m_cn (pc := 127) (ok_getf (k := 31) (hc0 := (rfl : vwCl[8]? = some (RX7, TX7, 36))) (by decide) in_X7 wd_820 (m_dk dk_X7_looksAt 68 rfl) rfl) <|
  m_cn (pc := 130) (ok_iload (m_dk dk_X7_looksAt 69 rfl) rfl) <|
  m_cn (pc := 132) (ok_aload_n (m_dk dk_X7_looksAt 70 rfl) rfl rfl) <|
  m_cn (pc := 133) (ok_getf (k := 29) (hc0 := (rfl : vwCl[8]? = some (RX7, TX7, 36))) (by decide) in_X7 wd_818 (m_dk dk_X7_looksAt 71 rfl) rfl) <|
  m_cn (pc := 136) (ok_iload (m_dk dk_X7_looksAt 72 rfl) rfl) <|
  m_cn (pc := 138) (ok_iald (m_dk dk_X7_looksAt 73 rfl) rfl) <|
  m_cn (pc := 139) (ok_iast (m_dk dk_X7_looksAt 74 rfl) rfl) <|
  m_cn (pc := 140) (ok_iinc (m_dk dk_X7_looksAt 75 rfl) (by decide) rfl) <|
  m_cn (pc := 143) (ok_goto (nx := 0) (m_dk dk_X7_looksAt 76 rfl) rfl) <|
  m_cn (pc := 146) (ok_return (nx := 0) rfl (m_dk dk_X7_looksAt 77 rfl)) <|
  m_nl
theorem mk_X7_looksAt {GP : m_G → Prop} {cds : Nat → Nat → m_Op} (h : cds 87 = m_lk cd_X7_looksAt) : m_MOK GP m_my cds 87 := ⟨RX7, false, [], by decide +kernel, rfl, (fun h9 => by first | rfl | cases h9), Or.inl ⟨rfl, rfl⟩, fun pc => by rw [h]; exact m_lk_ok _ ok_X7_looksAt pc⟩
def dl_X7_takes : List (Nat × Instr × Nat) := [(0, .aload_n 0, 1), (1, .getfield 77, 3), (4, .bipush 6, 2), (6, .iload_n 1, 1), (7, .imul, 1), (8, .iload_n 2, 1), (9, .iadd, 1), (10, .iaload, 1), (11, .istore 4, 2), (13, .iload 4, 2), (15, .iload_n 3, 1), (16, .if_icmp .ge 10, 3), (19, .iload_n 3, 1), (20, .iload 4, 2), (22, .isub, 1), (23, .goto 4, 3), (26, .iconst 0, 1), (27, .istore 5, 2), (29, .aload_n 0, 1), (30, .getfield 77, 3), (33, .bipush 6, 2), (35, .iload_n 1, 1), (36, .imul, 1), (37, .iload_n 2, 1), (38, .iadd, 1), (39, .dup2, 1), (40, .iaload, 1), (41, .iload_n 3, 1), (42, .iload 5, 2), (44, .isub, 1), (45, .isub, 1), (46, .iastore, 1), (47, .iconst 0, 1), (48, .istore 6, 2), (50, .iload 6, 2), (52, .bipush 6, 2), (54, .if_icmp .ge 98, 3), (57, .iload 6, 2), (59, .iload_n 2, 1), (60, .if_icmp .eq 86, 3), (63, .aload_n 0, 1), (64, .getfield 77, 3), (67, .bipush 6, 2), (69, .iload_n 1, 1), (70, .imul, 1), (71, .iload 6, 2), (73, .iadd, 1), (74, .iaload, 1), (75, .iload 5, 2), (77, .if_icmp .ge 18, 3), (80, .aload_n 0, 1), (81, .getfield 77, 3), (84, .bipush 6, 2), (86, .iload_n 1, 1), (87, .imul, 1), (88, .iload 6, 2), (90, .iadd, 1), (91, .iaload, 1), (92, .goto 5, 3), (95, .iload 5, 2), (97, .istore 7, 2), (99, .aload_n 0, 1), (100, .getfield 77, 3), (103, .bipush 6, 2), (105, .iload_n 1, 1), (106, .imul, 1), (107, .iload 6, 2), (109, .iadd, 1), (110, .dup2, 1), (111, .iaload, 1), (112, .iload 7, 2), (114, .isub, 1), (115, .iastore, 1), (116, .aload_n 0, 1), (117, .getfield 68, 3), (120, .bipush 6, 2), (122, .iload_n 2, 1), (123, .imul, 1), (124, .iload 6, 2), (126, .iadd, 1), (127, .dup2, 1), (128, .iaload, 1), (129, .iload 7, 2), (131, .aload_n 0, 1), (132, .iload_n 1, 1), (133, .invokevirtual 123, 3), (136, .imul, 1), (137, .iadd, 1), (138, .iastore, 1), (139, .iload 5, 2), (141, .iload 7, 2), (143, .isub, 1), (144, .istore 5, 2), (146, .iinc 6 1, 3), (149, .goto (-99), 3), (152, .return_, 1)]
theorem dk_X7_takes : ∀ q ∈ dl_X7_takes, decode cX7_takes q.1 = .ok q.2 := by decide +kernel
def cd_X7_takes : List (Nat × m_Op) := [(0, o_aload 0 1), (1, o_getf 8 28 4), (4, o_const (6) 6), (6, o_iload 1 7), (7, o_bin (fun x y => x * y) 8), (8, o_iload 2 9), (9, o_bin (fun x y => x + y) 10), (10, o_iald 0 11), (11, o_istore 4 13), (13, o_iload 4 15), (15, o_iload 3 16), (16, o_icmpge 26 19), (19, o_iload 3 20), (20, o_iload 4 22), (22, o_bin (fun x y => x - y) 23), (23, o_goto 27), (26, o_const (0) 27), (27, o_istore 5 29), (29, o_aload 0 30), (30, o_getf 8 28 33), (33, o_const (6) 35), (35, o_iload 1 36), (36, o_bin (fun x y => x * y) 37), (37, o_iload 2 38), (38, o_bin (fun x y => x + y) 39), (39, o_dup2 40), (40, o_iald 0 41), (41, o_iload 3 42), (42, o_iload 5 44), (44, o_bin (fun x y => x - y) 45), (45, o_bin (fun x y => x - y) 46), (46, o_iast 47), (47, o_const (0) 48), (48, o_istore 6 50), (50, o_iload 6 52), (52, o_const (6) 54), (54, o_icmpge 152 57), (57, o_iload 6 59), (59, o_iload 2 60), (60, o_icmpeq 146 63), (63, o_aload 0 64), (64, o_getf 8 28 67), (67, o_const (6) 69), (69, o_iload 1 70), (70, o_bin (fun x y => x * y) 71), (71, o_iload 6 73), (73, o_bin (fun x y => x + y) 74), (74, o_iald 0 75), (75, o_iload 5 77), (77, o_icmpge 95 80), (80, o_aload 0 81), (81, o_getf 8 28 84), (84, o_const (6) 86), (86, o_iload 1 87), (87, o_bin (fun x y => x * y) 88), (88, o_iload 6 90), (90, o_bin (fun x y => x + y) 91), (91, o_iald 0 92), (92, o_goto 97), (95, o_iload 5 97), (97, o_istore 7 99), (99, o_aload 0 100), (100, o_getf 8 28 103), (103, o_const (6) 105), (105, o_iload 1 106), (106, o_bin (fun x y => x * y) 107), (107, o_iload 6 109), (109, o_bin (fun x y => x + y) 110), (110, o_dup2 111), (111, o_iald 0 112), (112, o_iload 7 114), (114, o_bin (fun x y => x - y) 115), (115, o_iast 116), (116, o_aload 0 117), (117, o_getf 8 24 120), (120, o_const (6) 122), (122, o_iload 2 123), (123, o_bin (fun x y => x * y) 124), (124, o_iload 6 126), (126, o_bin (fun x y => x + y) 127), (127, o_dup2 128), (128, o_iald 0 129), (129, o_iload 7 131), (131, o_aload 0 132), (132, o_iload 1 133), (133, o_callv 8 71 2 0 0 136), (136, o_bin (fun x y => x * y) 137), (137, o_bin (fun x y => x + y) 138), (138, o_iast 139), (139, o_iload 5 141), (141, o_iload 7 143), (143, o_bin (fun x y => x - y) 144), (144, o_istore 5 146), (146, o_iinc 6 (1) 149), (149, o_goto 50), (152, o_return)]
set_option maxRecDepth 20000 in
set_option maxHeartbeats 4000000 in
theorem ok_X7_takes {GP : m_G → Prop} : ∀ q ∈ cd_X7_takes, m_OK GP m_my (cX7_takes, 8, RX7, false, none, []) q.1 q.2 :=
  m_cn (pc := 0) (ok_aload_n (m_dk dk_X7_takes 0 rfl) rfl rfl) <|
  m_cn (pc := 1) (ok_getf (k := 28) (hc0 := (rfl : vwCl[8]? = some (RX7, TX7, 36))) (by decide) in_X7 wd_817 (m_dk dk_X7_takes 1 rfl) rfl) <|
  m_cn (pc := 4) (ok_bipush (m_dk dk_X7_takes 2 rfl) (by decide) rfl) <|
  m_cn (pc := 6) (ok_iload_n (m_dk dk_X7_takes 3 rfl) rfl rfl) <|
  m_cn (pc := 7) (ok_imul (m_dk dk_X7_takes 4 rfl) rfl) <|
  m_cn (pc := 8) (ok_iload_n (m_dk dk_X7_takes 5 rfl) rfl rfl) <|
  m_cn (pc := 9) (ok_iadd (m_dk dk_X7_takes 6 rfl) rfl) <|
  m_cn (pc := 10) (ok_iald (m_dk dk_X7_takes 7 rfl) rfl) <|
  m_cn (pc := 11) (ok_istore (m_dk dk_X7_takes 8 rfl) rfl) <|
  m_cn (pc := 13) (ok_iload (m_dk dk_X7_takes 9 rfl) rfl) <|
  m_cn (pc := 15) (ok_iload_n (m_dk dk_X7_takes 10 rfl) rfl rfl) <|
  m_cn (pc := 16) (ok_icmpge (m_dk dk_X7_takes 11 rfl) rfl rfl) <|
  m_cn (pc := 19) (ok_iload_n (m_dk dk_X7_takes 12 rfl) rfl rfl) <|
  m_cn (pc := 20) (ok_iload (m_dk dk_X7_takes 13 rfl) rfl) <|
  m_cn (pc := 22) (ok_isub (m_dk dk_X7_takes 14 rfl) rfl) <|
  m_cn (pc := 23) (ok_goto (nx := 0) (m_dk dk_X7_takes 15 rfl) rfl) <|
  m_cn (pc := 26) (ok_iconst (m_dk dk_X7_takes 16 rfl) (by decide) rfl) <|
  m_cn (pc := 27) (ok_istore (m_dk dk_X7_takes 17 rfl) rfl) <|
  m_cn (pc := 29) (ok_aload_n (m_dk dk_X7_takes 18 rfl) rfl rfl) <|
  m_cn (pc := 30) (ok_getf (k := 28) (hc0 := (rfl : vwCl[8]? = some (RX7, TX7, 36))) (by decide) in_X7 wd_817 (m_dk dk_X7_takes 19 rfl) rfl) <|
  m_cn (pc := 33) (ok_bipush (m_dk dk_X7_takes 20 rfl) (by decide) rfl) <|
  m_cn (pc := 35) (ok_iload_n (m_dk dk_X7_takes 21 rfl) rfl rfl) <|
  m_cn (pc := 36) (ok_imul (m_dk dk_X7_takes 22 rfl) rfl) <|
  m_cn (pc := 37) (ok_iload_n (m_dk dk_X7_takes 23 rfl) rfl rfl) <|
  m_cn (pc := 38) (ok_iadd (m_dk dk_X7_takes 24 rfl) rfl) <|
  m_cn (pc := 39) (ok_dup2 (m_dk dk_X7_takes 25 rfl) rfl) <|
  m_cn (pc := 40) (ok_iald (m_dk dk_X7_takes 26 rfl) rfl) <|
  m_cn (pc := 41) (ok_iload_n (m_dk dk_X7_takes 27 rfl) rfl rfl) <|
  m_cn (pc := 42) (ok_iload (m_dk dk_X7_takes 28 rfl) rfl) <|
  m_cn (pc := 44) (ok_isub (m_dk dk_X7_takes 29 rfl) rfl) <|
  m_cn (pc := 45) (ok_isub (m_dk dk_X7_takes 30 rfl) rfl) <|
  m_cn (pc := 46) (ok_iast (m_dk dk_X7_takes 31 rfl) rfl) <|
  m_cn (pc := 47) (ok_iconst (m_dk dk_X7_takes 32 rfl) (by decide) rfl) <|
  m_cn (pc := 48) (ok_istore (m_dk dk_X7_takes 33 rfl) rfl) <|
  m_cn (pc := 50) (ok_iload (m_dk dk_X7_takes 34 rfl) rfl) <|
  m_cn (pc := 52) (ok_bipush (m_dk dk_X7_takes 35 rfl) (by decide) rfl) <|
  m_cn (pc := 54) (ok_icmpge (m_dk dk_X7_takes 36 rfl) rfl rfl) <|
  m_cn (pc := 57) (ok_iload (m_dk dk_X7_takes 37 rfl) rfl) <|
  m_cn (pc := 59) (ok_iload_n (m_dk dk_X7_takes 38 rfl) rfl rfl) <|
  m_cn (pc := 60) (ok_icmpeq (m_dk dk_X7_takes 39 rfl) rfl rfl) <|
  m_cn (pc := 63) (ok_aload_n (m_dk dk_X7_takes 40 rfl) rfl rfl) <|
  m_cn (pc := 64) (ok_getf (k := 28) (hc0 := (rfl : vwCl[8]? = some (RX7, TX7, 36))) (by decide) in_X7 wd_817 (m_dk dk_X7_takes 41 rfl) rfl) <|
  m_cn (pc := 67) (ok_bipush (m_dk dk_X7_takes 42 rfl) (by decide) rfl) <|
  m_cn (pc := 69) (ok_iload_n (m_dk dk_X7_takes 43 rfl) rfl rfl) <|
  m_cn (pc := 70) (ok_imul (m_dk dk_X7_takes 44 rfl) rfl) <|
  m_cn (pc := 71) (ok_iload (m_dk dk_X7_takes 45 rfl) rfl) <|
  m_cn (pc := 73) (ok_iadd (m_dk dk_X7_takes 46 rfl) rfl) <|
  m_cn (pc := 74) (ok_iald (m_dk dk_X7_takes 47 rfl) rfl) <|
  m_cn (pc := 75) (ok_iload (m_dk dk_X7_takes 48 rfl) rfl) <|
  m_cn (pc := 77) (ok_icmpge (m_dk dk_X7_takes 49 rfl) rfl rfl) <|
  m_cn (pc := 80) (ok_aload_n (m_dk dk_X7_takes 50 rfl) rfl rfl) <|
  m_cn (pc := 81) (ok_getf (k := 28) (hc0 := (rfl : vwCl[8]? = some (RX7, TX7, 36))) (by decide) in_X7 wd_817 (m_dk dk_X7_takes 51 rfl) rfl) <|
  m_cn (pc := 84) (ok_bipush (m_dk dk_X7_takes 52 rfl) (by decide) rfl) <|
  m_cn (pc := 86) (ok_iload_n (m_dk dk_X7_takes 53 rfl) rfl rfl) <|
  m_cn (pc := 87) (ok_imul (m_dk dk_X7_takes 54 rfl) rfl) <|
  m_cn (pc := 88) (ok_iload (m_dk dk_X7_takes 55 rfl) rfl) <|
  m_cn (pc := 90) (ok_iadd (m_dk dk_X7_takes 56 rfl) rfl) <|
  m_cn (pc := 91) (ok_iald (m_dk dk_X7_takes 57 rfl) rfl) <|
  m_cn (pc := 92) (ok_goto (nx := 0) (m_dk dk_X7_takes 58 rfl) rfl) <|
  m_cn (pc := 95) (ok_iload (m_dk dk_X7_takes 59 rfl) rfl) <|
  m_cn (pc := 97) (ok_istore (m_dk dk_X7_takes 60 rfl) rfl) <|
  m_cn (pc := 99) (ok_aload_n (m_dk dk_X7_takes 61 rfl) rfl rfl) <|
  m_cn (pc := 100) (ok_getf (k := 28) (hc0 := (rfl : vwCl[8]? = some (RX7, TX7, 36))) (by decide) in_X7 wd_817 (m_dk dk_X7_takes 62 rfl) rfl) <|
  m_cn (pc := 103) (ok_bipush (m_dk dk_X7_takes 63 rfl) (by decide) rfl) <|
  m_cn (pc := 105) (ok_iload_n (m_dk dk_X7_takes 64 rfl) rfl rfl) <|
  m_cn (pc := 106) (ok_imul (m_dk dk_X7_takes 65 rfl) rfl) <|
  m_cn (pc := 107) (ok_iload (m_dk dk_X7_takes 66 rfl) rfl) <|
  m_cn (pc := 109) (ok_iadd (m_dk dk_X7_takes 67 rfl) rfl) <|
  m_cn (pc := 110) (ok_dup2 (m_dk dk_X7_takes 68 rfl) rfl) <|
  m_cn (pc := 111) (ok_iald (m_dk dk_X7_takes 69 rfl) rfl) <|
  m_cn (pc := 112) (ok_iload (m_dk dk_X7_takes 70 rfl) rfl) <|
  m_cn (pc := 114) (ok_isub (m_dk dk_X7_takes 71 rfl) rfl) <|
  m_cn (pc := 115) (ok_iast (m_dk dk_X7_takes 72 rfl) rfl) <|
  m_cn (pc := 116) (ok_aload_n (m_dk dk_X7_takes 73 rfl) rfl rfl) <|
  m_cn (pc := 117) (ok_getf (k := 24) (hc0 := (rfl : vwCl[8]? = some (RX7, TX7, 36))) (by decide) in_X7 wd_813 (m_dk dk_X7_takes 74 rfl) rfl) <|
  m_cn (pc := 120) (ok_bipush (m_dk dk_X7_takes 75 rfl) (by decide) rfl) <|
  m_cn (pc := 122) (ok_iload_n (m_dk dk_X7_takes 76 rfl) rfl rfl) <|
  m_cn (pc := 123) (ok_imul (m_dk dk_X7_takes 77 rfl) rfl) <|
  m_cn (pc := 124) (ok_iload (m_dk dk_X7_takes 78 rfl) rfl) <|
  m_cn (pc := 126) (ok_iadd (m_dk dk_X7_takes 79 rfl) rfl) <|
  m_cn (pc := 127) (ok_dup2 (m_dk dk_X7_takes 80 rfl) rfl) <|
  m_cn (pc := 128) (ok_iald (m_dk dk_X7_takes 81 rfl) rfl) <|
  m_cn (pc := 129) (ok_iload (m_dk dk_X7_takes 82 rfl) rfl) <|
  m_cn (pc := 131) (ok_aload_n (m_dk dk_X7_takes 83 rfl) rfl rfl) <|
  m_cn (pc := 132) (ok_iload_n (m_dk dk_X7_takes 84 rfl) rfl rfl) <|
  m_cn (pc := 133) (ok_callv (T := mt_X7_length) my_X7_length rfl cw_X7_length rfl rfl (by decide) (r9 := (RX7, TX7, 36)) rfl rfl wd_936 wd_938 (m_wk 23 (by decide +kernel) (by decide +kernel)) wd_6 (by decide +kernel) (m_dk dk_X7_takes 85 rfl) rfl) <|
  m_cn (pc := 136) (ok_imul (m_dk dk_X7_takes 86 rfl) rfl) <|
  m_cn (pc := 137) (ok_iadd (m_dk dk_X7_takes 87 rfl) rfl) <|
  m_cn (pc := 138) (ok_iast (m_dk dk_X7_takes 88 rfl) rfl) <|
  m_cn (pc := 139) (ok_iload (m_dk dk_X7_takes 89 rfl) rfl) <|
  m_cn (pc := 141) (ok_iload (m_dk dk_X7_takes 90 rfl) rfl) <|
  m_cn (pc := 143) (ok_isub (m_dk dk_X7_takes 91 rfl) rfl) <|
  m_cn (pc := 144) (ok_istore (m_dk dk_X7_takes 92 rfl) rfl) <|
  m_cn (pc := 146) (ok_iinc (m_dk dk_X7_takes 93 rfl) (by decide) rfl) <|
  m_cn (pc := 149) (ok_goto (nx := 0) (m_dk dk_X7_takes 94 rfl) rfl) <|
  m_cn (pc := 152) (ok_return (nx := 0) rfl (m_dk dk_X7_takes 95 rfl)) <|
  m_nl
theorem mk_X7_takes {GP : m_G → Prop} {cds : Nat → Nat → m_Op} (h : cds 88 = m_lk cd_X7_takes) : m_MOK GP m_my cds 88 := ⟨RX7, false, [], by decide +kernel, rfl, (fun h9 => by first | rfl | cases h9), Or.inl ⟨rfl, rfl⟩, fun pc => by rw [h]; exact m_lk_ok _ ok_X7_takes pc⟩
def dl_X7_leadsAll : List (Nat × Instr × Nat) := [(0, .iconst 0, 1), (1, .istore_n 2, 1), (2, .iload_n 2, 1), (3, .aload_n 0, 1), (4, .getfield 99, 3), (7, .if_icmp .ge 100, 3), (10, .aload_n 0, 1), (11, .getfield 31, 3), (14, .iload_n 2, 1), (15, .iaload, 1), (16, .iconst (-1), 1), (17, .if_icmp .ne 84, 3), (20, .aload_n 0, 1), (21, .iload_n 2, 1), (22, .iload_n 1, 1), (23, .invokevirtual 169, 3), (26, .ifCond .eq 75, 3), (29, .aload_n 0, 1), (30, .getfield 31, 3), (33, .iload_n 2, 1), (34, .iconst 0, 1), (35, .iastore, 1), (36, .aload_n 0, 1), (37, .getfield 34, 3), (40, .iload_n 2, 1), (41, .aload_n 0, 1), (42, .getfield 151, 3), (45, .iastore, 1), (46, .iconst 0, 1), (47, .istore_n 3, 1), (48, .iload_n 3, 1), (49, .aload_n 0, 1), (50, .getfield 148, 3), (53, .if_icmp .ge 48, 3), (56, .aload_n 0, 1), (57, .getfield 31, 3), (60, .iload_n 2, 1), (61, .dup2, 1), (62, .iaload, 1), (63, .iconst 1, 1), (64, .aload_n 0, 1), (65, .getfield 86, 3), (68, .iload_n 3, 1), (69, .iaload, 1), (70, .ishl, 1), (71, .ior, 1), (72, .iastore, 1), (73, .aload_n 0, 1), (74, .aload_n 0, 1), (75, .getfield 86, 3), (78, .iload_n 3, 1), (79, .iaload, 1), (80, .aload_n 0, 1), (81, .getfield 19, 3), (84, .iload_n 2, 1), (85, .iaload, 1), (86, .aload_n 0, 1), (87, .getfield 28, 3), (90, .iload_n 2, 1), (91, .iaload, 1), (92, .invokevirtual 173, 3), (95, .iinc 3 1, 3), (98, .goto (-50), 3), (101, .iinc 2 1, 3), (104, .goto (-102), 3), (107, .return_, 1)]
theorem dk_X7_leadsAll : ∀ q ∈ dl_X7_leadsAll, decode cX7_leadsAll q.1 = .ok q.2 := by decide +kernel
def cd_X7_leadsAll : List (Nat × m_Op) := [(0, o_const (0) 1), (1, o_istore 2 2), (2, o_iload 2 3), (3, o_aload 0 4), (4, o_getf 8 5 7), (7, o_icmpge 107 10), (10, o_aload 0 11), (11, o_getf 8 10 14), (14, o_iload 2 15), (15, o_iald 0 16), (16, o_const (-1) 17), (17, o_icmpne 101 20), (20, o_aload 0 21), (21, o_iload 2 22), (22, o_iload 1 23), (23, o_callv 8 86 3 0 0 26), (26, o_ifeq 101 29), (29, o_aload 0 30), (30, o_getf 8 10 33), (33, o_iload 2 34), (34, o_const (0) 35), (35, o_iast 36), (36, o_aload 0 37), (37, o_getf 8 11 40), (40, o_iload 2 41), (41, o_aload 0 42), (42, o_getf 8 33 45), (45, o_iast 46), (46, o_const (0) 47), (47, o_istore 3 48), (48, o_iload 3 49), (49, o_aload 0 50), (50, o_getf 8 32 53), (53, o_icmpge 101 56), (56, o_aload 0 57), (57, o_getf 8 10 60), (60, o_iload 2 61), (61, o_dup2 62), (62, o_iald 0 63), (63, o_const (1) 64), (64, o_aload 0 65), (65, o_getf 8 31 68), (68, o_iload 3 69), (69, o_iald 0 70), (70, o_bin (fun x y => x <<< (y &&& 31)) 71), (71, o_bin (fun x y => x ||| y) 72), (72, o_iast 73), (73, o_aload 0 74), (74, o_aload 0 75), (75, o_getf 8 31 78), (78, o_iload 3 79), (79, o_iald 0 80), (80, o_aload 0 81), (81, o_getf 8 6 84), (84, o_iload 2 85), (85, o_iald 0 86), (86, o_aload 0 87), (87, o_getf 8 9 90), (90, o_iload 2 91), (91, o_iald 0 92), (92, o_callv 8 88 4 0 0 95), (95, o_iinc 3 (1) 98), (98, o_goto 48), (101, o_iinc 2 (1) 104), (104, o_goto 2), (107, o_return)]
set_option maxRecDepth 20000 in
set_option maxHeartbeats 4000000 in
theorem ok_X7_leadsAll {GP : m_G → Prop} : ∀ q ∈ cd_X7_leadsAll, m_OK GP m_my (cX7_leadsAll, 4, RX7, false, none, []) q.1 q.2 :=
  m_cn (pc := 0) (ok_iconst (m_dk dk_X7_leadsAll 0 rfl) (by decide) rfl) <|
  m_cn (pc := 1) (ok_istore_n (m_dk dk_X7_leadsAll 1 rfl) rfl rfl) <|
  m_cn (pc := 2) (ok_iload_n (m_dk dk_X7_leadsAll 2 rfl) rfl rfl) <|
  m_cn (pc := 3) (ok_aload_n (m_dk dk_X7_leadsAll 3 rfl) rfl rfl) <|
  m_cn (pc := 4) (ok_getf (k := 5) (hc0 := (rfl : vwCl[8]? = some (RX7, TX7, 36))) (by decide) in_X7 wd_794 (m_dk dk_X7_leadsAll 4 rfl) rfl) <|
  m_cn (pc := 7) (ok_icmpge (m_dk dk_X7_leadsAll 5 rfl) rfl rfl) <|
  m_cn (pc := 10) (ok_aload_n (m_dk dk_X7_leadsAll 6 rfl) rfl rfl) <|
  m_cn (pc := 11) (ok_getf (k := 10) (hc0 := (rfl : vwCl[8]? = some (RX7, TX7, 36))) (by decide) in_X7 wd_799 (m_dk dk_X7_leadsAll 7 rfl) rfl) <|
  m_cn (pc := 14) (ok_iload_n (m_dk dk_X7_leadsAll 8 rfl) rfl rfl) <|
  m_cn (pc := 15) (ok_iald (m_dk dk_X7_leadsAll 9 rfl) rfl) <|
  m_cn (pc := 16) (ok_iconst (m_dk dk_X7_leadsAll 10 rfl) (by decide) rfl) <|
  m_cn (pc := 17) (ok_icmpne (m_dk dk_X7_leadsAll 11 rfl) rfl rfl) <|
  m_cn (pc := 20) (ok_aload_n (m_dk dk_X7_leadsAll 12 rfl) rfl rfl) <|
  m_cn (pc := 21) (ok_iload_n (m_dk dk_X7_leadsAll 13 rfl) rfl rfl) <|
  m_cn (pc := 22) (ok_iload_n (m_dk dk_X7_leadsAll 14 rfl) rfl rfl) <|
  m_cn (pc := 23) (ok_callv (T := mt_X7_findsWay) my_X7_findsWay rfl cw_X7_findsWay rfl rfl (by decide) (r9 := (RX7, TX7, 36)) rfl rfl wd_988 wd_990 (m_wk 31 (by decide +kernel) (by decide +kernel)) wd_6 (by decide +kernel) (m_dk dk_X7_leadsAll 15 rfl) rfl) <|
  m_cn (pc := 26) (ok_ifeq (m_dk dk_X7_leadsAll 16 rfl) rfl rfl) <|
  m_cn (pc := 29) (ok_aload_n (m_dk dk_X7_leadsAll 17 rfl) rfl rfl) <|
  m_cn (pc := 30) (ok_getf (k := 10) (hc0 := (rfl : vwCl[8]? = some (RX7, TX7, 36))) (by decide) in_X7 wd_799 (m_dk dk_X7_leadsAll 18 rfl) rfl) <|
  m_cn (pc := 33) (ok_iload_n (m_dk dk_X7_leadsAll 19 rfl) rfl rfl) <|
  m_cn (pc := 34) (ok_iconst (m_dk dk_X7_leadsAll 20 rfl) (by decide) rfl) <|
  m_cn (pc := 35) (ok_iast (m_dk dk_X7_leadsAll 21 rfl) rfl) <|
  m_cn (pc := 36) (ok_aload_n (m_dk dk_X7_leadsAll 22 rfl) rfl rfl) <|
  m_cn (pc := 37) (ok_getf (k := 11) (hc0 := (rfl : vwCl[8]? = some (RX7, TX7, 36))) (by decide) in_X7 wd_800 (m_dk dk_X7_leadsAll 23 rfl) rfl) <|
  m_cn (pc := 40) (ok_iload_n (m_dk dk_X7_leadsAll 24 rfl) rfl rfl) <|
  m_cn (pc := 41) (ok_aload_n (m_dk dk_X7_leadsAll 25 rfl) rfl rfl) <|
  m_cn (pc := 42) (ok_getf (k := 33) (hc0 := (rfl : vwCl[8]? = some (RX7, TX7, 36))) (by decide) in_X7 wd_822 (m_dk dk_X7_leadsAll 26 rfl) rfl) <|
  m_cn (pc := 45) (ok_iast (m_dk dk_X7_leadsAll 27 rfl) rfl) <|
  m_cn (pc := 46) (ok_iconst (m_dk dk_X7_leadsAll 28 rfl) (by decide) rfl) <|
  m_cn (pc := 47) (ok_istore_n (m_dk dk_X7_leadsAll 29 rfl) rfl rfl) <|
  m_cn (pc := 48) (ok_iload_n (m_dk dk_X7_leadsAll 30 rfl) rfl rfl) <|
  m_cn (pc := 49) (ok_aload_n (m_dk dk_X7_leadsAll 31 rfl) rfl rfl) <|
  m_cn (pc := 50) (ok_getf (k := 32) (hc0 := (rfl : vwCl[8]? = some (RX7, TX7, 36))) (by decide) in_X7 wd_821 (m_dk dk_X7_leadsAll 32 rfl) rfl) <|
  m_cn (pc := 53) (ok_icmpge (m_dk dk_X7_leadsAll 33 rfl) rfl rfl) <|
  m_cn (pc := 56) (ok_aload_n (m_dk dk_X7_leadsAll 34 rfl) rfl rfl) <|
  m_cn (pc := 57) (ok_getf (k := 10) (hc0 := (rfl : vwCl[8]? = some (RX7, TX7, 36))) (by decide) in_X7 wd_799 (m_dk dk_X7_leadsAll 35 rfl) rfl) <|
  m_cn (pc := 60) (ok_iload_n (m_dk dk_X7_leadsAll 36 rfl) rfl rfl) <|
  m_cn (pc := 61) (ok_dup2 (m_dk dk_X7_leadsAll 37 rfl) rfl) <|
  m_cn (pc := 62) (ok_iald (m_dk dk_X7_leadsAll 38 rfl) rfl) <|
  m_cn (pc := 63) (ok_iconst (m_dk dk_X7_leadsAll 39 rfl) (by decide) rfl) <|
  m_cn (pc := 64) (ok_aload_n (m_dk dk_X7_leadsAll 40 rfl) rfl rfl) <|
  m_cn (pc := 65) (ok_getf (k := 31) (hc0 := (rfl : vwCl[8]? = some (RX7, TX7, 36))) (by decide) in_X7 wd_820 (m_dk dk_X7_leadsAll 41 rfl) rfl) <|
  m_cn (pc := 68) (ok_iload_n (m_dk dk_X7_leadsAll 42 rfl) rfl rfl) <|
  m_cn (pc := 69) (ok_iald (m_dk dk_X7_leadsAll 43 rfl) rfl) <|
  m_cn (pc := 70) (ok_ishl (m_dk dk_X7_leadsAll 44 rfl) rfl) <|
  m_cn (pc := 71) (ok_ior (m_dk dk_X7_leadsAll 45 rfl) rfl) <|
  m_cn (pc := 72) (ok_iast (m_dk dk_X7_leadsAll 46 rfl) rfl) <|
  m_cn (pc := 73) (ok_aload_n (m_dk dk_X7_leadsAll 47 rfl) rfl rfl) <|
  m_cn (pc := 74) (ok_aload_n (m_dk dk_X7_leadsAll 48 rfl) rfl rfl) <|
  m_cn (pc := 75) (ok_getf (k := 31) (hc0 := (rfl : vwCl[8]? = some (RX7, TX7, 36))) (by decide) in_X7 wd_820 (m_dk dk_X7_leadsAll 49 rfl) rfl) <|
  m_cn (pc := 78) (ok_iload_n (m_dk dk_X7_leadsAll 50 rfl) rfl rfl) <|
  m_cn (pc := 79) (ok_iald (m_dk dk_X7_leadsAll 51 rfl) rfl) <|
  m_cn (pc := 80) (ok_aload_n (m_dk dk_X7_leadsAll 52 rfl) rfl rfl) <|
  m_cn (pc := 81) (ok_getf (k := 6) (hc0 := (rfl : vwCl[8]? = some (RX7, TX7, 36))) (by decide) in_X7 wd_795 (m_dk dk_X7_leadsAll 53 rfl) rfl) <|
  m_cn (pc := 84) (ok_iload_n (m_dk dk_X7_leadsAll 54 rfl) rfl rfl) <|
  m_cn (pc := 85) (ok_iald (m_dk dk_X7_leadsAll 55 rfl) rfl) <|
  m_cn (pc := 86) (ok_aload_n (m_dk dk_X7_leadsAll 56 rfl) rfl rfl) <|
  m_cn (pc := 87) (ok_getf (k := 9) (hc0 := (rfl : vwCl[8]? = some (RX7, TX7, 36))) (by decide) in_X7 wd_798 (m_dk dk_X7_leadsAll 57 rfl) rfl) <|
  m_cn (pc := 90) (ok_iload_n (m_dk dk_X7_leadsAll 58 rfl) rfl rfl) <|
  m_cn (pc := 91) (ok_iald (m_dk dk_X7_leadsAll 59 rfl) rfl) <|
  m_cn (pc := 92) (ok_callv (T := mt_X7_takes) my_X7_takes rfl cw_X7_takes rfl rfl (by decide) (r9 := (RX7, TX7, 36)) rfl rfl wd_1008 wd_1010 (m_wk 36 (by decide +kernel) (by decide +kernel)) wd_6 (by decide +kernel) (m_dk dk_X7_leadsAll 60 rfl) rfl) <|
  m_cn (pc := 95) (ok_iinc (m_dk dk_X7_leadsAll 61 rfl) (by decide) rfl) <|
  m_cn (pc := 98) (ok_goto (nx := 0) (m_dk dk_X7_leadsAll 62 rfl) rfl) <|
  m_cn (pc := 101) (ok_iinc (m_dk dk_X7_leadsAll 63 rfl) (by decide) rfl) <|
  m_cn (pc := 104) (ok_goto (nx := 0) (m_dk dk_X7_leadsAll 64 rfl) rfl) <|
  m_cn (pc := 107) (ok_return (nx := 0) rfl (m_dk dk_X7_leadsAll 65 rfl)) <|
  m_nl
theorem mk_X7_leadsAll {GP : m_G → Prop} {cds : Nat → Nat → m_Op} (h : cds 89 = m_lk cd_X7_leadsAll) : m_MOK GP m_my cds 89 := ⟨RX7, false, [], by decide +kernel, rfl, (fun h9 => by first | rfl | cases h9), Or.inl ⟨rfl, rfl⟩, fun pc => by rw [h]; exact m_lk_ok _ ok_X7_leadsAll pc⟩
def dl_X7_pays : List (Nat × Instr × Nat) := [(0, .iconst 0, 1), (1, .istore_n 3, 1), (2, .iconst 0, 1), (3, .istore 4, 2), (5, .iload 4, 2), (7, .bipush 6, 2), (9, .if_icmp .ge 24, 3), (12, .iload_n 3, 1), (13, .aload_n 0, 1), (14, .getfield 16, 3), (17, .bipush 6, 2), (19, .iload_n 1, 1), (20, .imul, 1), (21, .iload 4, 2), (23, .iadd, 1), (24, .iaload, 1), (25, .iadd, 1), (26, .istore_n 3, 1), (27, .iinc 4 1, 3), (30, .goto (-25), 3), (33, .iload_n 2, 1), (34, .istore 4, 2), (36, .iconst (-1), 1), (37, .istore 5, 2), (39, .iconst 5, 1), (40, .istore 6, 2), (42, .iload 6, 2), (44, .ifCond .lt 64, 3), (47, .aload_n 0, 1), (48, .getfield 16, 3), (51, .bipush 6, 2), (53, .iload_n 1, 1), (54, .imul, 1), (55, .iload 6, 2), (57, .iadd, 1), (58, .iaload, 1), (59, .istore 7, 2), (61, .iload_n 2, 1), (62, .iload 7, 2), (64, .imul, 1), (65, .iload_n 3, 1), (66, .idiv, 1), (67, .istore 8, 2), (69, .aload_n 0, 1), (70, .getfield 74, 3), (73, .iload 6, 2), (75, .dup2, 1), (76, .iaload, 1), (77, .iload 8, 2), (79, .isub, 1), (80, .iastore, 1), (81, .iload 4, 2), (83, .iload 8, 2), (85, .isub, 1), (86, .istore 4, 2), (88, .iload 7, 2), (90, .ifCond .le 8, 3), (93, .iload 6, 2), (95, .goto 5, 3), (98, .iload 5, 2), (100, .istore 5, 2), (102, .iinc 6 (-1), 3), (105, .goto (-63), 3), (108, .aload_n 0, 1), (109, .getfield 74, 3), (112, .iload 5, 2), (114, .dup2, 1), (115, .iaload, 1), (116, .iload 4, 2), (118, .isub, 1), (119, .iastore, 1), (120, .return_, 1)]
theorem dk_X7_pays : ∀ q ∈ dl_X7_pays, decode cX7_pays q.1 = .ok q.2 := by decide +kernel
def cd_X7_pays : List (Nat × m_Op) := [(0, o_const (0) 1), (1, o_istore 3 2), (2, o_const (0) 3), (3, o_istore 4 5), (5, o_iload 4 7), (7, o_const (6) 9), (9, o_icmpge 33 12), (12, o_iload 3 13), (13, o_aload 0 14), (14, o_getf 8 4 17), (17, o_const (6) 19), (19, o_iload 1 20), (20, o_bin (fun x y => x * y) 21), (21, o_iload 4 23), (23, o_bin (fun x y => x + y) 24), (24, o_iald 0 25), (25, o_bin (fun x y => x + y) 26), (26, o_istore 3 27), (27, o_iinc 4 (1) 30), (30, o_goto 5), (33, o_iload 2 34), (34, o_istore 4 36), (36, o_const (-1) 37), (37, o_istore 5 39), (39, o_const (5) 40), (40, o_istore 6 42), (42, o_iload 6 44), (44, o_iflt 108 47), (47, o_aload 0 48), (48, o_getf 8 4 51), (51, o_const (6) 53), (53, o_iload 1 54), (54, o_bin (fun x y => x * y) 55), (55, o_iload 6 57), (57, o_bin (fun x y => x + y) 58), (58, o_iald 0 59), (59, o_istore 7 61), (61, o_iload 2 62), (62, o_iload 7 64), (64, o_bin (fun x y => x * y) 65), (65, o_iload 3 66), (66, o_div (fun x y => x / y) 67), (67, o_istore 8 69), (69, o_aload 0 70), (70, o_getf 8 26 73), (73, o_iload 6 75), (75, o_dup2 76), (76, o_iald 0 77), (77, o_iload 8 79), (79, o_bin (fun x y => x - y) 80), (80, o_iast 81), (81, o_iload 4 83), (83, o_iload 8 85), (85, o_bin (fun x y => x - y) 86), (86, o_istore 4 88), (88, o_iload 7 90), (90, o_ifle 98 93), (93, o_iload 6 95), (95, o_goto 100), (98, o_iload 5 100), (100, o_istore 5 102), (102, o_iinc 6 (-1) 105), (105, o_goto 42), (108, o_aload 0 109), (109, o_getf 8 26 112), (112, o_iload 5 114), (114, o_dup2 115), (115, o_iald 0 116), (116, o_iload 4 118), (118, o_bin (fun x y => x - y) 119), (119, o_iast 120), (120, o_return)]
set_option maxRecDepth 20000 in
set_option maxHeartbeats 4000000 in
theorem ok_X7_pays {GP : m_G → Prop} : ∀ q ∈ cd_X7_pays, m_OK GP m_my (cX7_pays, 9, RX7, false, none, []) q.1 q.2 :=
  m_cn (pc := 0) (ok_iconst (m_dk dk_X7_pays 0 rfl) (by decide) rfl) <|
  m_cn (pc := 1) (ok_istore_n (m_dk dk_X7_pays 1 rfl) rfl rfl) <|
  m_cn (pc := 2) (ok_iconst (m_dk dk_X7_pays 2 rfl) (by decide) rfl) <|
  m_cn (pc := 3) (ok_istore (m_dk dk_X7_pays 3 rfl) rfl) <|
  m_cn (pc := 5) (ok_iload (m_dk dk_X7_pays 4 rfl) rfl) <|
  m_cn (pc := 7) (ok_bipush (m_dk dk_X7_pays 5 rfl) (by decide) rfl) <|
  m_cn (pc := 9) (ok_icmpge (m_dk dk_X7_pays 6 rfl) rfl rfl) <|
  m_cn (pc := 12) (ok_iload_n (m_dk dk_X7_pays 7 rfl) rfl rfl) <|
  m_cn (pc := 13) (ok_aload_n (m_dk dk_X7_pays 8 rfl) rfl rfl) <|
  m_cn (pc := 14) (ok_getf (k := 4) (hc0 := (rfl : vwCl[8]? = some (RX7, TX7, 36))) (by decide) in_X7 wd_793 (m_dk dk_X7_pays 9 rfl) rfl) <|
  m_cn (pc := 17) (ok_bipush (m_dk dk_X7_pays 10 rfl) (by decide) rfl) <|
  m_cn (pc := 19) (ok_iload_n (m_dk dk_X7_pays 11 rfl) rfl rfl) <|
  m_cn (pc := 20) (ok_imul (m_dk dk_X7_pays 12 rfl) rfl) <|
  m_cn (pc := 21) (ok_iload (m_dk dk_X7_pays 13 rfl) rfl) <|
  m_cn (pc := 23) (ok_iadd (m_dk dk_X7_pays 14 rfl) rfl) <|
  m_cn (pc := 24) (ok_iald (m_dk dk_X7_pays 15 rfl) rfl) <|
  m_cn (pc := 25) (ok_iadd (m_dk dk_X7_pays 16 rfl) rfl) <|
  m_cn (pc := 26) (ok_istore_n (m_dk dk_X7_pays 17 rfl) rfl rfl) <|
  m_cn (pc := 27) (ok_iinc (m_dk dk_X7_pays 18 rfl) (by decide) rfl) <|
  m_cn (pc := 30) (ok_goto (nx := 0) (m_dk dk_X7_pays 19 rfl) rfl) <|
  m_cn (pc := 33) (ok_iload_n (m_dk dk_X7_pays 20 rfl) rfl rfl) <|
  m_cn (pc := 34) (ok_istore (m_dk dk_X7_pays 21 rfl) rfl) <|
  m_cn (pc := 36) (ok_iconst (m_dk dk_X7_pays 22 rfl) (by decide) rfl) <|
  m_cn (pc := 37) (ok_istore (m_dk dk_X7_pays 23 rfl) rfl) <|
  m_cn (pc := 39) (ok_iconst (m_dk dk_X7_pays 24 rfl) (by decide) rfl) <|
  m_cn (pc := 40) (ok_istore (m_dk dk_X7_pays 25 rfl) rfl) <|
  m_cn (pc := 42) (ok_iload (m_dk dk_X7_pays 26 rfl) rfl) <|
  m_cn (pc := 44) (ok_iflt (m_dk dk_X7_pays 27 rfl) rfl rfl) <|
  m_cn (pc := 47) (ok_aload_n (m_dk dk_X7_pays 28 rfl) rfl rfl) <|
  m_cn (pc := 48) (ok_getf (k := 4) (hc0 := (rfl : vwCl[8]? = some (RX7, TX7, 36))) (by decide) in_X7 wd_793 (m_dk dk_X7_pays 29 rfl) rfl) <|
  m_cn (pc := 51) (ok_bipush (m_dk dk_X7_pays 30 rfl) (by decide) rfl) <|
  m_cn (pc := 53) (ok_iload_n (m_dk dk_X7_pays 31 rfl) rfl rfl) <|
  m_cn (pc := 54) (ok_imul (m_dk dk_X7_pays 32 rfl) rfl) <|
  m_cn (pc := 55) (ok_iload (m_dk dk_X7_pays 33 rfl) rfl) <|
  m_cn (pc := 57) (ok_iadd (m_dk dk_X7_pays 34 rfl) rfl) <|
  m_cn (pc := 58) (ok_iald (m_dk dk_X7_pays 35 rfl) rfl) <|
  m_cn (pc := 59) (ok_istore (m_dk dk_X7_pays 36 rfl) rfl) <|
  m_cn (pc := 61) (ok_iload_n (m_dk dk_X7_pays 37 rfl) rfl rfl) <|
  m_cn (pc := 62) (ok_iload (m_dk dk_X7_pays 38 rfl) rfl) <|
  m_cn (pc := 64) (ok_imul (m_dk dk_X7_pays 39 rfl) rfl) <|
  m_cn (pc := 65) (ok_iload_n (m_dk dk_X7_pays 40 rfl) rfl rfl) <|
  m_cn (pc := 66) (ok_idiv (m_dk dk_X7_pays 41 rfl) rfl) <|
  m_cn (pc := 67) (ok_istore (m_dk dk_X7_pays 42 rfl) rfl) <|
  m_cn (pc := 69) (ok_aload_n (m_dk dk_X7_pays 43 rfl) rfl rfl) <|
  m_cn (pc := 70) (ok_getf (k := 26) (hc0 := (rfl : vwCl[8]? = some (RX7, TX7, 36))) (by decide) in_X7 wd_815 (m_dk dk_X7_pays 44 rfl) rfl) <|
  m_cn (pc := 73) (ok_iload (m_dk dk_X7_pays 45 rfl) rfl) <|
  m_cn (pc := 75) (ok_dup2 (m_dk dk_X7_pays 46 rfl) rfl) <|
  m_cn (pc := 76) (ok_iald (m_dk dk_X7_pays 47 rfl) rfl) <|
  m_cn (pc := 77) (ok_iload (m_dk dk_X7_pays 48 rfl) rfl) <|
  m_cn (pc := 79) (ok_isub (m_dk dk_X7_pays 49 rfl) rfl) <|
  m_cn (pc := 80) (ok_iast (m_dk dk_X7_pays 50 rfl) rfl) <|
  m_cn (pc := 81) (ok_iload (m_dk dk_X7_pays 51 rfl) rfl) <|
  m_cn (pc := 83) (ok_iload (m_dk dk_X7_pays 52 rfl) rfl) <|
  m_cn (pc := 85) (ok_isub (m_dk dk_X7_pays 53 rfl) rfl) <|
  m_cn (pc := 86) (ok_istore (m_dk dk_X7_pays 54 rfl) rfl) <|
  m_cn (pc := 88) (ok_iload (m_dk dk_X7_pays 55 rfl) rfl) <|
  m_cn (pc := 90) (ok_ifle (m_dk dk_X7_pays 56 rfl) rfl rfl) <|
  m_cn (pc := 93) (ok_iload (m_dk dk_X7_pays 57 rfl) rfl) <|
  m_cn (pc := 95) (ok_goto (nx := 0) (m_dk dk_X7_pays 58 rfl) rfl) <|
  m_cn (pc := 98) (ok_iload (m_dk dk_X7_pays 59 rfl) rfl) <|
  m_cn (pc := 100) (ok_istore (m_dk dk_X7_pays 60 rfl) rfl) <|
  m_cn (pc := 102) (ok_iinc (m_dk dk_X7_pays 61 rfl) (by decide) rfl) <|
  m_cn (pc := 105) (ok_goto (nx := 0) (m_dk dk_X7_pays 62 rfl) rfl) <|
  m_cn (pc := 108) (ok_aload_n (m_dk dk_X7_pays 63 rfl) rfl rfl) <|
  m_cn (pc := 109) (ok_getf (k := 26) (hc0 := (rfl : vwCl[8]? = some (RX7, TX7, 36))) (by decide) in_X7 wd_815 (m_dk dk_X7_pays 64 rfl) rfl) <|
  m_cn (pc := 112) (ok_iload (m_dk dk_X7_pays 65 rfl) rfl) <|
  m_cn (pc := 114) (ok_dup2 (m_dk dk_X7_pays 66 rfl) rfl) <|
  m_cn (pc := 115) (ok_iald (m_dk dk_X7_pays 67 rfl) rfl) <|
  m_cn (pc := 116) (ok_iload (m_dk dk_X7_pays 68 rfl) rfl) <|
  m_cn (pc := 118) (ok_isub (m_dk dk_X7_pays 69 rfl) rfl) <|
  m_cn (pc := 119) (ok_iast (m_dk dk_X7_pays 70 rfl) rfl) <|
  m_cn (pc := 120) (ok_return (nx := 0) rfl (m_dk dk_X7_pays 71 rfl)) <|
  m_nl
theorem mk_X7_pays {GP : m_G → Prop} {cds : Nat → Nat → m_Op} (h : cds 90 = m_lk cd_X7_pays) : m_MOK GP m_my cds 90 := ⟨RX7, false, [], by decide +kernel, rfl, (fun h9 => by first | rfl | cases h9), Or.inl ⟨rfl, rfl⟩, fun pc => by rw [h]; exact m_lk_ok _ ok_X7_pays pc⟩
def dl_X7_firstCut : List (Nat × Instr × Nat) := [(0, .iconst (-1), 1), (1, .istore_n 1, 1), (2, .iconst 0, 1), (3, .istore_n 2, 1), (4, .iload_n 2, 1), (5, .aload_n 0, 1), (6, .getfield 96, 3), (9, .if_icmp .ge 50, 3), (12, .aload_n 0, 1), (13, .iload_n 2, 1), (14, .invokevirtual 127, 3), (17, .istore_n 3, 1), (18, .iload_n 3, 1), (19, .iconst (-1), 1), (20, .if_icmp .eq 31, 3), (23, .iload_n 1, 1), (24, .iconst (-1), 1), (25, .if_icmp .eq 22, 3), (28, .aload_n 0, 1), (29, .getfield 43, 3), (32, .iload_n 3, 1), (33, .iaload, 1), (34, .aload_n 0, 1), (35, .getfield 43, 3), (38, .aload_n 0, 1), (39, .iload_n 1, 1), (40, .invokevirtual 127, 3), (43, .iaload, 1), (44, .if_icmp .ge 7, 3), (47, .iload_n 2, 1), (48, .goto 4, 3), (51, .iload_n 1, 1), (52, .istore_n 1, 1), (53, .iinc 2 1, 3), (56, .goto (-52), 3), (59, .iload_n 1, 1), (60, .ireturn, 1)]
theorem dk_X7_firstCut : ∀ q ∈ dl_X7_firstCut, decode cX7_firstCut q.1 = .ok q.2 := by decide +kernel
def cd_X7_firstCut : List (Nat × m_Op) := [(0, o_const (-1) 1), (1, o_istore 1 2), (2, o_const (0) 3), (3, o_istore 2 4), (4, o_iload 2 5), (5, o_aload 0 6), (6, o_getf 8 1 9), (9, o_icmpge 59 12), (12, o_aload 0 13), (13, o_iload 2 14), (14, o_callv 8 76 2 0 0 17), (17, o_istore 3 18), (18, o_iload 3 19), (19, o_const (-1) 20), (20, o_icmpeq 51 23), (23, o_iload 1 24), (24, o_const (-1) 25), (25, o_icmpeq 47 28), (28, o_aload 0 29), (29, o_getf 8 15 32), (32, o_iload 3 33), (33, o_iald 0 34), (34, o_aload 0 35), (35, o_getf 8 15 38), (38, o_aload 0 39), (39, o_iload 1 40), (40, o_callv 8 76 2 0 0 43), (43, o_iald 0 44), (44, o_icmpge 51 47), (47, o_iload 2 48), (48, o_goto 52), (51, o_iload 1 52), (52, o_istore 1 53), (53, o_iinc 2 (1) 56), (56, o_goto 4), (59, o_iload 1 60), (60, o_ireturn)]
set_option maxRecDepth 20000 in
set_option maxHeartbeats 4000000 in
theorem ok_X7_firstCut {GP : m_G → Prop} : ∀ q ∈ cd_X7_firstCut, m_OK GP m_my (cX7_firstCut, 4, RX7, false, (some .int), []) q.1 q.2 :=
  m_cn (pc := 0) (ok_iconst (m_dk dk_X7_firstCut 0 rfl) (by decide) rfl) <|
  m_cn (pc := 1) (ok_istore_n (m_dk dk_X7_firstCut 1 rfl) rfl rfl) <|
  m_cn (pc := 2) (ok_iconst (m_dk dk_X7_firstCut 2 rfl) (by decide) rfl) <|
  m_cn (pc := 3) (ok_istore_n (m_dk dk_X7_firstCut 3 rfl) rfl rfl) <|
  m_cn (pc := 4) (ok_iload_n (m_dk dk_X7_firstCut 4 rfl) rfl rfl) <|
  m_cn (pc := 5) (ok_aload_n (m_dk dk_X7_firstCut 5 rfl) rfl rfl) <|
  m_cn (pc := 6) (ok_getf (k := 1) (hc0 := (rfl : vwCl[8]? = some (RX7, TX7, 36))) (by decide) in_X7 wd_790 (m_dk dk_X7_firstCut 6 rfl) rfl) <|
  m_cn (pc := 9) (ok_icmpge (m_dk dk_X7_firstCut 7 rfl) rfl rfl) <|
  m_cn (pc := 12) (ok_aload_n (m_dk dk_X7_firstCut 8 rfl) rfl rfl) <|
  m_cn (pc := 13) (ok_iload_n (m_dk dk_X7_firstCut 9 rfl) rfl rfl) <|
  m_cn (pc := 14) (ok_callv (T := mt_X7_cutOf) my_X7_cutOf rfl cw_X7_cutOf rfl rfl (by decide) (r9 := (RX7, TX7, 36)) rfl rfl wd_940 wd_942 (m_wk 24 (by decide +kernel) (by decide +kernel)) wd_6 (by decide +kernel) (m_dk dk_X7_firstCut 10 rfl) rfl) <|
  m_cn (pc := 17) (ok_istore_n (m_dk dk_X7_firstCut 11 rfl) rfl rfl) <|
  m_cn (pc := 18) (ok_iload_n (m_dk dk_X7_firstCut 12 rfl) rfl rfl) <|
  m_cn (pc := 19) (ok_iconst (m_dk dk_X7_firstCut 13 rfl) (by decide) rfl) <|
  m_cn (pc := 20) (ok_icmpeq (m_dk dk_X7_firstCut 14 rfl) rfl rfl) <|
  m_cn (pc := 23) (ok_iload_n (m_dk dk_X7_firstCut 15 rfl) rfl rfl) <|
  m_cn (pc := 24) (ok_iconst (m_dk dk_X7_firstCut 16 rfl) (by decide) rfl) <|
  m_cn (pc := 25) (ok_icmpeq (m_dk dk_X7_firstCut 17 rfl) rfl rfl) <|
  m_cn (pc := 28) (ok_aload_n (m_dk dk_X7_firstCut 18 rfl) rfl rfl) <|
  m_cn (pc := 29) (ok_getf (k := 15) (hc0 := (rfl : vwCl[8]? = some (RX7, TX7, 36))) (by decide) in_X7 wd_804 (m_dk dk_X7_firstCut 19 rfl) rfl) <|
  m_cn (pc := 32) (ok_iload_n (m_dk dk_X7_firstCut 20 rfl) rfl rfl) <|
  m_cn (pc := 33) (ok_iald (m_dk dk_X7_firstCut 21 rfl) rfl) <|
  m_cn (pc := 34) (ok_aload_n (m_dk dk_X7_firstCut 22 rfl) rfl rfl) <|
  m_cn (pc := 35) (ok_getf (k := 15) (hc0 := (rfl : vwCl[8]? = some (RX7, TX7, 36))) (by decide) in_X7 wd_804 (m_dk dk_X7_firstCut 23 rfl) rfl) <|
  m_cn (pc := 38) (ok_aload_n (m_dk dk_X7_firstCut 24 rfl) rfl rfl) <|
  m_cn (pc := 39) (ok_iload_n (m_dk dk_X7_firstCut 25 rfl) rfl rfl) <|
  m_cn (pc := 40) (ok_callv (T := mt_X7_cutOf) my_X7_cutOf rfl cw_X7_cutOf rfl rfl (by decide) (r9 := (RX7, TX7, 36)) rfl rfl wd_940 wd_942 (m_wk 24 (by decide +kernel) (by decide +kernel)) wd_6 (by decide +kernel) (m_dk dk_X7_firstCut 26 rfl) rfl) <|
  m_cn (pc := 43) (ok_iald (m_dk dk_X7_firstCut 27 rfl) rfl) <|
  m_cn (pc := 44) (ok_icmpge (m_dk dk_X7_firstCut 28 rfl) rfl rfl) <|
  m_cn (pc := 47) (ok_iload_n (m_dk dk_X7_firstCut 29 rfl) rfl rfl) <|
  m_cn (pc := 48) (ok_goto (nx := 0) (m_dk dk_X7_firstCut 30 rfl) rfl) <|
  m_cn (pc := 51) (ok_iload_n (m_dk dk_X7_firstCut 31 rfl) rfl rfl) <|
  m_cn (pc := 52) (ok_istore_n (m_dk dk_X7_firstCut 32 rfl) rfl rfl) <|
  m_cn (pc := 53) (ok_iinc (m_dk dk_X7_firstCut 33 rfl) (by decide) rfl) <|
  m_cn (pc := 56) (ok_goto (nx := 0) (m_dk dk_X7_firstCut 34 rfl) rfl) <|
  m_cn (pc := 59) (ok_iload_n (m_dk dk_X7_firstCut 35 rfl) rfl rfl) <|
  m_cn (pc := 60) (ok_ireturn (nx := 0) rfl (m_dk dk_X7_firstCut 36 rfl)) <|
  m_nl
theorem mk_X7_firstCut {GP : m_G → Prop} {cds : Nat → Nat → m_Op} (h : cds 91 = m_lk cd_X7_firstCut) : m_MOK GP m_my cds 91 := ⟨RX7, false, [], by decide +kernel, rfl, (fun h9 => by first | rfl | cases h9), Or.inl ⟨rfl, rfl⟩, fun pc => by rw [h]; exact m_lk_ok _ ok_X7_firstCut pc⟩
def dl_X7_credits : List (Nat × Instr × Nat) := [(0, .iconst 5, 1), (1, .aload_n 0, 1), (2, .getfield 28, 3), (5, .iload_n 1, 1), (6, .iaload, 1), (7, .imul, 1), (8, .istore_n 2, 1), (9, .aload_n 0, 1), (10, .getfield 74, 3), (13, .aload_n 0, 1), (14, .getfield 19, 3), (17, .iload_n 1, 1), (18, .iaload, 1), (19, .dup2, 1), (20, .iaload, 1), (21, .iload_n 2, 1), (22, .iadd, 1), (23, .iastore, 1), (24, .aload_n 0, 1), (25, .invokevirtual 177, 3), (28, .istore_n 3, 1), (29, .iload_n 3, 1), (30, .iconst (-1), 1), (31, .if_icmp .ne 17, 3), (34, .aload_n 0, 1), (35, .getfield 74, 3), (38, .bipush 6, 2), (40, .dup2, 1), (41, .iaload, 1), (42, .iload_n 2, 1), (43, .isub, 1), (44, .iastore, 1), (45, .goto 9, 3), (48, .aload_n 0, 1), (49, .iload_n 3, 1), (50, .iload_n 2, 1), (51, .invokevirtual 181, 3), (54, .return_, 1)]
theorem dk_X7_credits : ∀ q ∈ dl_X7_credits, decode cX7_credits q.1 = .ok q.2 := by decide +kernel
def cd_X7_credits : List (Nat × m_Op) := [(0, o_const (5) 1), (1, o_aload 0 2), (2, o_getf 8 9 5), (5, o_iload 1 6), (6, o_iald 0 7), (7, o_bin (fun x y => x * y) 8), (8, o_istore 2 9), (9, o_aload 0 10), (10, o_getf 8 26 13), (13, o_aload 0 14), (14, o_getf 8 6 17), (17, o_iload 1 18), (18, o_iald 0 19), (19, o_dup2 20), (20, o_iald 0 21), (21, o_iload 2 22), (22, o_bin (fun x y => x + y) 23), (23, o_iast 24), (24, o_aload 0 25), (25, o_callv 8 91 1 0 0 28), (28, o_istore 3 29), (29, o_iload 3 30), (30, o_const (-1) 31), (31, o_icmpne 48 34), (34, o_aload 0 35), (35, o_getf 8 26 38), (38, o_const (6) 40), (40, o_dup2 41), (41, o_iald 0 42), (42, o_iload 2 43), (43, o_bin (fun x y => x - y) 44), (44, o_iast 45), (45, o_goto 54), (48, o_aload 0 49), (49, o_iload 3 50), (50, o_iload 2 51), (51, o_callv 8 90 3 0 0 54), (54, o_return)]
set_option maxRecDepth 20000 in
set_option maxHeartbeats 4000000 in
theorem ok_X7_credits {GP : m_G → Prop} : ∀ q ∈ cd_X7_credits, m_OK GP m_my (cX7_credits, 4, RX7, false, none, []) q.1 q.2 :=
  m_cn (pc := 0) (ok_iconst (m_dk dk_X7_credits 0 rfl) (by decide) rfl) <|
  m_cn (pc := 1) (ok_aload_n (m_dk dk_X7_credits 1 rfl) rfl rfl) <|
  m_cn (pc := 2) (ok_getf (k := 9) (hc0 := (rfl : vwCl[8]? = some (RX7, TX7, 36))) (by decide) in_X7 wd_798 (m_dk dk_X7_credits 2 rfl) rfl) <|
  m_cn (pc := 5) (ok_iload_n (m_dk dk_X7_credits 3 rfl) rfl rfl) <|
  m_cn (pc := 6) (ok_iald (m_dk dk_X7_credits 4 rfl) rfl) <|
  m_cn (pc := 7) (ok_imul (m_dk dk_X7_credits 5 rfl) rfl) <|
  m_cn (pc := 8) (ok_istore_n (m_dk dk_X7_credits 6 rfl) rfl rfl) <|
  m_cn (pc := 9) (ok_aload_n (m_dk dk_X7_credits 7 rfl) rfl rfl) <|
  m_cn (pc := 10) (ok_getf (k := 26) (hc0 := (rfl : vwCl[8]? = some (RX7, TX7, 36))) (by decide) in_X7 wd_815 (m_dk dk_X7_credits 8 rfl) rfl) <|
  m_cn (pc := 13) (ok_aload_n (m_dk dk_X7_credits 9 rfl) rfl rfl) <|
  m_cn (pc := 14) (ok_getf (k := 6) (hc0 := (rfl : vwCl[8]? = some (RX7, TX7, 36))) (by decide) in_X7 wd_795 (m_dk dk_X7_credits 10 rfl) rfl) <|
  m_cn (pc := 17) (ok_iload_n (m_dk dk_X7_credits 11 rfl) rfl rfl) <|
  m_cn (pc := 18) (ok_iald (m_dk dk_X7_credits 12 rfl) rfl) <|
  m_cn (pc := 19) (ok_dup2 (m_dk dk_X7_credits 13 rfl) rfl) <|
  m_cn (pc := 20) (ok_iald (m_dk dk_X7_credits 14 rfl) rfl) <|
  m_cn (pc := 21) (ok_iload_n (m_dk dk_X7_credits 15 rfl) rfl rfl) <|
  m_cn (pc := 22) (ok_iadd (m_dk dk_X7_credits 16 rfl) rfl) <|
  m_cn (pc := 23) (ok_iast (m_dk dk_X7_credits 17 rfl) rfl) <|
  m_cn (pc := 24) (ok_aload_n (m_dk dk_X7_credits 18 rfl) rfl rfl) <|
  m_cn (pc := 25) (ok_callv (T := mt_X7_firstCut) my_X7_firstCut rfl cw_X7_firstCut rfl rfl (by decide) (r9 := (RX7, TX7, 36)) rfl rfl wd_1016 wd_1018 (m_wk 38 (by decide +kernel) (by decide +kernel)) wd_6 (by decide +kernel) (m_dk dk_X7_credits 19 rfl) rfl) <|
  m_cn (pc := 28) (ok_istore_n (m_dk dk_X7_credits 20 rfl) rfl rfl) <|
  m_cn (pc := 29) (ok_iload_n (m_dk dk_X7_credits 21 rfl) rfl rfl) <|
  m_cn (pc := 30) (ok_iconst (m_dk dk_X7_credits 22 rfl) (by decide) rfl) <|
  m_cn (pc := 31) (ok_icmpne (m_dk dk_X7_credits 23 rfl) rfl rfl) <|
  m_cn (pc := 34) (ok_aload_n (m_dk dk_X7_credits 24 rfl) rfl rfl) <|
  m_cn (pc := 35) (ok_getf (k := 26) (hc0 := (rfl : vwCl[8]? = some (RX7, TX7, 36))) (by decide) in_X7 wd_815 (m_dk dk_X7_credits 25 rfl) rfl) <|
  m_cn (pc := 38) (ok_bipush (m_dk dk_X7_credits 26 rfl) (by decide) rfl) <|
  m_cn (pc := 40) (ok_dup2 (m_dk dk_X7_credits 27 rfl) rfl) <|
  m_cn (pc := 41) (ok_iald (m_dk dk_X7_credits 28 rfl) rfl) <|
  m_cn (pc := 42) (ok_iload_n (m_dk dk_X7_credits 29 rfl) rfl rfl) <|
  m_cn (pc := 43) (ok_isub (m_dk dk_X7_credits 30 rfl) rfl) <|
  m_cn (pc := 44) (ok_iast (m_dk dk_X7_credits 31 rfl) rfl) <|
  m_cn (pc := 45) (ok_goto (nx := 0) (m_dk dk_X7_credits 32 rfl) rfl) <|
  m_cn (pc := 48) (ok_aload_n (m_dk dk_X7_credits 33 rfl) rfl rfl) <|
  m_cn (pc := 49) (ok_iload_n (m_dk dk_X7_credits 34 rfl) rfl rfl) <|
  m_cn (pc := 50) (ok_iload_n (m_dk dk_X7_credits 35 rfl) rfl rfl) <|
  m_cn (pc := 51) (ok_callv (T := mt_X7_pays) my_X7_pays rfl cw_X7_pays rfl rfl (by decide) (r9 := (RX7, TX7, 36)) rfl rfl wd_1020 wd_1022 (m_wk 39 (by decide +kernel) (by decide +kernel)) wd_6 (by decide +kernel) (m_dk dk_X7_credits 36 rfl) rfl) <|
  m_cn (pc := 54) (ok_return (nx := 0) rfl (m_dk dk_X7_credits 37 rfl)) <|
  m_nl
theorem mk_X7_credits {GP : m_G → Prop} {cds : Nat → Nat → m_Op} (h : cds 92 = m_lk cd_X7_credits) : m_MOK GP m_my cds 92 := ⟨RX7, false, [], by decide +kernel, rfl, (fun h9 => by first | rfl | cases h9), Or.inl ⟨rfl, rfl⟩, fun pc => by rw [h]; exact m_lk_ok _ ok_X7_credits pc⟩
def dl_X7_does : List (Nat × Instr × Nat) := [(0, .aload_n 0, 1), (1, .getfield 58, 3), (4, .iload_n 1, 1), (5, .iaload, 1), (6, .istore_n 2, 1), (7, .iload_n 2, 1), (8, .iconst (-1), 1), (9, .if_icmp .ne 4, 3), (12, .return_, 1), (13, .aload_n 0, 1), (14, .dup, 1), (15, .getfield 185, 3), (18, .bipush 20, 2), (20, .iadd, 1), (21, .putfield 185, 3), (24, .aload_n 0, 1), (25, .aload_n 0, 1), (26, .getfield 37, 3), (29, .iload_n 2, 1), (30, .iaload, 1), (31, .bipush 20, 2), (33, .invokevirtual 181, 3), (36, .aload_n 0, 1), (37, .getfield 40, 3), (40, .iload_n 2, 1), (41, .iaload, 1), (42, .aload_n 0, 1), (43, .getfield 49, 3), (46, .iload_n 1, 1), (47, .iaload, 1), (48, .isub, 1), (49, .istore_n 3, 1), (50, .iload_n 3, 1), (51, .ifCond .eq 63, 3), (54, .iload_n 3, 1), (55, .ifCond .ge 8, 3), (58, .iload_n 3, 1), (59, .ineg, 1), (60, .goto 4, 3), (63, .iload_n 3, 1), (64, .istore 4, 2), (66, .iload 4, 2), (68, .aload_n 0, 1), (69, .getfield 52, 3), (72, .iload_n 1, 1), (73, .iaload, 1), (74, .if_icmp .ge 8, 3), (77, .iload 4, 2), (79, .goto 9, 3), (82, .aload_n 0, 1), (83, .getfield 52, 3), (86, .iload_n 1, 1), (87, .iaload, 1), (88, .istore 4, 2), (90, .aload_n 0, 1), (91, .getfield 49, 3), (94, .iload_n 1, 1), (95, .dup2, 1), (96, .iaload, 1), (97, .iload_n 3, 1), (98, .ifCond .ge 9, 3), (101, .iload 4, 2), (103, .ineg, 1), (104, .goto 5, 3), (107, .iload 4, 2), (109, .iadd, 1), (110, .iastore, 1), (111, .goto 67, 3), (114, .aload_n 0, 1), (115, .getfield 133, 3), (118, .aload_n 0, 1), (119, .getfield 61, 3), (122, .aload_n 0, 1), (123, .getfield 65, 3), (126, .invokestatic 92, 3), (129, .ifCond .ne 49, 3), (132, .aload_n 0, 1), (133, .getfield 55, 3), (136, .iload_n 1, 1), (137, .iaload, 1), (138, .ifCond .le 40, 3), (141, .aload_n 0, 1), (142, .getfield 46, 3), (145, .iload_n 2, 1), (146, .dup2, 1), (147, .iaload, 1), (148, .iconst 1, 1), (149, .iadd, 1), (150, .iastore, 1), (151, .aload_n 0, 1), (152, .getfield 46, 3), (155, .iload_n 2, 1), (156, .iaload, 1), (157, .iconst 5, 1), (158, .if_icmp .ne 20, 3), (161, .aload_n 0, 1), (162, .getfield 55, 3), (165, .iload_n 1, 1), (166, .dup2, 1), (167, .iaload, 1), (168, .iconst 1, 1), (169, .isub, 1), (170, .iastore, 1), (171, .aload_n 0, 1), (172, .getfield 58, 3), (175, .iload_n 1, 1), (176, .iconst (-1), 1), (177, .iastore, 1), (178, .return_, 1)]
theorem dk_X7_does : ∀ q ∈ dl_X7_does, decode cX7_does q.1 = .ok q.2 := by decide +kernel
def cd_X7_does : List (Nat × m_Op) := [(0, o_aload 0 1), (1, o_getf 8 21 4), (4, o_iload 1 5), (5, o_iald 0 6), (6, o_istore 2 7), (7, o_iload 2 8), (8, o_const (-1) 9), (9, o_icmpne 13 12), (12, o_return), (13, o_aload 0 14), (14, o_dup 15), (15, o_getf 8 27 18), (18, o_const (20) 20), (20, o_bin (fun x y => x + y) 21), (21, o_puti 8 27 24), (24, o_aload 0 25), (25, o_aload 0 26), (26, o_getf 8 13 29), (29, o_iload 2 30), (30, o_iald 0 31), (31, o_const (20) 33), (33, o_callv 8 90 3 0 0 36), (36, o_aload 0 37), (37, o_getf 8 14 40), (40, o_iload 2 41), (41, o_iald 0 42), (42, o_aload 0 43), (43, o_getf 8 18 46), (46, o_iload 1 47), (47, o_iald 0 48), (48, o_bin (fun x y => x - y) 49), (49, o_istore 3 50), (50, o_iload 3 51), (51, o_ifeq 114 54), (54, o_iload 3 55), (55, o_ifge 63 58), (58, o_iload 3 59), (59, o_un (fun x => -x) 60), (60, o_goto 64), (63, o_iload 3 64), (64, o_istore 4 66), (66, o_iload 4 68), (68, o_aload 0 69), (69, o_getf 8 19 72), (72, o_iload 1 73), (73, o_iald 0 74), (74, o_icmpge 82 77), (77, o_iload 4 79), (79, o_goto 88), (82, o_aload 0 83), (83, o_getf 8 19 86), (86, o_iload 1 87), (87, o_iald 0 88), (88, o_istore 4 90), (90, o_aload 0 91), (91, o_getf 8 18 94), (94, o_iload 1 95), (95, o_dup2 96), (96, o_iald 0 97), (97, o_iload 3 98), (98, o_ifge 107 101), (101, o_iload 4 103), (103, o_un (fun x => -x) 104), (104, o_goto 109), (107, o_iload 4 109), (109, o_bin (fun x y => x + y) 110), (110, o_iast 111), (111, o_goto 178), (114, o_aload 0 115), (115, o_getf 8 0 118), (118, o_aload 0 119), (119, o_getf 8 22 122), (122, o_aload 0 123), (123, o_getf 8 23 126), (126, o_call 63 3 0 0 129), (129, o_ifne 178 132), (132, o_aload 0 133), (133, o_getf 8 20 136), (136, o_iload 1 137), (137, o_iald 0 138), (138, o_ifle 178 141), (141, o_aload 0 142), (142, o_getf 8 16 145), (145, o_iload 2 146), (146, o_dup2 147), (147, o_iald 0 148), (148, o_const (1) 149), (149, o_bin (fun x y => x + y) 150), (150, o_iast 151), (151, o_aload 0 152), (152, o_getf 8 16 155), (155, o_iload 2 156), (156, o_iald 0 157), (157, o_const (5) 158), (158, o_icmpne 178 161), (161, o_aload 0 162), (162, o_getf 8 20 165), (165, o_iload 1 166), (166, o_dup2 167), (167, o_iald 0 168), (168, o_const (1) 169), (169, o_bin (fun x y => x - y) 170), (170, o_iast 171), (171, o_aload 0 172), (172, o_getf 8 21 175), (175, o_iload 1 176), (176, o_const (-1) 177), (177, o_iast 178), (178, o_return)]
set_option maxRecDepth 20000 in
set_option maxHeartbeats 4000000 in
theorem ok_X7_does {GP : m_G → Prop} : ∀ q ∈ cd_X7_does, m_OK GP m_my (cX7_does, 5, RX7, false, none, []) q.1 q.2 :=
  m_cn (pc := 0) (ok_aload_n (m_dk dk_X7_does 0 rfl) rfl rfl) <|
  m_cn (pc := 1) (ok_getf (k := 21) (hc0 := (rfl : vwCl[8]? = some (RX7, TX7, 36))) (by decide) in_X7 wd_810 (m_dk dk_X7_does 1 rfl) rfl) <|
  m_cn (pc := 4) (ok_iload_n (m_dk dk_X7_does 2 rfl) rfl rfl) <|
  m_cn (pc := 5) (ok_iald (m_dk dk_X7_does 3 rfl) rfl) <|
  m_cn (pc := 6) (ok_istore_n (m_dk dk_X7_does 4 rfl) rfl rfl) <|
  m_cn (pc := 7) (ok_iload_n (m_dk dk_X7_does 5 rfl) rfl rfl) <|
  m_cn (pc := 8) (ok_iconst (m_dk dk_X7_does 6 rfl) (by decide) rfl) <|
  m_cn (pc := 9) (ok_icmpne (m_dk dk_X7_does 7 rfl) rfl rfl) <|
  m_cn (pc := 12) (ok_return (nx := 0) rfl (m_dk dk_X7_does 8 rfl)) <|
  m_cn (pc := 13) (ok_aload_n (m_dk dk_X7_does 9 rfl) rfl rfl) <|
  m_cn (pc := 14) (ok_dup (m_dk dk_X7_does 10 rfl) rfl) <|
  m_cn (pc := 15) (ok_getf (k := 27) (hc0 := (rfl : vwCl[8]? = some (RX7, TX7, 36))) (by decide) in_X7 wd_816 (m_dk dk_X7_does 11 rfl) rfl) <|
  m_cn (pc := 18) (ok_bipush (m_dk dk_X7_does 12 rfl) (by decide) rfl) <|
  m_cn (pc := 20) (ok_iadd (m_dk dk_X7_does 13 rfl) rfl) <|
  m_cn (pc := 21) (ok_puti (k := 27) (hc0 := (rfl : vwCl[8]? = some (RX7, TX7, 36))) (by decide) in_X7 wd_816 tyX7 tyX7_ok nmX7 rfl (tyX7_ok 27 (by decide)) (m_dk dk_X7_does 14 rfl) rfl) <|
  m_cn (pc := 24) (ok_aload_n (m_dk dk_X7_does 15 rfl) rfl rfl) <|
  m_cn (pc := 25) (ok_aload_n (m_dk dk_X7_does 16 rfl) rfl rfl) <|
  m_cn (pc := 26) (ok_getf (k := 13) (hc0 := (rfl : vwCl[8]? = some (RX7, TX7, 36))) (by decide) in_X7 wd_802 (m_dk dk_X7_does 17 rfl) rfl) <|
  m_cn (pc := 29) (ok_iload_n (m_dk dk_X7_does 18 rfl) rfl rfl) <|
  m_cn (pc := 30) (ok_iald (m_dk dk_X7_does 19 rfl) rfl) <|
  m_cn (pc := 31) (ok_bipush (m_dk dk_X7_does 20 rfl) (by decide) rfl) <|
  m_cn (pc := 33) (ok_callv (T := mt_X7_pays) my_X7_pays rfl cw_X7_pays rfl rfl (by decide) (r9 := (RX7, TX7, 36)) rfl rfl wd_1020 wd_1022 (m_wk 39 (by decide +kernel) (by decide +kernel)) wd_6 (by decide +kernel) (m_dk dk_X7_does 21 rfl) rfl) <|
  m_cn (pc := 36) (ok_aload_n (m_dk dk_X7_does 22 rfl) rfl rfl) <|
  m_cn (pc := 37) (ok_getf (k := 14) (hc0 := (rfl : vwCl[8]? = some (RX7, TX7, 36))) (by decide) in_X7 wd_803 (m_dk dk_X7_does 23 rfl) rfl) <|
  m_cn (pc := 40) (ok_iload_n (m_dk dk_X7_does 24 rfl) rfl rfl) <|
  m_cn (pc := 41) (ok_iald (m_dk dk_X7_does 25 rfl) rfl) <|
  m_cn (pc := 42) (ok_aload_n (m_dk dk_X7_does 26 rfl) rfl rfl) <|
  m_cn (pc := 43) (ok_getf (k := 18) (hc0 := (rfl : vwCl[8]? = some (RX7, TX7, 36))) (by decide) in_X7 wd_807 (m_dk dk_X7_does 27 rfl) rfl) <|
  m_cn (pc := 46) (ok_iload_n (m_dk dk_X7_does 28 rfl) rfl rfl) <|
  m_cn (pc := 47) (ok_iald (m_dk dk_X7_does 29 rfl) rfl) <|
  m_cn (pc := 48) (ok_isub (m_dk dk_X7_does 30 rfl) rfl) <|
  m_cn (pc := 49) (ok_istore_n (m_dk dk_X7_does 31 rfl) rfl rfl) <|
  m_cn (pc := 50) (ok_iload_n (m_dk dk_X7_does 32 rfl) rfl rfl) <|
  m_cn (pc := 51) (ok_ifeq (m_dk dk_X7_does 33 rfl) rfl rfl) <|
  m_cn (pc := 54) (ok_iload_n (m_dk dk_X7_does 34 rfl) rfl rfl) <|
  m_cn (pc := 55) (ok_ifge (m_dk dk_X7_does 35 rfl) rfl rfl) <|
  m_cn (pc := 58) (ok_iload_n (m_dk dk_X7_does 36 rfl) rfl rfl) <|
  m_cn (pc := 59) (ok_ineg (m_dk dk_X7_does 37 rfl) rfl) <|
  m_cn (pc := 60) (ok_goto (nx := 0) (m_dk dk_X7_does 38 rfl) rfl) <|
  m_cn (pc := 63) (ok_iload_n (m_dk dk_X7_does 39 rfl) rfl rfl) <|
  m_cn (pc := 64) (ok_istore (m_dk dk_X7_does 40 rfl) rfl) <|
  m_cn (pc := 66) (ok_iload (m_dk dk_X7_does 41 rfl) rfl) <|
  m_cn (pc := 68) (ok_aload_n (m_dk dk_X7_does 42 rfl) rfl rfl) <|
  m_cn (pc := 69) (ok_getf (k := 19) (hc0 := (rfl : vwCl[8]? = some (RX7, TX7, 36))) (by decide) in_X7 wd_808 (m_dk dk_X7_does 43 rfl) rfl) <|
  m_cn (pc := 72) (ok_iload_n (m_dk dk_X7_does 44 rfl) rfl rfl) <|
  m_cn (pc := 73) (ok_iald (m_dk dk_X7_does 45 rfl) rfl) <|
  m_cn (pc := 74) (ok_icmpge (m_dk dk_X7_does 46 rfl) rfl rfl) <|
  m_cn (pc := 77) (ok_iload (m_dk dk_X7_does 47 rfl) rfl) <|
  m_cn (pc := 79) (ok_goto (nx := 0) (m_dk dk_X7_does 48 rfl) rfl) <|
  m_cn (pc := 82) (ok_aload_n (m_dk dk_X7_does 49 rfl) rfl rfl) <|
  m_cn (pc := 83) (ok_getf (k := 19) (hc0 := (rfl : vwCl[8]? = some (RX7, TX7, 36))) (by decide) in_X7 wd_808 (m_dk dk_X7_does 50 rfl) rfl) <|
  m_cn (pc := 86) (ok_iload_n (m_dk dk_X7_does 51 rfl) rfl rfl) <|
  m_cn (pc := 87) (ok_iald (m_dk dk_X7_does 52 rfl) rfl) <|
  m_cn (pc := 88) (ok_istore (m_dk dk_X7_does 53 rfl) rfl) <|
  m_cn (pc := 90) (ok_aload_n (m_dk dk_X7_does 54 rfl) rfl rfl) <|
  m_cn (pc := 91) (ok_getf (k := 18) (hc0 := (rfl : vwCl[8]? = some (RX7, TX7, 36))) (by decide) in_X7 wd_807 (m_dk dk_X7_does 55 rfl) rfl) <|
  m_cn (pc := 94) (ok_iload_n (m_dk dk_X7_does 56 rfl) rfl rfl) <|
  m_cn (pc := 95) (ok_dup2 (m_dk dk_X7_does 57 rfl) rfl) <|
  m_cn (pc := 96) (ok_iald (m_dk dk_X7_does 58 rfl) rfl) <|
  m_cn (pc := 97) (ok_iload_n (m_dk dk_X7_does 59 rfl) rfl rfl) <|
  m_cn (pc := 98) (ok_ifge (m_dk dk_X7_does 60 rfl) rfl rfl) <|
  m_cn (pc := 101) (ok_iload (m_dk dk_X7_does 61 rfl) rfl) <|
  m_cn (pc := 103) (ok_ineg (m_dk dk_X7_does 62 rfl) rfl) <|
  m_cn (pc := 104) (ok_goto (nx := 0) (m_dk dk_X7_does 63 rfl) rfl) <|
  m_cn (pc := 107) (ok_iload (m_dk dk_X7_does 64 rfl) rfl) <|
  m_cn (pc := 109) (ok_iadd (m_dk dk_X7_does 65 rfl) rfl) <|
  m_cn (pc := 110) (ok_iast (m_dk dk_X7_does 66 rfl) rfl) <|
  m_cn (pc := 111) (ok_goto (nx := 0) (m_dk dk_X7_does 67 rfl) rfl) <|
  m_cn (pc := 114) (ok_aload_n (m_dk dk_X7_does 68 rfl) rfl rfl) <|
  m_cn (pc := 115) (ok_getf (k := 0) (hc0 := (rfl : vwCl[8]? = some (RX7, TX7, 36))) (by decide) in_X7 wd_789 (m_dk dk_X7_does 69 rfl) rfl) <|
  m_cn (pc := 118) (ok_aload_n (m_dk dk_X7_does 70 rfl) rfl rfl) <|
  m_cn (pc := 119) (ok_getf (k := 22) (hc0 := (rfl : vwCl[8]? = some (RX7, TX7, 36))) (by decide) in_X7 wd_811 (m_dk dk_X7_does 71 rfl) rfl) <|
  m_cn (pc := 122) (ok_aload_n (m_dk dk_X7_does 72 rfl) rfl rfl) <|
  m_cn (pc := 123) (ok_getf (k := 23) (hc0 := (rfl : vwCl[8]? = some (RX7, TX7, 36))) (by decide) in_X7 wd_812 (m_dk dk_X7_does 73 rfl) rfl) <|
  m_cn (pc := 126) (ok_calls (T := mt_X7_in) my_X7_in rfl cw_X7_in rfl rfl (by decide) wd_909 wd_910 wd_6 (by decide +kernel) (m_dk dk_X7_does 74 rfl) rfl) <|
  m_cn (pc := 129) (ok_ifne (m_dk dk_X7_does 75 rfl) rfl rfl) <|
  m_cn (pc := 132) (ok_aload_n (m_dk dk_X7_does 76 rfl) rfl rfl) <|
  m_cn (pc := 133) (ok_getf (k := 20) (hc0 := (rfl : vwCl[8]? = some (RX7, TX7, 36))) (by decide) in_X7 wd_809 (m_dk dk_X7_does 77 rfl) rfl) <|
  m_cn (pc := 136) (ok_iload_n (m_dk dk_X7_does 78 rfl) rfl rfl) <|
  m_cn (pc := 137) (ok_iald (m_dk dk_X7_does 79 rfl) rfl) <|
  m_cn (pc := 138) (ok_ifle (m_dk dk_X7_does 80 rfl) rfl rfl) <|
  m_cn (pc := 141) (ok_aload_n (m_dk dk_X7_does 81 rfl) rfl rfl) <|
  m_cn (pc := 142) (ok_getf (k := 16) (hc0 := (rfl : vwCl[8]? = some (RX7, TX7, 36))) (by decide) in_X7 wd_805 (m_dk dk_X7_does 82 rfl) rfl) <|
  m_cn (pc := 145) (ok_iload_n (m_dk dk_X7_does 83 rfl) rfl rfl) <|
  m_cn (pc := 146) (ok_dup2 (m_dk dk_X7_does 84 rfl) rfl) <|
  m_cn (pc := 147) (ok_iald (m_dk dk_X7_does 85 rfl) rfl) <|
  m_cn (pc := 148) (ok_iconst (m_dk dk_X7_does 86 rfl) (by decide) rfl) <|
  m_cn (pc := 149) (ok_iadd (m_dk dk_X7_does 87 rfl) rfl) <|
  m_cn (pc := 150) (ok_iast (m_dk dk_X7_does 88 rfl) rfl) <|
  m_cn (pc := 151) (ok_aload_n (m_dk dk_X7_does 89 rfl) rfl rfl) <|
  m_cn (pc := 152) (ok_getf (k := 16) (hc0 := (rfl : vwCl[8]? = some (RX7, TX7, 36))) (by decide) in_X7 wd_805 (m_dk dk_X7_does 90 rfl) rfl) <|
  m_cn (pc := 155) (ok_iload_n (m_dk dk_X7_does 91 rfl) rfl rfl) <|
  m_cn (pc := 156) (ok_iald (m_dk dk_X7_does 92 rfl) rfl) <|
  m_cn (pc := 157) (ok_iconst (m_dk dk_X7_does 93 rfl) (by decide) rfl) <|
  m_cn (pc := 158) (ok_icmpne (m_dk dk_X7_does 94 rfl) rfl rfl) <|
  m_cn (pc := 161) (ok_aload_n (m_dk dk_X7_does 95 rfl) rfl rfl) <|
  m_cn (pc := 162) (ok_getf (k := 20) (hc0 := (rfl : vwCl[8]? = some (RX7, TX7, 36))) (by decide) in_X7 wd_809 (m_dk dk_X7_does 96 rfl) rfl) <|
  m_cn (pc := 165) (ok_iload_n (m_dk dk_X7_does 97 rfl) rfl rfl) <|
  m_cn (pc := 166) (ok_dup2 (m_dk dk_X7_does 98 rfl) rfl) <|
  m_cn (pc := 167) (ok_iald (m_dk dk_X7_does 99 rfl) rfl) <|
  m_cn (pc := 168) (ok_iconst (m_dk dk_X7_does 100 rfl) (by decide) rfl) <|
  m_cn (pc := 169) (ok_isub (m_dk dk_X7_does 101 rfl) rfl) <|
  m_cn (pc := 170) (ok_iast (m_dk dk_X7_does 102 rfl) rfl) <|
  m_cn (pc := 171) (ok_aload_n (m_dk dk_X7_does 103 rfl) rfl rfl) <|
  m_cn (pc := 172) (ok_getf (k := 21) (hc0 := (rfl : vwCl[8]? = some (RX7, TX7, 36))) (by decide) in_X7 wd_810 (m_dk dk_X7_does 104 rfl) rfl) <|
  m_cn (pc := 175) (ok_iload_n (m_dk dk_X7_does 105 rfl) rfl rfl) <|
  m_cn (pc := 176) (ok_iconst (m_dk dk_X7_does 106 rfl) (by decide) rfl) <|
  m_cn (pc := 177) (ok_iast (m_dk dk_X7_does 107 rfl) rfl) <|
  m_cn (pc := 178) (ok_return (nx := 0) rfl (m_dk dk_X7_does 108 rfl)) <|
  m_nl
theorem mk_X7_does {GP : m_G → Prop} {cds : Nat → Nat → m_Op} (h : cds 93 = m_lk cd_X7_does) : m_MOK GP m_my cds 93 := ⟨RX7, false, [], by decide +kernel, rfl, (fun h9 => by first | rfl | cases h9), Or.inl ⟨rfl, rfl⟩, fun pc => by rw [h]; exact m_lk_ok _ ok_X7_does pc⟩
def dl_X7_passes : List (Nat × Instr × Nat) := [(0, .iconst 0, 1), (1, .istore_n 1, 1), (2, .iload_n 1, 1), (3, .bipush 6, 2), (5, .aload_n 0, 1), (6, .getfield 96, 3), (9, .imul, 1), (10, .if_icmp .ge 21, 3), (13, .aload_n 0, 1), (14, .getfield 77, 3), (17, .iload_n 1, 1), (18, .aload_n 0, 1), (19, .getfield 16, 3), (22, .iload_n 1, 1), (23, .iaload, 1), (24, .iastore, 1), (25, .iinc 1 1, 3), (28, .goto (-26), 3), (31, .iconst 0, 1), (32, .istore_n 1, 1), (33, .iload_n 1, 1), (34, .aload_n 0, 1), (35, .getfield 99, 3), (38, .if_icmp .ge 23, 3), (41, .aload_n 0, 1), (42, .getfield 31, 3), (45, .iload_n 1, 1), (46, .iconst (-1), 1), (47, .iastore, 1), (48, .aload_n 0, 1), (49, .getfield 34, 3), (52, .iload_n 1, 1), (53, .iconst 0, 1), (54, .iastore, 1), (55, .iinc 1 1, 3), (58, .goto (-25), 3), (61, .aload_n 0, 1), (62, .iconst 1, 1), (63, .invokevirtual 188, 3), (66, .aload_n 0, 1), (67, .iconst 0, 1), (68, .invokevirtual 188, 3), (71, .iconst 0, 1), (72, .istore_n 1, 1), (73, .iload_n 1, 1), (74, .aload_n 0, 1), (75, .getfield 99, 3), (78, .if_icmp .ge 24, 3), (81, .aload_n 0, 1), (82, .getfield 31, 3), (85, .iload_n 1, 1), (86, .iaload, 1), (87, .iconst (-1), 1), (88, .if_icmp .ne 8, 3), (91, .aload_n 0, 1), (92, .iload_n 1, 1), (93, .invokevirtual 192, 3), (96, .iinc 1 1, 3), (99, .goto (-26), 3), (102, .iconst 0, 1), (103, .istore_n 1, 1), (104, .iload_n 1, 1), (105, .aload_n 0, 1), (106, .getfield 105, 3), (109, .if_icmp .ge 14, 3), (112, .aload_n 0, 1), (113, .iload_n 1, 1), (114, .invokevirtual 196, 3), (117, .iinc 1 1, 3), (120, .goto (-16), 3), (123, .aload_n 0, 1), (124, .dup, 1), (125, .getfield 133, 3), (128, .iconst 1, 1), (129, .iadd, 1), (130, .putfield 133, 3), (133, .return_, 1)]
theorem dk_X7_passes : ∀ q ∈ dl_X7_passes, decode cX7_passes q.1 = .ok q.2 := by decide +kernel
def cd_X7_passes : List (Nat × m_Op) := [(0, o_const (0) 1), (1, o_istore 1 2), (2, o_iload 1 3), (3, o_const (6) 5), (5, o_aload 0 6), (6, o_getf 8 1 9), (9, o_bin (fun x y => x * y) 10), (10, o_icmpge 31 13), (13, o_aload 0 14), (14, o_getf 8 28 17), (17, o_iload 1 18), (18, o_aload 0 19), (19, o_getf 8 4 22), (22, o_iload 1 23), (23, o_iald 0 24), (24, o_iast 25), (25, o_iinc 1 (1) 28), (28, o_goto 2), (31, o_const (0) 32), (32, o_istore 1 33), (33, o_iload 1 34), (34, o_aload 0 35), (35, o_getf 8 5 38), (38, o_icmpge 61 41), (41, o_aload 0 42), (42, o_getf 8 10 45), (45, o_iload 1 46), (46, o_const (-1) 47), (47, o_iast 48), (48, o_aload 0 49), (49, o_getf 8 11 52), (52, o_iload 1 53), (53, o_const (0) 54), (54, o_iast 55), (55, o_iinc 1 (1) 58), (58, o_goto 33), (61, o_aload 0 62), (62, o_const (1) 63), (63, o_callv 8 89 2 0 0 66), (66, o_aload 0 67), (67, o_const (0) 68), (68, o_callv 8 89 2 0 0 71), (71, o_const (0) 72), (72, o_istore 1 73), (73, o_iload 1 74), (74, o_aload 0 75), (75, o_getf 8 5 78), (78, o_icmpge 102 81), (81, o_aload 0 82), (82, o_getf 8 10 85), (85, o_iload 1 86), (86, o_iald 0 87), (87, o_const (-1) 88), (88, o_icmpne 96 91), (91, o_aload 0 92), (92, o_iload 1 93), (93, o_callv 8 92 2 0 0 96), (96, o_iinc 1 (1) 99), (99, o_goto 73), (102, o_const (0) 103), (103, o_istore 1 104), (104, o_iload 1 105), (105, o_aload 0 106), (106, o_getf 8 17 109), (109, o_icmpge 123 112), (112, o_aload 0 113), (113, o_iload 1 114), (114, o_callv 8 93 2 0 0 117), (117, o_iinc 1 (1) 120), (120, o_goto 104), (123, o_aload 0 124), (124, o_dup 125), (125, o_getf 8 0 128), (128, o_const (1) 129), (129, o_bin (fun x y => x + y) 130), (130, o_puti 8 0 133), (133, o_return)]
set_option maxRecDepth 20000 in
set_option maxHeartbeats 4000000 in
theorem ok_X7_passes {GP : m_G → Prop} : ∀ q ∈ cd_X7_passes, m_OK GP m_my (cX7_passes, 2, RX7, false, none, []) q.1 q.2 :=
  m_cn (pc := 0) (ok_iconst (m_dk dk_X7_passes 0 rfl) (by decide) rfl) <|
  m_cn (pc := 1) (ok_istore_n (m_dk dk_X7_passes 1 rfl) rfl rfl) <|
  m_cn (pc := 2) (ok_iload_n (m_dk dk_X7_passes 2 rfl) rfl rfl) <|
  m_cn (pc := 3) (ok_bipush (m_dk dk_X7_passes 3 rfl) (by decide) rfl) <|
  m_cn (pc := 5) (ok_aload_n (m_dk dk_X7_passes 4 rfl) rfl rfl) <|
  m_cn (pc := 6) (ok_getf (k := 1) (hc0 := (rfl : vwCl[8]? = some (RX7, TX7, 36))) (by decide) in_X7 wd_790 (m_dk dk_X7_passes 5 rfl) rfl) <|
  m_cn (pc := 9) (ok_imul (m_dk dk_X7_passes 6 rfl) rfl) <|
  m_cn (pc := 10) (ok_icmpge (m_dk dk_X7_passes 7 rfl) rfl rfl) <|
  m_cn (pc := 13) (ok_aload_n (m_dk dk_X7_passes 8 rfl) rfl rfl) <|
  m_cn (pc := 14) (ok_getf (k := 28) (hc0 := (rfl : vwCl[8]? = some (RX7, TX7, 36))) (by decide) in_X7 wd_817 (m_dk dk_X7_passes 9 rfl) rfl) <|
  m_cn (pc := 17) (ok_iload_n (m_dk dk_X7_passes 10 rfl) rfl rfl) <|
  m_cn (pc := 18) (ok_aload_n (m_dk dk_X7_passes 11 rfl) rfl rfl) <|
  m_cn (pc := 19) (ok_getf (k := 4) (hc0 := (rfl : vwCl[8]? = some (RX7, TX7, 36))) (by decide) in_X7 wd_793 (m_dk dk_X7_passes 12 rfl) rfl) <|
  m_cn (pc := 22) (ok_iload_n (m_dk dk_X7_passes 13 rfl) rfl rfl) <|
  m_cn (pc := 23) (ok_iald (m_dk dk_X7_passes 14 rfl) rfl) <|
  m_cn (pc := 24) (ok_iast (m_dk dk_X7_passes 15 rfl) rfl) <|
  m_cn (pc := 25) (ok_iinc (m_dk dk_X7_passes 16 rfl) (by decide) rfl) <|
  m_cn (pc := 28) (ok_goto (nx := 0) (m_dk dk_X7_passes 17 rfl) rfl) <|
  m_cn (pc := 31) (ok_iconst (m_dk dk_X7_passes 18 rfl) (by decide) rfl) <|
  m_cn (pc := 32) (ok_istore_n (m_dk dk_X7_passes 19 rfl) rfl rfl) <|
  m_cn (pc := 33) (ok_iload_n (m_dk dk_X7_passes 20 rfl) rfl rfl) <|
  m_cn (pc := 34) (ok_aload_n (m_dk dk_X7_passes 21 rfl) rfl rfl) <|
  m_cn (pc := 35) (ok_getf (k := 5) (hc0 := (rfl : vwCl[8]? = some (RX7, TX7, 36))) (by decide) in_X7 wd_794 (m_dk dk_X7_passes 22 rfl) rfl) <|
  m_cn (pc := 38) (ok_icmpge (m_dk dk_X7_passes 23 rfl) rfl rfl) <|
  m_cn (pc := 41) (ok_aload_n (m_dk dk_X7_passes 24 rfl) rfl rfl) <|
  m_cn (pc := 42) (ok_getf (k := 10) (hc0 := (rfl : vwCl[8]? = some (RX7, TX7, 36))) (by decide) in_X7 wd_799 (m_dk dk_X7_passes 25 rfl) rfl) <|
  m_cn (pc := 45) (ok_iload_n (m_dk dk_X7_passes 26 rfl) rfl rfl) <|
  m_cn (pc := 46) (ok_iconst (m_dk dk_X7_passes 27 rfl) (by decide) rfl) <|
  m_cn (pc := 47) (ok_iast (m_dk dk_X7_passes 28 rfl) rfl) <|
  m_cn (pc := 48) (ok_aload_n (m_dk dk_X7_passes 29 rfl) rfl rfl) <|
  m_cn (pc := 49) (ok_getf (k := 11) (hc0 := (rfl : vwCl[8]? = some (RX7, TX7, 36))) (by decide) in_X7 wd_800 (m_dk dk_X7_passes 30 rfl) rfl) <|
  m_cn (pc := 52) (ok_iload_n (m_dk dk_X7_passes 31 rfl) rfl rfl) <|
  m_cn (pc := 53) (ok_iconst (m_dk dk_X7_passes 32 rfl) (by decide) rfl) <|
  m_cn (pc := 54) (ok_iast (m_dk dk_X7_passes 33 rfl) rfl) <|
  m_cn (pc := 55) (ok_iinc (m_dk dk_X7_passes 34 rfl) (by decide) rfl) <|
  m_cn (pc := 58) (ok_goto (nx := 0) (m_dk dk_X7_passes 35 rfl) rfl) <|
  m_cn (pc := 61) (ok_aload_n (m_dk dk_X7_passes 36 rfl) rfl rfl) <|
  m_cn (pc := 62) (ok_iconst (m_dk dk_X7_passes 37 rfl) (by decide) rfl) <|
  m_cn (pc := 63) (ok_callv (T := mt_X7_leadsAll) my_X7_leadsAll rfl cw_X7_leadsAll rfl rfl (by decide) (r9 := (RX7, TX7, 36)) rfl rfl wd_984 wd_986 (m_wk 30 (by decide +kernel) (by decide +kernel)) wd_6 (by decide +kernel) (m_dk dk_X7_passes 38 rfl) rfl) <|
  m_cn (pc := 66) (ok_aload_n (m_dk dk_X7_passes 39 rfl) rfl rfl) <|
  m_cn (pc := 67) (ok_iconst (m_dk dk_X7_passes 40 rfl) (by decide) rfl) <|
  m_cn (pc := 68) (ok_callv (T := mt_X7_leadsAll) my_X7_leadsAll rfl cw_X7_leadsAll rfl rfl (by decide) (r9 := (RX7, TX7, 36)) rfl rfl wd_984 wd_986 (m_wk 30 (by decide +kernel) (by decide +kernel)) wd_6 (by decide +kernel) (m_dk dk_X7_passes 41 rfl) rfl) <|
  m_cn (pc := 71) (ok_iconst (m_dk dk_X7_passes 42 rfl) (by decide) rfl) <|
  m_cn (pc := 72) (ok_istore_n (m_dk dk_X7_passes 43 rfl) rfl rfl) <|
  m_cn (pc := 73) (ok_iload_n (m_dk dk_X7_passes 44 rfl) rfl rfl) <|
  m_cn (pc := 74) (ok_aload_n (m_dk dk_X7_passes 45 rfl) rfl rfl) <|
  m_cn (pc := 75) (ok_getf (k := 5) (hc0 := (rfl : vwCl[8]? = some (RX7, TX7, 36))) (by decide) in_X7 wd_794 (m_dk dk_X7_passes 46 rfl) rfl) <|
  m_cn (pc := 78) (ok_icmpge (m_dk dk_X7_passes 47 rfl) rfl rfl) <|
  m_cn (pc := 81) (ok_aload_n (m_dk dk_X7_passes 48 rfl) rfl rfl) <|
  m_cn (pc := 82) (ok_getf (k := 10) (hc0 := (rfl : vwCl[8]? = some (RX7, TX7, 36))) (by decide) in_X7 wd_799 (m_dk dk_X7_passes 49 rfl) rfl) <|
  m_cn (pc := 85) (ok_iload_n (m_dk dk_X7_passes 50 rfl) rfl rfl) <|
  m_cn (pc := 86) (ok_iald (m_dk dk_X7_passes 51 rfl) rfl) <|
  m_cn (pc := 87) (ok_iconst (m_dk dk_X7_passes 52 rfl) (by decide) rfl) <|
  m_cn (pc := 88) (ok_icmpne (m_dk dk_X7_passes 53 rfl) rfl rfl) <|
  m_cn (pc := 91) (ok_aload_n (m_dk dk_X7_passes 54 rfl) rfl rfl) <|
  m_cn (pc := 92) (ok_iload_n (m_dk dk_X7_passes 55 rfl) rfl rfl) <|
  m_cn (pc := 93) (ok_callv (T := mt_X7_credits) my_X7_credits rfl cw_X7_credits rfl rfl (by decide) (r9 := (RX7, TX7, 36)) rfl rfl wd_1012 wd_1014 (m_wk 37 (by decide +kernel) (by decide +kernel)) wd_6 (by decide +kernel) (m_dk dk_X7_passes 56 rfl) rfl) <|
  m_cn (pc := 96) (ok_iinc (m_dk dk_X7_passes 57 rfl) (by decide) rfl) <|
  m_cn (pc := 99) (ok_goto (nx := 0) (m_dk dk_X7_passes 58 rfl) rfl) <|
  m_cn (pc := 102) (ok_iconst (m_dk dk_X7_passes 59 rfl) (by decide) rfl) <|
  m_cn (pc := 103) (ok_istore_n (m_dk dk_X7_passes 60 rfl) rfl rfl) <|
  m_cn (pc := 104) (ok_iload_n (m_dk dk_X7_passes 61 rfl) rfl rfl) <|
  m_cn (pc := 105) (ok_aload_n (m_dk dk_X7_passes 62 rfl) rfl rfl) <|
  m_cn (pc := 106) (ok_getf (k := 17) (hc0 := (rfl : vwCl[8]? = some (RX7, TX7, 36))) (by decide) in_X7 wd_806 (m_dk dk_X7_passes 63 rfl) rfl) <|
  m_cn (pc := 109) (ok_icmpge (m_dk dk_X7_passes 64 rfl) rfl rfl) <|
  m_cn (pc := 112) (ok_aload_n (m_dk dk_X7_passes 65 rfl) rfl rfl) <|
  m_cn (pc := 113) (ok_iload_n (m_dk dk_X7_passes 66 rfl) rfl rfl) <|
  m_cn (pc := 114) (ok_callv (T := mt_X7_does) my_X7_does rfl cw_X7_does rfl rfl (by decide) (r9 := (RX7, TX7, 36)) rfl rfl wd_1024 wd_1026 (m_wk 40 (by decide +kernel) (by decide +kernel)) wd_6 (by decide +kernel) (m_dk dk_X7_passes 67 rfl) rfl) <|
  m_cn (pc := 117) (ok_iinc (m_dk dk_X7_passes 68 rfl) (by decide) rfl) <|
  m_cn (pc := 120) (ok_goto (nx := 0) (m_dk dk_X7_passes 69 rfl) rfl) <|
  m_cn (pc := 123) (ok_aload_n (m_dk dk_X7_passes 70 rfl) rfl rfl) <|
  m_cn (pc := 124) (ok_dup (m_dk dk_X7_passes 71 rfl) rfl) <|
  m_cn (pc := 125) (ok_getf (k := 0) (hc0 := (rfl : vwCl[8]? = some (RX7, TX7, 36))) (by decide) in_X7 wd_789 (m_dk dk_X7_passes 72 rfl) rfl) <|
  m_cn (pc := 128) (ok_iconst (m_dk dk_X7_passes 73 rfl) (by decide) rfl) <|
  m_cn (pc := 129) (ok_iadd (m_dk dk_X7_passes 74 rfl) rfl) <|
  m_cn (pc := 130) (ok_puti (k := 0) (hc0 := (rfl : vwCl[8]? = some (RX7, TX7, 36))) (by decide) in_X7 wd_789 tyX7 tyX7_ok nmX7 rfl (tyX7_ok 0 (by decide)) (m_dk dk_X7_passes 75 rfl) rfl) <|
  m_cn (pc := 133) (ok_return (nx := 0) rfl (m_dk dk_X7_passes 76 rfl)) <|
  m_nl
theorem mk_X7_passes {GP : m_G → Prop} {cds : Nat → Nat → m_Op} (h : cds 94 = m_lk cd_X7_passes) : m_MOK GP m_my cds 94 := ⟨RX7, false, [], by decide +kernel, rfl, (fun h9 => by first | rfl | cases h9), Or.inl ⟨rfl, rfl⟩, fun pc => by rw [h]; exact m_lk_ok _ ok_X7_passes pc⟩
def dl_X7_pass : List (Nat × Instr × Nat) := [(0, .aload_n 0, 1), (1, .iload_n 1, 1), (2, .iconst 1, 1), (3, .bipush 24, 2), (5, .invokestatic 92, 3), (8, .aload_n 0, 1), (9, .getfield 133, 3), (12, .iload_n 1, 1), (13, .iadd, 1), (14, .sipush 500, 3), (17, .if_icmp .gt 7, 3), (20, .iconst 1, 1), (21, .goto 4, 3), (24, .iconst 0, 1), (25, .iconst 1, 1), (26, .invokevirtual 115, 3), (29, .ifCond .ne 5, 3), (32, .iconst 0, 1), (33, .ireturn, 1), (34, .iconst 0, 1), (35, .istore_n 2, 1), (36, .iload_n 2, 1), (37, .iload_n 1, 1), (38, .if_icmp .ge 13, 3), (41, .aload_n 0, 1), (42, .invokevirtual 199, 3), (45, .iinc 2 1, 3), (48, .goto (-12), 3), (51, .aload_n 0, 1), (52, .getfield 133, 3), (55, .ireturn, 1)]
theorem dk_X7_pass : ∀ q ∈ dl_X7_pass, decode cX7_pass q.1 = .ok q.2 := by decide +kernel
def cd_X7_pass : List (Nat × m_Op) := [(0, o_aload 0 1), (1, o_iload 1 2), (2, o_const (1) 3), (3, o_const (24) 5), (5, o_call 63 3 0 0 8), (8, o_aload 0 9), (9, o_getf 8 0 12), (12, o_iload 1 13), (13, o_bin (fun x y => x + y) 14), (14, o_const (500) 17), (17, o_icmpgt 24 20), (20, o_const (1) 21), (21, o_goto 25), (24, o_const (0) 25), (25, o_const (1) 26), (26, o_callv 8 64 4 0 0 29), (29, o_ifne 34 32), (32, o_const (0) 33), (33, o_ireturn), (34, o_const (0) 35), (35, o_istore 2 36), (36, o_iload 2 37), (37, o_iload 1 38), (38, o_icmpge 51 41), (41, o_aload 0 42), (42, o_callv 8 94 1 0 0 45), (45, o_iinc 2 (1) 48), (48, o_goto 36), (51, o_aload 0 52), (52, o_getf 8 0 55), (55, o_ireturn)]
set_option maxRecDepth 20000 in
set_option maxHeartbeats 4000000 in
theorem ok_X7_pass {GP : m_G → Prop} : ∀ q ∈ cd_X7_pass, m_OK GP m_my (cX7_pass, 3, RX7, false, (some .int), []) q.1 q.2 :=
  m_cn (pc := 0) (ok_aload_n (m_dk dk_X7_pass 0 rfl) rfl rfl) <|
  m_cn (pc := 1) (ok_iload_n (m_dk dk_X7_pass 1 rfl) rfl rfl) <|
  m_cn (pc := 2) (ok_iconst (m_dk dk_X7_pass 2 rfl) (by decide) rfl) <|
  m_cn (pc := 3) (ok_bipush (m_dk dk_X7_pass 3 rfl) (by decide) rfl) <|
  m_cn (pc := 5) (ok_calls (T := mt_X7_in) my_X7_in rfl cw_X7_in rfl rfl (by decide) wd_909 wd_910 wd_6 (by decide +kernel) (m_dk dk_X7_pass 4 rfl) rfl) <|
  m_cn (pc := 8) (ok_aload_n (m_dk dk_X7_pass 5 rfl) rfl rfl) <|
  m_cn (pc := 9) (ok_getf (k := 0) (hc0 := (rfl : vwCl[8]? = some (RX7, TX7, 36))) (by decide) in_X7 wd_789 (m_dk dk_X7_pass 6 rfl) rfl) <|
  m_cn (pc := 12) (ok_iload_n (m_dk dk_X7_pass 7 rfl) rfl rfl) <|
  m_cn (pc := 13) (ok_iadd (m_dk dk_X7_pass 8 rfl) rfl) <|
  m_cn (pc := 14) (ok_sipush (m_dk dk_X7_pass 9 rfl) (by decide) rfl) <|
  m_cn (pc := 17) (ok_icmpgt (m_dk dk_X7_pass 10 rfl) rfl rfl) <|
  m_cn (pc := 20) (ok_iconst (m_dk dk_X7_pass 11 rfl) (by decide) rfl) <|
  m_cn (pc := 21) (ok_goto (nx := 0) (m_dk dk_X7_pass 12 rfl) rfl) <|
  m_cn (pc := 24) (ok_iconst (m_dk dk_X7_pass 13 rfl) (by decide) rfl) <|
  m_cn (pc := 25) (ok_iconst (m_dk dk_X7_pass 14 rfl) (by decide) rfl) <|
  m_cn (pc := 26) (ok_callv (T := mt_X7_goes) my_X7_goes rfl cw_X7_goes rfl rfl (by decide) (r9 := (RX7, TX7, 36)) rfl rfl wd_915 wd_917 (m_wk 21 (by decide +kernel) (by decide +kernel)) wd_6 (by decide +kernel) (m_dk dk_X7_pass 15 rfl) rfl) <|
  m_cn (pc := 29) (ok_ifne (m_dk dk_X7_pass 16 rfl) rfl rfl) <|
  m_cn (pc := 32) (ok_iconst (m_dk dk_X7_pass 17 rfl) (by decide) rfl) <|
  m_cn (pc := 33) (ok_ireturn (nx := 0) rfl (m_dk dk_X7_pass 18 rfl)) <|
  m_cn (pc := 34) (ok_iconst (m_dk dk_X7_pass 19 rfl) (by decide) rfl) <|
  m_cn (pc := 35) (ok_istore_n (m_dk dk_X7_pass 20 rfl) rfl rfl) <|
  m_cn (pc := 36) (ok_iload_n (m_dk dk_X7_pass 21 rfl) rfl rfl) <|
  m_cn (pc := 37) (ok_iload_n (m_dk dk_X7_pass 22 rfl) rfl rfl) <|
  m_cn (pc := 38) (ok_icmpge (m_dk dk_X7_pass 23 rfl) rfl rfl) <|
  m_cn (pc := 41) (ok_aload_n (m_dk dk_X7_pass 24 rfl) rfl rfl) <|
  m_cn (pc := 42) (ok_callv (T := mt_X7_passes) my_X7_passes rfl cw_X7_passes rfl rfl (by decide) (r9 := (RX7, TX7, 36)) rfl rfl wd_980 wd_982 (m_wk 29 (by decide +kernel) (by decide +kernel)) wd_6 (by decide +kernel) (m_dk dk_X7_pass 25 rfl) rfl) <|
  m_cn (pc := 45) (ok_iinc (m_dk dk_X7_pass 26 rfl) (by decide) rfl) <|
  m_cn (pc := 48) (ok_goto (nx := 0) (m_dk dk_X7_pass 27 rfl) rfl) <|
  m_cn (pc := 51) (ok_aload_n (m_dk dk_X7_pass 28 rfl) rfl rfl) <|
  m_cn (pc := 52) (ok_getf (k := 0) (hc0 := (rfl : vwCl[8]? = some (RX7, TX7, 36))) (by decide) in_X7 wd_789 (m_dk dk_X7_pass 29 rfl) rfl) <|
  m_cn (pc := 55) (ok_ireturn (nx := 0) rfl (m_dk dk_X7_pass 30 rfl)) <|
  m_nl
theorem mk_X7_pass {GP : m_G → Prop} {cds : Nat → Nat → m_Op} (h : cds 95 = m_lk cd_X7_pass) : m_MOK GP m_my cds 95 := ⟨RX7, false, [], by decide +kernel, rfl, (fun h9 => by first | rfl | cases h9), Or.inl ⟨rfl, rfl⟩, fun pc => by rw [h]; exact m_lk_ok _ ok_X7_pass pc⟩
def dl_X7_owned : List (Nat × Instr × Nat) := [(0, .aload_n 0, 1), (1, .aload_n 0, 1), (2, .iload_n 1, 1), (3, .invokevirtual 119, 3), (6, .ifCond .eq 14, 3), (9, .iload_n 2, 1), (10, .invokestatic 112, 3), (13, .ifCond .eq 7, 3), (16, .iconst 1, 1), (17, .goto 4, 3), (20, .iconst 0, 1), (21, .iconst 1, 1), (22, .iconst 1, 1), (23, .invokevirtual 115, 3), (26, .ifCond .eq 17, 3), (29, .aload_n 0, 1), (30, .getfield 16, 3), (33, .bipush 6, 2), (35, .iload_n 1, 1), (36, .imul, 1), (37, .iload_n 2, 1), (38, .iadd, 1), (39, .iaload, 1), (40, .goto 4, 3), (43, .iconst 0, 1), (44, .ireturn, 1)]
theorem dk_X7_owned : ∀ q ∈ dl_X7_owned, decode cX7_owned q.1 = .ok q.2 := by decide +kernel
def cd_X7_owned : List (Nat × m_Op) := [(0, o_aload 0 1), (1, o_aload 0 2), (2, o_iload 1 3), (3, o_callv 8 67 2 0 0 6), (6, o_ifeq 20 9), (9, o_iload 2 10), (10, o_call 66 1 0 0 13), (13, o_ifeq 20 16), (16, o_const (1) 17), (17, o_goto 21), (20, o_const (0) 21), (21, o_const (1) 22), (22, o_const (1) 23), (23, o_callv 8 64 4 0 0 26), (26, o_ifeq 43 29), (29, o_aload 0 30), (30, o_getf 8 4 33), (33, o_const (6) 35), (35, o_iload 1 36), (36, o_bin (fun x y => x * y) 37), (37, o_iload 2 38), (38, o_bin (fun x y => x + y) 39), (39, o_iald 0 40), (40, o_goto 44), (43, o_const (0) 44), (44, o_ireturn)]
set_option maxRecDepth 20000 in
set_option maxHeartbeats 4000000 in
theorem ok_X7_owned {GP : m_G → Prop} : ∀ q ∈ cd_X7_owned, m_OK GP m_my (cX7_owned, 3, RX7, false, (some .int), []) q.1 q.2 :=
  m_cn (pc := 0) (ok_aload_n (m_dk dk_X7_owned 0 rfl) rfl rfl) <|
  m_cn (pc := 1) (ok_aload_n (m_dk dk_X7_owned 1 rfl) rfl rfl) <|
  m_cn (pc := 2) (ok_iload_n (m_dk dk_X7_owned 2 rfl) rfl rfl) <|
  m_cn (pc := 3) (ok_callv (T := mt_X7_isCable) my_X7_isCable rfl cw_X7_isCable rfl rfl (by decide) (r9 := (RX7, TX7, 36)) rfl rfl wd_927 wd_929 (m_wk 22 (by decide +kernel) (by decide +kernel)) wd_6 (by decide +kernel) (m_dk dk_X7_owned 3 rfl) rfl) <|
  m_cn (pc := 6) (ok_ifeq (m_dk dk_X7_owned 4 rfl) rfl rfl) <|
  m_cn (pc := 9) (ok_iload_n (m_dk dk_X7_owned 5 rfl) rfl rfl) <|
  m_cn (pc := 10) (ok_calls (T := mt_X7_isMember) my_X7_isMember rfl cw_X7_isMember rfl rfl (by decide) wd_912 wd_913 wd_6 (by decide +kernel) (m_dk dk_X7_owned 6 rfl) rfl) <|
  m_cn (pc := 13) (ok_ifeq (m_dk dk_X7_owned 7 rfl) rfl rfl) <|
  m_cn (pc := 16) (ok_iconst (m_dk dk_X7_owned 8 rfl) (by decide) rfl) <|
  m_cn (pc := 17) (ok_goto (nx := 0) (m_dk dk_X7_owned 9 rfl) rfl) <|
  m_cn (pc := 20) (ok_iconst (m_dk dk_X7_owned 10 rfl) (by decide) rfl) <|
  m_cn (pc := 21) (ok_iconst (m_dk dk_X7_owned 11 rfl) (by decide) rfl) <|
  m_cn (pc := 22) (ok_iconst (m_dk dk_X7_owned 12 rfl) (by decide) rfl) <|
  m_cn (pc := 23) (ok_callv (T := mt_X7_goes) my_X7_goes rfl cw_X7_goes rfl rfl (by decide) (r9 := (RX7, TX7, 36)) rfl rfl wd_915 wd_917 (m_wk 21 (by decide +kernel) (by decide +kernel)) wd_6 (by decide +kernel) (m_dk dk_X7_owned 13 rfl) rfl) <|
  m_cn (pc := 26) (ok_ifeq (m_dk dk_X7_owned 14 rfl) rfl rfl) <|
  m_cn (pc := 29) (ok_aload_n (m_dk dk_X7_owned 15 rfl) rfl rfl) <|
  m_cn (pc := 30) (ok_getf (k := 4) (hc0 := (rfl : vwCl[8]? = some (RX7, TX7, 36))) (by decide) in_X7 wd_793 (m_dk dk_X7_owned 16 rfl) rfl) <|
  m_cn (pc := 33) (ok_bipush (m_dk dk_X7_owned 17 rfl) (by decide) rfl) <|
  m_cn (pc := 35) (ok_iload_n (m_dk dk_X7_owned 18 rfl) rfl rfl) <|
  m_cn (pc := 36) (ok_imul (m_dk dk_X7_owned 19 rfl) rfl) <|
  m_cn (pc := 37) (ok_iload_n (m_dk dk_X7_owned 20 rfl) rfl rfl) <|
  m_cn (pc := 38) (ok_iadd (m_dk dk_X7_owned 21 rfl) rfl) <|
  m_cn (pc := 39) (ok_iald (m_dk dk_X7_owned 22 rfl) rfl) <|
  m_cn (pc := 40) (ok_goto (nx := 0) (m_dk dk_X7_owned 23 rfl) rfl) <|
  m_cn (pc := 43) (ok_iconst (m_dk dk_X7_owned 24 rfl) (by decide) rfl) <|
  m_cn (pc := 44) (ok_ireturn (nx := 0) rfl (m_dk dk_X7_owned 25 rfl)) <|
  m_nl
theorem mk_X7_owned {GP : m_G → Prop} {cds : Nat → Nat → m_Op} (h : cds 96 = m_lk cd_X7_owned) : m_MOK GP m_my cds 96 := ⟨RX7, false, [], by decide +kernel, rfl, (fun h9 => by first | rfl | cases h9), Or.inl ⟨rfl, rfl⟩, fun pc => by rw [h]; exact m_lk_ok _ ok_X7_owned pc⟩
def dl_X7_isWhole : List (Nat × Instr × Nat) := [(0, .aload_n 0, 1), (1, .aload_n 0, 1), (2, .iload_n 1, 1), (3, .invokevirtual 119, 3), (6, .iconst 1, 1), (7, .iconst 1, 1), (8, .invokevirtual 115, 3), (11, .ifCond .eq 16, 3), (14, .aload_n 0, 1), (15, .iload_n 1, 1), (16, .invokevirtual 127, 3), (19, .iconst (-1), 1), (20, .if_icmp .ne 7, 3), (23, .iconst 1, 1), (24, .goto 4, 3), (27, .iconst 0, 1), (28, .ireturn, 1)]
theorem dk_X7_isWhole : ∀ q ∈ dl_X7_isWhole, decode cX7_isWhole q.1 = .ok q.2 := by decide +kernel
def cd_X7_isWhole : List (Nat × m_Op) := [(0, o_aload 0 1), (1, o_aload 0 2), (2, o_iload 1 3), (3, o_callv 8 67 2 0 0 6), (6, o_const (1) 7), (7, o_const (1) 8), (8, o_callv 8 64 4 0 0 11), (11, o_ifeq 27 14), (14, o_aload 0 15), (15, o_iload 1 16), (16, o_callv 8 76 2 0 0 19), (19, o_const (-1) 20), (20, o_icmpne 27 23), (23, o_const (1) 24), (24, o_goto 28), (27, o_const (0) 28), (28, o_zreturn)]
set_option maxRecDepth 20000 in
set_option maxHeartbeats 4000000 in
theorem ok_X7_isWhole {GP : m_G → Prop} : ∀ q ∈ cd_X7_isWhole, m_OK GP m_my (cX7_isWhole, 2, RX7, false, (some .boolean), []) q.1 q.2 :=
  m_cn (pc := 0) (ok_aload_n (m_dk dk_X7_isWhole 0 rfl) rfl rfl) <|
  m_cn (pc := 1) (ok_aload_n (m_dk dk_X7_isWhole 1 rfl) rfl rfl) <|
  m_cn (pc := 2) (ok_iload_n (m_dk dk_X7_isWhole 2 rfl) rfl rfl) <|
  m_cn (pc := 3) (ok_callv (T := mt_X7_isCable) my_X7_isCable rfl cw_X7_isCable rfl rfl (by decide) (r9 := (RX7, TX7, 36)) rfl rfl wd_927 wd_929 (m_wk 22 (by decide +kernel) (by decide +kernel)) wd_6 (by decide +kernel) (m_dk dk_X7_isWhole 3 rfl) rfl) <|
  m_cn (pc := 6) (ok_iconst (m_dk dk_X7_isWhole 4 rfl) (by decide) rfl) <|
  m_cn (pc := 7) (ok_iconst (m_dk dk_X7_isWhole 5 rfl) (by decide) rfl) <|
  m_cn (pc := 8) (ok_callv (T := mt_X7_goes) my_X7_goes rfl cw_X7_goes rfl rfl (by decide) (r9 := (RX7, TX7, 36)) rfl rfl wd_915 wd_917 (m_wk 21 (by decide +kernel) (by decide +kernel)) wd_6 (by decide +kernel) (m_dk dk_X7_isWhole 6 rfl) rfl) <|
  m_cn (pc := 11) (ok_ifeq (m_dk dk_X7_isWhole 7 rfl) rfl rfl) <|
  m_cn (pc := 14) (ok_aload_n (m_dk dk_X7_isWhole 8 rfl) rfl rfl) <|
  m_cn (pc := 15) (ok_iload_n (m_dk dk_X7_isWhole 9 rfl) rfl rfl) <|
  m_cn (pc := 16) (ok_callv (T := mt_X7_cutOf) my_X7_cutOf rfl cw_X7_cutOf rfl rfl (by decide) (r9 := (RX7, TX7, 36)) rfl rfl wd_940 wd_942 (m_wk 24 (by decide +kernel) (by decide +kernel)) wd_6 (by decide +kernel) (m_dk dk_X7_isWhole 10 rfl) rfl) <|
  m_cn (pc := 19) (ok_iconst (m_dk dk_X7_isWhole 11 rfl) (by decide) rfl) <|
  m_cn (pc := 20) (ok_icmpne (m_dk dk_X7_isWhole 12 rfl) rfl rfl) <|
  m_cn (pc := 23) (ok_iconst (m_dk dk_X7_isWhole 13 rfl) (by decide) rfl) <|
  m_cn (pc := 24) (ok_goto (nx := 0) (m_dk dk_X7_isWhole 14 rfl) rfl) <|
  m_cn (pc := 27) (ok_iconst (m_dk dk_X7_isWhole 15 rfl) (by decide) rfl) <|
  m_cn (pc := 28) (ok_zreturn (nx := 0) rfl (m_dk dk_X7_isWhole 16 rfl)) <|
  m_nl
theorem mk_X7_isWhole {GP : m_G → Prop} {cds : Nat → Nat → m_Op} (h : cds 97 = m_lk cd_X7_isWhole) : m_MOK GP m_my cds 97 := ⟨RX7, false, [], by decide +kernel, rfl, (fun h9 => by first | rfl | cases h9), Or.inl ⟨rfl, rfl⟩, fun pc => by rw [h]; exact m_lk_ok _ ok_X7_isWhole pc⟩
def dl_X7_way : List (Nat × Instr × Nat) := [(0, .aload_n 0, 1), (1, .aload_n 0, 1), (2, .iload_n 1, 1), (3, .invokevirtual 202, 3), (6, .iconst 1, 1), (7, .iconst 1, 1), (8, .invokevirtual 115, 3), (11, .ifCond .eq 12, 3), (14, .aload_n 0, 1), (15, .getfield 31, 3), (18, .iload_n 1, 1), (19, .iaload, 1), (20, .goto 4, 3), (23, .iconst 0, 1), (24, .ireturn, 1)]
theorem dk_X7_way : ∀ q ∈ dl_X7_way, decode cX7_way q.1 = .ok q.2 := by decide +kernel
def cd_X7_way : List (Nat × m_Op) := [(0, o_aload 0 1), (1, o_aload 0 2), (2, o_iload 1 3), (3, o_callv 8 68 2 0 0 6), (6, o_const (1) 7), (7, o_const (1) 8), (8, o_callv 8 64 4 0 0 11), (11, o_ifeq 23 14), (14, o_aload 0 15), (15, o_getf 8 10 18), (18, o_iload 1 19), (19, o_iald 0 20), (20, o_goto 24), (23, o_const (0) 24), (24, o_ireturn)]
set_option maxRecDepth 20000 in
set_option maxHeartbeats 4000000 in
theorem ok_X7_way {GP : m_G → Prop} : ∀ q ∈ cd_X7_way, m_OK GP m_my (cX7_way, 2, RX7, false, (some .int), []) q.1 q.2 :=
  m_cn (pc := 0) (ok_aload_n (m_dk dk_X7_way 0 rfl) rfl rfl) <|
  m_cn (pc := 1) (ok_aload_n (m_dk dk_X7_way 1 rfl) rfl rfl) <|
  m_cn (pc := 2) (ok_iload_n (m_dk dk_X7_way 2 rfl) rfl rfl) <|
  m_cn (pc := 3) (ok_callv (T := mt_X7_isDemand) my_X7_isDemand rfl cw_X7_isDemand rfl rfl (by decide) (r9 := (RX7, TX7, 36)) rfl rfl wd_1040 wd_1042 (m_wk 41 (by decide +kernel) (by decide +kernel)) wd_6 (by decide +kernel) (m_dk dk_X7_way 3 rfl) rfl) <|
  m_cn (pc := 6) (ok_iconst (m_dk dk_X7_way 4 rfl) (by decide) rfl) <|
  m_cn (pc := 7) (ok_iconst (m_dk dk_X7_way 5 rfl) (by decide) rfl) <|
  m_cn (pc := 8) (ok_callv (T := mt_X7_goes) my_X7_goes rfl cw_X7_goes rfl rfl (by decide) (r9 := (RX7, TX7, 36)) rfl rfl wd_915 wd_917 (m_wk 21 (by decide +kernel) (by decide +kernel)) wd_6 (by decide +kernel) (m_dk dk_X7_way 6 rfl) rfl) <|
  m_cn (pc := 11) (ok_ifeq (m_dk dk_X7_way 7 rfl) rfl rfl) <|
  m_cn (pc := 14) (ok_aload_n (m_dk dk_X7_way 8 rfl) rfl rfl) <|
  m_cn (pc := 15) (ok_getf (k := 10) (hc0 := (rfl : vwCl[8]? = some (RX7, TX7, 36))) (by decide) in_X7 wd_799 (m_dk dk_X7_way 9 rfl) rfl) <|
  m_cn (pc := 18) (ok_iload_n (m_dk dk_X7_way 10 rfl) rfl rfl) <|
  m_cn (pc := 19) (ok_iald (m_dk dk_X7_way 11 rfl) rfl) <|
  m_cn (pc := 20) (ok_goto (nx := 0) (m_dk dk_X7_way 12 rfl) rfl) <|
  m_cn (pc := 23) (ok_iconst (m_dk dk_X7_way 13 rfl) (by decide) rfl) <|
  m_cn (pc := 24) (ok_ireturn (nx := 0) rfl (m_dk dk_X7_way 14 rfl)) <|
  m_nl
theorem mk_X7_way {GP : m_G → Prop} {cds : Nat → Nat → m_Op} (h : cds 98 = m_lk cd_X7_way) : m_MOK GP m_my cds 98 := ⟨RX7, false, [], by decide +kernel, rfl, (fun h9 => by first | rfl | cases h9), Or.inl ⟨rfl, rfl⟩, fun pc => by rw [h]; exact m_lk_ok _ ok_X7_way pc⟩
def dl_X7_lent : List (Nat × Instr × Nat) := [(0, .aload_n 0, 1), (1, .aload_n 0, 1), (2, .iload_n 1, 1), (3, .invokevirtual 202, 3), (6, .iconst 1, 1), (7, .iconst 1, 1), (8, .invokevirtual 115, 3), (11, .ifCond .eq 12, 3), (14, .aload_n 0, 1), (15, .getfield 34, 3), (18, .iload_n 1, 1), (19, .iaload, 1), (20, .goto 4, 3), (23, .iconst 0, 1), (24, .ireturn, 1)]
theorem dk_X7_lent : ∀ q ∈ dl_X7_lent, decode cX7_lent q.1 = .ok q.2 := by decide +kernel
def cd_X7_lent : List (Nat × m_Op) := [(0, o_aload 0 1), (1, o_aload 0 2), (2, o_iload 1 3), (3, o_callv 8 68 2 0 0 6), (6, o_const (1) 7), (7, o_const (1) 8), (8, o_callv 8 64 4 0 0 11), (11, o_ifeq 23 14), (14, o_aload 0 15), (15, o_getf 8 11 18), (18, o_iload 1 19), (19, o_iald 0 20), (20, o_goto 24), (23, o_const (0) 24), (24, o_ireturn)]
set_option maxRecDepth 20000 in
set_option maxHeartbeats 4000000 in
theorem ok_X7_lent {GP : m_G → Prop} : ∀ q ∈ cd_X7_lent, m_OK GP m_my (cX7_lent, 2, RX7, false, (some .int), []) q.1 q.2 :=
  m_cn (pc := 0) (ok_aload_n (m_dk dk_X7_lent 0 rfl) rfl rfl) <|
  m_cn (pc := 1) (ok_aload_n (m_dk dk_X7_lent 1 rfl) rfl rfl) <|
  m_cn (pc := 2) (ok_iload_n (m_dk dk_X7_lent 2 rfl) rfl rfl) <|
  m_cn (pc := 3) (ok_callv (T := mt_X7_isDemand) my_X7_isDemand rfl cw_X7_isDemand rfl rfl (by decide) (r9 := (RX7, TX7, 36)) rfl rfl wd_1040 wd_1042 (m_wk 41 (by decide +kernel) (by decide +kernel)) wd_6 (by decide +kernel) (m_dk dk_X7_lent 3 rfl) rfl) <|
  m_cn (pc := 6) (ok_iconst (m_dk dk_X7_lent 4 rfl) (by decide) rfl) <|
  m_cn (pc := 7) (ok_iconst (m_dk dk_X7_lent 5 rfl) (by decide) rfl) <|
  m_cn (pc := 8) (ok_callv (T := mt_X7_goes) my_X7_goes rfl cw_X7_goes rfl rfl (by decide) (r9 := (RX7, TX7, 36)) rfl rfl wd_915 wd_917 (m_wk 21 (by decide +kernel) (by decide +kernel)) wd_6 (by decide +kernel) (m_dk dk_X7_lent 6 rfl) rfl) <|
  m_cn (pc := 11) (ok_ifeq (m_dk dk_X7_lent 7 rfl) rfl rfl) <|
  m_cn (pc := 14) (ok_aload_n (m_dk dk_X7_lent 8 rfl) rfl rfl) <|
  m_cn (pc := 15) (ok_getf (k := 11) (hc0 := (rfl : vwCl[8]? = some (RX7, TX7, 36))) (by decide) in_X7 wd_800 (m_dk dk_X7_lent 9 rfl) rfl) <|
  m_cn (pc := 18) (ok_iload_n (m_dk dk_X7_lent 10 rfl) rfl rfl) <|
  m_cn (pc := 19) (ok_iald (m_dk dk_X7_lent 11 rfl) rfl) <|
  m_cn (pc := 20) (ok_goto (nx := 0) (m_dk dk_X7_lent 12 rfl) rfl) <|
  m_cn (pc := 23) (ok_iconst (m_dk dk_X7_lent 13 rfl) (by decide) rfl) <|
  m_cn (pc := 24) (ok_ireturn (nx := 0) rfl (m_dk dk_X7_lent 14 rfl)) <|
  m_nl
theorem mk_X7_lent {GP : m_G → Prop} {cds : Nat → Nat → m_Op} (h : cds 99 = m_lk cd_X7_lent) : m_MOK GP m_my cds 99 := ⟨RX7, false, [], by decide +kernel, rfl, (fun h9 => by first | rfl | cases h9), Or.inl ⟨rfl, rfl⟩, fun pc => by rw [h]; exact m_lk_ok _ ok_X7_lent pc⟩
def dl_X7_owes : List (Nat × Instr × Nat) := [(0, .aload_n 0, 1), (1, .iload_n 1, 1), (2, .invokestatic 112, 3), (5, .ifCond .eq 14, 3), (8, .iload_n 2, 1), (9, .invokestatic 112, 3), (12, .ifCond .eq 7, 3), (15, .iconst 1, 1), (16, .goto 4, 3), (19, .iconst 0, 1), (20, .iconst 1, 1), (21, .iconst 1, 1), (22, .invokevirtual 115, 3), (25, .ifCond .eq 17, 3), (28, .aload_n 0, 1), (29, .getfield 68, 3), (32, .bipush 6, 2), (34, .iload_n 1, 1), (35, .imul, 1), (36, .iload_n 2, 1), (37, .iadd, 1), (38, .iaload, 1), (39, .goto 4, 3), (42, .iconst 0, 1), (43, .ireturn, 1)]
theorem dk_X7_owes : ∀ q ∈ dl_X7_owes, decode cX7_owes q.1 = .ok q.2 := by decide +kernel
def cd_X7_owes : List (Nat × m_Op) := [(0, o_aload 0 1), (1, o_iload 1 2), (2, o_call 66 1 0 0 5), (5, o_ifeq 19 8), (8, o_iload 2 9), (9, o_call 66 1 0 0 12), (12, o_ifeq 19 15), (15, o_const (1) 16), (16, o_goto 20), (19, o_const (0) 20), (20, o_const (1) 21), (21, o_const (1) 22), (22, o_callv 8 64 4 0 0 25), (25, o_ifeq 42 28), (28, o_aload 0 29), (29, o_getf 8 24 32), (32, o_const (6) 34), (34, o_iload 1 35), (35, o_bin (fun x y => x * y) 36), (36, o_iload 2 37), (37, o_bin (fun x y => x + y) 38), (38, o_iald 0 39), (39, o_goto 43), (42, o_const (0) 43), (43, o_ireturn)]
set_option maxRecDepth 20000 in
set_option maxHeartbeats 4000000 in
theorem ok_X7_owes {GP : m_G → Prop} : ∀ q ∈ cd_X7_owes, m_OK GP m_my (cX7_owes, 3, RX7, false, (some .int), []) q.1 q.2 :=
  m_cn (pc := 0) (ok_aload_n (m_dk dk_X7_owes 0 rfl) rfl rfl) <|
  m_cn (pc := 1) (ok_iload_n (m_dk dk_X7_owes 1 rfl) rfl rfl) <|
  m_cn (pc := 2) (ok_calls (T := mt_X7_isMember) my_X7_isMember rfl cw_X7_isMember rfl rfl (by decide) wd_912 wd_913 wd_6 (by decide +kernel) (m_dk dk_X7_owes 2 rfl) rfl) <|
  m_cn (pc := 5) (ok_ifeq (m_dk dk_X7_owes 3 rfl) rfl rfl) <|
  m_cn (pc := 8) (ok_iload_n (m_dk dk_X7_owes 4 rfl) rfl rfl) <|
  m_cn (pc := 9) (ok_calls (T := mt_X7_isMember) my_X7_isMember rfl cw_X7_isMember rfl rfl (by decide) wd_912 wd_913 wd_6 (by decide +kernel) (m_dk dk_X7_owes 5 rfl) rfl) <|
  m_cn (pc := 12) (ok_ifeq (m_dk dk_X7_owes 6 rfl) rfl rfl) <|
  m_cn (pc := 15) (ok_iconst (m_dk dk_X7_owes 7 rfl) (by decide) rfl) <|
  m_cn (pc := 16) (ok_goto (nx := 0) (m_dk dk_X7_owes 8 rfl) rfl) <|
  m_cn (pc := 19) (ok_iconst (m_dk dk_X7_owes 9 rfl) (by decide) rfl) <|
  m_cn (pc := 20) (ok_iconst (m_dk dk_X7_owes 10 rfl) (by decide) rfl) <|
  m_cn (pc := 21) (ok_iconst (m_dk dk_X7_owes 11 rfl) (by decide) rfl) <|
  m_cn (pc := 22) (ok_callv (T := mt_X7_goes) my_X7_goes rfl cw_X7_goes rfl rfl (by decide) (r9 := (RX7, TX7, 36)) rfl rfl wd_915 wd_917 (m_wk 21 (by decide +kernel) (by decide +kernel)) wd_6 (by decide +kernel) (m_dk dk_X7_owes 12 rfl) rfl) <|
  m_cn (pc := 25) (ok_ifeq (m_dk dk_X7_owes 13 rfl) rfl rfl) <|
  m_cn (pc := 28) (ok_aload_n (m_dk dk_X7_owes 14 rfl) rfl rfl) <|
  m_cn (pc := 29) (ok_getf (k := 24) (hc0 := (rfl : vwCl[8]? = some (RX7, TX7, 36))) (by decide) in_X7 wd_813 (m_dk dk_X7_owes 15 rfl) rfl) <|
  m_cn (pc := 32) (ok_bipush (m_dk dk_X7_owes 16 rfl) (by decide) rfl) <|
  m_cn (pc := 34) (ok_iload_n (m_dk dk_X7_owes 17 rfl) rfl rfl) <|
  m_cn (pc := 35) (ok_imul (m_dk dk_X7_owes 18 rfl) rfl) <|
  m_cn (pc := 36) (ok_iload_n (m_dk dk_X7_owes 19 rfl) rfl rfl) <|
  m_cn (pc := 37) (ok_iadd (m_dk dk_X7_owes 20 rfl) rfl) <|
  m_cn (pc := 38) (ok_iald (m_dk dk_X7_owes 21 rfl) rfl) <|
  m_cn (pc := 39) (ok_goto (nx := 0) (m_dk dk_X7_owes 22 rfl) rfl) <|
  m_cn (pc := 42) (ok_iconst (m_dk dk_X7_owes 23 rfl) (by decide) rfl) <|
  m_cn (pc := 43) (ok_ireturn (nx := 0) rfl (m_dk dk_X7_owes 24 rfl)) <|
  m_nl
theorem mk_X7_owes {GP : m_G → Prop} {cds : Nat → Nat → m_Op} (h : cds 100 = m_lk cd_X7_owes) : m_MOK GP m_my cds 100 := ⟨RX7, false, [], by decide +kernel, rfl, (fun h9 => by first | rfl | cases h9), Or.inl ⟨rfl, rfl⟩, fun pc => by rw [h]; exact m_lk_ok _ ok_X7_owes pc⟩
def dl_X7_owesAnew : List (Nat × Instr × Nat) := [(0, .aload_n 0, 1), (1, .iload_n 1, 1), (2, .iload_n 2, 1), (3, .invokevirtual 205, 3), (6, .ireturn, 1)]
theorem dk_X7_owesAnew : ∀ q ∈ dl_X7_owesAnew, decode cX7_owesAnew q.1 = .ok q.2 := by decide +kernel
def cd_X7_owesAnew : List (Nat × m_Op) := [(0, o_aload 0 1), (1, o_iload 1 2), (2, o_iload 2 3), (3, o_callv 8 100 3 0 0 6), (6, o_ireturn)]
set_option maxRecDepth 20000 in
set_option maxHeartbeats 4000000 in
theorem ok_X7_owesAnew {GP : m_G → Prop} : ∀ q ∈ cd_X7_owesAnew, m_OK GP m_my (cX7_owesAnew, 3, RX7, false, (some .int), []) q.1 q.2 :=
  m_cn (pc := 0) (ok_aload_n (m_dk dk_X7_owesAnew 0 rfl) rfl rfl) <|
  m_cn (pc := 1) (ok_iload_n (m_dk dk_X7_owesAnew 1 rfl) rfl rfl) <|
  m_cn (pc := 2) (ok_iload_n (m_dk dk_X7_owesAnew 2 rfl) rfl rfl) <|
  m_cn (pc := 3) (ok_callv (T := mt_X7_owes) my_X7_owes rfl cw_X7_owes rfl rfl (by decide) (r9 := (RX7, TX7, 36)) rfl rfl wd_1056 wd_1049 wd_1050 wd_6 (by decide +kernel) (m_dk dk_X7_owesAnew 3 rfl) rfl) <|
  m_cn (pc := 6) (ok_ireturn (nx := 0) rfl (m_dk dk_X7_owesAnew 4 rfl)) <|
  m_nl
theorem mk_X7_owesAnew {GP : m_G → Prop} {cds : Nat → Nat → m_Op} (h : cds 101 = m_lk cd_X7_owesAnew) : m_MOK GP m_my cds 101 := ⟨RX7, false, [], by decide +kernel, rfl, (fun h9 => by first | rfl | cases h9), Or.inl ⟨rfl, rfl⟩, fun pc => by rw [h]; exact m_lk_ok _ ok_X7_owesAnew pc⟩
def dl_X7_account : List (Nat × Instr × Nat) := [(0, .aload_n 0, 1), (1, .iload_n 1, 1), (2, .iconst (-1), 1), (3, .if_icmp .eq 10, 3), (6, .iload_n 1, 1), (7, .invokestatic 112, 3), (10, .ifCond .eq 7, 3), (13, .iconst 1, 1), (14, .goto 4, 3), (17, .iconst 0, 1), (18, .iconst 1, 1), (19, .iconst 1, 1), (20, .invokevirtual 115, 3), (23, .ifCond .eq 22, 3), (26, .aload_n 0, 1), (27, .getfield 74, 3), (30, .iload_n 1, 1), (31, .iconst (-1), 1), (32, .if_icmp .ne 8, 3), (35, .bipush 6, 2), (37, .goto 4, 3), (40, .iload_n 1, 1), (41, .iaload, 1), (42, .goto 4, 3), (45, .iconst 0, 1), (46, .ireturn, 1)]
theorem dk_X7_account : ∀ q ∈ dl_X7_account, decode cX7_account q.1 = .ok q.2 := by decide +kernel
def cd_X7_account : List (Nat × m_Op) := [(0, o_aload 0 1), (1, o_iload 1 2), (2, o_const (-1) 3), (3, o_icmpeq 13 6), (6, o_iload 1 7), (7, o_call 66 1 0 0 10), (10, o_ifeq 17 13), (13, o_const (1) 14), (14, o_goto 18), (17, o_const (0) 18), (18, o_const (1) 19), (19, o_const (1) 20), (20, o_callv 8 64 4 0 0 23), (23, o_ifeq 45 26), (26, o_aload 0 27), (27, o_getf 8 26 30), (30, o_iload 1 31), (31, o_const (-1) 32), (32, o_icmpne 40 35), (35, o_const (6) 37), (37, o_goto 41), (40, o_iload 1 41), (41, o_iald 0 42), (42, o_goto 46), (45, o_const (0) 46), (46, o_ireturn)]
set_option maxRecDepth 20000 in
set_option maxHeartbeats 4000000 in
theorem ok_X7_account {GP : m_G → Prop} : ∀ q ∈ cd_X7_account, m_OK GP m_my (cX7_account, 2, RX7, false, (some .int), []) q.1 q.2 :=
  m_cn (pc := 0) (ok_aload_n (m_dk dk_X7_account 0 rfl) rfl rfl) <|
  m_cn (pc := 1) (ok_iload_n (m_dk dk_X7_account 1 rfl) rfl rfl) <|
  m_cn (pc := 2) (ok_iconst (m_dk dk_X7_account 2 rfl) (by decide) rfl) <|
  m_cn (pc := 3) (ok_icmpeq (m_dk dk_X7_account 3 rfl) rfl rfl) <|
  m_cn (pc := 6) (ok_iload_n (m_dk dk_X7_account 4 rfl) rfl rfl) <|
  m_cn (pc := 7) (ok_calls (T := mt_X7_isMember) my_X7_isMember rfl cw_X7_isMember rfl rfl (by decide) wd_912 wd_913 wd_6 (by decide +kernel) (m_dk dk_X7_account 5 rfl) rfl) <|
  m_cn (pc := 10) (ok_ifeq (m_dk dk_X7_account 6 rfl) rfl rfl) <|
  m_cn (pc := 13) (ok_iconst (m_dk dk_X7_account 7 rfl) (by decide) rfl) <|
  m_cn (pc := 14) (ok_goto (nx := 0) (m_dk dk_X7_account 8 rfl) rfl) <|
  m_cn (pc := 17) (ok_iconst (m_dk dk_X7_account 9 rfl) (by decide) rfl) <|
  m_cn (pc := 18) (ok_iconst (m_dk dk_X7_account 10 rfl) (by decide) rfl) <|
  m_cn (pc := 19) (ok_iconst (m_dk dk_X7_account 11 rfl) (by decide) rfl) <|
  m_cn (pc := 20) (ok_callv (T := mt_X7_goes) my_X7_goes rfl cw_X7_goes rfl rfl (by decide) (r9 := (RX7, TX7, 36)) rfl rfl wd_915 wd_917 (m_wk 21 (by decide +kernel) (by decide +kernel)) wd_6 (by decide +kernel) (m_dk dk_X7_account 12 rfl) rfl) <|
  m_cn (pc := 23) (ok_ifeq (m_dk dk_X7_account 13 rfl) rfl rfl) <|
  m_cn (pc := 26) (ok_aload_n (m_dk dk_X7_account 14 rfl) rfl rfl) <|
  m_cn (pc := 27) (ok_getf (k := 26) (hc0 := (rfl : vwCl[8]? = some (RX7, TX7, 36))) (by decide) in_X7 wd_815 (m_dk dk_X7_account 15 rfl) rfl) <|
  m_cn (pc := 30) (ok_iload_n (m_dk dk_X7_account 16 rfl) rfl rfl) <|
  m_cn (pc := 31) (ok_iconst (m_dk dk_X7_account 17 rfl) (by decide) rfl) <|
  m_cn (pc := 32) (ok_icmpne (m_dk dk_X7_account 18 rfl) rfl rfl) <|
  m_cn (pc := 35) (ok_bipush (m_dk dk_X7_account 19 rfl) (by decide) rfl) <|
  m_cn (pc := 37) (ok_goto (nx := 0) (m_dk dk_X7_account 20 rfl) rfl) <|
  m_cn (pc := 40) (ok_iload_n (m_dk dk_X7_account 21 rfl) rfl rfl) <|
  m_cn (pc := 41) (ok_iald (m_dk dk_X7_account 22 rfl) rfl) <|
  m_cn (pc := 42) (ok_goto (nx := 0) (m_dk dk_X7_account 23 rfl) rfl) <|
  m_cn (pc := 45) (ok_iconst (m_dk dk_X7_account 24 rfl) (by decide) rfl) <|
  m_cn (pc := 46) (ok_ireturn (nx := 0) rfl (m_dk dk_X7_account 25 rfl)) <|
  m_nl
theorem mk_X7_account {GP : m_G → Prop} {cds : Nat → Nat → m_Op} (h : cds 102 = m_lk cd_X7_account) : m_MOK GP m_my cds 102 := ⟨RX7, false, [], by decide +kernel, rfl, (fun h9 => by first | rfl | cases h9), Or.inl ⟨rfl, rfl⟩, fun pc => by rw [h]; exact m_lk_ok _ ok_X7_account pc⟩
def dl_X7_spent : List (Nat × Instr × Nat) := [(0, .aload_n 0, 1), (1, .iconst 0, 1), (2, .putfield 89, 3), (5, .aload_n 0, 1), (6, .getfield 185, 3), (9, .ireturn, 1)]
theorem dk_X7_spent : ∀ q ∈ dl_X7_spent, decode cX7_spent q.1 = .ok q.2 := by decide +kernel
def cd_X7_spent : List (Nat × m_Op) := [(0, o_aload 0 1), (1, o_const (0) 2), (2, o_puti 8 35 5), (5, o_aload 0 6), (6, o_getf 8 27 9), (9, o_ireturn)]
set_option maxRecDepth 20000 in
set_option maxHeartbeats 4000000 in
theorem ok_X7_spent {GP : m_G → Prop} : ∀ q ∈ cd_X7_spent, m_OK GP m_my (cX7_spent, 1, RX7, false, (some .int), []) q.1 q.2 :=
  m_cn (pc := 0) (ok_aload_n (m_dk dk_X7_spent 0 rfl) rfl rfl) <|
  m_cn (pc := 1) (ok_iconst (m_dk dk_X7_spent 1 rfl) (by decide) rfl) <|
  m_cn (pc := 2) (ok_puti (k := 35) (hc0 := (rfl : vwCl[8]? = some (RX7, TX7, 36))) (by decide) in_X7 wd_824 tyX7 tyX7_ok nmX7 rfl (tyX7_ok 35 (by decide)) (m_dk dk_X7_spent 2 rfl) rfl) <|
  m_cn (pc := 5) (ok_aload_n (m_dk dk_X7_spent 3 rfl) rfl rfl) <|
  m_cn (pc := 6) (ok_getf (k := 27) (hc0 := (rfl : vwCl[8]? = some (RX7, TX7, 36))) (by decide) in_X7 wd_816 (m_dk dk_X7_spent 4 rfl) rfl) <|
  m_cn (pc := 9) (ok_ireturn (nx := 0) rfl (m_dk dk_X7_spent 5 rfl)) <|
  m_nl
theorem mk_X7_spent {GP : m_G → Prop} {cds : Nat → Nat → m_Op} (h : cds 103 = m_lk cd_X7_spent) : m_MOK GP m_my cds 103 := ⟨RX7, false, [], by decide +kernel, rfl, (fun h9 => by first | rfl | cases h9), Or.inl ⟨rfl, rfl⟩, fun pc => by rw [h]; exact m_lk_ok _ ok_X7_spent pc⟩
def dl_X7_sold : List (Nat × Instr × Nat) := [(0, .aload_n 0, 1), (1, .iload_n 1, 1), (2, .invokestatic 112, 3), (5, .ifCond .eq 14, 3), (8, .iload_n 2, 1), (9, .invokestatic 112, 3), (12, .ifCond .eq 7, 3), (15, .iconst 1, 1), (16, .goto 4, 3), (19, .iconst 0, 1), (20, .iconst 1, 1), (21, .iconst 1, 1), (22, .invokevirtual 115, 3), (25, .ifCond .eq 17, 3), (28, .aload_n 0, 1), (29, .getfield 71, 3), (32, .bipush 6, 2), (34, .iload_n 1, 1), (35, .imul, 1), (36, .iload_n 2, 1), (37, .iadd, 1), (38, .iaload, 1), (39, .goto 4, 3), (42, .iconst 0, 1), (43, .ireturn, 1)]
theorem dk_X7_sold : ∀ q ∈ dl_X7_sold, decode cX7_sold q.1 = .ok q.2 := by decide +kernel
def cd_X7_sold : List (Nat × m_Op) := [(0, o_aload 0 1), (1, o_iload 1 2), (2, o_call 66 1 0 0 5), (5, o_ifeq 19 8), (8, o_iload 2 9), (9, o_call 66 1 0 0 12), (12, o_ifeq 19 15), (15, o_const (1) 16), (16, o_goto 20), (19, o_const (0) 20), (20, o_const (1) 21), (21, o_const (1) 22), (22, o_callv 8 64 4 0 0 25), (25, o_ifeq 42 28), (28, o_aload 0 29), (29, o_getf 8 25 32), (32, o_const (6) 34), (34, o_iload 1 35), (35, o_bin (fun x y => x * y) 36), (36, o_iload 2 37), (37, o_bin (fun x y => x + y) 38), (38, o_iald 0 39), (39, o_goto 43), (42, o_const (0) 43), (43, o_ireturn)]
set_option maxRecDepth 20000 in
set_option maxHeartbeats 4000000 in
theorem ok_X7_sold {GP : m_G → Prop} : ∀ q ∈ cd_X7_sold, m_OK GP m_my (cX7_sold, 3, RX7, false, (some .int), []) q.1 q.2 :=
  m_cn (pc := 0) (ok_aload_n (m_dk dk_X7_sold 0 rfl) rfl rfl) <|
  m_cn (pc := 1) (ok_iload_n (m_dk dk_X7_sold 1 rfl) rfl rfl) <|
  m_cn (pc := 2) (ok_calls (T := mt_X7_isMember) my_X7_isMember rfl cw_X7_isMember rfl rfl (by decide) wd_912 wd_913 wd_6 (by decide +kernel) (m_dk dk_X7_sold 2 rfl) rfl) <|
  m_cn (pc := 5) (ok_ifeq (m_dk dk_X7_sold 3 rfl) rfl rfl) <|
  m_cn (pc := 8) (ok_iload_n (m_dk dk_X7_sold 4 rfl) rfl rfl) <|
  m_cn (pc := 9) (ok_calls (T := mt_X7_isMember) my_X7_isMember rfl cw_X7_isMember rfl rfl (by decide) wd_912 wd_913 wd_6 (by decide +kernel) (m_dk dk_X7_sold 5 rfl) rfl) <|
  m_cn (pc := 12) (ok_ifeq (m_dk dk_X7_sold 6 rfl) rfl rfl) <|
  m_cn (pc := 15) (ok_iconst (m_dk dk_X7_sold 7 rfl) (by decide) rfl) <|
  m_cn (pc := 16) (ok_goto (nx := 0) (m_dk dk_X7_sold 8 rfl) rfl) <|
  m_cn (pc := 19) (ok_iconst (m_dk dk_X7_sold 9 rfl) (by decide) rfl) <|
  m_cn (pc := 20) (ok_iconst (m_dk dk_X7_sold 10 rfl) (by decide) rfl) <|
  m_cn (pc := 21) (ok_iconst (m_dk dk_X7_sold 11 rfl) (by decide) rfl) <|
  m_cn (pc := 22) (ok_callv (T := mt_X7_goes) my_X7_goes rfl cw_X7_goes rfl rfl (by decide) (r9 := (RX7, TX7, 36)) rfl rfl wd_915 wd_917 (m_wk 21 (by decide +kernel) (by decide +kernel)) wd_6 (by decide +kernel) (m_dk dk_X7_sold 12 rfl) rfl) <|
  m_cn (pc := 25) (ok_ifeq (m_dk dk_X7_sold 13 rfl) rfl rfl) <|
  m_cn (pc := 28) (ok_aload_n (m_dk dk_X7_sold 14 rfl) rfl rfl) <|
  m_cn (pc := 29) (ok_getf (k := 25) (hc0 := (rfl : vwCl[8]? = some (RX7, TX7, 36))) (by decide) in_X7 wd_814 (m_dk dk_X7_sold 15 rfl) rfl) <|
  m_cn (pc := 32) (ok_bipush (m_dk dk_X7_sold 16 rfl) (by decide) rfl) <|
  m_cn (pc := 34) (ok_iload_n (m_dk dk_X7_sold 17 rfl) rfl rfl) <|
  m_cn (pc := 35) (ok_imul (m_dk dk_X7_sold 18 rfl) rfl) <|
  m_cn (pc := 36) (ok_iload_n (m_dk dk_X7_sold 19 rfl) rfl rfl) <|
  m_cn (pc := 37) (ok_iadd (m_dk dk_X7_sold 20 rfl) rfl) <|
  m_cn (pc := 38) (ok_iald (m_dk dk_X7_sold 21 rfl) rfl) <|
  m_cn (pc := 39) (ok_goto (nx := 0) (m_dk dk_X7_sold 22 rfl) rfl) <|
  m_cn (pc := 42) (ok_iconst (m_dk dk_X7_sold 23 rfl) (by decide) rfl) <|
  m_cn (pc := 43) (ok_ireturn (nx := 0) rfl (m_dk dk_X7_sold 24 rfl)) <|
  m_nl
theorem mk_X7_sold {GP : m_G → Prop} {cds : Nat → Nat → m_Op} (h : cds 104 = m_lk cd_X7_sold) : m_MOK GP m_my cds 104 := ⟨RX7, false, [], by decide +kernel, rfl, (fun h9 => by first | rfl | cases h9), Or.inl ⟨rfl, rfl⟩, fun pc => by rw [h]; exact m_lk_ok _ ok_X7_sold pc⟩
def dl_X7_place : List (Nat × Instr × Nat) := [(0, .aload_n 0, 1), (1, .aload_n 0, 1), (2, .iload_n 1, 1), (3, .invokevirtual 136, 3), (6, .iconst 1, 1), (7, .iconst 1, 1), (8, .invokevirtual 115, 3), (11, .ifCond .eq 12, 3), (14, .aload_n 0, 1), (15, .getfield 49, 3), (18, .iload_n 1, 1), (19, .iaload, 1), (20, .goto 4, 3), (23, .iconst 0, 1), (24, .ireturn, 1)]
theorem dk_X7_place : ∀ q ∈ dl_X7_place, decode cX7_place q.1 = .ok q.2 := by decide +kernel
def cd_X7_place : List (Nat × m_Op) := [(0, o_aload 0 1), (1, o_aload 0 2), (2, o_iload 1 3), (3, o_callv 8 70 2 0 0 6), (6, o_const (1) 7), (7, o_const (1) 8), (8, o_callv 8 64 4 0 0 11), (11, o_ifeq 23 14), (14, o_aload 0 15), (15, o_getf 8 18 18), (18, o_iload 1 19), (19, o_iald 0 20), (20, o_goto 24), (23, o_const (0) 24), (24, o_ireturn)]
set_option maxRecDepth 20000 in
set_option maxHeartbeats 4000000 in
theorem ok_X7_place {GP : m_G → Prop} : ∀ q ∈ cd_X7_place, m_OK GP m_my (cX7_place, 2, RX7, false, (some .int), []) q.1 q.2 :=
  m_cn (pc := 0) (ok_aload_n (m_dk dk_X7_place 0 rfl) rfl rfl) <|
  m_cn (pc := 1) (ok_aload_n (m_dk dk_X7_place 1 rfl) rfl rfl) <|
  m_cn (pc := 2) (ok_iload_n (m_dk dk_X7_place 2 rfl) rfl rfl) <|
  m_cn (pc := 3) (ok_callv (T := mt_X7_isShip) my_X7_isShip rfl cw_X7_isShip rfl rfl (by decide) (r9 := (RX7, TX7, 36)) rfl rfl wd_956 wd_958 (m_wk 26 (by decide +kernel) (by decide +kernel)) wd_6 (by decide +kernel) (m_dk dk_X7_place 3 rfl) rfl) <|
  m_cn (pc := 6) (ok_iconst (m_dk dk_X7_place 4 rfl) (by decide) rfl) <|
  m_cn (pc := 7) (ok_iconst (m_dk dk_X7_place 5 rfl) (by decide) rfl) <|
  m_cn (pc := 8) (ok_callv (T := mt_X7_goes) my_X7_goes rfl cw_X7_goes rfl rfl (by decide) (r9 := (RX7, TX7, 36)) rfl rfl wd_915 wd_917 (m_wk 21 (by decide +kernel) (by decide +kernel)) wd_6 (by decide +kernel) (m_dk dk_X7_place 6 rfl) rfl) <|
  m_cn (pc := 11) (ok_ifeq (m_dk dk_X7_place 7 rfl) rfl rfl) <|
  m_cn (pc := 14) (ok_aload_n (m_dk dk_X7_place 8 rfl) rfl rfl) <|
  m_cn (pc := 15) (ok_getf (k := 18) (hc0 := (rfl : vwCl[8]? = some (RX7, TX7, 36))) (by decide) in_X7 wd_807 (m_dk dk_X7_place 9 rfl) rfl) <|
  m_cn (pc := 18) (ok_iload_n (m_dk dk_X7_place 10 rfl) rfl rfl) <|
  m_cn (pc := 19) (ok_iald (m_dk dk_X7_place 11 rfl) rfl) <|
  m_cn (pc := 20) (ok_goto (nx := 0) (m_dk dk_X7_place 12 rfl) rfl) <|
  m_cn (pc := 23) (ok_iconst (m_dk dk_X7_place 13 rfl) (by decide) rfl) <|
  m_cn (pc := 24) (ok_ireturn (nx := 0) rfl (m_dk dk_X7_place 14 rfl)) <|
  m_nl
theorem mk_X7_place {GP : m_G → Prop} {cds : Nat → Nat → m_Op} (h : cds 105 = m_lk cd_X7_place) : m_MOK GP m_my cds 105 := ⟨RX7, false, [], by decide +kernel, rfl, (fun h9 => by first | rfl | cases h9), Or.inl ⟨rfl, rfl⟩, fun pc => by rw [h]; exact m_lk_ok _ ok_X7_place pc⟩
def dl_X7_worked : List (Nat × Instr × Nat) := [(0, .aload_n 0, 1), (1, .aload_n 0, 1), (2, .iload_n 1, 1), (3, .invokevirtual 139, 3), (6, .iconst 1, 1), (7, .iconst 1, 1), (8, .invokevirtual 115, 3), (11, .ifCond .eq 12, 3), (14, .aload_n 0, 1), (15, .getfield 46, 3), (18, .iload_n 1, 1), (19, .iaload, 1), (20, .goto 4, 3), (23, .iconst 0, 1), (24, .ireturn, 1)]
theorem dk_X7_worked : ∀ q ∈ dl_X7_worked, decode cX7_worked q.1 = .ok q.2 := by decide +kernel
def cd_X7_worked : List (Nat × m_Op) := [(0, o_aload 0 1), (1, o_aload 0 2), (2, o_iload 1 3), (3, o_callv 8 69 2 0 0 6), (6, o_const (1) 7), (7, o_const (1) 8), (8, o_callv 8 64 4 0 0 11), (11, o_ifeq 23 14), (14, o_aload 0 15), (15, o_getf 8 16 18), (18, o_iload 1 19), (19, o_iald 0 20), (20, o_goto 24), (23, o_const (0) 24), (24, o_ireturn)]
set_option maxRecDepth 20000 in
set_option maxHeartbeats 4000000 in
theorem ok_X7_worked {GP : m_G → Prop} : ∀ q ∈ cd_X7_worked, m_OK GP m_my (cX7_worked, 2, RX7, false, (some .int), []) q.1 q.2 :=
  m_cn (pc := 0) (ok_aload_n (m_dk dk_X7_worked 0 rfl) rfl rfl) <|
  m_cn (pc := 1) (ok_aload_n (m_dk dk_X7_worked 1 rfl) rfl rfl) <|
  m_cn (pc := 2) (ok_iload_n (m_dk dk_X7_worked 2 rfl) rfl rfl) <|
  m_cn (pc := 3) (ok_callv (T := mt_X7_isCut) my_X7_isCut rfl cw_X7_isCut rfl rfl (by decide) (r9 := (RX7, TX7, 36)) rfl rfl wd_960 wd_962 (m_wk 27 (by decide +kernel) (by decide +kernel)) wd_6 (by decide +kernel) (m_dk dk_X7_worked 3 rfl) rfl) <|
  m_cn (pc := 6) (ok_iconst (m_dk dk_X7_worked 4 rfl) (by decide) rfl) <|
  m_cn (pc := 7) (ok_iconst (m_dk dk_X7_worked 5 rfl) (by decide) rfl) <|
  m_cn (pc := 8) (ok_callv (T := mt_X7_goes) my_X7_goes rfl cw_X7_goes rfl rfl (by decide) (r9 := (RX7, TX7, 36)) rfl rfl wd_915 wd_917 (m_wk 21 (by decide +kernel) (by decide +kernel)) wd_6 (by decide +kernel) (m_dk dk_X7_worked 6 rfl) rfl) <|
  m_cn (pc := 11) (ok_ifeq (m_dk dk_X7_worked 7 rfl) rfl rfl) <|
  m_cn (pc := 14) (ok_aload_n (m_dk dk_X7_worked 8 rfl) rfl rfl) <|
  m_cn (pc := 15) (ok_getf (k := 16) (hc0 := (rfl : vwCl[8]? = some (RX7, TX7, 36))) (by decide) in_X7 wd_805 (m_dk dk_X7_worked 9 rfl) rfl) <|
  m_cn (pc := 18) (ok_iload_n (m_dk dk_X7_worked 10 rfl) rfl rfl) <|
  m_cn (pc := 19) (ok_iald (m_dk dk_X7_worked 11 rfl) rfl) <|
  m_cn (pc := 20) (ok_goto (nx := 0) (m_dk dk_X7_worked 12 rfl) rfl) <|
  m_cn (pc := 23) (ok_iconst (m_dk dk_X7_worked 13 rfl) (by decide) rfl) <|
  m_cn (pc := 24) (ok_ireturn (nx := 0) rfl (m_dk dk_X7_worked 14 rfl)) <|
  m_nl
theorem mk_X7_worked {GP : m_G → Prop} {cds : Nat → Nat → m_Op} (h : cds 106 = m_lk cd_X7_worked) : m_MOK GP m_my cds 106 := ⟨RX7, false, [], by decide +kernel, rfl, (fun h9 => by first | rfl | cases h9), Or.inl ⟨rfl, rfl⟩, fun pc => by rw [h]; exact m_lk_ok _ ok_X7_worked pc⟩
def dl_X7_seal : List (Nat × Instr × Nat) := [(0, .aload_n 0, 1), (1, .iconst 0, 1), (2, .putfield 89, 3), (5, .iconst 0, 1), (6, .istore_n 1, 1), (7, .iconst 0, 1), (8, .istore_n 2, 1), (9, .iload_n 2, 1), (10, .bipush 36, 2), (12, .if_icmp .ge 39, 3), (15, .iload_n 2, 1), (16, .bipush 6, 2), (18, .idiv, 1), (19, .iload_n 2, 1), (20, .bipush 6, 2), (22, .irem, 1), (23, .if_icmp .eq 22, 3), (26, .iload_n 1, 1), (27, .iconst 3, 1), (28, .ishl, 1), (29, .iload_n 1, 1), (30, .bipush 29, 2), (32, .iushr, 1), (33, .ixor, 1), (34, .bipush 31, 2), (36, .aload_n 0, 1), (37, .getfield 68, 3), (40, .iload_n 2, 1), (41, .iaload, 1), (42, .imul, 1), (43, .iadd, 1), (44, .istore_n 1, 1), (45, .iinc 2 1, 3), (48, .goto (-39), 3), (51, .iload_n 1, 1), (52, .ireturn, 1)]
theorem dk_X7_seal : ∀ q ∈ dl_X7_seal, decode cX7_seal q.1 = .ok q.2 := by decide +kernel
def cd_X7_seal : List (Nat × m_Op) := [(0, o_aload 0 1), (1, o_const (0) 2), (2, o_puti 8 35 5), (5, o_const (0) 6), (6, o_istore 1 7), (7, o_const (0) 8), (8, o_istore 2 9), (9, o_iload 2 10), (10, o_const (36) 12), (12, o_icmpge 51 15), (15, o_iload 2 16), (16, o_const (6) 18), (18, o_div (fun x y => x / y) 19), (19, o_iload 2 20), (20, o_const (6) 22), (22, o_div (fun x y => x - x / y * y) 23), (23, o_icmpeq 45 26), (26, o_iload 1 27), (27, o_const (3) 28), (28, o_bin (fun x y => x <<< (y &&& 31)) 29), (29, o_iload 1 30), (30, o_const (29) 32), (32, o_bin (fun x y => (x.toUInt32 >>> (y.toUInt32 &&& Int32.toUInt32 31)).toInt32) 33), (33, o_bin (fun x y => x ^^^ y) 34), (34, o_const (31) 36), (36, o_aload 0 37), (37, o_getf 8 24 40), (40, o_iload 2 41), (41, o_iald 0 42), (42, o_bin (fun x y => x * y) 43), (43, o_bin (fun x y => x + y) 44), (44, o_istore 1 45), (45, o_iinc 2 (1) 48), (48, o_goto 9), (51, o_iload 1 52), (52, o_ireturn)]
set_option maxRecDepth 20000 in
set_option maxHeartbeats 4000000 in
theorem ok_X7_seal {GP : m_G → Prop} : ∀ q ∈ cd_X7_seal, m_OK GP m_my (cX7_seal, 3, RX7, false, (some .int), []) q.1 q.2 :=
  m_cn (pc := 0) (ok_aload_n (m_dk dk_X7_seal 0 rfl) rfl rfl) <|
  m_cn (pc := 1) (ok_iconst (m_dk dk_X7_seal 1 rfl) (by decide) rfl) <|
  m_cn (pc := 2) (ok_puti (k := 35) (hc0 := (rfl : vwCl[8]? = some (RX7, TX7, 36))) (by decide) in_X7 wd_824 tyX7 tyX7_ok nmX7 rfl (tyX7_ok 35 (by decide)) (m_dk dk_X7_seal 2 rfl) rfl) <|
  m_cn (pc := 5) (ok_iconst (m_dk dk_X7_seal 3 rfl) (by decide) rfl) <|
  m_cn (pc := 6) (ok_istore_n (m_dk dk_X7_seal 4 rfl) rfl rfl) <|
  m_cn (pc := 7) (ok_iconst (m_dk dk_X7_seal 5 rfl) (by decide) rfl) <|
  m_cn (pc := 8) (ok_istore_n (m_dk dk_X7_seal 6 rfl) rfl rfl) <|
  m_cn (pc := 9) (ok_iload_n (m_dk dk_X7_seal 7 rfl) rfl rfl) <|
  m_cn (pc := 10) (ok_bipush (m_dk dk_X7_seal 8 rfl) (by decide) rfl) <|
  m_cn (pc := 12) (ok_icmpge (m_dk dk_X7_seal 9 rfl) rfl rfl) <|
  m_cn (pc := 15) (ok_iload_n (m_dk dk_X7_seal 10 rfl) rfl rfl) <|
  m_cn (pc := 16) (ok_bipush (m_dk dk_X7_seal 11 rfl) (by decide) rfl) <|
  m_cn (pc := 18) (ok_idiv (m_dk dk_X7_seal 12 rfl) rfl) <|
  m_cn (pc := 19) (ok_iload_n (m_dk dk_X7_seal 13 rfl) rfl rfl) <|
  m_cn (pc := 20) (ok_bipush (m_dk dk_X7_seal 14 rfl) (by decide) rfl) <|
  m_cn (pc := 22) (ok_irem (m_dk dk_X7_seal 15 rfl) rfl) <|
  m_cn (pc := 23) (ok_icmpeq (m_dk dk_X7_seal 16 rfl) rfl rfl) <|
  m_cn (pc := 26) (ok_iload_n (m_dk dk_X7_seal 17 rfl) rfl rfl) <|
  m_cn (pc := 27) (ok_iconst (m_dk dk_X7_seal 18 rfl) (by decide) rfl) <|
  m_cn (pc := 28) (ok_ishl (m_dk dk_X7_seal 19 rfl) rfl) <|
  m_cn (pc := 29) (ok_iload_n (m_dk dk_X7_seal 20 rfl) rfl rfl) <|
  m_cn (pc := 30) (ok_bipush (m_dk dk_X7_seal 21 rfl) (by decide) rfl) <|
  m_cn (pc := 32) (ok_iushr (m_dk dk_X7_seal 22 rfl) rfl) <|
  m_cn (pc := 33) (ok_ixor (m_dk dk_X7_seal 23 rfl) rfl) <|
  m_cn (pc := 34) (ok_bipush (m_dk dk_X7_seal 24 rfl) (by decide) rfl) <|
  m_cn (pc := 36) (ok_aload_n (m_dk dk_X7_seal 25 rfl) rfl rfl) <|
  m_cn (pc := 37) (ok_getf (k := 24) (hc0 := (rfl : vwCl[8]? = some (RX7, TX7, 36))) (by decide) in_X7 wd_813 (m_dk dk_X7_seal 26 rfl) rfl) <|
  m_cn (pc := 40) (ok_iload_n (m_dk dk_X7_seal 27 rfl) rfl rfl) <|
  m_cn (pc := 41) (ok_iald (m_dk dk_X7_seal 28 rfl) rfl) <|
  m_cn (pc := 42) (ok_imul (m_dk dk_X7_seal 29 rfl) rfl) <|
  m_cn (pc := 43) (ok_iadd (m_dk dk_X7_seal 30 rfl) rfl) <|
  m_cn (pc := 44) (ok_istore_n (m_dk dk_X7_seal 31 rfl) rfl rfl) <|
  m_cn (pc := 45) (ok_iinc (m_dk dk_X7_seal 32 rfl) (by decide) rfl) <|
  m_cn (pc := 48) (ok_goto (nx := 0) (m_dk dk_X7_seal 33 rfl) rfl) <|
  m_cn (pc := 51) (ok_iload_n (m_dk dk_X7_seal 34 rfl) rfl rfl) <|
  m_cn (pc := 52) (ok_ireturn (nx := 0) rfl (m_dk dk_X7_seal 35 rfl)) <|
  m_nl
theorem mk_X7_seal {GP : m_G → Prop} {cds : Nat → Nat → m_Op} (h : cds 107 = m_lk cd_X7_seal) : m_MOK GP m_my cds 107 := ⟨RX7, false, [], by decide +kernel, rfl, (fun h9 => by first | rfl | cases h9), Or.inl ⟨rfl, rfl⟩, fun pc => by rw [h]; exact m_lk_ok _ ok_X7_seal pc⟩
