def dl_X6_init : List (Nat × Instr × Nat) := [(0, .aload_n 0, 1), (1, .invokespecial 3, 3), (4, .aload_n 0, 1), (5, .new 9, 3), (8, .dup, 1), (9, .invokespecial 11, 3), (12, .putfield 12, 3), (15, .aload_n 0, 1), (16, .new 9, 3), (19, .dup, 1), (20, .invokespecial 11, 3), (23, .putfield 16, 3), (26, .aload_n 0, 1), (27, .bipush 16, 2), (29, .anewarray 19, 3), (32, .putfield 21, 3), (35, .aload_n 0, 1), (36, .iconst 3, 1), (37, .anewarray 25, 3), (40, .putfield 27, 3), (43, .aload_n 0, 1), (44, .new 31, 3), (47, .dup, 1), (48, .invokespecial 33, 3), (51, .putfield 34, 3), (54, .aload_n 0, 1), (55, .bipush 6, 2), (57, .bipush 6, 2), (59, .multianewarray 38 2, 4), (63, .putfield 40, 3), (66, .aload_n 0, 1), (67, .bipush 6, 2), (69, .bipush 6, 2), (71, .multianewarray 38 2, 4), (75, .putfield 43, 3), (78, .aload_n 0, 1), (79, .bipush 6, 2), (81, .newarray .int, 2), (83, .putfield 46, 3), (86, .aload_n 0, 1), (87, .iconst (-1), 1), (88, .putfield 50, 3), (91, .aload_n 0, 1), (92, .iconst (-1), 1), (93, .putfield 54, 3), (96, .return_, 1)]
theorem dk_X6_init : ∀ q ∈ dl_X6_init, decode cX6_init q.1 = .ok q.2 := by decide +kernel
def cd_X6_init : List (Nat × m_Op) := [(0, o_aload 0 1), (1, o_drop 4), (4, o_aload 0 5), (5, o_new 4 16 [.null, .null, .null, .null, .null, .null, .null, .int 0, .int 0, .null, .null, .int 0, .int 0, .int 0, .int 0, .int 0] 8), (8, o_dup 9), (9, o_callv 4 4 1 35 242 12), (12, o_putr 7 0 15), (15, o_aload 0 16), (16, o_new 4 16 [.null, .null, .null, .null, .null, .null, .null, .int 0, .int 0, .null, .null, .int 0, .int 0, .int 0, .int 0, .int 0] 19), (19, o_dup 20), (20, o_callv 4 4 1 35 242 23), (23, o_putr 7 1 26), (26, o_aload 0 27), (27, o_const (16) 29), (29, o_newq 6 16 32), (32, o_putr 7 2 35), (35, o_aload 0 36), (36, o_const (3) 37), (37, o_newq 7 3 40), (40, o_putr 7 3 43), (43, o_aload 0 44), (44, o_new 0 3 [.int 0, .null, .int 0] 47), (47, o_dup 48), (48, o_callv 0 63 1 0 0 51), (51, o_putr 7 4 54), (54, o_aload 0 55), (55, o_const (6) 57), (57, o_const (6) 59), (59, o_mna 6 6 63), (63, o_putr 7 5 66), (66, o_aload 0 67), (67, o_const (6) 69), (69, o_const (6) 71), (71, o_mna 6 6 75), (75, o_putr 7 6 78), (78, o_aload 0 79), (79, o_const (6) 81), (81, o_newi 0 6 83), (83, o_putr 7 7 86), (86, o_aload 0 87), (87, o_const (-1) 88), (88, o_puti 7 13 91), (91, o_aload 0 92), (92, o_const (-1) 93), (93, o_puti 7 14 96), (96, o_return)]
set_option maxRecDepth 20000 in
set_option maxHeartbeats 4000000 in
theorem ok_X6_init {GP : m_G → Prop} : ∀ q ∈ cd_X6_init, m_OK GP m_my (cX6_init, 1, RX6, true, none, []) q.1 q.2 :=
  m_cn (pc := 0) (ok_aload_n (m_dk dk_X6_init 0 rfl) rfl rfl) <|
  m_cn (pc := 1) (ok_drop wd_28 wd_29 wd_objinit (m_dk dk_X6_init 1 rfl) rfl) <|
  m_cn (pc := 4) (ok_aload_n (m_dk dk_X6_init 2 rfl) rfl rfl) <|
  m_cn (pc := 5) (ok_new (hc0 := (rfl : vwCl[4]? = some (RX3, TX3, 16))) in_X3 tyX3 tyX3_ok wd_31 wd_32 wd_2 df_X3 (fun _ => rfl) dv_X3 (m_dk dk_X6_init 3 rfl) rfl) <|
  m_cn (pc := 8) (ok_dup (m_dk dk_X6_init 4 rfl) rfl) <|
  m_cn (pc := 9) (ok_callin (host := "Cablecourt") (T := mt_X3_init) my_X3_init rfl cw_X3_init rfl rfl (by decide) (m_wc 54 (by decide +kernel) rfl) wd_34 wd_2 rfl (by decide +kernel) (m_dk dk_X6_init 5 rfl) rfl) <|
  m_cn (pc := 12) (ok_putrF (k := 0) (hc0 := (rfl : vwCl[7]? = some (RX6, TX6, 15))) (by decide) in_X6 wd_134 tyX6 tyX6_ok nmX6 rfl rfl rfl (tyX6_ok 0 (by decide)) (fun _ => rfl) (fun _ => rfl) (m_dk dk_X6_init 6 rfl) rfl) <|
  m_cn (pc := 15) (ok_aload_n (m_dk dk_X6_init 7 rfl) rfl rfl) <|
  m_cn (pc := 16) (ok_new (hc0 := (rfl : vwCl[4]? = some (RX3, TX3, 16))) in_X3 tyX3 tyX3_ok wd_31 wd_32 wd_2 df_X3 (fun _ => rfl) dv_X3 (m_dk dk_X6_init 8 rfl) rfl) <|
  m_cn (pc := 19) (ok_dup (m_dk dk_X6_init 9 rfl) rfl) <|
  m_cn (pc := 20) (ok_callin (host := "Cablecourt") (T := mt_X3_init) my_X3_init rfl cw_X3_init rfl rfl (by decide) (m_wc 54 (by decide +kernel) rfl) wd_34 wd_2 rfl (by decide +kernel) (m_dk dk_X6_init 10 rfl) rfl) <|
  m_cn (pc := 23) (ok_putrF (k := 1) (hc0 := (rfl : vwCl[7]? = some (RX6, TX6, 15))) (by decide) in_X6 wd_135 tyX6 tyX6_ok nmX6 rfl rfl rfl (tyX6_ok 1 (by decide)) (fun _ => rfl) (fun _ => rfl) (m_dk dk_X6_init 11 rfl) rfl) <|
  m_cn (pc := 26) (ok_aload_n (m_dk dk_X6_init 12 rfl) rfl rfl) <|
  m_cn (pc := 27) (ok_bipush (m_dk dk_X6_init 13 rfl) (by decide) rfl) <|
  m_cn (pc := 29) (ok_newq (C := "Cablecourt$Cut") (fun _ => rfl) (by decide) wd_103 (by decide) (m_dk dk_X6_init 14 rfl) rfl) <|
  m_cn (pc := 32) (ok_putrF (k := 2) (hc0 := (rfl : vwCl[7]? = some (RX6, TX6, 15))) (by decide) in_X6 wd_136 tyX6 tyX6_ok nmX6 rfl rfl rfl (tyX6_ok 2 (by decide)) (fun _ => rfl) (fun _ => rfl) (m_dk dk_X6_init 15 rfl) rfl) <|
  m_cn (pc := 35) (ok_aload_n (m_dk dk_X6_init 16 rfl) rfl rfl) <|
  m_cn (pc := 36) (ok_iconst (m_dk dk_X6_init 17 rfl) (by decide) rfl) <|
  m_cn (pc := 37) (ok_newq (C := "Cablecourt$Ship") (fun _ => rfl) (by decide) wd_105 (by decide) (m_dk dk_X6_init 18 rfl) rfl) <|
  m_cn (pc := 40) (ok_putrF (k := 3) (hc0 := (rfl : vwCl[7]? = some (RX6, TX6, 15))) (by decide) in_X6 wd_137 tyX6 tyX6_ok nmX6 rfl rfl rfl (tyX6_ok 3 (by decide)) (fun _ => rfl) (fun _ => rfl) (m_dk dk_X6_init 19 rfl) rfl) <|
  m_cn (pc := 43) (ok_aload_n (m_dk dk_X6_init 20 rfl) rfl rfl) <|
  m_cn (pc := 44) (ok_new (hc0 := (rfl : vwCl[0]? = some (RJx4a65c, TJx4a65c, 3))) in_Jx4a65c tyJx4a65c tyJx4a65c_ok wd_107 wd_108 wd_5 df_Jx4a65c (fun _ => rfl) dv_Jx4a65c (m_dk dk_X6_init 21 rfl) rfl) <|
  m_cn (pc := 47) (ok_dup (m_dk dk_X6_init 22 rfl) rfl) <|
  m_cn (pc := 48) (ok_calli (T := mt_Jx4a65c_init_da8c8) my_Jx4a65c_init_da8c8 rfl cw_Jx4a65c_init_da8c8 rfl rfl (by decide) wd_109 wd_110 wd_5 rfl (by decide +kernel) (m_dk dk_X6_init 23 rfl) rfl) <|
  m_cn (pc := 51) (ok_putrF (k := 4) (hc0 := (rfl : vwCl[7]? = some (RX6, TX6, 15))) (by decide) in_X6 wd_138 tyX6 tyX6_ok nmX6 rfl rfl rfl (tyX6_ok 4 (by decide)) (fun _ => rfl) (fun _ => rfl) (m_dk dk_X6_init 24 rfl) rfl) <|
  m_cn (pc := 54) (ok_aload_n (m_dk dk_X6_init 25 rfl) rfl rfl) <|
  m_cn (pc := 55) (ok_bipush (m_dk dk_X6_init 26 rfl) (by decide) rfl) <|
  m_cn (pc := 57) (ok_bipush (m_dk dk_X6_init 27 rfl) (by decide) rfl) <|
  m_cn (pc := 59) (ok_mna wd_133 wd_102 (by decide) (by decide) (m_dk dk_X6_init 28 rfl) rfl) <|
  m_cn (pc := 63) (ok_putrF (k := 5) (hc0 := (rfl : vwCl[7]? = some (RX6, TX6, 15))) (by decide) in_X6 wd_139 tyX6 tyX6_ok nmX6 rfl rfl rfl (tyX6_ok 5 (by decide)) (fun _ => rfl) (fun _ => rfl) (m_dk dk_X6_init 29 rfl) rfl) <|
  m_cn (pc := 66) (ok_aload_n (m_dk dk_X6_init 30 rfl) rfl rfl) <|
  m_cn (pc := 67) (ok_bipush (m_dk dk_X6_init 31 rfl) (by decide) rfl) <|
  m_cn (pc := 69) (ok_bipush (m_dk dk_X6_init 32 rfl) (by decide) rfl) <|
  m_cn (pc := 71) (ok_mna wd_133 wd_102 (by decide) (by decide) (m_dk dk_X6_init 33 rfl) rfl) <|
  m_cn (pc := 75) (ok_putrF (k := 6) (hc0 := (rfl : vwCl[7]? = some (RX6, TX6, 15))) (by decide) in_X6 wd_140 tyX6 tyX6_ok nmX6 rfl rfl rfl (tyX6_ok 6 (by decide)) (fun _ => rfl) (fun _ => rfl) (m_dk dk_X6_init 34 rfl) rfl) <|
  m_cn (pc := 78) (ok_aload_n (m_dk dk_X6_init 35 rfl) rfl rfl) <|
  m_cn (pc := 79) (ok_bipush (m_dk dk_X6_init 36 rfl) (by decide) rfl) <|
  m_cn (pc := 81) (ok_newi wd_102 (by decide) (m_dk dk_X6_init 37 rfl) rfl) <|
  m_cn (pc := 83) (ok_putrF (k := 7) (hc0 := (rfl : vwCl[7]? = some (RX6, TX6, 15))) (by decide) in_X6 wd_141 tyX6 tyX6_ok nmX6 rfl rfl rfl (tyX6_ok 7 (by decide)) (fun _ => rfl) (fun _ => rfl) (m_dk dk_X6_init 38 rfl) rfl) <|
  m_cn (pc := 86) (ok_aload_n (m_dk dk_X6_init 39 rfl) rfl rfl) <|
  m_cn (pc := 87) (ok_iconst (m_dk dk_X6_init 40 rfl) (by decide) rfl) <|
  m_cn (pc := 88) (ok_puti (k := 13) (hc0 := (rfl : vwCl[7]? = some (RX6, TX6, 15))) (by decide) in_X6 wd_147 tyX6 tyX6_ok nmX6 rfl (tyX6_ok 13 (by decide)) (m_dk dk_X6_init 41 rfl) rfl) <|
  m_cn (pc := 91) (ok_aload_n (m_dk dk_X6_init 42 rfl) rfl rfl) <|
  m_cn (pc := 92) (ok_iconst (m_dk dk_X6_init 43 rfl) (by decide) rfl) <|
  m_cn (pc := 93) (ok_puti (k := 14) (hc0 := (rfl : vwCl[7]? = some (RX6, TX6, 15))) (by decide) in_X6 wd_148 tyX6 tyX6_ok nmX6 rfl (tyX6_ok 14 (by decide)) (m_dk dk_X6_init 44 rfl) rfl) <|
  m_cn (pc := 96) (ok_return (nx := 0) rfl (m_dk dk_X6_init 45 rfl)) <|
  m_nl
theorem mk_X6_init {GP : m_G → Prop} {cds : Nat → Nat → m_Op} (h : cds 22 = m_lk cd_X6_init) : m_MOK GP m_my cds 22 := ⟨RX6, true, [], by decide +kernel, rfl, (fun h9 => by first | rfl | cases h9), Or.inl ⟨rfl, rfl⟩, fun pc => by rw [h]; exact m_lk_ok _ ok_X6_init pc⟩
def dl_X6_cable : List (Nat × Instr × Nat) := [(0, .iload_n 1, 1), (1, .invokestatic 57, 3), (4, .iload_n 2, 1), (5, .invokestatic 57, 3), (8, .iload 4, 2), (10, .invokestatic 61, 3), (13, .iload_n 1, 1), (14, .iload_n 2, 1), (15, .invokestatic 64, 3), (18, .iload_n 3, 1), (19, .iconst 1, 1), (20, .bipush 8, 2), (22, .invokestatic 68, 3), (25, .aload_n 0, 1), (26, .getfield 12, 3), (29, .getfield 72, 3), (32, .bipush 10, 2), (34, .invokestatic 75, 3), (37, .aload_n 0, 1), (38, .getfield 12, 3), (41, .new 78, 3), (44, .dup, 1), (45, .iload_n 1, 1), (46, .iload_n 2, 1), (47, .iload_n 3, 1), (48, .iload 4, 2), (50, .aload_n 0, 1), (51, .getfield 80, 3), (54, .invokespecial 83, 3), (57, .invokevirtual 86, 3), (60, .aload_n 0, 1), (61, .getfield 12, 3), (64, .getfield 72, 3), (67, .iconst 1, 1), (68, .isub, 1), (69, .ireturn, 1)]
theorem dk_X6_cable : ∀ q ∈ dl_X6_cable, decode cX6_cable q.1 = .ok q.2 := by decide +kernel
def cd_X6_cable : List (Nat × m_Op) := [(0, o_iload 1 1), (1, o_callx 54 1 1 6 4), (4, o_iload 2 5), (5, o_callx 54 1 1 6 8), (8, o_iload 4 10), (10, o_callx 55 1 1 6 13), (13, o_iload 1 14), (14, o_iload 2 15), (15, o_callx 57 2 1 6 18), (18, o_iload 3 19), (19, o_const (1) 20), (20, o_const (8) 22), (22, o_callx 58 3 1 6 25), (25, o_aload 0 26), (26, o_getf 7 0 29), (29, o_getf 4 7 32), (32, o_const (10) 34), (34, o_callx 59 2 1 6 37), (37, o_aload 0 38), (38, o_getf 7 0 41), (41, o_new 1 7 [.int 0, .int 0, .int 0, .int 0, .int 0, .int 0, .int 0] 44), (44, o_dup 45), (45, o_iload 1 46), (46, o_iload 2 47), (47, o_iload 3 48), (48, o_iload 4 50), (50, o_aload 0 51), (51, o_getf 7 12 54), (54, o_callv 1 0 6 0 0 57), (57, o_callv 4 6 2 0 0 60), (60, o_aload 0 61), (61, o_getf 7 0 64), (64, o_getf 4 7 67), (67, o_const (1) 68), (68, o_bin (fun x y => x - y) 69), (69, o_ireturn)]
set_option maxRecDepth 20000 in
set_option maxHeartbeats 4000000 in
theorem ok_X6_cable {GP : m_G → Prop} : ∀ q ∈ cd_X6_cable, m_OK GP m_my (cX6_cable, 5, RX6, false, (some .int), []) q.1 q.2 :=
  m_cn (pc := 0) (ok_iload_n (m_dk dk_X6_cable 0 rfl) rfl rfl) <|
  m_cn (pc := 1) (ok_callx (T := mt_X6_checkLanding) my_X6_checkLanding rfl cw_X6_checkLanding rfl rfl (by decide) wd_391 wd_392 wd_1 (by decide +kernel) (m_dk dk_X6_cable 1 rfl) rfl) <|
  m_cn (pc := 4) (ok_iload_n (m_dk dk_X6_cable 2 rfl) rfl rfl) <|
  m_cn (pc := 5) (ok_callx (T := mt_X6_checkLanding) my_X6_checkLanding rfl cw_X6_checkLanding rfl rfl (by decide) wd_391 wd_392 wd_1 (by decide +kernel) (m_dk dk_X6_cable 3 rfl) rfl) <|
  m_cn (pc := 8) (ok_iload (m_dk dk_X6_cable 4 rfl) rfl) <|
  m_cn (pc := 10) (ok_callx (T := mt_X6_checkMember) my_X6_checkMember rfl cw_X6_checkMember rfl rfl (by decide) wd_410 wd_411 wd_1 (by decide +kernel) (m_dk dk_X6_cable 5 rfl) rfl) <|
  m_cn (pc := 13) (ok_iload_n (m_dk dk_X6_cable 6 rfl) rfl rfl) <|
  m_cn (pc := 14) (ok_iload_n (m_dk dk_X6_cable 7 rfl) rfl rfl) <|
  m_cn (pc := 15) (ok_callx (T := mt_X6_checkUnlike) my_X6_checkUnlike rfl cw_X6_checkUnlike rfl rfl (by decide) wd_414 wd_415 wd_1 (by decide +kernel) (m_dk dk_X6_cable 8 rfl) rfl) <|
  m_cn (pc := 18) (ok_iload_n (m_dk dk_X6_cable 9 rfl) rfl rfl) <|
  m_cn (pc := 19) (ok_iconst (m_dk dk_X6_cable 10 rfl) (by decide) rfl) <|
  m_cn (pc := 20) (ok_bipush (m_dk dk_X6_cable 11 rfl) (by decide) rfl) <|
  m_cn (pc := 22) (ok_callx (T := mt_X6_checkRange) my_X6_checkRange rfl cw_X6_checkRange rfl rfl (by decide) wd_198 wd_199 wd_1 (by decide +kernel) (m_dk dk_X6_cable 12 rfl) rfl) <|
  m_cn (pc := 25) (ok_aload_n (m_dk dk_X6_cable 13 rfl) rfl rfl) <|
  m_cn (pc := 26) (ok_getf (k := 0) (hc0 := (rfl : vwCl[7]? = some (RX6, TX6, 15))) (by decide) in_X6 wd_134 (m_dk dk_X6_cable 14 rfl) rfl) <|
  m_cn (pc := 29) (ok_getf (k := 7) (hc0 := (rfl : vwCl[4]? = some (RX3, TX3, 16))) (by decide) in_X3 wd_58 (m_dk dk_X6_cable 15 rfl) rfl) <|
  m_cn (pc := 32) (ok_bipush (m_dk dk_X6_cable 16 rfl) (by decide) rfl) <|
  m_cn (pc := 34) (ok_callx (T := mt_X6_checkRoom) my_X6_checkRoom rfl cw_X6_checkRoom rfl rfl (by decide) wd_418 wd_419 wd_1 (by decide +kernel) (m_dk dk_X6_cable 17 rfl) rfl) <|
  m_cn (pc := 37) (ok_aload_n (m_dk dk_X6_cable 18 rfl) rfl rfl) <|
  m_cn (pc := 38) (ok_getf (k := 0) (hc0 := (rfl : vwCl[7]? = some (RX6, TX6, 15))) (by decide) in_X6 wd_134 (m_dk dk_X6_cable 19 rfl) rfl) <|
  m_cn (pc := 41) (ok_new (hc0 := (rfl : vwCl[1]? = some (RX0, TX0, 7))) in_X0 tyX0 tyX0_ok wd_422 wd_423 wd_14 df_X0 (fun _ => rfl) dv_X0 (m_dk dk_X6_cable 20 rfl) rfl) <|
  m_cn (pc := 44) (ok_dup (m_dk dk_X6_cable 21 rfl) rfl) <|
  m_cn (pc := 45) (ok_iload_n (m_dk dk_X6_cable 22 rfl) rfl rfl) <|
  m_cn (pc := 46) (ok_iload_n (m_dk dk_X6_cable 23 rfl) rfl rfl) <|
  m_cn (pc := 47) (ok_iload_n (m_dk dk_X6_cable 24 rfl) rfl rfl) <|
  m_cn (pc := 48) (ok_iload (m_dk dk_X6_cable 25 rfl) rfl) <|
  m_cn (pc := 50) (ok_aload_n (m_dk dk_X6_cable 26 rfl) rfl rfl) <|
  m_cn (pc := 51) (ok_getf (k := 12) (hc0 := (rfl : vwCl[7]? = some (RX6, TX6, 15))) (by decide) in_X6 wd_146 (m_dk dk_X6_cable 27 rfl) rfl) <|
  m_cn (pc := 54) (ok_calli (T := mt_X0_init) my_X0_init rfl cw_X0_init rfl rfl (by decide) wd_424 wd_425 wd_14 rfl (by decide +kernel) (m_dk dk_X6_cable 28 rfl) rfl) <|
  m_cn (pc := 57) (ok_callv (T := mt_X3_lay) my_X3_lay rfl cw_X3_lay rfl rfl (by decide) (r9 := (RX3, TX3, 16)) rfl rfl wd_461 wd_462 wd_463 wd_2 (by decide +kernel) (m_dk dk_X6_cable 29 rfl) rfl) <|
  m_cn (pc := 60) (ok_aload_n (m_dk dk_X6_cable 30 rfl) rfl rfl) <|
  m_cn (pc := 61) (ok_getf (k := 0) (hc0 := (rfl : vwCl[7]? = some (RX6, TX6, 15))) (by decide) in_X6 wd_134 (m_dk dk_X6_cable 31 rfl) rfl) <|
  m_cn (pc := 64) (ok_getf (k := 7) (hc0 := (rfl : vwCl[4]? = some (RX3, TX3, 16))) (by decide) in_X3 wd_58 (m_dk dk_X6_cable 32 rfl) rfl) <|
  m_cn (pc := 67) (ok_iconst (m_dk dk_X6_cable 33 rfl) (by decide) rfl) <|
  m_cn (pc := 68) (ok_isub (m_dk dk_X6_cable 34 rfl) rfl) <|
  m_cn (pc := 69) (ok_ireturn (nx := 0) rfl (m_dk dk_X6_cable 35 rfl)) <|
  m_nl
theorem mk_X6_cable {GP : m_G → Prop} {cds : Nat → Nat → m_Op} (h : cds 23 = m_lk cd_X6_cable) : m_MOK GP m_my cds 23 := ⟨RX6, false, [], by decide +kernel, rfl, (fun h9 => by first | rfl | cases h9), Or.inl ⟨rfl, rfl⟩, fun pc => by rw [h]; exact m_lk_ok _ ok_X6_cable pc⟩
def dl_X6_demand : List (Nat × Instr × Nat) := [(0, .iload_n 1, 1), (1, .invokestatic 61, 3), (4, .iload_n 2, 1), (5, .invokestatic 57, 3), (8, .iload_n 3, 1), (9, .invokestatic 57, 3), (12, .iload_n 2, 1), (13, .iload_n 3, 1), (14, .invokestatic 64, 3), (17, .iload 4, 2), (19, .iconst 1, 1), (20, .iconst 4, 1), (21, .invokestatic 68, 3), (24, .aload_n 0, 1), (25, .getfield 12, 3), (28, .getfield 90, 3), (31, .bipush 10, 2), (33, .invokestatic 75, 3), (36, .aload_n 0, 1), (37, .getfield 12, 3), (40, .new 93, 3), (43, .dup, 1), (44, .iload_n 1, 1), (45, .iload_n 2, 1), (46, .iload_n 3, 1), (47, .iload 4, 2), (49, .aload_n 0, 1), (50, .getfield 80, 3), (53, .invokespecial 95, 3), (56, .invokevirtual 96, 3), (59, .aload_n 0, 1), (60, .getfield 12, 3), (63, .getfield 90, 3), (66, .iconst 1, 1), (67, .isub, 1), (68, .ireturn, 1)]
theorem dk_X6_demand : ∀ q ∈ dl_X6_demand, decode cX6_demand q.1 = .ok q.2 := by decide +kernel
def cd_X6_demand : List (Nat × m_Op) := [(0, o_iload 1 1), (1, o_callx 55 1 1 6 4), (4, o_iload 2 5), (5, o_callx 54 1 1 6 8), (8, o_iload 3 9), (9, o_callx 54 1 1 6 12), (12, o_iload 2 13), (13, o_iload 3 14), (14, o_callx 57 2 1 6 17), (17, o_iload 4 19), (19, o_const (1) 20), (20, o_const (4) 21), (21, o_callx 58 3 1 6 24), (24, o_aload 0 25), (25, o_getf 7 0 28), (28, o_getf 4 8 31), (31, o_const (10) 33), (33, o_callx 59 2 1 6 36), (36, o_aload 0 37), (37, o_getf 7 0 40), (40, o_new 3 5 [.int 0, .int 0, .int 0, .int 0, .int 0] 43), (43, o_dup 44), (44, o_iload 1 45), (45, o_iload 2 46), (46, o_iload 3 47), (47, o_iload 4 49), (49, o_aload 0 50), (50, o_getf 7 12 53), (53, o_callv 3 3 6 0 0 56), (56, o_callv 4 7 2 0 0 59), (59, o_aload 0 60), (60, o_getf 7 0 63), (63, o_getf 4 8 66), (66, o_const (1) 67), (67, o_bin (fun x y => x - y) 68), (68, o_ireturn)]
set_option maxRecDepth 20000 in
set_option maxHeartbeats 4000000 in
theorem ok_X6_demand {GP : m_G → Prop} : ∀ q ∈ cd_X6_demand, m_OK GP m_my (cX6_demand, 5, RX6, false, (some .int), []) q.1 q.2 :=
  m_cn (pc := 0) (ok_iload_n (m_dk dk_X6_demand 0 rfl) rfl rfl) <|
  m_cn (pc := 1) (ok_callx (T := mt_X6_checkMember) my_X6_checkMember rfl cw_X6_checkMember rfl rfl (by decide) wd_410 wd_411 wd_1 (by decide +kernel) (m_dk dk_X6_demand 1 rfl) rfl) <|
  m_cn (pc := 4) (ok_iload_n (m_dk dk_X6_demand 2 rfl) rfl rfl) <|
  m_cn (pc := 5) (ok_callx (T := mt_X6_checkLanding) my_X6_checkLanding rfl cw_X6_checkLanding rfl rfl (by decide) wd_391 wd_392 wd_1 (by decide +kernel) (m_dk dk_X6_demand 3 rfl) rfl) <|
  m_cn (pc := 8) (ok_iload_n (m_dk dk_X6_demand 4 rfl) rfl rfl) <|
  m_cn (pc := 9) (ok_callx (T := mt_X6_checkLanding) my_X6_checkLanding rfl cw_X6_checkLanding rfl rfl (by decide) wd_391 wd_392 wd_1 (by decide +kernel) (m_dk dk_X6_demand 5 rfl) rfl) <|
  m_cn (pc := 12) (ok_iload_n (m_dk dk_X6_demand 6 rfl) rfl rfl) <|
  m_cn (pc := 13) (ok_iload_n (m_dk dk_X6_demand 7 rfl) rfl rfl) <|
  m_cn (pc := 14) (ok_callx (T := mt_X6_checkUnlike) my_X6_checkUnlike rfl cw_X6_checkUnlike rfl rfl (by decide) wd_414 wd_415 wd_1 (by decide +kernel) (m_dk dk_X6_demand 8 rfl) rfl) <|
  m_cn (pc := 17) (ok_iload (m_dk dk_X6_demand 9 rfl) rfl) <|
  m_cn (pc := 19) (ok_iconst (m_dk dk_X6_demand 10 rfl) (by decide) rfl) <|
  m_cn (pc := 20) (ok_iconst (m_dk dk_X6_demand 11 rfl) (by decide) rfl) <|
  m_cn (pc := 21) (ok_callx (T := mt_X6_checkRange) my_X6_checkRange rfl cw_X6_checkRange rfl rfl (by decide) wd_198 wd_199 wd_1 (by decide +kernel) (m_dk dk_X6_demand 12 rfl) rfl) <|
  m_cn (pc := 24) (ok_aload_n (m_dk dk_X6_demand 13 rfl) rfl rfl) <|
  m_cn (pc := 25) (ok_getf (k := 0) (hc0 := (rfl : vwCl[7]? = some (RX6, TX6, 15))) (by decide) in_X6 wd_134 (m_dk dk_X6_demand 14 rfl) rfl) <|
  m_cn (pc := 28) (ok_getf (k := 8) (hc0 := (rfl : vwCl[4]? = some (RX3, TX3, 16))) (by decide) in_X3 wd_60 (m_dk dk_X6_demand 15 rfl) rfl) <|
  m_cn (pc := 31) (ok_bipush (m_dk dk_X6_demand 16 rfl) (by decide) rfl) <|
  m_cn (pc := 33) (ok_callx (T := mt_X6_checkRoom) my_X6_checkRoom rfl cw_X6_checkRoom rfl rfl (by decide) wd_418 wd_419 wd_1 (by decide +kernel) (m_dk dk_X6_demand 17 rfl) rfl) <|
  m_cn (pc := 36) (ok_aload_n (m_dk dk_X6_demand 18 rfl) rfl rfl) <|
  m_cn (pc := 37) (ok_getf (k := 0) (hc0 := (rfl : vwCl[7]? = some (RX6, TX6, 15))) (by decide) in_X6 wd_134 (m_dk dk_X6_demand 19 rfl) rfl) <|
  m_cn (pc := 40) (ok_new (hc0 := (rfl : vwCl[3]? = some (RX2, TX2, 5))) in_X2 tyX2 tyX2_ok wd_491 wd_492 wd_15 df_X2 (fun _ => rfl) dv_X2 (m_dk dk_X6_demand 20 rfl) rfl) <|
  m_cn (pc := 43) (ok_dup (m_dk dk_X6_demand 21 rfl) rfl) <|
  m_cn (pc := 44) (ok_iload_n (m_dk dk_X6_demand 22 rfl) rfl rfl) <|
  m_cn (pc := 45) (ok_iload_n (m_dk dk_X6_demand 23 rfl) rfl rfl) <|
  m_cn (pc := 46) (ok_iload_n (m_dk dk_X6_demand 24 rfl) rfl rfl) <|
  m_cn (pc := 47) (ok_iload (m_dk dk_X6_demand 25 rfl) rfl) <|
  m_cn (pc := 49) (ok_aload_n (m_dk dk_X6_demand 26 rfl) rfl rfl) <|
  m_cn (pc := 50) (ok_getf (k := 12) (hc0 := (rfl : vwCl[7]? = some (RX6, TX6, 15))) (by decide) in_X6 wd_146 (m_dk dk_X6_demand 27 rfl) rfl) <|
  m_cn (pc := 53) (ok_calli (T := mt_X2_init) my_X2_init rfl cw_X2_init rfl rfl (by decide) wd_493 wd_494 wd_15 rfl (by decide +kernel) (m_dk dk_X6_demand 28 rfl) rfl) <|
  m_cn (pc := 56) (ok_callv (T := mt_X3_tell) my_X3_tell rfl cw_X3_tell rfl rfl (by decide) (r9 := (RX3, TX3, 16)) rfl rfl wd_520 wd_521 wd_522 wd_2 (by decide +kernel) (m_dk dk_X6_demand 29 rfl) rfl) <|
  m_cn (pc := 59) (ok_aload_n (m_dk dk_X6_demand 30 rfl) rfl rfl) <|
  m_cn (pc := 60) (ok_getf (k := 0) (hc0 := (rfl : vwCl[7]? = some (RX6, TX6, 15))) (by decide) in_X6 wd_134 (m_dk dk_X6_demand 31 rfl) rfl) <|
  m_cn (pc := 63) (ok_getf (k := 8) (hc0 := (rfl : vwCl[4]? = some (RX3, TX3, 16))) (by decide) in_X3 wd_60 (m_dk dk_X6_demand 32 rfl) rfl) <|
  m_cn (pc := 66) (ok_iconst (m_dk dk_X6_demand 33 rfl) (by decide) rfl) <|
  m_cn (pc := 67) (ok_isub (m_dk dk_X6_demand 34 rfl) rfl) <|
  m_cn (pc := 68) (ok_ireturn (nx := 0) rfl (m_dk dk_X6_demand 35 rfl)) <|
  m_nl
theorem mk_X6_demand {GP : m_G → Prop} {cds : Nat → Nat → m_Op} (h : cds 24 = m_lk cd_X6_demand) : m_MOK GP m_my cds 24 := ⟨RX6, false, [], by decide +kernel, rfl, (fun h9 => by first | rfl | cases h9), Or.inl ⟨rfl, rfl⟩, fun pc => by rw [h]; exact m_lk_ok _ ok_X6_demand pc⟩
def dl_X6_sell : List (Nat × Instr × Nat) := [(0, .iload_n 1, 1), (1, .aload_n 0, 1), (2, .getfield 12, 3), (5, .getfield 72, 3), (8, .invokestatic 100, 3), (11, .iload_n 2, 1), (12, .invokestatic 61, 3), (15, .iload_n 3, 1), (16, .invokestatic 61, 3), (19, .iload_n 2, 1), (20, .iload_n 3, 1), (21, .invokestatic 64, 3), (24, .iload 4, 2), (26, .iconst 1, 1), (27, .bipush 8, 2), (29, .invokestatic 68, 3), (32, .iload 5, 2), (34, .iconst 0, 1), (35, .ldc 103, 2), (37, .invokestatic 68, 3), (40, .aload_n 0, 1), (41, .getfield 12, 3), (44, .getfield 104, 3), (47, .iload_n 1, 1), (48, .aaload, 1), (49, .iload_n 2, 1), (50, .iaload, 1), (51, .iload 4, 2), (53, .if_icmp .ge 13, 3), (56, .new 107, 3), (59, .dup, 1), (60, .ldc 109, 2), (62, .invokespecial 111, 3), (65, .athrow, 1), (66, .new 114, 3), (69, .dup, 1), (70, .iload_n 1, 1), (71, .iload_n 2, 1), (72, .iload_n 3, 1), (73, .iload 4, 2), (75, .aload_n 0, 1), (76, .getfield 80, 3), (79, .invokespecial 116, 3), (82, .astore 6, 2), (84, .aload_n 0, 1), (85, .getfield 34, 3), (88, .invokevirtual 117, 3), (91, .sipush 512, 3), (94, .if_icmp .ge 13, 3), (97, .aload_n 0, 1), (98, .getfield 34, 3), (101, .aload 6, 2), (103, .invokevirtual 121, 3), (106, .pop, 1), (107, .aload_n 0, 1), (108, .getfield 12, 3), (111, .aload 6, 2), (113, .invokevirtual 125, 3), (116, .aload_n 0, 1), (117, .getfield 46, 3), (120, .iload_n 2, 1), (121, .dup2, 1), (122, .iaload, 1), (123, .iload 5, 2), (125, .iadd, 1), (126, .iastore, 1), (127, .aload_n 0, 1), (128, .getfield 46, 3), (131, .iload_n 3, 1), (132, .dup2, 1), (133, .iaload, 1), (134, .iload 5, 2), (136, .isub, 1), (137, .iastore, 1), (138, .aload_n 0, 1), (139, .getfield 43, 3), (142, .iload_n 2, 1), (143, .aaload, 1), (144, .iload_n 3, 1), (145, .dup2, 1), (146, .iaload, 1), (147, .iload 5, 2), (149, .iadd, 1), (150, .iastore, 1), (151, .aload_n 0, 1), (152, .getfield 12, 3), (155, .getfield 104, 3), (158, .iload_n 1, 1), (159, .aaload, 1), (160, .iload_n 3, 1), (161, .iaload, 1), (162, .ireturn, 1)]
theorem dk_X6_sell : ∀ q ∈ dl_X6_sell, decode cX6_sell q.1 = .ok q.2 := by decide +kernel
def cd_X6_sell : List (Nat × m_Op) := [(0, o_iload 1 1), (1, o_aload 0 2), (2, o_getf 7 0 5), (5, o_getf 4 7 8), (8, o_callx 56 2 1 6 11), (11, o_iload 2 12), (12, o_callx 55 1 1 6 15), (15, o_iload 3 16), (16, o_callx 55 1 1 6 19), (19, o_iload 2 20), (20, o_iload 3 21), (21, o_callx 57 2 1 6 24), (24, o_iload 4 26), (26, o_const (1) 27), (27, o_const (8) 29), (29, o_callx 58 3 1 6 32), (32, o_iload 5 34), (34, o_const (0) 35), (35, o_const (100000) 37), (37, o_callx 58 3 1 6 40), (40, o_aload 0 41), (41, o_getf 7 0 44), (44, o_getf 4 2 47), (47, o_iload 1 48), (48, o_aald 3 49), (49, o_iload 2 50), (50, o_iald 0 51), (51, o_iload 4 53), (53, o_icmpge 66 56), (56, o_throw m_iss), (66, o_new 5 5 [.int 0, .int 0, .int 0, .int 0, .int 0] 69), (69, o_dup 70), (70, o_iload 1 71), (71, o_iload 2 72), (72, o_iload 3 73), (73, o_iload 4 75), (75, o_aload 0 76), (76, o_getf 7 12 79), (79, o_callv 5 19 6 0 0 82), (82, o_astore 6 84), (84, o_aload 0 85), (85, o_getf 7 4 88), (88, o_callv 0 66 1 0 0 91), (91, o_const (512) 94), (94, o_icmpge 107 97), (97, o_aload 0 98), (98, o_getf 7 4 101), (101, o_aload 6 103), (103, o_callv 0 70 2 1 800 106), (106, o_pop 107), (107, o_aload 0 108), (108, o_getf 7 0 111), (111, o_aload 6 113), (113, o_callv 4 8 2 0 0 116), (116, o_aload 0 117), (117, o_getf 7 7 120), (120, o_iload 2 121), (121, o_dup2 122), (122, o_iald 0 123), (123, o_iload 5 125), (125, o_bin (fun x y => x + y) 126), (126, o_iast 127), (127, o_aload 0 128), (128, o_getf 7 7 131), (131, o_iload 3 132), (132, o_dup2 133), (133, o_iald 0 134), (134, o_iload 5 136), (136, o_bin (fun x y => x - y) 137), (137, o_iast 138), (138, o_aload 0 139), (139, o_getf 7 6 142), (142, o_iload 2 143), (143, o_aald 3 144), (144, o_iload 3 145), (145, o_dup2 146), (146, o_iald 0 147), (147, o_iload 5 149), (149, o_bin (fun x y => x + y) 150), (150, o_iast 151), (151, o_aload 0 152), (152, o_getf 7 0 155), (155, o_getf 4 2 158), (158, o_iload 1 159), (159, o_aald 3 160), (160, o_iload 3 161), (161, o_iald 0 162), (162, o_ireturn)]
set_option maxRecDepth 20000 in
set_option maxHeartbeats 4000000 in
theorem ok_X6_sell {GP : m_G → Prop} : ∀ q ∈ cd_X6_sell, m_OK GP m_my (cX6_sell, 7, RX6, false, (some .int), []) q.1 q.2 :=
  m_cn (pc := 0) (ok_iload_n (m_dk dk_X6_sell 0 rfl) rfl rfl) <|
  m_cn (pc := 1) (ok_aload_n (m_dk dk_X6_sell 1 rfl) rfl rfl) <|
  m_cn (pc := 2) (ok_getf (k := 0) (hc0 := (rfl : vwCl[7]? = some (RX6, TX6, 15))) (by decide) in_X6 wd_134 (m_dk dk_X6_sell 2 rfl) rfl) <|
  m_cn (pc := 5) (ok_getf (k := 7) (hc0 := (rfl : vwCl[4]? = some (RX3, TX3, 16))) (by decide) in_X3 wd_58 (m_dk dk_X6_sell 3 rfl) rfl) <|
  m_cn (pc := 8) (ok_callx (T := mt_X6_checkNumber) my_X6_checkNumber rfl cw_X6_checkNumber rfl rfl (by decide) wd_473 wd_474 wd_1 (by decide +kernel) (m_dk dk_X6_sell 4 rfl) rfl) <|
  m_cn (pc := 11) (ok_iload_n (m_dk dk_X6_sell 5 rfl) rfl rfl) <|
  m_cn (pc := 12) (ok_callx (T := mt_X6_checkMember) my_X6_checkMember rfl cw_X6_checkMember rfl rfl (by decide) wd_410 wd_411 wd_1 (by decide +kernel) (m_dk dk_X6_sell 6 rfl) rfl) <|
  m_cn (pc := 15) (ok_iload_n (m_dk dk_X6_sell 7 rfl) rfl rfl) <|
  m_cn (pc := 16) (ok_callx (T := mt_X6_checkMember) my_X6_checkMember rfl cw_X6_checkMember rfl rfl (by decide) wd_410 wd_411 wd_1 (by decide +kernel) (m_dk dk_X6_sell 8 rfl) rfl) <|
  m_cn (pc := 19) (ok_iload_n (m_dk dk_X6_sell 9 rfl) rfl rfl) <|
  m_cn (pc := 20) (ok_iload_n (m_dk dk_X6_sell 10 rfl) rfl rfl) <|
  m_cn (pc := 21) (ok_callx (T := mt_X6_checkUnlike) my_X6_checkUnlike rfl cw_X6_checkUnlike rfl rfl (by decide) wd_414 wd_415 wd_1 (by decide +kernel) (m_dk dk_X6_sell 11 rfl) rfl) <|
  m_cn (pc := 24) (ok_iload (m_dk dk_X6_sell 12 rfl) rfl) <|
  m_cn (pc := 26) (ok_iconst (m_dk dk_X6_sell 13 rfl) (by decide) rfl) <|
  m_cn (pc := 27) (ok_bipush (m_dk dk_X6_sell 14 rfl) (by decide) rfl) <|
  m_cn (pc := 29) (ok_callx (T := mt_X6_checkRange) my_X6_checkRange rfl cw_X6_checkRange rfl rfl (by decide) wd_198 wd_199 wd_1 (by decide +kernel) (m_dk dk_X6_sell 15 rfl) rfl) <|
  m_cn (pc := 32) (ok_iload (m_dk dk_X6_sell 16 rfl) rfl) <|
  m_cn (pc := 34) (ok_iconst (m_dk dk_X6_sell 17 rfl) (by decide) rfl) <|
  m_cn (pc := 35) (ok_ldc (m_dk dk_X6_sell 18 rfl) wd_590 rfl) <|
  m_cn (pc := 37) (ok_callx (T := mt_X6_checkRange) my_X6_checkRange rfl cw_X6_checkRange rfl rfl (by decide) wd_198 wd_199 wd_1 (by decide +kernel) (m_dk dk_X6_sell 19 rfl) rfl) <|
  m_cn (pc := 40) (ok_aload_n (m_dk dk_X6_sell 20 rfl) rfl rfl) <|
  m_cn (pc := 41) (ok_getf (k := 0) (hc0 := (rfl : vwCl[7]? = some (RX6, TX6, 15))) (by decide) in_X6 wd_134 (m_dk dk_X6_sell 21 rfl) rfl) <|
  m_cn (pc := 44) (ok_getf (k := 2) (hc0 := (rfl : vwCl[4]? = some (RX3, TX3, 16))) (by decide) in_X3 wd_48 (m_dk dk_X6_sell 22 rfl) rfl) <|
  m_cn (pc := 47) (ok_iload_n (m_dk dk_X6_sell 23 rfl) rfl rfl) <|
  m_cn (pc := 48) (ok_aaldI (m_dk dk_X6_sell 24 rfl) rfl) <|
  m_cn (pc := 49) (ok_iload_n (m_dk dk_X6_sell 25 rfl) rfl rfl) <|
  m_cn (pc := 50) (ok_iald (m_dk dk_X6_sell 26 rfl) rfl) <|
  m_cn (pc := 51) (ok_iload (m_dk dk_X6_sell 27 rfl) rfl) <|
  m_cn (pc := 53) (ok_icmpge (m_dk dk_X6_sell 28 rfl) rfl rfl) <|
  m_cn (pc := 56) (ok_throwS (nx := 0) (text := "the member owns fewer strands") (names := m_exn) (by decide +kernel) (by decide +kernel) (by decide) rfl wd_269 wd_10 (by decide +kernel) th_iss_107_111_a th_iss_107_111_b th_iss_107_111_c (m_dk dk_X6_sell 29 rfl) (m_dk dk_X6_sell 30 rfl) (m_dk dk_X6_sell 31 rfl) (m_dk dk_X6_sell 32 rfl) (m_dk dk_X6_sell 33 rfl)) <|
  m_cn (pc := 66) (ok_new (hc0 := (rfl : vwCl[5]? = some (RX4, TX4, 5))) in_X4 tyX4 tyX4_ok wd_592 wd_593 wd_17 df_X4 (fun _ => rfl) dv_X4 (m_dk dk_X6_sell 34 rfl) rfl) <|
  m_cn (pc := 69) (ok_dup (m_dk dk_X6_sell 35 rfl) rfl) <|
  m_cn (pc := 70) (ok_iload_n (m_dk dk_X6_sell 36 rfl) rfl rfl) <|
  m_cn (pc := 71) (ok_iload_n (m_dk dk_X6_sell 37 rfl) rfl rfl) <|
  m_cn (pc := 72) (ok_iload_n (m_dk dk_X6_sell 38 rfl) rfl rfl) <|
  m_cn (pc := 73) (ok_iload (m_dk dk_X6_sell 39 rfl) rfl) <|
  m_cn (pc := 75) (ok_aload_n (m_dk dk_X6_sell 40 rfl) rfl rfl) <|
  m_cn (pc := 76) (ok_getf (k := 12) (hc0 := (rfl : vwCl[7]? = some (RX6, TX6, 15))) (by decide) in_X6 wd_146 (m_dk dk_X6_sell 41 rfl) rfl) <|
  m_cn (pc := 79) (ok_calli (T := mt_X4_init) my_X4_init rfl cw_X4_init rfl rfl (by decide) wd_594 wd_595 wd_17 rfl (by decide +kernel) (m_dk dk_X6_sell 42 rfl) rfl) <|
  m_cn (pc := 82) (ok_astore (m_dk dk_X6_sell 43 rfl) rfl (by decide)) <|
  m_cn (pc := 84) (ok_aload_n (m_dk dk_X6_sell 44 rfl) rfl rfl) <|
  m_cn (pc := 85) (ok_getf (k := 4) (hc0 := (rfl : vwCl[7]? = some (RX6, TX6, 15))) (by decide) in_X6 wd_138 (m_dk dk_X6_sell 45 rfl) rfl) <|
  m_cn (pc := 88) (ok_callv (T := mt_Jx4a65c_size_8abf5) my_Jx4a65c_size_8abf5 rfl cw_Jx4a65c_size_8abf5 rfl rfl (by decide) (r9 := (RJx4a65c, TJx4a65c, 3)) rfl rfl wd_619 wd_620 wd_621 wd_5 (by decide +kernel) (m_dk dk_X6_sell 46 rfl) rfl) <|
  m_cn (pc := 91) (ok_sipush (m_dk dk_X6_sell 47 rfl) (by decide) rfl) <|
  m_cn (pc := 94) (ok_icmpge (m_dk dk_X6_sell 48 rfl) rfl rfl) <|
  m_cn (pc := 97) (ok_aload_n (m_dk dk_X6_sell 49 rfl) rfl rfl) <|
  m_cn (pc := 98) (ok_getf (k := 4) (hc0 := (rfl : vwCl[7]? = some (RX6, TX6, 15))) (by decide) in_X6 wd_138 (m_dk dk_X6_sell 50 rfl) rfl) <|
  m_cn (pc := 101) (ok_aload (m_dk dk_X6_sell 51 rfl) rfl) <|
  m_cn (pc := 103) (ok_callv (T := mt_Jx4a65c_add_9ea2d) my_Jx4a65c_add_9ea2d rfl cw_Jx4a65c_add_9ea2d rfl rfl (by decide) (r9 := (RJx4a65c, TJx4a65c, 3)) rfl rfl wd_623 wd_624 wd_625 wd_5 (by decide +kernel) (m_dk dk_X6_sell 52 rfl) rfl) <|
  m_cn (pc := 106) (ok_pop (m_dk dk_X6_sell 53 rfl) rfl) <|
  m_cn (pc := 107) (ok_aload_n (m_dk dk_X6_sell 54 rfl) rfl rfl) <|
  m_cn (pc := 108) (ok_getf (k := 0) (hc0 := (rfl : vwCl[7]? = some (RX6, TX6, 15))) (by decide) in_X6 wd_134 (m_dk dk_X6_sell 55 rfl) rfl) <|
  m_cn (pc := 111) (ok_aload (m_dk dk_X6_sell 56 rfl) rfl) <|
  m_cn (pc := 113) (ok_callv (T := mt_X3_hand) my_X3_hand rfl cw_X3_hand rfl rfl (by decide) (r9 := (RX3, TX3, 16)) rfl rfl wd_675 wd_676 wd_677 wd_2 (by decide +kernel) (m_dk dk_X6_sell 57 rfl) rfl) <|
  m_cn (pc := 116) (ok_aload_n (m_dk dk_X6_sell 58 rfl) rfl rfl) <|
  m_cn (pc := 117) (ok_getf (k := 7) (hc0 := (rfl : vwCl[7]? = some (RX6, TX6, 15))) (by decide) in_X6 wd_141 (m_dk dk_X6_sell 59 rfl) rfl) <|
  m_cn (pc := 120) (ok_iload_n (m_dk dk_X6_sell 60 rfl) rfl rfl) <|
  m_cn (pc := 121) (ok_dup2 (m_dk dk_X6_sell 61 rfl) rfl) <|
  m_cn (pc := 122) (ok_iald (m_dk dk_X6_sell 62 rfl) rfl) <|
  m_cn (pc := 123) (ok_iload (m_dk dk_X6_sell 63 rfl) rfl) <|
  m_cn (pc := 125) (ok_iadd (m_dk dk_X6_sell 64 rfl) rfl) <|
  m_cn (pc := 126) (ok_iast (m_dk dk_X6_sell 65 rfl) rfl) <|
  m_cn (pc := 127) (ok_aload_n (m_dk dk_X6_sell 66 rfl) rfl rfl) <|
  m_cn (pc := 128) (ok_getf (k := 7) (hc0 := (rfl : vwCl[7]? = some (RX6, TX6, 15))) (by decide) in_X6 wd_141 (m_dk dk_X6_sell 67 rfl) rfl) <|
  m_cn (pc := 131) (ok_iload_n (m_dk dk_X6_sell 68 rfl) rfl rfl) <|
  m_cn (pc := 132) (ok_dup2 (m_dk dk_X6_sell 69 rfl) rfl) <|
  m_cn (pc := 133) (ok_iald (m_dk dk_X6_sell 70 rfl) rfl) <|
  m_cn (pc := 134) (ok_iload (m_dk dk_X6_sell 71 rfl) rfl) <|
  m_cn (pc := 136) (ok_isub (m_dk dk_X6_sell 72 rfl) rfl) <|
  m_cn (pc := 137) (ok_iast (m_dk dk_X6_sell 73 rfl) rfl) <|
  m_cn (pc := 138) (ok_aload_n (m_dk dk_X6_sell 74 rfl) rfl rfl) <|
  m_cn (pc := 139) (ok_getf (k := 6) (hc0 := (rfl : vwCl[7]? = some (RX6, TX6, 15))) (by decide) in_X6 wd_140 (m_dk dk_X6_sell 75 rfl) rfl) <|
  m_cn (pc := 142) (ok_iload_n (m_dk dk_X6_sell 76 rfl) rfl rfl) <|
  m_cn (pc := 143) (ok_aaldI (m_dk dk_X6_sell 77 rfl) rfl) <|
  m_cn (pc := 144) (ok_iload_n (m_dk dk_X6_sell 78 rfl) rfl rfl) <|
  m_cn (pc := 145) (ok_dup2 (m_dk dk_X6_sell 79 rfl) rfl) <|
  m_cn (pc := 146) (ok_iald (m_dk dk_X6_sell 80 rfl) rfl) <|
  m_cn (pc := 147) (ok_iload (m_dk dk_X6_sell 81 rfl) rfl) <|
  m_cn (pc := 149) (ok_iadd (m_dk dk_X6_sell 82 rfl) rfl) <|
  m_cn (pc := 150) (ok_iast (m_dk dk_X6_sell 83 rfl) rfl) <|
  m_cn (pc := 151) (ok_aload_n (m_dk dk_X6_sell 84 rfl) rfl rfl) <|
  m_cn (pc := 152) (ok_getf (k := 0) (hc0 := (rfl : vwCl[7]? = some (RX6, TX6, 15))) (by decide) in_X6 wd_134 (m_dk dk_X6_sell 85 rfl) rfl) <|
  m_cn (pc := 155) (ok_getf (k := 2) (hc0 := (rfl : vwCl[4]? = some (RX3, TX3, 16))) (by decide) in_X3 wd_48 (m_dk dk_X6_sell 86 rfl) rfl) <|
  m_cn (pc := 158) (ok_iload_n (m_dk dk_X6_sell 87 rfl) rfl rfl) <|
  m_cn (pc := 159) (ok_aaldI (m_dk dk_X6_sell 88 rfl) rfl) <|
  m_cn (pc := 160) (ok_iload_n (m_dk dk_X6_sell 89 rfl) rfl rfl) <|
  m_cn (pc := 161) (ok_iald (m_dk dk_X6_sell 90 rfl) rfl) <|
  m_cn (pc := 162) (ok_ireturn (nx := 0) rfl (m_dk dk_X6_sell 91 rfl)) <|
  m_nl
theorem mk_X6_sell {GP : m_G → Prop} {cds : Nat → Nat → m_Op} (h : cds 25 = m_lk cd_X6_sell) : m_MOK GP m_my cds 25 := ⟨RX6, false, [], by decide +kernel, rfl, (fun h9 => by first | rfl | cases h9), Or.inl ⟨rfl, rfl⟩, fun pc => by rw [h]; exact m_lk_ok _ ok_X6_sell pc⟩
def dl_X6_cut : List (Nat × Instr × Nat) := [(0, .iload_n 1, 1), (1, .aload_n 0, 1), (2, .getfield 12, 3), (5, .getfield 72, 3), (8, .invokestatic 100, 3), (11, .aload_n 0, 1), (12, .getfield 12, 3), (15, .getfield 129, 3), (18, .iload_n 1, 1), (19, .aaload, 1), (20, .astore_n 3, 1), (21, .iload_n 2, 1), (22, .iconst 0, 1), (23, .aload_n 3, 1), (24, .getfield 133, 3), (27, .invokestatic 68, 3), (30, .aload_n 0, 1), (31, .getfield 12, 3), (34, .getfield 136, 3), (37, .iload_n 1, 1), (38, .baload, 1), (39, .ifCond .ne 13, 3), (42, .new 107, 3), (45, .dup, 1), (46, .ldc 140, 2), (48, .invokespecial 111, 3), (51, .athrow, 1), (52, .aload_n 0, 1), (53, .getfield 142, 3), (56, .bipush 16, 2), (58, .invokestatic 75, 3), (61, .aload_n 0, 1), (62, .getfield 21, 3), (65, .aload_n 0, 1), (66, .getfield 142, 3), (69, .new 19, 3), (72, .dup, 1), (73, .iload_n 1, 1), (74, .aload_n 3, 1), (75, .getfield 145, 3), (78, .iload_n 2, 1), (79, .iadd, 1), (80, .aload_n 0, 1), (81, .getfield 80, 3), (84, .invokespecial 148, 3), (87, .aastore, 1), (88, .aload_n 0, 1), (89, .dup, 1), (90, .getfield 142, 3), (93, .iconst 1, 1), (94, .iadd, 1), (95, .putfield 142, 3), (98, .aload_n 0, 1), (99, .getfield 12, 3), (102, .iload_n 1, 1), (103, .invokevirtual 150, 3), (106, .aload_n 0, 1), (107, .getfield 142, 3), (110, .iconst 1, 1), (111, .isub, 1), (112, .ireturn, 1)]
theorem dk_X6_cut : ∀ q ∈ dl_X6_cut, decode cX6_cut q.1 = .ok q.2 := by decide +kernel
def cd_X6_cut : List (Nat × m_Op) := [(0, o_iload 1 1), (1, o_aload 0 2), (2, o_getf 7 0 5), (5, o_getf 4 7 8), (8, o_callx 56 2 1 6 11), (11, o_aload 0 12), (12, o_getf 7 0 15), (15, o_getf 4 0 18), (18, o_iload 1 19), (19, o_aald 4 20), (20, o_astore 3 21), (21, o_iload 2 22), (22, o_const (0) 23), (23, o_aload 3 24), (24, o_getf 1 5 27), (27, o_callx 58 3 1 6 30), (30, o_aload 0 31), (31, o_getf 7 0 34), (34, o_getf 4 1 37), (37, o_iload 1 38), (38, o_iald 1 39), (39, o_ifne 52 42), (42, o_throw m_iss), (52, o_aload 0 53), (53, o_getf 7 10 56), (56, o_const (16) 58), (58, o_callx 59 2 1 6 61), (61, o_aload 0 62), (62, o_getf 7 2 65), (65, o_aload 0 66), (66, o_getf 7 10 69), (69, o_new 2 5 [.int 0, .int 0, .int 0, .int 0, .int 0] 72), (72, o_dup 73), (73, o_iload 1 74), (74, o_aload 3 75), (75, o_getf 1 6 78), (78, o_iload 2 79), (79, o_bin (fun x y => x + y) 80), (80, o_aload 0 81), (81, o_getf 7 12 84), (84, o_callv 2 2 4 0 0 87), (87, o_aast 6 2 88), (88, o_aload 0 89), (89, o_dup 90), (90, o_getf 7 10 93), (93, o_const (1) 94), (94, o_bin (fun x y => x + y) 95), (95, o_puti 7 10 98), (98, o_aload 0 99), (99, o_getf 7 0 102), (102, o_iload 1 103), (103, o_callv 4 9 2 0 0 106), (106, o_aload 0 107), (107, o_getf 7 10 110), (110, o_const (1) 111), (111, o_bin (fun x y => x - y) 112), (112, o_ireturn)]
set_option maxRecDepth 20000 in
set_option maxHeartbeats 4000000 in
theorem ok_X6_cut {GP : m_G → Prop} : ∀ q ∈ cd_X6_cut, m_OK GP m_my (cX6_cut, 4, RX6, false, (some .int), []) q.1 q.2 :=
  m_cn (pc := 0) (ok_iload_n (m_dk dk_X6_cut 0 rfl) rfl rfl) <|
  m_cn (pc := 1) (ok_aload_n (m_dk dk_X6_cut 1 rfl) rfl rfl) <|
  m_cn (pc := 2) (ok_getf (k := 0) (hc0 := (rfl : vwCl[7]? = some (RX6, TX6, 15))) (by decide) in_X6 wd_134 (m_dk dk_X6_cut 2 rfl) rfl) <|
  m_cn (pc := 5) (ok_getf (k := 7) (hc0 := (rfl : vwCl[4]? = some (RX3, TX3, 16))) (by decide) in_X3 wd_58 (m_dk dk_X6_cut 3 rfl) rfl) <|
  m_cn (pc := 8) (ok_callx (T := mt_X6_checkNumber) my_X6_checkNumber rfl cw_X6_checkNumber rfl rfl (by decide) wd_473 wd_474 wd_1 (by decide +kernel) (m_dk dk_X6_cut 4 rfl) rfl) <|
  m_cn (pc := 11) (ok_aload_n (m_dk dk_X6_cut 5 rfl) rfl rfl) <|
  m_cn (pc := 12) (ok_getf (k := 0) (hc0 := (rfl : vwCl[7]? = some (RX6, TX6, 15))) (by decide) in_X6 wd_134 (m_dk dk_X6_cut 6 rfl) rfl) <|
  m_cn (pc := 15) (ok_getf (k := 0) (hc0 := (rfl : vwCl[4]? = some (RX3, TX3, 16))) (by decide) in_X3 wd_44 (m_dk dk_X6_cut 7 rfl) rfl) <|
  m_cn (pc := 18) (ok_iload_n (m_dk dk_X6_cut 8 rfl) rfl rfl) <|
  m_cn (pc := 19) (ok_aald (C := "Cablecourt$Cable") (fun _ => rfl) (m_dk dk_X6_cut 9 rfl) rfl) <|
  m_cn (pc := 20) (ok_astore_n (m_dk dk_X6_cut 10 rfl) rfl rfl (by decide)) <|
  m_cn (pc := 21) (ok_iload_n (m_dk dk_X6_cut 11 rfl) rfl rfl) <|
  m_cn (pc := 22) (ok_iconst (m_dk dk_X6_cut 12 rfl) (by decide) rfl) <|
  m_cn (pc := 23) (ok_aload_n (m_dk dk_X6_cut 13 rfl) rfl rfl) <|
  m_cn (pc := 24) (ok_getf (k := 5) (hc0 := (rfl : vwCl[1]? = some (RX0, TX0, 7))) (by decide) in_X0 wd_442 (m_dk dk_X6_cut 14 rfl) rfl) <|
  m_cn (pc := 27) (ok_callx (T := mt_X6_checkRange) my_X6_checkRange rfl cw_X6_checkRange rfl rfl (by decide) wd_198 wd_199 wd_1 (by decide +kernel) (m_dk dk_X6_cut 15 rfl) rfl) <|
  m_cn (pc := 30) (ok_aload_n (m_dk dk_X6_cut 16 rfl) rfl rfl) <|
  m_cn (pc := 31) (ok_getf (k := 0) (hc0 := (rfl : vwCl[7]? = some (RX6, TX6, 15))) (by decide) in_X6 wd_134 (m_dk dk_X6_cut 17 rfl) rfl) <|
  m_cn (pc := 34) (ok_getf (k := 1) (hc0 := (rfl : vwCl[4]? = some (RX3, TX3, 16))) (by decide) in_X3 wd_46 (m_dk dk_X6_cut 18 rfl) rfl) <|
  m_cn (pc := 37) (ok_iload_n (m_dk dk_X6_cut 19 rfl) rfl rfl) <|
  m_cn (pc := 38) (ok_zald (m_dk dk_X6_cut 20 rfl) rfl) <|
  m_cn (pc := 39) (ok_ifne (m_dk dk_X6_cut 21 rfl) rfl rfl) <|
  m_cn (pc := 42) (ok_throwS (nx := 0) (text := "the cable is not whole") (names := m_exn) (by decide +kernel) (by decide +kernel) (by decide) rfl wd_269 wd_10 (by decide +kernel) th_iss_107_111_a th_iss_107_111_b th_iss_107_111_c (m_dk dk_X6_cut 22 rfl) (m_dk dk_X6_cut 23 rfl) (m_dk dk_X6_cut 24 rfl) (m_dk dk_X6_cut 25 rfl) (m_dk dk_X6_cut 26 rfl)) <|
  m_cn (pc := 52) (ok_aload_n (m_dk dk_X6_cut 27 rfl) rfl rfl) <|
  m_cn (pc := 53) (ok_getf (k := 10) (hc0 := (rfl : vwCl[7]? = some (RX6, TX6, 15))) (by decide) in_X6 wd_144 (m_dk dk_X6_cut 28 rfl) rfl) <|
  m_cn (pc := 56) (ok_bipush (m_dk dk_X6_cut 29 rfl) (by decide) rfl) <|
  m_cn (pc := 58) (ok_callx (T := mt_X6_checkRoom) my_X6_checkRoom rfl cw_X6_checkRoom rfl rfl (by decide) wd_418 wd_419 wd_1 (by decide +kernel) (m_dk dk_X6_cut 30 rfl) rfl) <|
  m_cn (pc := 61) (ok_aload_n (m_dk dk_X6_cut 31 rfl) rfl rfl) <|
  m_cn (pc := 62) (ok_getf (k := 2) (hc0 := (rfl : vwCl[7]? = some (RX6, TX6, 15))) (by decide) in_X6 wd_136 (m_dk dk_X6_cut 32 rfl) rfl) <|
  m_cn (pc := 65) (ok_aload_n (m_dk dk_X6_cut 33 rfl) rfl rfl) <|
  m_cn (pc := 66) (ok_getf (k := 10) (hc0 := (rfl : vwCl[7]? = some (RX6, TX6, 15))) (by decide) in_X6 wd_144 (m_dk dk_X6_cut 34 rfl) rfl) <|
  m_cn (pc := 69) (ok_new (hc0 := (rfl : vwCl[2]? = some (RX1, TX1, 5))) in_X1 tyX1 tyX1_ok wd_103 wd_687 wd_20 df_X1 (fun _ => rfl) dv_X1 (m_dk dk_X6_cut 35 rfl) rfl) <|
  m_cn (pc := 72) (ok_dup (m_dk dk_X6_cut 36 rfl) rfl) <|
  m_cn (pc := 73) (ok_iload_n (m_dk dk_X6_cut 37 rfl) rfl rfl) <|
  m_cn (pc := 74) (ok_aload_n (m_dk dk_X6_cut 38 rfl) rfl rfl) <|
  m_cn (pc := 75) (ok_getf (k := 6) (hc0 := (rfl : vwCl[1]? = some (RX0, TX0, 7))) (by decide) in_X0 wd_445 (m_dk dk_X6_cut 39 rfl) rfl) <|
  m_cn (pc := 78) (ok_iload_n (m_dk dk_X6_cut 40 rfl) rfl rfl) <|
  m_cn (pc := 79) (ok_iadd (m_dk dk_X6_cut 41 rfl) rfl) <|
  m_cn (pc := 80) (ok_aload_n (m_dk dk_X6_cut 42 rfl) rfl rfl) <|
  m_cn (pc := 81) (ok_getf (k := 12) (hc0 := (rfl : vwCl[7]? = some (RX6, TX6, 15))) (by decide) in_X6 wd_146 (m_dk dk_X6_cut 43 rfl) rfl) <|
  m_cn (pc := 84) (ok_calli (T := mt_X1_init) my_X1_init rfl cw_X1_init rfl rfl (by decide) wd_688 wd_689 wd_20 rfl (by decide +kernel) (m_dk dk_X6_cut 44 rfl) rfl) <|
  m_cn (pc := 87) (ok_aast (r9 := (RX1, TX1, 5)) (fun _ => rfl) rfl (m_dk dk_X6_cut 45 rfl) rfl) <|
  m_cn (pc := 88) (ok_aload_n (m_dk dk_X6_cut 46 rfl) rfl rfl) <|
  m_cn (pc := 89) (ok_dup (m_dk dk_X6_cut 47 rfl) rfl) <|
  m_cn (pc := 90) (ok_getf (k := 10) (hc0 := (rfl : vwCl[7]? = some (RX6, TX6, 15))) (by decide) in_X6 wd_144 (m_dk dk_X6_cut 48 rfl) rfl) <|
  m_cn (pc := 93) (ok_iconst (m_dk dk_X6_cut 49 rfl) (by decide) rfl) <|
  m_cn (pc := 94) (ok_iadd (m_dk dk_X6_cut 50 rfl) rfl) <|
  m_cn (pc := 95) (ok_puti (k := 10) (hc0 := (rfl : vwCl[7]? = some (RX6, TX6, 15))) (by decide) in_X6 wd_144 tyX6 tyX6_ok nmX6 rfl (tyX6_ok 10 (by decide)) (m_dk dk_X6_cut 51 rfl) rfl) <|
  m_cn (pc := 98) (ok_aload_n (m_dk dk_X6_cut 52 rfl) rfl rfl) <|
  m_cn (pc := 99) (ok_getf (k := 0) (hc0 := (rfl : vwCl[7]? = some (RX6, TX6, 15))) (by decide) in_X6 wd_134 (m_dk dk_X6_cut 53 rfl) rfl) <|
  m_cn (pc := 102) (ok_iload_n (m_dk dk_X6_cut 54 rfl) rfl rfl) <|
  m_cn (pc := 103) (ok_callv (T := mt_X3_sever) my_X3_sever rfl cw_X3_sever rfl rfl (by decide) (r9 := (RX3, TX3, 16)) rfl rfl wd_712 wd_713 wd_714 wd_2 (by decide +kernel) (m_dk dk_X6_cut 55 rfl) rfl) <|
  m_cn (pc := 106) (ok_aload_n (m_dk dk_X6_cut 56 rfl) rfl rfl) <|
  m_cn (pc := 107) (ok_getf (k := 10) (hc0 := (rfl : vwCl[7]? = some (RX6, TX6, 15))) (by decide) in_X6 wd_144 (m_dk dk_X6_cut 57 rfl) rfl) <|
  m_cn (pc := 110) (ok_iconst (m_dk dk_X6_cut 58 rfl) (by decide) rfl) <|
  m_cn (pc := 111) (ok_isub (m_dk dk_X6_cut 59 rfl) rfl) <|
  m_cn (pc := 112) (ok_ireturn (nx := 0) rfl (m_dk dk_X6_cut 60 rfl)) <|
  m_nl
theorem mk_X6_cut {GP : m_G → Prop} {cds : Nat → Nat → m_Op} (h : cds 26 = m_lk cd_X6_cut) : m_MOK GP m_my cds 26 := ⟨RX6, false, [], by decide +kernel, rfl, (fun h9 => by first | rfl | cases h9), Or.inl ⟨rfl, rfl⟩, fun pc => by rw [h]; exact m_lk_ok _ ok_X6_cut pc⟩
def dl_X6_ship : List (Nat × Instr × Nat) := [(0, .iload_n 1, 1), (1, .invokestatic 57, 3), (4, .iload_n 2, 1), (5, .bipush 10, 2), (7, .sipush 200, 3), (10, .invokestatic 68, 3), (13, .iload_n 3, 1), (14, .iconst 0, 1), (15, .bipush 10, 2), (17, .invokestatic 68, 3), (20, .aload_n 0, 1), (21, .getfield 153, 3), (24, .iconst 3, 1), (25, .invokestatic 75, 3), (28, .aload_n 0, 1), (29, .getfield 27, 3), (32, .aload_n 0, 1), (33, .getfield 153, 3), (36, .new 25, 3), (39, .dup, 1), (40, .iload_n 1, 1), (41, .sipush 200, 3), (44, .imul, 1), (45, .iload_n 2, 1), (46, .iload_n 3, 1), (47, .invokespecial 156, 3), (50, .aastore, 1), (51, .aload_n 0, 1), (52, .dup, 1), (53, .getfield 153, 3), (56, .iconst 1, 1), (57, .iadd, 1), (58, .putfield 153, 3), (61, .aload_n 0, 1), (62, .getfield 153, 3), (65, .iconst 1, 1), (66, .isub, 1), (67, .ireturn, 1)]
theorem dk_X6_ship : ∀ q ∈ dl_X6_ship, decode cX6_ship q.1 = .ok q.2 := by decide +kernel
def cd_X6_ship : List (Nat × m_Op) := [(0, o_iload 1 1), (1, o_callx 54 1 1 6 4), (4, o_iload 2 5), (5, o_const (10) 7), (7, o_const (200) 10), (10, o_callx 58 3 1 6 13), (13, o_iload 3 14), (14, o_const (0) 15), (15, o_const (10) 17), (17, o_callx 58 3 1 6 20), (20, o_aload 0 21), (21, o_getf 7 11 24), (24, o_const (3) 25), (25, o_callx 59 2 1 6 28), (28, o_aload 0 29), (29, o_getf 7 3 32), (32, o_aload 0 33), (33, o_getf 7 11 36), (36, o_new 6 4 [.int 0, .int 0, .int 0, .int 0] 39), (39, o_dup 40), (40, o_iload 1 41), (41, o_const (200) 44), (44, o_bin (fun x y => x * y) 45), (45, o_iload 2 46), (46, o_iload 3 47), (47, o_callv 6 20 4 0 0 50), (50, o_aast 7 6 51), (51, o_aload 0 52), (52, o_dup 53), (53, o_getf 7 11 56), (56, o_const (1) 57), (57, o_bin (fun x y => x + y) 58), (58, o_puti 7 11 61), (61, o_aload 0 62), (62, o_getf 7 11 65), (65, o_const (1) 66), (66, o_bin (fun x y => x - y) 67), (67, o_ireturn)]
set_option maxRecDepth 20000 in
set_option maxHeartbeats 4000000 in
theorem ok_X6_ship {GP : m_G → Prop} : ∀ q ∈ cd_X6_ship, m_OK GP m_my (cX6_ship, 4, RX6, false, (some .int), []) q.1 q.2 :=
  m_cn (pc := 0) (ok_iload_n (m_dk dk_X6_ship 0 rfl) rfl rfl) <|
  m_cn (pc := 1) (ok_callx (T := mt_X6_checkLanding) my_X6_checkLanding rfl cw_X6_checkLanding rfl rfl (by decide) wd_391 wd_392 wd_1 (by decide +kernel) (m_dk dk_X6_ship 1 rfl) rfl) <|
  m_cn (pc := 4) (ok_iload_n (m_dk dk_X6_ship 2 rfl) rfl rfl) <|
  m_cn (pc := 5) (ok_bipush (m_dk dk_X6_ship 3 rfl) (by decide) rfl) <|
  m_cn (pc := 7) (ok_sipush (m_dk dk_X6_ship 4 rfl) (by decide) rfl) <|
  m_cn (pc := 10) (ok_callx (T := mt_X6_checkRange) my_X6_checkRange rfl cw_X6_checkRange rfl rfl (by decide) wd_198 wd_199 wd_1 (by decide +kernel) (m_dk dk_X6_ship 5 rfl) rfl) <|
  m_cn (pc := 13) (ok_iload_n (m_dk dk_X6_ship 6 rfl) rfl rfl) <|
  m_cn (pc := 14) (ok_iconst (m_dk dk_X6_ship 7 rfl) (by decide) rfl) <|
  m_cn (pc := 15) (ok_bipush (m_dk dk_X6_ship 8 rfl) (by decide) rfl) <|
  m_cn (pc := 17) (ok_callx (T := mt_X6_checkRange) my_X6_checkRange rfl cw_X6_checkRange rfl rfl (by decide) wd_198 wd_199 wd_1 (by decide +kernel) (m_dk dk_X6_ship 9 rfl) rfl) <|
  m_cn (pc := 20) (ok_aload_n (m_dk dk_X6_ship 10 rfl) rfl rfl) <|
  m_cn (pc := 21) (ok_getf (k := 11) (hc0 := (rfl : vwCl[7]? = some (RX6, TX6, 15))) (by decide) in_X6 wd_145 (m_dk dk_X6_ship 11 rfl) rfl) <|
  m_cn (pc := 24) (ok_iconst (m_dk dk_X6_ship 12 rfl) (by decide) rfl) <|
  m_cn (pc := 25) (ok_callx (T := mt_X6_checkRoom) my_X6_checkRoom rfl cw_X6_checkRoom rfl rfl (by decide) wd_418 wd_419 wd_1 (by decide +kernel) (m_dk dk_X6_ship 13 rfl) rfl) <|
  m_cn (pc := 28) (ok_aload_n (m_dk dk_X6_ship 14 rfl) rfl rfl) <|
  m_cn (pc := 29) (ok_getf (k := 3) (hc0 := (rfl : vwCl[7]? = some (RX6, TX6, 15))) (by decide) in_X6 wd_137 (m_dk dk_X6_ship 15 rfl) rfl) <|
  m_cn (pc := 32) (ok_aload_n (m_dk dk_X6_ship 16 rfl) rfl rfl) <|
  m_cn (pc := 33) (ok_getf (k := 11) (hc0 := (rfl : vwCl[7]? = some (RX6, TX6, 15))) (by decide) in_X6 wd_145 (m_dk dk_X6_ship 17 rfl) rfl) <|
  m_cn (pc := 36) (ok_new (hc0 := (rfl : vwCl[6]? = some (RX5, TX5, 4))) in_X5 tyX5 tyX5_ok wd_105 wd_545 wd_16 df_X5 (fun _ => rfl) dv_X5 (m_dk dk_X6_ship 18 rfl) rfl) <|
  m_cn (pc := 39) (ok_dup (m_dk dk_X6_ship 19 rfl) rfl) <|
  m_cn (pc := 40) (ok_iload_n (m_dk dk_X6_ship 20 rfl) rfl rfl) <|
  m_cn (pc := 41) (ok_sipush (m_dk dk_X6_ship 21 rfl) (by decide) rfl) <|
  m_cn (pc := 44) (ok_imul (m_dk dk_X6_ship 22 rfl) rfl) <|
  m_cn (pc := 45) (ok_iload_n (m_dk dk_X6_ship 23 rfl) rfl rfl) <|
  m_cn (pc := 46) (ok_iload_n (m_dk dk_X6_ship 24 rfl) rfl rfl) <|
  m_cn (pc := 47) (ok_calli (T := mt_X5_init) my_X5_init rfl cw_X5_init rfl rfl (by decide) wd_546 wd_547 wd_16 rfl (by decide +kernel) (m_dk dk_X6_ship 25 rfl) rfl) <|
  m_cn (pc := 50) (ok_aast (r9 := (RX5, TX5, 4)) (fun _ => rfl) rfl (m_dk dk_X6_ship 26 rfl) rfl) <|
  m_cn (pc := 51) (ok_aload_n (m_dk dk_X6_ship 27 rfl) rfl rfl) <|
  m_cn (pc := 52) (ok_dup (m_dk dk_X6_ship 28 rfl) rfl) <|
  m_cn (pc := 53) (ok_getf (k := 11) (hc0 := (rfl : vwCl[7]? = some (RX6, TX6, 15))) (by decide) in_X6 wd_145 (m_dk dk_X6_ship 29 rfl) rfl) <|
  m_cn (pc := 56) (ok_iconst (m_dk dk_X6_ship 30 rfl) (by decide) rfl) <|
  m_cn (pc := 57) (ok_iadd (m_dk dk_X6_ship 31 rfl) rfl) <|
  m_cn (pc := 58) (ok_puti (k := 11) (hc0 := (rfl : vwCl[7]? = some (RX6, TX6, 15))) (by decide) in_X6 wd_145 tyX6 tyX6_ok nmX6 rfl (tyX6_ok 11 (by decide)) (m_dk dk_X6_ship 32 rfl) rfl) <|
  m_cn (pc := 61) (ok_aload_n (m_dk dk_X6_ship 33 rfl) rfl rfl) <|
  m_cn (pc := 62) (ok_getf (k := 11) (hc0 := (rfl : vwCl[7]? = some (RX6, TX6, 15))) (by decide) in_X6 wd_145 (m_dk dk_X6_ship 34 rfl) rfl) <|
  m_cn (pc := 65) (ok_iconst (m_dk dk_X6_ship 35 rfl) (by decide) rfl) <|
  m_cn (pc := 66) (ok_isub (m_dk dk_X6_ship 36 rfl) rfl) <|
  m_cn (pc := 67) (ok_ireturn (nx := 0) rfl (m_dk dk_X6_ship 37 rfl)) <|
  m_nl
theorem mk_X6_ship {GP : m_G → Prop} {cds : Nat → Nat → m_Op} (h : cds 27 = m_lk cd_X6_ship) : m_MOK GP m_my cds 27 := ⟨RX6, false, [], by decide +kernel, rfl, (fun h9 => by first | rfl | cases h9), Or.inl ⟨rfl, rfl⟩, fun pc => by rw [h]; exact m_lk_ok _ ok_X6_ship pc⟩
def dl_X6_send : List (Nat × Instr × Nat) := [(0, .iload_n 1, 1), (1, .aload_n 0, 1), (2, .getfield 153, 3), (5, .invokestatic 100, 3), (8, .iload_n 2, 1), (9, .iconst (-1), 1), (10, .if_icmp .eq 16, 3), (13, .iload_n 2, 1), (14, .aload_n 0, 1), (15, .getfield 142, 3), (18, .invokestatic 100, 3), (21, .aload_n 0, 1), (22, .iload_n 2, 1), (23, .invokevirtual 157, 3), (26, .aload_n 0, 1), (27, .getfield 27, 3), (30, .iload_n 1, 1), (31, .aaload, 1), (32, .getfield 160, 3), (35, .istore_n 3, 1), (36, .aload_n 0, 1), (37, .getfield 27, 3), (40, .iload_n 1, 1), (41, .aaload, 1), (42, .iload_n 2, 1), (43, .putfield 160, 3), (46, .iload_n 3, 1), (47, .ireturn, 1)]
theorem dk_X6_send : ∀ q ∈ dl_X6_send, decode cX6_send q.1 = .ok q.2 := by decide +kernel
def cd_X6_send : List (Nat × m_Op) := [(0, o_iload 1 1), (1, o_aload 0 2), (2, o_getf 7 11 5), (5, o_callx 56 2 1 6 8), (8, o_iload 2 9), (9, o_const (-1) 10), (10, o_icmpeq 26 13), (13, o_iload 2 14), (14, o_aload 0 15), (15, o_getf 7 10 18), (18, o_callx 56 2 1 6 21), (21, o_aload 0 22), (22, o_iload 2 23), (23, o_callvx 7 60 2 2 12 26), (26, o_aload 0 27), (27, o_getf 7 3 30), (30, o_iload 1 31), (31, o_aald 7 32), (32, o_getf 6 3 35), (35, o_istore 3 36), (36, o_aload 0 37), (37, o_getf 7 3 40), (40, o_iload 1 41), (41, o_aald 7 42), (42, o_iload 2 43), (43, o_puti 6 3 46), (46, o_iload 3 47), (47, o_ireturn)]
set_option maxRecDepth 20000 in
set_option maxHeartbeats 4000000 in
theorem ok_X6_send {GP : m_G → Prop} : ∀ q ∈ cd_X6_send, m_OK GP m_my (cX6_send, 4, RX6, false, (some .int), []) q.1 q.2 :=
  m_cn (pc := 0) (ok_iload_n (m_dk dk_X6_send 0 rfl) rfl rfl) <|
  m_cn (pc := 1) (ok_aload_n (m_dk dk_X6_send 1 rfl) rfl rfl) <|
  m_cn (pc := 2) (ok_getf (k := 11) (hc0 := (rfl : vwCl[7]? = some (RX6, TX6, 15))) (by decide) in_X6 wd_145 (m_dk dk_X6_send 2 rfl) rfl) <|
  m_cn (pc := 5) (ok_callx (T := mt_X6_checkNumber) my_X6_checkNumber rfl cw_X6_checkNumber rfl rfl (by decide) wd_473 wd_474 wd_1 (by decide +kernel) (m_dk dk_X6_send 3 rfl) rfl) <|
  m_cn (pc := 8) (ok_iload_n (m_dk dk_X6_send 4 rfl) rfl rfl) <|
  m_cn (pc := 9) (ok_iconst (m_dk dk_X6_send 5 rfl) (by decide) rfl) <|
  m_cn (pc := 10) (ok_icmpeq (m_dk dk_X6_send 6 rfl) rfl rfl) <|
  m_cn (pc := 13) (ok_iload_n (m_dk dk_X6_send 7 rfl) rfl rfl) <|
  m_cn (pc := 14) (ok_aload_n (m_dk dk_X6_send 8 rfl) rfl rfl) <|
  m_cn (pc := 15) (ok_getf (k := 10) (hc0 := (rfl : vwCl[7]? = some (RX6, TX6, 15))) (by decide) in_X6 wd_144 (m_dk dk_X6_send 9 rfl) rfl) <|
  m_cn (pc := 18) (ok_callx (T := mt_X6_checkNumber) my_X6_checkNumber rfl cw_X6_checkNumber rfl rfl (by decide) wd_473 wd_474 wd_1 (by decide +kernel) (m_dk dk_X6_send 10 rfl) rfl) <|
  m_cn (pc := 21) (ok_aload_n (m_dk dk_X6_send 11 rfl) rfl rfl) <|
  m_cn (pc := 22) (ok_iload_n (m_dk dk_X6_send 12 rfl) rfl rfl) <|
  m_cn (pc := 23) (ok_callvx (T := mt_X6_checkOpenForShip) my_X6_checkOpenForShip rfl cw_X6_checkOpenForShip rfl rfl (by decide) (r9 := (RX6, TX6, 15)) rfl rfl wd_723 wd_725 (m_wk 18 (by decide +kernel) (by decide +kernel)) wd_1 (by decide +kernel) (m_dk dk_X6_send 13 rfl) rfl) <|
  m_cn (pc := 26) (ok_aload_n (m_dk dk_X6_send 14 rfl) rfl rfl) <|
  m_cn (pc := 27) (ok_getf (k := 3) (hc0 := (rfl : vwCl[7]? = some (RX6, TX6, 15))) (by decide) in_X6 wd_137 (m_dk dk_X6_send 15 rfl) rfl) <|
  m_cn (pc := 30) (ok_iload_n (m_dk dk_X6_send 16 rfl) rfl rfl) <|
  m_cn (pc := 31) (ok_aald (C := "Cablecourt$Ship") (fun _ => rfl) (m_dk dk_X6_send 17 rfl) rfl) <|
  m_cn (pc := 32) (ok_getf (k := 3) (hc0 := (rfl : vwCl[6]? = some (RX5, TX5, 4))) (by decide) in_X5 wd_556 (m_dk dk_X6_send 18 rfl) rfl) <|
  m_cn (pc := 35) (ok_istore_n (m_dk dk_X6_send 19 rfl) rfl rfl (by decide)) <|
  m_cn (pc := 36) (ok_aload_n (m_dk dk_X6_send 20 rfl) rfl rfl) <|
  m_cn (pc := 37) (ok_getf (k := 3) (hc0 := (rfl : vwCl[7]? = some (RX6, TX6, 15))) (by decide) in_X6 wd_137 (m_dk dk_X6_send 21 rfl) rfl) <|
  m_cn (pc := 40) (ok_iload_n (m_dk dk_X6_send 22 rfl) rfl rfl) <|
  m_cn (pc := 41) (ok_aald (C := "Cablecourt$Ship") (fun _ => rfl) (m_dk dk_X6_send 23 rfl) rfl) <|
  m_cn (pc := 42) (ok_iload_n (m_dk dk_X6_send 24 rfl) rfl rfl) <|
  m_cn (pc := 43) (ok_puti (k := 3) (hc0 := (rfl : vwCl[6]? = some (RX5, TX5, 4))) (by decide) in_X5 wd_556 tyX5 tyX5_ok nmX5 rfl (tyX5_ok 3 (by decide)) (m_dk dk_X6_send 25 rfl) rfl) <|
  m_cn (pc := 46) (ok_iload_n (m_dk dk_X6_send 26 rfl) rfl rfl) <|
  m_cn (pc := 47) (ok_ireturn (nx := 0) rfl (m_dk dk_X6_send 27 rfl)) <|
  m_nl
theorem mk_X6_send {GP : m_G → Prop} {cds : Nat → Nat → m_Op} (h : cds 28 = m_lk cd_X6_send) : m_MOK GP m_my cds 28 := ⟨RX6, false, [], by decide +kernel, rfl, (fun h9 => by first | rfl | cases h9), Or.inl ⟨rfl, rfl⟩, fun pc => by rw [h]; exact m_lk_ok _ ok_X6_send pc⟩
def dl_X6_fill : List (Nat × Instr × Nat) := [(0, .iload_n 1, 1), (1, .aload_n 0, 1), (2, .getfield 153, 3), (5, .invokestatic 100, 3), (8, .iload_n 2, 1), (9, .iconst 0, 1), (10, .bipush 10, 2), (12, .invokestatic 68, 3), (15, .aload_n 0, 1), (16, .getfield 27, 3), (19, .iload_n 1, 1), (20, .aaload, 1), (21, .astore_n 3, 1), (22, .aload_n 3, 1), (23, .getfield 160, 3), (26, .iconst (-1), 1), (27, .if_icmp .ne 14, 3), (30, .aload_n 3, 1), (31, .getfield 163, 3), (34, .sipush 200, 3), (37, .irem, 1), (38, .ifCond .eq 13, 3), (41, .new 107, 3), (44, .dup, 1), (45, .ldc 166, 2), (47, .invokespecial 111, 3), (50, .athrow, 1), (51, .aload_n 3, 1), (52, .getfield 168, 3), (55, .istore 4, 2), (57, .aload_n 3, 1), (58, .iload_n 2, 1), (59, .putfield 168, 3), (62, .iload 4, 2), (64, .ireturn, 1)]
theorem dk_X6_fill : ∀ q ∈ dl_X6_fill, decode cX6_fill q.1 = .ok q.2 := by decide +kernel
def cd_X6_fill : List (Nat × m_Op) := [(0, o_iload 1 1), (1, o_aload 0 2), (2, o_getf 7 11 5), (5, o_callx 56 2 1 6 8), (8, o_iload 2 9), (9, o_const (0) 10), (10, o_const (10) 12), (12, o_callx 58 3 1 6 15), (15, o_aload 0 16), (16, o_getf 7 3 19), (19, o_iload 1 20), (20, o_aald 7 21), (21, o_astore 3 22), (22, o_aload 3 23), (23, o_getf 6 3 26), (26, o_const (-1) 27), (27, o_icmpne 41 30), (30, o_aload 3 31), (31, o_getf 6 1 34), (34, o_const (200) 37), (37, o_div (fun x y => x - x / y * y) 38), (38, o_ifeq 51 41), (41, o_throw m_iss), (51, o_aload 3 52), (52, o_getf 6 2 55), (55, o_istore 4 57), (57, o_aload 3 58), (58, o_iload 2 59), (59, o_puti 6 2 62), (62, o_iload 4 64), (64, o_ireturn)]
set_option maxRecDepth 20000 in
set_option maxHeartbeats 4000000 in
theorem ok_X6_fill {GP : m_G → Prop} : ∀ q ∈ cd_X6_fill, m_OK GP m_my (cX6_fill, 5, RX6, false, (some .int), []) q.1 q.2 :=
  m_cn (pc := 0) (ok_iload_n (m_dk dk_X6_fill 0 rfl) rfl rfl) <|
  m_cn (pc := 1) (ok_aload_n (m_dk dk_X6_fill 1 rfl) rfl rfl) <|
  m_cn (pc := 2) (ok_getf (k := 11) (hc0 := (rfl : vwCl[7]? = some (RX6, TX6, 15))) (by decide) in_X6 wd_145 (m_dk dk_X6_fill 2 rfl) rfl) <|
  m_cn (pc := 5) (ok_callx (T := mt_X6_checkNumber) my_X6_checkNumber rfl cw_X6_checkNumber rfl rfl (by decide) wd_473 wd_474 wd_1 (by decide +kernel) (m_dk dk_X6_fill 3 rfl) rfl) <|
  m_cn (pc := 8) (ok_iload_n (m_dk dk_X6_fill 4 rfl) rfl rfl) <|
  m_cn (pc := 9) (ok_iconst (m_dk dk_X6_fill 5 rfl) (by decide) rfl) <|
  m_cn (pc := 10) (ok_bipush (m_dk dk_X6_fill 6 rfl) (by decide) rfl) <|
  m_cn (pc := 12) (ok_callx (T := mt_X6_checkRange) my_X6_checkRange rfl cw_X6_checkRange rfl rfl (by decide) wd_198 wd_199 wd_1 (by decide +kernel) (m_dk dk_X6_fill 7 rfl) rfl) <|
  m_cn (pc := 15) (ok_aload_n (m_dk dk_X6_fill 8 rfl) rfl rfl) <|
  m_cn (pc := 16) (ok_getf (k := 3) (hc0 := (rfl : vwCl[7]? = some (RX6, TX6, 15))) (by decide) in_X6 wd_137 (m_dk dk_X6_fill 9 rfl) rfl) <|
  m_cn (pc := 19) (ok_iload_n (m_dk dk_X6_fill 10 rfl) rfl rfl) <|
  m_cn (pc := 20) (ok_aald (C := "Cablecourt$Ship") (fun _ => rfl) (m_dk dk_X6_fill 11 rfl) rfl) <|
  m_cn (pc := 21) (ok_astore_n (m_dk dk_X6_fill 12 rfl) rfl rfl (by decide)) <|
  m_cn (pc := 22) (ok_aload_n (m_dk dk_X6_fill 13 rfl) rfl rfl) <|
  m_cn (pc := 23) (ok_getf (k := 3) (hc0 := (rfl : vwCl[6]? = some (RX5, TX5, 4))) (by decide) in_X5 wd_556 (m_dk dk_X6_fill 14 rfl) rfl) <|
  m_cn (pc := 26) (ok_iconst (m_dk dk_X6_fill 15 rfl) (by decide) rfl) <|
  m_cn (pc := 27) (ok_icmpne (m_dk dk_X6_fill 16 rfl) rfl rfl) <|
  m_cn (pc := 30) (ok_aload_n (m_dk dk_X6_fill 17 rfl) rfl rfl) <|
  m_cn (pc := 31) (ok_getf (k := 1) (hc0 := (rfl : vwCl[6]? = some (RX5, TX5, 4))) (by decide) in_X5 wd_552 (m_dk dk_X6_fill 18 rfl) rfl) <|
  m_cn (pc := 34) (ok_sipush (m_dk dk_X6_fill 19 rfl) (by decide) rfl) <|
  m_cn (pc := 37) (ok_irem (m_dk dk_X6_fill 20 rfl) rfl) <|
  m_cn (pc := 38) (ok_ifeq (m_dk dk_X6_fill 21 rfl) rfl rfl) <|
  m_cn (pc := 41) (ok_throwS (nx := 0) (text := "the ship is sent, or not at a landing") (names := m_exn) (by decide +kernel) (by decide +kernel) (by decide) rfl wd_269 wd_10 (by decide +kernel) th_iss_107_111_a th_iss_107_111_b th_iss_107_111_c (m_dk dk_X6_fill 22 rfl) (m_dk dk_X6_fill 23 rfl) (m_dk dk_X6_fill 24 rfl) (m_dk dk_X6_fill 25 rfl) (m_dk dk_X6_fill 26 rfl)) <|
  m_cn (pc := 51) (ok_aload_n (m_dk dk_X6_fill 27 rfl) rfl rfl) <|
  m_cn (pc := 52) (ok_getf (k := 2) (hc0 := (rfl : vwCl[6]? = some (RX5, TX5, 4))) (by decide) in_X5 wd_554 (m_dk dk_X6_fill 28 rfl) rfl) <|
  m_cn (pc := 55) (ok_istore (m_dk dk_X6_fill 29 rfl) rfl (by decide)) <|
  m_cn (pc := 57) (ok_aload_n (m_dk dk_X6_fill 30 rfl) rfl rfl) <|
  m_cn (pc := 58) (ok_iload_n (m_dk dk_X6_fill 31 rfl) rfl rfl) <|
  m_cn (pc := 59) (ok_puti (k := 2) (hc0 := (rfl : vwCl[6]? = some (RX5, TX5, 4))) (by decide) in_X5 wd_554 tyX5 tyX5_ok nmX5 rfl (tyX5_ok 2 (by decide)) (m_dk dk_X6_fill 32 rfl) rfl) <|
  m_cn (pc := 62) (ok_iload (m_dk dk_X6_fill 33 rfl) rfl) <|
  m_cn (pc := 64) (ok_ireturn (nx := 0) rfl (m_dk dk_X6_fill 34 rfl)) <|
  m_nl
theorem mk_X6_fill {GP : m_G → Prop} {cds : Nat → Nat → m_Op} (h : cds 29 = m_lk cd_X6_fill) : m_MOK GP m_my cds 29 := ⟨RX6, false, [], by decide +kernel, rfl, (fun h9 => by first | rfl | cases h9), Or.inl ⟨rfl, rfl⟩, fun pc => by rw [h]; exact m_lk_ok _ ok_X6_fill pc⟩
def dl_X6_storm : List (Nat × Instr × Nat) := [(0, .iload_n 1, 1), (1, .iconst 0, 1), (2, .sipush 1000, 3), (5, .invokestatic 68, 3), (8, .iload_n 2, 1), (9, .iload_n 1, 1), (10, .sipush 1000, 3), (13, .invokestatic 68, 3), (16, .aload_n 0, 1), (17, .iload_n 1, 1), (18, .putfield 50, 3), (21, .aload_n 0, 1), (22, .iload_n 2, 1), (23, .putfield 54, 3), (26, .return_, 1)]
theorem dk_X6_storm : ∀ q ∈ dl_X6_storm, decode cX6_storm q.1 = .ok q.2 := by decide +kernel
def cd_X6_storm : List (Nat × m_Op) := [(0, o_iload 1 1), (1, o_const (0) 2), (2, o_const (1000) 5), (5, o_callx 58 3 1 6 8), (8, o_iload 2 9), (9, o_iload 1 10), (10, o_const (1000) 13), (13, o_callx 58 3 1 6 16), (16, o_aload 0 17), (17, o_iload 1 18), (18, o_puti 7 13 21), (21, o_aload 0 22), (22, o_iload 2 23), (23, o_puti 7 14 26), (26, o_return)]
set_option maxRecDepth 20000 in
set_option maxHeartbeats 4000000 in
theorem ok_X6_storm {GP : m_G → Prop} : ∀ q ∈ cd_X6_storm, m_OK GP m_my (cX6_storm, 3, RX6, false, none, []) q.1 q.2 :=
  m_cn (pc := 0) (ok_iload_n (m_dk dk_X6_storm 0 rfl) rfl rfl) <|
  m_cn (pc := 1) (ok_iconst (m_dk dk_X6_storm 1 rfl) (by decide) rfl) <|
  m_cn (pc := 2) (ok_sipush (m_dk dk_X6_storm 2 rfl) (by decide) rfl) <|
  m_cn (pc := 5) (ok_callx (T := mt_X6_checkRange) my_X6_checkRange rfl cw_X6_checkRange rfl rfl (by decide) wd_198 wd_199 wd_1 (by decide +kernel) (m_dk dk_X6_storm 3 rfl) rfl) <|
  m_cn (pc := 8) (ok_iload_n (m_dk dk_X6_storm 4 rfl) rfl rfl) <|
  m_cn (pc := 9) (ok_iload_n (m_dk dk_X6_storm 5 rfl) rfl rfl) <|
  m_cn (pc := 10) (ok_sipush (m_dk dk_X6_storm 6 rfl) (by decide) rfl) <|
  m_cn (pc := 13) (ok_callx (T := mt_X6_checkRange) my_X6_checkRange rfl cw_X6_checkRange rfl rfl (by decide) wd_198 wd_199 wd_1 (by decide +kernel) (m_dk dk_X6_storm 7 rfl) rfl) <|
  m_cn (pc := 16) (ok_aload_n (m_dk dk_X6_storm 8 rfl) rfl rfl) <|
  m_cn (pc := 17) (ok_iload_n (m_dk dk_X6_storm 9 rfl) rfl rfl) <|
  m_cn (pc := 18) (ok_puti (k := 13) (hc0 := (rfl : vwCl[7]? = some (RX6, TX6, 15))) (by decide) in_X6 wd_147 tyX6 tyX6_ok nmX6 rfl (tyX6_ok 13 (by decide)) (m_dk dk_X6_storm 10 rfl) rfl) <|
  m_cn (pc := 21) (ok_aload_n (m_dk dk_X6_storm 11 rfl) rfl rfl) <|
  m_cn (pc := 22) (ok_iload_n (m_dk dk_X6_storm 12 rfl) rfl rfl) <|
  m_cn (pc := 23) (ok_puti (k := 14) (hc0 := (rfl : vwCl[7]? = some (RX6, TX6, 15))) (by decide) in_X6 wd_148 tyX6 tyX6_ok nmX6 rfl (tyX6_ok 14 (by decide)) (m_dk dk_X6_storm 13 rfl) rfl) <|
  m_cn (pc := 26) (ok_return (nx := 0) rfl (m_dk dk_X6_storm 14 rfl)) <|
  m_nl
theorem mk_X6_storm {GP : m_G → Prop} {cds : Nat → Nat → m_Op} (h : cds 30 = m_lk cd_X6_storm) : m_MOK GP m_my cds 30 := ⟨RX6, false, [], by decide +kernel, rfl, (fun h9 => by first | rfl | cases h9), Or.inl ⟨rfl, rfl⟩, fun pc => by rw [h]; exact m_lk_ok _ ok_X6_storm pc⟩
def dl_X6_pass : List (Nat × Instr × Nat) := [(0, .iload_n 1, 1), (1, .iconst 1, 1), (2, .bipush 24, 2), (4, .invokestatic 68, 3), (7, .aload_n 0, 1), (8, .getfield 80, 3), (11, .iload_n 1, 1), (12, .iadd, 1), (13, .sipush 500, 3), (16, .if_icmp .le 13, 3), (19, .new 107, 3), (22, .dup, 1), (23, .ldc 171, 2), (25, .invokespecial 111, 3), (28, .athrow, 1), (29, .iconst 0, 1), (30, .istore_n 2, 1), (31, .iload_n 2, 1), (32, .iload_n 1, 1), (33, .if_icmp .ge 13, 3), (36, .aload_n 0, 1), (37, .invokevirtual 173, 3), (40, .iinc 2 1, 3), (43, .goto (-12), 3), (46, .aload_n 0, 1), (47, .getfield 80, 3), (50, .ireturn, 1)]
theorem dk_X6_pass : ∀ q ∈ dl_X6_pass, decode cX6_pass q.1 = .ok q.2 := by decide +kernel
def cd_X6_pass : List (Nat × m_Op) := [(0, o_iload 1 1), (1, o_const (1) 2), (2, o_const (24) 4), (4, o_callx 58 3 1 6 7), (7, o_aload 0 8), (8, o_getf 7 12 11), (11, o_iload 1 12), (12, o_bin (fun x y => x + y) 13), (13, o_const (500) 16), (16, o_icmple 29 19), (19, o_throw m_iss), (29, o_const (0) 30), (30, o_istore 2 31), (31, o_iload 2 32), (32, o_iload 1 33), (33, o_icmpge 46 36), (36, o_aload 0 37), (37, o_callv 7 44 1 0 0 40), (40, o_iinc 2 (1) 43), (43, o_goto 31), (46, o_aload 0 47), (47, o_getf 7 12 50), (50, o_ireturn)]
set_option maxRecDepth 20000 in
set_option maxHeartbeats 4000000 in
theorem ok_X6_pass {GP : m_G → Prop} : ∀ q ∈ cd_X6_pass, m_OK GP m_my (cX6_pass, 3, RX6, false, (some .int), []) q.1 q.2 :=
  m_cn (pc := 0) (ok_iload_n (m_dk dk_X6_pass 0 rfl) rfl rfl) <|
  m_cn (pc := 1) (ok_iconst (m_dk dk_X6_pass 1 rfl) (by decide) rfl) <|
  m_cn (pc := 2) (ok_bipush (m_dk dk_X6_pass 2 rfl) (by decide) rfl) <|
  m_cn (pc := 4) (ok_callx (T := mt_X6_checkRange) my_X6_checkRange rfl cw_X6_checkRange rfl rfl (by decide) wd_198 wd_199 wd_1 (by decide +kernel) (m_dk dk_X6_pass 3 rfl) rfl) <|
  m_cn (pc := 7) (ok_aload_n (m_dk dk_X6_pass 4 rfl) rfl rfl) <|
  m_cn (pc := 8) (ok_getf (k := 12) (hc0 := (rfl : vwCl[7]? = some (RX6, TX6, 15))) (by decide) in_X6 wd_146 (m_dk dk_X6_pass 5 rfl) rfl) <|
  m_cn (pc := 11) (ok_iload_n (m_dk dk_X6_pass 6 rfl) rfl rfl) <|
  m_cn (pc := 12) (ok_iadd (m_dk dk_X6_pass 7 rfl) rfl) <|
  m_cn (pc := 13) (ok_sipush (m_dk dk_X6_pass 8 rfl) (by decide) rfl) <|
  m_cn (pc := 16) (ok_icmple (m_dk dk_X6_pass 9 rfl) rfl rfl) <|
  m_cn (pc := 19) (ok_throwS (nx := 0) (text := "the hours are over") (names := m_exn) (by decide +kernel) (by decide +kernel) (by decide) rfl wd_269 wd_10 (by decide +kernel) th_iss_107_111_a th_iss_107_111_b th_iss_107_111_c (m_dk dk_X6_pass 10 rfl) (m_dk dk_X6_pass 11 rfl) (m_dk dk_X6_pass 12 rfl) (m_dk dk_X6_pass 13 rfl) (m_dk dk_X6_pass 14 rfl)) <|
  m_cn (pc := 29) (ok_iconst (m_dk dk_X6_pass 15 rfl) (by decide) rfl) <|
  m_cn (pc := 30) (ok_istore_n (m_dk dk_X6_pass 16 rfl) rfl rfl (by decide)) <|
  m_cn (pc := 31) (ok_iload_n (m_dk dk_X6_pass 17 rfl) rfl rfl) <|
  m_cn (pc := 32) (ok_iload_n (m_dk dk_X6_pass 18 rfl) rfl rfl) <|
  m_cn (pc := 33) (ok_icmpge (m_dk dk_X6_pass 19 rfl) rfl rfl) <|
  m_cn (pc := 36) (ok_aload_n (m_dk dk_X6_pass 20 rfl) rfl rfl) <|
  m_cn (pc := 37) (ok_callv (T := mt_X6_passHour) my_X6_passHour rfl cw_X6_passHour rfl rfl (by decide) (r9 := (RX6, TX6, 15)) rfl rfl wd_285 wd_287 (m_wk 1 (by decide +kernel) (by decide +kernel)) wd_1 (by decide +kernel) (m_dk dk_X6_pass 21 rfl) rfl) <|
  m_cn (pc := 40) (ok_iinc (m_dk dk_X6_pass 22 rfl) (by decide) rfl (by decide)) <|
  m_cn (pc := 43) (ok_goto (nx := 0) (m_dk dk_X6_pass 23 rfl) rfl) <|
  m_cn (pc := 46) (ok_aload_n (m_dk dk_X6_pass 24 rfl) rfl rfl) <|
  m_cn (pc := 47) (ok_getf (k := 12) (hc0 := (rfl : vwCl[7]? = some (RX6, TX6, 15))) (by decide) in_X6 wd_146 (m_dk dk_X6_pass 25 rfl) rfl) <|
  m_cn (pc := 50) (ok_ireturn (nx := 0) rfl (m_dk dk_X6_pass 26 rfl)) <|
  m_nl
theorem mk_X6_pass {GP : m_G → Prop} {cds : Nat → Nat → m_Op} (h : cds 31 = m_lk cd_X6_pass) : m_MOK GP m_my cds 31 := ⟨RX6, false, [], by decide +kernel, rfl, (fun h9 => by first | rfl | cases h9), Or.inl ⟨rfl, rfl⟩, fun pc => by rw [h]; exact m_lk_ok _ ok_X6_pass pc⟩
def dl_X6_owned : List (Nat × Instr × Nat) := [(0, .iload_n 1, 1), (1, .aload_n 0, 1), (2, .getfield 12, 3), (5, .getfield 72, 3), (8, .invokestatic 100, 3), (11, .iload_n 2, 1), (12, .invokestatic 61, 3), (15, .aload_n 0, 1), (16, .getfield 12, 3), (19, .getfield 104, 3), (22, .iload_n 1, 1), (23, .aaload, 1), (24, .iload_n 2, 1), (25, .iaload, 1), (26, .ireturn, 1)]
theorem dk_X6_owned : ∀ q ∈ dl_X6_owned, decode cX6_owned q.1 = .ok q.2 := by decide +kernel
def cd_X6_owned : List (Nat × m_Op) := [(0, o_iload 1 1), (1, o_aload 0 2), (2, o_getf 7 0 5), (5, o_getf 4 7 8), (8, o_callx 56 2 1 6 11), (11, o_iload 2 12), (12, o_callx 55 1 1 6 15), (15, o_aload 0 16), (16, o_getf 7 0 19), (19, o_getf 4 2 22), (22, o_iload 1 23), (23, o_aald 3 24), (24, o_iload 2 25), (25, o_iald 0 26), (26, o_ireturn)]
set_option maxRecDepth 20000 in
set_option maxHeartbeats 4000000 in
theorem ok_X6_owned {GP : m_G → Prop} : ∀ q ∈ cd_X6_owned, m_OK GP m_my (cX6_owned, 3, RX6, false, (some .int), []) q.1 q.2 :=
  m_cn (pc := 0) (ok_iload_n (m_dk dk_X6_owned 0 rfl) rfl rfl) <|
  m_cn (pc := 1) (ok_aload_n (m_dk dk_X6_owned 1 rfl) rfl rfl) <|
  m_cn (pc := 2) (ok_getf (k := 0) (hc0 := (rfl : vwCl[7]? = some (RX6, TX6, 15))) (by decide) in_X6 wd_134 (m_dk dk_X6_owned 2 rfl) rfl) <|
  m_cn (pc := 5) (ok_getf (k := 7) (hc0 := (rfl : vwCl[4]? = some (RX3, TX3, 16))) (by decide) in_X3 wd_58 (m_dk dk_X6_owned 3 rfl) rfl) <|
  m_cn (pc := 8) (ok_callx (T := mt_X6_checkNumber) my_X6_checkNumber rfl cw_X6_checkNumber rfl rfl (by decide) wd_473 wd_474 wd_1 (by decide +kernel) (m_dk dk_X6_owned 4 rfl) rfl) <|
  m_cn (pc := 11) (ok_iload_n (m_dk dk_X6_owned 5 rfl) rfl rfl) <|
  m_cn (pc := 12) (ok_callx (T := mt_X6_checkMember) my_X6_checkMember rfl cw_X6_checkMember rfl rfl (by decide) wd_410 wd_411 wd_1 (by decide +kernel) (m_dk dk_X6_owned 6 rfl) rfl) <|
  m_cn (pc := 15) (ok_aload_n (m_dk dk_X6_owned 7 rfl) rfl rfl) <|
  m_cn (pc := 16) (ok_getf (k := 0) (hc0 := (rfl : vwCl[7]? = some (RX6, TX6, 15))) (by decide) in_X6 wd_134 (m_dk dk_X6_owned 8 rfl) rfl) <|
  m_cn (pc := 19) (ok_getf (k := 2) (hc0 := (rfl : vwCl[4]? = some (RX3, TX3, 16))) (by decide) in_X3 wd_48 (m_dk dk_X6_owned 9 rfl) rfl) <|
  m_cn (pc := 22) (ok_iload_n (m_dk dk_X6_owned 10 rfl) rfl rfl) <|
  m_cn (pc := 23) (ok_aaldI (m_dk dk_X6_owned 11 rfl) rfl) <|
  m_cn (pc := 24) (ok_iload_n (m_dk dk_X6_owned 12 rfl) rfl rfl) <|
  m_cn (pc := 25) (ok_iald (m_dk dk_X6_owned 13 rfl) rfl) <|
  m_cn (pc := 26) (ok_ireturn (nx := 0) rfl (m_dk dk_X6_owned 14 rfl)) <|
  m_nl
theorem mk_X6_owned {GP : m_G → Prop} {cds : Nat → Nat → m_Op} (h : cds 32 = m_lk cd_X6_owned) : m_MOK GP m_my cds 32 := ⟨RX6, false, [], by decide +kernel, rfl, (fun h9 => by first | rfl | cases h9), Or.inl ⟨rfl, rfl⟩, fun pc => by rw [h]; exact m_lk_ok _ ok_X6_owned pc⟩
def dl_X6_isWhole : List (Nat × Instr × Nat) := [(0, .iload_n 1, 1), (1, .aload_n 0, 1), (2, .getfield 12, 3), (5, .getfield 72, 3), (8, .invokestatic 100, 3), (11, .aload_n 0, 1), (12, .getfield 12, 3), (15, .getfield 136, 3), (18, .iload_n 1, 1), (19, .baload, 1), (20, .ireturn, 1)]
theorem dk_X6_isWhole : ∀ q ∈ dl_X6_isWhole, decode cX6_isWhole q.1 = .ok q.2 := by decide +kernel
def cd_X6_isWhole : List (Nat × m_Op) := [(0, o_iload 1 1), (1, o_aload 0 2), (2, o_getf 7 0 5), (5, o_getf 4 7 8), (8, o_callx 56 2 1 6 11), (11, o_aload 0 12), (12, o_getf 7 0 15), (15, o_getf 4 1 18), (18, o_iload 1 19), (19, o_iald 1 20), (20, o_zreturn)]
set_option maxRecDepth 20000 in
set_option maxHeartbeats 4000000 in
theorem ok_X6_isWhole {GP : m_G → Prop} : ∀ q ∈ cd_X6_isWhole, m_OK GP m_my (cX6_isWhole, 2, RX6, false, (some .boolean), []) q.1 q.2 :=
  m_cn (pc := 0) (ok_iload_n (m_dk dk_X6_isWhole 0 rfl) rfl rfl) <|
  m_cn (pc := 1) (ok_aload_n (m_dk dk_X6_isWhole 1 rfl) rfl rfl) <|
  m_cn (pc := 2) (ok_getf (k := 0) (hc0 := (rfl : vwCl[7]? = some (RX6, TX6, 15))) (by decide) in_X6 wd_134 (m_dk dk_X6_isWhole 2 rfl) rfl) <|
  m_cn (pc := 5) (ok_getf (k := 7) (hc0 := (rfl : vwCl[4]? = some (RX3, TX3, 16))) (by decide) in_X3 wd_58 (m_dk dk_X6_isWhole 3 rfl) rfl) <|
  m_cn (pc := 8) (ok_callx (T := mt_X6_checkNumber) my_X6_checkNumber rfl cw_X6_checkNumber rfl rfl (by decide) wd_473 wd_474 wd_1 (by decide +kernel) (m_dk dk_X6_isWhole 4 rfl) rfl) <|
  m_cn (pc := 11) (ok_aload_n (m_dk dk_X6_isWhole 5 rfl) rfl rfl) <|
  m_cn (pc := 12) (ok_getf (k := 0) (hc0 := (rfl : vwCl[7]? = some (RX6, TX6, 15))) (by decide) in_X6 wd_134 (m_dk dk_X6_isWhole 6 rfl) rfl) <|
  m_cn (pc := 15) (ok_getf (k := 1) (hc0 := (rfl : vwCl[4]? = some (RX3, TX3, 16))) (by decide) in_X3 wd_46 (m_dk dk_X6_isWhole 7 rfl) rfl) <|
  m_cn (pc := 18) (ok_iload_n (m_dk dk_X6_isWhole 8 rfl) rfl rfl) <|
  m_cn (pc := 19) (ok_zald (m_dk dk_X6_isWhole 9 rfl) rfl) <|
  m_cn (pc := 20) (ok_zreturn (nx := 0) rfl (m_dk dk_X6_isWhole 10 rfl)) <|
  m_nl
theorem mk_X6_isWhole {GP : m_G → Prop} {cds : Nat → Nat → m_Op} (h : cds 33 = m_lk cd_X6_isWhole) : m_MOK GP m_my cds 33 := ⟨RX6, false, [], by decide +kernel, rfl, (fun h9 => by first | rfl | cases h9), Or.inl ⟨rfl, rfl⟩, fun pc => by rw [h]; exact m_lk_ok _ ok_X6_isWhole pc⟩
def dl_X6_way : List (Nat × Instr × Nat) := [(0, .iload_n 1, 1), (1, .aload_n 0, 1), (2, .getfield 12, 3), (5, .getfield 90, 3), (8, .invokestatic 100, 3), (11, .aload_n 0, 1), (12, .getfield 12, 3), (15, .getfield 176, 3), (18, .iload_n 1, 1), (19, .iaload, 1), (20, .ireturn, 1)]
theorem dk_X6_way : ∀ q ∈ dl_X6_way, decode cX6_way q.1 = .ok q.2 := by decide +kernel
def cd_X6_way : List (Nat × m_Op) := [(0, o_iload 1 1), (1, o_aload 0 2), (2, o_getf 7 0 5), (5, o_getf 4 8 8), (8, o_callx 56 2 1 6 11), (11, o_aload 0 12), (12, o_getf 7 0 15), (15, o_getf 4 4 18), (18, o_iload 1 19), (19, o_iald 0 20), (20, o_ireturn)]
set_option maxRecDepth 20000 in
set_option maxHeartbeats 4000000 in
theorem ok_X6_way {GP : m_G → Prop} : ∀ q ∈ cd_X6_way, m_OK GP m_my (cX6_way, 2, RX6, false, (some .int), []) q.1 q.2 :=
  m_cn (pc := 0) (ok_iload_n (m_dk dk_X6_way 0 rfl) rfl rfl) <|
  m_cn (pc := 1) (ok_aload_n (m_dk dk_X6_way 1 rfl) rfl rfl) <|
  m_cn (pc := 2) (ok_getf (k := 0) (hc0 := (rfl : vwCl[7]? = some (RX6, TX6, 15))) (by decide) in_X6 wd_134 (m_dk dk_X6_way 2 rfl) rfl) <|
  m_cn (pc := 5) (ok_getf (k := 8) (hc0 := (rfl : vwCl[4]? = some (RX3, TX3, 16))) (by decide) in_X3 wd_60 (m_dk dk_X6_way 3 rfl) rfl) <|
  m_cn (pc := 8) (ok_callx (T := mt_X6_checkNumber) my_X6_checkNumber rfl cw_X6_checkNumber rfl rfl (by decide) wd_473 wd_474 wd_1 (by decide +kernel) (m_dk dk_X6_way 4 rfl) rfl) <|
  m_cn (pc := 11) (ok_aload_n (m_dk dk_X6_way 5 rfl) rfl rfl) <|
  m_cn (pc := 12) (ok_getf (k := 0) (hc0 := (rfl : vwCl[7]? = some (RX6, TX6, 15))) (by decide) in_X6 wd_134 (m_dk dk_X6_way 6 rfl) rfl) <|
  m_cn (pc := 15) (ok_getf (k := 4) (hc0 := (rfl : vwCl[4]? = some (RX3, TX3, 16))) (by decide) in_X3 wd_52 (m_dk dk_X6_way 7 rfl) rfl) <|
  m_cn (pc := 18) (ok_iload_n (m_dk dk_X6_way 8 rfl) rfl rfl) <|
  m_cn (pc := 19) (ok_iald (m_dk dk_X6_way 9 rfl) rfl) <|
  m_cn (pc := 20) (ok_ireturn (nx := 0) rfl (m_dk dk_X6_way 10 rfl)) <|
  m_nl
theorem mk_X6_way {GP : m_G → Prop} {cds : Nat → Nat → m_Op} (h : cds 34 = m_lk cd_X6_way) : m_MOK GP m_my cds 34 := ⟨RX6, false, [], by decide +kernel, rfl, (fun h9 => by first | rfl | cases h9), Or.inl ⟨rfl, rfl⟩, fun pc => by rw [h]; exact m_lk_ok _ ok_X6_way pc⟩
def dl_X6_lent : List (Nat × Instr × Nat) := [(0, .iload_n 1, 1), (1, .aload_n 0, 1), (2, .getfield 12, 3), (5, .getfield 90, 3), (8, .invokestatic 100, 3), (11, .aload_n 0, 1), (12, .getfield 12, 3), (15, .getfield 179, 3), (18, .iload_n 1, 1), (19, .iaload, 1), (20, .ireturn, 1)]
theorem dk_X6_lent : ∀ q ∈ dl_X6_lent, decode cX6_lent q.1 = .ok q.2 := by decide +kernel
def cd_X6_lent : List (Nat × m_Op) := [(0, o_iload 1 1), (1, o_aload 0 2), (2, o_getf 7 0 5), (5, o_getf 4 8 8), (8, o_callx 56 2 1 6 11), (11, o_aload 0 12), (12, o_getf 7 0 15), (15, o_getf 4 5 18), (18, o_iload 1 19), (19, o_iald 0 20), (20, o_ireturn)]
set_option maxRecDepth 20000 in
set_option maxHeartbeats 4000000 in
theorem ok_X6_lent {GP : m_G → Prop} : ∀ q ∈ cd_X6_lent, m_OK GP m_my (cX6_lent, 2, RX6, false, (some .int), []) q.1 q.2 :=
  m_cn (pc := 0) (ok_iload_n (m_dk dk_X6_lent 0 rfl) rfl rfl) <|
  m_cn (pc := 1) (ok_aload_n (m_dk dk_X6_lent 1 rfl) rfl rfl) <|
  m_cn (pc := 2) (ok_getf (k := 0) (hc0 := (rfl : vwCl[7]? = some (RX6, TX6, 15))) (by decide) in_X6 wd_134 (m_dk dk_X6_lent 2 rfl) rfl) <|
  m_cn (pc := 5) (ok_getf (k := 8) (hc0 := (rfl : vwCl[4]? = some (RX3, TX3, 16))) (by decide) in_X3 wd_60 (m_dk dk_X6_lent 3 rfl) rfl) <|
  m_cn (pc := 8) (ok_callx (T := mt_X6_checkNumber) my_X6_checkNumber rfl cw_X6_checkNumber rfl rfl (by decide) wd_473 wd_474 wd_1 (by decide +kernel) (m_dk dk_X6_lent 4 rfl) rfl) <|
  m_cn (pc := 11) (ok_aload_n (m_dk dk_X6_lent 5 rfl) rfl rfl) <|
  m_cn (pc := 12) (ok_getf (k := 0) (hc0 := (rfl : vwCl[7]? = some (RX6, TX6, 15))) (by decide) in_X6 wd_134 (m_dk dk_X6_lent 6 rfl) rfl) <|
  m_cn (pc := 15) (ok_getf (k := 5) (hc0 := (rfl : vwCl[4]? = some (RX3, TX3, 16))) (by decide) in_X3 wd_54 (m_dk dk_X6_lent 7 rfl) rfl) <|
  m_cn (pc := 18) (ok_iload_n (m_dk dk_X6_lent 8 rfl) rfl rfl) <|
  m_cn (pc := 19) (ok_iald (m_dk dk_X6_lent 9 rfl) rfl) <|
  m_cn (pc := 20) (ok_ireturn (nx := 0) rfl (m_dk dk_X6_lent 10 rfl)) <|
  m_nl
theorem mk_X6_lent {GP : m_G → Prop} {cds : Nat → Nat → m_Op} (h : cds 35 = m_lk cd_X6_lent) : m_MOK GP m_my cds 35 := ⟨RX6, false, [], by decide +kernel, rfl, (fun h9 => by first | rfl | cases h9), Or.inl ⟨rfl, rfl⟩, fun pc => by rw [h]; exact m_lk_ok _ ok_X6_lent pc⟩
def dl_X6_owes : List (Nat × Instr × Nat) := [(0, .iload_n 1, 1), (1, .invokestatic 61, 3), (4, .iload_n 2, 1), (5, .invokestatic 61, 3), (8, .aload_n 0, 1), (9, .getfield 40, 3), (12, .iload_n 1, 1), (13, .aaload, 1), (14, .iload_n 2, 1), (15, .iaload, 1), (16, .ireturn, 1)]
theorem dk_X6_owes : ∀ q ∈ dl_X6_owes, decode cX6_owes q.1 = .ok q.2 := by decide +kernel
def cd_X6_owes : List (Nat × m_Op) := [(0, o_iload 1 1), (1, o_callx 55 1 1 6 4), (4, o_iload 2 5), (5, o_callx 55 1 1 6 8), (8, o_aload 0 9), (9, o_getf 7 5 12), (12, o_iload 1 13), (13, o_aald 3 14), (14, o_iload 2 15), (15, o_iald 0 16), (16, o_ireturn)]
set_option maxRecDepth 20000 in
set_option maxHeartbeats 4000000 in
theorem ok_X6_owes {GP : m_G → Prop} : ∀ q ∈ cd_X6_owes, m_OK GP m_my (cX6_owes, 3, RX6, false, (some .int), []) q.1 q.2 :=
  m_cn (pc := 0) (ok_iload_n (m_dk dk_X6_owes 0 rfl) rfl rfl) <|
  m_cn (pc := 1) (ok_callx (T := mt_X6_checkMember) my_X6_checkMember rfl cw_X6_checkMember rfl rfl (by decide) wd_410 wd_411 wd_1 (by decide +kernel) (m_dk dk_X6_owes 1 rfl) rfl) <|
  m_cn (pc := 4) (ok_iload_n (m_dk dk_X6_owes 2 rfl) rfl rfl) <|
  m_cn (pc := 5) (ok_callx (T := mt_X6_checkMember) my_X6_checkMember rfl cw_X6_checkMember rfl rfl (by decide) wd_410 wd_411 wd_1 (by decide +kernel) (m_dk dk_X6_owes 3 rfl) rfl) <|
  m_cn (pc := 8) (ok_aload_n (m_dk dk_X6_owes 4 rfl) rfl rfl) <|
  m_cn (pc := 9) (ok_getf (k := 5) (hc0 := (rfl : vwCl[7]? = some (RX6, TX6, 15))) (by decide) in_X6 wd_139 (m_dk dk_X6_owes 5 rfl) rfl) <|
  m_cn (pc := 12) (ok_iload_n (m_dk dk_X6_owes 6 rfl) rfl rfl) <|
  m_cn (pc := 13) (ok_aaldI (m_dk dk_X6_owes 7 rfl) rfl) <|
  m_cn (pc := 14) (ok_iload_n (m_dk dk_X6_owes 8 rfl) rfl rfl) <|
  m_cn (pc := 15) (ok_iald (m_dk dk_X6_owes 9 rfl) rfl) <|
  m_cn (pc := 16) (ok_ireturn (nx := 0) rfl (m_dk dk_X6_owes 10 rfl)) <|
  m_nl
theorem mk_X6_owes {GP : m_G → Prop} {cds : Nat → Nat → m_Op} (h : cds 36 = m_lk cd_X6_owes) : m_MOK GP m_my cds 36 := ⟨RX6, false, [], by decide +kernel, rfl, (fun h9 => by first | rfl | cases h9), Or.inl ⟨rfl, rfl⟩, fun pc => by rw [h]; exact m_lk_ok _ ok_X6_owes pc⟩
def dl_X6_owesAnew : List (Nat × Instr × Nat) := [(0, .iload_n 1, 1), (1, .invokestatic 61, 3), (4, .iload_n 2, 1), (5, .invokestatic 61, 3), (8, .aload_n 0, 1), (9, .getfield 16, 3), (12, .invokevirtual 182, 3), (15, .iconst 0, 1), (16, .istore_n 3, 1), (17, .iconst 0, 1), (18, .istore 4, 2), (20, .iconst 0, 1), (21, .istore 5, 2), (23, .iload 5, 2), (25, .aload_n 0, 1), (26, .getfield 80, 3), (29, .if_icmp .ge 46, 3), (32, .aload_n 0, 1), (33, .iload 5, 2), (35, .invokevirtual 185, 3), (38, .aload_n 0, 1), (39, .iload 5, 2), (41, .iload 4, 2), (43, .invokevirtual 188, 3), (46, .istore 4, 2), (48, .aload_n 0, 1), (49, .getfield 16, 3), (52, .invokevirtual 192, 3), (55, .iload_n 3, 1), (56, .aload_n 0, 1), (57, .getfield 16, 3), (60, .getfield 195, 3), (63, .iload_n 1, 1), (64, .aaload, 1), (65, .iload_n 2, 1), (66, .iaload, 1), (67, .iadd, 1), (68, .istore_n 3, 1), (69, .iinc 5 1, 3), (72, .goto (-49), 3), (75, .iload_n 3, 1), (76, .ireturn, 1)]
theorem dk_X6_owesAnew : ∀ q ∈ dl_X6_owesAnew, decode cX6_owesAnew q.1 = .ok q.2 := by decide +kernel
def cd_X6_owesAnew : List (Nat × m_Op) := [(0, o_iload 1 1), (1, o_callx 55 1 1 6 4), (4, o_iload 2 5), (5, o_callx 55 1 1 6 8), (8, o_aload 0 9), (9, o_getf 7 1 12), (12, o_callv 4 5 1 0 0 15), (15, o_const (0) 16), (16, o_istore 3 17), (17, o_const (0) 18), (18, o_istore 4 20), (20, o_const (0) 21), (21, o_istore 5 23), (23, o_iload 5 25), (25, o_aload 0 26), (26, o_getf 7 12 29), (29, o_icmpge 75 32), (32, o_aload 0 33), (33, o_iload 5 35), (35, o_callv 7 52 2 0 0 38), (38, o_aload 0 39), (39, o_iload 5 41), (41, o_iload 4 43), (43, o_callv 7 53 3 0 0 46), (46, o_istore 4 48), (48, o_aload 0 49), (49, o_getf 7 1 52), (52, o_callv 4 11 1 0 0 55), (55, o_iload 3 56), (56, o_aload 0 57), (57, o_getf 7 1 60), (60, o_getf 4 6 63), (63, o_iload 1 64), (64, o_aald 3 65), (65, o_iload 2 66), (66, o_iald 0 67), (67, o_bin (fun x y => x + y) 68), (68, o_istore 3 69), (69, o_iinc 5 (1) 72), (72, o_goto 23), (75, o_iload 3 76), (76, o_ireturn)]
set_option maxRecDepth 20000 in
set_option maxHeartbeats 4000000 in
theorem ok_X6_owesAnew {GP : m_G → Prop} : ∀ q ∈ cd_X6_owesAnew, m_OK GP m_my (cX6_owesAnew, 6, RX6, false, (some .int), []) q.1 q.2 :=
  m_cn (pc := 0) (ok_iload_n (m_dk dk_X6_owesAnew 0 rfl) rfl rfl) <|
  m_cn (pc := 1) (ok_callx (T := mt_X6_checkMember) my_X6_checkMember rfl cw_X6_checkMember rfl rfl (by decide) wd_410 wd_411 wd_1 (by decide +kernel) (m_dk dk_X6_owesAnew 1 rfl) rfl) <|
  m_cn (pc := 4) (ok_iload_n (m_dk dk_X6_owesAnew 2 rfl) rfl rfl) <|
  m_cn (pc := 5) (ok_callx (T := mt_X6_checkMember) my_X6_checkMember rfl cw_X6_checkMember rfl rfl (by decide) wd_410 wd_411 wd_1 (by decide +kernel) (m_dk dk_X6_owesAnew 3 rfl) rfl) <|
  m_cn (pc := 8) (ok_aload_n (m_dk dk_X6_owesAnew 4 rfl) rfl rfl) <|
  m_cn (pc := 9) (ok_getf (k := 1) (hc0 := (rfl : vwCl[7]? = some (RX6, TX6, 15))) (by decide) in_X6 wd_135 (m_dk dk_X6_owesAnew 5 rfl) rfl) <|
  m_cn (pc := 12) (ok_callv (T := mt_X3_clear) my_X3_clear rfl cw_X3_clear rfl rfl (by decide) (r9 := (RX3, TX3, 16)) rfl rfl wd_779 wd_780 wd_781 wd_2 (by decide +kernel) (m_dk dk_X6_owesAnew 6 rfl) rfl) <|
  m_cn (pc := 15) (ok_iconst (m_dk dk_X6_owesAnew 7 rfl) (by decide) rfl) <|
  m_cn (pc := 16) (ok_istore_n (m_dk dk_X6_owesAnew 8 rfl) rfl rfl (by decide)) <|
  m_cn (pc := 17) (ok_iconst (m_dk dk_X6_owesAnew 9 rfl) (by decide) rfl) <|
  m_cn (pc := 18) (ok_istore (m_dk dk_X6_owesAnew 10 rfl) rfl (by decide)) <|
  m_cn (pc := 20) (ok_iconst (m_dk dk_X6_owesAnew 11 rfl) (by decide) rfl) <|
  m_cn (pc := 21) (ok_istore (m_dk dk_X6_owesAnew 12 rfl) rfl (by decide)) <|
  m_cn (pc := 23) (ok_iload (m_dk dk_X6_owesAnew 13 rfl) rfl) <|
  m_cn (pc := 25) (ok_aload_n (m_dk dk_X6_owesAnew 14 rfl) rfl rfl) <|
  m_cn (pc := 26) (ok_getf (k := 12) (hc0 := (rfl : vwCl[7]? = some (RX6, TX6, 15))) (by decide) in_X6 wd_146 (m_dk dk_X6_owesAnew 15 rfl) rfl) <|
  m_cn (pc := 29) (ok_icmpge (m_dk dk_X6_owesAnew 16 rfl) rfl rfl) <|
  m_cn (pc := 32) (ok_aload_n (m_dk dk_X6_owesAnew 17 rfl) rfl rfl) <|
  m_cn (pc := 33) (ok_iload (m_dk dk_X6_owesAnew 18 rfl) rfl) <|
  m_cn (pc := 35) (ok_callv (T := mt_X6_retellNet) my_X6_retellNet rfl cw_X6_retellNet rfl rfl (by decide) (r9 := (RX6, TX6, 15)) rfl rfl wd_783 wd_785 (m_wk 19 (by decide +kernel) (by decide +kernel)) wd_1 (by decide +kernel) (m_dk dk_X6_owesAnew 19 rfl) rfl) <|
  m_cn (pc := 38) (ok_aload_n (m_dk dk_X6_owesAnew 20 rfl) rfl rfl) <|
  m_cn (pc := 39) (ok_iload (m_dk dk_X6_owesAnew 21 rfl) rfl) <|
  m_cn (pc := 41) (ok_iload (m_dk dk_X6_owesAnew 22 rfl) rfl) <|
  m_cn (pc := 43) (ok_callv (T := mt_X6_retellSales) my_X6_retellSales rfl cw_X6_retellSales rfl rfl (by decide) (r9 := (RX6, TX6, 15)) rfl rfl wd_787 wd_789 (m_wk 20 (by decide +kernel) (by decide +kernel)) wd_1 (by decide +kernel) (m_dk dk_X6_owesAnew 23 rfl) rfl) <|
  m_cn (pc := 46) (ok_istore (m_dk dk_X6_owesAnew 24 rfl) rfl (by decide)) <|
  m_cn (pc := 48) (ok_aload_n (m_dk dk_X6_owesAnew 25 rfl) rfl rfl) <|
  m_cn (pc := 49) (ok_getf (k := 1) (hc0 := (rfl : vwCl[7]? = some (RX6, TX6, 15))) (by decide) in_X6 wd_135 (m_dk dk_X6_owesAnew 26 rfl) rfl) <|
  m_cn (pc := 52) (ok_callv (T := mt_X3_lead) my_X3_lead rfl cw_X3_lead rfl rfl (by decide) (r9 := (RX3, TX3, 16)) rfl rfl wd_289 wd_290 wd_291 wd_2 (by decide +kernel) (m_dk dk_X6_owesAnew 27 rfl) rfl) <|
  m_cn (pc := 55) (ok_iload_n (m_dk dk_X6_owesAnew 28 rfl) rfl rfl) <|
  m_cn (pc := 56) (ok_aload_n (m_dk dk_X6_owesAnew 29 rfl) rfl rfl) <|
  m_cn (pc := 57) (ok_getf (k := 1) (hc0 := (rfl : vwCl[7]? = some (RX6, TX6, 15))) (by decide) in_X6 wd_135 (m_dk dk_X6_owesAnew 30 rfl) rfl) <|
  m_cn (pc := 60) (ok_getf (k := 6) (hc0 := (rfl : vwCl[4]? = some (RX3, TX3, 16))) (by decide) in_X3 wd_56 (m_dk dk_X6_owesAnew 31 rfl) rfl) <|
  m_cn (pc := 63) (ok_iload_n (m_dk dk_X6_owesAnew 32 rfl) rfl rfl) <|
  m_cn (pc := 64) (ok_aaldI (m_dk dk_X6_owesAnew 33 rfl) rfl) <|
  m_cn (pc := 65) (ok_iload_n (m_dk dk_X6_owesAnew 34 rfl) rfl rfl) <|
  m_cn (pc := 66) (ok_iald (m_dk dk_X6_owesAnew 35 rfl) rfl) <|
  m_cn (pc := 67) (ok_iadd (m_dk dk_X6_owesAnew 36 rfl) rfl) <|
  m_cn (pc := 68) (ok_istore_n (m_dk dk_X6_owesAnew 37 rfl) rfl rfl (by decide)) <|
  m_cn (pc := 69) (ok_iinc (m_dk dk_X6_owesAnew 38 rfl) (by decide) rfl (by decide)) <|
  m_cn (pc := 72) (ok_goto (nx := 0) (m_dk dk_X6_owesAnew 39 rfl) rfl) <|
  m_cn (pc := 75) (ok_iload_n (m_dk dk_X6_owesAnew 40 rfl) rfl rfl) <|
  m_cn (pc := 76) (ok_ireturn (nx := 0) rfl (m_dk dk_X6_owesAnew 41 rfl)) <|
  m_nl
theorem mk_X6_owesAnew {GP : m_G → Prop} {cds : Nat → Nat → m_Op} (h : cds 37 = m_lk cd_X6_owesAnew) : m_MOK GP m_my cds 37 := ⟨RX6, false, [], by decide +kernel, rfl, (fun h9 => by first | rfl | cases h9), Or.inl ⟨rfl, rfl⟩, fun pc => by rw [h]; exact m_lk_ok _ ok_X6_owesAnew pc⟩
def dl_X6_account : List (Nat × Instr × Nat) := [(0, .iload_n 1, 1), (1, .iconst (-1), 1), (2, .if_icmp .ne 8, 3), (5, .aload_n 0, 1), (6, .getfield 198, 3), (9, .ireturn, 1), (10, .iload_n 1, 1), (11, .invokestatic 61, 3), (14, .aload_n 0, 1), (15, .getfield 46, 3), (18, .iload_n 1, 1), (19, .iaload, 1), (20, .ireturn, 1)]
theorem dk_X6_account : ∀ q ∈ dl_X6_account, decode cX6_account q.1 = .ok q.2 := by decide +kernel
def cd_X6_account : List (Nat × m_Op) := [(0, o_iload 1 1), (1, o_const (-1) 2), (2, o_icmpne 10 5), (5, o_aload 0 6), (6, o_getf 7 8 9), (9, o_ireturn), (10, o_iload 1 11), (11, o_callx 55 1 1 6 14), (14, o_aload 0 15), (15, o_getf 7 7 18), (18, o_iload 1 19), (19, o_iald 0 20), (20, o_ireturn)]
set_option maxRecDepth 20000 in
set_option maxHeartbeats 4000000 in
theorem ok_X6_account {GP : m_G → Prop} : ∀ q ∈ cd_X6_account, m_OK GP m_my (cX6_account, 2, RX6, false, (some .int), []) q.1 q.2 :=
  m_cn (pc := 0) (ok_iload_n (m_dk dk_X6_account 0 rfl) rfl rfl) <|
  m_cn (pc := 1) (ok_iconst (m_dk dk_X6_account 1 rfl) (by decide) rfl) <|
  m_cn (pc := 2) (ok_icmpne (m_dk dk_X6_account 2 rfl) rfl rfl) <|
  m_cn (pc := 5) (ok_aload_n (m_dk dk_X6_account 3 rfl) rfl rfl) <|
  m_cn (pc := 6) (ok_getf (k := 8) (hc0 := (rfl : vwCl[7]? = some (RX6, TX6, 15))) (by decide) in_X6 wd_142 (m_dk dk_X6_account 4 rfl) rfl) <|
  m_cn (pc := 9) (ok_ireturn (nx := 0) rfl (m_dk dk_X6_account 5 rfl)) <|
  m_cn (pc := 10) (ok_iload_n (m_dk dk_X6_account 6 rfl) rfl rfl) <|
  m_cn (pc := 11) (ok_callx (T := mt_X6_checkMember) my_X6_checkMember rfl cw_X6_checkMember rfl rfl (by decide) wd_410 wd_411 wd_1 (by decide +kernel) (m_dk dk_X6_account 7 rfl) rfl) <|
  m_cn (pc := 14) (ok_aload_n (m_dk dk_X6_account 8 rfl) rfl rfl) <|
  m_cn (pc := 15) (ok_getf (k := 7) (hc0 := (rfl : vwCl[7]? = some (RX6, TX6, 15))) (by decide) in_X6 wd_141 (m_dk dk_X6_account 9 rfl) rfl) <|
  m_cn (pc := 18) (ok_iload_n (m_dk dk_X6_account 10 rfl) rfl rfl) <|
  m_cn (pc := 19) (ok_iald (m_dk dk_X6_account 11 rfl) rfl) <|
  m_cn (pc := 20) (ok_ireturn (nx := 0) rfl (m_dk dk_X6_account 12 rfl)) <|
  m_nl
theorem mk_X6_account {GP : m_G → Prop} {cds : Nat → Nat → m_Op} (h : cds 38 = m_lk cd_X6_account) : m_MOK GP m_my cds 38 := ⟨RX6, false, [], by decide +kernel, rfl, (fun h9 => by first | rfl | cases h9), Or.inl ⟨rfl, rfl⟩, fun pc => by rw [h]; exact m_lk_ok _ ok_X6_account pc⟩
def dl_X6_spent : List (Nat × Instr × Nat) := [(0, .aload_n 0, 1), (1, .getfield 201, 3), (4, .ireturn, 1)]
theorem dk_X6_spent : ∀ q ∈ dl_X6_spent, decode cX6_spent q.1 = .ok q.2 := by decide +kernel
def cd_X6_spent : List (Nat × m_Op) := [(0, o_aload 0 1), (1, o_getf 7 9 4), (4, o_ireturn)]
set_option maxRecDepth 20000 in
set_option maxHeartbeats 4000000 in
theorem ok_X6_spent {GP : m_G → Prop} : ∀ q ∈ cd_X6_spent, m_OK GP m_my (cX6_spent, 1, RX6, false, (some .int), []) q.1 q.2 :=
  m_cn (pc := 0) (ok_aload_n (m_dk dk_X6_spent 0 rfl) rfl rfl) <|
  m_cn (pc := 1) (ok_getf (k := 9) (hc0 := (rfl : vwCl[7]? = some (RX6, TX6, 15))) (by decide) in_X6 wd_143 (m_dk dk_X6_spent 1 rfl) rfl) <|
  m_cn (pc := 4) (ok_ireturn (nx := 0) rfl (m_dk dk_X6_spent 2 rfl)) <|
  m_nl
theorem mk_X6_spent {GP : m_G → Prop} {cds : Nat → Nat → m_Op} (h : cds 39 = m_lk cd_X6_spent) : m_MOK GP m_my cds 39 := ⟨RX6, false, [], by decide +kernel, rfl, (fun h9 => by first | rfl | cases h9), Or.inl ⟨rfl, rfl⟩, fun pc => by rw [h]; exact m_lk_ok _ ok_X6_spent pc⟩
def dl_X6_sold : List (Nat × Instr × Nat) := [(0, .iload_n 1, 1), (1, .invokestatic 61, 3), (4, .iload_n 2, 1), (5, .invokestatic 61, 3), (8, .aload_n 0, 1), (9, .getfield 43, 3), (12, .iload_n 1, 1), (13, .aaload, 1), (14, .iload_n 2, 1), (15, .iaload, 1), (16, .ireturn, 1)]
theorem dk_X6_sold : ∀ q ∈ dl_X6_sold, decode cX6_sold q.1 = .ok q.2 := by decide +kernel
def cd_X6_sold : List (Nat × m_Op) := [(0, o_iload 1 1), (1, o_callx 55 1 1 6 4), (4, o_iload 2 5), (5, o_callx 55 1 1 6 8), (8, o_aload 0 9), (9, o_getf 7 6 12), (12, o_iload 1 13), (13, o_aald 3 14), (14, o_iload 2 15), (15, o_iald 0 16), (16, o_ireturn)]
set_option maxRecDepth 20000 in
set_option maxHeartbeats 4000000 in
theorem ok_X6_sold {GP : m_G → Prop} : ∀ q ∈ cd_X6_sold, m_OK GP m_my (cX6_sold, 3, RX6, false, (some .int), []) q.1 q.2 :=
  m_cn (pc := 0) (ok_iload_n (m_dk dk_X6_sold 0 rfl) rfl rfl) <|
  m_cn (pc := 1) (ok_callx (T := mt_X6_checkMember) my_X6_checkMember rfl cw_X6_checkMember rfl rfl (by decide) wd_410 wd_411 wd_1 (by decide +kernel) (m_dk dk_X6_sold 1 rfl) rfl) <|
  m_cn (pc := 4) (ok_iload_n (m_dk dk_X6_sold 2 rfl) rfl rfl) <|
  m_cn (pc := 5) (ok_callx (T := mt_X6_checkMember) my_X6_checkMember rfl cw_X6_checkMember rfl rfl (by decide) wd_410 wd_411 wd_1 (by decide +kernel) (m_dk dk_X6_sold 3 rfl) rfl) <|
  m_cn (pc := 8) (ok_aload_n (m_dk dk_X6_sold 4 rfl) rfl rfl) <|
  m_cn (pc := 9) (ok_getf (k := 6) (hc0 := (rfl : vwCl[7]? = some (RX6, TX6, 15))) (by decide) in_X6 wd_140 (m_dk dk_X6_sold 5 rfl) rfl) <|
  m_cn (pc := 12) (ok_iload_n (m_dk dk_X6_sold 6 rfl) rfl rfl) <|
  m_cn (pc := 13) (ok_aaldI (m_dk dk_X6_sold 7 rfl) rfl) <|
  m_cn (pc := 14) (ok_iload_n (m_dk dk_X6_sold 8 rfl) rfl rfl) <|
  m_cn (pc := 15) (ok_iald (m_dk dk_X6_sold 9 rfl) rfl) <|
  m_cn (pc := 16) (ok_ireturn (nx := 0) rfl (m_dk dk_X6_sold 10 rfl)) <|
  m_nl
theorem mk_X6_sold {GP : m_G → Prop} {cds : Nat → Nat → m_Op} (h : cds 40 = m_lk cd_X6_sold) : m_MOK GP m_my cds 40 := ⟨RX6, false, [], by decide +kernel, rfl, (fun h9 => by first | rfl | cases h9), Or.inl ⟨rfl, rfl⟩, fun pc => by rw [h]; exact m_lk_ok _ ok_X6_sold pc⟩
def dl_X6_place : List (Nat × Instr × Nat) := [(0, .iload_n 1, 1), (1, .aload_n 0, 1), (2, .getfield 153, 3), (5, .invokestatic 100, 3), (8, .aload_n 0, 1), (9, .getfield 27, 3), (12, .iload_n 1, 1), (13, .aaload, 1), (14, .getfield 163, 3), (17, .ireturn, 1)]
theorem dk_X6_place : ∀ q ∈ dl_X6_place, decode cX6_place q.1 = .ok q.2 := by decide +kernel
def cd_X6_place : List (Nat × m_Op) := [(0, o_iload 1 1), (1, o_aload 0 2), (2, o_getf 7 11 5), (5, o_callx 56 2 1 6 8), (8, o_aload 0 9), (9, o_getf 7 3 12), (12, o_iload 1 13), (13, o_aald 7 14), (14, o_getf 6 1 17), (17, o_ireturn)]
set_option maxRecDepth 20000 in
set_option maxHeartbeats 4000000 in
theorem ok_X6_place {GP : m_G → Prop} : ∀ q ∈ cd_X6_place, m_OK GP m_my (cX6_place, 2, RX6, false, (some .int), []) q.1 q.2 :=
  m_cn (pc := 0) (ok_iload_n (m_dk dk_X6_place 0 rfl) rfl rfl) <|
  m_cn (pc := 1) (ok_aload_n (m_dk dk_X6_place 1 rfl) rfl rfl) <|
  m_cn (pc := 2) (ok_getf (k := 11) (hc0 := (rfl : vwCl[7]? = some (RX6, TX6, 15))) (by decide) in_X6 wd_145 (m_dk dk_X6_place 2 rfl) rfl) <|
  m_cn (pc := 5) (ok_callx (T := mt_X6_checkNumber) my_X6_checkNumber rfl cw_X6_checkNumber rfl rfl (by decide) wd_473 wd_474 wd_1 (by decide +kernel) (m_dk dk_X6_place 3 rfl) rfl) <|
  m_cn (pc := 8) (ok_aload_n (m_dk dk_X6_place 4 rfl) rfl rfl) <|
  m_cn (pc := 9) (ok_getf (k := 3) (hc0 := (rfl : vwCl[7]? = some (RX6, TX6, 15))) (by decide) in_X6 wd_137 (m_dk dk_X6_place 5 rfl) rfl) <|
  m_cn (pc := 12) (ok_iload_n (m_dk dk_X6_place 6 rfl) rfl rfl) <|
  m_cn (pc := 13) (ok_aald (C := "Cablecourt$Ship") (fun _ => rfl) (m_dk dk_X6_place 7 rfl) rfl) <|
  m_cn (pc := 14) (ok_getf (k := 1) (hc0 := (rfl : vwCl[6]? = some (RX5, TX5, 4))) (by decide) in_X5 wd_552 (m_dk dk_X6_place 8 rfl) rfl) <|
  m_cn (pc := 17) (ok_ireturn (nx := 0) rfl (m_dk dk_X6_place 9 rfl)) <|
  m_nl
theorem mk_X6_place {GP : m_G → Prop} {cds : Nat → Nat → m_Op} (h : cds 41 = m_lk cd_X6_place) : m_MOK GP m_my cds 41 := ⟨RX6, false, [], by decide +kernel, rfl, (fun h9 => by first | rfl | cases h9), Or.inl ⟨rfl, rfl⟩, fun pc => by rw [h]; exact m_lk_ok _ ok_X6_place pc⟩
def dl_X6_worked : List (Nat × Instr × Nat) := [(0, .iload_n 1, 1), (1, .aload_n 0, 1), (2, .getfield 142, 3), (5, .invokestatic 100, 3), (8, .aload_n 0, 1), (9, .getfield 21, 3), (12, .iload_n 1, 1), (13, .aaload, 1), (14, .getfield 204, 3), (17, .ireturn, 1)]
theorem dk_X6_worked : ∀ q ∈ dl_X6_worked, decode cX6_worked q.1 = .ok q.2 := by decide +kernel
def cd_X6_worked : List (Nat × m_Op) := [(0, o_iload 1 1), (1, o_aload 0 2), (2, o_getf 7 10 5), (5, o_callx 56 2 1 6 8), (8, o_aload 0 9), (9, o_getf 7 2 12), (12, o_iload 1 13), (13, o_aald 6 14), (14, o_getf 2 3 17), (17, o_ireturn)]
set_option maxRecDepth 20000 in
set_option maxHeartbeats 4000000 in
theorem ok_X6_worked {GP : m_G → Prop} : ∀ q ∈ cd_X6_worked, m_OK GP m_my (cX6_worked, 2, RX6, false, (some .int), []) q.1 q.2 :=
  m_cn (pc := 0) (ok_iload_n (m_dk dk_X6_worked 0 rfl) rfl rfl) <|
  m_cn (pc := 1) (ok_aload_n (m_dk dk_X6_worked 1 rfl) rfl rfl) <|
  m_cn (pc := 2) (ok_getf (k := 10) (hc0 := (rfl : vwCl[7]? = some (RX6, TX6, 15))) (by decide) in_X6 wd_144 (m_dk dk_X6_worked 2 rfl) rfl) <|
  m_cn (pc := 5) (ok_callx (T := mt_X6_checkNumber) my_X6_checkNumber rfl cw_X6_checkNumber rfl rfl (by decide) wd_473 wd_474 wd_1 (by decide +kernel) (m_dk dk_X6_worked 3 rfl) rfl) <|
  m_cn (pc := 8) (ok_aload_n (m_dk dk_X6_worked 4 rfl) rfl rfl) <|
  m_cn (pc := 9) (ok_getf (k := 2) (hc0 := (rfl : vwCl[7]? = some (RX6, TX6, 15))) (by decide) in_X6 wd_136 (m_dk dk_X6_worked 5 rfl) rfl) <|
  m_cn (pc := 12) (ok_iload_n (m_dk dk_X6_worked 6 rfl) rfl rfl) <|
  m_cn (pc := 13) (ok_aald (C := "Cablecourt$Cut") (fun _ => rfl) (m_dk dk_X6_worked 7 rfl) rfl) <|
  m_cn (pc := 14) (ok_getf (k := 3) (hc0 := (rfl : vwCl[2]? = some (RX1, TX1, 5))) (by decide) in_X1 wd_698 (m_dk dk_X6_worked 8 rfl) rfl) <|
  m_cn (pc := 17) (ok_ireturn (nx := 0) rfl (m_dk dk_X6_worked 9 rfl)) <|
  m_nl
theorem mk_X6_worked {GP : m_G → Prop} {cds : Nat → Nat → m_Op} (h : cds 42 = m_lk cd_X6_worked) : m_MOK GP m_my cds 42 := ⟨RX6, false, [], by decide +kernel, rfl, (fun h9 => by first | rfl | cases h9), Or.inl ⟨rfl, rfl⟩, fun pc => by rw [h]; exact m_lk_ok _ ok_X6_worked pc⟩
def dl_X6_seal : List (Nat × Instr × Nat) := [(0, .iconst 0, 1), (1, .istore_n 1, 1), (2, .iconst 0, 1), (3, .istore_n 2, 1), (4, .iload_n 2, 1), (5, .bipush 6, 2), (7, .if_icmp .ge 49, 3), (10, .iconst 0, 1), (11, .istore_n 3, 1), (12, .iload_n 3, 1), (13, .bipush 6, 2), (15, .if_icmp .ge 35, 3), (18, .iload_n 2, 1), (19, .iload_n 3, 1), (20, .if_icmp .eq 24, 3), (23, .iload_n 1, 1), (24, .iconst 3, 1), (25, .ishl, 1), (26, .iload_n 1, 1), (27, .bipush 29, 2), (29, .iushr, 1), (30, .ixor, 1), (31, .aload_n 0, 1), (32, .getfield 40, 3), (35, .iload_n 2, 1), (36, .aaload, 1), (37, .iload_n 3, 1), (38, .iaload, 1), (39, .bipush 31, 2), (41, .imul, 1), (42, .iadd, 1), (43, .istore_n 1, 1), (44, .iinc 3 1, 3), (47, .goto (-35), 3), (50, .iinc 2 1, 3), (53, .goto (-49), 3), (56, .iload_n 1, 1), (57, .ireturn, 1)]
theorem dk_X6_seal : ∀ q ∈ dl_X6_seal, decode cX6_seal q.1 = .ok q.2 := by decide +kernel
def cd_X6_seal : List (Nat × m_Op) := [(0, o_const (0) 1), (1, o_istore 1 2), (2, o_const (0) 3), (3, o_istore 2 4), (4, o_iload 2 5), (5, o_const (6) 7), (7, o_icmpge 56 10), (10, o_const (0) 11), (11, o_istore 3 12), (12, o_iload 3 13), (13, o_const (6) 15), (15, o_icmpge 50 18), (18, o_iload 2 19), (19, o_iload 3 20), (20, o_icmpeq 44 23), (23, o_iload 1 24), (24, o_const (3) 25), (25, o_bin (fun x y => x <<< (y &&& 31)) 26), (26, o_iload 1 27), (27, o_const (29) 29), (29, o_bin (fun x y => (x.toUInt32 >>> (y.toUInt32 &&& Int32.toUInt32 31)).toInt32) 30), (30, o_bin (fun x y => x ^^^ y) 31), (31, o_aload 0 32), (32, o_getf 7 5 35), (35, o_iload 2 36), (36, o_aald 3 37), (37, o_iload 3 38), (38, o_iald 0 39), (39, o_const (31) 41), (41, o_bin (fun x y => x * y) 42), (42, o_bin (fun x y => x + y) 43), (43, o_istore 1 44), (44, o_iinc 3 (1) 47), (47, o_goto 12), (50, o_iinc 2 (1) 53), (53, o_goto 4), (56, o_iload 1 57), (57, o_ireturn)]
set_option maxRecDepth 20000 in
set_option maxHeartbeats 4000000 in
theorem ok_X6_seal {GP : m_G → Prop} : ∀ q ∈ cd_X6_seal, m_OK GP m_my (cX6_seal, 4, RX6, false, (some .int), []) q.1 q.2 :=
  m_cn (pc := 0) (ok_iconst (m_dk dk_X6_seal 0 rfl) (by decide) rfl) <|
  m_cn (pc := 1) (ok_istore_n (m_dk dk_X6_seal 1 rfl) rfl rfl (by decide)) <|
  m_cn (pc := 2) (ok_iconst (m_dk dk_X6_seal 2 rfl) (by decide) rfl) <|
  m_cn (pc := 3) (ok_istore_n (m_dk dk_X6_seal 3 rfl) rfl rfl (by decide)) <|
  m_cn (pc := 4) (ok_iload_n (m_dk dk_X6_seal 4 rfl) rfl rfl) <|
  m_cn (pc := 5) (ok_bipush (m_dk dk_X6_seal 5 rfl) (by decide) rfl) <|
  m_cn (pc := 7) (ok_icmpge (m_dk dk_X6_seal 6 rfl) rfl rfl) <|
  m_cn (pc := 10) (ok_iconst (m_dk dk_X6_seal 7 rfl) (by decide) rfl) <|
  m_cn (pc := 11) (ok_istore_n (m_dk dk_X6_seal 8 rfl) rfl rfl (by decide)) <|
  m_cn (pc := 12) (ok_iload_n (m_dk dk_X6_seal 9 rfl) rfl rfl) <|
  m_cn (pc := 13) (ok_bipush (m_dk dk_X6_seal 10 rfl) (by decide) rfl) <|
  m_cn (pc := 15) (ok_icmpge (m_dk dk_X6_seal 11 rfl) rfl rfl) <|
  m_cn (pc := 18) (ok_iload_n (m_dk dk_X6_seal 12 rfl) rfl rfl) <|
  m_cn (pc := 19) (ok_iload_n (m_dk dk_X6_seal 13 rfl) rfl rfl) <|
  m_cn (pc := 20) (ok_icmpeq (m_dk dk_X6_seal 14 rfl) rfl rfl) <|
  m_cn (pc := 23) (ok_iload_n (m_dk dk_X6_seal 15 rfl) rfl rfl) <|
  m_cn (pc := 24) (ok_iconst (m_dk dk_X6_seal 16 rfl) (by decide) rfl) <|
  m_cn (pc := 25) (ok_ishl (m_dk dk_X6_seal 17 rfl) rfl) <|
  m_cn (pc := 26) (ok_iload_n (m_dk dk_X6_seal 18 rfl) rfl rfl) <|
  m_cn (pc := 27) (ok_bipush (m_dk dk_X6_seal 19 rfl) (by decide) rfl) <|
  m_cn (pc := 29) (ok_iushr (m_dk dk_X6_seal 20 rfl) rfl) <|
  m_cn (pc := 30) (ok_ixor (m_dk dk_X6_seal 21 rfl) rfl) <|
  m_cn (pc := 31) (ok_aload_n (m_dk dk_X6_seal 22 rfl) rfl rfl) <|
  m_cn (pc := 32) (ok_getf (k := 5) (hc0 := (rfl : vwCl[7]? = some (RX6, TX6, 15))) (by decide) in_X6 wd_139 (m_dk dk_X6_seal 23 rfl) rfl) <|
  m_cn (pc := 35) (ok_iload_n (m_dk dk_X6_seal 24 rfl) rfl rfl) <|
  m_cn (pc := 36) (ok_aaldI (m_dk dk_X6_seal 25 rfl) rfl) <|
  m_cn (pc := 37) (ok_iload_n (m_dk dk_X6_seal 26 rfl) rfl rfl) <|
  m_cn (pc := 38) (ok_iald (m_dk dk_X6_seal 27 rfl) rfl) <|
  m_cn (pc := 39) (ok_bipush (m_dk dk_X6_seal 28 rfl) (by decide) rfl) <|
  m_cn (pc := 41) (ok_imul (m_dk dk_X6_seal 29 rfl) rfl) <|
  m_cn (pc := 42) (ok_iadd (m_dk dk_X6_seal 30 rfl) rfl) <|
  m_cn (pc := 43) (ok_istore_n (m_dk dk_X6_seal 31 rfl) rfl rfl (by decide)) <|
  m_cn (pc := 44) (ok_iinc (m_dk dk_X6_seal 32 rfl) (by decide) rfl (by decide)) <|
  m_cn (pc := 47) (ok_goto (nx := 0) (m_dk dk_X6_seal 33 rfl) rfl) <|
  m_cn (pc := 50) (ok_iinc (m_dk dk_X6_seal 34 rfl) (by decide) rfl (by decide)) <|
  m_cn (pc := 53) (ok_goto (nx := 0) (m_dk dk_X6_seal 35 rfl) rfl) <|
  m_cn (pc := 56) (ok_iload_n (m_dk dk_X6_seal 36 rfl) rfl rfl) <|
  m_cn (pc := 57) (ok_ireturn (nx := 0) rfl (m_dk dk_X6_seal 37 rfl)) <|
  m_nl
theorem mk_X6_seal {GP : m_G → Prop} {cds : Nat → Nat → m_Op} (h : cds 43 = m_lk cd_X6_seal) : m_MOK GP m_my cds 43 := ⟨RX6, false, [], by decide +kernel, rfl, (fun h9 => by first | rfl | cases h9), Or.inl ⟨rfl, rfl⟩, fun pc => by rw [h]; exact m_lk_ok _ ok_X6_seal pc⟩
def dl_X6_passHour : List (Nat × Instr × Nat) := [(0, .aload_n 0, 1), (1, .getfield 12, 3), (4, .invokevirtual 192, 3), (7, .aload_n 0, 1), (8, .invokevirtual 207, 3), (11, .aload_n 0, 1), (12, .invokevirtual 210, 3), (15, .iconst 0, 1), (16, .istore_n 1, 1), (17, .iload_n 1, 1), (18, .aload_n 0, 1), (19, .getfield 153, 3), (22, .if_icmp .ge 19, 3), (25, .aload_n 0, 1), (26, .aload_n 0, 1), (27, .getfield 27, 3), (30, .iload_n 1, 1), (31, .aaload, 1), (32, .invokevirtual 213, 3), (35, .iinc 1 1, 3), (38, .goto (-21), 3), (41, .aload_n 0, 1), (42, .dup, 1), (43, .getfield 80, 3), (46, .iconst 1, 1), (47, .iadd, 1), (48, .putfield 80, 3), (51, .return_, 1)]
theorem dk_X6_passHour : ∀ q ∈ dl_X6_passHour, decode cX6_passHour q.1 = .ok q.2 := by decide +kernel
def cd_X6_passHour : List (Nat × m_Op) := [(0, o_aload 0 1), (1, o_getf 7 0 4), (4, o_callv 4 11 1 0 0 7), (7, o_aload 0 8), (8, o_callv 7 45 1 0 0 11), (11, o_aload 0 12), (12, o_callv 7 46 1 0 0 15), (15, o_const (0) 16), (16, o_istore 1 17), (17, o_iload 1 18), (18, o_aload 0 19), (19, o_getf 7 11 22), (22, o_icmpge 41 25), (25, o_aload 0 26), (26, o_aload 0 27), (27, o_getf 7 3 30), (30, o_iload 1 31), (31, o_aald 7 32), (32, o_callv 7 49 2 0 0 35), (35, o_iinc 1 (1) 38), (38, o_goto 17), (41, o_aload 0 42), (42, o_dup 43), (43, o_getf 7 12 46), (46, o_const (1) 47), (47, o_bin (fun x y => x + y) 48), (48, o_puti 7 12 51), (51, o_return)]
set_option maxRecDepth 20000 in
set_option maxHeartbeats 4000000 in
theorem ok_X6_passHour {GP : m_G → Prop} : ∀ q ∈ cd_X6_passHour, m_OK GP m_my (cX6_passHour, 2, RX6, false, none, []) q.1 q.2 :=
  m_cn (pc := 0) (ok_aload_n (m_dk dk_X6_passHour 0 rfl) rfl rfl) <|
  m_cn (pc := 1) (ok_getf (k := 0) (hc0 := (rfl : vwCl[7]? = some (RX6, TX6, 15))) (by decide) in_X6 wd_134 (m_dk dk_X6_passHour 1 rfl) rfl) <|
  m_cn (pc := 4) (ok_callv (T := mt_X3_lead) my_X3_lead rfl cw_X3_lead rfl rfl (by decide) (r9 := (RX3, TX3, 16)) rfl rfl wd_289 wd_290 wd_291 wd_2 (by decide +kernel) (m_dk dk_X6_passHour 2 rfl) rfl) <|
  m_cn (pc := 7) (ok_aload_n (m_dk dk_X6_passHour 3 rfl) rfl rfl) <|
  m_cn (pc := 8) (ok_callv (T := mt_X6_addLoans) my_X6_addLoans rfl cw_X6_addLoans rfl rfl (by decide) (r9 := (RX6, TX6, 15)) rfl rfl wd_333 wd_335 (m_wk 8 (by decide +kernel) (by decide +kernel)) wd_1 (by decide +kernel) (m_dk dk_X6_passHour 4 rfl) rfl) <|
  m_cn (pc := 11) (ok_aload_n (m_dk dk_X6_passHour 5 rfl) rfl rfl) <|
  m_cn (pc := 12) (ok_callv (T := mt_X6_payCredits) my_X6_payCredits rfl cw_X6_payCredits rfl rfl (by decide) (r9 := (RX6, TX6, 15)) rfl rfl wd_337 wd_339 (m_wk 9 (by decide +kernel) (by decide +kernel)) wd_1 (by decide +kernel) (m_dk dk_X6_passHour 6 rfl) rfl) <|
  m_cn (pc := 15) (ok_iconst (m_dk dk_X6_passHour 7 rfl) (by decide) rfl) <|
  m_cn (pc := 16) (ok_istore_n (m_dk dk_X6_passHour 8 rfl) rfl rfl (by decide)) <|
  m_cn (pc := 17) (ok_iload_n (m_dk dk_X6_passHour 9 rfl) rfl rfl) <|
  m_cn (pc := 18) (ok_aload_n (m_dk dk_X6_passHour 10 rfl) rfl rfl) <|
  m_cn (pc := 19) (ok_getf (k := 11) (hc0 := (rfl : vwCl[7]? = some (RX6, TX6, 15))) (by decide) in_X6 wd_145 (m_dk dk_X6_passHour 11 rfl) rfl) <|
  m_cn (pc := 22) (ok_icmpge (m_dk dk_X6_passHour 12 rfl) rfl rfl) <|
  m_cn (pc := 25) (ok_aload_n (m_dk dk_X6_passHour 13 rfl) rfl rfl) <|
  m_cn (pc := 26) (ok_aload_n (m_dk dk_X6_passHour 14 rfl) rfl rfl) <|
  m_cn (pc := 27) (ok_getf (k := 3) (hc0 := (rfl : vwCl[7]? = some (RX6, TX6, 15))) (by decide) in_X6 wd_137 (m_dk dk_X6_passHour 15 rfl) rfl) <|
  m_cn (pc := 30) (ok_iload_n (m_dk dk_X6_passHour 16 rfl) rfl rfl) <|
  m_cn (pc := 31) (ok_aald (C := "Cablecourt$Ship") (fun _ => rfl) (m_dk dk_X6_passHour 17 rfl) rfl) <|
  m_cn (pc := 32) (ok_callv (T := mt_X6_runShip) my_X6_runShip rfl cw_X6_runShip rfl rfl (by decide) (r9 := (RX6, TX6, 15)) rfl rfl wd_349 wd_351 (m_wk 12 (by decide +kernel) (by decide +kernel)) wd_1 (by decide +kernel) (m_dk dk_X6_passHour 18 rfl) rfl) <|
  m_cn (pc := 35) (ok_iinc (m_dk dk_X6_passHour 19 rfl) (by decide) rfl (by decide)) <|
  m_cn (pc := 38) (ok_goto (nx := 0) (m_dk dk_X6_passHour 20 rfl) rfl) <|
  m_cn (pc := 41) (ok_aload_n (m_dk dk_X6_passHour 21 rfl) rfl rfl) <|
  m_cn (pc := 42) (ok_dup (m_dk dk_X6_passHour 22 rfl) rfl) <|
  m_cn (pc := 43) (ok_getf (k := 12) (hc0 := (rfl : vwCl[7]? = some (RX6, TX6, 15))) (by decide) in_X6 wd_146 (m_dk dk_X6_passHour 23 rfl) rfl) <|
  m_cn (pc := 46) (ok_iconst (m_dk dk_X6_passHour 24 rfl) (by decide) rfl) <|
  m_cn (pc := 47) (ok_iadd (m_dk dk_X6_passHour 25 rfl) rfl) <|
  m_cn (pc := 48) (ok_puti (k := 12) (hc0 := (rfl : vwCl[7]? = some (RX6, TX6, 15))) (by decide) in_X6 wd_146 tyX6 tyX6_ok nmX6 rfl (tyX6_ok 12 (by decide)) (m_dk dk_X6_passHour 26 rfl) rfl) <|
  m_cn (pc := 51) (ok_return (nx := 0) rfl (m_dk dk_X6_passHour 27 rfl)) <|
  m_nl
theorem mk_X6_passHour {GP : m_G → Prop} {cds : Nat → Nat → m_Op} (h : cds 44 = m_lk cd_X6_passHour) : m_MOK GP m_my cds 44 := ⟨RX6, false, [], by decide +kernel, rfl, (fun h9 => by first | rfl | cases h9), Or.inl ⟨rfl, rfl⟩, fun pc => by rw [h]; exact m_lk_ok _ ok_X6_passHour pc⟩
def dl_X6_addLoans : List (Nat × Instr × Nat) := [(0, .iconst 0, 1), (1, .istore_n 1, 1), (2, .iload_n 1, 1), (3, .bipush 6, 2), (5, .if_icmp .ge 45, 3), (8, .iconst 0, 1), (9, .istore_n 2, 1), (10, .iload_n 2, 1), (11, .bipush 6, 2), (13, .if_icmp .ge 31, 3), (16, .aload_n 0, 1), (17, .getfield 40, 3), (20, .iload_n 1, 1), (21, .aaload, 1), (22, .iload_n 2, 1), (23, .dup2, 1), (24, .iaload, 1), (25, .aload_n 0, 1), (26, .getfield 12, 3), (29, .getfield 195, 3), (32, .iload_n 1, 1), (33, .aaload, 1), (34, .iload_n 2, 1), (35, .iaload, 1), (36, .iadd, 1), (37, .iastore, 1), (38, .iinc 2 1, 3), (41, .goto (-31), 3), (44, .iinc 1 1, 3), (47, .goto (-45), 3), (50, .return_, 1)]
theorem dk_X6_addLoans : ∀ q ∈ dl_X6_addLoans, decode cX6_addLoans q.1 = .ok q.2 := by decide +kernel
def cd_X6_addLoans : List (Nat × m_Op) := [(0, o_const (0) 1), (1, o_istore 1 2), (2, o_iload 1 3), (3, o_const (6) 5), (5, o_icmpge 50 8), (8, o_const (0) 9), (9, o_istore 2 10), (10, o_iload 2 11), (11, o_const (6) 13), (13, o_icmpge 44 16), (16, o_aload 0 17), (17, o_getf 7 5 20), (20, o_iload 1 21), (21, o_aald 3 22), (22, o_iload 2 23), (23, o_dup2 24), (24, o_iald 0 25), (25, o_aload 0 26), (26, o_getf 7 0 29), (29, o_getf 4 6 32), (32, o_iload 1 33), (33, o_aald 3 34), (34, o_iload 2 35), (35, o_iald 0 36), (36, o_bin (fun x y => x + y) 37), (37, o_iast 38), (38, o_iinc 2 (1) 41), (41, o_goto 10), (44, o_iinc 1 (1) 47), (47, o_goto 2), (50, o_return)]
set_option maxRecDepth 20000 in
set_option maxHeartbeats 4000000 in
theorem ok_X6_addLoans {GP : m_G → Prop} : ∀ q ∈ cd_X6_addLoans, m_OK GP m_my (cX6_addLoans, 3, RX6, false, none, []) q.1 q.2 :=
  m_cn (pc := 0) (ok_iconst (m_dk dk_X6_addLoans 0 rfl) (by decide) rfl) <|
  m_cn (pc := 1) (ok_istore_n (m_dk dk_X6_addLoans 1 rfl) rfl rfl (by decide)) <|
  m_cn (pc := 2) (ok_iload_n (m_dk dk_X6_addLoans 2 rfl) rfl rfl) <|
  m_cn (pc := 3) (ok_bipush (m_dk dk_X6_addLoans 3 rfl) (by decide) rfl) <|
  m_cn (pc := 5) (ok_icmpge (m_dk dk_X6_addLoans 4 rfl) rfl rfl) <|
  m_cn (pc := 8) (ok_iconst (m_dk dk_X6_addLoans 5 rfl) (by decide) rfl) <|
  m_cn (pc := 9) (ok_istore_n (m_dk dk_X6_addLoans 6 rfl) rfl rfl (by decide)) <|
  m_cn (pc := 10) (ok_iload_n (m_dk dk_X6_addLoans 7 rfl) rfl rfl) <|
  m_cn (pc := 11) (ok_bipush (m_dk dk_X6_addLoans 8 rfl) (by decide) rfl) <|
  m_cn (pc := 13) (ok_icmpge (m_dk dk_X6_addLoans 9 rfl) rfl rfl) <|
  m_cn (pc := 16) (ok_aload_n (m_dk dk_X6_addLoans 10 rfl) rfl rfl) <|
  m_cn (pc := 17) (ok_getf (k := 5) (hc0 := (rfl : vwCl[7]? = some (RX6, TX6, 15))) (by decide) in_X6 wd_139 (m_dk dk_X6_addLoans 11 rfl) rfl) <|
  m_cn (pc := 20) (ok_iload_n (m_dk dk_X6_addLoans 12 rfl) rfl rfl) <|
  m_cn (pc := 21) (ok_aaldI (m_dk dk_X6_addLoans 13 rfl) rfl) <|
  m_cn (pc := 22) (ok_iload_n (m_dk dk_X6_addLoans 14 rfl) rfl rfl) <|
  m_cn (pc := 23) (ok_dup2 (m_dk dk_X6_addLoans 15 rfl) rfl) <|
  m_cn (pc := 24) (ok_iald (m_dk dk_X6_addLoans 16 rfl) rfl) <|
  m_cn (pc := 25) (ok_aload_n (m_dk dk_X6_addLoans 17 rfl) rfl rfl) <|
  m_cn (pc := 26) (ok_getf (k := 0) (hc0 := (rfl : vwCl[7]? = some (RX6, TX6, 15))) (by decide) in_X6 wd_134 (m_dk dk_X6_addLoans 18 rfl) rfl) <|
  m_cn (pc := 29) (ok_getf (k := 6) (hc0 := (rfl : vwCl[4]? = some (RX3, TX3, 16))) (by decide) in_X3 wd_56 (m_dk dk_X6_addLoans 19 rfl) rfl) <|
  m_cn (pc := 32) (ok_iload_n (m_dk dk_X6_addLoans 20 rfl) rfl rfl) <|
  m_cn (pc := 33) (ok_aaldI (m_dk dk_X6_addLoans 21 rfl) rfl) <|
  m_cn (pc := 34) (ok_iload_n (m_dk dk_X6_addLoans 22 rfl) rfl rfl) <|
  m_cn (pc := 35) (ok_iald (m_dk dk_X6_addLoans 23 rfl) rfl) <|
  m_cn (pc := 36) (ok_iadd (m_dk dk_X6_addLoans 24 rfl) rfl) <|
  m_cn (pc := 37) (ok_iast (m_dk dk_X6_addLoans 25 rfl) rfl) <|
  m_cn (pc := 38) (ok_iinc (m_dk dk_X6_addLoans 26 rfl) (by decide) rfl (by decide)) <|
  m_cn (pc := 41) (ok_goto (nx := 0) (m_dk dk_X6_addLoans 27 rfl) rfl) <|
  m_cn (pc := 44) (ok_iinc (m_dk dk_X6_addLoans 28 rfl) (by decide) rfl (by decide)) <|
  m_cn (pc := 47) (ok_goto (nx := 0) (m_dk dk_X6_addLoans 29 rfl) rfl) <|
  m_cn (pc := 50) (ok_return (nx := 0) rfl (m_dk dk_X6_addLoans 30 rfl)) <|
  m_nl
theorem mk_X6_addLoans {GP : m_G → Prop} {cds : Nat → Nat → m_Op} (h : cds 45 = m_lk cd_X6_addLoans) : m_MOK GP m_my cds 45 := ⟨RX6, false, [], by decide +kernel, rfl, (fun h9 => by first | rfl | cases h9), Or.inl ⟨rfl, rfl⟩, fun pc => by rw [h]; exact m_lk_ok _ ok_X6_addLoans pc⟩
def dl_X6_payCredits : List (Nat × Instr × Nat) := [(0, .aload_n 0, 1), (1, .invokevirtual 217, 3), (4, .istore_n 1, 1), (5, .iconst 0, 1), (6, .istore_n 2, 1), (7, .iload_n 2, 1), (8, .aload_n 0, 1), (9, .getfield 12, 3), (12, .getfield 90, 3), (15, .if_icmp .ge 80, 3), (18, .aload_n 0, 1), (19, .getfield 12, 3), (22, .getfield 176, 3), (25, .iload_n 2, 1), (26, .iaload, 1), (27, .iconst (-1), 1), (28, .if_icmp .ne 61, 3), (31, .aload_n 0, 1), (32, .getfield 12, 3), (35, .getfield 220, 3), (38, .iload_n 2, 1), (39, .aaload, 1), (40, .astore_n 3, 1), (41, .iconst 5, 1), (42, .aload_n 3, 1), (43, .getfield 224, 3), (46, .imul, 1), (47, .istore 4, 2), (49, .aload_n 0, 1), (50, .getfield 46, 3), (53, .aload_n 3, 1), (54, .getfield 227, 3), (57, .dup2, 1), (58, .iaload, 1), (59, .iload 4, 2), (61, .iadd, 1), (62, .iastore, 1), (63, .iload_n 1, 1), (64, .iconst (-1), 1), (65, .if_icmp .ne 17, 3), (68, .aload_n 0, 1), (69, .dup, 1), (70, .getfield 198, 3), (73, .iload 4, 2), (75, .isub, 1), (76, .putfield 198, 3), (79, .goto 10, 3), (82, .aload_n 0, 1), (83, .iload_n 1, 1), (84, .iload 4, 2), (86, .invokevirtual 230, 3), (89, .iinc 2 1, 3), (92, .goto (-85), 3), (95, .return_, 1)]
theorem dk_X6_payCredits : ∀ q ∈ dl_X6_payCredits, decode cX6_payCredits q.1 = .ok q.2 := by decide +kernel
def cd_X6_payCredits : List (Nat × m_Op) := [(0, o_aload 0 1), (1, o_callv 7 47 1 0 0 4), (4, o_istore 1 5), (5, o_const (0) 6), (6, o_istore 2 7), (7, o_iload 2 8), (8, o_aload 0 9), (9, o_getf 7 0 12), (12, o_getf 4 8 15), (15, o_icmpge 95 18), (18, o_aload 0 19), (19, o_getf 7 0 22), (22, o_getf 4 4 25), (25, o_iload 2 26), (26, o_iald 0 27), (27, o_const (-1) 28), (28, o_icmpne 89 31), (31, o_aload 0 32), (32, o_getf 7 0 35), (35, o_getf 4 3 38), (38, o_iload 2 39), (39, o_aald 5 40), (40, o_astore 3 41), (41, o_const (5) 42), (42, o_aload 3 43), (43, o_getf 3 3 46), (46, o_bin (fun x y => x * y) 47), (47, o_istore 4 49), (49, o_aload 0 50), (50, o_getf 7 7 53), (53, o_aload 3 54), (54, o_getf 3 0 57), (57, o_dup2 58), (58, o_iald 0 59), (59, o_iload 4 61), (61, o_bin (fun x y => x + y) 62), (62, o_iast 63), (63, o_iload 1 64), (64, o_const (-1) 65), (65, o_icmpne 82 68), (68, o_aload 0 69), (69, o_dup 70), (70, o_getf 7 8 73), (73, o_iload 4 75), (75, o_bin (fun x y => x - y) 76), (76, o_puti 7 8 79), (79, o_goto 89), (82, o_aload 0 83), (83, o_iload 1 84), (84, o_iload 4 86), (86, o_callv 7 48 3 0 0 89), (89, o_iinc 2 (1) 92), (92, o_goto 7), (95, o_return)]
set_option maxRecDepth 20000 in
set_option maxHeartbeats 4000000 in
theorem ok_X6_payCredits {GP : m_G → Prop} : ∀ q ∈ cd_X6_payCredits, m_OK GP m_my (cX6_payCredits, 5, RX6, false, none, []) q.1 q.2 :=
  m_cn (pc := 0) (ok_aload_n (m_dk dk_X6_payCredits 0 rfl) rfl rfl) <|
  m_cn (pc := 1) (ok_callv (T := mt_X6_cableCutFirst) my_X6_cableCutFirst rfl cw_X6_cableCutFirst rfl rfl (by decide) (r9 := (RX6, TX6, 15)) rfl rfl wd_341 wd_343 (m_wk 10 (by decide +kernel) (by decide +kernel)) wd_1 (by decide +kernel) (m_dk dk_X6_payCredits 1 rfl) rfl) <|
  m_cn (pc := 4) (ok_istore_n (m_dk dk_X6_payCredits 2 rfl) rfl rfl (by decide)) <|
  m_cn (pc := 5) (ok_iconst (m_dk dk_X6_payCredits 3 rfl) (by decide) rfl) <|
  m_cn (pc := 6) (ok_istore_n (m_dk dk_X6_payCredits 4 rfl) rfl rfl (by decide)) <|
  m_cn (pc := 7) (ok_iload_n (m_dk dk_X6_payCredits 5 rfl) rfl rfl) <|
  m_cn (pc := 8) (ok_aload_n (m_dk dk_X6_payCredits 6 rfl) rfl rfl) <|
  m_cn (pc := 9) (ok_getf (k := 0) (hc0 := (rfl : vwCl[7]? = some (RX6, TX6, 15))) (by decide) in_X6 wd_134 (m_dk dk_X6_payCredits 7 rfl) rfl) <|
  m_cn (pc := 12) (ok_getf (k := 8) (hc0 := (rfl : vwCl[4]? = some (RX3, TX3, 16))) (by decide) in_X3 wd_60 (m_dk dk_X6_payCredits 8 rfl) rfl) <|
  m_cn (pc := 15) (ok_icmpge (m_dk dk_X6_payCredits 9 rfl) rfl rfl) <|
  m_cn (pc := 18) (ok_aload_n (m_dk dk_X6_payCredits 10 rfl) rfl rfl) <|
  m_cn (pc := 19) (ok_getf (k := 0) (hc0 := (rfl : vwCl[7]? = some (RX6, TX6, 15))) (by decide) in_X6 wd_134 (m_dk dk_X6_payCredits 11 rfl) rfl) <|
  m_cn (pc := 22) (ok_getf (k := 4) (hc0 := (rfl : vwCl[4]? = some (RX3, TX3, 16))) (by decide) in_X3 wd_52 (m_dk dk_X6_payCredits 12 rfl) rfl) <|
  m_cn (pc := 25) (ok_iload_n (m_dk dk_X6_payCredits 13 rfl) rfl rfl) <|
  m_cn (pc := 26) (ok_iald (m_dk dk_X6_payCredits 14 rfl) rfl) <|
  m_cn (pc := 27) (ok_iconst (m_dk dk_X6_payCredits 15 rfl) (by decide) rfl) <|
  m_cn (pc := 28) (ok_icmpne (m_dk dk_X6_payCredits 16 rfl) rfl rfl) <|
  m_cn (pc := 31) (ok_aload_n (m_dk dk_X6_payCredits 17 rfl) rfl rfl) <|
  m_cn (pc := 32) (ok_getf (k := 0) (hc0 := (rfl : vwCl[7]? = some (RX6, TX6, 15))) (by decide) in_X6 wd_134 (m_dk dk_X6_payCredits 18 rfl) rfl) <|
  m_cn (pc := 35) (ok_getf (k := 3) (hc0 := (rfl : vwCl[4]? = some (RX3, TX3, 16))) (by decide) in_X3 wd_50 (m_dk dk_X6_payCredits 19 rfl) rfl) <|
  m_cn (pc := 38) (ok_iload_n (m_dk dk_X6_payCredits 20 rfl) rfl rfl) <|
  m_cn (pc := 39) (ok_aald (C := "Cablecourt$Demand") (fun _ => rfl) (m_dk dk_X6_payCredits 21 rfl) rfl) <|
  m_cn (pc := 40) (ok_astore_n (m_dk dk_X6_payCredits 22 rfl) rfl rfl (by decide)) <|
  m_cn (pc := 41) (ok_iconst (m_dk dk_X6_payCredits 23 rfl) (by decide) rfl) <|
  m_cn (pc := 42) (ok_aload_n (m_dk dk_X6_payCredits 24 rfl) rfl rfl) <|
  m_cn (pc := 43) (ok_getf (k := 3) (hc0 := (rfl : vwCl[3]? = some (RX2, TX2, 5))) (by decide) in_X2 wd_506 (m_dk dk_X6_payCredits 25 rfl) rfl) <|
  m_cn (pc := 46) (ok_imul (m_dk dk_X6_payCredits 26 rfl) rfl) <|
  m_cn (pc := 47) (ok_istore (m_dk dk_X6_payCredits 27 rfl) rfl (by decide)) <|
  m_cn (pc := 49) (ok_aload_n (m_dk dk_X6_payCredits 28 rfl) rfl rfl) <|
  m_cn (pc := 50) (ok_getf (k := 7) (hc0 := (rfl : vwCl[7]? = some (RX6, TX6, 15))) (by decide) in_X6 wd_141 (m_dk dk_X6_payCredits 29 rfl) rfl) <|
  m_cn (pc := 53) (ok_aload_n (m_dk dk_X6_payCredits 30 rfl) rfl rfl) <|
  m_cn (pc := 54) (ok_getf (k := 0) (hc0 := (rfl : vwCl[3]? = some (RX2, TX2, 5))) (by decide) in_X2 wd_499 (m_dk dk_X6_payCredits 31 rfl) rfl) <|
  m_cn (pc := 57) (ok_dup2 (m_dk dk_X6_payCredits 32 rfl) rfl) <|
  m_cn (pc := 58) (ok_iald (m_dk dk_X6_payCredits 33 rfl) rfl) <|
  m_cn (pc := 59) (ok_iload (m_dk dk_X6_payCredits 34 rfl) rfl) <|
  m_cn (pc := 61) (ok_iadd (m_dk dk_X6_payCredits 35 rfl) rfl) <|
  m_cn (pc := 62) (ok_iast (m_dk dk_X6_payCredits 36 rfl) rfl) <|
  m_cn (pc := 63) (ok_iload_n (m_dk dk_X6_payCredits 37 rfl) rfl rfl) <|
  m_cn (pc := 64) (ok_iconst (m_dk dk_X6_payCredits 38 rfl) (by decide) rfl) <|
  m_cn (pc := 65) (ok_icmpne (m_dk dk_X6_payCredits 39 rfl) rfl rfl) <|
  m_cn (pc := 68) (ok_aload_n (m_dk dk_X6_payCredits 40 rfl) rfl rfl) <|
  m_cn (pc := 69) (ok_dup (m_dk dk_X6_payCredits 41 rfl) rfl) <|
  m_cn (pc := 70) (ok_getf (k := 8) (hc0 := (rfl : vwCl[7]? = some (RX6, TX6, 15))) (by decide) in_X6 wd_142 (m_dk dk_X6_payCredits 42 rfl) rfl) <|
  m_cn (pc := 73) (ok_iload (m_dk dk_X6_payCredits 43 rfl) rfl) <|
  m_cn (pc := 75) (ok_isub (m_dk dk_X6_payCredits 44 rfl) rfl) <|
  m_cn (pc := 76) (ok_puti (k := 8) (hc0 := (rfl : vwCl[7]? = some (RX6, TX6, 15))) (by decide) in_X6 wd_142 tyX6 tyX6_ok nmX6 rfl (tyX6_ok 8 (by decide)) (m_dk dk_X6_payCredits 45 rfl) rfl) <|
  m_cn (pc := 79) (ok_goto (nx := 0) (m_dk dk_X6_payCredits 46 rfl) rfl) <|
  m_cn (pc := 82) (ok_aload_n (m_dk dk_X6_payCredits 47 rfl) rfl rfl) <|
  m_cn (pc := 83) (ok_iload_n (m_dk dk_X6_payCredits 48 rfl) rfl rfl) <|
  m_cn (pc := 84) (ok_iload (m_dk dk_X6_payCredits 49 rfl) rfl) <|
  m_cn (pc := 86) (ok_callv (T := mt_X6_chargeOwners) my_X6_chargeOwners rfl cw_X6_chargeOwners rfl rfl (by decide) (r9 := (RX6, TX6, 15)) rfl rfl wd_345 wd_347 (m_wk 11 (by decide +kernel) (by decide +kernel)) wd_1 (by decide +kernel) (m_dk dk_X6_payCredits 50 rfl) rfl) <|
  m_cn (pc := 89) (ok_iinc (m_dk dk_X6_payCredits 51 rfl) (by decide) rfl (by decide)) <|
  m_cn (pc := 92) (ok_goto (nx := 0) (m_dk dk_X6_payCredits 52 rfl) rfl) <|
  m_cn (pc := 95) (ok_return (nx := 0) rfl (m_dk dk_X6_payCredits 53 rfl)) <|
  m_nl
theorem mk_X6_payCredits {GP : m_G → Prop} {cds : Nat → Nat → m_Op} (h : cds 46 = m_lk cd_X6_payCredits) : m_MOK GP m_my cds 46 := ⟨RX6, false, [], by decide +kernel, rfl, (fun h9 => by first | rfl | cases h9), Or.inl ⟨rfl, rfl⟩, fun pc => by rw [h]; exact m_lk_ok _ ok_X6_payCredits pc⟩
def dl_X6_cableCutFirst : List (Nat × Instr × Nat) := [(0, .iconst (-1), 1), (1, .istore_n 1, 1), (2, .iconst 0, 1), (3, .istore_n 2, 1), (4, .iconst 0, 1), (5, .istore_n 3, 1), (6, .iload_n 3, 1), (7, .aload_n 0, 1), (8, .getfield 142, 3), (11, .if_icmp .ge 70, 3), (14, .aload_n 0, 1), (15, .getfield 21, 3), (18, .iload_n 3, 1), (19, .aaload, 1), (20, .astore 4, 2), (22, .aload 4, 2), (24, .getfield 233, 3), (27, .iconst (-1), 1), (28, .if_icmp .ne 47, 3), (31, .iload_n 1, 1), (32, .iconst (-1), 1), (33, .if_icmp .eq 30, 3), (36, .aload 4, 2), (38, .getfield 236, 3), (41, .iload_n 2, 1), (42, .if_icmp .lt 21, 3), (45, .aload 4, 2), (47, .getfield 236, 3), (50, .iload_n 2, 1), (51, .if_icmp .ne 24, 3), (54, .aload 4, 2), (56, .getfield 239, 3), (59, .iload_n 1, 1), (60, .if_icmp .ge 15, 3), (63, .aload 4, 2), (65, .getfield 239, 3), (68, .istore_n 1, 1), (69, .aload 4, 2), (71, .getfield 236, 3), (74, .istore_n 2, 1), (75, .iinc 3 1, 3), (78, .goto (-72), 3), (81, .iload_n 1, 1), (82, .ireturn, 1)]
theorem dk_X6_cableCutFirst : ∀ q ∈ dl_X6_cableCutFirst, decode cX6_cableCutFirst q.1 = .ok q.2 := by decide +kernel
def cd_X6_cableCutFirst : List (Nat × m_Op) := [(0, o_const (-1) 1), (1, o_istore 1 2), (2, o_const (0) 3), (3, o_istore 2 4), (4, o_const (0) 5), (5, o_istore 3 6), (6, o_iload 3 7), (7, o_aload 0 8), (8, o_getf 7 10 11), (11, o_icmpge 81 14), (14, o_aload 0 15), (15, o_getf 7 2 18), (18, o_iload 3 19), (19, o_aald 6 20), (20, o_astore 4 22), (22, o_aload 4 24), (24, o_getf 2 4 27), (27, o_const (-1) 28), (28, o_icmpne 75 31), (31, o_iload 1 32), (32, o_const (-1) 33), (33, o_icmpeq 63 36), (36, o_aload 4 38), (38, o_getf 2 2 41), (41, o_iload 2 42), (42, o_icmplt 63 45), (45, o_aload 4 47), (47, o_getf 2 2 50), (50, o_iload 2 51), (51, o_icmpne 75 54), (54, o_aload 4 56), (56, o_getf 2 0 59), (59, o_iload 1 60), (60, o_icmpge 75 63), (63, o_aload 4 65), (65, o_getf 2 0 68), (68, o_istore 1 69), (69, o_aload 4 71), (71, o_getf 2 2 74), (74, o_istore 2 75), (75, o_iinc 3 (1) 78), (78, o_goto 6), (81, o_iload 1 82), (82, o_ireturn)]
set_option maxRecDepth 20000 in
set_option maxHeartbeats 4000000 in
theorem ok_X6_cableCutFirst {GP : m_G → Prop} : ∀ q ∈ cd_X6_cableCutFirst, m_OK GP m_my (cX6_cableCutFirst, 5, RX6, false, (some .int), []) q.1 q.2 :=
  m_cn (pc := 0) (ok_iconst (m_dk dk_X6_cableCutFirst 0 rfl) (by decide) rfl) <|
  m_cn (pc := 1) (ok_istore_n (m_dk dk_X6_cableCutFirst 1 rfl) rfl rfl (by decide)) <|
  m_cn (pc := 2) (ok_iconst (m_dk dk_X6_cableCutFirst 2 rfl) (by decide) rfl) <|
  m_cn (pc := 3) (ok_istore_n (m_dk dk_X6_cableCutFirst 3 rfl) rfl rfl (by decide)) <|
  m_cn (pc := 4) (ok_iconst (m_dk dk_X6_cableCutFirst 4 rfl) (by decide) rfl) <|
  m_cn (pc := 5) (ok_istore_n (m_dk dk_X6_cableCutFirst 5 rfl) rfl rfl (by decide)) <|
  m_cn (pc := 6) (ok_iload_n (m_dk dk_X6_cableCutFirst 6 rfl) rfl rfl) <|
  m_cn (pc := 7) (ok_aload_n (m_dk dk_X6_cableCutFirst 7 rfl) rfl rfl) <|
  m_cn (pc := 8) (ok_getf (k := 10) (hc0 := (rfl : vwCl[7]? = some (RX6, TX6, 15))) (by decide) in_X6 wd_144 (m_dk dk_X6_cableCutFirst 8 rfl) rfl) <|
  m_cn (pc := 11) (ok_icmpge (m_dk dk_X6_cableCutFirst 9 rfl) rfl rfl) <|
  m_cn (pc := 14) (ok_aload_n (m_dk dk_X6_cableCutFirst 10 rfl) rfl rfl) <|
  m_cn (pc := 15) (ok_getf (k := 2) (hc0 := (rfl : vwCl[7]? = some (RX6, TX6, 15))) (by decide) in_X6 wd_136 (m_dk dk_X6_cableCutFirst 11 rfl) rfl) <|
  m_cn (pc := 18) (ok_iload_n (m_dk dk_X6_cableCutFirst 12 rfl) rfl rfl) <|
  m_cn (pc := 19) (ok_aald (C := "Cablecourt$Cut") (fun _ => rfl) (m_dk dk_X6_cableCutFirst 13 rfl) rfl) <|
  m_cn (pc := 20) (ok_astore (m_dk dk_X6_cableCutFirst 14 rfl) rfl (by decide)) <|
  m_cn (pc := 22) (ok_aload (m_dk dk_X6_cableCutFirst 15 rfl) rfl) <|
  m_cn (pc := 24) (ok_getf (k := 4) (hc0 := (rfl : vwCl[2]? = some (RX1, TX1, 5))) (by decide) in_X1 wd_700 (m_dk dk_X6_cableCutFirst 16 rfl) rfl) <|
  m_cn (pc := 27) (ok_iconst (m_dk dk_X6_cableCutFirst 17 rfl) (by decide) rfl) <|
  m_cn (pc := 28) (ok_icmpne (m_dk dk_X6_cableCutFirst 18 rfl) rfl rfl) <|
  m_cn (pc := 31) (ok_iload_n (m_dk dk_X6_cableCutFirst 19 rfl) rfl rfl) <|
  m_cn (pc := 32) (ok_iconst (m_dk dk_X6_cableCutFirst 20 rfl) (by decide) rfl) <|
  m_cn (pc := 33) (ok_icmpeq (m_dk dk_X6_cableCutFirst 21 rfl) rfl rfl) <|
  m_cn (pc := 36) (ok_aload (m_dk dk_X6_cableCutFirst 22 rfl) rfl) <|
  m_cn (pc := 38) (ok_getf (k := 2) (hc0 := (rfl : vwCl[2]? = some (RX1, TX1, 5))) (by decide) in_X1 wd_697 (m_dk dk_X6_cableCutFirst 23 rfl) rfl) <|
  m_cn (pc := 41) (ok_iload_n (m_dk dk_X6_cableCutFirst 24 rfl) rfl rfl) <|
  m_cn (pc := 42) (ok_icmplt (m_dk dk_X6_cableCutFirst 25 rfl) rfl rfl) <|
  m_cn (pc := 45) (ok_aload (m_dk dk_X6_cableCutFirst 26 rfl) rfl) <|
  m_cn (pc := 47) (ok_getf (k := 2) (hc0 := (rfl : vwCl[2]? = some (RX1, TX1, 5))) (by decide) in_X1 wd_697 (m_dk dk_X6_cableCutFirst 27 rfl) rfl) <|
  m_cn (pc := 50) (ok_iload_n (m_dk dk_X6_cableCutFirst 28 rfl) rfl rfl) <|
  m_cn (pc := 51) (ok_icmpne (m_dk dk_X6_cableCutFirst 29 rfl) rfl rfl) <|
  m_cn (pc := 54) (ok_aload (m_dk dk_X6_cableCutFirst 30 rfl) rfl) <|
  m_cn (pc := 56) (ok_getf (k := 0) (hc0 := (rfl : vwCl[2]? = some (RX1, TX1, 5))) (by decide) in_X1 wd_693 (m_dk dk_X6_cableCutFirst 31 rfl) rfl) <|
  m_cn (pc := 59) (ok_iload_n (m_dk dk_X6_cableCutFirst 32 rfl) rfl rfl) <|
  m_cn (pc := 60) (ok_icmpge (m_dk dk_X6_cableCutFirst 33 rfl) rfl rfl) <|
  m_cn (pc := 63) (ok_aload (m_dk dk_X6_cableCutFirst 34 rfl) rfl) <|
  m_cn (pc := 65) (ok_getf (k := 0) (hc0 := (rfl : vwCl[2]? = some (RX1, TX1, 5))) (by decide) in_X1 wd_693 (m_dk dk_X6_cableCutFirst 35 rfl) rfl) <|
  m_cn (pc := 68) (ok_istore_n (m_dk dk_X6_cableCutFirst 36 rfl) rfl rfl (by decide)) <|
  m_cn (pc := 69) (ok_aload (m_dk dk_X6_cableCutFirst 37 rfl) rfl) <|
  m_cn (pc := 71) (ok_getf (k := 2) (hc0 := (rfl : vwCl[2]? = some (RX1, TX1, 5))) (by decide) in_X1 wd_697 (m_dk dk_X6_cableCutFirst 38 rfl) rfl) <|
  m_cn (pc := 74) (ok_istore_n (m_dk dk_X6_cableCutFirst 39 rfl) rfl rfl (by decide)) <|
  m_cn (pc := 75) (ok_iinc (m_dk dk_X6_cableCutFirst 40 rfl) (by decide) rfl (by decide)) <|
  m_cn (pc := 78) (ok_goto (nx := 0) (m_dk dk_X6_cableCutFirst 41 rfl) rfl) <|
  m_cn (pc := 81) (ok_iload_n (m_dk dk_X6_cableCutFirst 42 rfl) rfl rfl) <|
  m_cn (pc := 82) (ok_ireturn (nx := 0) rfl (m_dk dk_X6_cableCutFirst 43 rfl)) <|
  m_nl
theorem mk_X6_cableCutFirst {GP : m_G → Prop} {cds : Nat → Nat → m_Op} (h : cds 47 = m_lk cd_X6_cableCutFirst) : m_MOK GP m_my cds 47 := ⟨RX6, false, [], by decide +kernel, rfl, (fun h9 => by first | rfl | cases h9), Or.inl ⟨rfl, rfl⟩, fun pc => by rw [h]; exact m_lk_ok _ ok_X6_cableCutFirst pc⟩
def dl_X6_chargeOwners : List (Nat × Instr × Nat) := [(0, .aload_n 0, 1), (1, .getfield 12, 3), (4, .getfield 129, 3), (7, .iload_n 1, 1), (8, .aaload, 1), (9, .getfield 242, 3), (12, .istore_n 3, 1), (13, .iload_n 3, 1), (14, .ifCond .gt 4, 3), (17, .return_, 1), (18, .iload_n 2, 1), (19, .istore 4, 2), (21, .iconst (-1), 1), (22, .istore 5, 2), (24, .iconst 0, 1), (25, .istore 6, 2), (27, .iload 6, 2), (29, .bipush 6, 2), (31, .if_icmp .ge 65, 3), (34, .aload_n 0, 1), (35, .getfield 12, 3), (38, .getfield 104, 3), (41, .iload_n 1, 1), (42, .aaload, 1), (43, .iload 6, 2), (45, .iaload, 1), (46, .istore 7, 2), (48, .iload_n 2, 1), (49, .iload 7, 2), (51, .imul, 1), (52, .iload_n 3, 1), (53, .idiv, 1), (54, .istore 8, 2), (56, .aload_n 0, 1), (57, .getfield 46, 3), (60, .iload 6, 2), (62, .dup2, 1), (63, .iaload, 1), (64, .iload 8, 2), (66, .isub, 1), (67, .iastore, 1), (68, .iload 4, 2), (70, .iload 8, 2), (72, .isub, 1), (73, .istore 4, 2), (75, .iload 5, 2), (77, .iconst (-1), 1), (78, .if_icmp .ne 12, 3), (81, .iload 7, 2), (83, .ifCond .le 7, 3), (86, .iload 6, 2), (88, .istore 5, 2), (90, .iinc 6 1, 3), (93, .goto (-66), 3), (96, .iload 5, 2), (98, .iconst (-1), 1), (99, .if_icmp .eq 15, 3), (102, .aload_n 0, 1), (103, .getfield 46, 3), (106, .iload 5, 2), (108, .dup2, 1), (109, .iaload, 1), (110, .iload 4, 2), (112, .isub, 1), (113, .iastore, 1), (114, .return_, 1)]
theorem dk_X6_chargeOwners : ∀ q ∈ dl_X6_chargeOwners, decode cX6_chargeOwners q.1 = .ok q.2 := by decide +kernel
def cd_X6_chargeOwners : List (Nat × m_Op) := [(0, o_aload 0 1), (1, o_getf 7 0 4), (4, o_getf 4 0 7), (7, o_iload 1 8), (8, o_aald 4 9), (9, o_getf 1 2 12), (12, o_istore 3 13), (13, o_iload 3 14), (14, o_ifgt 18 17), (17, o_return), (18, o_iload 2 19), (19, o_istore 4 21), (21, o_const (-1) 22), (22, o_istore 5 24), (24, o_const (0) 25), (25, o_istore 6 27), (27, o_iload 6 29), (29, o_const (6) 31), (31, o_icmpge 96 34), (34, o_aload 0 35), (35, o_getf 7 0 38), (38, o_getf 4 2 41), (41, o_iload 1 42), (42, o_aald 3 43), (43, o_iload 6 45), (45, o_iald 0 46), (46, o_istore 7 48), (48, o_iload 2 49), (49, o_iload 7 51), (51, o_bin (fun x y => x * y) 52), (52, o_iload 3 53), (53, o_div (fun x y => x / y) 54), (54, o_istore 8 56), (56, o_aload 0 57), (57, o_getf 7 7 60), (60, o_iload 6 62), (62, o_dup2 63), (63, o_iald 0 64), (64, o_iload 8 66), (66, o_bin (fun x y => x - y) 67), (67, o_iast 68), (68, o_iload 4 70), (70, o_iload 8 72), (72, o_bin (fun x y => x - y) 73), (73, o_istore 4 75), (75, o_iload 5 77), (77, o_const (-1) 78), (78, o_icmpne 90 81), (81, o_iload 7 83), (83, o_ifle 90 86), (86, o_iload 6 88), (88, o_istore 5 90), (90, o_iinc 6 (1) 93), (93, o_goto 27), (96, o_iload 5 98), (98, o_const (-1) 99), (99, o_icmpeq 114 102), (102, o_aload 0 103), (103, o_getf 7 7 106), (106, o_iload 5 108), (108, o_dup2 109), (109, o_iald 0 110), (110, o_iload 4 112), (112, o_bin (fun x y => x - y) 113), (113, o_iast 114), (114, o_return)]
set_option maxRecDepth 20000 in
set_option maxHeartbeats 4000000 in
theorem ok_X6_chargeOwners {GP : m_G → Prop} : ∀ q ∈ cd_X6_chargeOwners, m_OK GP m_my (cX6_chargeOwners, 9, RX6, false, none, []) q.1 q.2 :=
  m_cn (pc := 0) (ok_aload_n (m_dk dk_X6_chargeOwners 0 rfl) rfl rfl) <|
  m_cn (pc := 1) (ok_getf (k := 0) (hc0 := (rfl : vwCl[7]? = some (RX6, TX6, 15))) (by decide) in_X6 wd_134 (m_dk dk_X6_chargeOwners 1 rfl) rfl) <|
  m_cn (pc := 4) (ok_getf (k := 0) (hc0 := (rfl : vwCl[4]? = some (RX3, TX3, 16))) (by decide) in_X3 wd_44 (m_dk dk_X6_chargeOwners 2 rfl) rfl) <|
  m_cn (pc := 7) (ok_iload_n (m_dk dk_X6_chargeOwners 3 rfl) rfl rfl) <|
  m_cn (pc := 8) (ok_aald (C := "Cablecourt$Cable") (fun _ => rfl) (m_dk dk_X6_chargeOwners 4 rfl) rfl) <|
  m_cn (pc := 9) (ok_getf (k := 2) (hc0 := (rfl : vwCl[1]? = some (RX0, TX0, 7))) (by decide) in_X0 wd_436 (m_dk dk_X6_chargeOwners 5 rfl) rfl) <|
  m_cn (pc := 12) (ok_istore_n (m_dk dk_X6_chargeOwners 6 rfl) rfl rfl (by decide)) <|
  m_cn (pc := 13) (ok_iload_n (m_dk dk_X6_chargeOwners 7 rfl) rfl rfl) <|
  m_cn (pc := 14) (ok_ifgt (m_dk dk_X6_chargeOwners 8 rfl) rfl rfl) <|
  m_cn (pc := 17) (ok_return (nx := 0) rfl (m_dk dk_X6_chargeOwners 9 rfl)) <|
  m_cn (pc := 18) (ok_iload_n (m_dk dk_X6_chargeOwners 10 rfl) rfl rfl) <|
  m_cn (pc := 19) (ok_istore (m_dk dk_X6_chargeOwners 11 rfl) rfl (by decide)) <|
  m_cn (pc := 21) (ok_iconst (m_dk dk_X6_chargeOwners 12 rfl) (by decide) rfl) <|
  m_cn (pc := 22) (ok_istore (m_dk dk_X6_chargeOwners 13 rfl) rfl (by decide)) <|
  m_cn (pc := 24) (ok_iconst (m_dk dk_X6_chargeOwners 14 rfl) (by decide) rfl) <|
  m_cn (pc := 25) (ok_istore (m_dk dk_X6_chargeOwners 15 rfl) rfl (by decide)) <|
  m_cn (pc := 27) (ok_iload (m_dk dk_X6_chargeOwners 16 rfl) rfl) <|
  m_cn (pc := 29) (ok_bipush (m_dk dk_X6_chargeOwners 17 rfl) (by decide) rfl) <|
  m_cn (pc := 31) (ok_icmpge (m_dk dk_X6_chargeOwners 18 rfl) rfl rfl) <|
  m_cn (pc := 34) (ok_aload_n (m_dk dk_X6_chargeOwners 19 rfl) rfl rfl) <|
  m_cn (pc := 35) (ok_getf (k := 0) (hc0 := (rfl : vwCl[7]? = some (RX6, TX6, 15))) (by decide) in_X6 wd_134 (m_dk dk_X6_chargeOwners 20 rfl) rfl) <|
  m_cn (pc := 38) (ok_getf (k := 2) (hc0 := (rfl : vwCl[4]? = some (RX3, TX3, 16))) (by decide) in_X3 wd_48 (m_dk dk_X6_chargeOwners 21 rfl) rfl) <|
  m_cn (pc := 41) (ok_iload_n (m_dk dk_X6_chargeOwners 22 rfl) rfl rfl) <|
  m_cn (pc := 42) (ok_aaldI (m_dk dk_X6_chargeOwners 23 rfl) rfl) <|
  m_cn (pc := 43) (ok_iload (m_dk dk_X6_chargeOwners 24 rfl) rfl) <|
  m_cn (pc := 45) (ok_iald (m_dk dk_X6_chargeOwners 25 rfl) rfl) <|
  m_cn (pc := 46) (ok_istore (m_dk dk_X6_chargeOwners 26 rfl) rfl (by decide)) <|
  m_cn (pc := 48) (ok_iload_n (m_dk dk_X6_chargeOwners 27 rfl) rfl rfl) <|
  m_cn (pc := 49) (ok_iload (m_dk dk_X6_chargeOwners 28 rfl) rfl) <|
  m_cn (pc := 51) (ok_imul (m_dk dk_X6_chargeOwners 29 rfl) rfl) <|
  m_cn (pc := 52) (ok_iload_n (m_dk dk_X6_chargeOwners 30 rfl) rfl rfl) <|
  m_cn (pc := 53) (ok_idiv (m_dk dk_X6_chargeOwners 31 rfl) rfl) <|
  m_cn (pc := 54) (ok_istore (m_dk dk_X6_chargeOwners 32 rfl) rfl (by decide)) <|
  m_cn (pc := 56) (ok_aload_n (m_dk dk_X6_chargeOwners 33 rfl) rfl rfl) <|
  m_cn (pc := 57) (ok_getf (k := 7) (hc0 := (rfl : vwCl[7]? = some (RX6, TX6, 15))) (by decide) in_X6 wd_141 (m_dk dk_X6_chargeOwners 34 rfl) rfl) <|
  m_cn (pc := 60) (ok_iload (m_dk dk_X6_chargeOwners 35 rfl) rfl) <|
  m_cn (pc := 62) (ok_dup2 (m_dk dk_X6_chargeOwners 36 rfl) rfl) <|
  m_cn (pc := 63) (ok_iald (m_dk dk_X6_chargeOwners 37 rfl) rfl) <|
  m_cn (pc := 64) (ok_iload (m_dk dk_X6_chargeOwners 38 rfl) rfl) <|
  m_cn (pc := 66) (ok_isub (m_dk dk_X6_chargeOwners 39 rfl) rfl) <|
  m_cn (pc := 67) (ok_iast (m_dk dk_X6_chargeOwners 40 rfl) rfl) <|
  m_cn (pc := 68) (ok_iload (m_dk dk_X6_chargeOwners 41 rfl) rfl) <|
  m_cn (pc := 70) (ok_iload (m_dk dk_X6_chargeOwners 42 rfl) rfl) <|
  m_cn (pc := 72) (ok_isub (m_dk dk_X6_chargeOwners 43 rfl) rfl) <|
  m_cn (pc := 73) (ok_istore (m_dk dk_X6_chargeOwners 44 rfl) rfl (by decide)) <|
  m_cn (pc := 75) (ok_iload (m_dk dk_X6_chargeOwners 45 rfl) rfl) <|
  m_cn (pc := 77) (ok_iconst (m_dk dk_X6_chargeOwners 46 rfl) (by decide) rfl) <|
  m_cn (pc := 78) (ok_icmpne (m_dk dk_X6_chargeOwners 47 rfl) rfl rfl) <|
  m_cn (pc := 81) (ok_iload (m_dk dk_X6_chargeOwners 48 rfl) rfl) <|
  m_cn (pc := 83) (ok_ifle (m_dk dk_X6_chargeOwners 49 rfl) rfl rfl) <|
  m_cn (pc := 86) (ok_iload (m_dk dk_X6_chargeOwners 50 rfl) rfl) <|
  m_cn (pc := 88) (ok_istore (m_dk dk_X6_chargeOwners 51 rfl) rfl (by decide)) <|
  m_cn (pc := 90) (ok_iinc (m_dk dk_X6_chargeOwners 52 rfl) (by decide) rfl (by decide)) <|
  m_cn (pc := 93) (ok_goto (nx := 0) (m_dk dk_X6_chargeOwners 53 rfl) rfl) <|
  m_cn (pc := 96) (ok_iload (m_dk dk_X6_chargeOwners 54 rfl) rfl) <|
  m_cn (pc := 98) (ok_iconst (m_dk dk_X6_chargeOwners 55 rfl) (by decide) rfl) <|
  m_cn (pc := 99) (ok_icmpeq (m_dk dk_X6_chargeOwners 56 rfl) rfl rfl) <|
  m_cn (pc := 102) (ok_aload_n (m_dk dk_X6_chargeOwners 57 rfl) rfl rfl) <|
  m_cn (pc := 103) (ok_getf (k := 7) (hc0 := (rfl : vwCl[7]? = some (RX6, TX6, 15))) (by decide) in_X6 wd_141 (m_dk dk_X6_chargeOwners 58 rfl) rfl) <|
  m_cn (pc := 106) (ok_iload (m_dk dk_X6_chargeOwners 59 rfl) rfl) <|
  m_cn (pc := 108) (ok_dup2 (m_dk dk_X6_chargeOwners 60 rfl) rfl) <|
  m_cn (pc := 109) (ok_iald (m_dk dk_X6_chargeOwners 61 rfl) rfl) <|
  m_cn (pc := 110) (ok_iload (m_dk dk_X6_chargeOwners 62 rfl) rfl) <|
  m_cn (pc := 112) (ok_isub (m_dk dk_X6_chargeOwners 63 rfl) rfl) <|
  m_cn (pc := 113) (ok_iast (m_dk dk_X6_chargeOwners 64 rfl) rfl) <|
  m_cn (pc := 114) (ok_return (nx := 0) rfl (m_dk dk_X6_chargeOwners 65 rfl)) <|
  m_nl
theorem mk_X6_chargeOwners {GP : m_G → Prop} {cds : Nat → Nat → m_Op} (h : cds 48 = m_lk cd_X6_chargeOwners) : m_MOK GP m_my cds 48 := ⟨RX6, false, [], by decide +kernel, rfl, (fun h9 => by first | rfl | cases h9), Or.inl ⟨rfl, rfl⟩, fun pc => by rw [h]; exact m_lk_ok _ ok_X6_chargeOwners pc⟩
def dl_X6_runShip : List (Nat × Instr × Nat) := [(0, .aload_n 1, 1), (1, .getfield 160, 3), (4, .iconst (-1), 1), (5, .if_icmp .ne 4, 3), (8, .return_, 1), (9, .aload_n 0, 1), (10, .getfield 21, 3), (13, .aload_n 1, 1), (14, .getfield 160, 3), (17, .aaload, 1), (18, .astore_n 2, 1), (19, .aload_n 0, 1), (20, .aload_n 2, 1), (21, .getfield 239, 3), (24, .bipush 20, 2), (26, .invokevirtual 230, 3), (29, .aload_n 0, 1), (30, .dup, 1), (31, .getfield 201, 3), (34, .bipush 20, 2), (36, .iadd, 1), (37, .putfield 201, 3), (40, .aload_n 1, 1), (41, .getfield 163, 3), (44, .aload_n 2, 1), (45, .getfield 243, 3), (48, .if_icmp .eq 14, 3), (51, .aload_n 1, 1), (52, .aload_n 2, 1), (53, .getfield 243, 3), (56, .invokevirtual 246, 3), (59, .goto 23, 3), (62, .aload_n 0, 1), (63, .invokevirtual 249, 3), (66, .ifCond .ne 16, 3), (69, .aload_n 1, 1), (70, .getfield 168, 3), (73, .ifCond .le 9, 3), (76, .aload_n 0, 1), (77, .aload_n 1, 1), (78, .aload_n 2, 1), (79, .invokevirtual 253, 3), (82, .return_, 1)]
theorem dk_X6_runShip : ∀ q ∈ dl_X6_runShip, decode cX6_runShip q.1 = .ok q.2 := by decide +kernel
def cd_X6_runShip : List (Nat × m_Op) := [(0, o_aload 1 1), (1, o_getf 6 3 4), (4, o_const (-1) 5), (5, o_icmpne 9 8), (8, o_return), (9, o_aload 0 10), (10, o_getf 7 2 13), (13, o_aload 1 14), (14, o_getf 6 3 17), (17, o_aald 6 18), (18, o_astore 2 19), (19, o_aload 0 20), (20, o_aload 2 21), (21, o_getf 2 0 24), (24, o_const (20) 26), (26, o_callv 7 48 3 0 0 29), (29, o_aload 0 30), (30, o_dup 31), (31, o_getf 7 9 34), (34, o_const (20) 36), (36, o_bin (fun x y => x + y) 37), (37, o_puti 7 9 40), (40, o_aload 1 41), (41, o_getf 6 1 44), (44, o_aload 2 45), (45, o_getf 2 1 48), (48, o_icmpeq 62 51), (51, o_aload 1 52), (52, o_aload 2 53), (53, o_getf 2 1 56), (56, o_callv 6 21 2 0 0 59), (59, o_goto 82), (62, o_aload 0 63), (63, o_callv 7 51 1 0 0 66), (66, o_ifne 82 69), (69, o_aload 1 70), (70, o_getf 6 2 73), (73, o_ifle 82 76), (76, o_aload 0 77), (77, o_aload 1 78), (78, o_aload 2 79), (79, o_callv 7 50 3 0 0 82), (82, o_return)]
set_option maxRecDepth 20000 in
set_option maxHeartbeats 4000000 in
theorem ok_X6_runShip {GP : m_G → Prop} : ∀ q ∈ cd_X6_runShip, m_OK GP m_my (cX6_runShip, 3, RX6, false, none, []) q.1 q.2 :=
  m_cn (pc := 0) (ok_aload_n (m_dk dk_X6_runShip 0 rfl) rfl rfl) <|
  m_cn (pc := 1) (ok_getf (k := 3) (hc0 := (rfl : vwCl[6]? = some (RX5, TX5, 4))) (by decide) in_X5 wd_556 (m_dk dk_X6_runShip 1 rfl) rfl) <|
  m_cn (pc := 4) (ok_iconst (m_dk dk_X6_runShip 2 rfl) (by decide) rfl) <|
  m_cn (pc := 5) (ok_icmpne (m_dk dk_X6_runShip 3 rfl) rfl rfl) <|
  m_cn (pc := 8) (ok_return (nx := 0) rfl (m_dk dk_X6_runShip 4 rfl)) <|
  m_cn (pc := 9) (ok_aload_n (m_dk dk_X6_runShip 5 rfl) rfl rfl) <|
  m_cn (pc := 10) (ok_getf (k := 2) (hc0 := (rfl : vwCl[7]? = some (RX6, TX6, 15))) (by decide) in_X6 wd_136 (m_dk dk_X6_runShip 6 rfl) rfl) <|
  m_cn (pc := 13) (ok_aload_n (m_dk dk_X6_runShip 7 rfl) rfl rfl) <|
  m_cn (pc := 14) (ok_getf (k := 3) (hc0 := (rfl : vwCl[6]? = some (RX5, TX5, 4))) (by decide) in_X5 wd_556 (m_dk dk_X6_runShip 8 rfl) rfl) <|
  m_cn (pc := 17) (ok_aald (C := "Cablecourt$Cut") (fun _ => rfl) (m_dk dk_X6_runShip 9 rfl) rfl) <|
  m_cn (pc := 18) (ok_astore_n (m_dk dk_X6_runShip 10 rfl) rfl rfl (by decide)) <|
  m_cn (pc := 19) (ok_aload_n (m_dk dk_X6_runShip 11 rfl) rfl rfl) <|
  m_cn (pc := 20) (ok_aload_n (m_dk dk_X6_runShip 12 rfl) rfl rfl) <|
  m_cn (pc := 21) (ok_getf (k := 0) (hc0 := (rfl : vwCl[2]? = some (RX1, TX1, 5))) (by decide) in_X1 wd_693 (m_dk dk_X6_runShip 13 rfl) rfl) <|
  m_cn (pc := 24) (ok_bipush (m_dk dk_X6_runShip 14 rfl) (by decide) rfl) <|
  m_cn (pc := 26) (ok_callv (T := mt_X6_chargeOwners) my_X6_chargeOwners rfl cw_X6_chargeOwners rfl rfl (by decide) (r9 := (RX6, TX6, 15)) rfl rfl wd_345 wd_347 (m_wk 11 (by decide +kernel) (by decide +kernel)) wd_1 (by decide +kernel) (m_dk dk_X6_runShip 15 rfl) rfl) <|
  m_cn (pc := 29) (ok_aload_n (m_dk dk_X6_runShip 16 rfl) rfl rfl) <|
  m_cn (pc := 30) (ok_dup (m_dk dk_X6_runShip 17 rfl) rfl) <|
  m_cn (pc := 31) (ok_getf (k := 9) (hc0 := (rfl : vwCl[7]? = some (RX6, TX6, 15))) (by decide) in_X6 wd_143 (m_dk dk_X6_runShip 18 rfl) rfl) <|
  m_cn (pc := 34) (ok_bipush (m_dk dk_X6_runShip 19 rfl) (by decide) rfl) <|
  m_cn (pc := 36) (ok_iadd (m_dk dk_X6_runShip 20 rfl) rfl) <|
  m_cn (pc := 37) (ok_puti (k := 9) (hc0 := (rfl : vwCl[7]? = some (RX6, TX6, 15))) (by decide) in_X6 wd_143 tyX6 tyX6_ok nmX6 rfl (tyX6_ok 9 (by decide)) (m_dk dk_X6_runShip 21 rfl) rfl) <|
  m_cn (pc := 40) (ok_aload_n (m_dk dk_X6_runShip 22 rfl) rfl rfl) <|
  m_cn (pc := 41) (ok_getf (k := 1) (hc0 := (rfl : vwCl[6]? = some (RX5, TX5, 4))) (by decide) in_X5 wd_552 (m_dk dk_X6_runShip 23 rfl) rfl) <|
  m_cn (pc := 44) (ok_aload_n (m_dk dk_X6_runShip 24 rfl) rfl rfl) <|
  m_cn (pc := 45) (ok_getf (k := 1) (hc0 := (rfl : vwCl[2]? = some (RX1, TX1, 5))) (by decide) in_X1 wd_695 (m_dk dk_X6_runShip 25 rfl) rfl) <|
  m_cn (pc := 48) (ok_icmpeq (m_dk dk_X6_runShip 26 rfl) rfl rfl) <|
  m_cn (pc := 51) (ok_aload_n (m_dk dk_X6_runShip 27 rfl) rfl rfl) <|
  m_cn (pc := 52) (ok_aload_n (m_dk dk_X6_runShip 28 rfl) rfl rfl) <|
  m_cn (pc := 53) (ok_getf (k := 1) (hc0 := (rfl : vwCl[2]? = some (RX1, TX1, 5))) (by decide) in_X1 wd_695 (m_dk dk_X6_runShip 29 rfl) rfl) <|
  m_cn (pc := 56) (ok_callv (T := mt_X5_sailTo) my_X5_sailTo rfl cw_X5_sailTo rfl rfl (by decide) (r9 := (RX5, TX5, 4)) rfl rfl wd_353 wd_354 wd_355 wd_16 (by decide +kernel) (m_dk dk_X6_runShip 30 rfl) rfl) <|
  m_cn (pc := 59) (ok_goto (nx := 0) (m_dk dk_X6_runShip 31 rfl) rfl) <|
  m_cn (pc := 62) (ok_aload_n (m_dk dk_X6_runShip 32 rfl) rfl rfl) <|
  m_cn (pc := 63) (ok_callv (T := mt_X6_isStorm) my_X6_isStorm rfl cw_X6_isStorm rfl rfl (by decide) (r9 := (RX6, TX6, 15)) rfl rfl wd_359 wd_361 (m_wk 13 (by decide +kernel) (by decide +kernel)) wd_1 (by decide +kernel) (m_dk dk_X6_runShip 33 rfl) rfl) <|
  m_cn (pc := 66) (ok_ifne (m_dk dk_X6_runShip 34 rfl) rfl rfl) <|
  m_cn (pc := 69) (ok_aload_n (m_dk dk_X6_runShip 35 rfl) rfl rfl) <|
  m_cn (pc := 70) (ok_getf (k := 2) (hc0 := (rfl : vwCl[6]? = some (RX5, TX5, 4))) (by decide) in_X5 wd_554 (m_dk dk_X6_runShip 36 rfl) rfl) <|
  m_cn (pc := 73) (ok_ifle (m_dk dk_X6_runShip 37 rfl) rfl rfl) <|
  m_cn (pc := 76) (ok_aload_n (m_dk dk_X6_runShip 38 rfl) rfl rfl) <|
  m_cn (pc := 77) (ok_aload_n (m_dk dk_X6_runShip 39 rfl) rfl rfl) <|
  m_cn (pc := 78) (ok_aload_n (m_dk dk_X6_runShip 40 rfl) rfl rfl) <|
  m_cn (pc := 79) (ok_callv (T := mt_X6_work) my_X6_work rfl cw_X6_work rfl rfl (by decide) (r9 := (RX6, TX6, 15)) rfl rfl wd_363 wd_365 (m_wk 14 (by decide +kernel) (by decide +kernel)) wd_1 (by decide +kernel) (m_dk dk_X6_runShip 41 rfl) rfl) <|
  m_cn (pc := 82) (ok_return (nx := 0) rfl (m_dk dk_X6_runShip 42 rfl)) <|
  m_nl
theorem mk_X6_runShip {GP : m_G → Prop} {cds : Nat → Nat → m_Op} (h : cds 49 = m_lk cd_X6_runShip) : m_MOK GP m_my cds 49 := ⟨RX6, false, [], by decide +kernel, rfl, (fun h9 => by first | rfl | cases h9), Or.inl ⟨rfl, rfl⟩, fun pc => by rw [h]; exact m_lk_ok _ ok_X6_runShip pc⟩
def dl_X6_work : List (Nat × Instr × Nat) := [(0, .aload_n 2, 1), (1, .dup, 1), (2, .getfield 204, 3), (5, .iconst 1, 1), (6, .iadd, 1), (7, .putfield 204, 3), (10, .aload_n 2, 1), (11, .getfield 204, 3), (14, .iconst 5, 1), (15, .if_icmp .lt 39, 3), (18, .aload_n 2, 1), (19, .aload_n 0, 1), (20, .getfield 80, 3), (23, .iconst 1, 1), (24, .iadd, 1), (25, .putfield 233, 3), (28, .aload_n 0, 1), (29, .getfield 12, 3), (32, .aload_n 2, 1), (33, .getfield 239, 3), (36, .invokevirtual 257, 3), (39, .aload_n 1, 1), (40, .dup, 1), (41, .getfield 168, 3), (44, .iconst 1, 1), (45, .isub, 1), (46, .putfield 168, 3), (49, .aload_n 1, 1), (50, .iconst (-1), 1), (51, .putfield 160, 3), (54, .return_, 1)]
theorem dk_X6_work : ∀ q ∈ dl_X6_work, decode cX6_work q.1 = .ok q.2 := by decide +kernel
def cd_X6_work : List (Nat × m_Op) := [(0, o_aload 2 1), (1, o_dup 2), (2, o_getf 2 3 5), (5, o_const (1) 6), (6, o_bin (fun x y => x + y) 7), (7, o_puti 2 3 10), (10, o_aload 2 11), (11, o_getf 2 3 14), (14, o_const (5) 15), (15, o_icmplt 54 18), (18, o_aload 2 19), (19, o_aload 0 20), (20, o_getf 7 12 23), (23, o_const (1) 24), (24, o_bin (fun x y => x + y) 25), (25, o_puti 2 4 28), (28, o_aload 0 29), (29, o_getf 7 0 32), (32, o_aload 2 33), (33, o_getf 2 0 36), (36, o_callv 4 10 2 0 0 39), (39, o_aload 1 40), (40, o_dup 41), (41, o_getf 6 2 44), (44, o_const (1) 45), (45, o_bin (fun x y => x - y) 46), (46, o_puti 6 2 49), (49, o_aload 1 50), (50, o_const (-1) 51), (51, o_puti 6 3 54), (54, o_return)]
set_option maxRecDepth 20000 in
set_option maxHeartbeats 4000000 in
theorem ok_X6_work {GP : m_G → Prop} : ∀ q ∈ cd_X6_work, m_OK GP m_my (cX6_work, 3, RX6, false, none, []) q.1 q.2 :=
  m_cn (pc := 0) (ok_aload_n (m_dk dk_X6_work 0 rfl) rfl rfl) <|
  m_cn (pc := 1) (ok_dup (m_dk dk_X6_work 1 rfl) rfl) <|
  m_cn (pc := 2) (ok_getf (k := 3) (hc0 := (rfl : vwCl[2]? = some (RX1, TX1, 5))) (by decide) in_X1 wd_698 (m_dk dk_X6_work 2 rfl) rfl) <|
  m_cn (pc := 5) (ok_iconst (m_dk dk_X6_work 3 rfl) (by decide) rfl) <|
  m_cn (pc := 6) (ok_iadd (m_dk dk_X6_work 4 rfl) rfl) <|
  m_cn (pc := 7) (ok_puti (k := 3) (hc0 := (rfl : vwCl[2]? = some (RX1, TX1, 5))) (by decide) in_X1 wd_698 tyX1 tyX1_ok nmX1 rfl (tyX1_ok 3 (by decide)) (m_dk dk_X6_work 5 rfl) rfl) <|
  m_cn (pc := 10) (ok_aload_n (m_dk dk_X6_work 6 rfl) rfl rfl) <|
  m_cn (pc := 11) (ok_getf (k := 3) (hc0 := (rfl : vwCl[2]? = some (RX1, TX1, 5))) (by decide) in_X1 wd_698 (m_dk dk_X6_work 7 rfl) rfl) <|
  m_cn (pc := 14) (ok_iconst (m_dk dk_X6_work 8 rfl) (by decide) rfl) <|
  m_cn (pc := 15) (ok_icmplt (m_dk dk_X6_work 9 rfl) rfl rfl) <|
  m_cn (pc := 18) (ok_aload_n (m_dk dk_X6_work 10 rfl) rfl rfl) <|
  m_cn (pc := 19) (ok_aload_n (m_dk dk_X6_work 11 rfl) rfl rfl) <|
  m_cn (pc := 20) (ok_getf (k := 12) (hc0 := (rfl : vwCl[7]? = some (RX6, TX6, 15))) (by decide) in_X6 wd_146 (m_dk dk_X6_work 12 rfl) rfl) <|
  m_cn (pc := 23) (ok_iconst (m_dk dk_X6_work 13 rfl) (by decide) rfl) <|
  m_cn (pc := 24) (ok_iadd (m_dk dk_X6_work 14 rfl) rfl) <|
  m_cn (pc := 25) (ok_puti (k := 4) (hc0 := (rfl : vwCl[2]? = some (RX1, TX1, 5))) (by decide) in_X1 wd_700 tyX1 tyX1_ok nmX1 rfl (tyX1_ok 4 (by decide)) (m_dk dk_X6_work 15 rfl) rfl) <|
  m_cn (pc := 28) (ok_aload_n (m_dk dk_X6_work 16 rfl) rfl rfl) <|
  m_cn (pc := 29) (ok_getf (k := 0) (hc0 := (rfl : vwCl[7]? = some (RX6, TX6, 15))) (by decide) in_X6 wd_134 (m_dk dk_X6_work 17 rfl) rfl) <|
  m_cn (pc := 32) (ok_aload_n (m_dk dk_X6_work 18 rfl) rfl rfl) <|
  m_cn (pc := 33) (ok_getf (k := 0) (hc0 := (rfl : vwCl[2]? = some (RX1, TX1, 5))) (by decide) in_X1 wd_693 (m_dk dk_X6_work 19 rfl) rfl) <|
  m_cn (pc := 36) (ok_callv (T := mt_X3_mend) my_X3_mend rfl cw_X3_mend rfl rfl (by decide) (r9 := (RX3, TX3, 16)) rfl rfl wd_367 wd_368 wd_369 wd_2 (by decide +kernel) (m_dk dk_X6_work 20 rfl) rfl) <|
  m_cn (pc := 39) (ok_aload_n (m_dk dk_X6_work 21 rfl) rfl rfl) <|
  m_cn (pc := 40) (ok_dup (m_dk dk_X6_work 22 rfl) rfl) <|
  m_cn (pc := 41) (ok_getf (k := 2) (hc0 := (rfl : vwCl[6]? = some (RX5, TX5, 4))) (by decide) in_X5 wd_554 (m_dk dk_X6_work 23 rfl) rfl) <|
  m_cn (pc := 44) (ok_iconst (m_dk dk_X6_work 24 rfl) (by decide) rfl) <|
  m_cn (pc := 45) (ok_isub (m_dk dk_X6_work 25 rfl) rfl) <|
  m_cn (pc := 46) (ok_puti (k := 2) (hc0 := (rfl : vwCl[6]? = some (RX5, TX5, 4))) (by decide) in_X5 wd_554 tyX5 tyX5_ok nmX5 rfl (tyX5_ok 2 (by decide)) (m_dk dk_X6_work 26 rfl) rfl) <|
  m_cn (pc := 49) (ok_aload_n (m_dk dk_X6_work 27 rfl) rfl rfl) <|
  m_cn (pc := 50) (ok_iconst (m_dk dk_X6_work 28 rfl) (by decide) rfl) <|
  m_cn (pc := 51) (ok_puti (k := 3) (hc0 := (rfl : vwCl[6]? = some (RX5, TX5, 4))) (by decide) in_X5 wd_556 tyX5 tyX5_ok nmX5 rfl (tyX5_ok 3 (by decide)) (m_dk dk_X6_work 29 rfl) rfl) <|
  m_cn (pc := 54) (ok_return (nx := 0) rfl (m_dk dk_X6_work 30 rfl)) <|
  m_nl
theorem mk_X6_work {GP : m_G → Prop} {cds : Nat → Nat → m_Op} (h : cds 50 = m_lk cd_X6_work) : m_MOK GP m_my cds 50 := ⟨RX6, false, [], by decide +kernel, rfl, (fun h9 => by first | rfl | cases h9), Or.inl ⟨rfl, rfl⟩, fun pc => by rw [h]; exact m_lk_ok _ ok_X6_work pc⟩
def dl_X6_isStorm : List (Nat × Instr × Nat) := [(0, .aload_n 0, 1), (1, .getfield 50, 3), (4, .aload_n 0, 1), (5, .getfield 80, 3), (8, .if_icmp .gt 18, 3), (11, .aload_n 0, 1), (12, .getfield 80, 3), (15, .aload_n 0, 1), (16, .getfield 54, 3), (19, .if_icmp .gt 7, 3), (22, .iconst 1, 1), (23, .goto 4, 3), (26, .iconst 0, 1), (27, .ireturn, 1)]
theorem dk_X6_isStorm : ∀ q ∈ dl_X6_isStorm, decode cX6_isStorm q.1 = .ok q.2 := by decide +kernel
def cd_X6_isStorm : List (Nat × m_Op) := [(0, o_aload 0 1), (1, o_getf 7 13 4), (4, o_aload 0 5), (5, o_getf 7 12 8), (8, o_icmpgt 26 11), (11, o_aload 0 12), (12, o_getf 7 12 15), (15, o_aload 0 16), (16, o_getf 7 14 19), (19, o_icmpgt 26 22), (22, o_const (1) 23), (23, o_goto 27), (26, o_const (0) 27), (27, o_zreturn)]
set_option maxRecDepth 20000 in
set_option maxHeartbeats 4000000 in
theorem ok_X6_isStorm {GP : m_G → Prop} : ∀ q ∈ cd_X6_isStorm, m_OK GP m_my (cX6_isStorm, 1, RX6, false, (some .boolean), []) q.1 q.2 :=
  m_cn (pc := 0) (ok_aload_n (m_dk dk_X6_isStorm 0 rfl) rfl rfl) <|
  m_cn (pc := 1) (ok_getf (k := 13) (hc0 := (rfl : vwCl[7]? = some (RX6, TX6, 15))) (by decide) in_X6 wd_147 (m_dk dk_X6_isStorm 1 rfl) rfl) <|
  m_cn (pc := 4) (ok_aload_n (m_dk dk_X6_isStorm 2 rfl) rfl rfl) <|
  m_cn (pc := 5) (ok_getf (k := 12) (hc0 := (rfl : vwCl[7]? = some (RX6, TX6, 15))) (by decide) in_X6 wd_146 (m_dk dk_X6_isStorm 3 rfl) rfl) <|
  m_cn (pc := 8) (ok_icmpgt (m_dk dk_X6_isStorm 4 rfl) rfl rfl) <|
  m_cn (pc := 11) (ok_aload_n (m_dk dk_X6_isStorm 5 rfl) rfl rfl) <|
  m_cn (pc := 12) (ok_getf (k := 12) (hc0 := (rfl : vwCl[7]? = some (RX6, TX6, 15))) (by decide) in_X6 wd_146 (m_dk dk_X6_isStorm 6 rfl) rfl) <|
  m_cn (pc := 15) (ok_aload_n (m_dk dk_X6_isStorm 7 rfl) rfl rfl) <|
  m_cn (pc := 16) (ok_getf (k := 14) (hc0 := (rfl : vwCl[7]? = some (RX6, TX6, 15))) (by decide) in_X6 wd_148 (m_dk dk_X6_isStorm 8 rfl) rfl) <|
  m_cn (pc := 19) (ok_icmpgt (m_dk dk_X6_isStorm 9 rfl) rfl rfl) <|
  m_cn (pc := 22) (ok_iconst (m_dk dk_X6_isStorm 10 rfl) (by decide) rfl) <|
  m_cn (pc := 23) (ok_goto (nx := 0) (m_dk dk_X6_isStorm 11 rfl) rfl) <|
  m_cn (pc := 26) (ok_iconst (m_dk dk_X6_isStorm 12 rfl) (by decide) rfl) <|
  m_cn (pc := 27) (ok_zreturn (nx := 0) rfl (m_dk dk_X6_isStorm 13 rfl)) <|
  m_nl
theorem mk_X6_isStorm {GP : m_G → Prop} {cds : Nat → Nat → m_Op} (h : cds 51 = m_lk cd_X6_isStorm) : m_MOK GP m_my cds 51 := ⟨RX6, false, [], by decide +kernel, rfl, (fun h9 => by first | rfl | cases h9), Or.inl ⟨rfl, rfl⟩, fun pc => by rw [h]; exact m_lk_ok _ ok_X6_isStorm pc⟩
def dl_X6_retellNet : List (Nat × Instr × Nat) := [(0, .aload_n 0, 1), (1, .getfield 16, 3), (4, .getfield 72, 3), (7, .istore_n 2, 1), (8, .iload_n 2, 1), (9, .aload_n 0, 1), (10, .getfield 12, 3), (13, .getfield 72, 3), (16, .if_icmp .ge 41, 3), (19, .aload_n 0, 1), (20, .getfield 12, 3), (23, .getfield 129, 3), (26, .iload_n 2, 1), (27, .aaload, 1), (28, .getfield 260, 3), (31, .iload_n 1, 1), (32, .if_icmp .gt 25, 3), (35, .aload_n 0, 1), (36, .getfield 16, 3), (39, .aload_n 0, 1), (40, .getfield 12, 3), (43, .getfield 129, 3), (46, .iload_n 2, 1), (47, .aaload, 1), (48, .invokevirtual 86, 3), (51, .iinc 2 1, 3), (54, .goto (-46), 3), (57, .aload_n 0, 1), (58, .getfield 16, 3), (61, .getfield 90, 3), (64, .istore_n 2, 1), (65, .iload_n 2, 1), (66, .aload_n 0, 1), (67, .getfield 12, 3), (70, .getfield 90, 3), (73, .if_icmp .ge 41, 3), (76, .aload_n 0, 1), (77, .getfield 12, 3), (80, .getfield 220, 3), (83, .iload_n 2, 1), (84, .aaload, 1), (85, .getfield 263, 3), (88, .iload_n 1, 1), (89, .if_icmp .gt 25, 3), (92, .aload_n 0, 1), (93, .getfield 16, 3), (96, .aload_n 0, 1), (97, .getfield 12, 3), (100, .getfield 220, 3), (103, .iload_n 2, 1), (104, .aaload, 1), (105, .invokevirtual 96, 3), (108, .iinc 2 1, 3), (111, .goto (-46), 3), (114, .iconst 0, 1), (115, .istore_n 2, 1), (116, .iload_n 2, 1), (117, .aload_n 0, 1), (118, .getfield 142, 3), (121, .if_icmp .ge 67, 3), (124, .aload_n 0, 1), (125, .getfield 21, 3), (128, .iload_n 2, 1), (129, .aaload, 1), (130, .getfield 233, 3), (133, .iload_n 1, 1), (134, .if_icmp .ne 19, 3), (137, .aload_n 0, 1), (138, .getfield 16, 3), (141, .aload_n 0, 1), (142, .getfield 21, 3), (145, .iload_n 2, 1), (146, .aaload, 1), (147, .getfield 239, 3), (150, .invokevirtual 257, 3), (153, .aload_n 0, 1), (154, .getfield 21, 3), (157, .iload_n 2, 1), (158, .aaload, 1), (159, .getfield 236, 3), (162, .iload_n 1, 1), (163, .if_icmp .ne 19, 3), (166, .aload_n 0, 1), (167, .getfield 16, 3), (170, .aload_n 0, 1), (171, .getfield 21, 3), (174, .iload_n 2, 1), (175, .aaload, 1), (176, .getfield 239, 3), (179, .invokevirtual 150, 3), (182, .iinc 2 1, 3), (185, .goto (-69), 3), (188, .return_, 1)]
theorem dk_X6_retellNet : ∀ q ∈ dl_X6_retellNet, decode cX6_retellNet q.1 = .ok q.2 := by decide +kernel
def cd_X6_retellNet : List (Nat × m_Op) := [(0, o_aload 0 1), (1, o_getf 7 1 4), (4, o_getf 4 7 7), (7, o_istore 2 8), (8, o_iload 2 9), (9, o_aload 0 10), (10, o_getf 7 0 13), (13, o_getf 4 7 16), (16, o_icmpge 57 19), (19, o_aload 0 20), (20, o_getf 7 0 23), (23, o_getf 4 0 26), (26, o_iload 2 27), (27, o_aald 4 28), (28, o_getf 1 4 31), (31, o_iload 1 32), (32, o_icmpgt 57 35), (35, o_aload 0 36), (36, o_getf 7 1 39), (39, o_aload 0 40), (40, o_getf 7 0 43), (43, o_getf 4 0 46), (46, o_iload 2 47), (47, o_aald 4 48), (48, o_callv 4 6 2 0 0 51), (51, o_iinc 2 (1) 54), (54, o_goto 8), (57, o_aload 0 58), (58, o_getf 7 1 61), (61, o_getf 4 8 64), (64, o_istore 2 65), (65, o_iload 2 66), (66, o_aload 0 67), (67, o_getf 7 0 70), (70, o_getf 4 8 73), (73, o_icmpge 114 76), (76, o_aload 0 77), (77, o_getf 7 0 80), (80, o_getf 4 3 83), (83, o_iload 2 84), (84, o_aald 5 85), (85, o_getf 3 4 88), (88, o_iload 1 89), (89, o_icmpgt 114 92), (92, o_aload 0 93), (93, o_getf 7 1 96), (96, o_aload 0 97), (97, o_getf 7 0 100), (100, o_getf 4 3 103), (103, o_iload 2 104), (104, o_aald 5 105), (105, o_callv 4 7 2 0 0 108), (108, o_iinc 2 (1) 111), (111, o_goto 65), (114, o_const (0) 115), (115, o_istore 2 116), (116, o_iload 2 117), (117, o_aload 0 118), (118, o_getf 7 10 121), (121, o_icmpge 188 124), (124, o_aload 0 125), (125, o_getf 7 2 128), (128, o_iload 2 129), (129, o_aald 6 130), (130, o_getf 2 4 133), (133, o_iload 1 134), (134, o_icmpne 153 137), (137, o_aload 0 138), (138, o_getf 7 1 141), (141, o_aload 0 142), (142, o_getf 7 2 145), (145, o_iload 2 146), (146, o_aald 6 147), (147, o_getf 2 0 150), (150, o_callv 4 10 2 0 0 153), (153, o_aload 0 154), (154, o_getf 7 2 157), (157, o_iload 2 158), (158, o_aald 6 159), (159, o_getf 2 2 162), (162, o_iload 1 163), (163, o_icmpne 182 166), (166, o_aload 0 167), (167, o_getf 7 1 170), (170, o_aload 0 171), (171, o_getf 7 2 174), (174, o_iload 2 175), (175, o_aald 6 176), (176, o_getf 2 0 179), (179, o_callv 4 9 2 0 0 182), (182, o_iinc 2 (1) 185), (185, o_goto 116), (188, o_return)]
set_option maxRecDepth 20000 in
set_option maxHeartbeats 4000000 in
theorem ok_X6_retellNet {GP : m_G → Prop} : ∀ q ∈ cd_X6_retellNet, m_OK GP m_my (cX6_retellNet, 3, RX6, false, none, []) q.1 q.2 :=
  m_cn (pc := 0) (ok_aload_n (m_dk dk_X6_retellNet 0 rfl) rfl rfl) <|
  m_cn (pc := 1) (ok_getf (k := 1) (hc0 := (rfl : vwCl[7]? = some (RX6, TX6, 15))) (by decide) in_X6 wd_135 (m_dk dk_X6_retellNet 1 rfl) rfl) <|
  m_cn (pc := 4) (ok_getf (k := 7) (hc0 := (rfl : vwCl[4]? = some (RX3, TX3, 16))) (by decide) in_X3 wd_58 (m_dk dk_X6_retellNet 2 rfl) rfl) <|
  m_cn (pc := 7) (ok_istore_n (m_dk dk_X6_retellNet 3 rfl) rfl rfl (by decide)) <|
  m_cn (pc := 8) (ok_iload_n (m_dk dk_X6_retellNet 4 rfl) rfl rfl) <|
  m_cn (pc := 9) (ok_aload_n (m_dk dk_X6_retellNet 5 rfl) rfl rfl) <|
  m_cn (pc := 10) (ok_getf (k := 0) (hc0 := (rfl : vwCl[7]? = some (RX6, TX6, 15))) (by decide) in_X6 wd_134 (m_dk dk_X6_retellNet 6 rfl) rfl) <|
  m_cn (pc := 13) (ok_getf (k := 7) (hc0 := (rfl : vwCl[4]? = some (RX3, TX3, 16))) (by decide) in_X3 wd_58 (m_dk dk_X6_retellNet 7 rfl) rfl) <|
  m_cn (pc := 16) (ok_icmpge (m_dk dk_X6_retellNet 8 rfl) rfl rfl) <|
  m_cn (pc := 19) (ok_aload_n (m_dk dk_X6_retellNet 9 rfl) rfl rfl) <|
  m_cn (pc := 20) (ok_getf (k := 0) (hc0 := (rfl : vwCl[7]? = some (RX6, TX6, 15))) (by decide) in_X6 wd_134 (m_dk dk_X6_retellNet 10 rfl) rfl) <|
  m_cn (pc := 23) (ok_getf (k := 0) (hc0 := (rfl : vwCl[4]? = some (RX3, TX3, 16))) (by decide) in_X3 wd_44 (m_dk dk_X6_retellNet 11 rfl) rfl) <|
  m_cn (pc := 26) (ok_iload_n (m_dk dk_X6_retellNet 12 rfl) rfl rfl) <|
  m_cn (pc := 27) (ok_aald (C := "Cablecourt$Cable") (fun _ => rfl) (m_dk dk_X6_retellNet 13 rfl) rfl) <|
  m_cn (pc := 28) (ok_getf (k := 4) (hc0 := (rfl : vwCl[1]? = some (RX0, TX0, 7))) (by decide) in_X0 wd_440 (m_dk dk_X6_retellNet 14 rfl) rfl) <|
  m_cn (pc := 31) (ok_iload_n (m_dk dk_X6_retellNet 15 rfl) rfl rfl) <|
  m_cn (pc := 32) (ok_icmpgt (m_dk dk_X6_retellNet 16 rfl) rfl rfl) <|
  m_cn (pc := 35) (ok_aload_n (m_dk dk_X6_retellNet 17 rfl) rfl rfl) <|
  m_cn (pc := 36) (ok_getf (k := 1) (hc0 := (rfl : vwCl[7]? = some (RX6, TX6, 15))) (by decide) in_X6 wd_135 (m_dk dk_X6_retellNet 18 rfl) rfl) <|
  m_cn (pc := 39) (ok_aload_n (m_dk dk_X6_retellNet 19 rfl) rfl rfl) <|
  m_cn (pc := 40) (ok_getf (k := 0) (hc0 := (rfl : vwCl[7]? = some (RX6, TX6, 15))) (by decide) in_X6 wd_134 (m_dk dk_X6_retellNet 20 rfl) rfl) <|
  m_cn (pc := 43) (ok_getf (k := 0) (hc0 := (rfl : vwCl[4]? = some (RX3, TX3, 16))) (by decide) in_X3 wd_44 (m_dk dk_X6_retellNet 21 rfl) rfl) <|
  m_cn (pc := 46) (ok_iload_n (m_dk dk_X6_retellNet 22 rfl) rfl rfl) <|
  m_cn (pc := 47) (ok_aald (C := "Cablecourt$Cable") (fun _ => rfl) (m_dk dk_X6_retellNet 23 rfl) rfl) <|
  m_cn (pc := 48) (ok_callv (T := mt_X3_lay) my_X3_lay rfl cw_X3_lay rfl rfl (by decide) (r9 := (RX3, TX3, 16)) rfl rfl wd_461 wd_462 wd_463 wd_2 (by decide +kernel) (m_dk dk_X6_retellNet 24 rfl) rfl) <|
  m_cn (pc := 51) (ok_iinc (m_dk dk_X6_retellNet 25 rfl) (by decide) rfl (by decide)) <|
  m_cn (pc := 54) (ok_goto (nx := 0) (m_dk dk_X6_retellNet 26 rfl) rfl) <|
  m_cn (pc := 57) (ok_aload_n (m_dk dk_X6_retellNet 27 rfl) rfl rfl) <|
  m_cn (pc := 58) (ok_getf (k := 1) (hc0 := (rfl : vwCl[7]? = some (RX6, TX6, 15))) (by decide) in_X6 wd_135 (m_dk dk_X6_retellNet 28 rfl) rfl) <|
  m_cn (pc := 61) (ok_getf (k := 8) (hc0 := (rfl : vwCl[4]? = some (RX3, TX3, 16))) (by decide) in_X3 wd_60 (m_dk dk_X6_retellNet 29 rfl) rfl) <|
  m_cn (pc := 64) (ok_istore_n (m_dk dk_X6_retellNet 30 rfl) rfl rfl (by decide)) <|
  m_cn (pc := 65) (ok_iload_n (m_dk dk_X6_retellNet 31 rfl) rfl rfl) <|
  m_cn (pc := 66) (ok_aload_n (m_dk dk_X6_retellNet 32 rfl) rfl rfl) <|
  m_cn (pc := 67) (ok_getf (k := 0) (hc0 := (rfl : vwCl[7]? = some (RX6, TX6, 15))) (by decide) in_X6 wd_134 (m_dk dk_X6_retellNet 33 rfl) rfl) <|
  m_cn (pc := 70) (ok_getf (k := 8) (hc0 := (rfl : vwCl[4]? = some (RX3, TX3, 16))) (by decide) in_X3 wd_60 (m_dk dk_X6_retellNet 34 rfl) rfl) <|
  m_cn (pc := 73) (ok_icmpge (m_dk dk_X6_retellNet 35 rfl) rfl rfl) <|
  m_cn (pc := 76) (ok_aload_n (m_dk dk_X6_retellNet 36 rfl) rfl rfl) <|
  m_cn (pc := 77) (ok_getf (k := 0) (hc0 := (rfl : vwCl[7]? = some (RX6, TX6, 15))) (by decide) in_X6 wd_134 (m_dk dk_X6_retellNet 37 rfl) rfl) <|
  m_cn (pc := 80) (ok_getf (k := 3) (hc0 := (rfl : vwCl[4]? = some (RX3, TX3, 16))) (by decide) in_X3 wd_50 (m_dk dk_X6_retellNet 38 rfl) rfl) <|
  m_cn (pc := 83) (ok_iload_n (m_dk dk_X6_retellNet 39 rfl) rfl rfl) <|
  m_cn (pc := 84) (ok_aald (C := "Cablecourt$Demand") (fun _ => rfl) (m_dk dk_X6_retellNet 40 rfl) rfl) <|
  m_cn (pc := 85) (ok_getf (k := 4) (hc0 := (rfl : vwCl[3]? = some (RX2, TX2, 5))) (by decide) in_X2 wd_508 (m_dk dk_X6_retellNet 41 rfl) rfl) <|
  m_cn (pc := 88) (ok_iload_n (m_dk dk_X6_retellNet 42 rfl) rfl rfl) <|
  m_cn (pc := 89) (ok_icmpgt (m_dk dk_X6_retellNet 43 rfl) rfl rfl) <|
  m_cn (pc := 92) (ok_aload_n (m_dk dk_X6_retellNet 44 rfl) rfl rfl) <|
  m_cn (pc := 93) (ok_getf (k := 1) (hc0 := (rfl : vwCl[7]? = some (RX6, TX6, 15))) (by decide) in_X6 wd_135 (m_dk dk_X6_retellNet 45 rfl) rfl) <|
  m_cn (pc := 96) (ok_aload_n (m_dk dk_X6_retellNet 46 rfl) rfl rfl) <|
  m_cn (pc := 97) (ok_getf (k := 0) (hc0 := (rfl : vwCl[7]? = some (RX6, TX6, 15))) (by decide) in_X6 wd_134 (m_dk dk_X6_retellNet 47 rfl) rfl) <|
  m_cn (pc := 100) (ok_getf (k := 3) (hc0 := (rfl : vwCl[4]? = some (RX3, TX3, 16))) (by decide) in_X3 wd_50 (m_dk dk_X6_retellNet 48 rfl) rfl) <|
  m_cn (pc := 103) (ok_iload_n (m_dk dk_X6_retellNet 49 rfl) rfl rfl) <|
  m_cn (pc := 104) (ok_aald (C := "Cablecourt$Demand") (fun _ => rfl) (m_dk dk_X6_retellNet 50 rfl) rfl) <|
  m_cn (pc := 105) (ok_callv (T := mt_X3_tell) my_X3_tell rfl cw_X3_tell rfl rfl (by decide) (r9 := (RX3, TX3, 16)) rfl rfl wd_520 wd_521 wd_522 wd_2 (by decide +kernel) (m_dk dk_X6_retellNet 51 rfl) rfl) <|
  m_cn (pc := 108) (ok_iinc (m_dk dk_X6_retellNet 52 rfl) (by decide) rfl (by decide)) <|
  m_cn (pc := 111) (ok_goto (nx := 0) (m_dk dk_X6_retellNet 53 rfl) rfl) <|
  m_cn (pc := 114) (ok_iconst (m_dk dk_X6_retellNet 54 rfl) (by decide) rfl) <|
  m_cn (pc := 115) (ok_istore_n (m_dk dk_X6_retellNet 55 rfl) rfl rfl (by decide)) <|
  m_cn (pc := 116) (ok_iload_n (m_dk dk_X6_retellNet 56 rfl) rfl rfl) <|
  m_cn (pc := 117) (ok_aload_n (m_dk dk_X6_retellNet 57 rfl) rfl rfl) <|
  m_cn (pc := 118) (ok_getf (k := 10) (hc0 := (rfl : vwCl[7]? = some (RX6, TX6, 15))) (by decide) in_X6 wd_144 (m_dk dk_X6_retellNet 58 rfl) rfl) <|
  m_cn (pc := 121) (ok_icmpge (m_dk dk_X6_retellNet 59 rfl) rfl rfl) <|
  m_cn (pc := 124) (ok_aload_n (m_dk dk_X6_retellNet 60 rfl) rfl rfl) <|
  m_cn (pc := 125) (ok_getf (k := 2) (hc0 := (rfl : vwCl[7]? = some (RX6, TX6, 15))) (by decide) in_X6 wd_136 (m_dk dk_X6_retellNet 61 rfl) rfl) <|
  m_cn (pc := 128) (ok_iload_n (m_dk dk_X6_retellNet 62 rfl) rfl rfl) <|
  m_cn (pc := 129) (ok_aald (C := "Cablecourt$Cut") (fun _ => rfl) (m_dk dk_X6_retellNet 63 rfl) rfl) <|
  m_cn (pc := 130) (ok_getf (k := 4) (hc0 := (rfl : vwCl[2]? = some (RX1, TX1, 5))) (by decide) in_X1 wd_700 (m_dk dk_X6_retellNet 64 rfl) rfl) <|
  m_cn (pc := 133) (ok_iload_n (m_dk dk_X6_retellNet 65 rfl) rfl rfl) <|
  m_cn (pc := 134) (ok_icmpne (m_dk dk_X6_retellNet 66 rfl) rfl rfl) <|
  m_cn (pc := 137) (ok_aload_n (m_dk dk_X6_retellNet 67 rfl) rfl rfl) <|
  m_cn (pc := 138) (ok_getf (k := 1) (hc0 := (rfl : vwCl[7]? = some (RX6, TX6, 15))) (by decide) in_X6 wd_135 (m_dk dk_X6_retellNet 68 rfl) rfl) <|
  m_cn (pc := 141) (ok_aload_n (m_dk dk_X6_retellNet 69 rfl) rfl rfl) <|
  m_cn (pc := 142) (ok_getf (k := 2) (hc0 := (rfl : vwCl[7]? = some (RX6, TX6, 15))) (by decide) in_X6 wd_136 (m_dk dk_X6_retellNet 70 rfl) rfl) <|
  m_cn (pc := 145) (ok_iload_n (m_dk dk_X6_retellNet 71 rfl) rfl rfl) <|
  m_cn (pc := 146) (ok_aald (C := "Cablecourt$Cut") (fun _ => rfl) (m_dk dk_X6_retellNet 72 rfl) rfl) <|
  m_cn (pc := 147) (ok_getf (k := 0) (hc0 := (rfl : vwCl[2]? = some (RX1, TX1, 5))) (by decide) in_X1 wd_693 (m_dk dk_X6_retellNet 73 rfl) rfl) <|
  m_cn (pc := 150) (ok_callv (T := mt_X3_mend) my_X3_mend rfl cw_X3_mend rfl rfl (by decide) (r9 := (RX3, TX3, 16)) rfl rfl wd_367 wd_368 wd_369 wd_2 (by decide +kernel) (m_dk dk_X6_retellNet 74 rfl) rfl) <|
  m_cn (pc := 153) (ok_aload_n (m_dk dk_X6_retellNet 75 rfl) rfl rfl) <|
  m_cn (pc := 154) (ok_getf (k := 2) (hc0 := (rfl : vwCl[7]? = some (RX6, TX6, 15))) (by decide) in_X6 wd_136 (m_dk dk_X6_retellNet 76 rfl) rfl) <|
  m_cn (pc := 157) (ok_iload_n (m_dk dk_X6_retellNet 77 rfl) rfl rfl) <|
  m_cn (pc := 158) (ok_aald (C := "Cablecourt$Cut") (fun _ => rfl) (m_dk dk_X6_retellNet 78 rfl) rfl) <|
  m_cn (pc := 159) (ok_getf (k := 2) (hc0 := (rfl : vwCl[2]? = some (RX1, TX1, 5))) (by decide) in_X1 wd_697 (m_dk dk_X6_retellNet 79 rfl) rfl) <|
  m_cn (pc := 162) (ok_iload_n (m_dk dk_X6_retellNet 80 rfl) rfl rfl) <|
  m_cn (pc := 163) (ok_icmpne (m_dk dk_X6_retellNet 81 rfl) rfl rfl) <|
  m_cn (pc := 166) (ok_aload_n (m_dk dk_X6_retellNet 82 rfl) rfl rfl) <|
  m_cn (pc := 167) (ok_getf (k := 1) (hc0 := (rfl : vwCl[7]? = some (RX6, TX6, 15))) (by decide) in_X6 wd_135 (m_dk dk_X6_retellNet 83 rfl) rfl) <|
  m_cn (pc := 170) (ok_aload_n (m_dk dk_X6_retellNet 84 rfl) rfl rfl) <|
  m_cn (pc := 171) (ok_getf (k := 2) (hc0 := (rfl : vwCl[7]? = some (RX6, TX6, 15))) (by decide) in_X6 wd_136 (m_dk dk_X6_retellNet 85 rfl) rfl) <|
  m_cn (pc := 174) (ok_iload_n (m_dk dk_X6_retellNet 86 rfl) rfl rfl) <|
  m_cn (pc := 175) (ok_aald (C := "Cablecourt$Cut") (fun _ => rfl) (m_dk dk_X6_retellNet 87 rfl) rfl) <|
  m_cn (pc := 176) (ok_getf (k := 0) (hc0 := (rfl : vwCl[2]? = some (RX1, TX1, 5))) (by decide) in_X1 wd_693 (m_dk dk_X6_retellNet 88 rfl) rfl) <|
  m_cn (pc := 179) (ok_callv (T := mt_X3_sever) my_X3_sever rfl cw_X3_sever rfl rfl (by decide) (r9 := (RX3, TX3, 16)) rfl rfl wd_712 wd_713 wd_714 wd_2 (by decide +kernel) (m_dk dk_X6_retellNet 89 rfl) rfl) <|
  m_cn (pc := 182) (ok_iinc (m_dk dk_X6_retellNet 90 rfl) (by decide) rfl (by decide)) <|
  m_cn (pc := 185) (ok_goto (nx := 0) (m_dk dk_X6_retellNet 91 rfl) rfl) <|
  m_cn (pc := 188) (ok_return (nx := 0) rfl (m_dk dk_X6_retellNet 92 rfl)) <|
  m_nl
theorem mk_X6_retellNet {GP : m_G → Prop} {cds : Nat → Nat → m_Op} (h : cds 52 = m_lk cd_X6_retellNet) : m_MOK GP m_my cds 52 := ⟨RX6, false, [], by decide +kernel, rfl, (fun h9 => by first | rfl | cases h9), Or.inl ⟨rfl, rfl⟩, fun pc => by rw [h]; exact m_lk_ok _ ok_X6_retellNet pc⟩
def dl_X6_retellSales : List (Nat × Instr × Nat) := [(0, .iload_n 2, 1), (1, .istore_n 3, 1), (2, .iload_n 3, 1), (3, .aload_n 0, 1), (4, .getfield 34, 3), (7, .invokevirtual 117, 3), (10, .if_icmp .ge 45, 3), (13, .aload_n 0, 1), (14, .getfield 34, 3), (17, .iload_n 3, 1), (18, .invokevirtual 264, 3), (21, .checkcast 114, 3), (24, .getfield 268, 3), (27, .iload_n 1, 1), (28, .if_icmp .gt 27, 3), (31, .aload_n 0, 1), (32, .getfield 16, 3), (35, .aload_n 0, 1), (36, .getfield 34, 3), (39, .iload_n 3, 1), (40, .invokevirtual 264, 3), (43, .checkcast 114, 3), (46, .invokevirtual 125, 3), (49, .iinc 3 1, 3), (52, .goto (-50), 3), (55, .iload_n 3, 1), (56, .ireturn, 1)]
theorem dk_X6_retellSales : ∀ q ∈ dl_X6_retellSales, decode cX6_retellSales q.1 = .ok q.2 := by decide +kernel
def cd_X6_retellSales : List (Nat × m_Op) := [(0, o_iload 2 1), (1, o_istore 3 2), (2, o_iload 3 3), (3, o_aload 0 4), (4, o_getf 7 4 7), (7, o_callv 0 66 1 0 0 10), (10, o_icmpge 55 13), (13, o_aload 0 14), (14, o_getf 7 4 17), (17, o_iload 3 18), (18, o_callv 0 68 2 0 0 21), (21, o_cast 5 24), (24, o_getf 5 4 27), (27, o_iload 1 28), (28, o_icmpgt 55 31), (31, o_aload 0 32), (32, o_getf 7 1 35), (35, o_aload 0 36), (36, o_getf 7 4 39), (39, o_iload 3 40), (40, o_callv 0 68 2 0 0 43), (43, o_cast 5 46), (46, o_callv 4 8 2 0 0 49), (49, o_iinc 3 (1) 52), (52, o_goto 2), (55, o_iload 3 56), (56, o_ireturn)]
set_option maxRecDepth 20000 in
set_option maxHeartbeats 4000000 in
theorem ok_X6_retellSales {GP : m_G → Prop} : ∀ q ∈ cd_X6_retellSales, m_OK GP m_my (cX6_retellSales, 4, RX6, false, (some .int), []) q.1 q.2 :=
  m_cn (pc := 0) (ok_iload_n (m_dk dk_X6_retellSales 0 rfl) rfl rfl) <|
  m_cn (pc := 1) (ok_istore_n (m_dk dk_X6_retellSales 1 rfl) rfl rfl (by decide)) <|
  m_cn (pc := 2) (ok_iload_n (m_dk dk_X6_retellSales 2 rfl) rfl rfl) <|
  m_cn (pc := 3) (ok_aload_n (m_dk dk_X6_retellSales 3 rfl) rfl rfl) <|
  m_cn (pc := 4) (ok_getf (k := 4) (hc0 := (rfl : vwCl[7]? = some (RX6, TX6, 15))) (by decide) in_X6 wd_138 (m_dk dk_X6_retellSales 4 rfl) rfl) <|
  m_cn (pc := 7) (ok_callv (T := mt_Jx4a65c_size_8abf5) my_Jx4a65c_size_8abf5 rfl cw_Jx4a65c_size_8abf5 rfl rfl (by decide) (r9 := (RJx4a65c, TJx4a65c, 3)) rfl rfl wd_619 wd_620 wd_621 wd_5 (by decide +kernel) (m_dk dk_X6_retellSales 5 rfl) rfl) <|
  m_cn (pc := 10) (ok_icmpge (m_dk dk_X6_retellSales 6 rfl) rfl rfl) <|
  m_cn (pc := 13) (ok_aload_n (m_dk dk_X6_retellSales 7 rfl) rfl rfl) <|
  m_cn (pc := 14) (ok_getf (k := 4) (hc0 := (rfl : vwCl[7]? = some (RX6, TX6, 15))) (by decide) in_X6 wd_138 (m_dk dk_X6_retellSales 8 rfl) rfl) <|
  m_cn (pc := 17) (ok_iload_n (m_dk dk_X6_retellSales 9 rfl) rfl rfl) <|
  m_cn (pc := 18) (ok_callv (T := mt_Jx4a65c_get_915e3) my_Jx4a65c_get_915e3 rfl cw_Jx4a65c_get_915e3 rfl rfl (by decide) (r9 := (RJx4a65c, TJx4a65c, 3)) rfl rfl wd_791 wd_792 wd_793 wd_5 (by decide +kernel) (m_dk dk_X6_retellSales 10 rfl) rfl) <|
  m_cn (pc := 21) (ok_castS (r9 := (RX4, TX4, 5)) rfl wd_592 (m_dk dk_X6_retellSales 11 rfl) rfl) <|
  m_cn (pc := 24) (ok_getf (k := 4) (hc0 := (rfl : vwCl[5]? = some (RX4, TX4, 5))) (by decide) in_X4 wd_607 (m_dk dk_X6_retellSales 12 rfl) rfl) <|
  m_cn (pc := 27) (ok_iload_n (m_dk dk_X6_retellSales 13 rfl) rfl rfl) <|
  m_cn (pc := 28) (ok_icmpgt (m_dk dk_X6_retellSales 14 rfl) rfl rfl) <|
  m_cn (pc := 31) (ok_aload_n (m_dk dk_X6_retellSales 15 rfl) rfl rfl) <|
  m_cn (pc := 32) (ok_getf (k := 1) (hc0 := (rfl : vwCl[7]? = some (RX6, TX6, 15))) (by decide) in_X6 wd_135 (m_dk dk_X6_retellSales 16 rfl) rfl) <|
  m_cn (pc := 35) (ok_aload_n (m_dk dk_X6_retellSales 17 rfl) rfl rfl) <|
  m_cn (pc := 36) (ok_getf (k := 4) (hc0 := (rfl : vwCl[7]? = some (RX6, TX6, 15))) (by decide) in_X6 wd_138 (m_dk dk_X6_retellSales 18 rfl) rfl) <|
  m_cn (pc := 39) (ok_iload_n (m_dk dk_X6_retellSales 19 rfl) rfl rfl) <|
  m_cn (pc := 40) (ok_callv (T := mt_Jx4a65c_get_915e3) my_Jx4a65c_get_915e3 rfl cw_Jx4a65c_get_915e3 rfl rfl (by decide) (r9 := (RJx4a65c, TJx4a65c, 3)) rfl rfl wd_791 wd_792 wd_793 wd_5 (by decide +kernel) (m_dk dk_X6_retellSales 20 rfl) rfl) <|
  m_cn (pc := 43) (ok_castS (r9 := (RX4, TX4, 5)) rfl wd_592 (m_dk dk_X6_retellSales 21 rfl) rfl) <|
  m_cn (pc := 46) (ok_callv (T := mt_X3_hand) my_X3_hand rfl cw_X3_hand rfl rfl (by decide) (r9 := (RX3, TX3, 16)) rfl rfl wd_675 wd_676 wd_677 wd_2 (by decide +kernel) (m_dk dk_X6_retellSales 22 rfl) rfl) <|
  m_cn (pc := 49) (ok_iinc (m_dk dk_X6_retellSales 23 rfl) (by decide) rfl (by decide)) <|
  m_cn (pc := 52) (ok_goto (nx := 0) (m_dk dk_X6_retellSales 24 rfl) rfl) <|
  m_cn (pc := 55) (ok_iload_n (m_dk dk_X6_retellSales 25 rfl) rfl rfl) <|
  m_cn (pc := 56) (ok_ireturn (nx := 0) rfl (m_dk dk_X6_retellSales 26 rfl)) <|
  m_nl
theorem mk_X6_retellSales {GP : m_G → Prop} {cds : Nat → Nat → m_Op} (h : cds 53 = m_lk cd_X6_retellSales) : m_MOK GP m_my cds 53 := ⟨RX6, false, [], by decide +kernel, rfl, (fun h9 => by first | rfl | cases h9), Or.inl ⟨rfl, rfl⟩, fun pc => by rw [h]; exact m_lk_ok _ ok_X6_retellSales pc⟩
def dl_X6_checkLanding : List (Nat × Instr × Nat) := [(0, .iload_n 0, 1), (1, .ifCond .lt 9, 3), (4, .iload_n 0, 1), (5, .bipush 6, 2), (7, .if_icmp .lt 14, 3), (10, .new 269, 3), (13, .dup, 1), (14, .ldc_w 271, 3), (17, .invokespecial 273, 3), (20, .athrow, 1), (21, .return_, 1)]
theorem dk_X6_checkLanding : ∀ q ∈ dl_X6_checkLanding, decode cX6_checkLanding q.1 = .ok q.2 := by decide +kernel
def cd_X6_checkLanding : List (Nat × m_Op) := [(0, o_iload 0 1), (1, o_iflt 10 4), (4, o_iload 0 5), (5, o_const (6) 7), (7, o_icmplt 21 10), (10, o_throw m_ios), (21, o_return)]
set_option maxRecDepth 20000 in
set_option maxHeartbeats 4000000 in
theorem ok_X6_checkLanding {GP : m_G → Prop} : ∀ q ∈ cd_X6_checkLanding, m_OK GP m_my (cX6_checkLanding, 1, RX6, false, none, []) q.1 q.2 :=
  m_cn (pc := 0) (ok_iload_n (m_dk dk_X6_checkLanding 0 rfl) rfl rfl) <|
  m_cn (pc := 1) (ok_iflt (m_dk dk_X6_checkLanding 1 rfl) rfl rfl) <|
  m_cn (pc := 4) (ok_iload_n (m_dk dk_X6_checkLanding 2 rfl) rfl rfl) <|
  m_cn (pc := 5) (ok_bipush (m_dk dk_X6_checkLanding 3 rfl) (by decide) rfl) <|
  m_cn (pc := 7) (ok_icmplt (m_dk dk_X6_checkLanding 4 rfl) rfl rfl) <|
  m_cn (pc := 10) (ok_throwSW (nx := 0) (text := "no such landing") (names := m_exn) (by decide +kernel) (by decide +kernel) (by decide) rfl wd_394 wd_13 (by decide +kernel) th_ios_269_273_a th_ios_269_273_b th_ios_269_273_c (m_dk dk_X6_checkLanding 5 rfl) (m_dk dk_X6_checkLanding 6 rfl) (m_dk dk_X6_checkLanding 7 rfl) (m_dk dk_X6_checkLanding 8 rfl) (m_dk dk_X6_checkLanding 9 rfl)) <|
  m_cn (pc := 21) (ok_return (nx := 0) rfl (m_dk dk_X6_checkLanding 10 rfl)) <|
  m_nl
theorem mk_X6_checkLanding {GP : m_G → Prop} {cds : Nat → Nat → m_Op} (h : cds 54 = m_lk cd_X6_checkLanding) : m_MOK GP m_my cds 54 := ⟨RX6, false, [], by decide +kernel, rfl, (fun h9 => by first | rfl | cases h9), Or.inl ⟨rfl, rfl⟩, fun pc => by rw [h]; exact m_lk_ok _ ok_X6_checkLanding pc⟩
def dl_X6_checkMember : List (Nat × Instr × Nat) := [(0, .iload_n 0, 1), (1, .ifCond .lt 9, 3), (4, .iload_n 0, 1), (5, .bipush 6, 2), (7, .if_icmp .lt 14, 3), (10, .new 269, 3), (13, .dup, 1), (14, .ldc_w 274, 3), (17, .invokespecial 273, 3), (20, .athrow, 1), (21, .return_, 1)]
theorem dk_X6_checkMember : ∀ q ∈ dl_X6_checkMember, decode cX6_checkMember q.1 = .ok q.2 := by decide +kernel
def cd_X6_checkMember : List (Nat × m_Op) := [(0, o_iload 0 1), (1, o_iflt 10 4), (4, o_iload 0 5), (5, o_const (6) 7), (7, o_icmplt 21 10), (10, o_throw m_ios), (21, o_return)]
set_option maxRecDepth 20000 in
set_option maxHeartbeats 4000000 in
theorem ok_X6_checkMember {GP : m_G → Prop} : ∀ q ∈ cd_X6_checkMember, m_OK GP m_my (cX6_checkMember, 1, RX6, false, none, []) q.1 q.2 :=
  m_cn (pc := 0) (ok_iload_n (m_dk dk_X6_checkMember 0 rfl) rfl rfl) <|
  m_cn (pc := 1) (ok_iflt (m_dk dk_X6_checkMember 1 rfl) rfl rfl) <|
  m_cn (pc := 4) (ok_iload_n (m_dk dk_X6_checkMember 2 rfl) rfl rfl) <|
  m_cn (pc := 5) (ok_bipush (m_dk dk_X6_checkMember 3 rfl) (by decide) rfl) <|
  m_cn (pc := 7) (ok_icmplt (m_dk dk_X6_checkMember 4 rfl) rfl rfl) <|
  m_cn (pc := 10) (ok_throwSW (nx := 0) (text := "no such member") (names := m_exn) (by decide +kernel) (by decide +kernel) (by decide) rfl wd_394 wd_13 (by decide +kernel) th_ios_269_273_a th_ios_269_273_b th_ios_269_273_c (m_dk dk_X6_checkMember 5 rfl) (m_dk dk_X6_checkMember 6 rfl) (m_dk dk_X6_checkMember 7 rfl) (m_dk dk_X6_checkMember 8 rfl) (m_dk dk_X6_checkMember 9 rfl)) <|
  m_cn (pc := 21) (ok_return (nx := 0) rfl (m_dk dk_X6_checkMember 10 rfl)) <|
  m_nl
theorem mk_X6_checkMember {GP : m_G → Prop} {cds : Nat → Nat → m_Op} (h : cds 55 = m_lk cd_X6_checkMember) : m_MOK GP m_my cds 55 := ⟨RX6, false, [], by decide +kernel, rfl, (fun h9 => by first | rfl | cases h9), Or.inl ⟨rfl, rfl⟩, fun pc => by rw [h]; exact m_lk_ok _ ok_X6_checkMember pc⟩
def dl_X6_checkNumber : List (Nat × Instr × Nat) := [(0, .iload_n 0, 1), (1, .ifCond .lt 8, 3), (4, .iload_n 0, 1), (5, .iload_n 1, 1), (6, .if_icmp .lt 14, 3), (9, .new 269, 3), (12, .dup, 1), (13, .ldc_w 276, 3), (16, .invokespecial 273, 3), (19, .athrow, 1), (20, .return_, 1)]
theorem dk_X6_checkNumber : ∀ q ∈ dl_X6_checkNumber, decode cX6_checkNumber q.1 = .ok q.2 := by decide +kernel
def cd_X6_checkNumber : List (Nat × m_Op) := [(0, o_iload 0 1), (1, o_iflt 9 4), (4, o_iload 0 5), (5, o_iload 1 6), (6, o_icmplt 20 9), (9, o_throw m_ios), (20, o_return)]
set_option maxRecDepth 20000 in
set_option maxHeartbeats 4000000 in
theorem ok_X6_checkNumber {GP : m_G → Prop} : ∀ q ∈ cd_X6_checkNumber, m_OK GP m_my (cX6_checkNumber, 2, RX6, false, none, []) q.1 q.2 :=
  m_cn (pc := 0) (ok_iload_n (m_dk dk_X6_checkNumber 0 rfl) rfl rfl) <|
  m_cn (pc := 1) (ok_iflt (m_dk dk_X6_checkNumber 1 rfl) rfl rfl) <|
  m_cn (pc := 4) (ok_iload_n (m_dk dk_X6_checkNumber 2 rfl) rfl rfl) <|
  m_cn (pc := 5) (ok_iload_n (m_dk dk_X6_checkNumber 3 rfl) rfl rfl) <|
  m_cn (pc := 6) (ok_icmplt (m_dk dk_X6_checkNumber 4 rfl) rfl rfl) <|
  m_cn (pc := 9) (ok_throwSW (nx := 0) (text := "no such cable, demand, cut or ship") (names := m_exn) (by decide +kernel) (by decide +kernel) (by decide) rfl wd_394 wd_13 (by decide +kernel) th_ios_269_273_a th_ios_269_273_b th_ios_269_273_c (m_dk dk_X6_checkNumber 5 rfl) (m_dk dk_X6_checkNumber 6 rfl) (m_dk dk_X6_checkNumber 7 rfl) (m_dk dk_X6_checkNumber 8 rfl) (m_dk dk_X6_checkNumber 9 rfl)) <|
  m_cn (pc := 20) (ok_return (nx := 0) rfl (m_dk dk_X6_checkNumber 10 rfl)) <|
  m_nl
theorem mk_X6_checkNumber {GP : m_G → Prop} {cds : Nat → Nat → m_Op} (h : cds 56 = m_lk cd_X6_checkNumber) : m_MOK GP m_my cds 56 := ⟨RX6, false, [], by decide +kernel, rfl, (fun h9 => by first | rfl | cases h9), Or.inl ⟨rfl, rfl⟩, fun pc => by rw [h]; exact m_lk_ok _ ok_X6_checkNumber pc⟩
def dl_X6_checkUnlike : List (Nat × Instr × Nat) := [(0, .iload_n 0, 1), (1, .iload_n 1, 1), (2, .if_icmp .ne 14, 3), (5, .new 278, 3), (8, .dup, 1), (9, .ldc_w 280, 3), (12, .invokespecial 282, 3), (15, .athrow, 1), (16, .return_, 1)]
theorem dk_X6_checkUnlike : ∀ q ∈ dl_X6_checkUnlike, decode cX6_checkUnlike q.1 = .ok q.2 := by decide +kernel
def cd_X6_checkUnlike : List (Nat × m_Op) := [(0, o_iload 0 1), (1, o_iload 1 2), (2, o_icmpne 16 5), (5, o_throw m_ias), (16, o_return)]
set_option maxRecDepth 20000 in
set_option maxHeartbeats 4000000 in
theorem ok_X6_checkUnlike {GP : m_G → Prop} : ∀ q ∈ cd_X6_checkUnlike, m_OK GP m_my (cX6_checkUnlike, 2, RX6, false, none, []) q.1 q.2 :=
  m_cn (pc := 0) (ok_iload_n (m_dk dk_X6_checkUnlike 0 rfl) rfl rfl) <|
  m_cn (pc := 1) (ok_iload_n (m_dk dk_X6_checkUnlike 1 rfl) rfl rfl) <|
  m_cn (pc := 2) (ok_icmpne (m_dk dk_X6_checkUnlike 2 rfl) rfl rfl) <|
  m_cn (pc := 5) (ok_throwSW (nx := 0) (text := "both are the same") (names := m_exn) (by decide +kernel) (by decide +kernel) (by decide) rfl wd_201 wd_9 (by decide +kernel) th_ias_278_282_a th_ias_278_282_b th_ias_278_282_c (m_dk dk_X6_checkUnlike 3 rfl) (m_dk dk_X6_checkUnlike 4 rfl) (m_dk dk_X6_checkUnlike 5 rfl) (m_dk dk_X6_checkUnlike 6 rfl) (m_dk dk_X6_checkUnlike 7 rfl)) <|
  m_cn (pc := 16) (ok_return (nx := 0) rfl (m_dk dk_X6_checkUnlike 8 rfl)) <|
  m_nl
theorem mk_X6_checkUnlike {GP : m_G → Prop} {cds : Nat → Nat → m_Op} (h : cds 57 = m_lk cd_X6_checkUnlike) : m_MOK GP m_my cds 57 := ⟨RX6, false, [], by decide +kernel, rfl, (fun h9 => by first | rfl | cases h9), Or.inl ⟨rfl, rfl⟩, fun pc => by rw [h]; exact m_lk_ok _ ok_X6_checkUnlike pc⟩
def dl_X6_checkRange : List (Nat × Instr × Nat) := [(0, .iload_n 0, 1), (1, .iload_n 1, 1), (2, .if_icmp .lt 8, 3), (5, .iload_n 0, 1), (6, .iload_n 2, 1), (7, .if_icmp .le 14, 3), (10, .new 278, 3), (13, .dup, 1), (14, .ldc_w 283, 3), (17, .invokespecial 282, 3), (20, .athrow, 1), (21, .return_, 1)]
theorem dk_X6_checkRange : ∀ q ∈ dl_X6_checkRange, decode cX6_checkRange q.1 = .ok q.2 := by decide +kernel
def cd_X6_checkRange : List (Nat × m_Op) := [(0, o_iload 0 1), (1, o_iload 1 2), (2, o_icmplt 10 5), (5, o_iload 0 6), (6, o_iload 2 7), (7, o_icmple 21 10), (10, o_throw m_ias), (21, o_return)]
set_option maxRecDepth 20000 in
set_option maxHeartbeats 4000000 in
theorem ok_X6_checkRange {GP : m_G → Prop} : ∀ q ∈ cd_X6_checkRange, m_OK GP m_my (cX6_checkRange, 3, RX6, false, none, []) q.1 q.2 :=
  m_cn (pc := 0) (ok_iload_n (m_dk dk_X6_checkRange 0 rfl) rfl rfl) <|
  m_cn (pc := 1) (ok_iload_n (m_dk dk_X6_checkRange 1 rfl) rfl rfl) <|
  m_cn (pc := 2) (ok_icmplt (m_dk dk_X6_checkRange 2 rfl) rfl rfl) <|
  m_cn (pc := 5) (ok_iload_n (m_dk dk_X6_checkRange 3 rfl) rfl rfl) <|
  m_cn (pc := 6) (ok_iload_n (m_dk dk_X6_checkRange 4 rfl) rfl rfl) <|
  m_cn (pc := 7) (ok_icmple (m_dk dk_X6_checkRange 5 rfl) rfl rfl) <|
  m_cn (pc := 10) (ok_throwSW (nx := 0) (text := "out of range") (names := m_exn) (by decide +kernel) (by decide +kernel) (by decide) rfl wd_201 wd_9 (by decide +kernel) th_ias_278_282_a th_ias_278_282_b th_ias_278_282_c (m_dk dk_X6_checkRange 6 rfl) (m_dk dk_X6_checkRange 7 rfl) (m_dk dk_X6_checkRange 8 rfl) (m_dk dk_X6_checkRange 9 rfl) (m_dk dk_X6_checkRange 10 rfl)) <|
  m_cn (pc := 21) (ok_return (nx := 0) rfl (m_dk dk_X6_checkRange 11 rfl)) <|
  m_nl
theorem mk_X6_checkRange {GP : m_G → Prop} {cds : Nat → Nat → m_Op} (h : cds 58 = m_lk cd_X6_checkRange) : m_MOK GP m_my cds 58 := ⟨RX6, false, [], by decide +kernel, rfl, (fun h9 => by first | rfl | cases h9), Or.inl ⟨rfl, rfl⟩, fun pc => by rw [h]; exact m_lk_ok _ ok_X6_checkRange pc⟩
def dl_X6_checkRoom : List (Nat × Instr × Nat) := [(0, .iload_n 0, 1), (1, .iload_n 1, 1), (2, .if_icmp .lt 14, 3), (5, .new 107, 3), (8, .dup, 1), (9, .ldc_w 285, 3), (12, .invokespecial 111, 3), (15, .athrow, 1), (16, .return_, 1)]
theorem dk_X6_checkRoom : ∀ q ∈ dl_X6_checkRoom, decode cX6_checkRoom q.1 = .ok q.2 := by decide +kernel
def cd_X6_checkRoom : List (Nat × m_Op) := [(0, o_iload 0 1), (1, o_iload 1 2), (2, o_icmplt 16 5), (5, o_throw m_iss), (16, o_return)]
set_option maxRecDepth 20000 in
set_option maxHeartbeats 4000000 in
theorem ok_X6_checkRoom {GP : m_G → Prop} : ∀ q ∈ cd_X6_checkRoom, m_OK GP m_my (cX6_checkRoom, 2, RX6, false, none, []) q.1 q.2 :=
  m_cn (pc := 0) (ok_iload_n (m_dk dk_X6_checkRoom 0 rfl) rfl rfl) <|
  m_cn (pc := 1) (ok_iload_n (m_dk dk_X6_checkRoom 1 rfl) rfl rfl) <|
  m_cn (pc := 2) (ok_icmplt (m_dk dk_X6_checkRoom 2 rfl) rfl rfl) <|
  m_cn (pc := 5) (ok_throwSW (nx := 0) (text := "there are no more") (names := m_exn) (by decide +kernel) (by decide +kernel) (by decide) rfl wd_269 wd_10 (by decide +kernel) th_iss_107_111_a th_iss_107_111_b th_iss_107_111_c (m_dk dk_X6_checkRoom 3 rfl) (m_dk dk_X6_checkRoom 4 rfl) (m_dk dk_X6_checkRoom 5 rfl) (m_dk dk_X6_checkRoom 6 rfl) (m_dk dk_X6_checkRoom 7 rfl)) <|
  m_cn (pc := 16) (ok_return (nx := 0) rfl (m_dk dk_X6_checkRoom 8 rfl)) <|
  m_nl
theorem mk_X6_checkRoom {GP : m_G → Prop} {cds : Nat → Nat → m_Op} (h : cds 59 = m_lk cd_X6_checkRoom) : m_MOK GP m_my cds 59 := ⟨RX6, false, [], by decide +kernel, rfl, (fun h9 => by first | rfl | cases h9), Or.inl ⟨rfl, rfl⟩, fun pc => by rw [h]; exact m_lk_ok _ ok_X6_checkRoom pc⟩
def dl_X6_checkOpenForShip : List (Nat × Instr × Nat) := [(0, .aload_n 0, 1), (1, .getfield 21, 3), (4, .iload_n 1, 1), (5, .aaload, 1), (6, .getfield 233, 3), (9, .iconst (-1), 1), (10, .if_icmp .eq 14, 3), (13, .new 107, 3), (16, .dup, 1), (17, .ldc_w 287, 3), (20, .invokespecial 111, 3), (23, .athrow, 1), (24, .iconst 0, 1), (25, .istore_n 2, 1), (26, .iload_n 2, 1), (27, .aload_n 0, 1), (28, .getfield 153, 3), (31, .if_icmp .ge 33, 3), (34, .aload_n 0, 1), (35, .getfield 27, 3), (38, .iload_n 2, 1), (39, .aaload, 1), (40, .getfield 160, 3), (43, .iload_n 1, 1), (44, .if_icmp .ne 14, 3), (47, .new 107, 3), (50, .dup, 1), (51, .ldc_w 289, 3), (54, .invokespecial 111, 3), (57, .athrow, 1), (58, .iinc 2 1, 3), (61, .goto (-35), 3), (64, .return_, 1)]
theorem dk_X6_checkOpenForShip : ∀ q ∈ dl_X6_checkOpenForShip, decode cX6_checkOpenForShip q.1 = .ok q.2 := by decide +kernel
def cd_X6_checkOpenForShip : List (Nat × m_Op) := [(0, o_aload 0 1), (1, o_getf 7 2 4), (4, o_iload 1 5), (5, o_aald 6 6), (6, o_getf 2 4 9), (9, o_const (-1) 10), (10, o_icmpeq 24 13), (13, o_throw m_iss), (24, o_const (0) 25), (25, o_istore 2 26), (26, o_iload 2 27), (27, o_aload 0 28), (28, o_getf 7 11 31), (31, o_icmpge 64 34), (34, o_aload 0 35), (35, o_getf 7 3 38), (38, o_iload 2 39), (39, o_aald 7 40), (40, o_getf 6 3 43), (43, o_iload 1 44), (44, o_icmpne 58 47), (47, o_throw m_iss), (58, o_iinc 2 (1) 61), (61, o_goto 26), (64, o_return)]
set_option maxRecDepth 20000 in
set_option maxHeartbeats 4000000 in
theorem ok_X6_checkOpenForShip {GP : m_G → Prop} : ∀ q ∈ cd_X6_checkOpenForShip, m_OK GP m_my (cX6_checkOpenForShip, 3, RX6, false, none, []) q.1 q.2 :=
  m_cn (pc := 0) (ok_aload_n (m_dk dk_X6_checkOpenForShip 0 rfl) rfl rfl) <|
  m_cn (pc := 1) (ok_getf (k := 2) (hc0 := (rfl : vwCl[7]? = some (RX6, TX6, 15))) (by decide) in_X6 wd_136 (m_dk dk_X6_checkOpenForShip 1 rfl) rfl) <|
  m_cn (pc := 4) (ok_iload_n (m_dk dk_X6_checkOpenForShip 2 rfl) rfl rfl) <|
  m_cn (pc := 5) (ok_aald (C := "Cablecourt$Cut") (fun _ => rfl) (m_dk dk_X6_checkOpenForShip 3 rfl) rfl) <|
  m_cn (pc := 6) (ok_getf (k := 4) (hc0 := (rfl : vwCl[2]? = some (RX1, TX1, 5))) (by decide) in_X1 wd_700 (m_dk dk_X6_checkOpenForShip 4 rfl) rfl) <|
  m_cn (pc := 9) (ok_iconst (m_dk dk_X6_checkOpenForShip 5 rfl) (by decide) rfl) <|
  m_cn (pc := 10) (ok_icmpeq (m_dk dk_X6_checkOpenForShip 6 rfl) rfl rfl) <|
  m_cn (pc := 13) (ok_throwSW (nx := 0) (text := "the cut is mended") (names := m_exn) (by decide +kernel) (by decide +kernel) (by decide) rfl wd_269 wd_10 (by decide +kernel) th_iss_107_111_a th_iss_107_111_b th_iss_107_111_c (m_dk dk_X6_checkOpenForShip 7 rfl) (m_dk dk_X6_checkOpenForShip 8 rfl) (m_dk dk_X6_checkOpenForShip 9 rfl) (m_dk dk_X6_checkOpenForShip 10 rfl) (m_dk dk_X6_checkOpenForShip 11 rfl)) <|
  m_cn (pc := 24) (ok_iconst (m_dk dk_X6_checkOpenForShip 12 rfl) (by decide) rfl) <|
  m_cn (pc := 25) (ok_istore_n (m_dk dk_X6_checkOpenForShip 13 rfl) rfl rfl (by decide)) <|
  m_cn (pc := 26) (ok_iload_n (m_dk dk_X6_checkOpenForShip 14 rfl) rfl rfl) <|
  m_cn (pc := 27) (ok_aload_n (m_dk dk_X6_checkOpenForShip 15 rfl) rfl rfl) <|
  m_cn (pc := 28) (ok_getf (k := 11) (hc0 := (rfl : vwCl[7]? = some (RX6, TX6, 15))) (by decide) in_X6 wd_145 (m_dk dk_X6_checkOpenForShip 16 rfl) rfl) <|
  m_cn (pc := 31) (ok_icmpge (m_dk dk_X6_checkOpenForShip 17 rfl) rfl rfl) <|
  m_cn (pc := 34) (ok_aload_n (m_dk dk_X6_checkOpenForShip 18 rfl) rfl rfl) <|
  m_cn (pc := 35) (ok_getf (k := 3) (hc0 := (rfl : vwCl[7]? = some (RX6, TX6, 15))) (by decide) in_X6 wd_137 (m_dk dk_X6_checkOpenForShip 19 rfl) rfl) <|
  m_cn (pc := 38) (ok_iload_n (m_dk dk_X6_checkOpenForShip 20 rfl) rfl rfl) <|
  m_cn (pc := 39) (ok_aald (C := "Cablecourt$Ship") (fun _ => rfl) (m_dk dk_X6_checkOpenForShip 21 rfl) rfl) <|
  m_cn (pc := 40) (ok_getf (k := 3) (hc0 := (rfl : vwCl[6]? = some (RX5, TX5, 4))) (by decide) in_X5 wd_556 (m_dk dk_X6_checkOpenForShip 22 rfl) rfl) <|
  m_cn (pc := 43) (ok_iload_n (m_dk dk_X6_checkOpenForShip 23 rfl) rfl rfl) <|
  m_cn (pc := 44) (ok_icmpne (m_dk dk_X6_checkOpenForShip 24 rfl) rfl rfl) <|
  m_cn (pc := 47) (ok_throwSW (nx := 0) (text := "a ship is sent to the cut") (names := m_exn) (by decide +kernel) (by decide +kernel) (by decide) rfl wd_269 wd_10 (by decide +kernel) th_iss_107_111_a th_iss_107_111_b th_iss_107_111_c (m_dk dk_X6_checkOpenForShip 25 rfl) (m_dk dk_X6_checkOpenForShip 26 rfl) (m_dk dk_X6_checkOpenForShip 27 rfl) (m_dk dk_X6_checkOpenForShip 28 rfl) (m_dk dk_X6_checkOpenForShip 29 rfl)) <|
  m_cn (pc := 58) (ok_iinc (m_dk dk_X6_checkOpenForShip 30 rfl) (by decide) rfl (by decide)) <|
  m_cn (pc := 61) (ok_goto (nx := 0) (m_dk dk_X6_checkOpenForShip 31 rfl) rfl) <|
  m_cn (pc := 64) (ok_return (nx := 0) rfl (m_dk dk_X6_checkOpenForShip 32 rfl)) <|
  m_nl
theorem mk_X6_checkOpenForShip {GP : m_G → Prop} {cds : Nat → Nat → m_Op} (h : cds 60 = m_lk cd_X6_checkOpenForShip) : m_MOK GP m_my cds 60 := ⟨RX6, false, [], by decide +kernel, rfl, (fun h9 => by first | rfl | cases h9), Or.inl ⟨rfl, rfl⟩, fun pc => by rw [h]; exact m_lk_ok _ ok_X6_checkOpenForShip pc⟩
