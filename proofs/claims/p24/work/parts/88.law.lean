def dl_L_law_0 : List (Nat × Instr × Nat) := [(0, .new 11, 3), (3, .dup, 1), (4, .invokespecial 164, 3), (7, .astore_n 1, 1), (8, .iconst 5, 1), (9, .newarray .int, 2), (11, .astore_n 2, 1), (12, .bipush 56, 2), (14, .newarray .int, 2), (16, .astore_n 3, 1), (17, .bipush 40, 2), (19, .newarray .int, 2), (21, .astore 4, 2), (23, .iconst 1, 1), (24, .newarray .int, 2), (26, .astore 5, 2), (28, .aload_n 1, 1), (29, .invokevirtual 125, 3), (32, .ifCond .ne 17, 3), (35, .aload_n 1, 1), (36, .iconst 0, 1), (37, .invokestatic 123, 3), (40, .ldc 21, 2), (42, .if_icmp .ne 7, 3), (45, .iconst 1, 1), (46, .goto 4, 3), (49, .iconst 0, 1), (50, .istore 6, 2), (52, .iconst 0, 1), (53, .istore 7, 2), (55, .iload 7, 2), (57, .sipush 130, 3), (60, .if_icmp .ge 44, 3), (63, .iload 6, 2), (65, .ifCond .eq 39, 3), (68, .aload_n 1, 1), (69, .aload_n 2, 1), (70, .aload_n 3, 1), (71, .aload 4, 2), (73, .aload 5, 2)]
theorem dk_L_law_0 : ∀ q ∈ dl_L_law_0, decode cL_law q.1 = .ok q.2 := by decide +kernel
def dl_L_law_1 : List (Nat × Instr × Nat) := [(75, .aload_n 0, 1), (76, .iconst 2, 1), (77, .iload 7, 2), (79, .imul, 1), (80, .invokestatic 165, 3), (83, .aload_n 0, 1), (84, .iconst 2, 1), (85, .iload 7, 2), (87, .imul, 1), (88, .iconst 1, 1), (89, .iadd, 1), (90, .invokestatic 165, 3), (93, .invokestatic 169, 3), (96, .istore 6, 2), (98, .iinc 7 1, 3), (101, .goto (-46), 3), (104, .iload 6, 2), (106, .ireturn, 1)]
theorem dk_L_law_1 : ∀ q ∈ dl_L_law_1, decode cL_law q.1 = .ok q.2 := by decide +kernel
def cd_L_law : List (Nat × m_Op) := [(0, o_new 7 15 [.null, .null, .null, .null, .null, .null, .null, .null, .int 0, .int 0, .int 0, .int 0, .int 0, .int 0, .int 0] 3), (3, o_dup 4), (4, o_callv 7 22 1 90 628 7), (7, o_astore 1 8), (8, o_const (5) 9), (9, o_newi 0 5 11), (11, o_astore 2 12), (12, o_const (56) 14), (14, o_newi 0 56 16), (16, o_astore 3 17), (17, o_const (40) 19), (19, o_newi 0 40 21), (21, o_astore 4 23), (23, o_const (1) 24), (24, o_newi 0 1 26), (26, o_astore 5 28), (28, o_aload 1 29), (29, o_callv 7 39 1 0 0 32), (32, o_ifne 49 35), (35, o_aload 1 36), (36, o_const (0) 37), (37, o_call 86 2 2 12 40), (40, o_const (-1000002) 42), (42, o_icmpne 49 45), (45, o_const (1) 46), (46, o_goto 50), (49, o_const (0) 50), (50, o_istore 6 52), (52, o_const (0) 53), (53, o_istore 7 55), (55, o_iload 7 57), (57, o_const (130) 60), (60, o_icmpge 104 63), (63, o_iload 6 65), (65, o_ifeq 104 68), (68, o_aload 1 69), (69, o_aload 2 70), (70, o_aload 3 71), (71, o_aload 4 73), (73, o_aload 5 75), (75, o_aload 0 76), (76, o_const (2) 77), (77, o_iload 7 79), (79, o_bin (fun x y => x * y) 80), (80, o_callR 76 2 0 0 83), (83, o_aload 0 84), (84, o_const (2) 85), (85, o_iload 7 87), (87, o_bin (fun x y => x * y) 88), (88, o_const (1) 89), (89, o_bin (fun x y => x + y) 90), (90, o_callR 76 2 0 0 93), (93, o_call 102 7 550 4150 96), (96, o_istore 6 98), (98, o_iinc 7 (1) 101), (101, o_goto 55), (104, o_iload 6 106), (106, o_zreturn)]
set_option maxRecDepth 20000 in
set_option maxHeartbeats 4000000 in
theorem ok_L_law {GP : m_G → Prop} : ∀ q ∈ cd_L_law, m_OK GP m_my (cL_law, 8, RL, false, (some .boolean), []) q.1 q.2 :=
  m_cn (pc := 0) (ok_new (hc0 := (rfl : vwCl[7]? = some (RX6, TX6, 15))) in_X6 tyX6 tyX6_ok wd_23 wd_24 wd_1 df_X6 (fun _ => rfl) dv_X6 (m_dk dk_L_law_0 0 rfl) rfl) <|
  m_cn (pc := 3) (ok_dup (m_dk dk_L_law_0 1 rfl) rfl) <|
  m_cn (pc := 4) (ok_calli (T := mt_X6_init) my_X6_init rfl cw_X6_init rfl rfl (by decide) wd_25 wd_26 wd_1 rfl (by decide +kernel) (m_dk dk_L_law_0 2 rfl) rfl) <|
  m_cn (pc := 7) (ok_astore_n (m_dk dk_L_law_0 3 rfl) rfl rfl (by decide)) <|
  m_cn (pc := 8) (ok_iconst (m_dk dk_L_law_0 4 rfl) (by decide) rfl) <|
  m_cn (pc := 9) (ok_newi wd_102 (by decide) (m_dk dk_L_law_0 5 rfl) rfl) <|
  m_cn (pc := 11) (ok_astore_n (m_dk dk_L_law_0 6 rfl) rfl rfl (by decide)) <|
  m_cn (pc := 12) (ok_bipush (m_dk dk_L_law_0 7 rfl) (by decide) rfl) <|
  m_cn (pc := 14) (ok_newi wd_102 (by decide) (m_dk dk_L_law_0 8 rfl) rfl) <|
  m_cn (pc := 16) (ok_astore_n (m_dk dk_L_law_0 9 rfl) rfl rfl (by decide)) <|
  m_cn (pc := 17) (ok_bipush (m_dk dk_L_law_0 10 rfl) (by decide) rfl) <|
  m_cn (pc := 19) (ok_newi wd_102 (by decide) (m_dk dk_L_law_0 11 rfl) rfl) <|
  m_cn (pc := 21) (ok_astore (m_dk dk_L_law_0 12 rfl) rfl (by decide)) <|
  m_cn (pc := 23) (ok_iconst (m_dk dk_L_law_0 13 rfl) (by decide) rfl) <|
  m_cn (pc := 24) (ok_newi wd_102 (by decide) (m_dk dk_L_law_0 14 rfl) rfl) <|
  m_cn (pc := 26) (ok_astore (m_dk dk_L_law_0 15 rfl) rfl (by decide)) <|
  m_cn (pc := 28) (ok_aload_n (m_dk dk_L_law_0 16 rfl) rfl rfl) <|
  m_cn (pc := 29) (ok_callv (T := mt_X6_spent) my_X6_spent rfl cw_X6_spent rfl rfl (by decide) (r9 := (RX6, TX6, 15)) rfl rfl wd_180 wd_181 wd_182 wd_1 (by decide +kernel) (m_dk dk_L_law_0 17 rfl) rfl) <|
  m_cn (pc := 32) (ok_ifne (m_dk dk_L_law_0 18 rfl) rfl rfl) <|
  m_cn (pc := 35) (ok_aload_n (m_dk dk_L_law_0 19 rfl) rfl rfl) <|
  m_cn (pc := 36) (ok_iconst (m_dk dk_L_law_0 20 rfl) (by decide) rfl) <|
  m_cn (pc := 37) (ok_callsw (hh9 := hh_L_pass) (T := mt_L_pass) my_L_pass rfl cw_L_pass rfl rfl (by decide) wd_189 wd_190 wd_0 (by decide +kernel) (m_dk dk_L_law_0 21 rfl) rfl) <|
  m_cn (pc := 40) (ok_ldc (m_dk dk_L_law_0 22 rfl) wd_371 rfl) <|
  m_cn (pc := 42) (ok_icmpne (m_dk dk_L_law_0 23 rfl) rfl rfl) <|
  m_cn (pc := 45) (ok_iconst (m_dk dk_L_law_0 24 rfl) (by decide) rfl) <|
  m_cn (pc := 46) (ok_goto (nx := 0) (m_dk dk_L_law_0 25 rfl) rfl) <|
  m_cn (pc := 49) (ok_iconst (m_dk dk_L_law_0 26 rfl) (by decide) rfl) <|
  m_cn (pc := 50) (ok_istore (m_dk dk_L_law_0 27 rfl) rfl (by decide)) <|
  m_cn (pc := 52) (ok_iconst (m_dk dk_L_law_0 28 rfl) (by decide) rfl) <|
  m_cn (pc := 53) (ok_istore (m_dk dk_L_law_0 29 rfl) rfl (by decide)) <|
  m_cn (pc := 55) (ok_iload (m_dk dk_L_law_0 30 rfl) rfl) <|
  m_cn (pc := 57) (ok_sipush (m_dk dk_L_law_0 31 rfl) (by decide) rfl) <|
  m_cn (pc := 60) (ok_icmpge (m_dk dk_L_law_0 32 rfl) rfl rfl) <|
  m_cn (pc := 63) (ok_iload (m_dk dk_L_law_0 33 rfl) rfl) <|
  m_cn (pc := 65) (ok_ifeq (m_dk dk_L_law_0 34 rfl) rfl rfl) <|
  m_cn (pc := 68) (ok_aload_n (m_dk dk_L_law_0 35 rfl) rfl rfl) <|
  m_cn (pc := 69) (ok_aload_n (m_dk dk_L_law_0 36 rfl) rfl rfl) <|
  m_cn (pc := 70) (ok_aload_n (m_dk dk_L_law_0 37 rfl) rfl rfl) <|
  m_cn (pc := 71) (ok_aload (m_dk dk_L_law_0 38 rfl) rfl) <|
  m_cn (pc := 73) (ok_aload (m_dk dk_L_law_0 39 rfl) rfl) <|
  m_cn (pc := 75) (ok_aload_n (m_dk dk_L_law_1 0 rfl) rfl rfl) <|
  m_cn (pc := 76) (ok_iconst (m_dk dk_L_law_1 1 rfl) (by decide) rfl) <|
  m_cn (pc := 77) (ok_iload (m_dk dk_L_law_1 2 rfl) rfl) <|
  m_cn (pc := 79) (ok_imul (m_dk dk_L_law_1 3 rfl) rfl) <|
  m_cn (pc := 80) (ok_callsR (T := mt_L_at) my_L_at rfl cw_L_at rfl rfl (by decide) wd_184 wd_185 wd_0 (by decide +kernel) (m_dk dk_L_law_1 4 rfl) rfl) <|
  m_cn (pc := 83) (ok_aload_n (m_dk dk_L_law_1 5 rfl) rfl rfl) <|
  m_cn (pc := 84) (ok_iconst (m_dk dk_L_law_1 6 rfl) (by decide) rfl) <|
  m_cn (pc := 85) (ok_iload (m_dk dk_L_law_1 7 rfl) rfl) <|
  m_cn (pc := 87) (ok_imul (m_dk dk_L_law_1 8 rfl) rfl) <|
  m_cn (pc := 88) (ok_iconst (m_dk dk_L_law_1 9 rfl) (by decide) rfl) <|
  m_cn (pc := 89) (ok_iadd (m_dk dk_L_law_1 10 rfl) rfl) <|
  m_cn (pc := 90) (ok_callsR (T := mt_L_at) my_L_at rfl cw_L_at rfl rfl (by decide) wd_184 wd_185 wd_0 (by decide +kernel) (m_dk dk_L_law_1 11 rfl) rfl) <|
  m_cn (pc := 93) (ok_calls (T := mt_L_acts) my_L_acts rfl cw_L_acts rfl rfl (by decide) wd_373 wd_374 wd_0 (by decide +kernel) (m_dk dk_L_law_1 12 rfl) rfl) <|
  m_cn (pc := 96) (ok_istore (m_dk dk_L_law_1 13 rfl) rfl (by decide)) <|
  m_cn (pc := 98) (ok_iinc (m_dk dk_L_law_1 14 rfl) (by decide) rfl (by decide)) <|
  m_cn (pc := 101) (ok_goto (nx := 0) (m_dk dk_L_law_1 15 rfl) rfl) <|
  m_cn (pc := 104) (ok_iload (m_dk dk_L_law_1 16 rfl) rfl) <|
  m_cn (pc := 106) (ok_zreturn (nx := 0) rfl (m_dk dk_L_law_1 17 rfl)) <|
  m_nl
theorem ok_L_lawW {GP : m_G → Prop} : ∀ pc : Nat, m_OK GP m_my (cL_law, 8, RL, false, (some .boolean), []) pc (m_lk cd_L_law pc) := m_lk_ok _ ok_L_law
def cd_L_atS (L : Nat) (xs : Nat → Int32) : List (Nat × m_Op) := [(0, o_iload 1 1), (1, o_aload 0 2), (2, o_slen L 3), (3, o_icmpge 12 6), (6, o_aload 0 7), (7, o_iload 1 8), (8, o_sald L xs 9), (9, o_goto 21), (12, o_const (1406659009) 14), (14, o_iload 1 15), (15, o_const (1) 16), (16, o_bin (fun x y => x + y) 17), (17, o_bin (fun x y => x * y) 18), (18, o_const (1067890903) 20), (20, o_bin (fun x y => x + y) 21), (21, o_ireturn)]
set_option maxRecDepth 20000 in
set_option maxHeartbeats 4000000 in
theorem ok_L_atS (L : Nat) (xs : Nat → Int32) : ∀ q ∈ cd_L_atS L xs, m_OK (fun G => G.2.2.2.2 = (L, xs)) m_my (cL_at, 2, RL, false, (some .int), []) q.1 q.2 :=
  m_cn (pc := 0) (ok_iload_n (m_dk dk_L_at 0 rfl) rfl rfl) <|
  m_cn (pc := 1) (ok_aload_n (m_dk dk_L_at 1 rfl) rfl rfl) <|
  m_cn (pc := 2) (ok_slen (xs := xs) (m_dk dk_L_at 2 rfl) rfl) <|
  m_cn (pc := 3) (ok_icmpge (m_dk dk_L_at 3 rfl) rfl rfl) <|
  m_cn (pc := 6) (ok_aload_n (m_dk dk_L_at 4 rfl) rfl rfl) <|
  m_cn (pc := 7) (ok_iload_n (m_dk dk_L_at 5 rfl) rfl rfl) <|
  m_cn (pc := 8) (ok_sald (m_dk dk_L_at 6 rfl) rfl) <|
  m_cn (pc := 9) (ok_goto (nx := 0) (m_dk dk_L_at 7 rfl) rfl) <|
  m_cn (pc := 12) (ok_ldc (m_dk dk_L_at 8 rfl) wd_187 rfl) <|
  m_cn (pc := 14) (ok_iload_n (m_dk dk_L_at 9 rfl) rfl rfl) <|
  m_cn (pc := 15) (ok_iconst (m_dk dk_L_at 10 rfl) (by decide) rfl) <|
  m_cn (pc := 16) (ok_iadd (m_dk dk_L_at 11 rfl) rfl) <|
  m_cn (pc := 17) (ok_imul (m_dk dk_L_at 12 rfl) rfl) <|
  m_cn (pc := 18) (ok_ldc (m_dk dk_L_at 13 rfl) wd_188 rfl) <|
  m_cn (pc := 20) (ok_iadd (m_dk dk_L_at 14 rfl) rfl) <|
  m_cn (pc := 21) (ok_ireturn (nx := 0) rfl (m_dk dk_L_at 15 rfl)) <|
  m_nl
theorem ok_L_atW (L : Nat) (xs : Nat → Int32) : ∀ pc : Nat, m_OK (fun G => G.2.2.2.2 = (L, xs)) m_my (cL_at, 2, RL, false, (some .int), []) pc (m_lk (cd_L_atS L xs) pc) := m_lk_ok _ (ok_L_atS L xs)
