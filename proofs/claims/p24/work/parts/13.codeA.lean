def dl_X0_init : List (Nat × Instr × Nat) := [(0, .aload_n 0, 1), (1, .invokespecial 3, 3), (4, .aload_n 0, 1), (5, .iload_n 1, 1), (6, .putfield 9, 3), (9, .aload_n 0, 1), (10, .iload_n 2, 1), (11, .putfield 15, 3), (14, .aload_n 0, 1), (15, .iload_n 3, 1), (16, .putfield 18, 3), (19, .aload_n 0, 1), (20, .iload 4, 2), (22, .putfield 21, 3), (25, .aload_n 0, 1), (26, .iload 5, 2), (28, .putfield 24, 3), (31, .aload_n 0, 1), (32, .iload_n 1, 1), (33, .iload_n 2, 1), (34, .isub, 1), (35, .invokestatic 27, 3), (38, .sipush 200, 3), (41, .imul, 1), (42, .putfield 33, 3), (45, .aload_n 0, 1), (46, .iload_n 1, 1), (47, .iload_n 2, 1), (48, .invokestatic 36, 3), (51, .sipush 200, 3), (54, .imul, 1), (55, .putfield 40, 3), (58, .return_, 1)]
theorem dk_X0_init : ∀ q ∈ dl_X0_init, decode cX0_init q.1 = .ok q.2 := by decide +kernel
def cd_X0_init : List (Nat × m_Op) := [(0, o_aload 0 1), (1, o_drop 4), (4, o_aload 0 5), (5, o_iload 1 6), (6, o_puti 1 0 9), (9, o_aload 0 10), (10, o_iload 2 11), (11, o_puti 1 1 14), (14, o_aload 0 15), (15, o_iload 3 16), (16, o_puti 1 2 19), (19, o_aload 0 20), (20, o_iload 4 22), (22, o_puti 1 3 25), (25, o_aload 0 26), (26, o_iload 5 28), (28, o_puti 1 4 31), (31, o_aload 0 32), (32, o_iload 1 33), (33, o_iload 2 34), (34, o_bin (fun x y => x - y) 35), (35, o_mun (fun x => if 0 ≤ x then x else 0 - x) 38), (38, o_const (200) 41), (41, o_bin (fun x y => x * y) 42), (42, o_puti 1 5 45), (45, o_aload 0 46), (46, o_iload 1 47), (47, o_iload 2 48), (48, o_mbin (fun x y => if y < x then y else x) 51), (51, o_const (200) 54), (54, o_bin (fun x y => x * y) 55), (55, o_puti 1 6 58), (58, o_return)]
set_option maxRecDepth 20000 in
set_option maxHeartbeats 4000000 in
theorem ok_X0_init {GP : m_G → Prop} : ∀ q ∈ cd_X0_init, m_OK GP m_my (cX0_init, 6, RX0, true, none, []) q.1 q.2 :=
  m_cn (pc := 0) (ok_aload_n (m_dk dk_X0_init 0 rfl) rfl rfl) <|
  m_cn (pc := 1) (ok_drop wd_427 wd_29 wd_objinit (m_dk dk_X0_init 1 rfl) rfl) <|
  m_cn (pc := 4) (ok_aload_n (m_dk dk_X0_init 2 rfl) rfl rfl) <|
  m_cn (pc := 5) (ok_iload_n (m_dk dk_X0_init 3 rfl) rfl rfl) <|
  m_cn (pc := 6) (ok_putiF (k := 0) (hc0 := (rfl : vwCl[1]? = some (RX0, TX0, 7))) (by decide) in_X0 wd_432 tyX0 tyX0_ok nmX0 rfl rfl rfl (tyX0_ok 0 (by decide)) (m_dk dk_X0_init 4 rfl) rfl) <|
  m_cn (pc := 9) (ok_aload_n (m_dk dk_X0_init 5 rfl) rfl rfl) <|
  m_cn (pc := 10) (ok_iload_n (m_dk dk_X0_init 6 rfl) rfl rfl) <|
  m_cn (pc := 11) (ok_putiF (k := 1) (hc0 := (rfl : vwCl[1]? = some (RX0, TX0, 7))) (by decide) in_X0 wd_433 tyX0 tyX0_ok nmX0 rfl rfl rfl (tyX0_ok 1 (by decide)) (m_dk dk_X0_init 7 rfl) rfl) <|
  m_cn (pc := 14) (ok_aload_n (m_dk dk_X0_init 8 rfl) rfl rfl) <|
  m_cn (pc := 15) (ok_iload_n (m_dk dk_X0_init 9 rfl) rfl rfl) <|
  m_cn (pc := 16) (ok_putiF (k := 2) (hc0 := (rfl : vwCl[1]? = some (RX0, TX0, 7))) (by decide) in_X0 wd_434 tyX0 tyX0_ok nmX0 rfl rfl rfl (tyX0_ok 2 (by decide)) (m_dk dk_X0_init 10 rfl) rfl) <|
  m_cn (pc := 19) (ok_aload_n (m_dk dk_X0_init 11 rfl) rfl rfl) <|
  m_cn (pc := 20) (ok_iload (m_dk dk_X0_init 12 rfl) rfl) <|
  m_cn (pc := 22) (ok_putiF (k := 3) (hc0 := (rfl : vwCl[1]? = some (RX0, TX0, 7))) (by decide) in_X0 wd_437 tyX0 tyX0_ok nmX0 rfl rfl rfl (tyX0_ok 3 (by decide)) (m_dk dk_X0_init 13 rfl) rfl) <|
  m_cn (pc := 25) (ok_aload_n (m_dk dk_X0_init 14 rfl) rfl rfl) <|
  m_cn (pc := 26) (ok_iload (m_dk dk_X0_init 15 rfl) rfl) <|
  m_cn (pc := 28) (ok_putiF (k := 4) (hc0 := (rfl : vwCl[1]? = some (RX0, TX0, 7))) (by decide) in_X0 wd_439 tyX0 tyX0_ok nmX0 rfl rfl rfl (tyX0_ok 4 (by decide)) (m_dk dk_X0_init 16 rfl) rfl) <|
  m_cn (pc := 31) (ok_aload_n (m_dk dk_X0_init 17 rfl) rfl rfl) <|
  m_cn (pc := 32) (ok_iload_n (m_dk dk_X0_init 18 rfl) rfl rfl) <|
  m_cn (pc := 33) (ok_iload_n (m_dk dk_X0_init 19 rfl) rfl rfl) <|
  m_cn (pc := 34) (ok_isub (m_dk dk_X0_init 20 rfl) rfl) <|
  m_cn (pc := 35) (ok_mabs wd_428 wd_429 wd_12 wd_math_abs (m_dk dk_X0_init 21 rfl) rfl) <|
  m_cn (pc := 38) (ok_sipush (m_dk dk_X0_init 22 rfl) (by decide) rfl) <|
  m_cn (pc := 41) (ok_imul (m_dk dk_X0_init 23 rfl) rfl) <|
  m_cn (pc := 42) (ok_putiF (k := 5) (hc0 := (rfl : vwCl[1]? = some (RX0, TX0, 7))) (by decide) in_X0 wd_441 tyX0 tyX0_ok nmX0 rfl rfl rfl (tyX0_ok 5 (by decide)) (m_dk dk_X0_init 24 rfl) rfl) <|
  m_cn (pc := 45) (ok_aload_n (m_dk dk_X0_init 25 rfl) rfl rfl) <|
  m_cn (pc := 46) (ok_iload_n (m_dk dk_X0_init 26 rfl) rfl rfl) <|
  m_cn (pc := 47) (ok_iload_n (m_dk dk_X0_init 27 rfl) rfl rfl) <|
  m_cn (pc := 48) (ok_mmin wd_431 wd_331 wd_12 wd_math_min (m_dk dk_X0_init 28 rfl) rfl) <|
  m_cn (pc := 51) (ok_sipush (m_dk dk_X0_init 29 rfl) (by decide) rfl) <|
  m_cn (pc := 54) (ok_imul (m_dk dk_X0_init 30 rfl) rfl) <|
  m_cn (pc := 55) (ok_putiF (k := 6) (hc0 := (rfl : vwCl[1]? = some (RX0, TX0, 7))) (by decide) in_X0 wd_444 tyX0 tyX0_ok nmX0 rfl rfl rfl (tyX0_ok 6 (by decide)) (m_dk dk_X0_init 31 rfl) rfl) <|
  m_cn (pc := 58) (ok_return (nx := 0) rfl (m_dk dk_X0_init 32 rfl)) <|
  m_nl
theorem mk_X0_init {GP : m_G → Prop} {cds : Nat → Nat → m_Op} (h : cds 0 = m_lk cd_X0_init) : m_MOK GP m_my cds 0 := ⟨RX0, true, [], by decide +kernel, rfl, (fun h9 => by first | rfl | cases h9), Or.inl ⟨rfl, rfl⟩, fun pc => by rw [h]; exact m_lk_ok _ ok_X0_init pc⟩
def dl_X0_across : List (Nat × Instr × Nat) := [(0, .iload_n 1, 1), (1, .aload_n 0, 1), (2, .getfield 9, 3), (5, .if_icmp .ne 8, 3), (8, .aload_n 0, 1), (9, .getfield 15, 3), (12, .ireturn, 1), (13, .iload_n 1, 1), (14, .aload_n 0, 1), (15, .getfield 15, 3), (18, .if_icmp .ne 10, 3), (21, .aload_n 0, 1), (22, .getfield 9, 3), (25, .goto 4, 3), (28, .iconst (-1), 1), (29, .ireturn, 1)]
theorem dk_X0_across : ∀ q ∈ dl_X0_across, decode cX0_across q.1 = .ok q.2 := by decide +kernel
def cd_X0_across : List (Nat × m_Op) := [(0, o_iload 1 1), (1, o_aload 0 2), (2, o_getf 1 0 5), (5, o_icmpne 13 8), (8, o_aload 0 9), (9, o_getf 1 1 12), (12, o_ireturn), (13, o_iload 1 14), (14, o_aload 0 15), (15, o_getf 1 1 18), (18, o_icmpne 28 21), (21, o_aload 0 22), (22, o_getf 1 0 25), (25, o_goto 29), (28, o_const (-1) 29), (29, o_ireturn)]
set_option maxRecDepth 20000 in
set_option maxHeartbeats 4000000 in
theorem ok_X0_across {GP : m_G → Prop} : ∀ q ∈ cd_X0_across, m_OK GP m_my (cX0_across, 2, RX0, false, (some .int), []) q.1 q.2 :=
  m_cn (pc := 0) (ok_iload_n (m_dk dk_X0_across 0 rfl) rfl rfl) <|
  m_cn (pc := 1) (ok_aload_n (m_dk dk_X0_across 1 rfl) rfl rfl) <|
  m_cn (pc := 2) (ok_getf (k := 0) (hc0 := (rfl : vwCl[1]? = some (RX0, TX0, 7))) (by decide) in_X0 wd_432 (m_dk dk_X0_across 2 rfl) rfl) <|
  m_cn (pc := 5) (ok_icmpne (m_dk dk_X0_across 3 rfl) rfl rfl) <|
  m_cn (pc := 8) (ok_aload_n (m_dk dk_X0_across 4 rfl) rfl rfl) <|
  m_cn (pc := 9) (ok_getf (k := 1) (hc0 := (rfl : vwCl[1]? = some (RX0, TX0, 7))) (by decide) in_X0 wd_433 (m_dk dk_X0_across 5 rfl) rfl) <|
  m_cn (pc := 12) (ok_ireturn (nx := 0) rfl (m_dk dk_X0_across 6 rfl)) <|
  m_cn (pc := 13) (ok_iload_n (m_dk dk_X0_across 7 rfl) rfl rfl) <|
  m_cn (pc := 14) (ok_aload_n (m_dk dk_X0_across 8 rfl) rfl rfl) <|
  m_cn (pc := 15) (ok_getf (k := 1) (hc0 := (rfl : vwCl[1]? = some (RX0, TX0, 7))) (by decide) in_X0 wd_433 (m_dk dk_X0_across 9 rfl) rfl) <|
  m_cn (pc := 18) (ok_icmpne (m_dk dk_X0_across 10 rfl) rfl rfl) <|
  m_cn (pc := 21) (ok_aload_n (m_dk dk_X0_across 11 rfl) rfl rfl) <|
  m_cn (pc := 22) (ok_getf (k := 0) (hc0 := (rfl : vwCl[1]? = some (RX0, TX0, 7))) (by decide) in_X0 wd_432 (m_dk dk_X0_across 12 rfl) rfl) <|
  m_cn (pc := 25) (ok_goto (nx := 0) (m_dk dk_X0_across 13 rfl) rfl) <|
  m_cn (pc := 28) (ok_iconst (m_dk dk_X0_across 14 rfl) (by decide) rfl) <|
  m_cn (pc := 29) (ok_ireturn (nx := 0) rfl (m_dk dk_X0_across 15 rfl)) <|
  m_nl
theorem mk_X0_across {GP : m_G → Prop} {cds : Nat → Nat → m_Op} (h : cds 1 = m_lk cd_X0_across) : m_MOK GP m_my cds 1 := ⟨RX0, false, [], by decide +kernel, rfl, (fun h9 => by first | rfl | cases h9), Or.inl ⟨rfl, rfl⟩, fun pc => by rw [h]; exact m_lk_ok _ ok_X0_across pc⟩
def dl_X1_init : List (Nat × Instr × Nat) := [(0, .aload_n 0, 1), (1, .invokespecial 3, 3), (4, .aload_n 0, 1), (5, .iload_n 1, 1), (6, .putfield 9, 3), (9, .aload_n 0, 1), (10, .iload_n 2, 1), (11, .putfield 15, 3), (14, .aload_n 0, 1), (15, .iload_n 3, 1), (16, .putfield 18, 3), (19, .aload_n 0, 1), (20, .iconst (-1), 1), (21, .putfield 21, 3), (24, .return_, 1)]
theorem dk_X1_init : ∀ q ∈ dl_X1_init, decode cX1_init q.1 = .ok q.2 := by decide +kernel
def cd_X1_init : List (Nat × m_Op) := [(0, o_aload 0 1), (1, o_drop 4), (4, o_aload 0 5), (5, o_iload 1 6), (6, o_puti 2 0 9), (9, o_aload 0 10), (10, o_iload 2 11), (11, o_puti 2 1 14), (14, o_aload 0 15), (15, o_iload 3 16), (16, o_puti 2 2 19), (19, o_aload 0 20), (20, o_const (-1) 21), (21, o_puti 2 4 24), (24, o_return)]
set_option maxRecDepth 20000 in
set_option maxHeartbeats 4000000 in
theorem ok_X1_init {GP : m_G → Prop} : ∀ q ∈ cd_X1_init, m_OK GP m_my (cX1_init, 4, RX1, true, none, []) q.1 q.2 :=
  m_cn (pc := 0) (ok_aload_n (m_dk dk_X1_init 0 rfl) rfl rfl) <|
  m_cn (pc := 1) (ok_drop wd_691 wd_29 wd_objinit (m_dk dk_X1_init 1 rfl) rfl) <|
  m_cn (pc := 4) (ok_aload_n (m_dk dk_X1_init 2 rfl) rfl rfl) <|
  m_cn (pc := 5) (ok_iload_n (m_dk dk_X1_init 3 rfl) rfl rfl) <|
  m_cn (pc := 6) (ok_putiF (k := 0) (hc0 := (rfl : vwCl[2]? = some (RX1, TX1, 5))) (by decide) in_X1 wd_692 tyX1 tyX1_ok nmX1 rfl rfl rfl (tyX1_ok 0 (by decide)) (m_dk dk_X1_init 4 rfl) rfl) <|
  m_cn (pc := 9) (ok_aload_n (m_dk dk_X1_init 5 rfl) rfl rfl) <|
  m_cn (pc := 10) (ok_iload_n (m_dk dk_X1_init 6 rfl) rfl rfl) <|
  m_cn (pc := 11) (ok_putiF (k := 1) (hc0 := (rfl : vwCl[2]? = some (RX1, TX1, 5))) (by decide) in_X1 wd_694 tyX1 tyX1_ok nmX1 rfl rfl rfl (tyX1_ok 1 (by decide)) (m_dk dk_X1_init 7 rfl) rfl) <|
  m_cn (pc := 14) (ok_aload_n (m_dk dk_X1_init 8 rfl) rfl rfl) <|
  m_cn (pc := 15) (ok_iload_n (m_dk dk_X1_init 9 rfl) rfl rfl) <|
  m_cn (pc := 16) (ok_putiF (k := 2) (hc0 := (rfl : vwCl[2]? = some (RX1, TX1, 5))) (by decide) in_X1 wd_696 tyX1 tyX1_ok nmX1 rfl rfl rfl (tyX1_ok 2 (by decide)) (m_dk dk_X1_init 10 rfl) rfl) <|
  m_cn (pc := 19) (ok_aload_n (m_dk dk_X1_init 11 rfl) rfl rfl) <|
  m_cn (pc := 20) (ok_iconst (m_dk dk_X1_init 12 rfl) (by decide) rfl) <|
  m_cn (pc := 21) (ok_puti (k := 4) (hc0 := (rfl : vwCl[2]? = some (RX1, TX1, 5))) (by decide) in_X1 wd_699 tyX1 tyX1_ok nmX1 rfl (tyX1_ok 4 (by decide)) (m_dk dk_X1_init 13 rfl) rfl) <|
  m_cn (pc := 24) (ok_return (nx := 0) rfl (m_dk dk_X1_init 14 rfl)) <|
  m_nl
theorem mk_X1_init {GP : m_G → Prop} {cds : Nat → Nat → m_Op} (h : cds 2 = m_lk cd_X1_init) : m_MOK GP m_my cds 2 := ⟨RX1, true, [], by decide +kernel, rfl, (fun h9 => by first | rfl | cases h9), Or.inl ⟨rfl, rfl⟩, fun pc => by rw [h]; exact m_lk_ok _ ok_X1_init pc⟩
def dl_X2_init : List (Nat × Instr × Nat) := [(0, .aload_n 0, 1), (1, .invokespecial 1, 3), (4, .aload_n 0, 1), (5, .iload_n 1, 1), (6, .putfield 7, 3), (9, .aload_n 0, 1), (10, .iload_n 2, 1), (11, .putfield 13, 3), (14, .aload_n 0, 1), (15, .iload_n 3, 1), (16, .putfield 16, 3), (19, .aload_n 0, 1), (20, .iload 4, 2), (22, .putfield 19, 3), (25, .aload_n 0, 1), (26, .iload 5, 2), (28, .putfield 22, 3), (31, .return_, 1)]
theorem dk_X2_init : ∀ q ∈ dl_X2_init, decode cX2_init q.1 = .ok q.2 := by decide +kernel
def cd_X2_init : List (Nat × m_Op) := [(0, o_aload 0 1), (1, o_drop 4), (4, o_aload 0 5), (5, o_iload 1 6), (6, o_puti 3 0 9), (9, o_aload 0 10), (10, o_iload 2 11), (11, o_puti 3 1 14), (14, o_aload 0 15), (15, o_iload 3 16), (16, o_puti 3 2 19), (19, o_aload 0 20), (20, o_iload 4 22), (22, o_puti 3 3 25), (25, o_aload 0 26), (26, o_iload 5 28), (28, o_puti 3 4 31), (31, o_return)]
set_option maxRecDepth 20000 in
set_option maxHeartbeats 4000000 in
theorem ok_X2_init {GP : m_G → Prop} : ∀ q ∈ cd_X2_init, m_OK GP m_my (cX2_init, 6, RX2, true, none, []) q.1 q.2 :=
  m_cn (pc := 0) (ok_aload_n (m_dk dk_X2_init 0 rfl) rfl rfl) <|
  m_cn (pc := 1) (ok_drop wd_496 wd_29 wd_objinit (m_dk dk_X2_init 1 rfl) rfl) <|
  m_cn (pc := 4) (ok_aload_n (m_dk dk_X2_init 2 rfl) rfl rfl) <|
  m_cn (pc := 5) (ok_iload_n (m_dk dk_X2_init 3 rfl) rfl rfl) <|
  m_cn (pc := 6) (ok_putiF (k := 0) (hc0 := (rfl : vwCl[3]? = some (RX2, TX2, 5))) (by decide) in_X2 wd_497 tyX2 tyX2_ok nmX2 rfl rfl rfl (tyX2_ok 0 (by decide)) (m_dk dk_X2_init 4 rfl) rfl) <|
  m_cn (pc := 9) (ok_aload_n (m_dk dk_X2_init 5 rfl) rfl rfl) <|
  m_cn (pc := 10) (ok_iload_n (m_dk dk_X2_init 6 rfl) rfl rfl) <|
  m_cn (pc := 11) (ok_putiF (k := 1) (hc0 := (rfl : vwCl[3]? = some (RX2, TX2, 5))) (by decide) in_X2 wd_500 tyX2 tyX2_ok nmX2 rfl rfl rfl (tyX2_ok 1 (by decide)) (m_dk dk_X2_init 7 rfl) rfl) <|
  m_cn (pc := 14) (ok_aload_n (m_dk dk_X2_init 8 rfl) rfl rfl) <|
  m_cn (pc := 15) (ok_iload_n (m_dk dk_X2_init 9 rfl) rfl rfl) <|
  m_cn (pc := 16) (ok_putiF (k := 2) (hc0 := (rfl : vwCl[3]? = some (RX2, TX2, 5))) (by decide) in_X2 wd_502 tyX2 tyX2_ok nmX2 rfl rfl rfl (tyX2_ok 2 (by decide)) (m_dk dk_X2_init 10 rfl) rfl) <|
  m_cn (pc := 19) (ok_aload_n (m_dk dk_X2_init 11 rfl) rfl rfl) <|
  m_cn (pc := 20) (ok_iload (m_dk dk_X2_init 12 rfl) rfl) <|
  m_cn (pc := 22) (ok_putiF (k := 3) (hc0 := (rfl : vwCl[3]? = some (RX2, TX2, 5))) (by decide) in_X2 wd_504 tyX2 tyX2_ok nmX2 rfl rfl rfl (tyX2_ok 3 (by decide)) (m_dk dk_X2_init 13 rfl) rfl) <|
  m_cn (pc := 25) (ok_aload_n (m_dk dk_X2_init 14 rfl) rfl rfl) <|
  m_cn (pc := 26) (ok_iload (m_dk dk_X2_init 15 rfl) rfl) <|
  m_cn (pc := 28) (ok_putiF (k := 4) (hc0 := (rfl : vwCl[3]? = some (RX2, TX2, 5))) (by decide) in_X2 wd_507 tyX2 tyX2_ok nmX2 rfl rfl rfl (tyX2_ok 4 (by decide)) (m_dk dk_X2_init 16 rfl) rfl) <|
  m_cn (pc := 31) (ok_return (nx := 0) rfl (m_dk dk_X2_init 17 rfl)) <|
  m_nl
theorem mk_X2_init {GP : m_G → Prop} {cds : Nat → Nat → m_Op} (h : cds 3 = m_lk cd_X2_init) : m_MOK GP m_my cds 3 := ⟨RX2, true, [], by decide +kernel, rfl, (fun h9 => by first | rfl | cases h9), Or.inl ⟨rfl, rfl⟩, fun pc => by rw [h]; exact m_lk_ok _ ok_X2_init pc⟩
def dl_X3_init : List (Nat × Instr × Nat) := [(0, .aload_n 0, 1), (1, .invokespecial 3, 3), (4, .aload_n 0, 1), (5, .bipush 10, 2), (7, .anewarray 9, 3), (10, .putfield 11, 3), (13, .aload_n 0, 1), (14, .bipush 10, 2), (16, .newarray .boolean, 2), (18, .putfield 17, 3), (21, .aload_n 0, 1), (22, .bipush 10, 2), (24, .bipush 6, 2), (26, .multianewarray 21 2, 4), (30, .putfield 23, 3), (33, .aload_n 0, 1), (34, .bipush 10, 2), (36, .anewarray 26, 3), (39, .putfield 28, 3), (42, .aload_n 0, 1), (43, .bipush 10, 2), (45, .newarray .int, 2), (47, .putfield 32, 3), (50, .aload_n 0, 1), (51, .bipush 10, 2), (53, .newarray .int, 2), (55, .putfield 36, 3), (58, .aload_n 0, 1), (59, .bipush 6, 2), (61, .bipush 6, 2), (63, .multianewarray 21 2, 4), (67, .putfield 39, 3), (70, .aload_n 0, 1), (71, .bipush 10, 2), (73, .bipush 6, 2), (75, .multianewarray 21 2, 4), (79, .putfield 42, 3), (82, .aload_n 0, 1), (83, .bipush 10, 2), (85, .newarray .int, 2), (87, .putfield 45, 3), (90, .return_, 1)]
theorem dk_X3_init : ∀ q ∈ dl_X3_init, decode cX3_init q.1 = .ok q.2 := by decide +kernel
def cd_X3_init : List (Nat × m_Op) := [(0, o_aload 0 1), (1, o_drop 4), (4, o_aload 0 5), (5, o_const (10) 7), (7, o_newq 4 10 10), (10, o_putr 4 0 13), (13, o_aload 0 14), (14, o_const (10) 16), (16, o_newi 1 10 18), (18, o_putr 4 1 21), (21, o_aload 0 22), (22, o_const (10) 24), (24, o_const (6) 26), (26, o_mna 10 6 30), (30, o_putr 4 2 33), (33, o_aload 0 34), (34, o_const (10) 36), (36, o_newq 5 10 39), (39, o_putr 4 3 42), (42, o_aload 0 43), (43, o_const (10) 45), (45, o_newi 0 10 47), (47, o_putr 4 4 50), (50, o_aload 0 51), (51, o_const (10) 53), (53, o_newi 0 10 55), (55, o_putr 4 5 58), (58, o_aload 0 59), (59, o_const (6) 61), (61, o_const (6) 63), (63, o_mna 6 6 67), (67, o_putr 4 6 70), (70, o_aload 0 71), (71, o_const (10) 73), (73, o_const (6) 75), (75, o_mna 10 6 79), (79, o_putr 4 9 82), (82, o_aload 0 83), (83, o_const (10) 85), (85, o_newi 0 10 87), (87, o_putr 4 10 90), (90, o_return)]
set_option maxRecDepth 20000 in
set_option maxHeartbeats 4000000 in
theorem ok_X3_init {GP : m_G → Prop} : ∀ q ∈ cd_X3_init, m_OK GP m_my (cX3_init, 1, RX3, true, none, []) q.1 q.2 :=
  m_cn (pc := 0) (ok_aload_n (m_dk dk_X3_init 0 rfl) rfl rfl) <|
  m_cn (pc := 1) (ok_drop wd_36 wd_29 wd_objinit (m_dk dk_X3_init 1 rfl) rfl) <|
  m_cn (pc := 4) (ok_aload_n (m_dk dk_X3_init 2 rfl) rfl rfl) <|
  m_cn (pc := 5) (ok_bipush (m_dk dk_X3_init 3 rfl) (by decide) rfl) <|
  m_cn (pc := 7) (ok_newq (C := "Cablecourt$Cable") (fun _ => rfl) (by decide) wd_37 (by decide) (m_dk dk_X3_init 4 rfl) rfl) <|
  m_cn (pc := 10) (ok_putrF (k := 0) (hc0 := (rfl : vwCl[4]? = some (RX3, TX3, 16))) (by decide) in_X3 wd_43 tyX3 tyX3_ok nmX3 rfl rfl rfl (tyX3_ok 0 (by decide)) (fun _ => rfl) (fun _ => rfl) (m_dk dk_X3_init 5 rfl) rfl) <|
  m_cn (pc := 13) (ok_aload_n (m_dk dk_X3_init 6 rfl) rfl rfl) <|
  m_cn (pc := 14) (ok_bipush (m_dk dk_X3_init 7 rfl) (by decide) rfl) <|
  m_cn (pc := 16) (ok_newz wd_101 (by decide) (m_dk dk_X3_init 8 rfl) rfl) <|
  m_cn (pc := 18) (ok_putrF (k := 1) (hc0 := (rfl : vwCl[4]? = some (RX3, TX3, 16))) (by decide) in_X3 wd_45 tyX3 tyX3_ok nmX3 rfl rfl rfl (tyX3_ok 1 (by decide)) (fun _ => rfl) (fun _ => rfl) (m_dk dk_X3_init 9 rfl) rfl) <|
  m_cn (pc := 21) (ok_aload_n (m_dk dk_X3_init 10 rfl) rfl rfl) <|
  m_cn (pc := 22) (ok_bipush (m_dk dk_X3_init 11 rfl) (by decide) rfl) <|
  m_cn (pc := 24) (ok_bipush (m_dk dk_X3_init 12 rfl) (by decide) rfl) <|
  m_cn (pc := 26) (ok_mna wd_39 wd_102 (by decide) (by decide) (m_dk dk_X3_init 13 rfl) rfl) <|
  m_cn (pc := 30) (ok_putrF (k := 2) (hc0 := (rfl : vwCl[4]? = some (RX3, TX3, 16))) (by decide) in_X3 wd_47 tyX3 tyX3_ok nmX3 rfl rfl rfl (tyX3_ok 2 (by decide)) (fun _ => rfl) (fun _ => rfl) (m_dk dk_X3_init 14 rfl) rfl) <|
  m_cn (pc := 33) (ok_aload_n (m_dk dk_X3_init 15 rfl) rfl rfl) <|
  m_cn (pc := 34) (ok_bipush (m_dk dk_X3_init 16 rfl) (by decide) rfl) <|
  m_cn (pc := 36) (ok_newq (C := "Cablecourt$Demand") (fun _ => rfl) (by decide) wd_41 (by decide) (m_dk dk_X3_init 17 rfl) rfl) <|
  m_cn (pc := 39) (ok_putrF (k := 3) (hc0 := (rfl : vwCl[4]? = some (RX3, TX3, 16))) (by decide) in_X3 wd_49 tyX3 tyX3_ok nmX3 rfl rfl rfl (tyX3_ok 3 (by decide)) (fun _ => rfl) (fun _ => rfl) (m_dk dk_X3_init 18 rfl) rfl) <|
  m_cn (pc := 42) (ok_aload_n (m_dk dk_X3_init 19 rfl) rfl rfl) <|
  m_cn (pc := 43) (ok_bipush (m_dk dk_X3_init 20 rfl) (by decide) rfl) <|
  m_cn (pc := 45) (ok_newi wd_102 (by decide) (m_dk dk_X3_init 21 rfl) rfl) <|
  m_cn (pc := 47) (ok_putrF (k := 4) (hc0 := (rfl : vwCl[4]? = some (RX3, TX3, 16))) (by decide) in_X3 wd_51 tyX3 tyX3_ok nmX3 rfl rfl rfl (tyX3_ok 4 (by decide)) (fun _ => rfl) (fun _ => rfl) (m_dk dk_X3_init 22 rfl) rfl) <|
  m_cn (pc := 50) (ok_aload_n (m_dk dk_X3_init 23 rfl) rfl rfl) <|
  m_cn (pc := 51) (ok_bipush (m_dk dk_X3_init 24 rfl) (by decide) rfl) <|
  m_cn (pc := 53) (ok_newi wd_102 (by decide) (m_dk dk_X3_init 25 rfl) rfl) <|
  m_cn (pc := 55) (ok_putrF (k := 5) (hc0 := (rfl : vwCl[4]? = some (RX3, TX3, 16))) (by decide) in_X3 wd_53 tyX3 tyX3_ok nmX3 rfl rfl rfl (tyX3_ok 5 (by decide)) (fun _ => rfl) (fun _ => rfl) (m_dk dk_X3_init 26 rfl) rfl) <|
  m_cn (pc := 58) (ok_aload_n (m_dk dk_X3_init 27 rfl) rfl rfl) <|
  m_cn (pc := 59) (ok_bipush (m_dk dk_X3_init 28 rfl) (by decide) rfl) <|
  m_cn (pc := 61) (ok_bipush (m_dk dk_X3_init 29 rfl) (by decide) rfl) <|
  m_cn (pc := 63) (ok_mna wd_39 wd_102 (by decide) (by decide) (m_dk dk_X3_init 30 rfl) rfl) <|
  m_cn (pc := 67) (ok_putrF (k := 6) (hc0 := (rfl : vwCl[4]? = some (RX3, TX3, 16))) (by decide) in_X3 wd_55 tyX3 tyX3_ok nmX3 rfl rfl rfl (tyX3_ok 6 (by decide)) (fun _ => rfl) (fun _ => rfl) (m_dk dk_X3_init 31 rfl) rfl) <|
  m_cn (pc := 70) (ok_aload_n (m_dk dk_X3_init 32 rfl) rfl rfl) <|
  m_cn (pc := 71) (ok_bipush (m_dk dk_X3_init 33 rfl) (by decide) rfl) <|
  m_cn (pc := 73) (ok_bipush (m_dk dk_X3_init 34 rfl) (by decide) rfl) <|
  m_cn (pc := 75) (ok_mna wd_39 wd_102 (by decide) (by decide) (m_dk dk_X3_init 35 rfl) rfl) <|
  m_cn (pc := 79) (ok_putrF (k := 9) (hc0 := (rfl : vwCl[4]? = some (RX3, TX3, 16))) (by decide) in_X3 wd_61 tyX3 tyX3_ok nmX3 rfl rfl rfl (tyX3_ok 9 (by decide)) (fun _ => rfl) (fun _ => rfl) (m_dk dk_X3_init 36 rfl) rfl) <|
  m_cn (pc := 82) (ok_aload_n (m_dk dk_X3_init 37 rfl) rfl rfl) <|
  m_cn (pc := 83) (ok_bipush (m_dk dk_X3_init 38 rfl) (by decide) rfl) <|
  m_cn (pc := 85) (ok_newi wd_102 (by decide) (m_dk dk_X3_init 39 rfl) rfl) <|
  m_cn (pc := 87) (ok_putrF (k := 10) (hc0 := (rfl : vwCl[4]? = some (RX3, TX3, 16))) (by decide) in_X3 wd_62 tyX3 tyX3_ok nmX3 rfl rfl rfl (tyX3_ok 10 (by decide)) (fun _ => rfl) (fun _ => rfl) (m_dk dk_X3_init 40 rfl) rfl) <|
  m_cn (pc := 90) (ok_return (nx := 0) rfl (m_dk dk_X3_init 41 rfl)) <|
  m_nl
theorem mk_X3_init {GP : m_G → Prop} {cds : Nat → Nat → m_Op} (h : cds 4 = m_lk cd_X3_init) : m_MOK GP m_my cds 4 := ⟨RX3, true, [], by decide +kernel, rfl, (fun h9 => by first | rfl | cases h9), Or.inl ⟨rfl, rfl⟩, fun pc => by rw [h]; exact m_lk_ok _ ok_X3_init pc⟩
def dl_X3_clear : List (Nat × Instr × Nat) := [(0, .aload_n 0, 1), (1, .iconst 0, 1), (2, .putfield 48, 3), (5, .aload_n 0, 1), (6, .iconst 0, 1), (7, .putfield 52, 3), (10, .aload_n 0, 1), (11, .iconst 1, 1), (12, .putfield 55, 3), (15, .return_, 1)]
theorem dk_X3_clear : ∀ q ∈ dl_X3_clear, decode cX3_clear q.1 = .ok q.2 := by decide +kernel
def cd_X3_clear : List (Nat × m_Op) := [(0, o_aload 0 1), (1, o_const (0) 2), (2, o_puti 4 7 5), (5, o_aload 0 6), (6, o_const (0) 7), (7, o_puti 4 8 10), (10, o_aload 0 11), (11, o_const (1) 12), (12, o_putz 4 15 15), (15, o_return)]
set_option maxRecDepth 20000 in
set_option maxHeartbeats 4000000 in
theorem ok_X3_clear {GP : m_G → Prop} : ∀ q ∈ cd_X3_clear, m_OK GP m_my (cX3_clear, 1, RX3, false, none, []) q.1 q.2 :=
  m_cn (pc := 0) (ok_aload_n (m_dk dk_X3_clear 0 rfl) rfl rfl) <|
  m_cn (pc := 1) (ok_iconst (m_dk dk_X3_clear 1 rfl) (by decide) rfl) <|
  m_cn (pc := 2) (ok_puti (k := 7) (hc0 := (rfl : vwCl[4]? = some (RX3, TX3, 16))) (by decide) in_X3 wd_57 tyX3 tyX3_ok nmX3 rfl (tyX3_ok 7 (by decide)) (m_dk dk_X3_clear 2 rfl) rfl) <|
  m_cn (pc := 5) (ok_aload_n (m_dk dk_X3_clear 3 rfl) rfl rfl) <|
  m_cn (pc := 6) (ok_iconst (m_dk dk_X3_clear 4 rfl) (by decide) rfl) <|
  m_cn (pc := 7) (ok_puti (k := 8) (hc0 := (rfl : vwCl[4]? = some (RX3, TX3, 16))) (by decide) in_X3 wd_59 tyX3 tyX3_ok nmX3 rfl (tyX3_ok 8 (by decide)) (m_dk dk_X3_clear 5 rfl) rfl) <|
  m_cn (pc := 10) (ok_aload_n (m_dk dk_X3_clear 6 rfl) rfl rfl) <|
  m_cn (pc := 11) (ok_iconst (m_dk dk_X3_clear 7 rfl) (by decide) rfl) <|
  m_cn (pc := 12) (ok_putz (k := 15) (hc0 := (rfl : vwCl[4]? = some (RX3, TX3, 16))) (by decide) in_X3 wd_67 tyX3 tyX3_ok nmX3 rfl (tyX3_ok 15 (by decide)) (m_dk dk_X3_clear 8 rfl) rfl) <|
  m_cn (pc := 15) (ok_return (nx := 0) rfl (m_dk dk_X3_clear 9 rfl)) <|
  m_nl
theorem mk_X3_clear {GP : m_G → Prop} {cds : Nat → Nat → m_Op} (h : cds 5 = m_lk cd_X3_clear) : m_MOK GP m_my cds 5 := ⟨RX3, false, [], by decide +kernel, rfl, (fun h9 => by first | rfl | cases h9), Or.inl ⟨rfl, rfl⟩, fun pc => by rw [h]; exact m_lk_ok _ ok_X3_clear pc⟩
def dl_X3_lay : List (Nat × Instr × Nat) := [(0, .aload_n 0, 1), (1, .getfield 48, 3), (4, .bipush 10, 2), (6, .if_icmp .lt 4, 3), (9, .return_, 1), (10, .aload_n 0, 1), (11, .getfield 11, 3), (14, .aload_n 0, 1), (15, .getfield 48, 3), (18, .aload_n 1, 1), (19, .aastore, 1), (20, .aload_n 0, 1), (21, .getfield 17, 3), (24, .aload_n 0, 1), (25, .getfield 48, 3), (28, .iconst 1, 1), (29, .bastore, 1), (30, .iconst 0, 1), (31, .istore_n 2, 1), (32, .iload_n 2, 1), (33, .bipush 6, 2), (35, .if_icmp .ge 36, 3), (38, .aload_n 0, 1), (39, .getfield 23, 3), (42, .aload_n 0, 1), (43, .getfield 48, 3), (46, .aaload, 1), (47, .iload_n 2, 1), (48, .iload_n 2, 1), (49, .aload_n 1, 1), (50, .getfield 59, 3), (53, .if_icmp .ne 10, 3), (56, .aload_n 1, 1), (57, .getfield 62, 3), (60, .goto 4, 3), (63, .iconst 0, 1), (64, .iastore, 1), (65, .iinc 2 1, 3), (68, .goto (-36), 3), (71, .aload_n 0, 1), (72, .dup, 1), (73, .getfield 48, 3), (76, .iconst 1, 1), (77, .iadd, 1), (78, .putfield 48, 3), (81, .aload_n 0, 1), (82, .iconst 1, 1), (83, .putfield 55, 3), (86, .return_, 1)]
theorem dk_X3_lay : ∀ q ∈ dl_X3_lay, decode cX3_lay q.1 = .ok q.2 := by decide +kernel
def cd_X3_lay : List (Nat × m_Op) := [(0, o_aload 0 1), (1, o_getf 4 7 4), (4, o_const (10) 6), (6, o_icmplt 10 9), (9, o_return), (10, o_aload 0 11), (11, o_getf 4 0 14), (14, o_aload 0 15), (15, o_getf 4 7 18), (18, o_aload 1 19), (19, o_aast 4 1 20), (20, o_aload 0 21), (21, o_getf 4 1 24), (24, o_aload 0 25), (25, o_getf 4 7 28), (28, o_const (1) 29), (29, o_zast 30), (30, o_const (0) 31), (31, o_istore 2 32), (32, o_iload 2 33), (33, o_const (6) 35), (35, o_icmpge 71 38), (38, o_aload 0 39), (39, o_getf 4 2 42), (42, o_aload 0 43), (43, o_getf 4 7 46), (46, o_aald 3 47), (47, o_iload 2 48), (48, o_iload 2 49), (49, o_aload 1 50), (50, o_getf 1 3 53), (53, o_icmpne 63 56), (56, o_aload 1 57), (57, o_getf 1 2 60), (60, o_goto 64), (63, o_const (0) 64), (64, o_iast 65), (65, o_iinc 2 (1) 68), (68, o_goto 32), (71, o_aload 0 72), (72, o_dup 73), (73, o_getf 4 7 76), (76, o_const (1) 77), (77, o_bin (fun x y => x + y) 78), (78, o_puti 4 7 81), (81, o_aload 0 82), (82, o_const (1) 83), (83, o_putz 4 15 86), (86, o_return)]
set_option maxRecDepth 20000 in
set_option maxHeartbeats 4000000 in
theorem ok_X3_lay {GP : m_G → Prop} : ∀ q ∈ cd_X3_lay, m_OK GP m_my (cX3_lay, 3, RX3, false, none, []) q.1 q.2 :=
  m_cn (pc := 0) (ok_aload_n (m_dk dk_X3_lay 0 rfl) rfl rfl) <|
  m_cn (pc := 1) (ok_getf (k := 7) (hc0 := (rfl : vwCl[4]? = some (RX3, TX3, 16))) (by decide) in_X3 wd_57 (m_dk dk_X3_lay 1 rfl) rfl) <|
  m_cn (pc := 4) (ok_bipush (m_dk dk_X3_lay 2 rfl) (by decide) rfl) <|
  m_cn (pc := 6) (ok_icmplt (m_dk dk_X3_lay 3 rfl) rfl rfl) <|
  m_cn (pc := 9) (ok_return (nx := 0) rfl (m_dk dk_X3_lay 4 rfl)) <|
  m_cn (pc := 10) (ok_aload_n (m_dk dk_X3_lay 5 rfl) rfl rfl) <|
  m_cn (pc := 11) (ok_getf (k := 0) (hc0 := (rfl : vwCl[4]? = some (RX3, TX3, 16))) (by decide) in_X3 wd_43 (m_dk dk_X3_lay 6 rfl) rfl) <|
  m_cn (pc := 14) (ok_aload_n (m_dk dk_X3_lay 7 rfl) rfl rfl) <|
  m_cn (pc := 15) (ok_getf (k := 7) (hc0 := (rfl : vwCl[4]? = some (RX3, TX3, 16))) (by decide) in_X3 wd_57 (m_dk dk_X3_lay 8 rfl) rfl) <|
  m_cn (pc := 18) (ok_aload_n (m_dk dk_X3_lay 9 rfl) rfl rfl) <|
  m_cn (pc := 19) (ok_aast (r9 := (RX0, TX0, 7)) (fun _ => rfl) rfl (m_dk dk_X3_lay 10 rfl) rfl) <|
  m_cn (pc := 20) (ok_aload_n (m_dk dk_X3_lay 11 rfl) rfl rfl) <|
  m_cn (pc := 21) (ok_getf (k := 1) (hc0 := (rfl : vwCl[4]? = some (RX3, TX3, 16))) (by decide) in_X3 wd_45 (m_dk dk_X3_lay 12 rfl) rfl) <|
  m_cn (pc := 24) (ok_aload_n (m_dk dk_X3_lay 13 rfl) rfl rfl) <|
  m_cn (pc := 25) (ok_getf (k := 7) (hc0 := (rfl : vwCl[4]? = some (RX3, TX3, 16))) (by decide) in_X3 wd_57 (m_dk dk_X3_lay 14 rfl) rfl) <|
  m_cn (pc := 28) (ok_iconst (m_dk dk_X3_lay 15 rfl) (by decide) rfl) <|
  m_cn (pc := 29) (ok_zast (m_dk dk_X3_lay 16 rfl) rfl) <|
  m_cn (pc := 30) (ok_iconst (m_dk dk_X3_lay 17 rfl) (by decide) rfl) <|
  m_cn (pc := 31) (ok_istore_n (m_dk dk_X3_lay 18 rfl) rfl rfl (by decide)) <|
  m_cn (pc := 32) (ok_iload_n (m_dk dk_X3_lay 19 rfl) rfl rfl) <|
  m_cn (pc := 33) (ok_bipush (m_dk dk_X3_lay 20 rfl) (by decide) rfl) <|
  m_cn (pc := 35) (ok_icmpge (m_dk dk_X3_lay 21 rfl) rfl rfl) <|
  m_cn (pc := 38) (ok_aload_n (m_dk dk_X3_lay 22 rfl) rfl rfl) <|
  m_cn (pc := 39) (ok_getf (k := 2) (hc0 := (rfl : vwCl[4]? = some (RX3, TX3, 16))) (by decide) in_X3 wd_47 (m_dk dk_X3_lay 23 rfl) rfl) <|
  m_cn (pc := 42) (ok_aload_n (m_dk dk_X3_lay 24 rfl) rfl rfl) <|
  m_cn (pc := 43) (ok_getf (k := 7) (hc0 := (rfl : vwCl[4]? = some (RX3, TX3, 16))) (by decide) in_X3 wd_57 (m_dk dk_X3_lay 25 rfl) rfl) <|
  m_cn (pc := 46) (ok_aaldI (m_dk dk_X3_lay 26 rfl) rfl) <|
  m_cn (pc := 47) (ok_iload_n (m_dk dk_X3_lay 27 rfl) rfl rfl) <|
  m_cn (pc := 48) (ok_iload_n (m_dk dk_X3_lay 28 rfl) rfl rfl) <|
  m_cn (pc := 49) (ok_aload_n (m_dk dk_X3_lay 29 rfl) rfl rfl) <|
  m_cn (pc := 50) (ok_getf (k := 3) (hc0 := (rfl : vwCl[1]? = some (RX0, TX0, 7))) (by decide) in_X0 wd_438 (m_dk dk_X3_lay 30 rfl) rfl) <|
  m_cn (pc := 53) (ok_icmpne (m_dk dk_X3_lay 31 rfl) rfl rfl) <|
  m_cn (pc := 56) (ok_aload_n (m_dk dk_X3_lay 32 rfl) rfl rfl) <|
  m_cn (pc := 57) (ok_getf (k := 2) (hc0 := (rfl : vwCl[1]? = some (RX0, TX0, 7))) (by decide) in_X0 wd_435 (m_dk dk_X3_lay 33 rfl) rfl) <|
  m_cn (pc := 60) (ok_goto (nx := 0) (m_dk dk_X3_lay 34 rfl) rfl) <|
  m_cn (pc := 63) (ok_iconst (m_dk dk_X3_lay 35 rfl) (by decide) rfl) <|
  m_cn (pc := 64) (ok_iast (m_dk dk_X3_lay 36 rfl) rfl) <|
  m_cn (pc := 65) (ok_iinc (m_dk dk_X3_lay 37 rfl) (by decide) rfl (by decide)) <|
  m_cn (pc := 68) (ok_goto (nx := 0) (m_dk dk_X3_lay 38 rfl) rfl) <|
  m_cn (pc := 71) (ok_aload_n (m_dk dk_X3_lay 39 rfl) rfl rfl) <|
  m_cn (pc := 72) (ok_dup (m_dk dk_X3_lay 40 rfl) rfl) <|
  m_cn (pc := 73) (ok_getf (k := 7) (hc0 := (rfl : vwCl[4]? = some (RX3, TX3, 16))) (by decide) in_X3 wd_57 (m_dk dk_X3_lay 41 rfl) rfl) <|
  m_cn (pc := 76) (ok_iconst (m_dk dk_X3_lay 42 rfl) (by decide) rfl) <|
  m_cn (pc := 77) (ok_iadd (m_dk dk_X3_lay 43 rfl) rfl) <|
  m_cn (pc := 78) (ok_puti (k := 7) (hc0 := (rfl : vwCl[4]? = some (RX3, TX3, 16))) (by decide) in_X3 wd_57 tyX3 tyX3_ok nmX3 rfl (tyX3_ok 7 (by decide)) (m_dk dk_X3_lay 44 rfl) rfl) <|
  m_cn (pc := 81) (ok_aload_n (m_dk dk_X3_lay 45 rfl) rfl rfl) <|
  m_cn (pc := 82) (ok_iconst (m_dk dk_X3_lay 46 rfl) (by decide) rfl) <|
  m_cn (pc := 83) (ok_putz (k := 15) (hc0 := (rfl : vwCl[4]? = some (RX3, TX3, 16))) (by decide) in_X3 wd_67 tyX3 tyX3_ok nmX3 rfl (tyX3_ok 15 (by decide)) (m_dk dk_X3_lay 47 rfl) rfl) <|
  m_cn (pc := 86) (ok_return (nx := 0) rfl (m_dk dk_X3_lay 48 rfl)) <|
  m_nl
theorem mk_X3_lay {GP : m_G → Prop} {cds : Nat → Nat → m_Op} (h : cds 6 = m_lk cd_X3_lay) : m_MOK GP m_my cds 6 := ⟨RX3, false, [], by decide +kernel, rfl, (fun h9 => by first | rfl | cases h9), Or.inl ⟨rfl, rfl⟩, fun pc => by rw [h]; exact m_lk_ok _ ok_X3_lay pc⟩
def dl_X3_tell : List (Nat × Instr × Nat) := [(0, .aload_n 0, 1), (1, .getfield 52, 3), (4, .bipush 10, 2), (6, .if_icmp .lt 4, 3), (9, .return_, 1), (10, .aload_n 0, 1), (11, .getfield 28, 3), (14, .aload_n 0, 1), (15, .getfield 52, 3), (18, .aload_n 1, 1), (19, .aastore, 1), (20, .aload_n 0, 1), (21, .getfield 32, 3), (24, .aload_n 0, 1), (25, .getfield 52, 3), (28, .iconst (-1), 1), (29, .iastore, 1), (30, .aload_n 0, 1), (31, .getfield 36, 3), (34, .aload_n 0, 1), (35, .getfield 52, 3), (38, .iconst 0, 1), (39, .iastore, 1), (40, .aload_n 0, 1), (41, .dup, 1), (42, .getfield 52, 3), (45, .iconst 1, 1), (46, .iadd, 1), (47, .putfield 52, 3), (50, .aload_n 0, 1), (51, .iconst 1, 1), (52, .putfield 55, 3), (55, .return_, 1)]
theorem dk_X3_tell : ∀ q ∈ dl_X3_tell, decode cX3_tell q.1 = .ok q.2 := by decide +kernel
def cd_X3_tell : List (Nat × m_Op) := [(0, o_aload 0 1), (1, o_getf 4 8 4), (4, o_const (10) 6), (6, o_icmplt 10 9), (9, o_return), (10, o_aload 0 11), (11, o_getf 4 3 14), (14, o_aload 0 15), (15, o_getf 4 8 18), (18, o_aload 1 19), (19, o_aast 5 3 20), (20, o_aload 0 21), (21, o_getf 4 4 24), (24, o_aload 0 25), (25, o_getf 4 8 28), (28, o_const (-1) 29), (29, o_iast 30), (30, o_aload 0 31), (31, o_getf 4 5 34), (34, o_aload 0 35), (35, o_getf 4 8 38), (38, o_const (0) 39), (39, o_iast 40), (40, o_aload 0 41), (41, o_dup 42), (42, o_getf 4 8 45), (45, o_const (1) 46), (46, o_bin (fun x y => x + y) 47), (47, o_puti 4 8 50), (50, o_aload 0 51), (51, o_const (1) 52), (52, o_putz 4 15 55), (55, o_return)]
set_option maxRecDepth 20000 in
set_option maxHeartbeats 4000000 in
theorem ok_X3_tell {GP : m_G → Prop} : ∀ q ∈ cd_X3_tell, m_OK GP m_my (cX3_tell, 2, RX3, false, none, []) q.1 q.2 :=
  m_cn (pc := 0) (ok_aload_n (m_dk dk_X3_tell 0 rfl) rfl rfl) <|
  m_cn (pc := 1) (ok_getf (k := 8) (hc0 := (rfl : vwCl[4]? = some (RX3, TX3, 16))) (by decide) in_X3 wd_59 (m_dk dk_X3_tell 1 rfl) rfl) <|
  m_cn (pc := 4) (ok_bipush (m_dk dk_X3_tell 2 rfl) (by decide) rfl) <|
  m_cn (pc := 6) (ok_icmplt (m_dk dk_X3_tell 3 rfl) rfl rfl) <|
  m_cn (pc := 9) (ok_return (nx := 0) rfl (m_dk dk_X3_tell 4 rfl)) <|
  m_cn (pc := 10) (ok_aload_n (m_dk dk_X3_tell 5 rfl) rfl rfl) <|
  m_cn (pc := 11) (ok_getf (k := 3) (hc0 := (rfl : vwCl[4]? = some (RX3, TX3, 16))) (by decide) in_X3 wd_49 (m_dk dk_X3_tell 6 rfl) rfl) <|
  m_cn (pc := 14) (ok_aload_n (m_dk dk_X3_tell 7 rfl) rfl rfl) <|
  m_cn (pc := 15) (ok_getf (k := 8) (hc0 := (rfl : vwCl[4]? = some (RX3, TX3, 16))) (by decide) in_X3 wd_59 (m_dk dk_X3_tell 8 rfl) rfl) <|
  m_cn (pc := 18) (ok_aload_n (m_dk dk_X3_tell 9 rfl) rfl rfl) <|
  m_cn (pc := 19) (ok_aast (r9 := (RX2, TX2, 5)) (fun _ => rfl) rfl (m_dk dk_X3_tell 10 rfl) rfl) <|
  m_cn (pc := 20) (ok_aload_n (m_dk dk_X3_tell 11 rfl) rfl rfl) <|
  m_cn (pc := 21) (ok_getf (k := 4) (hc0 := (rfl : vwCl[4]? = some (RX3, TX3, 16))) (by decide) in_X3 wd_51 (m_dk dk_X3_tell 12 rfl) rfl) <|
  m_cn (pc := 24) (ok_aload_n (m_dk dk_X3_tell 13 rfl) rfl rfl) <|
  m_cn (pc := 25) (ok_getf (k := 8) (hc0 := (rfl : vwCl[4]? = some (RX3, TX3, 16))) (by decide) in_X3 wd_59 (m_dk dk_X3_tell 14 rfl) rfl) <|
  m_cn (pc := 28) (ok_iconst (m_dk dk_X3_tell 15 rfl) (by decide) rfl) <|
  m_cn (pc := 29) (ok_iast (m_dk dk_X3_tell 16 rfl) rfl) <|
  m_cn (pc := 30) (ok_aload_n (m_dk dk_X3_tell 17 rfl) rfl rfl) <|
  m_cn (pc := 31) (ok_getf (k := 5) (hc0 := (rfl : vwCl[4]? = some (RX3, TX3, 16))) (by decide) in_X3 wd_53 (m_dk dk_X3_tell 18 rfl) rfl) <|
  m_cn (pc := 34) (ok_aload_n (m_dk dk_X3_tell 19 rfl) rfl rfl) <|
  m_cn (pc := 35) (ok_getf (k := 8) (hc0 := (rfl : vwCl[4]? = some (RX3, TX3, 16))) (by decide) in_X3 wd_59 (m_dk dk_X3_tell 20 rfl) rfl) <|
  m_cn (pc := 38) (ok_iconst (m_dk dk_X3_tell 21 rfl) (by decide) rfl) <|
  m_cn (pc := 39) (ok_iast (m_dk dk_X3_tell 22 rfl) rfl) <|
  m_cn (pc := 40) (ok_aload_n (m_dk dk_X3_tell 23 rfl) rfl rfl) <|
  m_cn (pc := 41) (ok_dup (m_dk dk_X3_tell 24 rfl) rfl) <|
  m_cn (pc := 42) (ok_getf (k := 8) (hc0 := (rfl : vwCl[4]? = some (RX3, TX3, 16))) (by decide) in_X3 wd_59 (m_dk dk_X3_tell 25 rfl) rfl) <|
  m_cn (pc := 45) (ok_iconst (m_dk dk_X3_tell 26 rfl) (by decide) rfl) <|
  m_cn (pc := 46) (ok_iadd (m_dk dk_X3_tell 27 rfl) rfl) <|
  m_cn (pc := 47) (ok_puti (k := 8) (hc0 := (rfl : vwCl[4]? = some (RX3, TX3, 16))) (by decide) in_X3 wd_59 tyX3 tyX3_ok nmX3 rfl (tyX3_ok 8 (by decide)) (m_dk dk_X3_tell 28 rfl) rfl) <|
  m_cn (pc := 50) (ok_aload_n (m_dk dk_X3_tell 29 rfl) rfl rfl) <|
  m_cn (pc := 51) (ok_iconst (m_dk dk_X3_tell 30 rfl) (by decide) rfl) <|
  m_cn (pc := 52) (ok_putz (k := 15) (hc0 := (rfl : vwCl[4]? = some (RX3, TX3, 16))) (by decide) in_X3 wd_67 tyX3 tyX3_ok nmX3 rfl (tyX3_ok 15 (by decide)) (m_dk dk_X3_tell 31 rfl) rfl) <|
  m_cn (pc := 55) (ok_return (nx := 0) rfl (m_dk dk_X3_tell 32 rfl)) <|
  m_nl
theorem mk_X3_tell {GP : m_G → Prop} {cds : Nat → Nat → m_Op} (h : cds 7 = m_lk cd_X3_tell) : m_MOK GP m_my cds 7 := ⟨RX3, false, [], by decide +kernel, rfl, (fun h9 => by first | rfl | cases h9), Or.inl ⟨rfl, rfl⟩, fun pc => by rw [h]; exact m_lk_ok _ ok_X3_tell pc⟩
def dl_X3_hand : List (Nat × Instr × Nat) := [(0, .aload_n 0, 1), (1, .getfield 23, 3), (4, .aload_n 1, 1), (5, .getfield 65, 3), (8, .aaload, 1), (9, .aload_n 1, 1), (10, .getfield 70, 3), (13, .dup2, 1), (14, .iaload, 1), (15, .aload_n 1, 1), (16, .getfield 71, 3), (19, .isub, 1), (20, .iastore, 1), (21, .aload_n 0, 1), (22, .getfield 23, 3), (25, .aload_n 1, 1), (26, .getfield 65, 3), (29, .aaload, 1), (30, .aload_n 1, 1), (31, .getfield 72, 3), (34, .dup2, 1), (35, .iaload, 1), (36, .aload_n 1, 1), (37, .getfield 71, 3), (40, .iadd, 1), (41, .iastore, 1), (42, .aload_n 0, 1), (43, .iconst 1, 1), (44, .putfield 55, 3), (47, .return_, 1)]
theorem dk_X3_hand : ∀ q ∈ dl_X3_hand, decode cX3_hand q.1 = .ok q.2 := by decide +kernel
def cd_X3_hand : List (Nat × m_Op) := [(0, o_aload 0 1), (1, o_getf 4 2 4), (4, o_aload 1 5), (5, o_getf 5 0 8), (8, o_aald 3 9), (9, o_aload 1 10), (10, o_getf 5 1 13), (13, o_dup2 14), (14, o_iald 0 15), (15, o_aload 1 16), (16, o_getf 5 3 19), (19, o_bin (fun x y => x - y) 20), (20, o_iast 21), (21, o_aload 0 22), (22, o_getf 4 2 25), (25, o_aload 1 26), (26, o_getf 5 0 29), (29, o_aald 3 30), (30, o_aload 1 31), (31, o_getf 5 2 34), (34, o_dup2 35), (35, o_iald 0 36), (36, o_aload 1 37), (37, o_getf 5 3 40), (40, o_bin (fun x y => x + y) 41), (41, o_iast 42), (42, o_aload 0 43), (43, o_const (1) 44), (44, o_putz 4 15 47), (47, o_return)]
set_option maxRecDepth 20000 in
set_option maxHeartbeats 4000000 in
theorem ok_X3_hand {GP : m_G → Prop} : ∀ q ∈ cd_X3_hand, m_OK GP m_my (cX3_hand, 2, RX3, false, none, []) q.1 q.2 :=
  m_cn (pc := 0) (ok_aload_n (m_dk dk_X3_hand 0 rfl) rfl rfl) <|
  m_cn (pc := 1) (ok_getf (k := 2) (hc0 := (rfl : vwCl[4]? = some (RX3, TX3, 16))) (by decide) in_X3 wd_47 (m_dk dk_X3_hand 1 rfl) rfl) <|
  m_cn (pc := 4) (ok_aload_n (m_dk dk_X3_hand 2 rfl) rfl rfl) <|
  m_cn (pc := 5) (ok_getf (k := 0) (hc0 := (rfl : vwCl[5]? = some (RX4, TX4, 5))) (by decide) in_X4 wd_599 (m_dk dk_X3_hand 3 rfl) rfl) <|
  m_cn (pc := 8) (ok_aaldI (m_dk dk_X3_hand 4 rfl) rfl) <|
  m_cn (pc := 9) (ok_aload_n (m_dk dk_X3_hand 5 rfl) rfl rfl) <|
  m_cn (pc := 10) (ok_getf (k := 1) (hc0 := (rfl : vwCl[5]? = some (RX4, TX4, 5))) (by decide) in_X4 wd_601 (m_dk dk_X3_hand 6 rfl) rfl) <|
  m_cn (pc := 13) (ok_dup2 (m_dk dk_X3_hand 7 rfl) rfl) <|
  m_cn (pc := 14) (ok_iald (m_dk dk_X3_hand 8 rfl) rfl) <|
  m_cn (pc := 15) (ok_aload_n (m_dk dk_X3_hand 9 rfl) rfl rfl) <|
  m_cn (pc := 16) (ok_getf (k := 3) (hc0 := (rfl : vwCl[5]? = some (RX4, TX4, 5))) (by decide) in_X4 wd_605 (m_dk dk_X3_hand 10 rfl) rfl) <|
  m_cn (pc := 19) (ok_isub (m_dk dk_X3_hand 11 rfl) rfl) <|
  m_cn (pc := 20) (ok_iast (m_dk dk_X3_hand 12 rfl) rfl) <|
  m_cn (pc := 21) (ok_aload_n (m_dk dk_X3_hand 13 rfl) rfl rfl) <|
  m_cn (pc := 22) (ok_getf (k := 2) (hc0 := (rfl : vwCl[4]? = some (RX3, TX3, 16))) (by decide) in_X3 wd_47 (m_dk dk_X3_hand 14 rfl) rfl) <|
  m_cn (pc := 25) (ok_aload_n (m_dk dk_X3_hand 15 rfl) rfl rfl) <|
  m_cn (pc := 26) (ok_getf (k := 0) (hc0 := (rfl : vwCl[5]? = some (RX4, TX4, 5))) (by decide) in_X4 wd_599 (m_dk dk_X3_hand 16 rfl) rfl) <|
  m_cn (pc := 29) (ok_aaldI (m_dk dk_X3_hand 17 rfl) rfl) <|
  m_cn (pc := 30) (ok_aload_n (m_dk dk_X3_hand 18 rfl) rfl rfl) <|
  m_cn (pc := 31) (ok_getf (k := 2) (hc0 := (rfl : vwCl[5]? = some (RX4, TX4, 5))) (by decide) in_X4 wd_603 (m_dk dk_X3_hand 19 rfl) rfl) <|
  m_cn (pc := 34) (ok_dup2 (m_dk dk_X3_hand 20 rfl) rfl) <|
  m_cn (pc := 35) (ok_iald (m_dk dk_X3_hand 21 rfl) rfl) <|
  m_cn (pc := 36) (ok_aload_n (m_dk dk_X3_hand 22 rfl) rfl rfl) <|
  m_cn (pc := 37) (ok_getf (k := 3) (hc0 := (rfl : vwCl[5]? = some (RX4, TX4, 5))) (by decide) in_X4 wd_605 (m_dk dk_X3_hand 23 rfl) rfl) <|
  m_cn (pc := 40) (ok_iadd (m_dk dk_X3_hand 24 rfl) rfl) <|
  m_cn (pc := 41) (ok_iast (m_dk dk_X3_hand 25 rfl) rfl) <|
  m_cn (pc := 42) (ok_aload_n (m_dk dk_X3_hand 26 rfl) rfl rfl) <|
  m_cn (pc := 43) (ok_iconst (m_dk dk_X3_hand 27 rfl) (by decide) rfl) <|
  m_cn (pc := 44) (ok_putz (k := 15) (hc0 := (rfl : vwCl[4]? = some (RX3, TX3, 16))) (by decide) in_X3 wd_67 tyX3 tyX3_ok nmX3 rfl (tyX3_ok 15 (by decide)) (m_dk dk_X3_hand 28 rfl) rfl) <|
  m_cn (pc := 47) (ok_return (nx := 0) rfl (m_dk dk_X3_hand 29 rfl)) <|
  m_nl
theorem mk_X3_hand {GP : m_G → Prop} {cds : Nat → Nat → m_Op} (h : cds 8 = m_lk cd_X3_hand) : m_MOK GP m_my cds 8 := ⟨RX3, false, [], by decide +kernel, rfl, (fun h9 => by first | rfl | cases h9), Or.inl ⟨rfl, rfl⟩, fun pc => by rw [h]; exact m_lk_ok _ ok_X3_hand pc⟩
def dl_X3_sever : List (Nat × Instr × Nat) := [(0, .aload_n 0, 1), (1, .getfield 17, 3), (4, .iload_n 1, 1), (5, .iconst 0, 1), (6, .bastore, 1), (7, .aload_n 0, 1), (8, .iconst 1, 1), (9, .putfield 55, 3), (12, .return_, 1)]
theorem dk_X3_sever : ∀ q ∈ dl_X3_sever, decode cX3_sever q.1 = .ok q.2 := by decide +kernel
def cd_X3_sever : List (Nat × m_Op) := [(0, o_aload 0 1), (1, o_getf 4 1 4), (4, o_iload 1 5), (5, o_const (0) 6), (6, o_zast 7), (7, o_aload 0 8), (8, o_const (1) 9), (9, o_putz 4 15 12), (12, o_return)]
set_option maxRecDepth 20000 in
set_option maxHeartbeats 4000000 in
theorem ok_X3_sever {GP : m_G → Prop} : ∀ q ∈ cd_X3_sever, m_OK GP m_my (cX3_sever, 2, RX3, false, none, []) q.1 q.2 :=
  m_cn (pc := 0) (ok_aload_n (m_dk dk_X3_sever 0 rfl) rfl rfl) <|
  m_cn (pc := 1) (ok_getf (k := 1) (hc0 := (rfl : vwCl[4]? = some (RX3, TX3, 16))) (by decide) in_X3 wd_45 (m_dk dk_X3_sever 1 rfl) rfl) <|
  m_cn (pc := 4) (ok_iload_n (m_dk dk_X3_sever 2 rfl) rfl rfl) <|
  m_cn (pc := 5) (ok_iconst (m_dk dk_X3_sever 3 rfl) (by decide) rfl) <|
  m_cn (pc := 6) (ok_zast (m_dk dk_X3_sever 4 rfl) rfl) <|
  m_cn (pc := 7) (ok_aload_n (m_dk dk_X3_sever 5 rfl) rfl rfl) <|
  m_cn (pc := 8) (ok_iconst (m_dk dk_X3_sever 6 rfl) (by decide) rfl) <|
  m_cn (pc := 9) (ok_putz (k := 15) (hc0 := (rfl : vwCl[4]? = some (RX3, TX3, 16))) (by decide) in_X3 wd_67 tyX3 tyX3_ok nmX3 rfl (tyX3_ok 15 (by decide)) (m_dk dk_X3_sever 7 rfl) rfl) <|
  m_cn (pc := 12) (ok_return (nx := 0) rfl (m_dk dk_X3_sever 8 rfl)) <|
  m_nl
theorem mk_X3_sever {GP : m_G → Prop} {cds : Nat → Nat → m_Op} (h : cds 9 = m_lk cd_X3_sever) : m_MOK GP m_my cds 9 := ⟨RX3, false, [], by decide +kernel, rfl, (fun h9 => by first | rfl | cases h9), Or.inl ⟨rfl, rfl⟩, fun pc => by rw [h]; exact m_lk_ok _ ok_X3_sever pc⟩
def dl_X3_mend : List (Nat × Instr × Nat) := [(0, .aload_n 0, 1), (1, .getfield 17, 3), (4, .iload_n 1, 1), (5, .iconst 1, 1), (6, .bastore, 1), (7, .aload_n 0, 1), (8, .iconst 1, 1), (9, .putfield 55, 3), (12, .return_, 1)]
theorem dk_X3_mend : ∀ q ∈ dl_X3_mend, decode cX3_mend q.1 = .ok q.2 := by decide +kernel
def cd_X3_mend : List (Nat × m_Op) := [(0, o_aload 0 1), (1, o_getf 4 1 4), (4, o_iload 1 5), (5, o_const (1) 6), (6, o_zast 7), (7, o_aload 0 8), (8, o_const (1) 9), (9, o_putz 4 15 12), (12, o_return)]
set_option maxRecDepth 20000 in
set_option maxHeartbeats 4000000 in
theorem ok_X3_mend {GP : m_G → Prop} : ∀ q ∈ cd_X3_mend, m_OK GP m_my (cX3_mend, 2, RX3, false, none, []) q.1 q.2 :=
  m_cn (pc := 0) (ok_aload_n (m_dk dk_X3_mend 0 rfl) rfl rfl) <|
  m_cn (pc := 1) (ok_getf (k := 1) (hc0 := (rfl : vwCl[4]? = some (RX3, TX3, 16))) (by decide) in_X3 wd_45 (m_dk dk_X3_mend 1 rfl) rfl) <|
  m_cn (pc := 4) (ok_iload_n (m_dk dk_X3_mend 2 rfl) rfl rfl) <|
  m_cn (pc := 5) (ok_iconst (m_dk dk_X3_mend 3 rfl) (by decide) rfl) <|
  m_cn (pc := 6) (ok_zast (m_dk dk_X3_mend 4 rfl) rfl) <|
  m_cn (pc := 7) (ok_aload_n (m_dk dk_X3_mend 5 rfl) rfl rfl) <|
  m_cn (pc := 8) (ok_iconst (m_dk dk_X3_mend 6 rfl) (by decide) rfl) <|
  m_cn (pc := 9) (ok_putz (k := 15) (hc0 := (rfl : vwCl[4]? = some (RX3, TX3, 16))) (by decide) in_X3 wd_67 tyX3 tyX3_ok nmX3 rfl (tyX3_ok 15 (by decide)) (m_dk dk_X3_mend 7 rfl) rfl) <|
  m_cn (pc := 12) (ok_return (nx := 0) rfl (m_dk dk_X3_mend 8 rfl)) <|
  m_nl
theorem mk_X3_mend {GP : m_G → Prop} {cds : Nat → Nat → m_Op} (h : cds 10 = m_lk cd_X3_mend) : m_MOK GP m_my cds 10 := ⟨RX3, false, [], by decide +kernel, rfl, (fun h9 => by first | rfl | cases h9), Or.inl ⟨rfl, rfl⟩, fun pc => by rw [h]; exact m_lk_ok _ ok_X3_mend pc⟩
def dl_X3_lead : List (Nat × Instr × Nat) := [(0, .aload_n 0, 1), (1, .getfield 55, 3), (4, .ifCond .ne 4, 3), (7, .return_, 1), (8, .aload_n 0, 1), (9, .iconst 0, 1), (10, .putfield 55, 3), (13, .aload_n 0, 1), (14, .invokevirtual 75, 3), (17, .iconst 0, 1), (18, .istore_n 1, 1), (19, .iload_n 1, 1), (20, .aload_n 0, 1), (21, .getfield 52, 3), (24, .if_icmp .ge 15, 3), (27, .aload_n 0, 1), (28, .iload_n 1, 1), (29, .iconst 0, 1), (30, .invokevirtual 78, 3), (33, .iinc 1 1, 3), (36, .goto (-17), 3), (39, .iconst 0, 1), (40, .istore_n 1, 1), (41, .iload_n 1, 1), (42, .aload_n 0, 1), (43, .getfield 52, 3), (46, .if_icmp .ge 26, 3), (49, .aload_n 0, 1), (50, .getfield 32, 3), (53, .iload_n 1, 1), (54, .iaload, 1), (55, .iconst (-1), 1), (56, .if_icmp .ne 10, 3), (59, .aload_n 0, 1), (60, .iload_n 1, 1), (61, .bipush 20, 2), (63, .invokevirtual 78, 3), (66, .iinc 1 1, 3), (69, .goto (-28), 3), (72, .return_, 1)]
theorem dk_X3_lead : ∀ q ∈ dl_X3_lead, decode cX3_lead q.1 = .ok q.2 := by decide +kernel
def cd_X3_lead : List (Nat × m_Op) := [(0, o_aload 0 1), (1, o_getf 4 15 4), (4, o_ifne 8 7), (7, o_return), (8, o_aload 0 9), (9, o_const (0) 10), (10, o_putz 4 15 13), (13, o_aload 0 14), (14, o_callv 4 12 1 0 0 17), (17, o_const (0) 18), (18, o_istore 1 19), (19, o_iload 1 20), (20, o_aload 0 21), (21, o_getf 4 8 24), (24, o_icmpge 39 27), (27, o_aload 0 28), (28, o_iload 1 29), (29, o_const (0) 30), (30, o_callv 4 13 3 0 0 33), (33, o_iinc 1 (1) 36), (36, o_goto 19), (39, o_const (0) 40), (40, o_istore 1 41), (41, o_iload 1 42), (42, o_aload 0 43), (43, o_getf 4 8 46), (46, o_icmpge 72 49), (49, o_aload 0 50), (50, o_getf 4 4 53), (53, o_iload 1 54), (54, o_iald 0 55), (55, o_const (-1) 56), (56, o_icmpne 66 59), (59, o_aload 0 60), (60, o_iload 1 61), (61, o_const (20) 63), (63, o_callv 4 13 3 0 0 66), (66, o_iinc 1 (1) 69), (69, o_goto 41), (72, o_return)]
set_option maxRecDepth 20000 in
set_option maxHeartbeats 4000000 in
theorem ok_X3_lead {GP : m_G → Prop} : ∀ q ∈ cd_X3_lead, m_OK GP m_my (cX3_lead, 2, RX3, false, none, []) q.1 q.2 :=
  m_cn (pc := 0) (ok_aload_n (m_dk dk_X3_lead 0 rfl) rfl rfl) <|
  m_cn (pc := 1) (ok_getf (k := 15) (hc0 := (rfl : vwCl[4]? = some (RX3, TX3, 16))) (by decide) in_X3 wd_67 (m_dk dk_X3_lead 1 rfl) rfl) <|
  m_cn (pc := 4) (ok_ifne (m_dk dk_X3_lead 2 rfl) rfl rfl) <|
  m_cn (pc := 7) (ok_return (nx := 0) rfl (m_dk dk_X3_lead 3 rfl)) <|
  m_cn (pc := 8) (ok_aload_n (m_dk dk_X3_lead 4 rfl) rfl rfl) <|
  m_cn (pc := 9) (ok_iconst (m_dk dk_X3_lead 5 rfl) (by decide) rfl) <|
  m_cn (pc := 10) (ok_putz (k := 15) (hc0 := (rfl : vwCl[4]? = some (RX3, TX3, 16))) (by decide) in_X3 wd_67 tyX3 tyX3_ok nmX3 rfl (tyX3_ok 15 (by decide)) (m_dk dk_X3_lead 6 rfl) rfl) <|
  m_cn (pc := 13) (ok_aload_n (m_dk dk_X3_lead 7 rfl) rfl rfl) <|
  m_cn (pc := 14) (ok_callv (T := mt_X3_freeAll) my_X3_freeAll rfl cw_X3_freeAll rfl rfl (by decide) (r9 := (RX3, TX3, 16)) rfl rfl wd_293 wd_295 (m_wk 2 (by decide +kernel) (by decide +kernel)) wd_2 (by decide +kernel) (m_dk dk_X3_lead 8 rfl) rfl) <|
  m_cn (pc := 17) (ok_iconst (m_dk dk_X3_lead 9 rfl) (by decide) rfl) <|
  m_cn (pc := 18) (ok_istore_n (m_dk dk_X3_lead 10 rfl) rfl rfl (by decide)) <|
  m_cn (pc := 19) (ok_iload_n (m_dk dk_X3_lead 11 rfl) rfl rfl) <|
  m_cn (pc := 20) (ok_aload_n (m_dk dk_X3_lead 12 rfl) rfl rfl) <|
  m_cn (pc := 21) (ok_getf (k := 8) (hc0 := (rfl : vwCl[4]? = some (RX3, TX3, 16))) (by decide) in_X3 wd_59 (m_dk dk_X3_lead 13 rfl) rfl) <|
  m_cn (pc := 24) (ok_icmpge (m_dk dk_X3_lead 14 rfl) rfl rfl) <|
  m_cn (pc := 27) (ok_aload_n (m_dk dk_X3_lead 15 rfl) rfl rfl) <|
  m_cn (pc := 28) (ok_iload_n (m_dk dk_X3_lead 16 rfl) rfl rfl) <|
  m_cn (pc := 29) (ok_iconst (m_dk dk_X3_lead 17 rfl) (by decide) rfl) <|
  m_cn (pc := 30) (ok_callv (T := mt_X3_leadOne) my_X3_leadOne rfl cw_X3_leadOne rfl rfl (by decide) (r9 := (RX3, TX3, 16)) rfl rfl wd_300 wd_302 (m_wk 3 (by decide +kernel) (by decide +kernel)) wd_2 (by decide +kernel) (m_dk dk_X3_lead 18 rfl) rfl) <|
  m_cn (pc := 33) (ok_iinc (m_dk dk_X3_lead 19 rfl) (by decide) rfl (by decide)) <|
  m_cn (pc := 36) (ok_goto (nx := 0) (m_dk dk_X3_lead 20 rfl) rfl) <|
  m_cn (pc := 39) (ok_iconst (m_dk dk_X3_lead 21 rfl) (by decide) rfl) <|
  m_cn (pc := 40) (ok_istore_n (m_dk dk_X3_lead 22 rfl) rfl rfl (by decide)) <|
  m_cn (pc := 41) (ok_iload_n (m_dk dk_X3_lead 23 rfl) rfl rfl) <|
  m_cn (pc := 42) (ok_aload_n (m_dk dk_X3_lead 24 rfl) rfl rfl) <|
  m_cn (pc := 43) (ok_getf (k := 8) (hc0 := (rfl : vwCl[4]? = some (RX3, TX3, 16))) (by decide) in_X3 wd_59 (m_dk dk_X3_lead 25 rfl) rfl) <|
  m_cn (pc := 46) (ok_icmpge (m_dk dk_X3_lead 26 rfl) rfl rfl) <|
  m_cn (pc := 49) (ok_aload_n (m_dk dk_X3_lead 27 rfl) rfl rfl) <|
  m_cn (pc := 50) (ok_getf (k := 4) (hc0 := (rfl : vwCl[4]? = some (RX3, TX3, 16))) (by decide) in_X3 wd_51 (m_dk dk_X3_lead 28 rfl) rfl) <|
  m_cn (pc := 53) (ok_iload_n (m_dk dk_X3_lead 29 rfl) rfl rfl) <|
  m_cn (pc := 54) (ok_iald (m_dk dk_X3_lead 30 rfl) rfl) <|
  m_cn (pc := 55) (ok_iconst (m_dk dk_X3_lead 31 rfl) (by decide) rfl) <|
  m_cn (pc := 56) (ok_icmpne (m_dk dk_X3_lead 32 rfl) rfl rfl) <|
  m_cn (pc := 59) (ok_aload_n (m_dk dk_X3_lead 33 rfl) rfl rfl) <|
  m_cn (pc := 60) (ok_iload_n (m_dk dk_X3_lead 34 rfl) rfl rfl) <|
  m_cn (pc := 61) (ok_bipush (m_dk dk_X3_lead 35 rfl) (by decide) rfl) <|
  m_cn (pc := 63) (ok_callv (T := mt_X3_leadOne) my_X3_leadOne rfl cw_X3_leadOne rfl rfl (by decide) (r9 := (RX3, TX3, 16)) rfl rfl wd_300 wd_302 (m_wk 3 (by decide +kernel) (by decide +kernel)) wd_2 (by decide +kernel) (m_dk dk_X3_lead 36 rfl) rfl) <|
  m_cn (pc := 66) (ok_iinc (m_dk dk_X3_lead 37 rfl) (by decide) rfl (by decide)) <|
  m_cn (pc := 69) (ok_goto (nx := 0) (m_dk dk_X3_lead 38 rfl) rfl) <|
  m_cn (pc := 72) (ok_return (nx := 0) rfl (m_dk dk_X3_lead 39 rfl)) <|
  m_nl
theorem mk_X3_lead {GP : m_G → Prop} {cds : Nat → Nat → m_Op} (h : cds 11 = m_lk cd_X3_lead) : m_MOK GP m_my cds 11 := ⟨RX3, false, [], by decide +kernel, rfl, (fun h9 => by first | rfl | cases h9), Or.inl ⟨rfl, rfl⟩, fun pc => by rw [h]; exact m_lk_ok _ ok_X3_lead pc⟩
def dl_X3_freeAll : List (Nat × Instr × Nat) := [(0, .iconst 0, 1), (1, .istore_n 1, 1), (2, .iload_n 1, 1), (3, .aload_n 0, 1), (4, .getfield 48, 3), (7, .if_icmp .ge 28, 3), (10, .aload_n 0, 1), (11, .getfield 23, 3), (14, .iload_n 1, 1), (15, .aaload, 1), (16, .iconst 0, 1), (17, .aload_n 0, 1), (18, .getfield 42, 3), (21, .iload_n 1, 1), (22, .aaload, 1), (23, .iconst 0, 1), (24, .bipush 6, 2), (26, .invokestatic 82, 3), (29, .iinc 1 1, 3), (32, .goto (-30), 3), (35, .iconst 0, 1), (36, .istore_n 1, 1), (37, .iload_n 1, 1), (38, .aload_n 0, 1), (39, .getfield 52, 3), (42, .if_icmp .ge 23, 3), (45, .aload_n 0, 1), (46, .getfield 32, 3), (49, .iload_n 1, 1), (50, .iconst (-1), 1), (51, .iastore, 1), (52, .aload_n 0, 1), (53, .getfield 36, 3), (56, .iload_n 1, 1), (57, .iconst 0, 1), (58, .iastore, 1), (59, .iinc 1 1, 3), (62, .goto (-25), 3), (65, .iconst 0, 1), (66, .istore_n 1, 1), (67, .iload_n 1, 1), (68, .bipush 6, 2), (70, .if_icmp .ge 32, 3), (73, .iconst 0, 1), (74, .istore_n 2, 1), (75, .iload_n 2, 1), (76, .bipush 6, 2), (78, .if_icmp .ge 18, 3), (81, .aload_n 0, 1), (82, .getfield 39, 3), (85, .iload_n 1, 1), (86, .aaload, 1), (87, .iload_n 2, 1), (88, .iconst 0, 1), (89, .iastore, 1), (90, .iinc 2 1, 3), (93, .goto (-18), 3), (96, .iinc 1 1, 3), (99, .goto (-32), 3), (102, .return_, 1)]
theorem dk_X3_freeAll : ∀ q ∈ dl_X3_freeAll, decode cX3_freeAll q.1 = .ok q.2 := by decide +kernel
def cd_X3_freeAll : List (Nat × m_Op) := [(0, o_const (0) 1), (1, o_istore 1 2), (2, o_iload 1 3), (3, o_aload 0 4), (4, o_getf 4 7 7), (7, o_icmpge 35 10), (10, o_aload 0 11), (11, o_getf 4 2 14), (14, o_iload 1 15), (15, o_aald 3 16), (16, o_const (0) 17), (17, o_aload 0 18), (18, o_getf 4 9 21), (21, o_iload 1 22), (22, o_aald 3 23), (23, o_const (0) 24), (24, o_const (6) 26), (26, o_copy 29), (29, o_iinc 1 (1) 32), (32, o_goto 2), (35, o_const (0) 36), (36, o_istore 1 37), (37, o_iload 1 38), (38, o_aload 0 39), (39, o_getf 4 8 42), (42, o_icmpge 65 45), (45, o_aload 0 46), (46, o_getf 4 4 49), (49, o_iload 1 50), (50, o_const (-1) 51), (51, o_iast 52), (52, o_aload 0 53), (53, o_getf 4 5 56), (56, o_iload 1 57), (57, o_const (0) 58), (58, o_iast 59), (59, o_iinc 1 (1) 62), (62, o_goto 37), (65, o_const (0) 66), (66, o_istore 1 67), (67, o_iload 1 68), (68, o_const (6) 70), (70, o_icmpge 102 73), (73, o_const (0) 74), (74, o_istore 2 75), (75, o_iload 2 76), (76, o_const (6) 78), (78, o_icmpge 96 81), (81, o_aload 0 82), (82, o_getf 4 6 85), (85, o_iload 1 86), (86, o_aald 3 87), (87, o_iload 2 88), (88, o_const (0) 89), (89, o_iast 90), (90, o_iinc 2 (1) 93), (93, o_goto 75), (96, o_iinc 1 (1) 99), (99, o_goto 67), (102, o_return)]
set_option maxRecDepth 20000 in
set_option maxHeartbeats 4000000 in
theorem ok_X3_freeAll {GP : m_G → Prop} : ∀ q ∈ cd_X3_freeAll, m_OK GP m_my (cX3_freeAll, 3, RX3, false, none, []) q.1 q.2 :=
  m_cn (pc := 0) (ok_iconst (m_dk dk_X3_freeAll 0 rfl) (by decide) rfl) <|
  m_cn (pc := 1) (ok_istore_n (m_dk dk_X3_freeAll 1 rfl) rfl rfl (by decide)) <|
  m_cn (pc := 2) (ok_iload_n (m_dk dk_X3_freeAll 2 rfl) rfl rfl) <|
  m_cn (pc := 3) (ok_aload_n (m_dk dk_X3_freeAll 3 rfl) rfl rfl) <|
  m_cn (pc := 4) (ok_getf (k := 7) (hc0 := (rfl : vwCl[4]? = some (RX3, TX3, 16))) (by decide) in_X3 wd_57 (m_dk dk_X3_freeAll 4 rfl) rfl) <|
  m_cn (pc := 7) (ok_icmpge (m_dk dk_X3_freeAll 5 rfl) rfl rfl) <|
  m_cn (pc := 10) (ok_aload_n (m_dk dk_X3_freeAll 6 rfl) rfl rfl) <|
  m_cn (pc := 11) (ok_getf (k := 2) (hc0 := (rfl : vwCl[4]? = some (RX3, TX3, 16))) (by decide) in_X3 wd_47 (m_dk dk_X3_freeAll 7 rfl) rfl) <|
  m_cn (pc := 14) (ok_iload_n (m_dk dk_X3_freeAll 8 rfl) rfl rfl) <|
  m_cn (pc := 15) (ok_aaldI (m_dk dk_X3_freeAll 9 rfl) rfl) <|
  m_cn (pc := 16) (ok_iconst (m_dk dk_X3_freeAll 10 rfl) (by decide) rfl) <|
  m_cn (pc := 17) (ok_aload_n (m_dk dk_X3_freeAll 11 rfl) rfl rfl) <|
  m_cn (pc := 18) (ok_getf (k := 9) (hc0 := (rfl : vwCl[4]? = some (RX3, TX3, 16))) (by decide) in_X3 wd_61 (m_dk dk_X3_freeAll 12 rfl) rfl) <|
  m_cn (pc := 21) (ok_iload_n (m_dk dk_X3_freeAll 13 rfl) rfl rfl) <|
  m_cn (pc := 22) (ok_aaldI (m_dk dk_X3_freeAll 14 rfl) rfl) <|
  m_cn (pc := 23) (ok_iconst (m_dk dk_X3_freeAll 15 rfl) (by decide) rfl) <|
  m_cn (pc := 24) (ok_bipush (m_dk dk_X3_freeAll 16 rfl) (by decide) rfl) <|
  m_cn (pc := 26) (ok_copy wd_297 wd_299 wd_298 wd_11 (m_dk dk_X3_freeAll 17 rfl) rfl) <|
  m_cn (pc := 29) (ok_iinc (m_dk dk_X3_freeAll 18 rfl) (by decide) rfl (by decide)) <|
  m_cn (pc := 32) (ok_goto (nx := 0) (m_dk dk_X3_freeAll 19 rfl) rfl) <|
  m_cn (pc := 35) (ok_iconst (m_dk dk_X3_freeAll 20 rfl) (by decide) rfl) <|
  m_cn (pc := 36) (ok_istore_n (m_dk dk_X3_freeAll 21 rfl) rfl rfl (by decide)) <|
  m_cn (pc := 37) (ok_iload_n (m_dk dk_X3_freeAll 22 rfl) rfl rfl) <|
  m_cn (pc := 38) (ok_aload_n (m_dk dk_X3_freeAll 23 rfl) rfl rfl) <|
  m_cn (pc := 39) (ok_getf (k := 8) (hc0 := (rfl : vwCl[4]? = some (RX3, TX3, 16))) (by decide) in_X3 wd_59 (m_dk dk_X3_freeAll 24 rfl) rfl) <|
  m_cn (pc := 42) (ok_icmpge (m_dk dk_X3_freeAll 25 rfl) rfl rfl) <|
  m_cn (pc := 45) (ok_aload_n (m_dk dk_X3_freeAll 26 rfl) rfl rfl) <|
  m_cn (pc := 46) (ok_getf (k := 4) (hc0 := (rfl : vwCl[4]? = some (RX3, TX3, 16))) (by decide) in_X3 wd_51 (m_dk dk_X3_freeAll 27 rfl) rfl) <|
  m_cn (pc := 49) (ok_iload_n (m_dk dk_X3_freeAll 28 rfl) rfl rfl) <|
  m_cn (pc := 50) (ok_iconst (m_dk dk_X3_freeAll 29 rfl) (by decide) rfl) <|
  m_cn (pc := 51) (ok_iast (m_dk dk_X3_freeAll 30 rfl) rfl) <|
  m_cn (pc := 52) (ok_aload_n (m_dk dk_X3_freeAll 31 rfl) rfl rfl) <|
  m_cn (pc := 53) (ok_getf (k := 5) (hc0 := (rfl : vwCl[4]? = some (RX3, TX3, 16))) (by decide) in_X3 wd_53 (m_dk dk_X3_freeAll 32 rfl) rfl) <|
  m_cn (pc := 56) (ok_iload_n (m_dk dk_X3_freeAll 33 rfl) rfl rfl) <|
  m_cn (pc := 57) (ok_iconst (m_dk dk_X3_freeAll 34 rfl) (by decide) rfl) <|
  m_cn (pc := 58) (ok_iast (m_dk dk_X3_freeAll 35 rfl) rfl) <|
  m_cn (pc := 59) (ok_iinc (m_dk dk_X3_freeAll 36 rfl) (by decide) rfl (by decide)) <|
  m_cn (pc := 62) (ok_goto (nx := 0) (m_dk dk_X3_freeAll 37 rfl) rfl) <|
  m_cn (pc := 65) (ok_iconst (m_dk dk_X3_freeAll 38 rfl) (by decide) rfl) <|
  m_cn (pc := 66) (ok_istore_n (m_dk dk_X3_freeAll 39 rfl) rfl rfl (by decide)) <|
  m_cn (pc := 67) (ok_iload_n (m_dk dk_X3_freeAll 40 rfl) rfl rfl) <|
  m_cn (pc := 68) (ok_bipush (m_dk dk_X3_freeAll 41 rfl) (by decide) rfl) <|
  m_cn (pc := 70) (ok_icmpge (m_dk dk_X3_freeAll 42 rfl) rfl rfl) <|
  m_cn (pc := 73) (ok_iconst (m_dk dk_X3_freeAll 43 rfl) (by decide) rfl) <|
  m_cn (pc := 74) (ok_istore_n (m_dk dk_X3_freeAll 44 rfl) rfl rfl (by decide)) <|
  m_cn (pc := 75) (ok_iload_n (m_dk dk_X3_freeAll 45 rfl) rfl rfl) <|
  m_cn (pc := 76) (ok_bipush (m_dk dk_X3_freeAll 46 rfl) (by decide) rfl) <|
  m_cn (pc := 78) (ok_icmpge (m_dk dk_X3_freeAll 47 rfl) rfl rfl) <|
  m_cn (pc := 81) (ok_aload_n (m_dk dk_X3_freeAll 48 rfl) rfl rfl) <|
  m_cn (pc := 82) (ok_getf (k := 6) (hc0 := (rfl : vwCl[4]? = some (RX3, TX3, 16))) (by decide) in_X3 wd_55 (m_dk dk_X3_freeAll 49 rfl) rfl) <|
  m_cn (pc := 85) (ok_iload_n (m_dk dk_X3_freeAll 50 rfl) rfl rfl) <|
  m_cn (pc := 86) (ok_aaldI (m_dk dk_X3_freeAll 51 rfl) rfl) <|
  m_cn (pc := 87) (ok_iload_n (m_dk dk_X3_freeAll 52 rfl) rfl rfl) <|
  m_cn (pc := 88) (ok_iconst (m_dk dk_X3_freeAll 53 rfl) (by decide) rfl) <|
  m_cn (pc := 89) (ok_iast (m_dk dk_X3_freeAll 54 rfl) rfl) <|
  m_cn (pc := 90) (ok_iinc (m_dk dk_X3_freeAll 55 rfl) (by decide) rfl (by decide)) <|
  m_cn (pc := 93) (ok_goto (nx := 0) (m_dk dk_X3_freeAll 56 rfl) rfl) <|
  m_cn (pc := 96) (ok_iinc (m_dk dk_X3_freeAll 57 rfl) (by decide) rfl (by decide)) <|
  m_cn (pc := 99) (ok_goto (nx := 0) (m_dk dk_X3_freeAll 58 rfl) rfl) <|
  m_cn (pc := 102) (ok_return (nx := 0) rfl (m_dk dk_X3_freeAll 59 rfl)) <|
  m_nl
theorem mk_X3_freeAll {GP : m_G → Prop} {cds : Nat → Nat → m_Op} (h : cds 12 = m_lk cd_X3_freeAll) : m_MOK GP m_my cds 12 := ⟨RX3, false, [], by decide +kernel, rfl, (fun h9 => by first | rfl | cases h9), Or.inl ⟨rfl, rfl⟩, fun pc => by rw [h]; exact m_lk_ok _ ok_X3_freeAll pc⟩
def dl_X3_leadOne : List (Nat × Instr × Nat) := [(0, .aload_n 0, 1), (1, .getfield 28, 3), (4, .iload_n 1, 1), (5, .aaload, 1), (6, .astore_n 3, 1), (7, .iconst 0, 1), (8, .istore 4, 2), (10, .iload 4, 2), (12, .aload_n 0, 1), (13, .getfield 48, 3), (16, .if_icmp .ge 23, 3), (19, .aload_n 0, 1), (20, .getfield 45, 3), (23, .iload 4, 2), (25, .aload_n 0, 1), (26, .iload 4, 2), (28, .aload_n 3, 1), (29, .invokevirtual 88, 3), (32, .iastore, 1), (33, .iinc 4 1, 3), (36, .goto (-26), 3), (39, .aload_n 0, 1), (40, .iconst (-1), 1), (41, .putfield 92, 3), (44, .aload_n 0, 1), (45, .iload_n 2, 1), (46, .putfield 95, 3), (49, .aload_n 0, 1), (50, .sipush 7200, 3), (53, .putfield 98, 3), (56, .aload_n 0, 1), (57, .aload_n 3, 1), (58, .getfield 101, 3), (61, .putfield 102, 3), (64, .aload_n 0, 1), (65, .iconst 0, 1), (66, .aload_n 3, 1), (67, .getfield 105, 3), (70, .iconst 1, 1), (71, .aload_n 3, 1), (72, .getfield 105, 3), (75, .ishl, 1), (76, .iconst 0, 1), (77, .iconst 0, 1), (78, .iconst 0, 1), (79, .invokestatic 108, 3), (82, .aload_n 0, 1), (83, .getfield 92, 3), (86, .iconst (-1), 1), (87, .if_icmp .eq 8, 3), (90, .aload_n 0, 1), (91, .iload_n 1, 1), (92, .invokevirtual 112, 3), (95, .return_, 1)]
theorem dk_X3_leadOne : ∀ q ∈ dl_X3_leadOne, decode cX3_leadOne q.1 = .ok q.2 := by decide +kernel
def cd_X3_leadOne : List (Nat × m_Op) := [(0, o_aload 0 1), (1, o_getf 4 3 4), (4, o_iload 1 5), (5, o_aald 5 6), (6, o_astore 3 7), (7, o_const (0) 8), (8, o_istore 4 10), (10, o_iload 4 12), (12, o_aload 0 13), (13, o_getf 4 7 16), (16, o_icmpge 39 19), (19, o_aload 0 20), (20, o_getf 4 10 23), (23, o_iload 4 25), (25, o_aload 0 26), (26, o_iload 4 28), (28, o_aload 3 29), (29, o_callv 4 14 3 0 0 32), (32, o_iast 33), (33, o_iinc 4 (1) 36), (36, o_goto 10), (39, o_aload 0 40), (40, o_const (-1) 41), (41, o_puti 4 12 44), (44, o_aload 0 45), (45, o_iload 2 46), (46, o_puti 4 13 49), (49, o_aload 0 50), (50, o_const (7200) 53), (53, o_puti 4 14 56), (56, o_aload 0 57), (57, o_aload 3 58), (58, o_getf 3 2 61), (61, o_puti 4 11 64), (64, o_aload 0 65), (65, o_const (0) 66), (66, o_aload 3 67), (67, o_getf 3 1 70), (70, o_const (1) 71), (71, o_aload 3 72), (72, o_getf 3 1 75), (75, o_bin (fun x y => x <<< (y &&& 31)) 76), (76, o_const (0) 77), (77, o_const (0) 78), (78, o_const (0) 79), (79, o_call 15 7 0 0 82), (82, o_aload 0 83), (83, o_getf 4 12 86), (86, o_const (-1) 87), (87, o_icmpeq 95 90), (90, o_aload 0 91), (91, o_iload 1 92), (92, o_callv 4 17 2 0 0 95), (95, o_return)]
set_option maxRecDepth 20000 in
set_option maxHeartbeats 4000000 in
theorem ok_X3_leadOne {GP : m_G → Prop} : ∀ q ∈ cd_X3_leadOne, m_OK GP m_my (cX3_leadOne, 5, RX3, false, none, []) q.1 q.2 :=
  m_cn (pc := 0) (ok_aload_n (m_dk dk_X3_leadOne 0 rfl) rfl rfl) <|
  m_cn (pc := 1) (ok_getf (k := 3) (hc0 := (rfl : vwCl[4]? = some (RX3, TX3, 16))) (by decide) in_X3 wd_49 (m_dk dk_X3_leadOne 1 rfl) rfl) <|
  m_cn (pc := 4) (ok_iload_n (m_dk dk_X3_leadOne 2 rfl) rfl rfl) <|
  m_cn (pc := 5) (ok_aald (C := "Cablecourt$Demand") (fun _ => rfl) (m_dk dk_X3_leadOne 3 rfl) rfl) <|
  m_cn (pc := 6) (ok_astore_n (m_dk dk_X3_leadOne 4 rfl) rfl rfl (by decide)) <|
  m_cn (pc := 7) (ok_iconst (m_dk dk_X3_leadOne 5 rfl) (by decide) rfl) <|
  m_cn (pc := 8) (ok_istore (m_dk dk_X3_leadOne 6 rfl) rfl (by decide)) <|
  m_cn (pc := 10) (ok_iload (m_dk dk_X3_leadOne 7 rfl) rfl) <|
  m_cn (pc := 12) (ok_aload_n (m_dk dk_X3_leadOne 8 rfl) rfl rfl) <|
  m_cn (pc := 13) (ok_getf (k := 7) (hc0 := (rfl : vwCl[4]? = some (RX3, TX3, 16))) (by decide) in_X3 wd_57 (m_dk dk_X3_leadOne 9 rfl) rfl) <|
  m_cn (pc := 16) (ok_icmpge (m_dk dk_X3_leadOne 10 rfl) rfl rfl) <|
  m_cn (pc := 19) (ok_aload_n (m_dk dk_X3_leadOne 11 rfl) rfl rfl) <|
  m_cn (pc := 20) (ok_getf (k := 10) (hc0 := (rfl : vwCl[4]? = some (RX3, TX3, 16))) (by decide) in_X3 wd_62 (m_dk dk_X3_leadOne 12 rfl) rfl) <|
  m_cn (pc := 23) (ok_iload (m_dk dk_X3_leadOne 13 rfl) rfl) <|
  m_cn (pc := 25) (ok_aload_n (m_dk dk_X3_leadOne 14 rfl) rfl rfl) <|
  m_cn (pc := 26) (ok_iload (m_dk dk_X3_leadOne 15 rfl) rfl) <|
  m_cn (pc := 28) (ok_aload_n (m_dk dk_X3_leadOne 16 rfl) rfl rfl) <|
  m_cn (pc := 29) (ok_callv (T := mt_X3_foreignOn) my_X3_foreignOn rfl cw_X3_foreignOn rfl rfl (by decide) (r9 := (RX3, TX3, 16)) rfl rfl wd_304 wd_306 (m_wk 4 (by decide +kernel) (by decide +kernel)) wd_2 (by decide +kernel) (m_dk dk_X3_leadOne 17 rfl) rfl) <|
  m_cn (pc := 32) (ok_iast (m_dk dk_X3_leadOne 18 rfl) rfl) <|
  m_cn (pc := 33) (ok_iinc (m_dk dk_X3_leadOne 19 rfl) (by decide) rfl (by decide)) <|
  m_cn (pc := 36) (ok_goto (nx := 0) (m_dk dk_X3_leadOne 20 rfl) rfl) <|
  m_cn (pc := 39) (ok_aload_n (m_dk dk_X3_leadOne 21 rfl) rfl rfl) <|
  m_cn (pc := 40) (ok_iconst (m_dk dk_X3_leadOne 22 rfl) (by decide) rfl) <|
  m_cn (pc := 41) (ok_puti (k := 12) (hc0 := (rfl : vwCl[4]? = some (RX3, TX3, 16))) (by decide) in_X3 wd_64 tyX3 tyX3_ok nmX3 rfl (tyX3_ok 12 (by decide)) (m_dk dk_X3_leadOne 23 rfl) rfl) <|
  m_cn (pc := 44) (ok_aload_n (m_dk dk_X3_leadOne 24 rfl) rfl rfl) <|
  m_cn (pc := 45) (ok_iload_n (m_dk dk_X3_leadOne 25 rfl) rfl rfl) <|
  m_cn (pc := 46) (ok_puti (k := 13) (hc0 := (rfl : vwCl[4]? = some (RX3, TX3, 16))) (by decide) in_X3 wd_65 tyX3 tyX3_ok nmX3 rfl (tyX3_ok 13 (by decide)) (m_dk dk_X3_leadOne 26 rfl) rfl) <|
  m_cn (pc := 49) (ok_aload_n (m_dk dk_X3_leadOne 27 rfl) rfl rfl) <|
  m_cn (pc := 50) (ok_sipush (m_dk dk_X3_leadOne 28 rfl) (by decide) rfl) <|
  m_cn (pc := 53) (ok_puti (k := 14) (hc0 := (rfl : vwCl[4]? = some (RX3, TX3, 16))) (by decide) in_X3 wd_66 tyX3 tyX3_ok nmX3 rfl (tyX3_ok 14 (by decide)) (m_dk dk_X3_leadOne 29 rfl) rfl) <|
  m_cn (pc := 56) (ok_aload_n (m_dk dk_X3_leadOne 30 rfl) rfl rfl) <|
  m_cn (pc := 57) (ok_aload_n (m_dk dk_X3_leadOne 31 rfl) rfl rfl) <|
  m_cn (pc := 58) (ok_getf (k := 2) (hc0 := (rfl : vwCl[3]? = some (RX2, TX2, 5))) (by decide) in_X2 wd_503 (m_dk dk_X3_leadOne 32 rfl) rfl) <|
  m_cn (pc := 61) (ok_puti (k := 11) (hc0 := (rfl : vwCl[4]? = some (RX3, TX3, 16))) (by decide) in_X3 wd_63 tyX3 tyX3_ok nmX3 rfl (tyX3_ok 11 (by decide)) (m_dk dk_X3_leadOne 33 rfl) rfl) <|
  m_cn (pc := 64) (ok_aload_n (m_dk dk_X3_leadOne 34 rfl) rfl rfl) <|
  m_cn (pc := 65) (ok_iconst (m_dk dk_X3_leadOne 35 rfl) (by decide) rfl) <|
  m_cn (pc := 66) (ok_aload_n (m_dk dk_X3_leadOne 36 rfl) rfl rfl) <|
  m_cn (pc := 67) (ok_getf (k := 1) (hc0 := (rfl : vwCl[3]? = some (RX2, TX2, 5))) (by decide) in_X2 wd_501 (m_dk dk_X3_leadOne 37 rfl) rfl) <|
  m_cn (pc := 70) (ok_iconst (m_dk dk_X3_leadOne 38 rfl) (by decide) rfl) <|
  m_cn (pc := 71) (ok_aload_n (m_dk dk_X3_leadOne 39 rfl) rfl rfl) <|
  m_cn (pc := 72) (ok_getf (k := 1) (hc0 := (rfl : vwCl[3]? = some (RX2, TX2, 5))) (by decide) in_X2 wd_501 (m_dk dk_X3_leadOne 40 rfl) rfl) <|
  m_cn (pc := 75) (ok_ishl (m_dk dk_X3_leadOne 41 rfl) rfl) <|
  m_cn (pc := 76) (ok_iconst (m_dk dk_X3_leadOne 42 rfl) (by decide) rfl) <|
  m_cn (pc := 77) (ok_iconst (m_dk dk_X3_leadOne 43 rfl) (by decide) rfl) <|
  m_cn (pc := 78) (ok_iconst (m_dk dk_X3_leadOne 44 rfl) (by decide) rfl) <|
  m_cn (pc := 79) (ok_calls (T := mt_X3_follow) my_X3_follow rfl cw_X3_follow rfl rfl (by decide) wd_311 wd_312 wd_2 (by decide +kernel) (m_dk dk_X3_leadOne 45 rfl) rfl) <|
  m_cn (pc := 82) (ok_aload_n (m_dk dk_X3_leadOne 46 rfl) rfl rfl) <|
  m_cn (pc := 83) (ok_getf (k := 12) (hc0 := (rfl : vwCl[4]? = some (RX3, TX3, 16))) (by decide) in_X3 wd_64 (m_dk dk_X3_leadOne 47 rfl) rfl) <|
  m_cn (pc := 86) (ok_iconst (m_dk dk_X3_leadOne 48 rfl) (by decide) rfl) <|
  m_cn (pc := 87) (ok_icmpeq (m_dk dk_X3_leadOne 49 rfl) rfl rfl) <|
  m_cn (pc := 90) (ok_aload_n (m_dk dk_X3_leadOne 50 rfl) rfl rfl) <|
  m_cn (pc := 91) (ok_iload_n (m_dk dk_X3_leadOne 51 rfl) rfl rfl) <|
  m_cn (pc := 92) (ok_callv (T := mt_X3_take) my_X3_take rfl cw_X3_take rfl rfl (by decide) (r9 := (RX3, TX3, 16)) rfl rfl wd_322 wd_324 (m_wk 6 (by decide +kernel) (by decide +kernel)) wd_2 (by decide +kernel) (m_dk dk_X3_leadOne 52 rfl) rfl) <|
  m_cn (pc := 95) (ok_return (nx := 0) rfl (m_dk dk_X3_leadOne 53 rfl)) <|
  m_nl
theorem mk_X3_leadOne {GP : m_G → Prop} {cds : Nat → Nat → m_Op} (h : cds 13 = m_lk cd_X3_leadOne) : m_MOK GP m_my cds 13 := ⟨RX3, false, [], by decide +kernel, rfl, (fun h9 => by first | rfl | cases h9), Or.inl ⟨rfl, rfl⟩, fun pc => by rw [h]; exact m_lk_ok _ ok_X3_leadOne pc⟩
def dl_X3_foreignOn : List (Nat × Instr × Nat) := [(0, .aload_n 0, 1), (1, .getfield 17, 3), (4, .iload_n 1, 1), (5, .baload, 1), (6, .ifCond .ne 5, 3), (9, .iconst (-1), 1), (10, .ireturn, 1), (11, .iconst 0, 1), (12, .istore_n 3, 1), (13, .iconst 0, 1), (14, .istore 4, 2), (16, .iload 4, 2), (18, .bipush 6, 2), (20, .if_icmp .ge 21, 3), (23, .iload_n 3, 1), (24, .aload_n 0, 1), (25, .getfield 42, 3), (28, .iload_n 1, 1), (29, .aaload, 1), (30, .iload 4, 2), (32, .iaload, 1), (33, .iadd, 1), (34, .istore_n 3, 1), (35, .iinc 4 1, 3), (38, .goto (-22), 3), (41, .iload_n 3, 1), (42, .aload_n 2, 1), (43, .getfield 116, 3), (46, .if_icmp .ge 5, 3), (49, .iconst (-1), 1), (50, .ireturn, 1), (51, .iconst 0, 1), (52, .aload_n 2, 1), (53, .getfield 116, 3), (56, .aload_n 0, 1), (57, .getfield 42, 3), (60, .iload_n 1, 1), (61, .aaload, 1), (62, .aload_n 2, 1), (63, .getfield 117, 3), (66, .iaload, 1), (67, .isub, 1), (68, .invokestatic 118, 3), (71, .ireturn, 1)]
theorem dk_X3_foreignOn : ∀ q ∈ dl_X3_foreignOn, decode cX3_foreignOn q.1 = .ok q.2 := by decide +kernel
def cd_X3_foreignOn : List (Nat × m_Op) := [(0, o_aload 0 1), (1, o_getf 4 1 4), (4, o_iload 1 5), (5, o_iald 1 6), (6, o_ifne 11 9), (9, o_const (-1) 10), (10, o_ireturn), (11, o_const (0) 12), (12, o_istore 3 13), (13, o_const (0) 14), (14, o_istore 4 16), (16, o_iload 4 18), (18, o_const (6) 20), (20, o_icmpge 41 23), (23, o_iload 3 24), (24, o_aload 0 25), (25, o_getf 4 9 28), (28, o_iload 1 29), (29, o_aald 3 30), (30, o_iload 4 32), (32, o_iald 0 33), (33, o_bin (fun x y => x + y) 34), (34, o_istore 3 35), (35, o_iinc 4 (1) 38), (38, o_goto 16), (41, o_iload 3 42), (42, o_aload 2 43), (43, o_getf 3 3 46), (46, o_icmpge 51 49), (49, o_const (-1) 50), (50, o_ireturn), (51, o_const (0) 52), (52, o_aload 2 53), (53, o_getf 3 3 56), (56, o_aload 0 57), (57, o_getf 4 9 60), (60, o_iload 1 61), (61, o_aald 3 62), (62, o_aload 2 63), (63, o_getf 3 0 66), (66, o_iald 0 67), (67, o_bin (fun x y => x - y) 68), (68, o_mbin (fun x y => if x < y then y else x) 71), (71, o_ireturn)]
set_option maxRecDepth 20000 in
set_option maxHeartbeats 4000000 in
theorem ok_X3_foreignOn {GP : m_G → Prop} : ∀ q ∈ cd_X3_foreignOn, m_OK GP m_my (cX3_foreignOn, 5, RX3, false, (some .int), []) q.1 q.2 :=
  m_cn (pc := 0) (ok_aload_n (m_dk dk_X3_foreignOn 0 rfl) rfl rfl) <|
  m_cn (pc := 1) (ok_getf (k := 1) (hc0 := (rfl : vwCl[4]? = some (RX3, TX3, 16))) (by decide) in_X3 wd_45 (m_dk dk_X3_foreignOn 1 rfl) rfl) <|
  m_cn (pc := 4) (ok_iload_n (m_dk dk_X3_foreignOn 2 rfl) rfl rfl) <|
  m_cn (pc := 5) (ok_zald (m_dk dk_X3_foreignOn 3 rfl) rfl) <|
  m_cn (pc := 6) (ok_ifne (m_dk dk_X3_foreignOn 4 rfl) rfl rfl) <|
  m_cn (pc := 9) (ok_iconst (m_dk dk_X3_foreignOn 5 rfl) (by decide) rfl) <|
  m_cn (pc := 10) (ok_ireturn (nx := 0) rfl (m_dk dk_X3_foreignOn 6 rfl)) <|
  m_cn (pc := 11) (ok_iconst (m_dk dk_X3_foreignOn 7 rfl) (by decide) rfl) <|
  m_cn (pc := 12) (ok_istore_n (m_dk dk_X3_foreignOn 8 rfl) rfl rfl (by decide)) <|
  m_cn (pc := 13) (ok_iconst (m_dk dk_X3_foreignOn 9 rfl) (by decide) rfl) <|
  m_cn (pc := 14) (ok_istore (m_dk dk_X3_foreignOn 10 rfl) rfl (by decide)) <|
  m_cn (pc := 16) (ok_iload (m_dk dk_X3_foreignOn 11 rfl) rfl) <|
  m_cn (pc := 18) (ok_bipush (m_dk dk_X3_foreignOn 12 rfl) (by decide) rfl) <|
  m_cn (pc := 20) (ok_icmpge (m_dk dk_X3_foreignOn 13 rfl) rfl rfl) <|
  m_cn (pc := 23) (ok_iload_n (m_dk dk_X3_foreignOn 14 rfl) rfl rfl) <|
  m_cn (pc := 24) (ok_aload_n (m_dk dk_X3_foreignOn 15 rfl) rfl rfl) <|
  m_cn (pc := 25) (ok_getf (k := 9) (hc0 := (rfl : vwCl[4]? = some (RX3, TX3, 16))) (by decide) in_X3 wd_61 (m_dk dk_X3_foreignOn 16 rfl) rfl) <|
  m_cn (pc := 28) (ok_iload_n (m_dk dk_X3_foreignOn 17 rfl) rfl rfl) <|
  m_cn (pc := 29) (ok_aaldI (m_dk dk_X3_foreignOn 18 rfl) rfl) <|
  m_cn (pc := 30) (ok_iload (m_dk dk_X3_foreignOn 19 rfl) rfl) <|
  m_cn (pc := 32) (ok_iald (m_dk dk_X3_foreignOn 20 rfl) rfl) <|
  m_cn (pc := 33) (ok_iadd (m_dk dk_X3_foreignOn 21 rfl) rfl) <|
  m_cn (pc := 34) (ok_istore_n (m_dk dk_X3_foreignOn 22 rfl) rfl rfl (by decide)) <|
  m_cn (pc := 35) (ok_iinc (m_dk dk_X3_foreignOn 23 rfl) (by decide) rfl (by decide)) <|
  m_cn (pc := 38) (ok_goto (nx := 0) (m_dk dk_X3_foreignOn 24 rfl) rfl) <|
  m_cn (pc := 41) (ok_iload_n (m_dk dk_X3_foreignOn 25 rfl) rfl rfl) <|
  m_cn (pc := 42) (ok_aload_n (m_dk dk_X3_foreignOn 26 rfl) rfl rfl) <|
  m_cn (pc := 43) (ok_getf (k := 3) (hc0 := (rfl : vwCl[3]? = some (RX2, TX2, 5))) (by decide) in_X2 wd_505 (m_dk dk_X3_foreignOn 27 rfl) rfl) <|
  m_cn (pc := 46) (ok_icmpge (m_dk dk_X3_foreignOn 28 rfl) rfl rfl) <|
  m_cn (pc := 49) (ok_iconst (m_dk dk_X3_foreignOn 29 rfl) (by decide) rfl) <|
  m_cn (pc := 50) (ok_ireturn (nx := 0) rfl (m_dk dk_X3_foreignOn 30 rfl)) <|
  m_cn (pc := 51) (ok_iconst (m_dk dk_X3_foreignOn 31 rfl) (by decide) rfl) <|
  m_cn (pc := 52) (ok_aload_n (m_dk dk_X3_foreignOn 32 rfl) rfl rfl) <|
  m_cn (pc := 53) (ok_getf (k := 3) (hc0 := (rfl : vwCl[3]? = some (RX2, TX2, 5))) (by decide) in_X2 wd_505 (m_dk dk_X3_foreignOn 33 rfl) rfl) <|
  m_cn (pc := 56) (ok_aload_n (m_dk dk_X3_foreignOn 34 rfl) rfl rfl) <|
  m_cn (pc := 57) (ok_getf (k := 9) (hc0 := (rfl : vwCl[4]? = some (RX3, TX3, 16))) (by decide) in_X3 wd_61 (m_dk dk_X3_foreignOn 35 rfl) rfl) <|
  m_cn (pc := 60) (ok_iload_n (m_dk dk_X3_foreignOn 36 rfl) rfl rfl) <|
  m_cn (pc := 61) (ok_aaldI (m_dk dk_X3_foreignOn 37 rfl) rfl) <|
  m_cn (pc := 62) (ok_aload_n (m_dk dk_X3_foreignOn 38 rfl) rfl rfl) <|
  m_cn (pc := 63) (ok_getf (k := 0) (hc0 := (rfl : vwCl[3]? = some (RX2, TX2, 5))) (by decide) in_X2 wd_498 (m_dk dk_X3_foreignOn 39 rfl) rfl) <|
  m_cn (pc := 66) (ok_iald (m_dk dk_X3_foreignOn 40 rfl) rfl) <|
  m_cn (pc := 67) (ok_isub (m_dk dk_X3_foreignOn 41 rfl) rfl) <|
  m_cn (pc := 68) (ok_mmax wd_308 wd_309 wd_12 wd_math_max (m_dk dk_X3_foreignOn 42 rfl) rfl) <|
  m_cn (pc := 71) (ok_ireturn (nx := 0) rfl (m_dk dk_X3_foreignOn 43 rfl)) <|
  m_nl
theorem mk_X3_foreignOn {GP : m_G → Prop} {cds : Nat → Nat → m_Op} (h : cds 14 = m_lk cd_X3_foreignOn) : m_MOK GP m_my cds 14 := ⟨RX3, false, [], by decide +kernel, rfl, (fun h9 => by first | rfl | cases h9), Or.inl ⟨rfl, rfl⟩, fun pc => by rw [h]; exact m_lk_ok _ ok_X3_foreignOn pc⟩
def dl_X3_follow : List (Nat × Instr × Nat) := [(0, .iload_n 2, 1), (1, .aload_n 0, 1), (2, .getfield 102, 3), (5, .if_icmp .ne 22, 3), (8, .aload_n 0, 1), (9, .iload 4, 2), (11, .putfield 92, 3), (14, .aload_n 0, 1), (15, .iload 5, 2), (17, .putfield 95, 3), (20, .aload_n 0, 1), (21, .iload 6, 2), (23, .putfield 98, 3), (26, .return_, 1), (27, .iload_n 1, 1), (28, .iconst 5, 1), (29, .if_icmp .lt 4, 3), (32, .return_, 1), (33, .iconst 0, 1), (34, .istore 7, 2), (36, .iload 7, 2), (38, .aload_n 0, 1), (39, .getfield 48, 3), (42, .if_icmp .ge 112, 3), (45, .aload_n 0, 1), (46, .getfield 11, 3), (49, .iload 7, 2), (51, .aaload, 1), (52, .iload_n 2, 1), (53, .invokevirtual 124, 3), (56, .istore 8, 2), (58, .aload_n 0, 1), (59, .getfield 45, 3), (62, .iload 7, 2), (64, .iaload, 1), (65, .iconst (-1), 1), (66, .if_icmp .eq 82, 3), (69, .iload 8, 2), (71, .iconst (-1), 1), (72, .if_icmp .eq 76, 3), (75, .iload_n 3, 1), (76, .iload 8, 2), (78, .ishr, 1), (79, .iconst 1, 1), (80, .iand, 1), (81, .ifCond .ne 67, 3), (84, .iload 5, 2), (86, .aload_n 0, 1), (87, .getfield 45, 3), (90, .iload 7, 2), (92, .iaload, 1), (93, .iadd, 1), (94, .istore 9, 2), (96, .iload 6, 2), (98, .aload_n 0, 1), (99, .getfield 11, 3), (102, .iload 7, 2), (104, .aaload, 1), (105, .getfield 128, 3), (108, .iadd, 1), (109, .istore 10, 2), (111, .aload_n 0, 1), (112, .iload 9, 2), (114, .iload 10, 2), (116, .invokevirtual 131, 3), (119, .ifCond .eq 29, 3), (122, .aload_n 0, 1), (123, .iload_n 1, 1), (124, .iconst 1, 1), (125, .iadd, 1), (126, .iload 8, 2), (128, .iload_n 3, 1), (129, .iconst 1, 1), (130, .iload 8, 2), (132, .ishl, 1), (133, .ior, 1), (134, .iload 4, 2), (136, .iconst 1, 1), (137, .iload 7, 2), (139, .ishl, 1), (140, .ior, 1), (141, .iload 9, 2), (143, .iload 10, 2), (145, .invokestatic 108, 3), (148, .iinc 7 1, 3), (151, .goto (-115), 3), (154, .return_, 1)]
theorem dk_X3_follow : ∀ q ∈ dl_X3_follow, decode cX3_follow q.1 = .ok q.2 := by decide +kernel
def cd_X3_follow : List (Nat × m_Op) := [(0, o_iload 2 1), (1, o_aload 0 2), (2, o_getf 4 11 5), (5, o_icmpne 27 8), (8, o_aload 0 9), (9, o_iload 4 11), (11, o_puti 4 12 14), (14, o_aload 0 15), (15, o_iload 5 17), (17, o_puti 4 13 20), (20, o_aload 0 21), (21, o_iload 6 23), (23, o_puti 4 14 26), (26, o_return), (27, o_iload 1 28), (28, o_const (5) 29), (29, o_icmplt 33 32), (32, o_return), (33, o_const (0) 34), (34, o_istore 7 36), (36, o_iload 7 38), (38, o_aload 0 39), (39, o_getf 4 7 42), (42, o_icmpge 154 45), (45, o_aload 0 46), (46, o_getf 4 0 49), (49, o_iload 7 51), (51, o_aald 4 52), (52, o_iload 2 53), (53, o_callv 1 1 2 0 0 56), (56, o_istore 8 58), (58, o_aload 0 59), (59, o_getf 4 10 62), (62, o_iload 7 64), (64, o_iald 0 65), (65, o_const (-1) 66), (66, o_icmpeq 148 69), (69, o_iload 8 71), (71, o_const (-1) 72), (72, o_icmpeq 148 75), (75, o_iload 3 76), (76, o_iload 8 78), (78, o_bin (fun x y => x >>> (y &&& 31)) 79), (79, o_const (1) 80), (80, o_bin (fun x y => x &&& y) 81), (81, o_ifne 148 84), (84, o_iload 5 86), (86, o_aload 0 87), (87, o_getf 4 10 90), (90, o_iload 7 92), (92, o_iald 0 93), (93, o_bin (fun x y => x + y) 94), (94, o_istore 9 96), (96, o_iload 6 98), (98, o_aload 0 99), (99, o_getf 4 0 102), (102, o_iload 7 104), (104, o_aald 4 105), (105, o_getf 1 5 108), (108, o_bin (fun x y => x + y) 109), (109, o_istore 10 111), (111, o_aload 0 112), (112, o_iload 9 114), (114, o_iload 10 116), (116, o_callv 4 16 3 0 0 119), (119, o_ifeq 148 122), (122, o_aload 0 123), (123, o_iload 1 124), (124, o_const (1) 125), (125, o_bin (fun x y => x + y) 126), (126, o_iload 8 128), (128, o_iload 3 129), (129, o_const (1) 130), (130, o_iload 8 132), (132, o_bin (fun x y => x <<< (y &&& 31)) 133), (133, o_bin (fun x y => x ||| y) 134), (134, o_iload 4 136), (136, o_const (1) 137), (137, o_iload 7 139), (139, o_bin (fun x y => x <<< (y &&& 31)) 140), (140, o_bin (fun x y => x ||| y) 141), (141, o_iload 9 143), (143, o_iload 10 145), (145, o_call 15 7 0 0 148), (148, o_iinc 7 (1) 151), (151, o_goto 36), (154, o_return)]
set_option maxRecDepth 20000 in
set_option maxHeartbeats 4000000 in
theorem ok_X3_follow {GP : m_G → Prop} : ∀ q ∈ cd_X3_follow, m_OK GP m_my (cX3_follow, 11, RX3, false, none, []) q.1 q.2 :=
  m_cn (pc := 0) (ok_iload_n (m_dk dk_X3_follow 0 rfl) rfl rfl) <|
  m_cn (pc := 1) (ok_aload_n (m_dk dk_X3_follow 1 rfl) rfl rfl) <|
  m_cn (pc := 2) (ok_getf (k := 11) (hc0 := (rfl : vwCl[4]? = some (RX3, TX3, 16))) (by decide) in_X3 wd_63 (m_dk dk_X3_follow 2 rfl) rfl) <|
  m_cn (pc := 5) (ok_icmpne (m_dk dk_X3_follow 3 rfl) rfl rfl) <|
  m_cn (pc := 8) (ok_aload_n (m_dk dk_X3_follow 4 rfl) rfl rfl) <|
  m_cn (pc := 9) (ok_iload (m_dk dk_X3_follow 5 rfl) rfl) <|
  m_cn (pc := 11) (ok_puti (k := 12) (hc0 := (rfl : vwCl[4]? = some (RX3, TX3, 16))) (by decide) in_X3 wd_64 tyX3 tyX3_ok nmX3 rfl (tyX3_ok 12 (by decide)) (m_dk dk_X3_follow 6 rfl) rfl) <|
  m_cn (pc := 14) (ok_aload_n (m_dk dk_X3_follow 7 rfl) rfl rfl) <|
  m_cn (pc := 15) (ok_iload (m_dk dk_X3_follow 8 rfl) rfl) <|
  m_cn (pc := 17) (ok_puti (k := 13) (hc0 := (rfl : vwCl[4]? = some (RX3, TX3, 16))) (by decide) in_X3 wd_65 tyX3 tyX3_ok nmX3 rfl (tyX3_ok 13 (by decide)) (m_dk dk_X3_follow 9 rfl) rfl) <|
  m_cn (pc := 20) (ok_aload_n (m_dk dk_X3_follow 10 rfl) rfl rfl) <|
  m_cn (pc := 21) (ok_iload (m_dk dk_X3_follow 11 rfl) rfl) <|
  m_cn (pc := 23) (ok_puti (k := 14) (hc0 := (rfl : vwCl[4]? = some (RX3, TX3, 16))) (by decide) in_X3 wd_66 tyX3 tyX3_ok nmX3 rfl (tyX3_ok 14 (by decide)) (m_dk dk_X3_follow 12 rfl) rfl) <|
  m_cn (pc := 26) (ok_return (nx := 0) rfl (m_dk dk_X3_follow 13 rfl)) <|
  m_cn (pc := 27) (ok_iload_n (m_dk dk_X3_follow 14 rfl) rfl rfl) <|
  m_cn (pc := 28) (ok_iconst (m_dk dk_X3_follow 15 rfl) (by decide) rfl) <|
  m_cn (pc := 29) (ok_icmplt (m_dk dk_X3_follow 16 rfl) rfl rfl) <|
  m_cn (pc := 32) (ok_return (nx := 0) rfl (m_dk dk_X3_follow 17 rfl)) <|
  m_cn (pc := 33) (ok_iconst (m_dk dk_X3_follow 18 rfl) (by decide) rfl) <|
  m_cn (pc := 34) (ok_istore (m_dk dk_X3_follow 19 rfl) rfl (by decide)) <|
  m_cn (pc := 36) (ok_iload (m_dk dk_X3_follow 20 rfl) rfl) <|
  m_cn (pc := 38) (ok_aload_n (m_dk dk_X3_follow 21 rfl) rfl rfl) <|
  m_cn (pc := 39) (ok_getf (k := 7) (hc0 := (rfl : vwCl[4]? = some (RX3, TX3, 16))) (by decide) in_X3 wd_57 (m_dk dk_X3_follow 22 rfl) rfl) <|
  m_cn (pc := 42) (ok_icmpge (m_dk dk_X3_follow 23 rfl) rfl rfl) <|
  m_cn (pc := 45) (ok_aload_n (m_dk dk_X3_follow 24 rfl) rfl rfl) <|
  m_cn (pc := 46) (ok_getf (k := 0) (hc0 := (rfl : vwCl[4]? = some (RX3, TX3, 16))) (by decide) in_X3 wd_43 (m_dk dk_X3_follow 25 rfl) rfl) <|
  m_cn (pc := 49) (ok_iload (m_dk dk_X3_follow 26 rfl) rfl) <|
  m_cn (pc := 51) (ok_aald (C := "Cablecourt$Cable") (fun _ => rfl) (m_dk dk_X3_follow 27 rfl) rfl) <|
  m_cn (pc := 52) (ok_iload_n (m_dk dk_X3_follow 28 rfl) rfl rfl) <|
  m_cn (pc := 53) (ok_callv (T := mt_X0_across) my_X0_across rfl cw_X0_across rfl rfl (by decide) (r9 := (RX0, TX0, 7)) rfl rfl wd_314 wd_315 wd_316 wd_14 (by decide +kernel) (m_dk dk_X3_follow 29 rfl) rfl) <|
  m_cn (pc := 56) (ok_istore (m_dk dk_X3_follow 30 rfl) rfl (by decide)) <|
  m_cn (pc := 58) (ok_aload_n (m_dk dk_X3_follow 31 rfl) rfl rfl) <|
  m_cn (pc := 59) (ok_getf (k := 10) (hc0 := (rfl : vwCl[4]? = some (RX3, TX3, 16))) (by decide) in_X3 wd_62 (m_dk dk_X3_follow 32 rfl) rfl) <|
  m_cn (pc := 62) (ok_iload (m_dk dk_X3_follow 33 rfl) rfl) <|
  m_cn (pc := 64) (ok_iald (m_dk dk_X3_follow 34 rfl) rfl) <|
  m_cn (pc := 65) (ok_iconst (m_dk dk_X3_follow 35 rfl) (by decide) rfl) <|
  m_cn (pc := 66) (ok_icmpeq (m_dk dk_X3_follow 36 rfl) rfl rfl) <|
  m_cn (pc := 69) (ok_iload (m_dk dk_X3_follow 37 rfl) rfl) <|
  m_cn (pc := 71) (ok_iconst (m_dk dk_X3_follow 38 rfl) (by decide) rfl) <|
  m_cn (pc := 72) (ok_icmpeq (m_dk dk_X3_follow 39 rfl) rfl rfl) <|
  m_cn (pc := 75) (ok_iload_n (m_dk dk_X3_follow 40 rfl) rfl rfl) <|
  m_cn (pc := 76) (ok_iload (m_dk dk_X3_follow 41 rfl) rfl) <|
  m_cn (pc := 78) (ok_ishr (m_dk dk_X3_follow 42 rfl) rfl) <|
  m_cn (pc := 79) (ok_iconst (m_dk dk_X3_follow 43 rfl) (by decide) rfl) <|
  m_cn (pc := 80) (ok_iand (m_dk dk_X3_follow 44 rfl) rfl) <|
  m_cn (pc := 81) (ok_ifne (m_dk dk_X3_follow 45 rfl) rfl rfl) <|
  m_cn (pc := 84) (ok_iload (m_dk dk_X3_follow 46 rfl) rfl) <|
  m_cn (pc := 86) (ok_aload_n (m_dk dk_X3_follow 47 rfl) rfl rfl) <|
  m_cn (pc := 87) (ok_getf (k := 10) (hc0 := (rfl : vwCl[4]? = some (RX3, TX3, 16))) (by decide) in_X3 wd_62 (m_dk dk_X3_follow 48 rfl) rfl) <|
  m_cn (pc := 90) (ok_iload (m_dk dk_X3_follow 49 rfl) rfl) <|
  m_cn (pc := 92) (ok_iald (m_dk dk_X3_follow 50 rfl) rfl) <|
  m_cn (pc := 93) (ok_iadd (m_dk dk_X3_follow 51 rfl) rfl) <|
  m_cn (pc := 94) (ok_istore (m_dk dk_X3_follow 52 rfl) rfl (by decide)) <|
  m_cn (pc := 96) (ok_iload (m_dk dk_X3_follow 53 rfl) rfl) <|
  m_cn (pc := 98) (ok_aload_n (m_dk dk_X3_follow 54 rfl) rfl rfl) <|
  m_cn (pc := 99) (ok_getf (k := 0) (hc0 := (rfl : vwCl[4]? = some (RX3, TX3, 16))) (by decide) in_X3 wd_43 (m_dk dk_X3_follow 55 rfl) rfl) <|
  m_cn (pc := 102) (ok_iload (m_dk dk_X3_follow 56 rfl) rfl) <|
  m_cn (pc := 104) (ok_aald (C := "Cablecourt$Cable") (fun _ => rfl) (m_dk dk_X3_follow 57 rfl) rfl) <|
  m_cn (pc := 105) (ok_getf (k := 5) (hc0 := (rfl : vwCl[1]? = some (RX0, TX0, 7))) (by decide) in_X0 wd_443 (m_dk dk_X3_follow 58 rfl) rfl) <|
  m_cn (pc := 108) (ok_iadd (m_dk dk_X3_follow 59 rfl) rfl) <|
  m_cn (pc := 109) (ok_istore (m_dk dk_X3_follow 60 rfl) rfl (by decide)) <|
  m_cn (pc := 111) (ok_aload_n (m_dk dk_X3_follow 61 rfl) rfl rfl) <|
  m_cn (pc := 112) (ok_iload (m_dk dk_X3_follow 62 rfl) rfl) <|
  m_cn (pc := 114) (ok_iload (m_dk dk_X3_follow 63 rfl) rfl) <|
  m_cn (pc := 116) (ok_callv (T := mt_X3_isBetter) my_X3_isBetter rfl cw_X3_isBetter rfl rfl (by decide) (r9 := (RX3, TX3, 16)) rfl rfl wd_318 wd_320 (m_wk 5 (by decide +kernel) (by decide +kernel)) wd_2 (by decide +kernel) (m_dk dk_X3_follow 64 rfl) rfl) <|
  m_cn (pc := 119) (ok_ifeq (m_dk dk_X3_follow 65 rfl) rfl rfl) <|
  m_cn (pc := 122) (ok_aload_n (m_dk dk_X3_follow 66 rfl) rfl rfl) <|
  m_cn (pc := 123) (ok_iload_n (m_dk dk_X3_follow 67 rfl) rfl rfl) <|
  m_cn (pc := 124) (ok_iconst (m_dk dk_X3_follow 68 rfl) (by decide) rfl) <|
  m_cn (pc := 125) (ok_iadd (m_dk dk_X3_follow 69 rfl) rfl) <|
  m_cn (pc := 126) (ok_iload (m_dk dk_X3_follow 70 rfl) rfl) <|
  m_cn (pc := 128) (ok_iload_n (m_dk dk_X3_follow 71 rfl) rfl rfl) <|
  m_cn (pc := 129) (ok_iconst (m_dk dk_X3_follow 72 rfl) (by decide) rfl) <|
  m_cn (pc := 130) (ok_iload (m_dk dk_X3_follow 73 rfl) rfl) <|
  m_cn (pc := 132) (ok_ishl (m_dk dk_X3_follow 74 rfl) rfl) <|
  m_cn (pc := 133) (ok_ior (m_dk dk_X3_follow 75 rfl) rfl) <|
  m_cn (pc := 134) (ok_iload (m_dk dk_X3_follow 76 rfl) rfl) <|
  m_cn (pc := 136) (ok_iconst (m_dk dk_X3_follow 77 rfl) (by decide) rfl) <|
  m_cn (pc := 137) (ok_iload (m_dk dk_X3_follow 78 rfl) rfl) <|
  m_cn (pc := 139) (ok_ishl (m_dk dk_X3_follow 79 rfl) rfl) <|
  m_cn (pc := 140) (ok_ior (m_dk dk_X3_follow 80 rfl) rfl) <|
  m_cn (pc := 141) (ok_iload (m_dk dk_X3_follow 81 rfl) rfl) <|
  m_cn (pc := 143) (ok_iload (m_dk dk_X3_follow 82 rfl) rfl) <|
  m_cn (pc := 145) (ok_calls (T := mt_X3_follow) my_X3_follow rfl cw_X3_follow rfl rfl (by decide) wd_311 wd_312 wd_2 (by decide +kernel) (m_dk dk_X3_follow 83 rfl) rfl) <|
  m_cn (pc := 148) (ok_iinc (m_dk dk_X3_follow 84 rfl) (by decide) rfl (by decide)) <|
  m_cn (pc := 151) (ok_goto (nx := 0) (m_dk dk_X3_follow 85 rfl) rfl) <|
  m_cn (pc := 154) (ok_return (nx := 0) rfl (m_dk dk_X3_follow 86 rfl)) <|
  m_nl
theorem mk_X3_follow {GP : m_G → Prop} {cds : Nat → Nat → m_Op} (h : cds 15 = m_lk cd_X3_follow) : m_MOK GP m_my cds 15 := ⟨RX3, false, [], by decide +kernel, rfl, (fun h9 => by first | rfl | cases h9), Or.inl ⟨rfl, rfl⟩, fun pc => by rw [h]; exact m_lk_ok _ ok_X3_follow pc⟩
def dl_X3_isBetter : List (Nat × Instr × Nat) := [(0, .iload_n 1, 1), (1, .aload_n 0, 1), (2, .getfield 95, 3), (5, .if_icmp .lt 19, 3), (8, .iload_n 1, 1), (9, .aload_n 0, 1), (10, .getfield 95, 3), (13, .if_icmp .ne 15, 3), (16, .iload_n 2, 1), (17, .aload_n 0, 1), (18, .getfield 98, 3), (21, .if_icmp .ge 7, 3), (24, .iconst 1, 1), (25, .goto 4, 3), (28, .iconst 0, 1), (29, .ireturn, 1)]
theorem dk_X3_isBetter : ∀ q ∈ dl_X3_isBetter, decode cX3_isBetter q.1 = .ok q.2 := by decide +kernel
def cd_X3_isBetter : List (Nat × m_Op) := [(0, o_iload 1 1), (1, o_aload 0 2), (2, o_getf 4 13 5), (5, o_icmplt 24 8), (8, o_iload 1 9), (9, o_aload 0 10), (10, o_getf 4 13 13), (13, o_icmpne 28 16), (16, o_iload 2 17), (17, o_aload 0 18), (18, o_getf 4 14 21), (21, o_icmpge 28 24), (24, o_const (1) 25), (25, o_goto 29), (28, o_const (0) 29), (29, o_zreturn)]
set_option maxRecDepth 20000 in
set_option maxHeartbeats 4000000 in
theorem ok_X3_isBetter {GP : m_G → Prop} : ∀ q ∈ cd_X3_isBetter, m_OK GP m_my (cX3_isBetter, 3, RX3, false, (some .boolean), []) q.1 q.2 :=
  m_cn (pc := 0) (ok_iload_n (m_dk dk_X3_isBetter 0 rfl) rfl rfl) <|
  m_cn (pc := 1) (ok_aload_n (m_dk dk_X3_isBetter 1 rfl) rfl rfl) <|
  m_cn (pc := 2) (ok_getf (k := 13) (hc0 := (rfl : vwCl[4]? = some (RX3, TX3, 16))) (by decide) in_X3 wd_65 (m_dk dk_X3_isBetter 2 rfl) rfl) <|
  m_cn (pc := 5) (ok_icmplt (m_dk dk_X3_isBetter 3 rfl) rfl rfl) <|
  m_cn (pc := 8) (ok_iload_n (m_dk dk_X3_isBetter 4 rfl) rfl rfl) <|
  m_cn (pc := 9) (ok_aload_n (m_dk dk_X3_isBetter 5 rfl) rfl rfl) <|
  m_cn (pc := 10) (ok_getf (k := 13) (hc0 := (rfl : vwCl[4]? = some (RX3, TX3, 16))) (by decide) in_X3 wd_65 (m_dk dk_X3_isBetter 6 rfl) rfl) <|
  m_cn (pc := 13) (ok_icmpne (m_dk dk_X3_isBetter 7 rfl) rfl rfl) <|
  m_cn (pc := 16) (ok_iload_n (m_dk dk_X3_isBetter 8 rfl) rfl rfl) <|
  m_cn (pc := 17) (ok_aload_n (m_dk dk_X3_isBetter 9 rfl) rfl rfl) <|
  m_cn (pc := 18) (ok_getf (k := 14) (hc0 := (rfl : vwCl[4]? = some (RX3, TX3, 16))) (by decide) in_X3 wd_66 (m_dk dk_X3_isBetter 10 rfl) rfl) <|
  m_cn (pc := 21) (ok_icmpge (m_dk dk_X3_isBetter 11 rfl) rfl rfl) <|
  m_cn (pc := 24) (ok_iconst (m_dk dk_X3_isBetter 12 rfl) (by decide) rfl) <|
  m_cn (pc := 25) (ok_goto (nx := 0) (m_dk dk_X3_isBetter 13 rfl) rfl) <|
  m_cn (pc := 28) (ok_iconst (m_dk dk_X3_isBetter 14 rfl) (by decide) rfl) <|
  m_cn (pc := 29) (ok_zreturn (nx := 0) rfl (m_dk dk_X3_isBetter 15 rfl)) <|
  m_nl
theorem mk_X3_isBetter {GP : m_G → Prop} {cds : Nat → Nat → m_Op} (h : cds 16 = m_lk cd_X3_isBetter) : m_MOK GP m_my cds 16 := ⟨RX3, false, [], by decide +kernel, rfl, (fun h9 => by first | rfl | cases h9), Or.inl ⟨rfl, rfl⟩, fun pc => by rw [h]; exact m_lk_ok _ ok_X3_isBetter pc⟩
def dl_X3_take : List (Nat × Instr × Nat) := [(0, .aload_n 0, 1), (1, .getfield 28, 3), (4, .iload_n 1, 1), (5, .aaload, 1), (6, .astore_n 2, 1), (7, .aload_n 0, 1), (8, .getfield 32, 3), (11, .iload_n 1, 1), (12, .aload_n 0, 1), (13, .getfield 92, 3), (16, .iastore, 1), (17, .aload_n 0, 1), (18, .getfield 36, 3), (21, .iload_n 1, 1), (22, .aload_n 0, 1), (23, .getfield 95, 3), (26, .iastore, 1), (27, .iconst 0, 1), (28, .istore_n 3, 1), (29, .iload_n 3, 1), (30, .aload_n 0, 1), (31, .getfield 48, 3), (34, .if_icmp .ge 101, 3), (37, .aload_n 0, 1), (38, .getfield 92, 3), (41, .iload_n 3, 1), (42, .ishr, 1), (43, .iconst 1, 1), (44, .iand, 1), (45, .ifCond .eq 84, 3), (48, .aload_n 2, 1), (49, .getfield 116, 3), (52, .aload_n 0, 1), (53, .iload_n 3, 1), (54, .aload_n 2, 1), (55, .getfield 117, 3), (58, .aload_n 2, 1), (59, .getfield 116, 3), (62, .invokevirtual 135, 3), (65, .isub, 1), (66, .istore 4, 2), (68, .iconst 0, 1), (69, .istore 5, 2), (71, .iload 5, 2), (73, .bipush 6, 2), (75, .if_icmp .ge 54, 3), (78, .aload_n 0, 1), (79, .iload_n 3, 1), (80, .iload 5, 2), (82, .iload 4, 2), (84, .invokevirtual 135, 3), (87, .istore 6, 2), (89, .iload 4, 2), (91, .iload 6, 2), (93, .isub, 1), (94, .istore 4, 2), (96, .aload_n 0, 1), (97, .getfield 39, 3), (100, .aload_n 2, 1), (101, .getfield 117, 3), (104, .aaload, 1), (105, .iload 5, 2), (107, .dup2, 1), (108, .iaload, 1), (109, .iload 6, 2), (111, .aload_n 0, 1), (112, .getfield 11, 3), (115, .iload_n 3, 1), (116, .aaload, 1), (117, .getfield 128, 3), (120, .imul, 1), (121, .iadd, 1), (122, .iastore, 1), (123, .iinc 5 1, 3), (126, .goto (-55), 3), (129, .iinc 3 1, 3), (132, .goto (-103), 3), (135, .return_, 1)]
theorem dk_X3_take : ∀ q ∈ dl_X3_take, decode cX3_take q.1 = .ok q.2 := by decide +kernel
def cd_X3_take : List (Nat × m_Op) := [(0, o_aload 0 1), (1, o_getf 4 3 4), (4, o_iload 1 5), (5, o_aald 5 6), (6, o_astore 2 7), (7, o_aload 0 8), (8, o_getf 4 4 11), (11, o_iload 1 12), (12, o_aload 0 13), (13, o_getf 4 12 16), (16, o_iast 17), (17, o_aload 0 18), (18, o_getf 4 5 21), (21, o_iload 1 22), (22, o_aload 0 23), (23, o_getf 4 13 26), (26, o_iast 27), (27, o_const (0) 28), (28, o_istore 3 29), (29, o_iload 3 30), (30, o_aload 0 31), (31, o_getf 4 7 34), (34, o_icmpge 135 37), (37, o_aload 0 38), (38, o_getf 4 12 41), (41, o_iload 3 42), (42, o_bin (fun x y => x >>> (y &&& 31)) 43), (43, o_const (1) 44), (44, o_bin (fun x y => x &&& y) 45), (45, o_ifeq 129 48), (48, o_aload 2 49), (49, o_getf 3 3 52), (52, o_aload 0 53), (53, o_iload 3 54), (54, o_aload 2 55), (55, o_getf 3 0 58), (58, o_aload 2 59), (59, o_getf 3 3 62), (62, o_callv 4 18 4 0 0 65), (65, o_bin (fun x y => x - y) 66), (66, o_istore 4 68), (68, o_const (0) 69), (69, o_istore 5 71), (71, o_iload 5 73), (73, o_const (6) 75), (75, o_icmpge 129 78), (78, o_aload 0 79), (79, o_iload 3 80), (80, o_iload 5 82), (82, o_iload 4 84), (84, o_callv 4 18 4 0 0 87), (87, o_istore 6 89), (89, o_iload 4 91), (91, o_iload 6 93), (93, o_bin (fun x y => x - y) 94), (94, o_istore 4 96), (96, o_aload 0 97), (97, o_getf 4 6 100), (100, o_aload 2 101), (101, o_getf 3 0 104), (104, o_aald 3 105), (105, o_iload 5 107), (107, o_dup2 108), (108, o_iald 0 109), (109, o_iload 6 111), (111, o_aload 0 112), (112, o_getf 4 0 115), (115, o_iload 3 116), (116, o_aald 4 117), (117, o_getf 1 5 120), (120, o_bin (fun x y => x * y) 121), (121, o_bin (fun x y => x + y) 122), (122, o_iast 123), (123, o_iinc 5 (1) 126), (126, o_goto 71), (129, o_iinc 3 (1) 132), (132, o_goto 29), (135, o_return)]
set_option maxRecDepth 20000 in
set_option maxHeartbeats 4000000 in
theorem ok_X3_take {GP : m_G → Prop} : ∀ q ∈ cd_X3_take, m_OK GP m_my (cX3_take, 7, RX3, false, none, []) q.1 q.2 :=
  m_cn (pc := 0) (ok_aload_n (m_dk dk_X3_take 0 rfl) rfl rfl) <|
  m_cn (pc := 1) (ok_getf (k := 3) (hc0 := (rfl : vwCl[4]? = some (RX3, TX3, 16))) (by decide) in_X3 wd_49 (m_dk dk_X3_take 1 rfl) rfl) <|
  m_cn (pc := 4) (ok_iload_n (m_dk dk_X3_take 2 rfl) rfl rfl) <|
  m_cn (pc := 5) (ok_aald (C := "Cablecourt$Demand") (fun _ => rfl) (m_dk dk_X3_take 3 rfl) rfl) <|
  m_cn (pc := 6) (ok_astore_n (m_dk dk_X3_take 4 rfl) rfl rfl (by decide)) <|
  m_cn (pc := 7) (ok_aload_n (m_dk dk_X3_take 5 rfl) rfl rfl) <|
  m_cn (pc := 8) (ok_getf (k := 4) (hc0 := (rfl : vwCl[4]? = some (RX3, TX3, 16))) (by decide) in_X3 wd_51 (m_dk dk_X3_take 6 rfl) rfl) <|
  m_cn (pc := 11) (ok_iload_n (m_dk dk_X3_take 7 rfl) rfl rfl) <|
  m_cn (pc := 12) (ok_aload_n (m_dk dk_X3_take 8 rfl) rfl rfl) <|
  m_cn (pc := 13) (ok_getf (k := 12) (hc0 := (rfl : vwCl[4]? = some (RX3, TX3, 16))) (by decide) in_X3 wd_64 (m_dk dk_X3_take 9 rfl) rfl) <|
  m_cn (pc := 16) (ok_iast (m_dk dk_X3_take 10 rfl) rfl) <|
  m_cn (pc := 17) (ok_aload_n (m_dk dk_X3_take 11 rfl) rfl rfl) <|
  m_cn (pc := 18) (ok_getf (k := 5) (hc0 := (rfl : vwCl[4]? = some (RX3, TX3, 16))) (by decide) in_X3 wd_53 (m_dk dk_X3_take 12 rfl) rfl) <|
  m_cn (pc := 21) (ok_iload_n (m_dk dk_X3_take 13 rfl) rfl rfl) <|
  m_cn (pc := 22) (ok_aload_n (m_dk dk_X3_take 14 rfl) rfl rfl) <|
  m_cn (pc := 23) (ok_getf (k := 13) (hc0 := (rfl : vwCl[4]? = some (RX3, TX3, 16))) (by decide) in_X3 wd_65 (m_dk dk_X3_take 15 rfl) rfl) <|
  m_cn (pc := 26) (ok_iast (m_dk dk_X3_take 16 rfl) rfl) <|
  m_cn (pc := 27) (ok_iconst (m_dk dk_X3_take 17 rfl) (by decide) rfl) <|
  m_cn (pc := 28) (ok_istore_n (m_dk dk_X3_take 18 rfl) rfl rfl (by decide)) <|
  m_cn (pc := 29) (ok_iload_n (m_dk dk_X3_take 19 rfl) rfl rfl) <|
  m_cn (pc := 30) (ok_aload_n (m_dk dk_X3_take 20 rfl) rfl rfl) <|
  m_cn (pc := 31) (ok_getf (k := 7) (hc0 := (rfl : vwCl[4]? = some (RX3, TX3, 16))) (by decide) in_X3 wd_57 (m_dk dk_X3_take 21 rfl) rfl) <|
  m_cn (pc := 34) (ok_icmpge (m_dk dk_X3_take 22 rfl) rfl rfl) <|
  m_cn (pc := 37) (ok_aload_n (m_dk dk_X3_take 23 rfl) rfl rfl) <|
  m_cn (pc := 38) (ok_getf (k := 12) (hc0 := (rfl : vwCl[4]? = some (RX3, TX3, 16))) (by decide) in_X3 wd_64 (m_dk dk_X3_take 24 rfl) rfl) <|
  m_cn (pc := 41) (ok_iload_n (m_dk dk_X3_take 25 rfl) rfl rfl) <|
  m_cn (pc := 42) (ok_ishr (m_dk dk_X3_take 26 rfl) rfl) <|
  m_cn (pc := 43) (ok_iconst (m_dk dk_X3_take 27 rfl) (by decide) rfl) <|
  m_cn (pc := 44) (ok_iand (m_dk dk_X3_take 28 rfl) rfl) <|
  m_cn (pc := 45) (ok_ifeq (m_dk dk_X3_take 29 rfl) rfl rfl) <|
  m_cn (pc := 48) (ok_aload_n (m_dk dk_X3_take 30 rfl) rfl rfl) <|
  m_cn (pc := 49) (ok_getf (k := 3) (hc0 := (rfl : vwCl[3]? = some (RX2, TX2, 5))) (by decide) in_X2 wd_505 (m_dk dk_X3_take 31 rfl) rfl) <|
  m_cn (pc := 52) (ok_aload_n (m_dk dk_X3_take 32 rfl) rfl rfl) <|
  m_cn (pc := 53) (ok_iload_n (m_dk dk_X3_take 33 rfl) rfl rfl) <|
  m_cn (pc := 54) (ok_aload_n (m_dk dk_X3_take 34 rfl) rfl rfl) <|
  m_cn (pc := 55) (ok_getf (k := 0) (hc0 := (rfl : vwCl[3]? = some (RX2, TX2, 5))) (by decide) in_X2 wd_498 (m_dk dk_X3_take 35 rfl) rfl) <|
  m_cn (pc := 58) (ok_aload_n (m_dk dk_X3_take 36 rfl) rfl rfl) <|
  m_cn (pc := 59) (ok_getf (k := 3) (hc0 := (rfl : vwCl[3]? = some (RX2, TX2, 5))) (by decide) in_X2 wd_505 (m_dk dk_X3_take 37 rfl) rfl) <|
  m_cn (pc := 62) (ok_callv (T := mt_X3_takeFrom) my_X3_takeFrom rfl cw_X3_takeFrom rfl rfl (by decide) (r9 := (RX3, TX3, 16)) rfl rfl wd_326 wd_328 (m_wk 7 (by decide +kernel) (by decide +kernel)) wd_2 (by decide +kernel) (m_dk dk_X3_take 38 rfl) rfl) <|
  m_cn (pc := 65) (ok_isub (m_dk dk_X3_take 39 rfl) rfl) <|
  m_cn (pc := 66) (ok_istore (m_dk dk_X3_take 40 rfl) rfl (by decide)) <|
  m_cn (pc := 68) (ok_iconst (m_dk dk_X3_take 41 rfl) (by decide) rfl) <|
  m_cn (pc := 69) (ok_istore (m_dk dk_X3_take 42 rfl) rfl (by decide)) <|
  m_cn (pc := 71) (ok_iload (m_dk dk_X3_take 43 rfl) rfl) <|
  m_cn (pc := 73) (ok_bipush (m_dk dk_X3_take 44 rfl) (by decide) rfl) <|
  m_cn (pc := 75) (ok_icmpge (m_dk dk_X3_take 45 rfl) rfl rfl) <|
  m_cn (pc := 78) (ok_aload_n (m_dk dk_X3_take 46 rfl) rfl rfl) <|
  m_cn (pc := 79) (ok_iload_n (m_dk dk_X3_take 47 rfl) rfl rfl) <|
  m_cn (pc := 80) (ok_iload (m_dk dk_X3_take 48 rfl) rfl) <|
  m_cn (pc := 82) (ok_iload (m_dk dk_X3_take 49 rfl) rfl) <|
  m_cn (pc := 84) (ok_callv (T := mt_X3_takeFrom) my_X3_takeFrom rfl cw_X3_takeFrom rfl rfl (by decide) (r9 := (RX3, TX3, 16)) rfl rfl wd_326 wd_328 (m_wk 7 (by decide +kernel) (by decide +kernel)) wd_2 (by decide +kernel) (m_dk dk_X3_take 50 rfl) rfl) <|
  m_cn (pc := 87) (ok_istore (m_dk dk_X3_take 51 rfl) rfl (by decide)) <|
  m_cn (pc := 89) (ok_iload (m_dk dk_X3_take 52 rfl) rfl) <|
  m_cn (pc := 91) (ok_iload (m_dk dk_X3_take 53 rfl) rfl) <|
  m_cn (pc := 93) (ok_isub (m_dk dk_X3_take 54 rfl) rfl) <|
  m_cn (pc := 94) (ok_istore (m_dk dk_X3_take 55 rfl) rfl (by decide)) <|
  m_cn (pc := 96) (ok_aload_n (m_dk dk_X3_take 56 rfl) rfl rfl) <|
  m_cn (pc := 97) (ok_getf (k := 6) (hc0 := (rfl : vwCl[4]? = some (RX3, TX3, 16))) (by decide) in_X3 wd_55 (m_dk dk_X3_take 57 rfl) rfl) <|
  m_cn (pc := 100) (ok_aload_n (m_dk dk_X3_take 58 rfl) rfl rfl) <|
  m_cn (pc := 101) (ok_getf (k := 0) (hc0 := (rfl : vwCl[3]? = some (RX2, TX2, 5))) (by decide) in_X2 wd_498 (m_dk dk_X3_take 59 rfl) rfl) <|
  m_cn (pc := 104) (ok_aaldI (m_dk dk_X3_take 60 rfl) rfl) <|
  m_cn (pc := 105) (ok_iload (m_dk dk_X3_take 61 rfl) rfl) <|
  m_cn (pc := 107) (ok_dup2 (m_dk dk_X3_take 62 rfl) rfl) <|
  m_cn (pc := 108) (ok_iald (m_dk dk_X3_take 63 rfl) rfl) <|
  m_cn (pc := 109) (ok_iload (m_dk dk_X3_take 64 rfl) rfl) <|
  m_cn (pc := 111) (ok_aload_n (m_dk dk_X3_take 65 rfl) rfl rfl) <|
  m_cn (pc := 112) (ok_getf (k := 0) (hc0 := (rfl : vwCl[4]? = some (RX3, TX3, 16))) (by decide) in_X3 wd_43 (m_dk dk_X3_take 66 rfl) rfl) <|
  m_cn (pc := 115) (ok_iload_n (m_dk dk_X3_take 67 rfl) rfl rfl) <|
  m_cn (pc := 116) (ok_aald (C := "Cablecourt$Cable") (fun _ => rfl) (m_dk dk_X3_take 68 rfl) rfl) <|
  m_cn (pc := 117) (ok_getf (k := 5) (hc0 := (rfl : vwCl[1]? = some (RX0, TX0, 7))) (by decide) in_X0 wd_443 (m_dk dk_X3_take 69 rfl) rfl) <|
  m_cn (pc := 120) (ok_imul (m_dk dk_X3_take 70 rfl) rfl) <|
  m_cn (pc := 121) (ok_iadd (m_dk dk_X3_take 71 rfl) rfl) <|
  m_cn (pc := 122) (ok_iast (m_dk dk_X3_take 72 rfl) rfl) <|
  m_cn (pc := 123) (ok_iinc (m_dk dk_X3_take 73 rfl) (by decide) rfl (by decide)) <|
  m_cn (pc := 126) (ok_goto (nx := 0) (m_dk dk_X3_take 74 rfl) rfl) <|
  m_cn (pc := 129) (ok_iinc (m_dk dk_X3_take 75 rfl) (by decide) rfl (by decide)) <|
  m_cn (pc := 132) (ok_goto (nx := 0) (m_dk dk_X3_take 76 rfl) rfl) <|
  m_cn (pc := 135) (ok_return (nx := 0) rfl (m_dk dk_X3_take 77 rfl)) <|
  m_nl
theorem mk_X3_take {GP : m_G → Prop} {cds : Nat → Nat → m_Op} (h : cds 17 = m_lk cd_X3_take) : m_MOK GP m_my cds 17 := ⟨RX3, false, [], by decide +kernel, rfl, (fun h9 => by first | rfl | cases h9), Or.inl ⟨rfl, rfl⟩, fun pc => by rw [h]; exact m_lk_ok _ ok_X3_take pc⟩
def dl_X3_takeFrom : List (Nat × Instr × Nat) := [(0, .aload_n 0, 1), (1, .getfield 42, 3), (4, .iload_n 1, 1), (5, .aaload, 1), (6, .iload_n 2, 1), (7, .iaload, 1), (8, .iload_n 3, 1), (9, .invokestatic 139, 3), (12, .istore 4, 2), (14, .aload_n 0, 1), (15, .getfield 42, 3), (18, .iload_n 1, 1), (19, .aaload, 1), (20, .iload_n 2, 1), (21, .dup2, 1), (22, .iaload, 1), (23, .iload 4, 2), (25, .isub, 1), (26, .iastore, 1), (27, .iload 4, 2), (29, .ireturn, 1)]
theorem dk_X3_takeFrom : ∀ q ∈ dl_X3_takeFrom, decode cX3_takeFrom q.1 = .ok q.2 := by decide +kernel
def cd_X3_takeFrom : List (Nat × m_Op) := [(0, o_aload 0 1), (1, o_getf 4 9 4), (4, o_iload 1 5), (5, o_aald 3 6), (6, o_iload 2 7), (7, o_iald 0 8), (8, o_iload 3 9), (9, o_mbin (fun x y => if y < x then y else x) 12), (12, o_istore 4 14), (14, o_aload 0 15), (15, o_getf 4 9 18), (18, o_iload 1 19), (19, o_aald 3 20), (20, o_iload 2 21), (21, o_dup2 22), (22, o_iald 0 23), (23, o_iload 4 25), (25, o_bin (fun x y => x - y) 26), (26, o_iast 27), (27, o_iload 4 29), (29, o_ireturn)]
set_option maxRecDepth 20000 in
set_option maxHeartbeats 4000000 in
theorem ok_X3_takeFrom {GP : m_G → Prop} : ∀ q ∈ cd_X3_takeFrom, m_OK GP m_my (cX3_takeFrom, 5, RX3, false, (some .int), []) q.1 q.2 :=
  m_cn (pc := 0) (ok_aload_n (m_dk dk_X3_takeFrom 0 rfl) rfl rfl) <|
  m_cn (pc := 1) (ok_getf (k := 9) (hc0 := (rfl : vwCl[4]? = some (RX3, TX3, 16))) (by decide) in_X3 wd_61 (m_dk dk_X3_takeFrom 1 rfl) rfl) <|
  m_cn (pc := 4) (ok_iload_n (m_dk dk_X3_takeFrom 2 rfl) rfl rfl) <|
  m_cn (pc := 5) (ok_aaldI (m_dk dk_X3_takeFrom 3 rfl) rfl) <|
  m_cn (pc := 6) (ok_iload_n (m_dk dk_X3_takeFrom 4 rfl) rfl rfl) <|
  m_cn (pc := 7) (ok_iald (m_dk dk_X3_takeFrom 5 rfl) rfl) <|
  m_cn (pc := 8) (ok_iload_n (m_dk dk_X3_takeFrom 6 rfl) rfl rfl) <|
  m_cn (pc := 9) (ok_mmin wd_330 wd_331 wd_12 wd_math_min (m_dk dk_X3_takeFrom 7 rfl) rfl) <|
  m_cn (pc := 12) (ok_istore (m_dk dk_X3_takeFrom 8 rfl) rfl (by decide)) <|
  m_cn (pc := 14) (ok_aload_n (m_dk dk_X3_takeFrom 9 rfl) rfl rfl) <|
  m_cn (pc := 15) (ok_getf (k := 9) (hc0 := (rfl : vwCl[4]? = some (RX3, TX3, 16))) (by decide) in_X3 wd_61 (m_dk dk_X3_takeFrom 10 rfl) rfl) <|
  m_cn (pc := 18) (ok_iload_n (m_dk dk_X3_takeFrom 11 rfl) rfl rfl) <|
  m_cn (pc := 19) (ok_aaldI (m_dk dk_X3_takeFrom 12 rfl) rfl) <|
  m_cn (pc := 20) (ok_iload_n (m_dk dk_X3_takeFrom 13 rfl) rfl rfl) <|
  m_cn (pc := 21) (ok_dup2 (m_dk dk_X3_takeFrom 14 rfl) rfl) <|
  m_cn (pc := 22) (ok_iald (m_dk dk_X3_takeFrom 15 rfl) rfl) <|
  m_cn (pc := 23) (ok_iload (m_dk dk_X3_takeFrom 16 rfl) rfl) <|
  m_cn (pc := 25) (ok_isub (m_dk dk_X3_takeFrom 17 rfl) rfl) <|
  m_cn (pc := 26) (ok_iast (m_dk dk_X3_takeFrom 18 rfl) rfl) <|
  m_cn (pc := 27) (ok_iload (m_dk dk_X3_takeFrom 19 rfl) rfl) <|
  m_cn (pc := 29) (ok_ireturn (nx := 0) rfl (m_dk dk_X3_takeFrom 20 rfl)) <|
  m_nl
theorem mk_X3_takeFrom {GP : m_G → Prop} {cds : Nat → Nat → m_Op} (h : cds 18 = m_lk cd_X3_takeFrom) : m_MOK GP m_my cds 18 := ⟨RX3, false, [], by decide +kernel, rfl, (fun h9 => by first | rfl | cases h9), Or.inl ⟨rfl, rfl⟩, fun pc => by rw [h]; exact m_lk_ok _ ok_X3_takeFrom pc⟩
def dl_X4_init : List (Nat × Instr × Nat) := [(0, .aload_n 0, 1), (1, .invokespecial 1, 3), (4, .aload_n 0, 1), (5, .iload_n 1, 1), (6, .putfield 7, 3), (9, .aload_n 0, 1), (10, .iload_n 2, 1), (11, .putfield 13, 3), (14, .aload_n 0, 1), (15, .iload_n 3, 1), (16, .putfield 16, 3), (19, .aload_n 0, 1), (20, .iload 4, 2), (22, .putfield 19, 3), (25, .aload_n 0, 1), (26, .iload 5, 2), (28, .putfield 22, 3), (31, .return_, 1)]
theorem dk_X4_init : ∀ q ∈ dl_X4_init, decode cX4_init q.1 = .ok q.2 := by decide +kernel
def cd_X4_init : List (Nat × m_Op) := [(0, o_aload 0 1), (1, o_drop 4), (4, o_aload 0 5), (5, o_iload 1 6), (6, o_puti 5 0 9), (9, o_aload 0 10), (10, o_iload 2 11), (11, o_puti 5 1 14), (14, o_aload 0 15), (15, o_iload 3 16), (16, o_puti 5 2 19), (19, o_aload 0 20), (20, o_iload 4 22), (22, o_puti 5 3 25), (25, o_aload 0 26), (26, o_iload 5 28), (28, o_puti 5 4 31), (31, o_return)]
set_option maxRecDepth 20000 in
set_option maxHeartbeats 4000000 in
theorem ok_X4_init {GP : m_G → Prop} : ∀ q ∈ cd_X4_init, m_OK GP m_my (cX4_init, 6, RX4, true, none, []) q.1 q.2 :=
  m_cn (pc := 0) (ok_aload_n (m_dk dk_X4_init 0 rfl) rfl rfl) <|
  m_cn (pc := 1) (ok_drop wd_597 wd_29 wd_objinit (m_dk dk_X4_init 1 rfl) rfl) <|
  m_cn (pc := 4) (ok_aload_n (m_dk dk_X4_init 2 rfl) rfl rfl) <|
  m_cn (pc := 5) (ok_iload_n (m_dk dk_X4_init 3 rfl) rfl rfl) <|
  m_cn (pc := 6) (ok_putiF (k := 0) (hc0 := (rfl : vwCl[5]? = some (RX4, TX4, 5))) (by decide) in_X4 wd_598 tyX4 tyX4_ok nmX4 rfl rfl rfl (tyX4_ok 0 (by decide)) (m_dk dk_X4_init 4 rfl) rfl) <|
  m_cn (pc := 9) (ok_aload_n (m_dk dk_X4_init 5 rfl) rfl rfl) <|
  m_cn (pc := 10) (ok_iload_n (m_dk dk_X4_init 6 rfl) rfl rfl) <|
  m_cn (pc := 11) (ok_putiF (k := 1) (hc0 := (rfl : vwCl[5]? = some (RX4, TX4, 5))) (by decide) in_X4 wd_600 tyX4 tyX4_ok nmX4 rfl rfl rfl (tyX4_ok 1 (by decide)) (m_dk dk_X4_init 7 rfl) rfl) <|
  m_cn (pc := 14) (ok_aload_n (m_dk dk_X4_init 8 rfl) rfl rfl) <|
  m_cn (pc := 15) (ok_iload_n (m_dk dk_X4_init 9 rfl) rfl rfl) <|
  m_cn (pc := 16) (ok_putiF (k := 2) (hc0 := (rfl : vwCl[5]? = some (RX4, TX4, 5))) (by decide) in_X4 wd_602 tyX4 tyX4_ok nmX4 rfl rfl rfl (tyX4_ok 2 (by decide)) (m_dk dk_X4_init 10 rfl) rfl) <|
  m_cn (pc := 19) (ok_aload_n (m_dk dk_X4_init 11 rfl) rfl rfl) <|
  m_cn (pc := 20) (ok_iload (m_dk dk_X4_init 12 rfl) rfl) <|
  m_cn (pc := 22) (ok_putiF (k := 3) (hc0 := (rfl : vwCl[5]? = some (RX4, TX4, 5))) (by decide) in_X4 wd_604 tyX4 tyX4_ok nmX4 rfl rfl rfl (tyX4_ok 3 (by decide)) (m_dk dk_X4_init 13 rfl) rfl) <|
  m_cn (pc := 25) (ok_aload_n (m_dk dk_X4_init 14 rfl) rfl rfl) <|
  m_cn (pc := 26) (ok_iload (m_dk dk_X4_init 15 rfl) rfl) <|
  m_cn (pc := 28) (ok_putiF (k := 4) (hc0 := (rfl : vwCl[5]? = some (RX4, TX4, 5))) (by decide) in_X4 wd_606 tyX4 tyX4_ok nmX4 rfl rfl rfl (tyX4_ok 4 (by decide)) (m_dk dk_X4_init 16 rfl) rfl) <|
  m_cn (pc := 31) (ok_return (nx := 0) rfl (m_dk dk_X4_init 17 rfl)) <|
  m_nl
theorem mk_X4_init {GP : m_G → Prop} {cds : Nat → Nat → m_Op} (h : cds 19 = m_lk cd_X4_init) : m_MOK GP m_my cds 19 := ⟨RX4, true, [], by decide +kernel, rfl, (fun h9 => by first | rfl | cases h9), Or.inl ⟨rfl, rfl⟩, fun pc => by rw [h]; exact m_lk_ok _ ok_X4_init pc⟩
def dl_X5_init : List (Nat × Instr × Nat) := [(0, .aload_n 0, 1), (1, .invokespecial 3, 3), (4, .aload_n 0, 1), (5, .iload_n 1, 1), (6, .putfield 9, 3), (9, .aload_n 0, 1), (10, .iload_n 2, 1), (11, .putfield 15, 3), (14, .aload_n 0, 1), (15, .iload_n 3, 1), (16, .putfield 18, 3), (19, .aload_n 0, 1), (20, .iconst (-1), 1), (21, .putfield 21, 3), (24, .return_, 1)]
theorem dk_X5_init : ∀ q ∈ dl_X5_init, decode cX5_init q.1 = .ok q.2 := by decide +kernel
def cd_X5_init : List (Nat × m_Op) := [(0, o_aload 0 1), (1, o_drop 4), (4, o_aload 0 5), (5, o_iload 1 6), (6, o_puti 6 1 9), (9, o_aload 0 10), (10, o_iload 2 11), (11, o_puti 6 0 14), (14, o_aload 0 15), (15, o_iload 3 16), (16, o_puti 6 2 19), (19, o_aload 0 20), (20, o_const (-1) 21), (21, o_puti 6 3 24), (24, o_return)]
set_option maxRecDepth 20000 in
set_option maxHeartbeats 4000000 in
theorem ok_X5_init {GP : m_G → Prop} : ∀ q ∈ cd_X5_init, m_OK GP m_my (cX5_init, 4, RX5, true, none, []) q.1 q.2 :=
  m_cn (pc := 0) (ok_aload_n (m_dk dk_X5_init 0 rfl) rfl rfl) <|
  m_cn (pc := 1) (ok_drop wd_549 wd_29 wd_objinit (m_dk dk_X5_init 1 rfl) rfl) <|
  m_cn (pc := 4) (ok_aload_n (m_dk dk_X5_init 2 rfl) rfl rfl) <|
  m_cn (pc := 5) (ok_iload_n (m_dk dk_X5_init 3 rfl) rfl rfl) <|
  m_cn (pc := 6) (ok_puti (k := 1) (hc0 := (rfl : vwCl[6]? = some (RX5, TX5, 4))) (by decide) in_X5 wd_551 tyX5 tyX5_ok nmX5 rfl (tyX5_ok 1 (by decide)) (m_dk dk_X5_init 4 rfl) rfl) <|
  m_cn (pc := 9) (ok_aload_n (m_dk dk_X5_init 5 rfl) rfl rfl) <|
  m_cn (pc := 10) (ok_iload_n (m_dk dk_X5_init 6 rfl) rfl rfl) <|
  m_cn (pc := 11) (ok_putiF (k := 0) (hc0 := (rfl : vwCl[6]? = some (RX5, TX5, 4))) (by decide) in_X5 wd_550 tyX5 tyX5_ok nmX5 rfl rfl rfl (tyX5_ok 0 (by decide)) (m_dk dk_X5_init 7 rfl) rfl) <|
  m_cn (pc := 14) (ok_aload_n (m_dk dk_X5_init 8 rfl) rfl rfl) <|
  m_cn (pc := 15) (ok_iload_n (m_dk dk_X5_init 9 rfl) rfl rfl) <|
  m_cn (pc := 16) (ok_puti (k := 2) (hc0 := (rfl : vwCl[6]? = some (RX5, TX5, 4))) (by decide) in_X5 wd_553 tyX5 tyX5_ok nmX5 rfl (tyX5_ok 2 (by decide)) (m_dk dk_X5_init 10 rfl) rfl) <|
  m_cn (pc := 19) (ok_aload_n (m_dk dk_X5_init 11 rfl) rfl rfl) <|
  m_cn (pc := 20) (ok_iconst (m_dk dk_X5_init 12 rfl) (by decide) rfl) <|
  m_cn (pc := 21) (ok_puti (k := 3) (hc0 := (rfl : vwCl[6]? = some (RX5, TX5, 4))) (by decide) in_X5 wd_555 tyX5 tyX5_ok nmX5 rfl (tyX5_ok 3 (by decide)) (m_dk dk_X5_init 13 rfl) rfl) <|
  m_cn (pc := 24) (ok_return (nx := 0) rfl (m_dk dk_X5_init 14 rfl)) <|
  m_nl
theorem mk_X5_init {GP : m_G → Prop} {cds : Nat → Nat → m_Op} (h : cds 20 = m_lk cd_X5_init) : m_MOK GP m_my cds 20 := ⟨RX5, true, [], by decide +kernel, rfl, (fun h9 => by first | rfl | cases h9), Or.inl ⟨rfl, rfl⟩, fun pc => by rw [h]; exact m_lk_ok _ ok_X5_init pc⟩
def dl_X5_sailTo : List (Nat × Instr × Nat) := [(0, .iload_n 1, 1), (1, .aload_n 0, 1), (2, .getfield 9, 3), (5, .if_icmp .le 23, 3), (8, .aload_n 0, 1), (9, .iload_n 1, 1), (10, .aload_n 0, 1), (11, .getfield 9, 3), (14, .aload_n 0, 1), (15, .getfield 15, 3), (18, .iadd, 1), (19, .invokestatic 24, 3), (22, .putfield 9, 3), (25, .goto 20, 3), (28, .aload_n 0, 1), (29, .iload_n 1, 1), (30, .aload_n 0, 1), (31, .getfield 9, 3), (34, .aload_n 0, 1), (35, .getfield 15, 3), (38, .isub, 1), (39, .invokestatic 30, 3), (42, .putfield 9, 3), (45, .return_, 1)]
theorem dk_X5_sailTo : ∀ q ∈ dl_X5_sailTo, decode cX5_sailTo q.1 = .ok q.2 := by decide +kernel
def cd_X5_sailTo : List (Nat × m_Op) := [(0, o_iload 1 1), (1, o_aload 0 2), (2, o_getf 6 1 5), (5, o_icmple 28 8), (8, o_aload 0 9), (9, o_iload 1 10), (10, o_aload 0 11), (11, o_getf 6 1 14), (14, o_aload 0 15), (15, o_getf 6 0 18), (18, o_bin (fun x y => x + y) 19), (19, o_mbin (fun x y => if y < x then y else x) 22), (22, o_puti 6 1 25), (25, o_goto 45), (28, o_aload 0 29), (29, o_iload 1 30), (30, o_aload 0 31), (31, o_getf 6 1 34), (34, o_aload 0 35), (35, o_getf 6 0 38), (38, o_bin (fun x y => x - y) 39), (39, o_mbin (fun x y => if x < y then y else x) 42), (42, o_puti 6 1 45), (45, o_return)]
set_option maxRecDepth 20000 in
set_option maxHeartbeats 4000000 in
theorem ok_X5_sailTo {GP : m_G → Prop} : ∀ q ∈ cd_X5_sailTo, m_OK GP m_my (cX5_sailTo, 2, RX5, false, none, []) q.1 q.2 :=
  m_cn (pc := 0) (ok_iload_n (m_dk dk_X5_sailTo 0 rfl) rfl rfl) <|
  m_cn (pc := 1) (ok_aload_n (m_dk dk_X5_sailTo 1 rfl) rfl rfl) <|
  m_cn (pc := 2) (ok_getf (k := 1) (hc0 := (rfl : vwCl[6]? = some (RX5, TX5, 4))) (by decide) in_X5 wd_551 (m_dk dk_X5_sailTo 2 rfl) rfl) <|
  m_cn (pc := 5) (ok_icmple (m_dk dk_X5_sailTo 3 rfl) rfl rfl) <|
  m_cn (pc := 8) (ok_aload_n (m_dk dk_X5_sailTo 4 rfl) rfl rfl) <|
  m_cn (pc := 9) (ok_iload_n (m_dk dk_X5_sailTo 5 rfl) rfl rfl) <|
  m_cn (pc := 10) (ok_aload_n (m_dk dk_X5_sailTo 6 rfl) rfl rfl) <|
  m_cn (pc := 11) (ok_getf (k := 1) (hc0 := (rfl : vwCl[6]? = some (RX5, TX5, 4))) (by decide) in_X5 wd_551 (m_dk dk_X5_sailTo 7 rfl) rfl) <|
  m_cn (pc := 14) (ok_aload_n (m_dk dk_X5_sailTo 8 rfl) rfl rfl) <|
  m_cn (pc := 15) (ok_getf (k := 0) (hc0 := (rfl : vwCl[6]? = some (RX5, TX5, 4))) (by decide) in_X5 wd_550 (m_dk dk_X5_sailTo 9 rfl) rfl) <|
  m_cn (pc := 18) (ok_iadd (m_dk dk_X5_sailTo 10 rfl) rfl) <|
  m_cn (pc := 19) (ok_mmin wd_357 wd_331 wd_12 wd_math_min (m_dk dk_X5_sailTo 11 rfl) rfl) <|
  m_cn (pc := 22) (ok_puti (k := 1) (hc0 := (rfl : vwCl[6]? = some (RX5, TX5, 4))) (by decide) in_X5 wd_551 tyX5 tyX5_ok nmX5 rfl (tyX5_ok 1 (by decide)) (m_dk dk_X5_sailTo 12 rfl) rfl) <|
  m_cn (pc := 25) (ok_goto (nx := 0) (m_dk dk_X5_sailTo 13 rfl) rfl) <|
  m_cn (pc := 28) (ok_aload_n (m_dk dk_X5_sailTo 14 rfl) rfl rfl) <|
  m_cn (pc := 29) (ok_iload_n (m_dk dk_X5_sailTo 15 rfl) rfl rfl) <|
  m_cn (pc := 30) (ok_aload_n (m_dk dk_X5_sailTo 16 rfl) rfl rfl) <|
  m_cn (pc := 31) (ok_getf (k := 1) (hc0 := (rfl : vwCl[6]? = some (RX5, TX5, 4))) (by decide) in_X5 wd_551 (m_dk dk_X5_sailTo 17 rfl) rfl) <|
  m_cn (pc := 34) (ok_aload_n (m_dk dk_X5_sailTo 18 rfl) rfl rfl) <|
  m_cn (pc := 35) (ok_getf (k := 0) (hc0 := (rfl : vwCl[6]? = some (RX5, TX5, 4))) (by decide) in_X5 wd_550 (m_dk dk_X5_sailTo 19 rfl) rfl) <|
  m_cn (pc := 38) (ok_isub (m_dk dk_X5_sailTo 20 rfl) rfl) <|
  m_cn (pc := 39) (ok_mmax wd_358 wd_309 wd_12 wd_math_max (m_dk dk_X5_sailTo 21 rfl) rfl) <|
  m_cn (pc := 42) (ok_puti (k := 1) (hc0 := (rfl : vwCl[6]? = some (RX5, TX5, 4))) (by decide) in_X5 wd_551 tyX5 tyX5_ok nmX5 rfl (tyX5_ok 1 (by decide)) (m_dk dk_X5_sailTo 22 rfl) rfl) <|
  m_cn (pc := 45) (ok_return (nx := 0) rfl (m_dk dk_X5_sailTo 23 rfl)) <|
  m_nl
theorem mk_X5_sailTo {GP : m_G → Prop} {cds : Nat → Nat → m_Op} (h : cds 21 = m_lk cd_X5_sailTo) : m_MOK GP m_my cds 21 := ⟨RX5, false, [], by decide +kernel, rfl, (fun h9 => by first | rfl | cases h9), Or.inl ⟨rfl, rfl⟩, fun pc => by rw [h]; exact m_lk_ok _ ok_X5_sailTo pc⟩
