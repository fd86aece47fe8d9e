def dl_Jxa1e45_init_da8c8 : List (Nat × Instr × Nat) := [(0, .aload_n 0, 1), (1, .invokespecial 1, 3), (4, .return_, 1)]
theorem dk_Jxa1e45_init_da8c8 : ∀ q ∈ dl_Jxa1e45_init_da8c8, decode cJxa1e45_init_da8c8 q.1 = .ok q.2 := by decide +kernel
def cd_Jxa1e45_init_da8c8 : List (Nat × m_Op) := [(0, o_aload 0 1), (1, o_drop 4), (4, o_return)]
set_option maxRecDepth 20000 in
set_option maxHeartbeats 4000000 in
theorem ok_Jxa1e45_init_da8c8 {GP : m_G → Prop} : ∀ q ∈ cd_Jxa1e45_init_da8c8, m_OK GP m_my (cJxa1e45_init_da8c8, 1, RJxa1e45, true, none, []) q.1 q.2 :=
  m_cn (pc := 0) (ok_aload_n (m_dk dk_Jxa1e45_init_da8c8 0 rfl) rfl rfl) <|
  m_cn (pc := 1) (ok_drop wd_118 wd_29 wd_objinit (m_dk dk_Jxa1e45_init_da8c8 1 rfl) rfl) <|
  m_cn (pc := 4) (ok_return (nx := 0) rfl (m_dk dk_Jxa1e45_init_da8c8 2 rfl)) <|
  m_nl
theorem mk_Jxa1e45_init_da8c8 {GP : m_G → Prop} {cds : Nat → Nat → m_Op} (h : cds 61 = m_lk cd_Jxa1e45_init_da8c8) : m_MOK GP m_my cds 61 := ⟨RJxa1e45, true, [], by decide +kernel, rfl, (fun h9 => by first | rfl | cases h9), Or.inl ⟨rfl, rfl⟩, fun pc => by rw [h]; exact m_lk_ok _ ok_Jxa1e45_init_da8c8 pc⟩
def dl_Jxc12de_init_da8c8 : List (Nat × Instr × Nat) := [(0, .aload_n 0, 1), (1, .invokespecial 1, 3), (4, .aload_n 0, 1), (5, .iconst 0, 1), (6, .putfield 7, 3), (9, .return_, 1)]
theorem dk_Jxc12de_init_da8c8 : ∀ q ∈ dl_Jxc12de_init_da8c8, decode cJxc12de_init_da8c8 q.1 = .ok q.2 := by decide +kernel
def cd_Jxc12de_init_da8c8 : List (Nat × m_Op) := [(0, o_aload 0 1), (1, o_callv 0 61 1 0 0 4), (4, o_aload 0 5), (5, o_const (0) 6), (6, o_puti 0 0 9), (9, o_return)]
set_option maxRecDepth 20000 in
set_option maxHeartbeats 4000000 in
theorem ok_Jxc12de_init_da8c8 {GP : m_G → Prop} : ∀ q ∈ cd_Jxc12de_init_da8c8, m_OK GP m_my (cJxc12de_init_da8c8, 1, RJxc12de, true, none, []) q.1 q.2 :=
  m_cn (pc := 0) (ok_aload_n (m_dk dk_Jxc12de_init_da8c8 0 rfl) rfl rfl) <|
  m_cn (pc := 1) (ok_calli (T := mt_Jxa1e45_init_da8c8) my_Jxa1e45_init_da8c8 rfl cw_Jxa1e45_init_da8c8 rfl rfl (by decide) wd_115 wd_116 wd_3 rfl (by decide +kernel) (m_dk dk_Jxc12de_init_da8c8 1 rfl) rfl) <|
  m_cn (pc := 4) (ok_aload_n (m_dk dk_Jxc12de_init_da8c8 2 rfl) rfl rfl) <|
  m_cn (pc := 5) (ok_iconst (m_dk dk_Jxc12de_init_da8c8 3 rfl) (by decide) rfl) <|
  m_cn (pc := 6) (ok_puti (k := 0) (hc0 := (rfl : vwCl[0]? = some (RJx4a65c, TJx4a65c, 3))) (by decide) in_Jx4a65c wd_123 tyJx4a65c tyJx4a65c_ok nmJx4a65c rfl (tyJx4a65c_ok 0 (by decide)) (m_dk dk_Jxc12de_init_da8c8 4 rfl) rfl) <|
  m_cn (pc := 9) (ok_return (nx := 0) rfl (m_dk dk_Jxc12de_init_da8c8 5 rfl)) <|
  m_nl
theorem mk_Jxc12de_init_da8c8 {GP : m_G → Prop} {cds : Nat → Nat → m_Op} (h : cds 62 = m_lk cd_Jxc12de_init_da8c8) : m_MOK GP m_my cds 62 := ⟨RJxc12de, true, [], by decide +kernel, rfl, (fun h9 => by first | rfl | cases h9), Or.inl ⟨rfl, rfl⟩, fun pc => by rw [h]; exact m_lk_ok _ ok_Jxc12de_init_da8c8 pc⟩
def dl_Jx4a65c_init_da8c8 : List (Nat × Instr × Nat) := [(0, .aload_n 0, 1), (1, .invokespecial 1, 3), (4, .aload_n 0, 1), (5, .getstatic 39, 3), (8, .putfield 9, 3), (11, .return_, 1)]
theorem dk_Jx4a65c_init_da8c8 : ∀ q ∈ dl_Jx4a65c_init_da8c8, decode cJx4a65c_init_da8c8 q.1 = .ok q.2 := by decide +kernel
def cd_Jx4a65c_init_da8c8 : List (Nat × m_Op) := [(0, o_aload 0 1), (1, o_callv 0 62 1 0 0 4), (4, o_aload 0 5), (5, o_de 8), (8, o_putr 0 1 11), (11, o_return)]
set_option maxRecDepth 20000 in
set_option maxHeartbeats 4000000 in
theorem ok_Jx4a65c_init_da8c8 {GP : m_G → Prop} : ∀ q ∈ cd_Jx4a65c_init_da8c8, m_OK GP m_my (cJx4a65c_init_da8c8, 1, RJx4a65c, true, none, []) q.1 q.2 :=
  m_cn (pc := 0) (ok_aload_n (m_dk dk_Jx4a65c_init_da8c8 0 rfl) rfl rfl) <|
  m_cn (pc := 1) (ok_calli (T := mt_Jxc12de_init_da8c8) my_Jxc12de_init_da8c8 rfl cw_Jxc12de_init_da8c8 rfl rfl (by decide) wd_112 wd_113 wd_4 rfl (by decide +kernel) (m_dk dk_Jx4a65c_init_da8c8 1 rfl) rfl) <|
  m_cn (pc := 4) (ok_aload_n (m_dk dk_Jx4a65c_init_da8c8 2 rfl) rfl rfl) <|
  m_cn (pc := 5) (ok_de wd_119 (m_dk dk_Jx4a65c_init_da8c8 3 rfl) rfl) <|
  m_cn (pc := 8) (ok_putr (k := 1) (hc0 := (rfl : vwCl[0]? = some (RJx4a65c, TJx4a65c, 3))) (by decide) in_Jx4a65c wd_121 tyJx4a65c tyJx4a65c_ok nmJx4a65c rfl (tyJx4a65c_ok 1 (by decide)) (fun _ => rfl) (fun _ => rfl) (m_dk dk_Jx4a65c_init_da8c8 4 rfl) rfl) <|
  m_cn (pc := 11) (ok_return (nx := 0) rfl (m_dk dk_Jx4a65c_init_da8c8 5 rfl)) <|
  m_nl
theorem mk_Jx4a65c_init_da8c8 {GP : m_G → Prop} {cds : Nat → Nat → m_Op} (h : cds 63 = m_lk cd_Jx4a65c_init_da8c8) : m_MOK GP m_my cds 63 := ⟨RJx4a65c, true, [], by decide +kernel, rfl, (fun h9 => by first | rfl | cases h9), Or.inl ⟨rfl, rfl⟩, fun pc => by rw [h]; exact m_lk_ok _ ok_Jx4a65c_init_da8c8 pc⟩
def dl_Jx4a65c_grow_92f84 : List (Nat × Instr × Nat) := [(0, .aload_n 0, 1), (1, .getfield 9, 3), (4, .arraylength, 1), (5, .istore_n 2, 1), (6, .iload_n 2, 1), (7, .ifCond .gt 13, 3), (10, .aload_n 0, 1), (11, .getfield 9, 3), (14, .getstatic 39, 3), (17, .if_acmp .eq 28, 3), (20, .iload_n 2, 1), (21, .iload_n 1, 1), (22, .iload_n 2, 1), (23, .isub, 1), (24, .iload_n 2, 1), (25, .iconst 1, 1), (26, .ishr, 1), (27, .invokestatic 73, 3), (30, .istore_n 3, 1), (31, .aload_n 0, 1), (32, .aload_n 0, 1), (33, .getfield 9, 3), (36, .iload_n 3, 1), (37, .invokestatic 66, 3), (40, .dup_x1, 1), (41, .putfield 9, 3), (44, .areturn, 1), (45, .aload_n 0, 1), (46, .bipush 10, 2), (48, .iload_n 1, 1), (49, .invokestatic 79, 3), (52, .anewarray 7, 3), (55, .dup_x1, 1), (56, .putfield 9, 3), (59, .areturn, 1)]
theorem dk_Jx4a65c_grow_92f84 : ∀ q ∈ dl_Jx4a65c_grow_92f84, decode cJx4a65c_grow_92f84 q.1 = .ok q.2 := by decide +kernel
def cd_Jx4a65c_grow_92f84 : List (Nat × m_Op) := [(0, o_aload 0 1), (1, o_getf 0 1 4), (4, o_alenO 5), (5, o_istore 2 6), (6, o_iload 2 7), (7, o_ifgt 20 10), (10, o_aload 0 11), (11, o_getf 0 1 14), (14, o_de 17), (17, o_acmpeq 45 20), (20, o_iload 2 21), (21, o_iload 1 22), (22, o_iload 2 23), (23, o_bin (fun x y => x - y) 24), (24, o_iload 2 25), (25, o_const (1) 26), (26, o_bin (fun x y => x >>> (y &&& 31)) 27), (27, o_call 74 3 0 0 30), (30, o_istore 3 31), (31, o_aload 0 32), (32, o_aload 0 33), (33, o_getf 0 1 36), (36, o_iload 3 37), (37, o_call 71 2 1 800 40), (40, o_dupx1 41), (41, o_putr 0 1 44), (44, o_areturn), (45, o_aload 0 46), (46, o_const (10) 48), (48, o_iload 1 49), (49, o_mbin (fun x y => if x < y then y else x) 52), (52, o_newqd 8 55), (55, o_dupx1 56), (56, o_putr 0 1 59), (59, o_areturn)]
set_option maxRecDepth 20000 in
set_option maxHeartbeats 4000000 in
theorem ok_Jx4a65c_grow_92f84 {GP : m_G → Prop} : ∀ q ∈ cd_Jx4a65c_grow_92f84, m_OK GP m_my (cJx4a65c_grow_92f84, 4, RJx4a65c, false, (some (.array (.object "java/lang/Object"))), []) q.1 q.2 :=
  m_cn (pc := 0) (ok_aload_n (m_dk dk_Jx4a65c_grow_92f84 0 rfl) rfl rfl) <|
  m_cn (pc := 1) (ok_getf (k := 1) (hc0 := (rfl : vwCl[0]? = some (RJx4a65c, TJx4a65c, 3))) (by decide) in_Jx4a65c wd_121 (m_dk dk_Jx4a65c_grow_92f84 1 rfl) rfl) <|
  m_cn (pc := 4) (ok_alenO (m_dk dk_Jx4a65c_grow_92f84 2 rfl) rfl) <|
  m_cn (pc := 5) (ok_istore_n (m_dk dk_Jx4a65c_grow_92f84 3 rfl) rfl rfl (by decide)) <|
  m_cn (pc := 6) (ok_iload_n (m_dk dk_Jx4a65c_grow_92f84 4 rfl) rfl rfl) <|
  m_cn (pc := 7) (ok_ifgt (m_dk dk_Jx4a65c_grow_92f84 5 rfl) rfl rfl) <|
  m_cn (pc := 10) (ok_aload_n (m_dk dk_Jx4a65c_grow_92f84 6 rfl) rfl rfl) <|
  m_cn (pc := 11) (ok_getf (k := 1) (hc0 := (rfl : vwCl[0]? = some (RJx4a65c, TJx4a65c, 3))) (by decide) in_Jx4a65c wd_121 (m_dk dk_Jx4a65c_grow_92f84 7 rfl) rfl) <|
  m_cn (pc := 14) (ok_de wd_119 (m_dk dk_Jx4a65c_grow_92f84 8 rfl) rfl) <|
  m_cn (pc := 17) (ok_acmpeq (m_dk dk_Jx4a65c_grow_92f84 9 rfl) rfl rfl) <|
  m_cn (pc := 20) (ok_iload_n (m_dk dk_Jx4a65c_grow_92f84 10 rfl) rfl rfl) <|
  m_cn (pc := 21) (ok_iload_n (m_dk dk_Jx4a65c_grow_92f84 11 rfl) rfl rfl) <|
  m_cn (pc := 22) (ok_iload_n (m_dk dk_Jx4a65c_grow_92f84 12 rfl) rfl rfl) <|
  m_cn (pc := 23) (ok_isub (m_dk dk_Jx4a65c_grow_92f84 13 rfl) rfl) <|
  m_cn (pc := 24) (ok_iload_n (m_dk dk_Jx4a65c_grow_92f84 14 rfl) rfl rfl) <|
  m_cn (pc := 25) (ok_iconst (m_dk dk_Jx4a65c_grow_92f84 15 rfl) (by decide) rfl) <|
  m_cn (pc := 26) (ok_ishr (m_dk dk_Jx4a65c_grow_92f84 16 rfl) rfl) <|
  m_cn (pc := 27) (ok_calls (T := mt_J8_newLength_cabcc) my_J8_newLength_cabcc rfl cw_J8_newLength_cabcc rfl rfl (by decide) wd_639 wd_640 wd_18 (by decide +kernel) (m_dk dk_Jx4a65c_grow_92f84 17 rfl) rfl) <|
  m_cn (pc := 30) (ok_istore_n (m_dk dk_Jx4a65c_grow_92f84 18 rfl) rfl rfl (by decide)) <|
  m_cn (pc := 31) (ok_aload_n (m_dk dk_Jx4a65c_grow_92f84 19 rfl) rfl rfl) <|
  m_cn (pc := 32) (ok_aload_n (m_dk dk_Jx4a65c_grow_92f84 20 rfl) rfl rfl) <|
  m_cn (pc := 33) (ok_getf (k := 1) (hc0 := (rfl : vwCl[0]? = some (RJx4a65c, TJx4a65c, 3))) (by decide) in_Jx4a65c wd_121 (m_dk dk_Jx4a65c_grow_92f84 21 rfl) rfl) <|
  m_cn (pc := 36) (ok_iload_n (m_dk dk_Jx4a65c_grow_92f84 22 rfl) rfl rfl) <|
  m_cn (pc := 37) (ok_calls (T := mt_J7_copyOf_1904c) my_J7_copyOf_1904c rfl cw_J7_copyOf_1904c rfl rfl (by decide) wd_647 wd_648 wd_19 (by decide +kernel) (m_dk dk_Jx4a65c_grow_92f84 23 rfl) rfl) <|
  m_cn (pc := 40) (ok_dupx1 (m_dk dk_Jx4a65c_grow_92f84 24 rfl) rfl) <|
  m_cn (pc := 41) (ok_putr (k := 1) (hc0 := (rfl : vwCl[0]? = some (RJx4a65c, TJx4a65c, 3))) (by decide) in_Jx4a65c wd_121 tyJx4a65c tyJx4a65c_ok nmJx4a65c rfl (tyJx4a65c_ok 1 (by decide)) (fun _ => rfl) (fun _ => rfl) (m_dk dk_Jx4a65c_grow_92f84 25 rfl) rfl) <|
  m_cn (pc := 44) (ok_areturn (nx := 0) (Or.inr ⟨_, rfl⟩) (m_dk dk_Jx4a65c_grow_92f84 26 rfl)) <|
  m_cn (pc := 45) (ok_aload_n (m_dk dk_Jx4a65c_grow_92f84 27 rfl) rfl rfl) <|
  m_cn (pc := 46) (ok_bipush (m_dk dk_Jx4a65c_grow_92f84 28 rfl) (by decide) rfl) <|
  m_cn (pc := 48) (ok_iload_n (m_dk dk_Jx4a65c_grow_92f84 29 rfl) rfl rfl) <|
  m_cn (pc := 49) (ok_mmax wd_673 wd_309 wd_12 wd_math_max (m_dk dk_Jx4a65c_grow_92f84 30 rfl) rfl) <|
  m_cn (pc := 52) (ok_newqd (C := "java/lang/Object") (fun _ => rfl) (by decide) wd_674 (m_dk dk_Jx4a65c_grow_92f84 31 rfl) rfl) <|
  m_cn (pc := 55) (ok_dupx1 (m_dk dk_Jx4a65c_grow_92f84 32 rfl) rfl) <|
  m_cn (pc := 56) (ok_putr (k := 1) (hc0 := (rfl : vwCl[0]? = some (RJx4a65c, TJx4a65c, 3))) (by decide) in_Jx4a65c wd_121 tyJx4a65c tyJx4a65c_ok nmJx4a65c rfl (tyJx4a65c_ok 1 (by decide)) (fun _ => rfl) (fun _ => rfl) (m_dk dk_Jx4a65c_grow_92f84 33 rfl) rfl) <|
  m_cn (pc := 59) (ok_areturn (nx := 0) (Or.inr ⟨_, rfl⟩) (m_dk dk_Jx4a65c_grow_92f84 34 rfl)) <|
  m_nl
theorem mk_Jx4a65c_grow_92f84 {GP : m_G → Prop} {cds : Nat → Nat → m_Op} (h : cds 64 = m_lk cd_Jx4a65c_grow_92f84) : m_MOK GP m_my cds 64 := ⟨RJx4a65c, false, [], by decide +kernel, rfl, (fun h9 => by first | rfl | cases h9), Or.inl ⟨rfl, rfl⟩, fun pc => by rw [h]; exact m_lk_ok _ ok_Jx4a65c_grow_92f84 pc⟩
def dl_Jx4a65c_grow_d5877 : List (Nat × Instr × Nat) := [(0, .aload_n 0, 1), (1, .aload_n 0, 1), (2, .getfield 48, 3), (5, .iconst 1, 1), (6, .iadd, 1), (7, .invokevirtual 69, 3), (10, .areturn, 1)]
theorem dk_Jx4a65c_grow_d5877 : ∀ q ∈ dl_Jx4a65c_grow_d5877, decode cJx4a65c_grow_d5877 q.1 = .ok q.2 := by decide +kernel
def cd_Jx4a65c_grow_d5877 : List (Nat × m_Op) := [(0, o_aload 0 1), (1, o_aload 0 2), (2, o_getf 0 2 5), (5, o_const (1) 6), (6, o_bin (fun x y => x + y) 7), (7, o_callv 0 64 2 1 800 10), (10, o_areturn)]
set_option maxRecDepth 20000 in
set_option maxHeartbeats 4000000 in
theorem ok_Jx4a65c_grow_d5877 {GP : m_G → Prop} : ∀ q ∈ cd_Jx4a65c_grow_d5877, m_OK GP m_my (cJx4a65c_grow_d5877, 1, RJx4a65c, false, (some (.array (.object "java/lang/Object"))), []) q.1 q.2 :=
  m_cn (pc := 0) (ok_aload_n (m_dk dk_Jx4a65c_grow_d5877 0 rfl) rfl rfl) <|
  m_cn (pc := 1) (ok_aload_n (m_dk dk_Jx4a65c_grow_d5877 1 rfl) rfl rfl) <|
  m_cn (pc := 2) (ok_getf (k := 2) (hc0 := (rfl : vwCl[0]? = some (RJx4a65c, TJx4a65c, 3))) (by decide) in_Jx4a65c wd_122 (m_dk dk_Jx4a65c_grow_d5877 2 rfl) rfl) <|
  m_cn (pc := 5) (ok_iconst (m_dk dk_Jx4a65c_grow_d5877 3 rfl) (by decide) rfl) <|
  m_cn (pc := 6) (ok_iadd (m_dk dk_Jx4a65c_grow_d5877 4 rfl) rfl) <|
  m_cn (pc := 7) (ok_callv (T := mt_Jx4a65c_grow_92f84) my_Jx4a65c_grow_92f84 rfl cw_Jx4a65c_grow_92f84 rfl rfl (by decide) (r9 := (RJx4a65c, TJx4a65c, 3)) rfl rfl wd_635 wd_637 (m_wk 17 (by decide +kernel) (by decide +kernel)) wd_5 (by decide +kernel) (m_dk dk_Jx4a65c_grow_d5877 5 rfl) rfl) <|
  m_cn (pc := 10) (ok_areturn (nx := 0) (Or.inr ⟨_, rfl⟩) (m_dk dk_Jx4a65c_grow_d5877 6 rfl)) <|
  m_nl
theorem mk_Jx4a65c_grow_d5877 {GP : m_G → Prop} {cds : Nat → Nat → m_Op} (h : cds 65 = m_lk cd_Jx4a65c_grow_d5877) : m_MOK GP m_my cds 65 := ⟨RJx4a65c, false, [], by decide +kernel, rfl, (fun h9 => by first | rfl | cases h9), Or.inl ⟨rfl, rfl⟩, fun pc => by rw [h]; exact m_lk_ok _ ok_Jx4a65c_grow_d5877 pc⟩
def dl_Jx4a65c_size_8abf5 : List (Nat × Instr × Nat) := [(0, .aload_n 0, 1), (1, .getfield 48, 3), (4, .ireturn, 1)]
theorem dk_Jx4a65c_size_8abf5 : ∀ q ∈ dl_Jx4a65c_size_8abf5, decode cJx4a65c_size_8abf5 q.1 = .ok q.2 := by decide +kernel
def cd_Jx4a65c_size_8abf5 : List (Nat × m_Op) := [(0, o_aload 0 1), (1, o_getf 0 2 4), (4, o_ireturn)]
set_option maxRecDepth 20000 in
set_option maxHeartbeats 4000000 in
theorem ok_Jx4a65c_size_8abf5 {GP : m_G → Prop} : ∀ q ∈ cd_Jx4a65c_size_8abf5, m_OK GP m_my (cJx4a65c_size_8abf5, 1, RJx4a65c, false, (some .int), []) q.1 q.2 :=
  m_cn (pc := 0) (ok_aload_n (m_dk dk_Jx4a65c_size_8abf5 0 rfl) rfl rfl) <|
  m_cn (pc := 1) (ok_getf (k := 2) (hc0 := (rfl : vwCl[0]? = some (RJx4a65c, TJx4a65c, 3))) (by decide) in_Jx4a65c wd_122 (m_dk dk_Jx4a65c_size_8abf5 1 rfl) rfl) <|
  m_cn (pc := 4) (ok_ireturn (nx := 0) rfl (m_dk dk_Jx4a65c_size_8abf5 2 rfl)) <|
  m_nl
theorem mk_Jx4a65c_size_8abf5 {GP : m_G → Prop} {cds : Nat → Nat → m_Op} (h : cds 66 = m_lk cd_Jx4a65c_size_8abf5) : m_MOK GP m_my cds 66 := ⟨RJx4a65c, false, [], by decide +kernel, rfl, (fun h9 => by first | rfl | cases h9), Or.inl ⟨rfl, rfl⟩, fun pc => by rw [h]; exact m_lk_ok _ ok_Jx4a65c_size_8abf5 pc⟩
def dl_Jx4a65c_elementData_915e3 : List (Nat × Instr × Nat) := [(0, .aload_n 0, 1), (1, .getfield 9, 3), (4, .iload_n 1, 1), (5, .aaload, 1), (6, .areturn, 1)]
theorem dk_Jx4a65c_elementData_915e3 : ∀ q ∈ dl_Jx4a65c_elementData_915e3, decode cJx4a65c_elementData_915e3 q.1 = .ok q.2 := by decide +kernel
def cd_Jx4a65c_elementData_915e3 : List (Nat × m_Op) := [(0, o_aload 0 1), (1, o_getf 0 1 4), (4, o_iload 1 5), (5, o_aald 8 6), (6, o_areturn)]
set_option maxRecDepth 20000 in
set_option maxHeartbeats 4000000 in
theorem ok_Jx4a65c_elementData_915e3 {GP : m_G → Prop} : ∀ q ∈ cd_Jx4a65c_elementData_915e3, m_OK GP m_my (cJx4a65c_elementData_915e3, 2, RJx4a65c, false, (some (.object "java/lang/Object")), []) q.1 q.2 :=
  m_cn (pc := 0) (ok_aload_n (m_dk dk_Jx4a65c_elementData_915e3 0 rfl) rfl rfl) <|
  m_cn (pc := 1) (ok_getf (k := 1) (hc0 := (rfl : vwCl[0]? = some (RJx4a65c, TJx4a65c, 3))) (by decide) in_Jx4a65c wd_121 (m_dk dk_Jx4a65c_elementData_915e3 1 rfl) rfl) <|
  m_cn (pc := 4) (ok_iload_n (m_dk dk_Jx4a65c_elementData_915e3 2 rfl) rfl rfl) <|
  m_cn (pc := 5) (ok_aald (C := "java/lang/Object") (fun _ => rfl) (m_dk dk_Jx4a65c_elementData_915e3 3 rfl) rfl) <|
  m_cn (pc := 6) (ok_areturn (nx := 0) (Or.inl ⟨_, rfl⟩) (m_dk dk_Jx4a65c_elementData_915e3 4 rfl)) <|
  m_nl
theorem mk_Jx4a65c_elementData_915e3 {GP : m_G → Prop} {cds : Nat → Nat → m_Op} (h : cds 67 = m_lk cd_Jx4a65c_elementData_915e3) : m_MOK GP m_my cds 67 := ⟨RJx4a65c, false, [], by decide +kernel, rfl, (fun h9 => by first | rfl | cases h9), Or.inl ⟨rfl, rfl⟩, fun pc => by rw [h]; exact m_lk_ok _ ok_Jx4a65c_elementData_915e3 pc⟩
def dl_Jx4a65c_get_915e3 : List (Nat × Instr × Nat) := [(0, .iload_n 1, 1), (1, .aload_n 0, 1), (2, .getfield 48, 3), (5, .invokestatic 118, 3), (8, .pop, 1), (9, .aload_n 0, 1), (10, .iload_n 1, 1), (11, .invokevirtual 123, 3), (14, .areturn, 1)]
theorem dk_Jx4a65c_get_915e3 : ∀ q ∈ dl_Jx4a65c_get_915e3, decode cJx4a65c_get_915e3 q.1 = .ok q.2 := by decide +kernel
def cd_Jx4a65c_get_915e3 : List (Nat × m_Op) := [(0, o_iload 1 1), (1, o_aload 0 2), (2, o_getf 0 2 5), (5, o_call 73 2 0 0 8), (8, o_pop 9), (9, o_aload 0 10), (10, o_iload 1 11), (11, o_callv 0 67 2 0 0 14), (14, o_areturn)]
set_option maxRecDepth 20000 in
set_option maxHeartbeats 4000000 in
theorem ok_Jx4a65c_get_915e3 {GP : m_G → Prop} : ∀ q ∈ cd_Jx4a65c_get_915e3, m_OK GP m_my (cJx4a65c_get_915e3, 2, RJx4a65c, false, (some (.object "java/lang/Object")), []) q.1 q.2 :=
  m_cn (pc := 0) (ok_iload_n (m_dk dk_Jx4a65c_get_915e3 0 rfl) rfl rfl) <|
  m_cn (pc := 1) (ok_aload_n (m_dk dk_Jx4a65c_get_915e3 1 rfl) rfl rfl) <|
  m_cn (pc := 2) (ok_getf (k := 2) (hc0 := (rfl : vwCl[0]? = some (RJx4a65c, TJx4a65c, 3))) (by decide) in_Jx4a65c wd_122 (m_dk dk_Jx4a65c_get_915e3 2 rfl) rfl) <|
  m_cn (pc := 5) (ok_calls (T := mt_J15_checkIndex_7cf53) my_J15_checkIndex_7cf53 rfl cw_J15_checkIndex_7cf53 rfl rfl (by decide) wd_795 wd_796 wd_21 (by decide +kernel) (m_dk dk_Jx4a65c_get_915e3 3 rfl) rfl) <|
  m_cn (pc := 8) (ok_pop (m_dk dk_Jx4a65c_get_915e3 4 rfl) rfl) <|
  m_cn (pc := 9) (ok_aload_n (m_dk dk_Jx4a65c_get_915e3 5 rfl) rfl rfl) <|
  m_cn (pc := 10) (ok_iload_n (m_dk dk_Jx4a65c_get_915e3 6 rfl) rfl rfl) <|
  m_cn (pc := 11) (ok_callv (T := mt_Jx4a65c_elementData_915e3) my_Jx4a65c_elementData_915e3 rfl cw_Jx4a65c_elementData_915e3 rfl rfl (by decide) (r9 := (RJx4a65c, TJx4a65c, 3)) rfl rfl wd_801 wd_802 wd_803 wd_5 (by decide +kernel) (m_dk dk_Jx4a65c_get_915e3 7 rfl) rfl) <|
  m_cn (pc := 14) (ok_areturn (nx := 0) (Or.inl ⟨_, rfl⟩) (m_dk dk_Jx4a65c_get_915e3 8 rfl)) <|
  m_nl
theorem mk_Jx4a65c_get_915e3 {GP : m_G → Prop} {cds : Nat → Nat → m_Op} (h : cds 68 = m_lk cd_Jx4a65c_get_915e3) : m_MOK GP m_my cds 68 := ⟨RJx4a65c, false, [], by decide +kernel, rfl, (fun h9 => by first | rfl | cases h9), Or.inl ⟨rfl, rfl⟩, fun pc => by rw [h]; exact m_lk_ok _ ok_Jx4a65c_get_915e3 pc⟩
def dl_Jx4a65c_add_72be8 : List (Nat × Instr × Nat) := [(0, .iload_n 3, 1), (1, .aload_n 2, 1), (2, .arraylength, 1), (3, .if_icmp .ne 8, 3), (6, .aload_n 0, 1), (7, .invokevirtual 129, 3), (10, .astore_n 2, 1), (11, .aload_n 2, 1), (12, .iload_n 3, 1), (13, .aload_n 1, 1), (14, .aastore, 1), (15, .aload_n 0, 1), (16, .iload_n 3, 1), (17, .iconst 1, 1), (18, .iadd, 1), (19, .putfield 48, 3), (22, .return_, 1)]
theorem dk_Jx4a65c_add_72be8 : ∀ q ∈ dl_Jx4a65c_add_72be8, decode cJx4a65c_add_72be8 q.1 = .ok q.2 := by decide +kernel
def cd_Jx4a65c_add_72be8 : List (Nat × m_Op) := [(0, o_iload 3 1), (1, o_aload 2 2), (2, o_alenO 3), (3, o_icmpne 11 6), (6, o_aload 0 7), (7, o_callv 0 65 1 1 800 10), (10, o_astore 2 11), (11, o_aload 2 12), (12, o_iload 3 13), (13, o_aload 1 14), (14, o_aastO 5 15), (15, o_aload 0 16), (16, o_iload 3 17), (17, o_const (1) 18), (18, o_bin (fun x y => x + y) 19), (19, o_puti 0 2 22), (22, o_return)]
set_option maxRecDepth 20000 in
set_option maxHeartbeats 4000000 in
theorem ok_Jx4a65c_add_72be8 {GP : m_G → Prop} : ∀ q ∈ cd_Jx4a65c_add_72be8, m_OK GP m_my (cJx4a65c_add_72be8, 4, RJx4a65c, false, none, []) q.1 q.2 :=
  m_cn (pc := 0) (ok_iload_n (m_dk dk_Jx4a65c_add_72be8 0 rfl) rfl rfl) <|
  m_cn (pc := 1) (ok_aload_n (m_dk dk_Jx4a65c_add_72be8 1 rfl) rfl rfl) <|
  m_cn (pc := 2) (ok_alenO (m_dk dk_Jx4a65c_add_72be8 2 rfl) rfl) <|
  m_cn (pc := 3) (ok_icmpne (m_dk dk_Jx4a65c_add_72be8 3 rfl) rfl rfl) <|
  m_cn (pc := 6) (ok_aload_n (m_dk dk_Jx4a65c_add_72be8 4 rfl) rfl rfl) <|
  m_cn (pc := 7) (ok_callv (T := mt_Jx4a65c_grow_d5877) my_Jx4a65c_grow_d5877 rfl cw_Jx4a65c_grow_d5877 rfl rfl (by decide) (r9 := (RJx4a65c, TJx4a65c, 3)) rfl rfl wd_631 wd_633 (m_wk 16 (by decide +kernel) (by decide +kernel)) wd_5 (by decide +kernel) (m_dk dk_Jx4a65c_add_72be8 5 rfl) rfl) <|
  m_cn (pc := 10) (ok_astore_n (m_dk dk_Jx4a65c_add_72be8 6 rfl) rfl rfl (by decide)) <|
  m_cn (pc := 11) (ok_aload_n (m_dk dk_Jx4a65c_add_72be8 7 rfl) rfl rfl) <|
  m_cn (pc := 12) (ok_iload_n (m_dk dk_Jx4a65c_add_72be8 8 rfl) rfl rfl) <|
  m_cn (pc := 13) (ok_aload_n (m_dk dk_Jx4a65c_add_72be8 9 rfl) rfl rfl) <|
  m_cn (pc := 14) (ok_aastO (r9 := (RX4, TX4, 5)) rfl (m_wc 845 (by decide +kernel) rfl) (m_dk dk_Jx4a65c_add_72be8 10 rfl) rfl) <|
  m_cn (pc := 15) (ok_aload_n (m_dk dk_Jx4a65c_add_72be8 11 rfl) rfl rfl) <|
  m_cn (pc := 16) (ok_iload_n (m_dk dk_Jx4a65c_add_72be8 12 rfl) rfl rfl) <|
  m_cn (pc := 17) (ok_iconst (m_dk dk_Jx4a65c_add_72be8 13 rfl) (by decide) rfl) <|
  m_cn (pc := 18) (ok_iadd (m_dk dk_Jx4a65c_add_72be8 14 rfl) rfl) <|
  m_cn (pc := 19) (ok_puti (k := 2) (hc0 := (rfl : vwCl[0]? = some (RJx4a65c, TJx4a65c, 3))) (by decide) in_Jx4a65c wd_122 tyJx4a65c tyJx4a65c_ok nmJx4a65c rfl (tyJx4a65c_ok 2 (by decide)) (m_dk dk_Jx4a65c_add_72be8 15 rfl) rfl) <|
  m_cn (pc := 22) (ok_return (nx := 0) rfl (m_dk dk_Jx4a65c_add_72be8 16 rfl)) <|
  m_nl
theorem mk_Jx4a65c_add_72be8 {GP : m_G → Prop} {cds : Nat → Nat → m_Op} (h : cds 69 = m_lk cd_Jx4a65c_add_72be8) : m_MOK GP m_my cds 69 := ⟨RJx4a65c, false, [], by decide +kernel, rfl, (fun h9 => by first | rfl | cases h9), Or.inl ⟨rfl, rfl⟩, fun pc => by rw [h]; exact m_lk_ok _ ok_Jx4a65c_add_72be8 pc⟩
def dl_Jx4a65c_add_9ea2d : List (Nat × Instr × Nat) := [(0, .aload_n 0, 1), (1, .dup, 1), (2, .getfield 63, 3), (5, .iconst 1, 1), (6, .iadd, 1), (7, .putfield 63, 3), (10, .aload_n 0, 1), (11, .aload_n 1, 1), (12, .aload_n 0, 1), (13, .getfield 9, 3), (16, .aload_n 0, 1), (17, .getfield 48, 3), (20, .invokevirtual 131, 3), (23, .iconst 1, 1), (24, .ireturn, 1)]
theorem dk_Jx4a65c_add_9ea2d : ∀ q ∈ dl_Jx4a65c_add_9ea2d, decode cJx4a65c_add_9ea2d q.1 = .ok q.2 := by decide +kernel
def cd_Jx4a65c_add_9ea2d : List (Nat × m_Op) := [(0, o_aload 0 1), (1, o_dup 2), (2, o_getf 0 0 5), (5, o_const (1) 6), (6, o_bin (fun x y => x + y) 7), (7, o_puti 0 0 10), (10, o_aload 0 11), (11, o_aload 1 12), (12, o_aload 0 13), (13, o_getf 0 1 16), (16, o_aload 0 17), (17, o_getf 0 2 20), (20, o_callv 0 69 4 1 800 23), (23, o_const (1) 24), (24, o_zreturn)]
set_option maxRecDepth 20000 in
set_option maxHeartbeats 4000000 in
theorem ok_Jx4a65c_add_9ea2d {GP : m_G → Prop} : ∀ q ∈ cd_Jx4a65c_add_9ea2d, m_OK GP m_my (cJx4a65c_add_9ea2d, 2, RJx4a65c, false, (some .boolean), []) q.1 q.2 :=
  m_cn (pc := 0) (ok_aload_n (m_dk dk_Jx4a65c_add_9ea2d 0 rfl) rfl rfl) <|
  m_cn (pc := 1) (ok_dup (m_dk dk_Jx4a65c_add_9ea2d 1 rfl) rfl) <|
  m_cn (pc := 2) (ok_getfU (k := 0) (hc0 := (rfl : vwCl[0]? = some (RJx4a65c, TJx4a65c, 3))) (by decide) in_Jx4a65c wd_125 wd_124 (m_dk dk_Jx4a65c_add_9ea2d 2 rfl) rfl) <|
  m_cn (pc := 5) (ok_iconst (m_dk dk_Jx4a65c_add_9ea2d 3 rfl) (by decide) rfl) <|
  m_cn (pc := 6) (ok_iadd (m_dk dk_Jx4a65c_add_9ea2d 4 rfl) rfl) <|
  m_cn (pc := 7) (ok_putiU (k := 0) (hc0 := (rfl : vwCl[0]? = some (RJx4a65c, TJx4a65c, 3))) (by decide) in_Jx4a65c wd_125 wd_124 tyJx4a65c tyJx4a65c_ok nmJx4a65c rfl (tyJx4a65c_ok 0 (by decide)) (m_dk dk_Jx4a65c_add_9ea2d 5 rfl) rfl) <|
  m_cn (pc := 10) (ok_aload_n (m_dk dk_Jx4a65c_add_9ea2d 6 rfl) rfl rfl) <|
  m_cn (pc := 11) (ok_aload_n (m_dk dk_Jx4a65c_add_9ea2d 7 rfl) rfl rfl) <|
  m_cn (pc := 12) (ok_aload_n (m_dk dk_Jx4a65c_add_9ea2d 8 rfl) rfl rfl) <|
  m_cn (pc := 13) (ok_getf (k := 1) (hc0 := (rfl : vwCl[0]? = some (RJx4a65c, TJx4a65c, 3))) (by decide) in_Jx4a65c wd_121 (m_dk dk_Jx4a65c_add_9ea2d 9 rfl) rfl) <|
  m_cn (pc := 16) (ok_aload_n (m_dk dk_Jx4a65c_add_9ea2d 10 rfl) rfl rfl) <|
  m_cn (pc := 17) (ok_getf (k := 2) (hc0 := (rfl : vwCl[0]? = some (RJx4a65c, TJx4a65c, 3))) (by decide) in_Jx4a65c wd_122 (m_dk dk_Jx4a65c_add_9ea2d 11 rfl) rfl) <|
  m_cn (pc := 20) (ok_callv (T := mt_Jx4a65c_add_72be8) my_Jx4a65c_add_72be8 rfl cw_Jx4a65c_add_72be8 rfl rfl (by decide) (r9 := (RJx4a65c, TJx4a65c, 3)) rfl rfl wd_627 wd_629 (m_wk 15 (by decide +kernel) (by decide +kernel)) wd_5 (by decide +kernel) (m_dk dk_Jx4a65c_add_9ea2d 12 rfl) rfl) <|
  m_cn (pc := 23) (ok_iconst (m_dk dk_Jx4a65c_add_9ea2d 13 rfl) (by decide) rfl) <|
  m_cn (pc := 24) (ok_zreturn (nx := 0) rfl (m_dk dk_Jx4a65c_add_9ea2d 14 rfl)) <|
  m_nl
theorem mk_Jx4a65c_add_9ea2d {GP : m_G → Prop} {cds : Nat → Nat → m_Op} (h : cds 70 = m_lk cd_Jx4a65c_add_9ea2d) : m_MOK GP m_my cds 70 := ⟨RJx4a65c, false, [], by decide +kernel, rfl, (fun h9 => by first | rfl | cases h9), Or.inl ⟨rfl, rfl⟩, fun pc => by rw [h]; exact m_lk_ok _ ok_Jx4a65c_add_9ea2d pc⟩
def dl_J7_copyOf_1904c : List (Nat × Instr × Nat) := [(0, .aload_n 0, 1), (1, .iload_n 1, 1), (2, .aload_n 0, 1), (3, .invokevirtual 86, 3), (6, .invokestatic 300, 3), (9, .areturn, 1)]
theorem dk_J7_copyOf_1904c : ∀ q ∈ dl_J7_copyOf_1904c, decode cJ7_copyOf_1904c q.1 = .ok q.2 := by decide +kernel
def cd_J7_copyOf_1904c : List (Nat × m_Op) := [(0, o_aload 0 1), (1, o_iload 1 2), (2, o_aload 0 3), (3, o_getC 6), (6, o_call 72 3 1 800 9), (9, o_areturn)]
set_option maxRecDepth 20000 in
set_option maxHeartbeats 4000000 in
theorem ok_J7_copyOf_1904c {GP : m_G → Prop} : ∀ q ∈ cd_J7_copyOf_1904c, m_OK GP m_my (cJ7_copyOf_1904c, 2, RJ7, false, (some (.array (.object "java/lang/Object"))), []) q.1 q.2 :=
  m_cn (pc := 0) (ok_aload_n (m_dk dk_J7_copyOf_1904c 0 rfl) rfl rfl) <|
  m_cn (pc := 1) (ok_iload_n (m_dk dk_J7_copyOf_1904c 1 rfl) rfl rfl) <|
  m_cn (pc := 2) (ok_aload_n (m_dk dk_J7_copyOf_1904c 2 rfl) rfl rfl) <|
  m_cn (pc := 3) (ok_getC wd_650 (m_wc 850 (by decide +kernel) rfl) wd_828 wd_651 wd_664 (m_dk dk_J7_copyOf_1904c 3 rfl) rfl) <|
  m_cn (pc := 6) (ok_calls (T := mt_J7_copyOf_6403c) my_J7_copyOf_6403c rfl cw_J7_copyOf_6403c rfl rfl (by decide) wd_665 wd_666 wd_19 (by decide +kernel) (m_dk dk_J7_copyOf_1904c 4 rfl) rfl) <|
  m_cn (pc := 9) (ok_areturn (nx := 0) (Or.inr ⟨_, rfl⟩) (m_dk dk_J7_copyOf_1904c 5 rfl)) <|
  m_nl
theorem mk_J7_copyOf_1904c {GP : m_G → Prop} {cds : Nat → Nat → m_Op} (h : cds 71 = m_lk cd_J7_copyOf_1904c) : m_MOK GP m_my cds 71 := ⟨RJ7, false, [], by decide +kernel, rfl, (fun h9 => by first | rfl | cases h9), Or.inl ⟨rfl, rfl⟩, fun pc => by rw [h]; exact m_lk_ok _ ok_J7_copyOf_1904c pc⟩
def dl_J7_copyOf_6403c : List (Nat × Instr × Nat) := [(0, .aload_n 2, 1), (1, .ldc 110, 2), (3, .if_acmp .ne 10, 3), (6, .iload_n 1, 1), (7, .anewarray 2, 3), (10, .goto 14, 3), (13, .aload_n 2, 1), (14, .invokevirtual 90, 3), (17, .iload_n 1, 1), (18, .invokestatic 95, 3), (21, .checkcast 110, 3), (24, .astore_n 3, 1), (25, .aload_n 0, 1), (26, .iconst 0, 1), (27, .aload_n 3, 1), (28, .iconst 0, 1), (29, .aload_n 0, 1), (30, .arraylength, 1), (31, .iload_n 1, 1), (32, .invokestatic 304, 3), (35, .invokestatic 150, 3), (38, .aload_n 3, 1), (39, .areturn, 1)]
theorem dk_J7_copyOf_6403c : ∀ q ∈ dl_J7_copyOf_6403c, decode cJ7_copyOf_6403c q.1 = .ok q.2 := by decide +kernel
def cd_J7_copyOf_6403c : List (Nat × m_Op) := [(0, o_aload 2 1), (1, o_ldcM 3), (3, o_acmpne 13 6), (6, o_iload 1 7), (7, o_newqd 8 10), (10, o_goto 24), (13, o_aload 2 14), (17, o_iload 1 18), (24, o_astore 3 25), (25, o_aload 0 26), (26, o_const (0) 27), (27, o_aload 3 28), (28, o_const (0) 29), (29, o_aload 0 30), (30, o_alenO 31), (31, o_iload 1 32), (32, o_mbin (fun x y => if y < x then y else x) 35), (35, o_copyq 5 38), (38, o_aload 3 39), (39, o_areturn)]
set_option maxRecDepth 20000 in
set_option maxHeartbeats 4000000 in
theorem ok_J7_copyOf_6403c {GP : m_G → Prop} : ∀ q ∈ cd_J7_copyOf_6403c, m_OK GP m_my (cJ7_copyOf_6403c, 4, RJ7, false, (some (.array (.object "java/lang/Object"))), []) q.1 q.2 :=
  m_cn (pc := 0) (ok_aload_n (m_dk dk_J7_copyOf_6403c 0 rfl) rfl rfl) <|
  m_cn (pc := 1) (ok_ldcM wd_668 (m_dk dk_J7_copyOf_6403c 1 rfl) rfl) <|
  m_cn (pc := 3) (ok_acmpne (m_dk dk_J7_copyOf_6403c 2 rfl) rfl rfl) <|
  m_cn (pc := 6) (ok_iload_n (m_dk dk_J7_copyOf_6403c 3 rfl) rfl rfl) <|
  m_cn (pc := 7) (ok_newqd (C := "java/lang/Object") (fun _ => rfl) (by decide) wd_670 (m_dk dk_J7_copyOf_6403c 4 rfl) rfl) <|
  m_cn (pc := 10) (ok_goto (nx := 0) (m_dk dk_J7_copyOf_6403c 5 rfl) rfl) <|
  m_cn (pc := 13) (ok_aload_n (m_dk dk_J7_copyOf_6403c 6 rfl) rfl rfl) <|
  m_cn (pc := 17) (ok_iload_n (m_dk dk_J7_copyOf_6403c 8 rfl) rfl rfl) <|
  m_cn (pc := 24) (ok_astore_n (m_dk dk_J7_copyOf_6403c 11 rfl) rfl rfl (by decide)) <|
  m_cn (pc := 25) (ok_aload_n (m_dk dk_J7_copyOf_6403c 12 rfl) rfl rfl) <|
  m_cn (pc := 26) (ok_iconst (m_dk dk_J7_copyOf_6403c 13 rfl) (by decide) rfl) <|
  m_cn (pc := 27) (ok_aload_n (m_dk dk_J7_copyOf_6403c 14 rfl) rfl rfl) <|
  m_cn (pc := 28) (ok_iconst (m_dk dk_J7_copyOf_6403c 15 rfl) (by decide) rfl) <|
  m_cn (pc := 29) (ok_aload_n (m_dk dk_J7_copyOf_6403c 16 rfl) rfl rfl) <|
  m_cn (pc := 30) (ok_alenO (m_dk dk_J7_copyOf_6403c 17 rfl) rfl) <|
  m_cn (pc := 31) (ok_iload_n (m_dk dk_J7_copyOf_6403c 18 rfl) rfl rfl) <|
  m_cn (pc := 32) (ok_mmin wd_671 wd_331 wd_12 wd_math_min (m_dk dk_J7_copyOf_6403c 19 rfl) rfl) <|
  m_cn (pc := 35) (ok_copyq (r9 := (RX4, TX4, 5)) rfl (m_wc 845 (by decide +kernel) rfl) wd_672 wd_299 wd_298 wd_11 (m_dk dk_J7_copyOf_6403c 20 rfl) rfl) <|
  m_cn (pc := 38) (ok_aload_n (m_dk dk_J7_copyOf_6403c 21 rfl) rfl rfl) <|
  m_cn (pc := 39) (ok_areturn (nx := 0) (Or.inr ⟨_, rfl⟩) (m_dk dk_J7_copyOf_6403c 22 rfl)) <|
  m_nl
theorem mk_J7_copyOf_6403c {GP : m_G → Prop} {cds : Nat → Nat → m_Op} (h : cds 72 = m_lk cd_J7_copyOf_6403c) : m_MOK GP m_my cds 72 := ⟨RJ7, false, [], by decide +kernel, rfl, (fun h9 => by first | rfl | cases h9), Or.inl ⟨rfl, rfl⟩, fun pc => by rw [h]; exact m_lk_ok _ ok_J7_copyOf_6403c pc⟩
def dl_J15_checkIndex_7cf53 : List (Nat × Instr × Nat) := [(0, .iload_n 0, 1), (1, .iload_n 1, 1), (2, .aconst_null, 1), (3, .invokestatic 105, 3), (6, .ireturn, 1)]
theorem dk_J15_checkIndex_7cf53 : ∀ q ∈ dl_J15_checkIndex_7cf53, decode cJ15_checkIndex_7cf53 q.1 = .ok q.2 := by decide +kernel
def cd_J15_checkIndex_7cf53 : List (Nat × m_Op) := [(0, o_iload 0 1), (1, o_iload 1 2), (2, o_null 3), (3, o_call 75 3 0 0 6), (6, o_ireturn)]
set_option maxRecDepth 20000 in
set_option maxHeartbeats 4000000 in
theorem ok_J15_checkIndex_7cf53 {GP : m_G → Prop} : ∀ q ∈ cd_J15_checkIndex_7cf53, m_OK GP m_my (cJ15_checkIndex_7cf53, 2, RJ15, false, (some .int), []) q.1 q.2 :=
  m_cn (pc := 0) (ok_iload_n (m_dk dk_J15_checkIndex_7cf53 0 rfl) rfl rfl) <|
  m_cn (pc := 1) (ok_iload_n (m_dk dk_J15_checkIndex_7cf53 1 rfl) rfl rfl) <|
  m_cn (pc := 2) (ok_null (m_dk dk_J15_checkIndex_7cf53 2 rfl) rfl) <|
  m_cn (pc := 3) (ok_calls (T := mt_J3_checkIndex_8e157) my_J3_checkIndex_8e157 rfl cw_J3_checkIndex_8e157 rfl rfl (by decide) wd_798 wd_799 wd_22 (by decide +kernel) (m_dk dk_J15_checkIndex_7cf53 3 rfl) rfl) <|
  m_cn (pc := 6) (ok_ireturn (nx := 0) rfl (m_dk dk_J15_checkIndex_7cf53 4 rfl)) <|
  m_nl
theorem mk_J15_checkIndex_7cf53 {GP : m_G → Prop} {cds : Nat → Nat → m_Op} (h : cds 73 = m_lk cd_J15_checkIndex_7cf53) : m_MOK GP m_my cds 73 := ⟨RJ15, false, [], by decide +kernel, rfl, (fun h9 => by first | rfl | cases h9), Or.inl ⟨rfl, rfl⟩, fun pc => by rw [h]; exact m_lk_ok _ ok_J15_checkIndex_7cf53 pc⟩
def dl_J8_newLength_cabcc : List (Nat × Instr × Nat) := [(0, .iload_n 0, 1), (1, .iload_n 1, 1), (2, .iload_n 2, 1), (3, .invokestatic 194, 3), (6, .iadd, 1), (7, .istore_n 3, 1), (8, .iconst 0, 1), (9, .iload_n 3, 1), (10, .if_icmp .ge 11, 3), (13, .iload_n 3, 1), (14, .ldc 200, 2), (16, .if_icmp .gt 5, 3), (19, .iload_n 3, 1), (20, .ireturn, 1), (21, .iload_n 0, 1), (22, .iload_n 1, 1), (23, .invokestatic 201, 3), (26, .ireturn, 1)]
theorem dk_J8_newLength_cabcc : ∀ q ∈ dl_J8_newLength_cabcc, decode cJ8_newLength_cabcc q.1 = .ok q.2 := by decide +kernel
def cd_J8_newLength_cabcc : List (Nat × m_Op) := [(0, o_iload 0 1), (1, o_iload 1 2), (2, o_iload 2 3), (3, o_mbin (fun x y => if x < y then y else x) 6), (6, o_bin (fun x y => x + y) 7), (7, o_istore 3 8), (8, o_const (0) 9), (9, o_iload 3 10), (10, o_icmpge 21 13), (13, o_iload 3 14), (14, o_const (2147483639) 16), (16, o_icmpgt 21 19), (19, o_iload 3 20), (20, o_ireturn), (21, o_iload 0 22), (22, o_iload 1 23), (26, o_ireturn)]
set_option maxRecDepth 20000 in
set_option maxHeartbeats 4000000 in
theorem ok_J8_newLength_cabcc {GP : m_G → Prop} : ∀ q ∈ cd_J8_newLength_cabcc, m_OK GP m_my (cJ8_newLength_cabcc, 4, RJ8, false, (some .int), []) q.1 q.2 :=
  m_cn (pc := 0) (ok_iload_n (m_dk dk_J8_newLength_cabcc 0 rfl) rfl rfl) <|
  m_cn (pc := 1) (ok_iload_n (m_dk dk_J8_newLength_cabcc 1 rfl) rfl rfl) <|
  m_cn (pc := 2) (ok_iload_n (m_dk dk_J8_newLength_cabcc 2 rfl) rfl rfl) <|
  m_cn (pc := 3) (ok_mmax wd_642 wd_309 wd_12 wd_math_max (m_dk dk_J8_newLength_cabcc 3 rfl) rfl) <|
  m_cn (pc := 6) (ok_iadd (m_dk dk_J8_newLength_cabcc 4 rfl) rfl) <|
  m_cn (pc := 7) (ok_istore_n (m_dk dk_J8_newLength_cabcc 5 rfl) rfl rfl (by decide)) <|
  m_cn (pc := 8) (ok_iconst (m_dk dk_J8_newLength_cabcc 6 rfl) (by decide) rfl) <|
  m_cn (pc := 9) (ok_iload_n (m_dk dk_J8_newLength_cabcc 7 rfl) rfl rfl) <|
  m_cn (pc := 10) (ok_icmpge (m_dk dk_J8_newLength_cabcc 8 rfl) rfl rfl) <|
  m_cn (pc := 13) (ok_iload_n (m_dk dk_J8_newLength_cabcc 9 rfl) rfl rfl) <|
  m_cn (pc := 14) (ok_ldc (m_dk dk_J8_newLength_cabcc 10 rfl) wd_643 rfl) <|
  m_cn (pc := 16) (ok_icmpgt (m_dk dk_J8_newLength_cabcc 11 rfl) rfl rfl) <|
  m_cn (pc := 19) (ok_iload_n (m_dk dk_J8_newLength_cabcc 12 rfl) rfl rfl) <|
  m_cn (pc := 20) (ok_ireturn (nx := 0) rfl (m_dk dk_J8_newLength_cabcc 13 rfl)) <|
  m_cn (pc := 21) (ok_iload_n (m_dk dk_J8_newLength_cabcc 14 rfl) rfl rfl) <|
  m_cn (pc := 22) (ok_iload_n (m_dk dk_J8_newLength_cabcc 15 rfl) rfl rfl) <|
  m_cn (pc := 26) (ok_ireturn (nx := 0) rfl (m_dk dk_J8_newLength_cabcc 17 rfl)) <|
  m_nl
theorem mk_J8_newLength_cabcc {GP : m_G → Prop} {cds : Nat → Nat → m_Op} (h : cds 74 = m_lk cd_J8_newLength_cabcc) : m_MOK GP m_my cds 74 := ⟨RJ8, false, [], by decide +kernel, rfl, (fun h9 => by first | rfl | cases h9), Or.inl ⟨rfl, rfl⟩, fun pc => by rw [h]; exact m_lk_ok _ ok_J8_newLength_cabcc pc⟩
def dl_J3_checkIndex_8e157 : List (Nat × Instr × Nat) := [(0, .iload_n 0, 1), (1, .ifCond .lt 8, 3), (4, .iload_n 0, 1), (5, .iload_n 1, 1), (6, .if_icmp .lt 10, 3), (9, .aload_n 2, 1), (10, .iload_n 0, 1), (11, .iload_n 1, 1), (12, .invokestatic 95, 3), (15, .athrow, 1), (16, .iload_n 0, 1), (17, .ireturn, 1)]
theorem dk_J3_checkIndex_8e157 : ∀ q ∈ dl_J3_checkIndex_8e157, decode cJ3_checkIndex_8e157 q.1 = .ok q.2 := by decide +kernel
def cd_J3_checkIndex_8e157 : List (Nat × m_Op) := [(0, o_iload 0 1), (1, o_iflt 9 4), (4, o_iload 0 5), (5, o_iload 1 6), (6, o_icmplt 16 9), (9, o_aload 2 10), (10, o_iload 0 11), (11, o_iload 1 12), (16, o_iload 0 17), (17, o_ireturn)]
set_option maxRecDepth 20000 in
set_option maxHeartbeats 4000000 in
theorem ok_J3_checkIndex_8e157 {GP : m_G → Prop} : ∀ q ∈ cd_J3_checkIndex_8e157, m_OK GP m_my (cJ3_checkIndex_8e157, 3, RJ3, false, (some .int), []) q.1 q.2 :=
  m_cn (pc := 0) (ok_iload_n (m_dk dk_J3_checkIndex_8e157 0 rfl) rfl rfl) <|
  m_cn (pc := 1) (ok_iflt (m_dk dk_J3_checkIndex_8e157 1 rfl) rfl rfl) <|
  m_cn (pc := 4) (ok_iload_n (m_dk dk_J3_checkIndex_8e157 2 rfl) rfl rfl) <|
  m_cn (pc := 5) (ok_iload_n (m_dk dk_J3_checkIndex_8e157 3 rfl) rfl rfl) <|
  m_cn (pc := 6) (ok_icmplt (m_dk dk_J3_checkIndex_8e157 4 rfl) rfl rfl) <|
  m_cn (pc := 9) (ok_aload_n (m_dk dk_J3_checkIndex_8e157 5 rfl) rfl rfl) <|
  m_cn (pc := 10) (ok_iload_n (m_dk dk_J3_checkIndex_8e157 6 rfl) rfl rfl) <|
  m_cn (pc := 11) (ok_iload_n (m_dk dk_J3_checkIndex_8e157 7 rfl) rfl rfl) <|
  m_cn (pc := 16) (ok_iload_n (m_dk dk_J3_checkIndex_8e157 10 rfl) rfl rfl) <|
  m_cn (pc := 17) (ok_ireturn (nx := 0) rfl (m_dk dk_J3_checkIndex_8e157 11 rfl)) <|
  m_nl
theorem mk_J3_checkIndex_8e157 {GP : m_G → Prop} {cds : Nat → Nat → m_Op} (h : cds 75 = m_lk cd_J3_checkIndex_8e157) : m_MOK GP m_my cds 75 := ⟨RJ3, false, [], by decide +kernel, rfl, (fun h9 => by first | rfl | cases h9), Or.inl ⟨rfl, rfl⟩, fun pc => by rw [h]; exact m_lk_ok _ ok_J3_checkIndex_8e157 pc⟩
def dl_L_at : List (Nat × Instr × Nat) := [(0, .iload_n 1, 1), (1, .aload_n 0, 1), (2, .arraylength, 1), (3, .if_icmp .ge 9, 3), (6, .aload_n 0, 1), (7, .iload_n 1, 1), (8, .iaload, 1), (9, .goto 12, 3), (12, .ldc 7, 2), (14, .iload_n 1, 1), (15, .iconst 1, 1), (16, .iadd, 1), (17, .imul, 1), (18, .ldc 8, 2), (20, .iadd, 1), (21, .ireturn, 1)]
theorem dk_L_at : ∀ q ∈ dl_L_at, decode cL_at q.1 = .ok q.2 := by decide +kernel
def cd_L_at : List (Nat × m_Op) := []
set_option maxRecDepth 20000 in
set_option maxHeartbeats 4000000 in
theorem ok_L_at {GP : m_G → Prop} : ∀ q ∈ cd_L_at, m_OK GP m_my (cL_at, 2, RL, false, (some .int), []) q.1 q.2 :=
  m_nl
theorem mk_L_at {GP : m_G → Prop} {cds : Nat → Nat → m_Op} (h : cds 76 = m_lk cd_L_at) : m_MOK GP m_my cds 76 := ⟨RL, false, [], by decide +kernel, rfl, (fun h9 => by first | rfl | cases h9), Or.inl ⟨rfl, rfl⟩, fun pc => by rw [h]; exact m_lk_ok _ ok_L_at pc⟩
def dl_L_low : List (Nat × Instr × Nat) := [(0, .iload_n 0, 1), (1, .ldc 9, 2), (3, .iand, 1), (4, .iload_n 1, 1), (5, .irem, 1), (6, .ireturn, 1)]
theorem dk_L_low : ∀ q ∈ dl_L_low, decode cL_low q.1 = .ok q.2 := by decide +kernel
def cd_L_low : List (Nat × m_Op) := [(0, o_iload 0 1), (1, o_const (2147483647) 3), (3, o_bin (fun x y => x &&& y) 4), (4, o_iload 1 5), (5, o_div (fun x y => x - x / y * y) 6), (6, o_ireturn)]
set_option maxRecDepth 20000 in
set_option maxHeartbeats 4000000 in
theorem ok_L_low {GP : m_G → Prop} : ∀ q ∈ cd_L_low, m_OK GP m_my (cL_low, 2, RL, false, (some .int), []) q.1 q.2 :=
  m_cn (pc := 0) (ok_iload_n (m_dk dk_L_low 0 rfl) rfl rfl) <|
  m_cn (pc := 1) (ok_ldc (m_dk dk_L_low 1 rfl) wd_379 rfl) <|
  m_cn (pc := 3) (ok_iand (m_dk dk_L_low 2 rfl) rfl) <|
  m_cn (pc := 4) (ok_iload_n (m_dk dk_L_low 3 rfl) rfl rfl) <|
  m_cn (pc := 5) (ok_irem (m_dk dk_L_low 4 rfl) rfl) <|
  m_cn (pc := 6) (ok_ireturn (nx := 0) rfl (m_dk dk_L_low 5 rfl)) <|
  m_nl
theorem mk_L_low {GP : m_G → Prop} {cds : Nat → Nat → m_Op} (h : cds 77 = m_lk cd_L_low) : m_MOK GP m_my cds 77 := ⟨RL, false, [], by decide +kernel, rfl, (fun h9 => by first | rfl | cases h9), Or.inl ⟨rfl, rfl⟩, fun pc => by rw [h]; exact m_lk_ok _ ok_L_low pc⟩
def dl_L_cable : List (Nat × Instr × Nat) := [(0, .aload_n 0, 1), (1, .iload_n 1, 1), (2, .iload_n 2, 1), (3, .iload_n 3, 1), (4, .iload 4, 2), (6, .invokevirtual 10, 3), (9, .ireturn, 1), (10, .astore 5, 2), (12, .ldc 18, 2), (14, .ireturn, 1), (15, .astore 5, 2), (17, .ldc 21, 2), (19, .ireturn, 1), (20, .astore 5, 2), (22, .ldc 24, 2), (24, .ireturn, 1)]
theorem dk_L_cable : ∀ q ∈ dl_L_cable, decode cL_cable q.1 = .ok q.2 := by decide +kernel
def cd_L_cable : List (Nat × m_Op) := [(0, o_aload 0 1), (1, o_iload 1 2), (2, o_iload 2 3), (3, o_iload 3 4), (4, o_iload 4 6), (6, o_callh 7 23 5 7 43 9 [(m_ios, 12, 5), (m_ias, 17, 5), (m_iss, 22, 5)]), (9, o_ireturn), (10, o_astore 5 12), (12, o_const (-1000001) 14), (14, o_ireturn), (15, o_astore 5 17), (17, o_const (-1000002) 19), (19, o_ireturn), (20, o_astore 5 22), (22, o_const (-1000003) 24), (24, o_ireturn)]
theorem hx_L_cable : ∀ (E' : String) (tg k : Nat), m_hd E' [(m_ios, 12, 5), (m_ias, 17, 5), (m_iss, 22, 5)] = some (tg, k) → ∃ (pre suf : List ExceptionTableEntry) (x : ExceptionTableEntry) (nm : String), tableOf hh_L_cable = pre ++ x :: suf ∧ (∀ z ∈ pre, z.catchType ≠ 0 ∧ ∃ nm9 : String, Cond.classLink RL z.catchType nm9 ∈ m_WS ∧ (E', nm9) ∈ m_ncs) ∧ covers x 6 = true ∧ x.catchType ≠ 0 ∧ Cond.classLink RL x.catchType nm ∈ m_WS ∧ Cond.castable E' nm ∈ m_CW ∧ k < 6 ∧ ((decode cL_cable x.handlerPc = .ok (.astore k, 2) ∧ x.handlerPc + 2 = tg) ∨ ∃ k4 : Fin 4, (k4 : Nat) = k ∧ decode cL_cable x.handlerPc = .ok (.astore_n k4, 1) ∧ x.handlerPc + 1 = tg) := by
  intro E' tg k h
  simp only [m_hd] at h
  split at h
  · rename_i he
    cases h
    subst he
    exact ⟨tableOf [], tableOf [(0, 9, 15, 19), (0, 9, 20, 22)], ⟨0, 9, 10, 16⟩, m_ios, rfl, (fun _ h => nomatch h), by decide, by decide, wd_386, m_wc 417 (by decide +kernel) rfl, by decide, Or.inl ⟨(m_dk dk_L_cable 7 rfl), rfl⟩⟩
  · skip
    split at h
    · rename_i he
      cases h
      subst he
      exact ⟨tableOf [(0, 9, 10, 16)], tableOf [(0, 9, 20, 22)], ⟨0, 9, 15, 19⟩, m_ias, rfl, List.forall_mem_cons.mpr ⟨⟨by decide, m_ios, wd_386, by decide +kernel⟩, (fun _ h => nomatch h)⟩, by decide, by decide, wd_192, m_wc 224 (by decide +kernel) rfl, by decide, Or.inl ⟨(m_dk dk_L_cable 10 rfl), rfl⟩⟩
    · skip
      split at h
      · rename_i he
        cases h
        subst he
        exact ⟨tableOf [(0, 9, 10, 16), (0, 9, 15, 19)], tableOf [], ⟨0, 9, 20, 22⟩, m_iss, rfl, List.forall_mem_cons.mpr ⟨⟨by decide, m_ios, wd_386, by decide +kernel⟩, List.forall_mem_cons.mpr ⟨⟨by decide, m_ias, wd_192, by decide +kernel⟩, (fun _ h => nomatch h)⟩⟩, by decide, by decide, wd_193, m_wc 292 (by decide +kernel) rfl, by decide, Or.inl ⟨(m_dk dk_L_cable 13 rfl), rfl⟩⟩
      · cases h
set_option maxRecDepth 20000 in
set_option maxHeartbeats 4000000 in
theorem ok_L_cable {GP : m_G → Prop} : ∀ q ∈ cd_L_cable, m_OK GP m_my (cL_cable, 6, RL, false, (some .int), hh_L_cable) q.1 q.2 :=
  m_cn (pc := 0) (ok_aload_n (m_dk dk_L_cable 0 rfl) rfl rfl) <|
  m_cn (pc := 1) (ok_iload_n (m_dk dk_L_cable 1 rfl) rfl rfl) <|
  m_cn (pc := 2) (ok_iload_n (m_dk dk_L_cable 2 rfl) rfl rfl) <|
  m_cn (pc := 3) (ok_iload_n (m_dk dk_L_cable 3 rfl) rfl rfl) <|
  m_cn (pc := 4) (ok_iload (m_dk dk_L_cable 4 rfl) rfl) <|
  m_cn (pc := 6) (ok_callh (T := mt_X6_cable) my_X6_cable rfl cw_X6_cable rfl rfl (by decide) (r9 := (RX6, TX6, 15)) rfl rfl wd_387 wd_388 wd_389 wd_1 (by decide +kernel) (by decide) hx_L_cable (m_dk dk_L_cable 5 rfl) rfl (by decide)) <|
  m_cn (pc := 9) (ok_ireturn (nx := 0) rfl (m_dk dk_L_cable 6 rfl)) <|
  m_cn (pc := 10) (ok_astore (m_dk dk_L_cable 7 rfl) rfl (by decide)) <|
  m_cn (pc := 12) (ok_ldc (m_dk dk_L_cable 8 rfl) wd_465 rfl) <|
  m_cn (pc := 14) (ok_ireturn (nx := 0) rfl (m_dk dk_L_cable 9 rfl)) <|
  m_cn (pc := 15) (ok_astore (m_dk dk_L_cable 10 rfl) rfl (by decide)) <|
  m_cn (pc := 17) (ok_ldc (m_dk dk_L_cable 11 rfl) wd_371 rfl) <|
  m_cn (pc := 19) (ok_ireturn (nx := 0) rfl (m_dk dk_L_cable 12 rfl)) <|
  m_cn (pc := 20) (ok_astore (m_dk dk_L_cable 13 rfl) rfl (by decide)) <|
  m_cn (pc := 22) (ok_ldc (m_dk dk_L_cable 14 rfl) wd_372 rfl) <|
  m_cn (pc := 24) (ok_ireturn (nx := 0) rfl (m_dk dk_L_cable 15 rfl)) <|
  m_nl
theorem mk_L_cable {GP : m_G → Prop} {cds : Nat → Nat → m_Op} (h : cds 78 = m_lk cd_L_cable) : m_MOK GP m_my cds 78 := ⟨RL, false, hh_L_cable, by decide +kernel, rfl, (fun h9 => by first | rfl | cases h9), Or.inr ⟨by decide, rfl⟩, fun pc => by rw [h]; exact m_lk_ok _ ok_L_cable pc⟩
def dl_L_demand : List (Nat × Instr × Nat) := [(0, .aload_n 0, 1), (1, .iload_n 1, 1), (2, .iload_n 2, 1), (3, .iload_n 3, 1), (4, .iload 4, 2), (6, .invokevirtual 25, 3), (9, .ireturn, 1), (10, .astore 5, 2), (12, .ldc 18, 2), (14, .ireturn, 1), (15, .astore 5, 2), (17, .ldc 21, 2), (19, .ireturn, 1), (20, .astore 5, 2), (22, .ldc 24, 2), (24, .ireturn, 1)]
theorem dk_L_demand : ∀ q ∈ dl_L_demand, decode cL_demand q.1 = .ok q.2 := by decide +kernel
def cd_L_demand : List (Nat × m_Op) := [(0, o_aload 0 1), (1, o_iload 1 2), (2, o_iload 2 3), (3, o_iload 3 4), (4, o_iload 4 6), (6, o_callh 7 24 5 7 41 9 [(m_ios, 12, 5), (m_ias, 17, 5), (m_iss, 22, 5)]), (9, o_ireturn), (10, o_astore 5 12), (12, o_const (-1000001) 14), (14, o_ireturn), (15, o_astore 5 17), (17, o_const (-1000002) 19), (19, o_ireturn), (20, o_astore 5 22), (22, o_const (-1000003) 24), (24, o_ireturn)]
theorem hx_L_demand : ∀ (E' : String) (tg k : Nat), m_hd E' [(m_ios, 12, 5), (m_ias, 17, 5), (m_iss, 22, 5)] = some (tg, k) → ∃ (pre suf : List ExceptionTableEntry) (x : ExceptionTableEntry) (nm : String), tableOf hh_L_demand = pre ++ x :: suf ∧ (∀ z ∈ pre, z.catchType ≠ 0 ∧ ∃ nm9 : String, Cond.classLink RL z.catchType nm9 ∈ m_WS ∧ (E', nm9) ∈ m_ncs) ∧ covers x 6 = true ∧ x.catchType ≠ 0 ∧ Cond.classLink RL x.catchType nm ∈ m_WS ∧ Cond.castable E' nm ∈ m_CW ∧ k < 6 ∧ ((decode cL_demand x.handlerPc = .ok (.astore k, 2) ∧ x.handlerPc + 2 = tg) ∨ ∃ k4 : Fin 4, (k4 : Nat) = k ∧ decode cL_demand x.handlerPc = .ok (.astore_n k4, 1) ∧ x.handlerPc + 1 = tg) := by
  intro E' tg k h
  simp only [m_hd] at h
  split at h
  · rename_i he
    cases h
    subst he
    exact ⟨tableOf [], tableOf [(0, 9, 15, 19), (0, 9, 20, 22)], ⟨0, 9, 10, 16⟩, m_ios, rfl, (fun _ h => nomatch h), by decide, by decide, wd_386, m_wc 417 (by decide +kernel) rfl, by decide, Or.inl ⟨(m_dk dk_L_demand 7 rfl), rfl⟩⟩
  · skip
    split at h
    · rename_i he
      cases h
      subst he
      exact ⟨tableOf [(0, 9, 10, 16)], tableOf [(0, 9, 20, 22)], ⟨0, 9, 15, 19⟩, m_ias, rfl, List.forall_mem_cons.mpr ⟨⟨by decide, m_ios, wd_386, by decide +kernel⟩, (fun _ h => nomatch h)⟩, by decide, by decide, wd_192, m_wc 224 (by decide +kernel) rfl, by decide, Or.inl ⟨(m_dk dk_L_demand 10 rfl), rfl⟩⟩
    · skip
      split at h
      · rename_i he
        cases h
        subst he
        exact ⟨tableOf [(0, 9, 10, 16), (0, 9, 15, 19)], tableOf [], ⟨0, 9, 20, 22⟩, m_iss, rfl, List.forall_mem_cons.mpr ⟨⟨by decide, m_ios, wd_386, by decide +kernel⟩, List.forall_mem_cons.mpr ⟨⟨by decide, m_ias, wd_192, by decide +kernel⟩, (fun _ h => nomatch h)⟩⟩, by decide, by decide, wd_193, m_wc 292 (by decide +kernel) rfl, by decide, Or.inl ⟨(m_dk dk_L_demand 13 rfl), rfl⟩⟩
      · cases h
set_option maxRecDepth 20000 in
set_option maxHeartbeats 4000000 in
theorem ok_L_demand {GP : m_G → Prop} : ∀ q ∈ cd_L_demand, m_OK GP m_my (cL_demand, 6, RL, false, (some .int), hh_L_demand) q.1 q.2 :=
  m_cn (pc := 0) (ok_aload_n (m_dk dk_L_demand 0 rfl) rfl rfl) <|
  m_cn (pc := 1) (ok_iload_n (m_dk dk_L_demand 1 rfl) rfl rfl) <|
  m_cn (pc := 2) (ok_iload_n (m_dk dk_L_demand 2 rfl) rfl rfl) <|
  m_cn (pc := 3) (ok_iload_n (m_dk dk_L_demand 3 rfl) rfl rfl) <|
  m_cn (pc := 4) (ok_iload (m_dk dk_L_demand 4 rfl) rfl) <|
  m_cn (pc := 6) (ok_callh (T := mt_X6_demand) my_X6_demand rfl cw_X6_demand rfl rfl (by decide) (r9 := (RX6, TX6, 15)) rfl rfl wd_487 wd_488 wd_489 wd_1 (by decide +kernel) (by decide) hx_L_demand (m_dk dk_L_demand 5 rfl) rfl (by decide)) <|
  m_cn (pc := 9) (ok_ireturn (nx := 0) rfl (m_dk dk_L_demand 6 rfl)) <|
  m_cn (pc := 10) (ok_astore (m_dk dk_L_demand 7 rfl) rfl (by decide)) <|
  m_cn (pc := 12) (ok_ldc (m_dk dk_L_demand 8 rfl) wd_465 rfl) <|
  m_cn (pc := 14) (ok_ireturn (nx := 0) rfl (m_dk dk_L_demand 9 rfl)) <|
  m_cn (pc := 15) (ok_astore (m_dk dk_L_demand 10 rfl) rfl (by decide)) <|
  m_cn (pc := 17) (ok_ldc (m_dk dk_L_demand 11 rfl) wd_371 rfl) <|
  m_cn (pc := 19) (ok_ireturn (nx := 0) rfl (m_dk dk_L_demand 12 rfl)) <|
  m_cn (pc := 20) (ok_astore (m_dk dk_L_demand 13 rfl) rfl (by decide)) <|
  m_cn (pc := 22) (ok_ldc (m_dk dk_L_demand 14 rfl) wd_372 rfl) <|
  m_cn (pc := 24) (ok_ireturn (nx := 0) rfl (m_dk dk_L_demand 15 rfl)) <|
  m_nl
theorem mk_L_demand {GP : m_G → Prop} {cds : Nat → Nat → m_Op} (h : cds 79 = m_lk cd_L_demand) : m_MOK GP m_my cds 79 := ⟨RL, false, hh_L_demand, by decide +kernel, rfl, (fun h9 => by first | rfl | cases h9), Or.inr ⟨by decide, rfl⟩, fun pc => by rw [h]; exact m_lk_ok _ ok_L_demand pc⟩
def dl_L_sell : List (Nat × Instr × Nat) := [(0, .aload_n 0, 1), (1, .iload_n 1, 1), (2, .iload_n 2, 1), (3, .iload_n 3, 1), (4, .iload 4, 2), (6, .iload 5, 2), (8, .invokevirtual 28, 3), (11, .ireturn, 1), (12, .astore 6, 2), (14, .ldc 18, 2), (16, .ireturn, 1), (17, .astore 6, 2), (19, .ldc 21, 2), (21, .ireturn, 1), (22, .astore 6, 2), (24, .ldc 24, 2), (26, .ireturn, 1)]
theorem dk_L_sell : ∀ q ∈ dl_L_sell, decode cL_sell q.1 = .ok q.2 := by decide +kernel
def cd_L_sell : List (Nat × m_Op) := [(0, o_aload 0 1), (1, o_iload 1 2), (2, o_iload 2 3), (3, o_iload 3 4), (4, o_iload 4 6), (6, o_iload 5 8), (8, o_callh 7 25 6 9 847 11 [(m_ios, 14, 6), (m_ias, 19, 6), (m_iss, 24, 6)]), (11, o_ireturn), (12, o_astore 6 14), (14, o_const (-1000001) 16), (16, o_ireturn), (17, o_astore 6 19), (19, o_const (-1000002) 21), (21, o_ireturn), (22, o_astore 6 24), (24, o_const (-1000003) 26), (26, o_ireturn)]
theorem hx_L_sell : ∀ (E' : String) (tg k : Nat), m_hd E' [(m_ios, 14, 6), (m_ias, 19, 6), (m_iss, 24, 6)] = some (tg, k) → ∃ (pre suf : List ExceptionTableEntry) (x : ExceptionTableEntry) (nm : String), tableOf hh_L_sell = pre ++ x :: suf ∧ (∀ z ∈ pre, z.catchType ≠ 0 ∧ ∃ nm9 : String, Cond.classLink RL z.catchType nm9 ∈ m_WS ∧ (E', nm9) ∈ m_ncs) ∧ covers x 8 = true ∧ x.catchType ≠ 0 ∧ Cond.classLink RL x.catchType nm ∈ m_WS ∧ Cond.castable E' nm ∈ m_CW ∧ k < 7 ∧ ((decode cL_sell x.handlerPc = .ok (.astore k, 2) ∧ x.handlerPc + 2 = tg) ∨ ∃ k4 : Fin 4, (k4 : Nat) = k ∧ decode cL_sell x.handlerPc = .ok (.astore_n k4, 1) ∧ x.handlerPc + 1 = tg) := by
  intro E' tg k h
  simp only [m_hd] at h
  split at h
  · rename_i he
    cases h
    subst he
    exact ⟨tableOf [], tableOf [(0, 11, 17, 19), (0, 11, 22, 22)], ⟨0, 11, 12, 16⟩, m_ios, rfl, (fun _ h => nomatch h), by decide, by decide, wd_386, m_wc 417 (by decide +kernel) rfl, by decide, Or.inl ⟨(m_dk dk_L_sell 8 rfl), rfl⟩⟩
  · skip
    split at h
    · rename_i he
      cases h
      subst he
      exact ⟨tableOf [(0, 11, 12, 16)], tableOf [(0, 11, 22, 22)], ⟨0, 11, 17, 19⟩, m_ias, rfl, List.forall_mem_cons.mpr ⟨⟨by decide, m_ios, wd_386, by decide +kernel⟩, (fun _ h => nomatch h)⟩, by decide, by decide, wd_192, m_wc 224 (by decide +kernel) rfl, by decide, Or.inl ⟨(m_dk dk_L_sell 11 rfl), rfl⟩⟩
    · skip
      split at h
      · rename_i he
        cases h
        subst he
        exact ⟨tableOf [(0, 11, 12, 16), (0, 11, 17, 19)], tableOf [], ⟨0, 11, 22, 22⟩, m_iss, rfl, List.forall_mem_cons.mpr ⟨⟨by decide, m_ios, wd_386, by decide +kernel⟩, List.forall_mem_cons.mpr ⟨⟨by decide, m_ias, wd_192, by decide +kernel⟩, (fun _ h => nomatch h)⟩⟩, by decide, by decide, wd_193, m_wc 292 (by decide +kernel) rfl, by decide, Or.inl ⟨(m_dk dk_L_sell 14 rfl), rfl⟩⟩
      · cases h
set_option maxRecDepth 20000 in
set_option maxHeartbeats 4000000 in
theorem ok_L_sell {GP : m_G → Prop} : ∀ q ∈ cd_L_sell, m_OK GP m_my (cL_sell, 7, RL, false, (some .int), hh_L_sell) q.1 q.2 :=
  m_cn (pc := 0) (ok_aload_n (m_dk dk_L_sell 0 rfl) rfl rfl) <|
  m_cn (pc := 1) (ok_iload_n (m_dk dk_L_sell 1 rfl) rfl rfl) <|
  m_cn (pc := 2) (ok_iload_n (m_dk dk_L_sell 2 rfl) rfl rfl) <|
  m_cn (pc := 3) (ok_iload_n (m_dk dk_L_sell 3 rfl) rfl rfl) <|
  m_cn (pc := 4) (ok_iload (m_dk dk_L_sell 4 rfl) rfl) <|
  m_cn (pc := 6) (ok_iload (m_dk dk_L_sell 5 rfl) rfl) <|
  m_cn (pc := 8) (ok_callh (T := mt_X6_sell) my_X6_sell rfl cw_X6_sell rfl rfl (by decide) (r9 := (RX6, TX6, 15)) rfl rfl wd_586 wd_587 wd_588 wd_1 (by decide +kernel) (by decide) hx_L_sell (m_dk dk_L_sell 6 rfl) rfl (by decide)) <|
  m_cn (pc := 11) (ok_ireturn (nx := 0) rfl (m_dk dk_L_sell 7 rfl)) <|
  m_cn (pc := 12) (ok_astore (m_dk dk_L_sell 8 rfl) rfl (by decide)) <|
  m_cn (pc := 14) (ok_ldc (m_dk dk_L_sell 9 rfl) wd_465 rfl) <|
  m_cn (pc := 16) (ok_ireturn (nx := 0) rfl (m_dk dk_L_sell 10 rfl)) <|
  m_cn (pc := 17) (ok_astore (m_dk dk_L_sell 11 rfl) rfl (by decide)) <|
  m_cn (pc := 19) (ok_ldc (m_dk dk_L_sell 12 rfl) wd_371 rfl) <|
  m_cn (pc := 21) (ok_ireturn (nx := 0) rfl (m_dk dk_L_sell 13 rfl)) <|
  m_cn (pc := 22) (ok_astore (m_dk dk_L_sell 14 rfl) rfl (by decide)) <|
  m_cn (pc := 24) (ok_ldc (m_dk dk_L_sell 15 rfl) wd_372 rfl) <|
  m_cn (pc := 26) (ok_ireturn (nx := 0) rfl (m_dk dk_L_sell 16 rfl)) <|
  m_nl
theorem mk_L_sell {GP : m_G → Prop} {cds : Nat → Nat → m_Op} (h : cds 80 = m_lk cd_L_sell) : m_MOK GP m_my cds 80 := ⟨RL, false, hh_L_sell, by decide +kernel, rfl, (fun h9 => by first | rfl | cases h9), Or.inr ⟨by decide, rfl⟩, fun pc => by rw [h]; exact m_lk_ok _ ok_L_sell pc⟩
def dl_L_cut : List (Nat × Instr × Nat) := [(0, .aload_n 0, 1), (1, .iload_n 1, 1), (2, .iload_n 2, 1), (3, .invokevirtual 32, 3), (6, .ireturn, 1), (7, .astore_n 3, 1), (8, .ldc 18, 2), (10, .ireturn, 1), (11, .astore_n 3, 1), (12, .ldc 21, 2), (14, .ireturn, 1), (15, .astore_n 3, 1), (16, .ldc 24, 2), (18, .ireturn, 1)]
theorem dk_L_cut : ∀ q ∈ dl_L_cut, decode cL_cut q.1 = .ok q.2 := by decide +kernel
def cd_L_cut : List (Nat × m_Op) := [(0, o_aload 0 1), (1, o_iload 1 2), (2, o_iload 2 3), (3, o_callh 7 26 3 5 29 6 [(m_ios, 8, 3), (m_ias, 12, 3), (m_iss, 16, 3)]), (6, o_ireturn), (7, o_astore 3 8), (8, o_const (-1000001) 10), (10, o_ireturn), (11, o_astore 3 12), (12, o_const (-1000002) 14), (14, o_ireturn), (15, o_astore 3 16), (16, o_const (-1000003) 18), (18, o_ireturn)]
theorem hx_L_cut : ∀ (E' : String) (tg k : Nat), m_hd E' [(m_ios, 8, 3), (m_ias, 12, 3), (m_iss, 16, 3)] = some (tg, k) → ∃ (pre suf : List ExceptionTableEntry) (x : ExceptionTableEntry) (nm : String), tableOf hh_L_cut = pre ++ x :: suf ∧ (∀ z ∈ pre, z.catchType ≠ 0 ∧ ∃ nm9 : String, Cond.classLink RL z.catchType nm9 ∈ m_WS ∧ (E', nm9) ∈ m_ncs) ∧ covers x 3 = true ∧ x.catchType ≠ 0 ∧ Cond.classLink RL x.catchType nm ∈ m_WS ∧ Cond.castable E' nm ∈ m_CW ∧ k < 4 ∧ ((decode cL_cut x.handlerPc = .ok (.astore k, 2) ∧ x.handlerPc + 2 = tg) ∨ ∃ k4 : Fin 4, (k4 : Nat) = k ∧ decode cL_cut x.handlerPc = .ok (.astore_n k4, 1) ∧ x.handlerPc + 1 = tg) := by
  intro E' tg k h
  simp only [m_hd] at h
  split at h
  · rename_i he
    cases h
    subst he
    exact ⟨tableOf [], tableOf [(0, 6, 11, 19), (0, 6, 15, 22)], ⟨0, 6, 7, 16⟩, m_ios, rfl, (fun _ h => nomatch h), by decide, by decide, wd_386, m_wc 417 (by decide +kernel) rfl, by decide, Or.inr ⟨_, rfl, (m_dk dk_L_cut 5 rfl), rfl⟩⟩
  · skip
    split at h
    · rename_i he
      cases h
      subst he
      exact ⟨tableOf [(0, 6, 7, 16)], tableOf [(0, 6, 15, 22)], ⟨0, 6, 11, 19⟩, m_ias, rfl, List.forall_mem_cons.mpr ⟨⟨by decide, m_ios, wd_386, by decide +kernel⟩, (fun _ h => nomatch h)⟩, by decide, by decide, wd_192, m_wc 224 (by decide +kernel) rfl, by decide, Or.inr ⟨_, rfl, (m_dk dk_L_cut 8 rfl), rfl⟩⟩
    · skip
      split at h
      · rename_i he
        cases h
        subst he
        exact ⟨tableOf [(0, 6, 7, 16), (0, 6, 11, 19)], tableOf [], ⟨0, 6, 15, 22⟩, m_iss, rfl, List.forall_mem_cons.mpr ⟨⟨by decide, m_ios, wd_386, by decide +kernel⟩, List.forall_mem_cons.mpr ⟨⟨by decide, m_ias, wd_192, by decide +kernel⟩, (fun _ h => nomatch h)⟩⟩, by decide, by decide, wd_193, m_wc 292 (by decide +kernel) rfl, by decide, Or.inr ⟨_, rfl, (m_dk dk_L_cut 11 rfl), rfl⟩⟩
      · cases h
set_option maxRecDepth 20000 in
set_option maxHeartbeats 4000000 in
theorem ok_L_cut {GP : m_G → Prop} : ∀ q ∈ cd_L_cut, m_OK GP m_my (cL_cut, 4, RL, false, (some .int), hh_L_cut) q.1 q.2 :=
  m_cn (pc := 0) (ok_aload_n (m_dk dk_L_cut 0 rfl) rfl rfl) <|
  m_cn (pc := 1) (ok_iload_n (m_dk dk_L_cut 1 rfl) rfl rfl) <|
  m_cn (pc := 2) (ok_iload_n (m_dk dk_L_cut 2 rfl) rfl rfl) <|
  m_cn (pc := 3) (ok_callh (T := mt_X6_cut) my_X6_cut rfl cw_X6_cut rfl rfl (by decide) (r9 := (RX6, TX6, 15)) rfl rfl wd_682 wd_683 wd_684 wd_1 (by decide +kernel) (by decide) hx_L_cut (m_dk dk_L_cut 3 rfl) rfl (by decide)) <|
  m_cn (pc := 6) (ok_ireturn (nx := 0) rfl (m_dk dk_L_cut 4 rfl)) <|
  m_cn (pc := 7) (ok_astore_n (m_dk dk_L_cut 5 rfl) rfl rfl (by decide)) <|
  m_cn (pc := 8) (ok_ldc (m_dk dk_L_cut 6 rfl) wd_465 rfl) <|
  m_cn (pc := 10) (ok_ireturn (nx := 0) rfl (m_dk dk_L_cut 7 rfl)) <|
  m_cn (pc := 11) (ok_astore_n (m_dk dk_L_cut 8 rfl) rfl rfl (by decide)) <|
  m_cn (pc := 12) (ok_ldc (m_dk dk_L_cut 9 rfl) wd_371 rfl) <|
  m_cn (pc := 14) (ok_ireturn (nx := 0) rfl (m_dk dk_L_cut 10 rfl)) <|
  m_cn (pc := 15) (ok_astore_n (m_dk dk_L_cut 11 rfl) rfl rfl (by decide)) <|
  m_cn (pc := 16) (ok_ldc (m_dk dk_L_cut 12 rfl) wd_372 rfl) <|
  m_cn (pc := 18) (ok_ireturn (nx := 0) rfl (m_dk dk_L_cut 13 rfl)) <|
  m_nl
theorem mk_L_cut {GP : m_G → Prop} {cds : Nat → Nat → m_Op} (h : cds 81 = m_lk cd_L_cut) : m_MOK GP m_my cds 81 := ⟨RL, false, hh_L_cut, by decide +kernel, rfl, (fun h9 => by first | rfl | cases h9), Or.inr ⟨by decide, rfl⟩, fun pc => by rw [h]; exact m_lk_ok _ ok_L_cut pc⟩
def dl_L_ship : List (Nat × Instr × Nat) := [(0, .aload_n 0, 1), (1, .iload_n 1, 1), (2, .iload_n 2, 1), (3, .iload_n 3, 1), (4, .invokevirtual 36, 3), (7, .ireturn, 1), (8, .astore 4, 2), (10, .ldc 18, 2), (12, .ireturn, 1), (13, .astore 4, 2), (15, .ldc 21, 2), (17, .ireturn, 1), (18, .astore 4, 2), (20, .ldc 24, 2), (22, .ireturn, 1)]
theorem dk_L_ship : ∀ q ∈ dl_L_ship, decode cL_ship q.1 = .ok q.2 := by decide +kernel
def cd_L_ship : List (Nat × m_Op) := [(0, o_aload 0 1), (1, o_iload 1 2), (2, o_iload 2 3), (3, o_iload 3 4), (4, o_callh 7 27 4 5 28 7 [(m_ios, 10, 4), (m_ias, 15, 4), (m_iss, 20, 4)]), (7, o_ireturn), (8, o_astore 4 10), (10, o_const (-1000001) 12), (12, o_ireturn), (13, o_astore 4 15), (15, o_const (-1000002) 17), (17, o_ireturn), (18, o_astore 4 20), (20, o_const (-1000003) 22), (22, o_ireturn)]
theorem hx_L_ship : ∀ (E' : String) (tg k : Nat), m_hd E' [(m_ios, 10, 4), (m_ias, 15, 4), (m_iss, 20, 4)] = some (tg, k) → ∃ (pre suf : List ExceptionTableEntry) (x : ExceptionTableEntry) (nm : String), tableOf hh_L_ship = pre ++ x :: suf ∧ (∀ z ∈ pre, z.catchType ≠ 0 ∧ ∃ nm9 : String, Cond.classLink RL z.catchType nm9 ∈ m_WS ∧ (E', nm9) ∈ m_ncs) ∧ covers x 4 = true ∧ x.catchType ≠ 0 ∧ Cond.classLink RL x.catchType nm ∈ m_WS ∧ Cond.castable E' nm ∈ m_CW ∧ k < 5 ∧ ((decode cL_ship x.handlerPc = .ok (.astore k, 2) ∧ x.handlerPc + 2 = tg) ∨ ∃ k4 : Fin 4, (k4 : Nat) = k ∧ decode cL_ship x.handlerPc = .ok (.astore_n k4, 1) ∧ x.handlerPc + 1 = tg) := by
  intro E' tg k h
  simp only [m_hd] at h
  split at h
  · rename_i he
    cases h
    subst he
    exact ⟨tableOf [], tableOf [(0, 7, 13, 19), (0, 7, 18, 22)], ⟨0, 7, 8, 16⟩, m_ios, rfl, (fun _ h => nomatch h), by decide, by decide, wd_386, m_wc 417 (by decide +kernel) rfl, by decide, Or.inl ⟨(m_dk dk_L_ship 6 rfl), rfl⟩⟩
  · skip
    split at h
    · rename_i he
      cases h
      subst he
      exact ⟨tableOf [(0, 7, 8, 16)], tableOf [(0, 7, 18, 22)], ⟨0, 7, 13, 19⟩, m_ias, rfl, List.forall_mem_cons.mpr ⟨⟨by decide, m_ios, wd_386, by decide +kernel⟩, (fun _ h => nomatch h)⟩, by decide, by decide, wd_192, m_wc 224 (by decide +kernel) rfl, by decide, Or.inl ⟨(m_dk dk_L_ship 9 rfl), rfl⟩⟩
    · skip
      split at h
      · rename_i he
        cases h
        subst he
        exact ⟨tableOf [(0, 7, 8, 16), (0, 7, 13, 19)], tableOf [], ⟨0, 7, 18, 22⟩, m_iss, rfl, List.forall_mem_cons.mpr ⟨⟨by decide, m_ios, wd_386, by decide +kernel⟩, List.forall_mem_cons.mpr ⟨⟨by decide, m_ias, wd_192, by decide +kernel⟩, (fun _ h => nomatch h)⟩⟩, by decide, by decide, wd_193, m_wc 292 (by decide +kernel) rfl, by decide, Or.inl ⟨(m_dk dk_L_ship 12 rfl), rfl⟩⟩
      · cases h
set_option maxRecDepth 20000 in
set_option maxHeartbeats 4000000 in
theorem ok_L_ship {GP : m_G → Prop} : ∀ q ∈ cd_L_ship, m_OK GP m_my (cL_ship, 5, RL, false, (some .int), hh_L_ship) q.1 q.2 :=
  m_cn (pc := 0) (ok_aload_n (m_dk dk_L_ship 0 rfl) rfl rfl) <|
  m_cn (pc := 1) (ok_iload_n (m_dk dk_L_ship 1 rfl) rfl rfl) <|
  m_cn (pc := 2) (ok_iload_n (m_dk dk_L_ship 2 rfl) rfl rfl) <|
  m_cn (pc := 3) (ok_iload_n (m_dk dk_L_ship 3 rfl) rfl rfl) <|
  m_cn (pc := 4) (ok_callh (T := mt_X6_ship) my_X6_ship rfl cw_X6_ship rfl rfl (by decide) (r9 := (RX6, TX6, 15)) rfl rfl wd_541 wd_542 wd_543 wd_1 (by decide +kernel) (by decide) hx_L_ship (m_dk dk_L_ship 4 rfl) rfl (by decide)) <|
  m_cn (pc := 7) (ok_ireturn (nx := 0) rfl (m_dk dk_L_ship 5 rfl)) <|
  m_cn (pc := 8) (ok_astore (m_dk dk_L_ship 6 rfl) rfl (by decide)) <|
  m_cn (pc := 10) (ok_ldc (m_dk dk_L_ship 7 rfl) wd_465 rfl) <|
  m_cn (pc := 12) (ok_ireturn (nx := 0) rfl (m_dk dk_L_ship 8 rfl)) <|
  m_cn (pc := 13) (ok_astore (m_dk dk_L_ship 9 rfl) rfl (by decide)) <|
  m_cn (pc := 15) (ok_ldc (m_dk dk_L_ship 10 rfl) wd_371 rfl) <|
  m_cn (pc := 17) (ok_ireturn (nx := 0) rfl (m_dk dk_L_ship 11 rfl)) <|
  m_cn (pc := 18) (ok_astore (m_dk dk_L_ship 12 rfl) rfl (by decide)) <|
  m_cn (pc := 20) (ok_ldc (m_dk dk_L_ship 13 rfl) wd_372 rfl) <|
  m_cn (pc := 22) (ok_ireturn (nx := 0) rfl (m_dk dk_L_ship 14 rfl)) <|
  m_nl
theorem mk_L_ship {GP : m_G → Prop} {cds : Nat → Nat → m_Op} (h : cds 82 = m_lk cd_L_ship) : m_MOK GP m_my cds 82 := ⟨RL, false, hh_L_ship, by decide +kernel, rfl, (fun h9 => by first | rfl | cases h9), Or.inr ⟨by decide, rfl⟩, fun pc => by rw [h]; exact m_lk_ok _ ok_L_ship pc⟩
def dl_L_send : List (Nat × Instr × Nat) := [(0, .aload_n 0, 1), (1, .iload_n 1, 1), (2, .iload_n 2, 1), (3, .invokevirtual 40, 3), (6, .ireturn, 1), (7, .astore_n 3, 1), (8, .ldc 18, 2), (10, .ireturn, 1), (11, .astore_n 3, 1), (12, .ldc 24, 2), (14, .ireturn, 1)]
theorem dk_L_send : ∀ q ∈ dl_L_send, decode cL_send q.1 = .ok q.2 := by decide +kernel
def cd_L_send : List (Nat × m_Op) := [(0, o_aload 0 1), (1, o_iload 1 2), (2, o_iload 2 3), (3, o_callh 7 28 3 4 24 6 [(m_ios, 8, 3), (m_iss, 12, 3)]), (6, o_ireturn), (7, o_astore 3 8), (8, o_const (-1000001) 10), (10, o_ireturn), (11, o_astore 3 12), (12, o_const (-1000003) 14), (14, o_ireturn)]
theorem hx_L_send : ∀ (E' : String) (tg k : Nat), m_hd E' [(m_ios, 8, 3), (m_iss, 12, 3)] = some (tg, k) → ∃ (pre suf : List ExceptionTableEntry) (x : ExceptionTableEntry) (nm : String), tableOf hh_L_send = pre ++ x :: suf ∧ (∀ z ∈ pre, z.catchType ≠ 0 ∧ ∃ nm9 : String, Cond.classLink RL z.catchType nm9 ∈ m_WS ∧ (E', nm9) ∈ m_ncs) ∧ covers x 3 = true ∧ x.catchType ≠ 0 ∧ Cond.classLink RL x.catchType nm ∈ m_WS ∧ Cond.castable E' nm ∈ m_CW ∧ k < 4 ∧ ((decode cL_send x.handlerPc = .ok (.astore k, 2) ∧ x.handlerPc + 2 = tg) ∨ ∃ k4 : Fin 4, (k4 : Nat) = k ∧ decode cL_send x.handlerPc = .ok (.astore_n k4, 1) ∧ x.handlerPc + 1 = tg) := by
  intro E' tg k h
  simp only [m_hd] at h
  split at h
  · rename_i he
    cases h
    subst he
    exact ⟨tableOf [], tableOf [(0, 6, 11, 22)], ⟨0, 6, 7, 16⟩, m_ios, rfl, (fun _ h => nomatch h), by decide, by decide, wd_386, m_wc 417 (by decide +kernel) rfl, by decide, Or.inr ⟨_, rfl, (m_dk dk_L_send 5 rfl), rfl⟩⟩
  · skip
    split at h
    · rename_i he
      cases h
      subst he
      exact ⟨tableOf [(0, 6, 7, 16)], tableOf [], ⟨0, 6, 11, 22⟩, m_iss, rfl, List.forall_mem_cons.mpr ⟨⟨by decide, m_ios, wd_386, by decide +kernel⟩, (fun _ h => nomatch h)⟩, by decide, by decide, wd_193, m_wc 292 (by decide +kernel) rfl, by decide, Or.inr ⟨_, rfl, (m_dk dk_L_send 8 rfl), rfl⟩⟩
    · cases h
set_option maxRecDepth 20000 in
set_option maxHeartbeats 4000000 in
theorem ok_L_send {GP : m_G → Prop} : ∀ q ∈ cd_L_send, m_OK GP m_my (cL_send, 4, RL, false, (some .int), hh_L_send) q.1 q.2 :=
  m_cn (pc := 0) (ok_aload_n (m_dk dk_L_send 0 rfl) rfl rfl) <|
  m_cn (pc := 1) (ok_iload_n (m_dk dk_L_send 1 rfl) rfl rfl) <|
  m_cn (pc := 2) (ok_iload_n (m_dk dk_L_send 2 rfl) rfl rfl) <|
  m_cn (pc := 3) (ok_callh (T := mt_X6_send) my_X6_send rfl cw_X6_send rfl rfl (by decide) (r9 := (RX6, TX6, 15)) rfl rfl wd_719 wd_720 wd_721 wd_1 (by decide +kernel) (by decide) hx_L_send (m_dk dk_L_send 3 rfl) rfl (by decide)) <|
  m_cn (pc := 6) (ok_ireturn (nx := 0) rfl (m_dk dk_L_send 4 rfl)) <|
  m_cn (pc := 7) (ok_astore_n (m_dk dk_L_send 5 rfl) rfl rfl (by decide)) <|
  m_cn (pc := 8) (ok_ldc (m_dk dk_L_send 6 rfl) wd_465 rfl) <|
  m_cn (pc := 10) (ok_ireturn (nx := 0) rfl (m_dk dk_L_send 7 rfl)) <|
  m_cn (pc := 11) (ok_astore_n (m_dk dk_L_send 8 rfl) rfl rfl (by decide)) <|
  m_cn (pc := 12) (ok_ldc (m_dk dk_L_send 9 rfl) wd_372 rfl) <|
  m_cn (pc := 14) (ok_ireturn (nx := 0) rfl (m_dk dk_L_send 10 rfl)) <|
  m_nl
theorem mk_L_send {GP : m_G → Prop} {cds : Nat → Nat → m_Op} (h : cds 83 = m_lk cd_L_send) : m_MOK GP m_my cds 83 := ⟨RL, false, hh_L_send, by decide +kernel, rfl, (fun h9 => by first | rfl | cases h9), Or.inr ⟨by decide, rfl⟩, fun pc => by rw [h]; exact m_lk_ok _ ok_L_send pc⟩
def dl_L_fill : List (Nat × Instr × Nat) := [(0, .aload_n 0, 1), (1, .iload_n 1, 1), (2, .iload_n 2, 1), (3, .invokevirtual 43, 3), (6, .ireturn, 1), (7, .astore_n 3, 1), (8, .ldc 18, 2), (10, .ireturn, 1), (11, .astore_n 3, 1), (12, .ldc 21, 2), (14, .ireturn, 1), (15, .astore_n 3, 1), (16, .ldc 24, 2), (18, .ireturn, 1)]
theorem dk_L_fill : ∀ q ∈ dl_L_fill, decode cL_fill q.1 = .ok q.2 := by decide +kernel
def cd_L_fill : List (Nat × m_Op) := [(0, o_aload 0 1), (1, o_iload 1 2), (2, o_iload 2 3), (3, o_callh 7 29 3 3 18 6 [(m_ios, 8, 3), (m_ias, 12, 3), (m_iss, 16, 3)]), (6, o_ireturn), (7, o_astore 3 8), (8, o_const (-1000001) 10), (10, o_ireturn), (11, o_astore 3 12), (12, o_const (-1000002) 14), (14, o_ireturn), (15, o_astore 3 16), (16, o_const (-1000003) 18), (18, o_ireturn)]
theorem hx_L_fill : ∀ (E' : String) (tg k : Nat), m_hd E' [(m_ios, 8, 3), (m_ias, 12, 3), (m_iss, 16, 3)] = some (tg, k) → ∃ (pre suf : List ExceptionTableEntry) (x : ExceptionTableEntry) (nm : String), tableOf hh_L_fill = pre ++ x :: suf ∧ (∀ z ∈ pre, z.catchType ≠ 0 ∧ ∃ nm9 : String, Cond.classLink RL z.catchType nm9 ∈ m_WS ∧ (E', nm9) ∈ m_ncs) ∧ covers x 3 = true ∧ x.catchType ≠ 0 ∧ Cond.classLink RL x.catchType nm ∈ m_WS ∧ Cond.castable E' nm ∈ m_CW ∧ k < 4 ∧ ((decode cL_fill x.handlerPc = .ok (.astore k, 2) ∧ x.handlerPc + 2 = tg) ∨ ∃ k4 : Fin 4, (k4 : Nat) = k ∧ decode cL_fill x.handlerPc = .ok (.astore_n k4, 1) ∧ x.handlerPc + 1 = tg) := by
  intro E' tg k h
  simp only [m_hd] at h
  split at h
  · rename_i he
    cases h
    subst he
    exact ⟨tableOf [], tableOf [(0, 6, 11, 19), (0, 6, 15, 22)], ⟨0, 6, 7, 16⟩, m_ios, rfl, (fun _ h => nomatch h), by decide, by decide, wd_386, m_wc 417 (by decide +kernel) rfl, by decide, Or.inr ⟨_, rfl, (m_dk dk_L_fill 5 rfl), rfl⟩⟩
  · skip
    split at h
    · rename_i he
      cases h
      subst he
      exact ⟨tableOf [(0, 6, 7, 16)], tableOf [(0, 6, 15, 22)], ⟨0, 6, 11, 19⟩, m_ias, rfl, List.forall_mem_cons.mpr ⟨⟨by decide, m_ios, wd_386, by decide +kernel⟩, (fun _ h => nomatch h)⟩, by decide, by decide, wd_192, m_wc 224 (by decide +kernel) rfl, by decide, Or.inr ⟨_, rfl, (m_dk dk_L_fill 8 rfl), rfl⟩⟩
    · skip
      split at h
      · rename_i he
        cases h
        subst he
        exact ⟨tableOf [(0, 6, 7, 16), (0, 6, 11, 19)], tableOf [], ⟨0, 6, 15, 22⟩, m_iss, rfl, List.forall_mem_cons.mpr ⟨⟨by decide, m_ios, wd_386, by decide +kernel⟩, List.forall_mem_cons.mpr ⟨⟨by decide, m_ias, wd_192, by decide +kernel⟩, (fun _ h => nomatch h)⟩⟩, by decide, by decide, wd_193, m_wc 292 (by decide +kernel) rfl, by decide, Or.inr ⟨_, rfl, (m_dk dk_L_fill 11 rfl), rfl⟩⟩
      · cases h
set_option maxRecDepth 20000 in
set_option maxHeartbeats 4000000 in
theorem ok_L_fill {GP : m_G → Prop} : ∀ q ∈ cd_L_fill, m_OK GP m_my (cL_fill, 4, RL, false, (some .int), hh_L_fill) q.1 q.2 :=
  m_cn (pc := 0) (ok_aload_n (m_dk dk_L_fill 0 rfl) rfl rfl) <|
  m_cn (pc := 1) (ok_iload_n (m_dk dk_L_fill 1 rfl) rfl rfl) <|
  m_cn (pc := 2) (ok_iload_n (m_dk dk_L_fill 2 rfl) rfl rfl) <|
  m_cn (pc := 3) (ok_callh (T := mt_X6_fill) my_X6_fill rfl cw_X6_fill rfl rfl (by decide) (r9 := (RX6, TX6, 15)) rfl rfl wd_739 wd_740 wd_741 wd_1 (by decide +kernel) (by decide) hx_L_fill (m_dk dk_L_fill 3 rfl) rfl (by decide)) <|
  m_cn (pc := 6) (ok_ireturn (nx := 0) rfl (m_dk dk_L_fill 4 rfl)) <|
  m_cn (pc := 7) (ok_astore_n (m_dk dk_L_fill 5 rfl) rfl rfl (by decide)) <|
  m_cn (pc := 8) (ok_ldc (m_dk dk_L_fill 6 rfl) wd_465 rfl) <|
  m_cn (pc := 10) (ok_ireturn (nx := 0) rfl (m_dk dk_L_fill 7 rfl)) <|
  m_cn (pc := 11) (ok_astore_n (m_dk dk_L_fill 8 rfl) rfl rfl (by decide)) <|
  m_cn (pc := 12) (ok_ldc (m_dk dk_L_fill 9 rfl) wd_371 rfl) <|
  m_cn (pc := 14) (ok_ireturn (nx := 0) rfl (m_dk dk_L_fill 10 rfl)) <|
  m_cn (pc := 15) (ok_astore_n (m_dk dk_L_fill 11 rfl) rfl rfl (by decide)) <|
  m_cn (pc := 16) (ok_ldc (m_dk dk_L_fill 12 rfl) wd_372 rfl) <|
  m_cn (pc := 18) (ok_ireturn (nx := 0) rfl (m_dk dk_L_fill 13 rfl)) <|
  m_nl
theorem mk_L_fill {GP : m_G → Prop} {cds : Nat → Nat → m_Op} (h : cds 84 = m_lk cd_L_fill) : m_MOK GP m_my cds 84 := ⟨RL, false, hh_L_fill, by decide +kernel, rfl, (fun h9 => by first | rfl | cases h9), Or.inr ⟨by decide, rfl⟩, fun pc => by rw [h]; exact m_lk_ok _ ok_L_fill pc⟩
def dl_L_storm : List (Nat × Instr × Nat) := [(0, .aload_n 0, 1), (1, .iload_n 1, 1), (2, .iload_n 2, 1), (3, .invokevirtual 46, 3), (6, .iconst 0, 1), (7, .ireturn, 1), (8, .astore_n 3, 1), (9, .ldc 21, 2), (11, .ireturn, 1)]
theorem dk_L_storm : ∀ q ∈ dl_L_storm, decode cL_storm q.1 = .ok q.2 := by decide +kernel
def cd_L_storm : List (Nat × m_Op) := [(0, o_aload 0 1), (1, o_iload 1 2), (2, o_iload 2 3), (3, o_callh 7 30 3 2 12 6 [(m_ias, 9, 3)]), (6, o_const (0) 7), (7, o_ireturn), (8, o_astore 3 9), (9, o_const (-1000002) 11), (11, o_ireturn)]
theorem hx_L_storm : ∀ (E' : String) (tg k : Nat), m_hd E' [(m_ias, 9, 3)] = some (tg, k) → ∃ (pre suf : List ExceptionTableEntry) (x : ExceptionTableEntry) (nm : String), tableOf hh_L_storm = pre ++ x :: suf ∧ (∀ z ∈ pre, z.catchType ≠ 0 ∧ ∃ nm9 : String, Cond.classLink RL z.catchType nm9 ∈ m_WS ∧ (E', nm9) ∈ m_ncs) ∧ covers x 3 = true ∧ x.catchType ≠ 0 ∧ Cond.classLink RL x.catchType nm ∈ m_WS ∧ Cond.castable E' nm ∈ m_CW ∧ k < 4 ∧ ((decode cL_storm x.handlerPc = .ok (.astore k, 2) ∧ x.handlerPc + 2 = tg) ∨ ∃ k4 : Fin 4, (k4 : Nat) = k ∧ decode cL_storm x.handlerPc = .ok (.astore_n k4, 1) ∧ x.handlerPc + 1 = tg) := by
  intro E' tg k h
  simp only [m_hd] at h
  split at h
  · rename_i he
    cases h
    subst he
    exact ⟨tableOf [], tableOf [], ⟨0, 7, 8, 19⟩, m_ias, rfl, (fun _ h => nomatch h), by decide, by decide, wd_192, m_wc 224 (by decide +kernel) rfl, by decide, Or.inr ⟨_, rfl, (m_dk dk_L_storm 6 rfl), rfl⟩⟩
  · cases h
set_option maxRecDepth 20000 in
set_option maxHeartbeats 4000000 in
theorem ok_L_storm {GP : m_G → Prop} : ∀ q ∈ cd_L_storm, m_OK GP m_my (cL_storm, 4, RL, false, (some .int), hh_L_storm) q.1 q.2 :=
  m_cn (pc := 0) (ok_aload_n (m_dk dk_L_storm 0 rfl) rfl rfl) <|
  m_cn (pc := 1) (ok_iload_n (m_dk dk_L_storm 1 rfl) rfl rfl) <|
  m_cn (pc := 2) (ok_iload_n (m_dk dk_L_storm 2 rfl) rfl rfl) <|
  m_cn (pc := 3) (ok_callh (T := mt_X6_storm) my_X6_storm rfl cw_X6_storm rfl rfl (by decide) (r9 := (RX6, TX6, 15)) rfl rfl wd_732 wd_733 wd_734 wd_1 (by decide +kernel) (by decide) hx_L_storm (m_dk dk_L_storm 3 rfl) rfl (by decide)) <|
  m_cn (pc := 6) (ok_iconst (m_dk dk_L_storm 4 rfl) (by decide) rfl) <|
  m_cn (pc := 7) (ok_ireturn (nx := 0) rfl (m_dk dk_L_storm 5 rfl)) <|
  m_cn (pc := 8) (ok_astore_n (m_dk dk_L_storm 6 rfl) rfl rfl (by decide)) <|
  m_cn (pc := 9) (ok_ldc (m_dk dk_L_storm 7 rfl) wd_371 rfl) <|
  m_cn (pc := 11) (ok_ireturn (nx := 0) rfl (m_dk dk_L_storm 8 rfl)) <|
  m_nl
theorem mk_L_storm {GP : m_G → Prop} {cds : Nat → Nat → m_Op} (h : cds 85 = m_lk cd_L_storm) : m_MOK GP m_my cds 85 := ⟨RL, false, hh_L_storm, by decide +kernel, rfl, (fun h9 => by first | rfl | cases h9), Or.inr ⟨by decide, rfl⟩, fun pc => by rw [h]; exact m_lk_ok _ ok_L_storm pc⟩
def dl_L_pass : List (Nat × Instr × Nat) := [(0, .aload_n 0, 1), (1, .iload_n 1, 1), (2, .invokevirtual 50, 3), (5, .ireturn, 1), (6, .astore_n 2, 1), (7, .ldc 21, 2), (9, .ireturn, 1), (10, .astore_n 2, 1), (11, .ldc 24, 2), (13, .ireturn, 1)]
theorem dk_L_pass : ∀ q ∈ dl_L_pass, decode cL_pass q.1 = .ok q.2 := by decide +kernel
def cd_L_pass : List (Nat × m_Op) := [(0, o_aload 0 1), (1, o_iload 1 2), (2, o_callh 7 31 2 2 12 5 [(m_ias, 7, 2), (m_iss, 11, 2)]), (5, o_ireturn), (6, o_astore 2 7), (7, o_const (-1000002) 9), (9, o_ireturn), (10, o_astore 2 11), (11, o_const (-1000003) 13), (13, o_ireturn)]
theorem hx_L_pass : ∀ (E' : String) (tg k : Nat), m_hd E' [(m_ias, 7, 2), (m_iss, 11, 2)] = some (tg, k) → ∃ (pre suf : List ExceptionTableEntry) (x : ExceptionTableEntry) (nm : String), tableOf hh_L_pass = pre ++ x :: suf ∧ (∀ z ∈ pre, z.catchType ≠ 0 ∧ ∃ nm9 : String, Cond.classLink RL z.catchType nm9 ∈ m_WS ∧ (E', nm9) ∈ m_ncs) ∧ covers x 2 = true ∧ x.catchType ≠ 0 ∧ Cond.classLink RL x.catchType nm ∈ m_WS ∧ Cond.castable E' nm ∈ m_CW ∧ k < 3 ∧ ((decode cL_pass x.handlerPc = .ok (.astore k, 2) ∧ x.handlerPc + 2 = tg) ∨ ∃ k4 : Fin 4, (k4 : Nat) = k ∧ decode cL_pass x.handlerPc = .ok (.astore_n k4, 1) ∧ x.handlerPc + 1 = tg) := by
  intro E' tg k h
  simp only [m_hd] at h
  split at h
  · rename_i he
    cases h
    subst he
    exact ⟨tableOf [], tableOf [(0, 5, 10, 22)], ⟨0, 5, 6, 19⟩, m_ias, rfl, (fun _ h => nomatch h), by decide, by decide, wd_192, m_wc 224 (by decide +kernel) rfl, by decide, Or.inr ⟨_, rfl, (m_dk dk_L_pass 4 rfl), rfl⟩⟩
  · skip
    split at h
    · rename_i he
      cases h
      subst he
      exact ⟨tableOf [(0, 5, 6, 19)], tableOf [], ⟨0, 5, 10, 22⟩, m_iss, rfl, List.forall_mem_cons.mpr ⟨⟨by decide, m_ias, wd_192, by decide +kernel⟩, (fun _ h => nomatch h)⟩, by decide, by decide, wd_193, m_wc 292 (by decide +kernel) rfl, by decide, Or.inr ⟨_, rfl, (m_dk dk_L_pass 7 rfl), rfl⟩⟩
    · cases h
set_option maxRecDepth 20000 in
set_option maxHeartbeats 4000000 in
theorem ok_L_pass {GP : m_G → Prop} : ∀ q ∈ cd_L_pass, m_OK GP m_my (cL_pass, 3, RL, false, (some .int), hh_L_pass) q.1 q.2 :=
  m_cn (pc := 0) (ok_aload_n (m_dk dk_L_pass 0 rfl) rfl rfl) <|
  m_cn (pc := 1) (ok_iload_n (m_dk dk_L_pass 1 rfl) rfl rfl) <|
  m_cn (pc := 2) (ok_callh (T := mt_X6_pass) my_X6_pass rfl cw_X6_pass rfl rfl (by decide) (r9 := (RX6, TX6, 15)) rfl rfl wd_194 wd_195 wd_196 wd_1 (by decide +kernel) (by decide) hx_L_pass (m_dk dk_L_pass 2 rfl) rfl (by decide)) <|
  m_cn (pc := 5) (ok_ireturn (nx := 0) rfl (m_dk dk_L_pass 3 rfl)) <|
  m_cn (pc := 6) (ok_astore_n (m_dk dk_L_pass 4 rfl) rfl rfl (by decide)) <|
  m_cn (pc := 7) (ok_ldc (m_dk dk_L_pass 5 rfl) wd_371 rfl) <|
  m_cn (pc := 9) (ok_ireturn (nx := 0) rfl (m_dk dk_L_pass 6 rfl)) <|
  m_cn (pc := 10) (ok_astore_n (m_dk dk_L_pass 7 rfl) rfl rfl (by decide)) <|
  m_cn (pc := 11) (ok_ldc (m_dk dk_L_pass 8 rfl) wd_372 rfl) <|
  m_cn (pc := 13) (ok_ireturn (nx := 0) rfl (m_dk dk_L_pass 9 rfl)) <|
  m_nl
theorem mk_L_pass {GP : m_G → Prop} {cds : Nat → Nat → m_Op} (h : cds 86 = m_lk cd_L_pass) : m_MOK GP m_my cds 86 := ⟨RL, false, hh_L_pass, by decide +kernel, rfl, (fun h9 => by first | rfl | cases h9), Or.inr ⟨by decide, rfl⟩, fun pc => by rw [h]; exact m_lk_ok _ ok_L_pass pc⟩
def dl_L_owned : List (Nat × Instr × Nat) := [(0, .aload_n 0, 1), (1, .iload_n 1, 1), (2, .iload_n 2, 1), (3, .invokevirtual 54, 3), (6, .ireturn, 1), (7, .astore_n 3, 1), (8, .ldc 18, 2), (10, .ireturn, 1)]
theorem dk_L_owned : ∀ q ∈ dl_L_owned, decode cL_owned q.1 = .ok q.2 := by decide +kernel
def cd_L_owned : List (Nat × m_Op) := [(0, o_aload 0 1), (1, o_iload 1 2), (2, o_iload 2 3), (3, o_callh 7 32 3 2 12 6 [(m_ios, 8, 3)]), (6, o_ireturn), (7, o_astore 3 8), (8, o_const (-1000001) 10), (10, o_ireturn)]
theorem hx_L_owned : ∀ (E' : String) (tg k : Nat), m_hd E' [(m_ios, 8, 3)] = some (tg, k) → ∃ (pre suf : List ExceptionTableEntry) (x : ExceptionTableEntry) (nm : String), tableOf hh_L_owned = pre ++ x :: suf ∧ (∀ z ∈ pre, z.catchType ≠ 0 ∧ ∃ nm9 : String, Cond.classLink RL z.catchType nm9 ∈ m_WS ∧ (E', nm9) ∈ m_ncs) ∧ covers x 3 = true ∧ x.catchType ≠ 0 ∧ Cond.classLink RL x.catchType nm ∈ m_WS ∧ Cond.castable E' nm ∈ m_CW ∧ k < 4 ∧ ((decode cL_owned x.handlerPc = .ok (.astore k, 2) ∧ x.handlerPc + 2 = tg) ∨ ∃ k4 : Fin 4, (k4 : Nat) = k ∧ decode cL_owned x.handlerPc = .ok (.astore_n k4, 1) ∧ x.handlerPc + 1 = tg) := by
  intro E' tg k h
  simp only [m_hd] at h
  split at h
  · rename_i he
    cases h
    subst he
    exact ⟨tableOf [], tableOf [], ⟨0, 6, 7, 16⟩, m_ios, rfl, (fun _ h => nomatch h), by decide, by decide, wd_386, m_wc 417 (by decide +kernel) rfl, by decide, Or.inr ⟨_, rfl, (m_dk dk_L_owned 5 rfl), rfl⟩⟩
  · cases h
set_option maxRecDepth 20000 in
set_option maxHeartbeats 4000000 in
theorem ok_L_owned {GP : m_G → Prop} : ∀ q ∈ cd_L_owned, m_OK GP m_my (cL_owned, 4, RL, false, (some .int), hh_L_owned) q.1 q.2 :=
  m_cn (pc := 0) (ok_aload_n (m_dk dk_L_owned 0 rfl) rfl rfl) <|
  m_cn (pc := 1) (ok_iload_n (m_dk dk_L_owned 1 rfl) rfl rfl) <|
  m_cn (pc := 2) (ok_iload_n (m_dk dk_L_owned 2 rfl) rfl rfl) <|
  m_cn (pc := 3) (ok_callh (T := mt_X6_owned) my_X6_owned rfl cw_X6_owned rfl rfl (by decide) (r9 := (RX6, TX6, 15)) rfl rfl wd_469 wd_470 wd_471 wd_1 (by decide +kernel) (by decide) hx_L_owned (m_dk dk_L_owned 3 rfl) rfl (by decide)) <|
  m_cn (pc := 6) (ok_ireturn (nx := 0) rfl (m_dk dk_L_owned 4 rfl)) <|
  m_cn (pc := 7) (ok_astore_n (m_dk dk_L_owned 5 rfl) rfl rfl (by decide)) <|
  m_cn (pc := 8) (ok_ldc (m_dk dk_L_owned 6 rfl) wd_465 rfl) <|
  m_cn (pc := 10) (ok_ireturn (nx := 0) rfl (m_dk dk_L_owned 7 rfl)) <|
  m_nl
theorem mk_L_owned {GP : m_G → Prop} {cds : Nat → Nat → m_Op} (h : cds 87 = m_lk cd_L_owned) : m_MOK GP m_my cds 87 := ⟨RL, false, hh_L_owned, by decide +kernel, rfl, (fun h9 => by first | rfl | cases h9), Or.inr ⟨by decide, rfl⟩, fun pc => by rw [h]; exact m_lk_ok _ ok_L_owned pc⟩
def dl_L_isWhole : List (Nat × Instr × Nat) := [(0, .aload_n 0, 1), (1, .iload_n 1, 1), (2, .invokevirtual 57, 3), (5, .ifCond .eq 7, 3), (8, .iconst 1, 1), (9, .goto 4, 3), (12, .iconst 0, 1), (13, .ireturn, 1), (14, .astore_n 2, 1), (15, .ldc 18, 2), (17, .ireturn, 1)]
theorem dk_L_isWhole : ∀ q ∈ dl_L_isWhole, decode cL_isWhole q.1 = .ok q.2 := by decide +kernel
def cd_L_isWhole : List (Nat × m_Op) := [(0, o_aload 0 1), (1, o_iload 1 2), (2, o_callh 7 33 2 1 6 5 [(m_ios, 15, 2)]), (5, o_ifeq 12 8), (8, o_const (1) 9), (9, o_goto 13), (12, o_const (0) 13), (13, o_ireturn), (14, o_astore 2 15), (15, o_const (-1000001) 17), (17, o_ireturn)]
theorem hx_L_isWhole : ∀ (E' : String) (tg k : Nat), m_hd E' [(m_ios, 15, 2)] = some (tg, k) → ∃ (pre suf : List ExceptionTableEntry) (x : ExceptionTableEntry) (nm : String), tableOf hh_L_isWhole = pre ++ x :: suf ∧ (∀ z ∈ pre, z.catchType ≠ 0 ∧ ∃ nm9 : String, Cond.classLink RL z.catchType nm9 ∈ m_WS ∧ (E', nm9) ∈ m_ncs) ∧ covers x 2 = true ∧ x.catchType ≠ 0 ∧ Cond.classLink RL x.catchType nm ∈ m_WS ∧ Cond.castable E' nm ∈ m_CW ∧ k < 3 ∧ ((decode cL_isWhole x.handlerPc = .ok (.astore k, 2) ∧ x.handlerPc + 2 = tg) ∨ ∃ k4 : Fin 4, (k4 : Nat) = k ∧ decode cL_isWhole x.handlerPc = .ok (.astore_n k4, 1) ∧ x.handlerPc + 1 = tg) := by
  intro E' tg k h
  simp only [m_hd] at h
  split at h
  · rename_i he
    cases h
    subst he
    exact ⟨tableOf [], tableOf [], ⟨0, 13, 14, 16⟩, m_ios, rfl, (fun _ h => nomatch h), by decide, by decide, wd_386, m_wc 417 (by decide +kernel) rfl, by decide, Or.inr ⟨_, rfl, (m_dk dk_L_isWhole 8 rfl), rfl⟩⟩
  · cases h
set_option maxRecDepth 20000 in
set_option maxHeartbeats 4000000 in
theorem ok_L_isWhole {GP : m_G → Prop} : ∀ q ∈ cd_L_isWhole, m_OK GP m_my (cL_isWhole, 3, RL, false, (some .int), hh_L_isWhole) q.1 q.2 :=
  m_cn (pc := 0) (ok_aload_n (m_dk dk_L_isWhole 0 rfl) rfl rfl) <|
  m_cn (pc := 1) (ok_iload_n (m_dk dk_L_isWhole 1 rfl) rfl rfl) <|
  m_cn (pc := 2) (ok_callh (T := mt_X6_isWhole) my_X6_isWhole rfl cw_X6_isWhole rfl rfl (by decide) (r9 := (RX6, TX6, 15)) rfl rfl wd_480 wd_481 wd_482 wd_1 (by decide +kernel) (by decide) hx_L_isWhole (m_dk dk_L_isWhole 2 rfl) rfl (by decide)) <|
  m_cn (pc := 5) (ok_ifeq (m_dk dk_L_isWhole 3 rfl) rfl rfl) <|
  m_cn (pc := 8) (ok_iconst (m_dk dk_L_isWhole 4 rfl) (by decide) rfl) <|
  m_cn (pc := 9) (ok_goto (nx := 0) (m_dk dk_L_isWhole 5 rfl) rfl) <|
  m_cn (pc := 12) (ok_iconst (m_dk dk_L_isWhole 6 rfl) (by decide) rfl) <|
  m_cn (pc := 13) (ok_ireturn (nx := 0) rfl (m_dk dk_L_isWhole 7 rfl)) <|
  m_cn (pc := 14) (ok_astore_n (m_dk dk_L_isWhole 8 rfl) rfl rfl (by decide)) <|
  m_cn (pc := 15) (ok_ldc (m_dk dk_L_isWhole 9 rfl) wd_465 rfl) <|
  m_cn (pc := 17) (ok_ireturn (nx := 0) rfl (m_dk dk_L_isWhole 10 rfl)) <|
  m_nl
theorem mk_L_isWhole {GP : m_G → Prop} {cds : Nat → Nat → m_Op} (h : cds 88 = m_lk cd_L_isWhole) : m_MOK GP m_my cds 88 := ⟨RL, false, hh_L_isWhole, by decide +kernel, rfl, (fun h9 => by first | rfl | cases h9), Or.inr ⟨by decide, rfl⟩, fun pc => by rw [h]; exact m_lk_ok _ ok_L_isWhole pc⟩
def dl_L_way : List (Nat × Instr × Nat) := [(0, .aload_n 0, 1), (1, .iload_n 1, 1), (2, .invokevirtual 61, 3), (5, .ireturn, 1), (6, .astore_n 2, 1), (7, .ldc 18, 2), (9, .ireturn, 1)]
theorem dk_L_way : ∀ q ∈ dl_L_way, decode cL_way q.1 = .ok q.2 := by decide +kernel
def cd_L_way : List (Nat × m_Op) := [(0, o_aload 0 1), (1, o_iload 1 2), (2, o_callh 7 34 2 1 6 5 [(m_ios, 7, 2)]), (5, o_ireturn), (6, o_astore 2 7), (7, o_const (-1000001) 9), (9, o_ireturn)]
theorem hx_L_way : ∀ (E' : String) (tg k : Nat), m_hd E' [(m_ios, 7, 2)] = some (tg, k) → ∃ (pre suf : List ExceptionTableEntry) (x : ExceptionTableEntry) (nm : String), tableOf hh_L_way = pre ++ x :: suf ∧ (∀ z ∈ pre, z.catchType ≠ 0 ∧ ∃ nm9 : String, Cond.classLink RL z.catchType nm9 ∈ m_WS ∧ (E', nm9) ∈ m_ncs) ∧ covers x 2 = true ∧ x.catchType ≠ 0 ∧ Cond.classLink RL x.catchType nm ∈ m_WS ∧ Cond.castable E' nm ∈ m_CW ∧ k < 3 ∧ ((decode cL_way x.handlerPc = .ok (.astore k, 2) ∧ x.handlerPc + 2 = tg) ∨ ∃ k4 : Fin 4, (k4 : Nat) = k ∧ decode cL_way x.handlerPc = .ok (.astore_n k4, 1) ∧ x.handlerPc + 1 = tg) := by
  intro E' tg k h
  simp only [m_hd] at h
  split at h
  · rename_i he
    cases h
    subst he
    exact ⟨tableOf [], tableOf [], ⟨0, 5, 6, 16⟩, m_ios, rfl, (fun _ h => nomatch h), by decide, by decide, wd_386, m_wc 417 (by decide +kernel) rfl, by decide, Or.inr ⟨_, rfl, (m_dk dk_L_way 4 rfl), rfl⟩⟩
  · cases h
set_option maxRecDepth 20000 in
set_option maxHeartbeats 4000000 in
theorem ok_L_way {GP : m_G → Prop} : ∀ q ∈ cd_L_way, m_OK GP m_my (cL_way, 3, RL, false, (some .int), hh_L_way) q.1 q.2 :=
  m_cn (pc := 0) (ok_aload_n (m_dk dk_L_way 0 rfl) rfl rfl) <|
  m_cn (pc := 1) (ok_iload_n (m_dk dk_L_way 1 rfl) rfl rfl) <|
  m_cn (pc := 2) (ok_callh (T := mt_X6_way) my_X6_way rfl cw_X6_way rfl rfl (by decide) (r9 := (RX6, TX6, 15)) rfl rfl wd_527 wd_528 wd_529 wd_1 (by decide +kernel) (by decide) hx_L_way (m_dk dk_L_way 2 rfl) rfl (by decide)) <|
  m_cn (pc := 5) (ok_ireturn (nx := 0) rfl (m_dk dk_L_way 3 rfl)) <|
  m_cn (pc := 6) (ok_astore_n (m_dk dk_L_way 4 rfl) rfl rfl (by decide)) <|
  m_cn (pc := 7) (ok_ldc (m_dk dk_L_way 5 rfl) wd_465 rfl) <|
  m_cn (pc := 9) (ok_ireturn (nx := 0) rfl (m_dk dk_L_way 6 rfl)) <|
  m_nl
theorem mk_L_way {GP : m_G → Prop} {cds : Nat → Nat → m_Op} (h : cds 89 = m_lk cd_L_way) : m_MOK GP m_my cds 89 := ⟨RL, false, hh_L_way, by decide +kernel, rfl, (fun h9 => by first | rfl | cases h9), Or.inr ⟨by decide, rfl⟩, fun pc => by rw [h]; exact m_lk_ok _ ok_L_way pc⟩
def dl_L_lent : List (Nat × Instr × Nat) := [(0, .aload_n 0, 1), (1, .iload_n 1, 1), (2, .invokevirtual 64, 3), (5, .ireturn, 1), (6, .astore_n 2, 1), (7, .ldc 18, 2), (9, .ireturn, 1)]
theorem dk_L_lent : ∀ q ∈ dl_L_lent, decode cL_lent q.1 = .ok q.2 := by decide +kernel
def cd_L_lent : List (Nat × m_Op) := [(0, o_aload 0 1), (1, o_iload 1 2), (2, o_callh 7 35 2 1 6 5 [(m_ios, 7, 2)]), (5, o_ireturn), (6, o_astore 2 7), (7, o_const (-1000001) 9), (9, o_ireturn)]
theorem hx_L_lent : ∀ (E' : String) (tg k : Nat), m_hd E' [(m_ios, 7, 2)] = some (tg, k) → ∃ (pre suf : List ExceptionTableEntry) (x : ExceptionTableEntry) (nm : String), tableOf hh_L_lent = pre ++ x :: suf ∧ (∀ z ∈ pre, z.catchType ≠ 0 ∧ ∃ nm9 : String, Cond.classLink RL z.catchType nm9 ∈ m_WS ∧ (E', nm9) ∈ m_ncs) ∧ covers x 2 = true ∧ x.catchType ≠ 0 ∧ Cond.classLink RL x.catchType nm ∈ m_WS ∧ Cond.castable E' nm ∈ m_CW ∧ k < 3 ∧ ((decode cL_lent x.handlerPc = .ok (.astore k, 2) ∧ x.handlerPc + 2 = tg) ∨ ∃ k4 : Fin 4, (k4 : Nat) = k ∧ decode cL_lent x.handlerPc = .ok (.astore_n k4, 1) ∧ x.handlerPc + 1 = tg) := by
  intro E' tg k h
  simp only [m_hd] at h
  split at h
  · rename_i he
    cases h
    subst he
    exact ⟨tableOf [], tableOf [], ⟨0, 5, 6, 16⟩, m_ios, rfl, (fun _ h => nomatch h), by decide, by decide, wd_386, m_wc 417 (by decide +kernel) rfl, by decide, Or.inr ⟨_, rfl, (m_dk dk_L_lent 4 rfl), rfl⟩⟩
  · cases h
set_option maxRecDepth 20000 in
set_option maxHeartbeats 4000000 in
theorem ok_L_lent {GP : m_G → Prop} : ∀ q ∈ cd_L_lent, m_OK GP m_my (cL_lent, 3, RL, false, (some .int), hh_L_lent) q.1 q.2 :=
  m_cn (pc := 0) (ok_aload_n (m_dk dk_L_lent 0 rfl) rfl rfl) <|
  m_cn (pc := 1) (ok_iload_n (m_dk dk_L_lent 1 rfl) rfl rfl) <|
  m_cn (pc := 2) (ok_callh (T := mt_X6_lent) my_X6_lent rfl cw_X6_lent rfl rfl (by decide) (r9 := (RX6, TX6, 15)) rfl rfl wd_534 wd_535 wd_536 wd_1 (by decide +kernel) (by decide) hx_L_lent (m_dk dk_L_lent 2 rfl) rfl (by decide)) <|
  m_cn (pc := 5) (ok_ireturn (nx := 0) rfl (m_dk dk_L_lent 3 rfl)) <|
  m_cn (pc := 6) (ok_astore_n (m_dk dk_L_lent 4 rfl) rfl rfl (by decide)) <|
  m_cn (pc := 7) (ok_ldc (m_dk dk_L_lent 5 rfl) wd_465 rfl) <|
  m_cn (pc := 9) (ok_ireturn (nx := 0) rfl (m_dk dk_L_lent 6 rfl)) <|
  m_nl
theorem mk_L_lent {GP : m_G → Prop} {cds : Nat → Nat → m_Op} (h : cds 90 = m_lk cd_L_lent) : m_MOK GP m_my cds 90 := ⟨RL, false, hh_L_lent, by decide +kernel, rfl, (fun h9 => by first | rfl | cases h9), Or.inr ⟨by decide, rfl⟩, fun pc => by rw [h]; exact m_lk_ok _ ok_L_lent pc⟩
def dl_L_owes : List (Nat × Instr × Nat) := [(0, .aload_n 0, 1), (1, .iload_n 1, 1), (2, .iload_n 2, 1), (3, .invokevirtual 67, 3), (6, .ireturn, 1), (7, .astore_n 3, 1), (8, .ldc 18, 2), (10, .ireturn, 1)]
theorem dk_L_owes : ∀ q ∈ dl_L_owes, decode cL_owes q.1 = .ok q.2 := by decide +kernel
def cd_L_owes : List (Nat × m_Op) := [(0, o_aload 0 1), (1, o_iload 1 2), (2, o_iload 2 3), (3, o_callh 7 36 3 2 12 6 [(m_ios, 8, 3)]), (6, o_ireturn), (7, o_astore 3 8), (8, o_const (-1000001) 10), (10, o_ireturn)]
theorem hx_L_owes : ∀ (E' : String) (tg k : Nat), m_hd E' [(m_ios, 8, 3)] = some (tg, k) → ∃ (pre suf : List ExceptionTableEntry) (x : ExceptionTableEntry) (nm : String), tableOf hh_L_owes = pre ++ x :: suf ∧ (∀ z ∈ pre, z.catchType ≠ 0 ∧ ∃ nm9 : String, Cond.classLink RL z.catchType nm9 ∈ m_WS ∧ (E', nm9) ∈ m_ncs) ∧ covers x 3 = true ∧ x.catchType ≠ 0 ∧ Cond.classLink RL x.catchType nm ∈ m_WS ∧ Cond.castable E' nm ∈ m_CW ∧ k < 4 ∧ ((decode cL_owes x.handlerPc = .ok (.astore k, 2) ∧ x.handlerPc + 2 = tg) ∨ ∃ k4 : Fin 4, (k4 : Nat) = k ∧ decode cL_owes x.handlerPc = .ok (.astore_n k4, 1) ∧ x.handlerPc + 1 = tg) := by
  intro E' tg k h
  simp only [m_hd] at h
  split at h
  · rename_i he
    cases h
    subst he
    exact ⟨tableOf [], tableOf [], ⟨0, 6, 7, 16⟩, m_ios, rfl, (fun _ h => nomatch h), by decide, by decide, wd_386, m_wc 417 (by decide +kernel) rfl, by decide, Or.inr ⟨_, rfl, (m_dk dk_L_owes 5 rfl), rfl⟩⟩
  · cases h
set_option maxRecDepth 20000 in
set_option maxHeartbeats 4000000 in
theorem ok_L_owes {GP : m_G → Prop} : ∀ q ∈ cd_L_owes, m_OK GP m_my (cL_owes, 4, RL, false, (some .int), hh_L_owes) q.1 q.2 :=
  m_cn (pc := 0) (ok_aload_n (m_dk dk_L_owes 0 rfl) rfl rfl) <|
  m_cn (pc := 1) (ok_iload_n (m_dk dk_L_owes 1 rfl) rfl rfl) <|
  m_cn (pc := 2) (ok_iload_n (m_dk dk_L_owes 2 rfl) rfl rfl) <|
  m_cn (pc := 3) (ok_callh (T := mt_X6_owes) my_X6_owes rfl cw_X6_owes rfl rfl (by decide) (r9 := (RX6, TX6, 15)) rfl rfl wd_750 wd_751 wd_752 wd_1 (by decide +kernel) (by decide) hx_L_owes (m_dk dk_L_owes 3 rfl) rfl (by decide)) <|
  m_cn (pc := 6) (ok_ireturn (nx := 0) rfl (m_dk dk_L_owes 4 rfl)) <|
  m_cn (pc := 7) (ok_astore_n (m_dk dk_L_owes 5 rfl) rfl rfl (by decide)) <|
  m_cn (pc := 8) (ok_ldc (m_dk dk_L_owes 6 rfl) wd_465 rfl) <|
  m_cn (pc := 10) (ok_ireturn (nx := 0) rfl (m_dk dk_L_owes 7 rfl)) <|
  m_nl
theorem mk_L_owes {GP : m_G → Prop} {cds : Nat → Nat → m_Op} (h : cds 91 = m_lk cd_L_owes) : m_MOK GP m_my cds 91 := ⟨RL, false, hh_L_owes, by decide +kernel, rfl, (fun h9 => by first | rfl | cases h9), Or.inr ⟨by decide, rfl⟩, fun pc => by rw [h]; exact m_lk_ok _ ok_L_owes pc⟩
def dl_L_owesAnew : List (Nat × Instr × Nat) := [(0, .aload_n 0, 1), (1, .iload_n 1, 1), (2, .iload_n 2, 1), (3, .invokevirtual 70, 3), (6, .ireturn, 1), (7, .astore_n 3, 1), (8, .ldc 18, 2), (10, .ireturn, 1)]
theorem dk_L_owesAnew : ∀ q ∈ dl_L_owesAnew, decode cL_owesAnew q.1 = .ok q.2 := by decide +kernel
def cd_L_owesAnew : List (Nat × m_Op) := [(0, o_aload 0 1), (1, o_iload 1 2), (2, o_iload 2 3), (3, o_callh 7 37 3 2 12 6 [(m_ios, 8, 3)]), (6, o_ireturn), (7, o_astore 3 8), (8, o_const (-1000001) 10), (10, o_ireturn)]
theorem hx_L_owesAnew : ∀ (E' : String) (tg k : Nat), m_hd E' [(m_ios, 8, 3)] = some (tg, k) → ∃ (pre suf : List ExceptionTableEntry) (x : ExceptionTableEntry) (nm : String), tableOf hh_L_owesAnew = pre ++ x :: suf ∧ (∀ z ∈ pre, z.catchType ≠ 0 ∧ ∃ nm9 : String, Cond.classLink RL z.catchType nm9 ∈ m_WS ∧ (E', nm9) ∈ m_ncs) ∧ covers x 3 = true ∧ x.catchType ≠ 0 ∧ Cond.classLink RL x.catchType nm ∈ m_WS ∧ Cond.castable E' nm ∈ m_CW ∧ k < 4 ∧ ((decode cL_owesAnew x.handlerPc = .ok (.astore k, 2) ∧ x.handlerPc + 2 = tg) ∨ ∃ k4 : Fin 4, (k4 : Nat) = k ∧ decode cL_owesAnew x.handlerPc = .ok (.astore_n k4, 1) ∧ x.handlerPc + 1 = tg) := by
  intro E' tg k h
  simp only [m_hd] at h
  split at h
  · rename_i he
    cases h
    subst he
    exact ⟨tableOf [], tableOf [], ⟨0, 6, 7, 16⟩, m_ios, rfl, (fun _ h => nomatch h), by decide, by decide, wd_386, m_wc 417 (by decide +kernel) rfl, by decide, Or.inr ⟨_, rfl, (m_dk dk_L_owesAnew 5 rfl), rfl⟩⟩
  · cases h
set_option maxRecDepth 20000 in
set_option maxHeartbeats 4000000 in
theorem ok_L_owesAnew {GP : m_G → Prop} : ∀ q ∈ cd_L_owesAnew, m_OK GP m_my (cL_owesAnew, 4, RL, false, (some .int), hh_L_owesAnew) q.1 q.2 :=
  m_cn (pc := 0) (ok_aload_n (m_dk dk_L_owesAnew 0 rfl) rfl rfl) <|
  m_cn (pc := 1) (ok_iload_n (m_dk dk_L_owesAnew 1 rfl) rfl rfl) <|
  m_cn (pc := 2) (ok_iload_n (m_dk dk_L_owesAnew 2 rfl) rfl rfl) <|
  m_cn (pc := 3) (ok_callh (T := mt_X6_owesAnew) my_X6_owesAnew rfl cw_X6_owesAnew rfl rfl (by decide) (r9 := (RX6, TX6, 15)) rfl rfl wd_775 wd_776 wd_777 wd_1 (by decide +kernel) (by decide) hx_L_owesAnew (m_dk dk_L_owesAnew 3 rfl) rfl (by decide)) <|
  m_cn (pc := 6) (ok_ireturn (nx := 0) rfl (m_dk dk_L_owesAnew 4 rfl)) <|
  m_cn (pc := 7) (ok_astore_n (m_dk dk_L_owesAnew 5 rfl) rfl rfl (by decide)) <|
  m_cn (pc := 8) (ok_ldc (m_dk dk_L_owesAnew 6 rfl) wd_465 rfl) <|
  m_cn (pc := 10) (ok_ireturn (nx := 0) rfl (m_dk dk_L_owesAnew 7 rfl)) <|
  m_nl
theorem mk_L_owesAnew {GP : m_G → Prop} {cds : Nat → Nat → m_Op} (h : cds 92 = m_lk cd_L_owesAnew) : m_MOK GP m_my cds 92 := ⟨RL, false, hh_L_owesAnew, by decide +kernel, rfl, (fun h9 => by first | rfl | cases h9), Or.inr ⟨by decide, rfl⟩, fun pc => by rw [h]; exact m_lk_ok _ ok_L_owesAnew pc⟩
def dl_L_account : List (Nat × Instr × Nat) := [(0, .aload_n 0, 1), (1, .iload_n 1, 1), (2, .invokevirtual 73, 3), (5, .ireturn, 1), (6, .astore_n 2, 1), (7, .ldc 18, 2), (9, .ireturn, 1)]
theorem dk_L_account : ∀ q ∈ dl_L_account, decode cL_account q.1 = .ok q.2 := by decide +kernel
def cd_L_account : List (Nat × m_Op) := [(0, o_aload 0 1), (1, o_iload 1 2), (2, o_callh 7 38 2 1 6 5 [(m_ios, 7, 2)]), (5, o_ireturn), (6, o_astore 2 7), (7, o_const (-1000001) 9), (9, o_ireturn)]
theorem hx_L_account : ∀ (E' : String) (tg k : Nat), m_hd E' [(m_ios, 7, 2)] = some (tg, k) → ∃ (pre suf : List ExceptionTableEntry) (x : ExceptionTableEntry) (nm : String), tableOf hh_L_account = pre ++ x :: suf ∧ (∀ z ∈ pre, z.catchType ≠ 0 ∧ ∃ nm9 : String, Cond.classLink RL z.catchType nm9 ∈ m_WS ∧ (E', nm9) ∈ m_ncs) ∧ covers x 2 = true ∧ x.catchType ≠ 0 ∧ Cond.classLink RL x.catchType nm ∈ m_WS ∧ Cond.castable E' nm ∈ m_CW ∧ k < 3 ∧ ((decode cL_account x.handlerPc = .ok (.astore k, 2) ∧ x.handlerPc + 2 = tg) ∨ ∃ k4 : Fin 4, (k4 : Nat) = k ∧ decode cL_account x.handlerPc = .ok (.astore_n k4, 1) ∧ x.handlerPc + 1 = tg) := by
  intro E' tg k h
  simp only [m_hd] at h
  split at h
  · rename_i he
    cases h
    subst he
    exact ⟨tableOf [], tableOf [], ⟨0, 5, 6, 16⟩, m_ios, rfl, (fun _ h => nomatch h), by decide, by decide, wd_386, m_wc 417 (by decide +kernel) rfl, by decide, Or.inr ⟨_, rfl, (m_dk dk_L_account 4 rfl), rfl⟩⟩
  · cases h
set_option maxRecDepth 20000 in
set_option maxHeartbeats 4000000 in
theorem ok_L_account {GP : m_G → Prop} : ∀ q ∈ cd_L_account, m_OK GP m_my (cL_account, 3, RL, false, (some .int), hh_L_account) q.1 q.2 :=
  m_cn (pc := 0) (ok_aload_n (m_dk dk_L_account 0 rfl) rfl rfl) <|
  m_cn (pc := 1) (ok_iload_n (m_dk dk_L_account 1 rfl) rfl rfl) <|
  m_cn (pc := 2) (ok_callh (T := mt_X6_account) my_X6_account rfl cw_X6_account rfl rfl (by decide) (r9 := (RX6, TX6, 15)) rfl rfl wd_572 wd_573 wd_574 wd_1 (by decide +kernel) (by decide) hx_L_account (m_dk dk_L_account 2 rfl) rfl (by decide)) <|
  m_cn (pc := 5) (ok_ireturn (nx := 0) rfl (m_dk dk_L_account 3 rfl)) <|
  m_cn (pc := 6) (ok_astore_n (m_dk dk_L_account 4 rfl) rfl rfl (by decide)) <|
  m_cn (pc := 7) (ok_ldc (m_dk dk_L_account 5 rfl) wd_465 rfl) <|
  m_cn (pc := 9) (ok_ireturn (nx := 0) rfl (m_dk dk_L_account 6 rfl)) <|
  m_nl
theorem mk_L_account {GP : m_G → Prop} {cds : Nat → Nat → m_Op} (h : cds 93 = m_lk cd_L_account) : m_MOK GP m_my cds 93 := ⟨RL, false, hh_L_account, by decide +kernel, rfl, (fun h9 => by first | rfl | cases h9), Or.inr ⟨by decide, rfl⟩, fun pc => by rw [h]; exact m_lk_ok _ ok_L_account pc⟩
def dl_L_sold : List (Nat × Instr × Nat) := [(0, .aload_n 0, 1), (1, .iload_n 1, 1), (2, .iload_n 2, 1), (3, .invokevirtual 76, 3), (6, .ireturn, 1), (7, .astore_n 3, 1), (8, .ldc 18, 2), (10, .ireturn, 1)]
theorem dk_L_sold : ∀ q ∈ dl_L_sold, decode cL_sold q.1 = .ok q.2 := by decide +kernel
def cd_L_sold : List (Nat × m_Op) := [(0, o_aload 0 1), (1, o_iload 1 2), (2, o_iload 2 3), (3, o_callh 7 40 3 2 12 6 [(m_ios, 8, 3)]), (6, o_ireturn), (7, o_astore 3 8), (8, o_const (-1000001) 10), (10, o_ireturn)]
theorem hx_L_sold : ∀ (E' : String) (tg k : Nat), m_hd E' [(m_ios, 8, 3)] = some (tg, k) → ∃ (pre suf : List ExceptionTableEntry) (x : ExceptionTableEntry) (nm : String), tableOf hh_L_sold = pre ++ x :: suf ∧ (∀ z ∈ pre, z.catchType ≠ 0 ∧ ∃ nm9 : String, Cond.classLink RL z.catchType nm9 ∈ m_WS ∧ (E', nm9) ∈ m_ncs) ∧ covers x 3 = true ∧ x.catchType ≠ 0 ∧ Cond.classLink RL x.catchType nm ∈ m_WS ∧ Cond.castable E' nm ∈ m_CW ∧ k < 4 ∧ ((decode cL_sold x.handlerPc = .ok (.astore k, 2) ∧ x.handlerPc + 2 = tg) ∨ ∃ k4 : Fin 4, (k4 : Nat) = k ∧ decode cL_sold x.handlerPc = .ok (.astore_n k4, 1) ∧ x.handlerPc + 1 = tg) := by
  intro E' tg k h
  simp only [m_hd] at h
  split at h
  · rename_i he
    cases h
    subst he
    exact ⟨tableOf [], tableOf [], ⟨0, 6, 7, 16⟩, m_ios, rfl, (fun _ h => nomatch h), by decide, by decide, wd_386, m_wc 417 (by decide +kernel) rfl, by decide, Or.inr ⟨_, rfl, (m_dk dk_L_sold 5 rfl), rfl⟩⟩
  · cases h
set_option maxRecDepth 20000 in
set_option maxHeartbeats 4000000 in
theorem ok_L_sold {GP : m_G → Prop} : ∀ q ∈ cd_L_sold, m_OK GP m_my (cL_sold, 4, RL, false, (some .int), hh_L_sold) q.1 q.2 :=
  m_cn (pc := 0) (ok_aload_n (m_dk dk_L_sold 0 rfl) rfl rfl) <|
  m_cn (pc := 1) (ok_iload_n (m_dk dk_L_sold 1 rfl) rfl rfl) <|
  m_cn (pc := 2) (ok_iload_n (m_dk dk_L_sold 2 rfl) rfl rfl) <|
  m_cn (pc := 3) (ok_callh (T := mt_X6_sold) my_X6_sold rfl cw_X6_sold rfl rfl (by decide) (r9 := (RX6, TX6, 15)) rfl rfl wd_579 wd_580 wd_581 wd_1 (by decide +kernel) (by decide) hx_L_sold (m_dk dk_L_sold 3 rfl) rfl (by decide)) <|
  m_cn (pc := 6) (ok_ireturn (nx := 0) rfl (m_dk dk_L_sold 4 rfl)) <|
  m_cn (pc := 7) (ok_astore_n (m_dk dk_L_sold 5 rfl) rfl rfl (by decide)) <|
  m_cn (pc := 8) (ok_ldc (m_dk dk_L_sold 6 rfl) wd_465 rfl) <|
  m_cn (pc := 10) (ok_ireturn (nx := 0) rfl (m_dk dk_L_sold 7 rfl)) <|
  m_nl
theorem mk_L_sold {GP : m_G → Prop} {cds : Nat → Nat → m_Op} (h : cds 94 = m_lk cd_L_sold) : m_MOK GP m_my cds 94 := ⟨RL, false, hh_L_sold, by decide +kernel, rfl, (fun h9 => by first | rfl | cases h9), Or.inr ⟨by decide, rfl⟩, fun pc => by rw [h]; exact m_lk_ok _ ok_L_sold pc⟩
def dl_L_place : List (Nat × Instr × Nat) := [(0, .aload_n 0, 1), (1, .iload_n 1, 1), (2, .invokevirtual 79, 3), (5, .ireturn, 1), (6, .astore_n 2, 1), (7, .ldc 18, 2), (9, .ireturn, 1)]
theorem dk_L_place : ∀ q ∈ dl_L_place, decode cL_place q.1 = .ok q.2 := by decide +kernel
def cd_L_place : List (Nat × m_Op) := [(0, o_aload 0 1), (1, o_iload 1 2), (2, o_callh 7 41 2 1 6 5 [(m_ios, 7, 2)]), (5, o_ireturn), (6, o_astore 2 7), (7, o_const (-1000001) 9), (9, o_ireturn)]
theorem hx_L_place : ∀ (E' : String) (tg k : Nat), m_hd E' [(m_ios, 7, 2)] = some (tg, k) → ∃ (pre suf : List ExceptionTableEntry) (x : ExceptionTableEntry) (nm : String), tableOf hh_L_place = pre ++ x :: suf ∧ (∀ z ∈ pre, z.catchType ≠ 0 ∧ ∃ nm9 : String, Cond.classLink RL z.catchType nm9 ∈ m_WS ∧ (E', nm9) ∈ m_ncs) ∧ covers x 2 = true ∧ x.catchType ≠ 0 ∧ Cond.classLink RL x.catchType nm ∈ m_WS ∧ Cond.castable E' nm ∈ m_CW ∧ k < 3 ∧ ((decode cL_place x.handlerPc = .ok (.astore k, 2) ∧ x.handlerPc + 2 = tg) ∨ ∃ k4 : Fin 4, (k4 : Nat) = k ∧ decode cL_place x.handlerPc = .ok (.astore_n k4, 1) ∧ x.handlerPc + 1 = tg) := by
  intro E' tg k h
  simp only [m_hd] at h
  split at h
  · rename_i he
    cases h
    subst he
    exact ⟨tableOf [], tableOf [], ⟨0, 5, 6, 16⟩, m_ios, rfl, (fun _ h => nomatch h), by decide, by decide, wd_386, m_wc 417 (by decide +kernel) rfl, by decide, Or.inr ⟨_, rfl, (m_dk dk_L_place 4 rfl), rfl⟩⟩
  · cases h
set_option maxRecDepth 20000 in
set_option maxHeartbeats 4000000 in
theorem ok_L_place {GP : m_G → Prop} : ∀ q ∈ cd_L_place, m_OK GP m_my (cL_place, 3, RL, false, (some .int), hh_L_place) q.1 q.2 :=
  m_cn (pc := 0) (ok_aload_n (m_dk dk_L_place 0 rfl) rfl rfl) <|
  m_cn (pc := 1) (ok_iload_n (m_dk dk_L_place 1 rfl) rfl rfl) <|
  m_cn (pc := 2) (ok_callh (T := mt_X6_place) my_X6_place rfl cw_X6_place rfl rfl (by decide) (r9 := (RX6, TX6, 15)) rfl rfl wd_761 wd_762 wd_763 wd_1 (by decide +kernel) (by decide) hx_L_place (m_dk dk_L_place 2 rfl) rfl (by decide)) <|
  m_cn (pc := 5) (ok_ireturn (nx := 0) rfl (m_dk dk_L_place 3 rfl)) <|
  m_cn (pc := 6) (ok_astore_n (m_dk dk_L_place 4 rfl) rfl rfl (by decide)) <|
  m_cn (pc := 7) (ok_ldc (m_dk dk_L_place 5 rfl) wd_465 rfl) <|
  m_cn (pc := 9) (ok_ireturn (nx := 0) rfl (m_dk dk_L_place 6 rfl)) <|
  m_nl
theorem mk_L_place {GP : m_G → Prop} {cds : Nat → Nat → m_Op} (h : cds 95 = m_lk cd_L_place) : m_MOK GP m_my cds 95 := ⟨RL, false, hh_L_place, by decide +kernel, rfl, (fun h9 => by first | rfl | cases h9), Or.inr ⟨by decide, rfl⟩, fun pc => by rw [h]; exact m_lk_ok _ ok_L_place pc⟩
def dl_L_worked : List (Nat × Instr × Nat) := [(0, .aload_n 0, 1), (1, .iload_n 1, 1), (2, .invokevirtual 82, 3), (5, .ireturn, 1), (6, .astore_n 2, 1), (7, .ldc 18, 2), (9, .ireturn, 1)]
theorem dk_L_worked : ∀ q ∈ dl_L_worked, decode cL_worked q.1 = .ok q.2 := by decide +kernel
def cd_L_worked : List (Nat × m_Op) := [(0, o_aload 0 1), (1, o_iload 1 2), (2, o_callh 7 42 2 1 6 5 [(m_ios, 7, 2)]), (5, o_ireturn), (6, o_astore 2 7), (7, o_const (-1000001) 9), (9, o_ireturn)]
theorem hx_L_worked : ∀ (E' : String) (tg k : Nat), m_hd E' [(m_ios, 7, 2)] = some (tg, k) → ∃ (pre suf : List ExceptionTableEntry) (x : ExceptionTableEntry) (nm : String), tableOf hh_L_worked = pre ++ x :: suf ∧ (∀ z ∈ pre, z.catchType ≠ 0 ∧ ∃ nm9 : String, Cond.classLink RL z.catchType nm9 ∈ m_WS ∧ (E', nm9) ∈ m_ncs) ∧ covers x 2 = true ∧ x.catchType ≠ 0 ∧ Cond.classLink RL x.catchType nm ∈ m_WS ∧ Cond.castable E' nm ∈ m_CW ∧ k < 3 ∧ ((decode cL_worked x.handlerPc = .ok (.astore k, 2) ∧ x.handlerPc + 2 = tg) ∨ ∃ k4 : Fin 4, (k4 : Nat) = k ∧ decode cL_worked x.handlerPc = .ok (.astore_n k4, 1) ∧ x.handlerPc + 1 = tg) := by
  intro E' tg k h
  simp only [m_hd] at h
  split at h
  · rename_i he
    cases h
    subst he
    exact ⟨tableOf [], tableOf [], ⟨0, 5, 6, 16⟩, m_ios, rfl, (fun _ h => nomatch h), by decide, by decide, wd_386, m_wc 417 (by decide +kernel) rfl, by decide, Or.inr ⟨_, rfl, (m_dk dk_L_worked 4 rfl), rfl⟩⟩
  · cases h
set_option maxRecDepth 20000 in
set_option maxHeartbeats 4000000 in
theorem ok_L_worked {GP : m_G → Prop} : ∀ q ∈ cd_L_worked, m_OK GP m_my (cL_worked, 3, RL, false, (some .int), hh_L_worked) q.1 q.2 :=
  m_cn (pc := 0) (ok_aload_n (m_dk dk_L_worked 0 rfl) rfl rfl) <|
  m_cn (pc := 1) (ok_iload_n (m_dk dk_L_worked 1 rfl) rfl rfl) <|
  m_cn (pc := 2) (ok_callh (T := mt_X6_worked) my_X6_worked rfl cw_X6_worked rfl rfl (by decide) (r9 := (RX6, TX6, 15)) rfl rfl wd_768 wd_769 wd_770 wd_1 (by decide +kernel) (by decide) hx_L_worked (m_dk dk_L_worked 2 rfl) rfl (by decide)) <|
  m_cn (pc := 5) (ok_ireturn (nx := 0) rfl (m_dk dk_L_worked 3 rfl)) <|
  m_cn (pc := 6) (ok_astore_n (m_dk dk_L_worked 4 rfl) rfl rfl (by decide)) <|
  m_cn (pc := 7) (ok_ldc (m_dk dk_L_worked 5 rfl) wd_465 rfl) <|
  m_cn (pc := 9) (ok_ireturn (nx := 0) rfl (m_dk dk_L_worked 6 rfl)) <|
  m_nl
theorem mk_L_worked {GP : m_G → Prop} {cds : Nat → Nat → m_Op} (h : cds 96 = m_lk cd_L_worked) : m_MOK GP m_my cds 96 := ⟨RL, false, hh_L_worked, by decide +kernel, rfl, (fun h9 => by first | rfl | cases h9), Or.inr ⟨by decide, rfl⟩, fun pc => by rw [h]; exact m_lk_ok _ ok_L_worked pc⟩
