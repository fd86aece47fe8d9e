set_option maxRecDepth 20000 in
theorem mm_L_adds : ∀ q, m_mono (m_lk cd_L_adds q) := m_mono_lk _ (m_mc mo_iload <| m_mc mo_const <| m_mc mo_bin <| m_mc mo_const <| m_mc mo_call <| m_mc mo_istore <| m_mc mo_iload <| m_mc mo_const <| m_mc mo_bin <| m_mc mo_iload <| m_mc mo_const <| m_mc mo_bin <| m_mc mo_const <| m_mc mo_call <| m_mc mo_bin <| m_mc mo_const <| m_mc mo_div <| m_mc mo_istore <| m_mc mo_iload <| m_mc mo_const <| m_mc mo_call <| m_mc mo_istore <| m_mc mo_iload <| m_mc mo_const <| m_mc mo_call <| m_mc mo_istore <| m_mc mo_iload <| m_mc mo_const <| m_mc mo_icmpge <| m_mc mo_const <| m_mc mo_iload <| m_mc mo_const <| m_mc mo_bin <| m_mc mo_const <| m_mc mo_call <| m_mc mo_bin <| m_mc mo_istore <| m_mc mo_aload <| m_mc mo_iload <| m_mc mo_iload <| m_mc mo_iload <| m_mc mo_iload <| m_mc mo_call <| m_mc mo_istore <| m_mc mo_aload <| m_mc mo_const <| m_mc mo_iald <| m_mc mo_const <| m_mc mo_icmpne <| m_mc mo_iload <| m_mc mo_const <| m_mc mo_icmpne <| m_mc mo_const <| m_mc mo_goto <| m_mc mo_const <| m_mc mo_zreturn <| m_mc mo_aload <| m_mc mo_const <| m_mc mo_aload <| m_mc mo_const <| m_mc mo_iald <| m_mc mo_bin <| m_mc mo_iload <| m_mc mo_iast <| m_mc mo_aload <| m_mc mo_const <| m_mc mo_aload <| m_mc mo_const <| m_mc mo_iald <| m_mc mo_bin <| m_mc mo_const <| m_mc mo_bin <| m_mc mo_iload <| m_mc mo_iast <| m_mc mo_aload <| m_mc mo_const <| m_mc mo_aload <| m_mc mo_const <| m_mc mo_iald <| m_mc mo_bin <| m_mc mo_const <| m_mc mo_bin <| m_mc mo_iload <| m_mc mo_iast <| m_mc mo_aload <| m_mc mo_const <| m_mc mo_dup2 <| m_mc mo_iald <| m_mc mo_const <| m_mc mo_bin <| m_mc mo_iast <| m_mc mo_iload <| m_mc mo_aload <| m_mc mo_const <| m_mc mo_iald <| m_mc mo_const <| m_mc mo_bin <| m_mc mo_icmpne <| m_mc mo_aload <| m_mc mo_iload <| m_mc mo_iload <| m_mc mo_call <| m_mc mo_iload <| m_mc mo_icmpne <| m_mc mo_aload <| m_mc mo_iload <| m_mc mo_call <| m_mc mo_const <| m_mc mo_icmpne <| m_mc mo_const <| m_mc mo_goto <| m_mc mo_const <| m_mc mo_zreturn <| m_mc mo_iload <| m_mc mo_const <| m_mc mo_icmpne <| m_mc mo_const <| m_mc mo_iload <| m_mc mo_const <| m_mc mo_bin <| m_mc mo_const <| m_mc mo_call <| m_mc mo_bin <| m_mc mo_istore <| m_mc mo_aload <| m_mc mo_iload <| m_mc mo_iload <| m_mc mo_iload <| m_mc mo_iload <| m_mc mo_call <| m_mc mo_istore <| m_mc mo_aload <| m_mc mo_const <| m_mc mo_iald <| m_mc mo_const <| m_mc mo_icmpne <| m_mc mo_iload <| m_mc mo_const <| m_mc mo_icmpne <| m_mc mo_const <| m_mc mo_goto <| m_mc mo_const <| m_mc mo_zreturn <| m_mc mo_aload <| m_mc mo_const <| m_mc mo_aload <| m_mc mo_const <| m_mc mo_iald <| m_mc mo_bin <| m_mc mo_iload <| m_mc mo_iast <| m_mc mo_aload <| m_mc mo_const <| m_mc mo_aload <| m_mc mo_const <| m_mc mo_iald <| m_mc mo_bin <| m_mc mo_const <| m_mc mo_bin <| m_mc mo_iload <| m_mc mo_iast <| m_mc mo_aload <| m_mc mo_const <| m_mc mo_aload <| m_mc mo_const <| m_mc mo_iald <| m_mc mo_bin <| m_mc mo_const <| m_mc mo_bin <| m_mc mo_iload <| m_mc mo_iast <| m_mc mo_aload <| m_mc mo_const <| m_mc mo_aload <| m_mc mo_const <| m_mc mo_iald <| m_mc mo_bin <| m_mc mo_const <| m_mc mo_bin <| m_mc mo_iload <| m_mc mo_iast <| m_mc mo_aload <| m_mc mo_const <| m_mc mo_dup2 <| m_mc mo_iald <| m_mc mo_const <| m_mc mo_bin <| m_mc mo_iast <| m_mc mo_iload <| m_mc mo_aload <| m_mc mo_const <| m_mc mo_iald <| m_mc mo_const <| m_mc mo_bin <| m_mc mo_icmpne <| m_mc mo_aload <| m_mc mo_iload <| m_mc mo_call <| m_mc mo_const <| m_mc mo_icmpne <| m_mc mo_aload <| m_mc mo_iload <| m_mc mo_call <| m_mc mo_ifne <| m_mc mo_const <| m_mc mo_goto <| m_mc mo_const <| m_mc mo_zreturn <| m_mc mo_aload <| m_mc mo_iload <| m_mc mo_const <| m_mc mo_iload <| m_mc mo_const <| m_mc mo_call <| m_mc mo_bin <| m_mc mo_iload <| m_mc mo_const <| m_mc mo_bin <| m_mc mo_const <| m_mc mo_call <| m_mc mo_call <| m_mc mo_istore <| m_mc mo_aload <| m_mc mo_const <| m_mc mo_dup2 <| m_mc mo_iald <| m_mc mo_aload <| m_mc mo_const <| m_mc mo_iald <| m_mc mo_const <| m_mc mo_icmpne <| m_mc mo_const <| m_mc mo_goto <| m_mc mo_const <| m_mc mo_bin <| m_mc mo_iast <| m_mc mo_iload <| m_mc mo_aload <| m_mc mo_const <| m_mc mo_iald <| m_mc mo_const <| m_mc mo_bin <| m_mc mo_icmpeq <| m_mc mo_iload <| m_mc mo_const <| m_mc mo_icmpne <| m_mc mo_const <| m_mc mo_goto <| m_mc mo_const <| m_mc mo_zreturn <| m_mn)
set_option maxRecDepth 20000 in
theorem xm_L_adds : ∀ q, m_ex (m_lk cd_L_adds q) := m_ex_lk _ (m_xc ex_iload <| m_xc ex_const <| m_xc ex_bin <| m_xc ex_const <| m_xc ex_call <| m_xc ex_istore <| m_xc ex_iload <| m_xc ex_const <| m_xc ex_bin <| m_xc ex_iload <| m_xc ex_const <| m_xc ex_bin <| m_xc ex_const <| m_xc ex_call <| m_xc ex_bin <| m_xc ex_const <| m_xc ex_div <| m_xc ex_istore <| m_xc ex_iload <| m_xc ex_const <| m_xc ex_call <| m_xc ex_istore <| m_xc ex_iload <| m_xc ex_const <| m_xc ex_call <| m_xc ex_istore <| m_xc ex_iload <| m_xc ex_const <| m_xc ex_icmpge <| m_xc ex_const <| m_xc ex_iload <| m_xc ex_const <| m_xc ex_bin <| m_xc ex_const <| m_xc ex_call <| m_xc ex_bin <| m_xc ex_istore <| m_xc ex_aload <| m_xc ex_iload <| m_xc ex_iload <| m_xc ex_iload <| m_xc ex_iload <| m_xc ex_call <| m_xc ex_istore <| m_xc ex_aload <| m_xc ex_const <| m_xc ex_iald <| m_xc ex_const <| m_xc ex_icmpne <| m_xc ex_iload <| m_xc ex_const <| m_xc ex_icmpne <| m_xc ex_const <| m_xc ex_goto <| m_xc ex_const <| m_xc ex_zreturn <| m_xc ex_aload <| m_xc ex_const <| m_xc ex_aload <| m_xc ex_const <| m_xc ex_iald <| m_xc ex_bin <| m_xc ex_iload <| m_xc ex_iast <| m_xc ex_aload <| m_xc ex_const <| m_xc ex_aload <| m_xc ex_const <| m_xc ex_iald <| m_xc ex_bin <| m_xc ex_const <| m_xc ex_bin <| m_xc ex_iload <| m_xc ex_iast <| m_xc ex_aload <| m_xc ex_const <| m_xc ex_aload <| m_xc ex_const <| m_xc ex_iald <| m_xc ex_bin <| m_xc ex_const <| m_xc ex_bin <| m_xc ex_iload <| m_xc ex_iast <| m_xc ex_aload <| m_xc ex_const <| m_xc ex_dup2 <| m_xc ex_iald <| m_xc ex_const <| m_xc ex_bin <| m_xc ex_iast <| m_xc ex_iload <| m_xc ex_aload <| m_xc ex_const <| m_xc ex_iald <| m_xc ex_const <| m_xc ex_bin <| m_xc ex_icmpne <| m_xc ex_aload <| m_xc ex_iload <| m_xc ex_iload <| m_xc ex_call <| m_xc ex_iload <| m_xc ex_icmpne <| m_xc ex_aload <| m_xc ex_iload <| m_xc ex_call <| m_xc ex_const <| m_xc ex_icmpne <| m_xc ex_const <| m_xc ex_goto <| m_xc ex_const <| m_xc ex_zreturn <| m_xc ex_iload <| m_xc ex_const <| m_xc ex_icmpne <| m_xc ex_const <| m_xc ex_iload <| m_xc ex_const <| m_xc ex_bin <| m_xc ex_const <| m_xc ex_call <| m_xc ex_bin <| m_xc ex_istore <| m_xc ex_aload <| m_xc ex_iload <| m_xc ex_iload <| m_xc ex_iload <| m_xc ex_iload <| m_xc ex_call <| m_xc ex_istore <| m_xc ex_aload <| m_xc ex_const <| m_xc ex_iald <| m_xc ex_const <| m_xc ex_icmpne <| m_xc ex_iload <| m_xc ex_const <| m_xc ex_icmpne <| m_xc ex_const <| m_xc ex_goto <| m_xc ex_const <| m_xc ex_zreturn <| m_xc ex_aload <| m_xc ex_const <| m_xc ex_aload <| m_xc ex_const <| m_xc ex_iald <| m_xc ex_bin <| m_xc ex_iload <| m_xc ex_iast <| m_xc ex_aload <| m_xc ex_const <| m_xc ex_aload <| m_xc ex_const <| m_xc ex_iald <| m_xc ex_bin <| m_xc ex_const <| m_xc ex_bin <| m_xc ex_iload <| m_xc ex_iast <| m_xc ex_aload <| m_xc ex_const <| m_xc ex_aload <| m_xc ex_const <| m_xc ex_iald <| m_xc ex_bin <| m_xc ex_const <| m_xc ex_bin <| m_xc ex_iload <| m_xc ex_iast <| m_xc ex_aload <| m_xc ex_const <| m_xc ex_aload <| m_xc ex_const <| m_xc ex_iald <| m_xc ex_bin <| m_xc ex_const <| m_xc ex_bin <| m_xc ex_iload <| m_xc ex_iast <| m_xc ex_aload <| m_xc ex_const <| m_xc ex_dup2 <| m_xc ex_iald <| m_xc ex_const <| m_xc ex_bin <| m_xc ex_iast <| m_xc ex_iload <| m_xc ex_aload <| m_xc ex_const <| m_xc ex_iald <| m_xc ex_const <| m_xc ex_bin <| m_xc ex_icmpne <| m_xc ex_aload <| m_xc ex_iload <| m_xc ex_call <| m_xc ex_const <| m_xc ex_icmpne <| m_xc ex_aload <| m_xc ex_iload <| m_xc ex_call <| m_xc ex_ifne <| m_xc ex_const <| m_xc ex_goto <| m_xc ex_const <| m_xc ex_zreturn <| m_xc ex_aload <| m_xc ex_iload <| m_xc ex_const <| m_xc ex_iload <| m_xc ex_const <| m_xc ex_call <| m_xc ex_bin <| m_xc ex_iload <| m_xc ex_const <| m_xc ex_bin <| m_xc ex_const <| m_xc ex_call <| m_xc ex_call <| m_xc ex_istore <| m_xc ex_aload <| m_xc ex_const <| m_xc ex_dup2 <| m_xc ex_iald <| m_xc ex_aload <| m_xc ex_const <| m_xc ex_iald <| m_xc ex_const <| m_xc ex_icmpne <| m_xc ex_const <| m_xc ex_goto <| m_xc ex_const <| m_xc ex_bin <| m_xc ex_iast <| m_xc ex_iload <| m_xc ex_aload <| m_xc ex_const <| m_xc ex_iald <| m_xc ex_const <| m_xc ex_bin <| m_xc ex_icmpeq <| m_xc ex_iload <| m_xc ex_const <| m_xc ex_icmpne <| m_xc ex_const <| m_xc ex_goto <| m_xc ex_const <| m_xc ex_zreturn <| m_xn)
set_option maxRecDepth 20000 in
theorem st_L_adds_0 {call : m_call} {r : m_R → m_S → Prop} {lo : m_L} {st : List Value} {bd : Nat × Nat} {S : m_S} : m_W1 (m_lk cd_L_adds) call r 0 lo st bd S = o_iload 4 2 call lo st bd S (m_W1 (m_lk cd_L_adds) call r) r := m_W1.iff rfl mm_L_adds
set_option maxRecDepth 20000 in
theorem st_L_adds_2 {call : m_call} {r : m_R → m_S → Prop} {lo : m_L} {st : List Value} {bd : Nat × Nat} {S : m_S} : m_W1 (m_lk cd_L_adds) call r 2 lo st bd S = o_const (2) 3 call lo st bd S (m_W1 (m_lk cd_L_adds) call r) r := m_W1.iff rfl mm_L_adds
set_option maxRecDepth 20000 in
theorem st_L_adds_3 {call : m_call} {r : m_R → m_S → Prop} {lo : m_L} {st : List Value} {bd : Nat × Nat} {S : m_S} : m_W1 (m_lk cd_L_adds) call r 3 lo st bd S = o_bin (fun x y => x >>> (y &&& 31)) 4 call lo st bd S (m_W1 (m_lk cd_L_adds) call r) r := m_W1.iff rfl mm_L_adds
set_option maxRecDepth 20000 in
theorem st_L_adds_4 {call : m_call} {r : m_R → m_S → Prop} {lo : m_L} {st : List Value} {bd : Nat × Nat} {S : m_S} : m_W1 (m_lk cd_L_adds) call r 4 lo st bd S = o_const (6) 6 call lo st bd S (m_W1 (m_lk cd_L_adds) call r) r := m_W1.iff rfl mm_L_adds
set_option maxRecDepth 20000 in
theorem st_L_adds_6 {call : m_call} {r : m_R → m_S → Prop} {lo : m_L} {st : List Value} {bd : Nat × Nat} {S : m_S} : m_W1 (m_lk cd_L_adds) call r 6 lo st bd S = o_call 77 2 0 0 9 call lo st bd S (m_W1 (m_lk cd_L_adds) call r) r := m_W1.iff rfl mm_L_adds
set_option maxRecDepth 20000 in
theorem st_L_adds_9 {call : m_call} {r : m_R → m_S → Prop} {lo : m_L} {st : List Value} {bd : Nat × Nat} {S : m_S} : m_W1 (m_lk cd_L_adds) call r 9 lo st bd S = o_istore 6 11 call lo st bd S (m_W1 (m_lk cd_L_adds) call r) r := m_W1.iff rfl mm_L_adds
set_option maxRecDepth 20000 in
theorem st_L_adds_11 {call : m_call} {r : m_R → m_S → Prop} {lo : m_L} {st : List Value} {bd : Nat × Nat} {S : m_S} : m_W1 (m_lk cd_L_adds) call r 11 lo st bd S = o_iload 6 13 call lo st bd S (m_W1 (m_lk cd_L_adds) call r) r := m_W1.iff rfl mm_L_adds
set_option maxRecDepth 20000 in
theorem st_L_adds_13 {call : m_call} {r : m_R → m_S → Prop} {lo : m_L} {st : List Value} {bd : Nat × Nat} {S : m_S} : m_W1 (m_lk cd_L_adds) call r 13 lo st bd S = o_const (1) 14 call lo st bd S (m_W1 (m_lk cd_L_adds) call r) r := m_W1.iff rfl mm_L_adds
set_option maxRecDepth 20000 in
theorem st_L_adds_14 {call : m_call} {r : m_R → m_S → Prop} {lo : m_L} {st : List Value} {bd : Nat × Nat} {S : m_S} : m_W1 (m_lk cd_L_adds) call r 14 lo st bd S = o_bin (fun x y => x + y) 15 call lo st bd S (m_W1 (m_lk cd_L_adds) call r) r := m_W1.iff rfl mm_L_adds
set_option maxRecDepth 20000 in
theorem st_L_adds_15 {call : m_call} {r : m_R → m_S → Prop} {lo : m_L} {st : List Value} {bd : Nat × Nat} {S : m_S} : m_W1 (m_lk cd_L_adds) call r 15 lo st bd S = o_iload 4 17 call lo st bd S (m_W1 (m_lk cd_L_adds) call r) r := m_W1.iff rfl mm_L_adds
set_option maxRecDepth 20000 in
theorem st_L_adds_17 {call : m_call} {r : m_R → m_S → Prop} {lo : m_L} {st : List Value} {bd : Nat × Nat} {S : m_S} : m_W1 (m_lk cd_L_adds) call r 17 lo st bd S = o_const (5) 18 call lo st bd S (m_W1 (m_lk cd_L_adds) call r) r := m_W1.iff rfl mm_L_adds
set_option maxRecDepth 20000 in
theorem st_L_adds_18 {call : m_call} {r : m_R → m_S → Prop} {lo : m_L} {st : List Value} {bd : Nat × Nat} {S : m_S} : m_W1 (m_lk cd_L_adds) call r 18 lo st bd S = o_bin (fun x y => x >>> (y &&& 31)) 19 call lo st bd S (m_W1 (m_lk cd_L_adds) call r) r := m_W1.iff rfl mm_L_adds
set_option maxRecDepth 20000 in
theorem st_L_adds_19 {call : m_call} {r : m_R → m_S → Prop} {lo : m_L} {st : List Value} {bd : Nat × Nat} {S : m_S} : m_W1 (m_lk cd_L_adds) call r 19 lo st bd S = o_const (5) 20 call lo st bd S (m_W1 (m_lk cd_L_adds) call r) r := m_W1.iff rfl mm_L_adds
set_option maxRecDepth 20000 in
theorem st_L_adds_20 {call : m_call} {r : m_R → m_S → Prop} {lo : m_L} {st : List Value} {bd : Nat × Nat} {S : m_S} : m_W1 (m_lk cd_L_adds) call r 20 lo st bd S = o_call 77 2 0 0 23 call lo st bd S (m_W1 (m_lk cd_L_adds) call r) r := m_W1.iff rfl mm_L_adds
set_option maxRecDepth 20000 in
theorem st_L_adds_23 {call : m_call} {r : m_R → m_S → Prop} {lo : m_L} {st : List Value} {bd : Nat × Nat} {S : m_S} : m_W1 (m_lk cd_L_adds) call r 23 lo st bd S = o_bin (fun x y => x + y) 24 call lo st bd S (m_W1 (m_lk cd_L_adds) call r) r := m_W1.iff rfl mm_L_adds
set_option maxRecDepth 20000 in
theorem st_L_adds_24 {call : m_call} {r : m_R → m_S → Prop} {lo : m_L} {st : List Value} {bd : Nat × Nat} {S : m_S} : m_W1 (m_lk cd_L_adds) call r 24 lo st bd S = o_const (6) 26 call lo st bd S (m_W1 (m_lk cd_L_adds) call r) r := m_W1.iff rfl mm_L_adds
set_option maxRecDepth 20000 in
theorem st_L_adds_26 {call : m_call} {r : m_R → m_S → Prop} {lo : m_L} {st : List Value} {bd : Nat × Nat} {S : m_S} : m_W1 (m_lk cd_L_adds) call r 26 lo st bd S = o_div (fun x y => x - x / y * y) 27 call lo st bd S (m_W1 (m_lk cd_L_adds) call r) r := m_W1.iff rfl mm_L_adds
set_option maxRecDepth 20000 in
theorem st_L_adds_27 {call : m_call} {r : m_R → m_S → Prop} {lo : m_L} {st : List Value} {bd : Nat × Nat} {S : m_S} : m_W1 (m_lk cd_L_adds) call r 27 lo st bd S = o_istore 7 29 call lo st bd S (m_W1 (m_lk cd_L_adds) call r) r := m_W1.iff rfl mm_L_adds
set_option maxRecDepth 20000 in
theorem st_L_adds_29 {call : m_call} {r : m_R → m_S → Prop} {lo : m_L} {st : List Value} {bd : Nat × Nat} {S : m_S} : m_W1 (m_lk cd_L_adds) call r 29 lo st bd S = o_iload 5 31 call lo st bd S (m_W1 (m_lk cd_L_adds) call r) r := m_W1.iff rfl mm_L_adds
set_option maxRecDepth 20000 in
theorem st_L_adds_31 {call : m_call} {r : m_R → m_S → Prop} {lo : m_L} {st : List Value} {bd : Nat × Nat} {S : m_S} : m_W1 (m_lk cd_L_adds) call r 31 lo st bd S = o_const (6) 33 call lo st bd S (m_W1 (m_lk cd_L_adds) call r) r := m_W1.iff rfl mm_L_adds
set_option maxRecDepth 20000 in
theorem st_L_adds_33 {call : m_call} {r : m_R → m_S → Prop} {lo : m_L} {st : List Value} {bd : Nat × Nat} {S : m_S} : m_W1 (m_lk cd_L_adds) call r 33 lo st bd S = o_call 77 2 0 0 36 call lo st bd S (m_W1 (m_lk cd_L_adds) call r) r := m_W1.iff rfl mm_L_adds
set_option maxRecDepth 20000 in
theorem st_L_adds_36 {call : m_call} {r : m_R → m_S → Prop} {lo : m_L} {st : List Value} {bd : Nat × Nat} {S : m_S} : m_W1 (m_lk cd_L_adds) call r 36 lo st bd S = o_istore 8 38 call lo st bd S (m_W1 (m_lk cd_L_adds) call r) r := m_W1.iff rfl mm_L_adds
set_option maxRecDepth 20000 in
theorem st_L_adds_38 {call : m_call} {r : m_R → m_S → Prop} {lo : m_L} {st : List Value} {bd : Nat × Nat} {S : m_S} : m_W1 (m_lk cd_L_adds) call r 38 lo st bd S = o_iload 4 40 call lo st bd S (m_W1 (m_lk cd_L_adds) call r) r := m_W1.iff rfl mm_L_adds
set_option maxRecDepth 20000 in
theorem st_L_adds_40 {call : m_call} {r : m_R → m_S → Prop} {lo : m_L} {st : List Value} {bd : Nat × Nat} {S : m_S} : m_W1 (m_lk cd_L_adds) call r 40 lo st bd S = o_const (4) 41 call lo st bd S (m_W1 (m_lk cd_L_adds) call r) r := m_W1.iff rfl mm_L_adds
set_option maxRecDepth 20000 in
theorem st_L_adds_41 {call : m_call} {r : m_R → m_S → Prop} {lo : m_L} {st : List Value} {bd : Nat × Nat} {S : m_S} : m_W1 (m_lk cd_L_adds) call r 41 lo st bd S = o_call 77 2 0 0 44 call lo st bd S (m_W1 (m_lk cd_L_adds) call r) r := m_W1.iff rfl mm_L_adds
set_option maxRecDepth 20000 in
theorem st_L_adds_44 {call : m_call} {r : m_R → m_S → Prop} {lo : m_L} {st : List Value} {bd : Nat × Nat} {S : m_S} : m_W1 (m_lk cd_L_adds) call r 44 lo st bd S = o_istore 9 46 call lo st bd S (m_W1 (m_lk cd_L_adds) call r) r := m_W1.iff rfl mm_L_adds
set_option maxRecDepth 20000 in
theorem st_L_adds_46 {call : m_call} {r : m_R → m_S → Prop} {lo : m_L} {st : List Value} {bd : Nat × Nat} {S : m_S} : m_W1 (m_lk cd_L_adds) call r 46 lo st bd S = o_iload 9 48 call lo st bd S (m_W1 (m_lk cd_L_adds) call r) r := m_W1.iff rfl mm_L_adds
set_option maxRecDepth 20000 in
theorem st_L_adds_48 {call : m_call} {r : m_R → m_S → Prop} {lo : m_L} {st : List Value} {bd : Nat × Nat} {S : m_S} : m_W1 (m_lk cd_L_adds) call r 48 lo st bd S = o_const (2) 49 call lo st bd S (m_W1 (m_lk cd_L_adds) call r) r := m_W1.iff rfl mm_L_adds
set_option maxRecDepth 20000 in
theorem st_L_adds_49 {call : m_call} {r : m_R → m_S → Prop} {lo : m_L} {st : List Value} {bd : Nat × Nat} {S : m_S} : m_W1 (m_lk cd_L_adds) call r 49 lo st bd S = o_icmpge 177 52 call lo st bd S (m_W1 (m_lk cd_L_adds) call r) r := m_W1.iff rfl mm_L_adds
set_option maxRecDepth 20000 in
theorem st_L_adds_52 {call : m_call} {r : m_R → m_S → Prop} {lo : m_L} {st : List Value} {bd : Nat × Nat} {S : m_S} : m_W1 (m_lk cd_L_adds) call r 52 lo st bd S = o_const (1) 53 call lo st bd S (m_W1 (m_lk cd_L_adds) call r) r := m_W1.iff rfl mm_L_adds
set_option maxRecDepth 20000 in
theorem st_L_adds_53 {call : m_call} {r : m_R → m_S → Prop} {lo : m_L} {st : List Value} {bd : Nat × Nat} {S : m_S} : m_W1 (m_lk cd_L_adds) call r 53 lo st bd S = o_iload 5 55 call lo st bd S (m_W1 (m_lk cd_L_adds) call r) r := m_W1.iff rfl mm_L_adds
set_option maxRecDepth 20000 in
theorem st_L_adds_55 {call : m_call} {r : m_R → m_S → Prop} {lo : m_L} {st : List Value} {bd : Nat × Nat} {S : m_S} : m_W1 (m_lk cd_L_adds) call r 55 lo st bd S = o_const (3) 56 call lo st bd S (m_W1 (m_lk cd_L_adds) call r) r := m_W1.iff rfl mm_L_adds
set_option maxRecDepth 20000 in
theorem st_L_adds_56 {call : m_call} {r : m_R → m_S → Prop} {lo : m_L} {st : List Value} {bd : Nat × Nat} {S : m_S} : m_W1 (m_lk cd_L_adds) call r 56 lo st bd S = o_bin (fun x y => x >>> (y &&& 31)) 57 call lo st bd S (m_W1 (m_lk cd_L_adds) call r) r := m_W1.iff rfl mm_L_adds
set_option maxRecDepth 20000 in
theorem st_L_adds_57 {call : m_call} {r : m_R → m_S → Prop} {lo : m_L} {st : List Value} {bd : Nat × Nat} {S : m_S} : m_W1 (m_lk cd_L_adds) call r 57 lo st bd S = o_const (8) 59 call lo st bd S (m_W1 (m_lk cd_L_adds) call r) r := m_W1.iff rfl mm_L_adds
set_option maxRecDepth 20000 in
theorem st_L_adds_59 {call : m_call} {r : m_R → m_S → Prop} {lo : m_L} {st : List Value} {bd : Nat × Nat} {S : m_S} : m_W1 (m_lk cd_L_adds) call r 59 lo st bd S = o_call 77 2 0 0 62 call lo st bd S (m_W1 (m_lk cd_L_adds) call r) r := m_W1.iff rfl mm_L_adds
set_option maxRecDepth 20000 in
theorem st_L_adds_62 {call : m_call} {r : m_R → m_S → Prop} {lo : m_L} {st : List Value} {bd : Nat × Nat} {S : m_S} : m_W1 (m_lk cd_L_adds) call r 62 lo st bd S = o_bin (fun x y => x + y) 63 call lo st bd S (m_W1 (m_lk cd_L_adds) call r) r := m_W1.iff rfl mm_L_adds
set_option maxRecDepth 20000 in
theorem st_L_adds_63 {call : m_call} {r : m_R → m_S → Prop} {lo : m_L} {st : List Value} {bd : Nat × Nat} {S : m_S} : m_W1 (m_lk cd_L_adds) call r 63 lo st bd S = o_istore 10 65 call lo st bd S (m_W1 (m_lk cd_L_adds) call r) r := m_W1.iff rfl mm_L_adds
set_option maxRecDepth 20000 in
theorem st_L_adds_65 {call : m_call} {r : m_R → m_S → Prop} {lo : m_L} {st : List Value} {bd : Nat × Nat} {S : m_S} : m_W1 (m_lk cd_L_adds) call r 65 lo st bd S = o_aload 0 66 call lo st bd S (m_W1 (m_lk cd_L_adds) call r) r := m_W1.iff rfl mm_L_adds
set_option maxRecDepth 20000 in
theorem st_L_adds_66 {call : m_call} {r : m_R → m_S → Prop} {lo : m_L} {st : List Value} {bd : Nat × Nat} {S : m_S} : m_W1 (m_lk cd_L_adds) call r 66 lo st bd S = o_iload 6 68 call lo st bd S (m_W1 (m_lk cd_L_adds) call r) r := m_W1.iff rfl mm_L_adds
set_option maxRecDepth 20000 in
theorem st_L_adds_68 {call : m_call} {r : m_R → m_S → Prop} {lo : m_L} {st : List Value} {bd : Nat × Nat} {S : m_S} : m_W1 (m_lk cd_L_adds) call r 68 lo st bd S = o_iload 7 70 call lo st bd S (m_W1 (m_lk cd_L_adds) call r) r := m_W1.iff rfl mm_L_adds
set_option maxRecDepth 20000 in
theorem st_L_adds_70 {call : m_call} {r : m_R → m_S → Prop} {lo : m_L} {st : List Value} {bd : Nat × Nat} {S : m_S} : m_W1 (m_lk cd_L_adds) call r 70 lo st bd S = o_iload 10 72 call lo st bd S (m_W1 (m_lk cd_L_adds) call r) r := m_W1.iff rfl mm_L_adds
set_option maxRecDepth 20000 in
theorem st_L_adds_72 {call : m_call} {r : m_R → m_S → Prop} {lo : m_L} {st : List Value} {bd : Nat × Nat} {S : m_S} : m_W1 (m_lk cd_L_adds) call r 72 lo st bd S = o_iload 8 74 call lo st bd S (m_W1 (m_lk cd_L_adds) call r) r := m_W1.iff rfl mm_L_adds
set_option maxRecDepth 20000 in
theorem st_L_adds_74 {call : m_call} {r : m_R → m_S → Prop} {lo : m_L} {st : List Value} {bd : Nat × Nat} {S : m_S} : m_W1 (m_lk cd_L_adds) call r 74 lo st bd S = o_call 78 5 7 43 77 call lo st bd S (m_W1 (m_lk cd_L_adds) call r) r := m_W1.iff rfl mm_L_adds
set_option maxRecDepth 20000 in
theorem st_L_adds_77 {call : m_call} {r : m_R → m_S → Prop} {lo : m_L} {st : List Value} {bd : Nat × Nat} {S : m_S} : m_W1 (m_lk cd_L_adds) call r 77 lo st bd S = o_istore 11 79 call lo st bd S (m_W1 (m_lk cd_L_adds) call r) r := m_W1.iff rfl mm_L_adds
set_option maxRecDepth 20000 in
theorem st_L_adds_79 {call : m_call} {r : m_R → m_S → Prop} {lo : m_L} {st : List Value} {bd : Nat × Nat} {S : m_S} : m_W1 (m_lk cd_L_adds) call r 79 lo st bd S = o_aload 1 80 call lo st bd S (m_W1 (m_lk cd_L_adds) call r) r := m_W1.iff rfl mm_L_adds
set_option maxRecDepth 20000 in
theorem st_L_adds_80 {call : m_call} {r : m_R → m_S → Prop} {lo : m_L} {st : List Value} {bd : Nat × Nat} {S : m_S} : m_W1 (m_lk cd_L_adds) call r 80 lo st bd S = o_const (0) 81 call lo st bd S (m_W1 (m_lk cd_L_adds) call r) r := m_W1.iff rfl mm_L_adds
set_option maxRecDepth 20000 in
theorem st_L_adds_81 {call : m_call} {r : m_R → m_S → Prop} {lo : m_L} {st : List Value} {bd : Nat × Nat} {S : m_S} : m_W1 (m_lk cd_L_adds) call r 81 lo st bd S = o_iald 0 82 call lo st bd S (m_W1 (m_lk cd_L_adds) call r) r := m_W1.iff rfl mm_L_adds
set_option maxRecDepth 20000 in
theorem st_L_adds_82 {call : m_call} {r : m_R → m_S → Prop} {lo : m_L} {st : List Value} {bd : Nat × Nat} {S : m_S} : m_W1 (m_lk cd_L_adds) call r 82 lo st bd S = o_const (10) 84 call lo st bd S (m_W1 (m_lk cd_L_adds) call r) r := m_W1.iff rfl mm_L_adds
set_option maxRecDepth 20000 in
theorem st_L_adds_84 {call : m_call} {r : m_R → m_S → Prop} {lo : m_L} {st : List Value} {bd : Nat × Nat} {S : m_S} : m_W1 (m_lk cd_L_adds) call r 84 lo st bd S = o_icmpne 100 87 call lo st bd S (m_W1 (m_lk cd_L_adds) call r) r := m_W1.iff rfl mm_L_adds
set_option maxRecDepth 20000 in
theorem st_L_adds_87 {call : m_call} {r : m_R → m_S → Prop} {lo : m_L} {st : List Value} {bd : Nat × Nat} {S : m_S} : m_W1 (m_lk cd_L_adds) call r 87 lo st bd S = o_iload 11 89 call lo st bd S (m_W1 (m_lk cd_L_adds) call r) r := m_W1.iff rfl mm_L_adds
set_option maxRecDepth 20000 in
theorem st_L_adds_89 {call : m_call} {r : m_R → m_S → Prop} {lo : m_L} {st : List Value} {bd : Nat × Nat} {S : m_S} : m_W1 (m_lk cd_L_adds) call r 89 lo st bd S = o_const (-1000003) 91 call lo st bd S (m_W1 (m_lk cd_L_adds) call r) r := m_W1.iff rfl mm_L_adds
set_option maxRecDepth 20000 in
theorem st_L_adds_91 {call : m_call} {r : m_R → m_S → Prop} {lo : m_L} {st : List Value} {bd : Nat × Nat} {S : m_S} : m_W1 (m_lk cd_L_adds) call r 91 lo st bd S = o_icmpne 98 94 call lo st bd S (m_W1 (m_lk cd_L_adds) call r) r := m_W1.iff rfl mm_L_adds
set_option maxRecDepth 20000 in
theorem st_L_adds_94 {call : m_call} {r : m_R → m_S → Prop} {lo : m_L} {st : List Value} {bd : Nat × Nat} {S : m_S} : m_W1 (m_lk cd_L_adds) call r 94 lo st bd S = o_const (1) 95 call lo st bd S (m_W1 (m_lk cd_L_adds) call r) r := m_W1.iff rfl mm_L_adds
set_option maxRecDepth 20000 in
theorem st_L_adds_95 {call : m_call} {r : m_R → m_S → Prop} {lo : m_L} {st : List Value} {bd : Nat × Nat} {S : m_S} : m_W1 (m_lk cd_L_adds) call r 95 lo st bd S = o_goto 99 call lo st bd S (m_W1 (m_lk cd_L_adds) call r) r := m_W1.iff rfl mm_L_adds
set_option maxRecDepth 20000 in
theorem st_L_adds_98 {call : m_call} {r : m_R → m_S → Prop} {lo : m_L} {st : List Value} {bd : Nat × Nat} {S : m_S} : m_W1 (m_lk cd_L_adds) call r 98 lo st bd S = o_const (0) 99 call lo st bd S (m_W1 (m_lk cd_L_adds) call r) r := m_W1.iff rfl mm_L_adds
set_option maxRecDepth 20000 in
theorem st_L_adds_99 {call : m_call} {r : m_R → m_S → Prop} {lo : m_L} {st : List Value} {bd : Nat × Nat} {S : m_S} : m_W1 (m_lk cd_L_adds) call r 99 lo st bd S = o_zreturn call lo st bd S (m_W1 (m_lk cd_L_adds) call r) r := m_W1.iff rfl mm_L_adds
set_option maxRecDepth 20000 in
theorem st_L_adds_100 {call : m_call} {r : m_R → m_S → Prop} {lo : m_L} {st : List Value} {bd : Nat × Nat} {S : m_S} : m_W1 (m_lk cd_L_adds) call r 100 lo st bd S = o_aload 2 101 call lo st bd S (m_W1 (m_lk cd_L_adds) call r) r := m_W1.iff rfl mm_L_adds
set_option maxRecDepth 20000 in
theorem st_L_adds_101 {call : m_call} {r : m_R → m_S → Prop} {lo : m_L} {st : List Value} {bd : Nat × Nat} {S : m_S} : m_W1 (m_lk cd_L_adds) call r 101 lo st bd S = o_const (4) 102 call lo st bd S (m_W1 (m_lk cd_L_adds) call r) r := m_W1.iff rfl mm_L_adds
set_option maxRecDepth 20000 in
theorem st_L_adds_102 {call : m_call} {r : m_R → m_S → Prop} {lo : m_L} {st : List Value} {bd : Nat × Nat} {S : m_S} : m_W1 (m_lk cd_L_adds) call r 102 lo st bd S = o_aload 1 103 call lo st bd S (m_W1 (m_lk cd_L_adds) call r) r := m_W1.iff rfl mm_L_adds
set_option maxRecDepth 20000 in
theorem st_L_adds_103 {call : m_call} {r : m_R → m_S → Prop} {lo : m_L} {st : List Value} {bd : Nat × Nat} {S : m_S} : m_W1 (m_lk cd_L_adds) call r 103 lo st bd S = o_const (0) 104 call lo st bd S (m_W1 (m_lk cd_L_adds) call r) r := m_W1.iff rfl mm_L_adds
set_option maxRecDepth 20000 in
theorem st_L_adds_104 {call : m_call} {r : m_R → m_S → Prop} {lo : m_L} {st : List Value} {bd : Nat × Nat} {S : m_S} : m_W1 (m_lk cd_L_adds) call r 104 lo st bd S = o_iald 0 105 call lo st bd S (m_W1 (m_lk cd_L_adds) call r) r := m_W1.iff rfl mm_L_adds
set_option maxRecDepth 20000 in
theorem st_L_adds_105 {call : m_call} {r : m_R → m_S → Prop} {lo : m_L} {st : List Value} {bd : Nat × Nat} {S : m_S} : m_W1 (m_lk cd_L_adds) call r 105 lo st bd S = o_bin (fun x y => x * y) 106 call lo st bd S (m_W1 (m_lk cd_L_adds) call r) r := m_W1.iff rfl mm_L_adds
set_option maxRecDepth 20000 in
theorem st_L_adds_106 {call : m_call} {r : m_R → m_S → Prop} {lo : m_L} {st : List Value} {bd : Nat × Nat} {S : m_S} : m_W1 (m_lk cd_L_adds) call r 106 lo st bd S = o_iload 6 108 call lo st bd S (m_W1 (m_lk cd_L_adds) call r) r := m_W1.iff rfl mm_L_adds
set_option maxRecDepth 20000 in
theorem st_L_adds_108 {call : m_call} {r : m_R → m_S → Prop} {lo : m_L} {st : List Value} {bd : Nat × Nat} {S : m_S} : m_W1 (m_lk cd_L_adds) call r 108 lo st bd S = o_iast 109 call lo st bd S (m_W1 (m_lk cd_L_adds) call r) r := m_W1.iff rfl mm_L_adds
set_option maxRecDepth 20000 in
theorem st_L_adds_109 {call : m_call} {r : m_R → m_S → Prop} {lo : m_L} {st : List Value} {bd : Nat × Nat} {S : m_S} : m_W1 (m_lk cd_L_adds) call r 109 lo st bd S = o_aload 2 110 call lo st bd S (m_W1 (m_lk cd_L_adds) call r) r := m_W1.iff rfl mm_L_adds
set_option maxRecDepth 20000 in
theorem st_L_adds_110 {call : m_call} {r : m_R → m_S → Prop} {lo : m_L} {st : List Value} {bd : Nat × Nat} {S : m_S} : m_W1 (m_lk cd_L_adds) call r 110 lo st bd S = o_const (4) 111 call lo st bd S (m_W1 (m_lk cd_L_adds) call r) r := m_W1.iff rfl mm_L_adds
set_option maxRecDepth 20000 in
theorem st_L_adds_111 {call : m_call} {r : m_R → m_S → Prop} {lo : m_L} {st : List Value} {bd : Nat × Nat} {S : m_S} : m_W1 (m_lk cd_L_adds) call r 111 lo st bd S = o_aload 1 112 call lo st bd S (m_W1 (m_lk cd_L_adds) call r) r := m_W1.iff rfl mm_L_adds
set_option maxRecDepth 20000 in
theorem st_L_adds_112 {call : m_call} {r : m_R → m_S → Prop} {lo : m_L} {st : List Value} {bd : Nat × Nat} {S : m_S} : m_W1 (m_lk cd_L_adds) call r 112 lo st bd S = o_const (0) 113 call lo st bd S (m_W1 (m_lk cd_L_adds) call r) r := m_W1.iff rfl mm_L_adds
set_option maxRecDepth 20000 in
theorem st_L_adds_113 {call : m_call} {r : m_R → m_S → Prop} {lo : m_L} {st : List Value} {bd : Nat × Nat} {S : m_S} : m_W1 (m_lk cd_L_adds) call r 113 lo st bd S = o_iald 0 114 call lo st bd S (m_W1 (m_lk cd_L_adds) call r) r := m_W1.iff rfl mm_L_adds
set_option maxRecDepth 20000 in
theorem st_L_adds_114 {call : m_call} {r : m_R → m_S → Prop} {lo : m_L} {st : List Value} {bd : Nat × Nat} {S : m_S} : m_W1 (m_lk cd_L_adds) call r 114 lo st bd S = o_bin (fun x y => x * y) 115 call lo st bd S (m_W1 (m_lk cd_L_adds) call r) r := m_W1.iff rfl mm_L_adds
set_option maxRecDepth 20000 in
theorem st_L_adds_115 {call : m_call} {r : m_R → m_S → Prop} {lo : m_L} {st : List Value} {bd : Nat × Nat} {S : m_S} : m_W1 (m_lk cd_L_adds) call r 115 lo st bd S = o_const (1) 116 call lo st bd S (m_W1 (m_lk cd_L_adds) call r) r := m_W1.iff rfl mm_L_adds
set_option maxRecDepth 20000 in
theorem st_L_adds_116 {call : m_call} {r : m_R → m_S → Prop} {lo : m_L} {st : List Value} {bd : Nat × Nat} {S : m_S} : m_W1 (m_lk cd_L_adds) call r 116 lo st bd S = o_bin (fun x y => x + y) 117 call lo st bd S (m_W1 (m_lk cd_L_adds) call r) r := m_W1.iff rfl mm_L_adds
set_option maxRecDepth 20000 in
theorem st_L_adds_117 {call : m_call} {r : m_R → m_S → Prop} {lo : m_L} {st : List Value} {bd : Nat × Nat} {S : m_S} : m_W1 (m_lk cd_L_adds) call r 117 lo st bd S = o_iload 7 119 call lo st bd S (m_W1 (m_lk cd_L_adds) call r) r := m_W1.iff rfl mm_L_adds
set_option maxRecDepth 20000 in
theorem st_L_adds_119 {call : m_call} {r : m_R → m_S → Prop} {lo : m_L} {st : List Value} {bd : Nat × Nat} {S : m_S} : m_W1 (m_lk cd_L_adds) call r 119 lo st bd S = o_iast 120 call lo st bd S (m_W1 (m_lk cd_L_adds) call r) r := m_W1.iff rfl mm_L_adds
set_option maxRecDepth 20000 in
theorem st_L_adds_120 {call : m_call} {r : m_R → m_S → Prop} {lo : m_L} {st : List Value} {bd : Nat × Nat} {S : m_S} : m_W1 (m_lk cd_L_adds) call r 120 lo st bd S = o_aload 2 121 call lo st bd S (m_W1 (m_lk cd_L_adds) call r) r := m_W1.iff rfl mm_L_adds
set_option maxRecDepth 20000 in
theorem st_L_adds_121 {call : m_call} {r : m_R → m_S → Prop} {lo : m_L} {st : List Value} {bd : Nat × Nat} {S : m_S} : m_W1 (m_lk cd_L_adds) call r 121 lo st bd S = o_const (4) 122 call lo st bd S (m_W1 (m_lk cd_L_adds) call r) r := m_W1.iff rfl mm_L_adds
set_option maxRecDepth 20000 in
theorem st_L_adds_122 {call : m_call} {r : m_R → m_S → Prop} {lo : m_L} {st : List Value} {bd : Nat × Nat} {S : m_S} : m_W1 (m_lk cd_L_adds) call r 122 lo st bd S = o_aload 1 123 call lo st bd S (m_W1 (m_lk cd_L_adds) call r) r := m_W1.iff rfl mm_L_adds
set_option maxRecDepth 20000 in
theorem st_L_adds_123 {call : m_call} {r : m_R → m_S → Prop} {lo : m_L} {st : List Value} {bd : Nat × Nat} {S : m_S} : m_W1 (m_lk cd_L_adds) call r 123 lo st bd S = o_const (0) 124 call lo st bd S (m_W1 (m_lk cd_L_adds) call r) r := m_W1.iff rfl mm_L_adds
set_option maxRecDepth 20000 in
theorem st_L_adds_124 {call : m_call} {r : m_R → m_S → Prop} {lo : m_L} {st : List Value} {bd : Nat × Nat} {S : m_S} : m_W1 (m_lk cd_L_adds) call r 124 lo st bd S = o_iald 0 125 call lo st bd S (m_W1 (m_lk cd_L_adds) call r) r := m_W1.iff rfl mm_L_adds
set_option maxRecDepth 20000 in
theorem st_L_adds_125 {call : m_call} {r : m_R → m_S → Prop} {lo : m_L} {st : List Value} {bd : Nat × Nat} {S : m_S} : m_W1 (m_lk cd_L_adds) call r 125 lo st bd S = o_bin (fun x y => x * y) 126 call lo st bd S (m_W1 (m_lk cd_L_adds) call r) r := m_W1.iff rfl mm_L_adds
set_option maxRecDepth 20000 in
theorem st_L_adds_126 {call : m_call} {r : m_R → m_S → Prop} {lo : m_L} {st : List Value} {bd : Nat × Nat} {S : m_S} : m_W1 (m_lk cd_L_adds) call r 126 lo st bd S = o_const (2) 127 call lo st bd S (m_W1 (m_lk cd_L_adds) call r) r := m_W1.iff rfl mm_L_adds
set_option maxRecDepth 20000 in
theorem st_L_adds_127 {call : m_call} {r : m_R → m_S → Prop} {lo : m_L} {st : List Value} {bd : Nat × Nat} {S : m_S} : m_W1 (m_lk cd_L_adds) call r 127 lo st bd S = o_bin (fun x y => x + y) 128 call lo st bd S (m_W1 (m_lk cd_L_adds) call r) r := m_W1.iff rfl mm_L_adds
set_option maxRecDepth 20000 in
theorem st_L_adds_128 {call : m_call} {r : m_R → m_S → Prop} {lo : m_L} {st : List Value} {bd : Nat × Nat} {S : m_S} : m_W1 (m_lk cd_L_adds) call r 128 lo st bd S = o_iload 10 130 call lo st bd S (m_W1 (m_lk cd_L_adds) call r) r := m_W1.iff rfl mm_L_adds
set_option maxRecDepth 20000 in
theorem st_L_adds_130 {call : m_call} {r : m_R → m_S → Prop} {lo : m_L} {st : List Value} {bd : Nat × Nat} {S : m_S} : m_W1 (m_lk cd_L_adds) call r 130 lo st bd S = o_iast 131 call lo st bd S (m_W1 (m_lk cd_L_adds) call r) r := m_W1.iff rfl mm_L_adds
set_option maxRecDepth 20000 in
theorem st_L_adds_131 {call : m_call} {r : m_R → m_S → Prop} {lo : m_L} {st : List Value} {bd : Nat × Nat} {S : m_S} : m_W1 (m_lk cd_L_adds) call r 131 lo st bd S = o_aload 1 132 call lo st bd S (m_W1 (m_lk cd_L_adds) call r) r := m_W1.iff rfl mm_L_adds
set_option maxRecDepth 20000 in
theorem st_L_adds_132 {call : m_call} {r : m_R → m_S → Prop} {lo : m_L} {st : List Value} {bd : Nat × Nat} {S : m_S} : m_W1 (m_lk cd_L_adds) call r 132 lo st bd S = o_const (0) 133 call lo st bd S (m_W1 (m_lk cd_L_adds) call r) r := m_W1.iff rfl mm_L_adds
set_option maxRecDepth 20000 in
theorem st_L_adds_133 {call : m_call} {r : m_R → m_S → Prop} {lo : m_L} {st : List Value} {bd : Nat × Nat} {S : m_S} : m_W1 (m_lk cd_L_adds) call r 133 lo st bd S = o_dup2 134 call lo st bd S (m_W1 (m_lk cd_L_adds) call r) r := m_W1.iff rfl mm_L_adds
set_option maxRecDepth 20000 in
theorem st_L_adds_134 {call : m_call} {r : m_R → m_S → Prop} {lo : m_L} {st : List Value} {bd : Nat × Nat} {S : m_S} : m_W1 (m_lk cd_L_adds) call r 134 lo st bd S = o_iald 0 135 call lo st bd S (m_W1 (m_lk cd_L_adds) call r) r := m_W1.iff rfl mm_L_adds
set_option maxRecDepth 20000 in
theorem st_L_adds_135 {call : m_call} {r : m_R → m_S → Prop} {lo : m_L} {st : List Value} {bd : Nat × Nat} {S : m_S} : m_W1 (m_lk cd_L_adds) call r 135 lo st bd S = o_const (1) 136 call lo st bd S (m_W1 (m_lk cd_L_adds) call r) r := m_W1.iff rfl mm_L_adds
set_option maxRecDepth 20000 in
theorem st_L_adds_136 {call : m_call} {r : m_R → m_S → Prop} {lo : m_L} {st : List Value} {bd : Nat × Nat} {S : m_S} : m_W1 (m_lk cd_L_adds) call r 136 lo st bd S = o_bin (fun x y => x + y) 137 call lo st bd S (m_W1 (m_lk cd_L_adds) call r) r := m_W1.iff rfl mm_L_adds
set_option maxRecDepth 20000 in
theorem st_L_adds_137 {call : m_call} {r : m_R → m_S → Prop} {lo : m_L} {st : List Value} {bd : Nat × Nat} {S : m_S} : m_W1 (m_lk cd_L_adds) call r 137 lo st bd S = o_iast 138 call lo st bd S (m_W1 (m_lk cd_L_adds) call r) r := m_W1.iff rfl mm_L_adds
set_option maxRecDepth 20000 in
theorem st_L_adds_138 {call : m_call} {r : m_R → m_S → Prop} {lo : m_L} {st : List Value} {bd : Nat × Nat} {S : m_S} : m_W1 (m_lk cd_L_adds) call r 138 lo st bd S = o_iload 11 140 call lo st bd S (m_W1 (m_lk cd_L_adds) call r) r := m_W1.iff rfl mm_L_adds
set_option maxRecDepth 20000 in
theorem st_L_adds_140 {call : m_call} {r : m_R → m_S → Prop} {lo : m_L} {st : List Value} {bd : Nat × Nat} {S : m_S} : m_W1 (m_lk cd_L_adds) call r 140 lo st bd S = o_aload 1 141 call lo st bd S (m_W1 (m_lk cd_L_adds) call r) r := m_W1.iff rfl mm_L_adds
set_option maxRecDepth 20000 in
theorem st_L_adds_141 {call : m_call} {r : m_R → m_S → Prop} {lo : m_L} {st : List Value} {bd : Nat × Nat} {S : m_S} : m_W1 (m_lk cd_L_adds) call r 141 lo st bd S = o_const (0) 142 call lo st bd S (m_W1 (m_lk cd_L_adds) call r) r := m_W1.iff rfl mm_L_adds
set_option maxRecDepth 20000 in
theorem st_L_adds_142 {call : m_call} {r : m_R → m_S → Prop} {lo : m_L} {st : List Value} {bd : Nat × Nat} {S : m_S} : m_W1 (m_lk cd_L_adds) call r 142 lo st bd S = o_iald 0 143 call lo st bd S (m_W1 (m_lk cd_L_adds) call r) r := m_W1.iff rfl mm_L_adds
set_option maxRecDepth 20000 in
theorem st_L_adds_143 {call : m_call} {r : m_R → m_S → Prop} {lo : m_L} {st : List Value} {bd : Nat × Nat} {S : m_S} : m_W1 (m_lk cd_L_adds) call r 143 lo st bd S = o_const (1) 144 call lo st bd S (m_W1 (m_lk cd_L_adds) call r) r := m_W1.iff rfl mm_L_adds
set_option maxRecDepth 20000 in
theorem st_L_adds_144 {call : m_call} {r : m_R → m_S → Prop} {lo : m_L} {st : List Value} {bd : Nat × Nat} {S : m_S} : m_W1 (m_lk cd_L_adds) call r 144 lo st bd S = o_bin (fun x y => x - y) 145 call lo st bd S (m_W1 (m_lk cd_L_adds) call r) r := m_W1.iff rfl mm_L_adds
set_option maxRecDepth 20000 in
theorem st_L_adds_145 {call : m_call} {r : m_R → m_S → Prop} {lo : m_L} {st : List Value} {bd : Nat × Nat} {S : m_S} : m_W1 (m_lk cd_L_adds) call r 145 lo st bd S = o_icmpne 175 148 call lo st bd S (m_W1 (m_lk cd_L_adds) call r) r := m_W1.iff rfl mm_L_adds
set_option maxRecDepth 20000 in
theorem st_L_adds_148 {call : m_call} {r : m_R → m_S → Prop} {lo : m_L} {st : List Value} {bd : Nat × Nat} {S : m_S} : m_W1 (m_lk cd_L_adds) call r 148 lo st bd S = o_aload 0 149 call lo st bd S (m_W1 (m_lk cd_L_adds) call r) r := m_W1.iff rfl mm_L_adds
set_option maxRecDepth 20000 in
theorem st_L_adds_149 {call : m_call} {r : m_R → m_S → Prop} {lo : m_L} {st : List Value} {bd : Nat × Nat} {S : m_S} : m_W1 (m_lk cd_L_adds) call r 149 lo st bd S = o_iload 11 151 call lo st bd S (m_W1 (m_lk cd_L_adds) call r) r := m_W1.iff rfl mm_L_adds
set_option maxRecDepth 20000 in
theorem st_L_adds_151 {call : m_call} {r : m_R → m_S → Prop} {lo : m_L} {st : List Value} {bd : Nat × Nat} {S : m_S} : m_W1 (m_lk cd_L_adds) call r 151 lo st bd S = o_iload 8 153 call lo st bd S (m_W1 (m_lk cd_L_adds) call r) r := m_W1.iff rfl mm_L_adds
set_option maxRecDepth 20000 in
theorem st_L_adds_153 {call : m_call} {r : m_R → m_S → Prop} {lo : m_L} {st : List Value} {bd : Nat × Nat} {S : m_S} : m_W1 (m_lk cd_L_adds) call r 153 lo st bd S = o_call 87 3 2 12 156 call lo st bd S (m_W1 (m_lk cd_L_adds) call r) r := m_W1.iff rfl mm_L_adds
set_option maxRecDepth 20000 in
theorem st_L_adds_156 {call : m_call} {r : m_R → m_S → Prop} {lo : m_L} {st : List Value} {bd : Nat × Nat} {S : m_S} : m_W1 (m_lk cd_L_adds) call r 156 lo st bd S = o_iload 10 158 call lo st bd S (m_W1 (m_lk cd_L_adds) call r) r := m_W1.iff rfl mm_L_adds
set_option maxRecDepth 20000 in
theorem st_L_adds_158 {call : m_call} {r : m_R → m_S → Prop} {lo : m_L} {st : List Value} {bd : Nat × Nat} {S : m_S} : m_W1 (m_lk cd_L_adds) call r 158 lo st bd S = o_icmpne 175 161 call lo st bd S (m_W1 (m_lk cd_L_adds) call r) r := m_W1.iff rfl mm_L_adds
set_option maxRecDepth 20000 in
theorem st_L_adds_161 {call : m_call} {r : m_R → m_S → Prop} {lo : m_L} {st : List Value} {bd : Nat × Nat} {S : m_S} : m_W1 (m_lk cd_L_adds) call r 161 lo st bd S = o_aload 0 162 call lo st bd S (m_W1 (m_lk cd_L_adds) call r) r := m_W1.iff rfl mm_L_adds
set_option maxRecDepth 20000 in
theorem st_L_adds_162 {call : m_call} {r : m_R → m_S → Prop} {lo : m_L} {st : List Value} {bd : Nat × Nat} {S : m_S} : m_W1 (m_lk cd_L_adds) call r 162 lo st bd S = o_iload 11 164 call lo st bd S (m_W1 (m_lk cd_L_adds) call r) r := m_W1.iff rfl mm_L_adds
set_option maxRecDepth 20000 in
theorem st_L_adds_164 {call : m_call} {r : m_R → m_S → Prop} {lo : m_L} {st : List Value} {bd : Nat × Nat} {S : m_S} : m_W1 (m_lk cd_L_adds) call r 164 lo st bd S = o_call 88 2 1 6 167 call lo st bd S (m_W1 (m_lk cd_L_adds) call r) r := m_W1.iff rfl mm_L_adds
set_option maxRecDepth 20000 in
theorem st_L_adds_167 {call : m_call} {r : m_R → m_S → Prop} {lo : m_L} {st : List Value} {bd : Nat × Nat} {S : m_S} : m_W1 (m_lk cd_L_adds) call r 167 lo st bd S = o_const (1) 168 call lo st bd S (m_W1 (m_lk cd_L_adds) call r) r := m_W1.iff rfl mm_L_adds
set_option maxRecDepth 20000 in
theorem st_L_adds_168 {call : m_call} {r : m_R → m_S → Prop} {lo : m_L} {st : List Value} {bd : Nat × Nat} {S : m_S} : m_W1 (m_lk cd_L_adds) call r 168 lo st bd S = o_icmpne 175 171 call lo st bd S (m_W1 (m_lk cd_L_adds) call r) r := m_W1.iff rfl mm_L_adds
set_option maxRecDepth 20000 in
theorem st_L_adds_171 {call : m_call} {r : m_R → m_S → Prop} {lo : m_L} {st : List Value} {bd : Nat × Nat} {S : m_S} : m_W1 (m_lk cd_L_adds) call r 171 lo st bd S = o_const (1) 172 call lo st bd S (m_W1 (m_lk cd_L_adds) call r) r := m_W1.iff rfl mm_L_adds
set_option maxRecDepth 20000 in
theorem st_L_adds_172 {call : m_call} {r : m_R → m_S → Prop} {lo : m_L} {st : List Value} {bd : Nat × Nat} {S : m_S} : m_W1 (m_lk cd_L_adds) call r 172 lo st bd S = o_goto 176 call lo st bd S (m_W1 (m_lk cd_L_adds) call r) r := m_W1.iff rfl mm_L_adds
set_option maxRecDepth 20000 in
theorem st_L_adds_175 {call : m_call} {r : m_R → m_S → Prop} {lo : m_L} {st : List Value} {bd : Nat × Nat} {S : m_S} : m_W1 (m_lk cd_L_adds) call r 175 lo st bd S = o_const (0) 176 call lo st bd S (m_W1 (m_lk cd_L_adds) call r) r := m_W1.iff rfl mm_L_adds
set_option maxRecDepth 20000 in
theorem st_L_adds_176 {call : m_call} {r : m_R → m_S → Prop} {lo : m_L} {st : List Value} {bd : Nat × Nat} {S : m_S} : m_W1 (m_lk cd_L_adds) call r 176 lo st bd S = o_zreturn call lo st bd S (m_W1 (m_lk cd_L_adds) call r) r := m_W1.iff rfl mm_L_adds
set_option maxRecDepth 20000 in
theorem st_L_adds_177 {call : m_call} {r : m_R → m_S → Prop} {lo : m_L} {st : List Value} {bd : Nat × Nat} {S : m_S} : m_W1 (m_lk cd_L_adds) call r 177 lo st bd S = o_iload 9 179 call lo st bd S (m_W1 (m_lk cd_L_adds) call r) r := m_W1.iff rfl mm_L_adds
set_option maxRecDepth 20000 in
theorem st_L_adds_179 {call : m_call} {r : m_R → m_S → Prop} {lo : m_L} {st : List Value} {bd : Nat × Nat} {S : m_S} : m_W1 (m_lk cd_L_adds) call r 179 lo st bd S = o_const (2) 180 call lo st bd S (m_W1 (m_lk cd_L_adds) call r) r := m_W1.iff rfl mm_L_adds
set_option maxRecDepth 20000 in
theorem st_L_adds_180 {call : m_call} {r : m_R → m_S → Prop} {lo : m_L} {st : List Value} {bd : Nat × Nat} {S : m_S} : m_W1 (m_lk cd_L_adds) call r 180 lo st bd S = o_icmpne 314 183 call lo st bd S (m_W1 (m_lk cd_L_adds) call r) r := m_W1.iff rfl mm_L_adds
set_option maxRecDepth 20000 in
theorem st_L_adds_183 {call : m_call} {r : m_R → m_S → Prop} {lo : m_L} {st : List Value} {bd : Nat × Nat} {S : m_S} : m_W1 (m_lk cd_L_adds) call r 183 lo st bd S = o_const (1) 184 call lo st bd S (m_W1 (m_lk cd_L_adds) call r) r := m_W1.iff rfl mm_L_adds
set_option maxRecDepth 20000 in
theorem st_L_adds_184 {call : m_call} {r : m_R → m_S → Prop} {lo : m_L} {st : List Value} {bd : Nat × Nat} {S : m_S} : m_W1 (m_lk cd_L_adds) call r 184 lo st bd S = o_iload 5 186 call lo st bd S (m_W1 (m_lk cd_L_adds) call r) r := m_W1.iff rfl mm_L_adds
set_option maxRecDepth 20000 in
theorem st_L_adds_186 {call : m_call} {r : m_R → m_S → Prop} {lo : m_L} {st : List Value} {bd : Nat × Nat} {S : m_S} : m_W1 (m_lk cd_L_adds) call r 186 lo st bd S = o_const (3) 187 call lo st bd S (m_W1 (m_lk cd_L_adds) call r) r := m_W1.iff rfl mm_L_adds
set_option maxRecDepth 20000 in
theorem st_L_adds_187 {call : m_call} {r : m_R → m_S → Prop} {lo : m_L} {st : List Value} {bd : Nat × Nat} {S : m_S} : m_W1 (m_lk cd_L_adds) call r 187 lo st bd S = o_bin (fun x y => x >>> (y &&& 31)) 188 call lo st bd S (m_W1 (m_lk cd_L_adds) call r) r := m_W1.iff rfl mm_L_adds
set_option maxRecDepth 20000 in
theorem st_L_adds_188 {call : m_call} {r : m_R → m_S → Prop} {lo : m_L} {st : List Value} {bd : Nat × Nat} {S : m_S} : m_W1 (m_lk cd_L_adds) call r 188 lo st bd S = o_const (4) 189 call lo st bd S (m_W1 (m_lk cd_L_adds) call r) r := m_W1.iff rfl mm_L_adds
set_option maxRecDepth 20000 in
theorem st_L_adds_189 {call : m_call} {r : m_R → m_S → Prop} {lo : m_L} {st : List Value} {bd : Nat × Nat} {S : m_S} : m_W1 (m_lk cd_L_adds) call r 189 lo st bd S = o_call 77 2 0 0 192 call lo st bd S (m_W1 (m_lk cd_L_adds) call r) r := m_W1.iff rfl mm_L_adds
set_option maxRecDepth 20000 in
theorem st_L_adds_192 {call : m_call} {r : m_R → m_S → Prop} {lo : m_L} {st : List Value} {bd : Nat × Nat} {S : m_S} : m_W1 (m_lk cd_L_adds) call r 192 lo st bd S = o_bin (fun x y => x + y) 193 call lo st bd S (m_W1 (m_lk cd_L_adds) call r) r := m_W1.iff rfl mm_L_adds
set_option maxRecDepth 20000 in
theorem st_L_adds_193 {call : m_call} {r : m_R → m_S → Prop} {lo : m_L} {st : List Value} {bd : Nat × Nat} {S : m_S} : m_W1 (m_lk cd_L_adds) call r 193 lo st bd S = o_istore 10 195 call lo st bd S (m_W1 (m_lk cd_L_adds) call r) r := m_W1.iff rfl mm_L_adds
set_option maxRecDepth 20000 in
theorem st_L_adds_195 {call : m_call} {r : m_R → m_S → Prop} {lo : m_L} {st : List Value} {bd : Nat × Nat} {S : m_S} : m_W1 (m_lk cd_L_adds) call r 195 lo st bd S = o_aload 0 196 call lo st bd S (m_W1 (m_lk cd_L_adds) call r) r := m_W1.iff rfl mm_L_adds
set_option maxRecDepth 20000 in
theorem st_L_adds_196 {call : m_call} {r : m_R → m_S → Prop} {lo : m_L} {st : List Value} {bd : Nat × Nat} {S : m_S} : m_W1 (m_lk cd_L_adds) call r 196 lo st bd S = o_iload 8 198 call lo st bd S (m_W1 (m_lk cd_L_adds) call r) r := m_W1.iff rfl mm_L_adds
set_option maxRecDepth 20000 in
theorem st_L_adds_198 {call : m_call} {r : m_R → m_S → Prop} {lo : m_L} {st : List Value} {bd : Nat × Nat} {S : m_S} : m_W1 (m_lk cd_L_adds) call r 198 lo st bd S = o_iload 6 200 call lo st bd S (m_W1 (m_lk cd_L_adds) call r) r := m_W1.iff rfl mm_L_adds
set_option maxRecDepth 20000 in
theorem st_L_adds_200 {call : m_call} {r : m_R → m_S → Prop} {lo : m_L} {st : List Value} {bd : Nat × Nat} {S : m_S} : m_W1 (m_lk cd_L_adds) call r 200 lo st bd S = o_iload 7 202 call lo st bd S (m_W1 (m_lk cd_L_adds) call r) r := m_W1.iff rfl mm_L_adds
set_option maxRecDepth 20000 in
theorem st_L_adds_202 {call : m_call} {r : m_R → m_S → Prop} {lo : m_L} {st : List Value} {bd : Nat × Nat} {S : m_S} : m_W1 (m_lk cd_L_adds) call r 202 lo st bd S = o_iload 10 204 call lo st bd S (m_W1 (m_lk cd_L_adds) call r) r := m_W1.iff rfl mm_L_adds
set_option maxRecDepth 20000 in
theorem st_L_adds_204 {call : m_call} {r : m_R → m_S → Prop} {lo : m_L} {st : List Value} {bd : Nat × Nat} {S : m_S} : m_W1 (m_lk cd_L_adds) call r 204 lo st bd S = o_call 79 5 7 41 207 call lo st bd S (m_W1 (m_lk cd_L_adds) call r) r := m_W1.iff rfl mm_L_adds
set_option maxRecDepth 20000 in
theorem st_L_adds_207 {call : m_call} {r : m_R → m_S → Prop} {lo : m_L} {st : List Value} {bd : Nat × Nat} {S : m_S} : m_W1 (m_lk cd_L_adds) call r 207 lo st bd S = o_istore 11 209 call lo st bd S (m_W1 (m_lk cd_L_adds) call r) r := m_W1.iff rfl mm_L_adds
set_option maxRecDepth 20000 in
theorem st_L_adds_209 {call : m_call} {r : m_R → m_S → Prop} {lo : m_L} {st : List Value} {bd : Nat × Nat} {S : m_S} : m_W1 (m_lk cd_L_adds) call r 209 lo st bd S = o_aload 1 210 call lo st bd S (m_W1 (m_lk cd_L_adds) call r) r := m_W1.iff rfl mm_L_adds
set_option maxRecDepth 20000 in
theorem st_L_adds_210 {call : m_call} {r : m_R → m_S → Prop} {lo : m_L} {st : List Value} {bd : Nat × Nat} {S : m_S} : m_W1 (m_lk cd_L_adds) call r 210 lo st bd S = o_const (1) 211 call lo st bd S (m_W1 (m_lk cd_L_adds) call r) r := m_W1.iff rfl mm_L_adds
set_option maxRecDepth 20000 in
theorem st_L_adds_211 {call : m_call} {r : m_R → m_S → Prop} {lo : m_L} {st : List Value} {bd : Nat × Nat} {S : m_S} : m_W1 (m_lk cd_L_adds) call r 211 lo st bd S = o_iald 0 212 call lo st bd S (m_W1 (m_lk cd_L_adds) call r) r := m_W1.iff rfl mm_L_adds
set_option maxRecDepth 20000 in
theorem st_L_adds_212 {call : m_call} {r : m_R → m_S → Prop} {lo : m_L} {st : List Value} {bd : Nat × Nat} {S : m_S} : m_W1 (m_lk cd_L_adds) call r 212 lo st bd S = o_const (10) 214 call lo st bd S (m_W1 (m_lk cd_L_adds) call r) r := m_W1.iff rfl mm_L_adds
set_option maxRecDepth 20000 in
theorem st_L_adds_214 {call : m_call} {r : m_R → m_S → Prop} {lo : m_L} {st : List Value} {bd : Nat × Nat} {S : m_S} : m_W1 (m_lk cd_L_adds) call r 214 lo st bd S = o_icmpne 230 217 call lo st bd S (m_W1 (m_lk cd_L_adds) call r) r := m_W1.iff rfl mm_L_adds
set_option maxRecDepth 20000 in
theorem st_L_adds_217 {call : m_call} {r : m_R → m_S → Prop} {lo : m_L} {st : List Value} {bd : Nat × Nat} {S : m_S} : m_W1 (m_lk cd_L_adds) call r 217 lo st bd S = o_iload 11 219 call lo st bd S (m_W1 (m_lk cd_L_adds) call r) r := m_W1.iff rfl mm_L_adds
set_option maxRecDepth 20000 in
theorem st_L_adds_219 {call : m_call} {r : m_R → m_S → Prop} {lo : m_L} {st : List Value} {bd : Nat × Nat} {S : m_S} : m_W1 (m_lk cd_L_adds) call r 219 lo st bd S = o_const (-1000003) 221 call lo st bd S (m_W1 (m_lk cd_L_adds) call r) r := m_W1.iff rfl mm_L_adds
set_option maxRecDepth 20000 in
theorem st_L_adds_221 {call : m_call} {r : m_R → m_S → Prop} {lo : m_L} {st : List Value} {bd : Nat × Nat} {S : m_S} : m_W1 (m_lk cd_L_adds) call r 221 lo st bd S = o_icmpne 228 224 call lo st bd S (m_W1 (m_lk cd_L_adds) call r) r := m_W1.iff rfl mm_L_adds
set_option maxRecDepth 20000 in
theorem st_L_adds_224 {call : m_call} {r : m_R → m_S → Prop} {lo : m_L} {st : List Value} {bd : Nat × Nat} {S : m_S} : m_W1 (m_lk cd_L_adds) call r 224 lo st bd S = o_const (1) 225 call lo st bd S (m_W1 (m_lk cd_L_adds) call r) r := m_W1.iff rfl mm_L_adds
set_option maxRecDepth 20000 in
theorem st_L_adds_225 {call : m_call} {r : m_R → m_S → Prop} {lo : m_L} {st : List Value} {bd : Nat × Nat} {S : m_S} : m_W1 (m_lk cd_L_adds) call r 225 lo st bd S = o_goto 229 call lo st bd S (m_W1 (m_lk cd_L_adds) call r) r := m_W1.iff rfl mm_L_adds
set_option maxRecDepth 20000 in
theorem st_L_adds_228 {call : m_call} {r : m_R → m_S → Prop} {lo : m_L} {st : List Value} {bd : Nat × Nat} {S : m_S} : m_W1 (m_lk cd_L_adds) call r 228 lo st bd S = o_const (0) 229 call lo st bd S (m_W1 (m_lk cd_L_adds) call r) r := m_W1.iff rfl mm_L_adds
set_option maxRecDepth 20000 in
theorem st_L_adds_229 {call : m_call} {r : m_R → m_S → Prop} {lo : m_L} {st : List Value} {bd : Nat × Nat} {S : m_S} : m_W1 (m_lk cd_L_adds) call r 229 lo st bd S = o_zreturn call lo st bd S (m_W1 (m_lk cd_L_adds) call r) r := m_W1.iff rfl mm_L_adds
set_option maxRecDepth 20000 in
theorem st_L_adds_230 {call : m_call} {r : m_R → m_S → Prop} {lo : m_L} {st : List Value} {bd : Nat × Nat} {S : m_S} : m_W1 (m_lk cd_L_adds) call r 230 lo st bd S = o_aload 3 231 call lo st bd S (m_W1 (m_lk cd_L_adds) call r) r := m_W1.iff rfl mm_L_adds
set_option maxRecDepth 20000 in
theorem st_L_adds_231 {call : m_call} {r : m_R → m_S → Prop} {lo : m_L} {st : List Value} {bd : Nat × Nat} {S : m_S} : m_W1 (m_lk cd_L_adds) call r 231 lo st bd S = o_const (4) 232 call lo st bd S (m_W1 (m_lk cd_L_adds) call r) r := m_W1.iff rfl mm_L_adds
set_option maxRecDepth 20000 in
theorem st_L_adds_232 {call : m_call} {r : m_R → m_S → Prop} {lo : m_L} {st : List Value} {bd : Nat × Nat} {S : m_S} : m_W1 (m_lk cd_L_adds) call r 232 lo st bd S = o_aload 1 233 call lo st bd S (m_W1 (m_lk cd_L_adds) call r) r := m_W1.iff rfl mm_L_adds
set_option maxRecDepth 20000 in
theorem st_L_adds_233 {call : m_call} {r : m_R → m_S → Prop} {lo : m_L} {st : List Value} {bd : Nat × Nat} {S : m_S} : m_W1 (m_lk cd_L_adds) call r 233 lo st bd S = o_const (1) 234 call lo st bd S (m_W1 (m_lk cd_L_adds) call r) r := m_W1.iff rfl mm_L_adds
set_option maxRecDepth 20000 in
theorem st_L_adds_234 {call : m_call} {r : m_R → m_S → Prop} {lo : m_L} {st : List Value} {bd : Nat × Nat} {S : m_S} : m_W1 (m_lk cd_L_adds) call r 234 lo st bd S = o_iald 0 235 call lo st bd S (m_W1 (m_lk cd_L_adds) call r) r := m_W1.iff rfl mm_L_adds
set_option maxRecDepth 20000 in
theorem st_L_adds_235 {call : m_call} {r : m_R → m_S → Prop} {lo : m_L} {st : List Value} {bd : Nat × Nat} {S : m_S} : m_W1 (m_lk cd_L_adds) call r 235 lo st bd S = o_bin (fun x y => x * y) 236 call lo st bd S (m_W1 (m_lk cd_L_adds) call r) r := m_W1.iff rfl mm_L_adds
set_option maxRecDepth 20000 in
theorem st_L_adds_236 {call : m_call} {r : m_R → m_S → Prop} {lo : m_L} {st : List Value} {bd : Nat × Nat} {S : m_S} : m_W1 (m_lk cd_L_adds) call r 236 lo st bd S = o_iload 8 238 call lo st bd S (m_W1 (m_lk cd_L_adds) call r) r := m_W1.iff rfl mm_L_adds
set_option maxRecDepth 20000 in
theorem st_L_adds_238 {call : m_call} {r : m_R → m_S → Prop} {lo : m_L} {st : List Value} {bd : Nat × Nat} {S : m_S} : m_W1 (m_lk cd_L_adds) call r 238 lo st bd S = o_iast 239 call lo st bd S (m_W1 (m_lk cd_L_adds) call r) r := m_W1.iff rfl mm_L_adds
set_option maxRecDepth 20000 in
theorem st_L_adds_239 {call : m_call} {r : m_R → m_S → Prop} {lo : m_L} {st : List Value} {bd : Nat × Nat} {S : m_S} : m_W1 (m_lk cd_L_adds) call r 239 lo st bd S = o_aload 3 240 call lo st bd S (m_W1 (m_lk cd_L_adds) call r) r := m_W1.iff rfl mm_L_adds
set_option maxRecDepth 20000 in
theorem st_L_adds_240 {call : m_call} {r : m_R → m_S → Prop} {lo : m_L} {st : List Value} {bd : Nat × Nat} {S : m_S} : m_W1 (m_lk cd_L_adds) call r 240 lo st bd S = o_const (4) 241 call lo st bd S (m_W1 (m_lk cd_L_adds) call r) r := m_W1.iff rfl mm_L_adds
set_option maxRecDepth 20000 in
theorem st_L_adds_241 {call : m_call} {r : m_R → m_S → Prop} {lo : m_L} {st : List Value} {bd : Nat × Nat} {S : m_S} : m_W1 (m_lk cd_L_adds) call r 241 lo st bd S = o_aload 1 242 call lo st bd S (m_W1 (m_lk cd_L_adds) call r) r := m_W1.iff rfl mm_L_adds
set_option maxRecDepth 20000 in
theorem st_L_adds_242 {call : m_call} {r : m_R → m_S → Prop} {lo : m_L} {st : List Value} {bd : Nat × Nat} {S : m_S} : m_W1 (m_lk cd_L_adds) call r 242 lo st bd S = o_const (1) 243 call lo st bd S (m_W1 (m_lk cd_L_adds) call r) r := m_W1.iff rfl mm_L_adds
set_option maxRecDepth 20000 in
theorem st_L_adds_243 {call : m_call} {r : m_R → m_S → Prop} {lo : m_L} {st : List Value} {bd : Nat × Nat} {S : m_S} : m_W1 (m_lk cd_L_adds) call r 243 lo st bd S = o_iald 0 244 call lo st bd S (m_W1 (m_lk cd_L_adds) call r) r := m_W1.iff rfl mm_L_adds
set_option maxRecDepth 20000 in
theorem st_L_adds_244 {call : m_call} {r : m_R → m_S → Prop} {lo : m_L} {st : List Value} {bd : Nat × Nat} {S : m_S} : m_W1 (m_lk cd_L_adds) call r 244 lo st bd S = o_bin (fun x y => x * y) 245 call lo st bd S (m_W1 (m_lk cd_L_adds) call r) r := m_W1.iff rfl mm_L_adds
set_option maxRecDepth 20000 in
theorem st_L_adds_245 {call : m_call} {r : m_R → m_S → Prop} {lo : m_L} {st : List Value} {bd : Nat × Nat} {S : m_S} : m_W1 (m_lk cd_L_adds) call r 245 lo st bd S = o_const (1) 246 call lo st bd S (m_W1 (m_lk cd_L_adds) call r) r := m_W1.iff rfl mm_L_adds
set_option maxRecDepth 20000 in
theorem st_L_adds_246 {call : m_call} {r : m_R → m_S → Prop} {lo : m_L} {st : List Value} {bd : Nat × Nat} {S : m_S} : m_W1 (m_lk cd_L_adds) call r 246 lo st bd S = o_bin (fun x y => x + y) 247 call lo st bd S (m_W1 (m_lk cd_L_adds) call r) r := m_W1.iff rfl mm_L_adds
set_option maxRecDepth 20000 in
theorem st_L_adds_247 {call : m_call} {r : m_R → m_S → Prop} {lo : m_L} {st : List Value} {bd : Nat × Nat} {S : m_S} : m_W1 (m_lk cd_L_adds) call r 247 lo st bd S = o_iload 6 249 call lo st bd S (m_W1 (m_lk cd_L_adds) call r) r := m_W1.iff rfl mm_L_adds
set_option maxRecDepth 20000 in
theorem st_L_adds_249 {call : m_call} {r : m_R → m_S → Prop} {lo : m_L} {st : List Value} {bd : Nat × Nat} {S : m_S} : m_W1 (m_lk cd_L_adds) call r 249 lo st bd S = o_iast 250 call lo st bd S (m_W1 (m_lk cd_L_adds) call r) r := m_W1.iff rfl mm_L_adds
set_option maxRecDepth 20000 in
theorem st_L_adds_250 {call : m_call} {r : m_R → m_S → Prop} {lo : m_L} {st : List Value} {bd : Nat × Nat} {S : m_S} : m_W1 (m_lk cd_L_adds) call r 250 lo st bd S = o_aload 3 251 call lo st bd S (m_W1 (m_lk cd_L_adds) call r) r := m_W1.iff rfl mm_L_adds
set_option maxRecDepth 20000 in
theorem st_L_adds_251 {call : m_call} {r : m_R → m_S → Prop} {lo : m_L} {st : List Value} {bd : Nat × Nat} {S : m_S} : m_W1 (m_lk cd_L_adds) call r 251 lo st bd S = o_const (4) 252 call lo st bd S (m_W1 (m_lk cd_L_adds) call r) r := m_W1.iff rfl mm_L_adds
set_option maxRecDepth 20000 in
theorem st_L_adds_252 {call : m_call} {r : m_R → m_S → Prop} {lo : m_L} {st : List Value} {bd : Nat × Nat} {S : m_S} : m_W1 (m_lk cd_L_adds) call r 252 lo st bd S = o_aload 1 253 call lo st bd S (m_W1 (m_lk cd_L_adds) call r) r := m_W1.iff rfl mm_L_adds
set_option maxRecDepth 20000 in
theorem st_L_adds_253 {call : m_call} {r : m_R → m_S → Prop} {lo : m_L} {st : List Value} {bd : Nat × Nat} {S : m_S} : m_W1 (m_lk cd_L_adds) call r 253 lo st bd S = o_const (1) 254 call lo st bd S (m_W1 (m_lk cd_L_adds) call r) r := m_W1.iff rfl mm_L_adds
set_option maxRecDepth 20000 in
theorem st_L_adds_254 {call : m_call} {r : m_R → m_S → Prop} {lo : m_L} {st : List Value} {bd : Nat × Nat} {S : m_S} : m_W1 (m_lk cd_L_adds) call r 254 lo st bd S = o_iald 0 255 call lo st bd S (m_W1 (m_lk cd_L_adds) call r) r := m_W1.iff rfl mm_L_adds
set_option maxRecDepth 20000 in
theorem st_L_adds_255 {call : m_call} {r : m_R → m_S → Prop} {lo : m_L} {st : List Value} {bd : Nat × Nat} {S : m_S} : m_W1 (m_lk cd_L_adds) call r 255 lo st bd S = o_bin (fun x y => x * y) 256 call lo st bd S (m_W1 (m_lk cd_L_adds) call r) r := m_W1.iff rfl mm_L_adds
set_option maxRecDepth 20000 in
theorem st_L_adds_256 {call : m_call} {r : m_R → m_S → Prop} {lo : m_L} {st : List Value} {bd : Nat × Nat} {S : m_S} : m_W1 (m_lk cd_L_adds) call r 256 lo st bd S = o_const (2) 257 call lo st bd S (m_W1 (m_lk cd_L_adds) call r) r := m_W1.iff rfl mm_L_adds
set_option maxRecDepth 20000 in
theorem st_L_adds_257 {call : m_call} {r : m_R → m_S → Prop} {lo : m_L} {st : List Value} {bd : Nat × Nat} {S : m_S} : m_W1 (m_lk cd_L_adds) call r 257 lo st bd S = o_bin (fun x y => x + y) 258 call lo st bd S (m_W1 (m_lk cd_L_adds) call r) r := m_W1.iff rfl mm_L_adds
set_option maxRecDepth 20000 in
theorem st_L_adds_258 {call : m_call} {r : m_R → m_S → Prop} {lo : m_L} {st : List Value} {bd : Nat × Nat} {S : m_S} : m_W1 (m_lk cd_L_adds) call r 258 lo st bd S = o_iload 7 260 call lo st bd S (m_W1 (m_lk cd_L_adds) call r) r := m_W1.iff rfl mm_L_adds
set_option maxRecDepth 20000 in
theorem st_L_adds_260 {call : m_call} {r : m_R → m_S → Prop} {lo : m_L} {st : List Value} {bd : Nat × Nat} {S : m_S} : m_W1 (m_lk cd_L_adds) call r 260 lo st bd S = o_iast 261 call lo st bd S (m_W1 (m_lk cd_L_adds) call r) r := m_W1.iff rfl mm_L_adds
set_option maxRecDepth 20000 in
theorem st_L_adds_261 {call : m_call} {r : m_R → m_S → Prop} {lo : m_L} {st : List Value} {bd : Nat × Nat} {S : m_S} : m_W1 (m_lk cd_L_adds) call r 261 lo st bd S = o_aload 3 262 call lo st bd S (m_W1 (m_lk cd_L_adds) call r) r := m_W1.iff rfl mm_L_adds
set_option maxRecDepth 20000 in
theorem st_L_adds_262 {call : m_call} {r : m_R → m_S → Prop} {lo : m_L} {st : List Value} {bd : Nat × Nat} {S : m_S} : m_W1 (m_lk cd_L_adds) call r 262 lo st bd S = o_const (4) 263 call lo st bd S (m_W1 (m_lk cd_L_adds) call r) r := m_W1.iff rfl mm_L_adds
set_option maxRecDepth 20000 in
theorem st_L_adds_263 {call : m_call} {r : m_R → m_S → Prop} {lo : m_L} {st : List Value} {bd : Nat × Nat} {S : m_S} : m_W1 (m_lk cd_L_adds) call r 263 lo st bd S = o_aload 1 264 call lo st bd S (m_W1 (m_lk cd_L_adds) call r) r := m_W1.iff rfl mm_L_adds
set_option maxRecDepth 20000 in
theorem st_L_adds_264 {call : m_call} {r : m_R → m_S → Prop} {lo : m_L} {st : List Value} {bd : Nat × Nat} {S : m_S} : m_W1 (m_lk cd_L_adds) call r 264 lo st bd S = o_const (1) 265 call lo st bd S (m_W1 (m_lk cd_L_adds) call r) r := m_W1.iff rfl mm_L_adds
set_option maxRecDepth 20000 in
theorem st_L_adds_265 {call : m_call} {r : m_R → m_S → Prop} {lo : m_L} {st : List Value} {bd : Nat × Nat} {S : m_S} : m_W1 (m_lk cd_L_adds) call r 265 lo st bd S = o_iald 0 266 call lo st bd S (m_W1 (m_lk cd_L_adds) call r) r := m_W1.iff rfl mm_L_adds
set_option maxRecDepth 20000 in
theorem st_L_adds_266 {call : m_call} {r : m_R → m_S → Prop} {lo : m_L} {st : List Value} {bd : Nat × Nat} {S : m_S} : m_W1 (m_lk cd_L_adds) call r 266 lo st bd S = o_bin (fun x y => x * y) 267 call lo st bd S (m_W1 (m_lk cd_L_adds) call r) r := m_W1.iff rfl mm_L_adds
set_option maxRecDepth 20000 in
theorem st_L_adds_267 {call : m_call} {r : m_R → m_S → Prop} {lo : m_L} {st : List Value} {bd : Nat × Nat} {S : m_S} : m_W1 (m_lk cd_L_adds) call r 267 lo st bd S = o_const (3) 268 call lo st bd S (m_W1 (m_lk cd_L_adds) call r) r := m_W1.iff rfl mm_L_adds
set_option maxRecDepth 20000 in
theorem st_L_adds_268 {call : m_call} {r : m_R → m_S → Prop} {lo : m_L} {st : List Value} {bd : Nat × Nat} {S : m_S} : m_W1 (m_lk cd_L_adds) call r 268 lo st bd S = o_bin (fun x y => x + y) 269 call lo st bd S (m_W1 (m_lk cd_L_adds) call r) r := m_W1.iff rfl mm_L_adds
set_option maxRecDepth 20000 in
theorem st_L_adds_269 {call : m_call} {r : m_R → m_S → Prop} {lo : m_L} {st : List Value} {bd : Nat × Nat} {S : m_S} : m_W1 (m_lk cd_L_adds) call r 269 lo st bd S = o_iload 10 271 call lo st bd S (m_W1 (m_lk cd_L_adds) call r) r := m_W1.iff rfl mm_L_adds
set_option maxRecDepth 20000 in
theorem st_L_adds_271 {call : m_call} {r : m_R → m_S → Prop} {lo : m_L} {st : List Value} {bd : Nat × Nat} {S : m_S} : m_W1 (m_lk cd_L_adds) call r 271 lo st bd S = o_iast 272 call lo st bd S (m_W1 (m_lk cd_L_adds) call r) r := m_W1.iff rfl mm_L_adds
set_option maxRecDepth 20000 in
theorem st_L_adds_272 {call : m_call} {r : m_R → m_S → Prop} {lo : m_L} {st : List Value} {bd : Nat × Nat} {S : m_S} : m_W1 (m_lk cd_L_adds) call r 272 lo st bd S = o_aload 1 273 call lo st bd S (m_W1 (m_lk cd_L_adds) call r) r := m_W1.iff rfl mm_L_adds
set_option maxRecDepth 20000 in
theorem st_L_adds_273 {call : m_call} {r : m_R → m_S → Prop} {lo : m_L} {st : List Value} {bd : Nat × Nat} {S : m_S} : m_W1 (m_lk cd_L_adds) call r 273 lo st bd S = o_const (1) 274 call lo st bd S (m_W1 (m_lk cd_L_adds) call r) r := m_W1.iff rfl mm_L_adds
set_option maxRecDepth 20000 in
theorem st_L_adds_274 {call : m_call} {r : m_R → m_S → Prop} {lo : m_L} {st : List Value} {bd : Nat × Nat} {S : m_S} : m_W1 (m_lk cd_L_adds) call r 274 lo st bd S = o_dup2 275 call lo st bd S (m_W1 (m_lk cd_L_adds) call r) r := m_W1.iff rfl mm_L_adds
set_option maxRecDepth 20000 in
theorem st_L_adds_275 {call : m_call} {r : m_R → m_S → Prop} {lo : m_L} {st : List Value} {bd : Nat × Nat} {S : m_S} : m_W1 (m_lk cd_L_adds) call r 275 lo st bd S = o_iald 0 276 call lo st bd S (m_W1 (m_lk cd_L_adds) call r) r := m_W1.iff rfl mm_L_adds
set_option maxRecDepth 20000 in
theorem st_L_adds_276 {call : m_call} {r : m_R → m_S → Prop} {lo : m_L} {st : List Value} {bd : Nat × Nat} {S : m_S} : m_W1 (m_lk cd_L_adds) call r 276 lo st bd S = o_const (1) 277 call lo st bd S (m_W1 (m_lk cd_L_adds) call r) r := m_W1.iff rfl mm_L_adds
set_option maxRecDepth 20000 in
theorem st_L_adds_277 {call : m_call} {r : m_R → m_S → Prop} {lo : m_L} {st : List Value} {bd : Nat × Nat} {S : m_S} : m_W1 (m_lk cd_L_adds) call r 277 lo st bd S = o_bin (fun x y => x + y) 278 call lo st bd S (m_W1 (m_lk cd_L_adds) call r) r := m_W1.iff rfl mm_L_adds
set_option maxRecDepth 20000 in
theorem st_L_adds_278 {call : m_call} {r : m_R → m_S → Prop} {lo : m_L} {st : List Value} {bd : Nat × Nat} {S : m_S} : m_W1 (m_lk cd_L_adds) call r 278 lo st bd S = o_iast 279 call lo st bd S (m_W1 (m_lk cd_L_adds) call r) r := m_W1.iff rfl mm_L_adds
set_option maxRecDepth 20000 in
theorem st_L_adds_279 {call : m_call} {r : m_R → m_S → Prop} {lo : m_L} {st : List Value} {bd : Nat × Nat} {S : m_S} : m_W1 (m_lk cd_L_adds) call r 279 lo st bd S = o_iload 11 281 call lo st bd S (m_W1 (m_lk cd_L_adds) call r) r := m_W1.iff rfl mm_L_adds
set_option maxRecDepth 20000 in
theorem st_L_adds_281 {call : m_call} {r : m_R → m_S → Prop} {lo : m_L} {st : List Value} {bd : Nat × Nat} {S : m_S} : m_W1 (m_lk cd_L_adds) call r 281 lo st bd S = o_aload 1 282 call lo st bd S (m_W1 (m_lk cd_L_adds) call r) r := m_W1.iff rfl mm_L_adds
set_option maxRecDepth 20000 in
theorem st_L_adds_282 {call : m_call} {r : m_R → m_S → Prop} {lo : m_L} {st : List Value} {bd : Nat × Nat} {S : m_S} : m_W1 (m_lk cd_L_adds) call r 282 lo st bd S = o_const (1) 283 call lo st bd S (m_W1 (m_lk cd_L_adds) call r) r := m_W1.iff rfl mm_L_adds
set_option maxRecDepth 20000 in
theorem st_L_adds_283 {call : m_call} {r : m_R → m_S → Prop} {lo : m_L} {st : List Value} {bd : Nat × Nat} {S : m_S} : m_W1 (m_lk cd_L_adds) call r 283 lo st bd S = o_iald 0 284 call lo st bd S (m_W1 (m_lk cd_L_adds) call r) r := m_W1.iff rfl mm_L_adds
set_option maxRecDepth 20000 in
theorem st_L_adds_284 {call : m_call} {r : m_R → m_S → Prop} {lo : m_L} {st : List Value} {bd : Nat × Nat} {S : m_S} : m_W1 (m_lk cd_L_adds) call r 284 lo st bd S = o_const (1) 285 call lo st bd S (m_W1 (m_lk cd_L_adds) call r) r := m_W1.iff rfl mm_L_adds
set_option maxRecDepth 20000 in
theorem st_L_adds_285 {call : m_call} {r : m_R → m_S → Prop} {lo : m_L} {st : List Value} {bd : Nat × Nat} {S : m_S} : m_W1 (m_lk cd_L_adds) call r 285 lo st bd S = o_bin (fun x y => x - y) 286 call lo st bd S (m_W1 (m_lk cd_L_adds) call r) r := m_W1.iff rfl mm_L_adds
set_option maxRecDepth 20000 in
theorem st_L_adds_286 {call : m_call} {r : m_R → m_S → Prop} {lo : m_L} {st : List Value} {bd : Nat × Nat} {S : m_S} : m_W1 (m_lk cd_L_adds) call r 286 lo st bd S = o_icmpne 312 289 call lo st bd S (m_W1 (m_lk cd_L_adds) call r) r := m_W1.iff rfl mm_L_adds
set_option maxRecDepth 20000 in
theorem st_L_adds_289 {call : m_call} {r : m_R → m_S → Prop} {lo : m_L} {st : List Value} {bd : Nat × Nat} {S : m_S} : m_W1 (m_lk cd_L_adds) call r 289 lo st bd S = o_aload 0 290 call lo st bd S (m_W1 (m_lk cd_L_adds) call r) r := m_W1.iff rfl mm_L_adds
set_option maxRecDepth 20000 in
theorem st_L_adds_290 {call : m_call} {r : m_R → m_S → Prop} {lo : m_L} {st : List Value} {bd : Nat × Nat} {S : m_S} : m_W1 (m_lk cd_L_adds) call r 290 lo st bd S = o_iload 11 292 call lo st bd S (m_W1 (m_lk cd_L_adds) call r) r := m_W1.iff rfl mm_L_adds
set_option maxRecDepth 20000 in
theorem st_L_adds_292 {call : m_call} {r : m_R → m_S → Prop} {lo : m_L} {st : List Value} {bd : Nat × Nat} {S : m_S} : m_W1 (m_lk cd_L_adds) call r 292 lo st bd S = o_call 89 2 1 6 295 call lo st bd S (m_W1 (m_lk cd_L_adds) call r) r := m_W1.iff rfl mm_L_adds
set_option maxRecDepth 20000 in
theorem st_L_adds_295 {call : m_call} {r : m_R → m_S → Prop} {lo : m_L} {st : List Value} {bd : Nat × Nat} {S : m_S} : m_W1 (m_lk cd_L_adds) call r 295 lo st bd S = o_const (-1) 296 call lo st bd S (m_W1 (m_lk cd_L_adds) call r) r := m_W1.iff rfl mm_L_adds
set_option maxRecDepth 20000 in
theorem st_L_adds_296 {call : m_call} {r : m_R → m_S → Prop} {lo : m_L} {st : List Value} {bd : Nat × Nat} {S : m_S} : m_W1 (m_lk cd_L_adds) call r 296 lo st bd S = o_icmpne 312 299 call lo st bd S (m_W1 (m_lk cd_L_adds) call r) r := m_W1.iff rfl mm_L_adds
set_option maxRecDepth 20000 in
theorem st_L_adds_299 {call : m_call} {r : m_R → m_S → Prop} {lo : m_L} {st : List Value} {bd : Nat × Nat} {S : m_S} : m_W1 (m_lk cd_L_adds) call r 299 lo st bd S = o_aload 0 300 call lo st bd S (m_W1 (m_lk cd_L_adds) call r) r := m_W1.iff rfl mm_L_adds
set_option maxRecDepth 20000 in
theorem st_L_adds_300 {call : m_call} {r : m_R → m_S → Prop} {lo : m_L} {st : List Value} {bd : Nat × Nat} {S : m_S} : m_W1 (m_lk cd_L_adds) call r 300 lo st bd S = o_iload 11 302 call lo st bd S (m_W1 (m_lk cd_L_adds) call r) r := m_W1.iff rfl mm_L_adds
set_option maxRecDepth 20000 in
theorem st_L_adds_302 {call : m_call} {r : m_R → m_S → Prop} {lo : m_L} {st : List Value} {bd : Nat × Nat} {S : m_S} : m_W1 (m_lk cd_L_adds) call r 302 lo st bd S = o_call 90 2 1 6 305 call lo st bd S (m_W1 (m_lk cd_L_adds) call r) r := m_W1.iff rfl mm_L_adds
set_option maxRecDepth 20000 in
theorem st_L_adds_305 {call : m_call} {r : m_R → m_S → Prop} {lo : m_L} {st : List Value} {bd : Nat × Nat} {S : m_S} : m_W1 (m_lk cd_L_adds) call r 305 lo st bd S = o_ifne 312 308 call lo st bd S (m_W1 (m_lk cd_L_adds) call r) r := m_W1.iff rfl mm_L_adds
set_option maxRecDepth 20000 in
theorem st_L_adds_308 {call : m_call} {r : m_R → m_S → Prop} {lo : m_L} {st : List Value} {bd : Nat × Nat} {S : m_S} : m_W1 (m_lk cd_L_adds) call r 308 lo st bd S = o_const (1) 309 call lo st bd S (m_W1 (m_lk cd_L_adds) call r) r := m_W1.iff rfl mm_L_adds
set_option maxRecDepth 20000 in
theorem st_L_adds_309 {call : m_call} {r : m_R → m_S → Prop} {lo : m_L} {st : List Value} {bd : Nat × Nat} {S : m_S} : m_W1 (m_lk cd_L_adds) call r 309 lo st bd S = o_goto 313 call lo st bd S (m_W1 (m_lk cd_L_adds) call r) r := m_W1.iff rfl mm_L_adds
set_option maxRecDepth 20000 in
theorem st_L_adds_312 {call : m_call} {r : m_R → m_S → Prop} {lo : m_L} {st : List Value} {bd : Nat × Nat} {S : m_S} : m_W1 (m_lk cd_L_adds) call r 312 lo st bd S = o_const (0) 313 call lo st bd S (m_W1 (m_lk cd_L_adds) call r) r := m_W1.iff rfl mm_L_adds
set_option maxRecDepth 20000 in
theorem st_L_adds_313 {call : m_call} {r : m_R → m_S → Prop} {lo : m_L} {st : List Value} {bd : Nat × Nat} {S : m_S} : m_W1 (m_lk cd_L_adds) call r 313 lo st bd S = o_zreturn call lo st bd S (m_W1 (m_lk cd_L_adds) call r) r := m_W1.iff rfl mm_L_adds
set_option maxRecDepth 20000 in
theorem st_L_adds_314 {call : m_call} {r : m_R → m_S → Prop} {lo : m_L} {st : List Value} {bd : Nat × Nat} {S : m_S} : m_W1 (m_lk cd_L_adds) call r 314 lo st bd S = o_aload 0 315 call lo st bd S (m_W1 (m_lk cd_L_adds) call r) r := m_W1.iff rfl mm_L_adds
set_option maxRecDepth 20000 in
theorem st_L_adds_315 {call : m_call} {r : m_R → m_S → Prop} {lo : m_L} {st : List Value} {bd : Nat × Nat} {S : m_S} : m_W1 (m_lk cd_L_adds) call r 315 lo st bd S = o_iload 6 317 call lo st bd S (m_W1 (m_lk cd_L_adds) call r) r := m_W1.iff rfl mm_L_adds
set_option maxRecDepth 20000 in
theorem st_L_adds_317 {call : m_call} {r : m_R → m_S → Prop} {lo : m_L} {st : List Value} {bd : Nat × Nat} {S : m_S} : m_W1 (m_lk cd_L_adds) call r 317 lo st bd S = o_const (10) 319 call lo st bd S (m_W1 (m_lk cd_L_adds) call r) r := m_W1.iff rfl mm_L_adds
set_option maxRecDepth 20000 in
theorem st_L_adds_319 {call : m_call} {r : m_R → m_S → Prop} {lo : m_L} {st : List Value} {bd : Nat × Nat} {S : m_S} : m_W1 (m_lk cd_L_adds) call r 319 lo st bd S = o_iload 5 321 call lo st bd S (m_W1 (m_lk cd_L_adds) call r) r := m_W1.iff rfl mm_L_adds
set_option maxRecDepth 20000 in
theorem st_L_adds_321 {call : m_call} {r : m_R → m_S → Prop} {lo : m_L} {st : List Value} {bd : Nat × Nat} {S : m_S} : m_W1 (m_lk cd_L_adds) call r 321 lo st bd S = o_const (191) 324 call lo st bd S (m_W1 (m_lk cd_L_adds) call r) r := m_W1.iff rfl mm_L_adds
set_option maxRecDepth 20000 in
theorem st_L_adds_324 {call : m_call} {r : m_R → m_S → Prop} {lo : m_L} {st : List Value} {bd : Nat × Nat} {S : m_S} : m_W1 (m_lk cd_L_adds) call r 324 lo st bd S = o_call 77 2 0 0 327 call lo st bd S (m_W1 (m_lk cd_L_adds) call r) r := m_W1.iff rfl mm_L_adds
set_option maxRecDepth 20000 in
theorem st_L_adds_327 {call : m_call} {r : m_R → m_S → Prop} {lo : m_L} {st : List Value} {bd : Nat × Nat} {S : m_S} : m_W1 (m_lk cd_L_adds) call r 327 lo st bd S = o_bin (fun x y => x + y) 328 call lo st bd S (m_W1 (m_lk cd_L_adds) call r) r := m_W1.iff rfl mm_L_adds
set_option maxRecDepth 20000 in
theorem st_L_adds_328 {call : m_call} {r : m_R → m_S → Prop} {lo : m_L} {st : List Value} {bd : Nat × Nat} {S : m_S} : m_W1 (m_lk cd_L_adds) call r 328 lo st bd S = o_iload 5 330 call lo st bd S (m_W1 (m_lk cd_L_adds) call r) r := m_W1.iff rfl mm_L_adds
set_option maxRecDepth 20000 in
theorem st_L_adds_330 {call : m_call} {r : m_R → m_S → Prop} {lo : m_L} {st : List Value} {bd : Nat × Nat} {S : m_S} : m_W1 (m_lk cd_L_adds) call r 330 lo st bd S = o_const (8) 332 call lo st bd S (m_W1 (m_lk cd_L_adds) call r) r := m_W1.iff rfl mm_L_adds
set_option maxRecDepth 20000 in
theorem st_L_adds_332 {call : m_call} {r : m_R → m_S → Prop} {lo : m_L} {st : List Value} {bd : Nat × Nat} {S : m_S} : m_W1 (m_lk cd_L_adds) call r 332 lo st bd S = o_bin (fun x y => x >>> (y &&& 31)) 333 call lo st bd S (m_W1 (m_lk cd_L_adds) call r) r := m_W1.iff rfl mm_L_adds
set_option maxRecDepth 20000 in
theorem st_L_adds_333 {call : m_call} {r : m_R → m_S → Prop} {lo : m_L} {st : List Value} {bd : Nat × Nat} {S : m_S} : m_W1 (m_lk cd_L_adds) call r 333 lo st bd S = o_const (11) 335 call lo st bd S (m_W1 (m_lk cd_L_adds) call r) r := m_W1.iff rfl mm_L_adds
set_option maxRecDepth 20000 in
theorem st_L_adds_335 {call : m_call} {r : m_R → m_S → Prop} {lo : m_L} {st : List Value} {bd : Nat × Nat} {S : m_S} : m_W1 (m_lk cd_L_adds) call r 335 lo st bd S = o_call 77 2 0 0 338 call lo st bd S (m_W1 (m_lk cd_L_adds) call r) r := m_W1.iff rfl mm_L_adds
set_option maxRecDepth 20000 in
theorem st_L_adds_338 {call : m_call} {r : m_R → m_S → Prop} {lo : m_L} {st : List Value} {bd : Nat × Nat} {S : m_S} : m_W1 (m_lk cd_L_adds) call r 338 lo st bd S = o_call 82 4 5 28 341 call lo st bd S (m_W1 (m_lk cd_L_adds) call r) r := m_W1.iff rfl mm_L_adds
set_option maxRecDepth 20000 in
theorem st_L_adds_341 {call : m_call} {r : m_R → m_S → Prop} {lo : m_L} {st : List Value} {bd : Nat × Nat} {S : m_S} : m_W1 (m_lk cd_L_adds) call r 341 lo st bd S = o_istore 10 343 call lo st bd S (m_W1 (m_lk cd_L_adds) call r) r := m_W1.iff rfl mm_L_adds
set_option maxRecDepth 20000 in
theorem st_L_adds_343 {call : m_call} {r : m_R → m_S → Prop} {lo : m_L} {st : List Value} {bd : Nat × Nat} {S : m_S} : m_W1 (m_lk cd_L_adds) call r 343 lo st bd S = o_aload 1 344 call lo st bd S (m_W1 (m_lk cd_L_adds) call r) r := m_W1.iff rfl mm_L_adds
set_option maxRecDepth 20000 in
theorem st_L_adds_344 {call : m_call} {r : m_R → m_S → Prop} {lo : m_L} {st : List Value} {bd : Nat × Nat} {S : m_S} : m_W1 (m_lk cd_L_adds) call r 344 lo st bd S = o_const (3) 345 call lo st bd S (m_W1 (m_lk cd_L_adds) call r) r := m_W1.iff rfl mm_L_adds
set_option maxRecDepth 20000 in
theorem st_L_adds_345 {call : m_call} {r : m_R → m_S → Prop} {lo : m_L} {st : List Value} {bd : Nat × Nat} {S : m_S} : m_W1 (m_lk cd_L_adds) call r 345 lo st bd S = o_dup2 346 call lo st bd S (m_W1 (m_lk cd_L_adds) call r) r := m_W1.iff rfl mm_L_adds
set_option maxRecDepth 20000 in
theorem st_L_adds_346 {call : m_call} {r : m_R → m_S → Prop} {lo : m_L} {st : List Value} {bd : Nat × Nat} {S : m_S} : m_W1 (m_lk cd_L_adds) call r 346 lo st bd S = o_iald 0 347 call lo st bd S (m_W1 (m_lk cd_L_adds) call r) r := m_W1.iff rfl mm_L_adds
set_option maxRecDepth 20000 in
theorem st_L_adds_347 {call : m_call} {r : m_R → m_S → Prop} {lo : m_L} {st : List Value} {bd : Nat × Nat} {S : m_S} : m_W1 (m_lk cd_L_adds) call r 347 lo st bd S = o_aload 1 348 call lo st bd S (m_W1 (m_lk cd_L_adds) call r) r := m_W1.iff rfl mm_L_adds
set_option maxRecDepth 20000 in
theorem st_L_adds_348 {call : m_call} {r : m_R → m_S → Prop} {lo : m_L} {st : List Value} {bd : Nat × Nat} {S : m_S} : m_W1 (m_lk cd_L_adds) call r 348 lo st bd S = o_const (3) 349 call lo st bd S (m_W1 (m_lk cd_L_adds) call r) r := m_W1.iff rfl mm_L_adds
set_option maxRecDepth 20000 in
theorem st_L_adds_349 {call : m_call} {r : m_R → m_S → Prop} {lo : m_L} {st : List Value} {bd : Nat × Nat} {S : m_S} : m_W1 (m_lk cd_L_adds) call r 349 lo st bd S = o_iald 0 350 call lo st bd S (m_W1 (m_lk cd_L_adds) call r) r := m_W1.iff rfl mm_L_adds
set_option maxRecDepth 20000 in
theorem st_L_adds_350 {call : m_call} {r : m_R → m_S → Prop} {lo : m_L} {st : List Value} {bd : Nat × Nat} {S : m_S} : m_W1 (m_lk cd_L_adds) call r 350 lo st bd S = o_const (3) 351 call lo st bd S (m_W1 (m_lk cd_L_adds) call r) r := m_W1.iff rfl mm_L_adds
set_option maxRecDepth 20000 in
theorem st_L_adds_351 {call : m_call} {r : m_R → m_S → Prop} {lo : m_L} {st : List Value} {bd : Nat × Nat} {S : m_S} : m_W1 (m_lk cd_L_adds) call r 351 lo st bd S = o_icmpne 358 354 call lo st bd S (m_W1 (m_lk cd_L_adds) call r) r := m_W1.iff rfl mm_L_adds
set_option maxRecDepth 20000 in
theorem st_L_adds_354 {call : m_call} {r : m_R → m_S → Prop} {lo : m_L} {st : List Value} {bd : Nat × Nat} {S : m_S} : m_W1 (m_lk cd_L_adds) call r 354 lo st bd S = o_const (0) 355 call lo st bd S (m_W1 (m_lk cd_L_adds) call r) r := m_W1.iff rfl mm_L_adds
set_option maxRecDepth 20000 in
theorem st_L_adds_355 {call : m_call} {r : m_R → m_S → Prop} {lo : m_L} {st : List Value} {bd : Nat × Nat} {S : m_S} : m_W1 (m_lk cd_L_adds) call r 355 lo st bd S = o_goto 359 call lo st bd S (m_W1 (m_lk cd_L_adds) call r) r := m_W1.iff rfl mm_L_adds
set_option maxRecDepth 20000 in
theorem st_L_adds_358 {call : m_call} {r : m_R → m_S → Prop} {lo : m_L} {st : List Value} {bd : Nat × Nat} {S : m_S} : m_W1 (m_lk cd_L_adds) call r 358 lo st bd S = o_const (1) 359 call lo st bd S (m_W1 (m_lk cd_L_adds) call r) r := m_W1.iff rfl mm_L_adds
set_option maxRecDepth 20000 in
theorem st_L_adds_359 {call : m_call} {r : m_R → m_S → Prop} {lo : m_L} {st : List Value} {bd : Nat × Nat} {S : m_S} : m_W1 (m_lk cd_L_adds) call r 359 lo st bd S = o_bin (fun x y => x + y) 360 call lo st bd S (m_W1 (m_lk cd_L_adds) call r) r := m_W1.iff rfl mm_L_adds
set_option maxRecDepth 20000 in
theorem st_L_adds_360 {call : m_call} {r : m_R → m_S → Prop} {lo : m_L} {st : List Value} {bd : Nat × Nat} {S : m_S} : m_W1 (m_lk cd_L_adds) call r 360 lo st bd S = o_iast 361 call lo st bd S (m_W1 (m_lk cd_L_adds) call r) r := m_W1.iff rfl mm_L_adds
set_option maxRecDepth 20000 in
theorem st_L_adds_361 {call : m_call} {r : m_R → m_S → Prop} {lo : m_L} {st : List Value} {bd : Nat × Nat} {S : m_S} : m_W1 (m_lk cd_L_adds) call r 361 lo st bd S = o_iload 10 363 call lo st bd S (m_W1 (m_lk cd_L_adds) call r) r := m_W1.iff rfl mm_L_adds
set_option maxRecDepth 20000 in
theorem st_L_adds_363 {call : m_call} {r : m_R → m_S → Prop} {lo : m_L} {st : List Value} {bd : Nat × Nat} {S : m_S} : m_W1 (m_lk cd_L_adds) call r 363 lo st bd S = o_aload 1 364 call lo st bd S (m_W1 (m_lk cd_L_adds) call r) r := m_W1.iff rfl mm_L_adds
set_option maxRecDepth 20000 in
theorem st_L_adds_364 {call : m_call} {r : m_R → m_S → Prop} {lo : m_L} {st : List Value} {bd : Nat × Nat} {S : m_S} : m_W1 (m_lk cd_L_adds) call r 364 lo st bd S = o_const (3) 365 call lo st bd S (m_W1 (m_lk cd_L_adds) call r) r := m_W1.iff rfl mm_L_adds
set_option maxRecDepth 20000 in
theorem st_L_adds_365 {call : m_call} {r : m_R → m_S → Prop} {lo : m_L} {st : List Value} {bd : Nat × Nat} {S : m_S} : m_W1 (m_lk cd_L_adds) call r 365 lo st bd S = o_iald 0 366 call lo st bd S (m_W1 (m_lk cd_L_adds) call r) r := m_W1.iff rfl mm_L_adds
set_option maxRecDepth 20000 in
theorem st_L_adds_366 {call : m_call} {r : m_R → m_S → Prop} {lo : m_L} {st : List Value} {bd : Nat × Nat} {S : m_S} : m_W1 (m_lk cd_L_adds) call r 366 lo st bd S = o_const (1) 367 call lo st bd S (m_W1 (m_lk cd_L_adds) call r) r := m_W1.iff rfl mm_L_adds
set_option maxRecDepth 20000 in
theorem st_L_adds_367 {call : m_call} {r : m_R → m_S → Prop} {lo : m_L} {st : List Value} {bd : Nat × Nat} {S : m_S} : m_W1 (m_lk cd_L_adds) call r 367 lo st bd S = o_bin (fun x y => x - y) 368 call lo st bd S (m_W1 (m_lk cd_L_adds) call r) r := m_W1.iff rfl mm_L_adds
set_option maxRecDepth 20000 in
theorem st_L_adds_368 {call : m_call} {r : m_R → m_S → Prop} {lo : m_L} {st : List Value} {bd : Nat × Nat} {S : m_S} : m_W1 (m_lk cd_L_adds) call r 368 lo st bd S = o_icmpeq 378 371 call lo st bd S (m_W1 (m_lk cd_L_adds) call r) r := m_W1.iff rfl mm_L_adds
set_option maxRecDepth 20000 in
theorem st_L_adds_371 {call : m_call} {r : m_R → m_S → Prop} {lo : m_L} {st : List Value} {bd : Nat × Nat} {S : m_S} : m_W1 (m_lk cd_L_adds) call r 371 lo st bd S = o_iload 10 373 call lo st bd S (m_W1 (m_lk cd_L_adds) call r) r := m_W1.iff rfl mm_L_adds
set_option maxRecDepth 20000 in
theorem st_L_adds_373 {call : m_call} {r : m_R → m_S → Prop} {lo : m_L} {st : List Value} {bd : Nat × Nat} {S : m_S} : m_W1 (m_lk cd_L_adds) call r 373 lo st bd S = o_const (-1000003) 375 call lo st bd S (m_W1 (m_lk cd_L_adds) call r) r := m_W1.iff rfl mm_L_adds
set_option maxRecDepth 20000 in
theorem st_L_adds_375 {call : m_call} {r : m_R → m_S → Prop} {lo : m_L} {st : List Value} {bd : Nat × Nat} {S : m_S} : m_W1 (m_lk cd_L_adds) call r 375 lo st bd S = o_icmpne 382 378 call lo st bd S (m_W1 (m_lk cd_L_adds) call r) r := m_W1.iff rfl mm_L_adds
set_option maxRecDepth 20000 in
theorem st_L_adds_378 {call : m_call} {r : m_R → m_S → Prop} {lo : m_L} {st : List Value} {bd : Nat × Nat} {S : m_S} : m_W1 (m_lk cd_L_adds) call r 378 lo st bd S = o_const (1) 379 call lo st bd S (m_W1 (m_lk cd_L_adds) call r) r := m_W1.iff rfl mm_L_adds
set_option maxRecDepth 20000 in
theorem st_L_adds_379 {call : m_call} {r : m_R → m_S → Prop} {lo : m_L} {st : List Value} {bd : Nat × Nat} {S : m_S} : m_W1 (m_lk cd_L_adds) call r 379 lo st bd S = o_goto 383 call lo st bd S (m_W1 (m_lk cd_L_adds) call r) r := m_W1.iff rfl mm_L_adds
set_option maxRecDepth 20000 in
theorem st_L_adds_382 {call : m_call} {r : m_R → m_S → Prop} {lo : m_L} {st : List Value} {bd : Nat × Nat} {S : m_S} : m_W1 (m_lk cd_L_adds) call r 382 lo st bd S = o_const (0) 383 call lo st bd S (m_W1 (m_lk cd_L_adds) call r) r := m_W1.iff rfl mm_L_adds
set_option maxRecDepth 20000 in
theorem st_L_adds_383 {call : m_call} {r : m_R → m_S → Prop} {lo : m_L} {st : List Value} {bd : Nat × Nat} {S : m_S} : m_W1 (m_lk cd_L_adds) call r 383 lo st bd S = o_zreturn call lo st bd S (m_W1 (m_lk cd_L_adds) call r) r := m_W1.iff rfl mm_L_adds
set_option maxRecDepth 20000 in
theorem mm_L_sets : ∀ q, m_mono (m_lk cd_L_sets q) := m_mono_lk _ (m_mc mo_iload <| m_mc mo_const <| m_mc mo_call <| m_mc mo_istore <| m_mc mo_aload <| m_mc mo_const <| m_mc mo_iald <| m_mc mo_ifne <| m_mc mo_const <| m_mc mo_goto <| m_mc mo_iload <| m_mc mo_const <| m_mc mo_bin <| m_mc mo_aload <| m_mc mo_const <| m_mc mo_iald <| m_mc mo_call <| m_mc mo_istore <| m_mc mo_iload <| m_mc mo_const <| m_mc mo_icmpge <| m_mc mo_iload <| m_mc mo_const <| m_mc mo_call <| m_mc mo_istore <| m_mc mo_iload <| m_mc mo_const <| m_mc mo_bin <| m_mc mo_iload <| m_mc mo_const <| m_mc mo_bin <| m_mc mo_const <| m_mc mo_call <| m_mc mo_bin <| m_mc mo_const <| m_mc mo_div <| m_mc mo_istore <| m_mc mo_const <| m_mc mo_iload <| m_mc mo_const <| m_mc mo_bin <| m_mc mo_const <| m_mc mo_call <| m_mc mo_bin <| m_mc mo_istore <| m_mc mo_iload <| m_mc mo_const <| m_mc mo_bin <| m_mc mo_const <| m_mc mo_call <| m_mc mo_istore <| m_mc mo_aload <| m_mc mo_iload <| m_mc mo_iload <| m_mc mo_call <| m_mc mo_istore <| m_mc mo_aload <| m_mc mo_iload <| m_mc mo_call <| m_mc mo_istore <| m_mc mo_aload <| m_mc mo_iload <| m_mc mo_iload <| m_mc mo_call <| m_mc mo_istore <| m_mc mo_aload <| m_mc mo_iload <| m_mc mo_iload <| m_mc mo_iload <| m_mc mo_iload <| m_mc mo_iload <| m_mc mo_call <| m_mc mo_istore <| m_mc mo_aload <| m_mc mo_const <| m_mc mo_iald <| m_mc mo_ifne <| m_mc mo_iload <| m_mc mo_const <| m_mc mo_icmpne <| m_mc mo_const <| m_mc mo_goto <| m_mc mo_const <| m_mc mo_goto <| m_mc mo_iload <| m_mc mo_const <| m_mc mo_icmpne <| m_mc mo_aload <| m_mc mo_iload <| m_mc mo_call <| m_mc mo_iload <| m_mc mo_icmpne <| m_mc mo_const <| m_mc mo_goto <| m_mc mo_const <| m_mc mo_goto <| m_mc mo_iload <| m_mc mo_iload <| m_mc mo_iload <| m_mc mo_bin <| m_mc mo_icmpne <| m_mc mo_aload <| m_mc mo_iload <| m_mc mo_call <| m_mc mo_iload <| m_mc mo_iload <| m_mc mo_bin <| m_mc mo_icmpne <| m_mc mo_aload <| m_mc mo_iload <| m_mc mo_iload <| m_mc mo_call <| m_mc mo_iload <| m_mc mo_iload <| m_mc mo_bin <| m_mc mo_icmpne <| m_mc mo_const <| m_mc mo_goto <| m_mc mo_const <| m_mc mo_zreturn <| m_mc mo_iload <| m_mc mo_const <| m_mc mo_icmpge <| m_mc mo_aload <| m_mc mo_const <| m_mc mo_iald <| m_mc mo_ifle <| m_mc mo_aload <| m_mc mo_iload <| m_mc mo_call <| m_mc mo_const <| m_mc mo_icmpne <| m_mc mo_const <| m_mc mo_goto <| m_mc mo_const <| m_mc mo_istore <| m_mc mo_aload <| m_mc mo_const <| m_mc mo_iload <| m_mc mo_bin <| m_mc mo_iald <| m_mc mo_aload <| m_mc mo_const <| m_mc mo_iload <| m_mc mo_bin <| m_mc mo_const <| m_mc mo_bin <| m_mc mo_iald <| m_mc mo_bin <| m_mc mo_istore <| m_mc mo_aload <| m_mc mo_iload <| m_mc mo_iload <| m_mc mo_const <| m_mc mo_iload <| m_mc mo_ifge <| m_mc mo_iload <| m_mc mo_un <| m_mc mo_goto <| m_mc mo_iload <| m_mc mo_bin <| m_mc mo_const <| m_mc mo_bin <| m_mc mo_call <| m_mc mo_call <| m_mc mo_istore <| m_mc mo_aload <| m_mc mo_const <| m_mc mo_iald <| m_mc mo_ifne <| m_mc mo_iload <| m_mc mo_const <| m_mc mo_icmpne <| m_mc mo_const <| m_mc mo_goto <| m_mc mo_const <| m_mc mo_zreturn <| m_mc mo_iload <| m_mc mo_ifeq <| m_mc mo_aload <| m_mc mo_const <| m_mc mo_iald <| m_mc mo_const <| m_mc mo_icmpge <| m_mc mo_const <| m_mc mo_goto <| m_mc mo_const <| m_mc mo_istore <| m_mc mo_iload <| m_mc mo_ifeq <| m_mc mo_aload <| m_mc mo_const <| m_mc mo_aload <| m_mc mo_const <| m_mc mo_iald <| m_mc mo_bin <| m_mc mo_iload <| m_mc mo_iast <| m_mc mo_aload <| m_mc mo_const <| m_mc mo_dup2 <| m_mc mo_iald <| m_mc mo_const <| m_mc mo_bin <| m_mc mo_iast <| m_mc mo_iload <| m_mc mo_iload <| m_mc mo_ifeq <| m_mc mo_aload <| m_mc mo_const <| m_mc mo_iald <| m_mc mo_const <| m_mc mo_bin <| m_mc mo_goto <| m_mc mo_const <| m_mc mo_icmpne <| m_mc mo_aload <| m_mc mo_iload <| m_mc mo_call <| m_mc mo_iload <| m_mc mo_ifeq <| m_mc mo_const <| m_mc mo_goto <| m_mc mo_iload <| m_mc mo_ifeq <| m_mc mo_const <| m_mc mo_goto <| m_mc mo_const <| m_mc mo_icmpne <| m_mc mo_const <| m_mc mo_goto <| m_mc mo_const <| m_mc mo_zreturn <| m_mc mo_aload <| m_mc mo_const <| m_mc mo_iald <| m_mc mo_ifne <| m_mc mo_const <| m_mc mo_goto <| m_mc mo_iload <| m_mc mo_const <| m_mc mo_bin <| m_mc mo_aload <| m_mc mo_const <| m_mc mo_iald <| m_mc mo_call <| m_mc mo_istore <| m_mc mo_iload <| m_mc mo_const <| m_mc mo_icmpge <| m_mc mo_iload <| m_mc mo_const <| m_mc mo_icmpeq <| m_mc mo_aload <| m_mc mo_const <| m_mc mo_iald <| m_mc mo_ifne <| m_mc mo_const <| m_mc mo_goto <| m_mc mo_iload <| m_mc mo_aload <| m_mc mo_const <| m_mc mo_iald <| m_mc mo_call <| m_mc mo_istore <| m_mc mo_aload <| m_mc mo_iload <| m_mc mo_iload <| m_mc mo_call <| m_mc mo_istore <| m_mc mo_aload <| m_mc mo_const <| m_mc mo_iald <| m_mc mo_ifne <| m_mc mo_iload <| m_mc mo_const <| m_mc mo_icmpne <| m_mc mo_const <| m_mc mo_goto <| m_mc mo_const <| m_mc mo_goto <| m_mc mo_iload <| m_mc mo_const <| m_mc mo_icmplt <| m_mc mo_iload <| m_mc mo_aload <| m_mc mo_const <| m_mc mo_iald <| m_mc mo_icmplt <| m_mc mo_iload <| m_mc mo_const <| m_mc mo_icmpne <| m_mc mo_iload <| m_mc mo_iflt <| m_mc mo_const <| m_mc mo_goto <| m_mc mo_const <| m_mc mo_zreturn <| m_mc mo_iload <| m_mc mo_const <| m_mc mo_call <| m_mc mo_ifne <| m_mc mo_iload <| m_mc mo_const <| m_mc mo_bin <| m_mc mo_const <| m_mc mo_call <| m_mc mo_istore <| m_mc mo_aload <| m_mc mo_iload <| m_mc mo_iload <| m_mc mo_iload <| m_mc mo_const <| m_mc mo_bin <| m_mc mo_const <| m_mc mo_call <| m_mc mo_bin <| m_mc mo_call <| m_mc mo_ifne <| m_mc mo_aload <| m_mc mo_iload <| m_mc mo_iload <| m_mc mo_const <| m_mc mo_bin <| m_mc mo_call <| m_mc mo_const <| m_mc mo_icmpne <| m_mc mo_const <| m_mc mo_goto <| m_mc mo_const <| m_mc mo_zreturn <| m_mc mo_aload <| m_mc mo_iload <| m_mc mo_iload <| m_mc mo_const <| m_mc mo_bin <| m_mc mo_const <| m_mc mo_call <| m_mc mo_call <| m_mc mo_istore <| m_mc mo_iload <| m_mc mo_iflt <| m_mc mo_iload <| m_mc mo_const <| m_mc mo_icmple <| m_mc mo_iload <| m_mc mo_const <| m_mc mo_icmpeq <| m_mc mo_iload <| m_mc mo_const <| m_mc mo_icmpne <| m_mc mo_aload <| m_mc mo_const <| m_mc mo_iald <| m_mc mo_ifne <| m_mc mo_const <| m_mc mo_goto <| m_mc mo_const <| m_mc mo_zreturn <| m_mn)
set_option maxRecDepth 20000 in
theorem xm_L_sets : ∀ q, m_ex (m_lk cd_L_sets q) := m_ex_lk _ (m_xc ex_iload <| m_xc ex_const <| m_xc ex_call <| m_xc ex_istore <| m_xc ex_aload <| m_xc ex_const <| m_xc ex_iald <| m_xc ex_ifne <| m_xc ex_const <| m_xc ex_goto <| m_xc ex_iload <| m_xc ex_const <| m_xc ex_bin <| m_xc ex_aload <| m_xc ex_const <| m_xc ex_iald <| m_xc ex_call <| m_xc ex_istore <| m_xc ex_iload <| m_xc ex_const <| m_xc ex_icmpge <| m_xc ex_iload <| m_xc ex_const <| m_xc ex_call <| m_xc ex_istore <| m_xc ex_iload <| m_xc ex_const <| m_xc ex_bin <| m_xc ex_iload <| m_xc ex_const <| m_xc ex_bin <| m_xc ex_const <| m_xc ex_call <| m_xc ex_bin <| m_xc ex_const <| m_xc ex_div <| m_xc ex_istore <| m_xc ex_const <| m_xc ex_iload <| m_xc ex_const <| m_xc ex_bin <| m_xc ex_const <| m_xc ex_call <| m_xc ex_bin <| m_xc ex_istore <| m_xc ex_iload <| m_xc ex_const <| m_xc ex_bin <| m_xc ex_const <| m_xc ex_call <| m_xc ex_istore <| m_xc ex_aload <| m_xc ex_iload <| m_xc ex_iload <| m_xc ex_call <| m_xc ex_istore <| m_xc ex_aload <| m_xc ex_iload <| m_xc ex_call <| m_xc ex_istore <| m_xc ex_aload <| m_xc ex_iload <| m_xc ex_iload <| m_xc ex_call <| m_xc ex_istore <| m_xc ex_aload <| m_xc ex_iload <| m_xc ex_iload <| m_xc ex_iload <| m_xc ex_iload <| m_xc ex_iload <| m_xc ex_call <| m_xc ex_istore <| m_xc ex_aload <| m_xc ex_const <| m_xc ex_iald <| m_xc ex_ifne <| m_xc ex_iload <| m_xc ex_const <| m_xc ex_icmpne <| m_xc ex_const <| m_xc ex_goto <| m_xc ex_const <| m_xc ex_goto <| m_xc ex_iload <| m_xc ex_const <| m_xc ex_icmpne <| m_xc ex_aload <| m_xc ex_iload <| m_xc ex_call <| m_xc ex_iload <| m_xc ex_icmpne <| m_xc ex_const <| m_xc ex_goto <| m_xc ex_const <| m_xc ex_goto <| m_xc ex_iload <| m_xc ex_iload <| m_xc ex_iload <| m_xc ex_bin <| m_xc ex_icmpne <| m_xc ex_aload <| m_xc ex_iload <| m_xc ex_call <| m_xc ex_iload <| m_xc ex_iload <| m_xc ex_bin <| m_xc ex_icmpne <| m_xc ex_aload <| m_xc ex_iload <| m_xc ex_iload <| m_xc ex_call <| m_xc ex_iload <| m_xc ex_iload <| m_xc ex_bin <| m_xc ex_icmpne <| m_xc ex_const <| m_xc ex_goto <| m_xc ex_const <| m_xc ex_zreturn <| m_xc ex_iload <| m_xc ex_const <| m_xc ex_icmpge <| m_xc ex_aload <| m_xc ex_const <| m_xc ex_iald <| m_xc ex_ifle <| m_xc ex_aload <| m_xc ex_iload <| m_xc ex_call <| m_xc ex_const <| m_xc ex_icmpne <| m_xc ex_const <| m_xc ex_goto <| m_xc ex_const <| m_xc ex_istore <| m_xc ex_aload <| m_xc ex_const <| m_xc ex_iload <| m_xc ex_bin <| m_xc ex_iald <| m_xc ex_aload <| m_xc ex_const <| m_xc ex_iload <| m_xc ex_bin <| m_xc ex_const <| m_xc ex_bin <| m_xc ex_iald <| m_xc ex_bin <| m_xc ex_istore <| m_xc ex_aload <| m_xc ex_iload <| m_xc ex_iload <| m_xc ex_const <| m_xc ex_iload <| m_xc ex_ifge <| m_xc ex_iload <| m_xc ex_un <| m_xc ex_goto <| m_xc ex_iload <| m_xc ex_bin <| m_xc ex_const <| m_xc ex_bin <| m_xc ex_call <| m_xc ex_call <| m_xc ex_istore <| m_xc ex_aload <| m_xc ex_const <| m_xc ex_iald <| m_xc ex_ifne <| m_xc ex_iload <| m_xc ex_const <| m_xc ex_icmpne <| m_xc ex_const <| m_xc ex_goto <| m_xc ex_const <| m_xc ex_zreturn <| m_xc ex_iload <| m_xc ex_ifeq <| m_xc ex_aload <| m_xc ex_const <| m_xc ex_iald <| m_xc ex_const <| m_xc ex_icmpge <| m_xc ex_const <| m_xc ex_goto <| m_xc ex_const <| m_xc ex_istore <| m_xc ex_iload <| m_xc ex_ifeq <| m_xc ex_aload <| m_xc ex_const <| m_xc ex_aload <| m_xc ex_const <| m_xc ex_iald <| m_xc ex_bin <| m_xc ex_iload <| m_xc ex_iast <| m_xc ex_aload <| m_xc ex_const <| m_xc ex_dup2 <| m_xc ex_iald <| m_xc ex_const <| m_xc ex_bin <| m_xc ex_iast <| m_xc ex_iload <| m_xc ex_iload <| m_xc ex_ifeq <| m_xc ex_aload <| m_xc ex_const <| m_xc ex_iald <| m_xc ex_const <| m_xc ex_bin <| m_xc ex_goto <| m_xc ex_const <| m_xc ex_icmpne <| m_xc ex_aload <| m_xc ex_iload <| m_xc ex_call <| m_xc ex_iload <| m_xc ex_ifeq <| m_xc ex_const <| m_xc ex_goto <| m_xc ex_iload <| m_xc ex_ifeq <| m_xc ex_const <| m_xc ex_goto <| m_xc ex_const <| m_xc ex_icmpne <| m_xc ex_const <| m_xc ex_goto <| m_xc ex_const <| m_xc ex_zreturn <| m_xc ex_aload <| m_xc ex_const <| m_xc ex_iald <| m_xc ex_ifne <| m_xc ex_const <| m_xc ex_goto <| m_xc ex_iload <| m_xc ex_const <| m_xc ex_bin <| m_xc ex_aload <| m_xc ex_const <| m_xc ex_iald <| m_xc ex_call <| m_xc ex_istore <| m_xc ex_iload <| m_xc ex_const <| m_xc ex_icmpge <| m_xc ex_iload <| m_xc ex_const <| m_xc ex_icmpeq <| m_xc ex_aload <| m_xc ex_const <| m_xc ex_iald <| m_xc ex_ifne <| m_xc ex_const <| m_xc ex_goto <| m_xc ex_iload <| m_xc ex_aload <| m_xc ex_const <| m_xc ex_iald <| m_xc ex_call <| m_xc ex_istore <| m_xc ex_aload <| m_xc ex_iload <| m_xc ex_iload <| m_xc ex_call <| m_xc ex_istore <| m_xc ex_aload <| m_xc ex_const <| m_xc ex_iald <| m_xc ex_ifne <| m_xc ex_iload <| m_xc ex_const <| m_xc ex_icmpne <| m_xc ex_const <| m_xc ex_goto <| m_xc ex_const <| m_xc ex_goto <| m_xc ex_iload <| m_xc ex_const <| m_xc ex_icmplt <| m_xc ex_iload <| m_xc ex_aload <| m_xc ex_const <| m_xc ex_iald <| m_xc ex_icmplt <| m_xc ex_iload <| m_xc ex_const <| m_xc ex_icmpne <| m_xc ex_iload <| m_xc ex_iflt <| m_xc ex_const <| m_xc ex_goto <| m_xc ex_const <| m_xc ex_zreturn <| m_xc ex_iload <| m_xc ex_const <| m_xc ex_call <| m_xc ex_ifne <| m_xc ex_iload <| m_xc ex_const <| m_xc ex_bin <| m_xc ex_const <| m_xc ex_call <| m_xc ex_istore <| m_xc ex_aload <| m_xc ex_iload <| m_xc ex_iload <| m_xc ex_iload <| m_xc ex_const <| m_xc ex_bin <| m_xc ex_const <| m_xc ex_call <| m_xc ex_bin <| m_xc ex_call <| m_xc ex_ifne <| m_xc ex_aload <| m_xc ex_iload <| m_xc ex_iload <| m_xc ex_const <| m_xc ex_bin <| m_xc ex_call <| m_xc ex_const <| m_xc ex_icmpne <| m_xc ex_const <| m_xc ex_goto <| m_xc ex_const <| m_xc ex_zreturn <| m_xc ex_aload <| m_xc ex_iload <| m_xc ex_iload <| m_xc ex_const <| m_xc ex_bin <| m_xc ex_const <| m_xc ex_call <| m_xc ex_call <| m_xc ex_istore <| m_xc ex_iload <| m_xc ex_iflt <| m_xc ex_iload <| m_xc ex_const <| m_xc ex_icmple <| m_xc ex_iload <| m_xc ex_const <| m_xc ex_icmpeq <| m_xc ex_iload <| m_xc ex_const <| m_xc ex_icmpne <| m_xc ex_aload <| m_xc ex_const <| m_xc ex_iald <| m_xc ex_ifne <| m_xc ex_const <| m_xc ex_goto <| m_xc ex_const <| m_xc ex_zreturn <| m_xn)
set_option maxRecDepth 20000 in
theorem st_L_sets_0 {call : m_call} {r : m_R → m_S → Prop} {lo : m_L} {st : List Value} {bd : Nat × Nat} {S : m_S} : m_W1 (m_lk cd_L_sets) call r 0 lo st bd S = o_iload 3 1 call lo st bd S (m_W1 (m_lk cd_L_sets) call r) r := m_W1.iff rfl mm_L_sets
set_option maxRecDepth 20000 in
theorem st_L_sets_1 {call : m_call} {r : m_R → m_S → Prop} {lo : m_L} {st : List Value} {bd : Nat × Nat} {S : m_S} : m_W1 (m_lk cd_L_sets) call r 1 lo st bd S = o_const (8) 3 call lo st bd S (m_W1 (m_lk cd_L_sets) call r) r := m_W1.iff rfl mm_L_sets
set_option maxRecDepth 20000 in
theorem st_L_sets_3 {call : m_call} {r : m_R → m_S → Prop} {lo : m_L} {st : List Value} {bd : Nat × Nat} {S : m_S} : m_W1 (m_lk cd_L_sets) call r 3 lo st bd S = o_call 77 2 0 0 6 call lo st bd S (m_W1 (m_lk cd_L_sets) call r) r := m_W1.iff rfl mm_L_sets
set_option maxRecDepth 20000 in
theorem st_L_sets_6 {call : m_call} {r : m_R → m_S → Prop} {lo : m_L} {st : List Value} {bd : Nat × Nat} {S : m_S} : m_W1 (m_lk cd_L_sets) call r 6 lo st bd S = o_istore 5 8 call lo st bd S (m_W1 (m_lk cd_L_sets) call r) r := m_W1.iff rfl mm_L_sets
set_option maxRecDepth 20000 in
theorem st_L_sets_8 {call : m_call} {r : m_R → m_S → Prop} {lo : m_L} {st : List Value} {bd : Nat × Nat} {S : m_S} : m_W1 (m_lk cd_L_sets) call r 8 lo st bd S = o_aload 1 9 call lo st bd S (m_W1 (m_lk cd_L_sets) call r) r := m_W1.iff rfl mm_L_sets
set_option maxRecDepth 20000 in
theorem st_L_sets_9 {call : m_call} {r : m_R → m_S → Prop} {lo : m_L} {st : List Value} {bd : Nat × Nat} {S : m_S} : m_W1 (m_lk cd_L_sets) call r 9 lo st bd S = o_const (0) 10 call lo st bd S (m_W1 (m_lk cd_L_sets) call r) r := m_W1.iff rfl mm_L_sets
set_option maxRecDepth 20000 in
theorem st_L_sets_10 {call : m_call} {r : m_R → m_S → Prop} {lo : m_L} {st : List Value} {bd : Nat × Nat} {S : m_S} : m_W1 (m_lk cd_L_sets) call r 10 lo st bd S = o_iald 0 11 call lo st bd S (m_W1 (m_lk cd_L_sets) call r) r := m_W1.iff rfl mm_L_sets
set_option maxRecDepth 20000 in
theorem st_L_sets_11 {call : m_call} {r : m_R → m_S → Prop} {lo : m_L} {st : List Value} {bd : Nat × Nat} {S : m_S} : m_W1 (m_lk cd_L_sets) call r 11 lo st bd S = o_ifne 18 14 call lo st bd S (m_W1 (m_lk cd_L_sets) call r) r := m_W1.iff rfl mm_L_sets
set_option maxRecDepth 20000 in
theorem st_L_sets_14 {call : m_call} {r : m_R → m_S → Prop} {lo : m_L} {st : List Value} {bd : Nat × Nat} {S : m_S} : m_W1 (m_lk cd_L_sets) call r 14 lo st bd S = o_const (0) 15 call lo st bd S (m_W1 (m_lk cd_L_sets) call r) r := m_W1.iff rfl mm_L_sets
set_option maxRecDepth 20000 in
theorem st_L_sets_15 {call : m_call} {r : m_R → m_S → Prop} {lo : m_L} {st : List Value} {bd : Nat × Nat} {S : m_S} : m_W1 (m_lk cd_L_sets) call r 15 lo st bd S = o_goto 27 call lo st bd S (m_W1 (m_lk cd_L_sets) call r) r := m_W1.iff rfl mm_L_sets
set_option maxRecDepth 20000 in
theorem st_L_sets_18 {call : m_call} {r : m_R → m_S → Prop} {lo : m_L} {st : List Value} {bd : Nat × Nat} {S : m_S} : m_W1 (m_lk cd_L_sets) call r 18 lo st bd S = o_iload 3 19 call lo st bd S (m_W1 (m_lk cd_L_sets) call r) r := m_W1.iff rfl mm_L_sets
set_option maxRecDepth 20000 in
theorem st_L_sets_19 {call : m_call} {r : m_R → m_S → Prop} {lo : m_L} {st : List Value} {bd : Nat × Nat} {S : m_S} : m_W1 (m_lk cd_L_sets) call r 19 lo st bd S = o_const (3) 20 call lo st bd S (m_W1 (m_lk cd_L_sets) call r) r := m_W1.iff rfl mm_L_sets
set_option maxRecDepth 20000 in
theorem st_L_sets_20 {call : m_call} {r : m_R → m_S → Prop} {lo : m_L} {st : List Value} {bd : Nat × Nat} {S : m_S} : m_W1 (m_lk cd_L_sets) call r 20 lo st bd S = o_bin (fun x y => x >>> (y &&& 31)) 21 call lo st bd S (m_W1 (m_lk cd_L_sets) call r) r := m_W1.iff rfl mm_L_sets
set_option maxRecDepth 20000 in
theorem st_L_sets_21 {call : m_call} {r : m_R → m_S → Prop} {lo : m_L} {st : List Value} {bd : Nat × Nat} {S : m_S} : m_W1 (m_lk cd_L_sets) call r 21 lo st bd S = o_aload 1 22 call lo st bd S (m_W1 (m_lk cd_L_sets) call r) r := m_W1.iff rfl mm_L_sets
set_option maxRecDepth 20000 in
theorem st_L_sets_22 {call : m_call} {r : m_R → m_S → Prop} {lo : m_L} {st : List Value} {bd : Nat × Nat} {S : m_S} : m_W1 (m_lk cd_L_sets) call r 22 lo st bd S = o_const (0) 23 call lo st bd S (m_W1 (m_lk cd_L_sets) call r) r := m_W1.iff rfl mm_L_sets
set_option maxRecDepth 20000 in
theorem st_L_sets_23 {call : m_call} {r : m_R → m_S → Prop} {lo : m_L} {st : List Value} {bd : Nat × Nat} {S : m_S} : m_W1 (m_lk cd_L_sets) call r 23 lo st bd S = o_iald 0 24 call lo st bd S (m_W1 (m_lk cd_L_sets) call r) r := m_W1.iff rfl mm_L_sets
set_option maxRecDepth 20000 in
theorem st_L_sets_24 {call : m_call} {r : m_R → m_S → Prop} {lo : m_L} {st : List Value} {bd : Nat × Nat} {S : m_S} : m_W1 (m_lk cd_L_sets) call r 24 lo st bd S = o_call 77 2 0 0 27 call lo st bd S (m_W1 (m_lk cd_L_sets) call r) r := m_W1.iff rfl mm_L_sets
set_option maxRecDepth 20000 in
theorem st_L_sets_27 {call : m_call} {r : m_R → m_S → Prop} {lo : m_L} {st : List Value} {bd : Nat × Nat} {S : m_S} : m_W1 (m_lk cd_L_sets) call r 27 lo st bd S = o_istore 6 29 call lo st bd S (m_W1 (m_lk cd_L_sets) call r) r := m_W1.iff rfl mm_L_sets
set_option maxRecDepth 20000 in
theorem st_L_sets_29 {call : m_call} {r : m_R → m_S → Prop} {lo : m_L} {st : List Value} {bd : Nat × Nat} {S : m_S} : m_W1 (m_lk cd_L_sets) call r 29 lo st bd S = o_iload 5 31 call lo st bd S (m_W1 (m_lk cd_L_sets) call r) r := m_W1.iff rfl mm_L_sets
set_option maxRecDepth 20000 in
theorem st_L_sets_31 {call : m_call} {r : m_R → m_S → Prop} {lo : m_L} {st : List Value} {bd : Nat × Nat} {S : m_S} : m_W1 (m_lk cd_L_sets) call r 31 lo st bd S = o_const (2) 32 call lo st bd S (m_W1 (m_lk cd_L_sets) call r) r := m_W1.iff rfl mm_L_sets
set_option maxRecDepth 20000 in
theorem st_L_sets_32 {call : m_call} {r : m_R → m_S → Prop} {lo : m_L} {st : List Value} {bd : Nat × Nat} {S : m_S} : m_W1 (m_lk cd_L_sets) call r 32 lo st bd S = o_icmpge 225 35 call lo st bd S (m_W1 (m_lk cd_L_sets) call r) r := m_W1.iff rfl mm_L_sets
set_option maxRecDepth 20000 in
theorem st_L_sets_35 {call : m_call} {r : m_R → m_S → Prop} {lo : m_L} {st : List Value} {bd : Nat × Nat} {S : m_S} : m_W1 (m_lk cd_L_sets) call r 35 lo st bd S = o_iload 4 37 call lo st bd S (m_W1 (m_lk cd_L_sets) call r) r := m_W1.iff rfl mm_L_sets
set_option maxRecDepth 20000 in
theorem st_L_sets_37 {call : m_call} {r : m_R → m_S → Prop} {lo : m_L} {st : List Value} {bd : Nat × Nat} {S : m_S} : m_W1 (m_lk cd_L_sets) call r 37 lo st bd S = o_const (6) 39 call lo st bd S (m_W1 (m_lk cd_L_sets) call r) r := m_W1.iff rfl mm_L_sets
set_option maxRecDepth 20000 in
theorem st_L_sets_39 {call : m_call} {r : m_R → m_S → Prop} {lo : m_L} {st : List Value} {bd : Nat × Nat} {S : m_S} : m_W1 (m_lk cd_L_sets) call r 39 lo st bd S = o_call 77 2 0 0 42 call lo st bd S (m_W1 (m_lk cd_L_sets) call r) r := m_W1.iff rfl mm_L_sets
set_option maxRecDepth 20000 in
theorem st_L_sets_42 {call : m_call} {r : m_R → m_S → Prop} {lo : m_L} {st : List Value} {bd : Nat × Nat} {S : m_S} : m_W1 (m_lk cd_L_sets) call r 42 lo st bd S = o_istore 7 44 call lo st bd S (m_W1 (m_lk cd_L_sets) call r) r := m_W1.iff rfl mm_L_sets
set_option maxRecDepth 20000 in
theorem st_L_sets_44 {call : m_call} {r : m_R → m_S → Prop} {lo : m_L} {st : List Value} {bd : Nat × Nat} {S : m_S} : m_W1 (m_lk cd_L_sets) call r 44 lo st bd S = o_iload 7 46 call lo st bd S (m_W1 (m_lk cd_L_sets) call r) r := m_W1.iff rfl mm_L_sets
set_option maxRecDepth 20000 in
theorem st_L_sets_46 {call : m_call} {r : m_R → m_S → Prop} {lo : m_L} {st : List Value} {bd : Nat × Nat} {S : m_S} : m_W1 (m_lk cd_L_sets) call r 46 lo st bd S = o_const (1) 47 call lo st bd S (m_W1 (m_lk cd_L_sets) call r) r := m_W1.iff rfl mm_L_sets
set_option maxRecDepth 20000 in
theorem st_L_sets_47 {call : m_call} {r : m_R → m_S → Prop} {lo : m_L} {st : List Value} {bd : Nat × Nat} {S : m_S} : m_W1 (m_lk cd_L_sets) call r 47 lo st bd S = o_bin (fun x y => x + y) 48 call lo st bd S (m_W1 (m_lk cd_L_sets) call r) r := m_W1.iff rfl mm_L_sets
set_option maxRecDepth 20000 in
theorem st_L_sets_48 {call : m_call} {r : m_R → m_S → Prop} {lo : m_L} {st : List Value} {bd : Nat × Nat} {S : m_S} : m_W1 (m_lk cd_L_sets) call r 48 lo st bd S = o_iload 4 50 call lo st bd S (m_W1 (m_lk cd_L_sets) call r) r := m_W1.iff rfl mm_L_sets
set_option maxRecDepth 20000 in
theorem st_L_sets_50 {call : m_call} {r : m_R → m_S → Prop} {lo : m_L} {st : List Value} {bd : Nat × Nat} {S : m_S} : m_W1 (m_lk cd_L_sets) call r 50 lo st bd S = o_const (3) 51 call lo st bd S (m_W1 (m_lk cd_L_sets) call r) r := m_W1.iff rfl mm_L_sets
set_option maxRecDepth 20000 in
theorem st_L_sets_51 {call : m_call} {r : m_R → m_S → Prop} {lo : m_L} {st : List Value} {bd : Nat × Nat} {S : m_S} : m_W1 (m_lk cd_L_sets) call r 51 lo st bd S = o_bin (fun x y => x >>> (y &&& 31)) 52 call lo st bd S (m_W1 (m_lk cd_L_sets) call r) r := m_W1.iff rfl mm_L_sets
set_option maxRecDepth 20000 in
theorem st_L_sets_52 {call : m_call} {r : m_R → m_S → Prop} {lo : m_L} {st : List Value} {bd : Nat × Nat} {S : m_S} : m_W1 (m_lk cd_L_sets) call r 52 lo st bd S = o_const (5) 53 call lo st bd S (m_W1 (m_lk cd_L_sets) call r) r := m_W1.iff rfl mm_L_sets
set_option maxRecDepth 20000 in
theorem st_L_sets_53 {call : m_call} {r : m_R → m_S → Prop} {lo : m_L} {st : List Value} {bd : Nat × Nat} {S : m_S} : m_W1 (m_lk cd_L_sets) call r 53 lo st bd S = o_call 77 2 0 0 56 call lo st bd S (m_W1 (m_lk cd_L_sets) call r) r := m_W1.iff rfl mm_L_sets
set_option maxRecDepth 20000 in
theorem st_L_sets_56 {call : m_call} {r : m_R → m_S → Prop} {lo : m_L} {st : List Value} {bd : Nat × Nat} {S : m_S} : m_W1 (m_lk cd_L_sets) call r 56 lo st bd S = o_bin (fun x y => x + y) 57 call lo st bd S (m_W1 (m_lk cd_L_sets) call r) r := m_W1.iff rfl mm_L_sets
set_option maxRecDepth 20000 in
theorem st_L_sets_57 {call : m_call} {r : m_R → m_S → Prop} {lo : m_L} {st : List Value} {bd : Nat × Nat} {S : m_S} : m_W1 (m_lk cd_L_sets) call r 57 lo st bd S = o_const (6) 59 call lo st bd S (m_W1 (m_lk cd_L_sets) call r) r := m_W1.iff rfl mm_L_sets
set_option maxRecDepth 20000 in
theorem st_L_sets_59 {call : m_call} {r : m_R → m_S → Prop} {lo : m_L} {st : List Value} {bd : Nat × Nat} {S : m_S} : m_W1 (m_lk cd_L_sets) call r 59 lo st bd S = o_div (fun x y => x - x / y * y) 60 call lo st bd S (m_W1 (m_lk cd_L_sets) call r) r := m_W1.iff rfl mm_L_sets
set_option maxRecDepth 20000 in
theorem st_L_sets_60 {call : m_call} {r : m_R → m_S → Prop} {lo : m_L} {st : List Value} {bd : Nat × Nat} {S : m_S} : m_W1 (m_lk cd_L_sets) call r 60 lo st bd S = o_istore 8 62 call lo st bd S (m_W1 (m_lk cd_L_sets) call r) r := m_W1.iff rfl mm_L_sets
set_option maxRecDepth 20000 in
theorem st_L_sets_62 {call : m_call} {r : m_R → m_S → Prop} {lo : m_L} {st : List Value} {bd : Nat × Nat} {S : m_S} : m_W1 (m_lk cd_L_sets) call r 62 lo st bd S = o_const (1) 63 call lo st bd S (m_W1 (m_lk cd_L_sets) call r) r := m_W1.iff rfl mm_L_sets
set_option maxRecDepth 20000 in
theorem st_L_sets_63 {call : m_call} {r : m_R → m_S → Prop} {lo : m_L} {st : List Value} {bd : Nat × Nat} {S : m_S} : m_W1 (m_lk cd_L_sets) call r 63 lo st bd S = o_iload 4 65 call lo st bd S (m_W1 (m_lk cd_L_sets) call r) r := m_W1.iff rfl mm_L_sets
set_option maxRecDepth 20000 in
theorem st_L_sets_65 {call : m_call} {r : m_R → m_S → Prop} {lo : m_L} {st : List Value} {bd : Nat × Nat} {S : m_S} : m_W1 (m_lk cd_L_sets) call r 65 lo st bd S = o_const (6) 67 call lo st bd S (m_W1 (m_lk cd_L_sets) call r) r := m_W1.iff rfl mm_L_sets
set_option maxRecDepth 20000 in
theorem st_L_sets_67 {call : m_call} {r : m_R → m_S → Prop} {lo : m_L} {st : List Value} {bd : Nat × Nat} {S : m_S} : m_W1 (m_lk cd_L_sets) call r 67 lo st bd S = o_bin (fun x y => x >>> (y &&& 31)) 68 call lo st bd S (m_W1 (m_lk cd_L_sets) call r) r := m_W1.iff rfl mm_L_sets
set_option maxRecDepth 20000 in
theorem st_L_sets_68 {call : m_call} {r : m_R → m_S → Prop} {lo : m_L} {st : List Value} {bd : Nat × Nat} {S : m_S} : m_W1 (m_lk cd_L_sets) call r 68 lo st bd S = o_const (3) 69 call lo st bd S (m_W1 (m_lk cd_L_sets) call r) r := m_W1.iff rfl mm_L_sets
set_option maxRecDepth 20000 in
theorem st_L_sets_69 {call : m_call} {r : m_R → m_S → Prop} {lo : m_L} {st : List Value} {bd : Nat × Nat} {S : m_S} : m_W1 (m_lk cd_L_sets) call r 69 lo st bd S = o_call 77 2 0 0 72 call lo st bd S (m_W1 (m_lk cd_L_sets) call r) r := m_W1.iff rfl mm_L_sets
set_option maxRecDepth 20000 in
theorem st_L_sets_72 {call : m_call} {r : m_R → m_S → Prop} {lo : m_L} {st : List Value} {bd : Nat × Nat} {S : m_S} : m_W1 (m_lk cd_L_sets) call r 72 lo st bd S = o_bin (fun x y => x + y) 73 call lo st bd S (m_W1 (m_lk cd_L_sets) call r) r := m_W1.iff rfl mm_L_sets
set_option maxRecDepth 20000 in
theorem st_L_sets_73 {call : m_call} {r : m_R → m_S → Prop} {lo : m_L} {st : List Value} {bd : Nat × Nat} {S : m_S} : m_W1 (m_lk cd_L_sets) call r 73 lo st bd S = o_istore 9 75 call lo st bd S (m_W1 (m_lk cd_L_sets) call r) r := m_W1.iff rfl mm_L_sets
set_option maxRecDepth 20000 in
theorem st_L_sets_75 {call : m_call} {r : m_R → m_S → Prop} {lo : m_L} {st : List Value} {bd : Nat × Nat} {S : m_S} : m_W1 (m_lk cd_L_sets) call r 75 lo st bd S = o_iload 4 77 call lo st bd S (m_W1 (m_lk cd_L_sets) call r) r := m_W1.iff rfl mm_L_sets
set_option maxRecDepth 20000 in
theorem st_L_sets_77 {call : m_call} {r : m_R → m_S → Prop} {lo : m_L} {st : List Value} {bd : Nat × Nat} {S : m_S} : m_W1 (m_lk cd_L_sets) call r 77 lo st bd S = o_const (8) 79 call lo st bd S (m_W1 (m_lk cd_L_sets) call r) r := m_W1.iff rfl mm_L_sets
set_option maxRecDepth 20000 in
theorem st_L_sets_79 {call : m_call} {r : m_R → m_S → Prop} {lo : m_L} {st : List Value} {bd : Nat × Nat} {S : m_S} : m_W1 (m_lk cd_L_sets) call r 79 lo st bd S = o_bin (fun x y => x >>> (y &&& 31)) 80 call lo st bd S (m_W1 (m_lk cd_L_sets) call r) r := m_W1.iff rfl mm_L_sets
set_option maxRecDepth 20000 in
theorem st_L_sets_80 {call : m_call} {r : m_R → m_S → Prop} {lo : m_L} {st : List Value} {bd : Nat × Nat} {S : m_S} : m_W1 (m_lk cd_L_sets) call r 80 lo st bd S = o_const (1000) 83 call lo st bd S (m_W1 (m_lk cd_L_sets) call r) r := m_W1.iff rfl mm_L_sets
set_option maxRecDepth 20000 in
theorem st_L_sets_83 {call : m_call} {r : m_R → m_S → Prop} {lo : m_L} {st : List Value} {bd : Nat × Nat} {S : m_S} : m_W1 (m_lk cd_L_sets) call r 83 lo st bd S = o_call 77 2 0 0 86 call lo st bd S (m_W1 (m_lk cd_L_sets) call r) r := m_W1.iff rfl mm_L_sets
set_option maxRecDepth 20000 in
theorem st_L_sets_86 {call : m_call} {r : m_R → m_S → Prop} {lo : m_L} {st : List Value} {bd : Nat × Nat} {S : m_S} : m_W1 (m_lk cd_L_sets) call r 86 lo st bd S = o_istore 10 88 call lo st bd S (m_W1 (m_lk cd_L_sets) call r) r := m_W1.iff rfl mm_L_sets
set_option maxRecDepth 20000 in
theorem st_L_sets_88 {call : m_call} {r : m_R → m_S → Prop} {lo : m_L} {st : List Value} {bd : Nat × Nat} {S : m_S} : m_W1 (m_lk cd_L_sets) call r 88 lo st bd S = o_aload 0 89 call lo st bd S (m_W1 (m_lk cd_L_sets) call r) r := m_W1.iff rfl mm_L_sets
set_option maxRecDepth 20000 in
theorem st_L_sets_89 {call : m_call} {r : m_R → m_S → Prop} {lo : m_L} {st : List Value} {bd : Nat × Nat} {S : m_S} : m_W1 (m_lk cd_L_sets) call r 89 lo st bd S = o_iload 6 91 call lo st bd S (m_W1 (m_lk cd_L_sets) call r) r := m_W1.iff rfl mm_L_sets
set_option maxRecDepth 20000 in
theorem st_L_sets_91 {call : m_call} {r : m_R → m_S → Prop} {lo : m_L} {st : List Value} {bd : Nat × Nat} {S : m_S} : m_W1 (m_lk cd_L_sets) call r 91 lo st bd S = o_iload 8 93 call lo st bd S (m_W1 (m_lk cd_L_sets) call r) r := m_W1.iff rfl mm_L_sets
set_option maxRecDepth 20000 in
theorem st_L_sets_93 {call : m_call} {r : m_R → m_S → Prop} {lo : m_L} {st : List Value} {bd : Nat × Nat} {S : m_S} : m_W1 (m_lk cd_L_sets) call r 93 lo st bd S = o_call 87 3 2 12 96 call lo st bd S (m_W1 (m_lk cd_L_sets) call r) r := m_W1.iff rfl mm_L_sets
set_option maxRecDepth 20000 in
theorem st_L_sets_96 {call : m_call} {r : m_R → m_S → Prop} {lo : m_L} {st : List Value} {bd : Nat × Nat} {S : m_S} : m_W1 (m_lk cd_L_sets) call r 96 lo st bd S = o_istore 11 98 call lo st bd S (m_W1 (m_lk cd_L_sets) call r) r := m_W1.iff rfl mm_L_sets
set_option maxRecDepth 20000 in
theorem st_L_sets_98 {call : m_call} {r : m_R → m_S → Prop} {lo : m_L} {st : List Value} {bd : Nat × Nat} {S : m_S} : m_W1 (m_lk cd_L_sets) call r 98 lo st bd S = o_aload 0 99 call lo st bd S (m_W1 (m_lk cd_L_sets) call r) r := m_W1.iff rfl mm_L_sets
set_option maxRecDepth 20000 in
theorem st_L_sets_99 {call : m_call} {r : m_R → m_S → Prop} {lo : m_L} {st : List Value} {bd : Nat × Nat} {S : m_S} : m_W1 (m_lk cd_L_sets) call r 99 lo st bd S = o_iload 7 101 call lo st bd S (m_W1 (m_lk cd_L_sets) call r) r := m_W1.iff rfl mm_L_sets
set_option maxRecDepth 20000 in
theorem st_L_sets_101 {call : m_call} {r : m_R → m_S → Prop} {lo : m_L} {st : List Value} {bd : Nat × Nat} {S : m_S} : m_W1 (m_lk cd_L_sets) call r 101 lo st bd S = o_call 93 2 1 6 104 call lo st bd S (m_W1 (m_lk cd_L_sets) call r) r := m_W1.iff rfl mm_L_sets
set_option maxRecDepth 20000 in
theorem st_L_sets_104 {call : m_call} {r : m_R → m_S → Prop} {lo : m_L} {st : List Value} {bd : Nat × Nat} {S : m_S} : m_W1 (m_lk cd_L_sets) call r 104 lo st bd S = o_istore 12 106 call lo st bd S (m_W1 (m_lk cd_L_sets) call r) r := m_W1.iff rfl mm_L_sets
set_option maxRecDepth 20000 in
theorem st_L_sets_106 {call : m_call} {r : m_R → m_S → Prop} {lo : m_L} {st : List Value} {bd : Nat × Nat} {S : m_S} : m_W1 (m_lk cd_L_sets) call r 106 lo st bd S = o_aload 0 107 call lo st bd S (m_W1 (m_lk cd_L_sets) call r) r := m_W1.iff rfl mm_L_sets
set_option maxRecDepth 20000 in
theorem st_L_sets_107 {call : m_call} {r : m_R → m_S → Prop} {lo : m_L} {st : List Value} {bd : Nat × Nat} {S : m_S} : m_W1 (m_lk cd_L_sets) call r 107 lo st bd S = o_iload 7 109 call lo st bd S (m_W1 (m_lk cd_L_sets) call r) r := m_W1.iff rfl mm_L_sets
set_option maxRecDepth 20000 in
theorem st_L_sets_109 {call : m_call} {r : m_R → m_S → Prop} {lo : m_L} {st : List Value} {bd : Nat × Nat} {S : m_S} : m_W1 (m_lk cd_L_sets) call r 109 lo st bd S = o_iload 8 111 call lo st bd S (m_W1 (m_lk cd_L_sets) call r) r := m_W1.iff rfl mm_L_sets
set_option maxRecDepth 20000 in
theorem st_L_sets_111 {call : m_call} {r : m_R → m_S → Prop} {lo : m_L} {st : List Value} {bd : Nat × Nat} {S : m_S} : m_W1 (m_lk cd_L_sets) call r 111 lo st bd S = o_call 94 3 2 12 114 call lo st bd S (m_W1 (m_lk cd_L_sets) call r) r := m_W1.iff rfl mm_L_sets
set_option maxRecDepth 20000 in
theorem st_L_sets_114 {call : m_call} {r : m_R → m_S → Prop} {lo : m_L} {st : List Value} {bd : Nat × Nat} {S : m_S} : m_W1 (m_lk cd_L_sets) call r 114 lo st bd S = o_istore 13 116 call lo st bd S (m_W1 (m_lk cd_L_sets) call r) r := m_W1.iff rfl mm_L_sets
set_option maxRecDepth 20000 in
theorem st_L_sets_116 {call : m_call} {r : m_R → m_S → Prop} {lo : m_L} {st : List Value} {bd : Nat × Nat} {S : m_S} : m_W1 (m_lk cd_L_sets) call r 116 lo st bd S = o_aload 0 117 call lo st bd S (m_W1 (m_lk cd_L_sets) call r) r := m_W1.iff rfl mm_L_sets
set_option maxRecDepth 20000 in
theorem st_L_sets_117 {call : m_call} {r : m_R → m_S → Prop} {lo : m_L} {st : List Value} {bd : Nat × Nat} {S : m_S} : m_W1 (m_lk cd_L_sets) call r 117 lo st bd S = o_iload 6 119 call lo st bd S (m_W1 (m_lk cd_L_sets) call r) r := m_W1.iff rfl mm_L_sets
set_option maxRecDepth 20000 in
theorem st_L_sets_119 {call : m_call} {r : m_R → m_S → Prop} {lo : m_L} {st : List Value} {bd : Nat × Nat} {S : m_S} : m_W1 (m_lk cd_L_sets) call r 119 lo st bd S = o_iload 7 121 call lo st bd S (m_W1 (m_lk cd_L_sets) call r) r := m_W1.iff rfl mm_L_sets
set_option maxRecDepth 20000 in
theorem st_L_sets_121 {call : m_call} {r : m_R → m_S → Prop} {lo : m_L} {st : List Value} {bd : Nat × Nat} {S : m_S} : m_W1 (m_lk cd_L_sets) call r 121 lo st bd S = o_iload 8 123 call lo st bd S (m_W1 (m_lk cd_L_sets) call r) r := m_W1.iff rfl mm_L_sets
set_option maxRecDepth 20000 in
theorem st_L_sets_123 {call : m_call} {r : m_R → m_S → Prop} {lo : m_L} {st : List Value} {bd : Nat × Nat} {S : m_S} : m_W1 (m_lk cd_L_sets) call r 123 lo st bd S = o_iload 9 125 call lo st bd S (m_W1 (m_lk cd_L_sets) call r) r := m_W1.iff rfl mm_L_sets
set_option maxRecDepth 20000 in
theorem st_L_sets_125 {call : m_call} {r : m_R → m_S → Prop} {lo : m_L} {st : List Value} {bd : Nat × Nat} {S : m_S} : m_W1 (m_lk cd_L_sets) call r 125 lo st bd S = o_iload 10 127 call lo st bd S (m_W1 (m_lk cd_L_sets) call r) r := m_W1.iff rfl mm_L_sets
set_option maxRecDepth 20000 in
theorem st_L_sets_127 {call : m_call} {r : m_R → m_S → Prop} {lo : m_L} {st : List Value} {bd : Nat × Nat} {S : m_S} : m_W1 (m_lk cd_L_sets) call r 127 lo st bd S = o_call 80 6 9 847 130 call lo st bd S (m_W1 (m_lk cd_L_sets) call r) r := m_W1.iff rfl mm_L_sets
set_option maxRecDepth 20000 in
theorem st_L_sets_130 {call : m_call} {r : m_R → m_S → Prop} {lo : m_L} {st : List Value} {bd : Nat × Nat} {S : m_S} : m_W1 (m_lk cd_L_sets) call r 130 lo st bd S = o_istore 14 132 call lo st bd S (m_W1 (m_lk cd_L_sets) call r) r := m_W1.iff rfl mm_L_sets
set_option maxRecDepth 20000 in
theorem st_L_sets_132 {call : m_call} {r : m_R → m_S → Prop} {lo : m_L} {st : List Value} {bd : Nat × Nat} {S : m_S} : m_W1 (m_lk cd_L_sets) call r 132 lo st bd S = o_aload 1 133 call lo st bd S (m_W1 (m_lk cd_L_sets) call r) r := m_W1.iff rfl mm_L_sets
set_option maxRecDepth 20000 in
theorem st_L_sets_133 {call : m_call} {r : m_R → m_S → Prop} {lo : m_L} {st : List Value} {bd : Nat × Nat} {S : m_S} : m_W1 (m_lk cd_L_sets) call r 133 lo st bd S = o_const (0) 134 call lo st bd S (m_W1 (m_lk cd_L_sets) call r) r := m_W1.iff rfl mm_L_sets
set_option maxRecDepth 20000 in
theorem st_L_sets_134 {call : m_call} {r : m_R → m_S → Prop} {lo : m_L} {st : List Value} {bd : Nat × Nat} {S : m_S} : m_W1 (m_lk cd_L_sets) call r 134 lo st bd S = o_iald 0 135 call lo st bd S (m_W1 (m_lk cd_L_sets) call r) r := m_W1.iff rfl mm_L_sets
set_option maxRecDepth 20000 in
theorem st_L_sets_135 {call : m_call} {r : m_R → m_S → Prop} {lo : m_L} {st : List Value} {bd : Nat × Nat} {S : m_S} : m_W1 (m_lk cd_L_sets) call r 135 lo st bd S = o_ifne 153 138 call lo st bd S (m_W1 (m_lk cd_L_sets) call r) r := m_W1.iff rfl mm_L_sets
set_option maxRecDepth 20000 in
theorem st_L_sets_138 {call : m_call} {r : m_R → m_S → Prop} {lo : m_L} {st : List Value} {bd : Nat × Nat} {S : m_S} : m_W1 (m_lk cd_L_sets) call r 138 lo st bd S = o_iload 14 140 call lo st bd S (m_W1 (m_lk cd_L_sets) call r) r := m_W1.iff rfl mm_L_sets
set_option maxRecDepth 20000 in
theorem st_L_sets_140 {call : m_call} {r : m_R → m_S → Prop} {lo : m_L} {st : List Value} {bd : Nat × Nat} {S : m_S} : m_W1 (m_lk cd_L_sets) call r 140 lo st bd S = o_const (-1000001) 142 call lo st bd S (m_W1 (m_lk cd_L_sets) call r) r := m_W1.iff rfl mm_L_sets
set_option maxRecDepth 20000 in
theorem st_L_sets_142 {call : m_call} {r : m_R → m_S → Prop} {lo : m_L} {st : List Value} {bd : Nat × Nat} {S : m_S} : m_W1 (m_lk cd_L_sets) call r 142 lo st bd S = o_icmpne 149 145 call lo st bd S (m_W1 (m_lk cd_L_sets) call r) r := m_W1.iff rfl mm_L_sets
set_option maxRecDepth 20000 in
theorem st_L_sets_145 {call : m_call} {r : m_R → m_S → Prop} {lo : m_L} {st : List Value} {bd : Nat × Nat} {S : m_S} : m_W1 (m_lk cd_L_sets) call r 145 lo st bd S = o_const (1) 146 call lo st bd S (m_W1 (m_lk cd_L_sets) call r) r := m_W1.iff rfl mm_L_sets
set_option maxRecDepth 20000 in
theorem st_L_sets_146 {call : m_call} {r : m_R → m_S → Prop} {lo : m_L} {st : List Value} {bd : Nat × Nat} {S : m_S} : m_W1 (m_lk cd_L_sets) call r 146 lo st bd S = o_goto 224 call lo st bd S (m_W1 (m_lk cd_L_sets) call r) r := m_W1.iff rfl mm_L_sets
set_option maxRecDepth 20000 in
theorem st_L_sets_149 {call : m_call} {r : m_R → m_S → Prop} {lo : m_L} {st : List Value} {bd : Nat × Nat} {S : m_S} : m_W1 (m_lk cd_L_sets) call r 149 lo st bd S = o_const (0) 150 call lo st bd S (m_W1 (m_lk cd_L_sets) call r) r := m_W1.iff rfl mm_L_sets
set_option maxRecDepth 20000 in
theorem st_L_sets_150 {call : m_call} {r : m_R → m_S → Prop} {lo : m_L} {st : List Value} {bd : Nat × Nat} {S : m_S} : m_W1 (m_lk cd_L_sets) call r 150 lo st bd S = o_goto 224 call lo st bd S (m_W1 (m_lk cd_L_sets) call r) r := m_W1.iff rfl mm_L_sets
set_option maxRecDepth 20000 in
theorem st_L_sets_153 {call : m_call} {r : m_R → m_S → Prop} {lo : m_L} {st : List Value} {bd : Nat × Nat} {S : m_S} : m_W1 (m_lk cd_L_sets) call r 153 lo st bd S = o_iload 14 155 call lo st bd S (m_W1 (m_lk cd_L_sets) call r) r := m_W1.iff rfl mm_L_sets
set_option maxRecDepth 20000 in
theorem st_L_sets_155 {call : m_call} {r : m_R → m_S → Prop} {lo : m_L} {st : List Value} {bd : Nat × Nat} {S : m_S} : m_W1 (m_lk cd_L_sets) call r 155 lo st bd S = o_const (-1000003) 157 call lo st bd S (m_W1 (m_lk cd_L_sets) call r) r := m_W1.iff rfl mm_L_sets
set_option maxRecDepth 20000 in
theorem st_L_sets_157 {call : m_call} {r : m_R → m_S → Prop} {lo : m_L} {st : List Value} {bd : Nat × Nat} {S : m_S} : m_W1 (m_lk cd_L_sets) call r 157 lo st bd S = o_icmpne 179 160 call lo st bd S (m_W1 (m_lk cd_L_sets) call r) r := m_W1.iff rfl mm_L_sets
set_option maxRecDepth 20000 in
theorem st_L_sets_160 {call : m_call} {r : m_R → m_S → Prop} {lo : m_L} {st : List Value} {bd : Nat × Nat} {S : m_S} : m_W1 (m_lk cd_L_sets) call r 160 lo st bd S = o_aload 0 161 call lo st bd S (m_W1 (m_lk cd_L_sets) call r) r := m_W1.iff rfl mm_L_sets
set_option maxRecDepth 20000 in
theorem st_L_sets_161 {call : m_call} {r : m_R → m_S → Prop} {lo : m_L} {st : List Value} {bd : Nat × Nat} {S : m_S} : m_W1 (m_lk cd_L_sets) call r 161 lo st bd S = o_iload 7 163 call lo st bd S (m_W1 (m_lk cd_L_sets) call r) r := m_W1.iff rfl mm_L_sets
set_option maxRecDepth 20000 in
theorem st_L_sets_163 {call : m_call} {r : m_R → m_S → Prop} {lo : m_L} {st : List Value} {bd : Nat × Nat} {S : m_S} : m_W1 (m_lk cd_L_sets) call r 163 lo st bd S = o_call 93 2 1 6 166 call lo st bd S (m_W1 (m_lk cd_L_sets) call r) r := m_W1.iff rfl mm_L_sets
set_option maxRecDepth 20000 in
theorem st_L_sets_166 {call : m_call} {r : m_R → m_S → Prop} {lo : m_L} {st : List Value} {bd : Nat × Nat} {S : m_S} : m_W1 (m_lk cd_L_sets) call r 166 lo st bd S = o_iload 12 168 call lo st bd S (m_W1 (m_lk cd_L_sets) call r) r := m_W1.iff rfl mm_L_sets
set_option maxRecDepth 20000 in
theorem st_L_sets_168 {call : m_call} {r : m_R → m_S → Prop} {lo : m_L} {st : List Value} {bd : Nat × Nat} {S : m_S} : m_W1 (m_lk cd_L_sets) call r 168 lo st bd S = o_icmpne 175 171 call lo st bd S (m_W1 (m_lk cd_L_sets) call r) r := m_W1.iff rfl mm_L_sets
set_option maxRecDepth 20000 in
theorem st_L_sets_171 {call : m_call} {r : m_R → m_S → Prop} {lo : m_L} {st : List Value} {bd : Nat × Nat} {S : m_S} : m_W1 (m_lk cd_L_sets) call r 171 lo st bd S = o_const (1) 172 call lo st bd S (m_W1 (m_lk cd_L_sets) call r) r := m_W1.iff rfl mm_L_sets
set_option maxRecDepth 20000 in
theorem st_L_sets_172 {call : m_call} {r : m_R → m_S → Prop} {lo : m_L} {st : List Value} {bd : Nat × Nat} {S : m_S} : m_W1 (m_lk cd_L_sets) call r 172 lo st bd S = o_goto 224 call lo st bd S (m_W1 (m_lk cd_L_sets) call r) r := m_W1.iff rfl mm_L_sets
set_option maxRecDepth 20000 in
theorem st_L_sets_175 {call : m_call} {r : m_R → m_S → Prop} {lo : m_L} {st : List Value} {bd : Nat × Nat} {S : m_S} : m_W1 (m_lk cd_L_sets) call r 175 lo st bd S = o_const (0) 176 call lo st bd S (m_W1 (m_lk cd_L_sets) call r) r := m_W1.iff rfl mm_L_sets
set_option maxRecDepth 20000 in
theorem st_L_sets_176 {call : m_call} {r : m_R → m_S → Prop} {lo : m_L} {st : List Value} {bd : Nat × Nat} {S : m_S} : m_W1 (m_lk cd_L_sets) call r 176 lo st bd S = o_goto 224 call lo st bd S (m_W1 (m_lk cd_L_sets) call r) r := m_W1.iff rfl mm_L_sets
set_option maxRecDepth 20000 in
theorem st_L_sets_179 {call : m_call} {r : m_R → m_S → Prop} {lo : m_L} {st : List Value} {bd : Nat × Nat} {S : m_S} : m_W1 (m_lk cd_L_sets) call r 179 lo st bd S = o_iload 14 181 call lo st bd S (m_W1 (m_lk cd_L_sets) call r) r := m_W1.iff rfl mm_L_sets
set_option maxRecDepth 20000 in
theorem st_L_sets_181 {call : m_call} {r : m_R → m_S → Prop} {lo : m_L} {st : List Value} {bd : Nat × Nat} {S : m_S} : m_W1 (m_lk cd_L_sets) call r 181 lo st bd S = o_iload 11 183 call lo st bd S (m_W1 (m_lk cd_L_sets) call r) r := m_W1.iff rfl mm_L_sets
set_option maxRecDepth 20000 in
theorem st_L_sets_183 {call : m_call} {r : m_R → m_S → Prop} {lo : m_L} {st : List Value} {bd : Nat × Nat} {S : m_S} : m_W1 (m_lk cd_L_sets) call r 183 lo st bd S = o_iload 9 185 call lo st bd S (m_W1 (m_lk cd_L_sets) call r) r := m_W1.iff rfl mm_L_sets
set_option maxRecDepth 20000 in
theorem st_L_sets_185 {call : m_call} {r : m_R → m_S → Prop} {lo : m_L} {st : List Value} {bd : Nat × Nat} {S : m_S} : m_W1 (m_lk cd_L_sets) call r 185 lo st bd S = o_bin (fun x y => x + y) 186 call lo st bd S (m_W1 (m_lk cd_L_sets) call r) r := m_W1.iff rfl mm_L_sets
set_option maxRecDepth 20000 in
theorem st_L_sets_186 {call : m_call} {r : m_R → m_S → Prop} {lo : m_L} {st : List Value} {bd : Nat × Nat} {S : m_S} : m_W1 (m_lk cd_L_sets) call r 186 lo st bd S = o_icmpne 223 189 call lo st bd S (m_W1 (m_lk cd_L_sets) call r) r := m_W1.iff rfl mm_L_sets
set_option maxRecDepth 20000 in
theorem st_L_sets_189 {call : m_call} {r : m_R → m_S → Prop} {lo : m_L} {st : List Value} {bd : Nat × Nat} {S : m_S} : m_W1 (m_lk cd_L_sets) call r 189 lo st bd S = o_aload 0 190 call lo st bd S (m_W1 (m_lk cd_L_sets) call r) r := m_W1.iff rfl mm_L_sets
set_option maxRecDepth 20000 in
theorem st_L_sets_190 {call : m_call} {r : m_R → m_S → Prop} {lo : m_L} {st : List Value} {bd : Nat × Nat} {S : m_S} : m_W1 (m_lk cd_L_sets) call r 190 lo st bd S = o_iload 7 192 call lo st bd S (m_W1 (m_lk cd_L_sets) call r) r := m_W1.iff rfl mm_L_sets
set_option maxRecDepth 20000 in
theorem st_L_sets_192 {call : m_call} {r : m_R → m_S → Prop} {lo : m_L} {st : List Value} {bd : Nat × Nat} {S : m_S} : m_W1 (m_lk cd_L_sets) call r 192 lo st bd S = o_call 93 2 1 6 195 call lo st bd S (m_W1 (m_lk cd_L_sets) call r) r := m_W1.iff rfl mm_L_sets
set_option maxRecDepth 20000 in
theorem st_L_sets_195 {call : m_call} {r : m_R → m_S → Prop} {lo : m_L} {st : List Value} {bd : Nat × Nat} {S : m_S} : m_W1 (m_lk cd_L_sets) call r 195 lo st bd S = o_iload 12 197 call lo st bd S (m_W1 (m_lk cd_L_sets) call r) r := m_W1.iff rfl mm_L_sets
set_option maxRecDepth 20000 in
theorem st_L_sets_197 {call : m_call} {r : m_R → m_S → Prop} {lo : m_L} {st : List Value} {bd : Nat × Nat} {S : m_S} : m_W1 (m_lk cd_L_sets) call r 197 lo st bd S = o_iload 10 199 call lo st bd S (m_W1 (m_lk cd_L_sets) call r) r := m_W1.iff rfl mm_L_sets
set_option maxRecDepth 20000 in
theorem st_L_sets_199 {call : m_call} {r : m_R → m_S → Prop} {lo : m_L} {st : List Value} {bd : Nat × Nat} {S : m_S} : m_W1 (m_lk cd_L_sets) call r 199 lo st bd S = o_bin (fun x y => x + y) 200 call lo st bd S (m_W1 (m_lk cd_L_sets) call r) r := m_W1.iff rfl mm_L_sets
set_option maxRecDepth 20000 in
theorem st_L_sets_200 {call : m_call} {r : m_R → m_S → Prop} {lo : m_L} {st : List Value} {bd : Nat × Nat} {S : m_S} : m_W1 (m_lk cd_L_sets) call r 200 lo st bd S = o_icmpne 223 203 call lo st bd S (m_W1 (m_lk cd_L_sets) call r) r := m_W1.iff rfl mm_L_sets
set_option maxRecDepth 20000 in
theorem st_L_sets_203 {call : m_call} {r : m_R → m_S → Prop} {lo : m_L} {st : List Value} {bd : Nat × Nat} {S : m_S} : m_W1 (m_lk cd_L_sets) call r 203 lo st bd S = o_aload 0 204 call lo st bd S (m_W1 (m_lk cd_L_sets) call r) r := m_W1.iff rfl mm_L_sets
set_option maxRecDepth 20000 in
theorem st_L_sets_204 {call : m_call} {r : m_R → m_S → Prop} {lo : m_L} {st : List Value} {bd : Nat × Nat} {S : m_S} : m_W1 (m_lk cd_L_sets) call r 204 lo st bd S = o_iload 7 206 call lo st bd S (m_W1 (m_lk cd_L_sets) call r) r := m_W1.iff rfl mm_L_sets
set_option maxRecDepth 20000 in
theorem st_L_sets_206 {call : m_call} {r : m_R → m_S → Prop} {lo : m_L} {st : List Value} {bd : Nat × Nat} {S : m_S} : m_W1 (m_lk cd_L_sets) call r 206 lo st bd S = o_iload 8 208 call lo st bd S (m_W1 (m_lk cd_L_sets) call r) r := m_W1.iff rfl mm_L_sets
set_option maxRecDepth 20000 in
theorem st_L_sets_208 {call : m_call} {r : m_R → m_S → Prop} {lo : m_L} {st : List Value} {bd : Nat × Nat} {S : m_S} : m_W1 (m_lk cd_L_sets) call r 208 lo st bd S = o_call 94 3 2 12 211 call lo st bd S (m_W1 (m_lk cd_L_sets) call r) r := m_W1.iff rfl mm_L_sets
set_option maxRecDepth 20000 in
theorem st_L_sets_211 {call : m_call} {r : m_R → m_S → Prop} {lo : m_L} {st : List Value} {bd : Nat × Nat} {S : m_S} : m_W1 (m_lk cd_L_sets) call r 211 lo st bd S = o_iload 13 213 call lo st bd S (m_W1 (m_lk cd_L_sets) call r) r := m_W1.iff rfl mm_L_sets
set_option maxRecDepth 20000 in
theorem st_L_sets_213 {call : m_call} {r : m_R → m_S → Prop} {lo : m_L} {st : List Value} {bd : Nat × Nat} {S : m_S} : m_W1 (m_lk cd_L_sets) call r 213 lo st bd S = o_iload 10 215 call lo st bd S (m_W1 (m_lk cd_L_sets) call r) r := m_W1.iff rfl mm_L_sets
set_option maxRecDepth 20000 in
theorem st_L_sets_215 {call : m_call} {r : m_R → m_S → Prop} {lo : m_L} {st : List Value} {bd : Nat × Nat} {S : m_S} : m_W1 (m_lk cd_L_sets) call r 215 lo st bd S = o_bin (fun x y => x + y) 216 call lo st bd S (m_W1 (m_lk cd_L_sets) call r) r := m_W1.iff rfl mm_L_sets
set_option maxRecDepth 20000 in
theorem st_L_sets_216 {call : m_call} {r : m_R → m_S → Prop} {lo : m_L} {st : List Value} {bd : Nat × Nat} {S : m_S} : m_W1 (m_lk cd_L_sets) call r 216 lo st bd S = o_icmpne 223 219 call lo st bd S (m_W1 (m_lk cd_L_sets) call r) r := m_W1.iff rfl mm_L_sets
set_option maxRecDepth 20000 in
theorem st_L_sets_219 {call : m_call} {r : m_R → m_S → Prop} {lo : m_L} {st : List Value} {bd : Nat × Nat} {S : m_S} : m_W1 (m_lk cd_L_sets) call r 219 lo st bd S = o_const (1) 220 call lo st bd S (m_W1 (m_lk cd_L_sets) call r) r := m_W1.iff rfl mm_L_sets
set_option maxRecDepth 20000 in
theorem st_L_sets_220 {call : m_call} {r : m_R → m_S → Prop} {lo : m_L} {st : List Value} {bd : Nat × Nat} {S : m_S} : m_W1 (m_lk cd_L_sets) call r 220 lo st bd S = o_goto 224 call lo st bd S (m_W1 (m_lk cd_L_sets) call r) r := m_W1.iff rfl mm_L_sets
set_option maxRecDepth 20000 in
theorem st_L_sets_223 {call : m_call} {r : m_R → m_S → Prop} {lo : m_L} {st : List Value} {bd : Nat × Nat} {S : m_S} : m_W1 (m_lk cd_L_sets) call r 223 lo st bd S = o_const (0) 224 call lo st bd S (m_W1 (m_lk cd_L_sets) call r) r := m_W1.iff rfl mm_L_sets
set_option maxRecDepth 20000 in
theorem st_L_sets_224 {call : m_call} {r : m_R → m_S → Prop} {lo : m_L} {st : List Value} {bd : Nat × Nat} {S : m_S} : m_W1 (m_lk cd_L_sets) call r 224 lo st bd S = o_zreturn call lo st bd S (m_W1 (m_lk cd_L_sets) call r) r := m_W1.iff rfl mm_L_sets
set_option maxRecDepth 20000 in
theorem st_L_sets_225 {call : m_call} {r : m_R → m_S → Prop} {lo : m_L} {st : List Value} {bd : Nat × Nat} {S : m_S} : m_W1 (m_lk cd_L_sets) call r 225 lo st bd S = o_iload 5 227 call lo st bd S (m_W1 (m_lk cd_L_sets) call r) r := m_W1.iff rfl mm_L_sets
set_option maxRecDepth 20000 in
theorem st_L_sets_227 {call : m_call} {r : m_R → m_S → Prop} {lo : m_L} {st : List Value} {bd : Nat × Nat} {S : m_S} : m_W1 (m_lk cd_L_sets) call r 227 lo st bd S = o_const (4) 228 call lo st bd S (m_W1 (m_lk cd_L_sets) call r) r := m_W1.iff rfl mm_L_sets
set_option maxRecDepth 20000 in
theorem st_L_sets_228 {call : m_call} {r : m_R → m_S → Prop} {lo : m_L} {st : List Value} {bd : Nat × Nat} {S : m_S} : m_W1 (m_lk cd_L_sets) call r 228 lo st bd S = o_icmpge 418 231 call lo st bd S (m_W1 (m_lk cd_L_sets) call r) r := m_W1.iff rfl mm_L_sets
set_option maxRecDepth 20000 in
theorem st_L_sets_231 {call : m_call} {r : m_R → m_S → Prop} {lo : m_L} {st : List Value} {bd : Nat × Nat} {S : m_S} : m_W1 (m_lk cd_L_sets) call r 231 lo st bd S = o_aload 1 232 call lo st bd S (m_W1 (m_lk cd_L_sets) call r) r := m_W1.iff rfl mm_L_sets
set_option maxRecDepth 20000 in
theorem st_L_sets_232 {call : m_call} {r : m_R → m_S → Prop} {lo : m_L} {st : List Value} {bd : Nat × Nat} {S : m_S} : m_W1 (m_lk cd_L_sets) call r 232 lo st bd S = o_const (0) 233 call lo st bd S (m_W1 (m_lk cd_L_sets) call r) r := m_W1.iff rfl mm_L_sets
set_option maxRecDepth 20000 in
theorem st_L_sets_233 {call : m_call} {r : m_R → m_S → Prop} {lo : m_L} {st : List Value} {bd : Nat × Nat} {S : m_S} : m_W1 (m_lk cd_L_sets) call r 233 lo st bd S = o_iald 0 234 call lo st bd S (m_W1 (m_lk cd_L_sets) call r) r := m_W1.iff rfl mm_L_sets
set_option maxRecDepth 20000 in
theorem st_L_sets_234 {call : m_call} {r : m_R → m_S → Prop} {lo : m_L} {st : List Value} {bd : Nat × Nat} {S : m_S} : m_W1 (m_lk cd_L_sets) call r 234 lo st bd S = o_ifle 251 237 call lo st bd S (m_W1 (m_lk cd_L_sets) call r) r := m_W1.iff rfl mm_L_sets
set_option maxRecDepth 20000 in
theorem st_L_sets_237 {call : m_call} {r : m_R → m_S → Prop} {lo : m_L} {st : List Value} {bd : Nat × Nat} {S : m_S} : m_W1 (m_lk cd_L_sets) call r 237 lo st bd S = o_aload 0 238 call lo st bd S (m_W1 (m_lk cd_L_sets) call r) r := m_W1.iff rfl mm_L_sets
set_option maxRecDepth 20000 in
theorem st_L_sets_238 {call : m_call} {r : m_R → m_S → Prop} {lo : m_L} {st : List Value} {bd : Nat × Nat} {S : m_S} : m_W1 (m_lk cd_L_sets) call r 238 lo st bd S = o_iload 6 240 call lo st bd S (m_W1 (m_lk cd_L_sets) call r) r := m_W1.iff rfl mm_L_sets
set_option maxRecDepth 20000 in
theorem st_L_sets_240 {call : m_call} {r : m_R → m_S → Prop} {lo : m_L} {st : List Value} {bd : Nat × Nat} {S : m_S} : m_W1 (m_lk cd_L_sets) call r 240 lo st bd S = o_call 88 2 1 6 243 call lo st bd S (m_W1 (m_lk cd_L_sets) call r) r := m_W1.iff rfl mm_L_sets
set_option maxRecDepth 20000 in
theorem st_L_sets_243 {call : m_call} {r : m_R → m_S → Prop} {lo : m_L} {st : List Value} {bd : Nat × Nat} {S : m_S} : m_W1 (m_lk cd_L_sets) call r 243 lo st bd S = o_const (1) 244 call lo st bd S (m_W1 (m_lk cd_L_sets) call r) r := m_W1.iff rfl mm_L_sets
set_option maxRecDepth 20000 in
theorem st_L_sets_244 {call : m_call} {r : m_R → m_S → Prop} {lo : m_L} {st : List Value} {bd : Nat × Nat} {S : m_S} : m_W1 (m_lk cd_L_sets) call r 244 lo st bd S = o_icmpne 251 247 call lo st bd S (m_W1 (m_lk cd_L_sets) call r) r := m_W1.iff rfl mm_L_sets
set_option maxRecDepth 20000 in
theorem st_L_sets_247 {call : m_call} {r : m_R → m_S → Prop} {lo : m_L} {st : List Value} {bd : Nat × Nat} {S : m_S} : m_W1 (m_lk cd_L_sets) call r 247 lo st bd S = o_const (1) 248 call lo st bd S (m_W1 (m_lk cd_L_sets) call r) r := m_W1.iff rfl mm_L_sets
set_option maxRecDepth 20000 in
theorem st_L_sets_248 {call : m_call} {r : m_R → m_S → Prop} {lo : m_L} {st : List Value} {bd : Nat × Nat} {S : m_S} : m_W1 (m_lk cd_L_sets) call r 248 lo st bd S = o_goto 252 call lo st bd S (m_W1 (m_lk cd_L_sets) call r) r := m_W1.iff rfl mm_L_sets
set_option maxRecDepth 20000 in
theorem st_L_sets_251 {call : m_call} {r : m_R → m_S → Prop} {lo : m_L} {st : List Value} {bd : Nat × Nat} {S : m_S} : m_W1 (m_lk cd_L_sets) call r 251 lo st bd S = o_const (0) 252 call lo st bd S (m_W1 (m_lk cd_L_sets) call r) r := m_W1.iff rfl mm_L_sets
set_option maxRecDepth 20000 in
theorem st_L_sets_252 {call : m_call} {r : m_R → m_S → Prop} {lo : m_L} {st : List Value} {bd : Nat × Nat} {S : m_S} : m_W1 (m_lk cd_L_sets) call r 252 lo st bd S = o_istore 7 254 call lo st bd S (m_W1 (m_lk cd_L_sets) call r) r := m_W1.iff rfl mm_L_sets
set_option maxRecDepth 20000 in
theorem st_L_sets_254 {call : m_call} {r : m_R → m_S → Prop} {lo : m_L} {st : List Value} {bd : Nat × Nat} {S : m_S} : m_W1 (m_lk cd_L_sets) call r 254 lo st bd S = o_aload 2 255 call lo st bd S (m_W1 (m_lk cd_L_sets) call r) r := m_W1.iff rfl mm_L_sets
set_option maxRecDepth 20000 in
theorem st_L_sets_255 {call : m_call} {r : m_R → m_S → Prop} {lo : m_L} {st : List Value} {bd : Nat × Nat} {S : m_S} : m_W1 (m_lk cd_L_sets) call r 255 lo st bd S = o_const (4) 256 call lo st bd S (m_W1 (m_lk cd_L_sets) call r) r := m_W1.iff rfl mm_L_sets
set_option maxRecDepth 20000 in
theorem st_L_sets_256 {call : m_call} {r : m_R → m_S → Prop} {lo : m_L} {st : List Value} {bd : Nat × Nat} {S : m_S} : m_W1 (m_lk cd_L_sets) call r 256 lo st bd S = o_iload 6 258 call lo st bd S (m_W1 (m_lk cd_L_sets) call r) r := m_W1.iff rfl mm_L_sets
set_option maxRecDepth 20000 in
theorem st_L_sets_258 {call : m_call} {r : m_R → m_S → Prop} {lo : m_L} {st : List Value} {bd : Nat × Nat} {S : m_S} : m_W1 (m_lk cd_L_sets) call r 258 lo st bd S = o_bin (fun x y => x * y) 259 call lo st bd S (m_W1 (m_lk cd_L_sets) call r) r := m_W1.iff rfl mm_L_sets
set_option maxRecDepth 20000 in
theorem st_L_sets_259 {call : m_call} {r : m_R → m_S → Prop} {lo : m_L} {st : List Value} {bd : Nat × Nat} {S : m_S} : m_W1 (m_lk cd_L_sets) call r 259 lo st bd S = o_iald 0 260 call lo st bd S (m_W1 (m_lk cd_L_sets) call r) r := m_W1.iff rfl mm_L_sets
set_option maxRecDepth 20000 in
theorem st_L_sets_260 {call : m_call} {r : m_R → m_S → Prop} {lo : m_L} {st : List Value} {bd : Nat × Nat} {S : m_S} : m_W1 (m_lk cd_L_sets) call r 260 lo st bd S = o_aload 2 261 call lo st bd S (m_W1 (m_lk cd_L_sets) call r) r := m_W1.iff rfl mm_L_sets
set_option maxRecDepth 20000 in
theorem st_L_sets_261 {call : m_call} {r : m_R → m_S → Prop} {lo : m_L} {st : List Value} {bd : Nat × Nat} {S : m_S} : m_W1 (m_lk cd_L_sets) call r 261 lo st bd S = o_const (4) 262 call lo st bd S (m_W1 (m_lk cd_L_sets) call r) r := m_W1.iff rfl mm_L_sets
set_option maxRecDepth 20000 in
theorem st_L_sets_262 {call : m_call} {r : m_R → m_S → Prop} {lo : m_L} {st : List Value} {bd : Nat × Nat} {S : m_S} : m_W1 (m_lk cd_L_sets) call r 262 lo st bd S = o_iload 6 264 call lo st bd S (m_W1 (m_lk cd_L_sets) call r) r := m_W1.iff rfl mm_L_sets
set_option maxRecDepth 20000 in
theorem st_L_sets_264 {call : m_call} {r : m_R → m_S → Prop} {lo : m_L} {st : List Value} {bd : Nat × Nat} {S : m_S} : m_W1 (m_lk cd_L_sets) call r 264 lo st bd S = o_bin (fun x y => x * y) 265 call lo st bd S (m_W1 (m_lk cd_L_sets) call r) r := m_W1.iff rfl mm_L_sets
set_option maxRecDepth 20000 in
theorem st_L_sets_265 {call : m_call} {r : m_R → m_S → Prop} {lo : m_L} {st : List Value} {bd : Nat × Nat} {S : m_S} : m_W1 (m_lk cd_L_sets) call r 265 lo st bd S = o_const (1) 266 call lo st bd S (m_W1 (m_lk cd_L_sets) call r) r := m_W1.iff rfl mm_L_sets
set_option maxRecDepth 20000 in
theorem st_L_sets_266 {call : m_call} {r : m_R → m_S → Prop} {lo : m_L} {st : List Value} {bd : Nat × Nat} {S : m_S} : m_W1 (m_lk cd_L_sets) call r 266 lo st bd S = o_bin (fun x y => x + y) 267 call lo st bd S (m_W1 (m_lk cd_L_sets) call r) r := m_W1.iff rfl mm_L_sets
set_option maxRecDepth 20000 in
theorem st_L_sets_267 {call : m_call} {r : m_R → m_S → Prop} {lo : m_L} {st : List Value} {bd : Nat × Nat} {S : m_S} : m_W1 (m_lk cd_L_sets) call r 267 lo st bd S = o_iald 0 268 call lo st bd S (m_W1 (m_lk cd_L_sets) call r) r := m_W1.iff rfl mm_L_sets
set_option maxRecDepth 20000 in
theorem st_L_sets_268 {call : m_call} {r : m_R → m_S → Prop} {lo : m_L} {st : List Value} {bd : Nat × Nat} {S : m_S} : m_W1 (m_lk cd_L_sets) call r 268 lo st bd S = o_bin (fun x y => x - y) 269 call lo st bd S (m_W1 (m_lk cd_L_sets) call r) r := m_W1.iff rfl mm_L_sets
set_option maxRecDepth 20000 in
theorem st_L_sets_269 {call : m_call} {r : m_R → m_S → Prop} {lo : m_L} {st : List Value} {bd : Nat × Nat} {S : m_S} : m_W1 (m_lk cd_L_sets) call r 269 lo st bd S = o_istore 8 271 call lo st bd S (m_W1 (m_lk cd_L_sets) call r) r := m_W1.iff rfl mm_L_sets
set_option maxRecDepth 20000 in
theorem st_L_sets_271 {call : m_call} {r : m_R → m_S → Prop} {lo : m_L} {st : List Value} {bd : Nat × Nat} {S : m_S} : m_W1 (m_lk cd_L_sets) call r 271 lo st bd S = o_aload 0 272 call lo st bd S (m_W1 (m_lk cd_L_sets) call r) r := m_W1.iff rfl mm_L_sets
set_option maxRecDepth 20000 in
theorem st_L_sets_272 {call : m_call} {r : m_R → m_S → Prop} {lo : m_L} {st : List Value} {bd : Nat × Nat} {S : m_S} : m_W1 (m_lk cd_L_sets) call r 272 lo st bd S = o_iload 6 274 call lo st bd S (m_W1 (m_lk cd_L_sets) call r) r := m_W1.iff rfl mm_L_sets
set_option maxRecDepth 20000 in
theorem st_L_sets_274 {call : m_call} {r : m_R → m_S → Prop} {lo : m_L} {st : List Value} {bd : Nat × Nat} {S : m_S} : m_W1 (m_lk cd_L_sets) call r 274 lo st bd S = o_iload 4 276 call lo st bd S (m_W1 (m_lk cd_L_sets) call r) r := m_W1.iff rfl mm_L_sets
set_option maxRecDepth 20000 in
theorem st_L_sets_276 {call : m_call} {r : m_R → m_S → Prop} {lo : m_L} {st : List Value} {bd : Nat × Nat} {S : m_S} : m_W1 (m_lk cd_L_sets) call r 276 lo st bd S = o_const (200) 279 call lo st bd S (m_W1 (m_lk cd_L_sets) call r) r := m_W1.iff rfl mm_L_sets
set_option maxRecDepth 20000 in
theorem st_L_sets_279 {call : m_call} {r : m_R → m_S → Prop} {lo : m_L} {st : List Value} {bd : Nat × Nat} {S : m_S} : m_W1 (m_lk cd_L_sets) call r 279 lo st bd S = o_iload 8 281 call lo st bd S (m_W1 (m_lk cd_L_sets) call r) r := m_W1.iff rfl mm_L_sets
set_option maxRecDepth 20000 in
theorem st_L_sets_281 {call : m_call} {r : m_R → m_S → Prop} {lo : m_L} {st : List Value} {bd : Nat × Nat} {S : m_S} : m_W1 (m_lk cd_L_sets) call r 281 lo st bd S = o_ifge 290 284 call lo st bd S (m_W1 (m_lk cd_L_sets) call r) r := m_W1.iff rfl mm_L_sets
set_option maxRecDepth 20000 in
theorem st_L_sets_284 {call : m_call} {r : m_R → m_S → Prop} {lo : m_L} {st : List Value} {bd : Nat × Nat} {S : m_S} : m_W1 (m_lk cd_L_sets) call r 284 lo st bd S = o_iload 8 286 call lo st bd S (m_W1 (m_lk cd_L_sets) call r) r := m_W1.iff rfl mm_L_sets
set_option maxRecDepth 20000 in
theorem st_L_sets_286 {call : m_call} {r : m_R → m_S → Prop} {lo : m_L} {st : List Value} {bd : Nat × Nat} {S : m_S} : m_W1 (m_lk cd_L_sets) call r 286 lo st bd S = o_un (fun x => -x) 287 call lo st bd S (m_W1 (m_lk cd_L_sets) call r) r := m_W1.iff rfl mm_L_sets
set_option maxRecDepth 20000 in
theorem st_L_sets_287 {call : m_call} {r : m_R → m_S → Prop} {lo : m_L} {st : List Value} {bd : Nat × Nat} {S : m_S} : m_W1 (m_lk cd_L_sets) call r 287 lo st bd S = o_goto 292 call lo st bd S (m_W1 (m_lk cd_L_sets) call r) r := m_W1.iff rfl mm_L_sets
set_option maxRecDepth 20000 in
theorem st_L_sets_290 {call : m_call} {r : m_R → m_S → Prop} {lo : m_L} {st : List Value} {bd : Nat × Nat} {S : m_S} : m_W1 (m_lk cd_L_sets) call r 290 lo st bd S = o_iload 8 292 call lo st bd S (m_W1 (m_lk cd_L_sets) call r) r := m_W1.iff rfl mm_L_sets
set_option maxRecDepth 20000 in
theorem st_L_sets_292 {call : m_call} {r : m_R → m_S → Prop} {lo : m_L} {st : List Value} {bd : Nat × Nat} {S : m_S} : m_W1 (m_lk cd_L_sets) call r 292 lo st bd S = o_bin (fun x y => x * y) 293 call lo st bd S (m_W1 (m_lk cd_L_sets) call r) r := m_W1.iff rfl mm_L_sets
set_option maxRecDepth 20000 in
theorem st_L_sets_293 {call : m_call} {r : m_R → m_S → Prop} {lo : m_L} {st : List Value} {bd : Nat × Nat} {S : m_S} : m_W1 (m_lk cd_L_sets) call r 293 lo st bd S = o_const (1) 294 call lo st bd S (m_W1 (m_lk cd_L_sets) call r) r := m_W1.iff rfl mm_L_sets
set_option maxRecDepth 20000 in
theorem st_L_sets_294 {call : m_call} {r : m_R → m_S → Prop} {lo : m_L} {st : List Value} {bd : Nat × Nat} {S : m_S} : m_W1 (m_lk cd_L_sets) call r 294 lo st bd S = o_bin (fun x y => x + y) 295 call lo st bd S (m_W1 (m_lk cd_L_sets) call r) r := m_W1.iff rfl mm_L_sets
set_option maxRecDepth 20000 in
theorem st_L_sets_295 {call : m_call} {r : m_R → m_S → Prop} {lo : m_L} {st : List Value} {bd : Nat × Nat} {S : m_S} : m_W1 (m_lk cd_L_sets) call r 295 lo st bd S = o_call 77 2 0 0 298 call lo st bd S (m_W1 (m_lk cd_L_sets) call r) r := m_W1.iff rfl mm_L_sets
set_option maxRecDepth 20000 in
theorem st_L_sets_298 {call : m_call} {r : m_R → m_S → Prop} {lo : m_L} {st : List Value} {bd : Nat × Nat} {S : m_S} : m_W1 (m_lk cd_L_sets) call r 298 lo st bd S = o_call 81 3 5 29 301 call lo st bd S (m_W1 (m_lk cd_L_sets) call r) r := m_W1.iff rfl mm_L_sets
set_option maxRecDepth 20000 in
theorem st_L_sets_301 {call : m_call} {r : m_R → m_S → Prop} {lo : m_L} {st : List Value} {bd : Nat × Nat} {S : m_S} : m_W1 (m_lk cd_L_sets) call r 301 lo st bd S = o_istore 9 303 call lo st bd S (m_W1 (m_lk cd_L_sets) call r) r := m_W1.iff rfl mm_L_sets
set_option maxRecDepth 20000 in
theorem st_L_sets_303 {call : m_call} {r : m_R → m_S → Prop} {lo : m_L} {st : List Value} {bd : Nat × Nat} {S : m_S} : m_W1 (m_lk cd_L_sets) call r 303 lo st bd S = o_aload 1 304 call lo st bd S (m_W1 (m_lk cd_L_sets) call r) r := m_W1.iff rfl mm_L_sets
set_option maxRecDepth 20000 in
theorem st_L_sets_304 {call : m_call} {r : m_R → m_S → Prop} {lo : m_L} {st : List Value} {bd : Nat × Nat} {S : m_S} : m_W1 (m_lk cd_L_sets) call r 304 lo st bd S = o_const (0) 305 call lo st bd S (m_W1 (m_lk cd_L_sets) call r) r := m_W1.iff rfl mm_L_sets
set_option maxRecDepth 20000 in
theorem st_L_sets_305 {call : m_call} {r : m_R → m_S → Prop} {lo : m_L} {st : List Value} {bd : Nat × Nat} {S : m_S} : m_W1 (m_lk cd_L_sets) call r 305 lo st bd S = o_iald 0 306 call lo st bd S (m_W1 (m_lk cd_L_sets) call r) r := m_W1.iff rfl mm_L_sets
set_option maxRecDepth 20000 in
theorem st_L_sets_306 {call : m_call} {r : m_R → m_S → Prop} {lo : m_L} {st : List Value} {bd : Nat × Nat} {S : m_S} : m_W1 (m_lk cd_L_sets) call r 306 lo st bd S = o_ifne 322 309 call lo st bd S (m_W1 (m_lk cd_L_sets) call r) r := m_W1.iff rfl mm_L_sets
set_option maxRecDepth 20000 in
theorem st_L_sets_309 {call : m_call} {r : m_R → m_S → Prop} {lo : m_L} {st : List Value} {bd : Nat × Nat} {S : m_S} : m_W1 (m_lk cd_L_sets) call r 309 lo st bd S = o_iload 9 311 call lo st bd S (m_W1 (m_lk cd_L_sets) call r) r := m_W1.iff rfl mm_L_sets
set_option maxRecDepth 20000 in
theorem st_L_sets_311 {call : m_call} {r : m_R → m_S → Prop} {lo : m_L} {st : List Value} {bd : Nat × Nat} {S : m_S} : m_W1 (m_lk cd_L_sets) call r 311 lo st bd S = o_const (-1000001) 313 call lo st bd S (m_W1 (m_lk cd_L_sets) call r) r := m_W1.iff rfl mm_L_sets
set_option maxRecDepth 20000 in
theorem st_L_sets_313 {call : m_call} {r : m_R → m_S → Prop} {lo : m_L} {st : List Value} {bd : Nat × Nat} {S : m_S} : m_W1 (m_lk cd_L_sets) call r 313 lo st bd S = o_icmpne 320 316 call lo st bd S (m_W1 (m_lk cd_L_sets) call r) r := m_W1.iff rfl mm_L_sets
set_option maxRecDepth 20000 in
theorem st_L_sets_316 {call : m_call} {r : m_R → m_S → Prop} {lo : m_L} {st : List Value} {bd : Nat × Nat} {S : m_S} : m_W1 (m_lk cd_L_sets) call r 316 lo st bd S = o_const (1) 317 call lo st bd S (m_W1 (m_lk cd_L_sets) call r) r := m_W1.iff rfl mm_L_sets
set_option maxRecDepth 20000 in
theorem st_L_sets_317 {call : m_call} {r : m_R → m_S → Prop} {lo : m_L} {st : List Value} {bd : Nat × Nat} {S : m_S} : m_W1 (m_lk cd_L_sets) call r 317 lo st bd S = o_goto 321 call lo st bd S (m_W1 (m_lk cd_L_sets) call r) r := m_W1.iff rfl mm_L_sets
set_option maxRecDepth 20000 in
theorem st_L_sets_320 {call : m_call} {r : m_R → m_S → Prop} {lo : m_L} {st : List Value} {bd : Nat × Nat} {S : m_S} : m_W1 (m_lk cd_L_sets) call r 320 lo st bd S = o_const (0) 321 call lo st bd S (m_W1 (m_lk cd_L_sets) call r) r := m_W1.iff rfl mm_L_sets
set_option maxRecDepth 20000 in
theorem st_L_sets_321 {call : m_call} {r : m_R → m_S → Prop} {lo : m_L} {st : List Value} {bd : Nat × Nat} {S : m_S} : m_W1 (m_lk cd_L_sets) call r 321 lo st bd S = o_zreturn call lo st bd S (m_W1 (m_lk cd_L_sets) call r) r := m_W1.iff rfl mm_L_sets
set_option maxRecDepth 20000 in
theorem st_L_sets_322 {call : m_call} {r : m_R → m_S → Prop} {lo : m_L} {st : List Value} {bd : Nat × Nat} {S : m_S} : m_W1 (m_lk cd_L_sets) call r 322 lo st bd S = o_iload 7 324 call lo st bd S (m_W1 (m_lk cd_L_sets) call r) r := m_W1.iff rfl mm_L_sets
set_option maxRecDepth 20000 in
theorem st_L_sets_324 {call : m_call} {r : m_R → m_S → Prop} {lo : m_L} {st : List Value} {bd : Nat × Nat} {S : m_S} : m_W1 (m_lk cd_L_sets) call r 324 lo st bd S = o_ifeq 339 327 call lo st bd S (m_W1 (m_lk cd_L_sets) call r) r := m_W1.iff rfl mm_L_sets
set_option maxRecDepth 20000 in
theorem st_L_sets_327 {call : m_call} {r : m_R → m_S → Prop} {lo : m_L} {st : List Value} {bd : Nat × Nat} {S : m_S} : m_W1 (m_lk cd_L_sets) call r 327 lo st bd S = o_aload 1 328 call lo st bd S (m_W1 (m_lk cd_L_sets) call r) r := m_W1.iff rfl mm_L_sets
set_option maxRecDepth 20000 in
theorem st_L_sets_328 {call : m_call} {r : m_R → m_S → Prop} {lo : m_L} {st : List Value} {bd : Nat × Nat} {S : m_S} : m_W1 (m_lk cd_L_sets) call r 328 lo st bd S = o_const (2) 329 call lo st bd S (m_W1 (m_lk cd_L_sets) call r) r := m_W1.iff rfl mm_L_sets
set_option maxRecDepth 20000 in
theorem st_L_sets_329 {call : m_call} {r : m_R → m_S → Prop} {lo : m_L} {st : List Value} {bd : Nat × Nat} {S : m_S} : m_W1 (m_lk cd_L_sets) call r 329 lo st bd S = o_iald 0 330 call lo st bd S (m_W1 (m_lk cd_L_sets) call r) r := m_W1.iff rfl mm_L_sets
set_option maxRecDepth 20000 in
theorem st_L_sets_330 {call : m_call} {r : m_R → m_S → Prop} {lo : m_L} {st : List Value} {bd : Nat × Nat} {S : m_S} : m_W1 (m_lk cd_L_sets) call r 330 lo st bd S = o_const (16) 332 call lo st bd S (m_W1 (m_lk cd_L_sets) call r) r := m_W1.iff rfl mm_L_sets
set_option maxRecDepth 20000 in
theorem st_L_sets_332 {call : m_call} {r : m_R → m_S → Prop} {lo : m_L} {st : List Value} {bd : Nat × Nat} {S : m_S} : m_W1 (m_lk cd_L_sets) call r 332 lo st bd S = o_icmpge 339 335 call lo st bd S (m_W1 (m_lk cd_L_sets) call r) r := m_W1.iff rfl mm_L_sets
set_option maxRecDepth 20000 in
theorem st_L_sets_335 {call : m_call} {r : m_R → m_S → Prop} {lo : m_L} {st : List Value} {bd : Nat × Nat} {S : m_S} : m_W1 (m_lk cd_L_sets) call r 335 lo st bd S = o_const (1) 336 call lo st bd S (m_W1 (m_lk cd_L_sets) call r) r := m_W1.iff rfl mm_L_sets
set_option maxRecDepth 20000 in
theorem st_L_sets_336 {call : m_call} {r : m_R → m_S → Prop} {lo : m_L} {st : List Value} {bd : Nat × Nat} {S : m_S} : m_W1 (m_lk cd_L_sets) call r 336 lo st bd S = o_goto 340 call lo st bd S (m_W1 (m_lk cd_L_sets) call r) r := m_W1.iff rfl mm_L_sets
set_option maxRecDepth 20000 in
theorem st_L_sets_339 {call : m_call} {r : m_R → m_S → Prop} {lo : m_L} {st : List Value} {bd : Nat × Nat} {S : m_S} : m_W1 (m_lk cd_L_sets) call r 339 lo st bd S = o_const (0) 340 call lo st bd S (m_W1 (m_lk cd_L_sets) call r) r := m_W1.iff rfl mm_L_sets
set_option maxRecDepth 20000 in
theorem st_L_sets_340 {call : m_call} {r : m_R → m_S → Prop} {lo : m_L} {st : List Value} {bd : Nat × Nat} {S : m_S} : m_W1 (m_lk cd_L_sets) call r 340 lo st bd S = o_istore 10 342 call lo st bd S (m_W1 (m_lk cd_L_sets) call r) r := m_W1.iff rfl mm_L_sets
set_option maxRecDepth 20000 in
theorem st_L_sets_342 {call : m_call} {r : m_R → m_S → Prop} {lo : m_L} {st : List Value} {bd : Nat × Nat} {S : m_S} : m_W1 (m_lk cd_L_sets) call r 342 lo st bd S = o_iload 10 344 call lo st bd S (m_W1 (m_lk cd_L_sets) call r) r := m_W1.iff rfl mm_L_sets
set_option maxRecDepth 20000 in
theorem st_L_sets_344 {call : m_call} {r : m_R → m_S → Prop} {lo : m_L} {st : List Value} {bd : Nat × Nat} {S : m_S} : m_W1 (m_lk cd_L_sets) call r 344 lo st bd S = o_ifeq 364 347 call lo st bd S (m_W1 (m_lk cd_L_sets) call r) r := m_W1.iff rfl mm_L_sets
set_option maxRecDepth 20000 in
theorem st_L_sets_347 {call : m_call} {r : m_R → m_S → Prop} {lo : m_L} {st : List Value} {bd : Nat × Nat} {S : m_S} : m_W1 (m_lk cd_L_sets) call r 347 lo st bd S = o_aload 2 348 call lo st bd S (m_W1 (m_lk cd_L_sets) call r) r := m_W1.iff rfl mm_L_sets
set_option maxRecDepth 20000 in
theorem st_L_sets_348 {call : m_call} {r : m_R → m_S → Prop} {lo : m_L} {st : List Value} {bd : Nat × Nat} {S : m_S} : m_W1 (m_lk cd_L_sets) call r 348 lo st bd S = o_const (40) 350 call lo st bd S (m_W1 (m_lk cd_L_sets) call r) r := m_W1.iff rfl mm_L_sets
set_option maxRecDepth 20000 in
theorem st_L_sets_350 {call : m_call} {r : m_R → m_S → Prop} {lo : m_L} {st : List Value} {bd : Nat × Nat} {S : m_S} : m_W1 (m_lk cd_L_sets) call r 350 lo st bd S = o_aload 1 351 call lo st bd S (m_W1 (m_lk cd_L_sets) call r) r := m_W1.iff rfl mm_L_sets
set_option maxRecDepth 20000 in
theorem st_L_sets_351 {call : m_call} {r : m_R → m_S → Prop} {lo : m_L} {st : List Value} {bd : Nat × Nat} {S : m_S} : m_W1 (m_lk cd_L_sets) call r 351 lo st bd S = o_const (2) 352 call lo st bd S (m_W1 (m_lk cd_L_sets) call r) r := m_W1.iff rfl mm_L_sets
set_option maxRecDepth 20000 in
theorem st_L_sets_352 {call : m_call} {r : m_R → m_S → Prop} {lo : m_L} {st : List Value} {bd : Nat × Nat} {S : m_S} : m_W1 (m_lk cd_L_sets) call r 352 lo st bd S = o_iald 0 353 call lo st bd S (m_W1 (m_lk cd_L_sets) call r) r := m_W1.iff rfl mm_L_sets
set_option maxRecDepth 20000 in
theorem st_L_sets_353 {call : m_call} {r : m_R → m_S → Prop} {lo : m_L} {st : List Value} {bd : Nat × Nat} {S : m_S} : m_W1 (m_lk cd_L_sets) call r 353 lo st bd S = o_bin (fun x y => x + y) 354 call lo st bd S (m_W1 (m_lk cd_L_sets) call r) r := m_W1.iff rfl mm_L_sets
set_option maxRecDepth 20000 in
theorem st_L_sets_354 {call : m_call} {r : m_R → m_S → Prop} {lo : m_L} {st : List Value} {bd : Nat × Nat} {S : m_S} : m_W1 (m_lk cd_L_sets) call r 354 lo st bd S = o_iload 6 356 call lo st bd S (m_W1 (m_lk cd_L_sets) call r) r := m_W1.iff rfl mm_L_sets
set_option maxRecDepth 20000 in
theorem st_L_sets_356 {call : m_call} {r : m_R → m_S → Prop} {lo : m_L} {st : List Value} {bd : Nat × Nat} {S : m_S} : m_W1 (m_lk cd_L_sets) call r 356 lo st bd S = o_iast 357 call lo st bd S (m_W1 (m_lk cd_L_sets) call r) r := m_W1.iff rfl mm_L_sets
set_option maxRecDepth 20000 in
theorem st_L_sets_357 {call : m_call} {r : m_R → m_S → Prop} {lo : m_L} {st : List Value} {bd : Nat × Nat} {S : m_S} : m_W1 (m_lk cd_L_sets) call r 357 lo st bd S = o_aload 1 358 call lo st bd S (m_W1 (m_lk cd_L_sets) call r) r := m_W1.iff rfl mm_L_sets
set_option maxRecDepth 20000 in
theorem st_L_sets_358 {call : m_call} {r : m_R → m_S → Prop} {lo : m_L} {st : List Value} {bd : Nat × Nat} {S : m_S} : m_W1 (m_lk cd_L_sets) call r 358 lo st bd S = o_const (2) 359 call lo st bd S (m_W1 (m_lk cd_L_sets) call r) r := m_W1.iff rfl mm_L_sets
set_option maxRecDepth 20000 in
theorem st_L_sets_359 {call : m_call} {r : m_R → m_S → Prop} {lo : m_L} {st : List Value} {bd : Nat × Nat} {S : m_S} : m_W1 (m_lk cd_L_sets) call r 359 lo st bd S = o_dup2 360 call lo st bd S (m_W1 (m_lk cd_L_sets) call r) r := m_W1.iff rfl mm_L_sets
set_option maxRecDepth 20000 in
theorem st_L_sets_360 {call : m_call} {r : m_R → m_S → Prop} {lo : m_L} {st : List Value} {bd : Nat × Nat} {S : m_S} : m_W1 (m_lk cd_L_sets) call r 360 lo st bd S = o_iald 0 361 call lo st bd S (m_W1 (m_lk cd_L_sets) call r) r := m_W1.iff rfl mm_L_sets
set_option maxRecDepth 20000 in
theorem st_L_sets_361 {call : m_call} {r : m_R → m_S → Prop} {lo : m_L} {st : List Value} {bd : Nat × Nat} {S : m_S} : m_W1 (m_lk cd_L_sets) call r 361 lo st bd S = o_const (1) 362 call lo st bd S (m_W1 (m_lk cd_L_sets) call r) r := m_W1.iff rfl mm_L_sets
set_option maxRecDepth 20000 in
theorem st_L_sets_362 {call : m_call} {r : m_R → m_S → Prop} {lo : m_L} {st : List Value} {bd : Nat × Nat} {S : m_S} : m_W1 (m_lk cd_L_sets) call r 362 lo st bd S = o_bin (fun x y => x + y) 363 call lo st bd S (m_W1 (m_lk cd_L_sets) call r) r := m_W1.iff rfl mm_L_sets
set_option maxRecDepth 20000 in
theorem st_L_sets_363 {call : m_call} {r : m_R → m_S → Prop} {lo : m_L} {st : List Value} {bd : Nat × Nat} {S : m_S} : m_W1 (m_lk cd_L_sets) call r 363 lo st bd S = o_iast 364 call lo st bd S (m_W1 (m_lk cd_L_sets) call r) r := m_W1.iff rfl mm_L_sets
set_option maxRecDepth 20000 in
theorem st_L_sets_364 {call : m_call} {r : m_R → m_S → Prop} {lo : m_L} {st : List Value} {bd : Nat × Nat} {S : m_S} : m_W1 (m_lk cd_L_sets) call r 364 lo st bd S = o_iload 9 366 call lo st bd S (m_W1 (m_lk cd_L_sets) call r) r := m_W1.iff rfl mm_L_sets
set_option maxRecDepth 20000 in
theorem st_L_sets_366 {call : m_call} {r : m_R → m_S → Prop} {lo : m_L} {st : List Value} {bd : Nat × Nat} {S : m_S} : m_W1 (m_lk cd_L_sets) call r 366 lo st bd S = o_iload 10 368 call lo st bd S (m_W1 (m_lk cd_L_sets) call r) r := m_W1.iff rfl mm_L_sets
set_option maxRecDepth 20000 in
theorem st_L_sets_368 {call : m_call} {r : m_R → m_S → Prop} {lo : m_L} {st : List Value} {bd : Nat × Nat} {S : m_S} : m_W1 (m_lk cd_L_sets) call r 368 lo st bd S = o_ifeq 379 371 call lo st bd S (m_W1 (m_lk cd_L_sets) call r) r := m_W1.iff rfl mm_L_sets
set_option maxRecDepth 20000 in
theorem st_L_sets_371 {call : m_call} {r : m_R → m_S → Prop} {lo : m_L} {st : List Value} {bd : Nat × Nat} {S : m_S} : m_W1 (m_lk cd_L_sets) call r 371 lo st bd S = o_aload 1 372 call lo st bd S (m_W1 (m_lk cd_L_sets) call r) r := m_W1.iff rfl mm_L_sets
set_option maxRecDepth 20000 in
theorem st_L_sets_372 {call : m_call} {r : m_R → m_S → Prop} {lo : m_L} {st : List Value} {bd : Nat × Nat} {S : m_S} : m_W1 (m_lk cd_L_sets) call r 372 lo st bd S = o_const (2) 373 call lo st bd S (m_W1 (m_lk cd_L_sets) call r) r := m_W1.iff rfl mm_L_sets
set_option maxRecDepth 20000 in
theorem st_L_sets_373 {call : m_call} {r : m_R → m_S → Prop} {lo : m_L} {st : List Value} {bd : Nat × Nat} {S : m_S} : m_W1 (m_lk cd_L_sets) call r 373 lo st bd S = o_iald 0 374 call lo st bd S (m_W1 (m_lk cd_L_sets) call r) r := m_W1.iff rfl mm_L_sets
set_option maxRecDepth 20000 in
theorem st_L_sets_374 {call : m_call} {r : m_R → m_S → Prop} {lo : m_L} {st : List Value} {bd : Nat × Nat} {S : m_S} : m_W1 (m_lk cd_L_sets) call r 374 lo st bd S = o_const (1) 375 call lo st bd S (m_W1 (m_lk cd_L_sets) call r) r := m_W1.iff rfl mm_L_sets
set_option maxRecDepth 20000 in
theorem st_L_sets_375 {call : m_call} {r : m_R → m_S → Prop} {lo : m_L} {st : List Value} {bd : Nat × Nat} {S : m_S} : m_W1 (m_lk cd_L_sets) call r 375 lo st bd S = o_bin (fun x y => x - y) 376 call lo st bd S (m_W1 (m_lk cd_L_sets) call r) r := m_W1.iff rfl mm_L_sets
set_option maxRecDepth 20000 in
theorem st_L_sets_376 {call : m_call} {r : m_R → m_S → Prop} {lo : m_L} {st : List Value} {bd : Nat × Nat} {S : m_S} : m_W1 (m_lk cd_L_sets) call r 376 lo st bd S = o_goto 381 call lo st bd S (m_W1 (m_lk cd_L_sets) call r) r := m_W1.iff rfl mm_L_sets
set_option maxRecDepth 20000 in
theorem st_L_sets_379 {call : m_call} {r : m_R → m_S → Prop} {lo : m_L} {st : List Value} {bd : Nat × Nat} {S : m_S} : m_W1 (m_lk cd_L_sets) call r 379 lo st bd S = o_const (-1000003) 381 call lo st bd S (m_W1 (m_lk cd_L_sets) call r) r := m_W1.iff rfl mm_L_sets
set_option maxRecDepth 20000 in
theorem st_L_sets_381 {call : m_call} {r : m_R → m_S → Prop} {lo : m_L} {st : List Value} {bd : Nat × Nat} {S : m_S} : m_W1 (m_lk cd_L_sets) call r 381 lo st bd S = o_icmpne 416 384 call lo st bd S (m_W1 (m_lk cd_L_sets) call r) r := m_W1.iff rfl mm_L_sets
set_option maxRecDepth 20000 in
theorem st_L_sets_384 {call : m_call} {r : m_R → m_S → Prop} {lo : m_L} {st : List Value} {bd : Nat × Nat} {S : m_S} : m_W1 (m_lk cd_L_sets) call r 384 lo st bd S = o_aload 0 385 call lo st bd S (m_W1 (m_lk cd_L_sets) call r) r := m_W1.iff rfl mm_L_sets
set_option maxRecDepth 20000 in
theorem st_L_sets_385 {call : m_call} {r : m_R → m_S → Prop} {lo : m_L} {st : List Value} {bd : Nat × Nat} {S : m_S} : m_W1 (m_lk cd_L_sets) call r 385 lo st bd S = o_iload 6 387 call lo st bd S (m_W1 (m_lk cd_L_sets) call r) r := m_W1.iff rfl mm_L_sets
set_option maxRecDepth 20000 in
theorem st_L_sets_387 {call : m_call} {r : m_R → m_S → Prop} {lo : m_L} {st : List Value} {bd : Nat × Nat} {S : m_S} : m_W1 (m_lk cd_L_sets) call r 387 lo st bd S = o_call 88 2 1 6 390 call lo st bd S (m_W1 (m_lk cd_L_sets) call r) r := m_W1.iff rfl mm_L_sets
set_option maxRecDepth 20000 in
theorem st_L_sets_390 {call : m_call} {r : m_R → m_S → Prop} {lo : m_L} {st : List Value} {bd : Nat × Nat} {S : m_S} : m_W1 (m_lk cd_L_sets) call r 390 lo st bd S = o_iload 10 392 call lo st bd S (m_W1 (m_lk cd_L_sets) call r) r := m_W1.iff rfl mm_L_sets
set_option maxRecDepth 20000 in
theorem st_L_sets_392 {call : m_call} {r : m_R → m_S → Prop} {lo : m_L} {st : List Value} {bd : Nat × Nat} {S : m_S} : m_W1 (m_lk cd_L_sets) call r 392 lo st bd S = o_ifeq 399 395 call lo st bd S (m_W1 (m_lk cd_L_sets) call r) r := m_W1.iff rfl mm_L_sets
set_option maxRecDepth 20000 in
theorem st_L_sets_395 {call : m_call} {r : m_R → m_S → Prop} {lo : m_L} {st : List Value} {bd : Nat × Nat} {S : m_S} : m_W1 (m_lk cd_L_sets) call r 395 lo st bd S = o_const (0) 396 call lo st bd S (m_W1 (m_lk cd_L_sets) call r) r := m_W1.iff rfl mm_L_sets
set_option maxRecDepth 20000 in
theorem st_L_sets_396 {call : m_call} {r : m_R → m_S → Prop} {lo : m_L} {st : List Value} {bd : Nat × Nat} {S : m_S} : m_W1 (m_lk cd_L_sets) call r 396 lo st bd S = o_goto 409 call lo st bd S (m_W1 (m_lk cd_L_sets) call r) r := m_W1.iff rfl mm_L_sets
set_option maxRecDepth 20000 in
theorem st_L_sets_399 {call : m_call} {r : m_R → m_S → Prop} {lo : m_L} {st : List Value} {bd : Nat × Nat} {S : m_S} : m_W1 (m_lk cd_L_sets) call r 399 lo st bd S = o_iload 7 401 call lo st bd S (m_W1 (m_lk cd_L_sets) call r) r := m_W1.iff rfl mm_L_sets
set_option maxRecDepth 20000 in
theorem st_L_sets_401 {call : m_call} {r : m_R → m_S → Prop} {lo : m_L} {st : List Value} {bd : Nat × Nat} {S : m_S} : m_W1 (m_lk cd_L_sets) call r 401 lo st bd S = o_ifeq 408 404 call lo st bd S (m_W1 (m_lk cd_L_sets) call r) r := m_W1.iff rfl mm_L_sets
set_option maxRecDepth 20000 in
theorem st_L_sets_404 {call : m_call} {r : m_R → m_S → Prop} {lo : m_L} {st : List Value} {bd : Nat × Nat} {S : m_S} : m_W1 (m_lk cd_L_sets) call r 404 lo st bd S = o_const (1) 405 call lo st bd S (m_W1 (m_lk cd_L_sets) call r) r := m_W1.iff rfl mm_L_sets
set_option maxRecDepth 20000 in
theorem st_L_sets_405 {call : m_call} {r : m_R → m_S → Prop} {lo : m_L} {st : List Value} {bd : Nat × Nat} {S : m_S} : m_W1 (m_lk cd_L_sets) call r 405 lo st bd S = o_goto 409 call lo st bd S (m_W1 (m_lk cd_L_sets) call r) r := m_W1.iff rfl mm_L_sets
set_option maxRecDepth 20000 in
theorem st_L_sets_408 {call : m_call} {r : m_R → m_S → Prop} {lo : m_L} {st : List Value} {bd : Nat × Nat} {S : m_S} : m_W1 (m_lk cd_L_sets) call r 408 lo st bd S = o_const (0) 409 call lo st bd S (m_W1 (m_lk cd_L_sets) call r) r := m_W1.iff rfl mm_L_sets
set_option maxRecDepth 20000 in
theorem st_L_sets_409 {call : m_call} {r : m_R → m_S → Prop} {lo : m_L} {st : List Value} {bd : Nat × Nat} {S : m_S} : m_W1 (m_lk cd_L_sets) call r 409 lo st bd S = o_icmpne 416 412 call lo st bd S (m_W1 (m_lk cd_L_sets) call r) r := m_W1.iff rfl mm_L_sets
set_option maxRecDepth 20000 in
theorem st_L_sets_412 {call : m_call} {r : m_R → m_S → Prop} {lo : m_L} {st : List Value} {bd : Nat × Nat} {S : m_S} : m_W1 (m_lk cd_L_sets) call r 412 lo st bd S = o_const (1) 413 call lo st bd S (m_W1 (m_lk cd_L_sets) call r) r := m_W1.iff rfl mm_L_sets
set_option maxRecDepth 20000 in
theorem st_L_sets_413 {call : m_call} {r : m_R → m_S → Prop} {lo : m_L} {st : List Value} {bd : Nat × Nat} {S : m_S} : m_W1 (m_lk cd_L_sets) call r 413 lo st bd S = o_goto 417 call lo st bd S (m_W1 (m_lk cd_L_sets) call r) r := m_W1.iff rfl mm_L_sets
set_option maxRecDepth 20000 in
theorem st_L_sets_416 {call : m_call} {r : m_R → m_S → Prop} {lo : m_L} {st : List Value} {bd : Nat × Nat} {S : m_S} : m_W1 (m_lk cd_L_sets) call r 416 lo st bd S = o_const (0) 417 call lo st bd S (m_W1 (m_lk cd_L_sets) call r) r := m_W1.iff rfl mm_L_sets
set_option maxRecDepth 20000 in
theorem st_L_sets_417 {call : m_call} {r : m_R → m_S → Prop} {lo : m_L} {st : List Value} {bd : Nat × Nat} {S : m_S} : m_W1 (m_lk cd_L_sets) call r 417 lo st bd S = o_zreturn call lo st bd S (m_W1 (m_lk cd_L_sets) call r) r := m_W1.iff rfl mm_L_sets
set_option maxRecDepth 20000 in
theorem st_L_sets_418 {call : m_call} {r : m_R → m_S → Prop} {lo : m_L} {st : List Value} {bd : Nat × Nat} {S : m_S} : m_W1 (m_lk cd_L_sets) call r 418 lo st bd S = o_aload 1 419 call lo st bd S (m_W1 (m_lk cd_L_sets) call r) r := m_W1.iff rfl mm_L_sets
set_option maxRecDepth 20000 in
theorem st_L_sets_419 {call : m_call} {r : m_R → m_S → Prop} {lo : m_L} {st : List Value} {bd : Nat × Nat} {S : m_S} : m_W1 (m_lk cd_L_sets) call r 419 lo st bd S = o_const (3) 420 call lo st bd S (m_W1 (m_lk cd_L_sets) call r) r := m_W1.iff rfl mm_L_sets
set_option maxRecDepth 20000 in
theorem st_L_sets_420 {call : m_call} {r : m_R → m_S → Prop} {lo : m_L} {st : List Value} {bd : Nat × Nat} {S : m_S} : m_W1 (m_lk cd_L_sets) call r 420 lo st bd S = o_iald 0 421 call lo st bd S (m_W1 (m_lk cd_L_sets) call r) r := m_W1.iff rfl mm_L_sets
set_option maxRecDepth 20000 in
theorem st_L_sets_421 {call : m_call} {r : m_R → m_S → Prop} {lo : m_L} {st : List Value} {bd : Nat × Nat} {S : m_S} : m_W1 (m_lk cd_L_sets) call r 421 lo st bd S = o_ifne 428 424 call lo st bd S (m_W1 (m_lk cd_L_sets) call r) r := m_W1.iff rfl mm_L_sets
set_option maxRecDepth 20000 in
theorem st_L_sets_424 {call : m_call} {r : m_R → m_S → Prop} {lo : m_L} {st : List Value} {bd : Nat × Nat} {S : m_S} : m_W1 (m_lk cd_L_sets) call r 424 lo st bd S = o_const (0) 425 call lo st bd S (m_W1 (m_lk cd_L_sets) call r) r := m_W1.iff rfl mm_L_sets
set_option maxRecDepth 20000 in
theorem st_L_sets_425 {call : m_call} {r : m_R → m_S → Prop} {lo : m_L} {st : List Value} {bd : Nat × Nat} {S : m_S} : m_W1 (m_lk cd_L_sets) call r 425 lo st bd S = o_goto 437 call lo st bd S (m_W1 (m_lk cd_L_sets) call r) r := m_W1.iff rfl mm_L_sets
set_option maxRecDepth 20000 in
theorem st_L_sets_428 {call : m_call} {r : m_R → m_S → Prop} {lo : m_L} {st : List Value} {bd : Nat × Nat} {S : m_S} : m_W1 (m_lk cd_L_sets) call r 428 lo st bd S = o_iload 3 429 call lo st bd S (m_W1 (m_lk cd_L_sets) call r) r := m_W1.iff rfl mm_L_sets
set_option maxRecDepth 20000 in
theorem st_L_sets_429 {call : m_call} {r : m_R → m_S → Prop} {lo : m_L} {st : List Value} {bd : Nat × Nat} {S : m_S} : m_W1 (m_lk cd_L_sets) call r 429 lo st bd S = o_const (3) 430 call lo st bd S (m_W1 (m_lk cd_L_sets) call r) r := m_W1.iff rfl mm_L_sets
set_option maxRecDepth 20000 in
theorem st_L_sets_430 {call : m_call} {r : m_R → m_S → Prop} {lo : m_L} {st : List Value} {bd : Nat × Nat} {S : m_S} : m_W1 (m_lk cd_L_sets) call r 430 lo st bd S = o_bin (fun x y => x >>> (y &&& 31)) 431 call lo st bd S (m_W1 (m_lk cd_L_sets) call r) r := m_W1.iff rfl mm_L_sets
set_option maxRecDepth 20000 in
theorem st_L_sets_431 {call : m_call} {r : m_R → m_S → Prop} {lo : m_L} {st : List Value} {bd : Nat × Nat} {S : m_S} : m_W1 (m_lk cd_L_sets) call r 431 lo st bd S = o_aload 1 432 call lo st bd S (m_W1 (m_lk cd_L_sets) call r) r := m_W1.iff rfl mm_L_sets
set_option maxRecDepth 20000 in
theorem st_L_sets_432 {call : m_call} {r : m_R → m_S → Prop} {lo : m_L} {st : List Value} {bd : Nat × Nat} {S : m_S} : m_W1 (m_lk cd_L_sets) call r 432 lo st bd S = o_const (3) 433 call lo st bd S (m_W1 (m_lk cd_L_sets) call r) r := m_W1.iff rfl mm_L_sets
set_option maxRecDepth 20000 in
theorem st_L_sets_433 {call : m_call} {r : m_R → m_S → Prop} {lo : m_L} {st : List Value} {bd : Nat × Nat} {S : m_S} : m_W1 (m_lk cd_L_sets) call r 433 lo st bd S = o_iald 0 434 call lo st bd S (m_W1 (m_lk cd_L_sets) call r) r := m_W1.iff rfl mm_L_sets
set_option maxRecDepth 20000 in
theorem st_L_sets_434 {call : m_call} {r : m_R → m_S → Prop} {lo : m_L} {st : List Value} {bd : Nat × Nat} {S : m_S} : m_W1 (m_lk cd_L_sets) call r 434 lo st bd S = o_call 77 2 0 0 437 call lo st bd S (m_W1 (m_lk cd_L_sets) call r) r := m_W1.iff rfl mm_L_sets
set_option maxRecDepth 20000 in
theorem st_L_sets_437 {call : m_call} {r : m_R → m_S → Prop} {lo : m_L} {st : List Value} {bd : Nat × Nat} {S : m_S} : m_W1 (m_lk cd_L_sets) call r 437 lo st bd S = o_istore 7 439 call lo st bd S (m_W1 (m_lk cd_L_sets) call r) r := m_W1.iff rfl mm_L_sets
set_option maxRecDepth 20000 in
theorem st_L_sets_439 {call : m_call} {r : m_R → m_S → Prop} {lo : m_L} {st : List Value} {bd : Nat × Nat} {S : m_S} : m_W1 (m_lk cd_L_sets) call r 439 lo st bd S = o_iload 5 441 call lo st bd S (m_W1 (m_lk cd_L_sets) call r) r := m_W1.iff rfl mm_L_sets
set_option maxRecDepth 20000 in
theorem st_L_sets_441 {call : m_call} {r : m_R → m_S → Prop} {lo : m_L} {st : List Value} {bd : Nat × Nat} {S : m_S} : m_W1 (m_lk cd_L_sets) call r 441 lo st bd S = o_const (7) 443 call lo st bd S (m_W1 (m_lk cd_L_sets) call r) r := m_W1.iff rfl mm_L_sets
set_option maxRecDepth 20000 in
theorem st_L_sets_443 {call : m_call} {r : m_R → m_S → Prop} {lo : m_L} {st : List Value} {bd : Nat × Nat} {S : m_S} : m_W1 (m_lk cd_L_sets) call r 443 lo st bd S = o_icmpge 535 446 call lo st bd S (m_W1 (m_lk cd_L_sets) call r) r := m_W1.iff rfl mm_L_sets
set_option maxRecDepth 20000 in
theorem st_L_sets_446 {call : m_call} {r : m_R → m_S → Prop} {lo : m_L} {st : List Value} {bd : Nat × Nat} {S : m_S} : m_W1 (m_lk cd_L_sets) call r 446 lo st bd S = o_iload 5 448 call lo st bd S (m_W1 (m_lk cd_L_sets) call r) r := m_W1.iff rfl mm_L_sets
set_option maxRecDepth 20000 in
theorem st_L_sets_448 {call : m_call} {r : m_R → m_S → Prop} {lo : m_L} {st : List Value} {bd : Nat × Nat} {S : m_S} : m_W1 (m_lk cd_L_sets) call r 448 lo st bd S = o_const (4) 449 call lo st bd S (m_W1 (m_lk cd_L_sets) call r) r := m_W1.iff rfl mm_L_sets
set_option maxRecDepth 20000 in
theorem st_L_sets_449 {call : m_call} {r : m_R → m_S → Prop} {lo : m_L} {st : List Value} {bd : Nat × Nat} {S : m_S} : m_W1 (m_lk cd_L_sets) call r 449 lo st bd S = o_icmpeq 458 452 call lo st bd S (m_W1 (m_lk cd_L_sets) call r) r := m_W1.iff rfl mm_L_sets
set_option maxRecDepth 20000 in
theorem st_L_sets_452 {call : m_call} {r : m_R → m_S → Prop} {lo : m_L} {st : List Value} {bd : Nat × Nat} {S : m_S} : m_W1 (m_lk cd_L_sets) call r 452 lo st bd S = o_aload 1 453 call lo st bd S (m_W1 (m_lk cd_L_sets) call r) r := m_W1.iff rfl mm_L_sets
set_option maxRecDepth 20000 in
theorem st_L_sets_453 {call : m_call} {r : m_R → m_S → Prop} {lo : m_L} {st : List Value} {bd : Nat × Nat} {S : m_S} : m_W1 (m_lk cd_L_sets) call r 453 lo st bd S = o_const (2) 454 call lo st bd S (m_W1 (m_lk cd_L_sets) call r) r := m_W1.iff rfl mm_L_sets
set_option maxRecDepth 20000 in
theorem st_L_sets_454 {call : m_call} {r : m_R → m_S → Prop} {lo : m_L} {st : List Value} {bd : Nat × Nat} {S : m_S} : m_W1 (m_lk cd_L_sets) call r 454 lo st bd S = o_iald 0 455 call lo st bd S (m_W1 (m_lk cd_L_sets) call r) r := m_W1.iff rfl mm_L_sets
set_option maxRecDepth 20000 in
theorem st_L_sets_455 {call : m_call} {r : m_R → m_S → Prop} {lo : m_L} {st : List Value} {bd : Nat × Nat} {S : m_S} : m_W1 (m_lk cd_L_sets) call r 455 lo st bd S = o_ifne 462 458 call lo st bd S (m_W1 (m_lk cd_L_sets) call r) r := m_W1.iff rfl mm_L_sets
set_option maxRecDepth 20000 in
theorem st_L_sets_458 {call : m_call} {r : m_R → m_S → Prop} {lo : m_L} {st : List Value} {bd : Nat × Nat} {S : m_S} : m_W1 (m_lk cd_L_sets) call r 458 lo st bd S = o_const (-1) 459 call lo st bd S (m_W1 (m_lk cd_L_sets) call r) r := m_W1.iff rfl mm_L_sets
set_option maxRecDepth 20000 in
theorem st_L_sets_459 {call : m_call} {r : m_R → m_S → Prop} {lo : m_L} {st : List Value} {bd : Nat × Nat} {S : m_S} : m_W1 (m_lk cd_L_sets) call r 459 lo st bd S = o_goto 470 call lo st bd S (m_W1 (m_lk cd_L_sets) call r) r := m_W1.iff rfl mm_L_sets
set_option maxRecDepth 20000 in
theorem st_L_sets_462 {call : m_call} {r : m_R → m_S → Prop} {lo : m_L} {st : List Value} {bd : Nat × Nat} {S : m_S} : m_W1 (m_lk cd_L_sets) call r 462 lo st bd S = o_iload 4 464 call lo st bd S (m_W1 (m_lk cd_L_sets) call r) r := m_W1.iff rfl mm_L_sets
set_option maxRecDepth 20000 in
theorem st_L_sets_464 {call : m_call} {r : m_R → m_S → Prop} {lo : m_L} {st : List Value} {bd : Nat × Nat} {S : m_S} : m_W1 (m_lk cd_L_sets) call r 464 lo st bd S = o_aload 1 465 call lo st bd S (m_W1 (m_lk cd_L_sets) call r) r := m_W1.iff rfl mm_L_sets
set_option maxRecDepth 20000 in
theorem st_L_sets_465 {call : m_call} {r : m_R → m_S → Prop} {lo : m_L} {st : List Value} {bd : Nat × Nat} {S : m_S} : m_W1 (m_lk cd_L_sets) call r 465 lo st bd S = o_const (2) 466 call lo st bd S (m_W1 (m_lk cd_L_sets) call r) r := m_W1.iff rfl mm_L_sets
set_option maxRecDepth 20000 in
theorem st_L_sets_466 {call : m_call} {r : m_R → m_S → Prop} {lo : m_L} {st : List Value} {bd : Nat × Nat} {S : m_S} : m_W1 (m_lk cd_L_sets) call r 466 lo st bd S = o_iald 0 467 call lo st bd S (m_W1 (m_lk cd_L_sets) call r) r := m_W1.iff rfl mm_L_sets
set_option maxRecDepth 20000 in
theorem st_L_sets_467 {call : m_call} {r : m_R → m_S → Prop} {lo : m_L} {st : List Value} {bd : Nat × Nat} {S : m_S} : m_W1 (m_lk cd_L_sets) call r 467 lo st bd S = o_call 77 2 0 0 470 call lo st bd S (m_W1 (m_lk cd_L_sets) call r) r := m_W1.iff rfl mm_L_sets
set_option maxRecDepth 20000 in
theorem st_L_sets_470 {call : m_call} {r : m_R → m_S → Prop} {lo : m_L} {st : List Value} {bd : Nat × Nat} {S : m_S} : m_W1 (m_lk cd_L_sets) call r 470 lo st bd S = o_istore 8 472 call lo st bd S (m_W1 (m_lk cd_L_sets) call r) r := m_W1.iff rfl mm_L_sets
set_option maxRecDepth 20000 in
theorem st_L_sets_472 {call : m_call} {r : m_R → m_S → Prop} {lo : m_L} {st : List Value} {bd : Nat × Nat} {S : m_S} : m_W1 (m_lk cd_L_sets) call r 472 lo st bd S = o_aload 0 473 call lo st bd S (m_W1 (m_lk cd_L_sets) call r) r := m_W1.iff rfl mm_L_sets
set_option maxRecDepth 20000 in
theorem st_L_sets_473 {call : m_call} {r : m_R → m_S → Prop} {lo : m_L} {st : List Value} {bd : Nat × Nat} {S : m_S} : m_W1 (m_lk cd_L_sets) call r 473 lo st bd S = o_iload 7 475 call lo st bd S (m_W1 (m_lk cd_L_sets) call r) r := m_W1.iff rfl mm_L_sets
set_option maxRecDepth 20000 in
theorem st_L_sets_475 {call : m_call} {r : m_R → m_S → Prop} {lo : m_L} {st : List Value} {bd : Nat × Nat} {S : m_S} : m_W1 (m_lk cd_L_sets) call r 475 lo st bd S = o_iload 8 477 call lo st bd S (m_W1 (m_lk cd_L_sets) call r) r := m_W1.iff rfl mm_L_sets
set_option maxRecDepth 20000 in
theorem st_L_sets_477 {call : m_call} {r : m_R → m_S → Prop} {lo : m_L} {st : List Value} {bd : Nat × Nat} {S : m_S} : m_W1 (m_lk cd_L_sets) call r 477 lo st bd S = o_call 83 3 4 24 480 call lo st bd S (m_W1 (m_lk cd_L_sets) call r) r := m_W1.iff rfl mm_L_sets
set_option maxRecDepth 20000 in
theorem st_L_sets_480 {call : m_call} {r : m_R → m_S → Prop} {lo : m_L} {st : List Value} {bd : Nat × Nat} {S : m_S} : m_W1 (m_lk cd_L_sets) call r 480 lo st bd S = o_istore 9 482 call lo st bd S (m_W1 (m_lk cd_L_sets) call r) r := m_W1.iff rfl mm_L_sets
set_option maxRecDepth 20000 in
theorem st_L_sets_482 {call : m_call} {r : m_R → m_S → Prop} {lo : m_L} {st : List Value} {bd : Nat × Nat} {S : m_S} : m_W1 (m_lk cd_L_sets) call r 482 lo st bd S = o_aload 1 483 call lo st bd S (m_W1 (m_lk cd_L_sets) call r) r := m_W1.iff rfl mm_L_sets
set_option maxRecDepth 20000 in
theorem st_L_sets_483 {call : m_call} {r : m_R → m_S → Prop} {lo : m_L} {st : List Value} {bd : Nat × Nat} {S : m_S} : m_W1 (m_lk cd_L_sets) call r 483 lo st bd S = o_const (3) 484 call lo st bd S (m_W1 (m_lk cd_L_sets) call r) r := m_W1.iff rfl mm_L_sets
set_option maxRecDepth 20000 in
theorem st_L_sets_484 {call : m_call} {r : m_R → m_S → Prop} {lo : m_L} {st : List Value} {bd : Nat × Nat} {S : m_S} : m_W1 (m_lk cd_L_sets) call r 484 lo st bd S = o_iald 0 485 call lo st bd S (m_W1 (m_lk cd_L_sets) call r) r := m_W1.iff rfl mm_L_sets
set_option maxRecDepth 20000 in
theorem st_L_sets_485 {call : m_call} {r : m_R → m_S → Prop} {lo : m_L} {st : List Value} {bd : Nat × Nat} {S : m_S} : m_W1 (m_lk cd_L_sets) call r 485 lo st bd S = o_ifne 503 488 call lo st bd S (m_W1 (m_lk cd_L_sets) call r) r := m_W1.iff rfl mm_L_sets
set_option maxRecDepth 20000 in
theorem st_L_sets_488 {call : m_call} {r : m_R → m_S → Prop} {lo : m_L} {st : List Value} {bd : Nat × Nat} {S : m_S} : m_W1 (m_lk cd_L_sets) call r 488 lo st bd S = o_iload 9 490 call lo st bd S (m_W1 (m_lk cd_L_sets) call r) r := m_W1.iff rfl mm_L_sets
set_option maxRecDepth 20000 in
theorem st_L_sets_490 {call : m_call} {r : m_R → m_S → Prop} {lo : m_L} {st : List Value} {bd : Nat × Nat} {S : m_S} : m_W1 (m_lk cd_L_sets) call r 490 lo st bd S = o_const (-1000001) 492 call lo st bd S (m_W1 (m_lk cd_L_sets) call r) r := m_W1.iff rfl mm_L_sets
set_option maxRecDepth 20000 in
theorem st_L_sets_492 {call : m_call} {r : m_R → m_S → Prop} {lo : m_L} {st : List Value} {bd : Nat × Nat} {S : m_S} : m_W1 (m_lk cd_L_sets) call r 492 lo st bd S = o_icmpne 499 495 call lo st bd S (m_W1 (m_lk cd_L_sets) call r) r := m_W1.iff rfl mm_L_sets
set_option maxRecDepth 20000 in
theorem st_L_sets_495 {call : m_call} {r : m_R → m_S → Prop} {lo : m_L} {st : List Value} {bd : Nat × Nat} {S : m_S} : m_W1 (m_lk cd_L_sets) call r 495 lo st bd S = o_const (1) 496 call lo st bd S (m_W1 (m_lk cd_L_sets) call r) r := m_W1.iff rfl mm_L_sets
set_option maxRecDepth 20000 in
theorem st_L_sets_496 {call : m_call} {r : m_R → m_S → Prop} {lo : m_L} {st : List Value} {bd : Nat × Nat} {S : m_S} : m_W1 (m_lk cd_L_sets) call r 496 lo st bd S = o_goto 534 call lo st bd S (m_W1 (m_lk cd_L_sets) call r) r := m_W1.iff rfl mm_L_sets
set_option maxRecDepth 20000 in
theorem st_L_sets_499 {call : m_call} {r : m_R → m_S → Prop} {lo : m_L} {st : List Value} {bd : Nat × Nat} {S : m_S} : m_W1 (m_lk cd_L_sets) call r 499 lo st bd S = o_const (0) 500 call lo st bd S (m_W1 (m_lk cd_L_sets) call r) r := m_W1.iff rfl mm_L_sets
set_option maxRecDepth 20000 in
theorem st_L_sets_500 {call : m_call} {r : m_R → m_S → Prop} {lo : m_L} {st : List Value} {bd : Nat × Nat} {S : m_S} : m_W1 (m_lk cd_L_sets) call r 500 lo st bd S = o_goto 534 call lo st bd S (m_W1 (m_lk cd_L_sets) call r) r := m_W1.iff rfl mm_L_sets
set_option maxRecDepth 20000 in
theorem st_L_sets_503 {call : m_call} {r : m_R → m_S → Prop} {lo : m_L} {st : List Value} {bd : Nat × Nat} {S : m_S} : m_W1 (m_lk cd_L_sets) call r 503 lo st bd S = o_iload 9 505 call lo st bd S (m_W1 (m_lk cd_L_sets) call r) r := m_W1.iff rfl mm_L_sets
set_option maxRecDepth 20000 in
theorem st_L_sets_505 {call : m_call} {r : m_R → m_S → Prop} {lo : m_L} {st : List Value} {bd : Nat × Nat} {S : m_S} : m_W1 (m_lk cd_L_sets) call r 505 lo st bd S = o_const (-1) 506 call lo st bd S (m_W1 (m_lk cd_L_sets) call r) r := m_W1.iff rfl mm_L_sets
set_option maxRecDepth 20000 in
theorem st_L_sets_506 {call : m_call} {r : m_R → m_S → Prop} {lo : m_L} {st : List Value} {bd : Nat × Nat} {S : m_S} : m_W1 (m_lk cd_L_sets) call r 506 lo st bd S = o_icmplt 517 509 call lo st bd S (m_W1 (m_lk cd_L_sets) call r) r := m_W1.iff rfl mm_L_sets
set_option maxRecDepth 20000 in
theorem st_L_sets_509 {call : m_call} {r : m_R → m_S → Prop} {lo : m_L} {st : List Value} {bd : Nat × Nat} {S : m_S} : m_W1 (m_lk cd_L_sets) call r 509 lo st bd S = o_iload 9 511 call lo st bd S (m_W1 (m_lk cd_L_sets) call r) r := m_W1.iff rfl mm_L_sets
set_option maxRecDepth 20000 in
theorem st_L_sets_511 {call : m_call} {r : m_R → m_S → Prop} {lo : m_L} {st : List Value} {bd : Nat × Nat} {S : m_S} : m_W1 (m_lk cd_L_sets) call r 511 lo st bd S = o_aload 1 512 call lo st bd S (m_W1 (m_lk cd_L_sets) call r) r := m_W1.iff rfl mm_L_sets
set_option maxRecDepth 20000 in
theorem st_L_sets_512 {call : m_call} {r : m_R → m_S → Prop} {lo : m_L} {st : List Value} {bd : Nat × Nat} {S : m_S} : m_W1 (m_lk cd_L_sets) call r 512 lo st bd S = o_const (2) 513 call lo st bd S (m_W1 (m_lk cd_L_sets) call r) r := m_W1.iff rfl mm_L_sets
set_option maxRecDepth 20000 in
theorem st_L_sets_513 {call : m_call} {r : m_R → m_S → Prop} {lo : m_L} {st : List Value} {bd : Nat × Nat} {S : m_S} : m_W1 (m_lk cd_L_sets) call r 513 lo st bd S = o_iald 0 514 call lo st bd S (m_W1 (m_lk cd_L_sets) call r) r := m_W1.iff rfl mm_L_sets
set_option maxRecDepth 20000 in
theorem st_L_sets_514 {call : m_call} {r : m_R → m_S → Prop} {lo : m_L} {st : List Value} {bd : Nat × Nat} {S : m_S} : m_W1 (m_lk cd_L_sets) call r 514 lo st bd S = o_icmplt 529 517 call lo st bd S (m_W1 (m_lk cd_L_sets) call r) r := m_W1.iff rfl mm_L_sets
set_option maxRecDepth 20000 in
theorem st_L_sets_517 {call : m_call} {r : m_R → m_S → Prop} {lo : m_L} {st : List Value} {bd : Nat × Nat} {S : m_S} : m_W1 (m_lk cd_L_sets) call r 517 lo st bd S = o_iload 9 519 call lo st bd S (m_W1 (m_lk cd_L_sets) call r) r := m_W1.iff rfl mm_L_sets
set_option maxRecDepth 20000 in
theorem st_L_sets_519 {call : m_call} {r : m_R → m_S → Prop} {lo : m_L} {st : List Value} {bd : Nat × Nat} {S : m_S} : m_W1 (m_lk cd_L_sets) call r 519 lo st bd S = o_const (-1000003) 521 call lo st bd S (m_W1 (m_lk cd_L_sets) call r) r := m_W1.iff rfl mm_L_sets
set_option maxRecDepth 20000 in
theorem st_L_sets_521 {call : m_call} {r : m_R → m_S → Prop} {lo : m_L} {st : List Value} {bd : Nat × Nat} {S : m_S} : m_W1 (m_lk cd_L_sets) call r 521 lo st bd S = o_icmpne 533 524 call lo st bd S (m_W1 (m_lk cd_L_sets) call r) r := m_W1.iff rfl mm_L_sets
set_option maxRecDepth 20000 in
theorem st_L_sets_524 {call : m_call} {r : m_R → m_S → Prop} {lo : m_L} {st : List Value} {bd : Nat × Nat} {S : m_S} : m_W1 (m_lk cd_L_sets) call r 524 lo st bd S = o_iload 8 526 call lo st bd S (m_W1 (m_lk cd_L_sets) call r) r := m_W1.iff rfl mm_L_sets
set_option maxRecDepth 20000 in
theorem st_L_sets_526 {call : m_call} {r : m_R → m_S → Prop} {lo : m_L} {st : List Value} {bd : Nat × Nat} {S : m_S} : m_W1 (m_lk cd_L_sets) call r 526 lo st bd S = o_iflt 533 529 call lo st bd S (m_W1 (m_lk cd_L_sets) call r) r := m_W1.iff rfl mm_L_sets
set_option maxRecDepth 20000 in
theorem st_L_sets_529 {call : m_call} {r : m_R → m_S → Prop} {lo : m_L} {st : List Value} {bd : Nat × Nat} {S : m_S} : m_W1 (m_lk cd_L_sets) call r 529 lo st bd S = o_const (1) 530 call lo st bd S (m_W1 (m_lk cd_L_sets) call r) r := m_W1.iff rfl mm_L_sets
set_option maxRecDepth 20000 in
theorem st_L_sets_530 {call : m_call} {r : m_R → m_S → Prop} {lo : m_L} {st : List Value} {bd : Nat × Nat} {S : m_S} : m_W1 (m_lk cd_L_sets) call r 530 lo st bd S = o_goto 534 call lo st bd S (m_W1 (m_lk cd_L_sets) call r) r := m_W1.iff rfl mm_L_sets
set_option maxRecDepth 20000 in
theorem st_L_sets_533 {call : m_call} {r : m_R → m_S → Prop} {lo : m_L} {st : List Value} {bd : Nat × Nat} {S : m_S} : m_W1 (m_lk cd_L_sets) call r 533 lo st bd S = o_const (0) 534 call lo st bd S (m_W1 (m_lk cd_L_sets) call r) r := m_W1.iff rfl mm_L_sets
set_option maxRecDepth 20000 in
theorem st_L_sets_534 {call : m_call} {r : m_R → m_S → Prop} {lo : m_L} {st : List Value} {bd : Nat × Nat} {S : m_S} : m_W1 (m_lk cd_L_sets) call r 534 lo st bd S = o_zreturn call lo st bd S (m_W1 (m_lk cd_L_sets) call r) r := m_W1.iff rfl mm_L_sets
set_option maxRecDepth 20000 in
theorem st_L_sets_535 {call : m_call} {r : m_R → m_S → Prop} {lo : m_L} {st : List Value} {bd : Nat × Nat} {S : m_S} : m_W1 (m_lk cd_L_sets) call r 535 lo st bd S = o_iload 4 537 call lo st bd S (m_W1 (m_lk cd_L_sets) call r) r := m_W1.iff rfl mm_L_sets
set_option maxRecDepth 20000 in
theorem st_L_sets_537 {call : m_call} {r : m_R → m_S → Prop} {lo : m_L} {st : List Value} {bd : Nat × Nat} {S : m_S} : m_W1 (m_lk cd_L_sets) call r 537 lo st bd S = o_const (2) 538 call lo st bd S (m_W1 (m_lk cd_L_sets) call r) r := m_W1.iff rfl mm_L_sets
set_option maxRecDepth 20000 in
theorem st_L_sets_538 {call : m_call} {r : m_R → m_S → Prop} {lo : m_L} {st : List Value} {bd : Nat × Nat} {S : m_S} : m_W1 (m_lk cd_L_sets) call r 538 lo st bd S = o_call 77 2 0 0 541 call lo st bd S (m_W1 (m_lk cd_L_sets) call r) r := m_W1.iff rfl mm_L_sets
set_option maxRecDepth 20000 in
theorem st_L_sets_541 {call : m_call} {r : m_R → m_S → Prop} {lo : m_L} {st : List Value} {bd : Nat × Nat} {S : m_S} : m_W1 (m_lk cd_L_sets) call r 541 lo st bd S = o_ifne 598 544 call lo st bd S (m_W1 (m_lk cd_L_sets) call r) r := m_W1.iff rfl mm_L_sets
set_option maxRecDepth 20000 in
theorem st_L_sets_544 {call : m_call} {r : m_R → m_S → Prop} {lo : m_L} {st : List Value} {bd : Nat × Nat} {S : m_S} : m_W1 (m_lk cd_L_sets) call r 544 lo st bd S = o_iload 4 546 call lo st bd S (m_W1 (m_lk cd_L_sets) call r) r := m_W1.iff rfl mm_L_sets
set_option maxRecDepth 20000 in
theorem st_L_sets_546 {call : m_call} {r : m_R → m_S → Prop} {lo : m_L} {st : List Value} {bd : Nat × Nat} {S : m_S} : m_W1 (m_lk cd_L_sets) call r 546 lo st bd S = o_const (1) 547 call lo st bd S (m_W1 (m_lk cd_L_sets) call r) r := m_W1.iff rfl mm_L_sets
set_option maxRecDepth 20000 in
theorem st_L_sets_547 {call : m_call} {r : m_R → m_S → Prop} {lo : m_L} {st : List Value} {bd : Nat × Nat} {S : m_S} : m_W1 (m_lk cd_L_sets) call r 547 lo st bd S = o_bin (fun x y => x >>> (y &&& 31)) 548 call lo st bd S (m_W1 (m_lk cd_L_sets) call r) r := m_W1.iff rfl mm_L_sets
set_option maxRecDepth 20000 in
theorem st_L_sets_548 {call : m_call} {r : m_R → m_S → Prop} {lo : m_L} {st : List Value} {bd : Nat × Nat} {S : m_S} : m_W1 (m_lk cd_L_sets) call r 548 lo st bd S = o_const (100) 550 call lo st bd S (m_W1 (m_lk cd_L_sets) call r) r := m_W1.iff rfl mm_L_sets
set_option maxRecDepth 20000 in
theorem st_L_sets_550 {call : m_call} {r : m_R → m_S → Prop} {lo : m_L} {st : List Value} {bd : Nat × Nat} {S : m_S} : m_W1 (m_lk cd_L_sets) call r 550 lo st bd S = o_call 77 2 0 0 553 call lo st bd S (m_W1 (m_lk cd_L_sets) call r) r := m_W1.iff rfl mm_L_sets
set_option maxRecDepth 20000 in
theorem st_L_sets_553 {call : m_call} {r : m_R → m_S → Prop} {lo : m_L} {st : List Value} {bd : Nat × Nat} {S : m_S} : m_W1 (m_lk cd_L_sets) call r 553 lo st bd S = o_istore 8 555 call lo st bd S (m_W1 (m_lk cd_L_sets) call r) r := m_W1.iff rfl mm_L_sets
set_option maxRecDepth 20000 in
theorem st_L_sets_555 {call : m_call} {r : m_R → m_S → Prop} {lo : m_L} {st : List Value} {bd : Nat × Nat} {S : m_S} : m_W1 (m_lk cd_L_sets) call r 555 lo st bd S = o_aload 0 556 call lo st bd S (m_W1 (m_lk cd_L_sets) call r) r := m_W1.iff rfl mm_L_sets
set_option maxRecDepth 20000 in
theorem st_L_sets_556 {call : m_call} {r : m_R → m_S → Prop} {lo : m_L} {st : List Value} {bd : Nat × Nat} {S : m_S} : m_W1 (m_lk cd_L_sets) call r 556 lo st bd S = o_iload 8 558 call lo st bd S (m_W1 (m_lk cd_L_sets) call r) r := m_W1.iff rfl mm_L_sets
set_option maxRecDepth 20000 in
theorem st_L_sets_558 {call : m_call} {r : m_R → m_S → Prop} {lo : m_L} {st : List Value} {bd : Nat × Nat} {S : m_S} : m_W1 (m_lk cd_L_sets) call r 558 lo st bd S = o_iload 8 560 call lo st bd S (m_W1 (m_lk cd_L_sets) call r) r := m_W1.iff rfl mm_L_sets
set_option maxRecDepth 20000 in
theorem st_L_sets_560 {call : m_call} {r : m_R → m_S → Prop} {lo : m_L} {st : List Value} {bd : Nat × Nat} {S : m_S} : m_W1 (m_lk cd_L_sets) call r 560 lo st bd S = o_iload 4 562 call lo st bd S (m_W1 (m_lk cd_L_sets) call r) r := m_W1.iff rfl mm_L_sets
set_option maxRecDepth 20000 in
theorem st_L_sets_562 {call : m_call} {r : m_R → m_S → Prop} {lo : m_L} {st : List Value} {bd : Nat × Nat} {S : m_S} : m_W1 (m_lk cd_L_sets) call r 562 lo st bd S = o_const (8) 564 call lo st bd S (m_W1 (m_lk cd_L_sets) call r) r := m_W1.iff rfl mm_L_sets
set_option maxRecDepth 20000 in
theorem st_L_sets_564 {call : m_call} {r : m_R → m_S → Prop} {lo : m_L} {st : List Value} {bd : Nat × Nat} {S : m_S} : m_W1 (m_lk cd_L_sets) call r 564 lo st bd S = o_bin (fun x y => x >>> (y &&& 31)) 565 call lo st bd S (m_W1 (m_lk cd_L_sets) call r) r := m_W1.iff rfl mm_L_sets
set_option maxRecDepth 20000 in
theorem st_L_sets_565 {call : m_call} {r : m_R → m_S → Prop} {lo : m_L} {st : List Value} {bd : Nat × Nat} {S : m_S} : m_W1 (m_lk cd_L_sets) call r 565 lo st bd S = o_const (20) 567 call lo st bd S (m_W1 (m_lk cd_L_sets) call r) r := m_W1.iff rfl mm_L_sets
set_option maxRecDepth 20000 in
theorem st_L_sets_567 {call : m_call} {r : m_R → m_S → Prop} {lo : m_L} {st : List Value} {bd : Nat × Nat} {S : m_S} : m_W1 (m_lk cd_L_sets) call r 567 lo st bd S = o_call 77 2 0 0 570 call lo st bd S (m_W1 (m_lk cd_L_sets) call r) r := m_W1.iff rfl mm_L_sets
set_option maxRecDepth 20000 in
theorem st_L_sets_570 {call : m_call} {r : m_R → m_S → Prop} {lo : m_L} {st : List Value} {bd : Nat × Nat} {S : m_S} : m_W1 (m_lk cd_L_sets) call r 570 lo st bd S = o_bin (fun x y => x + y) 571 call lo st bd S (m_W1 (m_lk cd_L_sets) call r) r := m_W1.iff rfl mm_L_sets
set_option maxRecDepth 20000 in
theorem st_L_sets_571 {call : m_call} {r : m_R → m_S → Prop} {lo : m_L} {st : List Value} {bd : Nat × Nat} {S : m_S} : m_W1 (m_lk cd_L_sets) call r 571 lo st bd S = o_call 85 3 2 12 574 call lo st bd S (m_W1 (m_lk cd_L_sets) call r) r := m_W1.iff rfl mm_L_sets
set_option maxRecDepth 20000 in
theorem st_L_sets_574 {call : m_call} {r : m_R → m_S → Prop} {lo : m_L} {st : List Value} {bd : Nat × Nat} {S : m_S} : m_W1 (m_lk cd_L_sets) call r 574 lo st bd S = o_ifne 596 577 call lo st bd S (m_W1 (m_lk cd_L_sets) call r) r := m_W1.iff rfl mm_L_sets
set_option maxRecDepth 20000 in
theorem st_L_sets_577 {call : m_call} {r : m_R → m_S → Prop} {lo : m_L} {st : List Value} {bd : Nat × Nat} {S : m_S} : m_W1 (m_lk cd_L_sets) call r 577 lo st bd S = o_aload 0 578 call lo st bd S (m_W1 (m_lk cd_L_sets) call r) r := m_W1.iff rfl mm_L_sets
set_option maxRecDepth 20000 in
theorem st_L_sets_578 {call : m_call} {r : m_R → m_S → Prop} {lo : m_L} {st : List Value} {bd : Nat × Nat} {S : m_S} : m_W1 (m_lk cd_L_sets) call r 578 lo st bd S = o_iload 8 580 call lo st bd S (m_W1 (m_lk cd_L_sets) call r) r := m_W1.iff rfl mm_L_sets
set_option maxRecDepth 20000 in
theorem st_L_sets_580 {call : m_call} {r : m_R → m_S → Prop} {lo : m_L} {st : List Value} {bd : Nat × Nat} {S : m_S} : m_W1 (m_lk cd_L_sets) call r 580 lo st bd S = o_iload 8 582 call lo st bd S (m_W1 (m_lk cd_L_sets) call r) r := m_W1.iff rfl mm_L_sets
set_option maxRecDepth 20000 in
theorem st_L_sets_582 {call : m_call} {r : m_R → m_S → Prop} {lo : m_L} {st : List Value} {bd : Nat × Nat} {S : m_S} : m_W1 (m_lk cd_L_sets) call r 582 lo st bd S = o_const (1) 583 call lo st bd S (m_W1 (m_lk cd_L_sets) call r) r := m_W1.iff rfl mm_L_sets
set_option maxRecDepth 20000 in
theorem st_L_sets_583 {call : m_call} {r : m_R → m_S → Prop} {lo : m_L} {st : List Value} {bd : Nat × Nat} {S : m_S} : m_W1 (m_lk cd_L_sets) call r 583 lo st bd S = o_bin (fun x y => x - y) 584 call lo st bd S (m_W1 (m_lk cd_L_sets) call r) r := m_W1.iff rfl mm_L_sets
set_option maxRecDepth 20000 in
theorem st_L_sets_584 {call : m_call} {r : m_R → m_S → Prop} {lo : m_L} {st : List Value} {bd : Nat × Nat} {S : m_S} : m_W1 (m_lk cd_L_sets) call r 584 lo st bd S = o_call 85 3 2 12 587 call lo st bd S (m_W1 (m_lk cd_L_sets) call r) r := m_W1.iff rfl mm_L_sets
set_option maxRecDepth 20000 in
theorem st_L_sets_587 {call : m_call} {r : m_R → m_S → Prop} {lo : m_L} {st : List Value} {bd : Nat × Nat} {S : m_S} : m_W1 (m_lk cd_L_sets) call r 587 lo st bd S = o_const (-1000002) 589 call lo st bd S (m_W1 (m_lk cd_L_sets) call r) r := m_W1.iff rfl mm_L_sets
set_option maxRecDepth 20000 in
theorem st_L_sets_589 {call : m_call} {r : m_R → m_S → Prop} {lo : m_L} {st : List Value} {bd : Nat × Nat} {S : m_S} : m_W1 (m_lk cd_L_sets) call r 589 lo st bd S = o_icmpne 596 592 call lo st bd S (m_W1 (m_lk cd_L_sets) call r) r := m_W1.iff rfl mm_L_sets
set_option maxRecDepth 20000 in
theorem st_L_sets_592 {call : m_call} {r : m_R → m_S → Prop} {lo : m_L} {st : List Value} {bd : Nat × Nat} {S : m_S} : m_W1 (m_lk cd_L_sets) call r 592 lo st bd S = o_const (1) 593 call lo st bd S (m_W1 (m_lk cd_L_sets) call r) r := m_W1.iff rfl mm_L_sets
set_option maxRecDepth 20000 in
theorem st_L_sets_593 {call : m_call} {r : m_R → m_S → Prop} {lo : m_L} {st : List Value} {bd : Nat × Nat} {S : m_S} : m_W1 (m_lk cd_L_sets) call r 593 lo st bd S = o_goto 597 call lo st bd S (m_W1 (m_lk cd_L_sets) call r) r := m_W1.iff rfl mm_L_sets
set_option maxRecDepth 20000 in
theorem st_L_sets_596 {call : m_call} {r : m_R → m_S → Prop} {lo : m_L} {st : List Value} {bd : Nat × Nat} {S : m_S} : m_W1 (m_lk cd_L_sets) call r 596 lo st bd S = o_const (0) 597 call lo st bd S (m_W1 (m_lk cd_L_sets) call r) r := m_W1.iff rfl mm_L_sets
set_option maxRecDepth 20000 in
theorem st_L_sets_597 {call : m_call} {r : m_R → m_S → Prop} {lo : m_L} {st : List Value} {bd : Nat × Nat} {S : m_S} : m_W1 (m_lk cd_L_sets) call r 597 lo st bd S = o_zreturn call lo st bd S (m_W1 (m_lk cd_L_sets) call r) r := m_W1.iff rfl mm_L_sets
set_option maxRecDepth 20000 in
theorem st_L_sets_598 {call : m_call} {r : m_R → m_S → Prop} {lo : m_L} {st : List Value} {bd : Nat × Nat} {S : m_S} : m_W1 (m_lk cd_L_sets) call r 598 lo st bd S = o_aload 0 599 call lo st bd S (m_W1 (m_lk cd_L_sets) call r) r := m_W1.iff rfl mm_L_sets
set_option maxRecDepth 20000 in
theorem st_L_sets_599 {call : m_call} {r : m_R → m_S → Prop} {lo : m_L} {st : List Value} {bd : Nat × Nat} {S : m_S} : m_W1 (m_lk cd_L_sets) call r 599 lo st bd S = o_iload 7 601 call lo st bd S (m_W1 (m_lk cd_L_sets) call r) r := m_W1.iff rfl mm_L_sets
set_option maxRecDepth 20000 in
theorem st_L_sets_601 {call : m_call} {r : m_R → m_S → Prop} {lo : m_L} {st : List Value} {bd : Nat × Nat} {S : m_S} : m_W1 (m_lk cd_L_sets) call r 601 lo st bd S = o_iload 4 603 call lo st bd S (m_W1 (m_lk cd_L_sets) call r) r := m_W1.iff rfl mm_L_sets
set_option maxRecDepth 20000 in
theorem st_L_sets_603 {call : m_call} {r : m_R → m_S → Prop} {lo : m_L} {st : List Value} {bd : Nat × Nat} {S : m_S} : m_W1 (m_lk cd_L_sets) call r 603 lo st bd S = o_const (1) 604 call lo st bd S (m_W1 (m_lk cd_L_sets) call r) r := m_W1.iff rfl mm_L_sets
set_option maxRecDepth 20000 in
theorem st_L_sets_604 {call : m_call} {r : m_R → m_S → Prop} {lo : m_L} {st : List Value} {bd : Nat × Nat} {S : m_S} : m_W1 (m_lk cd_L_sets) call r 604 lo st bd S = o_bin (fun x y => x >>> (y &&& 31)) 605 call lo st bd S (m_W1 (m_lk cd_L_sets) call r) r := m_W1.iff rfl mm_L_sets
set_option maxRecDepth 20000 in
theorem st_L_sets_605 {call : m_call} {r : m_R → m_S → Prop} {lo : m_L} {st : List Value} {bd : Nat × Nat} {S : m_S} : m_W1 (m_lk cd_L_sets) call r 605 lo st bd S = o_const (11) 607 call lo st bd S (m_W1 (m_lk cd_L_sets) call r) r := m_W1.iff rfl mm_L_sets
set_option maxRecDepth 20000 in
theorem st_L_sets_607 {call : m_call} {r : m_R → m_S → Prop} {lo : m_L} {st : List Value} {bd : Nat × Nat} {S : m_S} : m_W1 (m_lk cd_L_sets) call r 607 lo st bd S = o_call 77 2 0 0 610 call lo st bd S (m_W1 (m_lk cd_L_sets) call r) r := m_W1.iff rfl mm_L_sets
set_option maxRecDepth 20000 in
theorem st_L_sets_610 {call : m_call} {r : m_R → m_S → Prop} {lo : m_L} {st : List Value} {bd : Nat × Nat} {S : m_S} : m_W1 (m_lk cd_L_sets) call r 610 lo st bd S = o_call 84 3 3 18 613 call lo st bd S (m_W1 (m_lk cd_L_sets) call r) r := m_W1.iff rfl mm_L_sets
set_option maxRecDepth 20000 in
theorem st_L_sets_613 {call : m_call} {r : m_R → m_S → Prop} {lo : m_L} {st : List Value} {bd : Nat × Nat} {S : m_S} : m_W1 (m_lk cd_L_sets) call r 613 lo st bd S = o_istore 8 615 call lo st bd S (m_W1 (m_lk cd_L_sets) call r) r := m_W1.iff rfl mm_L_sets
set_option maxRecDepth 20000 in
theorem st_L_sets_615 {call : m_call} {r : m_R → m_S → Prop} {lo : m_L} {st : List Value} {bd : Nat × Nat} {S : m_S} : m_W1 (m_lk cd_L_sets) call r 615 lo st bd S = o_iload 8 617 call lo st bd S (m_W1 (m_lk cd_L_sets) call r) r := m_W1.iff rfl mm_L_sets
set_option maxRecDepth 20000 in
theorem st_L_sets_617 {call : m_call} {r : m_R → m_S → Prop} {lo : m_L} {st : List Value} {bd : Nat × Nat} {S : m_S} : m_W1 (m_lk cd_L_sets) call r 617 lo st bd S = o_iflt 627 620 call lo st bd S (m_W1 (m_lk cd_L_sets) call r) r := m_W1.iff rfl mm_L_sets
set_option maxRecDepth 20000 in
theorem st_L_sets_620 {call : m_call} {r : m_R → m_S → Prop} {lo : m_L} {st : List Value} {bd : Nat × Nat} {S : m_S} : m_W1 (m_lk cd_L_sets) call r 620 lo st bd S = o_iload 8 622 call lo st bd S (m_W1 (m_lk cd_L_sets) call r) r := m_W1.iff rfl mm_L_sets
set_option maxRecDepth 20000 in
theorem st_L_sets_622 {call : m_call} {r : m_R → m_S → Prop} {lo : m_L} {st : List Value} {bd : Nat × Nat} {S : m_S} : m_W1 (m_lk cd_L_sets) call r 622 lo st bd S = o_const (10) 624 call lo st bd S (m_W1 (m_lk cd_L_sets) call r) r := m_W1.iff rfl mm_L_sets
set_option maxRecDepth 20000 in
theorem st_L_sets_624 {call : m_call} {r : m_R → m_S → Prop} {lo : m_L} {st : List Value} {bd : Nat × Nat} {S : m_S} : m_W1 (m_lk cd_L_sets) call r 624 lo st bd S = o_icmple 647 627 call lo st bd S (m_W1 (m_lk cd_L_sets) call r) r := m_W1.iff rfl mm_L_sets
set_option maxRecDepth 20000 in
theorem st_L_sets_627 {call : m_call} {r : m_R → m_S → Prop} {lo : m_L} {st : List Value} {bd : Nat × Nat} {S : m_S} : m_W1 (m_lk cd_L_sets) call r 627 lo st bd S = o_iload 8 629 call lo st bd S (m_W1 (m_lk cd_L_sets) call r) r := m_W1.iff rfl mm_L_sets
set_option maxRecDepth 20000 in
theorem st_L_sets_629 {call : m_call} {r : m_R → m_S → Prop} {lo : m_L} {st : List Value} {bd : Nat × Nat} {S : m_S} : m_W1 (m_lk cd_L_sets) call r 629 lo st bd S = o_const (-1000003) 631 call lo st bd S (m_W1 (m_lk cd_L_sets) call r) r := m_W1.iff rfl mm_L_sets
set_option maxRecDepth 20000 in
theorem st_L_sets_631 {call : m_call} {r : m_R → m_S → Prop} {lo : m_L} {st : List Value} {bd : Nat × Nat} {S : m_S} : m_W1 (m_lk cd_L_sets) call r 631 lo st bd S = o_icmpeq 647 634 call lo st bd S (m_W1 (m_lk cd_L_sets) call r) r := m_W1.iff rfl mm_L_sets
set_option maxRecDepth 20000 in
theorem st_L_sets_634 {call : m_call} {r : m_R → m_S → Prop} {lo : m_L} {st : List Value} {bd : Nat × Nat} {S : m_S} : m_W1 (m_lk cd_L_sets) call r 634 lo st bd S = o_iload 8 636 call lo st bd S (m_W1 (m_lk cd_L_sets) call r) r := m_W1.iff rfl mm_L_sets
set_option maxRecDepth 20000 in
theorem st_L_sets_636 {call : m_call} {r : m_R → m_S → Prop} {lo : m_L} {st : List Value} {bd : Nat × Nat} {S : m_S} : m_W1 (m_lk cd_L_sets) call r 636 lo st bd S = o_const (-1000001) 638 call lo st bd S (m_W1 (m_lk cd_L_sets) call r) r := m_W1.iff rfl mm_L_sets
set_option maxRecDepth 20000 in
theorem st_L_sets_638 {call : m_call} {r : m_R → m_S → Prop} {lo : m_L} {st : List Value} {bd : Nat × Nat} {S : m_S} : m_W1 (m_lk cd_L_sets) call r 638 lo st bd S = o_icmpne 651 641 call lo st bd S (m_W1 (m_lk cd_L_sets) call r) r := m_W1.iff rfl mm_L_sets
set_option maxRecDepth 20000 in
theorem st_L_sets_641 {call : m_call} {r : m_R → m_S → Prop} {lo : m_L} {st : List Value} {bd : Nat × Nat} {S : m_S} : m_W1 (m_lk cd_L_sets) call r 641 lo st bd S = o_aload 1 642 call lo st bd S (m_W1 (m_lk cd_L_sets) call r) r := m_W1.iff rfl mm_L_sets
set_option maxRecDepth 20000 in
theorem st_L_sets_642 {call : m_call} {r : m_R → m_S → Prop} {lo : m_L} {st : List Value} {bd : Nat × Nat} {S : m_S} : m_W1 (m_lk cd_L_sets) call r 642 lo st bd S = o_const (3) 643 call lo st bd S (m_W1 (m_lk cd_L_sets) call r) r := m_W1.iff rfl mm_L_sets
set_option maxRecDepth 20000 in
theorem st_L_sets_643 {call : m_call} {r : m_R → m_S → Prop} {lo : m_L} {st : List Value} {bd : Nat × Nat} {S : m_S} : m_W1 (m_lk cd_L_sets) call r 643 lo st bd S = o_iald 0 644 call lo st bd S (m_W1 (m_lk cd_L_sets) call r) r := m_W1.iff rfl mm_L_sets
set_option maxRecDepth 20000 in
theorem st_L_sets_644 {call : m_call} {r : m_R → m_S → Prop} {lo : m_L} {st : List Value} {bd : Nat × Nat} {S : m_S} : m_W1 (m_lk cd_L_sets) call r 644 lo st bd S = o_ifne 651 647 call lo st bd S (m_W1 (m_lk cd_L_sets) call r) r := m_W1.iff rfl mm_L_sets
set_option maxRecDepth 20000 in
theorem st_L_sets_647 {call : m_call} {r : m_R → m_S → Prop} {lo : m_L} {st : List Value} {bd : Nat × Nat} {S : m_S} : m_W1 (m_lk cd_L_sets) call r 647 lo st bd S = o_const (1) 648 call lo st bd S (m_W1 (m_lk cd_L_sets) call r) r := m_W1.iff rfl mm_L_sets
set_option maxRecDepth 20000 in
theorem st_L_sets_648 {call : m_call} {r : m_R → m_S → Prop} {lo : m_L} {st : List Value} {bd : Nat × Nat} {S : m_S} : m_W1 (m_lk cd_L_sets) call r 648 lo st bd S = o_goto 652 call lo st bd S (m_W1 (m_lk cd_L_sets) call r) r := m_W1.iff rfl mm_L_sets
set_option maxRecDepth 20000 in
theorem st_L_sets_651 {call : m_call} {r : m_R → m_S → Prop} {lo : m_L} {st : List Value} {bd : Nat × Nat} {S : m_S} : m_W1 (m_lk cd_L_sets) call r 651 lo st bd S = o_const (0) 652 call lo st bd S (m_W1 (m_lk cd_L_sets) call r) r := m_W1.iff rfl mm_L_sets
set_option maxRecDepth 20000 in
theorem st_L_sets_652 {call : m_call} {r : m_R → m_S → Prop} {lo : m_L} {st : List Value} {bd : Nat × Nat} {S : m_S} : m_W1 (m_lk cd_L_sets) call r 652 lo st bd S = o_zreturn call lo st bd S (m_W1 (m_lk cd_L_sets) call r) r := m_W1.iff rfl mm_L_sets
set_option maxRecDepth 20000 in
theorem mm_L_isWay : ∀ q, m_mono (m_lk cd_L_isWay q) := m_mono_lk _ (m_mc mo_iload <| m_mc mo_ifle <| m_mc mo_const <| m_mc mo_goto <| m_mc mo_const <| m_mc mo_istore <| m_mc mo_const <| m_mc mo_istore <| m_mc mo_iload <| m_mc mo_const <| m_mc mo_icmpge <| m_mc mo_const <| m_mc mo_istore <| m_mc mo_const <| m_mc mo_istore <| m_mc mo_iload <| m_mc mo_const <| m_mc mo_icmpge <| m_mc mo_iload <| m_mc mo_iload <| m_mc mo_iload <| m_mc mo_bin <| m_mc mo_const <| m_mc mo_bin <| m_mc mo_const <| m_mc mo_icmpne <| m_mc mo_aload <| m_mc mo_const <| m_mc mo_iload <| m_mc mo_bin <| m_mc mo_iald <| m_mc mo_iload <| m_mc mo_icmpeq <| m_mc mo_aload <| m_mc mo_const <| m_mc mo_iload <| m_mc mo_bin <| m_mc mo_const <| m_mc mo_bin <| m_mc mo_iald <| m_mc mo_iload <| m_mc mo_icmpne <| m_mc mo_const <| m_mc mo_goto <| m_mc mo_const <| m_mc mo_bin <| m_mc mo_istore <| m_mc mo_iinc <| m_mc mo_goto <| m_mc mo_iload <| m_mc mo_ifeq <| m_mc mo_iload <| m_mc mo_iload <| m_mc mo_icmpeq <| m_mc mo_iload <| m_mc mo_iload <| m_mc mo_icmpne <| m_mc mo_iload <| m_mc mo_const <| m_mc mo_icmpne <| m_mc mo_goto <| m_mc mo_iload <| m_mc mo_ifeq <| m_mc mo_iload <| m_mc mo_const <| m_mc mo_icmpne <| m_mc mo_const <| m_mc mo_goto <| m_mc mo_const <| m_mc mo_istore <| m_mc mo_iinc <| m_mc mo_goto <| m_mc mo_iload <| m_mc mo_zreturn <| m_mn)
set_option maxRecDepth 20000 in
theorem xm_L_isWay : ∀ q, m_ex (m_lk cd_L_isWay q) := m_ex_lk _ (m_xc ex_iload <| m_xc ex_ifle <| m_xc ex_const <| m_xc ex_goto <| m_xc ex_const <| m_xc ex_istore <| m_xc ex_const <| m_xc ex_istore <| m_xc ex_iload <| m_xc ex_const <| m_xc ex_icmpge <| m_xc ex_const <| m_xc ex_istore <| m_xc ex_const <| m_xc ex_istore <| m_xc ex_iload <| m_xc ex_const <| m_xc ex_icmpge <| m_xc ex_iload <| m_xc ex_iload <| m_xc ex_iload <| m_xc ex_bin <| m_xc ex_const <| m_xc ex_bin <| m_xc ex_const <| m_xc ex_icmpne <| m_xc ex_aload <| m_xc ex_const <| m_xc ex_iload <| m_xc ex_bin <| m_xc ex_iald <| m_xc ex_iload <| m_xc ex_icmpeq <| m_xc ex_aload <| m_xc ex_const <| m_xc ex_iload <| m_xc ex_bin <| m_xc ex_const <| m_xc ex_bin <| m_xc ex_iald <| m_xc ex_iload <| m_xc ex_icmpne <| m_xc ex_const <| m_xc ex_goto <| m_xc ex_const <| m_xc ex_bin <| m_xc ex_istore <| m_xc ex_iinc <| m_xc ex_goto <| m_xc ex_iload <| m_xc ex_ifeq <| m_xc ex_iload <| m_xc ex_iload <| m_xc ex_icmpeq <| m_xc ex_iload <| m_xc ex_iload <| m_xc ex_icmpne <| m_xc ex_iload <| m_xc ex_const <| m_xc ex_icmpne <| m_xc ex_goto <| m_xc ex_iload <| m_xc ex_ifeq <| m_xc ex_iload <| m_xc ex_const <| m_xc ex_icmpne <| m_xc ex_const <| m_xc ex_goto <| m_xc ex_const <| m_xc ex_istore <| m_xc ex_iinc <| m_xc ex_goto <| m_xc ex_iload <| m_xc ex_zreturn <| m_xn)
set_option maxRecDepth 20000 in
theorem st_L_isWay_0 {call : m_call} {r : m_R → m_S → Prop} {lo : m_L} {st : List Value} {bd : Nat × Nat} {S : m_S} : m_W1 (m_lk cd_L_isWay) call r 0 lo st bd S = o_iload 1 1 call lo st bd S (m_W1 (m_lk cd_L_isWay) call r) r := m_W1.iff rfl mm_L_isWay
set_option maxRecDepth 20000 in
theorem st_L_isWay_1 {call : m_call} {r : m_R → m_S → Prop} {lo : m_L} {st : List Value} {bd : Nat × Nat} {S : m_S} : m_W1 (m_lk cd_L_isWay) call r 1 lo st bd S = o_ifle 8 4 call lo st bd S (m_W1 (m_lk cd_L_isWay) call r) r := m_W1.iff rfl mm_L_isWay
set_option maxRecDepth 20000 in
theorem st_L_isWay_4 {call : m_call} {r : m_R → m_S → Prop} {lo : m_L} {st : List Value} {bd : Nat × Nat} {S : m_S} : m_W1 (m_lk cd_L_isWay) call r 4 lo st bd S = o_const (1) 5 call lo st bd S (m_W1 (m_lk cd_L_isWay) call r) r := m_W1.iff rfl mm_L_isWay
set_option maxRecDepth 20000 in
theorem st_L_isWay_5 {call : m_call} {r : m_R → m_S → Prop} {lo : m_L} {st : List Value} {bd : Nat × Nat} {S : m_S} : m_W1 (m_lk cd_L_isWay) call r 5 lo st bd S = o_goto 9 call lo st bd S (m_W1 (m_lk cd_L_isWay) call r) r := m_W1.iff rfl mm_L_isWay
set_option maxRecDepth 20000 in
theorem st_L_isWay_8 {call : m_call} {r : m_R → m_S → Prop} {lo : m_L} {st : List Value} {bd : Nat × Nat} {S : m_S} : m_W1 (m_lk cd_L_isWay) call r 8 lo st bd S = o_const (0) 9 call lo st bd S (m_W1 (m_lk cd_L_isWay) call r) r := m_W1.iff rfl mm_L_isWay
set_option maxRecDepth 20000 in
theorem st_L_isWay_9 {call : m_call} {r : m_R → m_S → Prop} {lo : m_L} {st : List Value} {bd : Nat × Nat} {S : m_S} : m_W1 (m_lk cd_L_isWay) call r 9 lo st bd S = o_istore 4 11 call lo st bd S (m_W1 (m_lk cd_L_isWay) call r) r := m_W1.iff rfl mm_L_isWay
set_option maxRecDepth 20000 in
theorem st_L_isWay_11 {call : m_call} {r : m_R → m_S → Prop} {lo : m_L} {st : List Value} {bd : Nat × Nat} {S : m_S} : m_W1 (m_lk cd_L_isWay) call r 11 lo st bd S = o_const (0) 12 call lo st bd S (m_W1 (m_lk cd_L_isWay) call r) r := m_W1.iff rfl mm_L_isWay
set_option maxRecDepth 20000 in
theorem st_L_isWay_12 {call : m_call} {r : m_R → m_S → Prop} {lo : m_L} {st : List Value} {bd : Nat × Nat} {S : m_S} : m_W1 (m_lk cd_L_isWay) call r 12 lo st bd S = o_istore 5 14 call lo st bd S (m_W1 (m_lk cd_L_isWay) call r) r := m_W1.iff rfl mm_L_isWay
set_option maxRecDepth 20000 in
theorem st_L_isWay_14 {call : m_call} {r : m_R → m_S → Prop} {lo : m_L} {st : List Value} {bd : Nat × Nat} {S : m_S} : m_W1 (m_lk cd_L_isWay) call r 14 lo st bd S = o_iload 5 16 call lo st bd S (m_W1 (m_lk cd_L_isWay) call r) r := m_W1.iff rfl mm_L_isWay
set_option maxRecDepth 20000 in
theorem st_L_isWay_16 {call : m_call} {r : m_R → m_S → Prop} {lo : m_L} {st : List Value} {bd : Nat × Nat} {S : m_S} : m_W1 (m_lk cd_L_isWay) call r 16 lo st bd S = o_const (6) 18 call lo st bd S (m_W1 (m_lk cd_L_isWay) call r) r := m_W1.iff rfl mm_L_isWay
set_option maxRecDepth 20000 in
theorem st_L_isWay_18 {call : m_call} {r : m_R → m_S → Prop} {lo : m_L} {st : List Value} {bd : Nat × Nat} {S : m_S} : m_W1 (m_lk cd_L_isWay) call r 18 lo st bd S = o_icmpge 134 21 call lo st bd S (m_W1 (m_lk cd_L_isWay) call r) r := m_W1.iff rfl mm_L_isWay
set_option maxRecDepth 20000 in
theorem st_L_isWay_21 {call : m_call} {r : m_R → m_S → Prop} {lo : m_L} {st : List Value} {bd : Nat × Nat} {S : m_S} : m_W1 (m_lk cd_L_isWay) call r 21 lo st bd S = o_const (0) 22 call lo st bd S (m_W1 (m_lk cd_L_isWay) call r) r := m_W1.iff rfl mm_L_isWay
set_option maxRecDepth 20000 in
theorem st_L_isWay_22 {call : m_call} {r : m_R → m_S → Prop} {lo : m_L} {st : List Value} {bd : Nat × Nat} {S : m_S} : m_W1 (m_lk cd_L_isWay) call r 22 lo st bd S = o_istore 6 24 call lo st bd S (m_W1 (m_lk cd_L_isWay) call r) r := m_W1.iff rfl mm_L_isWay
set_option maxRecDepth 20000 in
theorem st_L_isWay_24 {call : m_call} {r : m_R → m_S → Prop} {lo : m_L} {st : List Value} {bd : Nat × Nat} {S : m_S} : m_W1 (m_lk cd_L_isWay) call r 24 lo st bd S = o_const (0) 25 call lo st bd S (m_W1 (m_lk cd_L_isWay) call r) r := m_W1.iff rfl mm_L_isWay
set_option maxRecDepth 20000 in
theorem st_L_isWay_25 {call : m_call} {r : m_R → m_S → Prop} {lo : m_L} {st : List Value} {bd : Nat × Nat} {S : m_S} : m_W1 (m_lk cd_L_isWay) call r 25 lo st bd S = o_istore 7 27 call lo st bd S (m_W1 (m_lk cd_L_isWay) call r) r := m_W1.iff rfl mm_L_isWay
set_option maxRecDepth 20000 in
theorem st_L_isWay_27 {call : m_call} {r : m_R → m_S → Prop} {lo : m_L} {st : List Value} {bd : Nat × Nat} {S : m_S} : m_W1 (m_lk cd_L_isWay) call r 27 lo st bd S = o_iload 7 29 call lo st bd S (m_W1 (m_lk cd_L_isWay) call r) r := m_W1.iff rfl mm_L_isWay
set_option maxRecDepth 20000 in
theorem st_L_isWay_29 {call : m_call} {r : m_R → m_S → Prop} {lo : m_L} {st : List Value} {bd : Nat × Nat} {S : m_S} : m_W1 (m_lk cd_L_isWay) call r 29 lo st bd S = o_const (10) 31 call lo st bd S (m_W1 (m_lk cd_L_isWay) call r) r := m_W1.iff rfl mm_L_isWay
set_option maxRecDepth 20000 in
theorem st_L_isWay_31 {call : m_call} {r : m_R → m_S → Prop} {lo : m_L} {st : List Value} {bd : Nat × Nat} {S : m_S} : m_W1 (m_lk cd_L_isWay) call r 31 lo st bd S = o_icmpge 84 34 call lo st bd S (m_W1 (m_lk cd_L_isWay) call r) r := m_W1.iff rfl mm_L_isWay
set_option maxRecDepth 20000 in
theorem st_L_isWay_34 {call : m_call} {r : m_R → m_S → Prop} {lo : m_L} {st : List Value} {bd : Nat × Nat} {S : m_S} : m_W1 (m_lk cd_L_isWay) call r 34 lo st bd S = o_iload 6 36 call lo st bd S (m_W1 (m_lk cd_L_isWay) call r) r := m_W1.iff rfl mm_L_isWay
set_option maxRecDepth 20000 in
theorem st_L_isWay_36 {call : m_call} {r : m_R → m_S → Prop} {lo : m_L} {st : List Value} {bd : Nat × Nat} {S : m_S} : m_W1 (m_lk cd_L_isWay) call r 36 lo st bd S = o_iload 1 37 call lo st bd S (m_W1 (m_lk cd_L_isWay) call r) r := m_W1.iff rfl mm_L_isWay
set_option maxRecDepth 20000 in
theorem st_L_isWay_37 {call : m_call} {r : m_R → m_S → Prop} {lo : m_L} {st : List Value} {bd : Nat × Nat} {S : m_S} : m_W1 (m_lk cd_L_isWay) call r 37 lo st bd S = o_iload 7 39 call lo st bd S (m_W1 (m_lk cd_L_isWay) call r) r := m_W1.iff rfl mm_L_isWay
set_option maxRecDepth 20000 in
theorem st_L_isWay_39 {call : m_call} {r : m_R → m_S → Prop} {lo : m_L} {st : List Value} {bd : Nat × Nat} {S : m_S} : m_W1 (m_lk cd_L_isWay) call r 39 lo st bd S = o_bin (fun x y => x >>> (y &&& 31)) 40 call lo st bd S (m_W1 (m_lk cd_L_isWay) call r) r := m_W1.iff rfl mm_L_isWay
set_option maxRecDepth 20000 in
theorem st_L_isWay_40 {call : m_call} {r : m_R → m_S → Prop} {lo : m_L} {st : List Value} {bd : Nat × Nat} {S : m_S} : m_W1 (m_lk cd_L_isWay) call r 40 lo st bd S = o_const (1) 41 call lo st bd S (m_W1 (m_lk cd_L_isWay) call r) r := m_W1.iff rfl mm_L_isWay
set_option maxRecDepth 20000 in
theorem st_L_isWay_41 {call : m_call} {r : m_R → m_S → Prop} {lo : m_L} {st : List Value} {bd : Nat × Nat} {S : m_S} : m_W1 (m_lk cd_L_isWay) call r 41 lo st bd S = o_bin (fun x y => x &&& y) 42 call lo st bd S (m_W1 (m_lk cd_L_isWay) call r) r := m_W1.iff rfl mm_L_isWay
set_option maxRecDepth 20000 in
theorem st_L_isWay_42 {call : m_call} {r : m_R → m_S → Prop} {lo : m_L} {st : List Value} {bd : Nat × Nat} {S : m_S} : m_W1 (m_lk cd_L_isWay) call r 42 lo st bd S = o_const (1) 43 call lo st bd S (m_W1 (m_lk cd_L_isWay) call r) r := m_W1.iff rfl mm_L_isWay
set_option maxRecDepth 20000 in
theorem st_L_isWay_43 {call : m_call} {r : m_R → m_S → Prop} {lo : m_L} {st : List Value} {bd : Nat × Nat} {S : m_S} : m_W1 (m_lk cd_L_isWay) call r 43 lo st bd S = o_icmpne 74 46 call lo st bd S (m_W1 (m_lk cd_L_isWay) call r) r := m_W1.iff rfl mm_L_isWay
set_option maxRecDepth 20000 in
theorem st_L_isWay_46 {call : m_call} {r : m_R → m_S → Prop} {lo : m_L} {st : List Value} {bd : Nat × Nat} {S : m_S} : m_W1 (m_lk cd_L_isWay) call r 46 lo st bd S = o_aload 0 47 call lo st bd S (m_W1 (m_lk cd_L_isWay) call r) r := m_W1.iff rfl mm_L_isWay
set_option maxRecDepth 20000 in
theorem st_L_isWay_47 {call : m_call} {r : m_R → m_S → Prop} {lo : m_L} {st : List Value} {bd : Nat × Nat} {S : m_S} : m_W1 (m_lk cd_L_isWay) call r 47 lo st bd S = o_const (4) 48 call lo st bd S (m_W1 (m_lk cd_L_isWay) call r) r := m_W1.iff rfl mm_L_isWay
set_option maxRecDepth 20000 in
theorem st_L_isWay_48 {call : m_call} {r : m_R → m_S → Prop} {lo : m_L} {st : List Value} {bd : Nat × Nat} {S : m_S} : m_W1 (m_lk cd_L_isWay) call r 48 lo st bd S = o_iload 7 50 call lo st bd S (m_W1 (m_lk cd_L_isWay) call r) r := m_W1.iff rfl mm_L_isWay
set_option maxRecDepth 20000 in
theorem st_L_isWay_50 {call : m_call} {r : m_R → m_S → Prop} {lo : m_L} {st : List Value} {bd : Nat × Nat} {S : m_S} : m_W1 (m_lk cd_L_isWay) call r 50 lo st bd S = o_bin (fun x y => x * y) 51 call lo st bd S (m_W1 (m_lk cd_L_isWay) call r) r := m_W1.iff rfl mm_L_isWay
set_option maxRecDepth 20000 in
theorem st_L_isWay_51 {call : m_call} {r : m_R → m_S → Prop} {lo : m_L} {st : List Value} {bd : Nat × Nat} {S : m_S} : m_W1 (m_lk cd_L_isWay) call r 51 lo st bd S = o_iald 0 52 call lo st bd S (m_W1 (m_lk cd_L_isWay) call r) r := m_W1.iff rfl mm_L_isWay
set_option maxRecDepth 20000 in
theorem st_L_isWay_52 {call : m_call} {r : m_R → m_S → Prop} {lo : m_L} {st : List Value} {bd : Nat × Nat} {S : m_S} : m_W1 (m_lk cd_L_isWay) call r 52 lo st bd S = o_iload 5 54 call lo st bd S (m_W1 (m_lk cd_L_isWay) call r) r := m_W1.iff rfl mm_L_isWay
set_option maxRecDepth 20000 in
theorem st_L_isWay_54 {call : m_call} {r : m_R → m_S → Prop} {lo : m_L} {st : List Value} {bd : Nat × Nat} {S : m_S} : m_W1 (m_lk cd_L_isWay) call r 54 lo st bd S = o_icmpeq 70 57 call lo st bd S (m_W1 (m_lk cd_L_isWay) call r) r := m_W1.iff rfl mm_L_isWay
set_option maxRecDepth 20000 in
theorem st_L_isWay_57 {call : m_call} {r : m_R → m_S → Prop} {lo : m_L} {st : List Value} {bd : Nat × Nat} {S : m_S} : m_W1 (m_lk cd_L_isWay) call r 57 lo st bd S = o_aload 0 58 call lo st bd S (m_W1 (m_lk cd_L_isWay) call r) r := m_W1.iff rfl mm_L_isWay
set_option maxRecDepth 20000 in
theorem st_L_isWay_58 {call : m_call} {r : m_R → m_S → Prop} {lo : m_L} {st : List Value} {bd : Nat × Nat} {S : m_S} : m_W1 (m_lk cd_L_isWay) call r 58 lo st bd S = o_const (4) 59 call lo st bd S (m_W1 (m_lk cd_L_isWay) call r) r := m_W1.iff rfl mm_L_isWay
set_option maxRecDepth 20000 in
theorem st_L_isWay_59 {call : m_call} {r : m_R → m_S → Prop} {lo : m_L} {st : List Value} {bd : Nat × Nat} {S : m_S} : m_W1 (m_lk cd_L_isWay) call r 59 lo st bd S = o_iload 7 61 call lo st bd S (m_W1 (m_lk cd_L_isWay) call r) r := m_W1.iff rfl mm_L_isWay
set_option maxRecDepth 20000 in
theorem st_L_isWay_61 {call : m_call} {r : m_R → m_S → Prop} {lo : m_L} {st : List Value} {bd : Nat × Nat} {S : m_S} : m_W1 (m_lk cd_L_isWay) call r 61 lo st bd S = o_bin (fun x y => x * y) 62 call lo st bd S (m_W1 (m_lk cd_L_isWay) call r) r := m_W1.iff rfl mm_L_isWay
set_option maxRecDepth 20000 in
theorem st_L_isWay_62 {call : m_call} {r : m_R → m_S → Prop} {lo : m_L} {st : List Value} {bd : Nat × Nat} {S : m_S} : m_W1 (m_lk cd_L_isWay) call r 62 lo st bd S = o_const (1) 63 call lo st bd S (m_W1 (m_lk cd_L_isWay) call r) r := m_W1.iff rfl mm_L_isWay
set_option maxRecDepth 20000 in
theorem st_L_isWay_63 {call : m_call} {r : m_R → m_S → Prop} {lo : m_L} {st : List Value} {bd : Nat × Nat} {S : m_S} : m_W1 (m_lk cd_L_isWay) call r 63 lo st bd S = o_bin (fun x y => x + y) 64 call lo st bd S (m_W1 (m_lk cd_L_isWay) call r) r := m_W1.iff rfl mm_L_isWay
set_option maxRecDepth 20000 in
theorem st_L_isWay_64 {call : m_call} {r : m_R → m_S → Prop} {lo : m_L} {st : List Value} {bd : Nat × Nat} {S : m_S} : m_W1 (m_lk cd_L_isWay) call r 64 lo st bd S = o_iald 0 65 call lo st bd S (m_W1 (m_lk cd_L_isWay) call r) r := m_W1.iff rfl mm_L_isWay
set_option maxRecDepth 20000 in
theorem st_L_isWay_65 {call : m_call} {r : m_R → m_S → Prop} {lo : m_L} {st : List Value} {bd : Nat × Nat} {S : m_S} : m_W1 (m_lk cd_L_isWay) call r 65 lo st bd S = o_iload 5 67 call lo st bd S (m_W1 (m_lk cd_L_isWay) call r) r := m_W1.iff rfl mm_L_isWay
set_option maxRecDepth 20000 in
theorem st_L_isWay_67 {call : m_call} {r : m_R → m_S → Prop} {lo : m_L} {st : List Value} {bd : Nat × Nat} {S : m_S} : m_W1 (m_lk cd_L_isWay) call r 67 lo st bd S = o_icmpne 74 70 call lo st bd S (m_W1 (m_lk cd_L_isWay) call r) r := m_W1.iff rfl mm_L_isWay
set_option maxRecDepth 20000 in
theorem st_L_isWay_70 {call : m_call} {r : m_R → m_S → Prop} {lo : m_L} {st : List Value} {bd : Nat × Nat} {S : m_S} : m_W1 (m_lk cd_L_isWay) call r 70 lo st bd S = o_const (1) 71 call lo st bd S (m_W1 (m_lk cd_L_isWay) call r) r := m_W1.iff rfl mm_L_isWay
set_option maxRecDepth 20000 in
theorem st_L_isWay_71 {call : m_call} {r : m_R → m_S → Prop} {lo : m_L} {st : List Value} {bd : Nat × Nat} {S : m_S} : m_W1 (m_lk cd_L_isWay) call r 71 lo st bd S = o_goto 75 call lo st bd S (m_W1 (m_lk cd_L_isWay) call r) r := m_W1.iff rfl mm_L_isWay
set_option maxRecDepth 20000 in
theorem st_L_isWay_74 {call : m_call} {r : m_R → m_S → Prop} {lo : m_L} {st : List Value} {bd : Nat × Nat} {S : m_S} : m_W1 (m_lk cd_L_isWay) call r 74 lo st bd S = o_const (0) 75 call lo st bd S (m_W1 (m_lk cd_L_isWay) call r) r := m_W1.iff rfl mm_L_isWay
set_option maxRecDepth 20000 in
theorem st_L_isWay_75 {call : m_call} {r : m_R → m_S → Prop} {lo : m_L} {st : List Value} {bd : Nat × Nat} {S : m_S} : m_W1 (m_lk cd_L_isWay) call r 75 lo st bd S = o_bin (fun x y => x + y) 76 call lo st bd S (m_W1 (m_lk cd_L_isWay) call r) r := m_W1.iff rfl mm_L_isWay
set_option maxRecDepth 20000 in
theorem st_L_isWay_76 {call : m_call} {r : m_R → m_S → Prop} {lo : m_L} {st : List Value} {bd : Nat × Nat} {S : m_S} : m_W1 (m_lk cd_L_isWay) call r 76 lo st bd S = o_istore 6 78 call lo st bd S (m_W1 (m_lk cd_L_isWay) call r) r := m_W1.iff rfl mm_L_isWay
set_option maxRecDepth 20000 in
theorem st_L_isWay_78 {call : m_call} {r : m_R → m_S → Prop} {lo : m_L} {st : List Value} {bd : Nat × Nat} {S : m_S} : m_W1 (m_lk cd_L_isWay) call r 78 lo st bd S = o_iinc 7 (1) 81 call lo st bd S (m_W1 (m_lk cd_L_isWay) call r) r := m_W1.iff rfl mm_L_isWay
set_option maxRecDepth 20000 in
theorem st_L_isWay_81 {call : m_call} {r : m_R → m_S → Prop} {lo : m_L} {st : List Value} {bd : Nat × Nat} {S : m_S} : m_W1 (m_lk cd_L_isWay) call r 81 lo st bd S = o_goto 27 call lo st bd S (m_W1 (m_lk cd_L_isWay) call r) r := m_W1.iff rfl mm_L_isWay
set_option maxRecDepth 20000 in
theorem st_L_isWay_84 {call : m_call} {r : m_R → m_S → Prop} {lo : m_L} {st : List Value} {bd : Nat × Nat} {S : m_S} : m_W1 (m_lk cd_L_isWay) call r 84 lo st bd S = o_iload 4 86 call lo st bd S (m_W1 (m_lk cd_L_isWay) call r) r := m_W1.iff rfl mm_L_isWay
set_option maxRecDepth 20000 in
theorem st_L_isWay_86 {call : m_call} {r : m_R → m_S → Prop} {lo : m_L} {st : List Value} {bd : Nat × Nat} {S : m_S} : m_W1 (m_lk cd_L_isWay) call r 86 lo st bd S = o_ifeq 125 89 call lo st bd S (m_W1 (m_lk cd_L_isWay) call r) r := m_W1.iff rfl mm_L_isWay
set_option maxRecDepth 20000 in
theorem st_L_isWay_89 {call : m_call} {r : m_R → m_S → Prop} {lo : m_L} {st : List Value} {bd : Nat × Nat} {S : m_S} : m_W1 (m_lk cd_L_isWay) call r 89 lo st bd S = o_iload 5 91 call lo st bd S (m_W1 (m_lk cd_L_isWay) call r) r := m_W1.iff rfl mm_L_isWay
set_option maxRecDepth 20000 in
theorem st_L_isWay_91 {call : m_call} {r : m_R → m_S → Prop} {lo : m_L} {st : List Value} {bd : Nat × Nat} {S : m_S} : m_W1 (m_lk cd_L_isWay) call r 91 lo st bd S = o_iload 2 92 call lo st bd S (m_W1 (m_lk cd_L_isWay) call r) r := m_W1.iff rfl mm_L_isWay
set_option maxRecDepth 20000 in
theorem st_L_isWay_92 {call : m_call} {r : m_R → m_S → Prop} {lo : m_L} {st : List Value} {bd : Nat × Nat} {S : m_S} : m_W1 (m_lk cd_L_isWay) call r 92 lo st bd S = o_icmpeq 101 95 call lo st bd S (m_W1 (m_lk cd_L_isWay) call r) r := m_W1.iff rfl mm_L_isWay
set_option maxRecDepth 20000 in
theorem st_L_isWay_95 {call : m_call} {r : m_R → m_S → Prop} {lo : m_L} {st : List Value} {bd : Nat × Nat} {S : m_S} : m_W1 (m_lk cd_L_isWay) call r 95 lo st bd S = o_iload 5 97 call lo st bd S (m_W1 (m_lk cd_L_isWay) call r) r := m_W1.iff rfl mm_L_isWay
set_option maxRecDepth 20000 in
theorem st_L_isWay_97 {call : m_call} {r : m_R → m_S → Prop} {lo : m_L} {st : List Value} {bd : Nat × Nat} {S : m_S} : m_W1 (m_lk cd_L_isWay) call r 97 lo st bd S = o_iload 3 98 call lo st bd S (m_W1 (m_lk cd_L_isWay) call r) r := m_W1.iff rfl mm_L_isWay
set_option maxRecDepth 20000 in
theorem st_L_isWay_98 {call : m_call} {r : m_R → m_S → Prop} {lo : m_L} {st : List Value} {bd : Nat × Nat} {S : m_S} : m_W1 (m_lk cd_L_isWay) call r 98 lo st bd S = o_icmpne 110 101 call lo st bd S (m_W1 (m_lk cd_L_isWay) call r) r := m_W1.iff rfl mm_L_isWay
set_option maxRecDepth 20000 in
theorem st_L_isWay_101 {call : m_call} {r : m_R → m_S → Prop} {lo : m_L} {st : List Value} {bd : Nat × Nat} {S : m_S} : m_W1 (m_lk cd_L_isWay) call r 101 lo st bd S = o_iload 6 103 call lo st bd S (m_W1 (m_lk cd_L_isWay) call r) r := m_W1.iff rfl mm_L_isWay
set_option maxRecDepth 20000 in
theorem st_L_isWay_103 {call : m_call} {r : m_R → m_S → Prop} {lo : m_L} {st : List Value} {bd : Nat × Nat} {S : m_S} : m_W1 (m_lk cd_L_isWay) call r 103 lo st bd S = o_const (1) 104 call lo st bd S (m_W1 (m_lk cd_L_isWay) call r) r := m_W1.iff rfl mm_L_isWay
set_option maxRecDepth 20000 in
theorem st_L_isWay_104 {call : m_call} {r : m_R → m_S → Prop} {lo : m_L} {st : List Value} {bd : Nat × Nat} {S : m_S} : m_W1 (m_lk cd_L_isWay) call r 104 lo st bd S = o_icmpne 125 107 call lo st bd S (m_W1 (m_lk cd_L_isWay) call r) r := m_W1.iff rfl mm_L_isWay
set_option maxRecDepth 20000 in
theorem st_L_isWay_107 {call : m_call} {r : m_R → m_S → Prop} {lo : m_L} {st : List Value} {bd : Nat × Nat} {S : m_S} : m_W1 (m_lk cd_L_isWay) call r 107 lo st bd S = o_goto 121 call lo st bd S (m_W1 (m_lk cd_L_isWay) call r) r := m_W1.iff rfl mm_L_isWay
set_option maxRecDepth 20000 in
theorem st_L_isWay_110 {call : m_call} {r : m_R → m_S → Prop} {lo : m_L} {st : List Value} {bd : Nat × Nat} {S : m_S} : m_W1 (m_lk cd_L_isWay) call r 110 lo st bd S = o_iload 6 112 call lo st bd S (m_W1 (m_lk cd_L_isWay) call r) r := m_W1.iff rfl mm_L_isWay
set_option maxRecDepth 20000 in
theorem st_L_isWay_112 {call : m_call} {r : m_R → m_S → Prop} {lo : m_L} {st : List Value} {bd : Nat × Nat} {S : m_S} : m_W1 (m_lk cd_L_isWay) call r 112 lo st bd S = o_ifeq 121 115 call lo st bd S (m_W1 (m_lk cd_L_isWay) call r) r := m_W1.iff rfl mm_L_isWay
set_option maxRecDepth 20000 in
theorem st_L_isWay_115 {call : m_call} {r : m_R → m_S → Prop} {lo : m_L} {st : List Value} {bd : Nat × Nat} {S : m_S} : m_W1 (m_lk cd_L_isWay) call r 115 lo st bd S = o_iload 6 117 call lo st bd S (m_W1 (m_lk cd_L_isWay) call r) r := m_W1.iff rfl mm_L_isWay
set_option maxRecDepth 20000 in
theorem st_L_isWay_117 {call : m_call} {r : m_R → m_S → Prop} {lo : m_L} {st : List Value} {bd : Nat × Nat} {S : m_S} : m_W1 (m_lk cd_L_isWay) call r 117 lo st bd S = o_const (2) 118 call lo st bd S (m_W1 (m_lk cd_L_isWay) call r) r := m_W1.iff rfl mm_L_isWay
set_option maxRecDepth 20000 in
theorem st_L_isWay_118 {call : m_call} {r : m_R → m_S → Prop} {lo : m_L} {st : List Value} {bd : Nat × Nat} {S : m_S} : m_W1 (m_lk cd_L_isWay) call r 118 lo st bd S = o_icmpne 125 121 call lo st bd S (m_W1 (m_lk cd_L_isWay) call r) r := m_W1.iff rfl mm_L_isWay
set_option maxRecDepth 20000 in
theorem st_L_isWay_121 {call : m_call} {r : m_R → m_S → Prop} {lo : m_L} {st : List Value} {bd : Nat × Nat} {S : m_S} : m_W1 (m_lk cd_L_isWay) call r 121 lo st bd S = o_const (1) 122 call lo st bd S (m_W1 (m_lk cd_L_isWay) call r) r := m_W1.iff rfl mm_L_isWay
set_option maxRecDepth 20000 in
theorem st_L_isWay_122 {call : m_call} {r : m_R → m_S → Prop} {lo : m_L} {st : List Value} {bd : Nat × Nat} {S : m_S} : m_W1 (m_lk cd_L_isWay) call r 122 lo st bd S = o_goto 126 call lo st bd S (m_W1 (m_lk cd_L_isWay) call r) r := m_W1.iff rfl mm_L_isWay
set_option maxRecDepth 20000 in
theorem st_L_isWay_125 {call : m_call} {r : m_R → m_S → Prop} {lo : m_L} {st : List Value} {bd : Nat × Nat} {S : m_S} : m_W1 (m_lk cd_L_isWay) call r 125 lo st bd S = o_const (0) 126 call lo st bd S (m_W1 (m_lk cd_L_isWay) call r) r := m_W1.iff rfl mm_L_isWay
set_option maxRecDepth 20000 in
theorem st_L_isWay_126 {call : m_call} {r : m_R → m_S → Prop} {lo : m_L} {st : List Value} {bd : Nat × Nat} {S : m_S} : m_W1 (m_lk cd_L_isWay) call r 126 lo st bd S = o_istore 4 128 call lo st bd S (m_W1 (m_lk cd_L_isWay) call r) r := m_W1.iff rfl mm_L_isWay
set_option maxRecDepth 20000 in
theorem st_L_isWay_128 {call : m_call} {r : m_R → m_S → Prop} {lo : m_L} {st : List Value} {bd : Nat × Nat} {S : m_S} : m_W1 (m_lk cd_L_isWay) call r 128 lo st bd S = o_iinc 5 (1) 131 call lo st bd S (m_W1 (m_lk cd_L_isWay) call r) r := m_W1.iff rfl mm_L_isWay
set_option maxRecDepth 20000 in
theorem st_L_isWay_131 {call : m_call} {r : m_R → m_S → Prop} {lo : m_L} {st : List Value} {bd : Nat × Nat} {S : m_S} : m_W1 (m_lk cd_L_isWay) call r 131 lo st bd S = o_goto 14 call lo st bd S (m_W1 (m_lk cd_L_isWay) call r) r := m_W1.iff rfl mm_L_isWay
set_option maxRecDepth 20000 in
theorem st_L_isWay_134 {call : m_call} {r : m_R → m_S → Prop} {lo : m_L} {st : List Value} {bd : Nat × Nat} {S : m_S} : m_W1 (m_lk cd_L_isWay) call r 134 lo st bd S = o_iload 4 136 call lo st bd S (m_W1 (m_lk cd_L_isWay) call r) r := m_W1.iff rfl mm_L_isWay
set_option maxRecDepth 20000 in
theorem st_L_isWay_136 {call : m_call} {r : m_R → m_S → Prop} {lo : m_L} {st : List Value} {bd : Nat × Nat} {S : m_S} : m_W1 (m_lk cd_L_isWay) call r 136 lo st bd S = o_zreturn call lo st bd S (m_W1 (m_lk cd_L_isWay) call r) r := m_W1.iff rfl mm_L_isWay
set_option maxRecDepth 20000 in
theorem mm_L_passes : ∀ q, m_mono (m_lk cd_L_passes q) := m_mono_lk _ (m_mc mo_aload <| m_mc mo_const <| m_mc mo_iald <| m_mc mo_const <| m_mc mo_icmpne <| m_mc mo_aload <| m_mc mo_const <| m_mc mo_call <| m_mc mo_const <| m_mc mo_icmpne <| m_mc mo_const <| m_mc mo_goto <| m_mc mo_const <| m_mc mo_zreturn <| m_mc mo_const <| m_mc mo_istW <| m_mc mo_lconst <| m_mc mo_lstore <| m_mc mo_aload <| m_mc mo_callv <| m_mc mo_istW <| m_mc mo_const <| m_mc mo_istW <| m_mc mo_iload <| m_mc mo_aload <| m_mc mo_const <| m_mc mo_iald <| m_mc mo_icmpge <| m_mc mo_iload <| m_mc mo_aload <| m_mc mo_iload <| m_mc mo_call <| m_mc mo_iload <| m_mc mo_bin <| m_mc mo_bin <| m_mc mo_istW <| m_mc mo_iincW <| m_mc mo_goto <| m_mc mo_const <| m_mc mo_istW <| m_mc mo_iload <| m_mc mo_const <| m_mc mo_icmpge <| m_mc mo_lload <| m_mc mo_aload <| m_mc mo_iload <| m_mc mo_const <| m_mc mo_div <| m_mc mo_iload <| m_mc mo_const <| m_mc mo_div <| m_mc mo_call <| m_mc mo_i2l <| m_mc mo_lbin <| m_mc mo_lstore <| m_mc mo_iincW <| m_mc mo_goto <| m_mc mo_aload <| m_mc mo_const <| m_mc mo_dup2 <| m_mc mo_iald <| m_mc mo_const <| m_mc mo_bin <| m_mc mo_iast <| m_mc mo_aload <| m_mc mo_const <| m_mc mo_call <| m_mc mo_aload <| m_mc mo_const <| m_mc mo_iald <| m_mc mo_icmpne <| m_mc mo_const <| m_mc mo_goto <| m_mc mo_const <| m_mc mo_istW <| m_mc mo_const <| m_mc mo_newi <| m_mc mo_astW <| m_mc mo_lconst <| m_mc mo_lstore <| m_mc mo_const <| m_mc mo_istW <| m_mc mo_iload <| m_mc mo_aload <| m_mc mo_const <| m_mc mo_iald <| m_mc mo_icmpge <| m_mc mo_aload <| m_mc mo_iload <| m_mc mo_call <| m_mc mo_istW <| m_mc mo_aload <| m_mc mo_iload <| m_mc mo_call <| m_mc mo_istW <| m_mc mo_aload <| m_mc mo_const <| m_mc mo_iload <| m_mc mo_bin <| m_mc mo_const <| m_mc mo_bin <| m_mc mo_iald <| m_mc mo_istW <| m_mc mo_const <| m_mc mo_istW <| m_mc mo_const <| m_mc mo_istW <| m_mc mo_iload <| m_mc mo_aload <| m_mc mo_const <| m_mc mo_iald <| m_mc mo_icmpge <| m_mc mo_iload <| m_mc mo_iflt <| m_mc mo_iload <| m_mc mo_iload <| m_mc mo_bin <| m_mc mo_const <| m_mc mo_bin <| m_mc mo_const <| m_mc mo_icmpne <| m_mc mo_const <| m_mc mo_goto <| m_mc mo_const <| m_mc mo_istW <| m_mc mo_aload <| m_mc mo_iload <| m_mc mo_dup2 <| m_mc mo_iald <| m_mc mo_iload <| m_mc mo_ifeq <| m_mc mo_iload <| m_mc mo_goto <| m_mc mo_const <| m_mc mo_bin <| m_mc mo_iast <| m_mc mo_iload <| m_mc mo_iload <| m_mc mo_ifeq <| m_mc mo_const <| m_mc mo_goto <| m_mc mo_const <| m_mc mo_bin <| m_mc mo_istW <| m_mc mo_iincW <| m_mc mo_goto <| m_mc mo_lload <| m_mc mo_lconst <| m_mc mo_iload <| m_mc mo_i2l <| m_mc mo_lbin <| m_mc mo_lbin <| m_mc mo_lstore <| m_mc mo_iload <| m_mc mo_ifeq <| m_mc mo_iload <| m_mc mo_const <| m_mc mo_icmpne <| m_mc mo_iload <| m_mc mo_ifne <| m_mc mo_goto <| m_mc mo_iload <| m_mc mo_iflt <| m_mc mo_iload <| m_mc mo_iload <| m_mc mo_iload <| m_mc mo_bin <| m_mc mo_icmpgt <| m_mc mo_iload <| m_mc mo_iload <| m_mc mo_const <| m_mc mo_bin <| m_mc mo_bin <| m_mc mo_ifne <| m_mc mo_aload <| m_mc mo_iload <| m_mc mo_aload <| m_mc mo_const <| m_mc mo_iload <| m_mc mo_bin <| m_mc mo_const <| m_mc mo_bin <| m_mc mo_iald <| m_mc mo_aload <| m_mc mo_const <| m_mc mo_iload <| m_mc mo_bin <| m_mc mo_const <| m_mc mo_bin <| m_mc mo_iald <| m_mc mo_call <| m_mc mo_ifeq <| m_mc mo_const <| m_mc mo_goto <| m_mc mo_const <| m_mc mo_istW <| m_mc mo_iincW <| m_mc mo_goto <| m_mc mo_lconst <| m_mc mo_lstore <| m_mc mo_aload <| m_mc mo_callv <| m_mc mo_i2l <| m_mc mo_lstore <| m_mc mo_const <| m_mc mo_istW <| m_mc mo_iload <| m_mc mo_const <| m_mc mo_icmpge <| m_mc mo_lload <| m_mc mo_aload <| m_mc mo_iload <| m_mc mo_const <| m_mc mo_div <| m_mc mo_iload <| m_mc mo_const <| m_mc mo_div <| m_mc mo_call <| m_mc mo_i2l <| m_mc mo_lbin <| m_mc mo_lstore <| m_mc mo_iincW <| m_mc mo_goto <| m_mc mo_const <| m_mc mo_istW <| m_mc mo_iload <| m_mc mo_const <| m_mc mo_icmpge <| m_mc mo_lload <| m_mc mo_aload <| m_mc mo_iload <| m_mc mo_call <| m_mc mo_i2l <| m_mc mo_lbin <| m_mc mo_lstore <| m_mc mo_iincW <| m_mc mo_goto <| m_mc mo_const <| m_mc mo_istW <| m_mc mo_iload <| m_mc mo_aload <| m_mc mo_const <| m_mc mo_iald <| m_mc mo_icmpge <| m_mc mo_const <| m_mc mo_istW <| m_mc mo_const <| m_mc mo_istW <| m_mc mo_iload <| m_mc mo_const <| m_mc mo_icmpge <| m_mc mo_iload <| m_mc mo_aload <| m_mc mo_iload <| m_mc mo_iload <| m_mc mo_call <| m_mc mo_bin <| m_mc mo_istW <| m_mc mo_iincW <| m_mc mo_goto <| m_mc mo_iload <| m_mc mo_ifeq <| m_mc mo_iload <| m_mc mo_aload <| m_mc mo_const <| m_mc mo_iload <| m_mc mo_bin <| m_mc mo_const <| m_mc mo_bin <| m_mc mo_iald <| m_mc mo_icmpne <| m_mc mo_aload <| m_mc mo_iload <| m_mc mo_iald <| m_mc mo_iload <| m_mc mo_icmpgt <| m_mc mo_const <| m_mc mo_goto <| m_mc mo_const <| m_mc mo_istW <| m_mc mo_iincW <| m_mc mo_goto <| m_mc mo_const <| m_mc mo_istW <| m_mc mo_iload <| m_mc mo_aload <| m_mc mo_const <| m_mc mo_iald <| m_mc mo_icmpge <| m_mc mo_iload <| m_mc mo_ifeq <| m_mc mo_aload <| m_mc mo_iload <| m_mc mo_call <| m_mc mo_iflt <| m_mc mo_aload <| m_mc mo_iload <| m_mc mo_call <| m_mc mo_const <| m_mc mo_icmpgt <| m_mc mo_const <| m_mc mo_goto <| m_mc mo_const <| m_mc mo_istW <| m_mc mo_iincW <| m_mc mo_goto <| m_mc mo_const <| m_mc mo_istW <| m_mc mo_iload <| m_mc mo_aload <| m_mc mo_const <| m_mc mo_iald <| m_mc mo_icmpge <| m_mc mo_iload <| m_mc mo_ifeq <| m_mc mo_aload <| m_mc mo_iload <| m_mc mo_call <| m_mc mo_iflt <| m_mc mo_aload <| m_mc mo_iload <| m_mc mo_call <| m_mc mo_const <| m_mc mo_icmpgt <| m_mc mo_aload <| m_mc mo_iload <| m_mc mo_call <| m_mc mo_const <| m_mc mo_icmpeq <| m_mc mo_aload <| m_mc mo_aload <| m_mc mo_const <| m_mc mo_iload <| m_mc mo_bin <| m_mc mo_iald <| m_mc mo_call <| m_mc mo_ifne <| m_mc mo_const <| m_mc mo_goto <| m_mc mo_const <| m_mc mo_istW <| m_mc mo_iincW <| m_mc mo_goto <| m_mc mo_iload <| m_mc mo_const <| m_mc mo_call <| m_mc mo_istW <| m_mc mo_aload <| m_mc mo_const <| m_mc mo_dup2 <| m_mc mo_iald <| m_mc mo_const <| m_mc mo_bin <| m_mc mo_iast <| m_mc mo_iload <| m_mc mo_ifeq <| m_mc mo_aload <| m_mc mo_const <| m_mc mo_iald <| m_mc mo_const <| m_mc mo_icmpgt <| m_mc mo_aload <| m_mc mo_iload <| m_mc mo_const <| m_mc mo_div <| m_mc mo_iload <| m_mc mo_const <| m_mc mo_div <| m_mc mo_call <| m_mc mo_aload <| m_mc mo_iload <| m_mc mo_const <| m_mc mo_div <| m_mc mo_iload <| m_mc mo_const <| m_mc mo_div <| m_mc mo_call <| m_mc mo_icmpne <| m_mc mo_const <| m_mc mo_goto <| m_mc mo_const <| m_mc mo_istW <| m_mc mo_iload <| m_mc mo_ifeq <| m_mc mo_lload <| m_mc mo_lconst <| m_mc mo_lcmp <| m_mc mo_ifne <| m_mc mo_lload <| m_mc mo_lload <| m_mc mo_lbin <| m_mc mo_lload <| m_mc mo_lcmp <| m_mc mo_iflt <| m_mc mo_lload <| m_mc mo_lload <| m_mc mo_lbin <| m_mc mo_lconst <| m_mc mo_lload <| m_mc mo_lbin <| m_mc mo_lcmp <| m_mc mo_ifgt <| m_mc mo_lload <| m_mc mo_lload <| m_mc mo_lbin <| m_mc mo_lconst <| m_mc mo_ldiv <| m_mc mo_lconst <| m_mc mo_lcmp <| m_mc mo_ifne <| m_mc mo_aload <| m_mc mo_callv <| m_mc mo_iload <| m_mc mo_icmplt <| m_mc mo_aload <| m_mc mo_callv <| m_mc mo_iload <| m_mc mo_const <| m_mc mo_aload <| m_mc mo_const <| m_mc mo_iald <| m_mc mo_bin <| m_mc mo_bin <| m_mc mo_icmpgt <| m_mc mo_const <| m_mc mo_goto <| m_mc mo_const <| m_mc mo_zreturn <| m_mn)
set_option maxRecDepth 20000 in
theorem xm_L_passes : ∀ q, m_ex (m_lk cd_L_passes q) := m_ex_lk _ (m_xc ex_aload <| m_xc ex_const <| m_xc ex_iald <| m_xc ex_const <| m_xc ex_icmpne <| m_xc ex_aload <| m_xc ex_const <| m_xc ex_call <| m_xc ex_const <| m_xc ex_icmpne <| m_xc ex_const <| m_xc ex_goto <| m_xc ex_const <| m_xc ex_zreturn <| m_xc ex_const <| m_xc ex_istW <| m_xc ex_lconst <| m_xc ex_lstore <| m_xc ex_aload <| m_xc ex_callv <| m_xc ex_istW <| m_xc ex_const <| m_xc ex_istW <| m_xc ex_iload <| m_xc ex_aload <| m_xc ex_const <| m_xc ex_iald <| m_xc ex_icmpge <| m_xc ex_iload <| m_xc ex_aload <| m_xc ex_iload <| m_xc ex_call <| m_xc ex_iload <| m_xc ex_bin <| m_xc ex_bin <| m_xc ex_istW <| m_xc ex_iincW <| m_xc ex_goto <| m_xc ex_const <| m_xc ex_istW <| m_xc ex_iload <| m_xc ex_const <| m_xc ex_icmpge <| m_xc ex_lload <| m_xc ex_aload <| m_xc ex_iload <| m_xc ex_const <| m_xc ex_div <| m_xc ex_iload <| m_xc ex_const <| m_xc ex_div <| m_xc ex_call <| m_xc ex_i2l <| m_xc ex_lbin <| m_xc ex_lstore <| m_xc ex_iincW <| m_xc ex_goto <| m_xc ex_aload <| m_xc ex_const <| m_xc ex_dup2 <| m_xc ex_iald <| m_xc ex_const <| m_xc ex_bin <| m_xc ex_iast <| m_xc ex_aload <| m_xc ex_const <| m_xc ex_call <| m_xc ex_aload <| m_xc ex_const <| m_xc ex_iald <| m_xc ex_icmpne <| m_xc ex_const <| m_xc ex_goto <| m_xc ex_const <| m_xc ex_istW <| m_xc ex_const <| m_xc ex_newi <| m_xc ex_astW <| m_xc ex_lconst <| m_xc ex_lstore <| m_xc ex_const <| m_xc ex_istW <| m_xc ex_iload <| m_xc ex_aload <| m_xc ex_const <| m_xc ex_iald <| m_xc ex_icmpge <| m_xc ex_aload <| m_xc ex_iload <| m_xc ex_call <| m_xc ex_istW <| m_xc ex_aload <| m_xc ex_iload <| m_xc ex_call <| m_xc ex_istW <| m_xc ex_aload <| m_xc ex_const <| m_xc ex_iload <| m_xc ex_bin <| m_xc ex_const <| m_xc ex_bin <| m_xc ex_iald <| m_xc ex_istW <| m_xc ex_const <| m_xc ex_istW <| m_xc ex_const <| m_xc ex_istW <| m_xc ex_iload <| m_xc ex_aload <| m_xc ex_const <| m_xc ex_iald <| m_xc ex_icmpge <| m_xc ex_iload <| m_xc ex_iflt <| m_xc ex_iload <| m_xc ex_iload <| m_xc ex_bin <| m_xc ex_const <| m_xc ex_bin <| m_xc ex_const <| m_xc ex_icmpne <| m_xc ex_const <| m_xc ex_goto <| m_xc ex_const <| m_xc ex_istW <| m_xc ex_aload <| m_xc ex_iload <| m_xc ex_dup2 <| m_xc ex_iald <| m_xc ex_iload <| m_xc ex_ifeq <| m_xc ex_iload <| m_xc ex_goto <| m_xc ex_const <| m_xc ex_bin <| m_xc ex_iast <| m_xc ex_iload <| m_xc ex_iload <| m_xc ex_ifeq <| m_xc ex_const <| m_xc ex_goto <| m_xc ex_const <| m_xc ex_bin <| m_xc ex_istW <| m_xc ex_iincW <| m_xc ex_goto <| m_xc ex_lload <| m_xc ex_lconst <| m_xc ex_iload <| m_xc ex_i2l <| m_xc ex_lbin <| m_xc ex_lbin <| m_xc ex_lstore <| m_xc ex_iload <| m_xc ex_ifeq <| m_xc ex_iload <| m_xc ex_const <| m_xc ex_icmpne <| m_xc ex_iload <| m_xc ex_ifne <| m_xc ex_goto <| m_xc ex_iload <| m_xc ex_iflt <| m_xc ex_iload <| m_xc ex_iload <| m_xc ex_iload <| m_xc ex_bin <| m_xc ex_icmpgt <| m_xc ex_iload <| m_xc ex_iload <| m_xc ex_const <| m_xc ex_bin <| m_xc ex_bin <| m_xc ex_ifne <| m_xc ex_aload <| m_xc ex_iload <| m_xc ex_aload <| m_xc ex_const <| m_xc ex_iload <| m_xc ex_bin <| m_xc ex_const <| m_xc ex_bin <| m_xc ex_iald <| m_xc ex_aload <| m_xc ex_const <| m_xc ex_iload <| m_xc ex_bin <| m_xc ex_const <| m_xc ex_bin <| m_xc ex_iald <| m_xc ex_call <| m_xc ex_ifeq <| m_xc ex_const <| m_xc ex_goto <| m_xc ex_const <| m_xc ex_istW <| m_xc ex_iincW <| m_xc ex_goto <| m_xc ex_lconst <| m_xc ex_lstore <| m_xc ex_aload <| m_xc ex_callv <| m_xc ex_i2l <| m_xc ex_lstore <| m_xc ex_const <| m_xc ex_istW <| m_xc ex_iload <| m_xc ex_const <| m_xc ex_icmpge <| m_xc ex_lload <| m_xc ex_aload <| m_xc ex_iload <| m_xc ex_const <| m_xc ex_div <| m_xc ex_iload <| m_xc ex_const <| m_xc ex_div <| m_xc ex_call <| m_xc ex_i2l <| m_xc ex_lbin <| m_xc ex_lstore <| m_xc ex_iincW <| m_xc ex_goto <| m_xc ex_const <| m_xc ex_istW <| m_xc ex_iload <| m_xc ex_const <| m_xc ex_icmpge <| m_xc ex_lload <| m_xc ex_aload <| m_xc ex_iload <| m_xc ex_call <| m_xc ex_i2l <| m_xc ex_lbin <| m_xc ex_lstore <| m_xc ex_iincW <| m_xc ex_goto <| m_xc ex_const <| m_xc ex_istW <| m_xc ex_iload <| m_xc ex_aload <| m_xc ex_const <| m_xc ex_iald <| m_xc ex_icmpge <| m_xc ex_const <| m_xc ex_istW <| m_xc ex_const <| m_xc ex_istW <| m_xc ex_iload <| m_xc ex_const <| m_xc ex_icmpge <| m_xc ex_iload <| m_xc ex_aload <| m_xc ex_iload <| m_xc ex_iload <| m_xc ex_call <| m_xc ex_bin <| m_xc ex_istW <| m_xc ex_iincW <| m_xc ex_goto <| m_xc ex_iload <| m_xc ex_ifeq <| m_xc ex_iload <| m_xc ex_aload <| m_xc ex_const <| m_xc ex_iload <| m_xc ex_bin <| m_xc ex_const <| m_xc ex_bin <| m_xc ex_iald <| m_xc ex_icmpne <| m_xc ex_aload <| m_xc ex_iload <| m_xc ex_iald <| m_xc ex_iload <| m_xc ex_icmpgt <| m_xc ex_const <| m_xc ex_goto <| m_xc ex_const <| m_xc ex_istW <| m_xc ex_iincW <| m_xc ex_goto <| m_xc ex_const <| m_xc ex_istW <| m_xc ex_iload <| m_xc ex_aload <| m_xc ex_const <| m_xc ex_iald <| m_xc ex_icmpge <| m_xc ex_iload <| m_xc ex_ifeq <| m_xc ex_aload <| m_xc ex_iload <| m_xc ex_call <| m_xc ex_iflt <| m_xc ex_aload <| m_xc ex_iload <| m_xc ex_call <| m_xc ex_const <| m_xc ex_icmpgt <| m_xc ex_const <| m_xc ex_goto <| m_xc ex_const <| m_xc ex_istW <| m_xc ex_iincW <| m_xc ex_goto <| m_xc ex_const <| m_xc ex_istW <| m_xc ex_iload <| m_xc ex_aload <| m_xc ex_const <| m_xc ex_iald <| m_xc ex_icmpge <| m_xc ex_iload <| m_xc ex_ifeq <| m_xc ex_aload <| m_xc ex_iload <| m_xc ex_call <| m_xc ex_iflt <| m_xc ex_aload <| m_xc ex_iload <| m_xc ex_call <| m_xc ex_const <| m_xc ex_icmpgt <| m_xc ex_aload <| m_xc ex_iload <| m_xc ex_call <| m_xc ex_const <| m_xc ex_icmpeq <| m_xc ex_aload <| m_xc ex_aload <| m_xc ex_const <| m_xc ex_iload <| m_xc ex_bin <| m_xc ex_iald <| m_xc ex_call <| m_xc ex_ifne <| m_xc ex_const <| m_xc ex_goto <| m_xc ex_const <| m_xc ex_istW <| m_xc ex_iincW <| m_xc ex_goto <| m_xc ex_iload <| m_xc ex_const <| m_xc ex_call <| m_xc ex_istW <| m_xc ex_aload <| m_xc ex_const <| m_xc ex_dup2 <| m_xc ex_iald <| m_xc ex_const <| m_xc ex_bin <| m_xc ex_iast <| m_xc ex_iload <| m_xc ex_ifeq <| m_xc ex_aload <| m_xc ex_const <| m_xc ex_iald <| m_xc ex_const <| m_xc ex_icmpgt <| m_xc ex_aload <| m_xc ex_iload <| m_xc ex_const <| m_xc ex_div <| m_xc ex_iload <| m_xc ex_const <| m_xc ex_div <| m_xc ex_call <| m_xc ex_aload <| m_xc ex_iload <| m_xc ex_const <| m_xc ex_div <| m_xc ex_iload <| m_xc ex_const <| m_xc ex_div <| m_xc ex_call <| m_xc ex_icmpne <| m_xc ex_const <| m_xc ex_goto <| m_xc ex_const <| m_xc ex_istW <| m_xc ex_iload <| m_xc ex_ifeq <| m_xc ex_lload <| m_xc ex_lconst <| m_xc ex_lcmp <| m_xc ex_ifne <| m_xc ex_lload <| m_xc ex_lload <| m_xc ex_lbin <| m_xc ex_lload <| m_xc ex_lcmp <| m_xc ex_iflt <| m_xc ex_lload <| m_xc ex_lload <| m_xc ex_lbin <| m_xc ex_lconst <| m_xc ex_lload <| m_xc ex_lbin <| m_xc ex_lcmp <| m_xc ex_ifgt <| m_xc ex_lload <| m_xc ex_lload <| m_xc ex_lbin <| m_xc ex_lconst <| m_xc ex_ldiv <| m_xc ex_lconst <| m_xc ex_lcmp <| m_xc ex_ifne <| m_xc ex_aload <| m_xc ex_callv <| m_xc ex_iload <| m_xc ex_icmplt <| m_xc ex_aload <| m_xc ex_callv <| m_xc ex_iload <| m_xc ex_const <| m_xc ex_aload <| m_xc ex_const <| m_xc ex_iald <| m_xc ex_bin <| m_xc ex_bin <| m_xc ex_icmpgt <| m_xc ex_const <| m_xc ex_goto <| m_xc ex_const <| m_xc ex_zreturn <| m_xn)
set_option maxRecDepth 20000 in
theorem st_L_passes_0 {call : m_call} {r : m_R → m_S → Prop} {lo : m_L} {st : List Value} {bd : Nat × Nat} {S : m_S} : m_W1 (m_lk cd_L_passes) call r 0 lo st bd S = o_aload 1 1 call lo st bd S (m_W1 (m_lk cd_L_passes) call r) r := m_W1.iff rfl mm_L_passes
set_option maxRecDepth 20000 in
theorem st_L_passes_1 {call : m_call} {r : m_R → m_S → Prop} {lo : m_L} {st : List Value} {bd : Nat × Nat} {S : m_S} : m_W1 (m_lk cd_L_passes) call r 1 lo st bd S = o_const (4) 2 call lo st bd S (m_W1 (m_lk cd_L_passes) call r) r := m_W1.iff rfl mm_L_passes
set_option maxRecDepth 20000 in
theorem st_L_passes_2 {call : m_call} {r : m_R → m_S → Prop} {lo : m_L} {st : List Value} {bd : Nat × Nat} {S : m_S} : m_W1 (m_lk cd_L_passes) call r 2 lo st bd S = o_iald 0 3 call lo st bd S (m_W1 (m_lk cd_L_passes) call r) r := m_W1.iff rfl mm_L_passes
set_option maxRecDepth 20000 in
theorem st_L_passes_3 {call : m_call} {r : m_R → m_S → Prop} {lo : m_L} {st : List Value} {bd : Nat × Nat} {S : m_S} : m_W1 (m_lk cd_L_passes) call r 3 lo st bd S = o_const (500) 6 call lo st bd S (m_W1 (m_lk cd_L_passes) call r) r := m_W1.iff rfl mm_L_passes
set_option maxRecDepth 20000 in
theorem st_L_passes_6 {call : m_call} {r : m_R → m_S → Prop} {lo : m_L} {st : List Value} {bd : Nat × Nat} {S : m_S} : m_W1 (m_lk cd_L_passes) call r 6 lo st bd S = o_icmpne 25 9 call lo st bd S (m_W1 (m_lk cd_L_passes) call r) r := m_W1.iff rfl mm_L_passes
set_option maxRecDepth 20000 in
theorem st_L_passes_9 {call : m_call} {r : m_R → m_S → Prop} {lo : m_L} {st : List Value} {bd : Nat × Nat} {S : m_S} : m_W1 (m_lk cd_L_passes) call r 9 lo st bd S = o_aload 0 10 call lo st bd S (m_W1 (m_lk cd_L_passes) call r) r := m_W1.iff rfl mm_L_passes
set_option maxRecDepth 20000 in
theorem st_L_passes_10 {call : m_call} {r : m_R → m_S → Prop} {lo : m_L} {st : List Value} {bd : Nat × Nat} {S : m_S} : m_W1 (m_lk cd_L_passes) call r 10 lo st bd S = o_const (1) 11 call lo st bd S (m_W1 (m_lk cd_L_passes) call r) r := m_W1.iff rfl mm_L_passes
set_option maxRecDepth 20000 in
theorem st_L_passes_11 {call : m_call} {r : m_R → m_S → Prop} {lo : m_L} {st : List Value} {bd : Nat × Nat} {S : m_S} : m_W1 (m_lk cd_L_passes) call r 11 lo st bd S = o_call 86 2 2 12 14 call lo st bd S (m_W1 (m_lk cd_L_passes) call r) r := m_W1.iff rfl mm_L_passes
set_option maxRecDepth 20000 in
theorem st_L_passes_14 {call : m_call} {r : m_R → m_S → Prop} {lo : m_L} {st : List Value} {bd : Nat × Nat} {S : m_S} : m_W1 (m_lk cd_L_passes) call r 14 lo st bd S = o_const (-1000003) 16 call lo st bd S (m_W1 (m_lk cd_L_passes) call r) r := m_W1.iff rfl mm_L_passes
set_option maxRecDepth 20000 in
theorem st_L_passes_16 {call : m_call} {r : m_R → m_S → Prop} {lo : m_L} {st : List Value} {bd : Nat × Nat} {S : m_S} : m_W1 (m_lk cd_L_passes) call r 16 lo st bd S = o_icmpne 23 19 call lo st bd S (m_W1 (m_lk cd_L_passes) call r) r := m_W1.iff rfl mm_L_passes
set_option maxRecDepth 20000 in
theorem st_L_passes_19 {call : m_call} {r : m_R → m_S → Prop} {lo : m_L} {st : List Value} {bd : Nat × Nat} {S : m_S} : m_W1 (m_lk cd_L_passes) call r 19 lo st bd S = o_const (1) 20 call lo st bd S (m_W1 (m_lk cd_L_passes) call r) r := m_W1.iff rfl mm_L_passes
set_option maxRecDepth 20000 in
theorem st_L_passes_20 {call : m_call} {r : m_R → m_S → Prop} {lo : m_L} {st : List Value} {bd : Nat × Nat} {S : m_S} : m_W1 (m_lk cd_L_passes) call r 20 lo st bd S = o_goto 24 call lo st bd S (m_W1 (m_lk cd_L_passes) call r) r := m_W1.iff rfl mm_L_passes
set_option maxRecDepth 20000 in
theorem st_L_passes_23 {call : m_call} {r : m_R → m_S → Prop} {lo : m_L} {st : List Value} {bd : Nat × Nat} {S : m_S} : m_W1 (m_lk cd_L_passes) call r 23 lo st bd S = o_const (0) 24 call lo st bd S (m_W1 (m_lk cd_L_passes) call r) r := m_W1.iff rfl mm_L_passes
set_option maxRecDepth 20000 in
theorem st_L_passes_24 {call : m_call} {r : m_R → m_S → Prop} {lo : m_L} {st : List Value} {bd : Nat × Nat} {S : m_S} : m_W1 (m_lk cd_L_passes) call r 24 lo st bd S = o_zreturn call lo st bd S (m_W1 (m_lk cd_L_passes) call r) r := m_W1.iff rfl mm_L_passes
set_option maxRecDepth 20000 in
theorem st_L_passes_25 {call : m_call} {r : m_R → m_S → Prop} {lo : m_L} {st : List Value} {bd : Nat × Nat} {S : m_S} : m_W1 (m_lk cd_L_passes) call r 25 lo st bd S = o_const (0) 26 call lo st bd S (m_W1 (m_lk cd_L_passes) call r) r := m_W1.iff rfl mm_L_passes
set_option maxRecDepth 20000 in
theorem st_L_passes_26 {call : m_call} {r : m_R → m_S → Prop} {lo : m_L} {st : List Value} {bd : Nat × Nat} {S : m_S} : m_W1 (m_lk cd_L_passes) call r 26 lo st bd S = o_istW 6 28 call lo st bd S (m_W1 (m_lk cd_L_passes) call r) r := m_W1.iff rfl mm_L_passes
set_option maxRecDepth 20000 in
theorem st_L_passes_28 {call : m_call} {r : m_R → m_S → Prop} {lo : m_L} {st : List Value} {bd : Nat × Nat} {S : m_S} : m_W1 (m_lk cd_L_passes) call r 28 lo st bd S = o_lconst 0 29 call lo st bd S (m_W1 (m_lk cd_L_passes) call r) r := m_W1.iff rfl mm_L_passes
set_option maxRecDepth 20000 in
theorem st_L_passes_29 {call : m_call} {r : m_R → m_S → Prop} {lo : m_L} {st : List Value} {bd : Nat × Nat} {S : m_S} : m_W1 (m_lk cd_L_passes) call r 29 lo st bd S = o_lstore 7 31 call lo st bd S (m_W1 (m_lk cd_L_passes) call r) r := m_W1.iff rfl mm_L_passes
set_option maxRecDepth 20000 in
theorem st_L_passes_31 {call : m_call} {r : m_R → m_S → Prop} {lo : m_L} {st : List Value} {bd : Nat × Nat} {S : m_S} : m_W1 (m_lk cd_L_passes) call r 31 lo st bd S = o_aload 0 32 call lo st bd S (m_W1 (m_lk cd_L_passes) call r) r := m_W1.iff rfl mm_L_passes
set_option maxRecDepth 20000 in
theorem st_L_passes_32 {call : m_call} {r : m_R → m_S → Prop} {lo : m_L} {st : List Value} {bd : Nat × Nat} {S : m_S} : m_W1 (m_lk cd_L_passes) call r 32 lo st bd S = o_callv 7 39 1 0 0 35 call lo st bd S (m_W1 (m_lk cd_L_passes) call r) r := m_W1.iff rfl mm_L_passes
set_option maxRecDepth 20000 in
theorem st_L_passes_35 {call : m_call} {r : m_R → m_S → Prop} {lo : m_L} {st : List Value} {bd : Nat × Nat} {S : m_S} : m_W1 (m_lk cd_L_passes) call r 35 lo st bd S = o_istW 9 37 call lo st bd S (m_W1 (m_lk cd_L_passes) call r) r := m_W1.iff rfl mm_L_passes
set_option maxRecDepth 20000 in
theorem st_L_passes_37 {call : m_call} {r : m_R → m_S → Prop} {lo : m_L} {st : List Value} {bd : Nat × Nat} {S : m_S} : m_W1 (m_lk cd_L_passes) call r 37 lo st bd S = o_const (0) 38 call lo st bd S (m_W1 (m_lk cd_L_passes) call r) r := m_W1.iff rfl mm_L_passes
set_option maxRecDepth 20000 in
theorem st_L_passes_38 {call : m_call} {r : m_R → m_S → Prop} {lo : m_L} {st : List Value} {bd : Nat × Nat} {S : m_S} : m_W1 (m_lk cd_L_passes) call r 38 lo st bd S = o_istW 10 40 call lo st bd S (m_W1 (m_lk cd_L_passes) call r) r := m_W1.iff rfl mm_L_passes
set_option maxRecDepth 20000 in
theorem st_L_passes_40 {call : m_call} {r : m_R → m_S → Prop} {lo : m_L} {st : List Value} {bd : Nat × Nat} {S : m_S} : m_W1 (m_lk cd_L_passes) call r 40 lo st bd S = o_iload 10 42 call lo st bd S (m_W1 (m_lk cd_L_passes) call r) r := m_W1.iff rfl mm_L_passes
set_option maxRecDepth 20000 in
theorem st_L_passes_42 {call : m_call} {r : m_R → m_S → Prop} {lo : m_L} {st : List Value} {bd : Nat × Nat} {S : m_S} : m_W1 (m_lk cd_L_passes) call r 42 lo st bd S = o_aload 1 43 call lo st bd S (m_W1 (m_lk cd_L_passes) call r) r := m_W1.iff rfl mm_L_passes
set_option maxRecDepth 20000 in
theorem st_L_passes_43 {call : m_call} {r : m_R → m_S → Prop} {lo : m_L} {st : List Value} {bd : Nat × Nat} {S : m_S} : m_W1 (m_lk cd_L_passes) call r 43 lo st bd S = o_const (0) 44 call lo st bd S (m_W1 (m_lk cd_L_passes) call r) r := m_W1.iff rfl mm_L_passes
set_option maxRecDepth 20000 in
theorem st_L_passes_44 {call : m_call} {r : m_R → m_S → Prop} {lo : m_L} {st : List Value} {bd : Nat × Nat} {S : m_S} : m_W1 (m_lk cd_L_passes) call r 44 lo st bd S = o_iald 0 45 call lo st bd S (m_W1 (m_lk cd_L_passes) call r) r := m_W1.iff rfl mm_L_passes
set_option maxRecDepth 20000 in
theorem st_L_passes_45 {call : m_call} {r : m_R → m_S → Prop} {lo : m_L} {st : List Value} {bd : Nat × Nat} {S : m_S} : m_W1 (m_lk cd_L_passes) call r 45 lo st bd S = o_icmpge 68 48 call lo st bd S (m_W1 (m_lk cd_L_passes) call r) r := m_W1.iff rfl mm_L_passes
set_option maxRecDepth 20000 in
theorem st_L_passes_48 {call : m_call} {r : m_R → m_S → Prop} {lo : m_L} {st : List Value} {bd : Nat × Nat} {S : m_S} : m_W1 (m_lk cd_L_passes) call r 48 lo st bd S = o_iload 6 50 call lo st bd S (m_W1 (m_lk cd_L_passes) call r) r := m_W1.iff rfl mm_L_passes
set_option maxRecDepth 20000 in
theorem st_L_passes_50 {call : m_call} {r : m_R → m_S → Prop} {lo : m_L} {st : List Value} {bd : Nat × Nat} {S : m_S} : m_W1 (m_lk cd_L_passes) call r 50 lo st bd S = o_aload 0 51 call lo st bd S (m_W1 (m_lk cd_L_passes) call r) r := m_W1.iff rfl mm_L_passes
set_option maxRecDepth 20000 in
theorem st_L_passes_51 {call : m_call} {r : m_R → m_S → Prop} {lo : m_L} {st : List Value} {bd : Nat × Nat} {S : m_S} : m_W1 (m_lk cd_L_passes) call r 51 lo st bd S = o_iload 10 53 call lo st bd S (m_W1 (m_lk cd_L_passes) call r) r := m_W1.iff rfl mm_L_passes
set_option maxRecDepth 20000 in
theorem st_L_passes_53 {call : m_call} {r : m_R → m_S → Prop} {lo : m_L} {st : List Value} {bd : Nat × Nat} {S : m_S} : m_W1 (m_lk cd_L_passes) call r 53 lo st bd S = o_call 88 2 1 6 56 call lo st bd S (m_W1 (m_lk cd_L_passes) call r) r := m_W1.iff rfl mm_L_passes
set_option maxRecDepth 20000 in
theorem st_L_passes_56 {call : m_call} {r : m_R → m_S → Prop} {lo : m_L} {st : List Value} {bd : Nat × Nat} {S : m_S} : m_W1 (m_lk cd_L_passes) call r 56 lo st bd S = o_iload 10 58 call lo st bd S (m_W1 (m_lk cd_L_passes) call r) r := m_W1.iff rfl mm_L_passes
set_option maxRecDepth 20000 in
theorem st_L_passes_58 {call : m_call} {r : m_R → m_S → Prop} {lo : m_L} {st : List Value} {bd : Nat × Nat} {S : m_S} : m_W1 (m_lk cd_L_passes) call r 58 lo st bd S = o_bin (fun x y => x <<< (y &&& 31)) 59 call lo st bd S (m_W1 (m_lk cd_L_passes) call r) r := m_W1.iff rfl mm_L_passes
set_option maxRecDepth 20000 in
theorem st_L_passes_59 {call : m_call} {r : m_R → m_S → Prop} {lo : m_L} {st : List Value} {bd : Nat × Nat} {S : m_S} : m_W1 (m_lk cd_L_passes) call r 59 lo st bd S = o_bin (fun x y => x ||| y) 60 call lo st bd S (m_W1 (m_lk cd_L_passes) call r) r := m_W1.iff rfl mm_L_passes
set_option maxRecDepth 20000 in
theorem st_L_passes_60 {call : m_call} {r : m_R → m_S → Prop} {lo : m_L} {st : List Value} {bd : Nat × Nat} {S : m_S} : m_W1 (m_lk cd_L_passes) call r 60 lo st bd S = o_istW 6 62 call lo st bd S (m_W1 (m_lk cd_L_passes) call r) r := m_W1.iff rfl mm_L_passes
set_option maxRecDepth 20000 in
theorem st_L_passes_62 {call : m_call} {r : m_R → m_S → Prop} {lo : m_L} {st : List Value} {bd : Nat × Nat} {S : m_S} : m_W1 (m_lk cd_L_passes) call r 62 lo st bd S = o_iincW 10 (1) 65 call lo st bd S (m_W1 (m_lk cd_L_passes) call r) r := m_W1.iff rfl mm_L_passes
set_option maxRecDepth 20000 in
theorem st_L_passes_65 {call : m_call} {r : m_R → m_S → Prop} {lo : m_L} {st : List Value} {bd : Nat × Nat} {S : m_S} : m_W1 (m_lk cd_L_passes) call r 65 lo st bd S = o_goto 40 call lo st bd S (m_W1 (m_lk cd_L_passes) call r) r := m_W1.iff rfl mm_L_passes
set_option maxRecDepth 20000 in
theorem st_L_passes_68 {call : m_call} {r : m_R → m_S → Prop} {lo : m_L} {st : List Value} {bd : Nat × Nat} {S : m_S} : m_W1 (m_lk cd_L_passes) call r 68 lo st bd S = o_const (0) 69 call lo st bd S (m_W1 (m_lk cd_L_passes) call r) r := m_W1.iff rfl mm_L_passes
set_option maxRecDepth 20000 in
theorem st_L_passes_69 {call : m_call} {r : m_R → m_S → Prop} {lo : m_L} {st : List Value} {bd : Nat × Nat} {S : m_S} : m_W1 (m_lk cd_L_passes) call r 69 lo st bd S = o_istW 10 71 call lo st bd S (m_W1 (m_lk cd_L_passes) call r) r := m_W1.iff rfl mm_L_passes
set_option maxRecDepth 20000 in
theorem st_L_passes_71 {call : m_call} {r : m_R → m_S → Prop} {lo : m_L} {st : List Value} {bd : Nat × Nat} {S : m_S} : m_W1 (m_lk cd_L_passes) call r 71 lo st bd S = o_iload 10 73 call lo st bd S (m_W1 (m_lk cd_L_passes) call r) r := m_W1.iff rfl mm_L_passes
set_option maxRecDepth 20000 in
theorem st_L_passes_73 {call : m_call} {r : m_R → m_S → Prop} {lo : m_L} {st : List Value} {bd : Nat × Nat} {S : m_S} : m_W1 (m_lk cd_L_passes) call r 73 lo st bd S = o_const (36) 75 call lo st bd S (m_W1 (m_lk cd_L_passes) call r) r := m_W1.iff rfl mm_L_passes
set_option maxRecDepth 20000 in
theorem st_L_passes_75 {call : m_call} {r : m_R → m_S → Prop} {lo : m_L} {st : List Value} {bd : Nat × Nat} {S : m_S} : m_W1 (m_lk cd_L_passes) call r 75 lo st bd S = o_icmpge 104 78 call lo st bd S (m_W1 (m_lk cd_L_passes) call r) r := m_W1.iff rfl mm_L_passes
set_option maxRecDepth 20000 in
theorem st_L_passes_78 {call : m_call} {r : m_R → m_S → Prop} {lo : m_L} {st : List Value} {bd : Nat × Nat} {S : m_S} : m_W1 (m_lk cd_L_passes) call r 78 lo st bd S = o_lload 7 80 call lo st bd S (m_W1 (m_lk cd_L_passes) call r) r := m_W1.iff rfl mm_L_passes
set_option maxRecDepth 20000 in
theorem st_L_passes_80 {call : m_call} {r : m_R → m_S → Prop} {lo : m_L} {st : List Value} {bd : Nat × Nat} {S : m_S} : m_W1 (m_lk cd_L_passes) call r 80 lo st bd S = o_aload 0 81 call lo st bd S (m_W1 (m_lk cd_L_passes) call r) r := m_W1.iff rfl mm_L_passes
set_option maxRecDepth 20000 in
theorem st_L_passes_81 {call : m_call} {r : m_R → m_S → Prop} {lo : m_L} {st : List Value} {bd : Nat × Nat} {S : m_S} : m_W1 (m_lk cd_L_passes) call r 81 lo st bd S = o_iload 10 83 call lo st bd S (m_W1 (m_lk cd_L_passes) call r) r := m_W1.iff rfl mm_L_passes
set_option maxRecDepth 20000 in
theorem st_L_passes_83 {call : m_call} {r : m_R → m_S → Prop} {lo : m_L} {st : List Value} {bd : Nat × Nat} {S : m_S} : m_W1 (m_lk cd_L_passes) call r 83 lo st bd S = o_const (6) 85 call lo st bd S (m_W1 (m_lk cd_L_passes) call r) r := m_W1.iff rfl mm_L_passes
set_option maxRecDepth 20000 in
theorem st_L_passes_85 {call : m_call} {r : m_R → m_S → Prop} {lo : m_L} {st : List Value} {bd : Nat × Nat} {S : m_S} : m_W1 (m_lk cd_L_passes) call r 85 lo st bd S = o_div (fun x y => x / y) 86 call lo st bd S (m_W1 (m_lk cd_L_passes) call r) r := m_W1.iff rfl mm_L_passes
set_option maxRecDepth 20000 in
theorem st_L_passes_86 {call : m_call} {r : m_R → m_S → Prop} {lo : m_L} {st : List Value} {bd : Nat × Nat} {S : m_S} : m_W1 (m_lk cd_L_passes) call r 86 lo st bd S = o_iload 10 88 call lo st bd S (m_W1 (m_lk cd_L_passes) call r) r := m_W1.iff rfl mm_L_passes
set_option maxRecDepth 20000 in
theorem st_L_passes_88 {call : m_call} {r : m_R → m_S → Prop} {lo : m_L} {st : List Value} {bd : Nat × Nat} {S : m_S} : m_W1 (m_lk cd_L_passes) call r 88 lo st bd S = o_const (6) 90 call lo st bd S (m_W1 (m_lk cd_L_passes) call r) r := m_W1.iff rfl mm_L_passes
set_option maxRecDepth 20000 in
theorem st_L_passes_90 {call : m_call} {r : m_R → m_S → Prop} {lo : m_L} {st : List Value} {bd : Nat × Nat} {S : m_S} : m_W1 (m_lk cd_L_passes) call r 90 lo st bd S = o_div (fun x y => x - x / y * y) 91 call lo st bd S (m_W1 (m_lk cd_L_passes) call r) r := m_W1.iff rfl mm_L_passes
set_option maxRecDepth 20000 in
theorem st_L_passes_91 {call : m_call} {r : m_R → m_S → Prop} {lo : m_L} {st : List Value} {bd : Nat × Nat} {S : m_S} : m_W1 (m_lk cd_L_passes) call r 91 lo st bd S = o_call 91 3 2 12 94 call lo st bd S (m_W1 (m_lk cd_L_passes) call r) r := m_W1.iff rfl mm_L_passes
set_option maxRecDepth 20000 in
theorem st_L_passes_94 {call : m_call} {r : m_R → m_S → Prop} {lo : m_L} {st : List Value} {bd : Nat × Nat} {S : m_S} : m_W1 (m_lk cd_L_passes) call r 94 lo st bd S = o_i2l 95 call lo st bd S (m_W1 (m_lk cd_L_passes) call r) r := m_W1.iff rfl mm_L_passes
set_option maxRecDepth 20000 in
theorem st_L_passes_95 {call : m_call} {r : m_R → m_S → Prop} {lo : m_L} {st : List Value} {bd : Nat × Nat} {S : m_S} : m_W1 (m_lk cd_L_passes) call r 95 lo st bd S = o_lbin (fun x y => x + y) 96 call lo st bd S (m_W1 (m_lk cd_L_passes) call r) r := m_W1.iff rfl mm_L_passes
set_option maxRecDepth 20000 in
theorem st_L_passes_96 {call : m_call} {r : m_R → m_S → Prop} {lo : m_L} {st : List Value} {bd : Nat × Nat} {S : m_S} : m_W1 (m_lk cd_L_passes) call r 96 lo st bd S = o_lstore 7 98 call lo st bd S (m_W1 (m_lk cd_L_passes) call r) r := m_W1.iff rfl mm_L_passes
set_option maxRecDepth 20000 in
theorem st_L_passes_98 {call : m_call} {r : m_R → m_S → Prop} {lo : m_L} {st : List Value} {bd : Nat × Nat} {S : m_S} : m_W1 (m_lk cd_L_passes) call r 98 lo st bd S = o_iincW 10 (1) 101 call lo st bd S (m_W1 (m_lk cd_L_passes) call r) r := m_W1.iff rfl mm_L_passes
set_option maxRecDepth 20000 in
theorem st_L_passes_101 {call : m_call} {r : m_R → m_S → Prop} {lo : m_L} {st : List Value} {bd : Nat × Nat} {S : m_S} : m_W1 (m_lk cd_L_passes) call r 101 lo st bd S = o_goto 71 call lo st bd S (m_W1 (m_lk cd_L_passes) call r) r := m_W1.iff rfl mm_L_passes
set_option maxRecDepth 20000 in
theorem st_L_passes_104 {call : m_call} {r : m_R → m_S → Prop} {lo : m_L} {st : List Value} {bd : Nat × Nat} {S : m_S} : m_W1 (m_lk cd_L_passes) call r 104 lo st bd S = o_aload 1 105 call lo st bd S (m_W1 (m_lk cd_L_passes) call r) r := m_W1.iff rfl mm_L_passes
set_option maxRecDepth 20000 in
theorem st_L_passes_105 {call : m_call} {r : m_R → m_S → Prop} {lo : m_L} {st : List Value} {bd : Nat × Nat} {S : m_S} : m_W1 (m_lk cd_L_passes) call r 105 lo st bd S = o_const (4) 106 call lo st bd S (m_W1 (m_lk cd_L_passes) call r) r := m_W1.iff rfl mm_L_passes
set_option maxRecDepth 20000 in
theorem st_L_passes_106 {call : m_call} {r : m_R → m_S → Prop} {lo : m_L} {st : List Value} {bd : Nat × Nat} {S : m_S} : m_W1 (m_lk cd_L_passes) call r 106 lo st bd S = o_dup2 107 call lo st bd S (m_W1 (m_lk cd_L_passes) call r) r := m_W1.iff rfl mm_L_passes
set_option maxRecDepth 20000 in
theorem st_L_passes_107 {call : m_call} {r : m_R → m_S → Prop} {lo : m_L} {st : List Value} {bd : Nat × Nat} {S : m_S} : m_W1 (m_lk cd_L_passes) call r 107 lo st bd S = o_iald 0 108 call lo st bd S (m_W1 (m_lk cd_L_passes) call r) r := m_W1.iff rfl mm_L_passes
set_option maxRecDepth 20000 in
theorem st_L_passes_108 {call : m_call} {r : m_R → m_S → Prop} {lo : m_L} {st : List Value} {bd : Nat × Nat} {S : m_S} : m_W1 (m_lk cd_L_passes) call r 108 lo st bd S = o_const (1) 109 call lo st bd S (m_W1 (m_lk cd_L_passes) call r) r := m_W1.iff rfl mm_L_passes
set_option maxRecDepth 20000 in
theorem st_L_passes_109 {call : m_call} {r : m_R → m_S → Prop} {lo : m_L} {st : List Value} {bd : Nat × Nat} {S : m_S} : m_W1 (m_lk cd_L_passes) call r 109 lo st bd S = o_bin (fun x y => x + y) 110 call lo st bd S (m_W1 (m_lk cd_L_passes) call r) r := m_W1.iff rfl mm_L_passes
set_option maxRecDepth 20000 in
theorem st_L_passes_110 {call : m_call} {r : m_R → m_S → Prop} {lo : m_L} {st : List Value} {bd : Nat × Nat} {S : m_S} : m_W1 (m_lk cd_L_passes) call r 110 lo st bd S = o_iast 111 call lo st bd S (m_W1 (m_lk cd_L_passes) call r) r := m_W1.iff rfl mm_L_passes
set_option maxRecDepth 20000 in
theorem st_L_passes_111 {call : m_call} {r : m_R → m_S → Prop} {lo : m_L} {st : List Value} {bd : Nat × Nat} {S : m_S} : m_W1 (m_lk cd_L_passes) call r 111 lo st bd S = o_aload 0 112 call lo st bd S (m_W1 (m_lk cd_L_passes) call r) r := m_W1.iff rfl mm_L_passes
set_option maxRecDepth 20000 in
theorem st_L_passes_112 {call : m_call} {r : m_R → m_S → Prop} {lo : m_L} {st : List Value} {bd : Nat × Nat} {S : m_S} : m_W1 (m_lk cd_L_passes) call r 112 lo st bd S = o_const (1) 113 call lo st bd S (m_W1 (m_lk cd_L_passes) call r) r := m_W1.iff rfl mm_L_passes
set_option maxRecDepth 20000 in
theorem st_L_passes_113 {call : m_call} {r : m_R → m_S → Prop} {lo : m_L} {st : List Value} {bd : Nat × Nat} {S : m_S} : m_W1 (m_lk cd_L_passes) call r 113 lo st bd S = o_call 86 2 2 12 116 call lo st bd S (m_W1 (m_lk cd_L_passes) call r) r := m_W1.iff rfl mm_L_passes
set_option maxRecDepth 20000 in
theorem st_L_passes_116 {call : m_call} {r : m_R → m_S → Prop} {lo : m_L} {st : List Value} {bd : Nat × Nat} {S : m_S} : m_W1 (m_lk cd_L_passes) call r 116 lo st bd S = o_aload 1 117 call lo st bd S (m_W1 (m_lk cd_L_passes) call r) r := m_W1.iff rfl mm_L_passes
set_option maxRecDepth 20000 in
theorem st_L_passes_117 {call : m_call} {r : m_R → m_S → Prop} {lo : m_L} {st : List Value} {bd : Nat × Nat} {S : m_S} : m_W1 (m_lk cd_L_passes) call r 117 lo st bd S = o_const (4) 118 call lo st bd S (m_W1 (m_lk cd_L_passes) call r) r := m_W1.iff rfl mm_L_passes
set_option maxRecDepth 20000 in
theorem st_L_passes_118 {call : m_call} {r : m_R → m_S → Prop} {lo : m_L} {st : List Value} {bd : Nat × Nat} {S : m_S} : m_W1 (m_lk cd_L_passes) call r 118 lo st bd S = o_iald 0 119 call lo st bd S (m_W1 (m_lk cd_L_passes) call r) r := m_W1.iff rfl mm_L_passes
set_option maxRecDepth 20000 in
theorem st_L_passes_119 {call : m_call} {r : m_R → m_S → Prop} {lo : m_L} {st : List Value} {bd : Nat × Nat} {S : m_S} : m_W1 (m_lk cd_L_passes) call r 119 lo st bd S = o_icmpne 126 122 call lo st bd S (m_W1 (m_lk cd_L_passes) call r) r := m_W1.iff rfl mm_L_passes
set_option maxRecDepth 20000 in
theorem st_L_passes_122 {call : m_call} {r : m_R → m_S → Prop} {lo : m_L} {st : List Value} {bd : Nat × Nat} {S : m_S} : m_W1 (m_lk cd_L_passes) call r 122 lo st bd S = o_const (1) 123 call lo st bd S (m_W1 (m_lk cd_L_passes) call r) r := m_W1.iff rfl mm_L_passes
set_option maxRecDepth 20000 in
theorem st_L_passes_123 {call : m_call} {r : m_R → m_S → Prop} {lo : m_L} {st : List Value} {bd : Nat × Nat} {S : m_S} : m_W1 (m_lk cd_L_passes) call r 123 lo st bd S = o_goto 127 call lo st bd S (m_W1 (m_lk cd_L_passes) call r) r := m_W1.iff rfl mm_L_passes
set_option maxRecDepth 20000 in
theorem st_L_passes_126 {call : m_call} {r : m_R → m_S → Prop} {lo : m_L} {st : List Value} {bd : Nat × Nat} {S : m_S} : m_W1 (m_lk cd_L_passes) call r 126 lo st bd S = o_const (0) 127 call lo st bd S (m_W1 (m_lk cd_L_passes) call r) r := m_W1.iff rfl mm_L_passes
set_option maxRecDepth 20000 in
theorem st_L_passes_127 {call : m_call} {r : m_R → m_S → Prop} {lo : m_L} {st : List Value} {bd : Nat × Nat} {S : m_S} : m_W1 (m_lk cd_L_passes) call r 127 lo st bd S = o_istW 10 129 call lo st bd S (m_W1 (m_lk cd_L_passes) call r) r := m_W1.iff rfl mm_L_passes
set_option maxRecDepth 20000 in
theorem st_L_passes_129 {call : m_call} {r : m_R → m_S → Prop} {lo : m_L} {st : List Value} {bd : Nat × Nat} {S : m_S} : m_W1 (m_lk cd_L_passes) call r 129 lo st bd S = o_const (10) 131 call lo st bd S (m_W1 (m_lk cd_L_passes) call r) r := m_W1.iff rfl mm_L_passes
set_option maxRecDepth 20000 in
theorem st_L_passes_131 {call : m_call} {r : m_R → m_S → Prop} {lo : m_L} {st : List Value} {bd : Nat × Nat} {S : m_S} : m_W1 (m_lk cd_L_passes) call r 131 lo st bd S = o_newi 0 10 133 call lo st bd S (m_W1 (m_lk cd_L_passes) call r) r := m_W1.iff rfl mm_L_passes
set_option maxRecDepth 20000 in
theorem st_L_passes_133 {call : m_call} {r : m_R → m_S → Prop} {lo : m_L} {st : List Value} {bd : Nat × Nat} {S : m_S} : m_W1 (m_lk cd_L_passes) call r 133 lo st bd S = o_astW 11 135 call lo st bd S (m_W1 (m_lk cd_L_passes) call r) r := m_W1.iff rfl mm_L_passes
set_option maxRecDepth 20000 in
theorem st_L_passes_135 {call : m_call} {r : m_R → m_S → Prop} {lo : m_L} {st : List Value} {bd : Nat × Nat} {S : m_S} : m_W1 (m_lk cd_L_passes) call r 135 lo st bd S = o_lconst 0 136 call lo st bd S (m_W1 (m_lk cd_L_passes) call r) r := m_W1.iff rfl mm_L_passes
set_option maxRecDepth 20000 in
theorem st_L_passes_136 {call : m_call} {r : m_R → m_S → Prop} {lo : m_L} {st : List Value} {bd : Nat × Nat} {S : m_S} : m_W1 (m_lk cd_L_passes) call r 136 lo st bd S = o_lstore 12 138 call lo st bd S (m_W1 (m_lk cd_L_passes) call r) r := m_W1.iff rfl mm_L_passes
set_option maxRecDepth 20000 in
theorem st_L_passes_138 {call : m_call} {r : m_R → m_S → Prop} {lo : m_L} {st : List Value} {bd : Nat × Nat} {S : m_S} : m_W1 (m_lk cd_L_passes) call r 138 lo st bd S = o_const (0) 139 call lo st bd S (m_W1 (m_lk cd_L_passes) call r) r := m_W1.iff rfl mm_L_passes
set_option maxRecDepth 20000 in
theorem st_L_passes_139 {call : m_call} {r : m_R → m_S → Prop} {lo : m_L} {st : List Value} {bd : Nat × Nat} {S : m_S} : m_W1 (m_lk cd_L_passes) call r 139 lo st bd S = o_istW 14 141 call lo st bd S (m_W1 (m_lk cd_L_passes) call r) r := m_W1.iff rfl mm_L_passes
set_option maxRecDepth 20000 in
theorem st_L_passes_141 {call : m_call} {r : m_R → m_S → Prop} {lo : m_L} {st : List Value} {bd : Nat × Nat} {S : m_S} : m_W1 (m_lk cd_L_passes) call r 141 lo st bd S = o_iload 14 143 call lo st bd S (m_W1 (m_lk cd_L_passes) call r) r := m_W1.iff rfl mm_L_passes
set_option maxRecDepth 20000 in
theorem st_L_passes_143 {call : m_call} {r : m_R → m_S → Prop} {lo : m_L} {st : List Value} {bd : Nat × Nat} {S : m_S} : m_W1 (m_lk cd_L_passes) call r 143 lo st bd S = o_aload 1 144 call lo st bd S (m_W1 (m_lk cd_L_passes) call r) r := m_W1.iff rfl mm_L_passes
set_option maxRecDepth 20000 in
theorem st_L_passes_144 {call : m_call} {r : m_R → m_S → Prop} {lo : m_L} {st : List Value} {bd : Nat × Nat} {S : m_S} : m_W1 (m_lk cd_L_passes) call r 144 lo st bd S = o_const (1) 145 call lo st bd S (m_W1 (m_lk cd_L_passes) call r) r := m_W1.iff rfl mm_L_passes
set_option maxRecDepth 20000 in
theorem st_L_passes_145 {call : m_call} {r : m_R → m_S → Prop} {lo : m_L} {st : List Value} {bd : Nat × Nat} {S : m_S} : m_W1 (m_lk cd_L_passes) call r 145 lo st bd S = o_iald 0 146 call lo st bd S (m_W1 (m_lk cd_L_passes) call r) r := m_W1.iff rfl mm_L_passes
set_option maxRecDepth 20000 in
theorem st_L_passes_146 {call : m_call} {r : m_R → m_S → Prop} {lo : m_L} {st : List Value} {bd : Nat × Nat} {S : m_S} : m_W1 (m_lk cd_L_passes) call r 146 lo st bd S = o_icmpge 346 149 call lo st bd S (m_W1 (m_lk cd_L_passes) call r) r := m_W1.iff rfl mm_L_passes
set_option maxRecDepth 20000 in
theorem st_L_passes_149 {call : m_call} {r : m_R → m_S → Prop} {lo : m_L} {st : List Value} {bd : Nat × Nat} {S : m_S} : m_W1 (m_lk cd_L_passes) call r 149 lo st bd S = o_aload 0 150 call lo st bd S (m_W1 (m_lk cd_L_passes) call r) r := m_W1.iff rfl mm_L_passes
set_option maxRecDepth 20000 in
theorem st_L_passes_150 {call : m_call} {r : m_R → m_S → Prop} {lo : m_L} {st : List Value} {bd : Nat × Nat} {S : m_S} : m_W1 (m_lk cd_L_passes) call r 150 lo st bd S = o_iload 14 152 call lo st bd S (m_W1 (m_lk cd_L_passes) call r) r := m_W1.iff rfl mm_L_passes
set_option maxRecDepth 20000 in
theorem st_L_passes_152 {call : m_call} {r : m_R → m_S → Prop} {lo : m_L} {st : List Value} {bd : Nat × Nat} {S : m_S} : m_W1 (m_lk cd_L_passes) call r 152 lo st bd S = o_call 89 2 1 6 155 call lo st bd S (m_W1 (m_lk cd_L_passes) call r) r := m_W1.iff rfl mm_L_passes
set_option maxRecDepth 20000 in
theorem st_L_passes_155 {call : m_call} {r : m_R → m_S → Prop} {lo : m_L} {st : List Value} {bd : Nat × Nat} {S : m_S} : m_W1 (m_lk cd_L_passes) call r 155 lo st bd S = o_istW 15 157 call lo st bd S (m_W1 (m_lk cd_L_passes) call r) r := m_W1.iff rfl mm_L_passes
set_option maxRecDepth 20000 in
theorem st_L_passes_157 {call : m_call} {r : m_R → m_S → Prop} {lo : m_L} {st : List Value} {bd : Nat × Nat} {S : m_S} : m_W1 (m_lk cd_L_passes) call r 157 lo st bd S = o_aload 0 158 call lo st bd S (m_W1 (m_lk cd_L_passes) call r) r := m_W1.iff rfl mm_L_passes
set_option maxRecDepth 20000 in
theorem st_L_passes_158 {call : m_call} {r : m_R → m_S → Prop} {lo : m_L} {st : List Value} {bd : Nat × Nat} {S : m_S} : m_W1 (m_lk cd_L_passes) call r 158 lo st bd S = o_iload 14 160 call lo st bd S (m_W1 (m_lk cd_L_passes) call r) r := m_W1.iff rfl mm_L_passes
set_option maxRecDepth 20000 in
theorem st_L_passes_160 {call : m_call} {r : m_R → m_S → Prop} {lo : m_L} {st : List Value} {bd : Nat × Nat} {S : m_S} : m_W1 (m_lk cd_L_passes) call r 160 lo st bd S = o_call 90 2 1 6 163 call lo st bd S (m_W1 (m_lk cd_L_passes) call r) r := m_W1.iff rfl mm_L_passes
set_option maxRecDepth 20000 in
theorem st_L_passes_163 {call : m_call} {r : m_R → m_S → Prop} {lo : m_L} {st : List Value} {bd : Nat × Nat} {S : m_S} : m_W1 (m_lk cd_L_passes) call r 163 lo st bd S = o_istW 16 165 call lo st bd S (m_W1 (m_lk cd_L_passes) call r) r := m_W1.iff rfl mm_L_passes
set_option maxRecDepth 20000 in
theorem st_L_passes_165 {call : m_call} {r : m_R → m_S → Prop} {lo : m_L} {st : List Value} {bd : Nat × Nat} {S : m_S} : m_W1 (m_lk cd_L_passes) call r 165 lo st bd S = o_aload 3 166 call lo st bd S (m_W1 (m_lk cd_L_passes) call r) r := m_W1.iff rfl mm_L_passes
set_option maxRecDepth 20000 in
theorem st_L_passes_166 {call : m_call} {r : m_R → m_S → Prop} {lo : m_L} {st : List Value} {bd : Nat × Nat} {S : m_S} : m_W1 (m_lk cd_L_passes) call r 166 lo st bd S = o_const (4) 167 call lo st bd S (m_W1 (m_lk cd_L_passes) call r) r := m_W1.iff rfl mm_L_passes
set_option maxRecDepth 20000 in
theorem st_L_passes_167 {call : m_call} {r : m_R → m_S → Prop} {lo : m_L} {st : List Value} {bd : Nat × Nat} {S : m_S} : m_W1 (m_lk cd_L_passes) call r 167 lo st bd S = o_iload 14 169 call lo st bd S (m_W1 (m_lk cd_L_passes) call r) r := m_W1.iff rfl mm_L_passes
set_option maxRecDepth 20000 in
theorem st_L_passes_169 {call : m_call} {r : m_R → m_S → Prop} {lo : m_L} {st : List Value} {bd : Nat × Nat} {S : m_S} : m_W1 (m_lk cd_L_passes) call r 169 lo st bd S = o_bin (fun x y => x * y) 170 call lo st bd S (m_W1 (m_lk cd_L_passes) call r) r := m_W1.iff rfl mm_L_passes
set_option maxRecDepth 20000 in
theorem st_L_passes_170 {call : m_call} {r : m_R → m_S → Prop} {lo : m_L} {st : List Value} {bd : Nat × Nat} {S : m_S} : m_W1 (m_lk cd_L_passes) call r 170 lo st bd S = o_const (3) 171 call lo st bd S (m_W1 (m_lk cd_L_passes) call r) r := m_W1.iff rfl mm_L_passes
set_option maxRecDepth 20000 in
theorem st_L_passes_171 {call : m_call} {r : m_R → m_S → Prop} {lo : m_L} {st : List Value} {bd : Nat × Nat} {S : m_S} : m_W1 (m_lk cd_L_passes) call r 171 lo st bd S = o_bin (fun x y => x + y) 172 call lo st bd S (m_W1 (m_lk cd_L_passes) call r) r := m_W1.iff rfl mm_L_passes
set_option maxRecDepth 20000 in
theorem st_L_passes_172 {call : m_call} {r : m_R → m_S → Prop} {lo : m_L} {st : List Value} {bd : Nat × Nat} {S : m_S} : m_W1 (m_lk cd_L_passes) call r 172 lo st bd S = o_iald 0 173 call lo st bd S (m_W1 (m_lk cd_L_passes) call r) r := m_W1.iff rfl mm_L_passes
set_option maxRecDepth 20000 in
theorem st_L_passes_173 {call : m_call} {r : m_R → m_S → Prop} {lo : m_L} {st : List Value} {bd : Nat × Nat} {S : m_S} : m_W1 (m_lk cd_L_passes) call r 173 lo st bd S = o_istW 17 175 call lo st bd S (m_W1 (m_lk cd_L_passes) call r) r := m_W1.iff rfl mm_L_passes
set_option maxRecDepth 20000 in
theorem st_L_passes_175 {call : m_call} {r : m_R → m_S → Prop} {lo : m_L} {st : List Value} {bd : Nat × Nat} {S : m_S} : m_W1 (m_lk cd_L_passes) call r 175 lo st bd S = o_const (0) 176 call lo st bd S (m_W1 (m_lk cd_L_passes) call r) r := m_W1.iff rfl mm_L_passes
set_option maxRecDepth 20000 in
theorem st_L_passes_176 {call : m_call} {r : m_R → m_S → Prop} {lo : m_L} {st : List Value} {bd : Nat × Nat} {S : m_S} : m_W1 (m_lk cd_L_passes) call r 176 lo st bd S = o_istW 18 178 call lo st bd S (m_W1 (m_lk cd_L_passes) call r) r := m_W1.iff rfl mm_L_passes
set_option maxRecDepth 20000 in
theorem st_L_passes_178 {call : m_call} {r : m_R → m_S → Prop} {lo : m_L} {st : List Value} {bd : Nat × Nat} {S : m_S} : m_W1 (m_lk cd_L_passes) call r 178 lo st bd S = o_const (0) 179 call lo st bd S (m_W1 (m_lk cd_L_passes) call r) r := m_W1.iff rfl mm_L_passes
set_option maxRecDepth 20000 in
theorem st_L_passes_179 {call : m_call} {r : m_R → m_S → Prop} {lo : m_L} {st : List Value} {bd : Nat × Nat} {S : m_S} : m_W1 (m_lk cd_L_passes) call r 179 lo st bd S = o_istW 19 181 call lo st bd S (m_W1 (m_lk cd_L_passes) call r) r := m_W1.iff rfl mm_L_passes
set_option maxRecDepth 20000 in
theorem st_L_passes_181 {call : m_call} {r : m_R → m_S → Prop} {lo : m_L} {st : List Value} {bd : Nat × Nat} {S : m_S} : m_W1 (m_lk cd_L_passes) call r 181 lo st bd S = o_iload 19 183 call lo st bd S (m_W1 (m_lk cd_L_passes) call r) r := m_W1.iff rfl mm_L_passes
set_option maxRecDepth 20000 in
theorem st_L_passes_183 {call : m_call} {r : m_R → m_S → Prop} {lo : m_L} {st : List Value} {bd : Nat × Nat} {S : m_S} : m_W1 (m_lk cd_L_passes) call r 183 lo st bd S = o_aload 1 184 call lo st bd S (m_W1 (m_lk cd_L_passes) call r) r := m_W1.iff rfl mm_L_passes
set_option maxRecDepth 20000 in
theorem st_L_passes_184 {call : m_call} {r : m_R → m_S → Prop} {lo : m_L} {st : List Value} {bd : Nat × Nat} {S : m_S} : m_W1 (m_lk cd_L_passes) call r 184 lo st bd S = o_const (0) 185 call lo st bd S (m_W1 (m_lk cd_L_passes) call r) r := m_W1.iff rfl mm_L_passes
set_option maxRecDepth 20000 in
theorem st_L_passes_185 {call : m_call} {r : m_R → m_S → Prop} {lo : m_L} {st : List Value} {bd : Nat × Nat} {S : m_S} : m_W1 (m_lk cd_L_passes) call r 185 lo st bd S = o_iald 0 186 call lo st bd S (m_W1 (m_lk cd_L_passes) call r) r := m_W1.iff rfl mm_L_passes
set_option maxRecDepth 20000 in
theorem st_L_passes_186 {call : m_call} {r : m_R → m_S → Prop} {lo : m_L} {st : List Value} {bd : Nat × Nat} {S : m_S} : m_W1 (m_lk cd_L_passes) call r 186 lo st bd S = o_icmpge 252 189 call lo st bd S (m_W1 (m_lk cd_L_passes) call r) r := m_W1.iff rfl mm_L_passes
set_option maxRecDepth 20000 in
theorem st_L_passes_189 {call : m_call} {r : m_R → m_S → Prop} {lo : m_L} {st : List Value} {bd : Nat × Nat} {S : m_S} : m_W1 (m_lk cd_L_passes) call r 189 lo st bd S = o_iload 15 191 call lo st bd S (m_W1 (m_lk cd_L_passes) call r) r := m_W1.iff rfl mm_L_passes
set_option maxRecDepth 20000 in
theorem st_L_passes_191 {call : m_call} {r : m_R → m_S → Prop} {lo : m_L} {st : List Value} {bd : Nat × Nat} {S : m_S} : m_W1 (m_lk cd_L_passes) call r 191 lo st bd S = o_iflt 209 194 call lo st bd S (m_W1 (m_lk cd_L_passes) call r) r := m_W1.iff rfl mm_L_passes
set_option maxRecDepth 20000 in
theorem st_L_passes_194 {call : m_call} {r : m_R → m_S → Prop} {lo : m_L} {st : List Value} {bd : Nat × Nat} {S : m_S} : m_W1 (m_lk cd_L_passes) call r 194 lo st bd S = o_iload 15 196 call lo st bd S (m_W1 (m_lk cd_L_passes) call r) r := m_W1.iff rfl mm_L_passes
set_option maxRecDepth 20000 in
theorem st_L_passes_196 {call : m_call} {r : m_R → m_S → Prop} {lo : m_L} {st : List Value} {bd : Nat × Nat} {S : m_S} : m_W1 (m_lk cd_L_passes) call r 196 lo st bd S = o_iload 19 198 call lo st bd S (m_W1 (m_lk cd_L_passes) call r) r := m_W1.iff rfl mm_L_passes
set_option maxRecDepth 20000 in
theorem st_L_passes_198 {call : m_call} {r : m_R → m_S → Prop} {lo : m_L} {st : List Value} {bd : Nat × Nat} {S : m_S} : m_W1 (m_lk cd_L_passes) call r 198 lo st bd S = o_bin (fun x y => x >>> (y &&& 31)) 199 call lo st bd S (m_W1 (m_lk cd_L_passes) call r) r := m_W1.iff rfl mm_L_passes
set_option maxRecDepth 20000 in
theorem st_L_passes_199 {call : m_call} {r : m_R → m_S → Prop} {lo : m_L} {st : List Value} {bd : Nat × Nat} {S : m_S} : m_W1 (m_lk cd_L_passes) call r 199 lo st bd S = o_const (1) 200 call lo st bd S (m_W1 (m_lk cd_L_passes) call r) r := m_W1.iff rfl mm_L_passes
set_option maxRecDepth 20000 in
theorem st_L_passes_200 {call : m_call} {r : m_R → m_S → Prop} {lo : m_L} {st : List Value} {bd : Nat × Nat} {S : m_S} : m_W1 (m_lk cd_L_passes) call r 200 lo st bd S = o_bin (fun x y => x &&& y) 201 call lo st bd S (m_W1 (m_lk cd_L_passes) call r) r := m_W1.iff rfl mm_L_passes
set_option maxRecDepth 20000 in
theorem st_L_passes_201 {call : m_call} {r : m_R → m_S → Prop} {lo : m_L} {st : List Value} {bd : Nat × Nat} {S : m_S} : m_W1 (m_lk cd_L_passes) call r 201 lo st bd S = o_const (1) 202 call lo st bd S (m_W1 (m_lk cd_L_passes) call r) r := m_W1.iff rfl mm_L_passes
set_option maxRecDepth 20000 in
theorem st_L_passes_202 {call : m_call} {r : m_R → m_S → Prop} {lo : m_L} {st : List Value} {bd : Nat × Nat} {S : m_S} : m_W1 (m_lk cd_L_passes) call r 202 lo st bd S = o_icmpne 209 205 call lo st bd S (m_W1 (m_lk cd_L_passes) call r) r := m_W1.iff rfl mm_L_passes
set_option maxRecDepth 20000 in
theorem st_L_passes_205 {call : m_call} {r : m_R → m_S → Prop} {lo : m_L} {st : List Value} {bd : Nat × Nat} {S : m_S} : m_W1 (m_lk cd_L_passes) call r 205 lo st bd S = o_const (1) 206 call lo st bd S (m_W1 (m_lk cd_L_passes) call r) r := m_W1.iff rfl mm_L_passes
set_option maxRecDepth 20000 in
theorem st_L_passes_206 {call : m_call} {r : m_R → m_S → Prop} {lo : m_L} {st : List Value} {bd : Nat × Nat} {S : m_S} : m_W1 (m_lk cd_L_passes) call r 206 lo st bd S = o_goto 210 call lo st bd S (m_W1 (m_lk cd_L_passes) call r) r := m_W1.iff rfl mm_L_passes
set_option maxRecDepth 20000 in
theorem st_L_passes_209 {call : m_call} {r : m_R → m_S → Prop} {lo : m_L} {st : List Value} {bd : Nat × Nat} {S : m_S} : m_W1 (m_lk cd_L_passes) call r 209 lo st bd S = o_const (0) 210 call lo st bd S (m_W1 (m_lk cd_L_passes) call r) r := m_W1.iff rfl mm_L_passes
set_option maxRecDepth 20000 in
theorem st_L_passes_210 {call : m_call} {r : m_R → m_S → Prop} {lo : m_L} {st : List Value} {bd : Nat × Nat} {S : m_S} : m_W1 (m_lk cd_L_passes) call r 210 lo st bd S = o_istW 20 212 call lo st bd S (m_W1 (m_lk cd_L_passes) call r) r := m_W1.iff rfl mm_L_passes
set_option maxRecDepth 20000 in
theorem st_L_passes_212 {call : m_call} {r : m_R → m_S → Prop} {lo : m_L} {st : List Value} {bd : Nat × Nat} {S : m_S} : m_W1 (m_lk cd_L_passes) call r 212 lo st bd S = o_aload 11 214 call lo st bd S (m_W1 (m_lk cd_L_passes) call r) r := m_W1.iff rfl mm_L_passes
set_option maxRecDepth 20000 in
theorem st_L_passes_214 {call : m_call} {r : m_R → m_S → Prop} {lo : m_L} {st : List Value} {bd : Nat × Nat} {S : m_S} : m_W1 (m_lk cd_L_passes) call r 214 lo st bd S = o_iload 19 216 call lo st bd S (m_W1 (m_lk cd_L_passes) call r) r := m_W1.iff rfl mm_L_passes
set_option maxRecDepth 20000 in
theorem st_L_passes_216 {call : m_call} {r : m_R → m_S → Prop} {lo : m_L} {st : List Value} {bd : Nat × Nat} {S : m_S} : m_W1 (m_lk cd_L_passes) call r 216 lo st bd S = o_dup2 217 call lo st bd S (m_W1 (m_lk cd_L_passes) call r) r := m_W1.iff rfl mm_L_passes
set_option maxRecDepth 20000 in
theorem st_L_passes_217 {call : m_call} {r : m_R → m_S → Prop} {lo : m_L} {st : List Value} {bd : Nat × Nat} {S : m_S} : m_W1 (m_lk cd_L_passes) call r 217 lo st bd S = o_iald 0 218 call lo st bd S (m_W1 (m_lk cd_L_passes) call r) r := m_W1.iff rfl mm_L_passes
set_option maxRecDepth 20000 in
theorem st_L_passes_218 {call : m_call} {r : m_R → m_S → Prop} {lo : m_L} {st : List Value} {bd : Nat × Nat} {S : m_S} : m_W1 (m_lk cd_L_passes) call r 218 lo st bd S = o_iload 20 220 call lo st bd S (m_W1 (m_lk cd_L_passes) call r) r := m_W1.iff rfl mm_L_passes
set_option maxRecDepth 20000 in
theorem st_L_passes_220 {call : m_call} {r : m_R → m_S → Prop} {lo : m_L} {st : List Value} {bd : Nat × Nat} {S : m_S} : m_W1 (m_lk cd_L_passes) call r 220 lo st bd S = o_ifeq 228 223 call lo st bd S (m_W1 (m_lk cd_L_passes) call r) r := m_W1.iff rfl mm_L_passes
set_option maxRecDepth 20000 in
theorem st_L_passes_223 {call : m_call} {r : m_R → m_S → Prop} {lo : m_L} {st : List Value} {bd : Nat × Nat} {S : m_S} : m_W1 (m_lk cd_L_passes) call r 223 lo st bd S = o_iload 17 225 call lo st bd S (m_W1 (m_lk cd_L_passes) call r) r := m_W1.iff rfl mm_L_passes
set_option maxRecDepth 20000 in
theorem st_L_passes_225 {call : m_call} {r : m_R → m_S → Prop} {lo : m_L} {st : List Value} {bd : Nat × Nat} {S : m_S} : m_W1 (m_lk cd_L_passes) call r 225 lo st bd S = o_goto 229 call lo st bd S (m_W1 (m_lk cd_L_passes) call r) r := m_W1.iff rfl mm_L_passes
set_option maxRecDepth 20000 in
theorem st_L_passes_228 {call : m_call} {r : m_R → m_S → Prop} {lo : m_L} {st : List Value} {bd : Nat × Nat} {S : m_S} : m_W1 (m_lk cd_L_passes) call r 228 lo st bd S = o_const (0) 229 call lo st bd S (m_W1 (m_lk cd_L_passes) call r) r := m_W1.iff rfl mm_L_passes
set_option maxRecDepth 20000 in
theorem st_L_passes_229 {call : m_call} {r : m_R → m_S → Prop} {lo : m_L} {st : List Value} {bd : Nat × Nat} {S : m_S} : m_W1 (m_lk cd_L_passes) call r 229 lo st bd S = o_bin (fun x y => x + y) 230 call lo st bd S (m_W1 (m_lk cd_L_passes) call r) r := m_W1.iff rfl mm_L_passes
set_option maxRecDepth 20000 in
theorem st_L_passes_230 {call : m_call} {r : m_R → m_S → Prop} {lo : m_L} {st : List Value} {bd : Nat × Nat} {S : m_S} : m_W1 (m_lk cd_L_passes) call r 230 lo st bd S = o_iast 231 call lo st bd S (m_W1 (m_lk cd_L_passes) call r) r := m_W1.iff rfl mm_L_passes
set_option maxRecDepth 20000 in
theorem st_L_passes_231 {call : m_call} {r : m_R → m_S → Prop} {lo : m_L} {st : List Value} {bd : Nat × Nat} {S : m_S} : m_W1 (m_lk cd_L_passes) call r 231 lo st bd S = o_iload 18 233 call lo st bd S (m_W1 (m_lk cd_L_passes) call r) r := m_W1.iff rfl mm_L_passes
set_option maxRecDepth 20000 in
theorem st_L_passes_233 {call : m_call} {r : m_R → m_S → Prop} {lo : m_L} {st : List Value} {bd : Nat × Nat} {S : m_S} : m_W1 (m_lk cd_L_passes) call r 233 lo st bd S = o_iload 20 235 call lo st bd S (m_W1 (m_lk cd_L_passes) call r) r := m_W1.iff rfl mm_L_passes
set_option maxRecDepth 20000 in
theorem st_L_passes_235 {call : m_call} {r : m_R → m_S → Prop} {lo : m_L} {st : List Value} {bd : Nat × Nat} {S : m_S} : m_W1 (m_lk cd_L_passes) call r 235 lo st bd S = o_ifeq 242 238 call lo st bd S (m_W1 (m_lk cd_L_passes) call r) r := m_W1.iff rfl mm_L_passes
set_option maxRecDepth 20000 in
theorem st_L_passes_238 {call : m_call} {r : m_R → m_S → Prop} {lo : m_L} {st : List Value} {bd : Nat × Nat} {S : m_S} : m_W1 (m_lk cd_L_passes) call r 238 lo st bd S = o_const (1) 239 call lo st bd S (m_W1 (m_lk cd_L_passes) call r) r := m_W1.iff rfl mm_L_passes
set_option maxRecDepth 20000 in
theorem st_L_passes_239 {call : m_call} {r : m_R → m_S → Prop} {lo : m_L} {st : List Value} {bd : Nat × Nat} {S : m_S} : m_W1 (m_lk cd_L_passes) call r 239 lo st bd S = o_goto 243 call lo st bd S (m_W1 (m_lk cd_L_passes) call r) r := m_W1.iff rfl mm_L_passes
set_option maxRecDepth 20000 in
theorem st_L_passes_242 {call : m_call} {r : m_R → m_S → Prop} {lo : m_L} {st : List Value} {bd : Nat × Nat} {S : m_S} : m_W1 (m_lk cd_L_passes) call r 242 lo st bd S = o_const (0) 243 call lo st bd S (m_W1 (m_lk cd_L_passes) call r) r := m_W1.iff rfl mm_L_passes
set_option maxRecDepth 20000 in
theorem st_L_passes_243 {call : m_call} {r : m_R → m_S → Prop} {lo : m_L} {st : List Value} {bd : Nat × Nat} {S : m_S} : m_W1 (m_lk cd_L_passes) call r 243 lo st bd S = o_bin (fun x y => x + y) 244 call lo st bd S (m_W1 (m_lk cd_L_passes) call r) r := m_W1.iff rfl mm_L_passes
set_option maxRecDepth 20000 in
theorem st_L_passes_244 {call : m_call} {r : m_R → m_S → Prop} {lo : m_L} {st : List Value} {bd : Nat × Nat} {S : m_S} : m_W1 (m_lk cd_L_passes) call r 244 lo st bd S = o_istW 18 246 call lo st bd S (m_W1 (m_lk cd_L_passes) call r) r := m_W1.iff rfl mm_L_passes
set_option maxRecDepth 20000 in
theorem st_L_passes_246 {call : m_call} {r : m_R → m_S → Prop} {lo : m_L} {st : List Value} {bd : Nat × Nat} {S : m_S} : m_W1 (m_lk cd_L_passes) call r 246 lo st bd S = o_iincW 19 (1) 249 call lo st bd S (m_W1 (m_lk cd_L_passes) call r) r := m_W1.iff rfl mm_L_passes
set_option maxRecDepth 20000 in
theorem st_L_passes_249 {call : m_call} {r : m_R → m_S → Prop} {lo : m_L} {st : List Value} {bd : Nat × Nat} {S : m_S} : m_W1 (m_lk cd_L_passes) call r 249 lo st bd S = o_goto 181 call lo st bd S (m_W1 (m_lk cd_L_passes) call r) r := m_W1.iff rfl mm_L_passes
set_option maxRecDepth 20000 in
theorem st_L_passes_252 {call : m_call} {r : m_R → m_S → Prop} {lo : m_L} {st : List Value} {bd : Nat × Nat} {S : m_S} : m_W1 (m_lk cd_L_passes) call r 252 lo st bd S = o_lload 12 254 call lo st bd S (m_W1 (m_lk cd_L_passes) call r) r := m_W1.iff rfl mm_L_passes
set_option maxRecDepth 20000 in
theorem st_L_passes_254 {call : m_call} {r : m_R → m_S → Prop} {lo : m_L} {st : List Value} {bd : Nat × Nat} {S : m_S} : m_W1 (m_lk cd_L_passes) call r 254 lo st bd S = o_lconst (200) 257 call lo st bd S (m_W1 (m_lk cd_L_passes) call r) r := m_W1.iff rfl mm_L_passes
set_option maxRecDepth 20000 in
theorem st_L_passes_257 {call : m_call} {r : m_R → m_S → Prop} {lo : m_L} {st : List Value} {bd : Nat × Nat} {S : m_S} : m_W1 (m_lk cd_L_passes) call r 257 lo st bd S = o_iload 16 259 call lo st bd S (m_W1 (m_lk cd_L_passes) call r) r := m_W1.iff rfl mm_L_passes
set_option maxRecDepth 20000 in
theorem st_L_passes_259 {call : m_call} {r : m_R → m_S → Prop} {lo : m_L} {st : List Value} {bd : Nat × Nat} {S : m_S} : m_W1 (m_lk cd_L_passes) call r 259 lo st bd S = o_i2l 260 call lo st bd S (m_W1 (m_lk cd_L_passes) call r) r := m_W1.iff rfl mm_L_passes
set_option maxRecDepth 20000 in
theorem st_L_passes_260 {call : m_call} {r : m_R → m_S → Prop} {lo : m_L} {st : List Value} {bd : Nat × Nat} {S : m_S} : m_W1 (m_lk cd_L_passes) call r 260 lo st bd S = o_lbin (fun x y => x * y) 261 call lo st bd S (m_W1 (m_lk cd_L_passes) call r) r := m_W1.iff rfl mm_L_passes
set_option maxRecDepth 20000 in
theorem st_L_passes_261 {call : m_call} {r : m_R → m_S → Prop} {lo : m_L} {st : List Value} {bd : Nat × Nat} {S : m_S} : m_W1 (m_lk cd_L_passes) call r 261 lo st bd S = o_lbin (fun x y => x + y) 262 call lo st bd S (m_W1 (m_lk cd_L_passes) call r) r := m_W1.iff rfl mm_L_passes
set_option maxRecDepth 20000 in
theorem st_L_passes_262 {call : m_call} {r : m_R → m_S → Prop} {lo : m_L} {st : List Value} {bd : Nat × Nat} {S : m_S} : m_W1 (m_lk cd_L_passes) call r 262 lo st bd S = o_lstore 12 264 call lo st bd S (m_W1 (m_lk cd_L_passes) call r) r := m_W1.iff rfl mm_L_passes
set_option maxRecDepth 20000 in
theorem st_L_passes_264 {call : m_call} {r : m_R → m_S → Prop} {lo : m_L} {st : List Value} {bd : Nat × Nat} {S : m_S} : m_W1 (m_lk cd_L_passes) call r 264 lo st bd S = o_iload 10 266 call lo st bd S (m_W1 (m_lk cd_L_passes) call r) r := m_W1.iff rfl mm_L_passes
set_option maxRecDepth 20000 in
theorem st_L_passes_266 {call : m_call} {r : m_R → m_S → Prop} {lo : m_L} {st : List Value} {bd : Nat × Nat} {S : m_S} : m_W1 (m_lk cd_L_passes) call r 266 lo st bd S = o_ifeq 337 269 call lo st bd S (m_W1 (m_lk cd_L_passes) call r) r := m_W1.iff rfl mm_L_passes
set_option maxRecDepth 20000 in
theorem st_L_passes_269 {call : m_call} {r : m_R → m_S → Prop} {lo : m_L} {st : List Value} {bd : Nat × Nat} {S : m_S} : m_W1 (m_lk cd_L_passes) call r 269 lo st bd S = o_iload 15 271 call lo st bd S (m_W1 (m_lk cd_L_passes) call r) r := m_W1.iff rfl mm_L_passes
set_option maxRecDepth 20000 in
theorem st_L_passes_271 {call : m_call} {r : m_R → m_S → Prop} {lo : m_L} {st : List Value} {bd : Nat × Nat} {S : m_S} : m_W1 (m_lk cd_L_passes) call r 271 lo st bd S = o_const (-1) 272 call lo st bd S (m_W1 (m_lk cd_L_passes) call r) r := m_W1.iff rfl mm_L_passes
set_option maxRecDepth 20000 in
theorem st_L_passes_272 {call : m_call} {r : m_R → m_S → Prop} {lo : m_L} {st : List Value} {bd : Nat × Nat} {S : m_S} : m_W1 (m_lk cd_L_passes) call r 272 lo st bd S = o_icmpne 283 275 call lo st bd S (m_W1 (m_lk cd_L_passes) call r) r := m_W1.iff rfl mm_L_passes
set_option maxRecDepth 20000 in
theorem st_L_passes_275 {call : m_call} {r : m_R → m_S → Prop} {lo : m_L} {st : List Value} {bd : Nat × Nat} {S : m_S} : m_W1 (m_lk cd_L_passes) call r 275 lo st bd S = o_iload 16 277 call lo st bd S (m_W1 (m_lk cd_L_passes) call r) r := m_W1.iff rfl mm_L_passes
set_option maxRecDepth 20000 in
theorem st_L_passes_277 {call : m_call} {r : m_R → m_S → Prop} {lo : m_L} {st : List Value} {bd : Nat × Nat} {S : m_S} : m_W1 (m_lk cd_L_passes) call r 277 lo st bd S = o_ifne 337 280 call lo st bd S (m_W1 (m_lk cd_L_passes) call r) r := m_W1.iff rfl mm_L_passes
set_option maxRecDepth 20000 in
theorem st_L_passes_280 {call : m_call} {r : m_R → m_S → Prop} {lo : m_L} {st : List Value} {bd : Nat × Nat} {S : m_S} : m_W1 (m_lk cd_L_passes) call r 280 lo st bd S = o_goto 333 call lo st bd S (m_W1 (m_lk cd_L_passes) call r) r := m_W1.iff rfl mm_L_passes
set_option maxRecDepth 20000 in
theorem st_L_passes_283 {call : m_call} {r : m_R → m_S → Prop} {lo : m_L} {st : List Value} {bd : Nat × Nat} {S : m_S} : m_W1 (m_lk cd_L_passes) call r 283 lo st bd S = o_iload 16 285 call lo st bd S (m_W1 (m_lk cd_L_passes) call r) r := m_W1.iff rfl mm_L_passes
set_option maxRecDepth 20000 in
theorem st_L_passes_285 {call : m_call} {r : m_R → m_S → Prop} {lo : m_L} {st : List Value} {bd : Nat × Nat} {S : m_S} : m_W1 (m_lk cd_L_passes) call r 285 lo st bd S = o_iflt 337 288 call lo st bd S (m_W1 (m_lk cd_L_passes) call r) r := m_W1.iff rfl mm_L_passes
set_option maxRecDepth 20000 in
theorem st_L_passes_288 {call : m_call} {r : m_R → m_S → Prop} {lo : m_L} {st : List Value} {bd : Nat × Nat} {S : m_S} : m_W1 (m_lk cd_L_passes) call r 288 lo st bd S = o_iload 16 290 call lo st bd S (m_W1 (m_lk cd_L_passes) call r) r := m_W1.iff rfl mm_L_passes
set_option maxRecDepth 20000 in
theorem st_L_passes_290 {call : m_call} {r : m_R → m_S → Prop} {lo : m_L} {st : List Value} {bd : Nat × Nat} {S : m_S} : m_W1 (m_lk cd_L_passes) call r 290 lo st bd S = o_iload 17 292 call lo st bd S (m_W1 (m_lk cd_L_passes) call r) r := m_W1.iff rfl mm_L_passes
set_option maxRecDepth 20000 in
theorem st_L_passes_292 {call : m_call} {r : m_R → m_S → Prop} {lo : m_L} {st : List Value} {bd : Nat × Nat} {S : m_S} : m_W1 (m_lk cd_L_passes) call r 292 lo st bd S = o_iload 18 294 call lo st bd S (m_W1 (m_lk cd_L_passes) call r) r := m_W1.iff rfl mm_L_passes
set_option maxRecDepth 20000 in
theorem st_L_passes_294 {call : m_call} {r : m_R → m_S → Prop} {lo : m_L} {st : List Value} {bd : Nat × Nat} {S : m_S} : m_W1 (m_lk cd_L_passes) call r 294 lo st bd S = o_bin (fun x y => x * y) 295 call lo st bd S (m_W1 (m_lk cd_L_passes) call r) r := m_W1.iff rfl mm_L_passes
set_option maxRecDepth 20000 in
theorem st_L_passes_295 {call : m_call} {r : m_R → m_S → Prop} {lo : m_L} {st : List Value} {bd : Nat × Nat} {S : m_S} : m_W1 (m_lk cd_L_passes) call r 295 lo st bd S = o_icmpgt 337 298 call lo st bd S (m_W1 (m_lk cd_L_passes) call r) r := m_W1.iff rfl mm_L_passes
set_option maxRecDepth 20000 in
theorem st_L_passes_298 {call : m_call} {r : m_R → m_S → Prop} {lo : m_L} {st : List Value} {bd : Nat × Nat} {S : m_S} : m_W1 (m_lk cd_L_passes) call r 298 lo st bd S = o_iload 15 300 call lo st bd S (m_W1 (m_lk cd_L_passes) call r) r := m_W1.iff rfl mm_L_passes
set_option maxRecDepth 20000 in
theorem st_L_passes_300 {call : m_call} {r : m_R → m_S → Prop} {lo : m_L} {st : List Value} {bd : Nat × Nat} {S : m_S} : m_W1 (m_lk cd_L_passes) call r 300 lo st bd S = o_iload 6 302 call lo st bd S (m_W1 (m_lk cd_L_passes) call r) r := m_W1.iff rfl mm_L_passes
set_option maxRecDepth 20000 in
theorem st_L_passes_302 {call : m_call} {r : m_R → m_S → Prop} {lo : m_L} {st : List Value} {bd : Nat × Nat} {S : m_S} : m_W1 (m_lk cd_L_passes) call r 302 lo st bd S = o_const (-1) 303 call lo st bd S (m_W1 (m_lk cd_L_passes) call r) r := m_W1.iff rfl mm_L_passes
set_option maxRecDepth 20000 in
theorem st_L_passes_303 {call : m_call} {r : m_R → m_S → Prop} {lo : m_L} {st : List Value} {bd : Nat × Nat} {S : m_S} : m_W1 (m_lk cd_L_passes) call r 303 lo st bd S = o_bin (fun x y => x ^^^ y) 304 call lo st bd S (m_W1 (m_lk cd_L_passes) call r) r := m_W1.iff rfl mm_L_passes
set_option maxRecDepth 20000 in
theorem st_L_passes_304 {call : m_call} {r : m_R → m_S → Prop} {lo : m_L} {st : List Value} {bd : Nat × Nat} {S : m_S} : m_W1 (m_lk cd_L_passes) call r 304 lo st bd S = o_bin (fun x y => x &&& y) 305 call lo st bd S (m_W1 (m_lk cd_L_passes) call r) r := m_W1.iff rfl mm_L_passes
set_option maxRecDepth 20000 in
theorem st_L_passes_305 {call : m_call} {r : m_R → m_S → Prop} {lo : m_L} {st : List Value} {bd : Nat × Nat} {S : m_S} : m_W1 (m_lk cd_L_passes) call r 305 lo st bd S = o_ifne 337 308 call lo st bd S (m_W1 (m_lk cd_L_passes) call r) r := m_W1.iff rfl mm_L_passes
set_option maxRecDepth 20000 in
theorem st_L_passes_308 {call : m_call} {r : m_R → m_S → Prop} {lo : m_L} {st : List Value} {bd : Nat × Nat} {S : m_S} : m_W1 (m_lk cd_L_passes) call r 308 lo st bd S = o_aload 2 309 call lo st bd S (m_W1 (m_lk cd_L_passes) call r) r := m_W1.iff rfl mm_L_passes
set_option maxRecDepth 20000 in
theorem st_L_passes_309 {call : m_call} {r : m_R → m_S → Prop} {lo : m_L} {st : List Value} {bd : Nat × Nat} {S : m_S} : m_W1 (m_lk cd_L_passes) call r 309 lo st bd S = o_iload 15 311 call lo st bd S (m_W1 (m_lk cd_L_passes) call r) r := m_W1.iff rfl mm_L_passes
set_option maxRecDepth 20000 in
theorem st_L_passes_311 {call : m_call} {r : m_R → m_S → Prop} {lo : m_L} {st : List Value} {bd : Nat × Nat} {S : m_S} : m_W1 (m_lk cd_L_passes) call r 311 lo st bd S = o_aload 3 312 call lo st bd S (m_W1 (m_lk cd_L_passes) call r) r := m_W1.iff rfl mm_L_passes
set_option maxRecDepth 20000 in
theorem st_L_passes_312 {call : m_call} {r : m_R → m_S → Prop} {lo : m_L} {st : List Value} {bd : Nat × Nat} {S : m_S} : m_W1 (m_lk cd_L_passes) call r 312 lo st bd S = o_const (4) 313 call lo st bd S (m_W1 (m_lk cd_L_passes) call r) r := m_W1.iff rfl mm_L_passes
set_option maxRecDepth 20000 in
theorem st_L_passes_313 {call : m_call} {r : m_R → m_S → Prop} {lo : m_L} {st : List Value} {bd : Nat × Nat} {S : m_S} : m_W1 (m_lk cd_L_passes) call r 313 lo st bd S = o_iload 14 315 call lo st bd S (m_W1 (m_lk cd_L_passes) call r) r := m_W1.iff rfl mm_L_passes
set_option maxRecDepth 20000 in
theorem st_L_passes_315 {call : m_call} {r : m_R → m_S → Prop} {lo : m_L} {st : List Value} {bd : Nat × Nat} {S : m_S} : m_W1 (m_lk cd_L_passes) call r 315 lo st bd S = o_bin (fun x y => x * y) 316 call lo st bd S (m_W1 (m_lk cd_L_passes) call r) r := m_W1.iff rfl mm_L_passes
set_option maxRecDepth 20000 in
theorem st_L_passes_316 {call : m_call} {r : m_R → m_S → Prop} {lo : m_L} {st : List Value} {bd : Nat × Nat} {S : m_S} : m_W1 (m_lk cd_L_passes) call r 316 lo st bd S = o_const (1) 317 call lo st bd S (m_W1 (m_lk cd_L_passes) call r) r := m_W1.iff rfl mm_L_passes
set_option maxRecDepth 20000 in
theorem st_L_passes_317 {call : m_call} {r : m_R → m_S → Prop} {lo : m_L} {st : List Value} {bd : Nat × Nat} {S : m_S} : m_W1 (m_lk cd_L_passes) call r 317 lo st bd S = o_bin (fun x y => x + y) 318 call lo st bd S (m_W1 (m_lk cd_L_passes) call r) r := m_W1.iff rfl mm_L_passes
set_option maxRecDepth 20000 in
theorem st_L_passes_318 {call : m_call} {r : m_R → m_S → Prop} {lo : m_L} {st : List Value} {bd : Nat × Nat} {S : m_S} : m_W1 (m_lk cd_L_passes) call r 318 lo st bd S = o_iald 0 319 call lo st bd S (m_W1 (m_lk cd_L_passes) call r) r := m_W1.iff rfl mm_L_passes
set_option maxRecDepth 20000 in
theorem st_L_passes_319 {call : m_call} {r : m_R → m_S → Prop} {lo : m_L} {st : List Value} {bd : Nat × Nat} {S : m_S} : m_W1 (m_lk cd_L_passes) call r 319 lo st bd S = o_aload 3 320 call lo st bd S (m_W1 (m_lk cd_L_passes) call r) r := m_W1.iff rfl mm_L_passes
set_option maxRecDepth 20000 in
theorem st_L_passes_320 {call : m_call} {r : m_R → m_S → Prop} {lo : m_L} {st : List Value} {bd : Nat × Nat} {S : m_S} : m_W1 (m_lk cd_L_passes) call r 320 lo st bd S = o_const (4) 321 call lo st bd S (m_W1 (m_lk cd_L_passes) call r) r := m_W1.iff rfl mm_L_passes
set_option maxRecDepth 20000 in
theorem st_L_passes_321 {call : m_call} {r : m_R → m_S → Prop} {lo : m_L} {st : List Value} {bd : Nat × Nat} {S : m_S} : m_W1 (m_lk cd_L_passes) call r 321 lo st bd S = o_iload 14 323 call lo st bd S (m_W1 (m_lk cd_L_passes) call r) r := m_W1.iff rfl mm_L_passes
set_option maxRecDepth 20000 in
theorem st_L_passes_323 {call : m_call} {r : m_R → m_S → Prop} {lo : m_L} {st : List Value} {bd : Nat × Nat} {S : m_S} : m_W1 (m_lk cd_L_passes) call r 323 lo st bd S = o_bin (fun x y => x * y) 324 call lo st bd S (m_W1 (m_lk cd_L_passes) call r) r := m_W1.iff rfl mm_L_passes
set_option maxRecDepth 20000 in
theorem st_L_passes_324 {call : m_call} {r : m_R → m_S → Prop} {lo : m_L} {st : List Value} {bd : Nat × Nat} {S : m_S} : m_W1 (m_lk cd_L_passes) call r 324 lo st bd S = o_const (2) 325 call lo st bd S (m_W1 (m_lk cd_L_passes) call r) r := m_W1.iff rfl mm_L_passes
set_option maxRecDepth 20000 in
theorem st_L_passes_325 {call : m_call} {r : m_R → m_S → Prop} {lo : m_L} {st : List Value} {bd : Nat × Nat} {S : m_S} : m_W1 (m_lk cd_L_passes) call r 325 lo st bd S = o_bin (fun x y => x + y) 326 call lo st bd S (m_W1 (m_lk cd_L_passes) call r) r := m_W1.iff rfl mm_L_passes
set_option maxRecDepth 20000 in
theorem st_L_passes_326 {call : m_call} {r : m_R → m_S → Prop} {lo : m_L} {st : List Value} {bd : Nat × Nat} {S : m_S} : m_W1 (m_lk cd_L_passes) call r 326 lo st bd S = o_iald 0 327 call lo st bd S (m_W1 (m_lk cd_L_passes) call r) r := m_W1.iff rfl mm_L_passes
set_option maxRecDepth 20000 in
theorem st_L_passes_327 {call : m_call} {r : m_R → m_S → Prop} {lo : m_L} {st : List Value} {bd : Nat × Nat} {S : m_S} : m_W1 (m_lk cd_L_passes) call r 327 lo st bd S = o_call 99 4 0 0 330 call lo st bd S (m_W1 (m_lk cd_L_passes) call r) r := m_W1.iff rfl mm_L_passes
set_option maxRecDepth 20000 in
theorem st_L_passes_330 {call : m_call} {r : m_R → m_S → Prop} {lo : m_L} {st : List Value} {bd : Nat × Nat} {S : m_S} : m_W1 (m_lk cd_L_passes) call r 330 lo st bd S = o_ifeq 337 333 call lo st bd S (m_W1 (m_lk cd_L_passes) call r) r := m_W1.iff rfl mm_L_passes
set_option maxRecDepth 20000 in
theorem st_L_passes_333 {call : m_call} {r : m_R → m_S → Prop} {lo : m_L} {st : List Value} {bd : Nat × Nat} {S : m_S} : m_W1 (m_lk cd_L_passes) call r 333 lo st bd S = o_const (1) 334 call lo st bd S (m_W1 (m_lk cd_L_passes) call r) r := m_W1.iff rfl mm_L_passes
set_option maxRecDepth 20000 in
theorem st_L_passes_334 {call : m_call} {r : m_R → m_S → Prop} {lo : m_L} {st : List Value} {bd : Nat × Nat} {S : m_S} : m_W1 (m_lk cd_L_passes) call r 334 lo st bd S = o_goto 338 call lo st bd S (m_W1 (m_lk cd_L_passes) call r) r := m_W1.iff rfl mm_L_passes
set_option maxRecDepth 20000 in
theorem st_L_passes_337 {call : m_call} {r : m_R → m_S → Prop} {lo : m_L} {st : List Value} {bd : Nat × Nat} {S : m_S} : m_W1 (m_lk cd_L_passes) call r 337 lo st bd S = o_const (0) 338 call lo st bd S (m_W1 (m_lk cd_L_passes) call r) r := m_W1.iff rfl mm_L_passes
set_option maxRecDepth 20000 in
theorem st_L_passes_338 {call : m_call} {r : m_R → m_S → Prop} {lo : m_L} {st : List Value} {bd : Nat × Nat} {S : m_S} : m_W1 (m_lk cd_L_passes) call r 338 lo st bd S = o_istW 10 340 call lo st bd S (m_W1 (m_lk cd_L_passes) call r) r := m_W1.iff rfl mm_L_passes
set_option maxRecDepth 20000 in
theorem st_L_passes_340 {call : m_call} {r : m_R → m_S → Prop} {lo : m_L} {st : List Value} {bd : Nat × Nat} {S : m_S} : m_W1 (m_lk cd_L_passes) call r 340 lo st bd S = o_iincW 14 (1) 343 call lo st bd S (m_W1 (m_lk cd_L_passes) call r) r := m_W1.iff rfl mm_L_passes
set_option maxRecDepth 20000 in
theorem st_L_passes_343 {call : m_call} {r : m_R → m_S → Prop} {lo : m_L} {st : List Value} {bd : Nat × Nat} {S : m_S} : m_W1 (m_lk cd_L_passes) call r 343 lo st bd S = o_goto 141 call lo st bd S (m_W1 (m_lk cd_L_passes) call r) r := m_W1.iff rfl mm_L_passes
set_option maxRecDepth 20000 in
theorem st_L_passes_346 {call : m_call} {r : m_R → m_S → Prop} {lo : m_L} {st : List Value} {bd : Nat × Nat} {S : m_S} : m_W1 (m_lk cd_L_passes) call r 346 lo st bd S = o_lconst 0 347 call lo st bd S (m_W1 (m_lk cd_L_passes) call r) r := m_W1.iff rfl mm_L_passes
set_option maxRecDepth 20000 in
theorem st_L_passes_347 {call : m_call} {r : m_R → m_S → Prop} {lo : m_L} {st : List Value} {bd : Nat × Nat} {S : m_S} : m_W1 (m_lk cd_L_passes) call r 347 lo st bd S = o_lstore 14 349 call lo st bd S (m_W1 (m_lk cd_L_passes) call r) r := m_W1.iff rfl mm_L_passes
set_option maxRecDepth 20000 in
theorem st_L_passes_349 {call : m_call} {r : m_R → m_S → Prop} {lo : m_L} {st : List Value} {bd : Nat × Nat} {S : m_S} : m_W1 (m_lk cd_L_passes) call r 349 lo st bd S = o_aload 0 350 call lo st bd S (m_W1 (m_lk cd_L_passes) call r) r := m_W1.iff rfl mm_L_passes
set_option maxRecDepth 20000 in
theorem st_L_passes_350 {call : m_call} {r : m_R → m_S → Prop} {lo : m_L} {st : List Value} {bd : Nat × Nat} {S : m_S} : m_W1 (m_lk cd_L_passes) call r 350 lo st bd S = o_callv 7 39 1 0 0 353 call lo st bd S (m_W1 (m_lk cd_L_passes) call r) r := m_W1.iff rfl mm_L_passes
set_option maxRecDepth 20000 in
theorem st_L_passes_353 {call : m_call} {r : m_R → m_S → Prop} {lo : m_L} {st : List Value} {bd : Nat × Nat} {S : m_S} : m_W1 (m_lk cd_L_passes) call r 353 lo st bd S = o_i2l 354 call lo st bd S (m_W1 (m_lk cd_L_passes) call r) r := m_W1.iff rfl mm_L_passes
set_option maxRecDepth 20000 in
theorem st_L_passes_354 {call : m_call} {r : m_R → m_S → Prop} {lo : m_L} {st : List Value} {bd : Nat × Nat} {S : m_S} : m_W1 (m_lk cd_L_passes) call r 354 lo st bd S = o_lstore 16 356 call lo st bd S (m_W1 (m_lk cd_L_passes) call r) r := m_W1.iff rfl mm_L_passes
set_option maxRecDepth 20000 in
theorem st_L_passes_356 {call : m_call} {r : m_R → m_S → Prop} {lo : m_L} {st : List Value} {bd : Nat × Nat} {S : m_S} : m_W1 (m_lk cd_L_passes) call r 356 lo st bd S = o_const (0) 357 call lo st bd S (m_W1 (m_lk cd_L_passes) call r) r := m_W1.iff rfl mm_L_passes
set_option maxRecDepth 20000 in
theorem st_L_passes_357 {call : m_call} {r : m_R → m_S → Prop} {lo : m_L} {st : List Value} {bd : Nat × Nat} {S : m_S} : m_W1 (m_lk cd_L_passes) call r 357 lo st bd S = o_istW 18 359 call lo st bd S (m_W1 (m_lk cd_L_passes) call r) r := m_W1.iff rfl mm_L_passes
set_option maxRecDepth 20000 in
theorem st_L_passes_359 {call : m_call} {r : m_R → m_S → Prop} {lo : m_L} {st : List Value} {bd : Nat × Nat} {S : m_S} : m_W1 (m_lk cd_L_passes) call r 359 lo st bd S = o_iload 18 361 call lo st bd S (m_W1 (m_lk cd_L_passes) call r) r := m_W1.iff rfl mm_L_passes
set_option maxRecDepth 20000 in
theorem st_L_passes_361 {call : m_call} {r : m_R → m_S → Prop} {lo : m_L} {st : List Value} {bd : Nat × Nat} {S : m_S} : m_W1 (m_lk cd_L_passes) call r 361 lo st bd S = o_const (36) 363 call lo st bd S (m_W1 (m_lk cd_L_passes) call r) r := m_W1.iff rfl mm_L_passes
set_option maxRecDepth 20000 in
theorem st_L_passes_363 {call : m_call} {r : m_R → m_S → Prop} {lo : m_L} {st : List Value} {bd : Nat × Nat} {S : m_S} : m_W1 (m_lk cd_L_passes) call r 363 lo st bd S = o_icmpge 392 366 call lo st bd S (m_W1 (m_lk cd_L_passes) call r) r := m_W1.iff rfl mm_L_passes
set_option maxRecDepth 20000 in
theorem st_L_passes_366 {call : m_call} {r : m_R → m_S → Prop} {lo : m_L} {st : List Value} {bd : Nat × Nat} {S : m_S} : m_W1 (m_lk cd_L_passes) call r 366 lo st bd S = o_lload 14 368 call lo st bd S (m_W1 (m_lk cd_L_passes) call r) r := m_W1.iff rfl mm_L_passes
set_option maxRecDepth 20000 in
theorem st_L_passes_368 {call : m_call} {r : m_R → m_S → Prop} {lo : m_L} {st : List Value} {bd : Nat × Nat} {S : m_S} : m_W1 (m_lk cd_L_passes) call r 368 lo st bd S = o_aload 0 369 call lo st bd S (m_W1 (m_lk cd_L_passes) call r) r := m_W1.iff rfl mm_L_passes
set_option maxRecDepth 20000 in
theorem st_L_passes_369 {call : m_call} {r : m_R → m_S → Prop} {lo : m_L} {st : List Value} {bd : Nat × Nat} {S : m_S} : m_W1 (m_lk cd_L_passes) call r 369 lo st bd S = o_iload 18 371 call lo st bd S (m_W1 (m_lk cd_L_passes) call r) r := m_W1.iff rfl mm_L_passes
set_option maxRecDepth 20000 in
theorem st_L_passes_371 {call : m_call} {r : m_R → m_S → Prop} {lo : m_L} {st : List Value} {bd : Nat × Nat} {S : m_S} : m_W1 (m_lk cd_L_passes) call r 371 lo st bd S = o_const (6) 373 call lo st bd S (m_W1 (m_lk cd_L_passes) call r) r := m_W1.iff rfl mm_L_passes
set_option maxRecDepth 20000 in
theorem st_L_passes_373 {call : m_call} {r : m_R → m_S → Prop} {lo : m_L} {st : List Value} {bd : Nat × Nat} {S : m_S} : m_W1 (m_lk cd_L_passes) call r 373 lo st bd S = o_div (fun x y => x / y) 374 call lo st bd S (m_W1 (m_lk cd_L_passes) call r) r := m_W1.iff rfl mm_L_passes
set_option maxRecDepth 20000 in
theorem st_L_passes_374 {call : m_call} {r : m_R → m_S → Prop} {lo : m_L} {st : List Value} {bd : Nat × Nat} {S : m_S} : m_W1 (m_lk cd_L_passes) call r 374 lo st bd S = o_iload 18 376 call lo st bd S (m_W1 (m_lk cd_L_passes) call r) r := m_W1.iff rfl mm_L_passes
set_option maxRecDepth 20000 in
theorem st_L_passes_376 {call : m_call} {r : m_R → m_S → Prop} {lo : m_L} {st : List Value} {bd : Nat × Nat} {S : m_S} : m_W1 (m_lk cd_L_passes) call r 376 lo st bd S = o_const (6) 378 call lo st bd S (m_W1 (m_lk cd_L_passes) call r) r := m_W1.iff rfl mm_L_passes
set_option maxRecDepth 20000 in
theorem st_L_passes_378 {call : m_call} {r : m_R → m_S → Prop} {lo : m_L} {st : List Value} {bd : Nat × Nat} {S : m_S} : m_W1 (m_lk cd_L_passes) call r 378 lo st bd S = o_div (fun x y => x - x / y * y) 379 call lo st bd S (m_W1 (m_lk cd_L_passes) call r) r := m_W1.iff rfl mm_L_passes
set_option maxRecDepth 20000 in
theorem st_L_passes_379 {call : m_call} {r : m_R → m_S → Prop} {lo : m_L} {st : List Value} {bd : Nat × Nat} {S : m_S} : m_W1 (m_lk cd_L_passes) call r 379 lo st bd S = o_call 91 3 2 12 382 call lo st bd S (m_W1 (m_lk cd_L_passes) call r) r := m_W1.iff rfl mm_L_passes
set_option maxRecDepth 20000 in
theorem st_L_passes_382 {call : m_call} {r : m_R → m_S → Prop} {lo : m_L} {st : List Value} {bd : Nat × Nat} {S : m_S} : m_W1 (m_lk cd_L_passes) call r 382 lo st bd S = o_i2l 383 call lo st bd S (m_W1 (m_lk cd_L_passes) call r) r := m_W1.iff rfl mm_L_passes
set_option maxRecDepth 20000 in
theorem st_L_passes_383 {call : m_call} {r : m_R → m_S → Prop} {lo : m_L} {st : List Value} {bd : Nat × Nat} {S : m_S} : m_W1 (m_lk cd_L_passes) call r 383 lo st bd S = o_lbin (fun x y => x + y) 384 call lo st bd S (m_W1 (m_lk cd_L_passes) call r) r := m_W1.iff rfl mm_L_passes
set_option maxRecDepth 20000 in
theorem st_L_passes_384 {call : m_call} {r : m_R → m_S → Prop} {lo : m_L} {st : List Value} {bd : Nat × Nat} {S : m_S} : m_W1 (m_lk cd_L_passes) call r 384 lo st bd S = o_lstore 14 386 call lo st bd S (m_W1 (m_lk cd_L_passes) call r) r := m_W1.iff rfl mm_L_passes
set_option maxRecDepth 20000 in
theorem st_L_passes_386 {call : m_call} {r : m_R → m_S → Prop} {lo : m_L} {st : List Value} {bd : Nat × Nat} {S : m_S} : m_W1 (m_lk cd_L_passes) call r 386 lo st bd S = o_iincW 18 (1) 389 call lo st bd S (m_W1 (m_lk cd_L_passes) call r) r := m_W1.iff rfl mm_L_passes
set_option maxRecDepth 20000 in
theorem st_L_passes_389 {call : m_call} {r : m_R → m_S → Prop} {lo : m_L} {st : List Value} {bd : Nat × Nat} {S : m_S} : m_W1 (m_lk cd_L_passes) call r 389 lo st bd S = o_goto 359 call lo st bd S (m_W1 (m_lk cd_L_passes) call r) r := m_W1.iff rfl mm_L_passes
set_option maxRecDepth 20000 in
theorem st_L_passes_392 {call : m_call} {r : m_R → m_S → Prop} {lo : m_L} {st : List Value} {bd : Nat × Nat} {S : m_S} : m_W1 (m_lk cd_L_passes) call r 392 lo st bd S = o_const (-1) 393 call lo st bd S (m_W1 (m_lk cd_L_passes) call r) r := m_W1.iff rfl mm_L_passes
set_option maxRecDepth 20000 in
theorem st_L_passes_393 {call : m_call} {r : m_R → m_S → Prop} {lo : m_L} {st : List Value} {bd : Nat × Nat} {S : m_S} : m_W1 (m_lk cd_L_passes) call r 393 lo st bd S = o_istW 18 395 call lo st bd S (m_W1 (m_lk cd_L_passes) call r) r := m_W1.iff rfl mm_L_passes
set_option maxRecDepth 20000 in
theorem st_L_passes_395 {call : m_call} {r : m_R → m_S → Prop} {lo : m_L} {st : List Value} {bd : Nat × Nat} {S : m_S} : m_W1 (m_lk cd_L_passes) call r 395 lo st bd S = o_iload 18 397 call lo st bd S (m_W1 (m_lk cd_L_passes) call r) r := m_W1.iff rfl mm_L_passes
set_option maxRecDepth 20000 in
theorem st_L_passes_397 {call : m_call} {r : m_R → m_S → Prop} {lo : m_L} {st : List Value} {bd : Nat × Nat} {S : m_S} : m_W1 (m_lk cd_L_passes) call r 397 lo st bd S = o_const (6) 399 call lo st bd S (m_W1 (m_lk cd_L_passes) call r) r := m_W1.iff rfl mm_L_passes
set_option maxRecDepth 20000 in
theorem st_L_passes_399 {call : m_call} {r : m_R → m_S → Prop} {lo : m_L} {st : List Value} {bd : Nat × Nat} {S : m_S} : m_W1 (m_lk cd_L_passes) call r 399 lo st bd S = o_icmpge 420 402 call lo st bd S (m_W1 (m_lk cd_L_passes) call r) r := m_W1.iff rfl mm_L_passes
set_option maxRecDepth 20000 in
theorem st_L_passes_402 {call : m_call} {r : m_R → m_S → Prop} {lo : m_L} {st : List Value} {bd : Nat × Nat} {S : m_S} : m_W1 (m_lk cd_L_passes) call r 402 lo st bd S = o_lload 16 404 call lo st bd S (m_W1 (m_lk cd_L_passes) call r) r := m_W1.iff rfl mm_L_passes
set_option maxRecDepth 20000 in
theorem st_L_passes_404 {call : m_call} {r : m_R → m_S → Prop} {lo : m_L} {st : List Value} {bd : Nat × Nat} {S : m_S} : m_W1 (m_lk cd_L_passes) call r 404 lo st bd S = o_aload 0 405 call lo st bd S (m_W1 (m_lk cd_L_passes) call r) r := m_W1.iff rfl mm_L_passes
set_option maxRecDepth 20000 in
theorem st_L_passes_405 {call : m_call} {r : m_R → m_S → Prop} {lo : m_L} {st : List Value} {bd : Nat × Nat} {S : m_S} : m_W1 (m_lk cd_L_passes) call r 405 lo st bd S = o_iload 18 407 call lo st bd S (m_W1 (m_lk cd_L_passes) call r) r := m_W1.iff rfl mm_L_passes
set_option maxRecDepth 20000 in
theorem st_L_passes_407 {call : m_call} {r : m_R → m_S → Prop} {lo : m_L} {st : List Value} {bd : Nat × Nat} {S : m_S} : m_W1 (m_lk cd_L_passes) call r 407 lo st bd S = o_call 93 2 1 6 410 call lo st bd S (m_W1 (m_lk cd_L_passes) call r) r := m_W1.iff rfl mm_L_passes
set_option maxRecDepth 20000 in
theorem st_L_passes_410 {call : m_call} {r : m_R → m_S → Prop} {lo : m_L} {st : List Value} {bd : Nat × Nat} {S : m_S} : m_W1 (m_lk cd_L_passes) call r 410 lo st bd S = o_i2l 411 call lo st bd S (m_W1 (m_lk cd_L_passes) call r) r := m_W1.iff rfl mm_L_passes
set_option maxRecDepth 20000 in
theorem st_L_passes_411 {call : m_call} {r : m_R → m_S → Prop} {lo : m_L} {st : List Value} {bd : Nat × Nat} {S : m_S} : m_W1 (m_lk cd_L_passes) call r 411 lo st bd S = o_lbin (fun x y => x + y) 412 call lo st bd S (m_W1 (m_lk cd_L_passes) call r) r := m_W1.iff rfl mm_L_passes
set_option maxRecDepth 20000 in
theorem st_L_passes_412 {call : m_call} {r : m_R → m_S → Prop} {lo : m_L} {st : List Value} {bd : Nat × Nat} {S : m_S} : m_W1 (m_lk cd_L_passes) call r 412 lo st bd S = o_lstore 16 414 call lo st bd S (m_W1 (m_lk cd_L_passes) call r) r := m_W1.iff rfl mm_L_passes
set_option maxRecDepth 20000 in
theorem st_L_passes_414 {call : m_call} {r : m_R → m_S → Prop} {lo : m_L} {st : List Value} {bd : Nat × Nat} {S : m_S} : m_W1 (m_lk cd_L_passes) call r 414 lo st bd S = o_iincW 18 (1) 417 call lo st bd S (m_W1 (m_lk cd_L_passes) call r) r := m_W1.iff rfl mm_L_passes
set_option maxRecDepth 20000 in
theorem st_L_passes_417 {call : m_call} {r : m_R → m_S → Prop} {lo : m_L} {st : List Value} {bd : Nat × Nat} {S : m_S} : m_W1 (m_lk cd_L_passes) call r 417 lo st bd S = o_goto 395 call lo st bd S (m_W1 (m_lk cd_L_passes) call r) r := m_W1.iff rfl mm_L_passes
set_option maxRecDepth 20000 in
theorem st_L_passes_420 {call : m_call} {r : m_R → m_S → Prop} {lo : m_L} {st : List Value} {bd : Nat × Nat} {S : m_S} : m_W1 (m_lk cd_L_passes) call r 420 lo st bd S = o_const (0) 421 call lo st bd S (m_W1 (m_lk cd_L_passes) call r) r := m_W1.iff rfl mm_L_passes
set_option maxRecDepth 20000 in
theorem st_L_passes_421 {call : m_call} {r : m_R → m_S → Prop} {lo : m_L} {st : List Value} {bd : Nat × Nat} {S : m_S} : m_W1 (m_lk cd_L_passes) call r 421 lo st bd S = o_istW 18 423 call lo st bd S (m_W1 (m_lk cd_L_passes) call r) r := m_W1.iff rfl mm_L_passes
set_option maxRecDepth 20000 in
theorem st_L_passes_423 {call : m_call} {r : m_R → m_S → Prop} {lo : m_L} {st : List Value} {bd : Nat × Nat} {S : m_S} : m_W1 (m_lk cd_L_passes) call r 423 lo st bd S = o_iload 18 425 call lo st bd S (m_W1 (m_lk cd_L_passes) call r) r := m_W1.iff rfl mm_L_passes
set_option maxRecDepth 20000 in
theorem st_L_passes_425 {call : m_call} {r : m_R → m_S → Prop} {lo : m_L} {st : List Value} {bd : Nat × Nat} {S : m_S} : m_W1 (m_lk cd_L_passes) call r 425 lo st bd S = o_aload 1 426 call lo st bd S (m_W1 (m_lk cd_L_passes) call r) r := m_W1.iff rfl mm_L_passes
set_option maxRecDepth 20000 in
theorem st_L_passes_426 {call : m_call} {r : m_R → m_S → Prop} {lo : m_L} {st : List Value} {bd : Nat × Nat} {S : m_S} : m_W1 (m_lk cd_L_passes) call r 426 lo st bd S = o_const (0) 427 call lo st bd S (m_W1 (m_lk cd_L_passes) call r) r := m_W1.iff rfl mm_L_passes
set_option maxRecDepth 20000 in
theorem st_L_passes_427 {call : m_call} {r : m_R → m_S → Prop} {lo : m_L} {st : List Value} {bd : Nat × Nat} {S : m_S} : m_W1 (m_lk cd_L_passes) call r 427 lo st bd S = o_iald 0 428 call lo st bd S (m_W1 (m_lk cd_L_passes) call r) r := m_W1.iff rfl mm_L_passes
set_option maxRecDepth 20000 in
theorem st_L_passes_428 {call : m_call} {r : m_R → m_S → Prop} {lo : m_L} {st : List Value} {bd : Nat × Nat} {S : m_S} : m_W1 (m_lk cd_L_passes) call r 428 lo st bd S = o_icmpge 504 431 call lo st bd S (m_W1 (m_lk cd_L_passes) call r) r := m_W1.iff rfl mm_L_passes
set_option maxRecDepth 20000 in
theorem st_L_passes_431 {call : m_call} {r : m_R → m_S → Prop} {lo : m_L} {st : List Value} {bd : Nat × Nat} {S : m_S} : m_W1 (m_lk cd_L_passes) call r 431 lo st bd S = o_const (0) 432 call lo st bd S (m_W1 (m_lk cd_L_passes) call r) r := m_W1.iff rfl mm_L_passes
set_option maxRecDepth 20000 in
theorem st_L_passes_432 {call : m_call} {r : m_R → m_S → Prop} {lo : m_L} {st : List Value} {bd : Nat × Nat} {S : m_S} : m_W1 (m_lk cd_L_passes) call r 432 lo st bd S = o_istW 19 434 call lo st bd S (m_W1 (m_lk cd_L_passes) call r) r := m_W1.iff rfl mm_L_passes
set_option maxRecDepth 20000 in
theorem st_L_passes_434 {call : m_call} {r : m_R → m_S → Prop} {lo : m_L} {st : List Value} {bd : Nat × Nat} {S : m_S} : m_W1 (m_lk cd_L_passes) call r 434 lo st bd S = o_const (0) 435 call lo st bd S (m_W1 (m_lk cd_L_passes) call r) r := m_W1.iff rfl mm_L_passes
set_option maxRecDepth 20000 in
theorem st_L_passes_435 {call : m_call} {r : m_R → m_S → Prop} {lo : m_L} {st : List Value} {bd : Nat × Nat} {S : m_S} : m_W1 (m_lk cd_L_passes) call r 435 lo st bd S = o_istW 20 437 call lo st bd S (m_W1 (m_lk cd_L_passes) call r) r := m_W1.iff rfl mm_L_passes
set_option maxRecDepth 20000 in
theorem st_L_passes_437 {call : m_call} {r : m_R → m_S → Prop} {lo : m_L} {st : List Value} {bd : Nat × Nat} {S : m_S} : m_W1 (m_lk cd_L_passes) call r 437 lo st bd S = o_iload 20 439 call lo st bd S (m_W1 (m_lk cd_L_passes) call r) r := m_W1.iff rfl mm_L_passes
set_option maxRecDepth 20000 in
theorem st_L_passes_439 {call : m_call} {r : m_R → m_S → Prop} {lo : m_L} {st : List Value} {bd : Nat × Nat} {S : m_S} : m_W1 (m_lk cd_L_passes) call r 439 lo st bd S = o_const (6) 441 call lo st bd S (m_W1 (m_lk cd_L_passes) call r) r := m_W1.iff rfl mm_L_passes
set_option maxRecDepth 20000 in
theorem st_L_passes_441 {call : m_call} {r : m_R → m_S → Prop} {lo : m_L} {st : List Value} {bd : Nat × Nat} {S : m_S} : m_W1 (m_lk cd_L_passes) call r 441 lo st bd S = o_icmpge 463 444 call lo st bd S (m_W1 (m_lk cd_L_passes) call r) r := m_W1.iff rfl mm_L_passes
set_option maxRecDepth 20000 in
theorem st_L_passes_444 {call : m_call} {r : m_R → m_S → Prop} {lo : m_L} {st : List Value} {bd : Nat × Nat} {S : m_S} : m_W1 (m_lk cd_L_passes) call r 444 lo st bd S = o_iload 19 446 call lo st bd S (m_W1 (m_lk cd_L_passes) call r) r := m_W1.iff rfl mm_L_passes
set_option maxRecDepth 20000 in
theorem st_L_passes_446 {call : m_call} {r : m_R → m_S → Prop} {lo : m_L} {st : List Value} {bd : Nat × Nat} {S : m_S} : m_W1 (m_lk cd_L_passes) call r 446 lo st bd S = o_aload 0 447 call lo st bd S (m_W1 (m_lk cd_L_passes) call r) r := m_W1.iff rfl mm_L_passes
set_option maxRecDepth 20000 in
theorem st_L_passes_447 {call : m_call} {r : m_R → m_S → Prop} {lo : m_L} {st : List Value} {bd : Nat × Nat} {S : m_S} : m_W1 (m_lk cd_L_passes) call r 447 lo st bd S = o_iload 18 449 call lo st bd S (m_W1 (m_lk cd_L_passes) call r) r := m_W1.iff rfl mm_L_passes
set_option maxRecDepth 20000 in
theorem st_L_passes_449 {call : m_call} {r : m_R → m_S → Prop} {lo : m_L} {st : List Value} {bd : Nat × Nat} {S : m_S} : m_W1 (m_lk cd_L_passes) call r 449 lo st bd S = o_iload 20 451 call lo st bd S (m_W1 (m_lk cd_L_passes) call r) r := m_W1.iff rfl mm_L_passes
set_option maxRecDepth 20000 in
theorem st_L_passes_451 {call : m_call} {r : m_R → m_S → Prop} {lo : m_L} {st : List Value} {bd : Nat × Nat} {S : m_S} : m_W1 (m_lk cd_L_passes) call r 451 lo st bd S = o_call 87 3 2 12 454 call lo st bd S (m_W1 (m_lk cd_L_passes) call r) r := m_W1.iff rfl mm_L_passes
set_option maxRecDepth 20000 in
theorem st_L_passes_454 {call : m_call} {r : m_R → m_S → Prop} {lo : m_L} {st : List Value} {bd : Nat × Nat} {S : m_S} : m_W1 (m_lk cd_L_passes) call r 454 lo st bd S = o_bin (fun x y => x + y) 455 call lo st bd S (m_W1 (m_lk cd_L_passes) call r) r := m_W1.iff rfl mm_L_passes
set_option maxRecDepth 20000 in
theorem st_L_passes_455 {call : m_call} {r : m_R → m_S → Prop} {lo : m_L} {st : List Value} {bd : Nat × Nat} {S : m_S} : m_W1 (m_lk cd_L_passes) call r 455 lo st bd S = o_istW 19 457 call lo st bd S (m_W1 (m_lk cd_L_passes) call r) r := m_W1.iff rfl mm_L_passes
set_option maxRecDepth 20000 in
theorem st_L_passes_457 {call : m_call} {r : m_R → m_S → Prop} {lo : m_L} {st : List Value} {bd : Nat × Nat} {S : m_S} : m_W1 (m_lk cd_L_passes) call r 457 lo st bd S = o_iincW 20 (1) 460 call lo st bd S (m_W1 (m_lk cd_L_passes) call r) r := m_W1.iff rfl mm_L_passes
set_option maxRecDepth 20000 in
theorem st_L_passes_460 {call : m_call} {r : m_R → m_S → Prop} {lo : m_L} {st : List Value} {bd : Nat × Nat} {S : m_S} : m_W1 (m_lk cd_L_passes) call r 460 lo st bd S = o_goto 437 call lo st bd S (m_W1 (m_lk cd_L_passes) call r) r := m_W1.iff rfl mm_L_passes
set_option maxRecDepth 20000 in
theorem st_L_passes_463 {call : m_call} {r : m_R → m_S → Prop} {lo : m_L} {st : List Value} {bd : Nat × Nat} {S : m_S} : m_W1 (m_lk cd_L_passes) call r 463 lo st bd S = o_iload 10 465 call lo st bd S (m_W1 (m_lk cd_L_passes) call r) r := m_W1.iff rfl mm_L_passes
set_option maxRecDepth 20000 in
theorem st_L_passes_465 {call : m_call} {r : m_R → m_S → Prop} {lo : m_L} {st : List Value} {bd : Nat × Nat} {S : m_S} : m_W1 (m_lk cd_L_passes) call r 465 lo st bd S = o_ifeq 495 468 call lo st bd S (m_W1 (m_lk cd_L_passes) call r) r := m_W1.iff rfl mm_L_passes
set_option maxRecDepth 20000 in
theorem st_L_passes_468 {call : m_call} {r : m_R → m_S → Prop} {lo : m_L} {st : List Value} {bd : Nat × Nat} {S : m_S} : m_W1 (m_lk cd_L_passes) call r 468 lo st bd S = o_iload 19 470 call lo st bd S (m_W1 (m_lk cd_L_passes) call r) r := m_W1.iff rfl mm_L_passes
set_option maxRecDepth 20000 in
theorem st_L_passes_470 {call : m_call} {r : m_R → m_S → Prop} {lo : m_L} {st : List Value} {bd : Nat × Nat} {S : m_S} : m_W1 (m_lk cd_L_passes) call r 470 lo st bd S = o_aload 2 471 call lo st bd S (m_W1 (m_lk cd_L_passes) call r) r := m_W1.iff rfl mm_L_passes
set_option maxRecDepth 20000 in
theorem st_L_passes_471 {call : m_call} {r : m_R → m_S → Prop} {lo : m_L} {st : List Value} {bd : Nat × Nat} {S : m_S} : m_W1 (m_lk cd_L_passes) call r 471 lo st bd S = o_const (4) 472 call lo st bd S (m_W1 (m_lk cd_L_passes) call r) r := m_W1.iff rfl mm_L_passes
set_option maxRecDepth 20000 in
theorem st_L_passes_472 {call : m_call} {r : m_R → m_S → Prop} {lo : m_L} {st : List Value} {bd : Nat × Nat} {S : m_S} : m_W1 (m_lk cd_L_passes) call r 472 lo st bd S = o_iload 18 474 call lo st bd S (m_W1 (m_lk cd_L_passes) call r) r := m_W1.iff rfl mm_L_passes
set_option maxRecDepth 20000 in
theorem st_L_passes_474 {call : m_call} {r : m_R → m_S → Prop} {lo : m_L} {st : List Value} {bd : Nat × Nat} {S : m_S} : m_W1 (m_lk cd_L_passes) call r 474 lo st bd S = o_bin (fun x y => x * y) 475 call lo st bd S (m_W1 (m_lk cd_L_passes) call r) r := m_W1.iff rfl mm_L_passes
set_option maxRecDepth 20000 in
theorem st_L_passes_475 {call : m_call} {r : m_R → m_S → Prop} {lo : m_L} {st : List Value} {bd : Nat × Nat} {S : m_S} : m_W1 (m_lk cd_L_passes) call r 475 lo st bd S = o_const (2) 476 call lo st bd S (m_W1 (m_lk cd_L_passes) call r) r := m_W1.iff rfl mm_L_passes
set_option maxRecDepth 20000 in
theorem st_L_passes_476 {call : m_call} {r : m_R → m_S → Prop} {lo : m_L} {st : List Value} {bd : Nat × Nat} {S : m_S} : m_W1 (m_lk cd_L_passes) call r 476 lo st bd S = o_bin (fun x y => x + y) 477 call lo st bd S (m_W1 (m_lk cd_L_passes) call r) r := m_W1.iff rfl mm_L_passes
set_option maxRecDepth 20000 in
theorem st_L_passes_477 {call : m_call} {r : m_R → m_S → Prop} {lo : m_L} {st : List Value} {bd : Nat × Nat} {S : m_S} : m_W1 (m_lk cd_L_passes) call r 477 lo st bd S = o_iald 0 478 call lo st bd S (m_W1 (m_lk cd_L_passes) call r) r := m_W1.iff rfl mm_L_passes
set_option maxRecDepth 20000 in
theorem st_L_passes_478 {call : m_call} {r : m_R → m_S → Prop} {lo : m_L} {st : List Value} {bd : Nat × Nat} {S : m_S} : m_W1 (m_lk cd_L_passes) call r 478 lo st bd S = o_icmpne 495 481 call lo st bd S (m_W1 (m_lk cd_L_passes) call r) r := m_W1.iff rfl mm_L_passes
set_option maxRecDepth 20000 in
theorem st_L_passes_481 {call : m_call} {r : m_R → m_S → Prop} {lo : m_L} {st : List Value} {bd : Nat × Nat} {S : m_S} : m_W1 (m_lk cd_L_passes) call r 481 lo st bd S = o_aload 11 483 call lo st bd S (m_W1 (m_lk cd_L_passes) call r) r := m_W1.iff rfl mm_L_passes
set_option maxRecDepth 20000 in
theorem st_L_passes_483 {call : m_call} {r : m_R → m_S → Prop} {lo : m_L} {st : List Value} {bd : Nat × Nat} {S : m_S} : m_W1 (m_lk cd_L_passes) call r 483 lo st bd S = o_iload 18 485 call lo st bd S (m_W1 (m_lk cd_L_passes) call r) r := m_W1.iff rfl mm_L_passes
set_option maxRecDepth 20000 in
theorem st_L_passes_485 {call : m_call} {r : m_R → m_S → Prop} {lo : m_L} {st : List Value} {bd : Nat × Nat} {S : m_S} : m_W1 (m_lk cd_L_passes) call r 485 lo st bd S = o_iald 0 486 call lo st bd S (m_W1 (m_lk cd_L_passes) call r) r := m_W1.iff rfl mm_L_passes
set_option maxRecDepth 20000 in
theorem st_L_passes_486 {call : m_call} {r : m_R → m_S → Prop} {lo : m_L} {st : List Value} {bd : Nat × Nat} {S : m_S} : m_W1 (m_lk cd_L_passes) call r 486 lo st bd S = o_iload 19 488 call lo st bd S (m_W1 (m_lk cd_L_passes) call r) r := m_W1.iff rfl mm_L_passes
set_option maxRecDepth 20000 in
theorem st_L_passes_488 {call : m_call} {r : m_R → m_S → Prop} {lo : m_L} {st : List Value} {bd : Nat × Nat} {S : m_S} : m_W1 (m_lk cd_L_passes) call r 488 lo st bd S = o_icmpgt 495 491 call lo st bd S (m_W1 (m_lk cd_L_passes) call r) r := m_W1.iff rfl mm_L_passes
set_option maxRecDepth 20000 in
theorem st_L_passes_491 {call : m_call} {r : m_R → m_S → Prop} {lo : m_L} {st : List Value} {bd : Nat × Nat} {S : m_S} : m_W1 (m_lk cd_L_passes) call r 491 lo st bd S = o_const (1) 492 call lo st bd S (m_W1 (m_lk cd_L_passes) call r) r := m_W1.iff rfl mm_L_passes
set_option maxRecDepth 20000 in
theorem st_L_passes_492 {call : m_call} {r : m_R → m_S → Prop} {lo : m_L} {st : List Value} {bd : Nat × Nat} {S : m_S} : m_W1 (m_lk cd_L_passes) call r 492 lo st bd S = o_goto 496 call lo st bd S (m_W1 (m_lk cd_L_passes) call r) r := m_W1.iff rfl mm_L_passes
set_option maxRecDepth 20000 in
theorem st_L_passes_495 {call : m_call} {r : m_R → m_S → Prop} {lo : m_L} {st : List Value} {bd : Nat × Nat} {S : m_S} : m_W1 (m_lk cd_L_passes) call r 495 lo st bd S = o_const (0) 496 call lo st bd S (m_W1 (m_lk cd_L_passes) call r) r := m_W1.iff rfl mm_L_passes
set_option maxRecDepth 20000 in
theorem st_L_passes_496 {call : m_call} {r : m_R → m_S → Prop} {lo : m_L} {st : List Value} {bd : Nat × Nat} {S : m_S} : m_W1 (m_lk cd_L_passes) call r 496 lo st bd S = o_istW 10 498 call lo st bd S (m_W1 (m_lk cd_L_passes) call r) r := m_W1.iff rfl mm_L_passes
set_option maxRecDepth 20000 in
theorem st_L_passes_498 {call : m_call} {r : m_R → m_S → Prop} {lo : m_L} {st : List Value} {bd : Nat × Nat} {S : m_S} : m_W1 (m_lk cd_L_passes) call r 498 lo st bd S = o_iincW 18 (1) 501 call lo st bd S (m_W1 (m_lk cd_L_passes) call r) r := m_W1.iff rfl mm_L_passes
set_option maxRecDepth 20000 in
theorem st_L_passes_501 {call : m_call} {r : m_R → m_S → Prop} {lo : m_L} {st : List Value} {bd : Nat × Nat} {S : m_S} : m_W1 (m_lk cd_L_passes) call r 501 lo st bd S = o_goto 423 call lo st bd S (m_W1 (m_lk cd_L_passes) call r) r := m_W1.iff rfl mm_L_passes
set_option maxRecDepth 20000 in
theorem st_L_passes_504 {call : m_call} {r : m_R → m_S → Prop} {lo : m_L} {st : List Value} {bd : Nat × Nat} {S : m_S} : m_W1 (m_lk cd_L_passes) call r 504 lo st bd S = o_const (0) 505 call lo st bd S (m_W1 (m_lk cd_L_passes) call r) r := m_W1.iff rfl mm_L_passes
set_option maxRecDepth 20000 in
theorem st_L_passes_505 {call : m_call} {r : m_R → m_S → Prop} {lo : m_L} {st : List Value} {bd : Nat × Nat} {S : m_S} : m_W1 (m_lk cd_L_passes) call r 505 lo st bd S = o_istW 18 507 call lo st bd S (m_W1 (m_lk cd_L_passes) call r) r := m_W1.iff rfl mm_L_passes
set_option maxRecDepth 20000 in
theorem st_L_passes_507 {call : m_call} {r : m_R → m_S → Prop} {lo : m_L} {st : List Value} {bd : Nat × Nat} {S : m_S} : m_W1 (m_lk cd_L_passes) call r 507 lo st bd S = o_iload 18 509 call lo st bd S (m_W1 (m_lk cd_L_passes) call r) r := m_W1.iff rfl mm_L_passes
set_option maxRecDepth 20000 in
theorem st_L_passes_509 {call : m_call} {r : m_R → m_S → Prop} {lo : m_L} {st : List Value} {bd : Nat × Nat} {S : m_S} : m_W1 (m_lk cd_L_passes) call r 509 lo st bd S = o_aload 1 510 call lo st bd S (m_W1 (m_lk cd_L_passes) call r) r := m_W1.iff rfl mm_L_passes
set_option maxRecDepth 20000 in
theorem st_L_passes_510 {call : m_call} {r : m_R → m_S → Prop} {lo : m_L} {st : List Value} {bd : Nat × Nat} {S : m_S} : m_W1 (m_lk cd_L_passes) call r 510 lo st bd S = o_const (3) 511 call lo st bd S (m_W1 (m_lk cd_L_passes) call r) r := m_W1.iff rfl mm_L_passes
set_option maxRecDepth 20000 in
theorem st_L_passes_511 {call : m_call} {r : m_R → m_S → Prop} {lo : m_L} {st : List Value} {bd : Nat × Nat} {S : m_S} : m_W1 (m_lk cd_L_passes) call r 511 lo st bd S = o_iald 0 512 call lo st bd S (m_W1 (m_lk cd_L_passes) call r) r := m_W1.iff rfl mm_L_passes
set_option maxRecDepth 20000 in
theorem st_L_passes_512 {call : m_call} {r : m_R → m_S → Prop} {lo : m_L} {st : List Value} {bd : Nat × Nat} {S : m_S} : m_W1 (m_lk cd_L_passes) call r 512 lo st bd S = o_icmpge 554 515 call lo st bd S (m_W1 (m_lk cd_L_passes) call r) r := m_W1.iff rfl mm_L_passes
set_option maxRecDepth 20000 in
theorem st_L_passes_515 {call : m_call} {r : m_R → m_S → Prop} {lo : m_L} {st : List Value} {bd : Nat × Nat} {S : m_S} : m_W1 (m_lk cd_L_passes) call r 515 lo st bd S = o_iload 10 517 call lo st bd S (m_W1 (m_lk cd_L_passes) call r) r := m_W1.iff rfl mm_L_passes
set_option maxRecDepth 20000 in
theorem st_L_passes_517 {call : m_call} {r : m_R → m_S → Prop} {lo : m_L} {st : List Value} {bd : Nat × Nat} {S : m_S} : m_W1 (m_lk cd_L_passes) call r 517 lo st bd S = o_ifeq 545 520 call lo st bd S (m_W1 (m_lk cd_L_passes) call r) r := m_W1.iff rfl mm_L_passes
set_option maxRecDepth 20000 in
theorem st_L_passes_520 {call : m_call} {r : m_R → m_S → Prop} {lo : m_L} {st : List Value} {bd : Nat × Nat} {S : m_S} : m_W1 (m_lk cd_L_passes) call r 520 lo st bd S = o_aload 0 521 call lo st bd S (m_W1 (m_lk cd_L_passes) call r) r := m_W1.iff rfl mm_L_passes
set_option maxRecDepth 20000 in
theorem st_L_passes_521 {call : m_call} {r : m_R → m_S → Prop} {lo : m_L} {st : List Value} {bd : Nat × Nat} {S : m_S} : m_W1 (m_lk cd_L_passes) call r 521 lo st bd S = o_iload 18 523 call lo st bd S (m_W1 (m_lk cd_L_passes) call r) r := m_W1.iff rfl mm_L_passes
set_option maxRecDepth 20000 in
theorem st_L_passes_523 {call : m_call} {r : m_R → m_S → Prop} {lo : m_L} {st : List Value} {bd : Nat × Nat} {S : m_S} : m_W1 (m_lk cd_L_passes) call r 523 lo st bd S = o_call 95 2 1 6 526 call lo st bd S (m_W1 (m_lk cd_L_passes) call r) r := m_W1.iff rfl mm_L_passes
set_option maxRecDepth 20000 in
theorem st_L_passes_526 {call : m_call} {r : m_R → m_S → Prop} {lo : m_L} {st : List Value} {bd : Nat × Nat} {S : m_S} : m_W1 (m_lk cd_L_passes) call r 526 lo st bd S = o_iflt 545 529 call lo st bd S (m_W1 (m_lk cd_L_passes) call r) r := m_W1.iff rfl mm_L_passes
set_option maxRecDepth 20000 in
theorem st_L_passes_529 {call : m_call} {r : m_R → m_S → Prop} {lo : m_L} {st : List Value} {bd : Nat × Nat} {S : m_S} : m_W1 (m_lk cd_L_passes) call r 529 lo st bd S = o_aload 0 530 call lo st bd S (m_W1 (m_lk cd_L_passes) call r) r := m_W1.iff rfl mm_L_passes
set_option maxRecDepth 20000 in
theorem st_L_passes_530 {call : m_call} {r : m_R → m_S → Prop} {lo : m_L} {st : List Value} {bd : Nat × Nat} {S : m_S} : m_W1 (m_lk cd_L_passes) call r 530 lo st bd S = o_iload 18 532 call lo st bd S (m_W1 (m_lk cd_L_passes) call r) r := m_W1.iff rfl mm_L_passes
set_option maxRecDepth 20000 in
theorem st_L_passes_532 {call : m_call} {r : m_R → m_S → Prop} {lo : m_L} {st : List Value} {bd : Nat × Nat} {S : m_S} : m_W1 (m_lk cd_L_passes) call r 532 lo st bd S = o_call 95 2 1 6 535 call lo st bd S (m_W1 (m_lk cd_L_passes) call r) r := m_W1.iff rfl mm_L_passes
set_option maxRecDepth 20000 in
theorem st_L_passes_535 {call : m_call} {r : m_R → m_S → Prop} {lo : m_L} {st : List Value} {bd : Nat × Nat} {S : m_S} : m_W1 (m_lk cd_L_passes) call r 535 lo st bd S = o_const (1000) 538 call lo st bd S (m_W1 (m_lk cd_L_passes) call r) r := m_W1.iff rfl mm_L_passes
set_option maxRecDepth 20000 in
theorem st_L_passes_538 {call : m_call} {r : m_R → m_S → Prop} {lo : m_L} {st : List Value} {bd : Nat × Nat} {S : m_S} : m_W1 (m_lk cd_L_passes) call r 538 lo st bd S = o_icmpgt 545 541 call lo st bd S (m_W1 (m_lk cd_L_passes) call r) r := m_W1.iff rfl mm_L_passes
set_option maxRecDepth 20000 in
theorem st_L_passes_541 {call : m_call} {r : m_R → m_S → Prop} {lo : m_L} {st : List Value} {bd : Nat × Nat} {S : m_S} : m_W1 (m_lk cd_L_passes) call r 541 lo st bd S = o_const (1) 542 call lo st bd S (m_W1 (m_lk cd_L_passes) call r) r := m_W1.iff rfl mm_L_passes
set_option maxRecDepth 20000 in
theorem st_L_passes_542 {call : m_call} {r : m_R → m_S → Prop} {lo : m_L} {st : List Value} {bd : Nat × Nat} {S : m_S} : m_W1 (m_lk cd_L_passes) call r 542 lo st bd S = o_goto 546 call lo st bd S (m_W1 (m_lk cd_L_passes) call r) r := m_W1.iff rfl mm_L_passes
set_option maxRecDepth 20000 in
theorem st_L_passes_545 {call : m_call} {r : m_R → m_S → Prop} {lo : m_L} {st : List Value} {bd : Nat × Nat} {S : m_S} : m_W1 (m_lk cd_L_passes) call r 545 lo st bd S = o_const (0) 546 call lo st bd S (m_W1 (m_lk cd_L_passes) call r) r := m_W1.iff rfl mm_L_passes
set_option maxRecDepth 20000 in
theorem st_L_passes_546 {call : m_call} {r : m_R → m_S → Prop} {lo : m_L} {st : List Value} {bd : Nat × Nat} {S : m_S} : m_W1 (m_lk cd_L_passes) call r 546 lo st bd S = o_istW 10 548 call lo st bd S (m_W1 (m_lk cd_L_passes) call r) r := m_W1.iff rfl mm_L_passes
set_option maxRecDepth 20000 in
theorem st_L_passes_548 {call : m_call} {r : m_R → m_S → Prop} {lo : m_L} {st : List Value} {bd : Nat × Nat} {S : m_S} : m_W1 (m_lk cd_L_passes) call r 548 lo st bd S = o_iincW 18 (1) 551 call lo st bd S (m_W1 (m_lk cd_L_passes) call r) r := m_W1.iff rfl mm_L_passes
set_option maxRecDepth 20000 in
theorem st_L_passes_551 {call : m_call} {r : m_R → m_S → Prop} {lo : m_L} {st : List Value} {bd : Nat × Nat} {S : m_S} : m_W1 (m_lk cd_L_passes) call r 551 lo st bd S = o_goto 507 call lo st bd S (m_W1 (m_lk cd_L_passes) call r) r := m_W1.iff rfl mm_L_passes
set_option maxRecDepth 20000 in
theorem st_L_passes_554 {call : m_call} {r : m_R → m_S → Prop} {lo : m_L} {st : List Value} {bd : Nat × Nat} {S : m_S} : m_W1 (m_lk cd_L_passes) call r 554 lo st bd S = o_const (0) 555 call lo st bd S (m_W1 (m_lk cd_L_passes) call r) r := m_W1.iff rfl mm_L_passes
set_option maxRecDepth 20000 in
theorem st_L_passes_555 {call : m_call} {r : m_R → m_S → Prop} {lo : m_L} {st : List Value} {bd : Nat × Nat} {S : m_S} : m_W1 (m_lk cd_L_passes) call r 555 lo st bd S = o_istW 18 557 call lo st bd S (m_W1 (m_lk cd_L_passes) call r) r := m_W1.iff rfl mm_L_passes
set_option maxRecDepth 20000 in
theorem st_L_passes_557 {call : m_call} {r : m_R → m_S → Prop} {lo : m_L} {st : List Value} {bd : Nat × Nat} {S : m_S} : m_W1 (m_lk cd_L_passes) call r 557 lo st bd S = o_iload 18 559 call lo st bd S (m_W1 (m_lk cd_L_passes) call r) r := m_W1.iff rfl mm_L_passes
set_option maxRecDepth 20000 in
theorem st_L_passes_559 {call : m_call} {r : m_R → m_S → Prop} {lo : m_L} {st : List Value} {bd : Nat × Nat} {S : m_S} : m_W1 (m_lk cd_L_passes) call r 559 lo st bd S = o_aload 1 560 call lo st bd S (m_W1 (m_lk cd_L_passes) call r) r := m_W1.iff rfl mm_L_passes
set_option maxRecDepth 20000 in
theorem st_L_passes_560 {call : m_call} {r : m_R → m_S → Prop} {lo : m_L} {st : List Value} {bd : Nat × Nat} {S : m_S} : m_W1 (m_lk cd_L_passes) call r 560 lo st bd S = o_const (2) 561 call lo st bd S (m_W1 (m_lk cd_L_passes) call r) r := m_W1.iff rfl mm_L_passes
set_option maxRecDepth 20000 in
theorem st_L_passes_561 {call : m_call} {r : m_R → m_S → Prop} {lo : m_L} {st : List Value} {bd : Nat × Nat} {S : m_S} : m_W1 (m_lk cd_L_passes) call r 561 lo st bd S = o_iald 0 562 call lo st bd S (m_W1 (m_lk cd_L_passes) call r) r := m_W1.iff rfl mm_L_passes
set_option maxRecDepth 20000 in
theorem st_L_passes_562 {call : m_call} {r : m_R → m_S → Prop} {lo : m_L} {st : List Value} {bd : Nat × Nat} {S : m_S} : m_W1 (m_lk cd_L_passes) call r 562 lo st bd S = o_icmpge 626 565 call lo st bd S (m_W1 (m_lk cd_L_passes) call r) r := m_W1.iff rfl mm_L_passes
set_option maxRecDepth 20000 in
theorem st_L_passes_565 {call : m_call} {r : m_R → m_S → Prop} {lo : m_L} {st : List Value} {bd : Nat × Nat} {S : m_S} : m_W1 (m_lk cd_L_passes) call r 565 lo st bd S = o_iload 10 567 call lo st bd S (m_W1 (m_lk cd_L_passes) call r) r := m_W1.iff rfl mm_L_passes
set_option maxRecDepth 20000 in
theorem st_L_passes_567 {call : m_call} {r : m_R → m_S → Prop} {lo : m_L} {st : List Value} {bd : Nat × Nat} {S : m_S} : m_W1 (m_lk cd_L_passes) call r 567 lo st bd S = o_ifeq 617 570 call lo st bd S (m_W1 (m_lk cd_L_passes) call r) r := m_W1.iff rfl mm_L_passes
set_option maxRecDepth 20000 in
theorem st_L_passes_570 {call : m_call} {r : m_R → m_S → Prop} {lo : m_L} {st : List Value} {bd : Nat × Nat} {S : m_S} : m_W1 (m_lk cd_L_passes) call r 570 lo st bd S = o_aload 0 571 call lo st bd S (m_W1 (m_lk cd_L_passes) call r) r := m_W1.iff rfl mm_L_passes
set_option maxRecDepth 20000 in
theorem st_L_passes_571 {call : m_call} {r : m_R → m_S → Prop} {lo : m_L} {st : List Value} {bd : Nat × Nat} {S : m_S} : m_W1 (m_lk cd_L_passes) call r 571 lo st bd S = o_iload 18 573 call lo st bd S (m_W1 (m_lk cd_L_passes) call r) r := m_W1.iff rfl mm_L_passes
set_option maxRecDepth 20000 in
theorem st_L_passes_573 {call : m_call} {r : m_R → m_S → Prop} {lo : m_L} {st : List Value} {bd : Nat × Nat} {S : m_S} : m_W1 (m_lk cd_L_passes) call r 573 lo st bd S = o_call 96 2 1 6 576 call lo st bd S (m_W1 (m_lk cd_L_passes) call r) r := m_W1.iff rfl mm_L_passes
set_option maxRecDepth 20000 in
theorem st_L_passes_576 {call : m_call} {r : m_R → m_S → Prop} {lo : m_L} {st : List Value} {bd : Nat × Nat} {S : m_S} : m_W1 (m_lk cd_L_passes) call r 576 lo st bd S = o_iflt 617 579 call lo st bd S (m_W1 (m_lk cd_L_passes) call r) r := m_W1.iff rfl mm_L_passes
set_option maxRecDepth 20000 in
theorem st_L_passes_579 {call : m_call} {r : m_R → m_S → Prop} {lo : m_L} {st : List Value} {bd : Nat × Nat} {S : m_S} : m_W1 (m_lk cd_L_passes) call r 579 lo st bd S = o_aload 0 580 call lo st bd S (m_W1 (m_lk cd_L_passes) call r) r := m_W1.iff rfl mm_L_passes
set_option maxRecDepth 20000 in
theorem st_L_passes_580 {call : m_call} {r : m_R → m_S → Prop} {lo : m_L} {st : List Value} {bd : Nat × Nat} {S : m_S} : m_W1 (m_lk cd_L_passes) call r 580 lo st bd S = o_iload 18 582 call lo st bd S (m_W1 (m_lk cd_L_passes) call r) r := m_W1.iff rfl mm_L_passes
set_option maxRecDepth 20000 in
theorem st_L_passes_582 {call : m_call} {r : m_R → m_S → Prop} {lo : m_L} {st : List Value} {bd : Nat × Nat} {S : m_S} : m_W1 (m_lk cd_L_passes) call r 582 lo st bd S = o_call 96 2 1 6 585 call lo st bd S (m_W1 (m_lk cd_L_passes) call r) r := m_W1.iff rfl mm_L_passes
set_option maxRecDepth 20000 in
theorem st_L_passes_585 {call : m_call} {r : m_R → m_S → Prop} {lo : m_L} {st : List Value} {bd : Nat × Nat} {S : m_S} : m_W1 (m_lk cd_L_passes) call r 585 lo st bd S = o_const (5) 586 call lo st bd S (m_W1 (m_lk cd_L_passes) call r) r := m_W1.iff rfl mm_L_passes
set_option maxRecDepth 20000 in
theorem st_L_passes_586 {call : m_call} {r : m_R → m_S → Prop} {lo : m_L} {st : List Value} {bd : Nat × Nat} {S : m_S} : m_W1 (m_lk cd_L_passes) call r 586 lo st bd S = o_icmpgt 617 589 call lo st bd S (m_W1 (m_lk cd_L_passes) call r) r := m_W1.iff rfl mm_L_passes
set_option maxRecDepth 20000 in
theorem st_L_passes_589 {call : m_call} {r : m_R → m_S → Prop} {lo : m_L} {st : List Value} {bd : Nat × Nat} {S : m_S} : m_W1 (m_lk cd_L_passes) call r 589 lo st bd S = o_aload 0 590 call lo st bd S (m_W1 (m_lk cd_L_passes) call r) r := m_W1.iff rfl mm_L_passes
set_option maxRecDepth 20000 in
theorem st_L_passes_590 {call : m_call} {r : m_R → m_S → Prop} {lo : m_L} {st : List Value} {bd : Nat × Nat} {S : m_S} : m_W1 (m_lk cd_L_passes) call r 590 lo st bd S = o_iload 18 592 call lo st bd S (m_W1 (m_lk cd_L_passes) call r) r := m_W1.iff rfl mm_L_passes
set_option maxRecDepth 20000 in
theorem st_L_passes_592 {call : m_call} {r : m_R → m_S → Prop} {lo : m_L} {st : List Value} {bd : Nat × Nat} {S : m_S} : m_W1 (m_lk cd_L_passes) call r 592 lo st bd S = o_call 96 2 1 6 595 call lo st bd S (m_W1 (m_lk cd_L_passes) call r) r := m_W1.iff rfl mm_L_passes
set_option maxRecDepth 20000 in
theorem st_L_passes_595 {call : m_call} {r : m_R → m_S → Prop} {lo : m_L} {st : List Value} {bd : Nat × Nat} {S : m_S} : m_W1 (m_lk cd_L_passes) call r 595 lo st bd S = o_const (5) 596 call lo st bd S (m_W1 (m_lk cd_L_passes) call r) r := m_W1.iff rfl mm_L_passes
set_option maxRecDepth 20000 in
theorem st_L_passes_596 {call : m_call} {r : m_R → m_S → Prop} {lo : m_L} {st : List Value} {bd : Nat × Nat} {S : m_S} : m_W1 (m_lk cd_L_passes) call r 596 lo st bd S = o_icmpeq 613 599 call lo st bd S (m_W1 (m_lk cd_L_passes) call r) r := m_W1.iff rfl mm_L_passes
set_option maxRecDepth 20000 in
theorem st_L_passes_599 {call : m_call} {r : m_R → m_S → Prop} {lo : m_L} {st : List Value} {bd : Nat × Nat} {S : m_S} : m_W1 (m_lk cd_L_passes) call r 599 lo st bd S = o_aload 0 600 call lo st bd S (m_W1 (m_lk cd_L_passes) call r) r := m_W1.iff rfl mm_L_passes
set_option maxRecDepth 20000 in
theorem st_L_passes_600 {call : m_call} {r : m_R → m_S → Prop} {lo : m_L} {st : List Value} {bd : Nat × Nat} {S : m_S} : m_W1 (m_lk cd_L_passes) call r 600 lo st bd S = o_aload 2 601 call lo st bd S (m_W1 (m_lk cd_L_passes) call r) r := m_W1.iff rfl mm_L_passes
set_option maxRecDepth 20000 in
theorem st_L_passes_601 {call : m_call} {r : m_R → m_S → Prop} {lo : m_L} {st : List Value} {bd : Nat × Nat} {S : m_S} : m_W1 (m_lk cd_L_passes) call r 601 lo st bd S = o_const (40) 603 call lo st bd S (m_W1 (m_lk cd_L_passes) call r) r := m_W1.iff rfl mm_L_passes
set_option maxRecDepth 20000 in
theorem st_L_passes_603 {call : m_call} {r : m_R → m_S → Prop} {lo : m_L} {st : List Value} {bd : Nat × Nat} {S : m_S} : m_W1 (m_lk cd_L_passes) call r 603 lo st bd S = o_iload 18 605 call lo st bd S (m_W1 (m_lk cd_L_passes) call r) r := m_W1.iff rfl mm_L_passes
set_option maxRecDepth 20000 in
theorem st_L_passes_605 {call : m_call} {r : m_R → m_S → Prop} {lo : m_L} {st : List Value} {bd : Nat × Nat} {S : m_S} : m_W1 (m_lk cd_L_passes) call r 605 lo st bd S = o_bin (fun x y => x + y) 606 call lo st bd S (m_W1 (m_lk cd_L_passes) call r) r := m_W1.iff rfl mm_L_passes
set_option maxRecDepth 20000 in
theorem st_L_passes_606 {call : m_call} {r : m_R → m_S → Prop} {lo : m_L} {st : List Value} {bd : Nat × Nat} {S : m_S} : m_W1 (m_lk cd_L_passes) call r 606 lo st bd S = o_iald 0 607 call lo st bd S (m_W1 (m_lk cd_L_passes) call r) r := m_W1.iff rfl mm_L_passes
set_option maxRecDepth 20000 in
theorem st_L_passes_607 {call : m_call} {r : m_R → m_S → Prop} {lo : m_L} {st : List Value} {bd : Nat × Nat} {S : m_S} : m_W1 (m_lk cd_L_passes) call r 607 lo st bd S = o_call 88 2 1 6 610 call lo st bd S (m_W1 (m_lk cd_L_passes) call r) r := m_W1.iff rfl mm_L_passes
set_option maxRecDepth 20000 in
theorem st_L_passes_610 {call : m_call} {r : m_R → m_S → Prop} {lo : m_L} {st : List Value} {bd : Nat × Nat} {S : m_S} : m_W1 (m_lk cd_L_passes) call r 610 lo st bd S = o_ifne 617 613 call lo st bd S (m_W1 (m_lk cd_L_passes) call r) r := m_W1.iff rfl mm_L_passes
set_option maxRecDepth 20000 in
theorem st_L_passes_613 {call : m_call} {r : m_R → m_S → Prop} {lo : m_L} {st : List Value} {bd : Nat × Nat} {S : m_S} : m_W1 (m_lk cd_L_passes) call r 613 lo st bd S = o_const (1) 614 call lo st bd S (m_W1 (m_lk cd_L_passes) call r) r := m_W1.iff rfl mm_L_passes
set_option maxRecDepth 20000 in
theorem st_L_passes_614 {call : m_call} {r : m_R → m_S → Prop} {lo : m_L} {st : List Value} {bd : Nat × Nat} {S : m_S} : m_W1 (m_lk cd_L_passes) call r 614 lo st bd S = o_goto 618 call lo st bd S (m_W1 (m_lk cd_L_passes) call r) r := m_W1.iff rfl mm_L_passes
set_option maxRecDepth 20000 in
theorem st_L_passes_617 {call : m_call} {r : m_R → m_S → Prop} {lo : m_L} {st : List Value} {bd : Nat × Nat} {S : m_S} : m_W1 (m_lk cd_L_passes) call r 617 lo st bd S = o_const (0) 618 call lo st bd S (m_W1 (m_lk cd_L_passes) call r) r := m_W1.iff rfl mm_L_passes
set_option maxRecDepth 20000 in
theorem st_L_passes_618 {call : m_call} {r : m_R → m_S → Prop} {lo : m_L} {st : List Value} {bd : Nat × Nat} {S : m_S} : m_W1 (m_lk cd_L_passes) call r 618 lo st bd S = o_istW 10 620 call lo st bd S (m_W1 (m_lk cd_L_passes) call r) r := m_W1.iff rfl mm_L_passes
set_option maxRecDepth 20000 in
theorem st_L_passes_620 {call : m_call} {r : m_R → m_S → Prop} {lo : m_L} {st : List Value} {bd : Nat × Nat} {S : m_S} : m_W1 (m_lk cd_L_passes) call r 620 lo st bd S = o_iincW 18 (1) 623 call lo st bd S (m_W1 (m_lk cd_L_passes) call r) r := m_W1.iff rfl mm_L_passes
set_option maxRecDepth 20000 in
theorem st_L_passes_623 {call : m_call} {r : m_R → m_S → Prop} {lo : m_L} {st : List Value} {bd : Nat × Nat} {S : m_S} : m_W1 (m_lk cd_L_passes) call r 623 lo st bd S = o_goto 557 call lo st bd S (m_W1 (m_lk cd_L_passes) call r) r := m_W1.iff rfl mm_L_passes
set_option maxRecDepth 20000 in
theorem st_L_passes_626 {call : m_call} {r : m_R → m_S → Prop} {lo : m_L} {st : List Value} {bd : Nat × Nat} {S : m_S} : m_W1 (m_lk cd_L_passes) call r 626 lo st bd S = o_iload 5 628 call lo st bd S (m_W1 (m_lk cd_L_passes) call r) r := m_W1.iff rfl mm_L_passes
set_option maxRecDepth 20000 in
theorem st_L_passes_628 {call : m_call} {r : m_R → m_S → Prop} {lo : m_L} {st : List Value} {bd : Nat × Nat} {S : m_S} : m_W1 (m_lk cd_L_passes) call r 628 lo st bd S = o_const (36) 630 call lo st bd S (m_W1 (m_lk cd_L_passes) call r) r := m_W1.iff rfl mm_L_passes
set_option maxRecDepth 20000 in
theorem st_L_passes_630 {call : m_call} {r : m_R → m_S → Prop} {lo : m_L} {st : List Value} {bd : Nat × Nat} {S : m_S} : m_W1 (m_lk cd_L_passes) call r 630 lo st bd S = o_call 77 2 0 0 633 call lo st bd S (m_W1 (m_lk cd_L_passes) call r) r := m_W1.iff rfl mm_L_passes
set_option maxRecDepth 20000 in
theorem st_L_passes_633 {call : m_call} {r : m_R → m_S → Prop} {lo : m_L} {st : List Value} {bd : Nat × Nat} {S : m_S} : m_W1 (m_lk cd_L_passes) call r 633 lo st bd S = o_istW 18 635 call lo st bd S (m_W1 (m_lk cd_L_passes) call r) r := m_W1.iff rfl mm_L_passes
set_option maxRecDepth 20000 in
theorem st_L_passes_635 {call : m_call} {r : m_R → m_S → Prop} {lo : m_L} {st : List Value} {bd : Nat × Nat} {S : m_S} : m_W1 (m_lk cd_L_passes) call r 635 lo st bd S = o_aload 4 637 call lo st bd S (m_W1 (m_lk cd_L_passes) call r) r := m_W1.iff rfl mm_L_passes
set_option maxRecDepth 20000 in
theorem st_L_passes_637 {call : m_call} {r : m_R → m_S → Prop} {lo : m_L} {st : List Value} {bd : Nat × Nat} {S : m_S} : m_W1 (m_lk cd_L_passes) call r 637 lo st bd S = o_const (0) 638 call lo st bd S (m_W1 (m_lk cd_L_passes) call r) r := m_W1.iff rfl mm_L_passes
set_option maxRecDepth 20000 in
theorem st_L_passes_638 {call : m_call} {r : m_R → m_S → Prop} {lo : m_L} {st : List Value} {bd : Nat × Nat} {S : m_S} : m_W1 (m_lk cd_L_passes) call r 638 lo st bd S = o_dup2 639 call lo st bd S (m_W1 (m_lk cd_L_passes) call r) r := m_W1.iff rfl mm_L_passes
set_option maxRecDepth 20000 in
theorem st_L_passes_639 {call : m_call} {r : m_R → m_S → Prop} {lo : m_L} {st : List Value} {bd : Nat × Nat} {S : m_S} : m_W1 (m_lk cd_L_passes) call r 639 lo st bd S = o_iald 0 640 call lo st bd S (m_W1 (m_lk cd_L_passes) call r) r := m_W1.iff rfl mm_L_passes
set_option maxRecDepth 20000 in
theorem st_L_passes_640 {call : m_call} {r : m_R → m_S → Prop} {lo : m_L} {st : List Value} {bd : Nat × Nat} {S : m_S} : m_W1 (m_lk cd_L_passes) call r 640 lo st bd S = o_const (1) 641 call lo st bd S (m_W1 (m_lk cd_L_passes) call r) r := m_W1.iff rfl mm_L_passes
set_option maxRecDepth 20000 in
theorem st_L_passes_641 {call : m_call} {r : m_R → m_S → Prop} {lo : m_L} {st : List Value} {bd : Nat × Nat} {S : m_S} : m_W1 (m_lk cd_L_passes) call r 641 lo st bd S = o_bin (fun x y => x + y) 642 call lo st bd S (m_W1 (m_lk cd_L_passes) call r) r := m_W1.iff rfl mm_L_passes
set_option maxRecDepth 20000 in
theorem st_L_passes_642 {call : m_call} {r : m_R → m_S → Prop} {lo : m_L} {st : List Value} {bd : Nat × Nat} {S : m_S} : m_W1 (m_lk cd_L_passes) call r 642 lo st bd S = o_iast 643 call lo st bd S (m_W1 (m_lk cd_L_passes) call r) r := m_W1.iff rfl mm_L_passes
set_option maxRecDepth 20000 in
theorem st_L_passes_643 {call : m_call} {r : m_R → m_S → Prop} {lo : m_L} {st : List Value} {bd : Nat × Nat} {S : m_S} : m_W1 (m_lk cd_L_passes) call r 643 lo st bd S = o_iload 10 645 call lo st bd S (m_W1 (m_lk cd_L_passes) call r) r := m_W1.iff rfl mm_L_passes
set_option maxRecDepth 20000 in
theorem st_L_passes_645 {call : m_call} {r : m_R → m_S → Prop} {lo : m_L} {st : List Value} {bd : Nat × Nat} {S : m_S} : m_W1 (m_lk cd_L_passes) call r 645 lo st bd S = o_ifeq 692 648 call lo st bd S (m_W1 (m_lk cd_L_passes) call r) r := m_W1.iff rfl mm_L_passes
set_option maxRecDepth 20000 in
theorem st_L_passes_648 {call : m_call} {r : m_R → m_S → Prop} {lo : m_L} {st : List Value} {bd : Nat × Nat} {S : m_S} : m_W1 (m_lk cd_L_passes) call r 648 lo st bd S = o_aload 4 650 call lo st bd S (m_W1 (m_lk cd_L_passes) call r) r := m_W1.iff rfl mm_L_passes
set_option maxRecDepth 20000 in
theorem st_L_passes_650 {call : m_call} {r : m_R → m_S → Prop} {lo : m_L} {st : List Value} {bd : Nat × Nat} {S : m_S} : m_W1 (m_lk cd_L_passes) call r 650 lo st bd S = o_const (0) 651 call lo st bd S (m_W1 (m_lk cd_L_passes) call r) r := m_W1.iff rfl mm_L_passes
set_option maxRecDepth 20000 in
theorem st_L_passes_651 {call : m_call} {r : m_R → m_S → Prop} {lo : m_L} {st : List Value} {bd : Nat × Nat} {S : m_S} : m_W1 (m_lk cd_L_passes) call r 651 lo st bd S = o_iald 0 652 call lo st bd S (m_W1 (m_lk cd_L_passes) call r) r := m_W1.iff rfl mm_L_passes
set_option maxRecDepth 20000 in
theorem st_L_passes_652 {call : m_call} {r : m_R → m_S → Prop} {lo : m_L} {st : List Value} {bd : Nat × Nat} {S : m_S} : m_W1 (m_lk cd_L_passes) call r 652 lo st bd S = o_const (12) 654 call lo st bd S (m_W1 (m_lk cd_L_passes) call r) r := m_W1.iff rfl mm_L_passes
set_option maxRecDepth 20000 in
theorem st_L_passes_654 {call : m_call} {r : m_R → m_S → Prop} {lo : m_L} {st : List Value} {bd : Nat × Nat} {S : m_S} : m_W1 (m_lk cd_L_passes) call r 654 lo st bd S = o_icmpgt 688 657 call lo st bd S (m_W1 (m_lk cd_L_passes) call r) r := m_W1.iff rfl mm_L_passes
set_option maxRecDepth 20000 in
theorem st_L_passes_657 {call : m_call} {r : m_R → m_S → Prop} {lo : m_L} {st : List Value} {bd : Nat × Nat} {S : m_S} : m_W1 (m_lk cd_L_passes) call r 657 lo st bd S = o_aload 0 658 call lo st bd S (m_W1 (m_lk cd_L_passes) call r) r := m_W1.iff rfl mm_L_passes
set_option maxRecDepth 20000 in
theorem st_L_passes_658 {call : m_call} {r : m_R → m_S → Prop} {lo : m_L} {st : List Value} {bd : Nat × Nat} {S : m_S} : m_W1 (m_lk cd_L_passes) call r 658 lo st bd S = o_iload 18 660 call lo st bd S (m_W1 (m_lk cd_L_passes) call r) r := m_W1.iff rfl mm_L_passes
set_option maxRecDepth 20000 in
theorem st_L_passes_660 {call : m_call} {r : m_R → m_S → Prop} {lo : m_L} {st : List Value} {bd : Nat × Nat} {S : m_S} : m_W1 (m_lk cd_L_passes) call r 660 lo st bd S = o_const (6) 662 call lo st bd S (m_W1 (m_lk cd_L_passes) call r) r := m_W1.iff rfl mm_L_passes
set_option maxRecDepth 20000 in
theorem st_L_passes_662 {call : m_call} {r : m_R → m_S → Prop} {lo : m_L} {st : List Value} {bd : Nat × Nat} {S : m_S} : m_W1 (m_lk cd_L_passes) call r 662 lo st bd S = o_div (fun x y => x / y) 663 call lo st bd S (m_W1 (m_lk cd_L_passes) call r) r := m_W1.iff rfl mm_L_passes
set_option maxRecDepth 20000 in
theorem st_L_passes_663 {call : m_call} {r : m_R → m_S → Prop} {lo : m_L} {st : List Value} {bd : Nat × Nat} {S : m_S} : m_W1 (m_lk cd_L_passes) call r 663 lo st bd S = o_iload 18 665 call lo st bd S (m_W1 (m_lk cd_L_passes) call r) r := m_W1.iff rfl mm_L_passes
set_option maxRecDepth 20000 in
theorem st_L_passes_665 {call : m_call} {r : m_R → m_S → Prop} {lo : m_L} {st : List Value} {bd : Nat × Nat} {S : m_S} : m_W1 (m_lk cd_L_passes) call r 665 lo st bd S = o_const (6) 667 call lo st bd S (m_W1 (m_lk cd_L_passes) call r) r := m_W1.iff rfl mm_L_passes
set_option maxRecDepth 20000 in
theorem st_L_passes_667 {call : m_call} {r : m_R → m_S → Prop} {lo : m_L} {st : List Value} {bd : Nat × Nat} {S : m_S} : m_W1 (m_lk cd_L_passes) call r 667 lo st bd S = o_div (fun x y => x - x / y * y) 668 call lo st bd S (m_W1 (m_lk cd_L_passes) call r) r := m_W1.iff rfl mm_L_passes
set_option maxRecDepth 20000 in
theorem st_L_passes_668 {call : m_call} {r : m_R → m_S → Prop} {lo : m_L} {st : List Value} {bd : Nat × Nat} {S : m_S} : m_W1 (m_lk cd_L_passes) call r 668 lo st bd S = o_call 92 3 2 12 671 call lo st bd S (m_W1 (m_lk cd_L_passes) call r) r := m_W1.iff rfl mm_L_passes
set_option maxRecDepth 20000 in
theorem st_L_passes_671 {call : m_call} {r : m_R → m_S → Prop} {lo : m_L} {st : List Value} {bd : Nat × Nat} {S : m_S} : m_W1 (m_lk cd_L_passes) call r 671 lo st bd S = o_aload 0 672 call lo st bd S (m_W1 (m_lk cd_L_passes) call r) r := m_W1.iff rfl mm_L_passes
set_option maxRecDepth 20000 in
theorem st_L_passes_672 {call : m_call} {r : m_R → m_S → Prop} {lo : m_L} {st : List Value} {bd : Nat × Nat} {S : m_S} : m_W1 (m_lk cd_L_passes) call r 672 lo st bd S = o_iload 18 674 call lo st bd S (m_W1 (m_lk cd_L_passes) call r) r := m_W1.iff rfl mm_L_passes
set_option maxRecDepth 20000 in
theorem st_L_passes_674 {call : m_call} {r : m_R → m_S → Prop} {lo : m_L} {st : List Value} {bd : Nat × Nat} {S : m_S} : m_W1 (m_lk cd_L_passes) call r 674 lo st bd S = o_const (6) 676 call lo st bd S (m_W1 (m_lk cd_L_passes) call r) r := m_W1.iff rfl mm_L_passes
set_option maxRecDepth 20000 in
theorem st_L_passes_676 {call : m_call} {r : m_R → m_S → Prop} {lo : m_L} {st : List Value} {bd : Nat × Nat} {S : m_S} : m_W1 (m_lk cd_L_passes) call r 676 lo st bd S = o_div (fun x y => x / y) 677 call lo st bd S (m_W1 (m_lk cd_L_passes) call r) r := m_W1.iff rfl mm_L_passes
set_option maxRecDepth 20000 in
theorem st_L_passes_677 {call : m_call} {r : m_R → m_S → Prop} {lo : m_L} {st : List Value} {bd : Nat × Nat} {S : m_S} : m_W1 (m_lk cd_L_passes) call r 677 lo st bd S = o_iload 18 679 call lo st bd S (m_W1 (m_lk cd_L_passes) call r) r := m_W1.iff rfl mm_L_passes
set_option maxRecDepth 20000 in
theorem st_L_passes_679 {call : m_call} {r : m_R → m_S → Prop} {lo : m_L} {st : List Value} {bd : Nat × Nat} {S : m_S} : m_W1 (m_lk cd_L_passes) call r 679 lo st bd S = o_const (6) 681 call lo st bd S (m_W1 (m_lk cd_L_passes) call r) r := m_W1.iff rfl mm_L_passes
set_option maxRecDepth 20000 in
theorem st_L_passes_681 {call : m_call} {r : m_R → m_S → Prop} {lo : m_L} {st : List Value} {bd : Nat × Nat} {S : m_S} : m_W1 (m_lk cd_L_passes) call r 681 lo st bd S = o_div (fun x y => x - x / y * y) 682 call lo st bd S (m_W1 (m_lk cd_L_passes) call r) r := m_W1.iff rfl mm_L_passes
set_option maxRecDepth 20000 in
theorem st_L_passes_682 {call : m_call} {r : m_R → m_S → Prop} {lo : m_L} {st : List Value} {bd : Nat × Nat} {S : m_S} : m_W1 (m_lk cd_L_passes) call r 682 lo st bd S = o_call 91 3 2 12 685 call lo st bd S (m_W1 (m_lk cd_L_passes) call r) r := m_W1.iff rfl mm_L_passes
set_option maxRecDepth 20000 in
theorem st_L_passes_685 {call : m_call} {r : m_R → m_S → Prop} {lo : m_L} {st : List Value} {bd : Nat × Nat} {S : m_S} : m_W1 (m_lk cd_L_passes) call r 685 lo st bd S = o_icmpne 692 688 call lo st bd S (m_W1 (m_lk cd_L_passes) call r) r := m_W1.iff rfl mm_L_passes
set_option maxRecDepth 20000 in
theorem st_L_passes_688 {call : m_call} {r : m_R → m_S → Prop} {lo : m_L} {st : List Value} {bd : Nat × Nat} {S : m_S} : m_W1 (m_lk cd_L_passes) call r 688 lo st bd S = o_const (1) 689 call lo st bd S (m_W1 (m_lk cd_L_passes) call r) r := m_W1.iff rfl mm_L_passes
set_option maxRecDepth 20000 in
theorem st_L_passes_689 {call : m_call} {r : m_R → m_S → Prop} {lo : m_L} {st : List Value} {bd : Nat × Nat} {S : m_S} : m_W1 (m_lk cd_L_passes) call r 689 lo st bd S = o_goto 693 call lo st bd S (m_W1 (m_lk cd_L_passes) call r) r := m_W1.iff rfl mm_L_passes
set_option maxRecDepth 20000 in
theorem st_L_passes_692 {call : m_call} {r : m_R → m_S → Prop} {lo : m_L} {st : List Value} {bd : Nat × Nat} {S : m_S} : m_W1 (m_lk cd_L_passes) call r 692 lo st bd S = o_const (0) 693 call lo st bd S (m_W1 (m_lk cd_L_passes) call r) r := m_W1.iff rfl mm_L_passes
set_option maxRecDepth 20000 in
theorem st_L_passes_693 {call : m_call} {r : m_R → m_S → Prop} {lo : m_L} {st : List Value} {bd : Nat × Nat} {S : m_S} : m_W1 (m_lk cd_L_passes) call r 693 lo st bd S = o_istW 10 695 call lo st bd S (m_W1 (m_lk cd_L_passes) call r) r := m_W1.iff rfl mm_L_passes
set_option maxRecDepth 20000 in
theorem st_L_passes_695 {call : m_call} {r : m_R → m_S → Prop} {lo : m_L} {st : List Value} {bd : Nat × Nat} {S : m_S} : m_W1 (m_lk cd_L_passes) call r 695 lo st bd S = o_iload 10 697 call lo st bd S (m_W1 (m_lk cd_L_passes) call r) r := m_W1.iff rfl mm_L_passes
set_option maxRecDepth 20000 in
theorem st_L_passes_697 {call : m_call} {r : m_R → m_S → Prop} {lo : m_L} {st : List Value} {bd : Nat × Nat} {S : m_S} : m_W1 (m_lk cd_L_passes) call r 697 lo st bd S = o_ifeq 776 700 call lo st bd S (m_W1 (m_lk cd_L_passes) call r) r := m_W1.iff rfl mm_L_passes
set_option maxRecDepth 20000 in
theorem st_L_passes_700 {call : m_call} {r : m_R → m_S → Prop} {lo : m_L} {st : List Value} {bd : Nat × Nat} {S : m_S} : m_W1 (m_lk cd_L_passes) call r 700 lo st bd S = o_lload 16 702 call lo st bd S (m_W1 (m_lk cd_L_passes) call r) r := m_W1.iff rfl mm_L_passes
set_option maxRecDepth 20000 in
theorem st_L_passes_702 {call : m_call} {r : m_R → m_S → Prop} {lo : m_L} {st : List Value} {bd : Nat × Nat} {S : m_S} : m_W1 (m_lk cd_L_passes) call r 702 lo st bd S = o_lconst 0 703 call lo st bd S (m_W1 (m_lk cd_L_passes) call r) r := m_W1.iff rfl mm_L_passes
set_option maxRecDepth 20000 in
theorem st_L_passes_703 {call : m_call} {r : m_R → m_S → Prop} {lo : m_L} {st : List Value} {bd : Nat × Nat} {S : m_S} : m_W1 (m_lk cd_L_passes) call r 703 lo st bd S = o_lcmp 704 call lo st bd S (m_W1 (m_lk cd_L_passes) call r) r := m_W1.iff rfl mm_L_passes
set_option maxRecDepth 20000 in
theorem st_L_passes_704 {call : m_call} {r : m_R → m_S → Prop} {lo : m_L} {st : List Value} {bd : Nat × Nat} {S : m_S} : m_W1 (m_lk cd_L_passes) call r 704 lo st bd S = o_ifne 776 707 call lo st bd S (m_W1 (m_lk cd_L_passes) call r) r := m_W1.iff rfl mm_L_passes
set_option maxRecDepth 20000 in
theorem st_L_passes_707 {call : m_call} {r : m_R → m_S → Prop} {lo : m_L} {st : List Value} {bd : Nat × Nat} {S : m_S} : m_W1 (m_lk cd_L_passes) call r 707 lo st bd S = o_lload 14 709 call lo st bd S (m_W1 (m_lk cd_L_passes) call r) r := m_W1.iff rfl mm_L_passes
set_option maxRecDepth 20000 in
theorem st_L_passes_709 {call : m_call} {r : m_R → m_S → Prop} {lo : m_L} {st : List Value} {bd : Nat × Nat} {S : m_S} : m_W1 (m_lk cd_L_passes) call r 709 lo st bd S = o_lload 7 711 call lo st bd S (m_W1 (m_lk cd_L_passes) call r) r := m_W1.iff rfl mm_L_passes
set_option maxRecDepth 20000 in
theorem st_L_passes_711 {call : m_call} {r : m_R → m_S → Prop} {lo : m_L} {st : List Value} {bd : Nat × Nat} {S : m_S} : m_W1 (m_lk cd_L_passes) call r 711 lo st bd S = o_lbin (fun x y => x - y) 712 call lo st bd S (m_W1 (m_lk cd_L_passes) call r) r := m_W1.iff rfl mm_L_passes
set_option maxRecDepth 20000 in
theorem st_L_passes_712 {call : m_call} {r : m_R → m_S → Prop} {lo : m_L} {st : List Value} {bd : Nat × Nat} {S : m_S} : m_W1 (m_lk cd_L_passes) call r 712 lo st bd S = o_lload 12 714 call lo st bd S (m_W1 (m_lk cd_L_passes) call r) r := m_W1.iff rfl mm_L_passes
set_option maxRecDepth 20000 in
theorem st_L_passes_714 {call : m_call} {r : m_R → m_S → Prop} {lo : m_L} {st : List Value} {bd : Nat × Nat} {S : m_S} : m_W1 (m_lk cd_L_passes) call r 714 lo st bd S = o_lcmp 715 call lo st bd S (m_W1 (m_lk cd_L_passes) call r) r := m_W1.iff rfl mm_L_passes
set_option maxRecDepth 20000 in
theorem st_L_passes_715 {call : m_call} {r : m_R → m_S → Prop} {lo : m_L} {st : List Value} {bd : Nat × Nat} {S : m_S} : m_W1 (m_lk cd_L_passes) call r 715 lo st bd S = o_iflt 776 718 call lo st bd S (m_W1 (m_lk cd_L_passes) call r) r := m_W1.iff rfl mm_L_passes
set_option maxRecDepth 20000 in
theorem st_L_passes_718 {call : m_call} {r : m_R → m_S → Prop} {lo : m_L} {st : List Value} {bd : Nat × Nat} {S : m_S} : m_W1 (m_lk cd_L_passes) call r 718 lo st bd S = o_lload 14 720 call lo st bd S (m_W1 (m_lk cd_L_passes) call r) r := m_W1.iff rfl mm_L_passes
set_option maxRecDepth 20000 in
theorem st_L_passes_720 {call : m_call} {r : m_R → m_S → Prop} {lo : m_L} {st : List Value} {bd : Nat × Nat} {S : m_S} : m_W1 (m_lk cd_L_passes) call r 720 lo st bd S = o_lload 7 722 call lo st bd S (m_W1 (m_lk cd_L_passes) call r) r := m_W1.iff rfl mm_L_passes
set_option maxRecDepth 20000 in
theorem st_L_passes_722 {call : m_call} {r : m_R → m_S → Prop} {lo : m_L} {st : List Value} {bd : Nat × Nat} {S : m_S} : m_W1 (m_lk cd_L_passes) call r 722 lo st bd S = o_lbin (fun x y => x - y) 723 call lo st bd S (m_W1 (m_lk cd_L_passes) call r) r := m_W1.iff rfl mm_L_passes
set_option maxRecDepth 20000 in
theorem st_L_passes_723 {call : m_call} {r : m_R → m_S → Prop} {lo : m_L} {st : List Value} {bd : Nat × Nat} {S : m_S} : m_W1 (m_lk cd_L_passes) call r 723 lo st bd S = o_lconst (5) 726 call lo st bd S (m_W1 (m_lk cd_L_passes) call r) r := m_W1.iff rfl mm_L_passes
set_option maxRecDepth 20000 in
theorem st_L_passes_726 {call : m_call} {r : m_R → m_S → Prop} {lo : m_L} {st : List Value} {bd : Nat × Nat} {S : m_S} : m_W1 (m_lk cd_L_passes) call r 726 lo st bd S = o_lload 12 728 call lo st bd S (m_W1 (m_lk cd_L_passes) call r) r := m_W1.iff rfl mm_L_passes
set_option maxRecDepth 20000 in
theorem st_L_passes_728 {call : m_call} {r : m_R → m_S → Prop} {lo : m_L} {st : List Value} {bd : Nat × Nat} {S : m_S} : m_W1 (m_lk cd_L_passes) call r 728 lo st bd S = o_lbin (fun x y => x * y) 729 call lo st bd S (m_W1 (m_lk cd_L_passes) call r) r := m_W1.iff rfl mm_L_passes
set_option maxRecDepth 20000 in
theorem st_L_passes_729 {call : m_call} {r : m_R → m_S → Prop} {lo : m_L} {st : List Value} {bd : Nat × Nat} {S : m_S} : m_W1 (m_lk cd_L_passes) call r 729 lo st bd S = o_lcmp 730 call lo st bd S (m_W1 (m_lk cd_L_passes) call r) r := m_W1.iff rfl mm_L_passes
set_option maxRecDepth 20000 in
theorem st_L_passes_730 {call : m_call} {r : m_R → m_S → Prop} {lo : m_L} {st : List Value} {bd : Nat × Nat} {S : m_S} : m_W1 (m_lk cd_L_passes) call r 730 lo st bd S = o_ifgt 776 733 call lo st bd S (m_W1 (m_lk cd_L_passes) call r) r := m_W1.iff rfl mm_L_passes
set_option maxRecDepth 20000 in
theorem st_L_passes_733 {call : m_call} {r : m_R → m_S → Prop} {lo : m_L} {st : List Value} {bd : Nat × Nat} {S : m_S} : m_W1 (m_lk cd_L_passes) call r 733 lo st bd S = o_lload 14 735 call lo st bd S (m_W1 (m_lk cd_L_passes) call r) r := m_W1.iff rfl mm_L_passes
set_option maxRecDepth 20000 in
theorem st_L_passes_735 {call : m_call} {r : m_R → m_S → Prop} {lo : m_L} {st : List Value} {bd : Nat × Nat} {S : m_S} : m_W1 (m_lk cd_L_passes) call r 735 lo st bd S = o_lload 7 737 call lo st bd S (m_W1 (m_lk cd_L_passes) call r) r := m_W1.iff rfl mm_L_passes
set_option maxRecDepth 20000 in
theorem st_L_passes_737 {call : m_call} {r : m_R → m_S → Prop} {lo : m_L} {st : List Value} {bd : Nat × Nat} {S : m_S} : m_W1 (m_lk cd_L_passes) call r 737 lo st bd S = o_lbin (fun x y => x - y) 738 call lo st bd S (m_W1 (m_lk cd_L_passes) call r) r := m_W1.iff rfl mm_L_passes
set_option maxRecDepth 20000 in
theorem st_L_passes_738 {call : m_call} {r : m_R → m_S → Prop} {lo : m_L} {st : List Value} {bd : Nat × Nat} {S : m_S} : m_W1 (m_lk cd_L_passes) call r 738 lo st bd S = o_lconst (200) 741 call lo st bd S (m_W1 (m_lk cd_L_passes) call r) r := m_W1.iff rfl mm_L_passes
set_option maxRecDepth 20000 in
theorem st_L_passes_741 {call : m_call} {r : m_R → m_S → Prop} {lo : m_L} {st : List Value} {bd : Nat × Nat} {S : m_S} : m_W1 (m_lk cd_L_passes) call r 741 lo st bd S = o_ldiv (fun x y => x - x / y * y) 742 call lo st bd S (m_W1 (m_lk cd_L_passes) call r) r := m_W1.iff rfl mm_L_passes
set_option maxRecDepth 20000 in
theorem st_L_passes_742 {call : m_call} {r : m_R → m_S → Prop} {lo : m_L} {st : List Value} {bd : Nat × Nat} {S : m_S} : m_W1 (m_lk cd_L_passes) call r 742 lo st bd S = o_lconst 0 743 call lo st bd S (m_W1 (m_lk cd_L_passes) call r) r := m_W1.iff rfl mm_L_passes
set_option maxRecDepth 20000 in
theorem st_L_passes_743 {call : m_call} {r : m_R → m_S → Prop} {lo : m_L} {st : List Value} {bd : Nat × Nat} {S : m_S} : m_W1 (m_lk cd_L_passes) call r 743 lo st bd S = o_lcmp 744 call lo st bd S (m_W1 (m_lk cd_L_passes) call r) r := m_W1.iff rfl mm_L_passes
set_option maxRecDepth 20000 in
theorem st_L_passes_744 {call : m_call} {r : m_R → m_S → Prop} {lo : m_L} {st : List Value} {bd : Nat × Nat} {S : m_S} : m_W1 (m_lk cd_L_passes) call r 744 lo st bd S = o_ifne 776 747 call lo st bd S (m_W1 (m_lk cd_L_passes) call r) r := m_W1.iff rfl mm_L_passes
set_option maxRecDepth 20000 in
theorem st_L_passes_747 {call : m_call} {r : m_R → m_S → Prop} {lo : m_L} {st : List Value} {bd : Nat × Nat} {S : m_S} : m_W1 (m_lk cd_L_passes) call r 747 lo st bd S = o_aload 0 748 call lo st bd S (m_W1 (m_lk cd_L_passes) call r) r := m_W1.iff rfl mm_L_passes
set_option maxRecDepth 20000 in
theorem st_L_passes_748 {call : m_call} {r : m_R → m_S → Prop} {lo : m_L} {st : List Value} {bd : Nat × Nat} {S : m_S} : m_W1 (m_lk cd_L_passes) call r 748 lo st bd S = o_callv 7 39 1 0 0 751 call lo st bd S (m_W1 (m_lk cd_L_passes) call r) r := m_W1.iff rfl mm_L_passes
set_option maxRecDepth 20000 in
theorem st_L_passes_751 {call : m_call} {r : m_R → m_S → Prop} {lo : m_L} {st : List Value} {bd : Nat × Nat} {S : m_S} : m_W1 (m_lk cd_L_passes) call r 751 lo st bd S = o_iload 9 753 call lo st bd S (m_W1 (m_lk cd_L_passes) call r) r := m_W1.iff rfl mm_L_passes
set_option maxRecDepth 20000 in
theorem st_L_passes_753 {call : m_call} {r : m_R → m_S → Prop} {lo : m_L} {st : List Value} {bd : Nat × Nat} {S : m_S} : m_W1 (m_lk cd_L_passes) call r 753 lo st bd S = o_icmplt 776 756 call lo st bd S (m_W1 (m_lk cd_L_passes) call r) r := m_W1.iff rfl mm_L_passes
set_option maxRecDepth 20000 in
theorem st_L_passes_756 {call : m_call} {r : m_R → m_S → Prop} {lo : m_L} {st : List Value} {bd : Nat × Nat} {S : m_S} : m_W1 (m_lk cd_L_passes) call r 756 lo st bd S = o_aload 0 757 call lo st bd S (m_W1 (m_lk cd_L_passes) call r) r := m_W1.iff rfl mm_L_passes
set_option maxRecDepth 20000 in
theorem st_L_passes_757 {call : m_call} {r : m_R → m_S → Prop} {lo : m_L} {st : List Value} {bd : Nat × Nat} {S : m_S} : m_W1 (m_lk cd_L_passes) call r 757 lo st bd S = o_callv 7 39 1 0 0 760 call lo st bd S (m_W1 (m_lk cd_L_passes) call r) r := m_W1.iff rfl mm_L_passes
set_option maxRecDepth 20000 in
theorem st_L_passes_760 {call : m_call} {r : m_R → m_S → Prop} {lo : m_L} {st : List Value} {bd : Nat × Nat} {S : m_S} : m_W1 (m_lk cd_L_passes) call r 760 lo st bd S = o_iload 9 762 call lo st bd S (m_W1 (m_lk cd_L_passes) call r) r := m_W1.iff rfl mm_L_passes
set_option maxRecDepth 20000 in
theorem st_L_passes_762 {call : m_call} {r : m_R → m_S → Prop} {lo : m_L} {st : List Value} {bd : Nat × Nat} {S : m_S} : m_W1 (m_lk cd_L_passes) call r 762 lo st bd S = o_const (20) 764 call lo st bd S (m_W1 (m_lk cd_L_passes) call r) r := m_W1.iff rfl mm_L_passes
set_option maxRecDepth 20000 in
theorem st_L_passes_764 {call : m_call} {r : m_R → m_S → Prop} {lo : m_L} {st : List Value} {bd : Nat × Nat} {S : m_S} : m_W1 (m_lk cd_L_passes) call r 764 lo st bd S = o_aload 1 765 call lo st bd S (m_W1 (m_lk cd_L_passes) call r) r := m_W1.iff rfl mm_L_passes
set_option maxRecDepth 20000 in
theorem st_L_passes_765 {call : m_call} {r : m_R → m_S → Prop} {lo : m_L} {st : List Value} {bd : Nat × Nat} {S : m_S} : m_W1 (m_lk cd_L_passes) call r 765 lo st bd S = o_const (3) 766 call lo st bd S (m_W1 (m_lk cd_L_passes) call r) r := m_W1.iff rfl mm_L_passes
set_option maxRecDepth 20000 in
theorem st_L_passes_766 {call : m_call} {r : m_R → m_S → Prop} {lo : m_L} {st : List Value} {bd : Nat × Nat} {S : m_S} : m_W1 (m_lk cd_L_passes) call r 766 lo st bd S = o_iald 0 767 call lo st bd S (m_W1 (m_lk cd_L_passes) call r) r := m_W1.iff rfl mm_L_passes
set_option maxRecDepth 20000 in
theorem st_L_passes_767 {call : m_call} {r : m_R → m_S → Prop} {lo : m_L} {st : List Value} {bd : Nat × Nat} {S : m_S} : m_W1 (m_lk cd_L_passes) call r 767 lo st bd S = o_bin (fun x y => x * y) 768 call lo st bd S (m_W1 (m_lk cd_L_passes) call r) r := m_W1.iff rfl mm_L_passes
set_option maxRecDepth 20000 in
theorem st_L_passes_768 {call : m_call} {r : m_R → m_S → Prop} {lo : m_L} {st : List Value} {bd : Nat × Nat} {S : m_S} : m_W1 (m_lk cd_L_passes) call r 768 lo st bd S = o_bin (fun x y => x + y) 769 call lo st bd S (m_W1 (m_lk cd_L_passes) call r) r := m_W1.iff rfl mm_L_passes
set_option maxRecDepth 20000 in
theorem st_L_passes_769 {call : m_call} {r : m_R → m_S → Prop} {lo : m_L} {st : List Value} {bd : Nat × Nat} {S : m_S} : m_W1 (m_lk cd_L_passes) call r 769 lo st bd S = o_icmpgt 776 772 call lo st bd S (m_W1 (m_lk cd_L_passes) call r) r := m_W1.iff rfl mm_L_passes
set_option maxRecDepth 20000 in
theorem st_L_passes_772 {call : m_call} {r : m_R → m_S → Prop} {lo : m_L} {st : List Value} {bd : Nat × Nat} {S : m_S} : m_W1 (m_lk cd_L_passes) call r 772 lo st bd S = o_const (1) 773 call lo st bd S (m_W1 (m_lk cd_L_passes) call r) r := m_W1.iff rfl mm_L_passes
set_option maxRecDepth 20000 in
theorem st_L_passes_773 {call : m_call} {r : m_R → m_S → Prop} {lo : m_L} {st : List Value} {bd : Nat × Nat} {S : m_S} : m_W1 (m_lk cd_L_passes) call r 773 lo st bd S = o_goto 777 call lo st bd S (m_W1 (m_lk cd_L_passes) call r) r := m_W1.iff rfl mm_L_passes
set_option maxRecDepth 20000 in
theorem st_L_passes_776 {call : m_call} {r : m_R → m_S → Prop} {lo : m_L} {st : List Value} {bd : Nat × Nat} {S : m_S} : m_W1 (m_lk cd_L_passes) call r 776 lo st bd S = o_const (0) 777 call lo st bd S (m_W1 (m_lk cd_L_passes) call r) r := m_W1.iff rfl mm_L_passes
set_option maxRecDepth 20000 in
theorem st_L_passes_777 {call : m_call} {r : m_R → m_S → Prop} {lo : m_L} {st : List Value} {bd : Nat × Nat} {S : m_S} : m_W1 (m_lk cd_L_passes) call r 777 lo st bd S = o_zreturn call lo st bd S (m_W1 (m_lk cd_L_passes) call r) r := m_W1.iff rfl mm_L_passes
set_option maxRecDepth 20000 in
theorem mm_L_isSealed : ∀ q, m_mono (m_lk cd_L_isSealed q) := m_mono_lk _ (m_mc mo_const <| m_mc mo_istore <| m_mc mo_const <| m_mc mo_istore <| m_mc mo_iload <| m_mc mo_const <| m_mc mo_icmpge <| m_mc mo_iload <| m_mc mo_const <| m_mc mo_div <| m_mc mo_iload <| m_mc mo_const <| m_mc mo_div <| m_mc mo_icmpne <| m_mc mo_iload <| m_mc mo_goto <| m_mc mo_iload <| m_mc mo_const <| m_mc mo_bin <| m_mc mo_iload <| m_mc mo_const <| m_mc mo_bin <| m_mc mo_bin <| m_mc mo_const <| m_mc mo_aload <| m_mc mo_iload <| m_mc mo_const <| m_mc mo_div <| m_mc mo_iload <| m_mc mo_const <| m_mc mo_div <| m_mc mo_call <| m_mc mo_bin <| m_mc mo_bin <| m_mc mo_istore <| m_mc mo_iinc <| m_mc mo_goto <| m_mc mo_aload <| m_mc mo_callv <| m_mc mo_iload <| m_mc mo_icmpne <| m_mc mo_aload <| m_mc mo_const <| m_mc mo_call <| m_mc mo_const <| m_mc mo_icmpne <| m_mc mo_aload <| m_mc mo_const <| m_mc mo_const <| m_mc mo_call <| m_mc mo_const <| m_mc mo_icmpne <| m_mc mo_const <| m_mc mo_goto <| m_mc mo_const <| m_mc mo_zreturn <| m_mn)
set_option maxRecDepth 20000 in
theorem xm_L_isSealed : ∀ q, m_ex (m_lk cd_L_isSealed q) := m_ex_lk _ (m_xc ex_const <| m_xc ex_istore <| m_xc ex_const <| m_xc ex_istore <| m_xc ex_iload <| m_xc ex_const <| m_xc ex_icmpge <| m_xc ex_iload <| m_xc ex_const <| m_xc ex_div <| m_xc ex_iload <| m_xc ex_const <| m_xc ex_div <| m_xc ex_icmpne <| m_xc ex_iload <| m_xc ex_goto <| m_xc ex_iload <| m_xc ex_const <| m_xc ex_bin <| m_xc ex_iload <| m_xc ex_const <| m_xc ex_bin <| m_xc ex_bin <| m_xc ex_const <| m_xc ex_aload <| m_xc ex_iload <| m_xc ex_const <| m_xc ex_div <| m_xc ex_iload <| m_xc ex_const <| m_xc ex_div <| m_xc ex_call <| m_xc ex_bin <| m_xc ex_bin <| m_xc ex_istore <| m_xc ex_iinc <| m_xc ex_goto <| m_xc ex_aload <| m_xc ex_callv <| m_xc ex_iload <| m_xc ex_icmpne <| m_xc ex_aload <| m_xc ex_const <| m_xc ex_call <| m_xc ex_const <| m_xc ex_icmpne <| m_xc ex_aload <| m_xc ex_const <| m_xc ex_const <| m_xc ex_call <| m_xc ex_const <| m_xc ex_icmpne <| m_xc ex_const <| m_xc ex_goto <| m_xc ex_const <| m_xc ex_zreturn <| m_xn)
set_option maxRecDepth 20000 in
theorem st_L_isSealed_0 {call : m_call} {r : m_R → m_S → Prop} {lo : m_L} {st : List Value} {bd : Nat × Nat} {S : m_S} : m_W1 (m_lk cd_L_isSealed) call r 0 lo st bd S = o_const (0) 1 call lo st bd S (m_W1 (m_lk cd_L_isSealed) call r) r := m_W1.iff rfl mm_L_isSealed
set_option maxRecDepth 20000 in
theorem st_L_isSealed_1 {call : m_call} {r : m_R → m_S → Prop} {lo : m_L} {st : List Value} {bd : Nat × Nat} {S : m_S} : m_W1 (m_lk cd_L_isSealed) call r 1 lo st bd S = o_istore 1 2 call lo st bd S (m_W1 (m_lk cd_L_isSealed) call r) r := m_W1.iff rfl mm_L_isSealed
set_option maxRecDepth 20000 in
theorem st_L_isSealed_2 {call : m_call} {r : m_R → m_S → Prop} {lo : m_L} {st : List Value} {bd : Nat × Nat} {S : m_S} : m_W1 (m_lk cd_L_isSealed) call r 2 lo st bd S = o_const (0) 3 call lo st bd S (m_W1 (m_lk cd_L_isSealed) call r) r := m_W1.iff rfl mm_L_isSealed
set_option maxRecDepth 20000 in
theorem st_L_isSealed_3 {call : m_call} {r : m_R → m_S → Prop} {lo : m_L} {st : List Value} {bd : Nat × Nat} {S : m_S} : m_W1 (m_lk cd_L_isSealed) call r 3 lo st bd S = o_istore 2 4 call lo st bd S (m_W1 (m_lk cd_L_isSealed) call r) r := m_W1.iff rfl mm_L_isSealed
set_option maxRecDepth 20000 in
theorem st_L_isSealed_4 {call : m_call} {r : m_R → m_S → Prop} {lo : m_L} {st : List Value} {bd : Nat × Nat} {S : m_S} : m_W1 (m_lk cd_L_isSealed) call r 4 lo st bd S = o_iload 2 5 call lo st bd S (m_W1 (m_lk cd_L_isSealed) call r) r := m_W1.iff rfl mm_L_isSealed
set_option maxRecDepth 20000 in
theorem st_L_isSealed_5 {call : m_call} {r : m_R → m_S → Prop} {lo : m_L} {st : List Value} {bd : Nat × Nat} {S : m_S} : m_W1 (m_lk cd_L_isSealed) call r 5 lo st bd S = o_const (36) 7 call lo st bd S (m_W1 (m_lk cd_L_isSealed) call r) r := m_W1.iff rfl mm_L_isSealed
set_option maxRecDepth 20000 in
theorem st_L_isSealed_7 {call : m_call} {r : m_R → m_S → Prop} {lo : m_L} {st : List Value} {bd : Nat × Nat} {S : m_S} : m_W1 (m_lk cd_L_isSealed) call r 7 lo st bd S = o_icmpge 56 10 call lo st bd S (m_W1 (m_lk cd_L_isSealed) call r) r := m_W1.iff rfl mm_L_isSealed
set_option maxRecDepth 20000 in
theorem st_L_isSealed_10 {call : m_call} {r : m_R → m_S → Prop} {lo : m_L} {st : List Value} {bd : Nat × Nat} {S : m_S} : m_W1 (m_lk cd_L_isSealed) call r 10 lo st bd S = o_iload 2 11 call lo st bd S (m_W1 (m_lk cd_L_isSealed) call r) r := m_W1.iff rfl mm_L_isSealed
set_option maxRecDepth 20000 in
theorem st_L_isSealed_11 {call : m_call} {r : m_R → m_S → Prop} {lo : m_L} {st : List Value} {bd : Nat × Nat} {S : m_S} : m_W1 (m_lk cd_L_isSealed) call r 11 lo st bd S = o_const (6) 13 call lo st bd S (m_W1 (m_lk cd_L_isSealed) call r) r := m_W1.iff rfl mm_L_isSealed
set_option maxRecDepth 20000 in
theorem st_L_isSealed_13 {call : m_call} {r : m_R → m_S → Prop} {lo : m_L} {st : List Value} {bd : Nat × Nat} {S : m_S} : m_W1 (m_lk cd_L_isSealed) call r 13 lo st bd S = o_div (fun x y => x / y) 14 call lo st bd S (m_W1 (m_lk cd_L_isSealed) call r) r := m_W1.iff rfl mm_L_isSealed
set_option maxRecDepth 20000 in
theorem st_L_isSealed_14 {call : m_call} {r : m_R → m_S → Prop} {lo : m_L} {st : List Value} {bd : Nat × Nat} {S : m_S} : m_W1 (m_lk cd_L_isSealed) call r 14 lo st bd S = o_iload 2 15 call lo st bd S (m_W1 (m_lk cd_L_isSealed) call r) r := m_W1.iff rfl mm_L_isSealed
set_option maxRecDepth 20000 in
theorem st_L_isSealed_15 {call : m_call} {r : m_R → m_S → Prop} {lo : m_L} {st : List Value} {bd : Nat × Nat} {S : m_S} : m_W1 (m_lk cd_L_isSealed) call r 15 lo st bd S = o_const (6) 17 call lo st bd S (m_W1 (m_lk cd_L_isSealed) call r) r := m_W1.iff rfl mm_L_isSealed
set_option maxRecDepth 20000 in
theorem st_L_isSealed_17 {call : m_call} {r : m_R → m_S → Prop} {lo : m_L} {st : List Value} {bd : Nat × Nat} {S : m_S} : m_W1 (m_lk cd_L_isSealed) call r 17 lo st bd S = o_div (fun x y => x - x / y * y) 18 call lo st bd S (m_W1 (m_lk cd_L_isSealed) call r) r := m_W1.iff rfl mm_L_isSealed
set_option maxRecDepth 20000 in
theorem st_L_isSealed_18 {call : m_call} {r : m_R → m_S → Prop} {lo : m_L} {st : List Value} {bd : Nat × Nat} {S : m_S} : m_W1 (m_lk cd_L_isSealed) call r 18 lo st bd S = o_icmpne 25 21 call lo st bd S (m_W1 (m_lk cd_L_isSealed) call r) r := m_W1.iff rfl mm_L_isSealed
set_option maxRecDepth 20000 in
theorem st_L_isSealed_21 {call : m_call} {r : m_R → m_S → Prop} {lo : m_L} {st : List Value} {bd : Nat × Nat} {S : m_S} : m_W1 (m_lk cd_L_isSealed) call r 21 lo st bd S = o_iload 1 22 call lo st bd S (m_W1 (m_lk cd_L_isSealed) call r) r := m_W1.iff rfl mm_L_isSealed
set_option maxRecDepth 20000 in
theorem st_L_isSealed_22 {call : m_call} {r : m_R → m_S → Prop} {lo : m_L} {st : List Value} {bd : Nat × Nat} {S : m_S} : m_W1 (m_lk cd_L_isSealed) call r 22 lo st bd S = o_goto 49 call lo st bd S (m_W1 (m_lk cd_L_isSealed) call r) r := m_W1.iff rfl mm_L_isSealed
set_option maxRecDepth 20000 in
theorem st_L_isSealed_25 {call : m_call} {r : m_R → m_S → Prop} {lo : m_L} {st : List Value} {bd : Nat × Nat} {S : m_S} : m_W1 (m_lk cd_L_isSealed) call r 25 lo st bd S = o_iload 1 26 call lo st bd S (m_W1 (m_lk cd_L_isSealed) call r) r := m_W1.iff rfl mm_L_isSealed
set_option maxRecDepth 20000 in
theorem st_L_isSealed_26 {call : m_call} {r : m_R → m_S → Prop} {lo : m_L} {st : List Value} {bd : Nat × Nat} {S : m_S} : m_W1 (m_lk cd_L_isSealed) call r 26 lo st bd S = o_const (3) 27 call lo st bd S (m_W1 (m_lk cd_L_isSealed) call r) r := m_W1.iff rfl mm_L_isSealed
set_option maxRecDepth 20000 in
theorem st_L_isSealed_27 {call : m_call} {r : m_R → m_S → Prop} {lo : m_L} {st : List Value} {bd : Nat × Nat} {S : m_S} : m_W1 (m_lk cd_L_isSealed) call r 27 lo st bd S = o_bin (fun x y => x <<< (y &&& 31)) 28 call lo st bd S (m_W1 (m_lk cd_L_isSealed) call r) r := m_W1.iff rfl mm_L_isSealed
set_option maxRecDepth 20000 in
theorem st_L_isSealed_28 {call : m_call} {r : m_R → m_S → Prop} {lo : m_L} {st : List Value} {bd : Nat × Nat} {S : m_S} : m_W1 (m_lk cd_L_isSealed) call r 28 lo st bd S = o_iload 1 29 call lo st bd S (m_W1 (m_lk cd_L_isSealed) call r) r := m_W1.iff rfl mm_L_isSealed
set_option maxRecDepth 20000 in
theorem st_L_isSealed_29 {call : m_call} {r : m_R → m_S → Prop} {lo : m_L} {st : List Value} {bd : Nat × Nat} {S : m_S} : m_W1 (m_lk cd_L_isSealed) call r 29 lo st bd S = o_const (29) 31 call lo st bd S (m_W1 (m_lk cd_L_isSealed) call r) r := m_W1.iff rfl mm_L_isSealed
set_option maxRecDepth 20000 in
theorem st_L_isSealed_31 {call : m_call} {r : m_R → m_S → Prop} {lo : m_L} {st : List Value} {bd : Nat × Nat} {S : m_S} : m_W1 (m_lk cd_L_isSealed) call r 31 lo st bd S = o_bin (fun x y => (x.toUInt32 >>> (y.toUInt32 &&& Int32.toUInt32 31)).toInt32) 32 call lo st bd S (m_W1 (m_lk cd_L_isSealed) call r) r := m_W1.iff rfl mm_L_isSealed
set_option maxRecDepth 20000 in
theorem st_L_isSealed_32 {call : m_call} {r : m_R → m_S → Prop} {lo : m_L} {st : List Value} {bd : Nat × Nat} {S : m_S} : m_W1 (m_lk cd_L_isSealed) call r 32 lo st bd S = o_bin (fun x y => x ^^^ y) 33 call lo st bd S (m_W1 (m_lk cd_L_isSealed) call r) r := m_W1.iff rfl mm_L_isSealed
set_option maxRecDepth 20000 in
theorem st_L_isSealed_33 {call : m_call} {r : m_R → m_S → Prop} {lo : m_L} {st : List Value} {bd : Nat × Nat} {S : m_S} : m_W1 (m_lk cd_L_isSealed) call r 33 lo st bd S = o_const (31) 35 call lo st bd S (m_W1 (m_lk cd_L_isSealed) call r) r := m_W1.iff rfl mm_L_isSealed
set_option maxRecDepth 20000 in
theorem st_L_isSealed_35 {call : m_call} {r : m_R → m_S → Prop} {lo : m_L} {st : List Value} {bd : Nat × Nat} {S : m_S} : m_W1 (m_lk cd_L_isSealed) call r 35 lo st bd S = o_aload 0 36 call lo st bd S (m_W1 (m_lk cd_L_isSealed) call r) r := m_W1.iff rfl mm_L_isSealed
set_option maxRecDepth 20000 in
theorem st_L_isSealed_36 {call : m_call} {r : m_R → m_S → Prop} {lo : m_L} {st : List Value} {bd : Nat × Nat} {S : m_S} : m_W1 (m_lk cd_L_isSealed) call r 36 lo st bd S = o_iload 2 37 call lo st bd S (m_W1 (m_lk cd_L_isSealed) call r) r := m_W1.iff rfl mm_L_isSealed
set_option maxRecDepth 20000 in
theorem st_L_isSealed_37 {call : m_call} {r : m_R → m_S → Prop} {lo : m_L} {st : List Value} {bd : Nat × Nat} {S : m_S} : m_W1 (m_lk cd_L_isSealed) call r 37 lo st bd S = o_const (6) 39 call lo st bd S (m_W1 (m_lk cd_L_isSealed) call r) r := m_W1.iff rfl mm_L_isSealed
set_option maxRecDepth 20000 in
theorem st_L_isSealed_39 {call : m_call} {r : m_R → m_S → Prop} {lo : m_L} {st : List Value} {bd : Nat × Nat} {S : m_S} : m_W1 (m_lk cd_L_isSealed) call r 39 lo st bd S = o_div (fun x y => x / y) 40 call lo st bd S (m_W1 (m_lk cd_L_isSealed) call r) r := m_W1.iff rfl mm_L_isSealed
set_option maxRecDepth 20000 in
theorem st_L_isSealed_40 {call : m_call} {r : m_R → m_S → Prop} {lo : m_L} {st : List Value} {bd : Nat × Nat} {S : m_S} : m_W1 (m_lk cd_L_isSealed) call r 40 lo st bd S = o_iload 2 41 call lo st bd S (m_W1 (m_lk cd_L_isSealed) call r) r := m_W1.iff rfl mm_L_isSealed
set_option maxRecDepth 20000 in
theorem st_L_isSealed_41 {call : m_call} {r : m_R → m_S → Prop} {lo : m_L} {st : List Value} {bd : Nat × Nat} {S : m_S} : m_W1 (m_lk cd_L_isSealed) call r 41 lo st bd S = o_const (6) 43 call lo st bd S (m_W1 (m_lk cd_L_isSealed) call r) r := m_W1.iff rfl mm_L_isSealed
set_option maxRecDepth 20000 in
theorem st_L_isSealed_43 {call : m_call} {r : m_R → m_S → Prop} {lo : m_L} {st : List Value} {bd : Nat × Nat} {S : m_S} : m_W1 (m_lk cd_L_isSealed) call r 43 lo st bd S = o_div (fun x y => x - x / y * y) 44 call lo st bd S (m_W1 (m_lk cd_L_isSealed) call r) r := m_W1.iff rfl mm_L_isSealed
set_option maxRecDepth 20000 in
theorem st_L_isSealed_44 {call : m_call} {r : m_R → m_S → Prop} {lo : m_L} {st : List Value} {bd : Nat × Nat} {S : m_S} : m_W1 (m_lk cd_L_isSealed) call r 44 lo st bd S = o_call 91 3 2 12 47 call lo st bd S (m_W1 (m_lk cd_L_isSealed) call r) r := m_W1.iff rfl mm_L_isSealed
set_option maxRecDepth 20000 in
theorem st_L_isSealed_47 {call : m_call} {r : m_R → m_S → Prop} {lo : m_L} {st : List Value} {bd : Nat × Nat} {S : m_S} : m_W1 (m_lk cd_L_isSealed) call r 47 lo st bd S = o_bin (fun x y => x * y) 48 call lo st bd S (m_W1 (m_lk cd_L_isSealed) call r) r := m_W1.iff rfl mm_L_isSealed
set_option maxRecDepth 20000 in
theorem st_L_isSealed_48 {call : m_call} {r : m_R → m_S → Prop} {lo : m_L} {st : List Value} {bd : Nat × Nat} {S : m_S} : m_W1 (m_lk cd_L_isSealed) call r 48 lo st bd S = o_bin (fun x y => x + y) 49 call lo st bd S (m_W1 (m_lk cd_L_isSealed) call r) r := m_W1.iff rfl mm_L_isSealed
set_option maxRecDepth 20000 in
theorem st_L_isSealed_49 {call : m_call} {r : m_R → m_S → Prop} {lo : m_L} {st : List Value} {bd : Nat × Nat} {S : m_S} : m_W1 (m_lk cd_L_isSealed) call r 49 lo st bd S = o_istore 1 50 call lo st bd S (m_W1 (m_lk cd_L_isSealed) call r) r := m_W1.iff rfl mm_L_isSealed
set_option maxRecDepth 20000 in
theorem st_L_isSealed_50 {call : m_call} {r : m_R → m_S → Prop} {lo : m_L} {st : List Value} {bd : Nat × Nat} {S : m_S} : m_W1 (m_lk cd_L_isSealed) call r 50 lo st bd S = o_iinc 2 (1) 53 call lo st bd S (m_W1 (m_lk cd_L_isSealed) call r) r := m_W1.iff rfl mm_L_isSealed
set_option maxRecDepth 20000 in
theorem st_L_isSealed_53 {call : m_call} {r : m_R → m_S → Prop} {lo : m_L} {st : List Value} {bd : Nat × Nat} {S : m_S} : m_W1 (m_lk cd_L_isSealed) call r 53 lo st bd S = o_goto 4 call lo st bd S (m_W1 (m_lk cd_L_isSealed) call r) r := m_W1.iff rfl mm_L_isSealed
set_option maxRecDepth 20000 in
theorem st_L_isSealed_56 {call : m_call} {r : m_R → m_S → Prop} {lo : m_L} {st : List Value} {bd : Nat × Nat} {S : m_S} : m_W1 (m_lk cd_L_isSealed) call r 56 lo st bd S = o_aload 0 57 call lo st bd S (m_W1 (m_lk cd_L_isSealed) call r) r := m_W1.iff rfl mm_L_isSealed
set_option maxRecDepth 20000 in
theorem st_L_isSealed_57 {call : m_call} {r : m_R → m_S → Prop} {lo : m_L} {st : List Value} {bd : Nat × Nat} {S : m_S} : m_W1 (m_lk cd_L_isSealed) call r 57 lo st bd S = o_callv 7 43 1 0 0 60 call lo st bd S (m_W1 (m_lk cd_L_isSealed) call r) r := m_W1.iff rfl mm_L_isSealed
set_option maxRecDepth 20000 in
theorem st_L_isSealed_60 {call : m_call} {r : m_R → m_S → Prop} {lo : m_L} {st : List Value} {bd : Nat × Nat} {S : m_S} : m_W1 (m_lk cd_L_isSealed) call r 60 lo st bd S = o_iload 1 61 call lo st bd S (m_W1 (m_lk cd_L_isSealed) call r) r := m_W1.iff rfl mm_L_isSealed
set_option maxRecDepth 20000 in
theorem st_L_isSealed_61 {call : m_call} {r : m_R → m_S → Prop} {lo : m_L} {st : List Value} {bd : Nat × Nat} {S : m_S} : m_W1 (m_lk cd_L_isSealed) call r 61 lo st bd S = o_icmpne 91 64 call lo st bd S (m_W1 (m_lk cd_L_isSealed) call r) r := m_W1.iff rfl mm_L_isSealed
set_option maxRecDepth 20000 in
theorem st_L_isSealed_64 {call : m_call} {r : m_R → m_S → Prop} {lo : m_L} {st : List Value} {bd : Nat × Nat} {S : m_S} : m_W1 (m_lk cd_L_isSealed) call r 64 lo st bd S = o_aload 0 65 call lo st bd S (m_W1 (m_lk cd_L_isSealed) call r) r := m_W1.iff rfl mm_L_isSealed
set_option maxRecDepth 20000 in
theorem st_L_isSealed_65 {call : m_call} {r : m_R → m_S → Prop} {lo : m_L} {st : List Value} {bd : Nat × Nat} {S : m_S} : m_W1 (m_lk cd_L_isSealed) call r 65 lo st bd S = o_const (6) 67 call lo st bd S (m_W1 (m_lk cd_L_isSealed) call r) r := m_W1.iff rfl mm_L_isSealed
set_option maxRecDepth 20000 in
theorem st_L_isSealed_67 {call : m_call} {r : m_R → m_S → Prop} {lo : m_L} {st : List Value} {bd : Nat × Nat} {S : m_S} : m_W1 (m_lk cd_L_isSealed) call r 67 lo st bd S = o_call 93 2 1 6 70 call lo st bd S (m_W1 (m_lk cd_L_isSealed) call r) r := m_W1.iff rfl mm_L_isSealed
set_option maxRecDepth 20000 in
theorem st_L_isSealed_70 {call : m_call} {r : m_R → m_S → Prop} {lo : m_L} {st : List Value} {bd : Nat × Nat} {S : m_S} : m_W1 (m_lk cd_L_isSealed) call r 70 lo st bd S = o_const (-1000001) 72 call lo st bd S (m_W1 (m_lk cd_L_isSealed) call r) r := m_W1.iff rfl mm_L_isSealed
set_option maxRecDepth 20000 in
theorem st_L_isSealed_72 {call : m_call} {r : m_R → m_S → Prop} {lo : m_L} {st : List Value} {bd : Nat × Nat} {S : m_S} : m_W1 (m_lk cd_L_isSealed) call r 72 lo st bd S = o_icmpne 91 75 call lo st bd S (m_W1 (m_lk cd_L_isSealed) call r) r := m_W1.iff rfl mm_L_isSealed
set_option maxRecDepth 20000 in
theorem st_L_isSealed_75 {call : m_call} {r : m_R → m_S → Prop} {lo : m_L} {st : List Value} {bd : Nat × Nat} {S : m_S} : m_W1 (m_lk cd_L_isSealed) call r 75 lo st bd S = o_aload 0 76 call lo st bd S (m_W1 (m_lk cd_L_isSealed) call r) r := m_W1.iff rfl mm_L_isSealed
set_option maxRecDepth 20000 in
theorem st_L_isSealed_76 {call : m_call} {r : m_R → m_S → Prop} {lo : m_L} {st : List Value} {bd : Nat × Nat} {S : m_S} : m_W1 (m_lk cd_L_isSealed) call r 76 lo st bd S = o_const (6) 78 call lo st bd S (m_W1 (m_lk cd_L_isSealed) call r) r := m_W1.iff rfl mm_L_isSealed
set_option maxRecDepth 20000 in
theorem st_L_isSealed_78 {call : m_call} {r : m_R → m_S → Prop} {lo : m_L} {st : List Value} {bd : Nat × Nat} {S : m_S} : m_W1 (m_lk cd_L_isSealed) call r 78 lo st bd S = o_const (0) 79 call lo st bd S (m_W1 (m_lk cd_L_isSealed) call r) r := m_W1.iff rfl mm_L_isSealed
set_option maxRecDepth 20000 in
theorem st_L_isSealed_79 {call : m_call} {r : m_R → m_S → Prop} {lo : m_L} {st : List Value} {bd : Nat × Nat} {S : m_S} : m_W1 (m_lk cd_L_isSealed) call r 79 lo st bd S = o_call 91 3 2 12 82 call lo st bd S (m_W1 (m_lk cd_L_isSealed) call r) r := m_W1.iff rfl mm_L_isSealed
set_option maxRecDepth 20000 in
theorem st_L_isSealed_82 {call : m_call} {r : m_R → m_S → Prop} {lo : m_L} {st : List Value} {bd : Nat × Nat} {S : m_S} : m_W1 (m_lk cd_L_isSealed) call r 82 lo st bd S = o_const (-1000001) 84 call lo st bd S (m_W1 (m_lk cd_L_isSealed) call r) r := m_W1.iff rfl mm_L_isSealed
set_option maxRecDepth 20000 in
theorem st_L_isSealed_84 {call : m_call} {r : m_R → m_S → Prop} {lo : m_L} {st : List Value} {bd : Nat × Nat} {S : m_S} : m_W1 (m_lk cd_L_isSealed) call r 84 lo st bd S = o_icmpne 91 87 call lo st bd S (m_W1 (m_lk cd_L_isSealed) call r) r := m_W1.iff rfl mm_L_isSealed
set_option maxRecDepth 20000 in
theorem st_L_isSealed_87 {call : m_call} {r : m_R → m_S → Prop} {lo : m_L} {st : List Value} {bd : Nat × Nat} {S : m_S} : m_W1 (m_lk cd_L_isSealed) call r 87 lo st bd S = o_const (1) 88 call lo st bd S (m_W1 (m_lk cd_L_isSealed) call r) r := m_W1.iff rfl mm_L_isSealed
set_option maxRecDepth 20000 in
theorem st_L_isSealed_88 {call : m_call} {r : m_R → m_S → Prop} {lo : m_L} {st : List Value} {bd : Nat × Nat} {S : m_S} : m_W1 (m_lk cd_L_isSealed) call r 88 lo st bd S = o_goto 92 call lo st bd S (m_W1 (m_lk cd_L_isSealed) call r) r := m_W1.iff rfl mm_L_isSealed
set_option maxRecDepth 20000 in
theorem st_L_isSealed_91 {call : m_call} {r : m_R → m_S → Prop} {lo : m_L} {st : List Value} {bd : Nat × Nat} {S : m_S} : m_W1 (m_lk cd_L_isSealed) call r 91 lo st bd S = o_const (0) 92 call lo st bd S (m_W1 (m_lk cd_L_isSealed) call r) r := m_W1.iff rfl mm_L_isSealed
set_option maxRecDepth 20000 in
theorem st_L_isSealed_92 {call : m_call} {r : m_R → m_S → Prop} {lo : m_L} {st : List Value} {bd : Nat × Nat} {S : m_S} : m_W1 (m_lk cd_L_isSealed) call r 92 lo st bd S = o_zreturn call lo st bd S (m_W1 (m_lk cd_L_isSealed) call r) r := m_W1.iff rfl mm_L_isSealed
set_option maxRecDepth 20000 in
theorem mm_L_acts : ∀ q, m_mono (m_lk cd_L_acts q) := m_mono_lk _ (m_mc mo_iload <| m_mc mo_const <| m_mc mo_call <| m_mc mo_istore <| m_mc mo_iload <| m_mc mo_const <| m_mc mo_icmplt <| m_mc mo_aload <| m_mc mo_const <| m_mc mo_iald <| m_mc mo_aload <| m_mc mo_const <| m_mc mo_iald <| m_mc mo_bin <| m_mc mo_const <| m_mc mo_icmpge <| m_mc mo_aload <| m_mc mo_aload <| m_mc mo_aload <| m_mc mo_aload <| m_mc mo_iload <| m_mc mo_const <| m_mc mo_bin <| m_mc mo_iload <| m_mc mo_call <| m_mc mo_zreturn <| m_mc mo_iload <| m_mc mo_const <| m_mc mo_icmpge <| m_mc mo_aload <| m_mc mo_aload <| m_mc mo_aload <| m_mc mo_iload <| m_mc mo_const <| m_mc mo_bin <| m_mc mo_iload <| m_mc mo_call <| m_mc mo_goto <| m_mc mo_iload <| m_mc mo_const <| m_mc mo_icmpge <| m_mc mo_aload <| m_mc mo_aload <| m_mc mo_aload <| m_mc mo_aload <| m_mc mo_aload <| m_mc mo_iload <| m_mc mo_call <| m_mc mo_goto <| m_mc mo_aload <| m_mc mo_call <| m_mc mo_zreturn <| m_mn)
set_option maxRecDepth 20000 in
theorem xm_L_acts : ∀ q, m_ex (m_lk cd_L_acts q) := m_ex_lk _ (m_xc ex_iload <| m_xc ex_const <| m_xc ex_call <| m_xc ex_istore <| m_xc ex_iload <| m_xc ex_const <| m_xc ex_icmplt <| m_xc ex_aload <| m_xc ex_const <| m_xc ex_iald <| m_xc ex_aload <| m_xc ex_const <| m_xc ex_iald <| m_xc ex_bin <| m_xc ex_const <| m_xc ex_icmpge <| m_xc ex_aload <| m_xc ex_aload <| m_xc ex_aload <| m_xc ex_aload <| m_xc ex_iload <| m_xc ex_const <| m_xc ex_bin <| m_xc ex_iload <| m_xc ex_call <| m_xc ex_zreturn <| m_xc ex_iload <| m_xc ex_const <| m_xc ex_icmpge <| m_xc ex_aload <| m_xc ex_aload <| m_xc ex_aload <| m_xc ex_iload <| m_xc ex_const <| m_xc ex_bin <| m_xc ex_iload <| m_xc ex_call <| m_xc ex_goto <| m_xc ex_iload <| m_xc ex_const <| m_xc ex_icmpge <| m_xc ex_aload <| m_xc ex_aload <| m_xc ex_aload <| m_xc ex_aload <| m_xc ex_aload <| m_xc ex_iload <| m_xc ex_call <| m_xc ex_goto <| m_xc ex_aload <| m_xc ex_call <| m_xc ex_zreturn <| m_xn)
set_option maxRecDepth 20000 in
theorem st_L_acts_0 {call : m_call} {r : m_R → m_S → Prop} {lo : m_L} {st : List Value} {bd : Nat × Nat} {S : m_S} : m_W1 (m_lk cd_L_acts) call r 0 lo st bd S = o_iload 5 2 call lo st bd S (m_W1 (m_lk cd_L_acts) call r) r := m_W1.iff rfl mm_L_acts
set_option maxRecDepth 20000 in
theorem st_L_acts_2 {call : m_call} {r : m_R → m_S → Prop} {lo : m_L} {st : List Value} {bd : Nat × Nat} {S : m_S} : m_W1 (m_lk cd_L_acts) call r 2 lo st bd S = o_const (10) 4 call lo st bd S (m_W1 (m_lk cd_L_acts) call r) r := m_W1.iff rfl mm_L_acts
set_option maxRecDepth 20000 in
theorem st_L_acts_4 {call : m_call} {r : m_R → m_S → Prop} {lo : m_L} {st : List Value} {bd : Nat × Nat} {S : m_S} : m_W1 (m_lk cd_L_acts) call r 4 lo st bd S = o_call 77 2 0 0 7 call lo st bd S (m_W1 (m_lk cd_L_acts) call r) r := m_W1.iff rfl mm_L_acts
set_option maxRecDepth 20000 in
theorem st_L_acts_7 {call : m_call} {r : m_R → m_S → Prop} {lo : m_L} {st : List Value} {bd : Nat × Nat} {S : m_S} : m_W1 (m_lk cd_L_acts) call r 7 lo st bd S = o_istore 7 9 call lo st bd S (m_W1 (m_lk cd_L_acts) call r) r := m_W1.iff rfl mm_L_acts
set_option maxRecDepth 20000 in
theorem st_L_acts_9 {call : m_call} {r : m_R → m_S → Prop} {lo : m_L} {st : List Value} {bd : Nat × Nat} {S : m_S} : m_W1 (m_lk cd_L_acts) call r 9 lo st bd S = o_iload 7 11 call lo st bd S (m_W1 (m_lk cd_L_acts) call r) r := m_W1.iff rfl mm_L_acts
set_option maxRecDepth 20000 in
theorem st_L_acts_11 {call : m_call} {r : m_R → m_S → Prop} {lo : m_L} {st : List Value} {bd : Nat × Nat} {S : m_S} : m_W1 (m_lk cd_L_acts) call r 11 lo st bd S = o_const (2) 12 call lo st bd S (m_W1 (m_lk cd_L_acts) call r) r := m_W1.iff rfl mm_L_acts
set_option maxRecDepth 20000 in
theorem st_L_acts_12 {call : m_call} {r : m_R → m_S → Prop} {lo : m_L} {st : List Value} {bd : Nat × Nat} {S : m_S} : m_W1 (m_lk cd_L_acts) call r 12 lo st bd S = o_icmplt 26 15 call lo st bd S (m_W1 (m_lk cd_L_acts) call r) r := m_W1.iff rfl mm_L_acts
set_option maxRecDepth 20000 in
theorem st_L_acts_15 {call : m_call} {r : m_R → m_S → Prop} {lo : m_L} {st : List Value} {bd : Nat × Nat} {S : m_S} : m_W1 (m_lk cd_L_acts) call r 15 lo st bd S = o_aload 1 16 call lo st bd S (m_W1 (m_lk cd_L_acts) call r) r := m_W1.iff rfl mm_L_acts
set_option maxRecDepth 20000 in
theorem st_L_acts_16 {call : m_call} {r : m_R → m_S → Prop} {lo : m_L} {st : List Value} {bd : Nat × Nat} {S : m_S} : m_W1 (m_lk cd_L_acts) call r 16 lo st bd S = o_const (0) 17 call lo st bd S (m_W1 (m_lk cd_L_acts) call r) r := m_W1.iff rfl mm_L_acts
set_option maxRecDepth 20000 in
theorem st_L_acts_17 {call : m_call} {r : m_R → m_S → Prop} {lo : m_L} {st : List Value} {bd : Nat × Nat} {S : m_S} : m_W1 (m_lk cd_L_acts) call r 17 lo st bd S = o_iald 0 18 call lo st bd S (m_W1 (m_lk cd_L_acts) call r) r := m_W1.iff rfl mm_L_acts
set_option maxRecDepth 20000 in
theorem st_L_acts_18 {call : m_call} {r : m_R → m_S → Prop} {lo : m_L} {st : List Value} {bd : Nat × Nat} {S : m_S} : m_W1 (m_lk cd_L_acts) call r 18 lo st bd S = o_aload 1 19 call lo st bd S (m_W1 (m_lk cd_L_acts) call r) r := m_W1.iff rfl mm_L_acts
set_option maxRecDepth 20000 in
theorem st_L_acts_19 {call : m_call} {r : m_R → m_S → Prop} {lo : m_L} {st : List Value} {bd : Nat × Nat} {S : m_S} : m_W1 (m_lk cd_L_acts) call r 19 lo st bd S = o_const (1) 20 call lo st bd S (m_W1 (m_lk cd_L_acts) call r) r := m_W1.iff rfl mm_L_acts
set_option maxRecDepth 20000 in
theorem st_L_acts_20 {call : m_call} {r : m_R → m_S → Prop} {lo : m_L} {st : List Value} {bd : Nat × Nat} {S : m_S} : m_W1 (m_lk cd_L_acts) call r 20 lo st bd S = o_iald 0 21 call lo st bd S (m_W1 (m_lk cd_L_acts) call r) r := m_W1.iff rfl mm_L_acts
set_option maxRecDepth 20000 in
theorem st_L_acts_21 {call : m_call} {r : m_R → m_S → Prop} {lo : m_L} {st : List Value} {bd : Nat × Nat} {S : m_S} : m_W1 (m_lk cd_L_acts) call r 21 lo st bd S = o_bin (fun x y => x + y) 22 call lo st bd S (m_W1 (m_lk cd_L_acts) call r) r := m_W1.iff rfl mm_L_acts
set_option maxRecDepth 20000 in
theorem st_L_acts_22 {call : m_call} {r : m_R → m_S → Prop} {lo : m_L} {st : List Value} {bd : Nat × Nat} {S : m_S} : m_W1 (m_lk cd_L_acts) call r 22 lo st bd S = o_const (4) 23 call lo st bd S (m_W1 (m_lk cd_L_acts) call r) r := m_W1.iff rfl mm_L_acts
set_option maxRecDepth 20000 in
theorem st_L_acts_23 {call : m_call} {r : m_R → m_S → Prop} {lo : m_L} {st : List Value} {bd : Nat × Nat} {S : m_S} : m_W1 (m_lk cd_L_acts) call r 23 lo st bd S = o_icmpge 40 26 call lo st bd S (m_W1 (m_lk cd_L_acts) call r) r := m_W1.iff rfl mm_L_acts
set_option maxRecDepth 20000 in
theorem st_L_acts_26 {call : m_call} {r : m_R → m_S → Prop} {lo : m_L} {st : List Value} {bd : Nat × Nat} {S : m_S} : m_W1 (m_lk cd_L_acts) call r 26 lo st bd S = o_aload 0 27 call lo st bd S (m_W1 (m_lk cd_L_acts) call r) r := m_W1.iff rfl mm_L_acts
set_option maxRecDepth 20000 in
theorem st_L_acts_27 {call : m_call} {r : m_R → m_S → Prop} {lo : m_L} {st : List Value} {bd : Nat × Nat} {S : m_S} : m_W1 (m_lk cd_L_acts) call r 27 lo st bd S = o_aload 1 28 call lo st bd S (m_W1 (m_lk cd_L_acts) call r) r := m_W1.iff rfl mm_L_acts
set_option maxRecDepth 20000 in
theorem st_L_acts_28 {call : m_call} {r : m_R → m_S → Prop} {lo : m_L} {st : List Value} {bd : Nat × Nat} {S : m_S} : m_W1 (m_lk cd_L_acts) call r 28 lo st bd S = o_aload 2 29 call lo st bd S (m_W1 (m_lk cd_L_acts) call r) r := m_W1.iff rfl mm_L_acts
set_option maxRecDepth 20000 in
theorem st_L_acts_29 {call : m_call} {r : m_R → m_S → Prop} {lo : m_L} {st : List Value} {bd : Nat × Nat} {S : m_S} : m_W1 (m_lk cd_L_acts) call r 29 lo st bd S = o_aload 3 30 call lo st bd S (m_W1 (m_lk cd_L_acts) call r) r := m_W1.iff rfl mm_L_acts
set_option maxRecDepth 20000 in
theorem st_L_acts_30 {call : m_call} {r : m_R → m_S → Prop} {lo : m_L} {st : List Value} {bd : Nat × Nat} {S : m_S} : m_W1 (m_lk cd_L_acts) call r 30 lo st bd S = o_iload 5 32 call lo st bd S (m_W1 (m_lk cd_L_acts) call r) r := m_W1.iff rfl mm_L_acts
set_option maxRecDepth 20000 in
theorem st_L_acts_32 {call : m_call} {r : m_R → m_S → Prop} {lo : m_L} {st : List Value} {bd : Nat × Nat} {S : m_S} : m_W1 (m_lk cd_L_acts) call r 32 lo st bd S = o_const (4) 33 call lo st bd S (m_W1 (m_lk cd_L_acts) call r) r := m_W1.iff rfl mm_L_acts
set_option maxRecDepth 20000 in
theorem st_L_acts_33 {call : m_call} {r : m_R → m_S → Prop} {lo : m_L} {st : List Value} {bd : Nat × Nat} {S : m_S} : m_W1 (m_lk cd_L_acts) call r 33 lo st bd S = o_bin (fun x y => x >>> (y &&& 31)) 34 call lo st bd S (m_W1 (m_lk cd_L_acts) call r) r := m_W1.iff rfl mm_L_acts
set_option maxRecDepth 20000 in
theorem st_L_acts_34 {call : m_call} {r : m_R → m_S → Prop} {lo : m_L} {st : List Value} {bd : Nat × Nat} {S : m_S} : m_W1 (m_lk cd_L_acts) call r 34 lo st bd S = o_iload 6 36 call lo st bd S (m_W1 (m_lk cd_L_acts) call r) r := m_W1.iff rfl mm_L_acts
set_option maxRecDepth 20000 in
theorem st_L_acts_36 {call : m_call} {r : m_R → m_S → Prop} {lo : m_L} {st : List Value} {bd : Nat × Nat} {S : m_S} : m_W1 (m_lk cd_L_acts) call r 36 lo st bd S = o_call 97 6 24 142 39 call lo st bd S (m_W1 (m_lk cd_L_acts) call r) r := m_W1.iff rfl mm_L_acts
set_option maxRecDepth 20000 in
theorem st_L_acts_39 {call : m_call} {r : m_R → m_S → Prop} {lo : m_L} {st : List Value} {bd : Nat × Nat} {S : m_S} : m_W1 (m_lk cd_L_acts) call r 39 lo st bd S = o_zreturn call lo st bd S (m_W1 (m_lk cd_L_acts) call r) r := m_W1.iff rfl mm_L_acts
set_option maxRecDepth 20000 in
theorem st_L_acts_40 {call : m_call} {r : m_R → m_S → Prop} {lo : m_L} {st : List Value} {bd : Nat × Nat} {S : m_S} : m_W1 (m_lk cd_L_acts) call r 40 lo st bd S = o_iload 7 42 call lo st bd S (m_W1 (m_lk cd_L_acts) call r) r := m_W1.iff rfl mm_L_acts
set_option maxRecDepth 20000 in
theorem st_L_acts_42 {call : m_call} {r : m_R → m_S → Prop} {lo : m_L} {st : List Value} {bd : Nat × Nat} {S : m_S} : m_W1 (m_lk cd_L_acts) call r 42 lo st bd S = o_const (6) 44 call lo st bd S (m_W1 (m_lk cd_L_acts) call r) r := m_W1.iff rfl mm_L_acts
set_option maxRecDepth 20000 in
theorem st_L_acts_44 {call : m_call} {r : m_R → m_S → Prop} {lo : m_L} {st : List Value} {bd : Nat × Nat} {S : m_S} : m_W1 (m_lk cd_L_acts) call r 44 lo st bd S = o_icmpge 62 47 call lo st bd S (m_W1 (m_lk cd_L_acts) call r) r := m_W1.iff rfl mm_L_acts
set_option maxRecDepth 20000 in
theorem st_L_acts_47 {call : m_call} {r : m_R → m_S → Prop} {lo : m_L} {st : List Value} {bd : Nat × Nat} {S : m_S} : m_W1 (m_lk cd_L_acts) call r 47 lo st bd S = o_aload 0 48 call lo st bd S (m_W1 (m_lk cd_L_acts) call r) r := m_W1.iff rfl mm_L_acts
set_option maxRecDepth 20000 in
theorem st_L_acts_48 {call : m_call} {r : m_R → m_S → Prop} {lo : m_L} {st : List Value} {bd : Nat × Nat} {S : m_S} : m_W1 (m_lk cd_L_acts) call r 48 lo st bd S = o_aload 1 49 call lo st bd S (m_W1 (m_lk cd_L_acts) call r) r := m_W1.iff rfl mm_L_acts
set_option maxRecDepth 20000 in
theorem st_L_acts_49 {call : m_call} {r : m_R → m_S → Prop} {lo : m_L} {st : List Value} {bd : Nat × Nat} {S : m_S} : m_W1 (m_lk cd_L_acts) call r 49 lo st bd S = o_aload 2 50 call lo st bd S (m_W1 (m_lk cd_L_acts) call r) r := m_W1.iff rfl mm_L_acts
set_option maxRecDepth 20000 in
theorem st_L_acts_50 {call : m_call} {r : m_R → m_S → Prop} {lo : m_L} {st : List Value} {bd : Nat × Nat} {S : m_S} : m_W1 (m_lk cd_L_acts) call r 50 lo st bd S = o_iload 5 52 call lo st bd S (m_W1 (m_lk cd_L_acts) call r) r := m_W1.iff rfl mm_L_acts
set_option maxRecDepth 20000 in
theorem st_L_acts_52 {call : m_call} {r : m_R → m_S → Prop} {lo : m_L} {st : List Value} {bd : Nat × Nat} {S : m_S} : m_W1 (m_lk cd_L_acts) call r 52 lo st bd S = o_const (4) 53 call lo st bd S (m_W1 (m_lk cd_L_acts) call r) r := m_W1.iff rfl mm_L_acts
set_option maxRecDepth 20000 in
theorem st_L_acts_53 {call : m_call} {r : m_R → m_S → Prop} {lo : m_L} {st : List Value} {bd : Nat × Nat} {S : m_S} : m_W1 (m_lk cd_L_acts) call r 53 lo st bd S = o_bin (fun x y => x >>> (y &&& 31)) 54 call lo st bd S (m_W1 (m_lk cd_L_acts) call r) r := m_W1.iff rfl mm_L_acts
set_option maxRecDepth 20000 in
theorem st_L_acts_54 {call : m_call} {r : m_R → m_S → Prop} {lo : m_L} {st : List Value} {bd : Nat × Nat} {S : m_S} : m_W1 (m_lk cd_L_acts) call r 54 lo st bd S = o_iload 6 56 call lo st bd S (m_W1 (m_lk cd_L_acts) call r) r := m_W1.iff rfl mm_L_acts
set_option maxRecDepth 20000 in
theorem st_L_acts_56 {call : m_call} {r : m_R → m_S → Prop} {lo : m_L} {st : List Value} {bd : Nat × Nat} {S : m_S} : m_W1 (m_lk cd_L_acts) call r 56 lo st bd S = o_call 98 5 36 1008 59 call lo st bd S (m_W1 (m_lk cd_L_acts) call r) r := m_W1.iff rfl mm_L_acts
set_option maxRecDepth 20000 in
theorem st_L_acts_59 {call : m_call} {r : m_R → m_S → Prop} {lo : m_L} {st : List Value} {bd : Nat × Nat} {S : m_S} : m_W1 (m_lk cd_L_acts) call r 59 lo st bd S = o_goto 87 call lo st bd S (m_W1 (m_lk cd_L_acts) call r) r := m_W1.iff rfl mm_L_acts
set_option maxRecDepth 20000 in
theorem st_L_acts_62 {call : m_call} {r : m_R → m_S → Prop} {lo : m_L} {st : List Value} {bd : Nat × Nat} {S : m_S} : m_W1 (m_lk cd_L_acts) call r 62 lo st bd S = o_iload 7 64 call lo st bd S (m_W1 (m_lk cd_L_acts) call r) r := m_W1.iff rfl mm_L_acts
set_option maxRecDepth 20000 in
theorem st_L_acts_64 {call : m_call} {r : m_R → m_S → Prop} {lo : m_L} {st : List Value} {bd : Nat × Nat} {S : m_S} : m_W1 (m_lk cd_L_acts) call r 64 lo st bd S = o_const (9) 66 call lo st bd S (m_W1 (m_lk cd_L_acts) call r) r := m_W1.iff rfl mm_L_acts
set_option maxRecDepth 20000 in
theorem st_L_acts_66 {call : m_call} {r : m_R → m_S → Prop} {lo : m_L} {st : List Value} {bd : Nat × Nat} {S : m_S} : m_W1 (m_lk cd_L_acts) call r 66 lo st bd S = o_icmpge 83 69 call lo st bd S (m_W1 (m_lk cd_L_acts) call r) r := m_W1.iff rfl mm_L_acts
set_option maxRecDepth 20000 in
theorem st_L_acts_69 {call : m_call} {r : m_R → m_S → Prop} {lo : m_L} {st : List Value} {bd : Nat × Nat} {S : m_S} : m_W1 (m_lk cd_L_acts) call r 69 lo st bd S = o_aload 0 70 call lo st bd S (m_W1 (m_lk cd_L_acts) call r) r := m_W1.iff rfl mm_L_acts
set_option maxRecDepth 20000 in
theorem st_L_acts_70 {call : m_call} {r : m_R → m_S → Prop} {lo : m_L} {st : List Value} {bd : Nat × Nat} {S : m_S} : m_W1 (m_lk cd_L_acts) call r 70 lo st bd S = o_aload 1 71 call lo st bd S (m_W1 (m_lk cd_L_acts) call r) r := m_W1.iff rfl mm_L_acts
set_option maxRecDepth 20000 in
theorem st_L_acts_71 {call : m_call} {r : m_R → m_S → Prop} {lo : m_L} {st : List Value} {bd : Nat × Nat} {S : m_S} : m_W1 (m_lk cd_L_acts) call r 71 lo st bd S = o_aload 2 72 call lo st bd S (m_W1 (m_lk cd_L_acts) call r) r := m_W1.iff rfl mm_L_acts
set_option maxRecDepth 20000 in
theorem st_L_acts_72 {call : m_call} {r : m_R → m_S → Prop} {lo : m_L} {st : List Value} {bd : Nat × Nat} {S : m_S} : m_W1 (m_lk cd_L_acts) call r 72 lo st bd S = o_aload 3 73 call lo st bd S (m_W1 (m_lk cd_L_acts) call r) r := m_W1.iff rfl mm_L_acts
set_option maxRecDepth 20000 in
theorem st_L_acts_73 {call : m_call} {r : m_R → m_S → Prop} {lo : m_L} {st : List Value} {bd : Nat × Nat} {S : m_S} : m_W1 (m_lk cd_L_acts) call r 73 lo st bd S = o_aload 4 75 call lo st bd S (m_W1 (m_lk cd_L_acts) call r) r := m_W1.iff rfl mm_L_acts
set_option maxRecDepth 20000 in
theorem st_L_acts_75 {call : m_call} {r : m_R → m_S → Prop} {lo : m_L} {st : List Value} {bd : Nat × Nat} {S : m_S} : m_W1 (m_lk cd_L_acts) call r 75 lo st bd S = o_iload 6 77 call lo st bd S (m_W1 (m_lk cd_L_acts) call r) r := m_W1.iff rfl mm_L_acts
set_option maxRecDepth 20000 in
theorem st_L_acts_77 {call : m_call} {r : m_R → m_S → Prop} {lo : m_L} {st : List Value} {bd : Nat × Nat} {S : m_S} : m_W1 (m_lk cd_L_acts) call r 77 lo st bd S = o_call 100 6 420 2600 80 call lo st bd S (m_W1 (m_lk cd_L_acts) call r) r := m_W1.iff rfl mm_L_acts
set_option maxRecDepth 20000 in
theorem st_L_acts_80 {call : m_call} {r : m_R → m_S → Prop} {lo : m_L} {st : List Value} {bd : Nat × Nat} {S : m_S} : m_W1 (m_lk cd_L_acts) call r 80 lo st bd S = o_goto 87 call lo st bd S (m_W1 (m_lk cd_L_acts) call r) r := m_W1.iff rfl mm_L_acts
set_option maxRecDepth 20000 in
theorem st_L_acts_83 {call : m_call} {r : m_R → m_S → Prop} {lo : m_L} {st : List Value} {bd : Nat × Nat} {S : m_S} : m_W1 (m_lk cd_L_acts) call r 83 lo st bd S = o_aload 0 84 call lo st bd S (m_W1 (m_lk cd_L_acts) call r) r := m_W1.iff rfl mm_L_acts
set_option maxRecDepth 20000 in
theorem st_L_acts_84 {call : m_call} {r : m_R → m_S → Prop} {lo : m_L} {st : List Value} {bd : Nat × Nat} {S : m_S} : m_W1 (m_lk cd_L_acts) call r 84 lo st bd S = o_call 101 1 70 400 87 call lo st bd S (m_W1 (m_lk cd_L_acts) call r) r := m_W1.iff rfl mm_L_acts
set_option maxRecDepth 20000 in
theorem st_L_acts_87 {call : m_call} {r : m_R → m_S → Prop} {lo : m_L} {st : List Value} {bd : Nat × Nat} {S : m_S} : m_W1 (m_lk cd_L_acts) call r 87 lo st bd S = o_zreturn call lo st bd S (m_W1 (m_lk cd_L_acts) call r) r := m_W1.iff rfl mm_L_acts
