/-! the law's loop, its start, its run -/
theorem swt_c (v : Int32) : m_swt v = some 140 ∨ m_swt v = some 232 ∨ m_swt v = some 324 ∨ m_swt v = some 428 ∨ m_swt v = some 496 ∨ m_swt v = some 576 ∨ m_swt v = some 644 ∨ m_swt v = some 712 ∨ m_swt v = some 760 ∨ m_swt v = some 816 ∨ m_swt v = some 884 ∨ m_swt v = some 947 ∨ m_swt v = some 1003 ∨ m_swt v = some 1059 ∨ m_swt v = some 1127 ∨ m_swt v = some 1195 ∨ m_swt v = some 1251 ∨ m_swt v = some 1264 ∨ m_swt v = some 1332 ∨ m_swt v = some 1388 ∨ m_swt v = some 1444 ∨ m_swt v = some 1457 := by
  unfold m_swt
  split
  · exact Or.inr (Or.inr (Or.inr (Or.inr (Or.inr (Or.inr (Or.inr (Or.inr (Or.inr (Or.inr (Or.inr (Or.inr (Or.inr (Or.inr (Or.inr (Or.inr (Or.inr (Or.inr (Or.inr (Or.inr (Or.inr rfl))))))))))))))))))))
  · have hk : v.toInt.toNat < 21 := by omega
    have hall : ∀ k : Fin 21, (m_swl[k.val]? = some 140 ∨ m_swl[k.val]? = some 232 ∨ m_swl[k.val]? = some 324 ∨ m_swl[k.val]? = some 428 ∨ m_swl[k.val]? = some 496 ∨ m_swl[k.val]? = some 576 ∨ m_swl[k.val]? = some 644 ∨ m_swl[k.val]? = some 712 ∨ m_swl[k.val]? = some 760 ∨ m_swl[k.val]? = some 816 ∨ m_swl[k.val]? = some 884 ∨ m_swl[k.val]? = some 947 ∨ m_swl[k.val]? = some 1003 ∨ m_swl[k.val]? = some 1059 ∨ m_swl[k.val]? = some 1127 ∨ m_swl[k.val]? = some 1195 ∨ m_swl[k.val]? = some 1251 ∨ m_swl[k.val]? = some 1264 ∨ m_swl[k.val]? = some 1332 ∨ m_swl[k.val]? = some 1388 ∨ m_swl[k.val]? = some 1444) := by decide +kernel
    rcases hall ⟨v.toInt.toNat, hk⟩ with h | h | h | h | h | h | h | h | h | h | h | h | h | h | h | h | h | h | h | h | h
    · exact Or.inl h
    · exact Or.inr (Or.inl h)
    · exact Or.inr (Or.inr (Or.inl h))
    · exact Or.inr (Or.inr (Or.inr (Or.inl h)))
    · exact Or.inr (Or.inr (Or.inr (Or.inr (Or.inl h))))
    · exact Or.inr (Or.inr (Or.inr (Or.inr (Or.inr (Or.inl h)))))
    · exact Or.inr (Or.inr (Or.inr (Or.inr (Or.inr (Or.inr (Or.inl h))))))
    · exact Or.inr (Or.inr (Or.inr (Or.inr (Or.inr (Or.inr (Or.inr (Or.inl h)))))))
    · exact Or.inr (Or.inr (Or.inr (Or.inr (Or.inr (Or.inr (Or.inr (Or.inr (Or.inl h))))))))
    · exact Or.inr (Or.inr (Or.inr (Or.inr (Or.inr (Or.inr (Or.inr (Or.inr (Or.inr (Or.inl h)))))))))
    · exact Or.inr (Or.inr (Or.inr (Or.inr (Or.inr (Or.inr (Or.inr (Or.inr (Or.inr (Or.inr (Or.inl h))))))))))
    · exact Or.inr (Or.inr (Or.inr (Or.inr (Or.inr (Or.inr (Or.inr (Or.inr (Or.inr (Or.inr (Or.inr (Or.inl h)))))))))))
    · exact Or.inr (Or.inr (Or.inr (Or.inr (Or.inr (Or.inr (Or.inr (Or.inr (Or.inr (Or.inr (Or.inr (Or.inr (Or.inl h))))))))))))
    · exact Or.inr (Or.inr (Or.inr (Or.inr (Or.inr (Or.inr (Or.inr (Or.inr (Or.inr (Or.inr (Or.inr (Or.inr (Or.inr (Or.inl h)))))))))))))
    · exact Or.inr (Or.inr (Or.inr (Or.inr (Or.inr (Or.inr (Or.inr (Or.inr (Or.inr (Or.inr (Or.inr (Or.inr (Or.inr (Or.inr (Or.inl h))))))))))))))
    · exact Or.inr (Or.inr (Or.inr (Or.inr (Or.inr (Or.inr (Or.inr (Or.inr (Or.inr (Or.inr (Or.inr (Or.inr (Or.inr (Or.inr (Or.inr (Or.inl h)))))))))))))))
    · exact Or.inr (Or.inr (Or.inr (Or.inr (Or.inr (Or.inr (Or.inr (Or.inr (Or.inr (Or.inr (Or.inr (Or.inr (Or.inr (Or.inr (Or.inr (Or.inr (Or.inl h))))))))))))))))
    · exact Or.inr (Or.inr (Or.inr (Or.inr (Or.inr (Or.inr (Or.inr (Or.inr (Or.inr (Or.inr (Or.inr (Or.inr (Or.inr (Or.inr (Or.inr (Or.inr (Or.inr (Or.inl h)))))))))))))))))
    · exact Or.inr (Or.inr (Or.inr (Or.inr (Or.inr (Or.inr (Or.inr (Or.inr (Or.inr (Or.inr (Or.inr (Or.inr (Or.inr (Or.inr (Or.inr (Or.inr (Or.inr (Or.inr (Or.inl h))))))))))))))))))
    · exact Or.inr (Or.inr (Or.inr (Or.inr (Or.inr (Or.inr (Or.inr (Or.inr (Or.inr (Or.inr (Or.inr (Or.inr (Or.inr (Or.inr (Or.inr (Or.inr (Or.inr (Or.inr (Or.inr (Or.inl h)))))))))))))))))))
    · exact Or.inr (Or.inr (Or.inr (Or.inr (Or.inr (Or.inr (Or.inr (Or.inr (Or.inr (Or.inr (Or.inr (Or.inr (Or.inr (Or.inr (Or.inr (Or.inr (Or.inr (Or.inr (Or.inr (Or.inr (Or.inl h))))))))))))))))))))
theorem w_J_s {m : Nat} {S : m_S} (h : w_J m S) : w_J (m + 1) S := by
  obtain ⟨n, nc, nd, nk, ns, sz, cb, db, sd, ow, got, s1, s2, D, ar, rq, ou, dy, e, hz, hX, hP, hm⟩ := h
  exact ⟨n, nc, nd, nk, ns, sz, cb, db, sd, ow, got, s1, s2, D, ar, rq, ou, dy, e, hz, hX, hP, by omega⟩
theorem lw_c {L i : Nat} (hL : L ≤ 3072) (hi : i ≤ 4000) : (Int32.ofNat L - 6 < nI i) = (L < i + 6) := by
  apply propext
  by_cases h : 6 ≤ L
  · have e : Int32.ofNat L - 6 = nI (L - 6) := v_sub (a := L) (b := 6) h
    rw [e, nI_ltI (by omega) (by omega)]
    omega
  · refine ⟨fun _ => by omega, fun _ => ?_⟩
    have h0 : Int32.ofNat L - 6 < 0 := (by decide : ∀ k : Fin 6, Int32.ofNat k.val - 6 < 0) ⟨L, by omega⟩
    have h1 : ¬ nI i < nI 0 := fun z => by rw [nI_ltI (by omega) (by omega)] at z; omega
    rw [Int32.lt_iff_toInt_lt] at h0 h1 ⊢
    have e : (nI 0).toInt = (0 : Int32).toInt := rfl
    omega
theorem lp_law {L : Nat} {xs : Nat → Int32} {r : m_R → m_S → Prop} (hL : L ≤ 3072) (hr : ∀ S, r (.inl (some (.int 1))) S) :
    ∀ (m i m0 : Nat) (l5 l6 : Option Value) (S : m_S) (bd : Nat × Nat), L ≤ i + 6 * m + 5 → i ≤ 3072 → m0 + m ≤ 512 → 10 * m ≤ bd.1 → 900 * m ≤ bd.2 → w_J m0 S → m_W1 (m_lk (cd_L_law L xs)) (m_Ev m_cds m_my 20) r 23 [some (.ref 0), some (.ref 3), some (.ref 94), some (.ref 119), some (.int (nI i)), l5, l6] [] bd S := by
  intro m
  induction m with
  | zero =>
    intro i m0 l5 l6 S bd h1 h2 h3 h4 h5 hJ
    have hlt : (L < i + 6) = True := eq_true (by omega)
    have e10 : ((1 : Int32) = 0) = False := eq_false (by decide)
    simp (disch := omega) only [st_L_law_23, st_L_law_25, st_L_law_26, st_L_law_27, st_L_law_29, st_L_law_30, o_iload, o_aload, o_const, o_lconst, o_istore, o_astore, o_iinc, o_dup, o_dup2, o_pop, o_bin, o_div, o_un, o_mbin, o_mun, o_i2l, o_lcmp, o_ifeq, o_ifne, o_iflt, o_ifge, o_ifgt, o_ifle, o_icmpeq, o_icmpne, o_icmplt, o_icmpge, o_icmpgt, o_icmple, o_goto, o_getf, o_puti, o_putz, o_putr, o_iald, o_iast, o_zast, o_lald, o_last, o_aald, o_aast, o_alenO, o_new, o_newi, o_newl, o_newq, o_newqd, o_mna, o_copy, o_drop, o_cast, o_call, o_callx, o_callv, o_callvx, o_callh, o_sald, o_slen, o_switch, m_rcv, o_ireturn, o_zreturn, o_areturn, o_return, o_throw, o_null, o_dupx1, o_de, m_ent, List.getElem?_cons_zero, List.getElem?_cons_succ, List.getElem?_nil, List.set_cons_zero, List.set_cons_succ, List.length_cons, List.length_nil, List.map_cons, List.map_nil, List.replicate_succ, List.replicate_zero, List.take_succ_cons, List.take_zero, List.drop_succ_cons, List.drop_zero, List.reverse_cons, List.reverse_nil, List.cons_append, List.nil_append, List.append_nil, Option.toList_some, Option.toList_none, Nat.reduceAdd, Nat.reduceSub, Nat.reduceLeDiff, Nat.reduceLT, Nat.reduceEqDiff, Nat.le_refl, Nat.zero_le, Nat.zero_add, Nat.sub_zero, true_and, and_true, false_and, and_false, if_true, if_false, ite_true, ite_false, reduceIte, or_true, true_or, Option.isSome_some, not_true_eq_false, not_false_eq_true, forall_const, true_implies, false_implies, implies_true, ne_eq, m_gI_I, m_gJ_J, m_gQ_Q, m_gO_O, lw_c, hlt]
    simp (disch := omega) only [st_L_law_1463, st_L_law_1464, o_iload, o_aload, o_const, o_lconst, o_istore, o_astore, o_iinc, o_dup, o_dup2, o_pop, o_bin, o_div, o_un, o_mbin, o_mun, o_i2l, o_lcmp, o_ifeq, o_ifne, o_iflt, o_ifge, o_ifgt, o_ifle, o_icmpeq, o_icmpne, o_icmplt, o_icmpge, o_icmpgt, o_icmple, o_goto, o_getf, o_puti, o_putz, o_putr, o_iald, o_iast, o_zast, o_lald, o_last, o_aald, o_aast, o_alenO, o_new, o_newi, o_newl, o_newq, o_newqd, o_mna, o_copy, o_drop, o_cast, o_call, o_callx, o_callv, o_callvx, o_callh, o_sald, o_slen, o_switch, m_rcv, o_ireturn, o_zreturn, o_areturn, o_return, o_throw, o_null, o_dupx1, o_de, m_ent, List.getElem?_cons_zero, List.getElem?_cons_succ, List.getElem?_nil, List.set_cons_zero, List.set_cons_succ, List.length_cons, List.length_nil, List.map_cons, List.map_nil, List.replicate_succ, List.replicate_zero, List.take_succ_cons, List.take_zero, List.drop_succ_cons, List.drop_zero, List.reverse_cons, List.reverse_nil, List.cons_append, List.nil_append, List.append_nil, Option.toList_some, Option.toList_none, Nat.reduceAdd, Nat.reduceSub, Nat.reduceLeDiff, Nat.reduceLT, Nat.reduceEqDiff, Nat.le_refl, Nat.zero_le, Nat.zero_add, Nat.sub_zero, true_and, and_true, false_and, and_false, if_true, if_false, ite_true, ite_false, reduceIte, or_true, true_or, Option.isSome_some, not_true_eq_false, not_false_eq_true, forall_const, true_implies, false_implies, implies_true, ne_eq, m_gI_I, m_gJ_J, m_gQ_Q, m_gO_O, eq_self]
    exact hr _
  | succ m ih =>
    intro i m0 l5 l6 S bd h1 h2 h3 h4 h5 hJ
    by_cases hlt : L < i + 6
    · have hlt' : (L < i + 6) = True := eq_true hlt
      simp (disch := omega) only [st_L_law_23, st_L_law_25, st_L_law_26, st_L_law_27, st_L_law_29, st_L_law_30, o_iload, o_aload, o_const, o_lconst, o_istore, o_astore, o_iinc, o_dup, o_dup2, o_pop, o_bin, o_div, o_un, o_mbin, o_mun, o_i2l, o_lcmp, o_ifeq, o_ifne, o_iflt, o_ifge, o_ifgt, o_ifle, o_icmpeq, o_icmpne, o_icmplt, o_icmpge, o_icmpgt, o_icmple, o_goto, o_getf, o_puti, o_putz, o_putr, o_iald, o_iast, o_zast, o_lald, o_last, o_aald, o_aast, o_alenO, o_new, o_newi, o_newl, o_newq, o_newqd, o_mna, o_copy, o_drop, o_cast, o_call, o_callx, o_callv, o_callvx, o_callh, o_sald, o_slen, o_switch, m_rcv, o_ireturn, o_zreturn, o_areturn, o_return, o_throw, o_null, o_dupx1, o_de, m_ent, List.getElem?_cons_zero, List.getElem?_cons_succ, List.getElem?_nil, List.set_cons_zero, List.set_cons_succ, List.length_cons, List.length_nil, List.map_cons, List.map_nil, List.replicate_succ, List.replicate_zero, List.take_succ_cons, List.take_zero, List.drop_succ_cons, List.drop_zero, List.reverse_cons, List.reverse_nil, List.cons_append, List.nil_append, List.append_nil, Option.toList_some, Option.toList_none, Nat.reduceAdd, Nat.reduceSub, Nat.reduceLeDiff, Nat.reduceLT, Nat.reduceEqDiff, Nat.le_refl, Nat.zero_le, Nat.zero_add, Nat.sub_zero, true_and, and_true, false_and, and_false, if_true, if_false, ite_true, ite_false, reduceIte, or_true, true_or, Option.isSome_some, not_true_eq_false, not_false_eq_true, forall_const, true_implies, false_implies, implies_true, ne_eq, m_gI_I, m_gJ_J, m_gQ_Q, m_gO_O, lw_c, hlt']
      simp (disch := omega) only [st_L_law_1463, st_L_law_1464, o_iload, o_aload, o_const, o_lconst, o_istore, o_astore, o_iinc, o_dup, o_dup2, o_pop, o_bin, o_div, o_un, o_mbin, o_mun, o_i2l, o_lcmp, o_ifeq, o_ifne, o_iflt, o_ifge, o_ifgt, o_ifle, o_icmpeq, o_icmpne, o_icmplt, o_icmpge, o_icmpgt, o_icmple, o_goto, o_getf, o_puti, o_putz, o_putr, o_iald, o_iast, o_zast, o_lald, o_last, o_aald, o_aast, o_alenO, o_new, o_newi, o_newl, o_newq, o_newqd, o_mna, o_copy, o_drop, o_cast, o_call, o_callx, o_callv, o_callvx, o_callh, o_sald, o_slen, o_switch, m_rcv, o_ireturn, o_zreturn, o_areturn, o_return, o_throw, o_null, o_dupx1, o_de, m_ent, List.getElem?_cons_zero, List.getElem?_cons_succ, List.getElem?_nil, List.set_cons_zero, List.set_cons_succ, List.length_cons, List.length_nil, List.map_cons, List.map_nil, List.replicate_succ, List.replicate_zero, List.take_succ_cons, List.take_zero, List.drop_succ_cons, List.drop_zero, List.reverse_cons, List.reverse_nil, List.cons_append, List.nil_append, List.append_nil, Option.toList_some, Option.toList_none, Nat.reduceAdd, Nat.reduceSub, Nat.reduceLeDiff, Nat.reduceLT, Nat.reduceEqDiff, Nat.le_refl, Nat.zero_le, Nat.zero_add, Nat.sub_zero, true_and, and_true, false_and, and_false, if_true, if_false, ite_true, ite_false, reduceIte, or_true, true_or, Option.isSome_some, not_true_eq_false, not_false_eq_true, forall_const, true_implies, false_implies, implies_true, ne_eq, m_gI_I, m_gJ_J, m_gQ_Q, m_gO_O, eq_self]
      exact hr _
    · have hlt' : (L < i + 6) = False := eq_false hlt
      have hi : i + 6 ≤ L := by omega
      have hb1 : 10 ≤ bd.1 := by omega
      have hb2 : 900 ≤ bd.2 := by omega
      have hN : w_N L xs r (m0 + 1) i bd := by
        intro k5 k6 S2 bd2 hJ2 q1 q2
        simp (disch := omega) only [st_L_law_1457, st_L_law_1460, o_iload, o_aload, o_const, o_lconst, o_istore, o_astore, o_iinc, o_dup, o_dup2, o_pop, o_bin, o_div, o_un, o_mbin, o_mun, o_i2l, o_lcmp, o_ifeq, o_ifne, o_iflt, o_ifge, o_ifgt, o_ifle, o_icmpeq, o_icmpne, o_icmplt, o_icmpge, o_icmpgt, o_icmple, o_goto, o_getf, o_puti, o_putz, o_putr, o_iald, o_iast, o_zast, o_lald, o_last, o_aald, o_aast, o_alenO, o_new, o_newi, o_newl, o_newq, o_newqd, o_mna, o_copy, o_drop, o_cast, o_call, o_callx, o_callv, o_callvx, o_callh, o_sald, o_slen, o_switch, m_rcv, o_ireturn, o_zreturn, o_areturn, o_return, o_throw, o_null, o_dupx1, o_de, m_ent, List.getElem?_cons_zero, List.getElem?_cons_succ, List.getElem?_nil, List.set_cons_zero, List.set_cons_succ, List.length_cons, List.length_nil, List.map_cons, List.map_nil, List.replicate_succ, List.replicate_zero, List.take_succ_cons, List.take_zero, List.drop_succ_cons, List.drop_zero, List.reverse_cons, List.reverse_nil, List.cons_append, List.nil_append, List.append_nil, Option.toList_some, Option.toList_none, Nat.reduceAdd, Nat.reduceSub, Nat.reduceLeDiff, Nat.reduceLT, Nat.reduceEqDiff, Nat.le_refl, Nat.zero_le, Nat.zero_add, Nat.sub_zero, true_and, and_true, false_and, and_false, if_true, if_false, ite_true, ite_false, reduceIte, or_true, true_or, Option.isSome_some, not_true_eq_false, not_false_eq_true, forall_const, true_implies, false_implies, implies_true, ne_eq, m_gI_I, m_gJ_J, m_gQ_Q, m_gO_O, p_6]
        exact ih (i + 6) (m0 + 1) k5 k6 S2 bd2 (by omega) (by omega) (by omega) (by omega) (by omega) hJ2
      simp (disch := omega) only [st_L_law_23, st_L_law_25, st_L_law_26, st_L_law_27, st_L_law_29, st_L_law_30, st_L_law_33, st_L_law_34, st_L_law_36, st_L_law_37, st_L_law_39, o_iload, o_aload, o_const, o_lconst, o_istore, o_astore, o_iinc, o_dup, o_dup2, o_pop, o_bin, o_div, o_un, o_mbin, o_mun, o_i2l, o_lcmp, o_ifeq, o_ifne, o_iflt, o_ifge, o_ifgt, o_ifle, o_icmpeq, o_icmpne, o_icmplt, o_icmpge, o_icmpgt, o_icmple, o_goto, o_getf, o_puti, o_putz, o_putr, o_iald, o_iast, o_zast, o_lald, o_last, o_aald, o_aast, o_alenO, o_new, o_newi, o_newl, o_newq, o_newqd, o_mna, o_copy, o_drop, o_cast, o_call, o_callx, o_callv, o_callvx, o_callh, o_sald, o_slen, o_switch, m_rcv, o_ireturn, o_zreturn, o_areturn, o_return, o_throw, o_null, o_dupx1, o_de, m_ent, List.getElem?_cons_zero, List.getElem?_cons_succ, List.getElem?_nil, List.set_cons_zero, List.set_cons_succ, List.length_cons, List.length_nil, List.map_cons, List.map_nil, List.replicate_succ, List.replicate_zero, List.take_succ_cons, List.take_zero, List.drop_succ_cons, List.drop_zero, List.reverse_cons, List.reverse_nil, List.cons_append, List.nil_append, List.append_nil, Option.toList_some, Option.toList_none, Nat.reduceAdd, Nat.reduceSub, Nat.reduceLeDiff, Nat.reduceLT, Nat.reduceEqDiff, Nat.le_refl, Nat.zero_le, Nat.zero_add, Nat.sub_zero, true_and, and_true, false_and, and_false, if_true, if_false, ite_true, ite_false, reduceIte, or_true, true_or, Option.isSome_some, not_true_eq_false, not_false_eq_true, forall_const, true_implies, false_implies, implies_true, ne_eq, m_gI_I, m_gJ_J, m_gQ_Q, m_gO_O, lw_c, hlt', v_in, v_cl]
      rw [st_L_law_40]
      generalize xs i &&& 31 = v
      rcases swt_c v with h | h | h | h | h | h | h | h | h | h | h | h | h | h | h | h | h | h | h | h | h | h
      · simp only [o_switch, h]
        exact bk_cable hi hL hJ hb1 hb2 hN
      · simp only [o_switch, h]
        exact bk_demand hi hL hJ hb1 hb2 hN
      · simp only [o_switch, h]
        exact bk_sell hi hL hJ (by omega) hb1 hb2 hN
      · simp only [o_switch, h]
        exact bk_cut hi hL hJ hb1 hb2 hN
      · simp only [o_switch, h]
        exact bk_ship hi hL hJ hb1 hb2 hN
      · simp only [o_switch, h]
        exact bk_send hi hL hJ hb1 hb2 hN
      · simp only [o_switch, h]
        exact bk_fill hi hL hJ hb1 hb2 hN
      · simp only [o_switch, h]
        exact bk_storm hi hL hJ hb1 hb2 hN
      · simp only [o_switch, h]
        exact bk_pass hi hL hJ hb1 hb2 hN
      · simp only [o_switch, h]
        exact bk_owned hi hL hJ hb1 hb2 hN
      · simp only [o_switch, h]
        exact bk_isWhole hi hL hJ hb1 hb2 hN
      · simp only [o_switch, h]
        exact bk_way hi hL hJ hb1 hb2 hN
      · simp only [o_switch, h]
        exact bk_lent hi hL hJ hb1 hb2 hN
      · simp only [o_switch, h]
        exact bk_owes hi hL hJ hb1 hb2 hN
      · simp only [o_switch, h]
        exact bk_owesAnew hi hL hJ hb1 hb2 hN
      · simp only [o_switch, h]
        exact bk_account hi hL hJ hb1 hb2 hN
      · simp only [o_switch, h]
        exact bk_spent hi hL hJ hb1 hb2 hN
      · simp only [o_switch, h]
        exact bk_sold hi hL hJ hb1 hb2 hN
      · simp only [o_switch, h]
        exact bk_place hi hL hJ hb1 hb2 hN
      · simp only [o_switch, h]
        exact bk_worked hi hL hJ hb1 hb2 hN
      · simp only [o_switch, h]
        exact bk_seal hi hL hJ hb1 hb2 hN
      · simp only [o_switch, h]
        exact hN _ _ _ _ (w_J_s hJ) (by omega) (by omega)
theorem p_club_cg {h h' h2 : Nat → m_C} (H : p_club h h') (e : ∀ a, a < 94 → h2 a = h' a) : p_club h h2 := by
  obtain ⟨c3, cN, c76, c77, c78, c79, c80, c86, c87, c93⟩ := H
  exact ⟨by rw [e 3 (by omega)]; exact c3, fun B hB => by
    obtain ⟨h0, q⟩ := cN B hB
    exact ⟨h2, p_net_cg q (fun a h1 h2 => e a (by omega))⟩, by rw [e 76 (by omega)]; exact c76, by rw [e 77 (by omega)]; exact c77, by rw [e 78 (by omega)]; exact c78, by rw [e 79 (by omega)]; exact c79, fun i hi => by rw [e _ (by omega)]; exact c80 i hi, by rw [e 86 (by omega)]; exact c86, fun i hi => by rw [e _ (by omega)]; exact c87 i hi, by rw [e 93 (by omega)]; exact c93⟩
theorem p_mod_cg {h' h2 : Nat → m_C} (H : p_mod h') (e : ∀ a, a < 119 → h2 a = h' a) : p_mod h2 := by
  unfold p_mod at H ⊢
  simp (disch := omega) only [e]
  exact H
theorem w_J_0 {ou : Nat → Int64} {H : Nat → m_C} (h78 : H 78 = m_O 0 [.int 0, .ref 1, .int 0]) : w_J 0 (117, m_hp ar0 rq0 ou H) := by
  have no : ∀ {p : Nat → Prop}, ∀ c, c < 0 → p c := fun c hc => absurd hc (Nat.not_lt_zero c)
  have z : ∀ a k, a ≠ 3 → a ≠ 94 → a ≠ 111 → ar0 a k = 0 := fun a k h1 h2 h3 => by rw [ar0_z h1 h2 h3]
  have z3 : ∀ k, k ≠ 13 → k ≠ 14 → ar0 3 k = 0 := fun k h1 h2 => by rw [ar0_3]; exact if_neg (by omega)
  have z94 : ∀ k, k ≠ 22 → k ≠ 23 → ar0 94 k = 0 := fun k h1 h2 => by rw [ar0_94]; exact if_neg (by omega)
  refine ⟨117, 0, 0, 0, 0, 0, (fun _ _ => 0), (fun _ _ => 0), (fun _ _ => 0), (fun _ _ => 0), (fun _ _ => 0), -1, -1, (0, (fun _ _ => 0), ar0 93, 0, 0, ((fun _ _ => 0), (fun _ => none), (fun _ _ => 0), (fun _ => none), (fun _ => 0)), (fun _ => none), (fun _ => 0)), ar0, rq0, ou, H, rfl, ⟨by omega, (fun _ => 0), (fun _ => 0), (fun _ => 0), (fun _ => 0), (fun _ => 0), ⟨?_, ?_, ?_, ?_, ?_, ?_, ?_, rfl, z3 9 (by omega) (by omega)⟩, z3 8 (by omega) (by omega)⟩, ?_, pi_0, Nat.le_refl _⟩
  · exact ⟨by omega, z 4 7 (by omega) (by omega) (by omega), no, no, no, no⟩
  · exact ⟨by omega, z 4 8 (by omega) (by omega) (by omega), no, no⟩
  · exact ⟨by omega, z3 10 (by omega) (by omega), no, no⟩
  · exact ⟨by omega, z3 11 (by omega) (by omega), no, no⟩
  · exact ⟨by omega, ⟨0, 1, h78, Or.inl ⟨rfl, rfl⟩⟩, no, no⟩
  · exact ⟨z3 12 (by omega) (by omega), by rw [ar0_3]; exact if_pos (Or.inl rfl), by rw [ar0_3]; exact if_pos (Or.inr rfl), fun a ha b hb => ⟨z _ _ (by omega) (by omega) (by omega), z _ _ (by omega) (by omega) (by omega)⟩⟩
  · exact Or.inl ⟨z 4 15 (by omega) (by omega) (by omega), no, fun i hi j hj => z _ _ (by omega) (by omega) (by omega), no, no⟩
  · refine ⟨⟨by omega, by omega, by omega, by omega⟩, ⟨z94 1 (by omega) (by omega), no⟩, ⟨z94 5 (by omega) (by omega), no⟩, no, ⟨fun j hj => (z 114 j (by omega) (by omega) (by omega)).trans (z 93 j (by omega) (by omega) (by omega)).symm, z94 27 (by omega) (by omega), ⟨z94 12 (by omega) (by omega), no⟩, ⟨z94 17 (by omega) (by omega), no, fun s h1 h2 => ?_⟩, fun k hk => z 107 k (by omega) (by omega) (by omega)⟩, z 114 6 (by omega) (by omega) (by omega), fun a ha b hb => ⟨z 112 _ (by omega) (by omega) (by omega), z 113 _ (by omega) (by omega) (by omega)⟩, no, fun i hi => z 103 i (by omega) (by omega) (by omega), fun c h1 h2 j hj => z 97 _ (by omega) (by omega) (by omega), z94 0 (by omega) (by omega), by rw [ar0_94]; exact if_pos (Or.inl rfl), by rw [ar0_94]; exact if_pos (Or.inr rfl)⟩
    unfold ar0
    exact if_pos (Or.inr (Or.inr ⟨rfl, h2⟩))
/-- the law's body, on every script: what is owed of the small machine -/
theorem law_run (L : Nat) (xs : Nat → Int32) (hL : L ≤ 3072) : ∃ d : Nat, d ≤ 500 ∧ m_W1 (m_lk (cd_L_law L xs)) (m_Ev m_cds m_my d) (fun o _ => o = .inl (some (.int 1))) 0 (m_ent 7 [.ref 0]) [] (646423, 7156836) (0, fun _ => m_N) := by
  refine ⟨20, by omega, ?_⟩
  simp (disch := omega) only [st_L_law_0, st_L_law_3, st_L_law_4, o_iload, o_aload, o_const, o_lconst, o_istore, o_astore, o_iinc, o_dup, o_dup2, o_pop, o_bin, o_div, o_un, o_mbin, o_mun, o_i2l, o_lcmp, o_ifeq, o_ifne, o_iflt, o_ifge, o_ifgt, o_ifle, o_icmpeq, o_icmpne, o_icmplt, o_icmpge, o_icmpgt, o_icmple, o_goto, o_getf, o_puti, o_putz, o_putr, o_iald, o_iast, o_zast, o_lald, o_last, o_aald, o_aast, o_alenO, o_new, o_newi, o_newl, o_newq, o_newqd, o_mna, o_copy, o_drop, o_cast, o_call, o_callx, o_callv, o_callvx, o_callh, o_sald, o_slen, o_switch, m_rcv, o_ireturn, o_zreturn, o_areturn, o_return, o_throw, o_null, o_dupx1, o_de, m_ent, List.getElem?_cons_zero, List.getElem?_cons_succ, List.getElem?_nil, List.set_cons_zero, List.set_cons_succ, List.length_cons, List.length_nil, List.map_cons, List.map_nil, List.replicate_succ, List.replicate_zero, List.take_succ_cons, List.take_zero, List.drop_succ_cons, List.drop_zero, List.reverse_cons, List.reverse_nil, List.cons_append, List.nil_append, List.append_nil, Option.toList_some, Option.toList_none, Nat.reduceAdd, Nat.reduceSub, Nat.reduceLeDiff, Nat.reduceLT, Nat.reduceEqDiff, Nat.le_refl, Nat.zero_le, Nat.zero_add, Nat.sub_zero, true_and, and_true, false_and, and_false, if_true, if_false, ite_true, ite_false, reduceIte, or_true, true_or, Option.isSome_some, not_true_eq_false, not_false_eq_true, forall_const, true_implies, false_implies, implies_true, ne_eq, m_gI_I, m_gJ_J, m_gQ_Q, m_gO_O, m_up_a]
  obtain ⟨S1, hE1, h1, rfl, hc⟩ := e_clubInit 16 (h := m_up (fun _ => m_N) 3 (m_O 7 [.null, .null, .null, .null, .null, .null, .null, .null, .int 0, .int 0, .int 0, .int 0, .int 0, .int 0, .int 0])) m_up_a
  refine ⟨_, _, hE1, ?_⟩
  simp (disch := omega) only [st_L_law_7, st_L_law_8, st_L_law_11, st_L_law_12, o_iload, o_aload, o_const, o_lconst, o_istore, o_astore, o_iinc, o_dup, o_dup2, o_pop, o_bin, o_div, o_un, o_mbin, o_mun, o_i2l, o_lcmp, o_ifeq, o_ifne, o_iflt, o_ifge, o_ifgt, o_ifle, o_icmpeq, o_icmpne, o_icmplt, o_icmpge, o_icmpgt, o_icmple, o_goto, o_getf, o_puti, o_putz, o_putr, o_iald, o_iast, o_zast, o_lald, o_last, o_aald, o_aast, o_alenO, o_new, o_newi, o_newl, o_newq, o_newqd, o_mna, o_copy, o_drop, o_cast, o_call, o_callx, o_callv, o_callvx, o_callh, o_sald, o_slen, o_switch, m_rcv, o_ireturn, o_zreturn, o_areturn, o_return, o_throw, o_null, o_dupx1, o_de, m_ent, List.getElem?_cons_zero, List.getElem?_cons_succ, List.getElem?_nil, List.set_cons_zero, List.set_cons_succ, List.length_cons, List.length_nil, List.map_cons, List.map_nil, List.replicate_succ, List.replicate_zero, List.take_succ_cons, List.take_zero, List.drop_succ_cons, List.drop_zero, List.reverse_cons, List.reverse_nil, List.cons_append, List.nil_append, List.append_nil, Option.toList_some, Option.toList_none, Nat.reduceAdd, Nat.reduceSub, Nat.reduceLeDiff, Nat.reduceLT, Nat.reduceEqDiff, Nat.le_refl, Nat.zero_le, Nat.zero_add, Nat.sub_zero, true_and, and_true, false_and, and_false, if_true, if_false, ite_true, ite_false, reduceIte, or_true, true_or, Option.isSome_some, not_true_eq_false, not_false_eq_true, forall_const, true_implies, false_implies, implies_true, ne_eq, m_gI_I, m_gJ_J, m_gQ_Q, m_gO_O, m_up_a]
  obtain ⟨S2, hE2, h2, rfl, hm, he⟩ := e_modInit 19 (h := m_up h1 94 (m_O 8 (.int 0 :: .int 0 :: .null :: .null :: .null :: .int 0 :: .null :: .null :: .null :: .null :: .null :: .null :: .int 0 :: .null :: .null :: .null :: .null :: .int 0 :: .null :: .null :: .null :: .null :: .int 0 :: .int 0 :: .null :: .null :: .null :: .int 0 :: .null :: .null :: .null :: .null :: .int 0 :: .int 0 :: .int 0 :: .int 0 :: []))) m_up_a
  refine ⟨_, _, hE2, ?_⟩
  simp (disch := omega) only [st_L_law_15, st_L_law_16, st_L_law_17, st_L_law_19, st_L_law_20, st_L_law_21, o_iload, o_aload, o_const, o_lconst, o_istore, o_astore, o_iinc, o_dup, o_dup2, o_pop, o_bin, o_div, o_un, o_mbin, o_mun, o_i2l, o_lcmp, o_ifeq, o_ifne, o_iflt, o_ifge, o_ifgt, o_ifle, o_icmpeq, o_icmpne, o_icmplt, o_icmpge, o_icmpgt, o_icmple, o_goto, o_getf, o_puti, o_putz, o_putr, o_iald, o_iast, o_zast, o_lald, o_last, o_aald, o_aast, o_alenO, o_new, o_newi, o_newl, o_newq, o_newqd, o_mna, o_copy, o_drop, o_cast, o_call, o_callx, o_callv, o_callvx, o_callh, o_sald, o_slen, o_switch, m_rcv, o_ireturn, o_zreturn, o_areturn, o_return, o_throw, o_null, o_dupx1, o_de, m_ent, List.getElem?_cons_zero, List.getElem?_cons_succ, List.getElem?_nil, List.set_cons_zero, List.set_cons_succ, List.length_cons, List.length_nil, List.map_cons, List.map_nil, List.replicate_succ, List.replicate_zero, List.take_succ_cons, List.take_zero, List.drop_succ_cons, List.drop_zero, List.reverse_cons, List.reverse_nil, List.cons_append, List.nil_append, List.append_nil, Option.toList_some, Option.toList_none, Nat.reduceAdd, Nat.reduceSub, Nat.reduceLeDiff, Nat.reduceLT, Nat.reduceEqDiff, Nat.le_refl, Nat.zero_le, Nat.zero_add, Nat.sub_zero, true_and, and_true, false_and, and_false, if_true, if_false, ite_true, ite_false, reduceIte, or_true, true_or, Option.isSome_some, not_true_eq_false, not_false_eq_true, forall_const, true_implies, false_implies, implies_true, ne_eq, m_gI_I, m_gJ_J, m_gQ_Q, m_gO_O, v_o1]
  have hc' : p_club (m_up (fun _ => m_N) 3 (m_O 7 [.null, .null, .null, .null, .null, .null, .null, .null, .int 0, .int 0, .int 0, .int 0, .int 0, .int 0, .int 0])) (m_up h2 119 (m_J 1 (fun _ => 0))) := p_club_cg hc (fun a ha => by rw [m_up_b (by omega), he a ha, m_up_b (by omega)])
  have hm' : p_mod (m_up h2 119 (m_J 1 (fun _ => 0))) := p_mod_cg hm (fun a ha => m_up_b (by omega))
  have hx := x_start hc' hm' m_up_a
  have hJ := w_J_0 (ou := fun _ => 0) (H := m_up h2 119 (m_J 1 (fun _ => 0))) hc'.2.2.2.2.1
  rw [← hx] at hJ
  refine lp_law hL (fun _ => rfl) 512 0 0 _ _ _ _ ?_ ?_ ?_ ?_ ?_ hJ
  · omega
  · omega
  · omega
  · exact Nat.le_of_ble_eq_true rfl
  · exact Nat.le_of_ble_eq_true rfl
