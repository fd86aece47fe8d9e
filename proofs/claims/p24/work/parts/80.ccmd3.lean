/-! the club's commands, whole heap: cut, cable, demand -/
def c_cut2 (n nk : Nat) (cb : Nat → Nat → Nat) (x y : Int32) (ar : Nat → Nat → Int32) (rq : Nat → Nat → Option Nat) (ou : Nat → Int64) (dy : Nat → m_C) (o : m_R) (S' : m_S) : Prop := ∃ c, c < 10 ∧ x = nI c ∧ o = .inl (some (.int (nI nk))) ∧ S' = (n + 1, m_hp (m_uf (m_uf (m_uf ar 3 (m_uf (ar 3) 10 (nI (nk + 1)))) 6 (upd (ar 6) c 0)) 4 (m_uf (ar 4) 15 1)) (m_uf rq 76 (va_up (rq 76) nk (some (n + 3)))) ou (m_up dy (n + 3) (m_O 2 [.int x, .int (nI (cb c 6) + y), .int (ar 3 12), .int 0, .int (-1)])))
theorem e_cut2 (d : Nat) {n nc nk : Nat} {x y : Int32} {ca : Nat → Nat} {cb : Nat → Nat → Nat} {wh : Nat → Nat} {ar : Nat → Nat → Int32} {rq : Nat → Nat → Option Nat} {ou : Nat → Int64} {dy : Nat → m_C} (hn : 95 ≤ n) (hnc : nc ≤ 10) (hnk : nk ≤ 16) (h7 : ar 4 7 = nI nc) (h10 : ar 3 10 = nI nk) (hC : n_CB 4 nc ca cb rq dy) (hcn : ∀ c, c < nc → ca c < n + 3) (hW : n_WB 4 nc wh ar) :
    ∃ (o : m_R) (S' : m_S), m_Ev m_cds m_my (d + 2) 26 [.ref 3, .int x, .int y] (n, m_hp ar rq ou dy) o S' ∧
      (if ¬ x < 0 ∧ x < nI nc then if ¬ y < 0 ∧ ¬ nI (cb x.toNatClampNeg 5) < y then if wh x.toNatClampNeg = 1 then if nI nk < 16 then c_cut2 n nk cb x y ar rq ou dy o S' else (o = .inr m_iss ∧ S' = (n, m_hp ar rq ou dy)) else (o = .inr m_iss ∧ S' = (n, m_hp ar rq ou dy)) else (o = .inr m_ias ∧ S' = (n, m_hp ar rq ou dy)) else (o = .inr m_ios ∧ S' = (n, m_hp ar rq ou dy))) := by
  refine m_goX my_X6_cut cs_X6_cut mm_X6_cut xm_X6_cut ?_ (Nat.le_of_ble_eq_true rfl) rfl ?_
  · intro o S h
    repeat' split at h
    all_goals first | (obtain ⟨rfl, _⟩ := h; first | trivial | rfl) | (obtain ⟨_, _, _, rfl, _⟩ := h; first | trivial | rfl)
  simp (disch := omega) only [mt_X6_cut, st_X6_cut_0, st_X6_cut_1, st_X6_cut_2, st_X6_cut_5, st_X6_cut_8, o_iload, o_aload, o_const, o_lconst, o_istore, o_astore, o_iinc, o_dup, o_dup2, o_pop, o_bin, o_div, o_un, o_mbin, o_mun, o_i2l, o_lcmp, o_ifeq, o_ifne, o_iflt, o_ifge, o_ifgt, o_ifle, o_icmpeq, o_icmpne, o_icmplt, o_icmpge, o_icmpgt, o_icmple, o_goto, o_getf, o_puti, o_putz, o_putr, o_iald, o_iast, o_zast, o_lald, o_last, o_aald, o_aast, o_alenO, o_new, o_newi, o_newl, o_newq, o_newqd, o_mna, o_copy, o_drop, o_cast, o_call, o_callx, o_callv, o_callvx, o_callh, o_sald, o_slen, o_switch, m_rcv, o_ireturn, o_zreturn, o_areturn, o_return, o_throw, o_null, o_dupx1, o_de, m_ent, List.getElem?_cons_zero, List.getElem?_cons_succ, List.getElem?_nil, List.set_cons_zero, List.set_cons_succ, List.length_cons, List.length_nil, List.map_cons, List.map_nil, List.replicate_succ, List.replicate_zero, List.take_succ_cons, List.take_zero, List.drop_succ_cons, List.drop_zero, List.reverse_cons, List.reverse_nil, List.cons_append, List.nil_append, List.append_nil, Option.toList_some, Option.toList_none, Nat.reduceAdd, Nat.reduceSub, Nat.reduceLeDiff, Nat.reduceLT, Nat.reduceEqDiff, Nat.le_refl, Nat.zero_le, Nat.zero_add, Nat.sub_zero, true_and, and_true, false_and, and_false, if_true, if_false, ite_true, ite_false, reduceIte, or_true, true_or, Option.isSome_some, not_true_eq_false, not_false_eq_true, forall_const, true_implies, false_implies, implies_true, ne_eq, m_gI_I, m_gJ_J, m_gQ_Q, m_gO_O, m_hp_3, m_hp_78, m_hp_76, m_hp_77, m_hp_79, m_hp_86, m_hp_93, m_fC_len, m_fC_0, m_fC_1, m_fC_2, m_fC_3, m_fC_4, m_fC_5, m_fC_6, m_fC_7, m_fC_8, m_fC_9, m_fC_10, m_fC_11, m_fC_12, m_fC_13, m_fC_14, m_fC_s8, m_fC_s9, m_fC_s10, m_fC_s11, m_fC_s12, m_fC_s13, m_fC_s14, m_fN_len, m_fN_0, m_fN_1, m_fN_2, m_fN_3, m_fN_4, m_fN_5, m_fN_6, m_fN_7, m_fN_8, m_fN_9, m_fN_10, m_fN_11, m_fN_12, m_fN_13, m_fN_14, m_fN_15, m_fN_s7, m_fN_s8, m_fN_s11, m_fN_s12, m_fN_s13, m_fN_s14, m_fN_s15, m_hp_L4, h7]
  refine k_c (e_checkNumber d x _ _) (fun w => by simp only [if_neg w, and_self]) (fun w1 => ?_)
  simp only [if_pos w1]
  obtain ⟨c, hc, rfl, e2⟩ := n_ok_of (by omega) w1
  rw [e2]
  have hc10 : c < 10 := by omega
  obtain ⟨c1, c2, c3, _, _, c6⟩ := hC c hc
  obtain ⟨hw, hw1⟩ := hW c hc
  have c1' : rq 5 c = some (ca c) := c1
  have hw' : ar 6 c = nI (wh c) := hw
  simp (disch := omega) only [st_X6_cut_11, st_X6_cut_12, st_X6_cut_15, st_X6_cut_18, st_X6_cut_19, st_X6_cut_20, st_X6_cut_21, st_X6_cut_22, st_X6_cut_23, st_X6_cut_24, st_X6_cut_27, o_iload, o_aload, o_const, o_lconst, o_istore, o_astore, o_iinc, o_dup, o_dup2, o_pop, o_bin, o_div, o_un, o_mbin, o_mun, o_i2l, o_lcmp, o_ifeq, o_ifne, o_iflt, o_ifge, o_ifgt, o_ifle, o_icmpeq, o_icmpne, o_icmplt, o_icmpge, o_icmpgt, o_icmple, o_goto, o_getf, o_puti, o_putz, o_putr, o_iald, o_iast, o_zast, o_lald, o_last, o_aald, o_aast, o_alenO, o_new, o_newi, o_newl, o_newq, o_newqd, o_mna, o_copy, o_drop, o_cast, o_call, o_callx, o_callv, o_callvx, o_callh, o_sald, o_slen, o_switch, m_rcv, o_ireturn, o_zreturn, o_areturn, o_return, o_throw, o_null, o_dupx1, o_de, m_ent, List.getElem?_cons_zero, List.getElem?_cons_succ, List.getElem?_nil, List.set_cons_zero, List.set_cons_succ, List.length_cons, List.length_nil, List.map_cons, List.map_nil, List.replicate_succ, List.replicate_zero, List.take_succ_cons, List.take_zero, List.drop_succ_cons, List.drop_zero, List.reverse_cons, List.reverse_nil, List.cons_append, List.nil_append, List.append_nil, Option.toList_some, Option.toList_none, Nat.reduceAdd, Nat.reduceSub, Nat.reduceLeDiff, Nat.reduceLT, Nat.reduceEqDiff, Nat.le_refl, Nat.zero_le, Nat.zero_add, Nat.sub_zero, true_and, and_true, false_and, and_false, if_true, if_false, ite_true, ite_false, reduceIte, or_true, true_or, Option.isSome_some, not_true_eq_false, not_false_eq_true, forall_const, true_implies, false_implies, implies_true, ne_eq, m_gI_I, m_gJ_J, m_gQ_Q, m_gO_O, m_hp_3, m_hp_78, m_hp_76, m_hp_77, m_hp_79, m_hp_86, m_hp_93, m_fC_len, m_fC_0, m_fC_1, m_fC_2, m_fC_3, m_fC_4, m_fC_5, m_fC_6, m_fC_7, m_fC_8, m_fC_9, m_fC_10, m_fC_11, m_fC_12, m_fC_13, m_fC_14, m_fC_s8, m_fC_s9, m_fC_s10, m_fC_s11, m_fC_s12, m_fC_s13, m_fC_s14, m_fN_len, m_fN_0, m_fN_1, m_fN_2, m_fN_3, m_fN_4, m_fN_5, m_fN_6, m_fN_7, m_fN_8, m_fN_9, m_fN_10, m_fN_11, m_fN_12, m_fN_13, m_fN_14, m_fN_15, m_fN_s7, m_fN_s8, m_fN_s11, m_fN_s12, m_fN_s13, m_fN_s14, m_fN_s15, m_hp_L4, m_hp_5, m_hp_6, m_hp_7, m_hp_18, m_hp_19, m_hp_20, m_hp_21, m_hp_28, m_hp_39, v_in, v_cl, c1', m_hp_dy, c3]
  refine k_c (e_checkRange d y _ _ _) (fun w => by simp only [if_neg w, and_self]) (fun w2 => ?_)
  simp only [if_pos w2]
  rcases (show wh c = 0 ∨ wh c = 1 by omega) with hw0 | hw0
  · rw [hw0] at hw'
    have h0 : (nI 0 = 0) = True := eq_true rfl
    simp (disch := omega) only [st_X6_cut_30, st_X6_cut_31, st_X6_cut_34, st_X6_cut_37, st_X6_cut_38, st_X6_cut_39, st_X6_cut_42, o_iload, o_aload, o_const, o_lconst, o_istore, o_astore, o_iinc, o_dup, o_dup2, o_pop, o_bin, o_div, o_un, o_mbin, o_mun, o_i2l, o_lcmp, o_ifeq, o_ifne, o_iflt, o_ifge, o_ifgt, o_ifle, o_icmpeq, o_icmpne, o_icmplt, o_icmpge, o_icmpgt, o_icmple, o_goto, o_getf, o_puti, o_putz, o_putr, o_iald, o_iast, o_zast, o_lald, o_last, o_aald, o_aast, o_alenO, o_new, o_newi, o_newl, o_newq, o_newqd, o_mna, o_copy, o_drop, o_cast, o_call, o_callx, o_callv, o_callvx, o_callh, o_sald, o_slen, o_switch, m_rcv, o_ireturn, o_zreturn, o_areturn, o_return, o_throw, o_null, o_dupx1, o_de, m_ent, List.getElem?_cons_zero, List.getElem?_cons_succ, List.getElem?_nil, List.set_cons_zero, List.set_cons_succ, List.length_cons, List.length_nil, List.map_cons, List.map_nil, List.replicate_succ, List.replicate_zero, List.take_succ_cons, List.take_zero, List.drop_succ_cons, List.drop_zero, List.reverse_cons, List.reverse_nil, List.cons_append, List.nil_append, List.append_nil, Option.toList_some, Option.toList_none, Nat.reduceAdd, Nat.reduceSub, Nat.reduceLeDiff, Nat.reduceLT, Nat.reduceEqDiff, Nat.le_refl, Nat.zero_le, Nat.zero_add, Nat.sub_zero, true_and, and_true, false_and, and_false, if_true, if_false, ite_true, ite_false, reduceIte, or_true, true_or, Option.isSome_some, not_true_eq_false, not_false_eq_true, forall_const, true_implies, false_implies, implies_true, ne_eq, m_gI_I, m_gJ_J, m_gQ_Q, m_gO_O, m_hp_3, m_hp_78, m_hp_76, m_hp_77, m_hp_79, m_hp_86, m_hp_93, m_fC_len, m_fC_0, m_fC_1, m_fC_2, m_fC_3, m_fC_4, m_fC_5, m_fC_6, m_fC_7, m_fC_8, m_fC_9, m_fC_10, m_fC_11, m_fC_12, m_fC_13, m_fC_14, m_fC_s8, m_fC_s9, m_fC_s10, m_fC_s11, m_fC_s12, m_fC_s13, m_fC_s14, m_fN_len, m_fN_0, m_fN_1, m_fN_2, m_fN_3, m_fN_4, m_fN_5, m_fN_6, m_fN_7, m_fN_8, m_fN_9, m_fN_10, m_fN_11, m_fN_12, m_fN_13, m_fN_14, m_fN_15, m_fN_s7, m_fN_s8, m_fN_s11, m_fN_s12, m_fN_s13, m_fN_s14, m_fN_s15, m_hp_L4, m_hp_5, m_hp_6, m_hp_7, m_hp_18, m_hp_19, m_hp_20, m_hp_21, m_hp_28, m_hp_39, v_in, v_cl, hw', h0, hw0]
  · rw [hw0] at hw'
    have h0 : (nI 1 = 0) = False := eq_false (by decide)
    simp (disch := omega) only [st_X6_cut_30, st_X6_cut_31, st_X6_cut_34, st_X6_cut_37, st_X6_cut_38, st_X6_cut_39, st_X6_cut_42, st_X6_cut_52, st_X6_cut_53, st_X6_cut_56, st_X6_cut_58, o_iload, o_aload, o_const, o_lconst, o_istore, o_astore, o_iinc, o_dup, o_dup2, o_pop, o_bin, o_div, o_un, o_mbin, o_mun, o_i2l, o_lcmp, o_ifeq, o_ifne, o_iflt, o_ifge, o_ifgt, o_ifle, o_icmpeq, o_icmpne, o_icmplt, o_icmpge, o_icmpgt, o_icmple, o_goto, o_getf, o_puti, o_putz, o_putr, o_iald, o_iast, o_zast, o_lald, o_last, o_aald, o_aast, o_alenO, o_new, o_newi, o_newl, o_newq, o_newqd, o_mna, o_copy, o_drop, o_cast, o_call, o_callx, o_callv, o_callvx, o_callh, o_sald, o_slen, o_switch, m_rcv, o_ireturn, o_zreturn, o_areturn, o_return, o_throw, o_null, o_dupx1, o_de, m_ent, List.getElem?_cons_zero, List.getElem?_cons_succ, List.getElem?_nil, List.set_cons_zero, List.set_cons_succ, List.length_cons, List.length_nil, List.map_cons, List.map_nil, List.replicate_succ, List.replicate_zero, List.take_succ_cons, List.take_zero, List.drop_succ_cons, List.drop_zero, List.reverse_cons, List.reverse_nil, List.cons_append, List.nil_append, List.append_nil, Option.toList_some, Option.toList_none, Nat.reduceAdd, Nat.reduceSub, Nat.reduceLeDiff, Nat.reduceLT, Nat.reduceEqDiff, Nat.le_refl, Nat.zero_le, Nat.zero_add, Nat.sub_zero, true_and, and_true, false_and, and_false, if_true, if_false, ite_true, ite_false, reduceIte, or_true, true_or, Option.isSome_some, not_true_eq_false, not_false_eq_true, forall_const, true_implies, false_implies, implies_true, ne_eq, m_gI_I, m_gJ_J, m_gQ_Q, m_gO_O, m_hp_3, m_hp_78, m_hp_76, m_hp_77, m_hp_79, m_hp_86, m_hp_93, m_fC_len, m_fC_0, m_fC_1, m_fC_2, m_fC_3, m_fC_4, m_fC_5, m_fC_6, m_fC_7, m_fC_8, m_fC_9, m_fC_10, m_fC_11, m_fC_12, m_fC_13, m_fC_14, m_fC_s8, m_fC_s9, m_fC_s10, m_fC_s11, m_fC_s12, m_fC_s13, m_fC_s14, m_fN_len, m_fN_0, m_fN_1, m_fN_2, m_fN_3, m_fN_4, m_fN_5, m_fN_6, m_fN_7, m_fN_8, m_fN_9, m_fN_10, m_fN_11, m_fN_12, m_fN_13, m_fN_14, m_fN_15, m_fN_s7, m_fN_s8, m_fN_s11, m_fN_s12, m_fN_s13, m_fN_s14, m_fN_s15, m_hp_L4, m_hp_5, m_hp_6, m_hp_7, m_hp_18, m_hp_19, m_hp_20, m_hp_21, m_hp_28, m_hp_39, v_in, v_cl, hw', h0, hw0, h10]
    refine k_c (e_checkRoom d (nI nk) 16 _) (fun w => by simp only [if_neg w, and_self]) (fun w3 => ?_)
    have hnk16 : nk < 16 := by
      have e : (16 : Int32) = nI 16 := rfl
      rw [e] at w3
      exact (nI_ltI (by omega) (by omega)).mp w3
    have hcac := hcn c hc
    have hd1 : m_up dy (n + 3) (m_O 2 [.int 0, .int 0, .int 0, .int 0, .int 0]) (ca c) = m_O 1 [.int (nI (cb c 0)), .int (nI (cb c 1)), .int (nI (cb c 2)), .int (nI (cb c 3)), .int (nI (cb c 4)), .int (nI (cb c 5)), .int (nI (cb c 6))] := by rw [m_up_b (by omega)]; exact c3
    simp (disch := omega) only [st_X6_cut_61, st_X6_cut_62, st_X6_cut_65, st_X6_cut_66, st_X6_cut_69, st_X6_cut_72, st_X6_cut_73, st_X6_cut_74, st_X6_cut_75, st_X6_cut_78, st_X6_cut_79, st_X6_cut_80, st_X6_cut_81, o_iload, o_aload, o_const, o_lconst, o_istore, o_astore, o_iinc, o_dup, o_dup2, o_pop, o_bin, o_div, o_un, o_mbin, o_mun, o_i2l, o_lcmp, o_ifeq, o_ifne, o_iflt, o_ifge, o_ifgt, o_ifle, o_icmpeq, o_icmpne, o_icmplt, o_icmpge, o_icmpgt, o_icmple, o_goto, o_getf, o_puti, o_putz, o_putr, o_iald, o_iast, o_zast, o_lald, o_last, o_aald, o_aast, o_alenO, o_new, o_newi, o_newl, o_newq, o_newqd, o_mna, o_copy, o_drop, o_cast, o_call, o_callx, o_callv, o_callvx, o_callh, o_sald, o_slen, o_switch, m_rcv, o_ireturn, o_zreturn, o_areturn, o_return, o_throw, o_null, o_dupx1, o_de, m_ent, List.getElem?_cons_zero, List.getElem?_cons_succ, List.getElem?_nil, List.set_cons_zero, List.set_cons_succ, List.length_cons, List.length_nil, List.map_cons, List.map_nil, List.replicate_succ, List.replicate_zero, List.take_succ_cons, List.take_zero, List.drop_succ_cons, List.drop_zero, List.reverse_cons, List.reverse_nil, List.cons_append, List.nil_append, List.append_nil, Option.toList_some, Option.toList_none, Nat.reduceAdd, Nat.reduceSub, Nat.reduceLeDiff, Nat.reduceLT, Nat.reduceEqDiff, Nat.le_refl, Nat.zero_le, Nat.zero_add, Nat.sub_zero, true_and, and_true, false_and, and_false, if_true, if_false, ite_true, ite_false, reduceIte, or_true, true_or, Option.isSome_some, not_true_eq_false, not_false_eq_true, forall_const, true_implies, false_implies, implies_true, ne_eq, m_gI_I, m_gJ_J, m_gQ_Q, m_gO_O, m_hp_3, m_hp_78, m_hp_76, m_hp_77, m_hp_79, m_hp_86, m_hp_93, m_fC_len, m_fC_0, m_fC_1, m_fC_2, m_fC_3, m_fC_4, m_fC_5, m_fC_6, m_fC_7, m_fC_8, m_fC_9, m_fC_10, m_fC_11, m_fC_12, m_fC_13, m_fC_14, m_fC_s8, m_fC_s9, m_fC_s10, m_fC_s11, m_fC_s12, m_fC_s13, m_fC_s14, m_up_dy, if_pos w3, h10, m_hp_dy, hd1]
    rw [st_X6_cut_84]
    refine ⟨by show (m_gO 2 (m_hp _ _ _ _ _)).isSome = true; rw [m_hp_dy (by omega), m_up_a, m_gO_O]; rfl, by show 4 ≤ 7; omega, by show 7 ≤ 4 + 4; omega, by show 0 ≤ _; omega, by show 0 ≤ _; omega, _, _, e_Cut d (by omega) m_up_a, ?_⟩
    rw [m_up_c]
    simp (disch := omega) only [st_X6_cut_87, st_X6_cut_88, st_X6_cut_89, st_X6_cut_90, st_X6_cut_93, st_X6_cut_94, st_X6_cut_95, st_X6_cut_98, st_X6_cut_99, st_X6_cut_102, o_iload, o_aload, o_const, o_lconst, o_istore, o_astore, o_iinc, o_dup, o_dup2, o_pop, o_bin, o_div, o_un, o_mbin, o_mun, o_i2l, o_lcmp, o_ifeq, o_ifne, o_iflt, o_ifge, o_ifgt, o_ifle, o_icmpeq, o_icmpne, o_icmplt, o_icmpge, o_icmpgt, o_icmple, o_goto, o_getf, o_puti, o_putz, o_putr, o_iald, o_iast, o_zast, o_lald, o_last, o_aald, o_aast, o_alenO, o_new, o_newi, o_newl, o_newq, o_newqd, o_mna, o_copy, o_drop, o_cast, o_call, o_callx, o_callv, o_callvx, o_callh, o_sald, o_slen, o_switch, m_rcv, o_ireturn, o_zreturn, o_areturn, o_return, o_throw, o_null, o_dupx1, o_de, m_ent, List.getElem?_cons_zero, List.getElem?_cons_succ, List.getElem?_nil, List.set_cons_zero, List.set_cons_succ, List.length_cons, List.length_nil, List.map_cons, List.map_nil, List.replicate_succ, List.replicate_zero, List.take_succ_cons, List.take_zero, List.drop_succ_cons, List.drop_zero, List.reverse_cons, List.reverse_nil, List.cons_append, List.nil_append, List.append_nil, Option.toList_some, Option.toList_none, Nat.reduceAdd, Nat.reduceSub, Nat.reduceLeDiff, Nat.reduceLT, Nat.reduceEqDiff, Nat.le_refl, Nat.zero_le, Nat.zero_add, Nat.sub_zero, true_and, and_true, false_and, and_false, if_true, if_false, ite_true, ite_false, reduceIte, or_true, true_or, Option.isSome_some, not_true_eq_false, not_false_eq_true, forall_const, true_implies, false_implies, implies_true, ne_eq, m_gI_I, m_gJ_J, m_gQ_Q, m_gO_O, m_hp_3, m_hp_78, m_hp_76, m_hp_77, m_hp_79, m_hp_86, m_hp_93, m_up_3, m_up_76, m_up_77, m_up_93, m_fC_len, m_fC_0, m_fC_1, m_fC_2, m_fC_3, m_fC_4, m_fC_5, m_fC_6, m_fC_7, m_fC_8, m_fC_9, m_fC_10, m_fC_11, m_fC_12, m_fC_13, m_fC_14, m_fC_s8, m_fC_s9, m_fC_s10, m_fC_s11, m_fC_s12, m_fC_s13, m_fC_s14, m_hp_dy, m_up_a, v_in, v_cl, m_uf_eq, m_uf_uu, h10, nI_1]
    rw [st_X6_cut_103]
    refine ⟨rfl, by show 2 ≤ 2; omega, by show 2 ≤ 2 + 4; omega, by show 0 ≤ _; omega, by show 0 ≤ _; omega, _, _, e_sever d (B := 4) (Or.inl rfl) hc10, ?_⟩
    simp (disch := omega) only [st_X6_cut_106, st_X6_cut_107, st_X6_cut_110, st_X6_cut_111, st_X6_cut_112, o_iload, o_aload, o_const, o_lconst, o_istore, o_astore, o_iinc, o_dup, o_dup2, o_pop, o_bin, o_div, o_un, o_mbin, o_mun, o_i2l, o_lcmp, o_ifeq, o_ifne, o_iflt, o_ifge, o_ifgt, o_ifle, o_icmpeq, o_icmpne, o_icmplt, o_icmpge, o_icmpgt, o_icmple, o_goto, o_getf, o_puti, o_putz, o_putr, o_iald, o_iast, o_zast, o_lald, o_last, o_aald, o_aast, o_alenO, o_new, o_newi, o_newl, o_newq, o_newqd, o_mna, o_copy, o_drop, o_cast, o_call, o_callx, o_callv, o_callvx, o_callh, o_sald, o_slen, o_switch, m_rcv, o_ireturn, o_zreturn, o_areturn, o_return, o_throw, o_null, o_dupx1, o_de, m_ent, List.getElem?_cons_zero, List.getElem?_cons_succ, List.getElem?_nil, List.set_cons_zero, List.set_cons_succ, List.length_cons, List.length_nil, List.map_cons, List.map_nil, List.replicate_succ, List.replicate_zero, List.take_succ_cons, List.take_zero, List.drop_succ_cons, List.drop_zero, List.reverse_cons, List.reverse_nil, List.cons_append, List.nil_append, List.append_nil, Option.toList_some, Option.toList_none, Nat.reduceAdd, Nat.reduceSub, Nat.reduceLeDiff, Nat.reduceLT, Nat.reduceEqDiff, Nat.le_refl, Nat.zero_le, Nat.zero_add, Nat.sub_zero, true_and, and_true, false_and, and_false, if_true, if_false, ite_true, ite_false, reduceIte, or_true, true_or, Option.isSome_some, not_true_eq_false, not_false_eq_true, forall_const, true_implies, false_implies, implies_true, ne_eq, m_gI_I, m_gJ_J, m_gQ_Q, m_gO_O, m_hp_3, m_hp_78, m_hp_76, m_hp_77, m_hp_79, m_hp_86, m_hp_93, m_fC_len, m_fC_0, m_fC_1, m_fC_2, m_fC_3, m_fC_4, m_fC_5, m_fC_6, m_fC_7, m_fC_8, m_fC_9, m_fC_10, m_fC_11, m_fC_12, m_fC_13, m_fC_14, m_fC_s8, m_fC_s9, m_fC_s10, m_fC_s11, m_fC_s12, m_fC_s13, m_fC_s14, m_uf_ne, m_uf_eq, v_sub1]
    exact ⟨c, hc10, rfl, rfl, rfl⟩
theorem c_ccut (d : Nat) {n nc nd nk ns sz : Nat} {x y t : Int32} {ca da ka sa g : Nat → Nat} {cb db sd ow : Nat → Nat → Nat} {got : Nat → Nat → Int32} {s1 s2 : Int32} {hr : Nat} {o32 : Nat → Nat → Int32} {acc : Nat → Int32} {club sp : Int32} {kb sb : Nat → Nat → Nat} {kw sc : Nat → Option Nat} {wh : Nat → Nat} {wy : Nat → Option Nat} {ln : Nat → Nat} {ar : Nat → Nat → Int32} {rq : Nat → Nat → Option Nat} {ou : Nat → Int64} {dy : Nat → m_C} (hn : 95 ≤ n) (H : y_R n nc nd nk ns sz ca da ka sa g cb db sd ow got s1 s2 (hr, o32, acc, club, sp, (kb, kw, sb, sc, wh), wy, ln) ar rq dy) (hhr : hr ≤ 500) (hwc : x_wc nc nk wh kb) (hc56 : ∀ c, c < nc → cb c 5 = n_ab (cb c 0) (cb c 1) * 200 ∧ cb c 6 = min (cb c 0) (cb c 1) * 200) (ht : t = n_gc (n_tf (¬ x < 0 ∧ x < nI nc)) (n_tf ((¬ x < 0 ∧ x < nI nc) ∧ (¬ y < 0 ∧ ¬ nI (cb x.toNatClampNeg 5) < y))) (n_tf ((¬ x < 0 ∧ x < nI nc) ∧ (n_co kb x.toNatClampNeg nk 0 = none ∧ nk < 16)))) :
    ∃ (o : m_R) (S' : m_S), m_Ev m_cds m_my (d + 2) 26 [.ref 3, .int x, .int y] (n, m_hp ar rq ou dy) o S' ∧ c_an n rq ou dy ar t (nI nk) n_x3 (z_R nc nd (nk + 1) ns sz cb db sd ow got s1 s2 (hr, o32, acc, club, sp, (m_uf kb nk (n_row4 x.toNatClampNeg (min (cb x.toNatClampNeg 0) (cb x.toNatClampNeg 1) * 200 + y.toNatClampNeg) hr 0), m_uf kw nk none, sb, sc, m_uf wh x.toNatClampNeg 0), wy, ln)) o S' := by
  obtain ⟨⟨hC, hD, hK, hS, hL, hM, hN, h93, h9⟩, h38⟩ := id H
  simp only at hC hD hK hS hM hN h93 h9 h38
  obtain ⟨hnc, h7, hCB, hWB, hOB, hCa⟩ := id hC
  obtain ⟨hnk, h10, hKB, hKa⟩ := id hK
  obtain ⟨o, S', hE, hP⟩ := e_cut2 d (x := x) (y := y) (ou := ou) hn hnc hnk h7 h10 hCB hCa hWB
  refine ⟨o, S', hE, ?_⟩
  have z3 : (nI nk < 16) = (nk < 16) := propext (nI_ltI (b := 16) (by omega) (by omega))
  unfold c_an
  by_cases c1 : (¬ x < 0 ∧ x < nI nc)
  · rw [if_pos c1] at hP
    by_cases c2 : ¬ y < 0 ∧ ¬ nI (cb x.toNatClampNeg 5) < y
    · rw [if_pos c2] at hP
      obtain ⟨c, hc, g1, g2⟩ := n_ok_of (by omega) c1
      have hw1 := (hWB c hc).2
      have hw := hwc c hc
      rw [g2] at hP
      by_cases c3 : wh c = 1
      · rw [if_pos c3] at hP
        have hco : n_co kb c nk 0 = none := by
          cases e : n_co kb c nk 0 with
          | none => rfl
          | some k => have := hw.mpr (by rw [e]; exact fun z => by cases z); omega
        by_cases c4 : nk < 16
        · rw [if_pos (by rw [z3]; exact c4)] at hP
          have t0 : t = 0 := by rw [ht, n_tf_t c1, n_tf_t ⟨c1, c2⟩, n_tf_t ⟨c1, by rw [g2]; exact hco, c4⟩]; rfl
          rw [if_pos t0]
          obtain ⟨c', hc', e1, rfl, rfl⟩ := hP
          have ec : c = c' := by
            rw [e1, v_cl (by omega)] at g2
            exact g2.symm
          subst ec
          obtain ⟨q5, q6⟩ := hc56 c hc
          obtain ⟨_, _, _, C4, C5, _⟩ := hCB c hc
          have c2' := c2
          rw [g2, q5] at c2'
          have hmx := n_ab_min C4 C5
          obtain ⟨e3, hy⟩ := i_rng (N := n_ab (cb c 0) (cb c 1) * 200) (by omega) c2'.1 c2'.2
          rw [g2]
          generalize y.toNatClampNeg = yn at e3 hy ⊢
          have hv : nI (cb c 6) + y = nI (min (cb c 0) (cb c 1) * 200 + yn) := by rw [q6, e3]; exact v_add _ _
          refine ⟨rfl, _, _, _, _, rfl, by omega, fun q hq => ?_, by omega, ca, da, m_uf ka nk (n + 3), sa, g, ⟨⟨hnc, ?_, (z_C_cg (z_C_nw (c := m_O 2 [.int x, .int (nI (cb c 6) + y), .int (ar 3 12), .int 0, .int (-1)]) hC) rfl rfl (fun _ _ => rfl) (m_uf_ne (by omega))).2.2.1, fun c' hc' => ?_, fun c' hc' => ?_, fun c' hc' => ?_⟩, z_D_cg (z_D_nw hD) ?_ ?_ ?_ ?_, ⟨by omega, ?_, fun k hk => ?_, fun k hk => ?_⟩, z_S_cg (z_S_nw hS) ?_ ?_, z_L_nw hn hL, z_M_cg hM ?_ ?_ ?_ (fun q q1 q2 => ?_), Or.inr ?_, ?_, ?_⟩, ?_⟩
          all_goals try simp (disch := omega) only [m_uf_eq, m_uf_ne]
          · exact h7
          · show upd (ar 6) c 0 c' = nI (m_uf wh c 0 c') ∧ m_uf wh c 0 c' ≤ 1
            by_cases e : c' = c
            · rw [e, u_eq, m_uf_eq]
              exact ⟨rfl, by omega⟩
            · rw [u_ne e, m_uf_ne e]
              exact hWB c' hc'
          · exact hOB c' hc'
          · have := hCa c' hc'; omega
          · show va_up (rq 76) nk (some (n + 3)) k = some (m_uf ka nk (n + 3) k) ∧ 98 ≤ m_uf ka nk (n + 3) k ∧ m_up dy (n + 3) (m_O 2 [.int x, .int (nI (cb c 6) + y), .int (ar 3 12), .int 0, .int (-1)]) (m_uf ka nk (n + 3) k) = m_O 2 [.int (nI (m_uf kb nk (n_row4 c (min (cb c 0) (cb c 1) * 200 + yn) hr 0) k 0)), .int (nI (m_uf kb nk (n_row4 c (min (cb c 0) (cb c 1) * 200 + yn) hr 0) k 1)), .int (nI (m_uf kb nk (n_row4 c (min (cb c 0) (cb c 1) * 200 + yn) hr 0) k 2)), .int (nI (m_uf kb nk (n_row4 c (min (cb c 0) (cb c 1) * 200 + yn) hr 0) k 3)), .int (n_w (m_uf kw nk none k))] ∧ m_uf kb nk (n_row4 c (min (cb c 0) (cb c 1) * 200 + yn) hr 0) k 0 < 10 ∧ m_uf kb nk (n_row4 c (min (cb c 0) (cb c 1) * 200 + yn) hr 0) k 1 ≤ 1000 ∧ m_uf kb nk (n_row4 c (min (cb c 0) (cb c 1) * 200 + yn) hr 0) k 2 ≤ 500 ∧ m_uf kb nk (n_row4 c (min (cb c 0) (cb c 1) * 200 + yn) hr 0) k 3 ≤ 5 ∧ ∀ h, m_uf kw nk none k = some h → h ≤ 500
            by_cases e : k = nk
            · subst e
              rw [m_uf_eq, m_uf_eq, m_uf_eq, m_up_a, va_up_i, if_pos rfl, hv, g1, hM.1]
              exact ⟨rfl, by omega, rfl, by show c < 10; omega, by show min (cb c 0) (cb c 1) * 200 + yn ≤ 1000; omega, hhr, Nat.zero_le _, fun h z => by cases z⟩
            · obtain ⟨J1, J2, J3, J4⟩ := hKB k (by omega)
              have := (hKa k (by omega)).1
              rw [m_uf_ne e, m_uf_ne e, m_uf_ne e, m_up_b (by omega), va_up_i, if_neg e]
              exact ⟨J1, J2, J3, J4⟩
          · by_cases e : k = nk
            · subst e
              rw [m_uf_eq]
              refine ⟨by omega, fun s' hs' w => ?_⟩
              by_cases e' : s' = k
              · exact e'.symm
              · rw [m_uf_ne e'] at w
                have := (hKa s' (by omega)).1
                omega
            · rw [m_uf_ne e]
              refine ⟨by have := (hKa k (by omega)).1; omega, fun s' hs' w => ?_⟩
              by_cases e' : s' = nk
              · subst e'
                rw [m_uf_eq] at w
                have := (hKa k (by omega)).1
                omega
              · rw [m_uf_ne e'] at w
                exact (hKa k (by omega)).2 s' (by omega) w
          · exact h93
          · exact h9
          · exact h38
        · rw [if_neg (by rw [z3]; exact c4)] at hP
          have t0 : t = 3 := by rw [ht, n_tf_t c1, n_tf_t ⟨c1, c2⟩, n_tf_f (fun w => c4 w.2.2)]; exact n_gc_3 rfl
          rw [if_neg (by rw [t0]; decide), t0]
          exact hP
      · rw [if_neg c3] at hP
        have hco : ¬ n_co kb x.toNatClampNeg nk 0 = none := fun z => by
          rw [g2] at z
          have h0 : ¬ wh c = 0 := fun w => hw.mp w z
          omega
        have t0 : t = 3 := by rw [ht, n_tf_t c1, n_tf_t ⟨c1, c2⟩, n_tf_f (fun w => hco w.2.1)]; exact n_gc_3 rfl
        rw [if_neg (by rw [t0]; decide), t0]
        exact hP
    · rw [if_neg c2] at hP
      have t0 : t = 2 := by rw [ht, n_tf_t c1, n_tf_f (fun w => c2 w.2)]; exact n_gc_2 rfl
      rw [if_neg (by rw [t0]; decide), t0]
      exact hP
  · rw [if_neg c1] at hP
    have t0 : t = 1 := by rw [ht, n_tf_f c1]; exact n_gc_1 rfl
    rw [if_neg (by rw [t0]; decide), t0]
    exact hP
theorem c_ccable (d : Nat) {n nc nd nk ns sz : Nat} {x y s m t : Int32} {ca da ka sa g : Nat → Nat} {cb db sd ow : Nat → Nat → Nat} {got : Nat → Nat → Int32} {s1 s2 : Int32} {hr : Nat} {o32 : Nat → Nat → Int32} {acc : Nat → Int32} {club sp : Int32} {kb sb : Nat → Nat → Nat} {kw sc : Nat → Option Nat} {wh : Nat → Nat} {wy : Nat → Option Nat} {ln : Nat → Nat} {ar : Nat → Nat → Int32} {rq : Nat → Nat → Option Nat} {ou : Nat → Int64} {dy : Nat → m_C} (hn : 95 ≤ n) (H : y_R n nc nd nk ns sz ca da ka sa g cb db sd ow got s1 s2 (hr, o32, acc, club, sp, (kb, kw, sb, sc, wh), wy, ln) ar rq dy) (hhr : hr ≤ 500) (ht : t = n_gc (n_tf (((¬ x < 0 ∧ x < 6) ∧ (¬ y < 0 ∧ y < 6)) ∧ (¬ m < 0 ∧ m < 6))) (n_tf (¬ x = y ∧ (¬ s < 1 ∧ ¬ 8 < s))) (n_tf (nc < 10))) :
    ∃ (o : m_R) (S' : m_S), m_Ev m_cds m_my (d + 3) 23 [.ref 3, .int x, .int y, .int s, .int m] (n, m_hp ar rq ou dy) o S' ∧ c_an n rq ou dy ar t (nI nc) n_x3 (z_R (nc + 1) nd nk ns sz (m_uf cb nc (n_row7 x.toNatClampNeg y.toNatClampNeg s.toNatClampNeg m.toNatClampNeg hr)) db sd (m_uf ow nc (fun j => if j = m.toNatClampNeg then s.toNatClampNeg else 0)) got s1 s2 (hr, o32, acc, club, sp, (kb, kw, sb, sc, m_uf wh nc 1), wy, ln)) o S' := by
  obtain ⟨⟨hC, hD, hK, hS, hL, hM, hN, h93, h9⟩, h38⟩ := id H
  simp only at hC hD hK hS hM hN h93 h9 h38
  obtain ⟨hnc, h7, hCB, hWB, hOB, hCa⟩ := id hC
  obtain ⟨o, S', hE, hP⟩ := e_cable d (x := x) (y := y) (s := s) (m := m) (rq := rq) (ou := ou) (dy := dy) hn hnc h7
  refine ⟨o, S', hE, ?_⟩
  have z3 : (nI nc < 10) = (nc < 10) := propext (nI_ltI (b := 10) (by omega) (by omega))
  unfold c_an
  have bad : ∀ (e : Int32), t = e → e ≠ 0 → (o = .inr (n_x3 e) ∧ S' = (n, m_hp ar rq ou dy)) → (if t = 0 then (o = .inl (some (.int (nI nc))) ∧ ∃ (n' : Nat) (ar' : Nat → Nat → Int32) (rq' : Nat → Nat → Option Nat) (dy' : Nat → m_C), S' = (n', m_hp ar' rq' ou dy') ∧ n ≤ n' ∧ (∀ x, 94 ≤ x → ar' x = ar x) ∧ (z_R (nc + 1) nd nk ns sz (m_uf cb nc (n_row7 x.toNatClampNeg y.toNatClampNeg s.toNatClampNeg m.toNatClampNeg hr)) db sd (m_uf ow nc (fun j => if j = m.toNatClampNeg then s.toNatClampNeg else 0)) got s1 s2 (hr, o32, acc, club, sp, (kb, kw, sb, sc, m_uf wh nc 1), wy, ln)) n' ar' rq' dy') else o = .inr (n_x3 t) ∧ S' = (n, m_hp ar rq ou dy)) := by
    intro e t0 e0 h
    rw [if_neg (by rw [t0]; exact e0), t0]
    exact h
  by_cases c1 : ¬ x < 0 ∧ x < 6
  · rw [if_pos c1] at hP
    by_cases c2 : ¬ y < 0 ∧ y < 6
    · rw [if_pos c2] at hP
      by_cases c3 : ¬ m < 0 ∧ m < 6
      · rw [if_pos c3] at hP
        by_cases c4 : ¬ x = y
        · rw [if_pos c4] at hP
          by_cases c5 : ¬ s < 1 ∧ ¬ 8 < s
          · rw [if_pos c5] at hP
            by_cases c6 : nc < 10
            · rw [if_pos (by rw [z3]; exact c6)] at hP
              have t0 : t = 0 := by rw [ht, n_tf_t ⟨⟨c1, c2⟩, c3⟩, n_tf_t ⟨c4, c5⟩, n_tf_t c6]; rfl
              rw [if_pos t0]
              obtain ⟨rfl, a, b, mm, row, rfl, ha, rfl, hb, rfl, hm, hrow, rfl⟩ := hP
              obtain ⟨e7, hs8⟩ := i_rng (N := 8) (by omega) (fun w => c5.1 (Int32.lt_trans w (by decide))) c5.2
              have hs1 : 1 ≤ s.toNatClampNeg := by
                rcases Nat.lt_or_ge s.toNatClampNeg 1 with w | w
                · have c51 := c5.1
                  rw [e7] at c51
                  exact absurd (nI_lt (b := 1) w (by omega)) c51
                · exact w
              rw [v_cl (by omega), v_cl (by omega), v_cl (by omega)]
              generalize s.toNatClampNeg = sn at e7 hs8 hs1 ⊢
              refine ⟨rfl, _, _, _, _, rfl, by omega, fun q hq => ?_, by omega, m_uf ca nc (n + 3), da, ka, sa, g, ⟨⟨by omega, ?_, fun c hc => ?_, fun c hc => ?_, fun c hc => ?_, fun c hc => ?_⟩, z_D_cg (z_D_nw hD) ?_ ?_ ?_ ?_, z_K_cg (z_K_nw hK) ?_ ?_, z_S_cg (z_S_nw hS) ?_ ?_, z_L_nw hn hL, z_M_cg hM ?_ ?_ ?_ (fun q q1 q2 => ?_), Or.inr ?_, ?_, ?_⟩, ?_⟩
              all_goals try simp (disch := omega) only [m_uf_eq, m_uf_ne]
              · show va_up (rq 5) nc (some (n + 3)) c = some (m_uf ca nc (n + 3) c) ∧ 98 ≤ m_uf ca nc (n + 3) c ∧ m_up dy (n + 3) (m_O 1 [.int (nI a), .int (nI b), .int s, .int (nI mm), .int (ar 3 12), .int (nI (n_ab a b * 200)), .int (nI (min a b * 200))]) (m_uf ca nc (n + 3) c) = m_O 1 [.int (nI (m_uf cb nc (n_row7 a b sn mm hr) c 0)), .int (nI (m_uf cb nc (n_row7 a b sn mm hr) c 1)), .int (nI (m_uf cb nc (n_row7 a b sn mm hr) c 2)), .int (nI (m_uf cb nc (n_row7 a b sn mm hr) c 3)), .int (nI (m_uf cb nc (n_row7 a b sn mm hr) c 4)), .int (nI (m_uf cb nc (n_row7 a b sn mm hr) c 5)), .int (nI (m_uf cb nc (n_row7 a b sn mm hr) c 6))] ∧ m_uf cb nc (n_row7 a b sn mm hr) c 0 < 6 ∧ m_uf cb nc (n_row7 a b sn mm hr) c 1 < 6 ∧ m_uf cb nc (n_row7 a b sn mm hr) c 5 ≤ 1000
                by_cases e : c = nc
                · subst e
                  rw [m_uf_eq, m_uf_eq, m_up_a, va_up_i, if_pos rfl, e7, hM.1]
                  exact ⟨rfl, by omega, rfl, ha, hb, n_ab_le ha hb⟩
                · have := hCa c (by omega)
                  obtain ⟨J1, J2, J3, J4⟩ := hCB c (by omega)
                  rw [m_uf_ne e, m_uf_ne e, m_up_b (by omega), va_up_i, if_neg e]
                  exact ⟨J1, J2, J3, J4⟩
              · show upd (ar 6) nc 1 c = nI (m_uf wh nc 1 c) ∧ m_uf wh nc 1 c ≤ 1
                by_cases e : c = nc
                · rw [e, u_eq, m_uf_eq]
                  exact ⟨rfl, Nat.le_refl _⟩
                · rw [u_ne e, m_uf_ne e]
                  exact hWB c (by omega)
              · by_cases e : c = nc
                · subst e
                  rw [m_uf_eq, m_uf_eq]
                  refine ⟨hs1, by show sn ≤ 100; omega, fun j hj => ?_⟩
                  rw [m_uf_eq, hrow j hj]
                  by_cases ej : j = mm
                  · rw [if_pos ej, if_pos ej]
                    exact ⟨e7, by omega⟩
                  · rw [if_neg ej, if_neg ej]
                    exact ⟨rfl, Nat.zero_le _⟩
                · rw [m_uf_ne e, m_uf_ne e]
                  obtain ⟨o1, o2, o3⟩ := hOB c (by omega)
                  refine ⟨o1, o2, fun j hj => ?_⟩
                  rw [m_uf_ne (by omega : 8 + c ≠ 8 + nc), m_uf_ne (by omega : 8 + c ≠ 6)]
                  exact o3 j hj
              · by_cases e : c = nc
                · rw [e, m_uf_eq]; omega
                · rw [m_uf_ne e]; have := hCa c (by omega); omega
              · exact h93
              · exact h9
              · exact h38
            · rw [if_neg (by rw [z3]; exact c6)] at hP
              exact bad 3 (by rw [ht, n_tf_t ⟨⟨c1, c2⟩, c3⟩, n_tf_t ⟨c4, c5⟩, n_tf_f c6]; exact n_gc_3 rfl) (by decide) hP
          · rw [if_neg c5] at hP
            exact bad 2 (by rw [ht, n_tf_t ⟨⟨c1, c2⟩, c3⟩, n_tf_f (fun w => c5 w.2)]; exact n_gc_2 rfl) (by decide) hP
        · rw [if_neg c4] at hP
          exact bad 2 (by rw [ht, n_tf_t ⟨⟨c1, c2⟩, c3⟩, n_tf_f (fun w => c4 w.1)]; exact n_gc_2 rfl) (by decide) hP
      · rw [if_neg c3] at hP
        exact bad 1 (by rw [ht, n_tf_f (fun w => c3 w.2)]; exact n_gc_1 rfl) (by decide) hP
    · rw [if_neg c2] at hP
      exact bad 1 (by rw [ht, n_tf_f (fun w => c2 w.1.2)]; exact n_gc_1 rfl) (by decide) hP
  · rw [if_neg c1] at hP
    exact bad 1 (by rw [ht, n_tf_f (fun w => c1 w.1.1)]; exact n_gc_1 rfl) (by decide) hP
theorem c_cdemand (d : Nat) {n nc nd nk ns sz : Nat} {m x y s t : Int32} {ca da ka sa g : Nat → Nat} {cb db sd ow : Nat → Nat → Nat} {got : Nat → Nat → Int32} {s1 s2 : Int32} {hr : Nat} {o32 : Nat → Nat → Int32} {acc : Nat → Int32} {club sp : Int32} {kb sb : Nat → Nat → Nat} {kw sc : Nat → Option Nat} {wh : Nat → Nat} {wy : Nat → Option Nat} {ln : Nat → Nat} {ar : Nat → Nat → Int32} {rq : Nat → Nat → Option Nat} {ou : Nat → Int64} {dy : Nat → m_C} (hn : 95 ≤ n) (H : y_R n nc nd nk ns sz ca da ka sa g cb db sd ow got s1 s2 (hr, o32, acc, club, sp, (kb, kw, sb, sc, wh), wy, ln) ar rq dy) (hhr : hr ≤ 500) (ht : t = n_gc (n_tf (((¬ x < 0 ∧ x < 6) ∧ (¬ y < 0 ∧ y < 6)) ∧ (¬ m < 0 ∧ m < 6))) (n_tf (¬ x = y ∧ (¬ s < 1 ∧ ¬ 4 < s))) (n_tf (nd < 10))) :
    ∃ (o : m_R) (S' : m_S), m_Ev m_cds m_my (d + 2) 24 [.ref 3, .int m, .int x, .int y, .int s] (n, m_hp ar rq ou dy) o S' ∧ c_an n rq ou dy ar t (nI nd) n_x3 (z_R nc (nd + 1) nk ns sz cb (m_uf db nd (n_row5 m.toNatClampNeg x.toNatClampNeg y.toNatClampNeg s.toNatClampNeg hr)) sd ow got s1 s2 (hr, o32, acc, club, sp, (kb, kw, sb, sc, wh), m_uf wy nd none, m_uf ln nd 0)) o S' := by
  obtain ⟨⟨hC, hD, hK, hS, hL, hM, hN, h93, h9⟩, h38⟩ := id H
  simp only at hC hD hK hS hM hN h93 h9 h38
  obtain ⟨hnd, h8, hDB, hDa⟩ := id hD
  obtain ⟨o, S', hE, hP⟩ := e_demand d (x := x) (y := y) (s := s) (m := m) (rq := rq) (ou := ou) (dy := dy) hn hnd h8
  refine ⟨o, S', hE, ?_⟩
  have z3 : (nI nd < 10) = (nd < 10) := propext (nI_ltI (b := 10) (by omega) (by omega))
  unfold c_an
  have bad : ∀ (e : Int32), t = e → e ≠ 0 → (o = .inr (n_x3 e) ∧ S' = (n, m_hp ar rq ou dy)) → (if t = 0 then (o = .inl (some (.int (nI nd))) ∧ ∃ (n' : Nat) (ar' : Nat → Nat → Int32) (rq' : Nat → Nat → Option Nat) (dy' : Nat → m_C), S' = (n', m_hp ar' rq' ou dy') ∧ n ≤ n' ∧ (∀ x, 94 ≤ x → ar' x = ar x) ∧ (z_R nc (nd + 1) nk ns sz cb (m_uf db nd (n_row5 m.toNatClampNeg x.toNatClampNeg y.toNatClampNeg s.toNatClampNeg hr)) sd ow got s1 s2 (hr, o32, acc, club, sp, (kb, kw, sb, sc, wh), m_uf wy nd none, m_uf ln nd 0)) n' ar' rq' dy') else o = .inr (n_x3 t) ∧ S' = (n, m_hp ar rq ou dy)) := by
    intro e t0 e0 h
    rw [if_neg (by rw [t0]; exact e0), t0]
    exact h
  by_cases c3 : ¬ m < 0 ∧ m < 6
  · rw [if_pos c3] at hP
    by_cases c1 : ¬ x < 0 ∧ x < 6
    · rw [if_pos c1] at hP
      by_cases c2 : ¬ y < 0 ∧ y < 6
      · rw [if_pos c2] at hP
        by_cases c4 : ¬ x = y
        · rw [if_pos c4] at hP
          by_cases c5 : ¬ s < 1 ∧ ¬ 4 < s
          · rw [if_pos c5] at hP
            by_cases c6 : nd < 10
            · rw [if_pos (by rw [z3]; exact c6)] at hP
              have t0 : t = 0 := by rw [ht, n_tf_t ⟨⟨c1, c2⟩, c3⟩, n_tf_t ⟨c4, c5⟩, n_tf_t c6]; rfl
              rw [if_pos t0]
              obtain ⟨rfl, rfl⟩ := hP
              obtain ⟨a, ha, e1, e2⟩ := n_ok_of (n := 6) (by omega) c1
              obtain ⟨b, hb, e3, e4⟩ := n_ok_of (n := 6) (by omega) c2
              obtain ⟨mm, hm, e5, e6⟩ := n_ok_of (n := 6) (by omega) c3
              obtain ⟨e7, hs8⟩ := i_rng (N := 4) (by omega) (fun w => c5.1 (Int32.lt_trans w (by decide))) c5.2
              rw [e2, e4, e6]
              generalize s.toNatClampNeg = sn at e7 hs8 ⊢
              refine ⟨rfl, _, _, _, _, rfl, by omega, fun q hq => ?_, by omega, ca, m_uf da nd (n + 3), ka, sa, g, ⟨z_C_cg (z_C_nw hC) ?_ ?_ (fun c hc => ?_) ?_, ⟨by omega, ?_, fun c hc => ?_, fun c hc => ?_⟩, z_K_cg (z_K_nw hK) ?_ ?_, z_S_cg (z_S_nw hS) ?_ ?_, z_L_nw hn hL, z_M_cg hM ?_ ?_ ?_ (fun q q1 q2 => ?_), Or.inr ?_, ?_, ?_⟩, ?_⟩
              all_goals try simp (disch := omega) only [m_uf_eq, m_uf_ne]
              · show va_up (rq 18) nd (some (n + 3)) c = some (m_uf da nd (n + 3) c) ∧ 98 ≤ m_uf da nd (n + 3) c ∧ m_up dy (n + 3) (m_O 3 [.int m, .int x, .int y, .int s, .int (ar 3 12)]) (m_uf da nd (n + 3) c) = m_O 3 [.int (nI (m_uf db nd (n_row5 mm a b sn hr) c 0)), .int (nI (m_uf db nd (n_row5 mm a b sn hr) c 1)), .int (nI (m_uf db nd (n_row5 mm a b sn hr) c 2)), .int (nI (m_uf db nd (n_row5 mm a b sn hr) c 3)), .int (nI (m_uf db nd (n_row5 mm a b sn hr) c 4))] ∧ m_uf db nd (n_row5 mm a b sn hr) c 0 < 6 ∧ m_uf db nd (n_row5 mm a b sn hr) c 1 < 6 ∧ m_uf db nd (n_row5 mm a b sn hr) c 2 < 6 ∧ m_uf db nd (n_row5 mm a b sn hr) c 3 ≤ 100
                by_cases e : c = nd
                · subst e
                  rw [m_uf_eq, m_uf_eq, m_up_a, va_up_i, if_pos rfl, e7, hM.1, e1, e3, e5]
                  exact ⟨rfl, by omega, rfl, hm, ha, hb, by show sn ≤ 100; omega⟩
                · have := (hDa c (by omega)).1
                  obtain ⟨J1, J2, J3, J4⟩ := hDB c (by omega)
                  rw [m_uf_ne e, m_uf_ne e, m_up_b (by omega), va_up_i, if_neg e]
                  exact ⟨J1, J2, J3, J4⟩
              · by_cases e : c = nd
                · subst e
                  rw [m_uf_eq, m_uf_eq, m_uf_eq, m_uf_eq, u_eq, u_eq]
                  exact ⟨by omega, hs8, rfl, rfl⟩
                · rw [m_uf_ne e, m_uf_ne e, m_uf_ne e, m_uf_ne e, u_ne e, u_ne e]
                  obtain ⟨o1, o2, o3⟩ := hDa c (by omega)
                  exact ⟨by omega, o2, o3⟩
              · exact h93
              · exact h9
              · exact h38
            · rw [if_neg (by rw [z3]; exact c6)] at hP
              exact bad 3 (by rw [ht, n_tf_t ⟨⟨c1, c2⟩, c3⟩, n_tf_t ⟨c4, c5⟩, n_tf_f c6]; exact n_gc_3 rfl) (by decide) hP
          · rw [if_neg c5] at hP
            exact bad 2 (by rw [ht, n_tf_t ⟨⟨c1, c2⟩, c3⟩, n_tf_f (fun w => c5 w.2)]; exact n_gc_2 rfl) (by decide) hP
        · rw [if_neg c4] at hP
          exact bad 2 (by rw [ht, n_tf_t ⟨⟨c1, c2⟩, c3⟩, n_tf_f (fun w => c4 w.1)]; exact n_gc_2 rfl) (by decide) hP
      · rw [if_neg c2] at hP
        exact bad 1 (by rw [ht, n_tf_f (fun w => c2 w.1.2)]; exact n_gc_1 rfl) (by decide) hP
    · rw [if_neg c1] at hP
      exact bad 1 (by rw [ht, n_tf_f (fun w => c1 w.1.1)]; exact n_gc_1 rfl) (by decide) hP
  · rw [if_neg c3] at hP
    exact bad 1 (by rw [ht, n_tf_f (fun w => c3 w.2)]; exact n_gc_1 rfl) (by decide) hP
