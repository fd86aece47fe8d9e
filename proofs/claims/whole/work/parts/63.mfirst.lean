/-! the model: firstCut, credits -/
def n_fs (kb : Nat → Nat → Nat) (nk c : Nat) (o : Option Nat) : Option Nat := match n_co kb c nk 0 with
  | none => o
  | some k => match o with
    | none => some c
    | some f => match n_co kb f nk 0 with
      | none => o
      | some kf => if kb k 2 < kb kf 2 then some c else o
def n_fc (kb : Nat → Nat → Nat) (nk m c : Nat) (o : Option Nat) : Option Nat := n_up (n_fs kb nk) m c o
theorem n_fc_s {kb : Nat → Nat → Nat} {nk m c : Nat} {o : Option Nat} : n_fc kb nk (m + 1) c o = n_fc kb nk m (c + 1) (n_fs kb nk c o) := rfl
theorem lp_mfc {d n nc nk : Nat} {kb cb : Nat → Nat → Nat} {r : m_R → m_S → Prop} {bd : Nat × Nat} {ar : Nat → Nat → Int32} {rq : Nat → Nat → Option Nat} {ou : Nat → Int64} {dy : Nat → m_C} (hnc : nc ≤ 10) (hnk : nk ≤ 16) (hC : x_C nc cb ar) (hK : x_K nk kb ar) :
    ∀ (m c : Nat), c + m = nc → ∀ (o : Option Nat) (x3 : Option Value), (∀ f, o = some f → f < nc ∧ n_co kb f nk 0 ≠ none) → r (.inl (some (.int (n_w (n_fc kb nk m c o))))) (n, m_hp ar rq ou dy) → m_W1 (m_lk cd_X7_firstCut) (m_Ev m_cds m_my (d + 1)) r 4 [some (.ref 94), some (.int (n_w o)), some (.int (nI c)), x3] [] bd (n, m_hp ar rq ou dy) := by
  intro m
  induction m with
  | zero =>
    intro c hc o x3 ho h
    have e : c = nc := by omega
    subst e
    have h1 := hC.1
    rw [st_X7_firstCut_4]
    simp (disch := omega) only [st_X7_firstCut_5, st_X7_firstCut_6, st_X7_firstCut_9, st_X7_firstCut_59, st_X7_firstCut_60, o_iload, o_aload, o_const, o_lconst, o_istore, o_astore, o_iinc, o_dup, o_dup2, o_pop, o_bin, o_div, o_un, o_mbin, o_mun, o_i2l, o_lcmp, o_ifeq, o_ifne, o_iflt, o_ifge, o_ifgt, o_ifle, o_icmpeq, o_icmpne, o_icmplt, o_icmpge, o_icmpgt, o_icmple, o_goto, o_getf, o_puti, o_putz, o_putr, o_iald, o_iast, o_zast, o_lald, o_last, o_aald, o_aast, o_alenO, o_new, o_newi, o_newl, o_newq, o_newqd, o_mna, o_copy, o_drop, o_cast, o_call, o_callx, o_callv, o_callvx, o_callh, o_sald, o_slen, o_switch, m_rcv, o_ireturn, o_zreturn, o_areturn, o_return, o_throw, o_null, o_dupx1, o_de, m_ent, List.getElem?_cons_zero, List.getElem?_cons_succ, List.getElem?_nil, List.set_cons_zero, List.set_cons_succ, List.length_cons, List.length_nil, List.map_cons, List.map_nil, List.replicate_succ, List.replicate_zero, List.take_succ_cons, List.take_zero, List.drop_succ_cons, List.drop_zero, List.reverse_cons, List.reverse_nil, List.cons_append, List.nil_append, List.append_nil, Option.toList_some, Option.toList_none, Nat.reduceAdd, Nat.reduceSub, Nat.reduceLeDiff, Nat.reduceLT, Nat.reduceEqDiff, Nat.le_refl, Nat.zero_le, Nat.zero_add, Nat.sub_zero, true_and, and_true, false_and, and_false, if_true, if_false, ite_true, ite_false, reduceIte, or_true, true_or, Option.isSome_some, not_true_eq_false, not_false_eq_true, forall_const, true_implies, false_implies, implies_true, ne_eq, m_gI_I, m_gJ_J, m_gQ_Q, m_gO_O, m_hp_94, m_fM_len, m_fM_0, m_fM_1, m_fM_2, m_fM_3, m_fM_4, m_fM_5, m_fM_6, m_fM_7, m_fM_8, m_fM_9, m_fM_10, m_fM_11, m_fM_12, m_fM_13, m_fM_14, m_fM_15, m_fM_16, m_fM_17, m_fM_18, m_fM_19, m_fM_20, m_fM_21, m_fM_22, m_fM_23, m_fM_24, m_fM_25, m_fM_26, m_fM_27, m_fM_28, m_fM_29, m_fM_30, m_fM_31, m_fM_32, m_fM_33, m_fM_34, m_fM_35, m_fM_s0, m_fM_s1, m_fM_s5, m_fM_s12, m_fM_s17, m_fM_s22, m_fM_s23, m_fM_s27, m_fM_s32, m_fM_s33, m_fM_s34, m_fM_s35, h1]
    exact ⟨fun z => absurd z Int32.lt_irrefl, fun _ => h⟩
  | succ m ih =>
    intro c hc o x3 ho h
    have h1 := hC.1
    have hcn : c < nc := by omega
    have hlt : nI c < nI nc := nI_lt hcn (by omega)
    have hco := n_w_none (o := n_co kb c nk 0) (fun w e => by have := (n_co_lt e).2.1; omega)
    rw [n_fc_s] at h
    have hm1 : (n_w none = -1) = True := eq_true rfl
    rw [st_X7_firstCut_4]
    simp (disch := omega) only [st_X7_firstCut_5, st_X7_firstCut_6, st_X7_firstCut_9, st_X7_firstCut_12, st_X7_firstCut_13, st_X7_firstCut_14, o_iload, o_aload, o_const, o_lconst, o_istore, o_astore, o_iinc, o_dup, o_dup2, o_pop, o_bin, o_div, o_un, o_mbin, o_mun, o_i2l, o_lcmp, o_ifeq, o_ifne, o_iflt, o_ifge, o_ifgt, o_ifle, o_icmpeq, o_icmpne, o_icmplt, o_icmpge, o_icmpgt, o_icmple, o_goto, o_getf, o_puti, o_putz, o_putr, o_iald, o_iast, o_zast, o_lald, o_last, o_aald, o_aast, o_alenO, o_new, o_newi, o_newl, o_newq, o_newqd, o_mna, o_copy, o_drop, o_cast, o_call, o_callx, o_callv, o_callvx, o_callh, o_sald, o_slen, o_switch, m_rcv, o_ireturn, o_zreturn, o_areturn, o_return, o_throw, o_null, o_dupx1, o_de, m_ent, List.getElem?_cons_zero, List.getElem?_cons_succ, List.getElem?_nil, List.set_cons_zero, List.set_cons_succ, List.length_cons, List.length_nil, List.map_cons, List.map_nil, List.replicate_succ, List.replicate_zero, List.take_succ_cons, List.take_zero, List.drop_succ_cons, List.drop_zero, List.reverse_cons, List.reverse_nil, List.cons_append, List.nil_append, List.append_nil, Option.toList_some, Option.toList_none, Nat.reduceAdd, Nat.reduceSub, Nat.reduceLeDiff, Nat.reduceLT, Nat.reduceEqDiff, Nat.le_refl, Nat.zero_le, Nat.zero_add, Nat.sub_zero, true_and, and_true, false_and, and_false, if_true, if_false, ite_true, ite_false, reduceIte, or_true, true_or, Option.isSome_some, not_true_eq_false, not_false_eq_true, forall_const, true_implies, false_implies, implies_true, ne_eq, m_gI_I, m_gJ_J, m_gQ_Q, m_gO_O, m_hp_94, m_fM_len, m_fM_0, m_fM_1, m_fM_2, m_fM_3, m_fM_4, m_fM_5, m_fM_6, m_fM_7, m_fM_8, m_fM_9, m_fM_10, m_fM_11, m_fM_12, m_fM_13, m_fM_14, m_fM_15, m_fM_16, m_fM_17, m_fM_18, m_fM_19, m_fM_20, m_fM_21, m_fM_22, m_fM_23, m_fM_24, m_fM_25, m_fM_26, m_fM_27, m_fM_28, m_fM_29, m_fM_30, m_fM_31, m_fM_32, m_fM_33, m_fM_34, m_fM_35, m_fM_s0, m_fM_s1, m_fM_s5, m_fM_s12, m_fM_s17, m_fM_s22, m_fM_s23, m_fM_s27, m_fM_s32, m_fM_s33, m_fM_s34, m_fM_s35, h1, hlt]
    refine ⟨_, _, e_mcutOf d hnk hK (by omega), ?_⟩
    rcases hk : n_co kb c nk 0 with _ | k
    · have e : n_fs kb nk c o = o := by unfold n_fs; rw [hk]
      rw [e] at h
      simp (disch := omega) only [st_X7_firstCut_17, st_X7_firstCut_18, st_X7_firstCut_19, st_X7_firstCut_20, st_X7_firstCut_51, st_X7_firstCut_52, st_X7_firstCut_53, st_X7_firstCut_56, o_iload, o_aload, o_const, o_lconst, o_istore, o_astore, o_iinc, o_dup, o_dup2, o_pop, o_bin, o_div, o_un, o_mbin, o_mun, o_i2l, o_lcmp, o_ifeq, o_ifne, o_iflt, o_ifge, o_ifgt, o_ifle, o_icmpeq, o_icmpne, o_icmplt, o_icmpge, o_icmpgt, o_icmple, o_goto, o_getf, o_puti, o_putz, o_putr, o_iald, o_iast, o_zast, o_lald, o_last, o_aald, o_aast, o_alenO, o_new, o_newi, o_newl, o_newq, o_newqd, o_mna, o_copy, o_drop, o_cast, o_call, o_callx, o_callv, o_callvx, o_callh, o_sald, o_slen, o_switch, m_rcv, o_ireturn, o_zreturn, o_areturn, o_return, o_throw, o_null, o_dupx1, o_de, m_ent, List.getElem?_cons_zero, List.getElem?_cons_succ, List.getElem?_nil, List.set_cons_zero, List.set_cons_succ, List.length_cons, List.length_nil, List.map_cons, List.map_nil, List.replicate_succ, List.replicate_zero, List.take_succ_cons, List.take_zero, List.drop_succ_cons, List.drop_zero, List.reverse_cons, List.reverse_nil, List.cons_append, List.nil_append, List.append_nil, Option.toList_some, Option.toList_none, Nat.reduceAdd, Nat.reduceSub, Nat.reduceLeDiff, Nat.reduceLT, Nat.reduceEqDiff, Nat.le_refl, Nat.zero_le, Nat.zero_add, Nat.sub_zero, true_and, and_true, false_and, and_false, if_true, if_false, ite_true, ite_false, reduceIte, or_true, true_or, Option.isSome_some, not_true_eq_false, not_false_eq_true, forall_const, true_implies, false_implies, implies_true, ne_eq, m_gI_I, m_gJ_J, m_gQ_Q, m_gO_O, hm1, nI_1]
      exact ih (c + 1) (by omega) o _ ho h
    · obtain ⟨_, k2, k3, k4⟩ := n_co_lt hk
      have hk16 : k < 16 := by omega
      have hkm : (nI k = -1) = False := n_neg (by omega)
      obtain ⟨_, _, q3, _, _, _, q7, _⟩ := hK.2 k (by omega)
      cases o with
      | none =>
        have e : n_fs kb nk c none = some c := by unfold n_fs; rw [hk]
        rw [e] at h
        simp (disch := omega) only [st_X7_firstCut_17, st_X7_firstCut_18, st_X7_firstCut_19, st_X7_firstCut_20, st_X7_firstCut_23, st_X7_firstCut_24, st_X7_firstCut_25, st_X7_firstCut_47, st_X7_firstCut_48, st_X7_firstCut_52, st_X7_firstCut_53, st_X7_firstCut_56, o_iload, o_aload, o_const, o_lconst, o_istore, o_astore, o_iinc, o_dup, o_dup2, o_pop, o_bin, o_div, o_un, o_mbin, o_mun, o_i2l, o_lcmp, o_ifeq, o_ifne, o_iflt, o_ifge, o_ifgt, o_ifle, o_icmpeq, o_icmpne, o_icmplt, o_icmpge, o_icmpgt, o_icmple, o_goto, o_getf, o_puti, o_putz, o_putr, o_iald, o_iast, o_zast, o_lald, o_last, o_aald, o_aast, o_alenO, o_new, o_newi, o_newl, o_newq, o_newqd, o_mna, o_copy, o_drop, o_cast, o_call, o_callx, o_callv, o_callvx, o_callh, o_sald, o_slen, o_switch, m_rcv, o_ireturn, o_zreturn, o_areturn, o_return, o_throw, o_null, o_dupx1, o_de, m_ent, List.getElem?_cons_zero, List.getElem?_cons_succ, List.getElem?_nil, List.set_cons_zero, List.set_cons_succ, List.length_cons, List.length_nil, List.map_cons, List.map_nil, List.replicate_succ, List.replicate_zero, List.take_succ_cons, List.take_zero, List.drop_succ_cons, List.drop_zero, List.reverse_cons, List.reverse_nil, List.cons_append, List.nil_append, List.append_nil, Option.toList_some, Option.toList_none, Nat.reduceAdd, Nat.reduceSub, Nat.reduceLeDiff, Nat.reduceLT, Nat.reduceEqDiff, Nat.le_refl, Nat.zero_le, Nat.zero_add, Nat.sub_zero, true_and, and_true, false_and, and_false, if_true, if_false, ite_true, ite_false, reduceIte, or_true, true_or, Option.isSome_some, not_true_eq_false, not_false_eq_true, forall_const, true_implies, false_implies, implies_true, ne_eq, m_gI_I, m_gJ_J, m_gQ_Q, m_gO_O, n_ws, hkm, hm1, nI_1]
        exact ih (c + 1) (by omega) (some c) _ (fun f e => by injection e with e; subst e; exact ⟨hcn, by rw [hk]; exact fun z => by cases z⟩) h
      | some f =>
        obtain ⟨f1, f2⟩ := ho f rfl
        obtain ⟨kf, hkf⟩ := Option.ne_none_iff_exists'.mp f2
        obtain ⟨_, g2, _, _⟩ := n_co_lt hkf
        obtain ⟨_, _, p3, _, _, _, p7, _⟩ := hK.2 kf (by omega)
        have hkf16 : kf < 16 := by omega
        have hfm : (nI f = -1) = False := n_neg (by omega)
        have e : n_fs kb nk c (some f) = if kb k 2 < kb kf 2 then some c else some f := by unfold n_fs; rw [hk]; simp only; rw [hkf]
        rw [e] at h
        simp (disch := omega) only [st_X7_firstCut_17, st_X7_firstCut_18, st_X7_firstCut_19, st_X7_firstCut_20, st_X7_firstCut_23, st_X7_firstCut_24, st_X7_firstCut_25, st_X7_firstCut_28, st_X7_firstCut_29, st_X7_firstCut_32, st_X7_firstCut_33, st_X7_firstCut_34, st_X7_firstCut_35, st_X7_firstCut_38, st_X7_firstCut_39, st_X7_firstCut_40, o_iload, o_aload, o_const, o_lconst, o_istore, o_astore, o_iinc, o_dup, o_dup2, o_pop, o_bin, o_div, o_un, o_mbin, o_mun, o_i2l, o_lcmp, o_ifeq, o_ifne, o_iflt, o_ifge, o_ifgt, o_ifle, o_icmpeq, o_icmpne, o_icmplt, o_icmpge, o_icmpgt, o_icmple, o_goto, o_getf, o_puti, o_putz, o_putr, o_iald, o_iast, o_zast, o_lald, o_last, o_aald, o_aast, o_alenO, o_new, o_newi, o_newl, o_newq, o_newqd, o_mna, o_copy, o_drop, o_cast, o_call, o_callx, o_callv, o_callvx, o_callh, o_sald, o_slen, o_switch, m_rcv, o_ireturn, o_zreturn, o_areturn, o_return, o_throw, o_null, o_dupx1, o_de, m_ent, List.getElem?_cons_zero, List.getElem?_cons_succ, List.getElem?_nil, List.set_cons_zero, List.set_cons_succ, List.length_cons, List.length_nil, List.map_cons, List.map_nil, List.replicate_succ, List.replicate_zero, List.take_succ_cons, List.take_zero, List.drop_succ_cons, List.drop_zero, List.reverse_cons, List.reverse_nil, List.cons_append, List.nil_append, List.append_nil, Option.toList_some, Option.toList_none, Nat.reduceAdd, Nat.reduceSub, Nat.reduceLeDiff, Nat.reduceLT, Nat.reduceEqDiff, Nat.le_refl, Nat.zero_le, Nat.zero_add, Nat.sub_zero, true_and, and_true, false_and, and_false, if_true, if_false, ite_true, ite_false, reduceIte, or_true, true_or, Option.isSome_some, not_true_eq_false, not_false_eq_true, forall_const, true_implies, false_implies, implies_true, ne_eq, m_gI_I, m_gJ_J, m_gQ_Q, m_gO_O, n_ws, hkm, hfm, m_hp_94, m_fM_len, m_fM_0, m_fM_1, m_fM_2, m_fM_3, m_fM_4, m_fM_5, m_fM_6, m_fM_7, m_fM_8, m_fM_9, m_fM_10, m_fM_11, m_fM_12, m_fM_13, m_fM_14, m_fM_15, m_fM_16, m_fM_17, m_fM_18, m_fM_19, m_fM_20, m_fM_21, m_fM_22, m_fM_23, m_fM_24, m_fM_25, m_fM_26, m_fM_27, m_fM_28, m_fM_29, m_fM_30, m_fM_31, m_fM_32, m_fM_33, m_fM_34, m_fM_35, m_fM_s0, m_fM_s1, m_fM_s5, m_fM_s12, m_fM_s17, m_fM_s22, m_fM_s23, m_fM_s27, m_fM_s32, m_fM_s33, m_fM_s34, m_fM_s35, m_hp_106, v_in, v_cl, q3]
        refine ⟨_, _, e_mcutOf d hnk hK (by omega), ?_⟩
        rw [hkf]
        have z1 : (nI (kb k 2) < nI (kb kf 2)) = (kb k 2 < kb kf 2) := propext (nI_ltI (by omega) (by omega))
        simp (disch := omega) only [st_X7_firstCut_43, st_X7_firstCut_44, st_X7_firstCut_47, st_X7_firstCut_48, st_X7_firstCut_51, st_X7_firstCut_52, st_X7_firstCut_53, st_X7_firstCut_56, o_iload, o_aload, o_const, o_lconst, o_istore, o_astore, o_iinc, o_dup, o_dup2, o_pop, o_bin, o_div, o_un, o_mbin, o_mun, o_i2l, o_lcmp, o_ifeq, o_ifne, o_iflt, o_ifge, o_ifgt, o_ifle, o_icmpeq, o_icmpne, o_icmplt, o_icmpge, o_icmpgt, o_icmple, o_goto, o_getf, o_puti, o_putz, o_putr, o_iald, o_iast, o_zast, o_lald, o_last, o_aald, o_aast, o_alenO, o_new, o_newi, o_newl, o_newq, o_newqd, o_mna, o_copy, o_drop, o_cast, o_call, o_callx, o_callv, o_callvx, o_callh, o_sald, o_slen, o_switch, m_rcv, o_ireturn, o_zreturn, o_areturn, o_return, o_throw, o_null, o_dupx1, o_de, m_ent, List.getElem?_cons_zero, List.getElem?_cons_succ, List.getElem?_nil, List.set_cons_zero, List.set_cons_succ, List.length_cons, List.length_nil, List.map_cons, List.map_nil, List.replicate_succ, List.replicate_zero, List.take_succ_cons, List.take_zero, List.drop_succ_cons, List.drop_zero, List.reverse_cons, List.reverse_nil, List.cons_append, List.nil_append, List.append_nil, Option.toList_some, Option.toList_none, Nat.reduceAdd, Nat.reduceSub, Nat.reduceLeDiff, Nat.reduceLT, Nat.reduceEqDiff, Nat.le_refl, Nat.zero_le, Nat.zero_add, Nat.sub_zero, true_and, and_true, false_and, and_false, if_true, if_false, ite_true, ite_false, reduceIte, or_true, true_or, Option.isSome_some, not_true_eq_false, not_false_eq_true, forall_const, true_implies, false_implies, implies_true, ne_eq, m_gI_I, m_gJ_J, m_gQ_Q, m_gO_O, n_ws, m_hp_94, m_fM_len, m_fM_0, m_fM_1, m_fM_2, m_fM_3, m_fM_4, m_fM_5, m_fM_6, m_fM_7, m_fM_8, m_fM_9, m_fM_10, m_fM_11, m_fM_12, m_fM_13, m_fM_14, m_fM_15, m_fM_16, m_fM_17, m_fM_18, m_fM_19, m_fM_20, m_fM_21, m_fM_22, m_fM_23, m_fM_24, m_fM_25, m_fM_26, m_fM_27, m_fM_28, m_fM_29, m_fM_30, m_fM_31, m_fM_32, m_fM_33, m_fM_34, m_fM_35, m_fM_s0, m_fM_s1, m_fM_s5, m_fM_s12, m_fM_s17, m_fM_s22, m_fM_s23, m_fM_s27, m_fM_s32, m_fM_s33, m_fM_s34, m_fM_s35, m_hp_106, v_in, v_cl, p3, z1, nI_1]
        refine ⟨fun y => ?_, fun y => ?_⟩
        · rw [if_pos y] at h
          exact ih (c + 1) (by omega) (some c) _ (fun f e => by injection e with e; subst e; exact ⟨hcn, by rw [hk]; exact fun z => by cases z⟩) h
        · rw [if_neg y] at h
          exact ih (c + 1) (by omega) (some f) _ ho h
theorem e_mfirstCut (d : Nat) {n nc nk : Nat} {kb cb : Nat → Nat → Nat} {ar : Nat → Nat → Int32} {rq : Nat → Nat → Option Nat} {ou : Nat → Int64} {dy : Nat → m_C} (hnc : nc ≤ 10) (hnk : nk ≤ 16) (hC : x_C nc cb ar) (hK : x_K nk kb ar) :
    m_Ev m_cds m_my (d + 2) 91 [.ref 94] (n, m_hp ar rq ou dy) (.inl (some (.int (n_w (n_fc kb nk nc 0 none))))) (n, m_hp ar rq ou dy) := by
  refine m_go1 my_X7_firstCut cs_X7_firstCut (by first | trivial | rfl) (Nat.le_of_ble_eq_true rfl) rfl ?_
  simp (disch := omega) only [mt_X7_firstCut, st_X7_firstCut_0, st_X7_firstCut_1, st_X7_firstCut_2, st_X7_firstCut_3, o_iload, o_aload, o_const, o_lconst, o_istore, o_astore, o_iinc, o_dup, o_dup2, o_pop, o_bin, o_div, o_un, o_mbin, o_mun, o_i2l, o_lcmp, o_ifeq, o_ifne, o_iflt, o_ifge, o_ifgt, o_ifle, o_icmpeq, o_icmpne, o_icmplt, o_icmpge, o_icmpgt, o_icmple, o_goto, o_getf, o_puti, o_putz, o_putr, o_iald, o_iast, o_zast, o_lald, o_last, o_aald, o_aast, o_alenO, o_new, o_newi, o_newl, o_newq, o_newqd, o_mna, o_copy, o_drop, o_cast, o_call, o_callx, o_callv, o_callvx, o_callh, o_sald, o_slen, o_switch, m_rcv, o_ireturn, o_zreturn, o_areturn, o_return, o_throw, o_null, o_dupx1, o_de, m_ent, List.getElem?_cons_zero, List.getElem?_cons_succ, List.getElem?_nil, List.set_cons_zero, List.set_cons_succ, List.length_cons, List.length_nil, List.map_cons, List.map_nil, List.replicate_succ, List.replicate_zero, List.take_succ_cons, List.take_zero, List.drop_succ_cons, List.drop_zero, List.reverse_cons, List.reverse_nil, List.cons_append, List.nil_append, List.append_nil, Option.toList_some, Option.toList_none, Nat.reduceAdd, Nat.reduceSub, Nat.reduceLeDiff, Nat.reduceLT, Nat.reduceEqDiff, Nat.le_refl, Nat.zero_le, Nat.zero_add, Nat.sub_zero, true_and, and_true, false_and, and_false, if_true, if_false, ite_true, ite_false, reduceIte, or_true, true_or, Option.isSome_some, not_true_eq_false, not_false_eq_true, forall_const, true_implies, false_implies, implies_true, ne_eq, m_gI_I, m_gJ_J, m_gQ_Q, m_gO_O]
  exact lp_mfc hnc hnk hC hK nc 0 (by omega) none none (fun f e => by cases e) ⟨rfl, rfl⟩
/-- the cable that was cut first, by what it is -/
def n_fi (kb : Nat → Nat → Nat) (nk : Nat) (o : Option Nat) : Prop := match o with
  | none => ∀ k, k < nk → ¬ kb k 3 < 5
  | some c => ∃ k, k < nk ∧ kb k 3 < 5 ∧ kb k 0 = c ∧ ∀ k', k' < nk → kb k' 3 < 5 → kb k 2 < kb k' 2 ∨ (kb k 2 = kb k' 2 ∧ c ≤ kb k' 0)
theorem n_fi_u {kb : Nat → Nat → Nat} {nk : Nat} {o o' : Option Nat} (h : n_fi kb nk o) (h' : n_fi kb nk o') : o = o' := by
  cases o with
  | none =>
    cases o' with
    | none => rfl
    | some c =>
      obtain ⟨k, h1, h2, _⟩ := h'
      exact absurd h2 (h k h1)
  | some c =>
    obtain ⟨k, h1, h2, h3, h4⟩ := h
    cases o' with
    | none => exact absurd h2 (h' k h1)
    | some c' =>
      obtain ⟨k', g1, g2, g3, g4⟩ := h'
      have a := h4 k' g1 g2
      have b := g4 k h1 h2
      have e : c = c' := by omega
      rw [e]
theorem n_cf_fi {kb : Nat → Nat → Nat} {kw : Nat → Option Nat} {nk : Nat} (hkw : ∀ k, k < nk → (kw k = none ↔ kb k 3 < 5)) : n_fi kb nk (n_cf kb kw nk 0 (none, 0)).1 := by
  have key : ∀ (m k : Nat) (t : Option Nat × Nat), k + m = nk → (match t.1 with | none => ∀ j, j < k → ¬ kb j 3 < 5 | some c => ∃ j, j < k ∧ kb j 3 < 5 ∧ kb j 0 = c ∧ kb j 2 = t.2 ∧ ∀ j', j' < k → kb j' 3 < 5 → kb j 2 < kb j' 2 ∨ (kb j 2 = kb j' 2 ∧ c ≤ kb j' 0)) → n_fi kb nk (n_cf kb kw m k t).1 := by
    intro m
    induction m with
    | zero =>
      intro k t hk h
      have e : k = nk := by omega
      subst e
      show n_fi kb k t.1
      obtain ⟨t1, t2⟩ := t
      cases t1 with
      | none => exact h
      | some c =>
        obtain ⟨j, h1, h2, h3, _, h5⟩ := h
        exact ⟨j, h1, h2, h3, h5⟩
    | succ m ih =>
      intro k t hk h
      have hst : n_cf kb kw (m + 1) k t = n_cf kb kw m (k + 1) (n_cs (kw k) (kb k 0) (kb k 2) t) := rfl
      rw [hst]
      have hk1 := hkw k (by omega)
      obtain ⟨t1, t2⟩ := t
      refine ih (k + 1) _ (by omega) ?_
      unfold n_cs
      rcases hkk : kw k with _ | w
      · have ho : kb k 3 < 5 := hk1.mp hkk
        simp only
        cases t1 with
        | none =>
          simp only at h ⊢
          refine ⟨k, by omega, ho, rfl, rfl, fun j' h1 h2 => ?_⟩
          by_cases e : j' = k
          · subst e; right; exact ⟨rfl, Nat.le_refl _⟩
          · exact absurd h2 (h j' (by omega))
        | some c =>
          simp only at h ⊢
          obtain ⟨j, h1, h2, h3, h4, h5⟩ := h
          by_cases hlt : kb k 2 < t2 ∨ (kb k 2 = t2 ∧ kb k 0 < c)
          · rw [if_pos hlt]
            refine ⟨k, by omega, ho, rfl, rfl, fun j' g1 g2 => ?_⟩
            by_cases e : j' = k
            · subst e; right; exact ⟨rfl, Nat.le_refl _⟩
            · have := h5 j' (by omega) g2
              omega
          · rw [if_neg hlt]
            refine ⟨j, by omega, h2, h3, h4, fun j' g1 g2 => ?_⟩
            by_cases e : j' = k
            · subst e; omega
            · exact h5 j' (by omega) g2
      · have ho : ¬ kb k 3 < 5 := fun z => by rw [hk1.mpr z] at hkk; cases hkk
        simp only
        cases t1 with
        | none =>
          simp only at h ⊢
          intro j hj
          by_cases e : j = k
          · subst e; exact ho
          · exact h j (by omega)
        | some c =>
          simp only at h ⊢
          obtain ⟨j, h1, h2, h3, h4, h5⟩ := h
          refine ⟨j, by omega, h2, h3, h4, fun j' g1 g2 => ?_⟩
          by_cases e : j' = k
          · subst e; exact absurd g2 ho
          · exact h5 j' (by omega) g2
  exact key nk 0 (none, 0) (by omega) (fun j hj => absurd hj (Nat.not_lt_zero j))
theorem n_co_none {kb : Nat → Nat → Nat} {c : Nat} : ∀ {m k : Nat}, n_co kb c m k = none → ∀ j, k ≤ j → j < k + m → ¬ (kb j 0 = c ∧ kb j 3 < 5) := by
  intro m
  induction m with
  | zero => intro k _ j h1 h2; omega
  | succ m ih =>
    intro k h j h1 h2
    rw [n_co_s] at h
    split at h
    · cases h
    · rename_i hn
      by_cases e : j = k
      · subst e; exact hn
      · exact ih h j (by omega) (by omega)
theorem n_fc_fi {kb : Nat → Nat → Nat} {nk nc : Nat} (hk0 : ∀ k, k < nk → kb k 0 < nc) (hu : ∀ k k', k < nk → k' < nk → kb k 3 < 5 → kb k' 3 < 5 → kb k 0 = kb k' 0 → k = k') : n_fi kb nk (n_fc kb nk nc 0 none) := by
  have key : ∀ (m c : Nat) (o : Option Nat), c + m = nc → (match o with | none => ∀ j, j < nk → kb j 0 < c → ¬ kb j 3 < 5 | some f => ∃ j, j < nk ∧ kb j 3 < 5 ∧ kb j 0 = f ∧ f < c ∧ ∀ j', j' < nk → kb j' 0 < c → kb j' 3 < 5 → kb j 2 < kb j' 2 ∨ (kb j 2 = kb j' 2 ∧ f ≤ kb j' 0)) → n_fi kb nk (n_fc kb nk m c o) := by
    intro m
    induction m with
    | zero =>
      intro c o hc h
      have e : c = nc := by omega
      subst e
      show n_fi kb nk o
      cases o with
      | none => exact fun k hk => h k hk (hk0 k hk)
      | some f =>
        obtain ⟨j, h1, h2, h3, h4, h5⟩ := h
        exact ⟨j, h1, h2, h3, fun k' g1 g2 => h5 k' g1 (hk0 k' g1) g2⟩
    | succ m ih =>
      intro c o hc h
      rw [n_fc_s]
      refine ih (c + 1) _ (by omega) ?_
      unfold n_fs
      rcases hk : n_co kb c nk 0 with _ | k
      · have hno := n_co_none hk
        simp only
        cases o with
        | none =>
          simp only at h ⊢
          intro j hj hjc ho
          by_cases e : kb j 0 = c
          · exact hno j (Nat.zero_le j) (by omega) ⟨e, ho⟩
          · exact h j hj (by omega) ho
        | some f =>
          simp only at h ⊢
          obtain ⟨j, h1, h2, h3, h4, h5⟩ := h
          refine ⟨j, h1, h2, h3, by omega, fun j' g1 g2 g3 => ?_⟩
          by_cases e : kb j' 0 = c
          · exact absurd ⟨e, g3⟩ (hno j' (Nat.zero_le j') (by omega))
          · exact h5 j' g1 (by omega) g3
      · obtain ⟨_, k2, k3, k4⟩ := n_co_lt hk
        have hkn : k < nk := by omega
        simp only
        cases o with
        | none =>
          simp only at h ⊢
          refine ⟨k, hkn, k4, k3, by omega, fun j' g1 g2 g3 => ?_⟩
          by_cases e : kb j' 0 = c
          · have := hu k j' hkn g1 k4 g3 (by omega)
            subst this
            right
            exact ⟨rfl, by omega⟩
          · exact absurd g3 (h j' g1 (by omega))
        | some f =>
          simp only at h ⊢
          obtain ⟨j, h1, h2, h3, h4, h5⟩ := h
          rcases hkf : n_co kb f nk 0 with _ | kf
          · exact absurd ⟨h3, h2⟩ (n_co_none hkf j (Nat.zero_le j) (by omega))
          · obtain ⟨_, q2, q3, q4⟩ := n_co_lt hkf
            have ej := hu j kf h1 (by omega) h2 q4 (by omega)
            subst ej
            simp only
            by_cases hlt : kb k 2 < kb j 2
            · rw [if_pos hlt]
              refine ⟨k, hkn, k4, k3, by omega, fun j' g1 g2 g3 => ?_⟩
              by_cases e : kb j' 0 = c
              · have := hu k j' hkn g1 k4 g3 (by omega)
                subst this
                right
                exact ⟨rfl, by omega⟩
              · have := h5 j' g1 (by omega) g3
                omega
            · rw [if_neg hlt]
              refine ⟨j, h1, h2, h3, by omega, fun j' g1 g2 g3 => ?_⟩
              by_cases e : kb j' 0 = c
              · have := hu k j' hkn g1 k4 g3 (by omega)
                subst this
                omega
              · exact h5 j' g1 (by omega) g3
  exact key nc 0 none (by omega) (fun j _ h _ => absurd h (Nat.not_lt_zero _))
def x_A (t : (Nat → Int32) × Int32) (ar : Nat → Nat → Int32) : Prop := (∀ j, j < 6 → ar 114 j = t.1 j) ∧ ar 114 6 = t.2
theorem x_O_u {nc : Nat} {cb ow : Nat → Nat → Nat} {ar : Nat → Nat → Int32} {row : Nat → Int32} (h : x_O nc cb ow ar) : x_O nc cb ow (m_uf ar 114 row) := fun c hc => by
  obtain ⟨h1, h2, h3, h4⟩ := h c hc
  exact ⟨h1, h2, h3, fun j hj => by rw [m_uf_ne (by omega)]; exact h4 j hj⟩
theorem e_mcredits (d : Nat) {n nc nk nd i : Nat} {wy : Nat → Option Nat} {kb cb db ow : Nat → Nat → Nat} {t : (Nat → Int32) × Int32} {ar : Nat → Nat → Int32} {rq : Nat → Nat → Option Nat} {ou : Nat → Int64} {dy : Nat → m_C} (hnc : nc ≤ 10) (hnk : nk ≤ 16) (hnd : nd ≤ 10) (hC : x_C nc cb ar) (hK : x_K nk kb ar) (hD : x_D nd db ar) (hO : x_O nc cb ow ar) (hA : x_A t ar) (hbl : ∀ c, n_fc kb nk nc 0 none = some c → c < nc) (hi : i < nd) (hw : wy i = none) :
    ∃ S', m_Ev m_cds m_my (d + 3) 92 [.ref 94, .int (nI i)] (n, m_hp ar rq ou dy) (.inl none) S' ∧ ∃ row : Nat → Int32, S' = (n, m_hp (m_uf ar 114 row) rq ou dy) ∧ x_A (n_ps (n_fc kb nk nc 0 none) wy cb db ow i t) (m_uf ar 114 row) := by
  refine m_goV my_X7_credits cs_X7_credits mm_X7_credits xm_X7_credits (Nat.le_of_ble_eq_true rfl) rfl ?_
  obtain ⟨D1, D2, D3, D4, D5, D6, D7, D8, D9⟩ := hD.2 i hi
  have hi10 : i < 10 := by omega
  have hd7 : db i 0 < 7 := by omega
  have h5 : (5 : Int32) * nI (db i 3) = nI (5 * db i 3) := v_mul 5 _
  simp (disch := omega) only [mt_X7_credits, st_X7_credits_0, st_X7_credits_1, st_X7_credits_2, st_X7_credits_5, st_X7_credits_6, st_X7_credits_7, st_X7_credits_8, st_X7_credits_9, st_X7_credits_10, st_X7_credits_13, st_X7_credits_14, st_X7_credits_17, st_X7_credits_18, st_X7_credits_19, st_X7_credits_20, st_X7_credits_21, st_X7_credits_22, st_X7_credits_23, st_X7_credits_24, st_X7_credits_25, o_iload, o_aload, o_const, o_lconst, o_istore, o_astore, o_iinc, o_dup, o_dup2, o_pop, o_bin, o_div, o_un, o_mbin, o_mun, o_i2l, o_lcmp, o_ifeq, o_ifne, o_iflt, o_ifge, o_ifgt, o_ifle, o_icmpeq, o_icmpne, o_icmplt, o_icmpge, o_icmpgt, o_icmple, o_goto, o_getf, o_puti, o_putz, o_putr, o_iald, o_iast, o_zast, o_lald, o_last, o_aald, o_aast, o_alenO, o_new, o_newi, o_newl, o_newq, o_newqd, o_mna, o_copy, o_drop, o_cast, o_call, o_callx, o_callv, o_callvx, o_callh, o_sald, o_slen, o_switch, m_rcv, o_ireturn, o_zreturn, o_areturn, o_return, o_throw, o_null, o_dupx1, o_de, m_ent, List.getElem?_cons_zero, List.getElem?_cons_succ, List.getElem?_nil, List.set_cons_zero, List.set_cons_succ, List.length_cons, List.length_nil, List.map_cons, List.map_nil, List.replicate_succ, List.replicate_zero, List.take_succ_cons, List.take_zero, List.drop_succ_cons, List.drop_zero, List.reverse_cons, List.reverse_nil, List.cons_append, List.nil_append, List.append_nil, Option.toList_some, Option.toList_none, Nat.reduceAdd, Nat.reduceSub, Nat.reduceLeDiff, Nat.reduceLT, Nat.reduceEqDiff, Nat.le_refl, Nat.zero_le, Nat.zero_add, Nat.sub_zero, true_and, and_true, false_and, and_false, if_true, if_false, ite_true, ite_false, reduceIte, or_true, true_or, Option.isSome_some, not_true_eq_false, not_false_eq_true, forall_const, true_implies, false_implies, implies_true, ne_eq, m_gI_I, m_gJ_J, m_gQ_Q, m_gO_O, m_hp_94, m_fM_len, m_fM_0, m_fM_1, m_fM_2, m_fM_3, m_fM_4, m_fM_5, m_fM_6, m_fM_7, m_fM_8, m_fM_9, m_fM_10, m_fM_11, m_fM_12, m_fM_13, m_fM_14, m_fM_15, m_fM_16, m_fM_17, m_fM_18, m_fM_19, m_fM_20, m_fM_21, m_fM_22, m_fM_23, m_fM_24, m_fM_25, m_fM_26, m_fM_27, m_fM_28, m_fM_29, m_fM_30, m_fM_31, m_fM_32, m_fM_33, m_fM_34, m_fM_35, m_fM_s0, m_fM_s1, m_fM_s5, m_fM_s12, m_fM_s17, m_fM_s22, m_fM_s23, m_fM_s27, m_fM_s32, m_fM_s33, m_fM_s34, m_fM_s35, m_hp_101, m_hp_98, m_hp_114, m_up_114, v_in, v_cl, D4, D1, h5]
  have hrow : ∀ j, j < 6 → upd (ar 114) (db i 0) (ar 114 (db i 0) + nI (5 * db i 3)) j = upd t.1 (db i 0) (t.1 (db i 0) + nI (5 * db i 3)) j := by
    intro j hj
    by_cases e : j = db i 0
    · rw [upd, if_pos e, upd, if_pos e, hA.1 _ D5]
    · rw [upd, if_neg e, upd, if_neg e, hA.1 j hj]
  have hrow6 : upd (ar 114) (db i 0) (ar 114 (db i 0) + nI (5 * db i 3)) 6 = t.2 := by rw [upd, if_neg (by omega)]; exact hA.2
  have hCx : x_C nc cb (m_uf ar 114 (upd (ar 114) (db i 0) (ar 114 (db i 0) + nI (5 * db i 3)))) := ⟨by rw [m_uf_ne (by omega)]; exact hC.1, fun c hc => by rw [m_uf_ne (by omega), m_uf_ne (by omega)]; exact hC.2 c hc⟩
  have hKx : x_K nk kb (m_uf ar 114 (upd (ar 114) (db i 0) (ar 114 (db i 0) + nI (5 * db i 3)))) := ⟨by rw [m_uf_ne (by omega)]; exact hK.1, fun c hc => by rw [m_uf_ne (by omega), m_uf_ne (by omega), m_uf_ne (by omega), m_uf_ne (by omega)]; exact hK.2 c hc⟩
  refine ⟨_, _, e_mfirstCut d hnc hnk hCx hKx, ?_⟩
  have hps : n_ps (n_fc kb nk nc 0 none) wy cb db ow i t = match n_fc kb nk nc 0 none with
    | none => (upd t.1 (db i 0) (t.1 (db i 0) + nI (5 * db i 3)), t.2 - nI (5 * db i 3))
    | some c => (n_ch (ow c) (cb c 2) (5 * db i 3) (upd t.1 (db i 0) (t.1 (db i 0) + nI (5 * db i 3))), t.2) := by
    unfold n_ps
    rw [hw]
    rfl
  rw [hps]
  rcases hb : n_fc kb nk nc 0 none with _ | c
  · have hm1 : (n_w none = -1) = True := eq_true rfl
    have h6 : vp_in (6 : Int32) 7 := vp_in_nI (n := 6) (by omega) (by omega)
    simp (disch := omega) only [st_X7_credits_28, st_X7_credits_29, st_X7_credits_30, st_X7_credits_31, st_X7_credits_34, st_X7_credits_35, st_X7_credits_38, st_X7_credits_40, st_X7_credits_41, st_X7_credits_42, st_X7_credits_43, st_X7_credits_44, st_X7_credits_45, st_X7_credits_48, st_X7_credits_49, st_X7_credits_50, st_X7_credits_51, st_X7_credits_54, o_iload, o_aload, o_const, o_lconst, o_istore, o_astore, o_iinc, o_dup, o_dup2, o_pop, o_bin, o_div, o_un, o_mbin, o_mun, o_i2l, o_lcmp, o_ifeq, o_ifne, o_iflt, o_ifge, o_ifgt, o_ifle, o_icmpeq, o_icmpne, o_icmplt, o_icmpge, o_icmpgt, o_icmple, o_goto, o_getf, o_puti, o_putz, o_putr, o_iald, o_iast, o_zast, o_lald, o_last, o_aald, o_aast, o_alenO, o_new, o_newi, o_newl, o_newq, o_newqd, o_mna, o_copy, o_drop, o_cast, o_call, o_callx, o_callv, o_callvx, o_callh, o_sald, o_slen, o_switch, m_rcv, o_ireturn, o_zreturn, o_areturn, o_return, o_throw, o_null, o_dupx1, o_de, m_ent, List.getElem?_cons_zero, List.getElem?_cons_succ, List.getElem?_nil, List.set_cons_zero, List.set_cons_succ, List.length_cons, List.length_nil, List.map_cons, List.map_nil, List.replicate_succ, List.replicate_zero, List.take_succ_cons, List.take_zero, List.drop_succ_cons, List.drop_zero, List.reverse_cons, List.reverse_nil, List.cons_append, List.nil_append, List.append_nil, Option.toList_some, Option.toList_none, Nat.reduceAdd, Nat.reduceSub, Nat.reduceLeDiff, Nat.reduceLT, Nat.reduceEqDiff, Nat.le_refl, Nat.zero_le, Nat.zero_add, Nat.sub_zero, true_and, and_true, false_and, and_false, if_true, if_false, ite_true, ite_false, reduceIte, or_true, true_or, Option.isSome_some, not_true_eq_false, not_false_eq_true, forall_const, true_implies, false_implies, implies_true, ne_eq, m_gI_I, m_gJ_J, m_gQ_Q, m_gO_O, hm1, m_hp_94, m_fM_len, m_fM_0, m_fM_1, m_fM_2, m_fM_3, m_fM_4, m_fM_5, m_fM_6, m_fM_7, m_fM_8, m_fM_9, m_fM_10, m_fM_11, m_fM_12, m_fM_13, m_fM_14, m_fM_15, m_fM_16, m_fM_17, m_fM_18, m_fM_19, m_fM_20, m_fM_21, m_fM_22, m_fM_23, m_fM_24, m_fM_25, m_fM_26, m_fM_27, m_fM_28, m_fM_29, m_fM_30, m_fM_31, m_fM_32, m_fM_33, m_fM_34, m_fM_35, m_fM_s0, m_fM_s1, m_fM_s5, m_fM_s12, m_fM_s17, m_fM_s22, m_fM_s23, m_fM_s27, m_fM_s32, m_fM_s33, m_fM_s34, m_fM_s35, m_hp_114, m_up_114, h6, v_c6, m_uf_eq, m_uf_uu, hrow6]
    refine ⟨_, rfl, fun j hj => ?_, ?_⟩
    · rw [m_uf_eq, upd, if_neg (by omega)]
      exact hrow j hj
    · rw [m_uf_eq, upd, if_pos rfl]
  · have hc := hbl c hb
    have hm1 : (nI c = -1) = False := n_neg (by omega)
    simp (disch := omega) only [st_X7_credits_28, st_X7_credits_29, st_X7_credits_30, st_X7_credits_31, st_X7_credits_34, st_X7_credits_35, st_X7_credits_38, st_X7_credits_40, st_X7_credits_41, st_X7_credits_42, st_X7_credits_43, st_X7_credits_44, st_X7_credits_45, st_X7_credits_48, st_X7_credits_49, st_X7_credits_50, st_X7_credits_51, o_iload, o_aload, o_const, o_lconst, o_istore, o_astore, o_iinc, o_dup, o_dup2, o_pop, o_bin, o_div, o_un, o_mbin, o_mun, o_i2l, o_lcmp, o_ifeq, o_ifne, o_iflt, o_ifge, o_ifgt, o_ifle, o_icmpeq, o_icmpne, o_icmplt, o_icmpge, o_icmpgt, o_icmple, o_goto, o_getf, o_puti, o_putz, o_putr, o_iald, o_iast, o_zast, o_lald, o_last, o_aald, o_aast, o_alenO, o_new, o_newi, o_newl, o_newq, o_newqd, o_mna, o_copy, o_drop, o_cast, o_call, o_callx, o_callv, o_callvx, o_callh, o_sald, o_slen, o_switch, m_rcv, o_ireturn, o_zreturn, o_areturn, o_return, o_throw, o_null, o_dupx1, o_de, m_ent, List.getElem?_cons_zero, List.getElem?_cons_succ, List.getElem?_nil, List.set_cons_zero, List.set_cons_succ, List.length_cons, List.length_nil, List.map_cons, List.map_nil, List.replicate_succ, List.replicate_zero, List.take_succ_cons, List.take_zero, List.drop_succ_cons, List.drop_zero, List.reverse_cons, List.reverse_nil, List.cons_append, List.nil_append, List.append_nil, Option.toList_some, Option.toList_none, Nat.reduceAdd, Nat.reduceSub, Nat.reduceLeDiff, Nat.reduceLT, Nat.reduceEqDiff, Nat.le_refl, Nat.zero_le, Nat.zero_add, Nat.sub_zero, true_and, and_true, false_and, and_false, if_true, if_false, ite_true, ite_false, reduceIte, or_true, true_or, Option.isSome_some, not_true_eq_false, not_false_eq_true, forall_const, true_implies, false_implies, implies_true, ne_eq, m_gI_I, m_gJ_J, m_gQ_Q, m_gO_O, n_ws, hm1, m_hp_94]
    obtain ⟨S', hE, row, rfl, r1, r2⟩ := e_mpays (d + 1) (n := n) (rq := rq) (ou := ou) (dy := dy) (acc := upd t.1 (db i 0) (t.1 (db i 0) + nI (5 * db i 3))) hnc (x_O_u (row := upd (ar 114) (db i 0) (ar 114 (db i 0) + nI (5 * db i 3))) hO) hc (show 5 * db i 3 ≤ 20 by omega) (fun j hj => by rw [m_uf_eq]; exact hrow j hj)
    refine ⟨_, _, hE, ?_⟩
    simp (disch := omega) only [st_X7_credits_54, o_iload, o_aload, o_const, o_lconst, o_istore, o_astore, o_iinc, o_dup, o_dup2, o_pop, o_bin, o_div, o_un, o_mbin, o_mun, o_i2l, o_lcmp, o_ifeq, o_ifne, o_iflt, o_ifge, o_ifgt, o_ifle, o_icmpeq, o_icmpne, o_icmplt, o_icmpge, o_icmpgt, o_icmple, o_goto, o_getf, o_puti, o_putz, o_putr, o_iald, o_iast, o_zast, o_lald, o_last, o_aald, o_aast, o_alenO, o_new, o_newi, o_newl, o_newq, o_newqd, o_mna, o_copy, o_drop, o_cast, o_call, o_callx, o_callv, o_callvx, o_callh, o_sald, o_slen, o_switch, m_rcv, o_ireturn, o_zreturn, o_areturn, o_return, o_throw, o_null, o_dupx1, o_de, m_ent, List.getElem?_cons_zero, List.getElem?_cons_succ, List.getElem?_nil, List.set_cons_zero, List.set_cons_succ, List.length_cons, List.length_nil, List.map_cons, List.map_nil, List.replicate_succ, List.replicate_zero, List.take_succ_cons, List.take_zero, List.drop_succ_cons, List.drop_zero, List.reverse_cons, List.reverse_nil, List.cons_append, List.nil_append, List.append_nil, Option.toList_some, Option.toList_none, Nat.reduceAdd, Nat.reduceSub, Nat.reduceLeDiff, Nat.reduceLT, Nat.reduceEqDiff, Nat.le_refl, Nat.zero_le, Nat.zero_add, Nat.sub_zero, true_and, and_true, false_and, and_false, if_true, if_false, ite_true, ite_false, reduceIte, or_true, true_or, Option.isSome_some, not_true_eq_false, not_false_eq_true, forall_const, true_implies, false_implies, implies_true, ne_eq, m_gI_I, m_gJ_J, m_gQ_Q, m_gO_O]
    refine ⟨row, by rw [m_uf_uu], fun j hj => by rw [m_uf_eq]; exact r1 j hj, ?_⟩
    rw [m_uf_eq, r2, m_uf_eq]
    exact hrow6
