/-! the model: takes -/
theorem lp_mtk {d : Nat} {n nc c dm ds : Nat} {x4 : Option Value} {r : m_R → m_S → Prop} {bd : Nat × Nat} {cb fr : Nat → Nat → Nat} {ar : Nat → Nat → Int32} {rq : Nat → Nat → Option Nat} {ou : Nat → Int64} {dy : Nat → m_C} (hnc : nc ≤ 10) (hC : x_C nc cb ar) (hc : c < nc) (hdm : dm < 6) (hds : ds ≤ 100) (hf8 : ∀ c, c < nc → ∀ j, j < 6 → fr c j ≤ 100) :
    ∀ (m k : Nat), k + m = 6 → ∀ (ar1 : Nat → Nat → Int32) (x7 : Option Value), (∀ c', c' < nc → ∀ j, j < 6 → ar1 115 (6 * c' + j) = nI (if c' = c then (if j = dm then fr c dm - min (fr c dm) ds else if j < k then fr c j - n_tk (fr c) dm ds j else fr c j) else fr c' j)) → (∀ i, i < 6 → ∀ j, j < 6 → ar1 112 (6 * i + j) = if i = dm ∧ j < k then ar 112 (6 * i + j) + nI (n_tk (fr c) dm ds j * cb c 5) else ar 112 (6 * i + j)) → (∀ x, x ≠ 112 → x ≠ 115 → ar1 x = ar x) →
      (∀ (ar2 : Nat → Nat → Int32), x_F nc (fun c' j => if c' = c then n_ff (fr c) dm ds j else fr c' j) ar2 → (∀ i, i < 6 → ∀ j, j < 6 → ar2 112 (6 * i + j) = if i = dm then ar 112 (6 * i + j) + nI (n_tk (fr c) dm ds j * cb c 5) else ar 112 (6 * i + j)) → (∀ x, x ≠ 112 → x ≠ 115 → ar2 x = ar x) → r (.inl none) (n, m_hp ar2 rq ou dy)) →
      m_W1 (m_lk cd_X7_takes) (m_Ev m_cds m_my (d + 1)) r 50 [some (.ref 94), some (.int (nI c)), some (.int (nI dm)), some (.int (nI ds)), x4, some (.int (nI (n_lf (fr c) dm ds k))), some (.int (nI k)), x7] [] bd (n, m_hp ar1 rq ou dy) := by
  intro m
  induction m with
  | zero =>
    intro k hk ar1 x7 hf hL h1 h
    have e : k = 6 := by omega
    subst e
    rw [st_X7_takes_50]
    simp (disch := omega) only [st_X7_takes_52, st_X7_takes_54, st_X7_takes_152, o_iload, o_aload, o_const, o_lconst, o_istore, o_astore, o_iinc, o_dup, o_dup2, o_pop, o_bin, o_div, o_un, o_mbin, o_mun, o_i2l, o_lcmp, o_ifeq, o_ifne, o_iflt, o_ifge, o_ifgt, o_ifle, o_icmpeq, o_icmpne, o_icmplt, o_icmpge, o_icmpgt, o_icmple, o_goto, o_getf, o_puti, o_putz, o_putr, o_iald, o_iast, o_zast, o_lald, o_last, o_aald, o_aast, o_alenO, o_new, o_newi, o_newl, o_newq, o_newqd, o_mna, o_copy, o_drop, o_cast, o_call, o_callx, o_callv, o_callvx, o_callh, o_sald, o_slen, o_switch, m_rcv, o_ireturn, o_zreturn, o_areturn, o_return, o_throw, o_null, o_dupx1, o_de, m_ent, List.getElem?_cons_zero, List.getElem?_cons_succ, List.getElem?_nil, List.set_cons_zero, List.set_cons_succ, List.length_cons, List.length_nil, List.map_cons, List.map_nil, List.replicate_succ, List.replicate_zero, List.take_succ_cons, List.take_zero, List.drop_succ_cons, List.drop_zero, List.reverse_cons, List.reverse_nil, List.cons_append, List.nil_append, List.append_nil, Option.toList_some, Option.toList_none, Nat.reduceAdd, Nat.reduceSub, Nat.reduceLeDiff, Nat.reduceLT, Nat.reduceEqDiff, Nat.le_refl, Nat.zero_le, Nat.zero_add, Nat.sub_zero, true_and, and_true, false_and, and_false, if_true, if_false, ite_true, ite_false, reduceIte, or_true, true_or, Option.isSome_some, not_true_eq_false, not_false_eq_true, forall_const, true_implies, false_implies, implies_true, ne_eq, m_gI_I, m_gJ_J, m_gQ_Q, m_gO_O]
    refine ⟨fun z => absurd z (i_nlt' (Nat.le_refl 6)), fun _ => h ar1 (fun c' hc' j hj => ?_) (fun i hi j hj => ?_) h1⟩
    · show _ = nI (if c' = c then n_ff (fr c) dm ds j else fr c' j)
      rw [hf c' hc' j hj]
      by_cases e : c' = c
      · rw [if_pos e, if_pos e]
        unfold n_ff
        by_cases e2 : j = dm
        · rw [if_pos e2, if_pos e2]
        · rw [if_neg e2, if_neg e2, if_pos hj]
      · rw [if_neg e, if_neg e]
    · rw [hL i hi j hj]
      by_cases e : i = dm
      · rw [if_pos ⟨e, hj⟩, if_pos e]
      · rw [if_neg (fun z => e z.1), if_neg e]
  | succ m ih =>
    intro k hk ar1 x7 hf hL h1 h
    have hk6 : k < 6 := by omega
    have h6 : nI k < 6 := i_lt hk6
    have hkd : (nI k = nI dm) = (k = dm) := propext (nI_eq (by omega) (by omega))
    have hlf := n_lf_le (fr := fr c) (dm := dm) (ds := ds) k
    rw [st_X7_takes_50]
    by_cases hkm : k = dm
    · have hkdT : (nI k = nI dm) = True := by rw [hkd]; exact eq_true hkm
      have e0 : n_tk (fr c) dm ds k = 0 := by unfold n_tk; rw [if_pos hkm]
      have e1 : n_lf (fr c) dm ds (k + 1) = n_lf (fr c) dm ds k := by rw [n_lf_s, e0, Nat.sub_zero]
      simp (disch := omega) only [st_X7_takes_52, st_X7_takes_54, st_X7_takes_57, st_X7_takes_59, st_X7_takes_60, st_X7_takes_146, st_X7_takes_149, o_iload, o_aload, o_const, o_lconst, o_istore, o_astore, o_iinc, o_dup, o_dup2, o_pop, o_bin, o_div, o_un, o_mbin, o_mun, o_i2l, o_lcmp, o_ifeq, o_ifne, o_iflt, o_ifge, o_ifgt, o_ifle, o_icmpeq, o_icmpne, o_icmplt, o_icmpge, o_icmpgt, o_icmple, o_goto, o_getf, o_puti, o_putz, o_putr, o_iald, o_iast, o_zast, o_lald, o_last, o_aald, o_aast, o_alenO, o_new, o_newi, o_newl, o_newq, o_newqd, o_mna, o_copy, o_drop, o_cast, o_call, o_callx, o_callv, o_callvx, o_callh, o_sald, o_slen, o_switch, m_rcv, o_ireturn, o_zreturn, o_areturn, o_return, o_throw, o_null, o_dupx1, o_de, m_ent, List.getElem?_cons_zero, List.getElem?_cons_succ, List.getElem?_nil, List.set_cons_zero, List.set_cons_succ, List.length_cons, List.length_nil, List.map_cons, List.map_nil, List.replicate_succ, List.replicate_zero, List.take_succ_cons, List.take_zero, List.drop_succ_cons, List.drop_zero, List.reverse_cons, List.reverse_nil, List.cons_append, List.nil_append, List.append_nil, Option.toList_some, Option.toList_none, Nat.reduceAdd, Nat.reduceSub, Nat.reduceLeDiff, Nat.reduceLT, Nat.reduceEqDiff, Nat.le_refl, Nat.zero_le, Nat.zero_add, Nat.sub_zero, true_and, and_true, false_and, and_false, if_true, if_false, ite_true, ite_false, reduceIte, or_true, true_or, Option.isSome_some, not_true_eq_false, not_false_eq_true, forall_const, true_implies, false_implies, implies_true, ne_eq, m_gI_I, m_gJ_J, m_gQ_Q, m_gO_O, h6, hkdT, nI_1]
      rw [← e1]
      refine ih (k + 1) (by omega) ar1 x7 (fun c' hc' j hj => ?_) (fun i hi j hj => ?_) h1 h
      · rw [hf c' hc' j hj]
        by_cases e : c' = c
        · rw [if_pos e, if_pos e]
          by_cases e2 : j = dm
          · rw [if_pos e2, if_pos e2]
          · rw [if_neg e2, if_neg e2]
            by_cases e3 : j < k
            · rw [if_pos e3, if_pos (by omega)]
            · rw [if_neg e3, if_neg (by omega)]
        · rw [if_neg e, if_neg e]
      · rw [hL i hi j hj]
        by_cases e : i = dm ∧ j < k
        · rw [if_pos e, if_pos ⟨e.1, by omega⟩]
        · rw [if_neg e]
          by_cases e2 : i = dm ∧ j < k + 1
          · have e3 : j = k := by omega
            rw [if_pos e2, e3, e0, Nat.zero_mul]
            exact (Int32.add_zero _).symm
          · rw [if_neg e2]
    · have hcm : (6 : Int32) * nI c = nI (6 * c) := v_mul 6 c
      have hdmm : (6 : Int32) * nI dm = nI (6 * dm) := v_mul 6 dm
      have hfk : ar1 115 (6 * c + k) = nI (fr c k) := by rw [hf c hc k hk6, if_pos rfl, if_neg hkm, if_neg (Nat.lt_irrefl k)]
      have hf1 := hf8 c hc k hk6
      have z1 : (nI (fr c k) < nI (n_lf (fr c) dm ds k)) = (fr c k < n_lf (fr c) dm ds k) := propext (nI_ltI (by omega) (by omega))
      have htk : n_tk (fr c) dm ds k = min (fr c k) (n_lf (fr c) dm ds k) := by unfold n_tk; rw [if_neg hkm]
      have hLk : ar1 112 (6 * dm + k) = ar 112 (6 * dm + k) := by rw [hL dm hdm k hk6, if_neg (fun z => Nat.lt_irrefl k z.2)]
      obtain ⟨c1, c2, c3, c4, c5⟩ := hC.2 c hc
      have key : m_W1 (m_lk cd_X7_takes) (m_Ev m_cds m_my (d + 1)) r 97 [some (.ref 94), some (.int (nI c)), some (.int (nI dm)), some (.int (nI ds)), x4, some (.int (nI (n_lf (fr c) dm ds k))), some (.int (nI k)), x7] [.int (nI (n_tk (fr c) dm ds k))] bd (n, m_hp ar1 rq ou dy) := by
        have t1 : n_tk (fr c) dm ds k ≤ fr c k := by rw [htk]; exact Nat.min_le_left _ _
        have t2 : n_tk (fr c) dm ds k ≤ n_lf (fr c) dm ds k := by rw [htk]; exact Nat.min_le_right _ _
        simp (disch := omega) only [st_X7_takes_97, st_X7_takes_99, st_X7_takes_100, st_X7_takes_103, st_X7_takes_105, st_X7_takes_106, st_X7_takes_107, st_X7_takes_109, st_X7_takes_110, st_X7_takes_111, st_X7_takes_112, st_X7_takes_114, st_X7_takes_115, st_X7_takes_116, st_X7_takes_117, st_X7_takes_120, st_X7_takes_122, st_X7_takes_123, st_X7_takes_124, st_X7_takes_126, st_X7_takes_127, st_X7_takes_128, st_X7_takes_129, st_X7_takes_131, st_X7_takes_132, st_X7_takes_133, o_iload, o_aload, o_const, o_lconst, o_istore, o_astore, o_iinc, o_dup, o_dup2, o_pop, o_bin, o_div, o_un, o_mbin, o_mun, o_i2l, o_lcmp, o_ifeq, o_ifne, o_iflt, o_ifge, o_ifgt, o_ifle, o_icmpeq, o_icmpne, o_icmplt, o_icmpge, o_icmpgt, o_icmple, o_goto, o_getf, o_puti, o_putz, o_putr, o_iald, o_iast, o_zast, o_lald, o_last, o_aald, o_aast, o_alenO, o_new, o_newi, o_newl, o_newq, o_newqd, o_mna, o_copy, o_drop, o_cast, o_call, o_callx, o_callv, o_callvx, o_callh, o_sald, o_slen, o_switch, m_rcv, o_ireturn, o_zreturn, o_areturn, o_return, o_throw, o_null, o_dupx1, o_de, m_ent, List.getElem?_cons_zero, List.getElem?_cons_succ, List.getElem?_nil, List.set_cons_zero, List.set_cons_succ, List.length_cons, List.length_nil, List.map_cons, List.map_nil, List.replicate_succ, List.replicate_zero, List.take_succ_cons, List.take_zero, List.drop_succ_cons, List.drop_zero, List.reverse_cons, List.reverse_nil, List.cons_append, List.nil_append, List.append_nil, Option.toList_some, Option.toList_none, Nat.reduceAdd, Nat.reduceSub, Nat.reduceLeDiff, Nat.reduceLT, Nat.reduceEqDiff, Nat.le_refl, Nat.zero_le, Nat.zero_add, Nat.sub_zero, true_and, and_true, false_and, and_false, if_true, if_false, ite_true, ite_false, reduceIte, or_true, true_or, Option.isSome_some, not_true_eq_false, not_false_eq_true, forall_const, true_implies, false_implies, implies_true, ne_eq, m_gI_I, m_gJ_J, m_gQ_Q, m_gO_O, m_hp_94, m_fM_len, m_fM_0, m_fM_1, m_fM_2, m_fM_3, m_fM_4, m_fM_5, m_fM_6, m_fM_7, m_fM_8, m_fM_9, m_fM_10, m_fM_11, m_fM_12, m_fM_13, m_fM_14, m_fM_15, m_fM_16, m_fM_17, m_fM_18, m_fM_19, m_fM_20, m_fM_21, m_fM_22, m_fM_23, m_fM_24, m_fM_25, m_fM_26, m_fM_27, m_fM_28, m_fM_29, m_fM_30, m_fM_31, m_fM_32, m_fM_33, m_fM_34, m_fM_35, m_fM_s0, m_fM_s1, m_fM_s5, m_fM_s12, m_fM_s17, m_fM_s22, m_fM_s23, m_fM_s27, m_fM_s32, m_fM_s33, m_fM_s34, m_fM_s35, m_hp_115, m_up_115, m_hp_112, v_in, v_cl, hcm, hdmm, v_add, hfk, v_sub, m_uf_ne, hLk]
        refine ⟨_, _, e_mlength d (by omega) (by rw [m_uf_ne (by omega), h1 95 (by omega) (by omega)]; exact c1) (by rw [m_uf_ne (by omega), h1 96 (by omega) (by omega)]; exact c2) c3 c4, ?_⟩
        rw [← c5]
        simp (disch := omega) only [st_X7_takes_136, st_X7_takes_137, st_X7_takes_138, st_X7_takes_139, st_X7_takes_141, st_X7_takes_143, st_X7_takes_144, st_X7_takes_146, st_X7_takes_149, o_iload, o_aload, o_const, o_lconst, o_istore, o_astore, o_iinc, o_dup, o_dup2, o_pop, o_bin, o_div, o_un, o_mbin, o_mun, o_i2l, o_lcmp, o_ifeq, o_ifne, o_iflt, o_ifge, o_ifgt, o_ifle, o_icmpeq, o_icmpne, o_icmplt, o_icmpge, o_icmpgt, o_icmple, o_goto, o_getf, o_puti, o_putz, o_putr, o_iald, o_iast, o_zast, o_lald, o_last, o_aald, o_aast, o_alenO, o_new, o_newi, o_newl, o_newq, o_newqd, o_mna, o_copy, o_drop, o_cast, o_call, o_callx, o_callv, o_callvx, o_callh, o_sald, o_slen, o_switch, m_rcv, o_ireturn, o_zreturn, o_areturn, o_return, o_throw, o_null, o_dupx1, o_de, m_ent, List.getElem?_cons_zero, List.getElem?_cons_succ, List.getElem?_nil, List.set_cons_zero, List.set_cons_succ, List.length_cons, List.length_nil, List.map_cons, List.map_nil, List.replicate_succ, List.replicate_zero, List.take_succ_cons, List.take_zero, List.drop_succ_cons, List.drop_zero, List.reverse_cons, List.reverse_nil, List.cons_append, List.nil_append, List.append_nil, Option.toList_some, Option.toList_none, Nat.reduceAdd, Nat.reduceSub, Nat.reduceLeDiff, Nat.reduceLT, Nat.reduceEqDiff, Nat.le_refl, Nat.zero_le, Nat.zero_add, Nat.sub_zero, true_and, and_true, false_and, and_false, if_true, if_false, ite_true, ite_false, reduceIte, or_true, true_or, Option.isSome_some, not_true_eq_false, not_false_eq_true, forall_const, true_implies, false_implies, implies_true, ne_eq, m_gI_I, m_gJ_J, m_gQ_Q, m_gO_O, m_hp_94, m_fM_len, m_fM_0, m_fM_1, m_fM_2, m_fM_3, m_fM_4, m_fM_5, m_fM_6, m_fM_7, m_fM_8, m_fM_9, m_fM_10, m_fM_11, m_fM_12, m_fM_13, m_fM_14, m_fM_15, m_fM_16, m_fM_17, m_fM_18, m_fM_19, m_fM_20, m_fM_21, m_fM_22, m_fM_23, m_fM_24, m_fM_25, m_fM_26, m_fM_27, m_fM_28, m_fM_29, m_fM_30, m_fM_31, m_fM_32, m_fM_33, m_fM_34, m_fM_35, m_fM_s0, m_fM_s1, m_fM_s5, m_fM_s12, m_fM_s17, m_fM_s22, m_fM_s23, m_fM_s27, m_fM_s32, m_fM_s33, m_fM_s34, m_fM_s35, m_hp_112, m_up_112, v_in, v_cl, v_mul, v_sub, nI_1, m_uf_ne]
        rw [← n_lf_s]
        refine ih (k + 1) (by omega) _ _ (fun c' hc' j hj => ?_) (fun i hi j hj => ?_) (fun x a1 a2 => by rw [m_uf_ne a1, m_uf_ne a2]; exact h1 x a1 a2) h
        · rw [m_uf_ne (by omega), m_uf_eq]
          by_cases e : c' = c
          · subst e
            rw [if_pos rfl]
            by_cases e2 : j = k
            · subst e2
              rw [upd, if_pos rfl, if_neg hkm, if_pos (by omega)]
            · rw [upd, if_neg (by omega), hf c' hc' j hj, if_pos rfl]
              by_cases e3 : j = dm
              · rw [if_pos e3, if_pos e3]
              · rw [if_neg e3, if_neg e3]
                by_cases e4 : j < k
                · rw [if_pos e4, if_pos (by omega)]
                · rw [if_neg e4, if_neg (by omega)]
          · rw [upd, if_neg (by omega), hf c' hc' j hj, if_neg e, if_neg e]
        · rw [m_uf_eq]
          by_cases e : i = dm ∧ j = k
          · obtain ⟨rfl, rfl⟩ := e
            rw [upd, if_pos rfl, if_pos ⟨rfl, by omega⟩]
          · rw [upd, if_neg (by omega), hL i hi j hj]
            by_cases e2 : i = dm ∧ j < k
            · rw [if_pos e2, if_pos ⟨e2.1, by omega⟩]
            · rw [if_neg e2, if_neg (fun z => e2 ⟨z.1, by omega⟩)]
      simp (disch := omega) only [st_X7_takes_52, st_X7_takes_54, st_X7_takes_57, st_X7_takes_59, st_X7_takes_60, st_X7_takes_63, st_X7_takes_64, st_X7_takes_67, st_X7_takes_69, st_X7_takes_70, st_X7_takes_71, st_X7_takes_73, st_X7_takes_74, st_X7_takes_75, st_X7_takes_77, st_X7_takes_80, st_X7_takes_81, st_X7_takes_84, st_X7_takes_86, st_X7_takes_87, st_X7_takes_88, st_X7_takes_90, st_X7_takes_91, st_X7_takes_92, st_X7_takes_95, o_iload, o_aload, o_const, o_lconst, o_istore, o_astore, o_iinc, o_dup, o_dup2, o_pop, o_bin, o_div, o_un, o_mbin, o_mun, o_i2l, o_lcmp, o_ifeq, o_ifne, o_iflt, o_ifge, o_ifgt, o_ifle, o_icmpeq, o_icmpne, o_icmplt, o_icmpge, o_icmpgt, o_icmple, o_goto, o_getf, o_puti, o_putz, o_putr, o_iald, o_iast, o_zast, o_lald, o_last, o_aald, o_aast, o_alenO, o_new, o_newi, o_newl, o_newq, o_newqd, o_mna, o_copy, o_drop, o_cast, o_call, o_callx, o_callv, o_callvx, o_callh, o_sald, o_slen, o_switch, m_rcv, o_ireturn, o_zreturn, o_areturn, o_return, o_throw, o_null, o_dupx1, o_de, m_ent, List.getElem?_cons_zero, List.getElem?_cons_succ, List.getElem?_nil, List.set_cons_zero, List.set_cons_succ, List.length_cons, List.length_nil, List.map_cons, List.map_nil, List.replicate_succ, List.replicate_zero, List.take_succ_cons, List.take_zero, List.drop_succ_cons, List.drop_zero, List.reverse_cons, List.reverse_nil, List.cons_append, List.nil_append, List.append_nil, Option.toList_some, Option.toList_none, Nat.reduceAdd, Nat.reduceSub, Nat.reduceLeDiff, Nat.reduceLT, Nat.reduceEqDiff, Nat.le_refl, Nat.zero_le, Nat.zero_add, Nat.sub_zero, true_and, and_true, false_and, and_false, if_true, if_false, ite_true, ite_false, reduceIte, or_true, true_or, Option.isSome_some, not_true_eq_false, not_false_eq_true, forall_const, true_implies, false_implies, implies_true, ne_eq, m_gI_I, m_gJ_J, m_gQ_Q, m_gO_O, h6, hkd, hkm, m_hp_94, m_fM_len, m_fM_0, m_fM_1, m_fM_2, m_fM_3, m_fM_4, m_fM_5, m_fM_6, m_fM_7, m_fM_8, m_fM_9, m_fM_10, m_fM_11, m_fM_12, m_fM_13, m_fM_14, m_fM_15, m_fM_16, m_fM_17, m_fM_18, m_fM_19, m_fM_20, m_fM_21, m_fM_22, m_fM_23, m_fM_24, m_fM_25, m_fM_26, m_fM_27, m_fM_28, m_fM_29, m_fM_30, m_fM_31, m_fM_32, m_fM_33, m_fM_34, m_fM_35, m_fM_s0, m_fM_s1, m_fM_s5, m_fM_s12, m_fM_s17, m_fM_s22, m_fM_s23, m_fM_s27, m_fM_s32, m_fM_s33, m_fM_s34, m_fM_s35, m_hp_115, v_in, v_cl, hcm, v_add, hfk, z1]
      refine ⟨fun y => ?_, fun y => ?_⟩
      · have k1 := key
        rw [htk, Nat.min_eq_left (by omega)] at k1
        exact k1
      · have k1 := key
        rw [htk, Nat.min_eq_right (by omega)] at k1
        exact k1
theorem e_mtakes (d : Nat) {n nc c dm ds : Nat} {cb fr : Nat → Nat → Nat} {ar : Nat → Nat → Int32} {rq : Nat → Nat → Option Nat} {ou : Nat → Int64} {dy : Nat → m_C} (hnc : nc ≤ 10) (hC : x_C nc cb ar) (hF : x_F nc fr ar) (hc : c < nc) (hdm : dm < 6) (hds : ds ≤ 100) (hf8 : ∀ c, c < nc → ∀ j, j < 6 → fr c j ≤ 100) :
    ∃ S', m_Ev m_cds m_my (d + 2) 88 [.ref 94, .int (nI c), .int (nI dm), .int (nI ds)] (n, m_hp ar rq ou dy) (.inl none) S' ∧ ∃ ar' : Nat → Nat → Int32, S' = (n, m_hp ar' rq ou dy) ∧ x_F nc (fun c' j => if c' = c then n_ff (fr c) dm ds j else fr c' j) ar' ∧ (∀ i, i < 6 → ∀ j, j < 6 → ar' 112 (6 * i + j) = if i = dm then ar 112 (6 * i + j) + nI (n_tk (fr c) dm ds j * cb c 5) else ar 112 (6 * i + j)) ∧ (∀ x, x ≠ 112 → x ≠ 115 → ar' x = ar x) := by
  refine m_goV my_X7_takes cs_X7_takes mm_X7_takes xm_X7_takes (Nat.le_of_ble_eq_true rfl) rfl ?_
  have hcm : (6 : Int32) * nI c = nI (6 * c) := v_mul 6 c
  have hfd := hF c hc dm hdm
  have hf1 := hf8 c hc dm hdm
  have z1 : (nI (fr c dm) < nI ds) = (fr c dm < ds) := propext (nI_ltI (by omega) (by omega))
  have key : ∀ (bd : Nat × Nat), m_W1 (m_lk cd_X7_takes) (m_Ev m_cds m_my (d + 1)) (fun o2 S2 => o2 = Sum.inl none ∧ ∃ ar' : Nat → Nat → Int32, S2 = (n, m_hp ar' rq ou dy) ∧ x_F nc (fun c' j => if c' = c then n_ff (fr c) dm ds j else fr c' j) ar' ∧ (∀ i, i < 6 → ∀ j, j < 6 → ar' 112 (6 * i + j) = if i = dm then ar 112 (6 * i + j) + nI (n_tk (fr c) dm ds j * cb c 5) else ar 112 (6 * i + j)) ∧ (∀ x, x ≠ 112 → x ≠ 115 → ar' x = ar x)) 27 [some (.ref 94), some (.int (nI c)), some (.int (nI dm)), some (.int (nI ds)), some (.int (nI (fr c dm))), none, none, none] [.int (nI (ds - fr c dm))] bd (n, m_hp ar rq ou dy) := by
    intro bd
    have hle : ds - fr c dm ≤ ds := Nat.sub_le _ _
    have hle2 : ds - (ds - fr c dm) ≤ fr c dm := by omega
    simp (disch := omega) only [st_X7_takes_27, st_X7_takes_29, st_X7_takes_30, st_X7_takes_33, st_X7_takes_35, st_X7_takes_36, st_X7_takes_37, st_X7_takes_38, st_X7_takes_39, st_X7_takes_40, st_X7_takes_41, st_X7_takes_42, st_X7_takes_44, st_X7_takes_45, st_X7_takes_46, st_X7_takes_47, st_X7_takes_48, o_iload, o_aload, o_const, o_lconst, o_istore, o_astore, o_iinc, o_dup, o_dup2, o_pop, o_bin, o_div, o_un, o_mbin, o_mun, o_i2l, o_lcmp, o_ifeq, o_ifne, o_iflt, o_ifge, o_ifgt, o_ifle, o_icmpeq, o_icmpne, o_icmplt, o_icmpge, o_icmpgt, o_icmple, o_goto, o_getf, o_puti, o_putz, o_putr, o_iald, o_iast, o_zast, o_lald, o_last, o_aald, o_aast, o_alenO, o_new, o_newi, o_newl, o_newq, o_newqd, o_mna, o_copy, o_drop, o_cast, o_call, o_callx, o_callv, o_callvx, o_callh, o_sald, o_slen, o_switch, m_rcv, o_ireturn, o_zreturn, o_areturn, o_return, o_throw, o_null, o_dupx1, o_de, m_ent, List.getElem?_cons_zero, List.getElem?_cons_succ, List.getElem?_nil, List.set_cons_zero, List.set_cons_succ, List.length_cons, List.length_nil, List.map_cons, List.map_nil, List.replicate_succ, List.replicate_zero, List.take_succ_cons, List.take_zero, List.drop_succ_cons, List.drop_zero, List.reverse_cons, List.reverse_nil, List.cons_append, List.nil_append, List.append_nil, Option.toList_some, Option.toList_none, Nat.reduceAdd, Nat.reduceSub, Nat.reduceLeDiff, Nat.reduceLT, Nat.reduceEqDiff, Nat.le_refl, Nat.zero_le, Nat.zero_add, Nat.sub_zero, true_and, and_true, false_and, and_false, if_true, if_false, ite_true, ite_false, reduceIte, or_true, true_or, Option.isSome_some, not_true_eq_false, not_false_eq_true, forall_const, true_implies, false_implies, implies_true, ne_eq, m_gI_I, m_gJ_J, m_gQ_Q, m_gO_O, m_hp_94, m_fM_len, m_fM_0, m_fM_1, m_fM_2, m_fM_3, m_fM_4, m_fM_5, m_fM_6, m_fM_7, m_fM_8, m_fM_9, m_fM_10, m_fM_11, m_fM_12, m_fM_13, m_fM_14, m_fM_15, m_fM_16, m_fM_17, m_fM_18, m_fM_19, m_fM_20, m_fM_21, m_fM_22, m_fM_23, m_fM_24, m_fM_25, m_fM_26, m_fM_27, m_fM_28, m_fM_29, m_fM_30, m_fM_31, m_fM_32, m_fM_33, m_fM_34, m_fM_35, m_fM_s0, m_fM_s1, m_fM_s5, m_fM_s12, m_fM_s17, m_fM_s22, m_fM_s23, m_fM_s27, m_fM_s32, m_fM_s33, m_fM_s34, m_fM_s35, m_hp_115, m_up_115, v_in, v_cl, hcm, v_add, hfd, v_sub]
    refine lp_mtk (ar := ar) (fr := fr) hnc hC hc hdm hds hf8 6 0 rfl _ _ (fun c' hc' j hj => ?_) (fun i hi j hj => ?_) (fun x a1 a2 => m_uf_ne a2) (fun ar2 g1 g2 g3 => ⟨rfl, ar2, rfl, g1, g2, g3⟩)
    · rw [m_uf_eq]
      by_cases e : c' = c
      · subst e
        rw [if_pos rfl]
        by_cases e2 : j = dm
        · subst e2
          rw [upd, if_pos rfl, if_pos rfl, show ds - (ds - fr c' j) = min (fr c' j) ds by omega]
        · rw [upd, if_neg (by omega), if_neg e2, if_neg (Nat.not_lt_zero j)]
          exact hF c' hc' j hj
      · rw [upd, if_neg (by omega), if_neg e]
        exact hF c' hc' j hj
    · rw [m_uf_ne (by omega), if_neg (fun z => Nat.not_lt_zero j z.2)]
  simp (disch := omega) only [mt_X7_takes, st_X7_takes_0, st_X7_takes_1, st_X7_takes_4, st_X7_takes_6, st_X7_takes_7, st_X7_takes_8, st_X7_takes_9, st_X7_takes_10, st_X7_takes_11, st_X7_takes_13, st_X7_takes_15, st_X7_takes_16, st_X7_takes_19, st_X7_takes_20, st_X7_takes_22, st_X7_takes_23, st_X7_takes_26, o_iload, o_aload, o_const, o_lconst, o_istore, o_astore, o_iinc, o_dup, o_dup2, o_pop, o_bin, o_div, o_un, o_mbin, o_mun, o_i2l, o_lcmp, o_ifeq, o_ifne, o_iflt, o_ifge, o_ifgt, o_ifle, o_icmpeq, o_icmpne, o_icmplt, o_icmpge, o_icmpgt, o_icmple, o_goto, o_getf, o_puti, o_putz, o_putr, o_iald, o_iast, o_zast, o_lald, o_last, o_aald, o_aast, o_alenO, o_new, o_newi, o_newl, o_newq, o_newqd, o_mna, o_copy, o_drop, o_cast, o_call, o_callx, o_callv, o_callvx, o_callh, o_sald, o_slen, o_switch, m_rcv, o_ireturn, o_zreturn, o_areturn, o_return, o_throw, o_null, o_dupx1, o_de, m_ent, List.getElem?_cons_zero, List.getElem?_cons_succ, List.getElem?_nil, List.set_cons_zero, List.set_cons_succ, List.length_cons, List.length_nil, List.map_cons, List.map_nil, List.replicate_succ, List.replicate_zero, List.take_succ_cons, List.take_zero, List.drop_succ_cons, List.drop_zero, List.reverse_cons, List.reverse_nil, List.cons_append, List.nil_append, List.append_nil, Option.toList_some, Option.toList_none, Nat.reduceAdd, Nat.reduceSub, Nat.reduceLeDiff, Nat.reduceLT, Nat.reduceEqDiff, Nat.le_refl, Nat.zero_le, Nat.zero_add, Nat.sub_zero, true_and, and_true, false_and, and_false, if_true, if_false, ite_true, ite_false, reduceIte, or_true, true_or, Option.isSome_some, not_true_eq_false, not_false_eq_true, forall_const, true_implies, false_implies, implies_true, ne_eq, m_gI_I, m_gJ_J, m_gQ_Q, m_gO_O, m_hp_94, m_fM_len, m_fM_0, m_fM_1, m_fM_2, m_fM_3, m_fM_4, m_fM_5, m_fM_6, m_fM_7, m_fM_8, m_fM_9, m_fM_10, m_fM_11, m_fM_12, m_fM_13, m_fM_14, m_fM_15, m_fM_16, m_fM_17, m_fM_18, m_fM_19, m_fM_20, m_fM_21, m_fM_22, m_fM_23, m_fM_24, m_fM_25, m_fM_26, m_fM_27, m_fM_28, m_fM_29, m_fM_30, m_fM_31, m_fM_32, m_fM_33, m_fM_34, m_fM_35, m_fM_s0, m_fM_s1, m_fM_s5, m_fM_s12, m_fM_s17, m_fM_s22, m_fM_s23, m_fM_s27, m_fM_s32, m_fM_s33, m_fM_s34, m_fM_s35, m_hp_115, v_in, v_cl, hcm, v_add, hfd, z1]
  refine ⟨fun y => ?_, fun y => ?_⟩
  · rw [v_sub (by omega)]
    exact key _
  · have k1 := key (0, 0)
    rw [show ds - fr c dm = 0 by omega] at k1
    exact k1
