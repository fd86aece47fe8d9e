/-! the model: passes -/
theorem lp_mp3 {call : m_call} {r : m_R → m_S → Prop} {bd : Nat × Nat} {n nc : Nat} {ow : Nat → Nat → Nat} {ar : Nat → Nat → Int32} {rq : Nat → Nat → Option Nat} {ou : Nat → Int64} {dy : Nat → m_C} (hnc : nc ≤ 10) (h1 : ar 94 1 = nI nc) (how : ∀ c, c < nc → ∀ j, j < 6 → ar 97 (6 * c + j) = nI (ow c j)) :
    ∀ (m k : Nat), k + m = 6 * nc → ∀ (ar1 : Nat → Nat → Int32), (∀ x, x ≠ 115 → ar1 x = ar x) → (∀ i, i < k → ar1 115 i = ar 97 i) → (∀ (ar2 : Nat → Nat → Int32) (x1 : Option Value), (∀ x, x ≠ 115 → ar2 x = ar x) → x_F nc ow ar2 → m_W1 (m_lk cd_X7_passes) call r 31 [some (.ref 94), x1] [] bd (n, m_hp ar2 rq ou dy)) → m_W1 (m_lk cd_X7_passes) call r 2 [some (.ref 94), some (.int (nI k))] [] bd (n, m_hp ar1 rq ou dy) := by
  intro m
  have hm : (6 : Int32) * nI nc = nI (6 * nc) := v_mul 6 nc
  induction m with
  | zero =>
    intro k hk ar1 g1 g2 h
    have e : k = 6 * nc := by omega
    subst e
    have h1' : ar1 94 1 = nI nc := by rw [g1 94 (by omega)]; exact h1
    rw [st_X7_passes_2]
    simp (disch := omega) only [st_X7_passes_3, st_X7_passes_5, st_X7_passes_6, st_X7_passes_9, st_X7_passes_10, o_iload, o_aload, o_const, o_lconst, o_istore, o_astore, o_iinc, o_dup, o_dup2, o_pop, o_bin, o_div, o_un, o_mbin, o_mun, o_i2l, o_lcmp, o_ifeq, o_ifne, o_iflt, o_ifge, o_ifgt, o_ifle, o_icmpeq, o_icmpne, o_icmplt, o_icmpge, o_icmpgt, o_icmple, o_goto, o_getf, o_puti, o_putz, o_putr, o_iald, o_iast, o_zast, o_lald, o_last, o_aald, o_aast, o_alenO, o_new, o_newi, o_newl, o_newq, o_newqd, o_mna, o_copy, o_drop, o_cast, o_call, o_callx, o_callv, o_callvx, o_callh, o_sald, o_slen, o_switch, m_rcv, o_ireturn, o_zreturn, o_areturn, o_return, o_throw, o_null, o_dupx1, o_de, m_ent, List.getElem?_cons_zero, List.getElem?_cons_succ, List.getElem?_nil, List.set_cons_zero, List.set_cons_succ, List.length_cons, List.length_nil, List.map_cons, List.map_nil, List.replicate_succ, List.replicate_zero, List.take_succ_cons, List.take_zero, List.drop_succ_cons, List.drop_zero, List.reverse_cons, List.reverse_nil, List.cons_append, List.nil_append, List.append_nil, Option.toList_some, Option.toList_none, Nat.reduceAdd, Nat.reduceSub, Nat.reduceLeDiff, Nat.reduceLT, Nat.reduceEqDiff, Nat.le_refl, Nat.zero_le, Nat.zero_add, Nat.sub_zero, true_and, and_true, false_and, and_false, if_true, if_false, ite_true, ite_false, reduceIte, or_true, true_or, Option.isSome_some, not_true_eq_false, not_false_eq_true, forall_const, true_implies, false_implies, implies_true, ne_eq, m_gI_I, m_gJ_J, m_gQ_Q, m_gO_O, m_hp_94, m_fM_len, m_fM_0, m_fM_1, m_fM_2, m_fM_3, m_fM_4, m_fM_5, m_fM_6, m_fM_7, m_fM_8, m_fM_9, m_fM_10, m_fM_11, m_fM_12, m_fM_13, m_fM_14, m_fM_15, m_fM_16, m_fM_17, m_fM_18, m_fM_19, m_fM_20, m_fM_21, m_fM_22, m_fM_23, m_fM_24, m_fM_25, m_fM_26, m_fM_27, m_fM_28, m_fM_29, m_fM_30, m_fM_31, m_fM_32, m_fM_33, m_fM_34, m_fM_35, m_fM_s0, m_fM_s1, m_fM_s5, m_fM_s12, m_fM_s17, m_fM_s22, m_fM_s23, m_fM_s27, m_fM_s32, m_fM_s33, m_fM_s34, m_fM_s35, h1', hm]
    exact ⟨fun z => absurd z Int32.lt_irrefl, fun _ => h ar1 _ g1 (fun c hc j hj => by rw [g2 (6 * c + j) (by omega)]; exact how c hc j hj)⟩
  | succ m ih =>
    intro k hk ar1 g1 g2 h
    have h1' : ar1 94 1 = nI nc := by rw [g1 94 (by omega)]; exact h1
    have hlt : nI k < nI (6 * nc) := nI_lt (by omega) (by omega)
    have hk60 : k < 60 := by omega
    rw [st_X7_passes_2]
    simp (disch := omega) only [st_X7_passes_3, st_X7_passes_5, st_X7_passes_6, st_X7_passes_9, st_X7_passes_10, st_X7_passes_13, st_X7_passes_14, st_X7_passes_17, st_X7_passes_18, st_X7_passes_19, st_X7_passes_22, st_X7_passes_23, st_X7_passes_24, st_X7_passes_25, st_X7_passes_28, o_iload, o_aload, o_const, o_lconst, o_istore, o_astore, o_iinc, o_dup, o_dup2, o_pop, o_bin, o_div, o_un, o_mbin, o_mun, o_i2l, o_lcmp, o_ifeq, o_ifne, o_iflt, o_ifge, o_ifgt, o_ifle, o_icmpeq, o_icmpne, o_icmplt, o_icmpge, o_icmpgt, o_icmple, o_goto, o_getf, o_puti, o_putz, o_putr, o_iald, o_iast, o_zast, o_lald, o_last, o_aald, o_aast, o_alenO, o_new, o_newi, o_newl, o_newq, o_newqd, o_mna, o_copy, o_drop, o_cast, o_call, o_callx, o_callv, o_callvx, o_callh, o_sald, o_slen, o_switch, m_rcv, o_ireturn, o_zreturn, o_areturn, o_return, o_throw, o_null, o_dupx1, o_de, m_ent, List.getElem?_cons_zero, List.getElem?_cons_succ, List.getElem?_nil, List.set_cons_zero, List.set_cons_succ, List.length_cons, List.length_nil, List.map_cons, List.map_nil, List.replicate_succ, List.replicate_zero, List.take_succ_cons, List.take_zero, List.drop_succ_cons, List.drop_zero, List.reverse_cons, List.reverse_nil, List.cons_append, List.nil_append, List.append_nil, Option.toList_some, Option.toList_none, Nat.reduceAdd, Nat.reduceSub, Nat.reduceLeDiff, Nat.reduceLT, Nat.reduceEqDiff, Nat.le_refl, Nat.zero_le, Nat.zero_add, Nat.sub_zero, true_and, and_true, false_and, and_false, if_true, if_false, ite_true, ite_false, reduceIte, or_true, true_or, Option.isSome_some, not_true_eq_false, not_false_eq_true, forall_const, true_implies, false_implies, implies_true, ne_eq, m_gI_I, m_gJ_J, m_gQ_Q, m_gO_O, m_hp_94, m_fM_len, m_fM_0, m_fM_1, m_fM_2, m_fM_3, m_fM_4, m_fM_5, m_fM_6, m_fM_7, m_fM_8, m_fM_9, m_fM_10, m_fM_11, m_fM_12, m_fM_13, m_fM_14, m_fM_15, m_fM_16, m_fM_17, m_fM_18, m_fM_19, m_fM_20, m_fM_21, m_fM_22, m_fM_23, m_fM_24, m_fM_25, m_fM_26, m_fM_27, m_fM_28, m_fM_29, m_fM_30, m_fM_31, m_fM_32, m_fM_33, m_fM_34, m_fM_35, m_fM_s0, m_fM_s1, m_fM_s5, m_fM_s12, m_fM_s17, m_fM_s22, m_fM_s23, m_fM_s27, m_fM_s32, m_fM_s33, m_fM_s34, m_fM_s35, m_hp_97, m_hp_115, m_up_115, v_in, v_cl, h1', hm, hlt, nI_1]
    refine ih (k + 1) (by omega) _ (fun x hx => by rw [m_uf_ne hx]; exact g1 x hx) (fun i hi => ?_) h
    rw [m_uf_eq]
    by_cases e : i = k
    · subst e
      rw [upd, if_pos rfl, g1 97 (by omega)]
    · rw [upd, if_neg e]
      exact g2 i (by omega)
theorem lp_mp4 {call : m_call} {r : m_R → m_S → Prop} {bd : Nat × Nat} {n nd : Nat} {ar : Nat → Nat → Int32} {rq : Nat → Nat → Option Nat} {ou : Nat → Int64} {dy : Nat → m_C} (hnd : nd ≤ 10) (h5 : ar 94 5 = nI nd) :
    ∀ (m k : Nat), k + m = nd → ∀ (ar1 : Nat → Nat → Int32), (∀ x, x ≠ 102 → x ≠ 103 → ar1 x = ar x) → (∀ i, i < k → ar1 102 i = -1 ∧ ar1 103 i = 0) → (∀ i, nd ≤ i → ar1 103 i = ar 103 i) → (∀ (ar2 : Nat → Nat → Int32) (x1 : Option Value), (∀ x, x ≠ 102 → x ≠ 103 → ar2 x = ar x) → (∀ i, i < nd → ar2 102 i = -1 ∧ ar2 103 i = 0) → (∀ i, nd ≤ i → ar2 103 i = ar 103 i) → m_W1 (m_lk cd_X7_passes) call r 61 [some (.ref 94), x1] [] bd (n, m_hp ar2 rq ou dy)) → m_W1 (m_lk cd_X7_passes) call r 33 [some (.ref 94), some (.int (nI k))] [] bd (n, m_hp ar1 rq ou dy) := by
  intro m
  induction m with
  | zero =>
    intro k hk ar1 g1 g2 g3 h
    have e : k = nd := by omega
    subst e
    have h1' : ar1 94 5 = nI k := by rw [g1 94 (by omega) (by omega)]; exact h5
    rw [st_X7_passes_33]
    simp (disch := omega) only [st_X7_passes_34, st_X7_passes_35, st_X7_passes_38, o_iload, o_aload, o_const, o_lconst, o_istore, o_astore, o_iinc, o_dup, o_dup2, o_pop, o_bin, o_div, o_un, o_mbin, o_mun, o_i2l, o_lcmp, o_ifeq, o_ifne, o_iflt, o_ifge, o_ifgt, o_ifle, o_icmpeq, o_icmpne, o_icmplt, o_icmpge, o_icmpgt, o_icmple, o_goto, o_getf, o_puti, o_putz, o_putr, o_iald, o_iast, o_zast, o_lald, o_last, o_aald, o_aast, o_alenO, o_new, o_newi, o_newl, o_newq, o_newqd, o_mna, o_copy, o_drop, o_cast, o_call, o_callx, o_callv, o_callvx, o_callh, o_sald, o_slen, o_switch, m_rcv, o_ireturn, o_zreturn, o_areturn, o_return, o_throw, o_null, o_dupx1, o_de, m_ent, List.getElem?_cons_zero, List.getElem?_cons_succ, List.getElem?_nil, List.set_cons_zero, List.set_cons_succ, List.length_cons, List.length_nil, List.map_cons, List.map_nil, List.replicate_succ, List.replicate_zero, List.take_succ_cons, List.take_zero, List.drop_succ_cons, List.drop_zero, List.reverse_cons, List.reverse_nil, List.cons_append, List.nil_append, List.append_nil, Option.toList_some, Option.toList_none, Nat.reduceAdd, Nat.reduceSub, Nat.reduceLeDiff, Nat.reduceLT, Nat.reduceEqDiff, Nat.le_refl, Nat.zero_le, Nat.zero_add, Nat.sub_zero, true_and, and_true, false_and, and_false, if_true, if_false, ite_true, ite_false, reduceIte, or_true, true_or, Option.isSome_some, not_true_eq_false, not_false_eq_true, forall_const, true_implies, false_implies, implies_true, ne_eq, m_gI_I, m_gJ_J, m_gQ_Q, m_gO_O, m_hp_94, m_fM_len, m_fM_0, m_fM_1, m_fM_2, m_fM_3, m_fM_4, m_fM_5, m_fM_6, m_fM_7, m_fM_8, m_fM_9, m_fM_10, m_fM_11, m_fM_12, m_fM_13, m_fM_14, m_fM_15, m_fM_16, m_fM_17, m_fM_18, m_fM_19, m_fM_20, m_fM_21, m_fM_22, m_fM_23, m_fM_24, m_fM_25, m_fM_26, m_fM_27, m_fM_28, m_fM_29, m_fM_30, m_fM_31, m_fM_32, m_fM_33, m_fM_34, m_fM_35, m_fM_s0, m_fM_s1, m_fM_s5, m_fM_s12, m_fM_s17, m_fM_s22, m_fM_s23, m_fM_s27, m_fM_s32, m_fM_s33, m_fM_s34, m_fM_s35, h1']
    exact ⟨fun z => absurd z Int32.lt_irrefl, fun _ => h ar1 _ g1 g2 g3⟩
  | succ m ih =>
    intro k hk ar1 g1 g2 g3 h
    have h1' : ar1 94 5 = nI nd := by rw [g1 94 (by omega) (by omega)]; exact h5
    have hlt : nI k < nI nd := nI_lt (by omega) (by omega)
    have hk10 : k < 10 := by omega
    rw [st_X7_passes_33]
    simp (disch := omega) only [st_X7_passes_34, st_X7_passes_35, st_X7_passes_38, st_X7_passes_41, st_X7_passes_42, st_X7_passes_45, st_X7_passes_46, st_X7_passes_47, st_X7_passes_48, st_X7_passes_49, st_X7_passes_52, st_X7_passes_53, st_X7_passes_54, st_X7_passes_55, st_X7_passes_58, o_iload, o_aload, o_const, o_lconst, o_istore, o_astore, o_iinc, o_dup, o_dup2, o_pop, o_bin, o_div, o_un, o_mbin, o_mun, o_i2l, o_lcmp, o_ifeq, o_ifne, o_iflt, o_ifge, o_ifgt, o_ifle, o_icmpeq, o_icmpne, o_icmplt, o_icmpge, o_icmpgt, o_icmple, o_goto, o_getf, o_puti, o_putz, o_putr, o_iald, o_iast, o_zast, o_lald, o_last, o_aald, o_aast, o_alenO, o_new, o_newi, o_newl, o_newq, o_newqd, o_mna, o_copy, o_drop, o_cast, o_call, o_callx, o_callv, o_callvx, o_callh, o_sald, o_slen, o_switch, m_rcv, o_ireturn, o_zreturn, o_areturn, o_return, o_throw, o_null, o_dupx1, o_de, m_ent, List.getElem?_cons_zero, List.getElem?_cons_succ, List.getElem?_nil, List.set_cons_zero, List.set_cons_succ, List.length_cons, List.length_nil, List.map_cons, List.map_nil, List.replicate_succ, List.replicate_zero, List.take_succ_cons, List.take_zero, List.drop_succ_cons, List.drop_zero, List.reverse_cons, List.reverse_nil, List.cons_append, List.nil_append, List.append_nil, Option.toList_some, Option.toList_none, Nat.reduceAdd, Nat.reduceSub, Nat.reduceLeDiff, Nat.reduceLT, Nat.reduceEqDiff, Nat.le_refl, Nat.zero_le, Nat.zero_add, Nat.sub_zero, true_and, and_true, false_and, and_false, if_true, if_false, ite_true, ite_false, reduceIte, or_true, true_or, Option.isSome_some, not_true_eq_false, not_false_eq_true, forall_const, true_implies, false_implies, implies_true, ne_eq, m_gI_I, m_gJ_J, m_gQ_Q, m_gO_O, m_hp_94, m_fM_len, m_fM_0, m_fM_1, m_fM_2, m_fM_3, m_fM_4, m_fM_5, m_fM_6, m_fM_7, m_fM_8, m_fM_9, m_fM_10, m_fM_11, m_fM_12, m_fM_13, m_fM_14, m_fM_15, m_fM_16, m_fM_17, m_fM_18, m_fM_19, m_fM_20, m_fM_21, m_fM_22, m_fM_23, m_fM_24, m_fM_25, m_fM_26, m_fM_27, m_fM_28, m_fM_29, m_fM_30, m_fM_31, m_fM_32, m_fM_33, m_fM_34, m_fM_35, m_fM_s0, m_fM_s1, m_fM_s5, m_fM_s12, m_fM_s17, m_fM_s22, m_fM_s23, m_fM_s27, m_fM_s32, m_fM_s33, m_fM_s34, m_fM_s35, m_hp_102, m_up_102, m_hp_103, m_up_103, v_in, v_cl, h1', hlt, nI_1, m_uf_ne]
    refine ih (k + 1) (by omega) _ (fun x hx hy => by rw [m_uf_ne hy, m_uf_ne hx]; exact g1 x hx hy) (fun i hi => ?_) (fun i hi => ?_) h
    · rw [m_uf_ne (by omega : (102 : Nat) ≠ 103), m_uf_eq, m_uf_eq]
      by_cases e : i = k
      · subst e
        rw [upd, if_pos rfl, upd, if_pos rfl]
        exact ⟨rfl, rfl⟩
      · rw [upd, if_neg e, upd, if_neg e]
        exact g2 i (by omega)
    · rw [m_uf_eq, upd, if_neg (by omega)]
      exact g3 i hi
theorem lp_mp5 {d n nc nk nd : Nat} {wy : Nat → Option Nat} {kb cb db ow : Nat → Nat → Nat} {r : m_R → m_S → Prop} {bd : Nat × Nat} {ar : Nat → Nat → Int32} {rq : Nat → Nat → Option Nat} {ou : Nat → Int64} {dy : Nat → m_C} (hnc : nc ≤ 10) (hnk : nk ≤ 16) (hnd : nd ≤ 10) (hC : x_C nc cb ar) (hK : x_K nk kb ar) (hD : x_D nd db ar) (hO : x_O nc cb ow ar) (hbl : ∀ c, n_fc kb nk nc 0 none = some c → c < nc) (hw : ∀ i, i < nd → ar 102 i = n_w (wy i)) (hw8 : ∀ i w, wy i = some w → w < 1024) :
    ∀ (m i : Nat), i + m = nd → ∀ (ar1 : Nat → Nat → Int32) (t : (Nat → Int32) × Int32), (∀ x, x ≠ 114 → ar1 x = ar x) → x_A t ar1 → (∀ (ar2 : Nat → Nat → Int32) (x1 : Option Value), (∀ x, x ≠ 114 → ar2 x = ar x) → x_A (n_pf (n_fc kb nk nc 0 none) wy cb db ow m i t) ar2 → m_W1 (m_lk cd_X7_passes) (m_Ev m_cds m_my (d + 3)) r 102 [some (.ref 94), x1] [] bd (n, m_hp ar2 rq ou dy)) → m_W1 (m_lk cd_X7_passes) (m_Ev m_cds m_my (d + 3)) r 73 [some (.ref 94), some (.int (nI i))] [] bd (n, m_hp ar1 rq ou dy) := by
  intro m
  induction m with
  | zero =>
    intro i hi ar1 t g1 g2 h
    have e : i = nd := by omega
    subst e
    have h1' : ar1 94 5 = nI i := by rw [g1 94 (by omega)]; exact hD.1
    rw [st_X7_passes_73]
    simp (disch := omega) only [st_X7_passes_74, st_X7_passes_75, st_X7_passes_78, o_iload, o_aload, o_const, o_lconst, o_istore, o_astore, o_iinc, o_dup, o_dup2, o_pop, o_bin, o_div, o_un, o_mbin, o_mun, o_i2l, o_lcmp, o_ifeq, o_ifne, o_iflt, o_ifge, o_ifgt, o_ifle, o_icmpeq, o_icmpne, o_icmplt, o_icmpge, o_icmpgt, o_icmple, o_goto, o_getf, o_puti, o_putz, o_putr, o_iald, o_iast, o_zast, o_lald, o_last, o_aald, o_aast, o_alenO, o_new, o_newi, o_newl, o_newq, o_newqd, o_mna, o_copy, o_drop, o_cast, o_call, o_callx, o_callv, o_callvx, o_callh, o_sald, o_slen, o_switch, m_rcv, o_ireturn, o_zreturn, o_areturn, o_return, o_throw, o_null, o_dupx1, o_de, m_ent, List.getElem?_cons_zero, List.getElem?_cons_succ, List.getElem?_nil, List.set_cons_zero, List.set_cons_succ, List.length_cons, List.length_nil, List.map_cons, List.map_nil, List.replicate_succ, List.replicate_zero, List.take_succ_cons, List.take_zero, List.drop_succ_cons, List.drop_zero, List.reverse_cons, List.reverse_nil, List.cons_append, List.nil_append, List.append_nil, Option.toList_some, Option.toList_none, Nat.reduceAdd, Nat.reduceSub, Nat.reduceLeDiff, Nat.reduceLT, Nat.reduceEqDiff, Nat.le_refl, Nat.zero_le, Nat.zero_add, Nat.sub_zero, true_and, and_true, false_and, and_false, if_true, if_false, ite_true, ite_false, reduceIte, or_true, true_or, Option.isSome_some, not_true_eq_false, not_false_eq_true, forall_const, true_implies, false_implies, implies_true, ne_eq, m_gI_I, m_gJ_J, m_gQ_Q, m_gO_O, m_hp_94, m_fM_len, m_fM_0, m_fM_1, m_fM_2, m_fM_3, m_fM_4, m_fM_5, m_fM_6, m_fM_7, m_fM_8, m_fM_9, m_fM_10, m_fM_11, m_fM_12, m_fM_13, m_fM_14, m_fM_15, m_fM_16, m_fM_17, m_fM_18, m_fM_19, m_fM_20, m_fM_21, m_fM_22, m_fM_23, m_fM_24, m_fM_25, m_fM_26, m_fM_27, m_fM_28, m_fM_29, m_fM_30, m_fM_31, m_fM_32, m_fM_33, m_fM_34, m_fM_35, m_fM_s0, m_fM_s1, m_fM_s5, m_fM_s12, m_fM_s17, m_fM_s22, m_fM_s23, m_fM_s27, m_fM_s32, m_fM_s33, m_fM_s34, m_fM_s35, h1']
    exact ⟨fun z => absurd z Int32.lt_irrefl, fun _ => h ar1 _ g1 g2⟩
  | succ m ih =>
    intro i hi ar1 t g1 g2 h
    have hin : i < nd := by omega
    have hi10 : i < 10 := by omega
    have h1' : ar1 94 5 = nI nd := by rw [g1 94 (by omega)]; exact hD.1
    have hlt : nI i < nI nd := nI_lt (by omega) (by omega)
    have hwi : ar1 102 i = n_w (wy i) := by rw [g1 102 (by omega)]; exact hw i hin
    have hst : n_pf (n_fc kb nk nc 0 none) wy cb db ow (m + 1) i t = n_pf (n_fc kb nk nc 0 none) wy cb db ow m (i + 1) (n_ps (n_fc kb nk nc 0 none) wy cb db ow i t) := rfl
    rw [hst] at h
    rw [st_X7_passes_73]
    rcases hwy : wy i with _ | w
    · rw [hwy] at hwi
      have hm1 : (n_w none = -1) = True := eq_true rfl
      simp (disch := omega) only [st_X7_passes_74, st_X7_passes_75, st_X7_passes_78, st_X7_passes_81, st_X7_passes_82, st_X7_passes_85, st_X7_passes_86, st_X7_passes_87, st_X7_passes_88, st_X7_passes_91, st_X7_passes_92, st_X7_passes_93, o_iload, o_aload, o_const, o_lconst, o_istore, o_astore, o_iinc, o_dup, o_dup2, o_pop, o_bin, o_div, o_un, o_mbin, o_mun, o_i2l, o_lcmp, o_ifeq, o_ifne, o_iflt, o_ifge, o_ifgt, o_ifle, o_icmpeq, o_icmpne, o_icmplt, o_icmpge, o_icmpgt, o_icmple, o_goto, o_getf, o_puti, o_putz, o_putr, o_iald, o_iast, o_zast, o_lald, o_last, o_aald, o_aast, o_alenO, o_new, o_newi, o_newl, o_newq, o_newqd, o_mna, o_copy, o_drop, o_cast, o_call, o_callx, o_callv, o_callvx, o_callh, o_sald, o_slen, o_switch, m_rcv, o_ireturn, o_zreturn, o_areturn, o_return, o_throw, o_null, o_dupx1, o_de, m_ent, List.getElem?_cons_zero, List.getElem?_cons_succ, List.getElem?_nil, List.set_cons_zero, List.set_cons_succ, List.length_cons, List.length_nil, List.map_cons, List.map_nil, List.replicate_succ, List.replicate_zero, List.take_succ_cons, List.take_zero, List.drop_succ_cons, List.drop_zero, List.reverse_cons, List.reverse_nil, List.cons_append, List.nil_append, List.append_nil, Option.toList_some, Option.toList_none, Nat.reduceAdd, Nat.reduceSub, Nat.reduceLeDiff, Nat.reduceLT, Nat.reduceEqDiff, Nat.le_refl, Nat.zero_le, Nat.zero_add, Nat.sub_zero, true_and, and_true, false_and, and_false, if_true, if_false, ite_true, ite_false, reduceIte, or_true, true_or, Option.isSome_some, not_true_eq_false, not_false_eq_true, forall_const, true_implies, false_implies, implies_true, ne_eq, m_gI_I, m_gJ_J, m_gQ_Q, m_gO_O, m_hp_94, m_fM_len, m_fM_0, m_fM_1, m_fM_2, m_fM_3, m_fM_4, m_fM_5, m_fM_6, m_fM_7, m_fM_8, m_fM_9, m_fM_10, m_fM_11, m_fM_12, m_fM_13, m_fM_14, m_fM_15, m_fM_16, m_fM_17, m_fM_18, m_fM_19, m_fM_20, m_fM_21, m_fM_22, m_fM_23, m_fM_24, m_fM_25, m_fM_26, m_fM_27, m_fM_28, m_fM_29, m_fM_30, m_fM_31, m_fM_32, m_fM_33, m_fM_34, m_fM_35, m_fM_s0, m_fM_s1, m_fM_s5, m_fM_s12, m_fM_s17, m_fM_s22, m_fM_s23, m_fM_s27, m_fM_s32, m_fM_s33, m_fM_s34, m_fM_s35, m_hp_102, v_in, v_cl, h1', hlt, hwi, hm1]
      have hC1 : x_C nc cb ar1 := ⟨by rw [g1 94 (by omega)]; exact hC.1, fun c hc => by rw [g1 95 (by omega), g1 96 (by omega)]; exact hC.2 c hc⟩
      have hK1 : x_K nk kb ar1 := x_K_cg hK (by rw [g1 94 (by omega)]) (g1 _ (by omega)) (g1 _ (by omega)) (g1 _ (by omega)) (g1 _ (by omega))
      have hD1 : x_D nd db ar1 := ⟨h1', fun c hc => by rw [g1 98 (by omega), g1 99 (by omega), g1 100 (by omega), g1 101 (by omega)]; exact hD.2 c hc⟩
      have hO1 : x_O nc cb ow ar1 := fun c hc => by
        obtain ⟨q1, q2, q3, q4⟩ := hO c hc
        exact ⟨q1, q2, q3, fun j hj => by rw [g1 97 (by omega)]; exact q4 j hj⟩
      obtain ⟨S', hE, row, rfl, r1⟩ := e_mcredits d (n := n) (rq := rq) (ou := ou) (dy := dy) hnc hnk hnd hC1 hK1 hD1 hO1 g2 hbl hin hwy
      refine ⟨_, _, hE, ?_⟩
      simp (disch := omega) only [st_X7_passes_96, st_X7_passes_99, o_iload, o_aload, o_const, o_lconst, o_istore, o_astore, o_iinc, o_dup, o_dup2, o_pop, o_bin, o_div, o_un, o_mbin, o_mun, o_i2l, o_lcmp, o_ifeq, o_ifne, o_iflt, o_ifge, o_ifgt, o_ifle, o_icmpeq, o_icmpne, o_icmplt, o_icmpge, o_icmpgt, o_icmple, o_goto, o_getf, o_puti, o_putz, o_putr, o_iald, o_iast, o_zast, o_lald, o_last, o_aald, o_aast, o_alenO, o_new, o_newi, o_newl, o_newq, o_newqd, o_mna, o_copy, o_drop, o_cast, o_call, o_callx, o_callv, o_callvx, o_callh, o_sald, o_slen, o_switch, m_rcv, o_ireturn, o_zreturn, o_areturn, o_return, o_throw, o_null, o_dupx1, o_de, m_ent, List.getElem?_cons_zero, List.getElem?_cons_succ, List.getElem?_nil, List.set_cons_zero, List.set_cons_succ, List.length_cons, List.length_nil, List.map_cons, List.map_nil, List.replicate_succ, List.replicate_zero, List.take_succ_cons, List.take_zero, List.drop_succ_cons, List.drop_zero, List.reverse_cons, List.reverse_nil, List.cons_append, List.nil_append, List.append_nil, Option.toList_some, Option.toList_none, Nat.reduceAdd, Nat.reduceSub, Nat.reduceLeDiff, Nat.reduceLT, Nat.reduceEqDiff, Nat.le_refl, Nat.zero_le, Nat.zero_add, Nat.sub_zero, true_and, and_true, false_and, and_false, if_true, if_false, ite_true, ite_false, reduceIte, or_true, true_or, Option.isSome_some, not_true_eq_false, not_false_eq_true, forall_const, true_implies, false_implies, implies_true, ne_eq, m_gI_I, m_gJ_J, m_gQ_Q, m_gO_O, nI_1]
      exact ih (i + 1) (by omega) _ _ (fun x hx => by rw [m_uf_ne hx]; exact g1 x hx) r1 h
    · rw [hwy] at hwi
      have hw2 := hw8 i w hwy
      have hm1 : (nI w = -1) = False := n_neg (by omega)
      have hps : n_ps (n_fc kb nk nc 0 none) wy cb db ow i t = t := by unfold n_ps; rw [hwy]
      rw [hps] at h
      simp (disch := omega) only [st_X7_passes_74, st_X7_passes_75, st_X7_passes_78, st_X7_passes_81, st_X7_passes_82, st_X7_passes_85, st_X7_passes_86, st_X7_passes_87, st_X7_passes_88, st_X7_passes_96, st_X7_passes_99, o_iload, o_aload, o_const, o_lconst, o_istore, o_astore, o_iinc, o_dup, o_dup2, o_pop, o_bin, o_div, o_un, o_mbin, o_mun, o_i2l, o_lcmp, o_ifeq, o_ifne, o_iflt, o_ifge, o_ifgt, o_ifle, o_icmpeq, o_icmpne, o_icmplt, o_icmpge, o_icmpgt, o_icmple, o_goto, o_getf, o_puti, o_putz, o_putr, o_iald, o_iast, o_zast, o_lald, o_last, o_aald, o_aast, o_alenO, o_new, o_newi, o_newl, o_newq, o_newqd, o_mna, o_copy, o_drop, o_cast, o_call, o_callx, o_callv, o_callvx, o_callh, o_sald, o_slen, o_switch, m_rcv, o_ireturn, o_zreturn, o_areturn, o_return, o_throw, o_null, o_dupx1, o_de, m_ent, List.getElem?_cons_zero, List.getElem?_cons_succ, List.getElem?_nil, List.set_cons_zero, List.set_cons_succ, List.length_cons, List.length_nil, List.map_cons, List.map_nil, List.replicate_succ, List.replicate_zero, List.take_succ_cons, List.take_zero, List.drop_succ_cons, List.drop_zero, List.reverse_cons, List.reverse_nil, List.cons_append, List.nil_append, List.append_nil, Option.toList_some, Option.toList_none, Nat.reduceAdd, Nat.reduceSub, Nat.reduceLeDiff, Nat.reduceLT, Nat.reduceEqDiff, Nat.le_refl, Nat.zero_le, Nat.zero_add, Nat.sub_zero, true_and, and_true, false_and, and_false, if_true, if_false, ite_true, ite_false, reduceIte, or_true, true_or, Option.isSome_some, not_true_eq_false, not_false_eq_true, forall_const, true_implies, false_implies, implies_true, ne_eq, m_gI_I, m_gJ_J, m_gQ_Q, m_gO_O, m_hp_94, m_fM_len, m_fM_0, m_fM_1, m_fM_2, m_fM_3, m_fM_4, m_fM_5, m_fM_6, m_fM_7, m_fM_8, m_fM_9, m_fM_10, m_fM_11, m_fM_12, m_fM_13, m_fM_14, m_fM_15, m_fM_16, m_fM_17, m_fM_18, m_fM_19, m_fM_20, m_fM_21, m_fM_22, m_fM_23, m_fM_24, m_fM_25, m_fM_26, m_fM_27, m_fM_28, m_fM_29, m_fM_30, m_fM_31, m_fM_32, m_fM_33, m_fM_34, m_fM_35, m_fM_s0, m_fM_s1, m_fM_s5, m_fM_s12, m_fM_s17, m_fM_s22, m_fM_s23, m_fM_s27, m_fM_s32, m_fM_s33, m_fM_s34, m_fM_s35, m_hp_102, v_in, v_cl, h1', hlt, hwi, n_ws, hm1, nI_1]
      exact ih (i + 1) (by omega) ar1 t g1 g2 h
/-- what holds of cuts and ships through an hour -/
def n_WI (nc nk ns hr H : Nat) (W : n_W) : Prop :=
  (∀ s, s < ns → ∀ k, W.2.2.2.1 s = some k → k < nk ∧ W.2.1 k = none ∧ ∀ s', s' < ns → W.2.2.2.1 s' = some k → s' = s) ∧
  (∀ k, k < nk → (W.2.1 k = none ↔ W.1 k 3 < 5) ∧ W.1 k 3 ≤ 5 ∧ W.1 k 0 < nc ∧ W.1 k 2 ≤ hr ∧ ∀ w, W.2.1 k = some w → W.1 k 2 < w ∧ w ≤ H) ∧
  (∀ k k', k < k' → k' < nk → W.1 k 0 = W.1 k' 0 → ∃ w, W.2.1 k = some w ∧ w ≤ W.1 k' 2) ∧
  (∀ c, c < nc → W.2.2.2.2 c ≤ 1 ∧ (W.2.2.2.2 c = 0 ↔ ∃ k, k < nk ∧ W.1 k 0 = c ∧ W.2.1 k = none))
theorem n_WI_H {nc nk ns hr H H' : Nat} {W : n_W} (h : n_WI nc nk ns hr H W) (hH : H ≤ H') : n_WI nc nk ns hr H' W := ⟨h.1, fun k hk => ⟨(h.2.1 k hk).1, (h.2.1 k hk).2.1, (h.2.1 k hk).2.2.1, (h.2.1 k hk).2.2.2.1, fun w hw => ⟨((h.2.1 k hk).2.2.2.2 w hw).1, Nat.le_trans ((h.2.1 k hk).2.2.2.2 w hw).2 hH⟩⟩, h.2.2.1, h.2.2.2⟩
theorem n_WI_z {nc nk ns hr s k : Nat} {storm : Bool} {W : n_W} (h : n_WI nc nk ns hr (hr + 1) W) (hs : s < ns) (hsc : W.2.2.2.1 s = some k) : n_WI nc nk ns hr (hr + 1) (n_wz storm hr s k W) := by
  obtain ⟨kb, kw, sb, sc, wh⟩ := W
  obtain ⟨h1, h2, h3, h4⟩ := h
  simp only at h1 h2 h3 h4 hsc
  obtain ⟨a1, a2, a3⟩ := h1 s hs k hsc
  unfold n_wz
  simp only
  split
  · split
    · exact ⟨h1, h2, h3, h4⟩
    · split
      · split
        · rename_i h5
          refine ⟨h1, fun j hj => ?_, fun j j' g1 g2 g3 => ?_, fun c hc => ?_⟩
          · obtain ⟨b1, b2, b3, b4, b5⟩ := h2 j hj
            show (kw j = none ↔ m_u2 kb k 3 (kb k 3 + 1) j 3 < 5) ∧ m_u2 kb k 3 (kb k 3 + 1) j 3 ≤ 5 ∧ m_u2 kb k 3 (kb k 3 + 1) j 0 < nc ∧ m_u2 kb k 3 (kb k 3 + 1) j 2 ≤ hr ∧ ∀ w, kw j = some w → m_u2 kb k 3 (kb k 3 + 1) j 2 < w ∧ w ≤ hr + 1
            rw [m_u2_n2 (by omega : (0 : Nat) ≠ 3), m_u2_n2 (by omega : (2 : Nat) ≠ 3)]
            by_cases e : j = k
            · subst e
              rw [m_u2_eq]
              exact ⟨⟨fun _ => h5, fun _ => a2⟩, by omega, b3, b4, b5⟩
            · rw [m_u2_n1 e]
              exact ⟨b1, b2, b3, b4, b5⟩
          · have g3' : m_u2 kb k 3 (kb k 3 + 1) j 0 = m_u2 kb k 3 (kb k 3 + 1) j' 0 := g3
            rw [m_u2_n2 (by omega), m_u2_n2 (by omega)] at g3'
            show ∃ w, kw j = some w ∧ w ≤ m_u2 kb k 3 (kb k 3 + 1) j' 2
            rw [m_u2_n2 (by omega)]
            exact h3 j j' g1 g2 g3'
          · obtain ⟨b1, b2⟩ := h4 c hc
            refine ⟨b1, b2.trans ?_⟩
            show (∃ j, j < nk ∧ kb j 0 = c ∧ kw j = none) ↔ ∃ j, j < nk ∧ m_u2 kb k 3 (kb k 3 + 1) j 0 = c ∧ kw j = none
            exact ⟨fun ⟨j, q1, q2, q3⟩ => ⟨j, q1, by rw [m_u2_n2 (by omega)]; exact q2, q3⟩, fun ⟨j, q1, q2, q3⟩ => ⟨j, q1, by rw [m_u2_n2 (by omega)] at q2; exact q2, q3⟩⟩
        · rename_i h5
          have k5 : kb k 3 < 5 := ((h2 k a1).1).mp a2
          refine ⟨fun s2 hs2 j hj => ?_, fun j hj => ?_, fun j j' g1 g2 g3 => ?_, fun c hc => ?_⟩
          · have hj' : m_uf sc s none s2 = some j := hj
            by_cases e : s2 = s
            · subst e
              rw [m_uf_eq] at hj'
              cases hj'
            · rw [m_uf_ne e] at hj'
              obtain ⟨b1, b2, b3⟩ := h1 s2 hs2 j hj'
              have hjk : j ≠ k := fun z => by
                subst z
                exact e (a3 s2 hs2 hj')
              refine ⟨b1, ?_, fun s3 hs3 hsc3 => ?_⟩
              · show m_uf kw k (some (hr + 1)) j = none
                rw [m_uf_ne hjk]
                exact b2
              · have h9 : m_uf sc s none s3 = some j := hsc3
                by_cases e3 : s3 = s
                · subst e3
                  rw [m_uf_eq] at h9
                  cases h9
                · rw [m_uf_ne e3] at h9
                  exact b3 s3 hs3 h9
          · obtain ⟨b1, b2, b3, b4, b5⟩ := h2 j hj
            show (m_uf kw k (some (hr + 1)) j = none ↔ m_u2 kb k 3 (kb k 3 + 1) j 3 < 5) ∧ m_u2 kb k 3 (kb k 3 + 1) j 3 ≤ 5 ∧ m_u2 kb k 3 (kb k 3 + 1) j 0 < nc ∧ m_u2 kb k 3 (kb k 3 + 1) j 2 ≤ hr ∧ ∀ w, m_uf kw k (some (hr + 1)) j = some w → m_u2 kb k 3 (kb k 3 + 1) j 2 < w ∧ w ≤ hr + 1
            rw [m_u2_n2 (by omega : (0 : Nat) ≠ 3), m_u2_n2 (by omega : (2 : Nat) ≠ 3)]
            by_cases e : j = k
            · subst e
              rw [m_u2_eq, m_uf_eq]
              refine ⟨⟨fun z => (by cases z), fun z => absurd z h5⟩, by omega, b3, b4, fun w hw => ?_⟩
              cases hw
              omega
            · rw [m_u2_n1 e, m_uf_ne e]
              exact ⟨b1, b2, b3, b4, b5⟩
          · have g3' : m_u2 kb k 3 (kb k 3 + 1) j 0 = m_u2 kb k 3 (kb k 3 + 1) j' 0 := g3
            rw [m_u2_n2 (by omega), m_u2_n2 (by omega)] at g3'
            show ∃ w, m_uf kw k (some (hr + 1)) j = some w ∧ w ≤ m_u2 kb k 3 (kb k 3 + 1) j' 2
            rw [m_u2_n2 (by omega)]
            obtain ⟨w, q1, q2⟩ := h3 j j' g1 g2 g3'
            have hjk : j ≠ k := fun z => by
              subst z
              rw [a2] at q1
              cases q1
            rw [m_uf_ne hjk]
            exact ⟨w, q1, q2⟩
          · obtain ⟨b1, b2⟩ := h4 c hc
            show m_uf wh (kb k 0) 1 c ≤ 1 ∧ (m_uf wh (kb k 0) 1 c = 0 ↔ ∃ j, j < nk ∧ m_u2 kb k 3 (kb k 3 + 1) j 0 = c ∧ m_uf kw k (some (hr + 1)) j = none)
            by_cases e : c = kb k 0
            · subst e
              rw [m_uf_eq]
              refine ⟨Nat.le_refl _, ⟨fun z => (by cases z), fun ⟨j, q1, q2, q3⟩ => ?_⟩⟩
              exfalso
              rw [m_u2_n2 (by omega)] at q2
              have hjk : j ≠ k := fun z => by
                subst z
                rw [m_uf_eq] at q3
                cases q3
              rw [m_uf_ne hjk] at q3
              by_cases hlt : j < k
              · obtain ⟨w, q4, _⟩ := h3 j k hlt a1 q2
                rw [q3] at q4
                cases q4
              · obtain ⟨w, q4, _⟩ := h3 k j (by omega) q1 q2.symm
                rw [a2] at q4
                cases q4
            · rw [m_uf_ne e]
              refine ⟨b1, b2.trans ?_⟩
              constructor
              · rintro ⟨j, q1, q2, q3⟩
                refine ⟨j, q1, by rw [m_u2_n2 (by omega)]; exact q2, ?_⟩
                rw [m_uf_ne (fun z => by subst z; exact e q2.symm)]
                exact q3
              · rintro ⟨j, q1, q2, q3⟩
                rw [m_u2_n2 (by omega)] at q2
                rw [m_uf_ne (fun z => by subst z; exact e q2.symm)] at q3
                exact ⟨j, q1, q2, q3⟩
      · exact ⟨h1, h2, h3, h4⟩
  · exact ⟨h1, h2, h3, h4⟩
theorem n_WI_d {nc nk ns hr s : Nat} {storm : Bool} {cb ow : Nat → Nat → Nat} {T : (Nat → Int32) × Int32 × n_W} (h : n_WI nc nk ns hr (hr + 1) T.2.2) (hs : s < ns) : n_WI nc nk ns hr (hr + 1) (n_dz storm hr cb ow s T).2.2 := by
  unfold n_dz
  split
  · exact h
  · rename_i k hk
    exact n_WI_z h hs hk
theorem n_WI_wc {nc nk ns hr H : Nat} {W : n_W} (h : n_WI nc nk ns hr H W) : x_wc nc nk W.2.2.2.2 W.1 := by
  intro c hc
  obtain ⟨h1, h2⟩ := h.2.2.2 c hc
  rw [h2]
  constructor
  · rintro ⟨k, k1, k2, k3⟩ z
    exact n_co_none z k (Nat.zero_le k) (by omega) ⟨k2, ((h.2.1 k k1).1).mp k3⟩
  · intro z
    obtain ⟨k, hk⟩ := Option.ne_none_iff_exists'.mp z
    obtain ⟨_, k2, k3, k4⟩ := n_co_lt hk
    exact ⟨k, by omega, k3, ((h.2.1 k (by omega)).1).mpr k4⟩
