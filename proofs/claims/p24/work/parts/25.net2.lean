/-! Net: rows of free strands -/
theorem v_min {a b : Nat} (ha : a < 2147483648) (hb : b < 2147483648) : (if nI b < nI a then nI b else nI a) = nI (min a b) := by
  by_cases h : b < a
  · rw [if_pos (nI_lt h ha), Nat.min_eq_right (Nat.le_of_lt h)]
  · rw [if_neg (nI_nlt (by omega) hb), Nat.min_eq_left (by omega)]
theorem v_sub {a b : Nat} (h : b ≤ a) : nI a - nI b = nI (a - b) := pk_sub h
theorem v_mul (a b : Nat) : nI a * nI b = nI (a * b) := pk_mul a b
def n_sum (f : Nat → Nat) : Nat → Nat
  | 0 => 0
  | k + 1 => n_sum f k + f k
theorem n_sum_le {f : Nat → Nat} {M : Nat} : ∀ {k : Nat}, (∀ j, j < k → f j ≤ M) → n_sum f k ≤ M * k := by
  intro k
  induction k with
  | zero => intro _; exact Nat.zero_le _
  | succ k ih =>
    intro h
    have h1 := ih (fun j hj => h j (by omega))
    have h2 := h k (by omega)
    show n_sum f k + f k ≤ M * (k + 1)
    rw [Nat.mul_succ]
    omega
theorem e_takeFrom (d : Nat) {B n c m f q : Nat} {ar : Nat → Nat → Int32} {rq : Nat → Nat → Option Nat} {ou : Nat → Int64} {dy : Nat → m_C} (hB : B = 4 ∨ B = 40) (hc : c < 10) (hm : m < 6) (hf : ar (B + 24 + 1 + c) m = nI f) (hf2 : f < 2147483648) (hq : q < 2147483648) :
    m_Ev m_cds m_my (d + 1) 18 [.ref B, .int (nI c), .int (nI m), .int (nI q)] (n, m_hp ar rq ou dy) (.inl (some (.int (nI (min f q))))) (n, m_hp (m_uf ar (B + 24 + 1 + c) (upd (ar (B + 24 + 1 + c)) m (nI (f - min f q)))) rq ou dy) := by
  refine m_go1 my_X3_takeFrom cs_X3_takeFrom (by first | trivial | rfl) (Nat.le_of_ble_eq_true rfl) rfl ?_
  have hmin : min f q ≤ f := Nat.min_le_left f q
  simp (disch := omega) only [mt_X3_takeFrom, st_X3_takeFrom_0, st_X3_takeFrom_1, st_X3_takeFrom_4, st_X3_takeFrom_5, st_X3_takeFrom_6, st_X3_takeFrom_7, st_X3_takeFrom_8, st_X3_takeFrom_9, st_X3_takeFrom_12, st_X3_takeFrom_14, st_X3_takeFrom_15, st_X3_takeFrom_18, st_X3_takeFrom_19, st_X3_takeFrom_20, st_X3_takeFrom_21, st_X3_takeFrom_22, st_X3_takeFrom_23, st_X3_takeFrom_25, st_X3_takeFrom_26, st_X3_takeFrom_27, st_X3_takeFrom_29, o_iload, o_aload, o_const, o_lconst, o_istore, o_astore, o_iinc, o_dup, o_dup2, o_pop, o_bin, o_div, o_un, o_mbin, o_mun, o_i2l, o_lcmp, o_ifeq, o_ifne, o_iflt, o_ifge, o_ifgt, o_ifle, o_icmpeq, o_icmpne, o_icmplt, o_icmpge, o_icmpgt, o_icmple, o_goto, o_getf, o_puti, o_putz, o_putr, o_iald, o_iast, o_zast, o_lald, o_last, o_aald, o_aast, o_alenO, o_new, o_newi, o_newl, o_newq, o_newqd, o_mna, o_copy, o_drop, o_cast, o_call, o_callx, o_callv, o_callvx, o_callh, o_sald, o_slen, o_switch, m_rcv, o_ireturn, o_zreturn, o_areturn, o_return, o_throw, o_null, o_dupx1, o_de, m_ent, List.getElem?_cons_zero, List.getElem?_cons_succ, List.getElem?_nil, List.set_cons_zero, List.set_cons_succ, List.length_cons, List.length_nil, List.map_cons, List.map_nil, List.replicate_succ, List.replicate_zero, List.take_succ_cons, List.take_zero, List.drop_succ_cons, List.drop_zero, List.reverse_cons, List.reverse_nil, List.cons_append, List.nil_append, List.append_nil, Option.toList_some, Option.toList_none, Nat.reduceAdd, Nat.reduceSub, Nat.reduceLeDiff, Nat.reduceLT, Nat.reduceEqDiff, Nat.le_refl, Nat.zero_le, Nat.zero_add, Nat.sub_zero, true_and, and_true, false_and, and_false, if_true, if_false, ite_true, ite_false, reduceIte, or_true, true_or, Option.isSome_some, not_true_eq_false, not_false_eq_true, forall_const, true_implies, false_implies, implies_true, ne_eq, m_gI_I, m_gJ_J, m_gQ_Q, m_gO_O, m_hp_N, m_hp_N1, m_hp_N2, m_hp_N3, m_hp_N14, m_hp_N15, m_hp_N16, m_hp_N17, m_hp_N24, m_hp_N35, m_up_N, m_up_N1, m_up_N2, m_up_N14, m_up_N15, m_up_N16, m_up_N35, m_fN_len, m_fN_0, m_fN_1, m_fN_2, m_fN_3, m_fN_4, m_fN_5, m_fN_6, m_fN_7, m_fN_8, m_fN_9, m_fN_10, m_fN_11, m_fN_12, m_fN_13, m_fN_14, m_fN_15, m_fN_s7, m_fN_s8, m_fN_s11, m_fN_s12, m_fN_s13, m_fN_s14, m_fN_s15, v_in, v_cl, m_uf_ne, m_uf_eq, m_uf_uu, m_hp_Nr24, m_up_Nr24, hc, hm, hf, v_min, v_sub]
theorem lp_foreign {call : m_call} {r : m_R → m_S → Prop} {bd : Nat × Nat} {B n c da : Nat} {ar : Nat → Nat → Int32} {rq : Nat → Nat → Option Nat} {ou : Nat → Int64} {dy : Nat → m_C} (fr : Nat → Nat) (hB : B = 4 ∨ B = 40) (hc : c < 10) (hf : ∀ j, j < 6 → ar (B + 24 + 1 + c) j = nI (fr j)) :
    ∀ (m k : Nat), k + m = 6 → m_W1 (m_lk cd_X3_foreignOn) call r 41 [some (.ref B), some (.int (nI c)), some (.ref da), some (.int (nI (n_sum fr 6))), some (.int (nI 6))] [] bd (n, m_hp ar rq ou dy) → m_W1 (m_lk cd_X3_foreignOn) call r 16 [some (.ref B), some (.int (nI c)), some (.ref da), some (.int (nI (n_sum fr k))), some (.int (nI k))] [] bd (n, m_hp ar rq ou dy) := by
  intro m
  induction m with
  | zero =>
    intro k hk h
    have e : k = 6 := by omega
    subst e
    rw [st_X3_foreignOn_16]
    simp only [st_X3_foreignOn_18, st_X3_foreignOn_20, o_iload, o_aload, o_const, o_lconst, o_istore, o_astore, o_iinc, o_dup, o_dup2, o_pop, o_bin, o_div, o_un, o_mbin, o_mun, o_i2l, o_lcmp, o_ifeq, o_ifne, o_iflt, o_ifge, o_ifgt, o_ifle, o_icmpeq, o_icmpne, o_icmplt, o_icmpge, o_icmpgt, o_icmple, o_goto, o_getf, o_puti, o_putz, o_putr, o_iald, o_iast, o_zast, o_lald, o_last, o_aald, o_aast, o_alenO, o_new, o_newi, o_newl, o_newq, o_newqd, o_mna, o_copy, o_drop, o_cast, o_call, o_callx, o_callv, o_callvx, o_callh, o_sald, o_slen, o_switch, m_rcv, o_ireturn, o_zreturn, o_areturn, o_return, o_throw, o_null, o_dupx1, o_de, m_ent, List.getElem?_cons_zero, List.getElem?_cons_succ, List.getElem?_nil, List.set_cons_zero, List.set_cons_succ, List.length_cons, List.length_nil, List.map_cons, List.map_nil, List.replicate_succ, List.replicate_zero, List.take_succ_cons, List.take_zero, List.drop_succ_cons, List.drop_zero, List.reverse_cons, List.reverse_nil, List.cons_append, List.nil_append, List.append_nil, Option.toList_some, Option.toList_none, Nat.reduceAdd, Nat.reduceSub, Nat.reduceLeDiff, Nat.reduceLT, Nat.reduceEqDiff, Nat.le_refl, Nat.zero_le, Nat.zero_add, Nat.sub_zero, true_and, and_true, false_and, and_false, if_true, if_false, ite_true, ite_false, reduceIte, or_true, true_or, Option.isSome_some, not_true_eq_false, not_false_eq_true, forall_const, true_implies, false_implies, implies_true, ne_eq, m_gI_I, m_gJ_J, m_gQ_Q, m_gO_O]
    exact ⟨fun z => absurd z (i_nlt' (Nat.le_refl 6)), fun _ => h⟩
  | succ m ih =>
    intro k hk h
    have hk6 : k < 6 := by omega
    rw [st_X3_foreignOn_16]
    have h6 : nI k < 6 := i_lt hk6
    have hfk := hf k hk6
    simp (disch := omega) only [st_X3_foreignOn_18, st_X3_foreignOn_20, st_X3_foreignOn_23, st_X3_foreignOn_24, st_X3_foreignOn_25, st_X3_foreignOn_28, st_X3_foreignOn_29, st_X3_foreignOn_30, st_X3_foreignOn_32, st_X3_foreignOn_33, st_X3_foreignOn_34, st_X3_foreignOn_35, st_X3_foreignOn_38, o_iload, o_aload, o_const, o_lconst, o_istore, o_astore, o_iinc, o_dup, o_dup2, o_pop, o_bin, o_div, o_un, o_mbin, o_mun, o_i2l, o_lcmp, o_ifeq, o_ifne, o_iflt, o_ifge, o_ifgt, o_ifle, o_icmpeq, o_icmpne, o_icmplt, o_icmpge, o_icmpgt, o_icmple, o_goto, o_getf, o_puti, o_putz, o_putr, o_iald, o_iast, o_zast, o_lald, o_last, o_aald, o_aast, o_alenO, o_new, o_newi, o_newl, o_newq, o_newqd, o_mna, o_copy, o_drop, o_cast, o_call, o_callx, o_callv, o_callvx, o_callh, o_sald, o_slen, o_switch, m_rcv, o_ireturn, o_zreturn, o_areturn, o_return, o_throw, o_null, o_dupx1, o_de, m_ent, List.getElem?_cons_zero, List.getElem?_cons_succ, List.getElem?_nil, List.set_cons_zero, List.set_cons_succ, List.length_cons, List.length_nil, List.map_cons, List.map_nil, List.replicate_succ, List.replicate_zero, List.take_succ_cons, List.take_zero, List.drop_succ_cons, List.drop_zero, List.reverse_cons, List.reverse_nil, List.cons_append, List.nil_append, List.append_nil, Option.toList_some, Option.toList_none, Nat.reduceAdd, Nat.reduceSub, Nat.reduceLeDiff, Nat.reduceLT, Nat.reduceEqDiff, Nat.le_refl, Nat.zero_le, Nat.zero_add, Nat.sub_zero, true_and, and_true, false_and, and_false, if_true, if_false, ite_true, ite_false, reduceIte, or_true, true_or, Option.isSome_some, not_true_eq_false, not_false_eq_true, forall_const, true_implies, false_implies, implies_true, ne_eq, m_gI_I, m_gJ_J, m_gQ_Q, m_gO_O, m_hp_N, m_hp_N1, m_hp_N2, m_hp_N3, m_hp_N14, m_hp_N15, m_hp_N16, m_hp_N17, m_hp_N24, m_hp_N35, m_up_N, m_up_N1, m_up_N2, m_up_N14, m_up_N15, m_up_N16, m_up_N35, m_fN_len, m_fN_0, m_fN_1, m_fN_2, m_fN_3, m_fN_4, m_fN_5, m_fN_6, m_fN_7, m_fN_8, m_fN_9, m_fN_10, m_fN_11, m_fN_12, m_fN_13, m_fN_14, m_fN_15, m_fN_s7, m_fN_s8, m_fN_s11, m_fN_s12, m_fN_s13, m_fN_s14, m_fN_s15, v_in, v_cl, m_hp_Nr24, hc, h6, hfk, nI_1, v_add]
    exact ih (k + 1) (by omega) h
/-- what a demand takes of others on a cable: -1, or so many -/
def n_fo (wh : Nat) (fr : Nat → Nat) (ds dm : Nat) : Int32 := if wh = 0 ∨ n_sum fr 6 < ds then -1 else nI (ds - fr dm)
theorem e_foreignOn (d : Nat) {B n c da wh ds dm : Nat} {x1 x2 x4 : Int32} {fr : Nat → Nat} {ar : Nat → Nat → Int32} {rq : Nat → Nat → Option Nat} {ou : Nat → Int64} {dy : Nat → m_C} (hB : B = 4 ∨ B = 40) (hc : c < 10) (hw : ar (B + 2) c = nI wh) (hw1 : wh ≤ 1) (hda : 98 ≤ da) (hs : dy da = m_O 3 [.int (nI dm), .int x1, .int x2, .int (nI ds), .int x4]) (hdm : dm < 6) (hds : ds ≤ 100) (hf : ∀ j, j < 6 → ar (B + 24 + 1 + c) j = nI (fr j)) (hf8 : ∀ j, j < 6 → fr j ≤ 100) :
    m_Ev m_cds m_my (d + 1) 14 [.ref B, .int (nI c), .ref da] (n, m_hp ar rq ou dy) (.inl (some (.int (n_fo wh fr ds dm)))) (n, m_hp ar rq ou dy) := by
  refine m_go1 my_X3_foreignOn cs_X3_foreignOn (by first | trivial | rfl) (Nat.le_of_ble_eq_true rfl) rfl ?_
  have hsum := n_sum_le (k := 6) hf8
  have hfd := hf dm hdm
  have hfd8 := hf8 dm hdm
  simp (disch := omega) only [mt_X3_foreignOn, st_X3_foreignOn_0, st_X3_foreignOn_1, st_X3_foreignOn_4, st_X3_foreignOn_5, st_X3_foreignOn_6, st_X3_foreignOn_9, st_X3_foreignOn_10, st_X3_foreignOn_11, st_X3_foreignOn_12, st_X3_foreignOn_13, st_X3_foreignOn_14, o_iload, o_aload, o_const, o_lconst, o_istore, o_astore, o_iinc, o_dup, o_dup2, o_pop, o_bin, o_div, o_un, o_mbin, o_mun, o_i2l, o_lcmp, o_ifeq, o_ifne, o_iflt, o_ifge, o_ifgt, o_ifle, o_icmpeq, o_icmpne, o_icmplt, o_icmpge, o_icmpgt, o_icmple, o_goto, o_getf, o_puti, o_putz, o_putr, o_iald, o_iast, o_zast, o_lald, o_last, o_aald, o_aast, o_alenO, o_new, o_newi, o_newl, o_newq, o_newqd, o_mna, o_copy, o_drop, o_cast, o_call, o_callx, o_callv, o_callvx, o_callh, o_sald, o_slen, o_switch, m_rcv, o_ireturn, o_zreturn, o_areturn, o_return, o_throw, o_null, o_dupx1, o_de, m_ent, List.getElem?_cons_zero, List.getElem?_cons_succ, List.getElem?_nil, List.set_cons_zero, List.set_cons_succ, List.length_cons, List.length_nil, List.map_cons, List.map_nil, List.replicate_succ, List.replicate_zero, List.take_succ_cons, List.take_zero, List.drop_succ_cons, List.drop_zero, List.reverse_cons, List.reverse_nil, List.cons_append, List.nil_append, List.append_nil, Option.toList_some, Option.toList_none, Nat.reduceAdd, Nat.reduceSub, Nat.reduceLeDiff, Nat.reduceLT, Nat.reduceEqDiff, Nat.le_refl, Nat.zero_le, Nat.zero_add, Nat.sub_zero, true_and, and_true, false_and, and_false, if_true, if_false, ite_true, ite_false, reduceIte, or_true, true_or, Option.isSome_some, not_true_eq_false, not_false_eq_true, forall_const, true_implies, false_implies, implies_true, ne_eq, m_gI_I, m_gJ_J, m_gQ_Q, m_gO_O, m_hp_N, m_hp_N1, m_hp_N2, m_hp_N3, m_hp_N14, m_hp_N15, m_hp_N16, m_hp_N17, m_hp_N24, m_hp_N35, m_up_N, m_up_N1, m_up_N2, m_up_N14, m_up_N15, m_up_N16, m_up_N35, m_fN_len, m_fN_0, m_fN_1, m_fN_2, m_fN_3, m_fN_4, m_fN_5, m_fN_6, m_fN_7, m_fN_8, m_fN_9, m_fN_10, m_fN_11, m_fN_12, m_fN_13, m_fN_14, m_fN_15, m_fN_s7, m_fN_s8, m_fN_s11, m_fN_s12, m_fN_s13, m_fN_s14, m_fN_s15, v_in, v_cl, hw]
  rcases (show wh = 0 ∨ wh = 1 by omega) with rfl | rfl
  · refine ⟨fun _ => ?_, fun z => absurd rfl z⟩
    unfold n_fo
    rw [if_pos (Or.inl rfl)]
  · refine ⟨fun z => absurd z (by decide), fun _ => ?_⟩
    refine lp_foreign fr hB hc hf 6 0 rfl ?_
    have hcmp : (nI (n_sum fr 6) < nI ds) = (n_sum fr 6 < ds) := propext (nI_ltI (by omega) (by omega))
    simp (disch := omega) only [st_X3_foreignOn_41, st_X3_foreignOn_42, st_X3_foreignOn_43, st_X3_foreignOn_46, st_X3_foreignOn_49, st_X3_foreignOn_50, st_X3_foreignOn_51, st_X3_foreignOn_52, st_X3_foreignOn_53, st_X3_foreignOn_56, st_X3_foreignOn_57, st_X3_foreignOn_60, st_X3_foreignOn_61, st_X3_foreignOn_62, st_X3_foreignOn_63, st_X3_foreignOn_66, st_X3_foreignOn_67, st_X3_foreignOn_68, st_X3_foreignOn_71, o_iload, o_aload, o_const, o_lconst, o_istore, o_astore, o_iinc, o_dup, o_dup2, o_pop, o_bin, o_div, o_un, o_mbin, o_mun, o_i2l, o_lcmp, o_ifeq, o_ifne, o_iflt, o_ifge, o_ifgt, o_ifle, o_icmpeq, o_icmpne, o_icmplt, o_icmpge, o_icmpgt, o_icmple, o_goto, o_getf, o_puti, o_putz, o_putr, o_iald, o_iast, o_zast, o_lald, o_last, o_aald, o_aast, o_alenO, o_new, o_newi, o_newl, o_newq, o_newqd, o_mna, o_copy, o_drop, o_cast, o_call, o_callx, o_callv, o_callvx, o_callh, o_sald, o_slen, o_switch, m_rcv, o_ireturn, o_zreturn, o_areturn, o_return, o_throw, o_null, o_dupx1, o_de, m_ent, List.getElem?_cons_zero, List.getElem?_cons_succ, List.getElem?_nil, List.set_cons_zero, List.set_cons_succ, List.length_cons, List.length_nil, List.map_cons, List.map_nil, List.replicate_succ, List.replicate_zero, List.take_succ_cons, List.take_zero, List.drop_succ_cons, List.drop_zero, List.reverse_cons, List.reverse_nil, List.cons_append, List.nil_append, List.append_nil, Option.toList_some, Option.toList_none, Nat.reduceAdd, Nat.reduceSub, Nat.reduceLeDiff, Nat.reduceLT, Nat.reduceEqDiff, Nat.le_refl, Nat.zero_le, Nat.zero_add, Nat.sub_zero, true_and, and_true, false_and, and_false, if_true, if_false, ite_true, ite_false, reduceIte, or_true, true_or, Option.isSome_some, not_true_eq_false, not_false_eq_true, forall_const, true_implies, false_implies, implies_true, ne_eq, m_gI_I, m_gJ_J, m_gQ_Q, m_gO_O, m_hp_N, m_hp_N1, m_hp_N2, m_hp_N3, m_hp_N14, m_hp_N15, m_hp_N16, m_hp_N17, m_hp_N24, m_hp_N35, m_up_N, m_up_N1, m_up_N2, m_up_N14, m_up_N15, m_up_N16, m_up_N35, m_fN_len, m_fN_0, m_fN_1, m_fN_2, m_fN_3, m_fN_4, m_fN_5, m_fN_6, m_fN_7, m_fN_8, m_fN_9, m_fN_10, m_fN_11, m_fN_12, m_fN_13, m_fN_14, m_fN_15, m_fN_s7, m_fN_s8, m_fN_s11, m_fN_s12, m_fN_s13, m_fN_s14, m_fN_s15, v_in, v_cl, m_hp_dy, hs, hcmp, m_hp_Nr24, hc, hfd]
    refine ⟨fun z => ?_, fun z => ?_⟩
    · unfold n_fo
      rw [if_pos (Or.inr z)]
    · have hn : n_fo 1 fr ds dm = nI (ds - fr dm) := by
        unfold n_fo
        rw [if_neg (fun y => y.elim (by decide) (fun y => z y))]
      have hv : (if 0 < nI ds - nI (fr dm) then nI ds - nI (fr dm) else 0) = nI (ds - fr dm) := by
        by_cases h1 : fr dm ≤ ds
        · rw [v_sub h1]
          by_cases h2 : 0 < ds - fr dm
          · rw [if_pos (by show (0 : Int32) < _; exact nI_lt (a := 0) h2 (by omega))]
          · rw [if_neg (by intro y; exact absurd y (nI_nlt (a := 0) (by omega) (by omega))), show ds - fr dm = 0 by omega]; rfl
        · have h3 : nI ds - nI (fr dm) < 0 := pk_sneg (by omega) (by omega)
          rw [if_neg (fun y => Int32.lt_irrefl (Int32.lt_trans h3 y)), show ds - fr dm = 0 by omega]
          rfl
      rw [hv, hn]
