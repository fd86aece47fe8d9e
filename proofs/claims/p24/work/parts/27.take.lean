/-! Net.take: strands are taken, loans grow -/
theorem v_bit {m c : Nat} (hm : m < 2147483648) (hc : c < 10) : (nI m >>> (nI c &&& 31)) &&& 1 = nI (m / 2 ^ c % 2) := by
  have hs : ((nI c &&& 31).toBitVec.smod 32).toNat = c := m_fin (p := fun c => ((nI c &&& 31).toBitVec.smod 32).toNat = c) (n := 10) (by decide +kernel) c hc
  rw [pk_shrN hm _ c hs, pk_andN (n := m / 2 ^ c) (by have := Nat.div_le_self m (2 ^ c); omega) 1 (by decide)]
theorem v_e0 {m : Nat} (h : m < 2147483648) : (nI m = 0) = (m = 0) := propext (nI_eq (b := 0) h (by omega))
/-- what is left to take before the member o, and what is taken of it -/
def n_lf (fr : Nat → Nat) (dm ds : Nat) : Nat → Nat
  | 0 => ds - fr dm
  | o + 1 => n_lf fr dm ds o - (if o = dm then 0 else min (fr o) (n_lf fr dm ds o))
def n_tk (fr : Nat → Nat) (dm ds o : Nat) : Nat := if o = dm then 0 else min (fr o) (n_lf fr dm ds o)
theorem n_lf_s {fr : Nat → Nat} {dm ds o : Nat} : n_lf fr dm ds (o + 1) = n_lf fr dm ds o - n_tk fr dm ds o := rfl
theorem n_lf_le {fr : Nat → Nat} {dm ds : Nat} : ∀ o, n_lf fr dm ds o ≤ ds - fr dm := by
  intro o
  induction o with
  | zero => exact Nat.le_refl _
  | succ o ih => rw [n_lf_s]; omega
theorem n_tk_min {fr : Nat → Nat} {dm ds o : Nat} : min (if o = dm then fr dm - min (fr dm) ds else fr o) (n_lf fr dm ds o) = n_tk fr dm ds o := by
  unfold n_tk
  by_cases h : o = dm
  · rw [if_pos h, if_pos h]
    have := n_lf_le (fr := fr) (dm := dm) (ds := ds) o
    omega
  · rw [if_neg h, if_neg h]
/-- the free strands of a cable, behind -/
def n_ff (fr : Nat → Nat) (dm ds o : Nat) : Nat := if o = dm then fr dm - min (fr dm) ds else fr o - n_tk fr dm ds o
theorem lp_tk1 {d : Nat} {r : m_R → m_S → Prop} {bd : Nat × Nat} {B n di da ca c dm ds ln : Nat} {x1 x2 x4 y1 y2 y3 y4 y5 y7 : Int32} {fr L : Nat → Nat} {rq : Nat → Nat → Option Nat} {ou : Nat → Int64} {dy : Nat → m_C} (hB : B = 4 ∨ B = 40) (hc : c < 10) (hda : 98 ≤ da) (hs : dy da = m_O 3 [.int (nI dm), .int x1, .int x2, .int (nI ds), .int x4]) (hrc : rq (B + 1) c = some ca) (hca : 98 ≤ ca) (hcs : dy ca = m_O 1 [.int y1, .int y2, .int y3, .int y4, .int y5, .int (nI ln), .int y7]) (hdm : dm < 6) (hds : ds ≤ 100) (hf8 : ∀ j, j < 6 → fr j ≤ 100) :
    ∀ (m k : Nat), k + m = 6 → ∀ (ar : Nat → Nat → Int32) (x6 : Option Value), (∀ j, j < 6 → ar (B + 24 + 1 + c) j = nI (if j = dm then fr dm - min (fr dm) ds else if j < k then fr j - n_tk fr dm ds j else fr j)) → (∀ o, o < 6 → ar (B + 17 + 1 + dm) o = nI (if o < k then L o + n_tk fr dm ds o * ln else L o)) →
      (∀ (ar' : Nat → Nat → Int32) (x4 x5 x6 : Option Value), (∀ j, j < 6 → ar' (B + 24 + 1 + c) j = nI (n_ff fr dm ds j)) → (∀ o, o < 6 → ar' (B + 17 + 1 + dm) o = nI (L o + n_tk fr dm ds o * ln)) → (∀ x, x ≠ B + 24 + 1 + c → x ≠ B + 17 + 1 + dm → ar' x = ar x) → m_W1 (m_lk cd_X3_take) (m_Ev m_cds m_my (d + 1)) r 129 [some (.ref B), some (.int (nI di)), some (.ref da), some (.int (nI c)), x4, x5, x6] [] bd (n, m_hp ar' rq ou dy)) →
      m_W1 (m_lk cd_X3_take) (m_Ev m_cds m_my (d + 1)) r 71 [some (.ref B), some (.int (nI di)), some (.ref da), some (.int (nI c)), some (.int (nI (n_lf fr dm ds k))), some (.int (nI k)), x6] [] bd (n, m_hp ar rq ou dy) := by
  intro m
  induction m with
  | zero =>
    intro k hk ar x6 hf hL h
    have e : k = 6 := by omega
    subst e
    rw [st_X3_take_71]
    simp only [st_X3_take_73, st_X3_take_75, o_iload, o_aload, o_const, o_lconst, o_istore, o_astore, o_iinc, o_dup, o_dup2, o_pop, o_bin, o_div, o_un, o_mbin, o_mun, o_i2l, o_lcmp, o_ifeq, o_ifne, o_iflt, o_ifge, o_ifgt, o_ifle, o_icmpeq, o_icmpne, o_icmplt, o_icmpge, o_icmpgt, o_icmple, o_goto, o_getf, o_puti, o_putz, o_putr, o_iald, o_iast, o_zast, o_lald, o_last, o_aald, o_aast, o_alenO, o_new, o_newi, o_newl, o_newq, o_newqd, o_mna, o_copy, o_drop, o_cast, o_call, o_callx, o_callv, o_callvx, o_callh, o_sald, o_slen, o_switch, m_rcv, o_ireturn, o_zreturn, o_areturn, o_return, o_throw, o_null, o_dupx1, o_de, m_ent, List.getElem?_cons_zero, List.getElem?_cons_succ, List.getElem?_nil, List.set_cons_zero, List.set_cons_succ, List.length_cons, List.length_nil, List.map_cons, List.map_nil, List.replicate_succ, List.replicate_zero, List.take_succ_cons, List.take_zero, List.drop_succ_cons, List.drop_zero, List.reverse_cons, List.reverse_nil, List.cons_append, List.nil_append, List.append_nil, Option.toList_some, Option.toList_none, Nat.reduceAdd, Nat.reduceSub, Nat.reduceLeDiff, Nat.reduceLT, Nat.reduceEqDiff, Nat.le_refl, Nat.zero_le, Nat.zero_add, Nat.sub_zero, true_and, and_true, false_and, and_false, if_true, if_false, ite_true, ite_false, reduceIte, or_true, true_or, Option.isSome_some, not_true_eq_false, not_false_eq_true, forall_const, true_implies, false_implies, implies_true, ne_eq, m_gI_I, m_gJ_J, m_gQ_Q, m_gO_O]
    refine ⟨fun z => absurd z (i_nlt' (Nat.le_refl 6)), fun _ => h ar _ _ _ (fun j hj => ?_) (fun o ho => ?_) (fun _ _ _ => rfl)⟩
    · rw [hf j hj]
      unfold n_ff
      by_cases h1 : j = dm
      · rw [if_pos h1, if_pos h1]
      · rw [if_neg h1, if_neg h1, if_pos hj]
    · rw [hL o ho, if_pos ho]
  | succ m ih =>
    intro k hk ar x6 hf hL h
    have hk6 : k < 6 := by omega
    rw [st_X3_take_71]
    have h6 : nI k < 6 := i_lt hk6
    simp (disch := omega) only [st_X3_take_73, st_X3_take_75, st_X3_take_78, st_X3_take_79, st_X3_take_80, st_X3_take_82, st_X3_take_84, o_iload, o_aload, o_const, o_lconst, o_istore, o_astore, o_iinc, o_dup, o_dup2, o_pop, o_bin, o_div, o_un, o_mbin, o_mun, o_i2l, o_lcmp, o_ifeq, o_ifne, o_iflt, o_ifge, o_ifgt, o_ifle, o_icmpeq, o_icmpne, o_icmplt, o_icmpge, o_icmpgt, o_icmple, o_goto, o_getf, o_puti, o_putz, o_putr, o_iald, o_iast, o_zast, o_lald, o_last, o_aald, o_aast, o_alenO, o_new, o_newi, o_newl, o_newq, o_newqd, o_mna, o_copy, o_drop, o_cast, o_call, o_callx, o_callv, o_callvx, o_callh, o_sald, o_slen, o_switch, m_rcv, o_ireturn, o_zreturn, o_areturn, o_return, o_throw, o_null, o_dupx1, o_de, m_ent, List.getElem?_cons_zero, List.getElem?_cons_succ, List.getElem?_nil, List.set_cons_zero, List.set_cons_succ, List.length_cons, List.length_nil, List.map_cons, List.map_nil, List.replicate_succ, List.replicate_zero, List.take_succ_cons, List.take_zero, List.drop_succ_cons, List.drop_zero, List.reverse_cons, List.reverse_nil, List.cons_append, List.nil_append, List.append_nil, Option.toList_some, Option.toList_none, Nat.reduceAdd, Nat.reduceSub, Nat.reduceLeDiff, Nat.reduceLT, Nat.reduceEqDiff, Nat.le_refl, Nat.zero_le, Nat.zero_add, Nat.sub_zero, true_and, and_true, false_and, and_false, if_true, if_false, ite_true, ite_false, reduceIte, or_true, true_or, Option.isSome_some, not_true_eq_false, not_false_eq_true, forall_const, true_implies, false_implies, implies_true, ne_eq, m_gI_I, m_gJ_J, m_gQ_Q, m_gO_O, h6, m_hp_N, m_fN_len, m_fN_0, m_fN_1, m_fN_2, m_fN_3, m_fN_4, m_fN_5, m_fN_6, m_fN_7, m_fN_8, m_fN_9, m_fN_10, m_fN_11, m_fN_12, m_fN_13, m_fN_14, m_fN_15, m_fN_s7, m_fN_s8, m_fN_s11, m_fN_s12, m_fN_s13, m_fN_s14, m_fN_s15]
    have hlf := n_lf_le (fr := fr) (dm := dm) (ds := ds) k
    have hfk : ar (B + 24 + 1 + c) k = nI (if k = dm then fr dm - min (fr dm) ds else fr k) := by
      rw [hf k hk6]
      by_cases h1 : k = dm
      · rw [if_pos h1, if_pos h1]
      · rw [if_neg h1, if_neg h1, if_neg (Nat.lt_irrefl k)]
    have hfk8 : (if k = dm then fr dm - min (fr dm) ds else fr k) ≤ 100 := by
      have h1 := hf8 dm hdm
      have h2 := hf8 k hk6
      split <;> omega
    refine ⟨_, _, e_takeFrom d hB hc hk6 hfk (by omega) (by omega), ?_⟩
    rw [n_tk_min]
    have hLk : ar (B + 17 + 1 + dm) k = nI (L k) := by rw [hL k hk6, if_neg (Nat.lt_irrefl k)]
    have htl : n_tk fr dm ds k ≤ n_lf fr dm ds k := by unfold n_tk; split <;> omega
    simp (disch := omega) only [st_X3_take_87, st_X3_take_89, st_X3_take_91, st_X3_take_93, st_X3_take_94, st_X3_take_96, st_X3_take_97, st_X3_take_100, st_X3_take_101, st_X3_take_104, st_X3_take_105, st_X3_take_107, st_X3_take_108, st_X3_take_109, st_X3_take_111, st_X3_take_112, st_X3_take_115, st_X3_take_116, st_X3_take_117, st_X3_take_120, st_X3_take_121, st_X3_take_122, st_X3_take_123, st_X3_take_126, o_iload, o_aload, o_const, o_lconst, o_istore, o_astore, o_iinc, o_dup, o_dup2, o_pop, o_bin, o_div, o_un, o_mbin, o_mun, o_i2l, o_lcmp, o_ifeq, o_ifne, o_iflt, o_ifge, o_ifgt, o_ifle, o_icmpeq, o_icmpne, o_icmplt, o_icmpge, o_icmpgt, o_icmple, o_goto, o_getf, o_puti, o_putz, o_putr, o_iald, o_iast, o_zast, o_lald, o_last, o_aald, o_aast, o_alenO, o_new, o_newi, o_newl, o_newq, o_newqd, o_mna, o_copy, o_drop, o_cast, o_call, o_callx, o_callv, o_callvx, o_callh, o_sald, o_slen, o_switch, m_rcv, o_ireturn, o_zreturn, o_areturn, o_return, o_throw, o_null, o_dupx1, o_de, m_ent, List.getElem?_cons_zero, List.getElem?_cons_succ, List.getElem?_nil, List.set_cons_zero, List.set_cons_succ, List.length_cons, List.length_nil, List.map_cons, List.map_nil, List.replicate_succ, List.replicate_zero, List.take_succ_cons, List.take_zero, List.drop_succ_cons, List.drop_zero, List.reverse_cons, List.reverse_nil, List.cons_append, List.nil_append, List.append_nil, Option.toList_some, Option.toList_none, Nat.reduceAdd, Nat.reduceSub, Nat.reduceLeDiff, Nat.reduceLT, Nat.reduceEqDiff, Nat.le_refl, Nat.zero_le, Nat.zero_add, Nat.sub_zero, true_and, and_true, false_and, and_false, if_true, if_false, ite_true, ite_false, reduceIte, or_true, true_or, Option.isSome_some, not_true_eq_false, not_false_eq_true, forall_const, true_implies, false_implies, implies_true, ne_eq, m_gI_I, m_gJ_J, m_gQ_Q, m_gO_O, m_hp_N, m_hp_N1, m_hp_N2, m_hp_N3, m_hp_N14, m_hp_N15, m_hp_N16, m_hp_N17, m_hp_N24, m_hp_N35, m_fN_len, m_fN_0, m_fN_1, m_fN_2, m_fN_3, m_fN_4, m_fN_5, m_fN_6, m_fN_7, m_fN_8, m_fN_9, m_fN_10, m_fN_11, m_fN_12, m_fN_13, m_fN_14, m_fN_15, m_fN_s7, m_fN_s8, m_fN_s11, m_fN_s12, m_fN_s13, m_fN_s14, m_fN_s15, v_in, v_cl, nI_1, m_uf_ne, m_hp_dy, hs, hrc, hca, hcs, hdm, hc, m_hp_Nr17, m_up_Nr17, hLk, v_sub, v_mul, v_add]
    rw [← n_lf_s]
    refine ih (k + 1) (by omega) _ _ (fun j hj => ?_) (fun o ho => ?_) (fun ar' x4 x5 x6 h1 h2 h3 => h ar' x4 x5 x6 h1 h2 (fun x hx1 hx2 => by rw [h3 x hx1 hx2, m_uf_ne hx2, m_uf_ne hx1]))
    · rw [m_uf_ne (by omega), m_uf_eq]
      by_cases hjk : j = k
      · subst hjk
        rw [upd, if_pos rfl]
        by_cases h1 : j = dm
        · subst h1
          rw [if_pos rfl, if_pos rfl]
          have : n_tk fr j ds j = 0 := by unfold n_tk; rw [if_pos rfl]
          rw [this, Nat.sub_zero]
        · rw [if_neg h1, if_neg h1, if_pos (by omega)]
      · rw [upd, if_neg hjk, hf j hj]
        by_cases h1 : j = dm
        · rw [if_pos h1, if_pos h1]
        · rw [if_neg h1, if_neg h1]
          by_cases h2 : j < k
          · rw [if_pos h2, if_pos (by omega)]
          · rw [if_neg h2, if_neg (by omega)]
    · rw [m_uf_eq]
      by_cases hok : o = k
      · subst hok
        rw [upd, if_pos rfl, if_pos (by omega)]
      · rw [upd, if_neg hok, hL o ho]
        by_cases h2 : o < k
        · rw [if_pos h2, if_pos (by omega)]
        · rw [if_neg h2, if_neg (by omega)]
