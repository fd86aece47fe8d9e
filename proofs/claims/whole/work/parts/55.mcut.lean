/-! the model: cutOf, isSentTo, freeOf -/
def x_K (nk : Nat) (kb : Nat → Nat → Nat) (ar : Nat → Nat → Int32) : Prop := ar 94 12 = nI nk ∧ ∀ k, k < nk → ar 104 k = nI (kb k 0) ∧ ar 105 k = nI (kb k 1) ∧ ar 106 k = nI (kb k 2) ∧ ar 107 k = nI (kb k 3) ∧ kb k 0 < 10 ∧ kb k 1 ≤ 1000 ∧ kb k 2 ≤ 500 ∧ kb k 3 ≤ 5
/-- the first cut of a cable that is not mended, from the cut k on -/
def n_co (kb : Nat → Nat → Nat) (c : Nat) : Nat → Nat → Option Nat
  | 0, _ => none
  | m + 1, k => if kb k 0 = c ∧ kb k 3 < 5 then some k else n_co kb c m (k + 1)
theorem n_co_s {kb : Nat → Nat → Nat} {c m k : Nat} : n_co kb c (m + 1) k = if kb k 0 = c ∧ kb k 3 < 5 then some k else n_co kb c m (k + 1) := rfl
theorem lp_mco {call : m_call} {r : m_R → m_S → Prop} {bd : Nat × Nat} {n nk c : Nat} {kb : Nat → Nat → Nat} {ar : Nat → Nat → Int32} {rq : Nat → Nat → Option Nat} {ou : Nat → Int64} {dy : Nat → m_C} (hnk : nk ≤ 16) (hK : x_K nk kb ar) (hc : c < 10) :
    ∀ (m k : Nat), k + m = nk → r (.inl (some (.int (n_w (n_co kb c m k))))) (n, m_hp ar rq ou dy) → m_W1 (m_lk cd_X7_cutOf) call r 2 [some (.ref 94), some (.int (nI c)), some (.int (nI k))] [] bd (n, m_hp ar rq ou dy) := by
  intro m
  induction m with
  | zero =>
    intro k hk h
    have e : k = nk := by omega
    subst e
    have h12 := hK.1
    rw [st_X7_cutOf_2]
    simp (disch := omega) only [st_X7_cutOf_3, st_X7_cutOf_4, st_X7_cutOf_7, st_X7_cutOf_38, st_X7_cutOf_39, o_iload, o_aload, o_const, o_lconst, o_istore, o_astore, o_iinc, o_dup, o_dup2, o_pop, o_bin, o_div, o_un, o_mbin, o_mun, o_i2l, o_lcmp, o_ifeq, o_ifne, o_iflt, o_ifge, o_ifgt, o_ifle, o_icmpeq, o_icmpne, o_icmplt, o_icmpge, o_icmpgt, o_icmple, o_goto, o_getf, o_puti, o_putz, o_putr, o_iald, o_iast, o_zast, o_lald, o_last, o_aald, o_aast, o_alenO, o_new, o_newi, o_newl, o_newq, o_newqd, o_mna, o_copy, o_drop, o_cast, o_call, o_callx, o_callv, o_callvx, o_callh, o_sald, o_slen, o_switch, m_rcv, o_ireturn, o_zreturn, o_areturn, o_return, o_throw, o_null, o_dupx1, o_de, m_ent, List.getElem?_cons_zero, List.getElem?_cons_succ, List.getElem?_nil, List.set_cons_zero, List.set_cons_succ, List.length_cons, List.length_nil, List.map_cons, List.map_nil, List.replicate_succ, List.replicate_zero, List.take_succ_cons, List.take_zero, List.drop_succ_cons, List.drop_zero, List.reverse_cons, List.reverse_nil, List.cons_append, List.nil_append, List.append_nil, Option.toList_some, Option.toList_none, Nat.reduceAdd, Nat.reduceSub, Nat.reduceLeDiff, Nat.reduceLT, Nat.reduceEqDiff, Nat.le_refl, Nat.zero_le, Nat.zero_add, Nat.sub_zero, true_and, and_true, false_and, and_false, if_true, if_false, ite_true, ite_false, reduceIte, or_true, true_or, Option.isSome_some, not_true_eq_false, not_false_eq_true, forall_const, true_implies, false_implies, implies_true, ne_eq, m_gI_I, m_gJ_J, m_gQ_Q, m_gO_O, m_hp_94, m_fM_len, m_fM_0, m_fM_1, m_fM_2, m_fM_3, m_fM_4, m_fM_5, m_fM_6, m_fM_7, m_fM_8, m_fM_9, m_fM_10, m_fM_11, m_fM_12, m_fM_13, m_fM_14, m_fM_15, m_fM_16, m_fM_17, m_fM_18, m_fM_19, m_fM_20, m_fM_21, m_fM_22, m_fM_23, m_fM_24, m_fM_25, m_fM_26, m_fM_27, m_fM_28, m_fM_29, m_fM_30, m_fM_31, m_fM_32, m_fM_33, m_fM_34, m_fM_35, m_fM_s0, m_fM_s1, m_fM_s5, m_fM_s12, m_fM_s17, m_fM_s22, m_fM_s23, m_fM_s27, m_fM_s32, m_fM_s33, m_fM_s34, m_fM_s35, h12]
    exact ⟨fun z => absurd z Int32.lt_irrefl, fun _ => h⟩
  | succ m ih =>
    intro k hk h
    have h12 := hK.1
    have hkn : k < nk := by omega
    have hk16 : k < 16 := by omega
    obtain ⟨k1, _, _, k4, k5, _, _, k8⟩ := hK.2 k hkn
    have hlt : nI k < nI nk := nI_lt hkn (by omega)
    have z1 : (nI (kb k 0) = nI c) = (kb k 0 = c) := propext (nI_eq (by omega) (by omega))
    have z2 : (nI (kb k 3) < 5) = (kb k 3 < 5) := propext (nI_ltI (b := 5) (by omega) (by omega))
    rw [n_co_s] at h
    rw [st_X7_cutOf_2]
    simp (disch := omega) only [st_X7_cutOf_3, st_X7_cutOf_4, st_X7_cutOf_7, st_X7_cutOf_10, st_X7_cutOf_11, st_X7_cutOf_14, st_X7_cutOf_15, st_X7_cutOf_16, st_X7_cutOf_17, st_X7_cutOf_20, st_X7_cutOf_21, st_X7_cutOf_24, st_X7_cutOf_25, st_X7_cutOf_26, st_X7_cutOf_27, st_X7_cutOf_30, st_X7_cutOf_31, st_X7_cutOf_32, st_X7_cutOf_35, o_iload, o_aload, o_const, o_lconst, o_istore, o_astore, o_iinc, o_dup, o_dup2, o_pop, o_bin, o_div, o_un, o_mbin, o_mun, o_i2l, o_lcmp, o_ifeq, o_ifne, o_iflt, o_ifge, o_ifgt, o_ifle, o_icmpeq, o_icmpne, o_icmplt, o_icmpge, o_icmpgt, o_icmple, o_goto, o_getf, o_puti, o_putz, o_putr, o_iald, o_iast, o_zast, o_lald, o_last, o_aald, o_aast, o_alenO, o_new, o_newi, o_newl, o_newq, o_newqd, o_mna, o_copy, o_drop, o_cast, o_call, o_callx, o_callv, o_callvx, o_callh, o_sald, o_slen, o_switch, m_rcv, o_ireturn, o_zreturn, o_areturn, o_return, o_throw, o_null, o_dupx1, o_de, m_ent, List.getElem?_cons_zero, List.getElem?_cons_succ, List.getElem?_nil, List.set_cons_zero, List.set_cons_succ, List.length_cons, List.length_nil, List.map_cons, List.map_nil, List.replicate_succ, List.replicate_zero, List.take_succ_cons, List.take_zero, List.drop_succ_cons, List.drop_zero, List.reverse_cons, List.reverse_nil, List.cons_append, List.nil_append, List.append_nil, Option.toList_some, Option.toList_none, Nat.reduceAdd, Nat.reduceSub, Nat.reduceLeDiff, Nat.reduceLT, Nat.reduceEqDiff, Nat.le_refl, Nat.zero_le, Nat.zero_add, Nat.sub_zero, true_and, and_true, false_and, and_false, if_true, if_false, ite_true, ite_false, reduceIte, or_true, true_or, Option.isSome_some, not_true_eq_false, not_false_eq_true, forall_const, true_implies, false_implies, implies_true, ne_eq, m_gI_I, m_gJ_J, m_gQ_Q, m_gO_O, m_hp_94, m_fM_len, m_fM_0, m_fM_1, m_fM_2, m_fM_3, m_fM_4, m_fM_5, m_fM_6, m_fM_7, m_fM_8, m_fM_9, m_fM_10, m_fM_11, m_fM_12, m_fM_13, m_fM_14, m_fM_15, m_fM_16, m_fM_17, m_fM_18, m_fM_19, m_fM_20, m_fM_21, m_fM_22, m_fM_23, m_fM_24, m_fM_25, m_fM_26, m_fM_27, m_fM_28, m_fM_29, m_fM_30, m_fM_31, m_fM_32, m_fM_33, m_fM_34, m_fM_35, m_fM_s0, m_fM_s1, m_fM_s5, m_fM_s12, m_fM_s17, m_fM_s22, m_fM_s23, m_fM_s27, m_fM_s32, m_fM_s33, m_fM_s34, m_fM_s35, m_hp_104, m_hp_107, v_in, v_cl, h12, hlt, k1, k4, z1, z2, nI_1]
    refine ⟨fun y1 => ⟨fun y2 => ?_, fun y2 => ?_⟩, fun y1 => ?_⟩
    · rw [if_pos ⟨y1, y2⟩] at h
      exact h
    · rw [if_neg (fun y => y2 y.2)] at h
      exact ih (k + 1) (by omega) h
    · rw [if_neg (fun y => y1 y.1)] at h
      exact ih (k + 1) (by omega) h
theorem e_mcutOf (d : Nat) {n nk c : Nat} {kb : Nat → Nat → Nat} {ar : Nat → Nat → Int32} {rq : Nat → Nat → Option Nat} {ou : Nat → Int64} {dy : Nat → m_C} (hnk : nk ≤ 16) (hK : x_K nk kb ar) (hc : c < 10) :
    m_Ev m_cds m_my (d + 1) 76 [.ref 94, .int (nI c)] (n, m_hp ar rq ou dy) (.inl (some (.int (n_w (n_co kb c nk 0))))) (n, m_hp ar rq ou dy) := by
  refine m_go1 my_X7_cutOf cs_X7_cutOf (by first | trivial | rfl) (Nat.le_of_ble_eq_true rfl) rfl ?_
  simp (disch := omega) only [mt_X7_cutOf, st_X7_cutOf_0, st_X7_cutOf_1, o_iload, o_aload, o_const, o_lconst, o_istore, o_astore, o_iinc, o_dup, o_dup2, o_pop, o_bin, o_div, o_un, o_mbin, o_mun, o_i2l, o_lcmp, o_ifeq, o_ifne, o_iflt, o_ifge, o_ifgt, o_ifle, o_icmpeq, o_icmpne, o_icmplt, o_icmpge, o_icmpgt, o_icmple, o_goto, o_getf, o_puti, o_putz, o_putr, o_iald, o_iast, o_zast, o_lald, o_last, o_aald, o_aast, o_alenO, o_new, o_newi, o_newl, o_newq, o_newqd, o_mna, o_copy, o_drop, o_cast, o_call, o_callx, o_callv, o_callvx, o_callh, o_sald, o_slen, o_switch, m_rcv, o_ireturn, o_zreturn, o_areturn, o_return, o_throw, o_null, o_dupx1, o_de, m_ent, List.getElem?_cons_zero, List.getElem?_cons_succ, List.getElem?_nil, List.set_cons_zero, List.set_cons_succ, List.length_cons, List.length_nil, List.map_cons, List.map_nil, List.replicate_succ, List.replicate_zero, List.take_succ_cons, List.take_zero, List.drop_succ_cons, List.drop_zero, List.reverse_cons, List.reverse_nil, List.cons_append, List.nil_append, List.append_nil, Option.toList_some, Option.toList_none, Nat.reduceAdd, Nat.reduceSub, Nat.reduceLeDiff, Nat.reduceLT, Nat.reduceEqDiff, Nat.le_refl, Nat.zero_le, Nat.zero_add, Nat.sub_zero, true_and, and_true, false_and, and_false, if_true, if_false, ite_true, ite_false, reduceIte, or_true, true_or, Option.isSome_some, not_true_eq_false, not_false_eq_true, forall_const, true_implies, false_implies, implies_true, ne_eq, m_gI_I, m_gJ_J, m_gQ_Q, m_gO_O]
  exact lp_mco hnk hK hc nk 0 (by omega) ⟨rfl, rfl⟩
theorem n_co_lt {kb : Nat → Nat → Nat} {c : Nat} : ∀ {m k w : Nat}, n_co kb c m k = some w → k ≤ w ∧ w < k + m ∧ kb w 0 = c ∧ kb w 3 < 5 := by
  intro m
  induction m with
  | zero => intro k w h; cases h
  | succ m ih =>
    intro k w h
    rw [n_co_s] at h
    split at h
    · rename_i h1
      cases h
      exact ⟨Nat.le_refl _, by omega, h1.1, h1.2⟩
    · have h2 := ih h
      exact ⟨by omega, by omega, h2.2.2⟩
def x_S (ns : Nat) (sb : Nat → Nat → Nat) (sc : Nat → Option Nat) (ar : Nat → Nat → Int32) : Prop := ar 94 17 = nI ns ∧ (∀ s, s < ns → ar 108 s = nI (sb s 1) ∧ ar 109 s = nI (sb s 0) ∧ ar 110 s = nI (sb s 2) ∧ ar 111 s = n_w (sc s) ∧ sb s 0 ≤ 200 ∧ sb s 1 ≤ 1000 ∧ sb s 2 ≤ 10 ∧ ∀ k, sc s = some k → k < 16) ∧ ∀ s, ns ≤ s → s < 3 → ar 111 s = -1
/-- whether one of the ships behind s is sent to the cut k -/
def n_sx (sc : Nat → Option Nat) (k : Nat) (m s : Nat) (v : Int32) : Int32 := n_up (fun s v => if v = 0 then (if sc s = some k then 1 else 0) else 1) m s v
theorem n_sx_01 {sc : Nat → Option Nat} {k : Nat} : ∀ {m s : Nat} {v : Int32}, (v = 0 ∨ v = 1) → (n_sx sc k m s v = 0 ∨ n_sx sc k m s v = 1) := by
  intro m
  induction m with
  | zero => intro s v h; exact h
  | succ m ih =>
    intro s v h
    refine ih (v := if v = 0 then (if sc s = some k then 1 else 0) else 1) ?_
    split
    · split
      · exact Or.inr rfl
      · exact Or.inl rfl
    · exact Or.inr rfl
theorem n_sx_1 {sc : Nat → Option Nat} {k : Nat} : ∀ {m s : Nat}, n_sx sc k m s 1 = 1 := by
  intro m
  induction m with
  | zero => intro s; rfl
  | succ m ih =>
    intro s
    have e10 : ¬ (1 : Int32) = 0 := by decide
    show n_sx sc k m (s + 1) (if (1 : Int32) = 0 then (if sc s = some k then 1 else 0) else 1) = 1
    rw [if_neg e10]
    exact ih
theorem n_sx_0 {sc : Nat → Option Nat} {k : Nat} : ∀ {m s : Nat}, (n_sx sc k m s 0 = 0) ↔ ∀ t, s ≤ t → t < s + m → sc t ≠ some k := by
  intro m
  induction m with
  | zero => intro s; exact ⟨fun _ t h1 h2 => absurd h2 (by omega), fun _ => rfl⟩
  | succ m ih =>
    intro s
    have e : n_sx sc k (m + 1) s 0 = n_sx sc k m (s + 1) (if sc s = some k then 1 else 0) := by
      show n_sx sc k m (s + 1) (if (0 : Int32) = 0 then (if sc s = some k then 1 else 0) else 1) = _
      rw [if_pos rfl]
    rw [e]
    by_cases h : sc s = some k
    · rw [if_pos h, n_sx_1]
      exact ⟨fun z => absurd z (by decide), fun z => absurd h (z s (Nat.le_refl _) (by omega))⟩
    · rw [if_neg h, ih]
      refine ⟨fun z t h1 h2 => ?_, fun z t h1 h2 => z t (by omega) (by omega)⟩
      by_cases e2 : t = s
      · rw [e2]; exact h
      · exact z t (by omega) (by omega)
theorem lp_mst {call : m_call} {r : m_R → m_S → Prop} {bd : Nat × Nat} {n ns k : Nat} {sb : Nat → Nat → Nat} {sc : Nat → Option Nat} {ar : Nat → Nat → Int32} {rq : Nat → Nat → Option Nat} {ou : Nat → Int64} {dy : Nat → m_C} (hns : ns ≤ 3) (hS : x_S ns sb sc ar) (hk : k < 16) :
    ∀ (m s : Nat), s + m = ns → ∀ v : Int32, (v = 0 ∨ v = 1) → r (.inl (some (.int (n_sx sc k m s v)))) (n, m_hp ar rq ou dy) → m_W1 (m_lk cd_X7_isSentTo) call r 4 [some (.ref 94), some (.int (nI k)), some (.int v), some (.int (nI s))] [] bd (n, m_hp ar rq ou dy) := by
  intro m
  induction m with
  | zero =>
    intro s hs v hv h
    have e : s = ns := by omega
    subst e
    have h17 := hS.1
    rw [st_X7_isSentTo_4]
    simp (disch := omega) only [st_X7_isSentTo_5, st_X7_isSentTo_6, st_X7_isSentTo_9, st_X7_isSentTo_38, st_X7_isSentTo_39, o_iload, o_aload, o_const, o_lconst, o_istore, o_astore, o_iinc, o_dup, o_dup2, o_pop, o_bin, o_div, o_un, o_mbin, o_mun, o_i2l, o_lcmp, o_ifeq, o_ifne, o_iflt, o_ifge, o_ifgt, o_ifle, o_icmpeq, o_icmpne, o_icmplt, o_icmpge, o_icmpgt, o_icmple, o_goto, o_getf, o_puti, o_putz, o_putr, o_iald, o_iast, o_zast, o_lald, o_last, o_aald, o_aast, o_alenO, o_new, o_newi, o_newl, o_newq, o_newqd, o_mna, o_copy, o_drop, o_cast, o_call, o_callx, o_callv, o_callvx, o_callh, o_sald, o_slen, o_switch, m_rcv, o_ireturn, o_zreturn, o_areturn, o_return, o_throw, o_null, o_dupx1, o_de, m_ent, List.getElem?_cons_zero, List.getElem?_cons_succ, List.getElem?_nil, List.set_cons_zero, List.set_cons_succ, List.length_cons, List.length_nil, List.map_cons, List.map_nil, List.replicate_succ, List.replicate_zero, List.take_succ_cons, List.take_zero, List.drop_succ_cons, List.drop_zero, List.reverse_cons, List.reverse_nil, List.cons_append, List.nil_append, List.append_nil, Option.toList_some, Option.toList_none, Nat.reduceAdd, Nat.reduceSub, Nat.reduceLeDiff, Nat.reduceLT, Nat.reduceEqDiff, Nat.le_refl, Nat.zero_le, Nat.zero_add, Nat.sub_zero, true_and, and_true, false_and, and_false, if_true, if_false, ite_true, ite_false, reduceIte, or_true, true_or, Option.isSome_some, not_true_eq_false, not_false_eq_true, forall_const, true_implies, false_implies, implies_true, ne_eq, m_gI_I, m_gJ_J, m_gQ_Q, m_gO_O, m_hp_94, m_fM_len, m_fM_0, m_fM_1, m_fM_2, m_fM_3, m_fM_4, m_fM_5, m_fM_6, m_fM_7, m_fM_8, m_fM_9, m_fM_10, m_fM_11, m_fM_12, m_fM_13, m_fM_14, m_fM_15, m_fM_16, m_fM_17, m_fM_18, m_fM_19, m_fM_20, m_fM_21, m_fM_22, m_fM_23, m_fM_24, m_fM_25, m_fM_26, m_fM_27, m_fM_28, m_fM_29, m_fM_30, m_fM_31, m_fM_32, m_fM_33, m_fM_34, m_fM_35, m_fM_s0, m_fM_s1, m_fM_s5, m_fM_s12, m_fM_s17, m_fM_s22, m_fM_s23, m_fM_s27, m_fM_s32, m_fM_s33, m_fM_s34, m_fM_s35, h17]
    exact ⟨fun z => absurd z Int32.lt_irrefl, fun _ => ⟨hv, h⟩⟩
  | succ m ih =>
    intro s hs v hv h
    have h17 := hS.1
    have hsn : s < ns := by omega
    have hs3 : s < 3 := by omega
    obtain ⟨_, _, _, s4, _, _, _, s8⟩ := hS.2.1 s hsn
    have hlt : nI s < nI ns := nI_lt hsn (by omega)
    have he := n_w_eq (o := sc s) (k := k) (fun w e => Nat.lt_trans (s8 w e) (by omega)) (by omega)
    have hst : n_sx sc k (m + 1) s v = n_sx sc k m (s + 1) (if v = 0 then (if sc s = some k then 1 else 0) else 1) := rfl
    rw [hst] at h
    rw [st_X7_isSentTo_4]
    simp (disch := omega) only [st_X7_isSentTo_5, st_X7_isSentTo_6, st_X7_isSentTo_9, st_X7_isSentTo_12, st_X7_isSentTo_13, st_X7_isSentTo_16, st_X7_isSentTo_17, st_X7_isSentTo_20, st_X7_isSentTo_21, st_X7_isSentTo_22, st_X7_isSentTo_23, st_X7_isSentTo_26, st_X7_isSentTo_27, st_X7_isSentTo_30, st_X7_isSentTo_31, st_X7_isSentTo_32, st_X7_isSentTo_35, o_iload, o_aload, o_const, o_lconst, o_istore, o_astore, o_iinc, o_dup, o_dup2, o_pop, o_bin, o_div, o_un, o_mbin, o_mun, o_i2l, o_lcmp, o_ifeq, o_ifne, o_iflt, o_ifge, o_ifgt, o_ifle, o_icmpeq, o_icmpne, o_icmplt, o_icmpge, o_icmpgt, o_icmple, o_goto, o_getf, o_puti, o_putz, o_putr, o_iald, o_iast, o_zast, o_lald, o_last, o_aald, o_aast, o_alenO, o_new, o_newi, o_newl, o_newq, o_newqd, o_mna, o_copy, o_drop, o_cast, o_call, o_callx, o_callv, o_callvx, o_callh, o_sald, o_slen, o_switch, m_rcv, o_ireturn, o_zreturn, o_areturn, o_return, o_throw, o_null, o_dupx1, o_de, m_ent, List.getElem?_cons_zero, List.getElem?_cons_succ, List.getElem?_nil, List.set_cons_zero, List.set_cons_succ, List.length_cons, List.length_nil, List.map_cons, List.map_nil, List.replicate_succ, List.replicate_zero, List.take_succ_cons, List.take_zero, List.drop_succ_cons, List.drop_zero, List.reverse_cons, List.reverse_nil, List.cons_append, List.nil_append, List.append_nil, Option.toList_some, Option.toList_none, Nat.reduceAdd, Nat.reduceSub, Nat.reduceLeDiff, Nat.reduceLT, Nat.reduceEqDiff, Nat.le_refl, Nat.zero_le, Nat.zero_add, Nat.sub_zero, true_and, and_true, false_and, and_false, if_true, if_false, ite_true, ite_false, reduceIte, or_true, true_or, Option.isSome_some, not_true_eq_false, not_false_eq_true, forall_const, true_implies, false_implies, implies_true, ne_eq, m_gI_I, m_gJ_J, m_gQ_Q, m_gO_O, m_hp_94, m_fM_len, m_fM_0, m_fM_1, m_fM_2, m_fM_3, m_fM_4, m_fM_5, m_fM_6, m_fM_7, m_fM_8, m_fM_9, m_fM_10, m_fM_11, m_fM_12, m_fM_13, m_fM_14, m_fM_15, m_fM_16, m_fM_17, m_fM_18, m_fM_19, m_fM_20, m_fM_21, m_fM_22, m_fM_23, m_fM_24, m_fM_25, m_fM_26, m_fM_27, m_fM_28, m_fM_29, m_fM_30, m_fM_31, m_fM_32, m_fM_33, m_fM_34, m_fM_35, m_fM_s0, m_fM_s1, m_fM_s5, m_fM_s12, m_fM_s17, m_fM_s22, m_fM_s23, m_fM_s27, m_fM_s32, m_fM_s33, m_fM_s34, m_fM_s35, m_hp_111, v_in, v_cl, h17, hlt, s4, he, nI_1]
    refine ⟨fun y1 => ⟨fun y2 => ?_, fun y2 => ?_⟩, fun y1 => ?_⟩
    · rw [if_pos y1, if_pos y2] at h
      exact ih (s + 1) (by omega) 1 (Or.inr rfl) h
    · rw [if_pos y1, if_neg y2] at h
      exact ih (s + 1) (by omega) 0 (Or.inl rfl) h
    · rw [if_neg y1] at h
      exact ih (s + 1) (by omega) 1 (Or.inr rfl) h
theorem e_misSentTo (d : Nat) {n ns k : Nat} {sb : Nat → Nat → Nat} {sc : Nat → Option Nat} {ar : Nat → Nat → Int32} {rq : Nat → Nat → Option Nat} {ou : Nat → Int64} {dy : Nat → m_C} (hns : ns ≤ 3) (hS : x_S ns sb sc ar) (hk : k < 16) :
    m_Ev m_cds m_my (d + 1) 79 [.ref 94, .int (nI k)] (n, m_hp ar rq ou dy) (.inl (some (.int (n_sx sc k ns 0 0)))) (n, m_hp ar rq ou dy) := by
  refine m_go1 my_X7_isSentTo cs_X7_isSentTo (by first | trivial | rfl) (Nat.le_of_ble_eq_true rfl) rfl ?_
  simp (disch := omega) only [mt_X7_isSentTo, st_X7_isSentTo_0, st_X7_isSentTo_1, st_X7_isSentTo_2, st_X7_isSentTo_3, o_iload, o_aload, o_const, o_lconst, o_istore, o_astore, o_iinc, o_dup, o_dup2, o_pop, o_bin, o_div, o_un, o_mbin, o_mun, o_i2l, o_lcmp, o_ifeq, o_ifne, o_iflt, o_ifge, o_ifgt, o_ifle, o_icmpeq, o_icmpne, o_icmplt, o_icmpge, o_icmpgt, o_icmple, o_goto, o_getf, o_puti, o_putz, o_putr, o_iald, o_iast, o_zast, o_lald, o_last, o_aald, o_aast, o_alenO, o_new, o_newi, o_newl, o_newq, o_newqd, o_mna, o_copy, o_drop, o_cast, o_call, o_callx, o_callv, o_callvx, o_callh, o_sald, o_slen, o_switch, m_rcv, o_ireturn, o_zreturn, o_areturn, o_return, o_throw, o_null, o_dupx1, o_de, m_ent, List.getElem?_cons_zero, List.getElem?_cons_succ, List.getElem?_nil, List.set_cons_zero, List.set_cons_succ, List.length_cons, List.length_nil, List.map_cons, List.map_nil, List.replicate_succ, List.replicate_zero, List.take_succ_cons, List.take_zero, List.drop_succ_cons, List.drop_zero, List.reverse_cons, List.reverse_nil, List.cons_append, List.nil_append, List.append_nil, Option.toList_some, Option.toList_none, Nat.reduceAdd, Nat.reduceSub, Nat.reduceLeDiff, Nat.reduceLT, Nat.reduceEqDiff, Nat.le_refl, Nat.zero_le, Nat.zero_add, Nat.sub_zero, true_and, and_true, false_and, and_false, if_true, if_false, ite_true, ite_false, reduceIte, or_true, true_or, Option.isSome_some, not_true_eq_false, not_false_eq_true, forall_const, true_implies, false_implies, implies_true, ne_eq, m_gI_I, m_gJ_J, m_gQ_Q, m_gO_O]
  exact lp_mst hns hS hk ns 0 (by omega) 0 (Or.inl rfl) ⟨rfl, rfl⟩
/-- the model's free strands -/
def x_F (nc : Nat) (fr : Nat → Nat → Nat) (ar : Nat → Nat → Int32) : Prop := ∀ c, c < nc → ∀ j, j < 6 → ar 115 (6 * c + j) = nI (fr c j)
theorem lp_mfo {call : m_call} {r : m_R → m_S → Prop} {bd : Nat × Nat} {n nc c : Nat} {fr : Nat → Nat → Nat} {ar : Nat → Nat → Int32} {rq : Nat → Nat → Option Nat} {ou : Nat → Int64} {dy : Nat → m_C} (hnc : nc ≤ 10) (hF : x_F nc fr ar) (hc : c < nc) :
    ∀ (m k : Nat), k + m = 6 → r (.inl (some (.int (nI (n_sum (fr c) 6))))) (n, m_hp ar rq ou dy) → m_W1 (m_lk cd_X7_freeOf) call r 4 [some (.ref 94), some (.int (nI c)), some (.int (nI (n_sum (fr c) k))), some (.int (nI k))] [] bd (n, m_hp ar rq ou dy) := by
  intro m
  induction m with
  | zero =>
    intro k hk h
    have e : k = 6 := by omega
    subst e
    rw [st_X7_freeOf_4]
    simp (disch := omega) only [st_X7_freeOf_5, st_X7_freeOf_7, st_X7_freeOf_10, st_X7_freeOf_11, st_X7_freeOf_12, st_X7_freeOf_15, st_X7_freeOf_17, st_X7_freeOf_18, st_X7_freeOf_19, st_X7_freeOf_20, st_X7_freeOf_21, st_X7_freeOf_22, st_X7_freeOf_23, st_X7_freeOf_24, st_X7_freeOf_27, st_X7_freeOf_30, st_X7_freeOf_31, o_iload, o_aload, o_const, o_lconst, o_istore, o_astore, o_iinc, o_dup, o_dup2, o_pop, o_bin, o_div, o_un, o_mbin, o_mun, o_i2l, o_lcmp, o_ifeq, o_ifne, o_iflt, o_ifge, o_ifgt, o_ifle, o_icmpeq, o_icmpne, o_icmplt, o_icmpge, o_icmpgt, o_icmple, o_goto, o_getf, o_puti, o_putz, o_putr, o_iald, o_iast, o_zast, o_lald, o_last, o_aald, o_aast, o_alenO, o_new, o_newi, o_newl, o_newq, o_newqd, o_mna, o_copy, o_drop, o_cast, o_call, o_callx, o_callv, o_callvx, o_callh, o_sald, o_slen, o_switch, m_rcv, o_ireturn, o_zreturn, o_areturn, o_return, o_throw, o_null, o_dupx1, o_de, m_ent, List.getElem?_cons_zero, List.getElem?_cons_succ, List.getElem?_nil, List.set_cons_zero, List.set_cons_succ, List.length_cons, List.length_nil, List.map_cons, List.map_nil, List.replicate_succ, List.replicate_zero, List.take_succ_cons, List.take_zero, List.drop_succ_cons, List.drop_zero, List.reverse_cons, List.reverse_nil, List.cons_append, List.nil_append, List.append_nil, Option.toList_some, Option.toList_none, Nat.reduceAdd, Nat.reduceSub, Nat.reduceLeDiff, Nat.reduceLT, Nat.reduceEqDiff, Nat.le_refl, Nat.zero_le, Nat.zero_add, Nat.sub_zero, true_and, and_true, false_and, and_false, if_true, if_false, ite_true, ite_false, reduceIte, or_true, true_or, Option.isSome_some, not_true_eq_false, not_false_eq_true, forall_const, true_implies, false_implies, implies_true, ne_eq, m_gI_I, m_gJ_J, m_gQ_Q, m_gO_O]
    exact ⟨fun z => absurd z (i_nlt' (Nat.le_refl 6)), fun _ => h⟩
  | succ m ih =>
    intro k hk h
    have hk6 : k < 6 := by omega
    have h6 : nI k < 6 := i_lt hk6
    have hf := hF c hc k hk6
    have hm : (6 : Int32) * nI c = nI (6 * c) := v_mul 6 c
    rw [st_X7_freeOf_4]
    simp (disch := omega) only [st_X7_freeOf_5, st_X7_freeOf_7, st_X7_freeOf_10, st_X7_freeOf_11, st_X7_freeOf_12, st_X7_freeOf_15, st_X7_freeOf_17, st_X7_freeOf_18, st_X7_freeOf_19, st_X7_freeOf_20, st_X7_freeOf_21, st_X7_freeOf_22, st_X7_freeOf_23, st_X7_freeOf_24, st_X7_freeOf_27, st_X7_freeOf_30, st_X7_freeOf_31, o_iload, o_aload, o_const, o_lconst, o_istore, o_astore, o_iinc, o_dup, o_dup2, o_pop, o_bin, o_div, o_un, o_mbin, o_mun, o_i2l, o_lcmp, o_ifeq, o_ifne, o_iflt, o_ifge, o_ifgt, o_ifle, o_icmpeq, o_icmpne, o_icmplt, o_icmpge, o_icmpgt, o_icmple, o_goto, o_getf, o_puti, o_putz, o_putr, o_iald, o_iast, o_zast, o_lald, o_last, o_aald, o_aast, o_alenO, o_new, o_newi, o_newl, o_newq, o_newqd, o_mna, o_copy, o_drop, o_cast, o_call, o_callx, o_callv, o_callvx, o_callh, o_sald, o_slen, o_switch, m_rcv, o_ireturn, o_zreturn, o_areturn, o_return, o_throw, o_null, o_dupx1, o_de, m_ent, List.getElem?_cons_zero, List.getElem?_cons_succ, List.getElem?_nil, List.set_cons_zero, List.set_cons_succ, List.length_cons, List.length_nil, List.map_cons, List.map_nil, List.replicate_succ, List.replicate_zero, List.take_succ_cons, List.take_zero, List.drop_succ_cons, List.drop_zero, List.reverse_cons, List.reverse_nil, List.cons_append, List.nil_append, List.append_nil, Option.toList_some, Option.toList_none, Nat.reduceAdd, Nat.reduceSub, Nat.reduceLeDiff, Nat.reduceLT, Nat.reduceEqDiff, Nat.le_refl, Nat.zero_le, Nat.zero_add, Nat.sub_zero, true_and, and_true, false_and, and_false, if_true, if_false, ite_true, ite_false, reduceIte, or_true, true_or, Option.isSome_some, not_true_eq_false, not_false_eq_true, forall_const, true_implies, false_implies, implies_true, ne_eq, m_gI_I, m_gJ_J, m_gQ_Q, m_gO_O, m_hp_94, m_fM_len, m_fM_0, m_fM_1, m_fM_2, m_fM_3, m_fM_4, m_fM_5, m_fM_6, m_fM_7, m_fM_8, m_fM_9, m_fM_10, m_fM_11, m_fM_12, m_fM_13, m_fM_14, m_fM_15, m_fM_16, m_fM_17, m_fM_18, m_fM_19, m_fM_20, m_fM_21, m_fM_22, m_fM_23, m_fM_24, m_fM_25, m_fM_26, m_fM_27, m_fM_28, m_fM_29, m_fM_30, m_fM_31, m_fM_32, m_fM_33, m_fM_34, m_fM_35, m_fM_s0, m_fM_s1, m_fM_s5, m_fM_s12, m_fM_s17, m_fM_s22, m_fM_s23, m_fM_s27, m_fM_s32, m_fM_s33, m_fM_s34, m_fM_s35, m_hp_115, v_in, v_cl, h6, hm, v_add, hf, nI_1]
    exact ih (k + 1) (by omega) h
theorem e_mfreeOf (d : Nat) {n nc c : Nat} {fr : Nat → Nat → Nat} {ar : Nat → Nat → Int32} {rq : Nat → Nat → Option Nat} {ou : Nat → Int64} {dy : Nat → m_C} (hnc : nc ≤ 10) (hF : x_F nc fr ar) (hc : c < nc) :
    m_Ev m_cds m_my (d + 1) 83 [.ref 94, .int (nI c)] (n, m_hp ar rq ou dy) (.inl (some (.int (nI (n_sum (fr c) 6))))) (n, m_hp ar rq ou dy) := by
  refine m_go1 my_X7_freeOf cs_X7_freeOf (by first | trivial | rfl) (Nat.le_of_ble_eq_true rfl) rfl ?_
  simp (disch := omega) only [mt_X7_freeOf, st_X7_freeOf_0, st_X7_freeOf_1, st_X7_freeOf_2, st_X7_freeOf_3, o_iload, o_aload, o_const, o_lconst, o_istore, o_astore, o_iinc, o_dup, o_dup2, o_pop, o_bin, o_div, o_un, o_mbin, o_mun, o_i2l, o_lcmp, o_ifeq, o_ifne, o_iflt, o_ifge, o_ifgt, o_ifle, o_icmpeq, o_icmpne, o_icmplt, o_icmpge, o_icmpgt, o_icmple, o_goto, o_getf, o_puti, o_putz, o_putr, o_iald, o_iast, o_zast, o_lald, o_last, o_aald, o_aast, o_alenO, o_new, o_newi, o_newl, o_newq, o_newqd, o_mna, o_copy, o_drop, o_cast, o_call, o_callx, o_callv, o_callvx, o_callh, o_sald, o_slen, o_switch, m_rcv, o_ireturn, o_zreturn, o_areturn, o_return, o_throw, o_null, o_dupx1, o_de, m_ent, List.getElem?_cons_zero, List.getElem?_cons_succ, List.getElem?_nil, List.set_cons_zero, List.set_cons_succ, List.length_cons, List.length_nil, List.map_cons, List.map_nil, List.replicate_succ, List.replicate_zero, List.take_succ_cons, List.take_zero, List.drop_succ_cons, List.drop_zero, List.reverse_cons, List.reverse_nil, List.cons_append, List.nil_append, List.append_nil, Option.toList_some, Option.toList_none, Nat.reduceAdd, Nat.reduceSub, Nat.reduceLeDiff, Nat.reduceLT, Nat.reduceEqDiff, Nat.le_refl, Nat.zero_le, Nat.zero_add, Nat.sub_zero, true_and, and_true, false_and, and_false, if_true, if_false, ite_true, ite_false, reduceIte, or_true, true_or, Option.isSome_some, not_true_eq_false, not_false_eq_true, forall_const, true_implies, false_implies, implies_true, ne_eq, m_gI_I, m_gJ_J, m_gQ_Q, m_gO_O]
  exact lp_mfo hnc hF hc 6 0 rfl ⟨rfl, rfl⟩
/-- what a demand would take of others on a cable, in the model: with the round -/
def n_mo (kb : Nat → Nat → Nat) (nk : Nat) (fr : Nat → Nat → Nat) (own : Bool) (dm ds c : Nat) : Option Nat := if n_co kb c nk 0 ≠ none ∨ n_sum (fr c) 6 < ds ∨ (own = true ∧ fr c dm < ds) then none else some (ds - fr c dm)
def n_b (b : Bool) : Int32 := if b = true then 1 else 0
theorem n_b_0 {b : Bool} : (n_b b = 0) = (¬ b = true) := by
  cases b
  · simp [n_b]
  · simp [n_b]
theorem e_mlentOn (d : Nat) {n nc nk c dm ds : Nat} {own : Bool} {kb : Nat → Nat → Nat} {fr : Nat → Nat → Nat} {ar : Nat → Nat → Int32} {rq : Nat → Nat → Option Nat} {ou : Nat → Int64} {dy : Nat → m_C} (hnc : nc ≤ 10) (hnk : nk ≤ 16) (hK : x_K nk kb ar) (hF : x_F nc fr ar) (hf8 : ∀ c, c < nc → ∀ j, j < 6 → fr c j ≤ 100) (hc : c < nc) (hdm : dm < 6) (hds : ds ≤ 100) :
    m_Ev m_cds m_my (d + 2) 84 [.ref 94, .int (nI c), .int (nI dm), .int (nI ds), .int (n_b own)] (n, m_hp ar rq ou dy) (.inl (some (.int (n_w (n_mo kb nk fr own dm ds c))))) (n, m_hp ar rq ou dy) := by
  have hm : (6 : Int32) * nI c = nI (6 * c) := v_mul 6 c
  have hf := hF c hc dm hdm
  have hf1 := hf8 c hc dm hdm
  have hsum := n_sum_le (k := 6) (hf8 c hc)
  have he := n_w_none (o := n_co kb c nk 0) (fun w e => by have := (n_co_lt e).2.1; omega)
  have z1 : (nI (n_sum (fr c) 6) < nI ds) = (n_sum (fr c) 6 < ds) := propext (nI_ltI (by omega) (by omega))
  have z2 : (nI (fr c dm) < nI ds) = (fr c dm < ds) := propext (nI_ltI (by omega) (by omega))
  refine m_go1 my_X7_lentOn cs_X7_lentOn (by first | trivial | rfl) (Nat.le_of_ble_eq_true rfl) rfl ?_
  simp (disch := omega) only [mt_X7_lentOn, st_X7_lentOn_0, st_X7_lentOn_1, st_X7_lentOn_4, st_X7_lentOn_6, st_X7_lentOn_7, st_X7_lentOn_8, st_X7_lentOn_9, st_X7_lentOn_10, st_X7_lentOn_11, st_X7_lentOn_13, st_X7_lentOn_14, st_X7_lentOn_15, o_iload, o_aload, o_const, o_lconst, o_istore, o_astore, o_iinc, o_dup, o_dup2, o_pop, o_bin, o_div, o_un, o_mbin, o_mun, o_i2l, o_lcmp, o_ifeq, o_ifne, o_iflt, o_ifge, o_ifgt, o_ifle, o_icmpeq, o_icmpne, o_icmplt, o_icmpge, o_icmpgt, o_icmple, o_goto, o_getf, o_puti, o_putz, o_putr, o_iald, o_iast, o_zast, o_lald, o_last, o_aald, o_aast, o_alenO, o_new, o_newi, o_newl, o_newq, o_newqd, o_mna, o_copy, o_drop, o_cast, o_call, o_callx, o_callv, o_callvx, o_callh, o_sald, o_slen, o_switch, m_rcv, o_ireturn, o_zreturn, o_areturn, o_return, o_throw, o_null, o_dupx1, o_de, m_ent, List.getElem?_cons_zero, List.getElem?_cons_succ, List.getElem?_nil, List.set_cons_zero, List.set_cons_succ, List.length_cons, List.length_nil, List.map_cons, List.map_nil, List.replicate_succ, List.replicate_zero, List.take_succ_cons, List.take_zero, List.drop_succ_cons, List.drop_zero, List.reverse_cons, List.reverse_nil, List.cons_append, List.nil_append, List.append_nil, Option.toList_some, Option.toList_none, Nat.reduceAdd, Nat.reduceSub, Nat.reduceLeDiff, Nat.reduceLT, Nat.reduceEqDiff, Nat.le_refl, Nat.zero_le, Nat.zero_add, Nat.sub_zero, true_and, and_true, false_and, and_false, if_true, if_false, ite_true, ite_false, reduceIte, or_true, true_or, Option.isSome_some, not_true_eq_false, not_false_eq_true, forall_const, true_implies, false_implies, implies_true, ne_eq, m_gI_I, m_gJ_J, m_gQ_Q, m_gO_O, m_hp_94, m_fM_len, m_fM_0, m_fM_1, m_fM_2, m_fM_3, m_fM_4, m_fM_5, m_fM_6, m_fM_7, m_fM_8, m_fM_9, m_fM_10, m_fM_11, m_fM_12, m_fM_13, m_fM_14, m_fM_15, m_fM_16, m_fM_17, m_fM_18, m_fM_19, m_fM_20, m_fM_21, m_fM_22, m_fM_23, m_fM_24, m_fM_25, m_fM_26, m_fM_27, m_fM_28, m_fM_29, m_fM_30, m_fM_31, m_fM_32, m_fM_33, m_fM_34, m_fM_35, m_fM_s0, m_fM_s1, m_fM_s5, m_fM_s12, m_fM_s17, m_fM_s22, m_fM_s23, m_fM_s27, m_fM_s32, m_fM_s33, m_fM_s34, m_fM_s35, m_hp_115, v_in, v_cl, hm, v_add, hf]
  refine ⟨_, _, e_mcutOf d hnk hK (by omega), ?_⟩
  have kn : ∀ (bd : Nat × Nat), n_mo kb nk fr own dm ds c = none → m_W1 (m_lk cd_X7_lentOn) (m_Ev m_cds m_my (d + 1)) (fun o2 S2 => o2 = Sum.inl (some (.int (n_w (n_mo kb nk fr own dm ds c)))) ∧ S2 = (n, m_hp ar rq ou dy)) 42 [some (.ref 94), some (.int (nI c)), some (.int (nI dm)), some (.int (nI ds)), some (.int (n_b own)), some (.int (nI (fr c dm)))] [] bd (n, m_hp ar rq ou dy) := by
    intro bd e
    rw [e]
    simp (disch := omega) only [st_X7_lentOn_42, st_X7_lentOn_43, o_iload, o_aload, o_const, o_lconst, o_istore, o_astore, o_iinc, o_dup, o_dup2, o_pop, o_bin, o_div, o_un, o_mbin, o_mun, o_i2l, o_lcmp, o_ifeq, o_ifne, o_iflt, o_ifge, o_ifgt, o_ifle, o_icmpeq, o_icmpne, o_icmplt, o_icmpge, o_icmpgt, o_icmple, o_goto, o_getf, o_puti, o_putz, o_putr, o_iald, o_iast, o_zast, o_lald, o_last, o_aald, o_aast, o_alenO, o_new, o_newi, o_newl, o_newq, o_newqd, o_mna, o_copy, o_drop, o_cast, o_call, o_callx, o_callv, o_callvx, o_callh, o_sald, o_slen, o_switch, m_rcv, o_ireturn, o_zreturn, o_areturn, o_return, o_throw, o_null, o_dupx1, o_de, m_ent, List.getElem?_cons_zero, List.getElem?_cons_succ, List.getElem?_nil, List.set_cons_zero, List.set_cons_succ, List.length_cons, List.length_nil, List.map_cons, List.map_nil, List.replicate_succ, List.replicate_zero, List.take_succ_cons, List.take_zero, List.drop_succ_cons, List.drop_zero, List.reverse_cons, List.reverse_nil, List.cons_append, List.nil_append, List.append_nil, Option.toList_some, Option.toList_none, Nat.reduceAdd, Nat.reduceSub, Nat.reduceLeDiff, Nat.reduceLT, Nat.reduceEqDiff, Nat.le_refl, Nat.zero_le, Nat.zero_add, Nat.sub_zero, true_and, and_true, false_and, and_false, if_true, if_false, ite_true, ite_false, reduceIte, or_true, true_or, Option.isSome_some, not_true_eq_false, not_false_eq_true, forall_const, true_implies, false_implies, implies_true, ne_eq, m_gI_I, m_gJ_J, m_gQ_Q, m_gO_O]
    rfl
  have ks : ∀ (bd : Nat × Nat), n_mo kb nk fr own dm ds c = some (ds - fr c dm) → m_W1 (m_lk cd_X7_lentOn) (m_Ev m_cds m_my (d + 1)) (fun o2 S2 => o2 = Sum.inl (some (.int (n_w (n_mo kb nk fr own dm ds c)))) ∧ S2 = (n, m_hp ar rq ou dy)) 44 [some (.ref 94), some (.int (nI c)), some (.int (nI dm)), some (.int (nI ds)), some (.int (n_b own)), some (.int (nI (fr c dm)))] [] bd (n, m_hp ar rq ou dy) := by
    intro bd e
    rw [e]
    by_cases h : fr c dm < ds
    · simp (disch := omega) only [st_X7_lentOn_44, st_X7_lentOn_46, st_X7_lentOn_47, st_X7_lentOn_50, st_X7_lentOn_51, st_X7_lentOn_53, st_X7_lentOn_54, st_X7_lentOn_57, st_X7_lentOn_58, o_iload, o_aload, o_const, o_lconst, o_istore, o_astore, o_iinc, o_dup, o_dup2, o_pop, o_bin, o_div, o_un, o_mbin, o_mun, o_i2l, o_lcmp, o_ifeq, o_ifne, o_iflt, o_ifge, o_ifgt, o_ifle, o_icmpeq, o_icmpne, o_icmplt, o_icmpge, o_icmpgt, o_icmple, o_goto, o_getf, o_puti, o_putz, o_putr, o_iald, o_iast, o_zast, o_lald, o_last, o_aald, o_aast, o_alenO, o_new, o_newi, o_newl, o_newq, o_newqd, o_mna, o_copy, o_drop, o_cast, o_call, o_callx, o_callv, o_callvx, o_callh, o_sald, o_slen, o_switch, m_rcv, o_ireturn, o_zreturn, o_areturn, o_return, o_throw, o_null, o_dupx1, o_de, m_ent, List.getElem?_cons_zero, List.getElem?_cons_succ, List.getElem?_nil, List.set_cons_zero, List.set_cons_succ, List.length_cons, List.length_nil, List.map_cons, List.map_nil, List.replicate_succ, List.replicate_zero, List.take_succ_cons, List.take_zero, List.drop_succ_cons, List.drop_zero, List.reverse_cons, List.reverse_nil, List.cons_append, List.nil_append, List.append_nil, Option.toList_some, Option.toList_none, Nat.reduceAdd, Nat.reduceSub, Nat.reduceLeDiff, Nat.reduceLT, Nat.reduceEqDiff, Nat.le_refl, Nat.zero_le, Nat.zero_add, Nat.sub_zero, true_and, and_true, false_and, and_false, if_true, if_false, ite_true, ite_false, reduceIte, or_true, true_or, Option.isSome_some, not_true_eq_false, not_false_eq_true, forall_const, true_implies, false_implies, implies_true, ne_eq, m_gI_I, m_gJ_J, m_gQ_Q, m_gO_O, z2, h, v_sub]
      rfl
    · have e0 : ds - fr c dm = 0 := by omega
      rw [e0]
      simp (disch := omega) only [st_X7_lentOn_44, st_X7_lentOn_46, st_X7_lentOn_47, st_X7_lentOn_50, st_X7_lentOn_51, st_X7_lentOn_53, st_X7_lentOn_54, st_X7_lentOn_57, st_X7_lentOn_58, o_iload, o_aload, o_const, o_lconst, o_istore, o_astore, o_iinc, o_dup, o_dup2, o_pop, o_bin, o_div, o_un, o_mbin, o_mun, o_i2l, o_lcmp, o_ifeq, o_ifne, o_iflt, o_ifge, o_ifgt, o_ifle, o_icmpeq, o_icmpne, o_icmplt, o_icmpge, o_icmpgt, o_icmple, o_goto, o_getf, o_puti, o_putz, o_putr, o_iald, o_iast, o_zast, o_lald, o_last, o_aald, o_aast, o_alenO, o_new, o_newi, o_newl, o_newq, o_newqd, o_mna, o_copy, o_drop, o_cast, o_call, o_callx, o_callv, o_callvx, o_callh, o_sald, o_slen, o_switch, m_rcv, o_ireturn, o_zreturn, o_areturn, o_return, o_throw, o_null, o_dupx1, o_de, m_ent, List.getElem?_cons_zero, List.getElem?_cons_succ, List.getElem?_nil, List.set_cons_zero, List.set_cons_succ, List.length_cons, List.length_nil, List.map_cons, List.map_nil, List.replicate_succ, List.replicate_zero, List.take_succ_cons, List.take_zero, List.drop_succ_cons, List.drop_zero, List.reverse_cons, List.reverse_nil, List.cons_append, List.nil_append, List.append_nil, Option.toList_some, Option.toList_none, Nat.reduceAdd, Nat.reduceSub, Nat.reduceLeDiff, Nat.reduceLT, Nat.reduceEqDiff, Nat.le_refl, Nat.zero_le, Nat.zero_add, Nat.sub_zero, true_and, and_true, false_and, and_false, if_true, if_false, ite_true, ite_false, reduceIte, or_true, true_or, Option.isSome_some, not_true_eq_false, not_false_eq_true, forall_const, true_implies, false_implies, implies_true, ne_eq, m_gI_I, m_gJ_J, m_gQ_Q, m_gO_O, z2, h]
      rfl
  simp (disch := omega) only [st_X7_lentOn_18, st_X7_lentOn_19, st_X7_lentOn_22, st_X7_lentOn_23, st_X7_lentOn_24, o_iload, o_aload, o_const, o_lconst, o_istore, o_astore, o_iinc, o_dup, o_dup2, o_pop, o_bin, o_div, o_un, o_mbin, o_mun, o_i2l, o_lcmp, o_ifeq, o_ifne, o_iflt, o_ifge, o_ifgt, o_ifle, o_icmpeq, o_icmpne, o_icmplt, o_icmpge, o_icmpgt, o_icmple, o_goto, o_getf, o_puti, o_putz, o_putr, o_iald, o_iast, o_zast, o_lald, o_last, o_aald, o_aast, o_alenO, o_new, o_newi, o_newl, o_newq, o_newqd, o_mna, o_copy, o_drop, o_cast, o_call, o_callx, o_callv, o_callvx, o_callh, o_sald, o_slen, o_switch, m_rcv, o_ireturn, o_zreturn, o_areturn, o_return, o_throw, o_null, o_dupx1, o_de, m_ent, List.getElem?_cons_zero, List.getElem?_cons_succ, List.getElem?_nil, List.set_cons_zero, List.set_cons_succ, List.length_cons, List.length_nil, List.map_cons, List.map_nil, List.replicate_succ, List.replicate_zero, List.take_succ_cons, List.take_zero, List.drop_succ_cons, List.drop_zero, List.reverse_cons, List.reverse_nil, List.cons_append, List.nil_append, List.append_nil, Option.toList_some, Option.toList_none, Nat.reduceAdd, Nat.reduceSub, Nat.reduceLeDiff, Nat.reduceLT, Nat.reduceEqDiff, Nat.le_refl, Nat.zero_le, Nat.zero_add, Nat.sub_zero, true_and, and_true, false_and, and_false, if_true, if_false, ite_true, ite_false, reduceIte, or_true, true_or, Option.isSome_some, not_true_eq_false, not_false_eq_true, forall_const, true_implies, false_implies, implies_true, ne_eq, m_gI_I, m_gJ_J, m_gQ_Q, m_gO_O, he, m_hp_94]
  refine ⟨fun y1 => ?_, fun y1 => kn _ (if_pos (Or.inl y1))⟩
  refine ⟨_, _, e_mfreeOf d hnc hF hc, ?_⟩
  simp (disch := omega) only [st_X7_lentOn_27, st_X7_lentOn_28, st_X7_lentOn_31, st_X7_lentOn_33, st_X7_lentOn_36, st_X7_lentOn_38, st_X7_lentOn_39, o_iload, o_aload, o_const, o_lconst, o_istore, o_astore, o_iinc, o_dup, o_dup2, o_pop, o_bin, o_div, o_un, o_mbin, o_mun, o_i2l, o_lcmp, o_ifeq, o_ifne, o_iflt, o_ifge, o_ifgt, o_ifle, o_icmpeq, o_icmpne, o_icmplt, o_icmpge, o_icmpgt, o_icmple, o_goto, o_getf, o_puti, o_putz, o_putr, o_iald, o_iast, o_zast, o_lald, o_last, o_aald, o_aast, o_alenO, o_new, o_newi, o_newl, o_newq, o_newqd, o_mna, o_copy, o_drop, o_cast, o_call, o_callx, o_callv, o_callvx, o_callh, o_sald, o_slen, o_switch, m_rcv, o_ireturn, o_zreturn, o_areturn, o_return, o_throw, o_null, o_dupx1, o_de, m_ent, List.getElem?_cons_zero, List.getElem?_cons_succ, List.getElem?_nil, List.set_cons_zero, List.set_cons_succ, List.length_cons, List.length_nil, List.map_cons, List.map_nil, List.replicate_succ, List.replicate_zero, List.take_succ_cons, List.take_zero, List.drop_succ_cons, List.drop_zero, List.reverse_cons, List.reverse_nil, List.cons_append, List.nil_append, List.append_nil, Option.toList_some, Option.toList_none, Nat.reduceAdd, Nat.reduceSub, Nat.reduceLeDiff, Nat.reduceLT, Nat.reduceEqDiff, Nat.le_refl, Nat.zero_le, Nat.zero_add, Nat.sub_zero, true_and, and_true, false_and, and_false, if_true, if_false, ite_true, ite_false, reduceIte, or_true, true_or, Option.isSome_some, not_true_eq_false, not_false_eq_true, forall_const, true_implies, false_implies, implies_true, ne_eq, m_gI_I, m_gJ_J, m_gQ_Q, m_gO_O, z1, z2, n_b_0]
  refine ⟨fun y2 => kn _ (if_pos (Or.inr (Or.inl y2))), fun y2 => ⟨fun y3 => ks _ (if_neg ?_), fun y3 => ⟨fun y4 => kn _ (if_pos (Or.inr (Or.inr ⟨Decidable.not_not.mp y3, y4⟩))), fun y4 => ks _ (if_neg ?_)⟩⟩⟩
  · rintro (h | h | h)
    · exact h y1
    · exact y2 h
    · exact y3 h.1
  · rintro (h | h | h)
    · exact h y1
    · exact y2 h
    · exact y4 h.2
