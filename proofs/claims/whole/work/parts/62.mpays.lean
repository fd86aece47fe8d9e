/-! the model: pays -/
theorem i_subsub (a b c : Int32) : a - b - c = a - (b + c) := by
  rw [Int32.sub_eq_add_neg, Int32.sub_eq_add_neg, Int32.sub_eq_add_neg, Int32.neg_add, Int32.sub_eq_add_neg, Int32.add_assoc]
/-- the lowest owner -/
def n_lo (ow : Nat → Nat) : Nat → Nat → Option Nat
  | 0, _ => none
  | m + 1, j => if 0 < ow j then some j else n_lo ow m (j + 1)
theorem n_lo_s {ow : Nat → Nat} {m j : Nat} : n_lo ow (m + 1) j = if 0 < ow j then some j else n_lo ow m (j + 1) := rfl
theorem n_lo_lt {ow : Nat → Nat} : ∀ {m j q : Nat}, n_lo ow m j = some q → j ≤ q ∧ q < j + m := by
  intro m
  induction m with
  | zero => intro j q h; cases h
  | succ m ih =>
    intro j q h
    rw [n_lo_s] at h
    split at h
    · cases h; omega
    · have := ih h; omega
theorem n_lo_none {ow : Nat → Nat} : ∀ {m j : Nat}, n_lo ow m j = none → ∀ k, j ≤ k → k < j + m → ow k = 0 := by
  intro m
  induction m with
  | zero => intro j _ k h1 h2; omega
  | succ m ih =>
    intro j h k h1 h2
    rw [n_lo_s] at h
    split at h
    · cases h
    · by_cases e : k = j
      · subst e; omega
      · exact ih h k (by omega) (by omega)
theorem n_sum_0 {f : Nat → Nat} : ∀ {k : Nat}, (∀ j, j < k → f j = 0) → n_sum f k = 0 := by
  intro k
  induction k with
  | zero => intro _; rfl
  | succ k ih =>
    intro h
    show n_sum f k + f k = 0
    rw [ih (fun j hj => h j (by omega)), h k (by omega)]
theorem n_sum_mono {f : Nat → Nat} {a : Nat} : ∀ {b : Nat}, a ≤ b → n_sum f a ≤ n_sum f b := by
  intro b
  induction b with
  | zero => intro h; rw [show a = 0 by omega]; exact Nat.le_refl _
  | succ b ih =>
    intro h
    by_cases e : a = b + 1
    · rw [e]; exact Nat.le_refl _
    · have := ih (by omega)
      show n_sum f a ≤ n_sum f b + f b
      omega
theorem n_sum_s {f : Nat → Nat} {k : Nat} : n_sum f (k + 1) = n_sum f k + f k := rfl
def n_sh (ow : Nat → Nat) (S sum j : Nat) : Nat := sum * ow j / S
theorem n_qf_eq {ow : Nat → Nat} {S sum : Nat} : ∀ {m j : Nat} {a : Nat → Int32} {l : Int32} {w : Option Nat}, n_qf ow S sum m j (a, l, w) = ((fun k => if j ≤ k ∧ k < j + m then a k - nI (n_sh ow S sum k) else a k), l - nI (n_sum (n_sh ow S sum) (j + m) - n_sum (n_sh ow S sum) j), match w with | none => n_lo ow m j | some q => some q) := by
  intro m
  induction m with
  | zero =>
    intro j a l w
    have e1 : (fun k => if j ≤ k ∧ k < j + 0 then a k - nI (n_sh ow S sum k) else a k) = a := by
      funext k
      rw [if_neg (by omega)]
    have e2 : l - nI (n_sum (n_sh ow S sum) (j + 0) - n_sum (n_sh ow S sum) j) = l := by
      rw [Nat.add_zero, Nat.sub_self]
      exact Int32.sub_zero l
    rw [e1, e2]
    cases w <;> rfl
  | succ m ih =>
    intro j a l w
    have hst : n_qf ow S sum (m + 1) j (a, l, w) = n_qf ow S sum m (j + 1) (upd a j (a j - nI (n_sh ow S sum j)), l - nI (n_sh ow S sum j), match w with | none => if 0 < ow j then some j else none | some q => some q) := rfl
    rw [hst, ih]
    refine Prod.ext ?_ (Prod.ext ?_ ?_)
    · funext k
      show (if j + 1 ≤ k ∧ k < j + 1 + m then upd a j (a j - nI (n_sh ow S sum j)) k - nI (n_sh ow S sum k) else upd a j (a j - nI (n_sh ow S sum j)) k) = if j ≤ k ∧ k < j + (m + 1) then a k - nI (n_sh ow S sum k) else a k
      by_cases e : k = j
      · subst e
        rw [if_neg (by omega), if_pos (by omega), upd, if_pos rfl]
      · rw [upd, if_neg e]
        by_cases e2 : j ≤ k ∧ k < j + (m + 1)
        · rw [if_pos e2, if_pos (by omega)]
        · rw [if_neg e2, if_neg (by omega)]
    · show l - nI (n_sh ow S sum j) - nI (n_sum (n_sh ow S sum) (j + 1 + m) - n_sum (n_sh ow S sum) (j + 1)) = l - nI (n_sum (n_sh ow S sum) (j + (m + 1)) - n_sum (n_sh ow S sum) j)
      rw [i_subsub, v_add]
      have h1 : n_sum (n_sh ow S sum) (j + 1) ≤ n_sum (n_sh ow S sum) (j + 1 + m) := n_sum_mono (by omega)
      rw [n_sum_s] at h1 ⊢
      rw [show j + (m + 1) = j + 1 + m by omega]
      refine congrArg (fun x => l - nI x) ?_
      omega
    · cases w with
      | none =>
        show (match (if 0 < ow j then some j else none) with | none => n_lo ow m (j + 1) | some q => some q) = n_lo ow (m + 1) j
        rw [n_lo_s]
        by_cases e : 0 < ow j
        · rw [if_pos e, if_pos e]
        · rw [if_neg e, if_neg e]
      | some q => rfl
/-- an account when the owners of a cable have paid -/
theorem n_ch_eq {ow : Nat → Nat} {S sum q : Nat} {acc : Nat → Int32} (hq : n_lo ow 6 0 = some q) : ∀ j, j < 6 → n_ch ow S sum acc j = if j = q then acc j - nI (n_sh ow S sum j) - (nI sum - nI (n_sum (n_sh ow S sum) 6)) else acc j - nI (n_sh ow S sum j) := by
  intro j hj
  have hq6 := (n_lo_lt hq).2
  have e : n_ch ow S sum acc = n_qe (n_qf ow S sum 6 0 (acc, nI sum, none)) := rfl
  rw [e, n_qf_eq]
  have e0 : n_sum (n_sh ow S sum) (0 + 6) - n_sum (n_sh ow S sum) 0 = n_sum (n_sh ow S sum) 6 := by rw [Nat.zero_add]; show _ - 0 = _; exact Nat.sub_zero _
  rw [e0]
  unfold n_qe
  simp only
  rw [hq]
  simp only
  rw [if_pos (by omega)]
  by_cases e : j = q
  · subst e
    rw [if_pos rfl, upd, if_pos rfl]
  · rw [if_neg e, upd, if_neg e, if_pos (by omega)]
def x_O (nc : Nat) (cb ow : Nat → Nat → Nat) (ar : Nat → Nat → Int32) : Prop := ∀ c, c < nc → 0 < cb c 2 ∧ cb c 2 ≤ 8 ∧ n_sum (ow c) 6 = cb c 2 ∧ ∀ j, j < 6 → ar 97 (6 * c + j) = nI (ow c j) ∧ ow c j ≤ 8
theorem lp_mp1 {call : m_call} {r : m_R → m_S → Prop} {bd : Nat × Nat} {n nc c : Nat} {x2 x5 x6 x7 x8 : Option Value} {cb ow : Nat → Nat → Nat} {ar : Nat → Nat → Int32} {rq : Nat → Nat → Option Nat} {ou : Nat → Int64} {dy : Nat → m_C} (hnc : nc ≤ 10) (hO : x_O nc cb ow ar) (hc : c < nc) :
    ∀ (m k : Nat), k + m = 6 → (∀ x4 : Option Value, m_W1 (m_lk cd_X7_pays) call r 33 [some (.ref 94), some (.int (nI c)), x2, some (.int (nI (n_sum (ow c) 6))), x4, x5, x6, x7, x8] [] bd (n, m_hp ar rq ou dy)) → m_W1 (m_lk cd_X7_pays) call r 5 [some (.ref 94), some (.int (nI c)), x2, some (.int (nI (n_sum (ow c) k))), some (.int (nI k)), x5, x6, x7, x8] [] bd (n, m_hp ar rq ou dy) := by
  intro m
  induction m with
  | zero =>
    intro k hk h
    have e : k = 6 := by omega
    subst e
    rw [st_X7_pays_5]
    simp (disch := omega) only [st_X7_pays_7, st_X7_pays_9, o_iload, o_aload, o_const, o_lconst, o_istore, o_astore, o_iinc, o_dup, o_dup2, o_pop, o_bin, o_div, o_un, o_mbin, o_mun, o_i2l, o_lcmp, o_ifeq, o_ifne, o_iflt, o_ifge, o_ifgt, o_ifle, o_icmpeq, o_icmpne, o_icmplt, o_icmpge, o_icmpgt, o_icmple, o_goto, o_getf, o_puti, o_putz, o_putr, o_iald, o_iast, o_zast, o_lald, o_last, o_aald, o_aast, o_alenO, o_new, o_newi, o_newl, o_newq, o_newqd, o_mna, o_copy, o_drop, o_cast, o_call, o_callx, o_callv, o_callvx, o_callh, o_sald, o_slen, o_switch, m_rcv, o_ireturn, o_zreturn, o_areturn, o_return, o_throw, o_null, o_dupx1, o_de, m_ent, List.getElem?_cons_zero, List.getElem?_cons_succ, List.getElem?_nil, List.set_cons_zero, List.set_cons_succ, List.length_cons, List.length_nil, List.map_cons, List.map_nil, List.replicate_succ, List.replicate_zero, List.take_succ_cons, List.take_zero, List.drop_succ_cons, List.drop_zero, List.reverse_cons, List.reverse_nil, List.cons_append, List.nil_append, List.append_nil, Option.toList_some, Option.toList_none, Nat.reduceAdd, Nat.reduceSub, Nat.reduceLeDiff, Nat.reduceLT, Nat.reduceEqDiff, Nat.le_refl, Nat.zero_le, Nat.zero_add, Nat.sub_zero, true_and, and_true, false_and, and_false, if_true, if_false, ite_true, ite_false, reduceIte, or_true, true_or, Option.isSome_some, not_true_eq_false, not_false_eq_true, forall_const, true_implies, false_implies, implies_true, ne_eq, m_gI_I, m_gJ_J, m_gQ_Q, m_gO_O]
    exact ⟨fun z => absurd z (i_nlt' (Nat.le_refl 6)), fun _ => h _⟩
  | succ m ih =>
    intro k hk h
    have hk6 : k < 6 := by omega
    have h6 : nI k < 6 := i_lt hk6
    have hf := ((hO c hc).2.2.2 k hk6).1
    have hm : (6 : Int32) * nI c = nI (6 * c) := v_mul 6 c
    rw [st_X7_pays_5]
    simp (disch := omega) only [st_X7_pays_7, st_X7_pays_9, st_X7_pays_12, st_X7_pays_13, st_X7_pays_14, st_X7_pays_17, st_X7_pays_19, st_X7_pays_20, st_X7_pays_21, st_X7_pays_23, st_X7_pays_24, st_X7_pays_25, st_X7_pays_26, st_X7_pays_27, st_X7_pays_30, o_iload, o_aload, o_const, o_lconst, o_istore, o_astore, o_iinc, o_dup, o_dup2, o_pop, o_bin, o_div, o_un, o_mbin, o_mun, o_i2l, o_lcmp, o_ifeq, o_ifne, o_iflt, o_ifge, o_ifgt, o_ifle, o_icmpeq, o_icmpne, o_icmplt, o_icmpge, o_icmpgt, o_icmple, o_goto, o_getf, o_puti, o_putz, o_putr, o_iald, o_iast, o_zast, o_lald, o_last, o_aald, o_aast, o_alenO, o_new, o_newi, o_newl, o_newq, o_newqd, o_mna, o_copy, o_drop, o_cast, o_call, o_callx, o_callv, o_callvx, o_callh, o_sald, o_slen, o_switch, m_rcv, o_ireturn, o_zreturn, o_areturn, o_return, o_throw, o_null, o_dupx1, o_de, m_ent, List.getElem?_cons_zero, List.getElem?_cons_succ, List.getElem?_nil, List.set_cons_zero, List.set_cons_succ, List.length_cons, List.length_nil, List.map_cons, List.map_nil, List.replicate_succ, List.replicate_zero, List.take_succ_cons, List.take_zero, List.drop_succ_cons, List.drop_zero, List.reverse_cons, List.reverse_nil, List.cons_append, List.nil_append, List.append_nil, Option.toList_some, Option.toList_none, Nat.reduceAdd, Nat.reduceSub, Nat.reduceLeDiff, Nat.reduceLT, Nat.reduceEqDiff, Nat.le_refl, Nat.zero_le, Nat.zero_add, Nat.sub_zero, true_and, and_true, false_and, and_false, if_true, if_false, ite_true, ite_false, reduceIte, or_true, true_or, Option.isSome_some, not_true_eq_false, not_false_eq_true, forall_const, true_implies, false_implies, implies_true, ne_eq, m_gI_I, m_gJ_J, m_gQ_Q, m_gO_O, m_hp_94, m_fM_len, m_fM_0, m_fM_1, m_fM_2, m_fM_3, m_fM_4, m_fM_5, m_fM_6, m_fM_7, m_fM_8, m_fM_9, m_fM_10, m_fM_11, m_fM_12, m_fM_13, m_fM_14, m_fM_15, m_fM_16, m_fM_17, m_fM_18, m_fM_19, m_fM_20, m_fM_21, m_fM_22, m_fM_23, m_fM_24, m_fM_25, m_fM_26, m_fM_27, m_fM_28, m_fM_29, m_fM_30, m_fM_31, m_fM_32, m_fM_33, m_fM_34, m_fM_35, m_fM_s0, m_fM_s1, m_fM_s5, m_fM_s12, m_fM_s17, m_fM_s22, m_fM_s23, m_fM_s27, m_fM_s32, m_fM_s33, m_fM_s34, m_fM_s35, m_hp_97, v_in, v_cl, h6, hm, v_add, hf, nI_1]
    exact ih (k + 1) (by omega) h
theorem lp_mp2 {call : m_call} {r : m_R → m_S → Prop} {bd : Nat × Nat} {n nc c S sum : Nat} {cb ow : Nat → Nat → Nat} {ar : Nat → Nat → Int32} {rq : Nat → Nat → Option Nat} {ou : Nat → Int64} {dy : Nat → m_C} (hnc : nc ≤ 10) (hO : x_O nc cb ow ar) (hc : c < nc) (hS : S = cb c 2) (hsum : sum ≤ 20) :
    ∀ (k : Nat), k ≤ 6 → ∀ (row : Nat → Int32) (x7 x8 : Option Value), (∀ j, j < 7 → row j = if k ≤ j ∧ j < 6 then ar 114 j - nI (n_sh (ow c) S sum j) else ar 114 j) →
      (∀ (row : Nat → Int32) (x6 x7 x8 : Option Value), (∀ j, j < 7 → row j = if j < 6 then ar 114 j - nI (n_sh (ow c) S sum j) else ar 114 j) → m_W1 (m_lk cd_X7_pays) call r 108 [some (.ref 94), some (.int (nI c)), some (.int (nI sum)), some (.int (nI S)), some (.int (nI sum - nI (n_sum (n_sh (ow c) S sum) 6))), some (.int (n_w (n_lo (ow c) 6 0))), x6, x7, x8] [] bd (n, m_hp (m_uf ar 114 row) rq ou dy)) →
      m_W1 (m_lk cd_X7_pays) call r 42 [some (.ref 94), some (.int (nI c)), some (.int (nI sum)), some (.int (nI S)), some (.int (nI sum - nI (n_sum (n_sh (ow c) S sum) 6 - n_sum (n_sh (ow c) S sum) k))), some (.int (n_w (n_lo (ow c) (6 - k) k))), some (.int (nI k + (-1))), x7, x8] [] bd (n, m_hp (m_uf ar 114 row) rq ou dy) := by
  intro k
  induction k with
  | zero =>
    intro hk row x7 x8 hr h
    have hneg : (nI 0 + (-1) : Int32) < 0 := by decide
    rw [st_X7_pays_42]
    simp (disch := omega) only [st_X7_pays_44, o_iload, o_aload, o_const, o_lconst, o_istore, o_astore, o_iinc, o_dup, o_dup2, o_pop, o_bin, o_div, o_un, o_mbin, o_mun, o_i2l, o_lcmp, o_ifeq, o_ifne, o_iflt, o_ifge, o_ifgt, o_ifle, o_icmpeq, o_icmpne, o_icmplt, o_icmpge, o_icmpgt, o_icmple, o_goto, o_getf, o_puti, o_putz, o_putr, o_iald, o_iast, o_zast, o_lald, o_last, o_aald, o_aast, o_alenO, o_new, o_newi, o_newl, o_newq, o_newqd, o_mna, o_copy, o_drop, o_cast, o_call, o_callx, o_callv, o_callvx, o_callh, o_sald, o_slen, o_switch, m_rcv, o_ireturn, o_zreturn, o_areturn, o_return, o_throw, o_null, o_dupx1, o_de, m_ent, List.getElem?_cons_zero, List.getElem?_cons_succ, List.getElem?_nil, List.set_cons_zero, List.set_cons_succ, List.length_cons, List.length_nil, List.map_cons, List.map_nil, List.replicate_succ, List.replicate_zero, List.take_succ_cons, List.take_zero, List.drop_succ_cons, List.drop_zero, List.reverse_cons, List.reverse_nil, List.cons_append, List.nil_append, List.append_nil, Option.toList_some, Option.toList_none, Nat.reduceAdd, Nat.reduceSub, Nat.reduceLeDiff, Nat.reduceLT, Nat.reduceEqDiff, Nat.le_refl, Nat.zero_le, Nat.zero_add, Nat.sub_zero, true_and, and_true, false_and, and_false, if_true, if_false, ite_true, ite_false, reduceIte, or_true, true_or, Option.isSome_some, not_true_eq_false, not_false_eq_true, forall_const, true_implies, false_implies, implies_true, ne_eq, m_gI_I, m_gJ_J, m_gQ_Q, m_gO_O, hneg]
    exact h row _ x7 x8 (fun j hj => by
      rw [hr j hj]
      by_cases e : j < 6
      · rw [if_pos ⟨Nat.zero_le j, e⟩, if_pos e]
      · rw [if_neg (fun z => e z.2), if_neg e])
  | succ k ih =>
    intro hk row x7 x8 hr h
    have hk6 : k < 6 := by omega
    obtain ⟨o1, o2, o3, o4⟩ := hO c hc
    obtain ⟨o5, o6⟩ := o4 k hk6
    have hm : (6 : Int32) * nI c = nI (6 * c) := v_mul 6 c
    have hm1 : nI (k + 1) + (-1) = nI k := nI_dn k
    have hk0 : ¬ nI k < 0 := nI_pos (by omega)
    have hf : m_uf ar 114 row 97 (6 * c + k) = nI (ow c k) := by rw [m_uf_ne (by omega)]; exact o5
    have hrk : row k = ar 114 k := by rw [hr k (by omega), if_neg (by omega)]
    have hmul : sum * ow c k ≤ 20 * 8 := Nat.mul_le_mul hsum o6
    have hS0 : (nI S = 0) = False := by rw [v_e0 (by omega)]; exact eq_false (by omega)
    have hp : ((0 : Int32) < nI (ow c k)) = (0 < ow c k) := propext (nI_ltI (a := 0) (by omega) (by omega))
    have hsh : sum * ow c k / S = n_sh (ow c) S sum k := rfl
    have hrest : nI sum - nI (n_sum (n_sh (ow c) S sum) 6 - n_sum (n_sh (ow c) S sum) (k + 1)) - nI (n_sh (ow c) S sum k) = nI sum - nI (n_sum (n_sh (ow c) S sum) 6 - n_sum (n_sh (ow c) S sum) k) := by
      rw [i_subsub, v_add]
      have h1 : n_sum (n_sh (ow c) S sum) (k + 1) ≤ n_sum (n_sh (ow c) S sum) 6 := n_sum_mono (by omega)
      rw [n_sum_s (k := k)] at h1 ⊢
      refine congrArg (fun x => nI sum - nI x) ?_
      omega
    have hlo : n_lo (ow c) (6 - k) k = if 0 < ow c k then some k else n_lo (ow c) (6 - (k + 1)) (k + 1) := by
      rw [show 6 - k = (6 - (k + 1)) + 1 by omega, n_lo_s]
    rw [st_X7_pays_42]
    simp (disch := omega) only [st_X7_pays_44, st_X7_pays_47, st_X7_pays_48, st_X7_pays_51, st_X7_pays_53, st_X7_pays_54, st_X7_pays_55, st_X7_pays_57, st_X7_pays_58, st_X7_pays_59, st_X7_pays_61, st_X7_pays_62, st_X7_pays_64, st_X7_pays_65, st_X7_pays_66, st_X7_pays_67, st_X7_pays_69, st_X7_pays_70, st_X7_pays_73, st_X7_pays_75, st_X7_pays_76, st_X7_pays_77, st_X7_pays_79, st_X7_pays_80, st_X7_pays_81, st_X7_pays_83, st_X7_pays_85, st_X7_pays_86, st_X7_pays_88, st_X7_pays_90, o_iload, o_aload, o_const, o_lconst, o_istore, o_astore, o_iinc, o_dup, o_dup2, o_pop, o_bin, o_div, o_un, o_mbin, o_mun, o_i2l, o_lcmp, o_ifeq, o_ifne, o_iflt, o_ifge, o_ifgt, o_ifle, o_icmpeq, o_icmpne, o_icmplt, o_icmpge, o_icmpgt, o_icmple, o_goto, o_getf, o_puti, o_putz, o_putr, o_iald, o_iast, o_zast, o_lald, o_last, o_aald, o_aast, o_alenO, o_new, o_newi, o_newl, o_newq, o_newqd, o_mna, o_copy, o_drop, o_cast, o_call, o_callx, o_callv, o_callvx, o_callh, o_sald, o_slen, o_switch, m_rcv, o_ireturn, o_zreturn, o_areturn, o_return, o_throw, o_null, o_dupx1, o_de, m_ent, List.getElem?_cons_zero, List.getElem?_cons_succ, List.getElem?_nil, List.set_cons_zero, List.set_cons_succ, List.length_cons, List.length_nil, List.map_cons, List.map_nil, List.replicate_succ, List.replicate_zero, List.take_succ_cons, List.take_zero, List.drop_succ_cons, List.drop_zero, List.reverse_cons, List.reverse_nil, List.cons_append, List.nil_append, List.append_nil, Option.toList_some, Option.toList_none, Nat.reduceAdd, Nat.reduceSub, Nat.reduceLeDiff, Nat.reduceLT, Nat.reduceEqDiff, Nat.le_refl, Nat.zero_le, Nat.zero_add, Nat.sub_zero, true_and, and_true, false_and, and_false, if_true, if_false, ite_true, ite_false, reduceIte, or_true, true_or, Option.isSome_some, not_true_eq_false, not_false_eq_true, forall_const, true_implies, false_implies, implies_true, ne_eq, m_gI_I, m_gJ_J, m_gQ_Q, m_gO_O, m_hp_94, m_fM_len, m_fM_0, m_fM_1, m_fM_2, m_fM_3, m_fM_4, m_fM_5, m_fM_6, m_fM_7, m_fM_8, m_fM_9, m_fM_10, m_fM_11, m_fM_12, m_fM_13, m_fM_14, m_fM_15, m_fM_16, m_fM_17, m_fM_18, m_fM_19, m_fM_20, m_fM_21, m_fM_22, m_fM_23, m_fM_24, m_fM_25, m_fM_26, m_fM_27, m_fM_28, m_fM_29, m_fM_30, m_fM_31, m_fM_32, m_fM_33, m_fM_34, m_fM_35, m_fM_s0, m_fM_s1, m_fM_s5, m_fM_s12, m_fM_s17, m_fM_s22, m_fM_s23, m_fM_s27, m_fM_s32, m_fM_s33, m_fM_s34, m_fM_s35, m_hp_97, m_hp_114, m_up_114, v_in, v_cl, hm1, hk0, hm, v_add, hf, v_mul, v_div, hS0, hp, hsh, hrk, hrest, m_uf_uu, m_uf_eq]
    have hrow : ∀ j, j < 7 → upd row k (ar 114 k - nI (n_sh (ow c) S sum k)) j = if k ≤ j ∧ j < 6 then ar 114 j - nI (n_sh (ow c) S sum j) else ar 114 j := by
      intro j hj
      by_cases e : j = k
      · subst e
        rw [upd, if_pos rfl, if_pos (by omega)]
      · rw [upd, if_neg e, hr j hj]
        by_cases e2 : k ≤ j ∧ j < 6
        · rw [if_pos e2, if_pos (by omega)]
        · rw [if_neg e2, if_neg (by omega)]
    refine ⟨fun y => ?_, fun y => ?_⟩
    · rw [if_pos y] at hlo
      simp (disch := omega) only [st_X7_pays_93, st_X7_pays_95, st_X7_pays_98, st_X7_pays_100, st_X7_pays_102, st_X7_pays_105, o_iload, o_aload, o_const, o_lconst, o_istore, o_astore, o_iinc, o_dup, o_dup2, o_pop, o_bin, o_div, o_un, o_mbin, o_mun, o_i2l, o_lcmp, o_ifeq, o_ifne, o_iflt, o_ifge, o_ifgt, o_ifle, o_icmpeq, o_icmpne, o_icmplt, o_icmpge, o_icmpgt, o_icmple, o_goto, o_getf, o_puti, o_putz, o_putr, o_iald, o_iast, o_zast, o_lald, o_last, o_aald, o_aast, o_alenO, o_new, o_newi, o_newl, o_newq, o_newqd, o_mna, o_copy, o_drop, o_cast, o_call, o_callx, o_callv, o_callvx, o_callh, o_sald, o_slen, o_switch, m_rcv, o_ireturn, o_zreturn, o_areturn, o_return, o_throw, o_null, o_dupx1, o_de, m_ent, List.getElem?_cons_zero, List.getElem?_cons_succ, List.getElem?_nil, List.set_cons_zero, List.set_cons_succ, List.length_cons, List.length_nil, List.map_cons, List.map_nil, List.replicate_succ, List.replicate_zero, List.take_succ_cons, List.take_zero, List.drop_succ_cons, List.drop_zero, List.reverse_cons, List.reverse_nil, List.cons_append, List.nil_append, List.append_nil, Option.toList_some, Option.toList_none, Nat.reduceAdd, Nat.reduceSub, Nat.reduceLeDiff, Nat.reduceLT, Nat.reduceEqDiff, Nat.le_refl, Nat.zero_le, Nat.zero_add, Nat.sub_zero, true_and, and_true, false_and, and_false, if_true, if_false, ite_true, ite_false, reduceIte, or_true, true_or, Option.isSome_some, not_true_eq_false, not_false_eq_true, forall_const, true_implies, false_implies, implies_true, ne_eq, m_gI_I, m_gJ_J, m_gQ_Q, m_gO_O]
      have k1 := ih (by omega) _ (some (.int (nI (ow c k)))) (some (.int (nI (n_sh (ow c) S sum k)))) hrow h
      rw [hlo] at k1
      exact k1
    · rw [if_neg y] at hlo
      simp (disch := omega) only [st_X7_pays_98, st_X7_pays_100, st_X7_pays_102, st_X7_pays_105, o_iload, o_aload, o_const, o_lconst, o_istore, o_astore, o_iinc, o_dup, o_dup2, o_pop, o_bin, o_div, o_un, o_mbin, o_mun, o_i2l, o_lcmp, o_ifeq, o_ifne, o_iflt, o_ifge, o_ifgt, o_ifle, o_icmpeq, o_icmpne, o_icmplt, o_icmpge, o_icmpgt, o_icmple, o_goto, o_getf, o_puti, o_putz, o_putr, o_iald, o_iast, o_zast, o_lald, o_last, o_aald, o_aast, o_alenO, o_new, o_newi, o_newl, o_newq, o_newqd, o_mna, o_copy, o_drop, o_cast, o_call, o_callx, o_callv, o_callvx, o_callh, o_sald, o_slen, o_switch, m_rcv, o_ireturn, o_zreturn, o_areturn, o_return, o_throw, o_null, o_dupx1, o_de, m_ent, List.getElem?_cons_zero, List.getElem?_cons_succ, List.getElem?_nil, List.set_cons_zero, List.set_cons_succ, List.length_cons, List.length_nil, List.map_cons, List.map_nil, List.replicate_succ, List.replicate_zero, List.take_succ_cons, List.take_zero, List.drop_succ_cons, List.drop_zero, List.reverse_cons, List.reverse_nil, List.cons_append, List.nil_append, List.append_nil, Option.toList_some, Option.toList_none, Nat.reduceAdd, Nat.reduceSub, Nat.reduceLeDiff, Nat.reduceLT, Nat.reduceEqDiff, Nat.le_refl, Nat.zero_le, Nat.zero_add, Nat.sub_zero, true_and, and_true, false_and, and_false, if_true, if_false, ite_true, ite_false, reduceIte, or_true, true_or, Option.isSome_some, not_true_eq_false, not_false_eq_true, forall_const, true_implies, false_implies, implies_true, ne_eq, m_gI_I, m_gJ_J, m_gQ_Q, m_gO_O]
      have k1 := ih (by omega) _ (some (.int (nI (ow c k)))) (some (.int (nI (n_sh (ow c) S sum k)))) hrow h
      rw [hlo] at k1
      exact k1
theorem e_mpays (d : Nat) {n nc c sum : Nat} {cb ow : Nat → Nat → Nat} {acc : Nat → Int32} {ar : Nat → Nat → Int32} {rq : Nat → Nat → Option Nat} {ou : Nat → Int64} {dy : Nat → m_C} (hnc : nc ≤ 10) (hO : x_O nc cb ow ar) (hc : c < nc) (hsum : sum ≤ 20) (hacc : ∀ j, j < 6 → ar 114 j = acc j) :
    ∃ S', m_Ev m_cds m_my (d + 1) 90 [.ref 94, .int (nI c), .int (nI sum)] (n, m_hp ar rq ou dy) (.inl none) S' ∧ ∃ row : Nat → Int32, S' = (n, m_hp (m_uf ar 114 row) rq ou dy) ∧ (∀ j, j < 6 → row j = n_ch (ow c) (cb c 2) sum acc j) ∧ row 6 = ar 114 6 := by
  refine m_goV my_X7_pays cs_X7_pays mm_X7_pays xm_X7_pays (Nat.le_of_ble_eq_true rfl) rfl ?_
  obtain ⟨o1, o2, o3, o4⟩ := hO c hc
  simp (disch := omega) only [mt_X7_pays, st_X7_pays_0, st_X7_pays_1, st_X7_pays_2, st_X7_pays_3, o_iload, o_aload, o_const, o_lconst, o_istore, o_astore, o_iinc, o_dup, o_dup2, o_pop, o_bin, o_div, o_un, o_mbin, o_mun, o_i2l, o_lcmp, o_ifeq, o_ifne, o_iflt, o_ifge, o_ifgt, o_ifle, o_icmpeq, o_icmpne, o_icmplt, o_icmpge, o_icmpgt, o_icmple, o_goto, o_getf, o_puti, o_putz, o_putr, o_iald, o_iast, o_zast, o_lald, o_last, o_aald, o_aast, o_alenO, o_new, o_newi, o_newl, o_newq, o_newqd, o_mna, o_copy, o_drop, o_cast, o_call, o_callx, o_callv, o_callvx, o_callh, o_sald, o_slen, o_switch, m_rcv, o_ireturn, o_zreturn, o_areturn, o_return, o_throw, o_null, o_dupx1, o_de, m_ent, List.getElem?_cons_zero, List.getElem?_cons_succ, List.getElem?_nil, List.set_cons_zero, List.set_cons_succ, List.length_cons, List.length_nil, List.map_cons, List.map_nil, List.replicate_succ, List.replicate_zero, List.take_succ_cons, List.take_zero, List.drop_succ_cons, List.drop_zero, List.reverse_cons, List.reverse_nil, List.cons_append, List.nil_append, List.append_nil, Option.toList_some, Option.toList_none, Nat.reduceAdd, Nat.reduceSub, Nat.reduceLeDiff, Nat.reduceLT, Nat.reduceEqDiff, Nat.le_refl, Nat.zero_le, Nat.zero_add, Nat.sub_zero, true_and, and_true, false_and, and_false, if_true, if_false, ite_true, ite_false, reduceIte, or_true, true_or, Option.isSome_some, not_true_eq_false, not_false_eq_true, forall_const, true_implies, false_implies, implies_true, ne_eq, m_gI_I, m_gJ_J, m_gQ_Q, m_gO_O]
  refine lp_mp1 hnc hO hc 6 0 rfl (fun x4 => ?_)
  simp (disch := omega) only [st_X7_pays_33, st_X7_pays_34, st_X7_pays_36, st_X7_pays_37, st_X7_pays_39, st_X7_pays_40, o_iload, o_aload, o_const, o_lconst, o_istore, o_astore, o_iinc, o_dup, o_dup2, o_pop, o_bin, o_div, o_un, o_mbin, o_mun, o_i2l, o_lcmp, o_ifeq, o_ifne, o_iflt, o_ifge, o_ifgt, o_ifle, o_icmpeq, o_icmpne, o_icmplt, o_icmpge, o_icmpgt, o_icmple, o_goto, o_getf, o_puti, o_putz, o_putr, o_iald, o_iast, o_zast, o_lald, o_last, o_aald, o_aast, o_alenO, o_new, o_newi, o_newl, o_newq, o_newqd, o_mna, o_copy, o_drop, o_cast, o_call, o_callx, o_callv, o_callvx, o_callh, o_sald, o_slen, o_switch, m_rcv, o_ireturn, o_zreturn, o_areturn, o_return, o_throw, o_null, o_dupx1, o_de, m_ent, List.getElem?_cons_zero, List.getElem?_cons_succ, List.getElem?_nil, List.set_cons_zero, List.set_cons_succ, List.length_cons, List.length_nil, List.map_cons, List.map_nil, List.replicate_succ, List.replicate_zero, List.take_succ_cons, List.take_zero, List.drop_succ_cons, List.drop_zero, List.reverse_cons, List.reverse_nil, List.cons_append, List.nil_append, List.append_nil, Option.toList_some, Option.toList_none, Nat.reduceAdd, Nat.reduceSub, Nat.reduceLeDiff, Nat.reduceLT, Nat.reduceEqDiff, Nat.le_refl, Nat.zero_le, Nat.zero_add, Nat.sub_zero, true_and, and_true, false_and, and_false, if_true, if_false, ite_true, ite_false, reduceIte, or_true, true_or, Option.isSome_some, not_true_eq_false, not_false_eq_true, forall_const, true_implies, false_implies, implies_true, ne_eq, m_gI_I, m_gJ_J, m_gQ_Q, m_gO_O]
  obtain ⟨q, hq⟩ : ∃ q, n_lo (ow c) 6 0 = some q := by
    cases hq : n_lo (ow c) 6 0 with
    | some q => exact ⟨q, rfl⟩
    | none =>
      have h0 := n_lo_none hq
      have h1 : n_sum (ow c) 6 = 0 := n_sum_0 (fun j hj => h0 j (Nat.zero_le j) (by omega))
      omega
  have hq6 := (n_lo_lt hq).2
  have key := lp_mp2 (call := m_Ev m_cds m_my d) (r := fun o2 S2 => o2 = Sum.inl none ∧ ∃ row : Nat → Int32, S2 = (n, m_hp (m_uf ar 114 row) rq ou dy) ∧ (∀ j, j < 6 → row j = n_ch (ow c) (cb c 2) sum acc j) ∧ row 6 = ar 114 6) (bd := (0, 0)) (n := n) (rq := rq) (ou := ou) (dy := dy) hnc hO hc rfl hsum 6 (Nat.le_refl _) (ar 114) none none (fun j hj => by rw [if_neg (by omega)]) (fun row x6 x7 x8 hr => ?_)
  · rw [m_uf_self, Nat.sub_self] at key
    have e1 : nI sum - nI 0 = nI sum := Int32.sub_zero _
    have e2 : nI 6 + (-1) = 5 := by decide
    rw [e1, e2] at key
    rw [o3]
    exact key
  · rw [hq]
    have hq7 : q < 7 := by omega
    simp (disch := omega) only [st_X7_pays_108, st_X7_pays_109, st_X7_pays_112, st_X7_pays_114, st_X7_pays_115, st_X7_pays_116, st_X7_pays_118, st_X7_pays_119, st_X7_pays_120, o_iload, o_aload, o_const, o_lconst, o_istore, o_astore, o_iinc, o_dup, o_dup2, o_pop, o_bin, o_div, o_un, o_mbin, o_mun, o_i2l, o_lcmp, o_ifeq, o_ifne, o_iflt, o_ifge, o_ifgt, o_ifle, o_icmpeq, o_icmpne, o_icmplt, o_icmpge, o_icmpgt, o_icmple, o_goto, o_getf, o_puti, o_putz, o_putr, o_iald, o_iast, o_zast, o_lald, o_last, o_aald, o_aast, o_alenO, o_new, o_newi, o_newl, o_newq, o_newqd, o_mna, o_copy, o_drop, o_cast, o_call, o_callx, o_callv, o_callvx, o_callh, o_sald, o_slen, o_switch, m_rcv, o_ireturn, o_zreturn, o_areturn, o_return, o_throw, o_null, o_dupx1, o_de, m_ent, List.getElem?_cons_zero, List.getElem?_cons_succ, List.getElem?_nil, List.set_cons_zero, List.set_cons_succ, List.length_cons, List.length_nil, List.map_cons, List.map_nil, List.replicate_succ, List.replicate_zero, List.take_succ_cons, List.take_zero, List.drop_succ_cons, List.drop_zero, List.reverse_cons, List.reverse_nil, List.cons_append, List.nil_append, List.append_nil, Option.toList_some, Option.toList_none, Nat.reduceAdd, Nat.reduceSub, Nat.reduceLeDiff, Nat.reduceLT, Nat.reduceEqDiff, Nat.le_refl, Nat.zero_le, Nat.zero_add, Nat.sub_zero, true_and, and_true, false_and, and_false, if_true, if_false, ite_true, ite_false, reduceIte, or_true, true_or, Option.isSome_some, not_true_eq_false, not_false_eq_true, forall_const, true_implies, false_implies, implies_true, ne_eq, m_gI_I, m_gJ_J, m_gQ_Q, m_gO_O, m_hp_94, m_fM_len, m_fM_0, m_fM_1, m_fM_2, m_fM_3, m_fM_4, m_fM_5, m_fM_6, m_fM_7, m_fM_8, m_fM_9, m_fM_10, m_fM_11, m_fM_12, m_fM_13, m_fM_14, m_fM_15, m_fM_16, m_fM_17, m_fM_18, m_fM_19, m_fM_20, m_fM_21, m_fM_22, m_fM_23, m_fM_24, m_fM_25, m_fM_26, m_fM_27, m_fM_28, m_fM_29, m_fM_30, m_fM_31, m_fM_32, m_fM_33, m_fM_34, m_fM_35, m_fM_s0, m_fM_s1, m_fM_s5, m_fM_s12, m_fM_s17, m_fM_s22, m_fM_s23, m_fM_s27, m_fM_s32, m_fM_s33, m_fM_s34, m_fM_s35, m_hp_114, m_up_114, n_ws, v_in, v_cl, m_uf_eq, m_uf_uu]
    refine ⟨_, rfl, fun j hj => ?_, ?_⟩
    · rw [n_ch_eq hq j hj]
      by_cases e : j = q
      · subst e
        rw [if_pos rfl, upd, if_pos rfl, hr j (by omega), if_pos hj, hacc j hj]
      · rw [if_neg e, upd, if_neg e, hr j (by omega), if_pos hj, hacc j hj]
    · rw [upd, if_neg (by omega), hr 6 (by omega), if_neg (by omega)]
