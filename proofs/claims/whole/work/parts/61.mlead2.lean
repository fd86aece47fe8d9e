/-! the model: leadsAll, the method -/
def n_ldm (nc : Nat) (wh : Nat → Nat) (cb db : Nat → Nat → Nat) (own : Bool) (m i : Nat) (q : n_Q) : n_Q := n_up (fun i q => match q.2.2.1 i with | none => n_L1 nc wh cb db (if own = true then 0 else 20) i q | some _ => q) m i q
def x_Q (o32 : Nat → Nat → Int32) (nc nd : Nat) (q : n_Q) (ar : Nat → Nat → Int32) : Prop := x_F nc q.1 ar ∧ (∀ i, i < 6 → ∀ j, j < 6 → ar 112 (6 * i + j) = o32 i j + nI (q.2.1 i j)) ∧ (∀ i, i < nd → ar 102 i = n_w (q.2.2.1 i)) ∧ (∀ i, i < nd → ar 103 i = nI (q.2.2.2 i)) ∧ (∀ i, nd ≤ i → ar 103 i = 0)
def x_ls (ar0 ar : Nat → Nat → Int32) : Prop := (∀ x, x ≠ 94 → x ≠ 102 → x ≠ 103 → x ≠ 112 → x < 115 ∨ 118 < x → ar x = ar0 x) ∧ ∀ k, k ≠ 32 → k ≠ 33 → k ≠ 34 → ar 94 k = ar0 94 k
theorem x_ls_refl {ar : Nat → Nat → Int32} : x_ls ar ar := ⟨fun _ _ _ _ _ _ => rfl, fun _ _ _ _ => rfl⟩
theorem x_ls_trans {a b c : Nat → Nat → Int32} (h1 : x_ls a b) (h2 : x_ls b c) : x_ls a c := ⟨fun x a1 a2 a3 a4 a5 => (h2.1 x a1 a2 a3 a4 a5).trans (h1.1 x a1 a2 a3 a4 a5), fun k a1 a2 a3 => (h2.2 k a1 a2 a3).trans (h1.2 k a1 a2 a3)⟩
theorem x_ls_fr {a b : Nat → Nat → Int32} (h : x_fr a b) : x_ls a b := ⟨fun x a1 a2 a3 a4 a5 => h.1 x a1 (by omega) (by omega) (by omega), h.2⟩
theorem x_K_ls {nk : Nat} {kb : Nat → Nat → Nat} {a b : Nat → Nat → Int32} (h : x_ls a b) (hK : x_K nk kb a) : x_K nk kb b := by
  refine ⟨by rw [h.2 12 (by omega) (by omega) (by omega)]; exact hK.1, fun k hk => ?_⟩
  rw [h.1 104 (by omega) (by omega) (by omega) (by omega) (by omega), h.1 105 (by omega) (by omega) (by omega) (by omega) (by omega), h.1 106 (by omega) (by omega) (by omega) (by omega) (by omega), h.1 107 (by omega) (by omega) (by omega) (by omega) (by omega)]
  exact hK.2 k hk
theorem x_C_ls {nc : Nat} {cb : Nat → Nat → Nat} {a b : Nat → Nat → Int32} (h : x_ls a b) (hC : x_C nc cb a) : x_C nc cb b := by
  refine ⟨by rw [h.2 1 (by omega) (by omega) (by omega)]; exact hC.1, fun c hc => ?_⟩
  rw [h.1 95 (by omega) (by omega) (by omega) (by omega) (by omega), h.1 96 (by omega) (by omega) (by omega) (by omega) (by omega)]
  exact hC.2 c hc
theorem x_D_ls {nd : Nat} {db : Nat → Nat → Nat} {a b : Nat → Nat → Int32} (h : x_ls a b) (hD : x_D nd db a) : x_D nd db b := by
  refine ⟨by rw [h.2 5 (by omega) (by omega) (by omega)]; exact hD.1, fun i hi => ?_⟩
  rw [h.1 98 (by omega) (by omega) (by omega) (by omega) (by omega), h.1 99 (by omega) (by omega) (by omega) (by omega) (by omega), h.1 100 (by omega) (by omega) (by omega) (by omega) (by omega), h.1 101 (by omega) (by omega) (by omega) (by omega) (by omega)]
  exact hD.2 i hi
def x_wc (nc nk : Nat) (wh : Nat → Nat) (kb : Nat → Nat → Nat) : Prop := ∀ c, c < nc → (wh c = 0 ↔ n_co kb c nk 0 ≠ none)
theorem p_find {nc nk nd i : Nat} {own : Bool} {wh : Nat → Nat} {kb cb db fr : Nat → Nat → Nat} {ar : Nat → Nat → Int32} (hC : x_C nc cb ar) (hD : x_D nd db ar) (hwc : x_wc nc nk wh kb) (hi : i < nd) :
    p_R (if own = true then 0 else 20) (n_fw nc (fun c => cb c 0) (fun c => cb c 1) (fun c => cb c 5) (n_foS wh fr (db i 0) (db i 3)) (db i 2) 5 (db i 1) (2 ^ db i 1) 0 0 0 (none, (if own = true then 0 else 20), 7200)) (p_fw nc (fun c => cb c 0) (fun c => cb c 1) (fun c => cb c 5) (n_mo kb nk fr own (db i 0) (db i 3)) (db i 2) 5 0 (db i 1) (2 ^ db i 1) (fun _ => 0) 0 0 none) := by
  obtain ⟨D1, D2, D3, D4, D5, D6, D7, D8, D9⟩ := hD.2 i hi
  refine p_eq (F := if own = true then 0 else 4) (fun c hc => ?_) (fun c hc f hf => ?_) (by cases own <;> decide) (fun c hc => x_C_5 hC hc) 5 0 (db i 1) (2 ^ db i 1) (fun _ => 0) 0 0 _ none D9 rfl (by omega) (by omega) rfl
  · have hw := hwc c hc
    unfold n_mo n_foS
    by_cases h1 : n_co kb c nk 0 ≠ none
    · rw [if_pos (Or.inl h1), if_pos (Or.inl (hw.mpr h1))]
      exact Or.inl rfl
    · have h1' : ¬ wh c = 0 := fun z => h1 (hw.mp z)
      by_cases h2 : n_sum (fr c) 6 < db i 3
      · rw [if_pos (Or.inr (Or.inl h2)), if_pos (Or.inr h2)]
        exact Or.inl rfl
      · have h3 : ¬ (wh c = 0 ∨ n_sum (fr c) 6 < db i 3) := fun z => z.elim h1' h2
        rw [if_neg h3]
        by_cases h4 : own = true ∧ fr c (db i 0) < db i 3
        · rw [if_pos (Or.inr (Or.inr h4)), if_pos h4.1]
          exact Or.inr ⟨rfl, rfl, db i 3 - fr c (db i 0) - 1, by congr 1; omega⟩
        · rw [if_neg (fun z => z.elim h1 (fun z => z.elim h2 h4))]
          exact Or.inl rfl
  · unfold n_mo at hf
    split at hf
    · cases hf
    · rename_i h1
      cases hf
      by_cases e : own = true
      · rw [if_pos e]
        have h2 : ¬ fr c (db i 0) < db i 3 := fun z => h1 (Or.inr (Or.inr ⟨e, z⟩))
        omega
      · rw [if_neg e]
        omega
theorem n_ldm_s {nc m i : Nat} {wh : Nat → Nat} {cb db : Nat → Nat → Nat} {own : Bool} {q : n_Q} : n_ldm nc wh cb db own (m + 1) i q = n_ldm nc wh cb db own m (i + 1) (match q.2.2.1 i with | none => n_L1 nc wh cb db (if own = true then 0 else 20) i q | some _ => q) := rfl
theorem lp_mla {d n nc nk nd : Nat} {own : Bool} {wh : Nat → Nat} {kb cb db : Nat → Nat → Nat} {o32 : Nat → Nat → Int32} {r : m_R → m_S → Prop} {bd : Nat × Nat} {ar : Nat → Nat → Int32} {rq : Nat → Nat → Option Nat} {ou : Nat → Int64} {dy : Nat → m_C} (hnc : nc ≤ 10) (hnk : nk ≤ 16) (hnd : nd ≤ 10) (hC : x_C nc cb ar) (hK : x_K nk kb ar) (hD : x_D nd db ar) (hwc : x_wc nc nk wh kb) :
    ∀ (m i : Nat), i + m = nd → ∀ (ar1 : Nat → Nat → Int32) (q : n_Q) (x3 : Option Value), x_Q o32 nc nd q ar1 → n_q8 nc q → x_ls ar ar1 →
      (∀ (ar2 : Nat → Nat → Int32), x_Q o32 nc nd (n_ldm nc wh cb db own m i q) ar2 → n_q8 nc (n_ldm nc wh cb db own m i q) → x_ls ar ar2 → r (.inl none) (n, m_hp ar2 rq ou dy)) →
      m_W1 (m_lk cd_X7_leadsAll) (m_Ev m_cds m_my (d + 4)) r 2 [some (.ref 94), some (.int (n_b own)), some (.int (nI i)), x3] [] bd (n, m_hp ar1 rq ou dy) := by
  intro m
  induction m with
  | zero =>
    intro i hi ar1 q x3 h1 h2 h3 h
    have e : i = nd := by omega
    subst e
    have hD1 := (x_D_ls h3 hD).1
    rw [st_X7_leadsAll_2]
    simp (disch := omega) only [st_X7_leadsAll_3, st_X7_leadsAll_4, st_X7_leadsAll_7, st_X7_leadsAll_107, o_iload, o_aload, o_const, o_lconst, o_istore, o_astore, o_iinc, o_dup, o_dup2, o_pop, o_bin, o_div, o_un, o_mbin, o_mun, o_i2l, o_lcmp, o_ifeq, o_ifne, o_iflt, o_ifge, o_ifgt, o_ifle, o_icmpeq, o_icmpne, o_icmplt, o_icmpge, o_icmpgt, o_icmple, o_goto, o_getf, o_puti, o_putz, o_putr, o_iald, o_iast, o_zast, o_lald, o_last, o_aald, o_aast, o_alenO, o_new, o_newi, o_newl, o_newq, o_newqd, o_mna, o_copy, o_drop, o_cast, o_call, o_callx, o_callv, o_callvx, o_callh, o_sald, o_slen, o_switch, m_rcv, o_ireturn, o_zreturn, o_areturn, o_return, o_throw, o_null, o_dupx1, o_de, m_ent, List.getElem?_cons_zero, List.getElem?_cons_succ, List.getElem?_nil, List.set_cons_zero, List.set_cons_succ, List.length_cons, List.length_nil, List.map_cons, List.map_nil, List.replicate_succ, List.replicate_zero, List.take_succ_cons, List.take_zero, List.drop_succ_cons, List.drop_zero, List.reverse_cons, List.reverse_nil, List.cons_append, List.nil_append, List.append_nil, Option.toList_some, Option.toList_none, Nat.reduceAdd, Nat.reduceSub, Nat.reduceLeDiff, Nat.reduceLT, Nat.reduceEqDiff, Nat.le_refl, Nat.zero_le, Nat.zero_add, Nat.sub_zero, true_and, and_true, false_and, and_false, if_true, if_false, ite_true, ite_false, reduceIte, or_true, true_or, Option.isSome_some, not_true_eq_false, not_false_eq_true, forall_const, true_implies, false_implies, implies_true, ne_eq, m_gI_I, m_gJ_J, m_gQ_Q, m_gO_O, m_hp_94, m_fM_len, m_fM_0, m_fM_1, m_fM_2, m_fM_3, m_fM_4, m_fM_5, m_fM_6, m_fM_7, m_fM_8, m_fM_9, m_fM_10, m_fM_11, m_fM_12, m_fM_13, m_fM_14, m_fM_15, m_fM_16, m_fM_17, m_fM_18, m_fM_19, m_fM_20, m_fM_21, m_fM_22, m_fM_23, m_fM_24, m_fM_25, m_fM_26, m_fM_27, m_fM_28, m_fM_29, m_fM_30, m_fM_31, m_fM_32, m_fM_33, m_fM_34, m_fM_35, m_fM_s0, m_fM_s1, m_fM_s5, m_fM_s12, m_fM_s17, m_fM_s22, m_fM_s23, m_fM_s27, m_fM_s32, m_fM_s33, m_fM_s34, m_fM_s35, hD1]
    exact ⟨fun z => absurd z Int32.lt_irrefl, fun _ => h ar1 h1 h2 h3⟩
  | succ m ih =>
    intro i hi ar1 q x3 h1 h2 h3 h
    have hin : i < nd := by omega
    have hi10 : i < 10 := by omega
    have hC1 := x_C_ls h3 hC
    have hK1 := x_K_ls h3 hK
    have hD1 := x_D_ls h3 hD
    have hlt : nI i < nI nd := nI_lt hin (by omega)
    have h5 := hD1.1
    obtain ⟨D1, D2, D3, D4, D5, D6, D7, D8, D9⟩ := hD1.2 i hin
    obtain ⟨Q1, Q2, Q3, Q4, Q5⟩ := id h1
    have hwy := Q3 i hin
    rw [n_ldm_s] at h
    rw [st_X7_leadsAll_2]
    rcases hwi : q.2.2.1 i with _ | w
    · rw [hwi] at hwy h
      have hm1 : (n_w none = -1) = True := eq_true rfl
      simp (disch := omega) only [st_X7_leadsAll_3, st_X7_leadsAll_4, st_X7_leadsAll_7, st_X7_leadsAll_10, st_X7_leadsAll_11, st_X7_leadsAll_14, st_X7_leadsAll_15, st_X7_leadsAll_16, st_X7_leadsAll_17, st_X7_leadsAll_20, st_X7_leadsAll_21, st_X7_leadsAll_22, st_X7_leadsAll_23, o_iload, o_aload, o_const, o_lconst, o_istore, o_astore, o_iinc, o_dup, o_dup2, o_pop, o_bin, o_div, o_un, o_mbin, o_mun, o_i2l, o_lcmp, o_ifeq, o_ifne, o_iflt, o_ifge, o_ifgt, o_ifle, o_icmpeq, o_icmpne, o_icmplt, o_icmpge, o_icmpgt, o_icmple, o_goto, o_getf, o_puti, o_putz, o_putr, o_iald, o_iast, o_zast, o_lald, o_last, o_aald, o_aast, o_alenO, o_new, o_newi, o_newl, o_newq, o_newqd, o_mna, o_copy, o_drop, o_cast, o_call, o_callx, o_callv, o_callvx, o_callh, o_sald, o_slen, o_switch, m_rcv, o_ireturn, o_zreturn, o_areturn, o_return, o_throw, o_null, o_dupx1, o_de, m_ent, List.getElem?_cons_zero, List.getElem?_cons_succ, List.getElem?_nil, List.set_cons_zero, List.set_cons_succ, List.length_cons, List.length_nil, List.map_cons, List.map_nil, List.replicate_succ, List.replicate_zero, List.take_succ_cons, List.take_zero, List.drop_succ_cons, List.drop_zero, List.reverse_cons, List.reverse_nil, List.cons_append, List.nil_append, List.append_nil, Option.toList_some, Option.toList_none, Nat.reduceAdd, Nat.reduceSub, Nat.reduceLeDiff, Nat.reduceLT, Nat.reduceEqDiff, Nat.le_refl, Nat.zero_le, Nat.zero_add, Nat.sub_zero, true_and, and_true, false_and, and_false, if_true, if_false, ite_true, ite_false, reduceIte, or_true, true_or, Option.isSome_some, not_true_eq_false, not_false_eq_true, forall_const, true_implies, false_implies, implies_true, ne_eq, m_gI_I, m_gJ_J, m_gQ_Q, m_gO_O, m_hp_94, m_fM_len, m_fM_0, m_fM_1, m_fM_2, m_fM_3, m_fM_4, m_fM_5, m_fM_6, m_fM_7, m_fM_8, m_fM_9, m_fM_10, m_fM_11, m_fM_12, m_fM_13, m_fM_14, m_fM_15, m_fM_16, m_fM_17, m_fM_18, m_fM_19, m_fM_20, m_fM_21, m_fM_22, m_fM_23, m_fM_24, m_fM_25, m_fM_26, m_fM_27, m_fM_28, m_fM_29, m_fM_30, m_fM_31, m_fM_32, m_fM_33, m_fM_34, m_fM_35, m_fM_s0, m_fM_s1, m_fM_s5, m_fM_s12, m_fM_s17, m_fM_s22, m_fM_s23, m_fM_s27, m_fM_s32, m_fM_s33, m_fM_s34, m_fM_s35, m_hp_102, v_in, v_cl, h5, hlt, hwy, hm1]
      obtain ⟨v, S', hE, rfl, ar2, rfl, f1, f2, f3⟩ := e_mfindsWay d (n := n) (own := own) (ar := ar1) (rq := rq) (ou := ou) (dy := dy) hnc hnk hnd hC1 hK1 hD1 Q1 h2.1 hin
      refine ⟨_, _, hE, ?_⟩
      have hR := p_find (own := own) (fr := q.1) hC1 hD1 hwc hin
      generalize hres : p_fw nc (fun c => cb c 0) (fun c => cb c 1) (fun c => cb c 5) (n_mo kb nk q.1 own (db i 0) (db i 3)) (db i 2) 5 0 (db i 1) (2 ^ db i 1) (fun _ => 0) 0 0 none = res at f2 f3 hR ⊢
      have hq8 : n_q8 nc (n_L1 nc wh cb db (if own = true then 0 else 20) i q) := n_l1_q8 hnc (by omega) (by cases own <;> decide) (fun c hc => x_C_5 hC1 hc) h2
      cases res with
      | none =>
        have e1 : n_L1 nc wh cb db (if own = true then 0 else 20) i q = q := n_l1_n (b := (none, (if own = true then 0 else 20), 7200)) hR rfl
        rw [e1] at h
        have hb0 : (n_b (n_is none) = 0) = True := eq_true rfl
        simp (disch := omega) only [st_X7_leadsAll_26, st_X7_leadsAll_101, st_X7_leadsAll_104, o_iload, o_aload, o_const, o_lconst, o_istore, o_astore, o_iinc, o_dup, o_dup2, o_pop, o_bin, o_div, o_un, o_mbin, o_mun, o_i2l, o_lcmp, o_ifeq, o_ifne, o_iflt, o_ifge, o_ifgt, o_ifle, o_icmpeq, o_icmpne, o_icmplt, o_icmpge, o_icmpgt, o_icmple, o_goto, o_getf, o_puti, o_putz, o_putr, o_iald, o_iast, o_zast, o_lald, o_last, o_aald, o_aast, o_alenO, o_new, o_newi, o_newl, o_newq, o_newqd, o_mna, o_copy, o_drop, o_cast, o_call, o_callx, o_callv, o_callvx, o_callh, o_sald, o_slen, o_switch, m_rcv, o_ireturn, o_zreturn, o_areturn, o_return, o_throw, o_null, o_dupx1, o_de, m_ent, List.getElem?_cons_zero, List.getElem?_cons_succ, List.getElem?_nil, List.set_cons_zero, List.set_cons_succ, List.length_cons, List.length_nil, List.map_cons, List.map_nil, List.replicate_succ, List.replicate_zero, List.take_succ_cons, List.take_zero, List.drop_succ_cons, List.drop_zero, List.reverse_cons, List.reverse_nil, List.cons_append, List.nil_append, List.append_nil, Option.toList_some, Option.toList_none, Nat.reduceAdd, Nat.reduceSub, Nat.reduceLeDiff, Nat.reduceLT, Nat.reduceEqDiff, Nat.le_refl, Nat.zero_le, Nat.zero_add, Nat.sub_zero, true_and, and_true, false_and, and_false, if_true, if_false, ite_true, ite_false, reduceIte, or_true, true_or, Option.isSome_some, not_true_eq_false, not_false_eq_true, forall_const, true_implies, false_implies, implies_true, ne_eq, m_gI_I, m_gJ_J, m_gQ_Q, m_gO_O, hb0, nI_1]
        refine ih (i + 1) (by omega) ar2 q x3 ⟨x_F_fr f1 Q1, fun a ha j hj => ?_, fun a ha => ?_, fun a ha => ?_, fun a ha => (by rw [f1.1 103 (by omega) (by omega) (by omega) (by omega)]; exact Q5 a ha)⟩ h2 (x_ls_trans h3 (x_ls_fr f1)) h
        · rw [f1.1 112 (by omega) (by omega) (by omega) (by omega)]; exact Q2 a ha j hj
        · rw [f1.1 102 (by omega) (by omega) (by omega) (by omega)]; exact Q3 a ha
        · rw [f1.1 103 (by omega) (by omega) (by omega) (by omega)]; exact Q4 a ha
      | some z =>
        obtain ⟨len, p, l, t⟩ := z
        obtain ⟨hR1, hR2⟩ := hR
        obtain ⟨B1, B2, B3, B4⟩ := f2
        obtain ⟨o1, o2, o3, o4, o5, o6⟩ := f3
        have e1 : n_L1 nc wh cb db (if own = true then 0 else 20) i q = (fun c j => n_fm q.1 (n_mk p len) (db i 0) (db i 3) c j, m_uf q.2.1 (db i 0) (fun j => n_Ls q.1 (fun c => cb c 5) (q.2.1 (db i 0)) (n_mk p len) (db i 0) (db i 3) nc j), m_uf q.2.2.1 i (some (n_mk p len)), m_uf q.2.2.2 i l) := n_l1_s hR1 rfl
        rw [e1] at h hq8
        have hb0 : (n_b (n_is (some (len, p, l, t))) = 0) = False := eq_false (show ¬ (1 : Int32) = 0 by decide)
        have B1' : ar2 94 32 = nI len := B1
        have B2' : ar2 94 33 = nI l := B2
        simp (disch := omega) only [st_X7_leadsAll_26, st_X7_leadsAll_29, st_X7_leadsAll_30, st_X7_leadsAll_33, st_X7_leadsAll_34, st_X7_leadsAll_35, st_X7_leadsAll_36, st_X7_leadsAll_37, st_X7_leadsAll_40, st_X7_leadsAll_41, st_X7_leadsAll_42, st_X7_leadsAll_45, st_X7_leadsAll_46, st_X7_leadsAll_47, o_iload, o_aload, o_const, o_lconst, o_istore, o_astore, o_iinc, o_dup, o_dup2, o_pop, o_bin, o_div, o_un, o_mbin, o_mun, o_i2l, o_lcmp, o_ifeq, o_ifne, o_iflt, o_ifge, o_ifgt, o_ifle, o_icmpeq, o_icmpne, o_icmplt, o_icmpge, o_icmpgt, o_icmple, o_goto, o_getf, o_puti, o_putz, o_putr, o_iald, o_iast, o_zast, o_lald, o_last, o_aald, o_aast, o_alenO, o_new, o_newi, o_newl, o_newq, o_newqd, o_mna, o_copy, o_drop, o_cast, o_call, o_callx, o_callv, o_callvx, o_callh, o_sald, o_slen, o_switch, m_rcv, o_ireturn, o_zreturn, o_areturn, o_return, o_throw, o_null, o_dupx1, o_de, m_ent, List.getElem?_cons_zero, List.getElem?_cons_succ, List.getElem?_nil, List.set_cons_zero, List.set_cons_succ, List.length_cons, List.length_nil, List.map_cons, List.map_nil, List.replicate_succ, List.replicate_zero, List.take_succ_cons, List.take_zero, List.drop_succ_cons, List.drop_zero, List.reverse_cons, List.reverse_nil, List.cons_append, List.nil_append, List.append_nil, Option.toList_some, Option.toList_none, Nat.reduceAdd, Nat.reduceSub, Nat.reduceLeDiff, Nat.reduceLT, Nat.reduceEqDiff, Nat.le_refl, Nat.zero_le, Nat.zero_add, Nat.sub_zero, true_and, and_true, false_and, and_false, if_true, if_false, ite_true, ite_false, reduceIte, or_true, true_or, Option.isSome_some, not_true_eq_false, not_false_eq_true, forall_const, true_implies, false_implies, implies_true, ne_eq, m_gI_I, m_gJ_J, m_gQ_Q, m_gO_O, m_hp_94, m_fM_len, m_fM_0, m_fM_1, m_fM_2, m_fM_3, m_fM_4, m_fM_5, m_fM_6, m_fM_7, m_fM_8, m_fM_9, m_fM_10, m_fM_11, m_fM_12, m_fM_13, m_fM_14, m_fM_15, m_fM_16, m_fM_17, m_fM_18, m_fM_19, m_fM_20, m_fM_21, m_fM_22, m_fM_23, m_fM_24, m_fM_25, m_fM_26, m_fM_27, m_fM_28, m_fM_29, m_fM_30, m_fM_31, m_fM_32, m_fM_33, m_fM_34, m_fM_35, m_fM_s0, m_fM_s1, m_fM_s5, m_fM_s12, m_fM_s17, m_fM_s22, m_fM_s23, m_fM_s27, m_fM_s32, m_fM_s33, m_fM_s34, m_fM_s35, m_hp_102, m_up_102, m_hp_103, m_up_103, v_in, v_cl, hb0, m_uf_ne, B2']
        rw [v_0]
        have hls : x_ls ar2 (m_uf (m_uf ar2 102 (upd (ar2 102) i (nI 0))) 103 (upd (ar2 103) i (nI l))) := ⟨fun x a1 a2 a3 a4 a5 => by rw [m_uf_ne a3, m_uf_ne a2], fun k a1 a2 a3 => by rw [m_uf_ne (by omega), m_uf_ne (by omega)]⟩
        have hls2 := x_ls_trans (x_ls_trans h3 (x_ls_fr f1)) hls
        have hcur : ∀ x, x ≠ 102 → x ≠ 103 → m_uf (m_uf ar2 102 (upd (ar2 102) i (nI 0))) 103 (upd (ar2 103) i (nI l)) x = ar2 x := fun x a1 a2 => by rw [m_uf_ne a2, m_uf_ne a1]
        have h102 : m_uf (m_uf ar2 102 (upd (ar2 102) i (nI 0))) 103 (upd (ar2 103) i (nI l)) 102 = upd (ar2 102) i (nI 0) := by rw [m_uf_ne (by omega), m_uf_eq]
        have h103 : m_uf (m_uf ar2 102 (upd (ar2 102) i (nI 0))) 103 (upd (ar2 103) i (nI l)) 103 = upd (ar2 103) i (nI l) := by rw [m_uf_eq]
        generalize m_uf (m_uf ar2 102 (upd (ar2 102) i (nI 0))) 103 (upd (ar2 103) i (nI l)) = ar3 at hls2 hcur h102 h103 ⊢
        have hfm0 : n_fm q.1 (n_mk p 0) (db i 0) (db i 3) = q.1 := by
          funext c o
          unfold n_fm
          rw [if_neg (fun z => ?_)]
          obtain ⟨a, b1, _⟩ := n_mk_bit.mp z
          exact absurd b1 (Nat.not_lt_zero a)
        refine lp_mtl (d := d + 2) (ar := ar3) (fr := q.1) (p := p) (len := len) hnc hnd (x_C_ls hls2 hC) (x_D_ls hls2 hD) h2.1 hin (by rw [hcur 94 (by omega) (by omega)]; exact B1') o2 (fun j hj => ⟨by rw [hcur 118 (by omega) (by omega)]; exact B4 j hj, o3 j hj⟩) o4 len 0 (by omega) ar3 ?_ (fun a ha o ho => ?_) ?_ (fun _ _ _ _ => rfl) (fun ar4 x3 g1 g2 g3 g4 => ?_)
        · rw [hfm0]
          exact fun c hc o ho => by rw [hcur 115 (by omega) (by omega)]; exact x_F_fr f1 Q1 c hc o ho
        · split
          · exact (Int32.add_zero _).symm
          · rfl
        · rw [h102]
          funext y
          show upd (ar2 102) i (nI 0) y = upd (upd (ar2 102) i (nI 0)) i (nI 0) y
          unfold upd
          by_cases e : y = i
          · rw [if_pos e, if_pos e]
          · rw [if_neg e, if_neg e]
        · simp (disch := omega) only [st_X7_leadsAll_101, st_X7_leadsAll_104, o_iload, o_aload, o_const, o_lconst, o_istore, o_astore, o_iinc, o_dup, o_dup2, o_pop, o_bin, o_div, o_un, o_mbin, o_mun, o_i2l, o_lcmp, o_ifeq, o_ifne, o_iflt, o_ifge, o_ifgt, o_ifle, o_icmpeq, o_icmpne, o_icmplt, o_icmpge, o_icmpgt, o_icmple, o_goto, o_getf, o_puti, o_putz, o_putr, o_iald, o_iast, o_zast, o_lald, o_last, o_aald, o_aast, o_alenO, o_new, o_newi, o_newl, o_newq, o_newqd, o_mna, o_copy, o_drop, o_cast, o_call, o_callx, o_callv, o_callvx, o_callh, o_sald, o_slen, o_switch, m_rcv, o_ireturn, o_zreturn, o_areturn, o_return, o_throw, o_null, o_dupx1, o_de, m_ent, List.getElem?_cons_zero, List.getElem?_cons_succ, List.getElem?_nil, List.set_cons_zero, List.set_cons_succ, List.length_cons, List.length_nil, List.map_cons, List.map_nil, List.replicate_succ, List.replicate_zero, List.take_succ_cons, List.take_zero, List.drop_succ_cons, List.drop_zero, List.reverse_cons, List.reverse_nil, List.cons_append, List.nil_append, List.append_nil, Option.toList_some, Option.toList_none, Nat.reduceAdd, Nat.reduceSub, Nat.reduceLeDiff, Nat.reduceLT, Nat.reduceEqDiff, Nat.le_refl, Nat.zero_le, Nat.zero_add, Nat.sub_zero, true_and, and_true, false_and, and_false, if_true, if_false, ite_true, ite_false, reduceIte, or_true, true_or, Option.isSome_some, not_true_eq_false, not_false_eq_true, forall_const, true_implies, false_implies, implies_true, ne_eq, m_gI_I, m_gJ_J, m_gQ_Q, m_gO_O, nI_1]
          refine ih (i + 1) (by omega) ar4 _ x3 ⟨g1, fun a ha j hj => ?_, fun a ha => ?_, fun a ha => ?_, fun a ha => (by rw [g4 103 (by omega) (by omega) (by omega), h103, upd, if_neg (by omega), f1.1 103 (by omega) (by omega) (by omega) (by omega)]; exact Q5 a ha)⟩ hq8 (x_ls_trans hls2 ⟨fun x a1 a2 a3 a4 a5 => g4 x a2 a4 (by omega), fun k a1 a2 a3 => by rw [g4 94 (by omega) (by omega) (by omega)]⟩) h
          · rw [g2 a ha j hj, hcur 112 (by omega) (by omega), f1.1 112 (by omega) (by omega) (by omega) (by omega), Q2 a ha j hj]
            show _ = o32 a j + nI (m_uf q.2.1 (db i 0) _ a j)
            by_cases e : a = db i 0
            · subst e
              rw [if_pos rfl, m_uf_eq, n_Ls_sum, n_sum_mk (nc := nc) (G := fun c => n_tk (q.1 c) (db i 0) (db i 3) j * cb c 5) o3 o4, Int32.add_assoc, v_add]
            · rw [if_neg e, m_uf_ne e]
          · rw [g3, h102]
            show _ = n_w (m_uf q.2.2.1 i (some (n_mk p len)) a)
            by_cases e : a = i
            · subst e
              rw [m_uf_eq, upd, if_pos rfl]
              rfl
            · rw [m_uf_ne e, upd, if_neg e, upd, if_neg e, f1.1 102 (by omega) (by omega) (by omega) (by omega)]
              exact Q3 a ha
          · rw [g4 103 (by omega) (by omega) (by omega), h103]
            show _ = nI (m_uf q.2.2.2 i l a)
            by_cases e : a = i
            · subst e
              rw [m_uf_eq, upd, if_pos rfl]
            · rw [m_uf_ne e, upd, if_neg e, f1.1 103 (by omega) (by omega) (by omega) (by omega)]
              exact Q4 a ha
    · rw [hwi] at hwy h
      have hw8 := h2.2 i w hwi
      have hm1 : (nI w = -1) = False := n_neg (by omega)
      simp (disch := omega) only [st_X7_leadsAll_3, st_X7_leadsAll_4, st_X7_leadsAll_7, st_X7_leadsAll_10, st_X7_leadsAll_11, st_X7_leadsAll_14, st_X7_leadsAll_15, st_X7_leadsAll_16, st_X7_leadsAll_17, st_X7_leadsAll_101, st_X7_leadsAll_104, o_iload, o_aload, o_const, o_lconst, o_istore, o_astore, o_iinc, o_dup, o_dup2, o_pop, o_bin, o_div, o_un, o_mbin, o_mun, o_i2l, o_lcmp, o_ifeq, o_ifne, o_iflt, o_ifge, o_ifgt, o_ifle, o_icmpeq, o_icmpne, o_icmplt, o_icmpge, o_icmpgt, o_icmple, o_goto, o_getf, o_puti, o_putz, o_putr, o_iald, o_iast, o_zast, o_lald, o_last, o_aald, o_aast, o_alenO, o_new, o_newi, o_newl, o_newq, o_newqd, o_mna, o_copy, o_drop, o_cast, o_call, o_callx, o_callv, o_callvx, o_callh, o_sald, o_slen, o_switch, m_rcv, o_ireturn, o_zreturn, o_areturn, o_return, o_throw, o_null, o_dupx1, o_de, m_ent, List.getElem?_cons_zero, List.getElem?_cons_succ, List.getElem?_nil, List.set_cons_zero, List.set_cons_succ, List.length_cons, List.length_nil, List.map_cons, List.map_nil, List.replicate_succ, List.replicate_zero, List.take_succ_cons, List.take_zero, List.drop_succ_cons, List.drop_zero, List.reverse_cons, List.reverse_nil, List.cons_append, List.nil_append, List.append_nil, Option.toList_some, Option.toList_none, Nat.reduceAdd, Nat.reduceSub, Nat.reduceLeDiff, Nat.reduceLT, Nat.reduceEqDiff, Nat.le_refl, Nat.zero_le, Nat.zero_add, Nat.sub_zero, true_and, and_true, false_and, and_false, if_true, if_false, ite_true, ite_false, reduceIte, or_true, true_or, Option.isSome_some, not_true_eq_false, not_false_eq_true, forall_const, true_implies, false_implies, implies_true, ne_eq, m_gI_I, m_gJ_J, m_gQ_Q, m_gO_O, m_hp_94, m_fM_len, m_fM_0, m_fM_1, m_fM_2, m_fM_3, m_fM_4, m_fM_5, m_fM_6, m_fM_7, m_fM_8, m_fM_9, m_fM_10, m_fM_11, m_fM_12, m_fM_13, m_fM_14, m_fM_15, m_fM_16, m_fM_17, m_fM_18, m_fM_19, m_fM_20, m_fM_21, m_fM_22, m_fM_23, m_fM_24, m_fM_25, m_fM_26, m_fM_27, m_fM_28, m_fM_29, m_fM_30, m_fM_31, m_fM_32, m_fM_33, m_fM_34, m_fM_35, m_fM_s0, m_fM_s1, m_fM_s5, m_fM_s12, m_fM_s17, m_fM_s22, m_fM_s23, m_fM_s27, m_fM_s32, m_fM_s33, m_fM_s34, m_fM_s35, m_hp_102, v_in, v_cl, h5, hlt, hwy, n_ws, hm1, nI_1]
      exact ih (i + 1) (by omega) ar1 q x3 h1 h2 h3 h
theorem e_mleadsAll (d : Nat) {n nc nk nd : Nat} {own : Bool} {wh : Nat → Nat} {kb cb db : Nat → Nat → Nat} {o32 : Nat → Nat → Int32} {q : n_Q} {ar : Nat → Nat → Int32} {rq : Nat → Nat → Option Nat} {ou : Nat → Int64} {dy : Nat → m_C} (hnc : nc ≤ 10) (hnk : nk ≤ 16) (hnd : nd ≤ 10) (hC : x_C nc cb ar) (hK : x_K nk kb ar) (hD : x_D nd db ar) (hwc : x_wc nc nk wh kb) (hQ : x_Q o32 nc nd q ar) (h8 : n_q8 nc q) :
    ∃ S', m_Ev m_cds m_my (d + 5) 89 [.ref 94, .int (n_b own)] (n, m_hp ar rq ou dy) (.inl none) S' ∧ ∃ ar' : Nat → Nat → Int32, S' = (n, m_hp ar' rq ou dy) ∧ x_Q o32 nc nd (n_ldm nc wh cb db own nd 0 q) ar' ∧ n_q8 nc (n_ldm nc wh cb db own nd 0 q) ∧ x_ls ar ar' := by
  refine m_goV my_X7_leadsAll cs_X7_leadsAll mm_X7_leadsAll xm_X7_leadsAll (Nat.le_of_ble_eq_true rfl) rfl ?_
  simp (disch := omega) only [mt_X7_leadsAll, st_X7_leadsAll_0, st_X7_leadsAll_1, o_iload, o_aload, o_const, o_lconst, o_istore, o_astore, o_iinc, o_dup, o_dup2, o_pop, o_bin, o_div, o_un, o_mbin, o_mun, o_i2l, o_lcmp, o_ifeq, o_ifne, o_iflt, o_ifge, o_ifgt, o_ifle, o_icmpeq, o_icmpne, o_icmplt, o_icmpge, o_icmpgt, o_icmple, o_goto, o_getf, o_puti, o_putz, o_putr, o_iald, o_iast, o_zast, o_lald, o_last, o_aald, o_aast, o_alenO, o_new, o_newi, o_newl, o_newq, o_newqd, o_mna, o_copy, o_drop, o_cast, o_call, o_callx, o_callv, o_callvx, o_callh, o_sald, o_slen, o_switch, m_rcv, o_ireturn, o_zreturn, o_areturn, o_return, o_throw, o_null, o_dupx1, o_de, m_ent, List.getElem?_cons_zero, List.getElem?_cons_succ, List.getElem?_nil, List.set_cons_zero, List.set_cons_succ, List.length_cons, List.length_nil, List.map_cons, List.map_nil, List.replicate_succ, List.replicate_zero, List.take_succ_cons, List.take_zero, List.drop_succ_cons, List.drop_zero, List.reverse_cons, List.reverse_nil, List.cons_append, List.nil_append, List.append_nil, Option.toList_some, Option.toList_none, Nat.reduceAdd, Nat.reduceSub, Nat.reduceLeDiff, Nat.reduceLT, Nat.reduceEqDiff, Nat.le_refl, Nat.zero_le, Nat.zero_add, Nat.sub_zero, true_and, and_true, false_and, and_false, if_true, if_false, ite_true, ite_false, reduceIte, or_true, true_or, Option.isSome_some, not_true_eq_false, not_false_eq_true, forall_const, true_implies, false_implies, implies_true, ne_eq, m_gI_I, m_gJ_J, m_gQ_Q, m_gO_O]
  exact lp_mla hnc hnk hnd hC hK hD hwc nd 0 (by omega) ar q none hQ h8 x_ls_refl (fun ar2 g1 g2 g3 => ⟨rfl, ar2, rfl, g1, g2, g3⟩)
/-- in the first round no demand is led yet -/
theorem n_ld1_m {nc : Nat} {wh : Nat → Nat} {cb db : Nat → Nat → Nat} : ∀ {m i : Nat} {q : n_Q}, (∀ j, i ≤ j → q.2.2.1 j = none) → n_ld1 nc wh cb db m i q = n_ldm nc wh cb db true m i q := by
  intro m
  induction m with
  | zero => intro i q _; rfl
  | succ m ih =>
    intro i q h
    rw [n_ldm_s, h i (Nat.le_refl _)]
    show n_ld1 nc wh cb db m (i + 1) (n_L1 nc wh cb db 0 i q) = n_ldm nc wh cb db true m (i + 1) (n_L1 nc wh cb db 0 i q)
    refine ih (fun j hj => ?_)
    unfold n_L1 n_l1
    split
    · exact h j (by omega)
    · show m_uf q.2.2.1 i _ j = none
      rw [m_uf_ne (by omega)]
      exact h j (by omega)
theorem n_ld2_m {nc : Nat} {wh : Nat → Nat} {cb db : Nat → Nat → Nat} {m i : Nat} {q : n_Q} : n_ld2 nc wh cb db m i q = n_ldm nc wh cb db false m i q := rfl
