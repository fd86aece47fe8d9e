/-! the model: passes, pass -/
theorem lp_mp6 {d n nc nk ns hr : Nat} {storm : Bool} {cb ow : Nat → Nat → Nat} {r : m_R → m_S → Prop} {bd : Nat × Nat} {ar : Nat → Nat → Int32} {rq : Nat → Nat → Option Nat} {ou : Nat → Int64} {dy : Nat → m_C} (hnc : nc ≤ 10) (hnk : nk ≤ 16) (hns : ns ≤ 3) (hO : x_O nc cb ow ar) (h17 : ar 94 17 = nI ns) (hst : (¬ ar 94 0 < ar 94 22 ∧ ¬ ar 94 23 < ar 94 0) ↔ storm = true) :
    ∀ (m s : Nat), s + m = ns → ∀ (ar1 : Nat → Nat → Int32) (T : (Nat → Int32) × Int32 × n_W), x_T nk ns T ar1 → x_dz ar ar1 → n_WI nc nk ns hr (hr + 1) T.2.2 → (∀ (ar2 : Nat → Nat → Int32) (x1 : Option Value), x_T nk ns (n_up (n_dz storm hr cb ow) m s T) ar2 → x_dz ar ar2 → n_WI nc nk ns hr (hr + 1) (n_up (n_dz storm hr cb ow) m s T).2.2 → m_W1 (m_lk cd_X7_passes) (m_Ev m_cds m_my (d + 2)) r 123 [some (.ref 94), x1] [] bd (n, m_hp ar2 rq ou dy)) → m_W1 (m_lk cd_X7_passes) (m_Ev m_cds m_my (d + 2)) r 104 [some (.ref 94), some (.int (nI s))] [] bd (n, m_hp ar1 rq ou dy) := by
  intro m
  induction m with
  | zero =>
    intro s hs ar1 T g1 g2 g3 h
    have e : s = ns := by omega
    subst e
    have h1' : ar1 94 17 = nI s := by rw [g2.2.1 17 (by omega)]; exact h17
    rw [st_X7_passes_104]
    simp (disch := omega) only [st_X7_passes_105, st_X7_passes_106, st_X7_passes_109, o_iload, o_aload, o_const, o_lconst, o_istore, o_astore, o_iinc, o_dup, o_dup2, o_pop, o_bin, o_div, o_un, o_mbin, o_mun, o_i2l, o_lcmp, o_ifeq, o_ifne, o_iflt, o_ifge, o_ifgt, o_ifle, o_icmpeq, o_icmpne, o_icmplt, o_icmpge, o_icmpgt, o_icmple, o_goto, o_getf, o_puti, o_putz, o_putr, o_iald, o_iast, o_zast, o_lald, o_last, o_aald, o_aast, o_alenO, o_new, o_newi, o_newl, o_newq, o_newqd, o_mna, o_copy, o_drop, o_cast, o_call, o_callx, o_callv, o_callvx, o_callh, o_sald, o_slen, o_switch, m_rcv, o_ireturn, o_zreturn, o_areturn, o_return, o_throw, o_null, o_dupx1, o_de, m_ent, List.getElem?_cons_zero, List.getElem?_cons_succ, List.getElem?_nil, List.set_cons_zero, List.set_cons_succ, List.length_cons, List.length_nil, List.map_cons, List.map_nil, List.replicate_succ, List.replicate_zero, List.take_succ_cons, List.take_zero, List.drop_succ_cons, List.drop_zero, List.reverse_cons, List.reverse_nil, List.cons_append, List.nil_append, List.append_nil, Option.toList_some, Option.toList_none, Nat.reduceAdd, Nat.reduceSub, Nat.reduceLeDiff, Nat.reduceLT, Nat.reduceEqDiff, Nat.le_refl, Nat.zero_le, Nat.zero_add, Nat.sub_zero, true_and, and_true, false_and, and_false, if_true, if_false, ite_true, ite_false, reduceIte, or_true, true_or, Option.isSome_some, not_true_eq_false, not_false_eq_true, forall_const, true_implies, false_implies, implies_true, ne_eq, m_gI_I, m_gJ_J, m_gQ_Q, m_gO_O, m_hp_94, m_fM_len, m_fM_0, m_fM_1, m_fM_2, m_fM_3, m_fM_4, m_fM_5, m_fM_6, m_fM_7, m_fM_8, m_fM_9, m_fM_10, m_fM_11, m_fM_12, m_fM_13, m_fM_14, m_fM_15, m_fM_16, m_fM_17, m_fM_18, m_fM_19, m_fM_20, m_fM_21, m_fM_22, m_fM_23, m_fM_24, m_fM_25, m_fM_26, m_fM_27, m_fM_28, m_fM_29, m_fM_30, m_fM_31, m_fM_32, m_fM_33, m_fM_34, m_fM_35, m_fM_s0, m_fM_s1, m_fM_s5, m_fM_s12, m_fM_s17, m_fM_s22, m_fM_s23, m_fM_s27, m_fM_s32, m_fM_s33, m_fM_s34, m_fM_s35, h1']
    exact ⟨fun z => absurd z Int32.lt_irrefl, fun _ => h ar1 _ g1 g2 g3⟩
  | succ m ih =>
    intro s hs ar1 T g1 g2 g3 h
    have hsn : s < ns := by omega
    have h1' : ar1 94 17 = nI ns := by rw [g2.2.1 17 (by omega)]; exact h17
    have hlt : nI s < nI ns := nI_lt (by omega) (by omega)
    have hup : n_up (n_dz storm hr cb ow) (m + 1) s T = n_up (n_dz storm hr cb ow) m (s + 1) (n_dz storm hr cb ow s T) := rfl
    rw [hup] at h
    rw [st_X7_passes_104]
    simp (disch := omega) only [st_X7_passes_105, st_X7_passes_106, st_X7_passes_109, st_X7_passes_112, st_X7_passes_113, st_X7_passes_114, o_iload, o_aload, o_const, o_lconst, o_istore, o_astore, o_iinc, o_dup, o_dup2, o_pop, o_bin, o_div, o_un, o_mbin, o_mun, o_i2l, o_lcmp, o_ifeq, o_ifne, o_iflt, o_ifge, o_ifgt, o_ifle, o_icmpeq, o_icmpne, o_icmplt, o_icmpge, o_icmpgt, o_icmple, o_goto, o_getf, o_puti, o_putz, o_putr, o_iald, o_iast, o_zast, o_lald, o_last, o_aald, o_aast, o_alenO, o_new, o_newi, o_newl, o_newq, o_newqd, o_mna, o_copy, o_drop, o_cast, o_call, o_callx, o_callv, o_callvx, o_callh, o_sald, o_slen, o_switch, m_rcv, o_ireturn, o_zreturn, o_areturn, o_return, o_throw, o_null, o_dupx1, o_de, m_ent, List.getElem?_cons_zero, List.getElem?_cons_succ, List.getElem?_nil, List.set_cons_zero, List.set_cons_succ, List.length_cons, List.length_nil, List.map_cons, List.map_nil, List.replicate_succ, List.replicate_zero, List.take_succ_cons, List.take_zero, List.drop_succ_cons, List.drop_zero, List.reverse_cons, List.reverse_nil, List.cons_append, List.nil_append, List.append_nil, Option.toList_some, Option.toList_none, Nat.reduceAdd, Nat.reduceSub, Nat.reduceLeDiff, Nat.reduceLT, Nat.reduceEqDiff, Nat.le_refl, Nat.zero_le, Nat.zero_add, Nat.sub_zero, true_and, and_true, false_and, and_false, if_true, if_false, ite_true, ite_false, reduceIte, or_true, true_or, Option.isSome_some, not_true_eq_false, not_false_eq_true, forall_const, true_implies, false_implies, implies_true, ne_eq, m_gI_I, m_gJ_J, m_gQ_Q, m_gO_O, m_hp_94, m_fM_len, m_fM_0, m_fM_1, m_fM_2, m_fM_3, m_fM_4, m_fM_5, m_fM_6, m_fM_7, m_fM_8, m_fM_9, m_fM_10, m_fM_11, m_fM_12, m_fM_13, m_fM_14, m_fM_15, m_fM_16, m_fM_17, m_fM_18, m_fM_19, m_fM_20, m_fM_21, m_fM_22, m_fM_23, m_fM_24, m_fM_25, m_fM_26, m_fM_27, m_fM_28, m_fM_29, m_fM_30, m_fM_31, m_fM_32, m_fM_33, m_fM_34, m_fM_35, m_fM_s0, m_fM_s1, m_fM_s5, m_fM_s12, m_fM_s17, m_fM_s22, m_fM_s23, m_fM_s27, m_fM_s32, m_fM_s33, m_fM_s34, m_fM_s35, h1', hlt]
    have hO1 : x_O nc cb ow ar1 := fun c hc => by
      obtain ⟨q1, q2, q3, q4⟩ := hO c hc
      exact ⟨q1, q2, q3, fun j hj => by rw [g2.1 97 (by omega) (by omega) (by omega) (by omega) (by omega) (by omega)]; exact q4 j hj⟩
    obtain ⟨S', hE, ar2, rfl, r1, r2⟩ := e_mdoes d (n := n) (hr := hr) (storm := storm) (rq := rq) (ou := ou) (dy := dy) hnc hnk hns hO1 g1 hsn (fun k hk => by
      obtain ⟨a1, a2, _⟩ := g3.1 s hsn k hk
      have b := g3.2.1 k a1
      exact ⟨a1, b.2.2.1, b.1.mp a2⟩) (by rw [g2.2.1 0 (by omega), g2.2.1 22 (by omega), g2.2.1 23 (by omega)]; exact hst)
    refine ⟨_, _, hE, ?_⟩
    simp (disch := omega) only [st_X7_passes_117, st_X7_passes_120, o_iload, o_aload, o_const, o_lconst, o_istore, o_astore, o_iinc, o_dup, o_dup2, o_pop, o_bin, o_div, o_un, o_mbin, o_mun, o_i2l, o_lcmp, o_ifeq, o_ifne, o_iflt, o_ifge, o_ifgt, o_ifle, o_icmpeq, o_icmpne, o_icmplt, o_icmpge, o_icmpgt, o_icmple, o_goto, o_getf, o_puti, o_putz, o_putr, o_iald, o_iast, o_zast, o_lald, o_last, o_aald, o_aast, o_alenO, o_new, o_newi, o_newl, o_newq, o_newqd, o_mna, o_copy, o_drop, o_cast, o_call, o_callx, o_callv, o_callvx, o_callh, o_sald, o_slen, o_switch, m_rcv, o_ireturn, o_zreturn, o_areturn, o_return, o_throw, o_null, o_dupx1, o_de, m_ent, List.getElem?_cons_zero, List.getElem?_cons_succ, List.getElem?_nil, List.set_cons_zero, List.set_cons_succ, List.length_cons, List.length_nil, List.map_cons, List.map_nil, List.replicate_succ, List.replicate_zero, List.take_succ_cons, List.take_zero, List.drop_succ_cons, List.drop_zero, List.reverse_cons, List.reverse_nil, List.cons_append, List.nil_append, List.append_nil, Option.toList_some, Option.toList_none, Nat.reduceAdd, Nat.reduceSub, Nat.reduceLeDiff, Nat.reduceLT, Nat.reduceEqDiff, Nat.le_refl, Nat.zero_le, Nat.zero_add, Nat.sub_zero, true_and, and_true, false_and, and_false, if_true, if_false, ite_true, ite_false, reduceIte, or_true, true_or, Option.isSome_some, not_true_eq_false, not_false_eq_true, forall_const, true_implies, false_implies, implies_true, ne_eq, m_gI_I, m_gJ_J, m_gQ_Q, m_gO_O, nI_1]
    exact ih (s + 1) (by omega) ar2 _ r1 (x_dz_trans g2 r2) (n_WI_d g3 hsn) h
theorem n_fc_lt {nc nk ns hr H : Nat} {W : n_W} (h : n_WI nc nk ns hr H W) : n_fc W.1 nk nc 0 none = (n_cf W.1 W.2.1 nk 0 (none, 0)).1 ∧ ∀ c, n_fc W.1 nk nc 0 none = some c → c < nc := by
  have hu : ∀ k k', k < nk → k' < nk → W.1 k 3 < 5 → W.1 k' 3 < 5 → W.1 k 0 = W.1 k' 0 → k = k' := by
    intro k k' h1 h2 h3 h4 h5
    have e1 := ((h.2.1 k h1).1).mpr h3
    have e2 := ((h.2.1 k' h2).1).mpr h4
    by_cases e : k < k'
    · obtain ⟨w, q, _⟩ := h.2.2.1 k k' e h2 h5
      rw [e1] at q
      cases q
    · by_cases e' : k' < k
      · obtain ⟨w, q, _⟩ := h.2.2.1 k' k e' h1 h5.symm
        rw [e2] at q
        cases q
      · omega
  have hfi := n_fc_fi (nc := nc) (fun k hk => (h.2.1 k hk).2.2.1) hu
  refine ⟨n_fi_u hfi (n_cf_fi (fun k hk => (h.2.1 k hk).1)), fun c hc => ?_⟩
  rw [hc] at hfi
  obtain ⟨k, k1, k2, k3, _⟩ := hfi
  rw [← k3]
  exact (h.2.1 k k1).2.2.1
def x_ps (ar0 ar : Nat → Nat → Int32) : Prop := (∀ x, x < 94 ∨ 118 < x ∨ x = 95 ∨ x = 96 ∨ x = 97 ∨ x = 98 ∨ x = 99 ∨ x = 100 ∨ x = 101 ∨ x = 104 ∨ x = 105 ∨ x = 106 ∨ x = 109 ∨ x = 113 → ar x = ar0 x) ∧ ∀ k, k = 1 ∨ k = 5 ∨ k = 12 ∨ k = 17 ∨ k = 22 ∨ k = 23 ∨ k = 35 → ar 94 k = ar0 94 k
theorem e_mpasses (d : Nat) {n nc nk nd ns hr : Nat} {storm : Bool} {cb db ow : Nat → Nat → Nat} {o32 : Nat → Nat → Int32} {acc : Nat → Int32} {club sp : Int32} {W : n_W} {Q : n_Q} {t : (Nat → Int32) × Int32} {ar : Nat → Nat → Int32} {rq : Nat → Nat → Option Nat} {ou : Nat → Int64} {dy : Nat → m_C} (hnc : nc ≤ 10) (hnk : nk ≤ 16) (hnd : nd ≤ 10) (hns : ns ≤ 3) (hC : x_C nc cb ar) (hD : x_D nd db ar) (hO : x_O nc cb ow ar) (hT : x_T nk ns (acc, sp, W) ar) (hcl : ar 114 6 = club) (hW : n_WI nc nk ns hr (hr + 1) W) (ho : ∀ i, i < 6 → ∀ j, j < 6 → ar 112 (6 * i + j) = o32 i j) (h103 : ∀ i, nd ≤ i → ar 103 i = 0) (hst : (¬ ar 94 0 < ar 94 22 ∧ ¬ ar 94 23 < ar 94 0) ↔ storm = true) (hQ : Q = n_lead nc nd W.2.2.2.2 cb db ow) (ht : t = n_pf (n_fc W.1 nk nc 0 none) Q.2.2.1 cb db ow nd 0 (acc, club)) :
    ∃ S', m_Ev m_cds m_my (d + 6) 94 [.ref 94] (n, m_hp ar rq ou dy) (.inl none) S' ∧ ∃ ar' : Nat → Nat → Int32, S' = (n, m_hp ar' rq ou dy) ∧
      (∀ i, i < 6 → ∀ j, j < 6 → ar' 112 (6 * i + j) = o32 i j + nI (Q.2.1 i j)) ∧
      (∀ i, i < nd → ar' 102 i = n_w (Q.2.2.1 i) ∧ ar' 103 i = nI (Q.2.2.2 i)) ∧
      x_T nk ns (n_up (n_dz storm hr cb ow) ns 0 (t.1, sp, W)) ar' ∧ ar' 114 6 = t.2 ∧
      n_WI nc nk ns hr (hr + 1) (n_up (n_dz storm hr cb ow) ns 0 (t.1, sp, W)).2.2 ∧
      ar' 94 0 = ar 94 0 + 1 ∧ (∀ i, nd ≤ i → ar' 103 i = 0) ∧ x_ps ar ar' := by
  refine m_goV my_X7_passes cs_X7_passes mm_X7_passes xm_X7_passes (Nat.le_of_ble_eq_true rfl) rfl ?_
  obtain ⟨hA, hsp, hK, hS, hZ⟩ := hT
  simp only at hA hsp hK hS
  simp (disch := omega) only [mt_X7_passes, st_X7_passes_0, st_X7_passes_1, o_iload, o_aload, o_const, o_lconst, o_istore, o_astore, o_iinc, o_dup, o_dup2, o_pop, o_bin, o_div, o_un, o_mbin, o_mun, o_i2l, o_lcmp, o_ifeq, o_ifne, o_iflt, o_ifge, o_ifgt, o_ifle, o_icmpeq, o_icmpne, o_icmplt, o_icmpge, o_icmpgt, o_icmple, o_goto, o_getf, o_puti, o_putz, o_putr, o_iald, o_iast, o_zast, o_lald, o_last, o_aald, o_aast, o_alenO, o_new, o_newi, o_newl, o_newq, o_newqd, o_mna, o_copy, o_drop, o_cast, o_call, o_callx, o_callv, o_callvx, o_callh, o_sald, o_slen, o_switch, m_rcv, o_ireturn, o_zreturn, o_areturn, o_return, o_throw, o_null, o_dupx1, o_de, m_ent, List.getElem?_cons_zero, List.getElem?_cons_succ, List.getElem?_nil, List.set_cons_zero, List.set_cons_succ, List.length_cons, List.length_nil, List.map_cons, List.map_nil, List.replicate_succ, List.replicate_zero, List.take_succ_cons, List.take_zero, List.drop_succ_cons, List.drop_zero, List.reverse_cons, List.reverse_nil, List.cons_append, List.nil_append, List.append_nil, Option.toList_some, Option.toList_none, Nat.reduceAdd, Nat.reduceSub, Nat.reduceLeDiff, Nat.reduceLT, Nat.reduceEqDiff, Nat.le_refl, Nat.zero_le, Nat.zero_add, Nat.sub_zero, true_and, and_true, false_and, and_false, if_true, if_false, ite_true, ite_false, reduceIte, or_true, true_or, Option.isSome_some, not_true_eq_false, not_false_eq_true, forall_const, true_implies, false_implies, implies_true, ne_eq, m_gI_I, m_gJ_J, m_gQ_Q, m_gO_O]
  refine lp_mp3 hnc hC.1 (fun c hc j hj => ((hO c hc).2.2.2 j hj).1) (6 * nc) 0 (by omega) ar (fun _ _ => rfl) (fun i hi => absurd hi (Nat.not_lt_zero i)) (fun ar1 x1 g1 g2 => ?_)
  simp (disch := omega) only [st_X7_passes_31, st_X7_passes_32, o_iload, o_aload, o_const, o_lconst, o_istore, o_astore, o_iinc, o_dup, o_dup2, o_pop, o_bin, o_div, o_un, o_mbin, o_mun, o_i2l, o_lcmp, o_ifeq, o_ifne, o_iflt, o_ifge, o_ifgt, o_ifle, o_icmpeq, o_icmpne, o_icmplt, o_icmpge, o_icmpgt, o_icmple, o_goto, o_getf, o_puti, o_putz, o_putr, o_iald, o_iast, o_zast, o_lald, o_last, o_aald, o_aast, o_alenO, o_new, o_newi, o_newl, o_newq, o_newqd, o_mna, o_copy, o_drop, o_cast, o_call, o_callx, o_callv, o_callvx, o_callh, o_sald, o_slen, o_switch, m_rcv, o_ireturn, o_zreturn, o_areturn, o_return, o_throw, o_null, o_dupx1, o_de, m_ent, List.getElem?_cons_zero, List.getElem?_cons_succ, List.getElem?_nil, List.set_cons_zero, List.set_cons_succ, List.length_cons, List.length_nil, List.map_cons, List.map_nil, List.replicate_succ, List.replicate_zero, List.take_succ_cons, List.take_zero, List.drop_succ_cons, List.drop_zero, List.reverse_cons, List.reverse_nil, List.cons_append, List.nil_append, List.append_nil, Option.toList_some, Option.toList_none, Nat.reduceAdd, Nat.reduceSub, Nat.reduceLeDiff, Nat.reduceLT, Nat.reduceEqDiff, Nat.le_refl, Nat.zero_le, Nat.zero_add, Nat.sub_zero, true_and, and_true, false_and, and_false, if_true, if_false, ite_true, ite_false, reduceIte, or_true, true_or, Option.isSome_some, not_true_eq_false, not_false_eq_true, forall_const, true_implies, false_implies, implies_true, ne_eq, m_gI_I, m_gJ_J, m_gQ_Q, m_gO_O]
  refine lp_mp4 (ar := ar1) hnd (by rw [g1 94 (by omega)]; exact hD.1) nd 0 (by omega) ar1 (fun _ _ _ => rfl) (fun i hi => absurd hi (Nat.not_lt_zero i)) (fun _ _ => rfl) (fun ar2 x1 k1 k2 k3 => ?_)
  simp (disch := omega) only [st_X7_passes_61, st_X7_passes_62, st_X7_passes_63, o_iload, o_aload, o_const, o_lconst, o_istore, o_astore, o_iinc, o_dup, o_dup2, o_pop, o_bin, o_div, o_un, o_mbin, o_mun, o_i2l, o_lcmp, o_ifeq, o_ifne, o_iflt, o_ifge, o_ifgt, o_ifle, o_icmpeq, o_icmpne, o_icmplt, o_icmpge, o_icmpgt, o_icmple, o_goto, o_getf, o_puti, o_putz, o_putr, o_iald, o_iast, o_zast, o_lald, o_last, o_aald, o_aast, o_alenO, o_new, o_newi, o_newl, o_newq, o_newqd, o_mna, o_copy, o_drop, o_cast, o_call, o_callx, o_callv, o_callvx, o_callh, o_sald, o_slen, o_switch, m_rcv, o_ireturn, o_zreturn, o_areturn, o_return, o_throw, o_null, o_dupx1, o_de, m_ent, List.getElem?_cons_zero, List.getElem?_cons_succ, List.getElem?_nil, List.set_cons_zero, List.set_cons_succ, List.length_cons, List.length_nil, List.map_cons, List.map_nil, List.replicate_succ, List.replicate_zero, List.take_succ_cons, List.take_zero, List.drop_succ_cons, List.drop_zero, List.reverse_cons, List.reverse_nil, List.cons_append, List.nil_append, List.append_nil, Option.toList_some, Option.toList_none, Nat.reduceAdd, Nat.reduceSub, Nat.reduceLeDiff, Nat.reduceLT, Nat.reduceEqDiff, Nat.le_refl, Nat.zero_le, Nat.zero_add, Nat.sub_zero, true_and, and_true, false_and, and_false, if_true, if_false, ite_true, ite_false, reduceIte, or_true, true_or, Option.isSome_some, not_true_eq_false, not_false_eq_true, forall_const, true_implies, false_implies, implies_true, ne_eq, m_gI_I, m_gJ_J, m_gQ_Q, m_gO_O, m_hp_94]
  have e2 : ∀ x, x ≠ 102 → x ≠ 103 → x ≠ 115 → ar2 x = ar x := fun x a1 a2 a3 => by rw [k1 x a1 a2, g1 x a3]
  have hls0 : x_ls ar ar2 := ⟨fun x a1 a2 a3 a4 a5 => e2 x a2 a3 (by omega), fun k _ _ _ => by rw [e2 94 (by omega) (by omega) (by omega)]⟩
  have hwc := n_WI_wc hW
  obtain ⟨q0, hQl, hQ0, hq80, hnn⟩ : ∃ q0 : n_Q, n_ld2 nc W.2.2.2.2 cb db nd 0 (n_ld1 nc W.2.2.2.2 cb db nd 0 q0) = Q ∧ x_Q o32 nc nd q0 ar2 ∧ n_q8 nc q0 ∧ ∀ j, q0.2.2.1 j = none := by
    refine ⟨(ow, fun _ _ => 0, fun _ => none, fun _ => 0), hQ.symm, ⟨fun c hc j hj => by rw [k1 115 (by omega) (by omega)]; exact g2 c hc j hj, fun i hi j hj => ?_, fun i hi => (k2 i hi).1, fun i hi => (k2 i hi).2, fun i hi => ?_⟩, ⟨fun c hc j hj => Nat.le_trans ((hO c hc).2.2.2 j hj).2 (by omega), fun i w e => by cases e⟩, fun _ => rfl⟩
    · rw [e2 112 (by omega) (by omega) (by omega), ho i hi j hj]
      exact (Int32.add_zero _).symm
    · rw [k3 i hi, g1 103 (by omega)]
      exact h103 i hi
  obtain ⟨S1, hE1, ar3, rfl, f1, f2, f3⟩ := e_mleadsAll d (n := n) (own := true) (wh := W.2.2.2.2) (rq := rq) (ou := ou) (dy := dy) hnc hnk hnd (x_C_ls hls0 hC) (x_K_ls hls0 hK) (x_D_ls hls0 hD) hwc hQ0 hq80
  refine ⟨_, _, hE1, ?_⟩
  rw [← n_ld1_m (fun j _ => hnn j)] at f1 f2
  have hls1 := x_ls_trans hls0 f3
  simp (disch := omega) only [st_X7_passes_66, st_X7_passes_67, st_X7_passes_68, o_iload, o_aload, o_const, o_lconst, o_istore, o_astore, o_iinc, o_dup, o_dup2, o_pop, o_bin, o_div, o_un, o_mbin, o_mun, o_i2l, o_lcmp, o_ifeq, o_ifne, o_iflt, o_ifge, o_ifgt, o_ifle, o_icmpeq, o_icmpne, o_icmplt, o_icmpge, o_icmpgt, o_icmple, o_goto, o_getf, o_puti, o_putz, o_putr, o_iald, o_iast, o_zast, o_lald, o_last, o_aald, o_aast, o_alenO, o_new, o_newi, o_newl, o_newq, o_newqd, o_mna, o_copy, o_drop, o_cast, o_call, o_callx, o_callv, o_callvx, o_callh, o_sald, o_slen, o_switch, m_rcv, o_ireturn, o_zreturn, o_areturn, o_return, o_throw, o_null, o_dupx1, o_de, m_ent, List.getElem?_cons_zero, List.getElem?_cons_succ, List.getElem?_nil, List.set_cons_zero, List.set_cons_succ, List.length_cons, List.length_nil, List.map_cons, List.map_nil, List.replicate_succ, List.replicate_zero, List.take_succ_cons, List.take_zero, List.drop_succ_cons, List.drop_zero, List.reverse_cons, List.reverse_nil, List.cons_append, List.nil_append, List.append_nil, Option.toList_some, Option.toList_none, Nat.reduceAdd, Nat.reduceSub, Nat.reduceLeDiff, Nat.reduceLT, Nat.reduceEqDiff, Nat.le_refl, Nat.zero_le, Nat.zero_add, Nat.sub_zero, true_and, and_true, false_and, and_false, if_true, if_false, ite_true, ite_false, reduceIte, or_true, true_or, Option.isSome_some, not_true_eq_false, not_false_eq_true, forall_const, true_implies, false_implies, implies_true, ne_eq, m_gI_I, m_gJ_J, m_gQ_Q, m_gO_O, m_hp_94]
  obtain ⟨S2, hE2, ar4, rfl, p1, p2, p3⟩ := e_mleadsAll d (n := n) (own := false) (wh := W.2.2.2.2) (rq := rq) (ou := ou) (dy := dy) hnc hnk hnd (x_C_ls hls1 hC) (x_K_ls hls1 hK) (x_D_ls hls1 hD) hwc f1 f2
  refine ⟨_, _, hE2, ?_⟩
  rw [← n_ld2_m] at p1 p2
  rw [hQl] at p1 p2
  obtain ⟨P1, P2, P3, P4, P5⟩ := p1
  have hls2 := x_ls_trans hls1 p3
  simp (disch := omega) only [st_X7_passes_71, st_X7_passes_72, o_iload, o_aload, o_const, o_lconst, o_istore, o_astore, o_iinc, o_dup, o_dup2, o_pop, o_bin, o_div, o_un, o_mbin, o_mun, o_i2l, o_lcmp, o_ifeq, o_ifne, o_iflt, o_ifge, o_ifgt, o_ifle, o_icmpeq, o_icmpne, o_icmplt, o_icmpge, o_icmpgt, o_icmple, o_goto, o_getf, o_puti, o_putz, o_putr, o_iald, o_iast, o_zast, o_lald, o_last, o_aald, o_aast, o_alenO, o_new, o_newi, o_newl, o_newq, o_newqd, o_mna, o_copy, o_drop, o_cast, o_call, o_callx, o_callv, o_callvx, o_callh, o_sald, o_slen, o_switch, m_rcv, o_ireturn, o_zreturn, o_areturn, o_return, o_throw, o_null, o_dupx1, o_de, m_ent, List.getElem?_cons_zero, List.getElem?_cons_succ, List.getElem?_nil, List.set_cons_zero, List.set_cons_succ, List.length_cons, List.length_nil, List.map_cons, List.map_nil, List.replicate_succ, List.replicate_zero, List.take_succ_cons, List.take_zero, List.drop_succ_cons, List.drop_zero, List.reverse_cons, List.reverse_nil, List.cons_append, List.nil_append, List.append_nil, Option.toList_some, Option.toList_none, Nat.reduceAdd, Nat.reduceSub, Nat.reduceLeDiff, Nat.reduceLT, Nat.reduceEqDiff, Nat.le_refl, Nat.zero_le, Nat.zero_add, Nat.sub_zero, true_and, and_true, false_and, and_false, if_true, if_false, ite_true, ite_false, reduceIte, or_true, true_or, Option.isSome_some, not_true_eq_false, not_false_eq_true, forall_const, true_implies, false_implies, implies_true, ne_eq, m_gI_I, m_gJ_J, m_gQ_Q, m_gO_O]
  have hbl := (n_fc_lt hW).2
  have hO4 : x_O nc cb ow ar4 := fun c hc => by
    obtain ⟨q1, q2, q3, q4⟩ := hO c hc
    exact ⟨q1, q2, q3, fun j hj => by rw [hls2.1 97 (by omega) (by omega) (by omega) (by omega) (by omega)]; exact q4 j hj⟩
  have h114 : ar4 114 = ar 114 := hls2.1 114 (by omega) (by omega) (by omega) (by omega) (by omega)
  refine lp_mp5 (d := d + 2) (ar := ar4) hnc hnk hnd (x_C_ls hls2 hC) (x_K_ls hls2 hK) (x_D_ls hls2 hD) hO4 hbl P3 p2.2 nd 0 (by omega) ar4 (acc, club) (fun _ _ => rfl) ⟨fun j hj => by rw [h114]; exact hA j hj, by rw [h114]; exact hcl⟩ (fun ar5 x1 v1 v2 => ?_)
  rw [← ht] at v2
  simp (disch := omega) only [st_X7_passes_102, st_X7_passes_103, o_iload, o_aload, o_const, o_lconst, o_istore, o_astore, o_iinc, o_dup, o_dup2, o_pop, o_bin, o_div, o_un, o_mbin, o_mun, o_i2l, o_lcmp, o_ifeq, o_ifne, o_iflt, o_ifge, o_ifgt, o_ifle, o_icmpeq, o_icmpne, o_icmplt, o_icmpge, o_icmpgt, o_icmple, o_goto, o_getf, o_puti, o_putz, o_putr, o_iald, o_iast, o_zast, o_lald, o_last, o_aald, o_aast, o_alenO, o_new, o_newi, o_newl, o_newq, o_newqd, o_mna, o_copy, o_drop, o_cast, o_call, o_callx, o_callv, o_callvx, o_callh, o_sald, o_slen, o_switch, m_rcv, o_ireturn, o_zreturn, o_areturn, o_return, o_throw, o_null, o_dupx1, o_de, m_ent, List.getElem?_cons_zero, List.getElem?_cons_succ, List.getElem?_nil, List.set_cons_zero, List.set_cons_succ, List.length_cons, List.length_nil, List.map_cons, List.map_nil, List.replicate_succ, List.replicate_zero, List.take_succ_cons, List.take_zero, List.drop_succ_cons, List.drop_zero, List.reverse_cons, List.reverse_nil, List.cons_append, List.nil_append, List.append_nil, Option.toList_some, Option.toList_none, Nat.reduceAdd, Nat.reduceSub, Nat.reduceLeDiff, Nat.reduceLT, Nat.reduceEqDiff, Nat.le_refl, Nat.zero_le, Nat.zero_add, Nat.sub_zero, true_and, and_true, false_and, and_false, if_true, if_false, ite_true, ite_false, reduceIte, or_true, true_or, Option.isSome_some, not_true_eq_false, not_false_eq_true, forall_const, true_implies, false_implies, implies_true, ne_eq, m_gI_I, m_gJ_J, m_gQ_Q, m_gO_O]
  have h5 : ∀ x, x ≠ 94 → x ≠ 102 → x ≠ 103 → x ≠ 112 → x ≠ 114 → (x < 115 ∨ 118 < x) → ar5 x = ar x := fun x a1 a2 a3 a4 a5 a6 => by rw [v1 x a5, hls2.1 x a1 a2 a3 a4 a6]
  have h594 : ∀ k, k ≠ 32 → k ≠ 33 → k ≠ 34 → ar5 94 k = ar 94 k := fun k a1 a2 a3 => by rw [v1 94 (by omega), hls2.2 k a1 a2 a3]
  have hO5 : x_O nc cb ow ar5 := fun c hc => by
    obtain ⟨q1, q2, q3, q4⟩ := hO c hc
    exact ⟨q1, q2, q3, fun j hj => by rw [h5 97 (by omega) (by omega) (by omega) (by omega) (by omega) (by omega)]; exact q4 j hj⟩
  have hT5 : x_T nk ns (t.1, sp, W) ar5 := by
    refine ⟨v2.1, by rw [h594 27 (by omega) (by omega) (by omega)]; exact hsp, x_K_cg hK (h594 12 (by omega) (by omega) (by omega)) ?_ ?_ ?_ ?_, x_S_cg hS (h594 17 (by omega) (by omega) (by omega)) ?_ ?_ ?_ ?_, fun k hk => ?_⟩
    · exact h5 104 (by omega) (by omega) (by omega) (by omega) (by omega) (by omega)
    · exact h5 105 (by omega) (by omega) (by omega) (by omega) (by omega) (by omega)
    · exact h5 106 (by omega) (by omega) (by omega) (by omega) (by omega) (by omega)
    · exact h5 107 (by omega) (by omega) (by omega) (by omega) (by omega) (by omega)
    · exact h5 108 (by omega) (by omega) (by omega) (by omega) (by omega) (by omega)
    · exact h5 109 (by omega) (by omega) (by omega) (by omega) (by omega) (by omega)
    · exact h5 110 (by omega) (by omega) (by omega) (by omega) (by omega) (by omega)
    · exact h5 111 (by omega) (by omega) (by omega) (by omega) (by omega) (by omega)
    · rw [h5 107 (by omega) (by omega) (by omega) (by omega) (by omega) (by omega)]; exact hZ k hk
  refine lp_mp6 (d := d + 3) (ar := ar5) hnc hnk hns hO5 (by rw [h594 17 (by omega) (by omega) (by omega)]; exact hS.1) (by rw [h594 0 (by omega) (by omega) (by omega), h594 22 (by omega) (by omega) (by omega), h594 23 (by omega) (by omega) (by omega)]; exact hst) ns 0 (by omega) ar5 (t.1, sp, W) hT5 x_dz_refl hW (fun ar6 x1 w1 w2 w3 => ?_)
  have w94 : ar6 94 0 = ar 94 0 := by rw [w2.2.1 0 (by omega), h594 0 (by omega) (by omega) (by omega)]
  simp (disch := omega) only [st_X7_passes_123, st_X7_passes_124, st_X7_passes_125, st_X7_passes_128, st_X7_passes_129, st_X7_passes_130, st_X7_passes_133, o_iload, o_aload, o_const, o_lconst, o_istore, o_astore, o_iinc, o_dup, o_dup2, o_pop, o_bin, o_div, o_un, o_mbin, o_mun, o_i2l, o_lcmp, o_ifeq, o_ifne, o_iflt, o_ifge, o_ifgt, o_ifle, o_icmpeq, o_icmpne, o_icmplt, o_icmpge, o_icmpgt, o_icmple, o_goto, o_getf, o_puti, o_putz, o_putr, o_iald, o_iast, o_zast, o_lald, o_last, o_aald, o_aast, o_alenO, o_new, o_newi, o_newl, o_newq, o_newqd, o_mna, o_copy, o_drop, o_cast, o_call, o_callx, o_callv, o_callvx, o_callh, o_sald, o_slen, o_switch, m_rcv, o_ireturn, o_zreturn, o_areturn, o_return, o_throw, o_null, o_dupx1, o_de, m_ent, List.getElem?_cons_zero, List.getElem?_cons_succ, List.getElem?_nil, List.set_cons_zero, List.set_cons_succ, List.length_cons, List.length_nil, List.map_cons, List.map_nil, List.replicate_succ, List.replicate_zero, List.take_succ_cons, List.take_zero, List.drop_succ_cons, List.drop_zero, List.reverse_cons, List.reverse_nil, List.cons_append, List.nil_append, List.append_nil, Option.toList_some, Option.toList_none, Nat.reduceAdd, Nat.reduceSub, Nat.reduceLeDiff, Nat.reduceLT, Nat.reduceEqDiff, Nat.le_refl, Nat.zero_le, Nat.zero_add, Nat.sub_zero, true_and, and_true, false_and, and_false, if_true, if_false, ite_true, ite_false, reduceIte, or_true, true_or, Option.isSome_some, not_true_eq_false, not_false_eq_true, forall_const, true_implies, false_implies, implies_true, ne_eq, m_gI_I, m_gJ_J, m_gQ_Q, m_gO_O, m_hp_94, m_up_94, m_fM_len, m_fM_0, m_fM_1, m_fM_2, m_fM_3, m_fM_4, m_fM_5, m_fM_6, m_fM_7, m_fM_8, m_fM_9, m_fM_10, m_fM_11, m_fM_12, m_fM_13, m_fM_14, m_fM_15, m_fM_16, m_fM_17, m_fM_18, m_fM_19, m_fM_20, m_fM_21, m_fM_22, m_fM_23, m_fM_24, m_fM_25, m_fM_26, m_fM_27, m_fM_28, m_fM_29, m_fM_30, m_fM_31, m_fM_32, m_fM_33, m_fM_34, m_fM_35, m_fM_s0, m_fM_s1, m_fM_s5, m_fM_s12, m_fM_s17, m_fM_s22, m_fM_s23, m_fM_s27, m_fM_s32, m_fM_s33, m_fM_s34, m_fM_s35]
  have n6 : ∀ x, x ≠ 94 → m_uf ar6 94 (m_uf (ar6 94) 0 (ar6 94 0 + 1)) x = ar6 x := fun x hx => m_uf_ne hx
  have n94 : m_uf ar6 94 (m_uf (ar6 94) 0 (ar6 94 0 + 1)) 94 = m_uf (ar6 94) 0 (ar6 94 0 + 1) := m_uf_eq
  have s6 : ∀ x, x ≠ 94 → x ≠ 107 → x ≠ 108 → x ≠ 110 → x ≠ 111 → x ≠ 114 → ar6 x = ar5 x := w2.1
  generalize m_uf ar6 94 (m_uf (ar6 94) 0 (ar6 94 0 + 1)) = ar7 at n6 n94 ⊢
  refine ⟨ar7, rfl, fun i hi j hj => ?_, fun i hi => ⟨?_, ?_⟩, ⟨fun j hj => ?_, ?_, x_K_cg w1.2.2.1 (by rw [n94, m_uf_ne (by omega)]) (n6 _ (by omega)) (n6 _ (by omega)) (n6 _ (by omega)) (n6 _ (by omega)), x_S_cg w1.2.2.2.1 (by rw [n94, m_uf_ne (by omega)]) (n6 _ (by omega)) (n6 _ (by omega)) (n6 _ (by omega)) (n6 _ (by omega)), fun k hk => ?_⟩, ?_, w3, ?_, fun i hi => ?_, fun x hx => ?_, fun k hk => ?_⟩
  · rw [n6 112 (by omega), s6 112 (by omega) (by omega) (by omega) (by omega) (by omega) (by omega), v1 112 (by omega)]
    exact P2 i hi j hj
  · rw [n6 102 (by omega), s6 102 (by omega) (by omega) (by omega) (by omega) (by omega) (by omega), v1 102 (by omega)]
    exact P3 i hi
  · rw [n6 103 (by omega), s6 103 (by omega) (by omega) (by omega) (by omega) (by omega) (by omega), v1 103 (by omega)]
    exact P4 i hi
  · rw [n6 114 (by omega)]
    exact w1.1 j hj
  · rw [n94, m_uf_ne (by omega)]
    exact w1.2.1
  · rw [n6 107 (by omega)]
    exact w1.2.2.2.2 k hk
  · rw [n6 114 (by omega), w2.2.2]
    exact v2.2
  · rw [n94, m_uf_eq, w94]
  · rw [n6 103 (by omega), s6 103 (by omega) (by omega) (by omega) (by omega) (by omega) (by omega), v1 103 (by omega)]
    exact P5 i hi
  · rw [n6 x (by omega), s6 x (by omega) (by omega) (by omega) (by omega) (by omega) (by omega), h5 x (by omega) (by omega) (by omega) (by omega) (by omega) (by omega)]
  · rw [n94, m_uf_ne (by omega), w2.2.1 k (by omega), h594 k (by omega) (by omega) (by omega)]
