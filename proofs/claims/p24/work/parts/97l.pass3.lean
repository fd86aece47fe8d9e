/-! the law's passes: the end, and the whole -/
theorem g_20 {c : Nat} : (20 : Int32) * nI c = nI (20 * c) := v_mul 20 c
theorem lp_fin (d : Nat) {n nc nd nk ns sz : Nat} {cb db sd ow : Nat → Nat → Nat} {got : Nat → Nat → Int32} {s1 s2 : Int32} {D : n_D} {ar : Nat → Nat → Int32} {rq : Nat → Nat → Option Nat} {ou : Nat → Int64} {dy : Nat → m_C} {x W l18 : Int32} {U a b T S P P' : Nat} {mo : Int64} {x19 x20 : Option Value} {r : m_R → m_S → Prop} {bd : Nat × Nat} (H : z_R nc nd nk ns sz cb db sd ow got s1 s2 D n ar rq dy) (hns : ns ≤ 3) (hg : ar 94 3 = nI ns) (hmo : mo = 0) (hb : b = a + 200 * T) (hT1 : S ≤ T) (hT2 : T ≤ 5 * S) (hbb : b < 1000000000000) (hsp : D.2.2.2.2.1 = nI P') (hP1 : P ≤ P') (hP2 : P' ≤ P + 20 * ns) (hP3 : P' < 1000000) (hr : r (.inl (some (.int 1))) (n, m_hp ar rq ou dy)) :
    m_W1 (m_lk cd_L_passes) (m_Ev m_cds m_my (d + 1)) r 695 [some (.ref 3), some (.ref 94), some (.ref 95), some (.ref 96), some (.ref 97), some (.int x), some (.int W), some (.long (nL (a : Int))), none, some (.int (nI P)), some (.int 1), some (.ref U), some (.long (nL (200 * (S : Int)))), none, some (.long (nL (b : Int))), none, some (.long mo), none, some (.int l18), x19, x20] [] bd (n, m_hp ar rq ou dy) := by
  have e10 : ((1 : Int32) = 0) = False := eq_false (by decide)
  have c0 : lg_cmp 0 0 = 0 := by decide
  have hba : nL (b : Int) - nL (a : Int) = nL (200 * (T : Int)) := by
    rw [nL_sub]
    exact congrArg nL (by omega)
  have f1 : (lg_cmp (nL (200 * (T : Int))) (nL (200 * (S : Int))) < 0) = False := by
    rw [lg_cmp_lt, nL_lt (by omega) (by omega) (by omega) (by omega)]
    exact eq_false (by omega)
  have h5 : (5 : Int64) * nL (200 * (S : Int)) = nL (1000 * (S : Int)) := by
    rw [show (5 : Int64) = nL 5 from rfl, nL_mul]
    exact congrArg nL (by omega)
  have f2 : (0 < lg_cmp (nL (200 * (T : Int))) (nL (1000 * (S : Int)))) = False := by
    rw [lg_cmp_gt, nL_lt (by omega) (by omega) (by omega) (by omega)]
    exact eq_false (by omega)
  have z2 : ((200 : Int64) = 0) = False := eq_false (by decide)
  have hrem := nL_rem (t := (T : Int)) (by omega) (by omega)
  have E := q_spent d (ou := ou) H
  rw [hsp] at E
  have p1 : (nI P' < nI P) = False := eq_false (nI_nlt hP1 (by omega))
  have p2 : (nI (P + 20 * ns) < nI P') = False := eq_false (nI_nlt hP2 (by omega))
  subst hmo
  simp (disch := omega) only [st_L_passes_695, st_L_passes_697, st_L_passes_700, st_L_passes_702, st_L_passes_703, st_L_passes_704, st_L_passes_707, st_L_passes_709, st_L_passes_711, st_L_passes_712, st_L_passes_714, st_L_passes_715, st_L_passes_718, st_L_passes_720, st_L_passes_722, st_L_passes_723, st_L_passes_726, st_L_passes_728, st_L_passes_729, st_L_passes_730, st_L_passes_733, st_L_passes_735, st_L_passes_737, st_L_passes_738, st_L_passes_741, st_L_passes_742, st_L_passes_743, st_L_passes_744, st_L_passes_747, st_L_passes_748, o_lload, o_lstore, o_istW, o_astW, o_iincW, o_lbin, o_ldiv, m_nlg, o_iload, o_aload, o_const, o_lconst, o_istore, o_astore, o_iinc, o_dup, o_dup2, o_pop, o_bin, o_div, o_un, o_mbin, o_mun, o_i2l, o_lcmp, o_ifeq, o_ifne, o_iflt, o_ifge, o_ifgt, o_ifle, o_icmpeq, o_icmpne, o_icmplt, o_icmpge, o_icmpgt, o_icmple, o_goto, o_getf, o_puti, o_putz, o_putr, o_iald, o_iast, o_zast, o_lald, o_last, o_aald, o_aast, o_alenO, o_new, o_newi, o_newl, o_newq, o_newqd, o_mna, o_copy, o_drop, o_cast, o_call, o_callx, o_callv, o_callvx, o_callh, o_sald, o_slen, o_switch, m_rcv, o_ireturn, o_zreturn, o_areturn, o_return, o_throw, o_null, o_dupx1, o_de, m_ent, List.getElem?_cons_zero, List.getElem?_cons_succ, List.getElem?_nil, List.set_cons_zero, List.set_cons_succ, List.length_cons, List.length_nil, List.map_cons, List.map_nil, List.replicate_succ, List.replicate_zero, List.take_succ_cons, List.take_zero, List.drop_succ_cons, List.drop_zero, List.reverse_cons, List.reverse_nil, List.cons_append, List.nil_append, List.append_nil, Option.toList_some, Option.toList_none, Nat.reduceAdd, Nat.reduceSub, Nat.reduceLeDiff, Nat.reduceLT, Nat.reduceEqDiff, Nat.le_refl, Nat.zero_le, Nat.zero_add, Nat.sub_zero, true_and, and_true, false_and, and_false, if_true, if_false, ite_true, ite_false, reduceIte, or_true, true_or, Option.isSome_some, not_true_eq_false, not_false_eq_true, forall_const, true_implies, false_implies, implies_true, ne_eq, m_gI_I, m_gJ_J, m_gQ_Q, m_gO_O, g_i0, g_i1, g_i2, g_i3, g_i4, v_c0, g_c1, g_c2, g_c3, g_c4, g_m4, g_p2, g_p3, g_1p, g_10p, g_40p, g_r6, g_d6, g_s6, g_60, nI_1, v_add, v_sub1, e10, c0, hba, f1, h5, f2, z2, hrem, m_hp_3]
  refine ⟨_, _, E, ?_⟩
  simp (disch := omega) only [st_L_passes_751, st_L_passes_753, st_L_passes_756, st_L_passes_757, o_lload, o_lstore, o_istW, o_astW, o_iincW, o_lbin, o_ldiv, m_nlg, o_iload, o_aload, o_const, o_lconst, o_istore, o_astore, o_iinc, o_dup, o_dup2, o_pop, o_bin, o_div, o_un, o_mbin, o_mun, o_i2l, o_lcmp, o_ifeq, o_ifne, o_iflt, o_ifge, o_ifgt, o_ifle, o_icmpeq, o_icmpne, o_icmplt, o_icmpge, o_icmpgt, o_icmple, o_goto, o_getf, o_puti, o_putz, o_putr, o_iald, o_iast, o_zast, o_lald, o_last, o_aald, o_aast, o_alenO, o_new, o_newi, o_newl, o_newq, o_newqd, o_mna, o_copy, o_drop, o_cast, o_call, o_callx, o_callv, o_callvx, o_callh, o_sald, o_slen, o_switch, m_rcv, o_ireturn, o_zreturn, o_areturn, o_return, o_throw, o_null, o_dupx1, o_de, m_ent, List.getElem?_cons_zero, List.getElem?_cons_succ, List.getElem?_nil, List.set_cons_zero, List.set_cons_succ, List.length_cons, List.length_nil, List.map_cons, List.map_nil, List.replicate_succ, List.replicate_zero, List.take_succ_cons, List.take_zero, List.drop_succ_cons, List.drop_zero, List.reverse_cons, List.reverse_nil, List.cons_append, List.nil_append, List.append_nil, Option.toList_some, Option.toList_none, Nat.reduceAdd, Nat.reduceSub, Nat.reduceLeDiff, Nat.reduceLT, Nat.reduceEqDiff, Nat.le_refl, Nat.zero_le, Nat.zero_add, Nat.sub_zero, true_and, and_true, false_and, and_false, if_true, if_false, ite_true, ite_false, reduceIte, or_true, true_or, Option.isSome_some, not_true_eq_false, not_false_eq_true, forall_const, true_implies, false_implies, implies_true, ne_eq, m_gI_I, m_gJ_J, m_gQ_Q, m_gO_O, p1, m_hp_3]
  refine ⟨_, _, E, ?_⟩
  simp (disch := omega) only [st_L_passes_760, st_L_passes_762, st_L_passes_764, st_L_passes_765, st_L_passes_766, st_L_passes_767, st_L_passes_768, st_L_passes_769, st_L_passes_772, st_L_passes_773, st_L_passes_776, st_L_passes_777, o_lload, o_lstore, o_istW, o_astW, o_iincW, o_lbin, o_ldiv, m_nlg, o_iload, o_aload, o_const, o_lconst, o_istore, o_astore, o_iinc, o_dup, o_dup2, o_pop, o_bin, o_div, o_un, o_mbin, o_mun, o_i2l, o_lcmp, o_ifeq, o_ifne, o_iflt, o_ifge, o_ifgt, o_ifle, o_icmpeq, o_icmpne, o_icmplt, o_icmpge, o_icmpgt, o_icmple, o_goto, o_getf, o_puti, o_putz, o_putr, o_iald, o_iast, o_zast, o_lald, o_last, o_aald, o_aast, o_alenO, o_new, o_newi, o_newl, o_newq, o_newqd, o_mna, o_copy, o_drop, o_cast, o_call, o_callx, o_callv, o_callvx, o_callh, o_sald, o_slen, o_switch, m_rcv, o_ireturn, o_zreturn, o_areturn, o_return, o_throw, o_null, o_dupx1, o_de, m_ent, List.getElem?_cons_zero, List.getElem?_cons_succ, List.getElem?_nil, List.set_cons_zero, List.set_cons_succ, List.length_cons, List.length_nil, List.map_cons, List.map_nil, List.replicate_succ, List.replicate_zero, List.take_succ_cons, List.take_zero, List.drop_succ_cons, List.drop_zero, List.reverse_cons, List.reverse_nil, List.cons_append, List.nil_append, List.append_nil, Option.toList_some, Option.toList_none, Nat.reduceAdd, Nat.reduceSub, Nat.reduceLeDiff, Nat.reduceLT, Nat.reduceEqDiff, Nat.le_refl, Nat.zero_le, Nat.zero_add, Nat.sub_zero, true_and, and_true, false_and, and_false, if_true, if_false, ite_true, ite_false, reduceIte, or_true, true_or, Option.isSome_some, not_true_eq_false, not_false_eq_true, forall_const, true_implies, false_implies, implies_true, ne_eq, m_gI_I, m_gJ_J, m_gQ_Q, m_gO_O, g_i0, g_i1, g_i2, g_i3, g_i4, v_c0, g_c1, g_c2, g_c3, g_c4, g_m4, g_p2, g_p3, g_1p, g_10p, g_40p, g_r6, g_d6, g_s6, g_60, nI_1, v_add, v_sub1, m_hp_94, m_hp_95, m_hp_96, m_hp_97, m_up_94, m_up_95, m_up_96, m_up_97, v_in, v_cl, m_uf_eq, m_uf_ne, m_uf_uu, u_eq, u_ne, hg, g_20, p2]
  exact hr
theorem sum36 {u : Nat → Nat → Nat} : ∀ m, n_sum (fun k => u (k / 6) (k % 6)) (6 * m) = n_sum (fun i => n_sum (u i) 6) m := by
  intro m
  induction m with
  | zero => rfl
  | succ m ih =>
    show n_sum (fun k => u (k / 6) (k % 6)) (6 * m) + u (6 * m / 6) (6 * m % 6) + u ((6 * m + 1) / 6) ((6 * m + 1) % 6) + u ((6 * m + 2) / 6) ((6 * m + 2) % 6) + u ((6 * m + 3) / 6) ((6 * m + 3) % 6) + u ((6 * m + 4) / 6) ((6 * m + 4) % 6) + u ((6 * m + 5) / 6) ((6 * m + 5) % 6) = n_sum (fun i => n_sum (u i) 6) m + (0 + u m 0 + u m 1 + u m 2 + u m 3 + u m 4 + u m 5)
    rw [ih, show 6 * m / 6 = m by omega, show 6 * m % 6 = 0 by omega, show (6 * m + 1) / 6 = m by omega, show (6 * m + 1) % 6 = 1 by omega, show (6 * m + 2) / 6 = m by omega, show (6 * m + 2) % 6 = 2 by omega, show (6 * m + 3) / 6 = m by omega, show (6 * m + 3) % 6 = 3 by omega, show (6 * m + 4) / 6 = m by omega, show (6 * m + 4) % 6 = 4 by omega, show (6 * m + 5) / 6 = m by omega, show (6 * m + 5) % 6 = 5 by omega]
    omega
/-- what an hour brings, told of the invariant -/
theorem h_facts {m nc nd nk ns sz : Nat} {cb db sd ow : Nat → Nat → Nat} {s1 s2 : Int32} {D : n_D} (hP : n_PI nc nd nk ns sz cb db sd ow D) (hQ : w_Q m nc nd cb db ow D) (hnc : nc ≤ 10) (hnd : nd ≤ 10) (hns : ns ≤ 3) :
    n_IQ nc nd D.2.2.2.2.2.1.2.2.2.2 cb db ow (n_hQ nc nd cb db ow D) ∧ (∀ i w, (n_hQ nc nd cb db ow D).2.2.1 i = some w → w < 1024) ∧ n_sum (n_hQ nc nd cb db ow D).2.2.2 nd ≤ 400 ∧ w_Q (m + 1) nc nd cb db ow (n_hour nc nd nk ns cb db ow s1 s2 D) := by
  obtain ⟨q1, q2, q3, ⟨P, q4, q5⟩, u, q6⟩ := hQ
  have hC : n_HC nc D.2.2.2.2.2.1.2.2.2.2 cb := fun c hc => by
    obtain ⟨_, _, c1, c2, c3⟩ := q1 c hc
    have h5 := (hP.2.2.1 c hc).2.2.2.1
    refine ⟨(hP.2.1.2.2.2 c hc).1, n_ab (cb c 0) (cb c 1), ?_, n_ab_5 c1 c2, by omega⟩
    unfold n_ab
    split <;> omega
  have hD : n_HD nd db := fun i hi => ⟨(hP.2.2.2.1 i hi).2, (q2 i hi).2.2.1⟩
  have hI := IQ_lead (ow := ow) hC hD
  have h8 : n_q8 nc (n_lead nc nd D.2.2.2.2.2.1.2.2.2.2 cb db ow) := n_lead_q8 hnc (fun i hi => by have := (q2 i hi).2.2.2; omega) (fun c hc => by obtain ⟨_, a, a1, a2, a3⟩ := hC c hc; omega) (fun c hc j hj => by
    have h1 := (q1 c hc).1
    have h2 := (hP.2.2.1 c hc).2.1
    have h3 := pz_ge (f := ow c) hj
    omega)
  have hS : n_sum (n_hQ nc nd cb db ow D).2.2.2 nd ≤ 40 * nd := n_sum_le (fun i hi => by
    obtain ⟨i1, i2⟩ := hI.2.2 i hi
    show (n_lead nc nd D.2.2.2.2.2.1.2.2.2.2 cb db ow).2.2.2 i ≤ 40
    cases e : (n_lead nc nd D.2.2.2.2.2.1.2.2.2.2 cb db ow).2.2.1 i with
    | none => rw [i1 e]; omega
    | some w =>
      have h5 := (i2 w e).2.1
      have h6 : n_sum (n_bt w) nc ≤ 1 * nc := n_sum_le (fun j _ => by have : n_bt w j < 2 := bt_lt; omega)
      have h7 : db i 3 * n_sum (n_bt w) nc ≤ 4 * (1 * nc) := Nat.mul_le_mul (q2 i hi).2.2.2 h6
      omega)
  obtain ⟨P', r1, r2, r3, r4⟩ := MY_hour (s1 := s1) (s2 := s2) q4 q5 hP.2.1 (fun c hc => ⟨(q1 c hc).1, (q1 c hc).2.1⟩) (fun i hi => ⟨(hP.2.2.2.1 i hi).2, (q2 i hi).2.2.2⟩) hnd hns
  refine ⟨hI, h8.2, by omega, q1, q2, by show D.1 + 1 ≤ m + 1; omega, ⟨P', MY_mono r1 (by omega), r2⟩, fun i j => u i j + (n_hQ nc nd cb db ow D).2.1 i j, fun i hi j hj => ?_⟩
  obtain ⟨u1, u2⟩ := q6 i hi j hj
  refine ⟨?_, ?_⟩
  · show D.2.1 i j + nI ((n_hQ nc nd cb db ow D).2.1 i j) = _
    rw [u1]
    exact v_add _ _
  · obtain ⟨T, t1, t2, t3⟩ := hI.2.1
    have g1 := pz_ge (f := fun i => n_sum ((n_lead nc nd D.2.2.2.2.2.1.2.2.2.2 cb db ow).2.1 i) 6) hi
    have g2 := pz_ge (f := (n_lead nc nd D.2.2.2.2.2.1.2.2.2.2 cb db ow).2.1 i) hj
    show u i j + (n_lead nc nd D.2.2.2.2.2.1.2.2.2.2 cb db ow).2.1 i j ≤ 400000 * (D.1 + 1)
    have e : n_sum (n_lead nc nd D.2.2.2.2.2.1.2.2.2.2 cb db ow).2.2.2 nd ≤ 40 * nd := hS
    omega
