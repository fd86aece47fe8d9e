/-! the model: findsWay -/
theorem n_sum_cg {f g : Nat → Nat} : ∀ {k : Nat}, (∀ j, j < k → f j = g j) → n_sum f k = n_sum g k := by
  intro k
  induction k with
  | zero => intro _; rfl
  | succ k ih =>
    intro h
    show n_sum f k + f k = n_sum g k + g k
    rw [ih (fun j hj => h j (by omega)), h k (by omega)]
theorem n_sum_u {α : Type} {p : Nat → α} {F : α → Nat} {k : Nat} {c : α} : n_sum (fun j => F (m_uf p k c j)) (k + 1) = n_sum (fun j => F (p j)) k + F c := by
  show n_sum (fun j => F (m_uf p k c j)) k + F (m_uf p k c k) = _
  rw [m_uf_eq, n_sum_cg (g := fun j => F (p j)) (fun j hj => by rw [m_uf_ne (by omega)])]
theorem nI_m1 (c : Nat) : nI c - 1 + 1 = nI c := Int32.sub_add_cancel _ _
theorem nI_dn (c : Nat) : nI (c + 1) + (-1) = nI c := by
  rw [← v_sub1 c]
  exact (Int32.sub_eq_add_neg _ _).symm
theorem x_B_cg {b : n_P} {a a' : Nat → Nat → Int32} (h : x_B b a) (h1 : a' 94 = a 94) (h2 : a' 118 = a 118) : x_B b a' := by
  unfold x_B at h ⊢
  cases b with
  | none => simp only at h ⊢; rw [h1]; exact h
  | some q => simp only at h ⊢; rw [h1, h2]; exact h
/-- what holds at a node of the search: the way so far, the landings on it -/
def x_nd (nc : Nat) (pa pb : Nat → Nat) (fo : Nat → Option Nat) (ln : Nat → Nat) (g dp h s : Nat) (p st : Nat → Nat) (l t : Nat) : Prop := st dp = h ∧ s < 64 ∧ n_pop s = dp + 1 ∧ s / 2 ^ g % 2 = 0 ∧ p_wy nc pa pb dp h s p ∧ (∀ i, i ≤ dp → st i < 6) ∧ (∀ x, x < 6 → (s / 2 ^ x % 2 = 1 ↔ ∃ i, i ≤ dp ∧ st i = x)) ∧ (∀ i, i < dp → fo (p i) ≠ none) ∧ l = n_sum (fun j => (fo (p j)).getD 0) dp ∧ t = n_sum (fun j => ln (p j)) dp ∧ l ≤ 4 * dp ∧ t ≤ 1000 * dp
theorem x_nd_s {nc g dp h s c x f l t : Nat} {pa pb ln p st : Nat → Nat} {fo : Nat → Option Nat} (H : x_nd nc pa pb fo ln g dp h s p st l t) (hc : c < nc) (hac : n_ac (pa c) (pb c) h = some x) (hpa : pa c < 6) (hpb : pb c < 6) (hx : s / 2 ^ x % 2 = 0) (hf : fo c = some f) (hf4 : f ≤ 4) (hln : ln c ≤ 1000) (hg : x ≠ g) : x_nd nc pa pb fo ln g (dp + 1) x (s ||| 2 ^ x) (m_uf p dp c) (m_uf st (dp + 1) x) (l + f) (t + ln c) := by
  obtain ⟨h1, h2, h3, h4, h5, h6, h7, h8, h9, h10, h11, h12⟩ := H
  have hx6 := n_ac_lt hpa hpb hac
  refine ⟨m_uf_eq, n_or_lt (n := 6) h2 hx6, by rw [n_pop_s h2 hx6 hx, h3], ?_, p_wy_s h5 hc hac hx, fun i hi => ?_, fun y hy => ?_, fun i hi => ?_, ?_, ?_, by omega, by omega⟩
  · have := n_bit_or (s := s) (x := x) (y := g)
    have e : ¬ (s ||| 2 ^ x) / 2 ^ g % 2 = 1 := fun z => (this.mp z).elim (fun z => by omega) (fun z => hg z.symm)
    omega
  · by_cases e : i = dp + 1
    · rw [e, m_uf_eq]; exact hx6
    · rw [m_uf_ne e]; exact h6 i (by omega)
  · rw [n_bit_or, h7 y hy]
    constructor
    · rintro (⟨i, a1, a2⟩ | e)
      · exact ⟨i, by omega, by rw [m_uf_ne (by omega)]; exact a2⟩
      · exact ⟨dp + 1, Nat.le_refl _, by rw [m_uf_eq, e]⟩
    · rintro ⟨i, a1, a2⟩
      by_cases e : i = dp + 1
      · rw [e, m_uf_eq] at a2
        exact Or.inr a2.symm
      · rw [m_uf_ne e] at a2
        exact Or.inl ⟨i, by omega, a2⟩
  · by_cases e : i = dp
    · rw [e, m_uf_eq, hf]; exact fun z => by cases z
    · rw [m_uf_ne e]; exact h8 i (by omega)
  · rw [n_sum_u (F := fun q => (fo q).getD 0), ← h9, hf]
    rfl
  · rw [n_sum_u (F := ln), ← h10]
def x_go (ar0 ar : Nat → Nat → Int32) (dp : Nat) (p st : Nat → Nat) (v : Int32) (b : n_P) : Prop := x_fr ar0 ar ∧ (∀ i, i < dp → ar 116 i = nI (p i)) ∧ ar 116 dp = v ∧ (∀ i, i ≤ dp → ar 117 i = nI (st i)) ∧ x_B b ar
theorem lp_fwi {d n nc nk nd i g k dp h s l t : Nat} {own : Bool} {kb cb db fr : Nat → Nat → Nat} {p st : Nat → Nat} {r : m_R → m_S → Prop} {bd : Nat × Nat} {ar0 : Nat → Nat → Int32} {rq : Nat → Nat → Option Nat} {ou : Nat → Int64} {dy : Nat → m_C} (hnc : nc ≤ 10) (hnk : nk ≤ 16) (hnd : nd ≤ 10) (hC : x_C nc cb ar0) (hK : x_K nk kb ar0) (hD : x_D nd db ar0) (hF : x_F nc fr ar0) (hf8 : ∀ c, c < nc → ∀ j, j < 6 → fr c j ≤ 100) (hi : i < nd) (hg : g = db i 2) (hdp : dp + k = 4)
    (H : x_nd nc (fun c => cb c 0) (fun c => cb c 1) (n_mo kb nk fr own (db i 0) (db i 3)) (fun c => cb c 5) g dp h s p st l t)
    (Hgo : ∀ (c x f : Nat) (b : n_P) (ar : Nat → Nat → Int32) (x4 : Option Value), c < nc → n_ac (cb c 0) (cb c 1) h = some x → s / 2 ^ x % 2 = 0 → n_mo kb nk fr own (db i 0) (db i 3) c = some f → x ≠ g → p_ok nc b → x_go ar0 ar (dp + 1) (m_uf p dp c) (m_uf st (dp + 1) x) (-1) b →
      (∀ (ar' : Nat → Nat → Int32) (x4 : Option Value), p_ok nc (p_fw nc (fun c => cb c 0) (fun c => cb c 1) (fun c => cb c 5) (n_mo kb nk fr own (db i 0) (db i 3)) g k (dp + 1) x (s ||| 2 ^ x) (m_uf p dp c) (l + f) (t + cb c 5) b) → x_go ar0 ar' dp p st (nI c) (p_fw nc (fun c => cb c 0) (fun c => cb c 1) (fun c => cb c 5) (n_mo kb nk fr own (db i 0) (db i 3)) g k (dp + 1) x (s ||| 2 ^ x) (m_uf p dp c) (l + f) (t + cb c 5) b) → m_W1 (m_lk cd_X7_findsWay) (m_Ev m_cds m_my (d + 3)) r 36 [some (.ref 94), some (.int (nI i)), some (.int (n_b own)), some (.int (nI dp)), x4] [] bd (n, m_hp ar' rq ou dy)) →
      m_W1 (m_lk cd_X7_findsWay) (m_Ev m_cds m_my (d + 3)) r 36 [some (.ref 94), some (.int (nI i)), some (.int (n_b own)), some (.int (nI (dp + 1))), x4] [] bd (n, m_hp ar rq ou dy)) :
    ∀ (m c : Nat), c + m = nc → ∀ (b : n_P) (ar : Nat → Nat → Int32) (x4 : Option Value), p_ok nc b → x_go ar0 ar dp p st (nI c - 1) b →
      (∀ (ar' : Nat → Nat → Int32) (x4 : Option Value), p_ok nc (n_up (fun c b => p_st (n_mo kb nk fr own (db i 0) (db i 3) c) (n_ac (cb c 0) (cb c 1) h) g s dp p l t (cb c 5) c (p_fw nc (fun c => cb c 0) (fun c => cb c 1) (fun c => cb c 5) (n_mo kb nk fr own (db i 0) (db i 3)) g k (dp + 1)) b) m c b) → x_go ar0 ar' dp p st (nI nc) (n_up (fun c b => p_st (n_mo kb nk fr own (db i 0) (db i 3) c) (n_ac (cb c 0) (cb c 1) h) g s dp p l t (cb c 5) c (p_fw nc (fun c => cb c 0) (fun c => cb c 1) (fun c => cb c 5) (n_mo kb nk fr own (db i 0) (db i 3)) g k (dp + 1)) b) m c b) → m_W1 (m_lk cd_X7_findsWay) (m_Ev m_cds m_my (d + 3)) r 36 [some (.ref 94), some (.int (nI i)), some (.int (n_b own)), some (.int (nI dp + (-1))), x4] [] bd (n, m_hp ar' rq ou dy)) →
      m_W1 (m_lk cd_X7_findsWay) (m_Ev m_cds m_my (d + 3)) r 36 [some (.ref 94), some (.int (nI i)), some (.int (n_b own)), some (.int (nI dp)), x4] [] bd (n, m_hp ar rq ou dy) := by
  have hdp8 : dp < 8 := by omega
  have hd0 : ¬ nI dp < 0 := nI_pos (by omega)
  intro m
  induction m with
  | zero =>
    intro c hc b ar x4 hok ⟨g1, g2, g3, g4, g5⟩ hE
    have e : c = nc := by omega
    subst e
    have h1 := (x_C_fr g1 hC).1
    rw [st_X7_findsWay_36]
    simp (disch := omega) only [st_X7_findsWay_37, st_X7_findsWay_40, st_X7_findsWay_41, st_X7_findsWay_44, st_X7_findsWay_45, st_X7_findsWay_46, st_X7_findsWay_47, st_X7_findsWay_48, st_X7_findsWay_49, o_iload, o_aload, o_const, o_lconst, o_istore, o_astore, o_iinc, o_dup, o_dup2, o_pop, o_bin, o_div, o_un, o_mbin, o_mun, o_i2l, o_lcmp, o_ifeq, o_ifne, o_iflt, o_ifge, o_ifgt, o_ifle, o_icmpeq, o_icmpne, o_icmplt, o_icmpge, o_icmpgt, o_icmple, o_goto, o_getf, o_puti, o_putz, o_putr, o_iald, o_iast, o_zast, o_lald, o_last, o_aald, o_aast, o_alenO, o_new, o_newi, o_newl, o_newq, o_newqd, o_mna, o_copy, o_drop, o_cast, o_call, o_callx, o_callv, o_callvx, o_callh, o_sald, o_slen, o_switch, m_rcv, o_ireturn, o_zreturn, o_areturn, o_return, o_throw, o_null, o_dupx1, o_de, m_ent, List.getElem?_cons_zero, List.getElem?_cons_succ, List.getElem?_nil, List.set_cons_zero, List.set_cons_succ, List.length_cons, List.length_nil, List.map_cons, List.map_nil, List.replicate_succ, List.replicate_zero, List.take_succ_cons, List.take_zero, List.drop_succ_cons, List.drop_zero, List.reverse_cons, List.reverse_nil, List.cons_append, List.nil_append, List.append_nil, Option.toList_some, Option.toList_none, Nat.reduceAdd, Nat.reduceSub, Nat.reduceLeDiff, Nat.reduceLT, Nat.reduceEqDiff, Nat.le_refl, Nat.zero_le, Nat.zero_add, Nat.sub_zero, true_and, and_true, false_and, and_false, if_true, if_false, ite_true, ite_false, reduceIte, or_true, true_or, Option.isSome_some, not_true_eq_false, not_false_eq_true, forall_const, true_implies, false_implies, implies_true, ne_eq, m_gI_I, m_gJ_J, m_gQ_Q, m_gO_O, hd0, m_hp_94, m_fM_len, m_fM_0, m_fM_1, m_fM_2, m_fM_3, m_fM_4, m_fM_5, m_fM_6, m_fM_7, m_fM_8, m_fM_9, m_fM_10, m_fM_11, m_fM_12, m_fM_13, m_fM_14, m_fM_15, m_fM_16, m_fM_17, m_fM_18, m_fM_19, m_fM_20, m_fM_21, m_fM_22, m_fM_23, m_fM_24, m_fM_25, m_fM_26, m_fM_27, m_fM_28, m_fM_29, m_fM_30, m_fM_31, m_fM_32, m_fM_33, m_fM_34, m_fM_35, m_fM_s0, m_fM_s1, m_fM_s5, m_fM_s12, m_fM_s17, m_fM_s22, m_fM_s23, m_fM_s27, m_fM_s32, m_fM_s33, m_fM_s34, m_fM_s35, m_hp_116, m_up_116, v_in, v_cl, g3, nI_m1]
    have hv : m_uf ar 116 (upd (ar 116) dp (nI c)) 116 dp = nI c := by rw [m_uf_eq, upd, if_pos rfl]
    have h1' : m_uf ar 116 (upd (ar 116) dp (nI c)) 94 1 = nI c := by rw [m_uf_ne (by omega)]; exact h1
    simp (disch := omega) only [st_X7_findsWay_50, st_X7_findsWay_51, st_X7_findsWay_54, st_X7_findsWay_55, st_X7_findsWay_56, st_X7_findsWay_57, st_X7_findsWay_60, st_X7_findsWay_63, st_X7_findsWay_66, o_iload, o_aload, o_const, o_lconst, o_istore, o_astore, o_iinc, o_dup, o_dup2, o_pop, o_bin, o_div, o_un, o_mbin, o_mun, o_i2l, o_lcmp, o_ifeq, o_ifne, o_iflt, o_ifge, o_ifgt, o_ifle, o_icmpeq, o_icmpne, o_icmplt, o_icmpge, o_icmpgt, o_icmple, o_goto, o_getf, o_puti, o_putz, o_putr, o_iald, o_iast, o_zast, o_lald, o_last, o_aald, o_aast, o_alenO, o_new, o_newi, o_newl, o_newq, o_newqd, o_mna, o_copy, o_drop, o_cast, o_call, o_callx, o_callv, o_callvx, o_callh, o_sald, o_slen, o_switch, m_rcv, o_ireturn, o_zreturn, o_areturn, o_return, o_throw, o_null, o_dupx1, o_de, m_ent, List.getElem?_cons_zero, List.getElem?_cons_succ, List.getElem?_nil, List.set_cons_zero, List.set_cons_succ, List.length_cons, List.length_nil, List.map_cons, List.map_nil, List.replicate_succ, List.replicate_zero, List.take_succ_cons, List.take_zero, List.drop_succ_cons, List.drop_zero, List.reverse_cons, List.reverse_nil, List.cons_append, List.nil_append, List.append_nil, Option.toList_some, Option.toList_none, Nat.reduceAdd, Nat.reduceSub, Nat.reduceLeDiff, Nat.reduceLT, Nat.reduceEqDiff, Nat.le_refl, Nat.zero_le, Nat.zero_add, Nat.sub_zero, true_and, and_true, false_and, and_false, if_true, if_false, ite_true, ite_false, reduceIte, or_true, true_or, Option.isSome_some, not_true_eq_false, not_false_eq_true, forall_const, true_implies, false_implies, implies_true, ne_eq, m_gI_I, m_gJ_J, m_gQ_Q, m_gO_O, m_hp_94, m_fM_len, m_fM_0, m_fM_1, m_fM_2, m_fM_3, m_fM_4, m_fM_5, m_fM_6, m_fM_7, m_fM_8, m_fM_9, m_fM_10, m_fM_11, m_fM_12, m_fM_13, m_fM_14, m_fM_15, m_fM_16, m_fM_17, m_fM_18, m_fM_19, m_fM_20, m_fM_21, m_fM_22, m_fM_23, m_fM_24, m_fM_25, m_fM_26, m_fM_27, m_fM_28, m_fM_29, m_fM_30, m_fM_31, m_fM_32, m_fM_33, m_fM_34, m_fM_35, m_fM_s0, m_fM_s1, m_fM_s5, m_fM_s12, m_fM_s17, m_fM_s22, m_fM_s23, m_fM_s27, m_fM_s32, m_fM_s33, m_fM_s34, m_fM_s35, m_hp_116, v_in, v_cl, hv, h1']
    refine ⟨fun z => absurd z Int32.lt_irrefl, fun _ => hE _ _ hok ⟨x_fr_trans g1 ⟨fun x a1 a2 a3 a4 => m_uf_ne a2, fun k _ _ _ => by rw [m_uf_ne (by omega)]⟩, fun j hj => ?_, hv, fun j hj => by rw [m_uf_ne (by omega)]; exact g4 j hj, x_B_cg g5 (m_uf_ne (by omega)) (m_uf_ne (by omega))⟩⟩
    rw [m_uf_eq, upd, if_neg (by omega)]
    exact g2 j hj
  | succ m ih =>
    intro c hc b ar x4 hok ⟨g1, g2, g3, g4, g5⟩ hE
    have hcn : c < nc := by omega
    obtain ⟨H1, H2, H3, H4, H5, H6, H7, H8, H9, H10, H11, H12⟩ := id H
    have h1 := (x_C_fr g1 hC).1
    have hlt : nI c < nI nc := nI_lt hcn (by omega)
    rw [st_X7_findsWay_36]
    simp (disch := omega) only [st_X7_findsWay_37, st_X7_findsWay_40, st_X7_findsWay_41, st_X7_findsWay_44, st_X7_findsWay_45, st_X7_findsWay_46, st_X7_findsWay_47, st_X7_findsWay_48, st_X7_findsWay_49, o_iload, o_aload, o_const, o_lconst, o_istore, o_astore, o_iinc, o_dup, o_dup2, o_pop, o_bin, o_div, o_un, o_mbin, o_mun, o_i2l, o_lcmp, o_ifeq, o_ifne, o_iflt, o_ifge, o_ifgt, o_ifle, o_icmpeq, o_icmpne, o_icmplt, o_icmpge, o_icmpgt, o_icmple, o_goto, o_getf, o_puti, o_putz, o_putr, o_iald, o_iast, o_zast, o_lald, o_last, o_aald, o_aast, o_alenO, o_new, o_newi, o_newl, o_newq, o_newqd, o_mna, o_copy, o_drop, o_cast, o_call, o_callx, o_callv, o_callvx, o_callh, o_sald, o_slen, o_switch, m_rcv, o_ireturn, o_zreturn, o_areturn, o_return, o_throw, o_null, o_dupx1, o_de, m_ent, List.getElem?_cons_zero, List.getElem?_cons_succ, List.getElem?_nil, List.set_cons_zero, List.set_cons_succ, List.length_cons, List.length_nil, List.map_cons, List.map_nil, List.replicate_succ, List.replicate_zero, List.take_succ_cons, List.take_zero, List.drop_succ_cons, List.drop_zero, List.reverse_cons, List.reverse_nil, List.cons_append, List.nil_append, List.append_nil, Option.toList_some, Option.toList_none, Nat.reduceAdd, Nat.reduceSub, Nat.reduceLeDiff, Nat.reduceLT, Nat.reduceEqDiff, Nat.le_refl, Nat.zero_le, Nat.zero_add, Nat.sub_zero, true_and, and_true, false_and, and_false, if_true, if_false, ite_true, ite_false, reduceIte, or_true, true_or, Option.isSome_some, not_true_eq_false, not_false_eq_true, forall_const, true_implies, false_implies, implies_true, ne_eq, m_gI_I, m_gJ_J, m_gQ_Q, m_gO_O, hd0, m_hp_94, m_fM_len, m_fM_0, m_fM_1, m_fM_2, m_fM_3, m_fM_4, m_fM_5, m_fM_6, m_fM_7, m_fM_8, m_fM_9, m_fM_10, m_fM_11, m_fM_12, m_fM_13, m_fM_14, m_fM_15, m_fM_16, m_fM_17, m_fM_18, m_fM_19, m_fM_20, m_fM_21, m_fM_22, m_fM_23, m_fM_24, m_fM_25, m_fM_26, m_fM_27, m_fM_28, m_fM_29, m_fM_30, m_fM_31, m_fM_32, m_fM_33, m_fM_34, m_fM_35, m_fM_s0, m_fM_s1, m_fM_s5, m_fM_s12, m_fM_s17, m_fM_s22, m_fM_s23, m_fM_s27, m_fM_s32, m_fM_s33, m_fM_s34, m_fM_s35, m_hp_116, m_up_116, v_in, v_cl, g3, nI_m1]
    have hv : m_uf ar 116 (upd (ar 116) dp (nI c)) 116 dp = nI c := by rw [m_uf_eq, upd, if_pos rfl]
    have hfr : x_fr ar0 (m_uf ar 116 (upd (ar 116) dp (nI c))) := x_fr_trans g1 ⟨fun x a1 a2 a3 a4 => m_uf_ne a2, fun k _ _ _ => by rw [m_uf_ne (by omega)]⟩
    have g2' : ∀ j, j < dp → m_uf ar 116 (upd (ar 116) dp (nI c)) 116 j = nI (p j) := fun j hj => by rw [m_uf_eq, upd, if_neg (by omega)]; exact g2 j hj
    have g4' : ∀ j, j ≤ dp → m_uf ar 116 (upd (ar 116) dp (nI c)) 117 j = nI (st j) := fun j hj => by rw [m_uf_ne (by omega)]; exact g4 j hj
    have g5' : x_B b (m_uf ar 116 (upd (ar 116) dp (nI c))) := x_B_cg g5 (m_uf_ne (by omega)) (m_uf_ne (by omega))
    generalize m_uf ar 116 (upd (ar 116) dp (nI c)) = ar1 at hv hfr g2' g4' g5' ⊢
    have hC1 := x_C_fr hfr hC
    have h1' := hC1.1
    simp (disch := omega) only [st_X7_findsWay_50, st_X7_findsWay_51, st_X7_findsWay_54, st_X7_findsWay_55, st_X7_findsWay_56, st_X7_findsWay_57, st_X7_findsWay_60, st_X7_findsWay_69, st_X7_findsWay_70, st_X7_findsWay_71, st_X7_findsWay_74, st_X7_findsWay_75, st_X7_findsWay_76, st_X7_findsWay_77, o_iload, o_aload, o_const, o_lconst, o_istore, o_astore, o_iinc, o_dup, o_dup2, o_pop, o_bin, o_div, o_un, o_mbin, o_mun, o_i2l, o_lcmp, o_ifeq, o_ifne, o_iflt, o_ifge, o_ifgt, o_ifle, o_icmpeq, o_icmpne, o_icmplt, o_icmpge, o_icmpgt, o_icmple, o_goto, o_getf, o_puti, o_putz, o_putr, o_iald, o_iast, o_zast, o_lald, o_last, o_aald, o_aast, o_alenO, o_new, o_newi, o_newl, o_newq, o_newqd, o_mna, o_copy, o_drop, o_cast, o_call, o_callx, o_callv, o_callvx, o_callh, o_sald, o_slen, o_switch, m_rcv, o_ireturn, o_zreturn, o_areturn, o_return, o_throw, o_null, o_dupx1, o_de, m_ent, List.getElem?_cons_zero, List.getElem?_cons_succ, List.getElem?_nil, List.set_cons_zero, List.set_cons_succ, List.length_cons, List.length_nil, List.map_cons, List.map_nil, List.replicate_succ, List.replicate_zero, List.take_succ_cons, List.take_zero, List.drop_succ_cons, List.drop_zero, List.reverse_cons, List.reverse_nil, List.cons_append, List.nil_append, List.append_nil, Option.toList_some, Option.toList_none, Nat.reduceAdd, Nat.reduceSub, Nat.reduceLeDiff, Nat.reduceLT, Nat.reduceEqDiff, Nat.le_refl, Nat.zero_le, Nat.zero_add, Nat.sub_zero, true_and, and_true, false_and, and_false, if_true, if_false, ite_true, ite_false, reduceIte, or_true, true_or, Option.isSome_some, not_true_eq_false, not_false_eq_true, forall_const, true_implies, false_implies, implies_true, ne_eq, m_gI_I, m_gJ_J, m_gQ_Q, m_gO_O, m_hp_94, m_fM_len, m_fM_0, m_fM_1, m_fM_2, m_fM_3, m_fM_4, m_fM_5, m_fM_6, m_fM_7, m_fM_8, m_fM_9, m_fM_10, m_fM_11, m_fM_12, m_fM_13, m_fM_14, m_fM_15, m_fM_16, m_fM_17, m_fM_18, m_fM_19, m_fM_20, m_fM_21, m_fM_22, m_fM_23, m_fM_24, m_fM_25, m_fM_26, m_fM_27, m_fM_28, m_fM_29, m_fM_30, m_fM_31, m_fM_32, m_fM_33, m_fM_34, m_fM_35, m_fM_s0, m_fM_s1, m_fM_s5, m_fM_s12, m_fM_s17, m_fM_s22, m_fM_s23, m_fM_s27, m_fM_s32, m_fM_s33, m_fM_s34, m_fM_s35, m_hp_116, v_in, v_cl, hv, h1', hlt]
    refine ⟨_, _, e_mleads (d + 2) hnc hC1 hcn (by omega) (fun j hj => ⟨g4' j hj, H6 j hj⟩), ?_⟩
    rw [H1]
    have hup : n_up (fun c b => p_st (n_mo kb nk fr own (db i 0) (db i 3) c) (n_ac (cb c 0) (cb c 1) h) g s dp p l t (cb c 5) c (p_fw nc (fun c => cb c 0) (fun c => cb c 1) (fun c => cb c 5) (n_mo kb nk fr own (db i 0) (db i 3)) g k (dp + 1)) b) (m + 1) c b = n_up (fun c b => p_st (n_mo kb nk fr own (db i 0) (db i 3) c) (n_ac (cb c 0) (cb c 1) h) g s dp p l t (cb c 5) c (p_fw nc (fun c => cb c 0) (fun c => cb c 1) (fun c => cb c 5) (n_mo kb nk fr own (db i 0) (db i 3)) g k (dp + 1)) b) m (c + 1) (p_st (n_mo kb nk fr own (db i 0) (db i 3) c) (n_ac (cb c 0) (cb c 1) h) g s dp p l t (cb c 5) c (p_fw nc (fun c => cb c 0) (fun c => cb c 1) (fun c => cb c 5) (n_mo kb nk fr own (db i 0) (db i 3)) g k (dp + 1)) b) := rfl
    rw [hup] at hE
    obtain ⟨C1, C2, C3, C4, C5⟩ := hC1.2 c hcn
    have hln := x_C_5 hC1 hcn
    have hp1 : nI (c + 1) - 1 = nI c := v_sub1 c
    -- going on with the next cable
    have next : ∀ (b2 : n_P) (ar2 : Nat → Nat → Int32) (x4 : Option Value), p_st (n_mo kb nk fr own (db i 0) (db i 3) c) (n_ac (cb c 0) (cb c 1) h) g s dp p l t (cb c 5) c (p_fw nc (fun c => cb c 0) (fun c => cb c 1) (fun c => cb c 5) (n_mo kb nk fr own (db i 0) (db i 3)) g k (dp + 1)) b = b2 → p_ok nc b2 → x_go ar0 ar2 dp p st (nI c) b2 → m_W1 (m_lk cd_X7_findsWay) (m_Ev m_cds m_my (d + 3)) r 36 [some (.ref 94), some (.int (nI i)), some (.int (n_b own)), some (.int (nI dp)), x4] [] bd (n, m_hp ar2 rq ou dy) := by
      intro b2 ar2 x4 e o2 G
      rw [← hp1] at G
      rw [e] at hE
      exact ih (c + 1) (by omega) b2 ar2 x4 o2 G hE
    have stay : ∀ (x4 : Option Value), p_st (n_mo kb nk fr own (db i 0) (db i 3) c) (n_ac (cb c 0) (cb c 1) h) g s dp p l t (cb c 5) c (p_fw nc (fun c => cb c 0) (fun c => cb c 1) (fun c => cb c 5) (n_mo kb nk fr own (db i 0) (db i 3)) g k (dp + 1)) b = b → m_W1 (m_lk cd_X7_findsWay) (m_Ev m_cds m_my (d + 3)) r 36 [some (.ref 94), some (.int (nI i)), some (.int (n_b own)), some (.int (nI dp)), x4] [] bd (n, m_hp ar1 rq ou dy) := fun x4 e => next b ar1 x4 e hok ⟨hfr, g2', hv, g4', g5'⟩
    have hm1 : (n_w none = -1) = True := eq_true rfl
    rcases hac : n_ac (cb c 0) (cb c 1) h with _ | x
    · rw [n_ld_n]
      rw [hac] at stay
      simp (disch := omega) only [st_X7_findsWay_80, st_X7_findsWay_82, st_X7_findsWay_84, st_X7_findsWay_85, st_X7_findsWay_158, o_iload, o_aload, o_const, o_lconst, o_istore, o_astore, o_iinc, o_dup, o_dup2, o_pop, o_bin, o_div, o_un, o_mbin, o_mun, o_i2l, o_lcmp, o_ifeq, o_ifne, o_iflt, o_ifge, o_ifgt, o_ifle, o_icmpeq, o_icmpne, o_icmplt, o_icmpge, o_icmpgt, o_icmple, o_goto, o_getf, o_puti, o_putz, o_putr, o_iald, o_iast, o_zast, o_lald, o_last, o_aald, o_aast, o_alenO, o_new, o_newi, o_newl, o_newq, o_newqd, o_mna, o_copy, o_drop, o_cast, o_call, o_callx, o_callv, o_callvx, o_callh, o_sald, o_slen, o_switch, m_rcv, o_ireturn, o_zreturn, o_areturn, o_return, o_throw, o_null, o_dupx1, o_de, m_ent, List.getElem?_cons_zero, List.getElem?_cons_succ, List.getElem?_nil, List.set_cons_zero, List.set_cons_succ, List.length_cons, List.length_nil, List.map_cons, List.map_nil, List.replicate_succ, List.replicate_zero, List.take_succ_cons, List.take_zero, List.drop_succ_cons, List.drop_zero, List.reverse_cons, List.reverse_nil, List.cons_append, List.nil_append, List.append_nil, Option.toList_some, Option.toList_none, Nat.reduceAdd, Nat.reduceSub, Nat.reduceLeDiff, Nat.reduceLT, Nat.reduceEqDiff, Nat.le_refl, Nat.zero_le, Nat.zero_add, Nat.sub_zero, true_and, and_true, false_and, and_false, if_true, if_false, ite_true, ite_false, reduceIte, or_true, true_or, Option.isSome_some, not_true_eq_false, not_false_eq_true, forall_const, true_implies, false_implies, implies_true, ne_eq, m_gI_I, m_gJ_J, m_gQ_Q, m_gO_O, hm1]
      refine stay _ ?_
      unfold p_st
      split
      · rename_i h9 h10; cases h10
      · rfl
    · have hx6 := n_ac_lt C3 C4 hac
      have hld := n_ld_s (st := st) (x := x) (m := dp + 1) (k := 0)
      have hvis := H7 x hx6
      rw [hac] at stay next
      by_cases hs : s / 2 ^ x % 2 = 0
      · have hnv : ¬ ∃ j, 0 ≤ j ∧ j < 0 + (dp + 1) ∧ st j = x := fun ⟨j, a1, a2, a3⟩ => by have := hvis.mpr ⟨j, by omega, a3⟩; omega
        rw [hld.2 hnv]
        have hx1 : (nI x = -1) = False := n_neg (by omega)
        have hD1 := x_D_fr hfr hD
        obtain ⟨D1, D2, D3, D4, D5, _, D7, D8, _⟩ := hD1.2 i hi
        have hi10 : i < 10 := by omega
        simp (disch := omega) only [st_X7_findsWay_80, st_X7_findsWay_82, st_X7_findsWay_84, st_X7_findsWay_85, st_X7_findsWay_88, st_X7_findsWay_89, st_X7_findsWay_90, st_X7_findsWay_93, st_X7_findsWay_94, st_X7_findsWay_95, st_X7_findsWay_96, st_X7_findsWay_99, st_X7_findsWay_100, st_X7_findsWay_101, st_X7_findsWay_102, st_X7_findsWay_105, st_X7_findsWay_106, st_X7_findsWay_107, st_X7_findsWay_108, o_iload, o_aload, o_const, o_lconst, o_istore, o_astore, o_iinc, o_dup, o_dup2, o_pop, o_bin, o_div, o_un, o_mbin, o_mun, o_i2l, o_lcmp, o_ifeq, o_ifne, o_iflt, o_ifge, o_ifgt, o_ifle, o_icmpeq, o_icmpne, o_icmplt, o_icmpge, o_icmpgt, o_icmple, o_goto, o_getf, o_puti, o_putz, o_putr, o_iald, o_iast, o_zast, o_lald, o_last, o_aald, o_aast, o_alenO, o_new, o_newi, o_newl, o_newq, o_newqd, o_mna, o_copy, o_drop, o_cast, o_call, o_callx, o_callv, o_callvx, o_callh, o_sald, o_slen, o_switch, m_rcv, o_ireturn, o_zreturn, o_areturn, o_return, o_throw, o_null, o_dupx1, o_de, m_ent, List.getElem?_cons_zero, List.getElem?_cons_succ, List.getElem?_nil, List.set_cons_zero, List.set_cons_succ, List.length_cons, List.length_nil, List.map_cons, List.map_nil, List.replicate_succ, List.replicate_zero, List.take_succ_cons, List.take_zero, List.drop_succ_cons, List.drop_zero, List.reverse_cons, List.reverse_nil, List.cons_append, List.nil_append, List.append_nil, Option.toList_some, Option.toList_none, Nat.reduceAdd, Nat.reduceSub, Nat.reduceLeDiff, Nat.reduceLT, Nat.reduceEqDiff, Nat.le_refl, Nat.zero_le, Nat.zero_add, Nat.sub_zero, true_and, and_true, false_and, and_false, if_true, if_false, ite_true, ite_false, reduceIte, or_true, true_or, Option.isSome_some, not_true_eq_false, not_false_eq_true, forall_const, true_implies, false_implies, implies_true, ne_eq, m_gI_I, m_gJ_J, m_gQ_Q, m_gO_O, n_ws, hx1, m_hp_94, m_fM_len, m_fM_0, m_fM_1, m_fM_2, m_fM_3, m_fM_4, m_fM_5, m_fM_6, m_fM_7, m_fM_8, m_fM_9, m_fM_10, m_fM_11, m_fM_12, m_fM_13, m_fM_14, m_fM_15, m_fM_16, m_fM_17, m_fM_18, m_fM_19, m_fM_20, m_fM_21, m_fM_22, m_fM_23, m_fM_24, m_fM_25, m_fM_26, m_fM_27, m_fM_28, m_fM_29, m_fM_30, m_fM_31, m_fM_32, m_fM_33, m_fM_34, m_fM_35, m_fM_s0, m_fM_s1, m_fM_s5, m_fM_s12, m_fM_s17, m_fM_s22, m_fM_s23, m_fM_s27, m_fM_s32, m_fM_s33, m_fM_s34, m_fM_s35, m_hp_116, m_hp_98, m_hp_101, v_in, v_cl, hv, D1, D4]
        refine ⟨_, _, e_mlentOn (d + 1) hnc hnk (x_K_fr hfr hK) (x_F_fr hfr hF) hf8 hcn D5 (by omega), ?_⟩
        rcases hfc : n_mo kb nk fr own (db i 0) (db i 3) c with _ | f
        · rw [hfc] at stay
          simp (disch := omega) only [st_X7_findsWay_111, st_X7_findsWay_112, st_X7_findsWay_158, o_iload, o_aload, o_const, o_lconst, o_istore, o_astore, o_iinc, o_dup, o_dup2, o_pop, o_bin, o_div, o_un, o_mbin, o_mun, o_i2l, o_lcmp, o_ifeq, o_ifne, o_iflt, o_ifge, o_ifgt, o_ifle, o_icmpeq, o_icmpne, o_icmplt, o_icmpge, o_icmpgt, o_icmple, o_goto, o_getf, o_puti, o_putz, o_putr, o_iald, o_iast, o_zast, o_lald, o_last, o_aald, o_aast, o_alenO, o_new, o_newi, o_newl, o_newq, o_newqd, o_mna, o_copy, o_drop, o_cast, o_call, o_callx, o_callv, o_callvx, o_callh, o_sald, o_slen, o_switch, m_rcv, o_ireturn, o_zreturn, o_areturn, o_return, o_throw, o_null, o_dupx1, o_de, m_ent, List.getElem?_cons_zero, List.getElem?_cons_succ, List.getElem?_nil, List.set_cons_zero, List.set_cons_succ, List.length_cons, List.length_nil, List.map_cons, List.map_nil, List.replicate_succ, List.replicate_zero, List.take_succ_cons, List.take_zero, List.drop_succ_cons, List.drop_zero, List.reverse_cons, List.reverse_nil, List.cons_append, List.nil_append, List.append_nil, Option.toList_some, Option.toList_none, Nat.reduceAdd, Nat.reduceSub, Nat.reduceLeDiff, Nat.reduceLT, Nat.reduceEqDiff, Nat.le_refl, Nat.zero_le, Nat.zero_add, Nat.sub_zero, true_and, and_true, false_and, and_false, if_true, if_false, ite_true, ite_false, reduceIte, or_true, true_or, Option.isSome_some, not_true_eq_false, not_false_eq_true, forall_const, true_implies, false_implies, implies_true, ne_eq, m_gI_I, m_gJ_J, m_gQ_Q, m_gO_O, hm1]
          exact stay _ rfl
        · have hf4 : f ≤ 4 := by
            unfold n_mo at hfc
            split at hfc
            · cases hfc
            · cases hfc; omega
          have hf1 : (nI f = -1) = False := n_neg (by omega)
          rw [hfc] at next
          have hps : p_st (some f) (some x) g s dp p l t (cb c 5) c (p_fw nc (fun c => cb c 0) (fun c => cb c 1) (fun c => cb c 5) (n_mo kb nk fr own (db i 0) (db i 3)) g k (dp + 1)) b = if x = g then p_look (dp + 1) (m_uf p dp c) (l + f) (t + cb c 5) b else p_fw nc (fun c => cb c 0) (fun c => cb c 1) (fun c => cb c 5) (n_mo kb nk fr own (db i 0) (db i 3)) g k (dp + 1) x (s ||| 2 ^ x) (m_uf p dp c) (l + f) (t + cb c 5) b := by
            unfold p_st
            simp only
            rw [if_pos hs]
          have hxg : (nI x = nI (db i 2)) = (x = g) := by rw [hg]; exact propext (nI_eq (by omega) (by omega))
          have hw2 := p_wy_s H5 hcn hac hs
          simp (disch := omega) only [st_X7_findsWay_111, st_X7_findsWay_112, st_X7_findsWay_115, st_X7_findsWay_116, st_X7_findsWay_119, st_X7_findsWay_120, st_X7_findsWay_121, st_X7_findsWay_122, st_X7_findsWay_124, o_iload, o_aload, o_const, o_lconst, o_istore, o_astore, o_iinc, o_dup, o_dup2, o_pop, o_bin, o_div, o_un, o_mbin, o_mun, o_i2l, o_lcmp, o_ifeq, o_ifne, o_iflt, o_ifge, o_ifgt, o_ifle, o_icmpeq, o_icmpne, o_icmplt, o_icmpge, o_icmpgt, o_icmple, o_goto, o_getf, o_puti, o_putz, o_putr, o_iald, o_iast, o_zast, o_lald, o_last, o_aald, o_aast, o_alenO, o_new, o_newi, o_newl, o_newq, o_newqd, o_mna, o_copy, o_drop, o_cast, o_call, o_callx, o_callv, o_callvx, o_callh, o_sald, o_slen, o_switch, m_rcv, o_ireturn, o_zreturn, o_areturn, o_return, o_throw, o_null, o_dupx1, o_de, m_ent, List.getElem?_cons_zero, List.getElem?_cons_succ, List.getElem?_nil, List.set_cons_zero, List.set_cons_succ, List.length_cons, List.length_nil, List.map_cons, List.map_nil, List.replicate_succ, List.replicate_zero, List.take_succ_cons, List.take_zero, List.drop_succ_cons, List.drop_zero, List.reverse_cons, List.reverse_nil, List.cons_append, List.nil_append, List.append_nil, Option.toList_some, Option.toList_none, Nat.reduceAdd, Nat.reduceSub, Nat.reduceLeDiff, Nat.reduceLT, Nat.reduceEqDiff, Nat.le_refl, Nat.zero_le, Nat.zero_add, Nat.sub_zero, true_and, and_true, false_and, and_false, if_true, if_false, ite_true, ite_false, reduceIte, or_true, true_or, Option.isSome_some, not_true_eq_false, not_false_eq_true, forall_const, true_implies, false_implies, implies_true, ne_eq, m_gI_I, m_gJ_J, m_gQ_Q, m_gO_O, n_ws, hf1, m_hp_94, m_fM_len, m_fM_0, m_fM_1, m_fM_2, m_fM_3, m_fM_4, m_fM_5, m_fM_6, m_fM_7, m_fM_8, m_fM_9, m_fM_10, m_fM_11, m_fM_12, m_fM_13, m_fM_14, m_fM_15, m_fM_16, m_fM_17, m_fM_18, m_fM_19, m_fM_20, m_fM_21, m_fM_22, m_fM_23, m_fM_24, m_fM_25, m_fM_26, m_fM_27, m_fM_28, m_fM_29, m_fM_30, m_fM_31, m_fM_32, m_fM_33, m_fM_34, m_fM_35, m_fM_s0, m_fM_s1, m_fM_s5, m_fM_s12, m_fM_s17, m_fM_s22, m_fM_s23, m_fM_s27, m_fM_s32, m_fM_s33, m_fM_s34, m_fM_s35, m_hp_117, m_up_117, v_in, v_cl, nI_1]
          have D3' : m_uf ar1 117 (upd (ar1 117) (dp + 1) (nI x)) 100 i = nI (db i 2) := by rw [m_uf_ne (by omega)]; exact D3
          have hv' : m_uf ar1 117 (upd (ar1 117) (dp + 1) (nI x)) 116 dp = nI c := by rw [m_uf_ne (by omega)]; exact hv
          have hfr' : x_fr ar0 (m_uf ar1 117 (upd (ar1 117) (dp + 1) (nI x))) := x_fr_trans hfr ⟨fun x a1 a2 a3 a4 => m_uf_ne a3, fun k _ _ _ => by rw [m_uf_ne (by omega)]⟩
          have g2'' : ∀ j, j < dp → m_uf ar1 117 (upd (ar1 117) (dp + 1) (nI x)) 116 j = nI (p j) := fun j hj => by rw [m_uf_ne (by omega)]; exact g2' j hj
          have g4'' : ∀ j, j ≤ dp → m_uf ar1 117 (upd (ar1 117) (dp + 1) (nI x)) 117 j = nI (st j) := fun j hj => by rw [m_uf_eq, upd, if_neg (by omega)]; exact g4' j hj
          have g4x : m_uf ar1 117 (upd (ar1 117) (dp + 1) (nI x)) 117 (dp + 1) = nI x := by rw [m_uf_eq, upd, if_pos rfl]
          have g5'' : x_B b (m_uf ar1 117 (upd (ar1 117) (dp + 1) (nI x))) := x_B_cg g5' (m_uf_ne (by omega)) (m_uf_ne (by omega))
          generalize m_uf ar1 117 (upd (ar1 117) (dp + 1) (nI x)) = ar2 at D3' hv' hfr' g2'' g4'' g4x g5'' ⊢
          simp (disch := omega) only [st_X7_findsWay_125, st_X7_findsWay_127, st_X7_findsWay_128, st_X7_findsWay_131, st_X7_findsWay_132, st_X7_findsWay_133, o_iload, o_aload, o_const, o_lconst, o_istore, o_astore, o_iinc, o_dup, o_dup2, o_pop, o_bin, o_div, o_un, o_mbin, o_mun, o_i2l, o_lcmp, o_ifeq, o_ifne, o_iflt, o_ifge, o_ifgt, o_ifle, o_icmpeq, o_icmpne, o_icmplt, o_icmpge, o_icmpgt, o_icmple, o_goto, o_getf, o_puti, o_putz, o_putr, o_iald, o_iast, o_zast, o_lald, o_last, o_aald, o_aast, o_alenO, o_new, o_newi, o_newl, o_newq, o_newqd, o_mna, o_copy, o_drop, o_cast, o_call, o_callx, o_callv, o_callvx, o_callh, o_sald, o_slen, o_switch, m_rcv, o_ireturn, o_zreturn, o_areturn, o_return, o_throw, o_null, o_dupx1, o_de, m_ent, List.getElem?_cons_zero, List.getElem?_cons_succ, List.getElem?_nil, List.set_cons_zero, List.set_cons_succ, List.length_cons, List.length_nil, List.map_cons, List.map_nil, List.replicate_succ, List.replicate_zero, List.take_succ_cons, List.take_zero, List.drop_succ_cons, List.drop_zero, List.reverse_cons, List.reverse_nil, List.cons_append, List.nil_append, List.append_nil, Option.toList_some, Option.toList_none, Nat.reduceAdd, Nat.reduceSub, Nat.reduceLeDiff, Nat.reduceLT, Nat.reduceEqDiff, Nat.le_refl, Nat.zero_le, Nat.zero_add, Nat.sub_zero, true_and, and_true, false_and, and_false, if_true, if_false, ite_true, ite_false, reduceIte, or_true, true_or, Option.isSome_some, not_true_eq_false, not_false_eq_true, forall_const, true_implies, false_implies, implies_true, ne_eq, m_gI_I, m_gJ_J, m_gQ_Q, m_gO_O, m_hp_94, m_fM_len, m_fM_0, m_fM_1, m_fM_2, m_fM_3, m_fM_4, m_fM_5, m_fM_6, m_fM_7, m_fM_8, m_fM_9, m_fM_10, m_fM_11, m_fM_12, m_fM_13, m_fM_14, m_fM_15, m_fM_16, m_fM_17, m_fM_18, m_fM_19, m_fM_20, m_fM_21, m_fM_22, m_fM_23, m_fM_24, m_fM_25, m_fM_26, m_fM_27, m_fM_28, m_fM_29, m_fM_30, m_fM_31, m_fM_32, m_fM_33, m_fM_34, m_fM_35, m_fM_s0, m_fM_s1, m_fM_s5, m_fM_s12, m_fM_s17, m_fM_s22, m_fM_s23, m_fM_s27, m_fM_s32, m_fM_s33, m_fM_s34, m_fM_s35, m_hp_100, v_in, v_cl, D3', hxg]
          refine ⟨fun y => ?_, fun y => ?_⟩
          · rw [if_pos y] at hps
            simp (disch := omega) only [st_X7_findsWay_136, st_X7_findsWay_137, st_X7_findsWay_138, st_X7_findsWay_139, st_X7_findsWay_140, st_X7_findsWay_141, st_X7_findsWay_142, o_iload, o_aload, o_const, o_lconst, o_istore, o_astore, o_iinc, o_dup, o_dup2, o_pop, o_bin, o_div, o_un, o_mbin, o_mun, o_i2l, o_lcmp, o_ifeq, o_ifne, o_iflt, o_ifge, o_ifgt, o_ifle, o_icmpeq, o_icmpne, o_icmplt, o_icmpge, o_icmpgt, o_icmple, o_goto, o_getf, o_puti, o_putz, o_putr, o_iald, o_iast, o_zast, o_lald, o_last, o_aald, o_aast, o_alenO, o_new, o_newi, o_newl, o_newq, o_newqd, o_mna, o_copy, o_drop, o_cast, o_call, o_callx, o_callv, o_callvx, o_callh, o_sald, o_slen, o_switch, m_rcv, o_ireturn, o_zreturn, o_areturn, o_return, o_throw, o_null, o_dupx1, o_de, m_ent, List.getElem?_cons_zero, List.getElem?_cons_succ, List.getElem?_nil, List.set_cons_zero, List.set_cons_succ, List.length_cons, List.length_nil, List.map_cons, List.map_nil, List.replicate_succ, List.replicate_zero, List.take_succ_cons, List.take_zero, List.drop_succ_cons, List.drop_zero, List.reverse_cons, List.reverse_nil, List.cons_append, List.nil_append, List.append_nil, Option.toList_some, Option.toList_none, Nat.reduceAdd, Nat.reduceSub, Nat.reduceLeDiff, Nat.reduceLT, Nat.reduceEqDiff, Nat.le_refl, Nat.zero_le, Nat.zero_add, Nat.sub_zero, true_and, and_true, false_and, and_false, if_true, if_false, ite_true, ite_false, reduceIte, or_true, true_or, Option.isSome_some, not_true_eq_false, not_false_eq_true, forall_const, true_implies, false_implies, implies_true, ne_eq, m_gI_I, m_gJ_J, m_gQ_Q, m_gO_O, m_hp_94, nI_1]
            have hl1 : l + f ≤ 20 := by omega
            have ht1 : t + cb c 5 ≤ 5000 := by omega
            obtain ⟨S', hEv, ar3, rfl, q1, q2, q3⟩ := e_mlooksAt d (n := n) (many := dp + 1) (p := m_uf p dp c) (l := l + f) (t := t + cb c 5) (b := b) (own := own) (ar := ar2) (rq := rq) (ou := ou) (dy := dy) hnc hnk hnd (x_C_fr hfr' hC) (x_K_fr hfr' hK) (x_D_fr hfr' hD) (x_F_fr hfr' hF) hf8 hi (by omega) (fun j hj => by
              by_cases e : j = dp
              · subst e
                rw [m_uf_eq]
                exact ⟨hv', hcn, by rw [hfc]; exact fun z => by cases z⟩
              · rw [m_uf_ne e]
                exact ⟨g2'' j (by omega), (H5.2.1 j (by omega)).1, H8 j (by omega)⟩) (by rw [n_sum_u (F := fun q => (n_mo kb nk fr own (db i 0) (db i 3) q).getD 0), ← H9, hfc]; rfl) (by rw [n_sum_u (F := fun q => cb q 5), ← H10]) hl1 ht1 g5'' hok
            refine ⟨_, _, hEv, ?_⟩
            simp (disch := omega) only [st_X7_findsWay_145, st_X7_findsWay_158, o_iload, o_aload, o_const, o_lconst, o_istore, o_astore, o_iinc, o_dup, o_dup2, o_pop, o_bin, o_div, o_un, o_mbin, o_mun, o_i2l, o_lcmp, o_ifeq, o_ifne, o_iflt, o_ifge, o_ifgt, o_ifle, o_icmpeq, o_icmpne, o_icmplt, o_icmpge, o_icmpgt, o_icmple, o_goto, o_getf, o_puti, o_putz, o_putr, o_iald, o_iast, o_zast, o_lald, o_last, o_aald, o_aast, o_alenO, o_new, o_newi, o_newl, o_newq, o_newqd, o_mna, o_copy, o_drop, o_cast, o_call, o_callx, o_callv, o_callvx, o_callh, o_sald, o_slen, o_switch, m_rcv, o_ireturn, o_zreturn, o_areturn, o_return, o_throw, o_null, o_dupx1, o_de, m_ent, List.getElem?_cons_zero, List.getElem?_cons_succ, List.getElem?_nil, List.set_cons_zero, List.set_cons_succ, List.length_cons, List.length_nil, List.map_cons, List.map_nil, List.replicate_succ, List.replicate_zero, List.take_succ_cons, List.take_zero, List.drop_succ_cons, List.drop_zero, List.reverse_cons, List.reverse_nil, List.cons_append, List.nil_append, List.append_nil, Option.toList_some, Option.toList_none, Nat.reduceAdd, Nat.reduceSub, Nat.reduceLeDiff, Nat.reduceLT, Nat.reduceEqDiff, Nat.le_refl, Nat.zero_le, Nat.zero_add, Nat.sub_zero, true_and, and_true, false_and, and_false, if_true, if_false, ite_true, ite_false, reduceIte, or_true, true_or, Option.isSome_some, not_true_eq_false, not_false_eq_true, forall_const, true_implies, false_implies, implies_true, ne_eq, m_gI_I, m_gJ_J, m_gQ_Q, m_gO_O]
            refine next _ ar3 _ hps (p_look_ok hok (by omega) (by omega) (fun j hj => (hw2.2.1 j hj).1) hw2.2.2 hl1 ht1) ⟨x_fr_trans hfr' ⟨fun x a1 a2 a3 a4 => q2 x a1 a4, q3⟩, fun j hj => ?_, ?_, fun j hj => ?_, q1⟩
            · rw [q2 116 (by omega) (by omega)]; exact g2'' j hj
            · rw [q2 116 (by omega) (by omega)]; exact hv'
            · rw [q2 117 (by omega) (by omega)]; exact g4'' j hj
          · rw [if_neg y] at hps
            simp (disch := omega) only [st_X7_findsWay_148, st_X7_findsWay_151, st_X7_findsWay_152, st_X7_findsWay_155, st_X7_findsWay_156, st_X7_findsWay_157, st_X7_findsWay_158, o_iload, o_aload, o_const, o_lconst, o_istore, o_astore, o_iinc, o_dup, o_dup2, o_pop, o_bin, o_div, o_un, o_mbin, o_mun, o_i2l, o_lcmp, o_ifeq, o_ifne, o_iflt, o_ifge, o_ifgt, o_ifle, o_icmpeq, o_icmpne, o_icmplt, o_icmpge, o_icmpgt, o_icmple, o_goto, o_getf, o_puti, o_putz, o_putr, o_iald, o_iast, o_zast, o_lald, o_last, o_aald, o_aast, o_alenO, o_new, o_newi, o_newl, o_newq, o_newqd, o_mna, o_copy, o_drop, o_cast, o_call, o_callx, o_callv, o_callvx, o_callh, o_sald, o_slen, o_switch, m_rcv, o_ireturn, o_zreturn, o_areturn, o_return, o_throw, o_null, o_dupx1, o_de, m_ent, List.getElem?_cons_zero, List.getElem?_cons_succ, List.getElem?_nil, List.set_cons_zero, List.set_cons_succ, List.length_cons, List.length_nil, List.map_cons, List.map_nil, List.replicate_succ, List.replicate_zero, List.take_succ_cons, List.take_zero, List.drop_succ_cons, List.drop_zero, List.reverse_cons, List.reverse_nil, List.cons_append, List.nil_append, List.append_nil, Option.toList_some, Option.toList_none, Nat.reduceAdd, Nat.reduceSub, Nat.reduceLeDiff, Nat.reduceLT, Nat.reduceEqDiff, Nat.le_refl, Nat.zero_le, Nat.zero_add, Nat.sub_zero, true_and, and_true, false_and, and_false, if_true, if_false, ite_true, ite_false, reduceIte, or_true, true_or, Option.isSome_some, not_true_eq_false, not_false_eq_true, forall_const, true_implies, false_implies, implies_true, ne_eq, m_gI_I, m_gJ_J, m_gQ_Q, m_gO_O, m_hp_94, m_fM_len, m_fM_0, m_fM_1, m_fM_2, m_fM_3, m_fM_4, m_fM_5, m_fM_6, m_fM_7, m_fM_8, m_fM_9, m_fM_10, m_fM_11, m_fM_12, m_fM_13, m_fM_14, m_fM_15, m_fM_16, m_fM_17, m_fM_18, m_fM_19, m_fM_20, m_fM_21, m_fM_22, m_fM_23, m_fM_24, m_fM_25, m_fM_26, m_fM_27, m_fM_28, m_fM_29, m_fM_30, m_fM_31, m_fM_32, m_fM_33, m_fM_34, m_fM_35, m_fM_s0, m_fM_s1, m_fM_s5, m_fM_s12, m_fM_s17, m_fM_s22, m_fM_s23, m_fM_s27, m_fM_s32, m_fM_s33, m_fM_s34, m_fM_s35, m_hp_116, m_up_116, v_in, v_cl, nI_1]
            refine Hgo c x f b _ _ hcn hac hs hfc y hok ⟨x_fr_trans hfr' ⟨fun x a1 a2 a3 a4 => m_uf_ne a2, fun k _ _ _ => by rw [m_uf_ne (by omega)]⟩, fun j hj => ?_, ?_, fun j hj => ?_, x_B_cg g5'' (m_uf_ne (by omega)) (m_uf_ne (by omega))⟩ (fun ar' x4 o1 G => next _ ar' x4 hps o1 G)
            · rw [m_uf_eq, upd, if_neg (by omega)]
              by_cases e : j = dp
              · subst e
                rw [m_uf_eq]
                exact hv'
              · rw [m_uf_ne e]
                exact g2'' j (by omega)
            · rw [m_uf_eq, upd, if_pos rfl]
            · rw [m_uf_ne (by omega)]
              by_cases e : j = dp + 1
              · rw [e, m_uf_eq]
                exact g4x
              · rw [m_uf_ne e]
                exact g4'' j (by omega)
      · have hv1 : ∃ j, 0 ≤ j ∧ j < 0 + (dp + 1) ∧ st j = x := by
          obtain ⟨j, a1, a2⟩ := hvis.mp (n_bit_01.mp hs)
          exact ⟨j, Nat.zero_le j, by omega, a2⟩
        rw [hld.1 hv1]
        simp (disch := omega) only [st_X7_findsWay_80, st_X7_findsWay_82, st_X7_findsWay_84, st_X7_findsWay_85, st_X7_findsWay_158, o_iload, o_aload, o_const, o_lconst, o_istore, o_astore, o_iinc, o_dup, o_dup2, o_pop, o_bin, o_div, o_un, o_mbin, o_mun, o_i2l, o_lcmp, o_ifeq, o_ifne, o_iflt, o_ifge, o_ifgt, o_ifle, o_icmpeq, o_icmpne, o_icmplt, o_icmpge, o_icmpgt, o_icmple, o_goto, o_getf, o_puti, o_putz, o_putr, o_iald, o_iast, o_zast, o_lald, o_last, o_aald, o_aast, o_alenO, o_new, o_newi, o_newl, o_newq, o_newqd, o_mna, o_copy, o_drop, o_cast, o_call, o_callx, o_callv, o_callvx, o_callh, o_sald, o_slen, o_switch, m_rcv, o_ireturn, o_zreturn, o_areturn, o_return, o_throw, o_null, o_dupx1, o_de, m_ent, List.getElem?_cons_zero, List.getElem?_cons_succ, List.getElem?_nil, List.set_cons_zero, List.set_cons_succ, List.length_cons, List.length_nil, List.map_cons, List.map_nil, List.replicate_succ, List.replicate_zero, List.take_succ_cons, List.take_zero, List.drop_succ_cons, List.drop_zero, List.reverse_cons, List.reverse_nil, List.cons_append, List.nil_append, List.append_nil, Option.toList_some, Option.toList_none, Nat.reduceAdd, Nat.reduceSub, Nat.reduceLeDiff, Nat.reduceLT, Nat.reduceEqDiff, Nat.le_refl, Nat.zero_le, Nat.zero_add, Nat.sub_zero, true_and, and_true, false_and, and_false, if_true, if_false, ite_true, ite_false, reduceIte, or_true, true_or, Option.isSome_some, not_true_eq_false, not_false_eq_true, forall_const, true_implies, false_implies, implies_true, ne_eq, m_gI_I, m_gJ_J, m_gQ_Q, m_gO_O, hm1]
        refine stay _ ?_
        unfold p_st
        split
        · rename_i h9 h10
          cases h10
          exact if_neg hs
        · rfl
theorem lp_fw {d n nc nk nd i g : Nat} {own : Bool} {kb cb db fr : Nat → Nat → Nat} {r : m_R → m_S → Prop} {bd : Nat × Nat} {ar0 : Nat → Nat → Int32} {rq : Nat → Nat → Option Nat} {ou : Nat → Int64} {dy : Nat → m_C} (hnc : nc ≤ 10) (hnk : nk ≤ 16) (hnd : nd ≤ 10) (hC : x_C nc cb ar0) (hK : x_K nk kb ar0) (hD : x_D nd db ar0) (hF : x_F nc fr ar0) (hf8 : ∀ c, c < nc → ∀ j, j < 6 → fr c j ≤ 100) (hi : i < nd) (hg : g = db i 2) :
    ∀ (k dp h s l t : Nat) (p st : Nat → Nat), dp + k = 4 → x_nd nc (fun c => cb c 0) (fun c => cb c 1) (n_mo kb nk fr own (db i 0) (db i 3)) (fun c => cb c 5) g dp h s p st l t → ∀ (b : n_P) (ar : Nat → Nat → Int32) (x4 : Option Value), p_ok nc b → x_go ar0 ar dp p st (-1) b →
      (∀ (ar' : Nat → Nat → Int32) (x4 : Option Value), p_ok nc (p_fw nc (fun c => cb c 0) (fun c => cb c 1) (fun c => cb c 5) (n_mo kb nk fr own (db i 0) (db i 3)) g (k + 1) dp h s p l t b) → x_go ar0 ar' dp p st (nI nc) (p_fw nc (fun c => cb c 0) (fun c => cb c 1) (fun c => cb c 5) (n_mo kb nk fr own (db i 0) (db i 3)) g (k + 1) dp h s p l t b) → m_W1 (m_lk cd_X7_findsWay) (m_Ev m_cds m_my (d + 3)) r 36 [some (.ref 94), some (.int (nI i)), some (.int (n_b own)), some (.int (nI dp + (-1))), x4] [] bd (n, m_hp ar' rq ou dy)) →
      m_W1 (m_lk cd_X7_findsWay) (m_Ev m_cds m_my (d + 3)) r 36 [some (.ref 94), some (.int (nI i)), some (.int (n_b own)), some (.int (nI dp)), x4] [] bd (n, m_hp ar rq ou dy) := by
  have e1 : (-1 : Int32) = nI 0 - 1 := by decide
  intro k
  induction k with
  | zero =>
    intro dp h s l t p st hd H b ar x4 hok G hE
    rw [e1] at G
    refine lp_fwi (k := 0) hnc hnk hnd hC hK hD hF hf8 hi hg hd H (fun c x f b ar x4 hc hac hs hf hxg _ _ _ => ?_) nc 0 (by omega) b ar x4 hok G hE
    exfalso
    have hx6 := n_ac_lt (hC.2 c hc).2.2.1 (hC.2 c hc).2.2.2.1 hac
    have hg6 : g < 6 := by rw [hg]; exact (hD.2 i hi).2.2.2.2.2.2.1
    have h1 := n_pop_le H.2.1 hx6 hg6 hs H.2.2.2.1 hxg
    have h2 := H.2.2.1
    omega
  | succ k ih =>
    intro dp h s l t p st hd H b ar x4 hok G hE
    rw [e1] at G
    refine lp_fwi (k := k + 1) hnc hnk hnd hC hK hD hF hf8 hi hg hd H (fun c x f b ar x4 hc hac hs hf hxg hok G hE => ?_) nc 0 (by omega) b ar x4 hok G hE
    have hf4 : f ≤ 4 := by
      have hd8 := (hD.2 i hi).2.2.2.2.2.2.2.1
      unfold n_mo at hf
      split at hf
      · cases hf
      · cases hf; omega
    have H2 := x_nd_s H hc hac (hC.2 c hc).2.2.1 (hC.2 c hc).2.2.2.1 hs hf hf4 (x_C_5 hC hc) hxg
    refine ih (dp + 1) x (s ||| 2 ^ x) (l + f) (t + cb c 5) (m_uf p dp c) (m_uf st (dp + 1) x) (by omega) H2 b ar x4 hok G (fun ar' x4 o1 ⟨q1, q2, q3, q4, q5⟩ => ?_)
    rw [nI_dn]
    refine hE ar' x4 o1 ⟨q1, fun j hj => ?_, ?_, fun j hj => ?_, q5⟩
    · rw [q2 j (by omega), m_uf_ne (by omega)]
    · rw [q2 dp (by omega), m_uf_eq]
    · rw [q4 j (by omega), m_uf_ne (by omega)]
def n_is (b : n_P) : Bool := match b with
  | none => false
  | some _ => true
theorem n_2pop {h : Nat} (hh : h < 6) : n_pop (2 ^ h) = 1 := m_fin (p := fun h => n_pop (2 ^ h) = 1) (n := 6) (by decide +kernel) h hh
theorem n_2bit {h x : Nat} : 2 ^ h / 2 ^ x % 2 = 1 ↔ x = h := by
  have := n_bit_or (s := 0) (x := h) (y := x)
  rw [Nat.zero_or] at this
  rw [this, Nat.zero_div]
  exact ⟨fun z => z.elim (fun z => absurd z (by decide)) id, Or.inr⟩
theorem e_mfindsWay (d : Nat) {n nc nk nd i : Nat} {own : Bool} {kb cb db fr : Nat → Nat → Nat} {ar : Nat → Nat → Int32} {rq : Nat → Nat → Option Nat} {ou : Nat → Int64} {dy : Nat → m_C} (hnc : nc ≤ 10) (hnk : nk ≤ 16) (hnd : nd ≤ 10) (hC : x_C nc cb ar) (hK : x_K nk kb ar) (hD : x_D nd db ar) (hF : x_F nc fr ar) (hf8 : ∀ c, c < nc → ∀ j, j < 6 → fr c j ≤ 100) (hi : i < nd) :
    ∃ v S', m_Ev m_cds m_my (d + 4) 86 [.ref 94, .int (nI i), .int (n_b own)] (n, m_hp ar rq ou dy) (.inl v) S' ∧ v = some (.int (n_b (n_is (p_fw nc (fun c => cb c 0) (fun c => cb c 1) (fun c => cb c 5) (n_mo kb nk fr own (db i 0) (db i 3)) (db i 2) 5 0 (db i 1) (2 ^ db i 1) (fun _ => 0) 0 0 none)))) ∧ ∃ ar' : Nat → Nat → Int32, S' = (n, m_hp ar' rq ou dy) ∧ x_fr ar ar' ∧ x_B (p_fw nc (fun c => cb c 0) (fun c => cb c 1) (fun c => cb c 5) (n_mo kb nk fr own (db i 0) (db i 3)) (db i 2) 5 0 (db i 1) (2 ^ db i 1) (fun _ => 0) 0 0 none) ar' ∧ p_ok nc (p_fw nc (fun c => cb c 0) (fun c => cb c 1) (fun c => cb c 5) (n_mo kb nk fr own (db i 0) (db i 3)) (db i 2) 5 0 (db i 1) (2 ^ db i 1) (fun _ => 0) 0 0 none) := by
  refine m_goE my_X7_findsWay cs_X7_findsWay mm_X7_findsWay xm_X7_findsWay (Nat.le_of_ble_eq_true rfl) rfl ?_
  obtain ⟨D1, D2, D3, D4, D5, D6, D7, D8, D9⟩ := hD.2 i hi
  have hi10 : i < 10 := by omega
  have h08 : (0 : Nat) < 8 := by omega
  simp (disch := omega) only [mt_X7_findsWay, st_X7_findsWay_0, st_X7_findsWay_1, st_X7_findsWay_2, st_X7_findsWay_5, st_X7_findsWay_6, st_X7_findsWay_7, st_X7_findsWay_10, st_X7_findsWay_11, st_X7_findsWay_12, st_X7_findsWay_15, st_X7_findsWay_16, st_X7_findsWay_19, st_X7_findsWay_20, st_X7_findsWay_21, st_X7_findsWay_24, st_X7_findsWay_25, o_iload, o_aload, o_const, o_lconst, o_istore, o_astore, o_iinc, o_dup, o_dup2, o_pop, o_bin, o_div, o_un, o_mbin, o_mun, o_i2l, o_lcmp, o_ifeq, o_ifne, o_iflt, o_ifge, o_ifgt, o_ifle, o_icmpeq, o_icmpne, o_icmplt, o_icmpge, o_icmpgt, o_icmple, o_goto, o_getf, o_puti, o_putz, o_putr, o_iald, o_iast, o_zast, o_lald, o_last, o_aald, o_aast, o_alenO, o_new, o_newi, o_newl, o_newq, o_newqd, o_mna, o_copy, o_drop, o_cast, o_call, o_callx, o_callv, o_callvx, o_callh, o_sald, o_slen, o_switch, m_rcv, o_ireturn, o_zreturn, o_areturn, o_return, o_throw, o_null, o_dupx1, o_de, m_ent, List.getElem?_cons_zero, List.getElem?_cons_succ, List.getElem?_nil, List.set_cons_zero, List.set_cons_succ, List.length_cons, List.length_nil, List.map_cons, List.map_nil, List.replicate_succ, List.replicate_zero, List.take_succ_cons, List.take_zero, List.drop_succ_cons, List.drop_zero, List.reverse_cons, List.reverse_nil, List.cons_append, List.nil_append, List.append_nil, Option.toList_some, Option.toList_none, Nat.reduceAdd, Nat.reduceSub, Nat.reduceLeDiff, Nat.reduceLT, Nat.reduceEqDiff, Nat.le_refl, Nat.zero_le, Nat.zero_add, Nat.sub_zero, true_and, and_true, false_and, and_false, if_true, if_false, ite_true, ite_false, reduceIte, or_true, true_or, Option.isSome_some, not_true_eq_false, not_false_eq_true, forall_const, true_implies, false_implies, implies_true, ne_eq, m_gI_I, m_gJ_J, m_gQ_Q, m_gO_O, m_hp_94, m_up_94, m_fM_len, m_fM_0, m_fM_1, m_fM_2, m_fM_3, m_fM_4, m_fM_5, m_fM_6, m_fM_7, m_fM_8, m_fM_9, m_fM_10, m_fM_11, m_fM_12, m_fM_13, m_fM_14, m_fM_15, m_fM_16, m_fM_17, m_fM_18, m_fM_19, m_fM_20, m_fM_21, m_fM_22, m_fM_23, m_fM_24, m_fM_25, m_fM_26, m_fM_27, m_fM_28, m_fM_29, m_fM_30, m_fM_31, m_fM_32, m_fM_33, m_fM_34, m_fM_35, m_fM_s0, m_fM_s1, m_fM_s5, m_fM_s12, m_fM_s17, m_fM_s22, m_fM_s23, m_fM_s27, m_fM_s32, m_fM_s33, m_fM_s34, m_fM_s35, m_hp_117, m_hp_99, v_in, v_cl, m_uf_eq, m_uf_uu, m_uf_ne, D2]
  rw [v_0]
  simp (disch := omega) only [st_X7_findsWay_26, st_X7_findsWay_27, st_X7_findsWay_28, st_X7_findsWay_31, st_X7_findsWay_32, st_X7_findsWay_33, st_X7_findsWay_34, st_X7_findsWay_35, o_iload, o_aload, o_const, o_lconst, o_istore, o_astore, o_iinc, o_dup, o_dup2, o_pop, o_bin, o_div, o_un, o_mbin, o_mun, o_i2l, o_lcmp, o_ifeq, o_ifne, o_iflt, o_ifge, o_ifgt, o_ifle, o_icmpeq, o_icmpne, o_icmplt, o_icmpge, o_icmpgt, o_icmple, o_goto, o_getf, o_puti, o_putz, o_putr, o_iald, o_iast, o_zast, o_lald, o_last, o_aald, o_aast, o_alenO, o_new, o_newi, o_newl, o_newq, o_newqd, o_mna, o_copy, o_drop, o_cast, o_call, o_callx, o_callv, o_callvx, o_callh, o_sald, o_slen, o_switch, m_rcv, o_ireturn, o_zreturn, o_areturn, o_return, o_throw, o_null, o_dupx1, o_de, m_ent, List.getElem?_cons_zero, List.getElem?_cons_succ, List.getElem?_nil, List.set_cons_zero, List.set_cons_succ, List.length_cons, List.length_nil, List.map_cons, List.map_nil, List.replicate_succ, List.replicate_zero, List.take_succ_cons, List.take_zero, List.drop_succ_cons, List.drop_zero, List.reverse_cons, List.reverse_nil, List.cons_append, List.nil_append, List.append_nil, Option.toList_some, Option.toList_none, Nat.reduceAdd, Nat.reduceSub, Nat.reduceLeDiff, Nat.reduceLT, Nat.reduceEqDiff, Nat.le_refl, Nat.zero_le, Nat.zero_add, Nat.sub_zero, true_and, and_true, false_and, and_false, if_true, if_false, ite_true, ite_false, reduceIte, or_true, true_or, Option.isSome_some, not_true_eq_false, not_false_eq_true, forall_const, true_implies, false_implies, implies_true, ne_eq, m_gI_I, m_gJ_J, m_gQ_Q, m_gO_O, m_hp_94, m_up_94, m_fM_len, m_fM_0, m_fM_1, m_fM_2, m_fM_3, m_fM_4, m_fM_5, m_fM_6, m_fM_7, m_fM_8, m_fM_9, m_fM_10, m_fM_11, m_fM_12, m_fM_13, m_fM_14, m_fM_15, m_fM_16, m_fM_17, m_fM_18, m_fM_19, m_fM_20, m_fM_21, m_fM_22, m_fM_23, m_fM_24, m_fM_25, m_fM_26, m_fM_27, m_fM_28, m_fM_29, m_fM_30, m_fM_31, m_fM_32, m_fM_33, m_fM_34, m_fM_35, m_fM_s0, m_fM_s1, m_fM_s5, m_fM_s12, m_fM_s17, m_fM_s22, m_fM_s23, m_fM_s27, m_fM_s32, m_fM_s33, m_fM_s34, m_fM_s35, m_hp_117, m_up_117, m_hp_116, m_up_116, v_in, v_cl, v_c0, m_uf_eq, m_uf_uu, m_uf_ne]
  rw [v_0]
  refine ⟨vp_in_nI (by omega) (by omega), ?_⟩
  refine lp_fw (own := own) (ar0 := ar) hnc hnk hnd hC hK hD hF hf8 hi rfl 4 0 (db i 1) (2 ^ db i 1) 0 0 (fun _ => 0) (fun _ => db i 1) rfl ⟨rfl, Nat.pow_lt_pow_right (n := 6) (m := db i 1) (a := 2) (by omega) D6, n_2pop D6, ?_, ⟨n_2bit.mpr rfl, fun j hj => absurd hj (Nat.not_lt_zero j), fun j j2 _ hj => absurd hj (Nat.not_lt_zero j2)⟩, fun j _ => D6, fun x hx => ?_, fun j hj => absurd hj (Nat.not_lt_zero j), rfl, rfl, Nat.le_refl _, Nat.le_refl _⟩ none _ none trivial ⟨⟨fun x a1 a2 a3 a4 => by rw [m_uf_ne a2, m_uf_ne a3, m_uf_ne a1], fun k a1 a2 a3 => ?_⟩, fun j hj => absurd hj (Nat.not_lt_zero j), ?_, fun j hj => ?_, ?_⟩ (fun ar' x4 o1 ⟨q1, q2, q3, q4, q5⟩ => ?_)
  · have h1 : ¬ 2 ^ db i 1 / 2 ^ db i 2 % 2 = 1 := fun z => D9 (n_2bit.mp z).symm
    omega
  · rw [n_2bit]
    exact ⟨fun z => ⟨0, Nat.le_refl _, z.symm⟩, fun ⟨_, _, z⟩ => z.symm⟩
  · rw [m_uf_ne (by omega), m_uf_ne (by omega), m_uf_eq, m_uf_ne a3, m_uf_ne a2, m_uf_ne a1]
  · rw [m_uf_eq, upd, if_pos rfl]
  · have e : j = 0 := by omega
    subst e
    rw [m_uf_ne (by omega), m_uf_eq, upd, if_pos rfl]
  · show (m_uf (_ : Nat → Nat → Int32) _ _) 94 32 = 0
    rw [m_uf_ne (by omega), m_uf_ne (by omega), m_uf_eq, m_uf_ne (by omega), m_uf_ne (by omega), m_uf_eq]
    rfl
  · generalize p_fw nc (fun c => cb c 0) (fun c => cb c 1) (fun c => cb c 5) (n_mo kb nk fr own (db i 0) (db i 3)) (db i 2) 5 0 (db i 1) (2 ^ db i 1) (fun _ => 0) 0 0 none = res at o1 q5 ⊢
    have hneg : (nI 0 + (-1) : Int32) < 0 := by decide
    cases res with
    | none =>
      have h32 : ar' 94 32 = 0 := q5
      have h00 : ¬ (0 : Int32) < 0 := by decide
      simp (disch := omega) only [st_X7_findsWay_36, st_X7_findsWay_37, st_X7_findsWay_161, st_X7_findsWay_162, st_X7_findsWay_165, st_X7_findsWay_168, st_X7_findsWay_169, st_X7_findsWay_172, st_X7_findsWay_173, o_iload, o_aload, o_const, o_lconst, o_istore, o_astore, o_iinc, o_dup, o_dup2, o_pop, o_bin, o_div, o_un, o_mbin, o_mun, o_i2l, o_lcmp, o_ifeq, o_ifne, o_iflt, o_ifge, o_ifgt, o_ifle, o_icmpeq, o_icmpne, o_icmplt, o_icmpge, o_icmpgt, o_icmple, o_goto, o_getf, o_puti, o_putz, o_putr, o_iald, o_iast, o_zast, o_lald, o_last, o_aald, o_aast, o_alenO, o_new, o_newi, o_newl, o_newq, o_newqd, o_mna, o_copy, o_drop, o_cast, o_call, o_callx, o_callv, o_callvx, o_callh, o_sald, o_slen, o_switch, m_rcv, o_ireturn, o_zreturn, o_areturn, o_return, o_throw, o_null, o_dupx1, o_de, m_ent, List.getElem?_cons_zero, List.getElem?_cons_succ, List.getElem?_nil, List.set_cons_zero, List.set_cons_succ, List.length_cons, List.length_nil, List.map_cons, List.map_nil, List.replicate_succ, List.replicate_zero, List.take_succ_cons, List.take_zero, List.drop_succ_cons, List.drop_zero, List.reverse_cons, List.reverse_nil, List.cons_append, List.nil_append, List.append_nil, Option.toList_some, Option.toList_none, Nat.reduceAdd, Nat.reduceSub, Nat.reduceLeDiff, Nat.reduceLT, Nat.reduceEqDiff, Nat.le_refl, Nat.zero_le, Nat.zero_add, Nat.sub_zero, true_and, and_true, false_and, and_false, if_true, if_false, ite_true, ite_false, reduceIte, or_true, true_or, Option.isSome_some, not_true_eq_false, not_false_eq_true, forall_const, true_implies, false_implies, implies_true, ne_eq, m_gI_I, m_gJ_J, m_gQ_Q, m_gO_O, m_hp_94, m_fM_len, m_fM_0, m_fM_1, m_fM_2, m_fM_3, m_fM_4, m_fM_5, m_fM_6, m_fM_7, m_fM_8, m_fM_9, m_fM_10, m_fM_11, m_fM_12, m_fM_13, m_fM_14, m_fM_15, m_fM_16, m_fM_17, m_fM_18, m_fM_19, m_fM_20, m_fM_21, m_fM_22, m_fM_23, m_fM_24, m_fM_25, m_fM_26, m_fM_27, m_fM_28, m_fM_29, m_fM_30, m_fM_31, m_fM_32, m_fM_33, m_fM_34, m_fM_35, m_fM_s0, m_fM_s1, m_fM_s5, m_fM_s12, m_fM_s17, m_fM_s22, m_fM_s23, m_fM_s27, m_fM_s32, m_fM_s33, m_fM_s34, m_fM_s35, hneg, h32, h00]
      exact ⟨_, rfl, rfl, ar', rfl, q1, q5, o1⟩
    | some q =>
      have h32 : ar' 94 32 = nI q.1 := q5.1
      have h00 : (0 : Int32) < nI q.1 := nI_lt (a := 0) (by have := o1.1; omega) (by have := o1.2.1; omega)
      simp (disch := omega) only [st_X7_findsWay_36, st_X7_findsWay_37, st_X7_findsWay_161, st_X7_findsWay_162, st_X7_findsWay_165, st_X7_findsWay_168, st_X7_findsWay_169, st_X7_findsWay_172, st_X7_findsWay_173, o_iload, o_aload, o_const, o_lconst, o_istore, o_astore, o_iinc, o_dup, o_dup2, o_pop, o_bin, o_div, o_un, o_mbin, o_mun, o_i2l, o_lcmp, o_ifeq, o_ifne, o_iflt, o_ifge, o_ifgt, o_ifle, o_icmpeq, o_icmpne, o_icmplt, o_icmpge, o_icmpgt, o_icmple, o_goto, o_getf, o_puti, o_putz, o_putr, o_iald, o_iast, o_zast, o_lald, o_last, o_aald, o_aast, o_alenO, o_new, o_newi, o_newl, o_newq, o_newqd, o_mna, o_copy, o_drop, o_cast, o_call, o_callx, o_callv, o_callvx, o_callh, o_sald, o_slen, o_switch, m_rcv, o_ireturn, o_zreturn, o_areturn, o_return, o_throw, o_null, o_dupx1, o_de, m_ent, List.getElem?_cons_zero, List.getElem?_cons_succ, List.getElem?_nil, List.set_cons_zero, List.set_cons_succ, List.length_cons, List.length_nil, List.map_cons, List.map_nil, List.replicate_succ, List.replicate_zero, List.take_succ_cons, List.take_zero, List.drop_succ_cons, List.drop_zero, List.reverse_cons, List.reverse_nil, List.cons_append, List.nil_append, List.append_nil, Option.toList_some, Option.toList_none, Nat.reduceAdd, Nat.reduceSub, Nat.reduceLeDiff, Nat.reduceLT, Nat.reduceEqDiff, Nat.le_refl, Nat.zero_le, Nat.zero_add, Nat.sub_zero, true_and, and_true, false_and, and_false, if_true, if_false, ite_true, ite_false, reduceIte, or_true, true_or, Option.isSome_some, not_true_eq_false, not_false_eq_true, forall_const, true_implies, false_implies, implies_true, ne_eq, m_gI_I, m_gJ_J, m_gQ_Q, m_gO_O, m_hp_94, m_fM_len, m_fM_0, m_fM_1, m_fM_2, m_fM_3, m_fM_4, m_fM_5, m_fM_6, m_fM_7, m_fM_8, m_fM_9, m_fM_10, m_fM_11, m_fM_12, m_fM_13, m_fM_14, m_fM_15, m_fM_16, m_fM_17, m_fM_18, m_fM_19, m_fM_20, m_fM_21, m_fM_22, m_fM_23, m_fM_24, m_fM_25, m_fM_26, m_fM_27, m_fM_28, m_fM_29, m_fM_30, m_fM_31, m_fM_32, m_fM_33, m_fM_34, m_fM_35, m_fM_s0, m_fM_s1, m_fM_s5, m_fM_s12, m_fM_s17, m_fM_s22, m_fM_s23, m_fM_s27, m_fM_s32, m_fM_s33, m_fM_s34, m_fM_s35, hneg, h32, h00]
      exact ⟨_, rfl, rfl, ar', rfl, q1, q5, o1⟩
