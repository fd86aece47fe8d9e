/-! the model: leadsAll -/
theorem n_mk_bit {p : Nat → Nat} {c : Nat} : ∀ {k : Nat}, n_bt (n_mk p k) c = 1 ↔ ∃ i, i < k ∧ p i = c := by
  intro k
  induction k with
  | zero =>
    refine ⟨fun z => ?_, fun ⟨i, h, _⟩ => absurd h (Nat.not_lt_zero i)⟩
    have e : n_bt (n_mk p 0) c = 0 := by show 0 / 2 ^ c % 2 = 0; rw [Nat.zero_div]
    rw [e] at z
    cases z
  | succ k ih =>
    show (n_mk p k ||| 2 ^ p k) / 2 ^ c % 2 = 1 ↔ _
    rw [n_bit_or]
    have ih' : n_mk p k / 2 ^ c % 2 = 1 ↔ ∃ i, i < k ∧ p i = c := ih
    rw [ih']
    constructor
    · rintro (⟨i, h1, h2⟩ | h)
      · exact ⟨i, by omega, h2⟩
      · exact ⟨k, by omega, h.symm⟩
    · rintro ⟨i, h1, h2⟩
      by_cases e : i = k
      · subst e
        exact Or.inr h2.symm
      · exact Or.inl ⟨i, by omega, h2⟩
theorem n_mk_lt {p : Nat → Nat} : ∀ {k : Nat}, (∀ i, i < k → p i < 10) → n_mk p k < 1024 := by
  intro k
  induction k with
  | zero => intro _; show 0 < 1024; omega
  | succ k ih =>
    intro h
    exact n_or_lt (n := 10) (ih (fun i hi => h i (by omega))) (h k (by omega))
theorem n_sum_one {f : Nat → Nat} {a v : Nat} : ∀ {k : Nat}, f a = 0 → n_sum (fun c => if c = a then v else f c) k = n_sum f k + if a < k then v else 0 := by
  intro k
  induction k with
  | zero => intro _; rw [if_neg (Nat.not_lt_zero a)]; rfl
  | succ k ih =>
    intro h
    show n_sum (fun c => if c = a then v else f c) k + (if k = a then v else f k) = n_sum f k + f k + if a < k + 1 then v else 0
    rw [ih h]
    by_cases e : k = a
    · subst e
      rw [if_pos rfl, if_neg (Nat.lt_irrefl k), if_pos (by omega), h]
    · rw [if_neg e]
      by_cases e2 : a < k
      · rw [if_pos e2, if_pos (by omega)]; omega
      · rw [if_neg e2, if_neg (by omega)]; omega
theorem n_sum_mk {p G : Nat → Nat} {nc : Nat} : ∀ {k : Nat}, (∀ i, i < k → p i < nc) → (∀ i j, i < j → j < k → p i ≠ p j) → n_sum (fun i => G (p i)) k = n_sum (fun c => if n_bt (n_mk p k) c = 1 then G c else 0) nc := by
  intro k
  induction k with
  | zero =>
    intro _ _
    have h0 : ∀ m : Nat, n_sum (fun c => if n_bt (n_mk p 0) c = 1 then G c else 0) m = 0 := by
      intro m
      induction m with
      | zero => rfl
      | succ m ih =>
        have e : ¬ n_bt (n_mk p 0) m = 1 := fun z => by obtain ⟨i, h, _⟩ := n_mk_bit.mp z; exact absurd h (Nat.not_lt_zero i)
        show n_sum (fun c => if n_bt (n_mk p 0) c = 1 then G c else 0) m + (if n_bt (n_mk p 0) m = 1 then G m else 0) = 0
        rw [ih, if_neg e]
    exact (h0 nc).symm
  | succ k ih =>
    intro h1 h2
    show n_sum (fun i => G (p i)) k + G (p k) = _
    rw [ih (fun i hi => h1 i (by omega)) (fun i j a b => h2 i j a (by omega))]
    have hk : ¬ n_bt (n_mk p k) (p k) = 1 := fun z => by
      obtain ⟨i, a, b⟩ := n_mk_bit.mp z
      exact h2 i k a (by omega) b
    have e := n_sum_one (f := fun c => if n_bt (n_mk p k) c = 1 then G c else 0) (a := p k) (v := G (p k)) (k := nc) (if_neg hk)
    rw [if_pos (h1 k (by omega))] at e
    rw [← e]
    refine n_sum_cg (fun c hc => ?_)
    show (if c = p k then G (p k) else if n_bt (n_mk p k) c = 1 then G c else 0) = if n_bt (n_mk p (k + 1)) c = 1 then G c else 0
    by_cases e1 : c = p k
    · rw [if_pos e1, if_pos (n_mk_bit.mpr ⟨k, by omega, e1.symm⟩), e1]
    · rw [if_neg e1]
      by_cases e2 : n_bt (n_mk p k) c = 1
      · obtain ⟨i, a, b⟩ := n_mk_bit.mp e2
        rw [if_pos e2, if_pos (n_mk_bit.mpr ⟨i, by omega, b⟩)]
      · rw [if_neg e2, if_neg (fun z => ?_)]
        obtain ⟨i, a, b⟩ := n_mk_bit.mp z
        by_cases e3 : i = k
        · subst e3; exact e1 b.symm
        · exact e2 (n_mk_bit.mpr ⟨i, by omega, b⟩)
theorem n_Ls_sum {fr : Nat → Nat → Nat} {ln L : Nat → Nat} {mask dm ds o : Nat} : ∀ {k : Nat}, n_Ls fr ln L mask dm ds k o = L o + n_sum (fun c => if n_bt mask c = 1 then n_tk (fr c) dm ds o * ln c else 0) k := by
  intro k
  induction k with
  | zero => rfl
  | succ k ih =>
    show n_Ls fr ln L mask dm ds k o + _ = L o + (_ + _)
    rw [ih, Nat.add_assoc]
theorem lp_mtl {d n nc nd i len : Nat} {x1 : Option Value} {r : m_R → m_S → Prop} {bd : Nat × Nat} {cb db fr : Nat → Nat → Nat} {p : Nat → Nat} {ar : Nat → Nat → Int32} {rq : Nat → Nat → Option Nat} {ou : Nat → Int64} {dy : Nat → m_C} (hnc : nc ≤ 10) (hnd : nd ≤ 10) (hC : x_C nc cb ar) (hD : x_D nd db ar) (hf8 : ∀ c, c < nc → ∀ j, j < 6 → fr c j ≤ 100) (hi : i < nd) (h32 : ar 94 32 = nI len) (hlen : len ≤ 5) (hp : ∀ j, j < len → ar 118 j = nI (p j) ∧ p j < nc) (hinj : ∀ a b, a < b → b < len → p a ≠ p b) :
    ∀ (m j : Nat), j + m = len → ∀ (ar1 : Nat → Nat → Int32), x_F nc (n_fm fr (n_mk p j) (db i 0) (db i 3)) ar1 → (∀ a, a < 6 → ∀ o, o < 6 → ar1 112 (6 * a + o) = if a = db i 0 then ar 112 (6 * a + o) + nI (n_sum (fun k => n_tk (fr (p k)) (db i 0) (db i 3) o * cb (p k) 5) j) else ar 112 (6 * a + o)) → ar1 102 = upd (ar 102) i (nI (n_mk p j)) → (∀ x, x ≠ 102 → x ≠ 112 → x ≠ 115 → ar1 x = ar x) →
      (∀ (ar2 : Nat → Nat → Int32) (x3 : Option Value), x_F nc (n_fm fr (n_mk p len) (db i 0) (db i 3)) ar2 → (∀ a, a < 6 → ∀ o, o < 6 → ar2 112 (6 * a + o) = if a = db i 0 then ar 112 (6 * a + o) + nI (n_sum (fun k => n_tk (fr (p k)) (db i 0) (db i 3) o * cb (p k) 5) len) else ar 112 (6 * a + o)) → ar2 102 = upd (ar 102) i (nI (n_mk p len)) → (∀ x, x ≠ 102 → x ≠ 112 → x ≠ 115 → ar2 x = ar x) → m_W1 (m_lk cd_X7_leadsAll) (m_Ev m_cds m_my (d + 2)) r 101 [some (.ref 94), x1, some (.int (nI i)), x3] [] bd (n, m_hp ar2 rq ou dy)) →
      m_W1 (m_lk cd_X7_leadsAll) (m_Ev m_cds m_my (d + 2)) r 48 [some (.ref 94), x1, some (.int (nI i)), some (.int (nI j))] [] bd (n, m_hp ar1 rq ou dy) := by
  obtain ⟨D1, D2, D3, D4, D5, D6, D7, D8, D9⟩ := hD.2 i hi
  have hi10 : i < 10 := by omega
  intro m
  induction m with
  | zero =>
    intro j hj ar1 h1 h2 h3 h4 h
    have e : j = len := by omega
    subst e
    have h32' : ar1 94 32 = nI j := by rw [h4 94 (by omega) (by omega) (by omega)]; exact h32
    rw [st_X7_leadsAll_48]
    simp (disch := omega) only [st_X7_leadsAll_49, st_X7_leadsAll_50, st_X7_leadsAll_53, o_iload, o_aload, o_const, o_lconst, o_istore, o_astore, o_iinc, o_dup, o_dup2, o_pop, o_bin, o_div, o_un, o_mbin, o_mun, o_i2l, o_lcmp, o_ifeq, o_ifne, o_iflt, o_ifge, o_ifgt, o_ifle, o_icmpeq, o_icmpne, o_icmplt, o_icmpge, o_icmpgt, o_icmple, o_goto, o_getf, o_puti, o_putz, o_putr, o_iald, o_iast, o_zast, o_lald, o_last, o_aald, o_aast, o_alenO, o_new, o_newi, o_newl, o_newq, o_newqd, o_mna, o_copy, o_drop, o_cast, o_call, o_callx, o_callv, o_callvx, o_callh, o_sald, o_slen, o_switch, m_rcv, o_ireturn, o_zreturn, o_areturn, o_return, o_throw, o_null, o_dupx1, o_de, m_ent, List.getElem?_cons_zero, List.getElem?_cons_succ, List.getElem?_nil, List.set_cons_zero, List.set_cons_succ, List.length_cons, List.length_nil, List.map_cons, List.map_nil, List.replicate_succ, List.replicate_zero, List.take_succ_cons, List.take_zero, List.drop_succ_cons, List.drop_zero, List.reverse_cons, List.reverse_nil, List.cons_append, List.nil_append, List.append_nil, Option.toList_some, Option.toList_none, Nat.reduceAdd, Nat.reduceSub, Nat.reduceLeDiff, Nat.reduceLT, Nat.reduceEqDiff, Nat.le_refl, Nat.zero_le, Nat.zero_add, Nat.sub_zero, true_and, and_true, false_and, and_false, if_true, if_false, ite_true, ite_false, reduceIte, or_true, true_or, Option.isSome_some, not_true_eq_false, not_false_eq_true, forall_const, true_implies, false_implies, implies_true, ne_eq, m_gI_I, m_gJ_J, m_gQ_Q, m_gO_O, m_hp_94, m_fM_len, m_fM_0, m_fM_1, m_fM_2, m_fM_3, m_fM_4, m_fM_5, m_fM_6, m_fM_7, m_fM_8, m_fM_9, m_fM_10, m_fM_11, m_fM_12, m_fM_13, m_fM_14, m_fM_15, m_fM_16, m_fM_17, m_fM_18, m_fM_19, m_fM_20, m_fM_21, m_fM_22, m_fM_23, m_fM_24, m_fM_25, m_fM_26, m_fM_27, m_fM_28, m_fM_29, m_fM_30, m_fM_31, m_fM_32, m_fM_33, m_fM_34, m_fM_35, m_fM_s0, m_fM_s1, m_fM_s5, m_fM_s12, m_fM_s17, m_fM_s22, m_fM_s23, m_fM_s27, m_fM_s32, m_fM_s33, m_fM_s34, m_fM_s35, h32']
    exact ⟨fun z => absurd z Int32.lt_irrefl, fun _ => h ar1 _ h1 h2 h3 h4⟩
  | succ m ih =>
    intro j hj ar1 h1 h2 h3 h4 h
    have hjl : j < len := by omega
    obtain ⟨p1, p2⟩ := hp j hjl
    have hj8 : j < 8 := by omega
    have hlt : nI j < nI len := nI_lt hjl (by omega)
    have h32' : ar1 94 32 = nI len := by rw [h4 94 (by omega) (by omega) (by omega)]; exact h32
    have p1' : ar1 118 j = nI (p j) := by rw [h4 118 (by omega) (by omega) (by omega)]; exact p1
    have w1 : ar1 102 i = nI (n_mk p j) := by rw [h3, upd, if_pos rfl]
    have hmk : n_mk p j < 1024 := n_mk_lt (fun a ha => by have := (hp a (by omega)).2; omega)
    have hp10 : p j < 10 := by omega
    have hpw : 2 ^ p j < 1024 := Nat.pow_lt_pow_right (n := 10) (m := p j) (a := 2) (by omega) hp10
    have D1' : ar1 98 i = nI (db i 0) := by rw [h4 98 (by omega) (by omega) (by omega)]; exact D1
    have D4' : ar1 101 i = nI (db i 3) := by rw [h4 101 (by omega) (by omega) (by omega)]; exact D4
    rw [st_X7_leadsAll_48]
    simp (disch := omega) only [st_X7_leadsAll_49, st_X7_leadsAll_50, st_X7_leadsAll_53, st_X7_leadsAll_56, st_X7_leadsAll_57, st_X7_leadsAll_60, st_X7_leadsAll_61, st_X7_leadsAll_62, st_X7_leadsAll_63, st_X7_leadsAll_64, st_X7_leadsAll_65, st_X7_leadsAll_68, st_X7_leadsAll_69, st_X7_leadsAll_70, st_X7_leadsAll_71, st_X7_leadsAll_72, st_X7_leadsAll_73, st_X7_leadsAll_74, st_X7_leadsAll_75, st_X7_leadsAll_78, st_X7_leadsAll_79, st_X7_leadsAll_80, st_X7_leadsAll_81, st_X7_leadsAll_84, st_X7_leadsAll_85, st_X7_leadsAll_86, st_X7_leadsAll_87, st_X7_leadsAll_90, st_X7_leadsAll_91, st_X7_leadsAll_92, o_iload, o_aload, o_const, o_lconst, o_istore, o_astore, o_iinc, o_dup, o_dup2, o_pop, o_bin, o_div, o_un, o_mbin, o_mun, o_i2l, o_lcmp, o_ifeq, o_ifne, o_iflt, o_ifge, o_ifgt, o_ifle, o_icmpeq, o_icmpne, o_icmplt, o_icmpge, o_icmpgt, o_icmple, o_goto, o_getf, o_puti, o_putz, o_putr, o_iald, o_iast, o_zast, o_lald, o_last, o_aald, o_aast, o_alenO, o_new, o_newi, o_newl, o_newq, o_newqd, o_mna, o_copy, o_drop, o_cast, o_call, o_callx, o_callv, o_callvx, o_callh, o_sald, o_slen, o_switch, m_rcv, o_ireturn, o_zreturn, o_areturn, o_return, o_throw, o_null, o_dupx1, o_de, m_ent, List.getElem?_cons_zero, List.getElem?_cons_succ, List.getElem?_nil, List.set_cons_zero, List.set_cons_succ, List.length_cons, List.length_nil, List.map_cons, List.map_nil, List.replicate_succ, List.replicate_zero, List.take_succ_cons, List.take_zero, List.drop_succ_cons, List.drop_zero, List.reverse_cons, List.reverse_nil, List.cons_append, List.nil_append, List.append_nil, Option.toList_some, Option.toList_none, Nat.reduceAdd, Nat.reduceSub, Nat.reduceLeDiff, Nat.reduceLT, Nat.reduceEqDiff, Nat.le_refl, Nat.zero_le, Nat.zero_add, Nat.sub_zero, true_and, and_true, false_and, and_false, if_true, if_false, ite_true, ite_false, reduceIte, or_true, true_or, Option.isSome_some, not_true_eq_false, not_false_eq_true, forall_const, true_implies, false_implies, implies_true, ne_eq, m_gI_I, m_gJ_J, m_gQ_Q, m_gO_O, m_hp_94, m_fM_len, m_fM_0, m_fM_1, m_fM_2, m_fM_3, m_fM_4, m_fM_5, m_fM_6, m_fM_7, m_fM_8, m_fM_9, m_fM_10, m_fM_11, m_fM_12, m_fM_13, m_fM_14, m_fM_15, m_fM_16, m_fM_17, m_fM_18, m_fM_19, m_fM_20, m_fM_21, m_fM_22, m_fM_23, m_fM_24, m_fM_25, m_fM_26, m_fM_27, m_fM_28, m_fM_29, m_fM_30, m_fM_31, m_fM_32, m_fM_33, m_fM_34, m_fM_35, m_fM_s0, m_fM_s1, m_fM_s5, m_fM_s12, m_fM_s17, m_fM_s22, m_fM_s23, m_fM_s27, m_fM_s32, m_fM_s33, m_fM_s34, m_fM_s35, m_hp_102, m_up_102, m_hp_118, m_hp_98, m_hp_101, v_in, v_cl, h32', hlt, p1', w1, v_shl1, v_or, m_uf_ne, D1', D4']
    have hCx : x_C nc cb (m_uf ar1 102 (upd (ar1 102) i (nI (n_mk p j ||| 2 ^ p j)))) := by
      refine ⟨by rw [m_uf_ne (by omega), h4 94 (by omega) (by omega) (by omega)]; exact hC.1, fun c hc => ?_⟩
      rw [m_uf_ne (by omega), m_uf_ne (by omega), h4 95 (by omega) (by omega) (by omega), h4 96 (by omega) (by omega) (by omega)]
      exact hC.2 c hc
    have hFx : x_F nc (n_fm fr (n_mk p j) (db i 0) (db i 3)) (m_uf ar1 102 (upd (ar1 102) i (nI (n_mk p j ||| 2 ^ p j)))) := fun c hc o ho => by rw [m_uf_ne (by omega)]; exact h1 c hc o ho
    obtain ⟨S', hE, ar2, rfl, g1, g2, g3⟩ := e_mtakes d (n := n) (rq := rq) (ou := ou) (dy := dy) hnc hCx hFx p2 D5 (show db i 3 ≤ 100 by omega) (fun c hc o ho => Nat.le_trans n_fm_le (hf8 c hc o ho))
    refine ⟨_, _, hE, ?_⟩
    simp (disch := omega) only [st_X7_leadsAll_95, st_X7_leadsAll_98, o_iload, o_aload, o_const, o_lconst, o_istore, o_astore, o_iinc, o_dup, o_dup2, o_pop, o_bin, o_div, o_un, o_mbin, o_mun, o_i2l, o_lcmp, o_ifeq, o_ifne, o_iflt, o_ifge, o_ifgt, o_ifle, o_icmpeq, o_icmpne, o_icmplt, o_icmpge, o_icmpgt, o_icmple, o_goto, o_getf, o_puti, o_putz, o_putr, o_iald, o_iast, o_zast, o_lald, o_last, o_aald, o_aast, o_alenO, o_new, o_newi, o_newl, o_newq, o_newqd, o_mna, o_copy, o_drop, o_cast, o_call, o_callx, o_callv, o_callvx, o_callh, o_sald, o_slen, o_switch, m_rcv, o_ireturn, o_zreturn, o_areturn, o_return, o_throw, o_null, o_dupx1, o_de, m_ent, List.getElem?_cons_zero, List.getElem?_cons_succ, List.getElem?_nil, List.set_cons_zero, List.set_cons_succ, List.length_cons, List.length_nil, List.map_cons, List.map_nil, List.replicate_succ, List.replicate_zero, List.take_succ_cons, List.take_zero, List.drop_succ_cons, List.drop_zero, List.reverse_cons, List.reverse_nil, List.cons_append, List.nil_append, List.append_nil, Option.toList_some, Option.toList_none, Nat.reduceAdd, Nat.reduceSub, Nat.reduceLeDiff, Nat.reduceLT, Nat.reduceEqDiff, Nat.le_refl, Nat.zero_le, Nat.zero_add, Nat.sub_zero, true_and, and_true, false_and, and_false, if_true, if_false, ite_true, ite_false, reduceIte, or_true, true_or, Option.isSome_some, not_true_eq_false, not_false_eq_true, forall_const, true_implies, false_implies, implies_true, ne_eq, m_gI_I, m_gJ_J, m_gQ_Q, m_gO_O, nI_1]
    have hrow : n_fm fr (n_mk p j) (db i 0) (db i 3) (p j) = fr (p j) := by
      funext o
      unfold n_fm
      rw [if_neg (fun z => ?_)]
      obtain ⟨a, b1, b2⟩ := n_mk_bit.mp z
      exact hinj a j b1 hjl b2
    rw [hrow] at g1 g2
    refine ih (j + 1) (by omega) ar2 (fun c hc o ho => ?_) (fun a ha o ho => ?_) ?_ (fun x a1 a2 a3 => by rw [g3 x a2 a3, m_uf_ne a1]; exact h4 x a1 a2 a3) h
    · rw [g1 c hc o ho]
      show nI (if c = p j then n_ff (fr (p j)) (db i 0) (db i 3) o else n_fm fr (n_mk p j) (db i 0) (db i 3) c o) = nI (n_fm fr (n_mk p (j + 1)) (db i 0) (db i 3) c o)
      refine congrArg nI ?_
      unfold n_fm
      by_cases e : c = p j
      · rw [if_pos e, if_pos (n_mk_bit.mpr ⟨j, by omega, e.symm⟩), e]
      · rw [if_neg e]
        by_cases e2 : n_bt (n_mk p j) c = 1
        · obtain ⟨a, b1, b2⟩ := n_mk_bit.mp e2
          rw [if_pos e2, if_pos (n_mk_bit.mpr ⟨a, by omega, b2⟩)]
        · rw [if_neg e2, if_neg (fun z => ?_)]
          obtain ⟨a, b1, b2⟩ := n_mk_bit.mp z
          by_cases e3 : a = j
          · subst e3; exact e b2.symm
          · exact e2 (n_mk_bit.mpr ⟨a, by omega, b2⟩)
    · rw [g2 a ha o ho, m_uf_ne (by omega), h2 a ha o ho]
      by_cases e : a = db i 0
      · rw [if_pos e, if_pos e, if_pos e, Int32.add_assoc, v_add]
        rfl
      · rw [if_neg e, if_neg e, if_neg e]
    · rw [g3 102 (by omega) (by omega), m_uf_eq, h3]
      funext y
      unfold upd
      by_cases e : y = i
      · rw [if_pos e, if_pos e]; rfl
      · rw [if_neg e, if_neg e, if_neg e]
