/-! Net.follow: the method -/
theorem n_wn : n_w none = -1 := rfl
theorem n_ws (w : Nat) : n_w (some w) = nI w := rfl
theorem n_neg {f : Nat} (h : f < 2147483648) : (nI f = -1) = False := by
  refine eq_false (fun z => ?_)
  have h2 : ¬ nI f < 0 := nI_pos h
  rw [z] at h2
  exact absurd (by decide) h2
theorem n_or_lt {a b n : Nat} (ha : a < 2 ^ n) (hb : b < n) : a ||| 2 ^ b < 2 ^ n := Nat.or_lt_two_pow ha (Nat.pow_lt_pow_right (by omega) hb)
theorem n_ac_lt {a b h x : Nat} (ha : a < 6) (hb : b < 6) (e : n_ac a b h = some x) : x < 6 := by
  unfold n_ac at e
  split at e
  · cases e; exact hb
  · split at e
    · cases e; exact ha
    · cases e
def n_okb (b : Option Nat × Nat × Nat) : Prop := b.2.1 < 2147483648 ∧ b.2.2 < 2147483648 ∧ ∀ w, b.1 = some w → w < 1024
theorem n_st_ok {P : Option Nat × Nat × Nat → Prop} {fo ac : Option Nat} {s w l t ln c : Nat} {go : Nat → Nat → Nat → Nat → Nat → Option Nat × Nat × Nat → Option Nat × Nat × Nat} {b : Option Nat × Nat × Nat} (hb : P b) (h : ∀ f x, fo = some f → ac = some x → P (go x (s ||| 2 ^ x) (w ||| 2 ^ c) (l + f) (t + ln) b)) : P (n_st fo ac s w l t ln c go b) := by
  unfold n_st
  split
  · rename_i f x
    split
    · exact h f x rfl rfl
    · exact hb
  · exact hb
theorem n_fw_ok {nc g : Nat} {pa pb ln : Nat → Nat} {fo : Nat → Option Nat} (hnc : nc ≤ 10) (hf : ∀ c, c < nc → ∀ f, fo c = some f → f ≤ 100) (hln : ∀ c, c < nc → ln c ≤ 1000) :
    ∀ (k dp h s w l t : Nat) (b : Option Nat × Nat × Nat), dp + k = 5 → w < 1024 → l ≤ 100 * dp → t ≤ 1000 * dp → n_okb b → n_okb (n_fw nc pa pb ln fo g k h s w l t b) := by
  intro k
  induction k with
  | zero =>
    intro dp h s w l t b hd hw hl ht hb
    unfold n_fw
    split
    · exact ⟨by show l < _; omega, by show t < _; omega, fun w' e => by cases e; exact hw⟩
    · exact hb
  | succ k ih =>
    intro dp h s w l t b hd hw hl ht hb
    unfold n_fw
    split
    · exact ⟨by show l < _; omega, by show t < _; omega, fun w' e => by cases e; exact hw⟩
    · have key : ∀ (m c : Nat) (b : Option Nat × Nat × Nat), c + m = nc → n_okb b → n_okb (n_up (fun c b => n_st (fo c) (n_ac (pa c) (pb c) h) s w l t (ln c) c (n_fw nc pa pb ln fo g k) b) m c b) := by
        intro m
        induction m with
        | zero => intro c b _ hb; exact hb
        | succ m ihm =>
          intro c b hc hb
          refine ihm (c + 1) _ (by omega) (n_st_ok hb (fun f x e1 e2 => ?_))
          have h1 := hf c (by omega) f e1
          have h2 := hln c (by omega)
          exact ih (dp + 1) _ _ _ _ _ _ (by omega) (n_or_lt (n := 10) hw (by omega)) (by omega) (by omega) hb
      exact key nc 0 b (by omega) hb
theorem n_up_s {α : Type} {f : Nat → α → α} {m c : Nat} {b : α} : n_up f (m + 1) c b = n_up f m (c + 1) (f c b) := rfl
theorem n_st_n {fo ac : Option Nat} {s w l t ln c : Nat} {go : Nat → Nat → Nat → Nat → Nat → Option Nat × Nat × Nat → Option Nat × Nat × Nat} {b : Option Nat × Nat × Nat} (h : fo = none) : n_st fo ac s w l t ln c go b = b := by
  subst h
  rfl
theorem n_st_a {fo ac : Option Nat} {s w l t ln c : Nat} {go : Nat → Nat → Nat → Nat → Nat → Option Nat × Nat × Nat → Option Nat × Nat × Nat} {b : Option Nat × Nat × Nat} (h : ac = none) : n_st fo ac s w l t ln c go b = b := by
  subst h
  cases fo <;> rfl
theorem n_st_f {fo ac : Option Nat} {s w l t ln c f x : Nat} {go : Nat → Nat → Nat → Nat → Nat → Option Nat × Nat × Nat → Option Nat × Nat × Nat} {b : Option Nat × Nat × Nat} (h1 : fo = some f) (h2 : ac = some x) (h : ¬ (s / 2 ^ x % 2 = 0 ∧ n_bt2 (l + f) (t + ln) b = true)) : n_st fo ac s w l t ln c go b = b := by
  subst h1 h2
  unfold n_st
  exact if_neg h
theorem n_st_t {fo ac : Option Nat} {s w l t ln c f x : Nat} {go : Nat → Nat → Nat → Nat → Nat → Option Nat × Nat × Nat → Option Nat × Nat × Nat} {b : Option Nat × Nat × Nat} (h1 : fo = some f) (h2 : ac = some x) (h : s / 2 ^ x % 2 = 0 ∧ n_bt2 (l + f) (t + ln) b = true) : n_st fo ac s w l t ln c go b = go x (s ||| 2 ^ x) (w ||| 2 ^ c) (l + f) (t + ln) b := by
  subst h1 h2
  unfold n_st
  exact if_pos h
theorem e_follow {B n nc g : Nat} {pa pb ln ca : Nat → Nat} {fo : Nat → Option Nat} {y3 y4 y5 y7 : Nat → Int32} {ar : Nat → Nat → Int32} {rq : Nat → Nat → Option Nat} {ou : Nat → Int64} {dy : Nat → m_C} (hB : B = 4 ∨ B = 40) (hnc : nc ≤ 10) (hg : g < 6) (h7 : ar B 7 = nI nc) (h11 : ar B 11 = nI g) (hfo : ∀ c, c < nc → ar (B + 35) c = n_w (fo c)) (hf : ∀ c, c < nc → ∀ f, fo c = some f → f ≤ 100) (hrc : ∀ c, c < nc → rq (B + 1) c = some (ca c)) (hca : ∀ c, c < nc → 98 ≤ ca c) (hcs : ∀ c, c < nc → dy (ca c) = m_O 1 [.int (nI (pa c)), .int (nI (pb c)), .int (y3 c), .int (y4 c), .int (y5 c), .int (nI (ln c)), .int (y7 c)]) (hpa : ∀ c, c < nc → pa c < 6) (hpb : ∀ c, c < nc → pb c < 6) (hln : ∀ c, c < nc → ln c ≤ 1000) :
    ∀ (k d dp h s w l t : Nat) (b : Option Nat × Nat × Nat), dp + k = 5 → h < 6 → s < 64 → w < 1024 → l ≤ 100 * dp → t ≤ 1000 * dp → n_okb b →
      m_Ev m_cds m_my (d + k + 2) 15 [.ref B, .int (nI dp), .int (nI h), .int (nI s), .int (nI w), .int (nI l), .int (nI t)] (n, m_hp (n_ba ar B b) rq ou dy) (.inl none) (n, m_hp (n_ba ar B (n_fw nc pa pb ln fo g k h s w l t b)) rq ou dy) := by
  intro k
  induction k with
  | zero =>
    intro d dp h s w l t b hd hh hs hw hl ht hb
    refine m_go1 my_X3_follow cs_X3_follow (by first | trivial | rfl) (Nat.le_of_ble_eq_true rfl) rfl ?_
    have e1 : (nI h = nI g) = (h = g) := propext (nI_eq (by omega) (by omega))
    have e5 : dp = 5 := by omega
    subst e5
    have e6 : ((nI 5 : Int32) < 5) = False := eq_false (i_nlt' (Nat.le_refl 5))
    simp (disch := omega) only [mt_X3_follow, st_X3_follow_0, st_X3_follow_1, st_X3_follow_2, st_X3_follow_5, st_X3_follow_8, st_X3_follow_9, st_X3_follow_11, st_X3_follow_14, st_X3_follow_15, st_X3_follow_17, st_X3_follow_20, st_X3_follow_21, st_X3_follow_23, st_X3_follow_26, st_X3_follow_27, st_X3_follow_28, st_X3_follow_29, st_X3_follow_32, o_iload, o_aload, o_const, o_lconst, o_istore, o_astore, o_iinc, o_dup, o_dup2, o_pop, o_bin, o_div, o_un, o_mbin, o_mun, o_i2l, o_lcmp, o_ifeq, o_ifne, o_iflt, o_ifge, o_ifgt, o_ifle, o_icmpeq, o_icmpne, o_icmplt, o_icmpge, o_icmpgt, o_icmple, o_goto, o_getf, o_puti, o_putz, o_putr, o_iald, o_iast, o_zast, o_lald, o_last, o_aald, o_aast, o_alenO, o_new, o_newi, o_newl, o_newq, o_newqd, o_mna, o_copy, o_drop, o_cast, o_call, o_callx, o_callv, o_callvx, o_callh, o_sald, o_slen, o_switch, m_rcv, o_ireturn, o_zreturn, o_areturn, o_return, o_throw, o_null, o_dupx1, o_de, m_ent, List.getElem?_cons_zero, List.getElem?_cons_succ, List.getElem?_nil, List.set_cons_zero, List.set_cons_succ, List.length_cons, List.length_nil, List.map_cons, List.map_nil, List.replicate_succ, List.replicate_zero, List.take_succ_cons, List.take_zero, List.drop_succ_cons, List.drop_zero, List.reverse_cons, List.reverse_nil, List.cons_append, List.nil_append, List.append_nil, Option.toList_some, Option.toList_none, Nat.reduceAdd, Nat.reduceSub, Nat.reduceLeDiff, Nat.reduceLT, Nat.reduceEqDiff, Nat.le_refl, Nat.zero_le, Nat.zero_add, Nat.sub_zero, true_and, and_true, false_and, and_false, if_true, if_false, ite_true, ite_false, reduceIte, or_true, true_or, Option.isSome_some, not_true_eq_false, not_false_eq_true, forall_const, true_implies, false_implies, implies_true, ne_eq, m_gI_I, m_gJ_J, m_gQ_Q, m_gO_O, m_hp_N, m_hp_N1, m_hp_N2, m_hp_N3, m_hp_N14, m_hp_N15, m_hp_N16, m_hp_N17, m_hp_N24, m_hp_N35, m_up_N, m_up_N1, m_up_N2, m_up_N14, m_up_N15, m_up_N16, m_up_N35, m_fN_len, m_fN_0, m_fN_1, m_fN_2, m_fN_3, m_fN_4, m_fN_5, m_fN_6, m_fN_7, m_fN_8, m_fN_9, m_fN_10, m_fN_11, m_fN_12, m_fN_13, m_fN_14, m_fN_15, m_fN_s7, m_fN_s8, m_fN_s11, m_fN_s12, m_fN_s13, m_fN_s14, m_fN_s15, n_ba_k, h11, e1, e6, m_uf_uu, m_uf_eq, n_ba_set]
    refine ⟨fun z => ?_, fun z => ?_⟩
    · unfold n_fw
      rw [if_pos z]
    · unfold n_fw
      rw [if_neg z]
  | succ k ih =>
    intro d dp h s w l t b hd hh hs hw hl ht hb
    refine m_go1 my_X3_follow cs_X3_follow (by first | trivial | rfl) (Nat.le_of_ble_eq_true rfl) rfl ?_
    have e1 : (nI h = nI g) = (h = g) := propext (nI_eq (by omega) (by omega))
    have e6 : (nI dp < 5) = True := eq_true (i_lt (n := 5) (by omega))
    simp (disch := omega) only [mt_X3_follow, st_X3_follow_0, st_X3_follow_1, st_X3_follow_2, st_X3_follow_5, st_X3_follow_8, st_X3_follow_9, st_X3_follow_11, st_X3_follow_14, st_X3_follow_15, st_X3_follow_17, st_X3_follow_20, st_X3_follow_21, st_X3_follow_23, st_X3_follow_26, st_X3_follow_27, st_X3_follow_28, st_X3_follow_29, st_X3_follow_32, st_X3_follow_33, st_X3_follow_34, o_iload, o_aload, o_const, o_lconst, o_istore, o_astore, o_iinc, o_dup, o_dup2, o_pop, o_bin, o_div, o_un, o_mbin, o_mun, o_i2l, o_lcmp, o_ifeq, o_ifne, o_iflt, o_ifge, o_ifgt, o_ifle, o_icmpeq, o_icmpne, o_icmplt, o_icmpge, o_icmpgt, o_icmple, o_goto, o_getf, o_puti, o_putz, o_putr, o_iald, o_iast, o_zast, o_lald, o_last, o_aald, o_aast, o_alenO, o_new, o_newi, o_newl, o_newq, o_newqd, o_mna, o_copy, o_drop, o_cast, o_call, o_callx, o_callv, o_callvx, o_callh, o_sald, o_slen, o_switch, m_rcv, o_ireturn, o_zreturn, o_areturn, o_return, o_throw, o_null, o_dupx1, o_de, m_ent, List.getElem?_cons_zero, List.getElem?_cons_succ, List.getElem?_nil, List.set_cons_zero, List.set_cons_succ, List.length_cons, List.length_nil, List.map_cons, List.map_nil, List.replicate_succ, List.replicate_zero, List.take_succ_cons, List.take_zero, List.drop_succ_cons, List.drop_zero, List.reverse_cons, List.reverse_nil, List.cons_append, List.nil_append, List.append_nil, Option.toList_some, Option.toList_none, Nat.reduceAdd, Nat.reduceSub, Nat.reduceLeDiff, Nat.reduceLT, Nat.reduceEqDiff, Nat.le_refl, Nat.zero_le, Nat.zero_add, Nat.sub_zero, true_and, and_true, false_and, and_false, if_true, if_false, ite_true, ite_false, reduceIte, or_true, true_or, Option.isSome_some, not_true_eq_false, not_false_eq_true, forall_const, true_implies, false_implies, implies_true, ne_eq, m_gI_I, m_gJ_J, m_gQ_Q, m_gO_O, m_hp_N, m_hp_N1, m_hp_N2, m_hp_N3, m_hp_N14, m_hp_N15, m_hp_N16, m_hp_N17, m_hp_N24, m_hp_N35, m_up_N, m_up_N1, m_up_N2, m_up_N14, m_up_N15, m_up_N16, m_up_N35, m_fN_len, m_fN_0, m_fN_1, m_fN_2, m_fN_3, m_fN_4, m_fN_5, m_fN_6, m_fN_7, m_fN_8, m_fN_9, m_fN_10, m_fN_11, m_fN_12, m_fN_13, m_fN_14, m_fN_15, m_fN_s7, m_fN_s8, m_fN_s11, m_fN_s12, m_fN_s13, m_fN_s14, m_fN_s15, n_ba_k, h11, e1, e6, m_uf_uu, m_uf_eq, n_ba_set]
    refine ⟨fun z => ?_, fun z => ?_⟩
    · unfold n_fw
      rw [if_pos z]
    · unfold n_fw
      rw [if_neg z]
      have key : ∀ (m c : Nat) (b : Option Nat × Nat × Nat) (x8 x9 x10 : Option Value), c + m = nc → n_okb b →
          m_W1 (m_lk cd_X3_follow) (m_Ev m_cds m_my (d + (k + 1) + 1)) (fun o2 S2 => o2 = Sum.inl none ∧ S2 = (n, m_hp (n_ba ar B (n_up (fun c b => n_st (fo c) (n_ac (pa c) (pb c) h) s w l t (ln c) c (n_fw nc pa pb ln fo g k) b) m c b)) rq ou dy)) 36 [some (.ref B), some (.int (nI dp)), some (.int (nI h)), some (.int (nI s)), some (.int (nI w)), some (.int (nI l)), some (.int (nI t)), some (.int (nI c)), x8, x9, x10] [] (0, 0) (n, m_hp (n_ba ar B b) rq ou dy) := by
        intro m
        induction m with
        | zero =>
          intro c b x8 x9 x10 hc hb
          have e : c = nc := by omega
          subst e
          rw [st_X3_follow_36]
          simp (disch := omega) only [st_X3_follow_38, st_X3_follow_39, st_X3_follow_42, st_X3_follow_154, o_iload, o_aload, o_const, o_lconst, o_istore, o_astore, o_iinc, o_dup, o_dup2, o_pop, o_bin, o_div, o_un, o_mbin, o_mun, o_i2l, o_lcmp, o_ifeq, o_ifne, o_iflt, o_ifge, o_ifgt, o_ifle, o_icmpeq, o_icmpne, o_icmplt, o_icmpge, o_icmpgt, o_icmple, o_goto, o_getf, o_puti, o_putz, o_putr, o_iald, o_iast, o_zast, o_lald, o_last, o_aald, o_aast, o_alenO, o_new, o_newi, o_newl, o_newq, o_newqd, o_mna, o_copy, o_drop, o_cast, o_call, o_callx, o_callv, o_callvx, o_callh, o_sald, o_slen, o_switch, m_rcv, o_ireturn, o_zreturn, o_areturn, o_return, o_throw, o_null, o_dupx1, o_de, m_ent, List.getElem?_cons_zero, List.getElem?_cons_succ, List.getElem?_nil, List.set_cons_zero, List.set_cons_succ, List.length_cons, List.length_nil, List.map_cons, List.map_nil, List.replicate_succ, List.replicate_zero, List.take_succ_cons, List.take_zero, List.drop_succ_cons, List.drop_zero, List.reverse_cons, List.reverse_nil, List.cons_append, List.nil_append, List.append_nil, Option.toList_some, Option.toList_none, Nat.reduceAdd, Nat.reduceSub, Nat.reduceLeDiff, Nat.reduceLT, Nat.reduceEqDiff, Nat.le_refl, Nat.zero_le, Nat.zero_add, Nat.sub_zero, true_and, and_true, false_and, and_false, if_true, if_false, ite_true, ite_false, reduceIte, or_true, true_or, Option.isSome_some, not_true_eq_false, not_false_eq_true, forall_const, true_implies, false_implies, implies_true, ne_eq, m_gI_I, m_gJ_J, m_gQ_Q, m_gO_O, m_hp_N, m_hp_N1, m_hp_N2, m_hp_N3, m_hp_N14, m_hp_N15, m_hp_N16, m_hp_N17, m_hp_N24, m_hp_N35, m_up_N, m_up_N1, m_up_N2, m_up_N14, m_up_N15, m_up_N16, m_up_N35, m_fN_len, m_fN_0, m_fN_1, m_fN_2, m_fN_3, m_fN_4, m_fN_5, m_fN_6, m_fN_7, m_fN_8, m_fN_9, m_fN_10, m_fN_11, m_fN_12, m_fN_13, m_fN_14, m_fN_15, m_fN_s7, m_fN_s8, m_fN_s11, m_fN_s12, m_fN_s13, m_fN_s14, m_fN_s15, n_ba_k, h7]
          exact ⟨fun y => absurd y Int32.lt_irrefl, fun _ => rfl⟩
        | succ m ihm =>
          intro c b x8 x9 x10 hc hb
          have hcn : c < nc := by omega
          have hc10 : c < 10 := by omega
          have hlt : nI c < nI nc := nI_lt hcn (by omega)
          have hrcc := hrc c hcn
          have hcac := hca c hcn
          have hcsc := hcs c hcn
          have hlnc := hln c hcn
          rw [st_X3_follow_36]
          simp (disch := omega) only [st_X3_follow_38, st_X3_follow_39, st_X3_follow_42, st_X3_follow_45, st_X3_follow_46, st_X3_follow_49, st_X3_follow_51, st_X3_follow_52, st_X3_follow_53, o_iload, o_aload, o_const, o_lconst, o_istore, o_astore, o_iinc, o_dup, o_dup2, o_pop, o_bin, o_div, o_un, o_mbin, o_mun, o_i2l, o_lcmp, o_ifeq, o_ifne, o_iflt, o_ifge, o_ifgt, o_ifle, o_icmpeq, o_icmpne, o_icmplt, o_icmpge, o_icmpgt, o_icmple, o_goto, o_getf, o_puti, o_putz, o_putr, o_iald, o_iast, o_zast, o_lald, o_last, o_aald, o_aast, o_alenO, o_new, o_newi, o_newl, o_newq, o_newqd, o_mna, o_copy, o_drop, o_cast, o_call, o_callx, o_callv, o_callvx, o_callh, o_sald, o_slen, o_switch, m_rcv, o_ireturn, o_zreturn, o_areturn, o_return, o_throw, o_null, o_dupx1, o_de, m_ent, List.getElem?_cons_zero, List.getElem?_cons_succ, List.getElem?_nil, List.set_cons_zero, List.set_cons_succ, List.length_cons, List.length_nil, List.map_cons, List.map_nil, List.replicate_succ, List.replicate_zero, List.take_succ_cons, List.take_zero, List.drop_succ_cons, List.drop_zero, List.reverse_cons, List.reverse_nil, List.cons_append, List.nil_append, List.append_nil, Option.toList_some, Option.toList_none, Nat.reduceAdd, Nat.reduceSub, Nat.reduceLeDiff, Nat.reduceLT, Nat.reduceEqDiff, Nat.le_refl, Nat.zero_le, Nat.zero_add, Nat.sub_zero, true_and, and_true, false_and, and_false, if_true, if_false, ite_true, ite_false, reduceIte, or_true, true_or, Option.isSome_some, not_true_eq_false, not_false_eq_true, forall_const, true_implies, false_implies, implies_true, ne_eq, m_gI_I, m_gJ_J, m_gQ_Q, m_gO_O, m_hp_N, m_hp_N1, m_hp_N2, m_hp_N3, m_hp_N14, m_hp_N15, m_hp_N16, m_hp_N17, m_hp_N24, m_hp_N35, m_up_N, m_up_N1, m_up_N2, m_up_N14, m_up_N15, m_up_N16, m_up_N35, m_fN_len, m_fN_0, m_fN_1, m_fN_2, m_fN_3, m_fN_4, m_fN_5, m_fN_6, m_fN_7, m_fN_8, m_fN_9, m_fN_10, m_fN_11, m_fN_12, m_fN_13, m_fN_14, m_fN_15, m_fN_s7, m_fN_s8, m_fN_s11, m_fN_s12, m_fN_s13, m_fN_s14, m_fN_s15, v_in, v_cl, n_ba_k, n_ba_ne, h7, hlt, hrcc, m_hp_dy, hcsc]
          refine ⟨_, _, e_across (d + k + 1) hcac hcsc (hpa c hcn) (hpb c hcn) hh, ?_⟩
          have hfoc := hfo c hcn
          have hq : (nI 1 : Int32) = 0 ↔ False := ⟨fun z => absurd z (by decide), False.elim⟩
          show m_W1 _ _ _ _ _ _ _ _
          rw [n_up_s]
          rcases hfc : fo c with _ | f
          · rw [hfc, n_wn] at hfoc
            simp (disch := omega) only [st_X3_follow_56, st_X3_follow_58, st_X3_follow_59, st_X3_follow_62, st_X3_follow_64, st_X3_follow_65, st_X3_follow_66, st_X3_follow_148, st_X3_follow_151, o_iload, o_aload, o_const, o_lconst, o_istore, o_astore, o_iinc, o_dup, o_dup2, o_pop, o_bin, o_div, o_un, o_mbin, o_mun, o_i2l, o_lcmp, o_ifeq, o_ifne, o_iflt, o_ifge, o_ifgt, o_ifle, o_icmpeq, o_icmpne, o_icmplt, o_icmpge, o_icmpgt, o_icmple, o_goto, o_getf, o_puti, o_putz, o_putr, o_iald, o_iast, o_zast, o_lald, o_last, o_aald, o_aast, o_alenO, o_new, o_newi, o_newl, o_newq, o_newqd, o_mna, o_copy, o_drop, o_cast, o_call, o_callx, o_callv, o_callvx, o_callh, o_sald, o_slen, o_switch, m_rcv, o_ireturn, o_zreturn, o_areturn, o_return, o_throw, o_null, o_dupx1, o_de, m_ent, List.getElem?_cons_zero, List.getElem?_cons_succ, List.getElem?_nil, List.set_cons_zero, List.set_cons_succ, List.length_cons, List.length_nil, List.map_cons, List.map_nil, List.replicate_succ, List.replicate_zero, List.take_succ_cons, List.take_zero, List.drop_succ_cons, List.drop_zero, List.reverse_cons, List.reverse_nil, List.cons_append, List.nil_append, List.append_nil, Option.toList_some, Option.toList_none, Nat.reduceAdd, Nat.reduceSub, Nat.reduceLeDiff, Nat.reduceLT, Nat.reduceEqDiff, Nat.le_refl, Nat.zero_le, Nat.zero_add, Nat.sub_zero, true_and, and_true, false_and, and_false, if_true, if_false, ite_true, ite_false, reduceIte, or_true, true_or, Option.isSome_some, not_true_eq_false, not_false_eq_true, forall_const, true_implies, false_implies, implies_true, ne_eq, m_gI_I, m_gJ_J, m_gQ_Q, m_gO_O, m_hp_N, m_hp_N1, m_hp_N2, m_hp_N3, m_hp_N14, m_hp_N15, m_hp_N16, m_hp_N17, m_hp_N24, m_hp_N35, m_up_N, m_up_N1, m_up_N2, m_up_N14, m_up_N15, m_up_N16, m_up_N35, m_fN_len, m_fN_0, m_fN_1, m_fN_2, m_fN_3, m_fN_4, m_fN_5, m_fN_6, m_fN_7, m_fN_8, m_fN_9, m_fN_10, m_fN_11, m_fN_12, m_fN_13, m_fN_14, m_fN_15, m_fN_s7, m_fN_s8, m_fN_s11, m_fN_s12, m_fN_s13, m_fN_s14, m_fN_s15, v_in, v_cl, n_ba_k, n_ba_ne, hfoc, nI_1]
            rw [n_st_n rfl]
            exact ihm (c + 1) b _ _ _ (by omega) hb
          · rw [hfc, n_ws] at hfoc
            have hf1 := hf c hcn f hfc
            have h66 : (nI f = -1) = False := n_neg (by omega)
            rcases hac : n_ac (pa c) (pb c) h with _ | x
            · simp (disch := omega) only [st_X3_follow_56, st_X3_follow_58, st_X3_follow_59, st_X3_follow_62, st_X3_follow_64, st_X3_follow_65, st_X3_follow_66, st_X3_follow_69, st_X3_follow_71, st_X3_follow_72, st_X3_follow_148, st_X3_follow_151, o_iload, o_aload, o_const, o_lconst, o_istore, o_astore, o_iinc, o_dup, o_dup2, o_pop, o_bin, o_div, o_un, o_mbin, o_mun, o_i2l, o_lcmp, o_ifeq, o_ifne, o_iflt, o_ifge, o_ifgt, o_ifle, o_icmpeq, o_icmpne, o_icmplt, o_icmpge, o_icmpgt, o_icmple, o_goto, o_getf, o_puti, o_putz, o_putr, o_iald, o_iast, o_zast, o_lald, o_last, o_aald, o_aast, o_alenO, o_new, o_newi, o_newl, o_newq, o_newqd, o_mna, o_copy, o_drop, o_cast, o_call, o_callx, o_callv, o_callvx, o_callh, o_sald, o_slen, o_switch, m_rcv, o_ireturn, o_zreturn, o_areturn, o_return, o_throw, o_null, o_dupx1, o_de, m_ent, List.getElem?_cons_zero, List.getElem?_cons_succ, List.getElem?_nil, List.set_cons_zero, List.set_cons_succ, List.length_cons, List.length_nil, List.map_cons, List.map_nil, List.replicate_succ, List.replicate_zero, List.take_succ_cons, List.take_zero, List.drop_succ_cons, List.drop_zero, List.reverse_cons, List.reverse_nil, List.cons_append, List.nil_append, List.append_nil, Option.toList_some, Option.toList_none, Nat.reduceAdd, Nat.reduceSub, Nat.reduceLeDiff, Nat.reduceLT, Nat.reduceEqDiff, Nat.le_refl, Nat.zero_le, Nat.zero_add, Nat.sub_zero, true_and, and_true, false_and, and_false, if_true, if_false, ite_true, ite_false, reduceIte, or_true, true_or, Option.isSome_some, not_true_eq_false, not_false_eq_true, forall_const, true_implies, false_implies, implies_true, ne_eq, m_gI_I, m_gJ_J, m_gQ_Q, m_gO_O, m_hp_N, m_hp_N1, m_hp_N2, m_hp_N3, m_hp_N14, m_hp_N15, m_hp_N16, m_hp_N17, m_hp_N24, m_hp_N35, m_up_N, m_up_N1, m_up_N2, m_up_N14, m_up_N15, m_up_N16, m_up_N35, m_fN_len, m_fN_0, m_fN_1, m_fN_2, m_fN_3, m_fN_4, m_fN_5, m_fN_6, m_fN_7, m_fN_8, m_fN_9, m_fN_10, m_fN_11, m_fN_12, m_fN_13, m_fN_14, m_fN_15, m_fN_s7, m_fN_s8, m_fN_s11, m_fN_s12, m_fN_s13, m_fN_s14, m_fN_s15, v_in, v_cl, n_ba_k, n_ba_ne, hfoc, nI_1, h66, n_wn]
              rw [n_st_a rfl]
              exact ihm (c + 1) b _ _ _ (by omega) hb
            · have hx := n_ac_lt (hpa c hcn) (hpb c hcn) hac
              have hx1 : (nI x = -1) = False := n_neg (by omega)
              have h0e : (nI 0 = 0) = True := eq_true rfl
              have hbit : (nI (s / 2 ^ x % 2) = 0) = (s / 2 ^ x % 2 = 0) := v_e0 (by omega)
              by_cases hs1 : s / 2 ^ x % 2 = 0
              · have hbt : (nI (l + f) < nI b.2.1 ∨ nI (l + f) = nI b.2.1 ∧ nI (t + ln c) < nI b.2.2) = (n_bt2 (l + f) (t + ln c) b = true) := by
                  unfold n_bt2
                  have q1 := hb.1
                  have q2 := hb.2.1
                  rw [decide_eq_true_eq]
                  have z1 : (nI (l + f) < nI b.2.1) = (l + f < b.2.1) := propext (nI_ltI (by omega) (by omega))
                  have z2 : (nI (l + f) = nI b.2.1) = (l + f = b.2.1) := propext (nI_eq (by omega) (by omega))
                  have z3 : (nI (t + ln c) < nI b.2.2) = (t + ln c < b.2.2) := propext (nI_ltI (by omega) (by omega))
                  rw [z1, z2, z3]
                simp (disch := omega) only [st_X3_follow_56, st_X3_follow_58, st_X3_follow_59, st_X3_follow_62, st_X3_follow_64, st_X3_follow_65, st_X3_follow_66, st_X3_follow_69, st_X3_follow_71, st_X3_follow_72, st_X3_follow_75, st_X3_follow_76, st_X3_follow_78, st_X3_follow_79, st_X3_follow_80, st_X3_follow_81, st_X3_follow_84, st_X3_follow_86, st_X3_follow_87, st_X3_follow_90, st_X3_follow_92, st_X3_follow_93, st_X3_follow_94, st_X3_follow_96, st_X3_follow_98, st_X3_follow_99, st_X3_follow_102, st_X3_follow_104, st_X3_follow_105, st_X3_follow_108, st_X3_follow_109, st_X3_follow_111, st_X3_follow_112, st_X3_follow_114, st_X3_follow_116, o_iload, o_aload, o_const, o_lconst, o_istore, o_astore, o_iinc, o_dup, o_dup2, o_pop, o_bin, o_div, o_un, o_mbin, o_mun, o_i2l, o_lcmp, o_ifeq, o_ifne, o_iflt, o_ifge, o_ifgt, o_ifle, o_icmpeq, o_icmpne, o_icmplt, o_icmpge, o_icmpgt, o_icmple, o_goto, o_getf, o_puti, o_putz, o_putr, o_iald, o_iast, o_zast, o_lald, o_last, o_aald, o_aast, o_alenO, o_new, o_newi, o_newl, o_newq, o_newqd, o_mna, o_copy, o_drop, o_cast, o_call, o_callx, o_callv, o_callvx, o_callh, o_sald, o_slen, o_switch, m_rcv, o_ireturn, o_zreturn, o_areturn, o_return, o_throw, o_null, o_dupx1, o_de, m_ent, List.getElem?_cons_zero, List.getElem?_cons_succ, List.getElem?_nil, List.set_cons_zero, List.set_cons_succ, List.length_cons, List.length_nil, List.map_cons, List.map_nil, List.replicate_succ, List.replicate_zero, List.take_succ_cons, List.take_zero, List.drop_succ_cons, List.drop_zero, List.reverse_cons, List.reverse_nil, List.cons_append, List.nil_append, List.append_nil, Option.toList_some, Option.toList_none, Nat.reduceAdd, Nat.reduceSub, Nat.reduceLeDiff, Nat.reduceLT, Nat.reduceEqDiff, Nat.le_refl, Nat.zero_le, Nat.zero_add, Nat.sub_zero, true_and, and_true, false_and, and_false, if_true, if_false, ite_true, ite_false, reduceIte, or_true, true_or, Option.isSome_some, not_true_eq_false, not_false_eq_true, forall_const, true_implies, false_implies, implies_true, ne_eq, m_gI_I, m_gJ_J, m_gQ_Q, m_gO_O, m_hp_N, m_hp_N1, m_hp_N2, m_hp_N3, m_hp_N14, m_hp_N15, m_hp_N16, m_hp_N17, m_hp_N24, m_hp_N35, m_up_N, m_up_N1, m_up_N2, m_up_N14, m_up_N15, m_up_N16, m_up_N35, m_fN_len, m_fN_0, m_fN_1, m_fN_2, m_fN_3, m_fN_4, m_fN_5, m_fN_6, m_fN_7, m_fN_8, m_fN_9, m_fN_10, m_fN_11, m_fN_12, m_fN_13, m_fN_14, m_fN_15, m_fN_s7, m_fN_s8, m_fN_s11, m_fN_s12, m_fN_s13, m_fN_s14, m_fN_s15, v_in, v_cl, n_ba_k, n_ba_ne, hfoc, h66, n_ws, hx1, v_bit, h0e, hs1, v_add, hrcc, m_hp_dy, hcsc]
                refine ⟨_, _, e_isBetter (d + k + 1) hB, ?_⟩
                rw [n_ba_13, n_ba_14]
                simp only [hbt]
                by_cases hb2 : n_bt2 (l + f) (t + ln c) b = true
                · rw [if_pos hb2, n_st_t rfl rfl ⟨hs1, hb2⟩]
                  have h10 : ((1 : Int32) = 0) = False := eq_false (by decide)
                  simp (disch := omega) only [st_X3_follow_119, st_X3_follow_122, st_X3_follow_123, st_X3_follow_124, st_X3_follow_125, st_X3_follow_126, st_X3_follow_128, st_X3_follow_129, st_X3_follow_130, st_X3_follow_132, st_X3_follow_133, st_X3_follow_134, st_X3_follow_136, st_X3_follow_137, st_X3_follow_139, st_X3_follow_140, st_X3_follow_141, st_X3_follow_143, st_X3_follow_145, o_iload, o_aload, o_const, o_lconst, o_istore, o_astore, o_iinc, o_dup, o_dup2, o_pop, o_bin, o_div, o_un, o_mbin, o_mun, o_i2l, o_lcmp, o_ifeq, o_ifne, o_iflt, o_ifge, o_ifgt, o_ifle, o_icmpeq, o_icmpne, o_icmplt, o_icmpge, o_icmpgt, o_icmple, o_goto, o_getf, o_puti, o_putz, o_putr, o_iald, o_iast, o_zast, o_lald, o_last, o_aald, o_aast, o_alenO, o_new, o_newi, o_newl, o_newq, o_newqd, o_mna, o_copy, o_drop, o_cast, o_call, o_callx, o_callv, o_callvx, o_callh, o_sald, o_slen, o_switch, m_rcv, o_ireturn, o_zreturn, o_areturn, o_return, o_throw, o_null, o_dupx1, o_de, m_ent, List.getElem?_cons_zero, List.getElem?_cons_succ, List.getElem?_nil, List.set_cons_zero, List.set_cons_succ, List.length_cons, List.length_nil, List.map_cons, List.map_nil, List.replicate_succ, List.replicate_zero, List.take_succ_cons, List.take_zero, List.drop_succ_cons, List.drop_zero, List.reverse_cons, List.reverse_nil, List.cons_append, List.nil_append, List.append_nil, Option.toList_some, Option.toList_none, Nat.reduceAdd, Nat.reduceSub, Nat.reduceLeDiff, Nat.reduceLT, Nat.reduceEqDiff, Nat.le_refl, Nat.zero_le, Nat.zero_add, Nat.sub_zero, true_and, and_true, false_and, and_false, if_true, if_false, ite_true, ite_false, reduceIte, or_true, true_or, Option.isSome_some, not_true_eq_false, not_false_eq_true, forall_const, true_implies, false_implies, implies_true, ne_eq, m_gI_I, m_gJ_J, m_gQ_Q, m_gO_O, h10, nI_1, v_shl1, v_or]
                  refine ⟨_, _, ih d (dp + 1) x _ _ _ _ b (by omega) hx (n_or_lt (n := 6) hs hx) (n_or_lt (n := 10) hw hc10) (by omega) (by omega) hb, ?_⟩
                  simp (disch := omega) only [st_X3_follow_148, st_X3_follow_151, o_iload, o_aload, o_const, o_lconst, o_istore, o_astore, o_iinc, o_dup, o_dup2, o_pop, o_bin, o_div, o_un, o_mbin, o_mun, o_i2l, o_lcmp, o_ifeq, o_ifne, o_iflt, o_ifge, o_ifgt, o_ifle, o_icmpeq, o_icmpne, o_icmplt, o_icmpge, o_icmpgt, o_icmple, o_goto, o_getf, o_puti, o_putz, o_putr, o_iald, o_iast, o_zast, o_lald, o_last, o_aald, o_aast, o_alenO, o_new, o_newi, o_newl, o_newq, o_newqd, o_mna, o_copy, o_drop, o_cast, o_call, o_callx, o_callv, o_callvx, o_callh, o_sald, o_slen, o_switch, m_rcv, o_ireturn, o_zreturn, o_areturn, o_return, o_throw, o_null, o_dupx1, o_de, m_ent, List.getElem?_cons_zero, List.getElem?_cons_succ, List.getElem?_nil, List.set_cons_zero, List.set_cons_succ, List.length_cons, List.length_nil, List.map_cons, List.map_nil, List.replicate_succ, List.replicate_zero, List.take_succ_cons, List.take_zero, List.drop_succ_cons, List.drop_zero, List.reverse_cons, List.reverse_nil, List.cons_append, List.nil_append, List.append_nil, Option.toList_some, Option.toList_none, Nat.reduceAdd, Nat.reduceSub, Nat.reduceLeDiff, Nat.reduceLT, Nat.reduceEqDiff, Nat.le_refl, Nat.zero_le, Nat.zero_add, Nat.sub_zero, true_and, and_true, false_and, and_false, if_true, if_false, ite_true, ite_false, reduceIte, or_true, true_or, Option.isSome_some, not_true_eq_false, not_false_eq_true, forall_const, true_implies, false_implies, implies_true, ne_eq, m_gI_I, m_gJ_J, m_gQ_Q, m_gO_O, nI_1]
                  exact ihm (c + 1) _ _ _ _ (by omega) (n_fw_ok hnc hf hln k (dp + 1) _ _ _ _ _ b (by omega) (n_or_lt (n := 10) hw hc10) (by omega) (by omega) hb)
                · rw [if_neg hb2, n_st_f rfl rfl (fun y => hb2 y.2)]
                  simp (disch := omega) only [st_X3_follow_119, st_X3_follow_148, st_X3_follow_151, o_iload, o_aload, o_const, o_lconst, o_istore, o_astore, o_iinc, o_dup, o_dup2, o_pop, o_bin, o_div, o_un, o_mbin, o_mun, o_i2l, o_lcmp, o_ifeq, o_ifne, o_iflt, o_ifge, o_ifgt, o_ifle, o_icmpeq, o_icmpne, o_icmplt, o_icmpge, o_icmpgt, o_icmple, o_goto, o_getf, o_puti, o_putz, o_putr, o_iald, o_iast, o_zast, o_lald, o_last, o_aald, o_aast, o_alenO, o_new, o_newi, o_newl, o_newq, o_newqd, o_mna, o_copy, o_drop, o_cast, o_call, o_callx, o_callv, o_callvx, o_callh, o_sald, o_slen, o_switch, m_rcv, o_ireturn, o_zreturn, o_areturn, o_return, o_throw, o_null, o_dupx1, o_de, m_ent, List.getElem?_cons_zero, List.getElem?_cons_succ, List.getElem?_nil, List.set_cons_zero, List.set_cons_succ, List.length_cons, List.length_nil, List.map_cons, List.map_nil, List.replicate_succ, List.replicate_zero, List.take_succ_cons, List.take_zero, List.drop_succ_cons, List.drop_zero, List.reverse_cons, List.reverse_nil, List.cons_append, List.nil_append, List.append_nil, Option.toList_some, Option.toList_none, Nat.reduceAdd, Nat.reduceSub, Nat.reduceLeDiff, Nat.reduceLT, Nat.reduceEqDiff, Nat.le_refl, Nat.zero_le, Nat.zero_add, Nat.sub_zero, true_and, and_true, false_and, and_false, if_true, if_false, ite_true, ite_false, reduceIte, or_true, true_or, Option.isSome_some, not_true_eq_false, not_false_eq_true, forall_const, true_implies, false_implies, implies_true, ne_eq, m_gI_I, m_gJ_J, m_gQ_Q, m_gO_O, nI_1]
                  exact ihm (c + 1) b _ _ _ (by omega) hb
              · simp (disch := omega) only [st_X3_follow_56, st_X3_follow_58, st_X3_follow_59, st_X3_follow_62, st_X3_follow_64, st_X3_follow_65, st_X3_follow_66, st_X3_follow_69, st_X3_follow_71, st_X3_follow_72, st_X3_follow_75, st_X3_follow_76, st_X3_follow_78, st_X3_follow_79, st_X3_follow_80, st_X3_follow_81, st_X3_follow_148, st_X3_follow_151, o_iload, o_aload, o_const, o_lconst, o_istore, o_astore, o_iinc, o_dup, o_dup2, o_pop, o_bin, o_div, o_un, o_mbin, o_mun, o_i2l, o_lcmp, o_ifeq, o_ifne, o_iflt, o_ifge, o_ifgt, o_ifle, o_icmpeq, o_icmpne, o_icmplt, o_icmpge, o_icmpgt, o_icmple, o_goto, o_getf, o_puti, o_putz, o_putr, o_iald, o_iast, o_zast, o_lald, o_last, o_aald, o_aast, o_alenO, o_new, o_newi, o_newl, o_newq, o_newqd, o_mna, o_copy, o_drop, o_cast, o_call, o_callx, o_callv, o_callvx, o_callh, o_sald, o_slen, o_switch, m_rcv, o_ireturn, o_zreturn, o_areturn, o_return, o_throw, o_null, o_dupx1, o_de, m_ent, List.getElem?_cons_zero, List.getElem?_cons_succ, List.getElem?_nil, List.set_cons_zero, List.set_cons_succ, List.length_cons, List.length_nil, List.map_cons, List.map_nil, List.replicate_succ, List.replicate_zero, List.take_succ_cons, List.take_zero, List.drop_succ_cons, List.drop_zero, List.reverse_cons, List.reverse_nil, List.cons_append, List.nil_append, List.append_nil, Option.toList_some, Option.toList_none, Nat.reduceAdd, Nat.reduceSub, Nat.reduceLeDiff, Nat.reduceLT, Nat.reduceEqDiff, Nat.le_refl, Nat.zero_le, Nat.zero_add, Nat.sub_zero, true_and, and_true, false_and, and_false, if_true, if_false, ite_true, ite_false, reduceIte, or_true, true_or, Option.isSome_some, not_true_eq_false, not_false_eq_true, forall_const, true_implies, false_implies, implies_true, ne_eq, m_gI_I, m_gJ_J, m_gQ_Q, m_gO_O, m_hp_N, m_hp_N1, m_hp_N2, m_hp_N3, m_hp_N14, m_hp_N15, m_hp_N16, m_hp_N17, m_hp_N24, m_hp_N35, m_up_N, m_up_N1, m_up_N2, m_up_N14, m_up_N15, m_up_N16, m_up_N35, m_fN_len, m_fN_0, m_fN_1, m_fN_2, m_fN_3, m_fN_4, m_fN_5, m_fN_6, m_fN_7, m_fN_8, m_fN_9, m_fN_10, m_fN_11, m_fN_12, m_fN_13, m_fN_14, m_fN_15, m_fN_s7, m_fN_s8, m_fN_s11, m_fN_s12, m_fN_s13, m_fN_s14, m_fN_s15, v_in, v_cl, n_ba_k, n_ba_ne, hfoc, nI_1, h66, n_ws, hx1, v_bit, hbit, hs1]
                rw [n_st_f rfl rfl (fun y => hs1 y.1)]
                exact ihm (c + 1) b _ _ _ (by omega) hb
      exact key nc 0 b _ _ _ (by omega) hb
