/-! owesAnew: sales told again, the hours one after the other -/
def n_ro (h : Nat) (sd : Nat → Nat → Nat) : Nat → Nat → (Nat → Nat → Nat) → Nat × (Nat → Nat → Nat)
  | 0, i, ow => (i, ow)
  | m + 1, i, ow => if sd i 4 ≤ h then n_ro h sd m (i + 1) (m_uf ow (sd i 0) (n_hd2 (ow (sd i 0)) (sd i 1) (sd i 2) (sd i 3))) else (i, ow)
def n_rk (h : Nat) (sd : Nat → Nat → Nat) (na : Nat) : Nat → Nat → (Nat → Nat → Nat) → Prop
  | 0, _, _ => True
  | m + 1, i, ow => sd i 4 ≤ h → (sd i 0 < na ∧ sd i 3 ≤ ow (sd i 0) (sd i 1)) ∧ n_rk h sd na m (i + 1) (m_uf ow (sd i 0) (n_hd2 (ow (sd i 0)) (sd i 1) (sd i 2) (sd i 3)))
theorem y_V_hd {na nda c a b s : Nat} {ca da : Nat → Nat} {cb db ow : Nat → Nat → Nat} {wha : Nat → Nat} {ar : Nat → Nat → Int32} {rq : Nat → Nat → Option Nat} {dy : Nat → m_C} (hna : na ≤ 10) (h : y_V na nda ca da cb db wha ow ar rq dy) (hc : c < na) (ha : a < 6) (hb : b < 6) (hab : a ≠ b) (hs : s ≤ ow c a) : y_V na nda ca da cb db wha (m_uf ow c (n_hd2 (ow c) a b s)) (n_hd ar c a b (nI s)) rq dy := by
  obtain ⟨V1, V2, V3, V4, V5, V6, V7⟩ := h
  unfold n_hd
  refine ⟨by simp (disch := omega) only [m_uf_eq, m_uf_ne]; exact V1, by simp (disch := omega) only [m_uf_eq, m_uf_ne]; exact V2, V3, V4, fun i hi => ?_, fun i hi => ?_, Or.inr (by rw [m_uf_eq, m_uf_eq])⟩
  · rw [m_uf_ne (by omega), m_uf_ne (by omega)]
    exact V5 i hi
  · rw [m_uf_ne (by omega : 40 + 3 + 1 + i ≠ 40)]
    by_cases e : i = c
    · subst e
      obtain ⟨s1, s2⟩ := V6 i hc
      rw [m_uf_eq, m_uf_eq]
      have hsum := n_hd2_sum hab hs (k := 6)
      rw [if_pos ha, if_pos hb] at hsum
      refine ⟨by omega, fun j hj => ?_⟩
      show _ = nI (if j = a then ow i a - s else if j = b then ow i b + s else ow i j)
      have hrowb : upd (ar (40 + 3 + 1 + i)) a (ar (40 + 3 + 1 + i) a - nI s) b = nI (ow i b) := by rw [u_ne (fun w => hab w.symm)]; exact s2 b hb
      by_cases h2 : j = b
      · rw [if_neg (fun w => hab (w.symm.trans h2)), if_pos h2, h2, u_eq, hrowb, v_add]
      · rw [u_ne h2]
        by_cases h3 : j = a
        · rw [if_pos h3, h3, u_eq, s2 a ha, v_sub hs]
        · rw [if_neg h3, if_neg h2, u_ne h3]
          exact s2 j hj
    · rw [m_uf_ne e, m_uf_ne (by omega : 40 + 3 + 1 + i ≠ 40 + 3 + 1 + c)]
      exact V6 i hi
theorem y_V_rt {na nda h sz : Nat} {ca da : Nat → Nat} {cb db sd : Nat → Nat → Nat} {wha : Nat → Nat} {ar0 : Nat → Nat → Int32} {rq0 rq : Nat → Nat → Option Nat} {dy : Nat → m_C} (hna : na ≤ 10) (hsd : ∀ i, i < sz → sd i 1 < 6 ∧ sd i 2 < 6 ∧ sd i 1 ≠ sd i 2) :
    ∀ (m i : Nat) (ar : Nat → Nat → Int32) (ow : Nat → Nat → Nat), i + m = sz → y_V na nda ca da cb db wha ow ar rq dy → y_f ar0 rq0 ar rq → n_rk h sd na m i ow → (n_rt h sd m i ar).1 = (n_ro h sd m i ow).1 ∧ y_V na nda ca da cb db wha (n_ro h sd m i ow).2 (n_rt h sd m i ar).2 rq dy ∧ y_f ar0 rq0 (n_rt h sd m i ar).2 rq := by
  intro m
  induction m with
  | zero => intro i ar ow _ h1 h2 _; exact ⟨rfl, h1, h2⟩
  | succ m ih =>
    intro i ar ow hi h1 h2 h3
    by_cases hy : sd i 4 ≤ h
    · have e1 : n_rt h sd (m + 1) i ar = n_rt h sd m (i + 1) (n_hd ar (sd i 0) (sd i 1) (sd i 2) (nI (sd i 3))) := if_pos hy
      have e2 : n_ro h sd (m + 1) i ow = n_ro h sd m (i + 1) (m_uf ow (sd i 0) (n_hd2 (ow (sd i 0)) (sd i 1) (sd i 2) (sd i 3))) := if_pos hy
      obtain ⟨⟨k1, k2⟩, k3⟩ := h3 hy
      obtain ⟨s1, s2, s3⟩ := hsd i (by omega)
      rw [e1, e2]
      refine ih (i + 1) _ _ (by omega) (y_V_hd hna h1 k1 s1 s2 s3 k2) (y_f_trans h2 ⟨fun x hx => ?_, fun _ _ _ => rfl⟩) k3
      unfold n_hd
      rw [m_uf_ne (by omega), m_uf_ne (by omega)]
    · have e1 : n_rt h sd (m + 1) i ar = (i, ar) := if_neg hy
      have e2 : n_ro h sd (m + 1) i ow = (i, ow) := if_neg hy
      rw [e1, e2]
      exact ⟨rfl, h1, h2⟩
theorem n_ro_le {h : Nat} {sd : Nat → Nat → Nat} : ∀ {m i : Nat} {ow : Nat → Nat → Nat}, i ≤ (n_ro h sd m i ow).1 ∧ (n_ro h sd m i ow).1 ≤ i + m := by
  intro m
  induction m with
  | zero => intro i ow; exact ⟨Nat.le_refl _, Nat.le_refl _⟩
  | succ m ih =>
    intro i ow
    unfold n_ro
    split
    · have := ih (i := i + 1) (ow := m_uf ow (sd i 0) (n_hd2 (ow (sd i 0)) (sd i 1) (sd i 2) (sd i 3)))
      omega
    · exact ⟨Nat.le_refl _, by omega⟩
theorem n_ty_le {h : Nat} {db : Nat → Nat → Nat} : ∀ {m i : Nat}, i ≤ n_ty db h m i ∧ n_ty db h m i ≤ i + m := by
  intro m
  induction m with
  | zero => intro i; exact ⟨Nat.le_refl _, Nat.le_refl _⟩
  | succ m ih =>
    intro i
    unfold n_ty
    split
    · have := ih (i := i + 1); omega
    · omega
abbrev n_V : Type := Nat × Nat × (Nat → Nat) × (Nat → Nat → Nat) × Nat
abbrev n_Lg : Type := (Nat × Nat × Nat × Nat) × ((Nat → Nat → Nat) × (Nat → Nat → Nat) × (Nat → Nat → Nat) × (Nat → Nat → Nat)) × (Nat → Option Nat)
/-- an hour told again: the logs are ((nc, nd, nk, sz), (cb, db, kb, sd), kw) -/
def n_vl (G : n_Lg) (h : Nat) (V : n_V) : Nat × (Nat → Nat) × (Nat → Nat → Nat) := n_ly G.2.1.1 h (G.1.1 - V.1) (V.1, V.2.2.1, V.2.2.2.1)
def n_vr (G : n_Lg) (h : Nat) (V : n_V) : Nat × (Nat → Nat → Nat) := n_ro h G.2.1.2.2.2 (G.1.2.2.2 - V.2.2.2.2) V.2.2.2.2 (n_vl G h V).2.2
def n_vs (G : n_Lg) (h : Nat) (V : n_V) : n_V := ((n_vl G h V).1, n_ty G.2.1.2.1 h (G.1.2.1 - V.2.1) V.2.1, n_up (n_ct G.2.1.2.2.1 G.2.2 h) G.1.2.2.1 0 (n_vl G h V).2.1, (n_vr G h V).2, (n_vr G h V).1)
def n_V0 : n_V := (0, 0, (fun _ => 1), (fun _ _ => 0), 0)
def n_vb (G : n_Lg) (h : Nat) : n_V := n_up (n_vs G) h 0 n_V0
def n_vk (G : n_Lg) (h : Nat) (V : n_V) : Prop := V.1 ≤ G.1.1 ∧ V.2.1 ≤ G.1.2.1 ∧ V.2.2.2.2 ≤ G.1.2.2.2 ∧ n_rk h G.2.1.2.2.2 (n_vl G h V).1 (G.1.2.2.2 - V.2.2.2.2) V.2.2.2.2 (n_vl G h V).2.2
def n_la (G : n_Lg) (V : n_V) : n_Q := n_lead V.1 V.2.1 V.2.2.1 G.2.1.1 G.2.1.2.1 V.2.2.2.1
def n_as (G : n_Lg) (i j H : Nat) : Int32 := n_up (fun h s => s + nI ((n_la G (n_vb G (h + 1))).2.1 i j)) H 0 0
theorem n_vb_s {G : n_Lg} {h : Nat} : n_vb G (h + 1) = n_vs G h (n_vb G h) := by
  unfold n_vb
  rw [n_up_add, Nat.zero_add]
  rfl
theorem n_as_s {G : n_Lg} {i j H : Nat} : n_as G i j (H + 1) = n_as G i j H + nI ((n_la G (n_vb G (H + 1))).2.1 i j) := by
  unfold n_as
  rw [n_up_add, Nat.zero_add]
  rfl
theorem lp_an {d n nc nd nk sz hr x y : Nat} {ca da ka g : Nat → Nat} {cb db sd ow kb : Nat → Nat → Nat} {wh : Nat → Nat} {wy : Nat → Option Nat} {ln : Nat → Nat} {kw : Nat → Option Nat} {G : n_Lg} {r : m_R → m_S → Prop} {bd : Nat × Nat} {ar : Nat → Nat → Int32} {rq : Nat → Nat → Option Nat} {ou : Nat → Int64} {dy : Nat → m_C} (hC : y_C n nc ca cb ow wh ar rq dy) (hD : y_D n nd da db wy ln ar rq dy) (hK : y_K n nk ka kb kw ar rq dy) (hL : y_L n sz g sd dy) (h12 : ar 3 12 = nI hr) (hG : G = ((nc, nd, nk, sz), (cb, db, kb, sd), kw)) (hc3 : ∀ c, c < nc → cb c 3 < 6 ∧ cb c 2 ≤ 8 ∧ cb c 4 ≤ 500) (hd4 : ∀ i, i < nd → db i 4 ≤ 500) (hsd : ∀ i, i < sz → sd i 1 < 6 ∧ sd i 2 < 6 ∧ sd i 1 ≠ sd i 2) (hx : x < 6) (hy : y < 6) (hhr : hr ≤ 500) (hok : ∀ h, h < hr → n_vk G h (n_vb G h)) :
    ∀ (m h : Nat), h + m = hr → ∀ (ar1 : Nat → Nat → Int32) (rq1 : Nat → Nat → Option Nat), y_V (n_vb G h).1 (n_vb G h).2.1 ca da cb db (n_vb G h).2.2.1 (n_vb G h).2.2.2.1 ar1 rq1 dy → y_f ar rq ar1 rq1 →
      (∀ (ar2 : Nat → Nat → Int32) (rq2 : Nat → Nat → Option Nat), y_f ar rq ar2 rq2 → r (.inl (some (.int (n_as G x y hr)))) (n, m_hp ar2 rq2 ou dy)) →
      m_W1 (m_lk cd_X6_owesAnew) (m_Ev m_cds m_my (d + 9)) r 23 [some (.ref 3), some (.int (nI x)), some (.int (nI y)), some (.int (n_as G x y h)), some (.int (nI (n_vb G h).2.2.2.2)), some (.int (nI h))] [] bd (n, m_hp ar1 rq1 ou dy) := by
  have hnc := hC.1
  have hnd := hD.1
  intro m
  induction m with
  | zero =>
    intro h hh ar1 rq1 h1 h2 hE
    have e : h = hr := by omega
    subst e
    have h12' : ar1 3 12 = nI h := by rw [h2.1 3 (by omega)]; exact h12
    rw [st_X6_owesAnew_23]
    simp (disch := omega) only [st_X6_owesAnew_25, st_X6_owesAnew_26, st_X6_owesAnew_29, st_X6_owesAnew_75, st_X6_owesAnew_76, o_iload, o_aload, o_const, o_lconst, o_istore, o_astore, o_iinc, o_dup, o_dup2, o_pop, o_bin, o_div, o_un, o_mbin, o_mun, o_i2l, o_lcmp, o_ifeq, o_ifne, o_iflt, o_ifge, o_ifgt, o_ifle, o_icmpeq, o_icmpne, o_icmplt, o_icmpge, o_icmpgt, o_icmple, o_goto, o_getf, o_puti, o_putz, o_putr, o_iald, o_iast, o_zast, o_lald, o_last, o_aald, o_aast, o_alenO, o_new, o_newi, o_newl, o_newq, o_newqd, o_mna, o_copy, o_drop, o_cast, o_call, o_callx, o_callv, o_callvx, o_callh, o_sald, o_slen, o_switch, m_rcv, o_ireturn, o_zreturn, o_areturn, o_return, o_throw, o_null, o_dupx1, o_de, m_ent, List.getElem?_cons_zero, List.getElem?_cons_succ, List.getElem?_nil, List.set_cons_zero, List.set_cons_succ, List.length_cons, List.length_nil, List.map_cons, List.map_nil, List.replicate_succ, List.replicate_zero, List.take_succ_cons, List.take_zero, List.drop_succ_cons, List.drop_zero, List.reverse_cons, List.reverse_nil, List.cons_append, List.nil_append, List.append_nil, Option.toList_some, Option.toList_none, Nat.reduceAdd, Nat.reduceSub, Nat.reduceLeDiff, Nat.reduceLT, Nat.reduceEqDiff, Nat.le_refl, Nat.zero_le, Nat.zero_add, Nat.sub_zero, true_and, and_true, false_and, and_false, if_true, if_false, ite_true, ite_false, reduceIte, or_true, true_or, Option.isSome_some, not_true_eq_false, not_false_eq_true, forall_const, true_implies, false_implies, implies_true, ne_eq, m_gI_I, m_gJ_J, m_gQ_Q, m_gO_O, m_hp_3, m_hp_78, m_hp_76, m_hp_77, m_hp_79, m_hp_86, m_hp_93, m_fC_len, m_fC_0, m_fC_1, m_fC_2, m_fC_3, m_fC_4, m_fC_5, m_fC_6, m_fC_7, m_fC_8, m_fC_9, m_fC_10, m_fC_11, m_fC_12, m_fC_13, m_fC_14, m_fC_s8, m_fC_s9, m_fC_s10, m_fC_s11, m_fC_s12, m_fC_s13, m_fC_s14, h12']
    exact ⟨fun z => absurd z Int32.lt_irrefl, fun _ => hE ar1 rq1 h2⟩
  | succ m ih =>
    intro h hh ar1 rq1 h1 h2 hE
    have h12' : ar1 3 12 = nI hr := by rw [h2.1 3 (by omega)]; exact h12
    have hlt : nI h < nI hr := nI_lt (by omega) (by omega)
    obtain ⟨k1, k2, k3, k4⟩ := hok h (by omega)
    rw [st_X6_owesAnew_23]
    simp (disch := omega) only [st_X6_owesAnew_25, st_X6_owesAnew_26, st_X6_owesAnew_29, st_X6_owesAnew_32, st_X6_owesAnew_33, st_X6_owesAnew_35, o_iload, o_aload, o_const, o_lconst, o_istore, o_astore, o_iinc, o_dup, o_dup2, o_pop, o_bin, o_div, o_un, o_mbin, o_mun, o_i2l, o_lcmp, o_ifeq, o_ifne, o_iflt, o_ifge, o_ifgt, o_ifle, o_icmpeq, o_icmpne, o_icmplt, o_icmpge, o_icmpgt, o_icmple, o_goto, o_getf, o_puti, o_putz, o_putr, o_iald, o_iast, o_zast, o_lald, o_last, o_aald, o_aast, o_alenO, o_new, o_newi, o_newl, o_newq, o_newqd, o_mna, o_copy, o_drop, o_cast, o_call, o_callx, o_callv, o_callvx, o_callh, o_sald, o_slen, o_switch, m_rcv, o_ireturn, o_zreturn, o_areturn, o_return, o_throw, o_null, o_dupx1, o_de, m_ent, List.getElem?_cons_zero, List.getElem?_cons_succ, List.getElem?_nil, List.set_cons_zero, List.set_cons_succ, List.length_cons, List.length_nil, List.map_cons, List.map_nil, List.replicate_succ, List.replicate_zero, List.take_succ_cons, List.take_zero, List.drop_succ_cons, List.drop_zero, List.reverse_cons, List.reverse_nil, List.cons_append, List.nil_append, List.append_nil, Option.toList_some, Option.toList_none, Nat.reduceAdd, Nat.reduceSub, Nat.reduceLeDiff, Nat.reduceLT, Nat.reduceEqDiff, Nat.le_refl, Nat.zero_le, Nat.zero_add, Nat.sub_zero, true_and, and_true, false_and, and_false, if_true, if_false, ite_true, ite_false, reduceIte, or_true, true_or, Option.isSome_some, not_true_eq_false, not_false_eq_true, forall_const, true_implies, false_implies, implies_true, ne_eq, m_gI_I, m_gJ_J, m_gQ_Q, m_gO_O, m_hp_3, m_hp_78, m_hp_76, m_hp_77, m_hp_79, m_hp_86, m_hp_93, m_fC_len, m_fC_0, m_fC_1, m_fC_2, m_fC_3, m_fC_4, m_fC_5, m_fC_6, m_fC_7, m_fC_8, m_fC_9, m_fC_10, m_fC_11, m_fC_12, m_fC_13, m_fC_14, m_fC_s8, m_fC_s9, m_fC_s10, m_fC_s11, m_fC_s12, m_fC_s13, m_fC_s14, h12', hlt]
    have hs := n_vb_s (G := G) (h := h)
    have e1 : (n_vb G (h + 1)).1 = (n_ly cb h (nc - (n_vb G h).1) ((n_vb G h).1, (n_vb G h).2.2.1, (n_vb G h).2.2.2.1)).1 := by rw [hs, hG]; rfl
    have e2 : (n_vb G (h + 1)).2.1 = n_ty db h (nd - (n_vb G h).2.1) (n_vb G h).2.1 := by rw [hs, hG]; rfl
    have e3 : (n_vb G (h + 1)).2.2.1 = n_up (n_ct kb kw h) nk 0 (n_ly cb h (nc - (n_vb G h).1) ((n_vb G h).1, (n_vb G h).2.2.1, (n_vb G h).2.2.2.1)).2.1 := by rw [hs, hG]; rfl
    have e4 : (n_vb G (h + 1)).2.2.2.1 = (n_ro h sd (sz - (n_vb G h).2.2.2.2) (n_vb G h).2.2.2.2 (n_ly cb h (nc - (n_vb G h).1) ((n_vb G h).1, (n_vb G h).2.2.1, (n_vb G h).2.2.2.1)).2.2).2 := by rw [hs, hG]; rfl
    have e5 : (n_vb G (h + 1)).2.2.2.2 = (n_ro h sd (sz - (n_vb G h).2.2.2.2) (n_vb G h).2.2.2.2 (n_ly cb h (nc - (n_vb G h).1) ((n_vb G h).1, (n_vb G h).2.2.1, (n_vb G h).2.2.2.1)).2.2).1 := by rw [hs, hG]; rfl
    have k1' : (n_vb G h).1 ≤ nc := by rw [hG] at k1 ⊢; exact k1
    have k2' : (n_vb G h).2.1 ≤ nd := by rw [hG] at k2 ⊢; exact k2
    have k3' : (n_vb G h).2.2.2.2 ≤ sz := by rw [hG] at k3 ⊢; exact k3
    have k4' : n_rk h sd (n_ly cb h (nc - (n_vb G h).1) ((n_vb G h).1, (n_vb G h).2.2.1, (n_vb G h).2.2.2.1)).1 (sz - (n_vb G h).2.2.2.2) (n_vb G h).2.2.2.2 (n_ly cb h (nc - (n_vb G h).1) ((n_vb G h).1, (n_vb G h).2.2.1, (n_vb G h).2.2.2.1)).2.2 := by rw [hG] at k4 ⊢; exact k4
    obtain ⟨S1, hE1, ar2, rq2, rfl, g1, g2⟩ := e_retellNet (d + 7) (ou := ou) hC hD hK hc3 hd4 (show h ≤ 500 by omega) k1' k2' h1 h2
    refine ⟨_, _, hE1, ?_⟩
    rw [← e1, ← e2, ← e3] at g1
    rw [← e1] at k4'
    have hn1 : (n_vb G (h + 1)).1 ≤ 10 := by rw [e1]; have := (n_ly_le (cb := cb) (h := h) (m := nc - (n_vb G h).1) (s := ((n_vb G h).1, (n_vb G h).2.2.1, (n_vb G h).2.2.2.1))).2; simp only at this; omega
    have hn2 : (n_vb G (h + 1)).2.1 ≤ 10 := by rw [e2]; have := (n_ty_le (h := h) (db := db) (m := nd - (n_vb G h).2.1) (i := (n_vb G h).2.1)).2; omega
    simp (disch := omega) only [st_X6_owesAnew_38, st_X6_owesAnew_39, st_X6_owesAnew_41, st_X6_owesAnew_43, o_iload, o_aload, o_const, o_lconst, o_istore, o_astore, o_iinc, o_dup, o_dup2, o_pop, o_bin, o_div, o_un, o_mbin, o_mun, o_i2l, o_lcmp, o_ifeq, o_ifne, o_iflt, o_ifge, o_ifgt, o_ifle, o_icmpeq, o_icmpne, o_icmplt, o_icmpge, o_icmpgt, o_icmple, o_goto, o_getf, o_puti, o_putz, o_putr, o_iald, o_iast, o_zast, o_lald, o_last, o_aald, o_aast, o_alenO, o_new, o_newi, o_newl, o_newq, o_newqd, o_mna, o_copy, o_drop, o_cast, o_call, o_callx, o_callv, o_callvx, o_callh, o_sald, o_slen, o_switch, m_rcv, o_ireturn, o_zreturn, o_areturn, o_return, o_throw, o_null, o_dupx1, o_de, m_ent, List.getElem?_cons_zero, List.getElem?_cons_succ, List.getElem?_nil, List.set_cons_zero, List.set_cons_succ, List.length_cons, List.length_nil, List.map_cons, List.map_nil, List.replicate_succ, List.replicate_zero, List.take_succ_cons, List.take_zero, List.drop_succ_cons, List.drop_zero, List.reverse_cons, List.reverse_nil, List.cons_append, List.nil_append, List.append_nil, Option.toList_some, Option.toList_none, Nat.reduceAdd, Nat.reduceSub, Nat.reduceLeDiff, Nat.reduceLT, Nat.reduceEqDiff, Nat.le_refl, Nat.zero_le, Nat.zero_add, Nat.sub_zero, true_and, and_true, false_and, and_false, if_true, if_false, ite_true, ite_false, reduceIte, or_true, true_or, Option.isSome_some, not_true_eq_false, not_false_eq_true, forall_const, true_implies, false_implies, implies_true, ne_eq, m_gI_I, m_gJ_J, m_gQ_Q, m_gO_O, m_hp_3, m_hp_78, m_hp_76, m_hp_77, m_hp_79, m_hp_86, m_hp_93]
    have hE2 := e_retellSales (d + 5) (n := n) (h := h) (i := (n_vb G h).2.2.2.2) (ar := ar2) (rq := rq2) (ou := ou) hL.1 (by omega) hL.2.1 hL.2.2.2 k3'
    refine ⟨_, _, hE2, ?_⟩
    obtain ⟨p1, p2, p3⟩ := y_V_rt (h := h) (sz := sz) (sd := sd) hn1 hsd (sz - (n_vb G h).2.2.2.2) (n_vb G h).2.2.2.2 ar2 _ (by omega) g1 g2 k4'
    rw [p1, ← e5]
    rw [← e4] at p2
    generalize (n_rt h sd (sz - (n_vb G h).2.2.2.2) (n_vb G h).2.2.2.2 ar2).2 = ar3 at p2 p3 ⊢
    simp (disch := omega) only [st_X6_owesAnew_46, st_X6_owesAnew_48, st_X6_owesAnew_49, st_X6_owesAnew_52, o_iload, o_aload, o_const, o_lconst, o_istore, o_astore, o_iinc, o_dup, o_dup2, o_pop, o_bin, o_div, o_un, o_mbin, o_mun, o_i2l, o_lcmp, o_ifeq, o_ifne, o_iflt, o_ifge, o_ifgt, o_ifle, o_icmpeq, o_icmpne, o_icmplt, o_icmpge, o_icmpgt, o_icmple, o_goto, o_getf, o_puti, o_putz, o_putr, o_iald, o_iast, o_zast, o_lald, o_last, o_aald, o_aast, o_alenO, o_new, o_newi, o_newl, o_newq, o_newqd, o_mna, o_copy, o_drop, o_cast, o_call, o_callx, o_callv, o_callvx, o_callh, o_sald, o_slen, o_switch, m_rcv, o_ireturn, o_zreturn, o_areturn, o_return, o_throw, o_null, o_dupx1, o_de, m_ent, List.getElem?_cons_zero, List.getElem?_cons_succ, List.getElem?_nil, List.set_cons_zero, List.set_cons_succ, List.length_cons, List.length_nil, List.map_cons, List.map_nil, List.replicate_succ, List.replicate_zero, List.take_succ_cons, List.take_zero, List.drop_succ_cons, List.drop_zero, List.reverse_cons, List.reverse_nil, List.cons_append, List.nil_append, List.append_nil, Option.toList_some, Option.toList_none, Nat.reduceAdd, Nat.reduceSub, Nat.reduceLeDiff, Nat.reduceLT, Nat.reduceEqDiff, Nat.le_refl, Nat.zero_le, Nat.zero_add, Nat.sub_zero, true_and, and_true, false_and, and_false, if_true, if_false, ite_true, ite_false, reduceIte, or_true, true_or, Option.isSome_some, not_true_eq_false, not_false_eq_true, forall_const, true_implies, false_implies, implies_true, ne_eq, m_gI_I, m_gJ_J, m_gQ_Q, m_gO_O, m_hp_3, m_hp_78, m_hp_76, m_hp_77, m_hp_79, m_hp_86, m_hp_93, m_fC_len, m_fC_0, m_fC_1, m_fC_2, m_fC_3, m_fC_4, m_fC_5, m_fC_6, m_fC_7, m_fC_8, m_fC_9, m_fC_10, m_fC_11, m_fC_12, m_fC_13, m_fC_14, m_fC_s8, m_fC_s9, m_fC_s10, m_fC_s11, m_fC_s12, m_fC_s13, m_fC_s14]
    obtain ⟨V1, V2, V3, V4, V5, V6, V7⟩ := p2
    obtain ⟨S3, hE3, ar4, rfl, w1, w2, w3, w4⟩ := e_lead d (B := 40) (n := n) (ou := ou) (Or.inr rfl) hn1 hn2 V1 V2 V3 V4 V5 (fun c hc j hj => ⟨(V6 c hc).2 j hj, by have h1 := (V6 c hc).1; have h2 := n_sum_ge (f := (n_vb G (h + 1)).2.2.2.1 c) hj; omega⟩) V7
    refine ⟨by rw [m_hp_N (Or.inr rfl), m_gO_O]; rfl, _, _, hE3, ?_⟩
    have eN : m_hp ar4 rq2 ou dy 40 = m_O 4 (m_fN 40 (ar4 40)) := m_hp_N (Or.inr rfl)
    have eN17 : m_hp ar4 rq2 ou dy (40 + 17) = m_Q 3 6 (fun i => if i < 6 then some (40 + 17 + 1 + i) else none) := m_hp_N17 (Or.inr rfl)
    have eNr : m_hp ar4 rq2 ou dy (40 + 17 + 1 + x) = m_I 0 6 (ar4 (40 + 17 + 1 + x)) := m_hp_Nr17 (Or.inr rfl) hx
    have hval := w2.2.1 x hx y hy
    simp (disch := omega) only [st_X6_owesAnew_55, st_X6_owesAnew_56, st_X6_owesAnew_57, st_X6_owesAnew_60, st_X6_owesAnew_63, st_X6_owesAnew_64, st_X6_owesAnew_65, st_X6_owesAnew_66, st_X6_owesAnew_67, st_X6_owesAnew_68, st_X6_owesAnew_69, st_X6_owesAnew_72, o_iload, o_aload, o_const, o_lconst, o_istore, o_astore, o_iinc, o_dup, o_dup2, o_pop, o_bin, o_div, o_un, o_mbin, o_mun, o_i2l, o_lcmp, o_ifeq, o_ifne, o_iflt, o_ifge, o_ifgt, o_ifle, o_icmpeq, o_icmpne, o_icmplt, o_icmpge, o_icmpgt, o_icmple, o_goto, o_getf, o_puti, o_putz, o_putr, o_iald, o_iast, o_zast, o_lald, o_last, o_aald, o_aast, o_alenO, o_new, o_newi, o_newl, o_newq, o_newqd, o_mna, o_copy, o_drop, o_cast, o_call, o_callx, o_callv, o_callvx, o_callh, o_sald, o_slen, o_switch, m_rcv, o_ireturn, o_zreturn, o_areturn, o_return, o_throw, o_null, o_dupx1, o_de, m_ent, List.getElem?_cons_zero, List.getElem?_cons_succ, List.getElem?_nil, List.set_cons_zero, List.set_cons_succ, List.length_cons, List.length_nil, List.map_cons, List.map_nil, List.replicate_succ, List.replicate_zero, List.take_succ_cons, List.take_zero, List.drop_succ_cons, List.drop_zero, List.reverse_cons, List.reverse_nil, List.cons_append, List.nil_append, List.append_nil, Option.toList_some, Option.toList_none, Nat.reduceAdd, Nat.reduceSub, Nat.reduceLeDiff, Nat.reduceLT, Nat.reduceEqDiff, Nat.le_refl, Nat.zero_le, Nat.zero_add, Nat.sub_zero, true_and, and_true, false_and, and_false, if_true, if_false, ite_true, ite_false, reduceIte, or_true, true_or, Option.isSome_some, not_true_eq_false, not_false_eq_true, forall_const, true_implies, false_implies, implies_true, ne_eq, m_gI_I, m_gJ_J, m_gQ_Q, m_gO_O, m_hp_3, m_hp_78, m_hp_76, m_hp_77, m_hp_79, m_hp_86, m_hp_93, m_fC_len, m_fC_0, m_fC_1, m_fC_2, m_fC_3, m_fC_4, m_fC_5, m_fC_6, m_fC_7, m_fC_8, m_fC_9, m_fC_10, m_fC_11, m_fC_12, m_fC_13, m_fC_14, m_fC_s8, m_fC_s9, m_fC_s10, m_fC_s11, m_fC_s12, m_fC_s13, m_fC_s14, m_fN_len, m_fN_0, m_fN_1, m_fN_2, m_fN_3, m_fN_4, m_fN_5, m_fN_6, m_fN_7, m_fN_8, m_fN_9, m_fN_10, m_fN_11, m_fN_12, m_fN_13, m_fN_14, m_fN_15, m_fN_s7, m_fN_s8, m_fN_s11, m_fN_s12, m_fN_s13, m_fN_s14, m_fN_s15, eN, eN17, eNr, v_in, v_cl, hx, hval, nI_1]
    have hla : n_lead (n_vb G (h + 1)).1 (n_vb G (h + 1)).2.1 (n_vb G (h + 1)).2.2.1 cb db (n_vb G (h + 1)).2.2.2.1 = n_la G (n_vb G (h + 1)) := by unfold n_la; rw [hG]
    rw [hla, ← n_as_s]
    refine ih (h + 1) (by omega) ar4 rq2 ⟨by rw [w3 7 (by omega)]; exact V1, by rw [w3 8 (by omega)]; exact V2, V3, V4, fun c hc => ?_, fun c hc => ⟨(V6 c hc).1, fun j hj => ?_⟩, Or.inl ⟨w1, w2⟩⟩ (y_f_trans p3 ⟨fun q hq => ?_, fun _ _ _ => rfl⟩) hE
    · rw [w4 (40 + 2) (by omega) (by omega) (by omega) (by omega) (by omega)]
      exact V5 c hc
    · rw [w4 _ (by omega) (by omega) (by omega) (by omega) (by omega)]
      exact (V6 c hc).2 j hj
    · exact w4 q (by omega) (by omega) (by omega) (by omega) (by omega)
theorem e_owesAnew (d : Nat) {n nc nd nk sz hr : Nat} {x y : Int32} {ca da ka g : Nat → Nat} {cb db sd ow kb : Nat → Nat → Nat} {wh : Nat → Nat} {wy : Nat → Option Nat} {ln : Nat → Nat} {kw : Nat → Option Nat} {G : n_Lg} {ar : Nat → Nat → Int32} {rq : Nat → Nat → Option Nat} {ou : Nat → Int64} {dy : Nat → m_C} (hC : y_C n nc ca cb ow wh ar rq dy) (hD : y_D n nd da db wy ln ar rq dy) (hK : y_K n nk ka kb kw ar rq dy) (hL : y_L n sz g sd dy) (h12 : ar 3 12 = nI hr) (hG : G = ((nc, nd, nk, sz), (cb, db, kb, sd), kw)) (hc3 : ∀ c, c < nc → cb c 3 < 6 ∧ cb c 2 ≤ 8 ∧ cb c 4 ≤ 500) (hd4 : ∀ i, i < nd → db i 4 ≤ 500) (hsd : ∀ i, i < sz → sd i 1 < 6 ∧ sd i 2 < 6 ∧ sd i 1 ≠ sd i 2) (hhr : hr ≤ 500) (hok : ∀ h, h < hr → n_vk G h (n_vb G h)) :
    ∃ (o : m_R) (S' : m_S), m_Ev m_cds m_my (d + 10) 37 [.ref 3, .int x, .int y] (n, m_hp ar rq ou dy) o S' ∧ (∃ (ar2 : Nat → Nat → Int32) (rq2 : Nat → Nat → Option Nat), S' = (n, m_hp ar2 rq2 ou dy) ∧ y_f ar rq ar2 rq2) ∧ (if (¬ x < 0 ∧ x < 6) ∧ (¬ y < 0 ∧ y < 6) then o = .inl (some (.int (n_as G x.toNatClampNeg y.toNatClampNeg hr))) else o = .inr m_ios ∧ S' = (n, m_hp ar rq ou dy)) := by
  refine m_goX my_X6_owesAnew cs_X6_owesAnew mm_X6_owesAnew xm_X6_owesAnew (fun o S' h => ?_) (Nat.le_of_ble_eq_true rfl) rfl ?_
  · obtain ⟨_, h⟩ := h
    split at h
    · subst h; trivial
    · obtain ⟨rfl, _⟩ := h; rfl
  simp (disch := omega) only [mt_X6_owesAnew, st_X6_owesAnew_0, st_X6_owesAnew_1, o_iload, o_aload, o_const, o_lconst, o_istore, o_astore, o_iinc, o_dup, o_dup2, o_pop, o_bin, o_div, o_un, o_mbin, o_mun, o_i2l, o_lcmp, o_ifeq, o_ifne, o_iflt, o_ifge, o_ifgt, o_ifle, o_icmpeq, o_icmpne, o_icmplt, o_icmpge, o_icmpgt, o_icmple, o_goto, o_getf, o_puti, o_putz, o_putr, o_iald, o_iast, o_zast, o_lald, o_last, o_aald, o_aast, o_alenO, o_new, o_newi, o_newl, o_newq, o_newqd, o_mna, o_copy, o_drop, o_cast, o_call, o_callx, o_callv, o_callvx, o_callh, o_sald, o_slen, o_switch, m_rcv, o_ireturn, o_zreturn, o_areturn, o_return, o_throw, o_null, o_dupx1, o_de, m_ent, List.getElem?_cons_zero, List.getElem?_cons_succ, List.getElem?_nil, List.set_cons_zero, List.set_cons_succ, List.length_cons, List.length_nil, List.map_cons, List.map_nil, List.replicate_succ, List.replicate_zero, List.take_succ_cons, List.take_zero, List.drop_succ_cons, List.drop_zero, List.reverse_cons, List.reverse_nil, List.cons_append, List.nil_append, List.append_nil, Option.toList_some, Option.toList_none, Nat.reduceAdd, Nat.reduceSub, Nat.reduceLeDiff, Nat.reduceLT, Nat.reduceEqDiff, Nat.le_refl, Nat.zero_le, Nat.zero_add, Nat.sub_zero, true_and, and_true, false_and, and_false, if_true, if_false, ite_true, ite_false, reduceIte, or_true, true_or, Option.isSome_some, not_true_eq_false, not_false_eq_true, forall_const, true_implies, false_implies, implies_true, ne_eq, m_gI_I, m_gJ_J, m_gQ_Q, m_gO_O]
  refine k_c (e_checkMember (d + 8) x _) (fun w => ⟨⟨ar, rq, rfl, y_f_refl⟩, by rw [if_neg (fun z => w z.1)]; exact ⟨rfl, rfl⟩⟩) (fun w1 => ?_)
  simp (disch := omega) only [st_X6_owesAnew_4, st_X6_owesAnew_5, o_iload, o_aload, o_const, o_lconst, o_istore, o_astore, o_iinc, o_dup, o_dup2, o_pop, o_bin, o_div, o_un, o_mbin, o_mun, o_i2l, o_lcmp, o_ifeq, o_ifne, o_iflt, o_ifge, o_ifgt, o_ifle, o_icmpeq, o_icmpne, o_icmplt, o_icmpge, o_icmpgt, o_icmple, o_goto, o_getf, o_puti, o_putz, o_putr, o_iald, o_iast, o_zast, o_lald, o_last, o_aald, o_aast, o_alenO, o_new, o_newi, o_newl, o_newq, o_newqd, o_mna, o_copy, o_drop, o_cast, o_call, o_callx, o_callv, o_callvx, o_callh, o_sald, o_slen, o_switch, m_rcv, o_ireturn, o_zreturn, o_areturn, o_return, o_throw, o_null, o_dupx1, o_de, m_ent, List.getElem?_cons_zero, List.getElem?_cons_succ, List.getElem?_nil, List.set_cons_zero, List.set_cons_succ, List.length_cons, List.length_nil, List.map_cons, List.map_nil, List.replicate_succ, List.replicate_zero, List.take_succ_cons, List.take_zero, List.drop_succ_cons, List.drop_zero, List.reverse_cons, List.reverse_nil, List.cons_append, List.nil_append, List.append_nil, Option.toList_some, Option.toList_none, Nat.reduceAdd, Nat.reduceSub, Nat.reduceLeDiff, Nat.reduceLT, Nat.reduceEqDiff, Nat.le_refl, Nat.zero_le, Nat.zero_add, Nat.sub_zero, true_and, and_true, false_and, and_false, if_true, if_false, ite_true, ite_false, reduceIte, or_true, true_or, Option.isSome_some, not_true_eq_false, not_false_eq_true, forall_const, true_implies, false_implies, implies_true, ne_eq, m_gI_I, m_gJ_J, m_gQ_Q, m_gO_O]
  refine k_c (e_checkMember (d + 8) y _) (fun w => ⟨⟨ar, rq, rfl, y_f_refl⟩, by rw [if_neg (fun z => w z.2)]; exact ⟨rfl, rfl⟩⟩) (fun w2 => ?_)
  simp only [if_pos (And.intro w1 w2)]
  obtain ⟨a, ha, e1, e2⟩ := n_ok_of (n := 6) (by omega) w1
  obtain ⟨b, hb, e3, e4⟩ := n_ok_of (n := 6) (by omega) w2
  rw [e2, e4]
  subst e1 e3
  simp (disch := omega) only [st_X6_owesAnew_8, st_X6_owesAnew_9, o_iload, o_aload, o_const, o_lconst, o_istore, o_astore, o_iinc, o_dup, o_dup2, o_pop, o_bin, o_div, o_un, o_mbin, o_mun, o_i2l, o_lcmp, o_ifeq, o_ifne, o_iflt, o_ifge, o_ifgt, o_ifle, o_icmpeq, o_icmpne, o_icmplt, o_icmpge, o_icmpgt, o_icmple, o_goto, o_getf, o_puti, o_putz, o_putr, o_iald, o_iast, o_zast, o_lald, o_last, o_aald, o_aast, o_alenO, o_new, o_newi, o_newl, o_newq, o_newqd, o_mna, o_copy, o_drop, o_cast, o_call, o_callx, o_callv, o_callvx, o_callh, o_sald, o_slen, o_switch, m_rcv, o_ireturn, o_zreturn, o_areturn, o_return, o_throw, o_null, o_dupx1, o_de, m_ent, List.getElem?_cons_zero, List.getElem?_cons_succ, List.getElem?_nil, List.set_cons_zero, List.set_cons_succ, List.length_cons, List.length_nil, List.map_cons, List.map_nil, List.replicate_succ, List.replicate_zero, List.take_succ_cons, List.take_zero, List.drop_succ_cons, List.drop_zero, List.reverse_cons, List.reverse_nil, List.cons_append, List.nil_append, List.append_nil, Option.toList_some, Option.toList_none, Nat.reduceAdd, Nat.reduceSub, Nat.reduceLeDiff, Nat.reduceLT, Nat.reduceEqDiff, Nat.le_refl, Nat.zero_le, Nat.zero_add, Nat.sub_zero, true_and, and_true, false_and, and_false, if_true, if_false, ite_true, ite_false, reduceIte, or_true, true_or, Option.isSome_some, not_true_eq_false, not_false_eq_true, forall_const, true_implies, false_implies, implies_true, ne_eq, m_gI_I, m_gJ_J, m_gQ_Q, m_gO_O, m_hp_3, m_hp_78, m_hp_76, m_hp_77, m_hp_79, m_hp_86, m_hp_93, m_fC_len, m_fC_0, m_fC_1, m_fC_2, m_fC_3, m_fC_4, m_fC_5, m_fC_6, m_fC_7, m_fC_8, m_fC_9, m_fC_10, m_fC_11, m_fC_12, m_fC_13, m_fC_14, m_fC_s8, m_fC_s9, m_fC_s10, m_fC_s11, m_fC_s12, m_fC_s13, m_fC_s14]
  rw [st_X6_owesAnew_12]
  refine ⟨by show (m_gO 4 (m_hp ar rq ou dy 40)).isSome = true; rw [m_hp_N (Or.inr rfl), m_gO_O]; rfl, by show 1 ≤ 1; omega, by show 1 ≤ 1 + 4; omega, by show 0 ≤ _; omega, by show 0 ≤ _; omega, _, _, e_clear (d + 8) (B := 40) (Or.inr rfl), ?_⟩
  simp (disch := omega) only [st_X6_owesAnew_15, st_X6_owesAnew_16, st_X6_owesAnew_17, st_X6_owesAnew_18, st_X6_owesAnew_20, st_X6_owesAnew_21, o_iload, o_aload, o_const, o_lconst, o_istore, o_astore, o_iinc, o_dup, o_dup2, o_pop, o_bin, o_div, o_un, o_mbin, o_mun, o_i2l, o_lcmp, o_ifeq, o_ifne, o_iflt, o_ifge, o_ifgt, o_ifle, o_icmpeq, o_icmpne, o_icmplt, o_icmpge, o_icmpgt, o_icmple, o_goto, o_getf, o_puti, o_putz, o_putr, o_iald, o_iast, o_zast, o_lald, o_last, o_aald, o_aast, o_alenO, o_new, o_newi, o_newl, o_newq, o_newqd, o_mna, o_copy, o_drop, o_cast, o_call, o_callx, o_callv, o_callvx, o_callh, o_sald, o_slen, o_switch, m_rcv, o_ireturn, o_zreturn, o_areturn, o_return, o_throw, o_null, o_dupx1, o_de, m_ent, List.getElem?_cons_zero, List.getElem?_cons_succ, List.getElem?_nil, List.set_cons_zero, List.set_cons_succ, List.length_cons, List.length_nil, List.map_cons, List.map_nil, List.replicate_succ, List.replicate_zero, List.take_succ_cons, List.take_zero, List.drop_succ_cons, List.drop_zero, List.reverse_cons, List.reverse_nil, List.cons_append, List.nil_append, List.append_nil, Option.toList_some, Option.toList_none, Nat.reduceAdd, Nat.reduceSub, Nat.reduceLeDiff, Nat.reduceLT, Nat.reduceEqDiff, Nat.le_refl, Nat.zero_le, Nat.zero_add, Nat.sub_zero, true_and, and_true, false_and, and_false, if_true, if_false, ite_true, ite_false, reduceIte, or_true, true_or, Option.isSome_some, not_true_eq_false, not_false_eq_true, forall_const, true_implies, false_implies, implies_true, ne_eq, m_gI_I, m_gJ_J, m_gQ_Q, m_gO_O]
  refine lp_an (x := a) (y := b) hC hD hK hL h12 hG hc3 hd4 hsd ha hb hhr hok hr 0 (by omega) _ rq ⟨?_, ?_, fun c hc => ?_, fun c hc => ?_, fun c hc => ?_, fun c hc => ?_, Or.inr ?_⟩ ⟨fun q hq => ?_, fun _ _ _ => rfl⟩ (fun ar2 rq2 g1 => ⟨⟨ar2, rq2, rfl, g1⟩, rfl⟩)
  · simp (disch := omega) only [m_uf_eq, m_uf_ne]; rfl
  · simp (disch := omega) only [m_uf_eq, m_uf_ne]; rfl
  · exact absurd hc (Nat.not_lt_zero c)
  · exact absurd hc (Nat.not_lt_zero c)
  · exact absurd hc (Nat.not_lt_zero c)
  · exact absurd hc (Nat.not_lt_zero c)
  · rw [m_uf_eq, m_uf_eq]
  · exact m_uf_ne (by omega)
