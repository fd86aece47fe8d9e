/-! Net.follow: the ways on from a landing -/
theorem v_or (a b : Nat) : nI a ||| nI b = nI (a ||| b) := by
  apply Int32.toBitVec_inj.mp
  show BitVec.ofNat 32 a ||| BitVec.ofNat 32 b = BitVec.ofNat 32 (a ||| b)
  apply BitVec.eq_of_toNat_eq
  simp only [BitVec.toNat_or, BitVec.toNat_ofNat]
  exact (Nat.or_mod_two_pow (n := 32)).symm
theorem v_shl1 {c : Nat} (hc : c < 10) : (1 : Int32) <<< (nI c &&& 31) = nI (2 ^ c) := m_fin (p := fun c => (1 : Int32) <<< (nI c &&& 31) = nI (2 ^ c)) (n := 10) (by decide +kernel) c hc
/-- a way, or none -/
def n_w : Option Nat → Int32
  | none => -1
  | some w => nI w
theorem n_w_none {o : Option Nat} (h : ∀ w, o = some w → w < 2147483648) : (n_w o = -1) = (o = none) := by
  cases o with
  | none => exact propext ⟨fun _ => rfl, fun _ => rfl⟩
  | some w =>
    refine propext ⟨fun z => ?_, fun z => by cases z⟩
    have h1 := h w rfl
    have h2 : ¬ nI w < 0 := nI_pos h1
    have z' : nI w = -1 := z
    rw [z'] at h2
    exact absurd (by decide) h2
/-- the landing at the other end -/
def n_ac (a b h : Nat) : Option Nat := if h = a then some b else if h = b then some a else none
/-- the better one of two ways -/
def n_bt2 (l g : Nat) (b : Option Nat × Nat × Nat) : Bool := decide (l < b.2.1 ∨ (l = b.2.1 ∧ g < b.2.2))
def n_up {α : Type} (f : Nat → α → α) : Nat → Nat → α → α
  | 0, _, b => b
  | m + 1, c, b => n_up f m (c + 1) (f c b)
def n_st (fo ac : Option Nat) (s w l t ln c : Nat) (go : Nat → Nat → Nat → Nat → Nat → Option Nat × Nat × Nat → Option Nat × Nat × Nat) (b : Option Nat × Nat × Nat) : Option Nat × Nat × Nat :=
  match fo, ac with
  | some f, some x => if s / 2 ^ x % 2 = 0 ∧ n_bt2 (l + f) (t + ln) b = true then go x (s ||| 2 ^ x) (w ||| 2 ^ c) (l + f) (t + ln) b else b
  | _, _ => b
def n_fw (nc : Nat) (pa pb ln : Nat → Nat) (fo : Nat → Option Nat) (g : Nat) : Nat → Nat → Nat → Nat → Nat → Nat → Option Nat × Nat × Nat → Option Nat × Nat × Nat
  | 0, h, _, w, l, t, b => if h = g then (some w, l, t) else b
  | k + 1, h, s, w, l, t, b => if h = g then (some w, l, t) else n_up (fun c b => n_st (fo c) (n_ac (pa c) (pb c) h) s w l t (ln c) c (n_fw nc pa pb ln fo g k) b) nc 0 b
/-- the heap, but for the best way of a net -/
def n_ba (ar : Nat → Nat → Int32) (B : Nat) (b : Option Nat × Nat × Nat) : Nat → Nat → Int32 := m_uf ar B (m_uf (m_uf (m_uf (ar B) 12 (n_w b.1)) 13 (nI b.2.1)) 14 (nI b.2.2))
theorem n_ba_ne {ar : Nat → Nat → Int32} {B x : Nat} {b : Option Nat × Nat × Nat} (h : x ≠ B) : n_ba ar B b x = ar x := m_uf_ne h
theorem n_ba_k {ar : Nat → Nat → Int32} {B k : Nat} {b : Option Nat × Nat × Nat} (h : k < 12) : n_ba ar B b B k = ar B k := by
  unfold n_ba
  rw [m_uf_eq]
  rw [m_uf_ne (by omega), m_uf_ne (by omega), m_uf_ne (by omega)]
theorem n_ba_12 {ar : Nat → Nat → Int32} {B : Nat} {b : Option Nat × Nat × Nat} : n_ba ar B b B 12 = n_w b.1 := by
  unfold n_ba
  rw [m_uf_eq]
  rfl
theorem n_ba_13 {ar : Nat → Nat → Int32} {B : Nat} {b : Option Nat × Nat × Nat} : n_ba ar B b B 13 = nI b.2.1 := by
  unfold n_ba
  rw [m_uf_eq]
  rfl
theorem n_ba_14 {ar : Nat → Nat → Int32} {B : Nat} {b : Option Nat × Nat × Nat} : n_ba ar B b B 14 = nI b.2.2 := by
  unfold n_ba
  rw [m_uf_eq]
  rfl
theorem n_ba_set {ar : Nat → Nat → Int32} {B w l t : Nat} {b : Option Nat × Nat × Nat} : m_uf (n_ba ar B b) B (m_uf (m_uf (m_uf (n_ba ar B b B) 12 (nI w)) 13 (nI l)) 14 (nI t)) = n_ba ar B (some w, l, t) := by
  unfold n_ba
  rw [m_uf_uu]
  refine congrArg _ ?_
  rw [m_uf_eq]
  funext k
  unfold m_uf
  split
  · rfl
  · split
    · rfl
    · split <;> rfl
theorem e_across (d : Nat) {n a la lb h : Nat} {y3 y4 y5 y6 y7 : Int32} {ar : Nat → Nat → Int32} {rq : Nat → Nat → Option Nat} {ou : Nat → Int64} {dy : Nat → m_C} (ha : 98 ≤ a) (hs : dy a = m_O 1 [.int (nI la), .int (nI lb), .int y3, .int y4, .int y5, .int y6, .int y7]) (hla : la < 6) (hlb : lb < 6) (hh : h < 6) :
    m_Ev m_cds m_my (d + 1) 1 [.ref a, .int (nI h)] (n, m_hp ar rq ou dy) (.inl (some (.int (n_w (n_ac la lb h))))) (n, m_hp ar rq ou dy) := by
  refine m_go1 my_X0_across cs_X0_across (by first | trivial | rfl) (Nat.le_of_ble_eq_true rfl) rfl ?_
  have e1 : (nI h = nI la) = (h = la) := propext (nI_eq (by omega) (by omega))
  have e2 : (nI h = nI lb) = (h = lb) := propext (nI_eq (by omega) (by omega))
  simp (disch := omega) only [mt_X0_across, st_X0_across_0, st_X0_across_1, st_X0_across_2, st_X0_across_5, st_X0_across_8, st_X0_across_9, st_X0_across_12, st_X0_across_13, st_X0_across_14, st_X0_across_15, st_X0_across_18, st_X0_across_21, st_X0_across_22, st_X0_across_25, st_X0_across_28, st_X0_across_29, o_iload, o_aload, o_const, o_lconst, o_istore, o_astore, o_iinc, o_dup, o_dup2, o_pop, o_bin, o_div, o_un, o_mbin, o_mun, o_i2l, o_lcmp, o_ifeq, o_ifne, o_iflt, o_ifge, o_ifgt, o_ifle, o_icmpeq, o_icmpne, o_icmplt, o_icmpge, o_icmpgt, o_icmple, o_goto, o_getf, o_puti, o_putz, o_putr, o_iald, o_iast, o_zast, o_lald, o_last, o_aald, o_aast, o_alenO, o_new, o_newi, o_newl, o_newq, o_newqd, o_mna, o_copy, o_drop, o_cast, o_call, o_callx, o_callv, o_callvx, o_callh, o_sald, o_slen, o_switch, m_rcv, o_ireturn, o_zreturn, o_areturn, o_return, o_throw, o_null, o_dupx1, o_de, m_ent, List.getElem?_cons_zero, List.getElem?_cons_succ, List.getElem?_nil, List.set_cons_zero, List.set_cons_succ, List.length_cons, List.length_nil, List.map_cons, List.map_nil, List.replicate_succ, List.replicate_zero, List.take_succ_cons, List.take_zero, List.drop_succ_cons, List.drop_zero, List.reverse_cons, List.reverse_nil, List.cons_append, List.nil_append, List.append_nil, Option.toList_some, Option.toList_none, Nat.reduceAdd, Nat.reduceSub, Nat.reduceLeDiff, Nat.reduceLT, Nat.reduceEqDiff, Nat.le_refl, Nat.zero_le, Nat.zero_add, Nat.sub_zero, true_and, and_true, false_and, and_false, if_true, if_false, ite_true, ite_false, reduceIte, or_true, true_or, Option.isSome_some, not_true_eq_false, not_false_eq_true, forall_const, true_implies, false_implies, implies_true, ne_eq, m_gI_I, m_gJ_J, m_gQ_Q, m_gO_O, m_hp_dy, hs, e1, e2]
  unfold n_ac
  by_cases h1 : h = la
  · simp [h1, n_w]
  · by_cases h2 : h = lb
    · have h3 : ¬ lb = la := fun z => h1 (h2.trans z)
      simp [h2, h3, n_w]
    · simp [h1, h2, n_w]
