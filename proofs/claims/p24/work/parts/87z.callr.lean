/-! a static call over up to eight values of one word (the law's calls of at) -/
def o_callR (y n c1 c2 nx : Nat) : m_Op := fun call lo st bd S kk _ => n ≤ st.length ∧ st.length ≤ n + 8 ∧ m_c1 (st.drop n) = true ∧ c1 ≤ bd.1 ∧ c2 ≤ bd.2 ∧ ∃ (ov : Option Value) (S' : m_S), call y (st.take n).reverse S (.inl ov) S' ∧ kk nx lo (ov.toList ++ st.drop n) (bd.1 - c1, bd.2 - c2) S'
theorem mo_callR {y n c1 c2 nx : Nat} : m_mono (o_callR y n c1 c2 nx) := by
  intro call lo st bd S kk kk' r hk h
  obtain ⟨h1, h2, h0, h3, h4, ov, S2, h5, h6⟩ := h
  exact ⟨h1, h2, h0, h3, h4, ov, S2, h5, hk _ _ _ _ _ h6⟩
theorem ex_callR {y n c1 c2 nx : Nat} : m_ex (o_callR y n c1 c2 nx) := by
  intro Z call lo st bd S K R h
  obtain ⟨h1, h2, h0, h3, h4, ov, S2, h5, z, h6⟩ := h
  exact ⟨z, h1, h2, h0, h3, h4, ov, S2, h5, h6⟩
theorem m_cat_1 (ad : Nat → Nat) : ∀ (l : List Value), m_c1 l = true → ((l.map (m_v ad)).map fun v => v.category).sum = l.length := by
  intro l
  induction l with
  | nil => intro _; rfl
  | cons v t ih =>
    intro h
    have h1 := m_c1_of h v List.mem_cons_self
    have h2 : m_c1 t = true := by cases v <;> first | exact h | cases h
    simp only [List.map_cons, List.sum_cons, List.length_cons]
    rw [ih h2, m_vcat, h1]
    omega
theorem ok_callsR {GP : m_G → Prop} {my : Nat → m_T} {E : m_E} {pc nx : Nat} {y n c1 c2 idx : Nat} {T : m_T} (hT : my y = T) (hcw : T.2.1 = Cond.code T.1 T.2.2.1 T.2.2.2.1 T.2.2.2.2.1) (hcm : T.2.1 ∈ m_WS) (hm1 : T.2.2.2.2.2.1 = c1) (hm2 : T.2.2.2.2.2.2 = c2) (hL : T.2.2.2.1 ≤ 21) (hlk0 : Cond.methodLink E.2.2.1 idx T.1 ∈ m_WS) (hst0 : Cond.static T.1 ∈ m_WS) (hi0 : Cond.initialized T.1.cls ∈ m_WS) (hdd : T.1.cls ≠ "java/lang/invoke/MethodHandle" ∧ T.1.cls ≠ "java/lang/invoke/VarHandle" ∧ (parseMethodDescriptor T.1.desc).map (fun d => d.parameters.length) = some n) (hd : decode E.1 pc = .ok (.invokestatic idx, 3)) (hn : pc + 3 = nx) : m_OK GP my E pc (o_callR y n c1 c2 nx) := by
  subst hn; subst hm1; subst hm2
  intro l G p e R s m args below meth c dp call n0 ad0 mc ms Q r kk hGP hC hcall hmc hms hE hk lo st bd S h ad ls H locs cells slots had hn0 hR hS hl hlo hst hc hs
  obtain ⟨hx, hb, hml, hown, hts, hK, hsz, hini, hlk, hfr, hlc, hX, hXF, hXT⟩ := hC
  obtain ⟨hn1, hn2, hn3, hc1, hc2, ov, S', hcl, h⟩ := h
  have hcon := hcall _ _ _ _ _ hcl
  rw [hT] at hcon
  have hM := hcon.met ad (fun v hv => hst v (List.mem_of_mem_take (List.mem_reverse.mp hv)))
  have hle := m_cat_1 ad (st.drop n) hn3
  rw [List.length_drop] at hle
  have hrun := va_runS (n := n) (As := (st.take n).reverse.map (m_v ad)) (rest := (st.drop n).map (m_v ad)) (e := e) (meth := meth) (below := below) (g := F0 m pc ls (st.map (m_v ad))) (cells := cells) (slots := slots) (locs := locs) ⟨hx, hb, hml, hown, hts⟩ hM (va_cwS n hts (m_good (fun w hw => by
    simp only [va_wsS, List.cons_append, List.nil_append, List.mem_cons] at hw
    rcases hw with rfl | rfl | rfl | rfl | hw
    · exact hlk0
    · exact hst0
    · exact hi0
    · exact hcm
    · exact hw)) (by rw [hcw]) rfl rfl hdd ⟨by show dp + 10 + 1 ≤ R.frames; omega, by show 8 + (_ + 11) + (40 * dp + 200) ≤ R.locals; omega⟩) ⟨m_blind, m_Pc_of hX hR hS rfl⟩ rfl (by simp [hn1]) hl.1 m_stk (lv_room (by omega)) hd ⟨by omega, by omega⟩
  exact m_go hrun (hk _ _ _ _ _ h) had hn0 hS hl hlo hst hc hs hc1 hc2
