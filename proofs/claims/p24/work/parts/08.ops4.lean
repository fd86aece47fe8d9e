theorem ok_switch {GP : m_G → Prop} {my : Nat → m_T} {E : m_E} {pc nx : Nat} {f : Int32 → Option Nat} {dflt lo9 hi9 : Int} {offs : Array Int} {len : Nat} (hf : ∀ (x : Int32) (tg : Nat), f x = some tg → ((x.toInt < lo9 ∨ hi9 < x.toInt) ∧ (pc : Int) + dflt = (tg : Int)) ∨ (¬ x.toInt < lo9 ∧ ¬ hi9 < x.toInt ∧ ∃ off : Int, offs[(x.toInt - lo9).toNat]? = some off ∧ (pc : Int) + off = (tg : Int))) (hd : decode E.1 pc = .ok (.tableswitch dflt lo9 hi9 offs, len)) : m_OK GP my E pc (o_switch f) := by
  intro l G p e R s m args below meth c dp call n0 ad0 mc ms Q r kk hGP hC hcall hmc hms hE hk lo st bd S h ad ls H locs cells slots had hn0 hR hS hl hlo hst hc hs
  obtain ⟨hx, hb, hml, hown, hts, hK, hsz, hini, hlk, hfr, hlc, hX, hXF, hXT⟩ := hC
  unfold o_switch at h
  split at h
  · split at h
    · rename_i x st' _ tg h1
      rcases hf x tg h1 with ⟨q1, q2⟩ | ⟨q1, q2, off, q3, q4⟩
      · refine lv_tableOut hx hb hd q1 q2 ?_
        exact hk _ _ _ _ _ h ad ls H locs cells slots had hn0 hR hS hl hlo (m_st_t hst) hc hs
      · refine lv_tableIn hx hb hd q1 q2 q3 q4 ?_
        exact hk _ _ _ _ _ h ad ls H locs cells slots had hn0 hR hS hl hlo (m_st_t hst) hc hs
    · exact h.elim
  · exact h.elim
theorem m_hat {G : m_G} {s : State} {args : Array Value} {L : List Cond} (hts : ∀ w ∈ m_WS, w.before args s = true) (hXF : m_XF G s) (h1 : ∀ w ∈ L.filter goodWord, w ∈ m_WS) (h2 : ∀ w ∈ L.filter (fun w => !goodWord w), w ∈ m_CW) : ∀ w ∈ L, w.before args s = true :=
  vx_hat (B := m_CW) (fun w hw => hts w (h1 w hw)) h2 (fun w hw => va_Nw.use (by
    have hc := (List.mem_filter.mp hw).2
    unfold m_cwd at hc
    split at hc
    · rfl
    · rfl
    · rfl
    · cases hc) (hXF.1 w hw))
theorem ok_throwS {GP : m_G → Prop} {my : Nat → m_T} {E : m_E} {pc nx : Nat} {cls text : String} {names : List String} {ik is ic : Nat} (hcls : Bundle.fit cls = true) (hnames : ∀ n ∈ names, Bundle.fit n = true) (hl3 : names.length ≤ 2) (ho : E.2.2.1 = RX6) (hkk : Cond.classLink E.2.2.1 ik cls ∈ m_WS) (hini0 : Cond.initialized cls ∈ m_WS) (hstr : (is, text) ∈ m_strs) (ha1 : ∀ w ∈ (vx_atS E.2.2.1 ic cls names).filter goodWord, w ∈ m_WS) (ha2 : ∀ w ∈ (vx_atS E.2.2.1 ic cls names).filter (fun w => !goodWord w), w ∈ m_CW)
    (hgood : ∀ w ∈ Cond.classLink E.2.2.1 ik cls :: Cond.initialized cls :: vx_atS E.2.2.1 ic cls names, vx_ot w = true) (d0 : decode E.1 pc = .ok (.new ik, 3)) (d3 : decode E.1 (pc + 3) = .ok (.dup, 1)) (d4 : decode E.1 (pc + 4) = .ok (.ldc is, 2)) (d6 : decode E.1 (pc + 6) = .ok (.invokespecial ic, 3)) (d9 : decode E.1 (pc + 9) = .ok (.athrow, 1)) : m_OK GP my E pc (o_throw cls) := by
  intro l G p e R s m args below meth c dp call n0 ad0 mc ms Q r kk hGP hC hcall hmc hms hE hk lo st bd S h ad ls H locs cells slots had hn0 hR hS hl hlo hst hc hs
  obtain ⟨hx, hb, hml, hown, hts, hK, hsz, hini, hlk, hfr, hlc, hX, hXF, hXT⟩ := hC
  unfold o_throw at h
  obtain ⟨h0, h1, h2, h⟩ := h
  rcases hE.2 with z | ⟨hl0, htab, Qc, XC, hQ, hxc⟩
  · exact absurd h (z _ _)
  · subst hQ
    obtain ⟨sa, hsa⟩ := hXF.2.2.2.1 (is, text) hstr
    have hle := m_cat_le ad st
    refine vx_throwS (A := m_AG G) (sa := sa) (text := text) (names := names) hx hb hl0 hown hcls hnames (hts _ hkk) (hts _ hini0) (by rw [ho]; exact hsa) (m_hat hts hXF ha1 ha2) hgood hXF.2.2.2.2.1 hXF.2.2.2.2.2.1 hS (by rw [hl.1, hml]) d0 d3 d4 d6 d9 (fun x hx => (htab x hx).elim) (by omega) (by omega) (by omega) (by omega) hlk (fun t ht1 ht2 ht3 => ?_) hS.2.2 (by omega) (by omega)
    exact hxc _ _ h ad H locs t had hn0 hR hS ht1 ht2 ht3
theorem ok_throwSW {GP : m_G → Prop} {my : Nat → m_T} {E : m_E} {pc nx : Nat} {cls text : String} {names : List String} {ik is ic : Nat} (hcls : Bundle.fit cls = true) (hnames : ∀ n ∈ names, Bundle.fit n = true) (hl3 : names.length ≤ 2) (ho : E.2.2.1 = RX6) (hkk : Cond.classLink E.2.2.1 ik cls ∈ m_WS) (hini0 : Cond.initialized cls ∈ m_WS) (hstr : (is, text) ∈ m_strs) (ha1 : ∀ w ∈ (vx_atS E.2.2.1 ic cls names).filter goodWord, w ∈ m_WS) (ha2 : ∀ w ∈ (vx_atS E.2.2.1 ic cls names).filter (fun w => !goodWord w), w ∈ m_CW)
    (hgood : ∀ w ∈ Cond.classLink E.2.2.1 ik cls :: Cond.initialized cls :: vx_atS E.2.2.1 ic cls names, vx_ot w = true) (d0 : decode E.1 pc = .ok (.new ik, 3)) (d3 : decode E.1 (pc + 3) = .ok (.dup, 1)) (d4 : decode E.1 (pc + 4) = .ok (.ldc_w is, 3)) (d6 : decode E.1 (pc + 7) = .ok (.invokespecial ic, 3)) (d9 : decode E.1 (pc + 10) = .ok (.athrow, 1)) : m_OK GP my E pc (o_throw cls) := by
  intro l G p e R s m args below meth c dp call n0 ad0 mc ms Q r kk hGP hC hcall hmc hms hE hk lo st bd S h ad ls H locs cells slots had hn0 hR hS hl hlo hst hc hs
  obtain ⟨hx, hb, hml, hown, hts, hK, hsz, hini, hlk, hfr, hlc, hX, hXF, hXT⟩ := hC
  unfold o_throw at h
  obtain ⟨h0, h1, h2, h⟩ := h
  rcases hE.2 with z | ⟨hl0, htab, Qc, XC, hQ, hxc⟩
  · exact absurd h (z _ _)
  · subst hQ
    obtain ⟨sa, hsa⟩ := hXF.2.2.2.1 (is, text) hstr
    have hle := m_cat_le ad st
    refine vx_throwSW (A := m_AG G) (sa := sa) (text := text) (names := names) hx hb hl0 hown hcls hnames (hts _ hkk) (hts _ hini0) (by rw [ho]; exact hsa) (m_hat hts hXF ha1 ha2) hgood hXF.2.2.2.2.1 hXF.2.2.2.2.2.1 hS (by rw [hl.1, hml]) d0 d3 d4 d6 d9 (fun x hx => (htab x hx).elim) (by omega) (by omega) (by omega) (by omega) hlk (fun t ht1 ht2 ht3 => ?_) hS.2.2 (by omega) (by omega)
    exact hxc _ _ h ad H locs t had hn0 hR hS ht1 ht2 ht3
theorem m_Con.met {l : Launch} {G : m_G} {dp : Nat} {T : m_T} {args : List Value} {S S' : m_S} {ov : Option Value} (h : m_Con l G dp T args S (.inl ov) S') (ad : Nat → Nat) (ha : ∀ v ∈ args, m_vok S.1 v) : Met l T.1 (T.2.1 :: m_WS) (m_rm dp T.2.2.2.2.2.1 T.2.2.2.2.2.2) (m_Pc G ad args S) (m_Qc G ad S.1 (.inl ov) S') T.2.2.2.2.2.1 T.2.2.2.2.2.2 (m_AG G) := by
  refine MetFree.mono (h ad ha) (fun _ _ z => z) (fun _ _ _ _ _ z => z) (fun a st o t _ z => ?_)
  rcases z with z | ⟨q, -, E, ce, L, hx, -⟩
  · exact z
  · cases hx.1
theorem m_blind {G : m_G} {ad : Nat → Nat} {args : List Value} {S : m_S} : FrameBlind (m_Pc G ad args S) := fun _ _ _ _ h => h
theorem m_Pc_of {G : m_G} {ad : Nat → Nat} {args : List Value} {S : m_S} {H : Heap} {s : State} {locs : List Loc} (hX : m_CTX G s) (hR : m_Rel G ad S H) (hS : va_S (m_AG G) s.heap H locs) {A : Array Value} (hA : A = (args.map (m_v ad)).toArray) : ∀ U : State, U.heap = H → s.WarmedH U.vm → m_Pc G ad args S A U := fun U hU hW =>
  ⟨hA, ⟨State.WarmedH.trans hX.1 hW, by rw [hU]; exact Nat.le_trans hX.2.1 hS.1, fun q hq => by rw [hU, hS.2.1 q (Nat.lt_of_lt_of_le hq hX.2.1) (Nat.not_le.mpr hq)]; exact hX.2.2 q hq⟩, by rw [hU]; exact hR⟩
theorem m_F_S {A : Nat → Prop} {s st t : State} {H : Heap} {locs L : List Loc} (hS : va_S A s.heap H locs) (h0 : st.heap = H) (hF : va_F A st t) (hL : ∀ q ∈ L, A q.base) : va_S A s.heap t.heap (locs ++ L) := by
  subst h0
  refine ⟨Nat.le_trans hS.1 hF.1, fun q h1 h2 => by rw [hF.2 q (Nat.lt_of_lt_of_le h1 hS.1) h2]; exact hS.2.1 q h1 h2, fun q hq => ?_⟩
  rcases List.mem_append.mp hq with h | h
  · exact hS.2.2 q h
  · exact hL q h
theorem m_stk {ad : Nat → Nat} {st : List Value} {n : Nat} : st.map (m_v ad) = (((st.take n).reverse.map (m_v ad)).reverse) ++ (st.drop n).map (m_v ad) := by
  rw [← List.map_reverse, List.reverse_reverse, ← List.map_append, List.take_append_drop]
section CALL
variable {l : Launch} {G : m_G} {p : Program} {e : Env} {R : Room} {s : State} {m : MethodId} {args : Array Value} {below : List Frame} {meth : Method} {c : Code} {nL n0 : Nat} {ad0 : Nat → Nat} {mc ms : Nat} {Q : State → Prop}
/-- behind a call that has returned -/
theorem m_go {H : Heap} {locs : List Loc} {cells slots c1 c2 pc n : Nat} {ls : Array Slot} {lo : m_L} {st st0 : List Value} {bd : Nat × Nat} {S S' : m_S} {ov : Option Value} {ad : Nat → Nat} {a : Array Value}
    (hrun : va_Run p l e R s m args below meth c H locs cells slots c1 c2 (F0 m pc ls st0) ((st.drop n).map (m_v ad)) (m_Qc G ad S.1 (.inl ov) S' a) (m_AG G))
    (h : m_W l G p e R s m args below meth c nL n0 ad0 mc ms Q (pc + 3) lo (ov.toList ++ st.drop n) (bd.1 - c1, bd.2 - c2) S')
    (had : ∀ i, i < n0 + 3 → ad i = ad0 i) (hn0 : n0 ≤ S.1) (hS : va_S (m_AG G) s.heap H locs) (hl : m_lh ad nL lo ls) (hlo : ∀ (i : Nat) (v : Value), lo[i]? = some (some v) → m_vok S.1 v ∧ (v.category = 1 ∨ nL = 21)) (hst : ∀ v ∈ st, m_vok S.1 v)
    (hc : cells + bd.1 ≤ mc) (hs : slots + bd.2 ≤ ms) (hc1 : c1 ≤ bd.1) (hc2 : c2 ≤ bd.2) : W p l e R s m args below meth c H locs cells slots Q (F0 m pc ls st0) := by
  intro T hT X
  obtain ⟨v, st₀, t, T', L, h0, X', hL, e1, e2, ⟨⟨ov', ad', ho, hag, hle, hoc, hov, hrel⟩, hF⟩, hgo⟩ := hrun T hT X
  cases ho
  cases hoc
  have k := h ad' ls T'.heap (locs ++ L) (cells + c1) (slots + c2) (fun i hi => (hag i (by omega)).trans (had i hi)) (Nat.le_trans hn0 hle) (by rw [e1]; exact hrel) (by rw [e1]; exact m_F_S hS h0 hF hL) (m_lh_agree hag hlo hl) (m_lo_mono hle hlo)
    (fun v hv => by
      rcases List.mem_append.mp hv with z | z
      · exact hov v (by cases ov with
          | none => cases z
          | some w => cases z with
            | head => rfl
            | tail _ z => cases z)
      · exact (hst v (List.mem_of_mem_drop z)).mono hle) (by show cells + c1 + (bd.1 - c1) ≤ mc; omega) (by show slots + c2 + (bd.2 - c2) ≤ ms; omega)
  rw [List.map_append, m_vs_agree hag (fun v hv => hst v (List.mem_of_mem_drop hv))] at k
  have e3 : ov.toList.map (m_v ad') = (ov.map (m_v ad')).toList := by cases ov <;> rfl
  rw [e3] at k
  obtain ⟨t2, a1, b1⟩ := k T' rfl X'
  exact ⟨t2, hgo t2 a1, b1⟩
end CALL

theorem ok_calls {GP : m_G → Prop} {my : Nat → m_T} {E : m_E} {pc nx : Nat} {y n c1 c2 idx : Nat} {T : m_T} (hT : my y = T) (hcw : T.2.1 = Cond.code T.1 T.2.2.1 T.2.2.2.1 T.2.2.2.2.1) (hcm : T.2.1 ∈ m_WS) (hm1 : T.2.2.2.2.2.1 = c1) (hm2 : T.2.2.2.2.2.2 = c2) (hL : T.2.2.2.1 ≤ 21) (hlk0 : Cond.methodLink E.2.2.1 idx T.1 ∈ m_WS) (hst0 : Cond.static T.1 ∈ m_WS) (hi0 : Cond.initialized T.1.cls ∈ m_WS) (hdd : T.1.cls ≠ "java/lang/invoke/MethodHandle" ∧ T.1.cls ≠ "java/lang/invoke/VarHandle" ∧ (parseMethodDescriptor T.1.desc).map (fun d => d.parameters.length) = some n) (hd : decode E.1 pc = .ok (.invokestatic idx, 3)) (hn : pc + 3 = nx) : m_OK GP my E pc (o_call y n c1 c2 nx) := by
  subst hn; subst hm1; subst hm2
  intro l G p e R s m args below meth c dp call n0 ad0 mc ms Q r kk hGP hC hcall hmc hms hE hk lo st bd S h ad ls H locs cells slots had hn0 hR hS hl hlo hst hc hs
  obtain ⟨hx, hb, hml, hown, hts, hK, hsz, hini, hlk, hfr, hlc, hX, hXF, hXT⟩ := hC
  obtain ⟨hn1, hn2, hc1, hc2, ov, S', hcl, h⟩ := h
  have hcon := hcall _ _ _ _ _ hcl
  rw [hT] at hcon
  have hM := hcon.met ad (fun v hv => hst v (List.mem_of_mem_take (List.mem_reverse.mp hv)))
  have hle := m_cat_le ad (st.drop n)
  rw [List.length_drop] at hle
  have hrun := va_runS (n := n) (As := (st.take n).reverse.map (m_v ad)) (rest := (st.drop n).map (m_v ad)) (e := e) (meth := meth) (below := below) (g := F0 m pc ls (st.map (m_v ad))) (cells := cells) (slots := slots) (locs := locs) ⟨hx, hb, hml, hown, hts⟩ hM (va_cwS n hts (m_good (fun w hw => by
    simp only [va_wsS, List.cons_append, List.nil_append, List.mem_cons] at hw
    rcases hw with rfl | rfl | rfl | rfl | hw
    · exact hlk0
    · exact hst0
    · exact hi0
    · exact hcm
    · exact hw)) (by rw [hcw]) rfl rfl hdd ⟨by show dp + 10 + 1 ≤ R.frames; omega, by show 8 + (_ + 11) + (40 * dp + 200) ≤ R.locals; omega⟩) ⟨m_blind, m_Pc_of hX hR hS rfl⟩ rfl (by simp [hn1]) hl.1 m_stk (lv_room (by omega)) hd ⟨by omega, by omega⟩
  exact m_go hrun (hk _ _ _ _ _ h) had hn0 hS hl hlo hst hc hs hc1 hc2
theorem m_rcv_of {ci : Nat} {args : List Value} {S : m_S} (h : m_rcv ci args S) : ∃ (a : Nat) (As : List Value) (fs : List Value), args = .ref a :: As ∧ m_gO ci (S.2 a) = some fs := by
  unfold m_rcv at h
  split at h
  · rename_i a As
    obtain ⟨fs, hfs⟩ := Option.isSome_iff_exists.mp h
    exact ⟨a, As, fs, rfl, hfs⟩
  · exact h.elim
theorem m_stkr {ad : Nat → Nat} {st As : List Value} {n a : Nat} (h : (st.take n).reverse = .ref a :: As) : st.map (m_v ad) = (As.map (m_v ad)).reverse ++ .ref (ad a) :: (st.drop n).map (m_v ad) := by
  rw [m_stk (ad := ad) (st := st) (n := n), h]
  simp [m_v]
theorem m_As_len {st As : List Value} {n a : Nat} (h : (st.take n).reverse = .ref a :: As) (hn : n ≤ st.length) : As.length = n - 1 := by
  have := congrArg List.length h
  simp only [List.length_reverse, List.length_take, List.length_cons] at this
  omega

theorem ok_callv {GP : m_G → Prop} {my : Nat → m_T} {E : m_E} {pc nx : Nat} {y n c1 c2 idx : Nat} {T : m_T} (hT : my y = T) (hcw : T.2.1 = Cond.code T.1 T.2.2.1 T.2.2.2.1 T.2.2.2.2.1) (hcm : T.2.1 ∈ m_WS) (hm1 : T.2.2.2.2.2.1 = c1) (hm2 : T.2.2.2.2.2.2 = c2) (hL : T.2.2.2.1 ≤ 21) {ci : Nat} {r9 : vw_C} (hc0 : vwCl[ci]? = some r9) (hr9 : T.1.cls = r9.1) (hlk0 : Cond.methodLink E.2.2.1 idx T.1 ∈ m_WS) (hin0 : Cond.instanceMethod T.1 ∈ m_WS) (hse0 : Cond.selects r9.1 T.1 T.1 ∈ m_WS) (hi0 : Cond.initialized r9.1 ∈ m_WS) (hdd : T.1.cls ≠ "java/lang/invoke/MethodHandle" ∧ T.1.cls ≠ "java/lang/invoke/VarHandle" ∧ (parseMethodDescriptor T.1.desc).map (fun d => d.parameters.length) = some (n - 1)) (hd : decode E.1 pc = .ok (.invokevirtual idx, 3)) (hn : pc + 3 = nx) : m_OK GP my E pc (o_callv ci y n c1 c2 nx) := by
  subst hn; subst hm1; subst hm2
  intro l G p e R s m args below meth c dp call n0 ad0 mc ms Q r kk hGP hC hcall hmc hms hE hk lo st bd S h ad ls H locs cells slots had hn0 hR hS hl hlo hst hc hs
  obtain ⟨hx, hb, hml, hown, hts, hK, hsz, hini, hlk, hfr, hlc, hX, hXF, hXT⟩ := hC
  obtain ⟨hrcv, hn1, hn2, hc1, hc2, ov, S', hcl, h⟩ := h
  obtain ⟨a, As, fs, hArg, hfs⟩ := m_rcv_of hrcv
  obtain ⟨a1, a2, a3, a4⟩ := m_atO hR hfs
  have hcon := hcall _ _ _ _ _ hcl
  rw [hT] at hcon
  have hM := hcon.met ad (fun v hv => hst v (List.mem_of_mem_take (List.mem_reverse.mp hv)))
  have hle := m_cat_le ad (st.drop n)
  rw [List.length_drop] at hle
  have hrun := va_runV (n := n - 1) (As := As.map (m_v ad)) (b := ad a) (rest := (st.drop n).map (m_v ad)) (e := e) (meth := meth) (below := below) (g := F0 m pc ls (st.map (m_v ad))) (cells := cells) (slots := slots) (locs := locs) ⟨hx, hb, hml, hown, hts⟩ hM (cwV (C := r9.1) (n - 1) hts (m_good (fun w hw => by
    simp only [wsV, List.cons_append, List.nil_append, List.mem_cons] at hw
    rcases hw with rfl | rfl | rfl | rfl | rfl | hw
    · exact hlk0
    · exact hin0
    · exact hse0
    · exact hi0
    · exact hcm
    · exact hw)) (by rw [hcw]) rfl rfl ⟨hr9, hdd⟩ ⟨by show dp + 10 + 1 ≤ R.frames; omega, by show 8 + (_ + 11) + (40 * dp + 200) ≤ R.locals; omega⟩) ⟨m_blind, va_recv hK hR.1 hc0 a3, m_Pc_of hX hR hS (by rw [hArg]; rfl)⟩ rfl (by rw [List.length_map]; exact m_As_len hArg hn1) hl.1 (m_stkr hArg) (lv_room (by omega)) hd ⟨by omega, by omega⟩
  exact m_go hrun (hk _ _ _ _ _ h) had hn0 hS hl hlo hst hc hs hc1 hc2
theorem ok_calli {GP : m_G → Prop} {my : Nat → m_T} {E : m_E} {pc nx : Nat} {y n c1 c2 idx : Nat} {T : m_T} (hT : my y = T) (hcw : T.2.1 = Cond.code T.1 T.2.2.1 T.2.2.2.1 none) (hcm : T.2.1 ∈ m_WS) (hm1 : T.2.2.2.2.2.1 = c1) (hm2 : T.2.2.2.2.2.2 = c2) (hL : T.2.2.2.1 ≤ 21) {ci : Nat} (hlk0 : Cond.methodLink E.2.2.1 idx T.1 ∈ m_WS) (hin0 : Cond.instanceMethod T.1 ∈ m_WS) (hi0 : Cond.initialized T.1.cls ∈ m_WS) (hnm : T.1.name = "<init>") (hdd : T.1.cls ≠ "java/lang/invoke/MethodHandle" ∧ T.1.cls ≠ "java/lang/invoke/VarHandle" ∧ (parseMethodDescriptor T.1.desc).map (fun d => d.parameters.length) = some (n - 1)) (hd : decode E.1 pc = .ok (.invokespecial idx, 3)) (hn : pc + 3 = nx) : m_OK GP my E pc (o_callv ci y n c1 c2 nx) := by
  subst hn; subst hm1; subst hm2
  intro l G p e R s m args below meth c dp call n0 ad0 mc ms Q r kk hGP hC hcall hmc hms hE hk lo st bd S h ad ls H locs cells slots had hn0 hR hS hl hlo hst hc hs
  obtain ⟨hx, hb, hml, hown, hts, hK, hsz, hini, hlk, hfr, hlc, hX, hXF, hXT⟩ := hC
  obtain ⟨hrcv, hn1, hn2, hc1, hc2, ov, S', hcl, h⟩ := h
  obtain ⟨a, As, fs, hArg, hfs⟩ := m_rcv_of hrcv
  obtain ⟨a1, a2, a3, a4⟩ := m_atO hR hfs
  have hcon := hcall _ _ _ _ _ hcl
  rw [hT] at hcon
  have hM := hcon.met ad (fun v hv => hst v (List.mem_of_mem_take (List.mem_reverse.mp hv)))
  have hle := m_cat_le ad (st.drop n)
  rw [List.length_drop] at hle
  have hrun := va_runI (n := n - 1) (As := As.map (m_v ad)) (b := ad a) (rest := (st.drop n).map (m_v ad)) (e := e) (meth := meth) (below := below) (g := F0 m pc ls (st.map (m_v ad))) (cells := cells) (slots := slots) (locs := locs) ⟨hx, hb, hml, hown, hts⟩ hM (cwI (n - 1) hts (m_good (fun w hw => by
    rcases List.mem_cons.mp hw with rfl | hw
    · exact hcm
    · exact hw)) (by rw [hcw]) rfl rfl (hts _ hi0) (hts _ hlk0) (hts _ hin0) hnm hdd ⟨by show dp + 10 + 1 ≤ R.frames; omega, by show 8 + (_ + 11) + (40 * dp + 200) ≤ R.locals; omega⟩) ⟨m_blind, m_Pc_of hX hR hS (by rw [hArg]; rfl)⟩ rfl (by rw [List.length_map]; exact m_As_len hArg hn1) hl.1 (m_stkr hArg) (lv_room (by omega)) hd ⟨by omega, by omega⟩
  exact m_go hrun (hk _ _ _ _ _ h) had hn0 hS hl hlo hst hc hs hc1 hc2
theorem ok_callin {GP : m_G → Prop} {my : Nat → m_T} {E : m_E} {pc nx : Nat} {y n c1 c2 idx : Nat} {T : m_T} (hT : my y = T) (hcw : T.2.1 = Cond.code T.1 T.2.2.1 T.2.2.2.1 none) (hcm : T.2.1 ∈ m_WS) (hm1 : T.2.2.2.2.2.1 = c1) (hm2 : T.2.2.2.2.2.2 = c2) (hL : T.2.2.2.1 ≤ 21) {ci : Nat} {host : String} (hlk0 : Cond.methodLinkNest E.2.2.1 idx T.1 host ∈ m_CW) (hin0 : Cond.instanceMethod T.1 ∈ m_WS) (hi0 : Cond.initialized T.1.cls ∈ m_WS) (hnm : T.1.name = "<init>") (hdd : T.1.cls ≠ "java/lang/invoke/MethodHandle" ∧ T.1.cls ≠ "java/lang/invoke/VarHandle" ∧ (parseMethodDescriptor T.1.desc).map (fun d => d.parameters.length) = some (n - 1)) (hd : decode E.1 pc = .ok (.invokespecial idx, 3)) (hn : pc + 3 = nx) : m_OK GP my E pc (o_callv ci y n c1 c2 nx) := by
  subst hn; subst hm1; subst hm2
  intro l G p e R s m args below meth c dp call n0 ad0 mc ms Q r kk hGP hC hcall hmc hms hE hk lo st bd S h ad ls H locs cells slots had hn0 hR hS hl hlo hst hc hs
  obtain ⟨hx, hb, hml, hown, hts, hK, hsz, hini, hlk, hfr, hlc, hX, hXF, hXT⟩ := hC
  obtain ⟨hrcv, hn1, hn2, hc1, hc2, ov, S', hcl, h⟩ := h
  obtain ⟨a, As, fs, hArg, hfs⟩ := m_rcv_of hrcv
  obtain ⟨a1, a2, a3, a4⟩ := m_atO hR hfs
  have hcon := hcall _ _ _ _ _ hcl
  rw [hT] at hcon
  have hM := hcon.met ad (fun v hv => hst v (List.mem_of_mem_take (List.mem_reverse.mp hv)))
  have hle := m_cat_le ad (st.drop n)
  rw [List.length_drop] at hle
  have hrun := va_runIN (n := n - 1) (host := host) (As := As.map (m_v ad)) (b := ad a) (rest := (st.drop n).map (m_v ad)) (e := e) (meth := meth) (below := below) (g := F0 m pc ls (st.map (m_v ad))) (cells := cells) (slots := slots) (locs := locs) ⟨hx, hb, hml, hown, hts⟩ hM ⟨va_cnB (n - 1) hts (m_good (fun w hw => by
    rcases List.mem_cons.mp hw with rfl | hw
    · exact hcm
    · exact hw)) (by rw [hcw]) rfl rfl (hXF.1 _ hlk0) (hts _ hi0) hdd ⟨by show dp + 10 + 1 ≤ R.frames; omega, by show 8 + (_ + 11) + (40 * dp + 200) ≤ R.locals; omega⟩, hnm, hts _ hin0⟩ ⟨m_blind, m_Pc_of hX hR hS (by rw [hArg]; rfl)⟩ rfl (by rw [List.length_map]; exact m_As_len hArg hn1) hl.1 (m_stkr hArg) (lv_room (by omega)) hd ⟨by omega, by omega⟩
  exact m_go hrun (hk _ _ _ _ _ h) had hn0 hS hl hlo hst hc hs hc1 hc2
