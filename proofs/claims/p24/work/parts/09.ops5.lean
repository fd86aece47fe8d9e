section CALLX
variable {l : Launch} {G : m_G} {p : Program} {e : Env} {R : Room} {s : State} {m : MethodId} {args : Array Value} {below : List Frame} {meth : Method} {c : Code} {nL n0 : Nat} {ad0 : Nat → Nat} {mc ms : Nat} {Q : State → Prop}
/-- behind a call that has thrown -/
theorem m_gox {H : Heap} {locs : List Loc} {cells slots c1 c2 pc n : Nat} {ls : Array Slot} {st0 rest : List Value} {S' : m_S} {E' : String} {ad : Nat → Nat} {a : Array Value}
    (hrun : vx_Run p l e R s m args below meth c H locs cells slots c1 c2 (F0 m pc ls st0) rest (m_Qc G ad n (.inr E') S' a) (m_XC G ad n (.inr E') S') (m_AG G)) (hS : va_S (m_AG G) s.heap H locs)
    (kx : ∀ (ad' : Nat → Nat) (ce : Cell) (q : Addr) (locs' : List Loc) (H' : Heap), (∀ i, i < n + 3 → ad' i = ad i) → n ≤ S'.1 → m_Rel G ad' S' H' → va_S (m_AG G) s.heap H' locs' → H'[q]? = some ce → ce.vm = .none → s.vm.findClass E' = some ce.cls → vx_W p l e R s m args below meth c H' locs' (cells + c1) (slots + c2) Q (F0 m pc ls rest) q) : W p l e R s m args below meth c H locs cells slots Q (F0 m pc ls st0) := by
  intro T hT X
  rcases hrun T hT X with ⟨v, st₀, t, T', L, h0, X', hL, e1, e2, ⟨⟨ov', ad', ho, -⟩, -⟩, -⟩ | ⟨q, st₀, t, T', L, E9, ce, h0, X', hL, e1, e2, ⟨ho, ⟨ad', hag, hle, hrel⟩, hF⟩, g1, g2, g3, st⟩
  · cases ho
  · cases ho
    obtain ⟨t2, a1, b1⟩ := kx ad' ce q (locs ++ L) T'.heap hag hle (by rw [e1]; exact hrel) (by rw [e1]; exact m_F_S hS h0 hF hL) (by rw [e1]; exact g1) g2 g3 T' rfl X'
    exact ⟨t2, st.trans a1, b1⟩
end CALLX
theorem m_lh_none {ad : Nat → Nat} {nL n k : Nat} {lo : m_L} {ls ls' : Array Slot} {x : Value} (h : m_lh ad nL lo ls) (hc : ∀ (i : Nat) (v : Value), lo[i]? = some (some v) → m_vok n v ∧ (v.category = 1 ∨ nL = 21))
    (h' : lv_has ls' nL ((k, x) :: (m_as ad lo).filter (fun q => !(q.1 == k) && !(q.1 + 1 == k && q.2.category == 2)))) (h21 : nL ≠ 21) : m_lh ad nL (lo.set k none) ls' := by
  refine ⟨h'.1, h'.2.1, by rw [List.length_set]; exact h.2.2.1, fun i v hv => ?_⟩
  rw [List.getElem?_set] at hv
  split at hv
  · split at hv
    · cases hv
    · cases hv
  · rename_i hk
    refine h'.2.2 (i, m_v ad v) (List.mem_cons_of_mem _ (List.mem_filter.mpr ⟨m_as_of hv, ?_⟩))
    have h2 : (m_v ad v).category = 1 := by
      have := (hc i v hv).2.resolve_right h21
      cases v <;> first | exact this | rfl
    simp [h2, Ne.symm hk]
theorem m_lo_none {nL n k : Nat} {lo : m_L} (hc : ∀ (i : Nat) (v : Value), lo[i]? = some (some v) → m_vok n v ∧ (v.category = 1 ∨ nL = 21)) : ∀ (i : Nat) (v : Value), (lo.set k none)[i]? = some (some v) → m_vok n v ∧ (v.category = 1 ∨ nL = 21) := by
  intro i v hv
  rw [List.getElem?_set] at hv
  split at hv
  · split at hv
    · cases hv
    · cases hv
  · exact hc i v hv

theorem ok_callx {GP : m_G → Prop} {my : Nat → m_T} {E : m_E} {pc nx : Nat} {y n c1 c2 idx : Nat} {T : m_T} (hT : my y = T) (hcw : T.2.1 = Cond.code T.1 T.2.2.1 T.2.2.2.1 T.2.2.2.2.1) (hcm : T.2.1 ∈ m_WS) (hm1 : T.2.2.2.2.2.1 = c1) (hm2 : T.2.2.2.2.2.2 = c2) (hL : T.2.2.2.1 ≤ 21) (hlk0 : Cond.methodLink E.2.2.1 idx T.1 ∈ m_WS) (hst0 : Cond.static T.1 ∈ m_WS) (hi0 : Cond.initialized T.1.cls ∈ m_WS) (hdd : T.1.cls ≠ "java/lang/invoke/MethodHandle" ∧ T.1.cls ≠ "java/lang/invoke/VarHandle" ∧ (parseMethodDescriptor T.1.desc).map (fun d => d.parameters.length) = some n) (hd : decode E.1 pc = .ok (.invokestatic idx, 3)) (hn : pc + 3 = nx) : m_OK GP my E pc (o_callx y n c1 c2 nx) := by
  subst hn; subst hm1; subst hm2
  intro l G p e R s m args below meth c dp call n0 ad0 mc ms Q r kk hGP hC hcall hmc hms hE hk lo st bd S h ad ls H locs cells slots had hn0 hR hS hl hlo hst hc hs
  obtain ⟨hx, hb, hml, hown, hts, hK, hsz, hini, hlk, hfr, hlc, hX, hXF, hXT⟩ := hC
  obtain ⟨hn1, hn2, hc1, hc2, o, S', hcl, h⟩ := h
  have hcon := hcall _ _ _ _ _ hcl
  rw [hT] at hcon
  have hcv : ∀ v ∈ (st.take n).reverse, m_vok S.1 v := fun v hv => hst v (List.mem_of_mem_take (List.mem_reverse.mp hv))
  have hle := m_cat_le ad (st.drop n)
  rw [List.length_drop] at hle
  cases o with
  | inl ov =>
    have hrun := va_runS (n := n) (As := (st.take n).reverse.map (m_v ad)) (rest := (st.drop n).map (m_v ad)) (e := e) (meth := meth) (below := below) (g := F0 m pc ls (st.map (m_v ad))) (cells := cells) (slots := slots) (locs := locs) ⟨hx, hb, hml, hown, hts⟩ (hcon.met ad hcv) (va_cwS n hts (m_good (fun w hw => by
      simp only [va_wsS, List.cons_append, List.nil_append, List.mem_cons] at hw
      rcases hw with rfl | rfl | rfl | rfl | hw
      · exact hlk0
      · exact hst0
      · exact hi0
      · exact hcm
      · exact hw)) (by rw [hcw]) rfl rfl hdd ⟨by show dp + 10 + 1 ≤ R.frames; omega, by show 8 + (_ + 11) + (40 * dp + 200) ≤ R.locals; omega⟩) ⟨m_blind, m_Pc_of hX hR hS rfl⟩ rfl (by simp [hn1]) hl.1 m_stk (lv_room (by omega)) hd ⟨by omega, by omega⟩
    exact m_go hrun (hk _ _ _ _ _ h) had hn0 hS hl hlo hst hc hs hc1 hc2
  | inr E9 =>
    have hrun := vx_runS (n := n) (As := (st.take n).reverse.map (m_v ad)) (rest := (st.drop n).map (m_v ad)) (e := e) (meth := meth) (below := below) (g := F0 m pc ls (st.map (m_v ad))) (cells := cells) (slots := slots) (locs := locs) ⟨hx, hb, hml, hown, hts⟩ (hcon ad hcv) (va_cwS n hts (m_good (fun w hw => by
      simp only [va_wsS, List.cons_append, List.nil_append, List.mem_cons] at hw
      rcases hw with rfl | rfl | rfl | rfl | hw
      · exact hlk0
      · exact hst0
      · exact hi0
      · exact hcm
      · exact hw)) (by rw [hcw]) rfl rfl hdd ⟨by show dp + 10 + 1 ≤ R.frames; omega, by show 8 + (_ + 11) + (40 * dp + 200) ≤ R.locals; omega⟩) ⟨m_blind, m_Pc_of hX hR hS rfl⟩ rfl (by simp [hn1]) hl.1 m_stk (lv_room (by omega)) hd ⟨by omega, by omega⟩
    rcases hE.2 with z | ⟨hl0, htab, Qc, XC, hQ, hxc⟩
    · exact absurd h (z _ _)
    · subst hQ
      refine m_gox hrun hS (fun ad' ce q locs' H' hag hle hrel hS' g1 g2 g3 => ?_)
      exact vx_out (fun x hx => (htab x hx).elim) hlk g1 g2 g3 (fun t ht hvm => hxc _ _ h ad' H' locs' t (fun i hi => (hag i (by omega)).trans (had i hi)) (Nat.le_trans hn0 hle) hrel hS' hvm (by rw [ht]; exact Nat.le_refl _) (fun q _ => by rw [ht])) hS'.2.2 (by omega) (by omega)
theorem ok_callvx {GP : m_G → Prop} {my : Nat → m_T} {E : m_E} {pc nx : Nat} {y n c1 c2 idx : Nat} {T : m_T} (hT : my y = T) (hcw : T.2.1 = Cond.code T.1 T.2.2.1 T.2.2.2.1 T.2.2.2.2.1) (hcm : T.2.1 ∈ m_WS) (hm1 : T.2.2.2.2.2.1 = c1) (hm2 : T.2.2.2.2.2.2 = c2) (hL : T.2.2.2.1 ≤ 21) {ci : Nat} {r9 : vw_C} (hc0 : vwCl[ci]? = some r9) (hr9 : T.1.cls = r9.1) (hlk0 : Cond.methodLink E.2.2.1 idx T.1 ∈ m_WS) (hin0 : Cond.instanceMethod T.1 ∈ m_WS) (hse0 : Cond.selects r9.1 T.1 T.1 ∈ m_WS) (hi0 : Cond.initialized r9.1 ∈ m_WS) (hdd : T.1.cls ≠ "java/lang/invoke/MethodHandle" ∧ T.1.cls ≠ "java/lang/invoke/VarHandle" ∧ (parseMethodDescriptor T.1.desc).map (fun d => d.parameters.length) = some (n - 1)) (hd : decode E.1 pc = .ok (.invokevirtual idx, 3)) (hn : pc + 3 = nx) : m_OK GP my E pc (o_callvx ci y n c1 c2 nx) := by
  subst hn; subst hm1; subst hm2
  intro l G p e R s m args below meth c dp call n0 ad0 mc ms Q r kk hGP hC hcall hmc hms hE hk lo st bd S h ad ls H locs cells slots had hn0 hR hS hl hlo hst hc hs
  obtain ⟨hx, hb, hml, hown, hts, hK, hsz, hini, hlk, hfr, hlc, hX, hXF, hXT⟩ := hC
  obtain ⟨hrcv, hn1, hn2, hc1, hc2, o, S', hcl, h⟩ := h
  obtain ⟨a, As, fs, hArg, hfs⟩ := m_rcv_of hrcv
  obtain ⟨a1, a2, a3, a4⟩ := m_atO hR hfs
  have hcon := hcall _ _ _ _ _ hcl
  rw [hT] at hcon
  have hcv : ∀ v ∈ (st.take n).reverse, m_vok S.1 v := fun v hv => hst v (List.mem_of_mem_take (List.mem_reverse.mp hv))
  have hle := m_cat_le ad (st.drop n)
  rw [List.length_drop] at hle
  cases o with
  | inl ov =>
    have hrun := va_runV (n := n - 1) (As := As.map (m_v ad)) (b := ad a) (rest := (st.drop n).map (m_v ad)) (e := e) (meth := meth) (below := below) (g := F0 m pc ls (st.map (m_v ad))) (cells := cells) (slots := slots) (locs := locs) ⟨hx, hb, hml, hown, hts⟩ (hcon.met ad hcv) (cwV (C := r9.1) (n - 1) hts (m_good (fun w hw => by
      simp only [wsV, List.cons_append, List.nil_append, List.mem_cons] at hw
      rcases hw with rfl | rfl | rfl | rfl | rfl | hw
      · exact hlk0
      · exact hin0
      · exact hse0
      · exact hi0
      · exact hcm
      · exact hw)) (by rw [hcw]) rfl rfl ⟨hr9, hdd⟩ ⟨by show dp + 10 + 1 ≤ R.frames; omega, by show 8 + (_ + 11) + (40 * dp + 200) ≤ R.locals; omega⟩) ⟨m_blind, va_recv hK hR.1 hc0 a3, m_Pc_of hX hR hS (by rw [hArg]; rfl)⟩ rfl (by rw [List.length_map]; exact m_As_len hArg hn1) hl.1 (m_stkr hArg) (lv_room (by omega)) hd ⟨by omega, by omega⟩
    exact m_go hrun (hk _ _ _ _ _ h) had hn0 hS hl hlo hst hc hs hc1 hc2
  | inr E9 =>
    have hrun := vx_runV (n := n - 1) (As := As.map (m_v ad)) (b := ad a) (rest := (st.drop n).map (m_v ad)) (e := e) (meth := meth) (below := below) (g := F0 m pc ls (st.map (m_v ad))) (cells := cells) (slots := slots) (locs := locs) ⟨hx, hb, hml, hown, hts⟩ (hcon ad hcv) (cwV (C := r9.1) (n - 1) hts (m_good (fun w hw => by
      simp only [wsV, List.cons_append, List.nil_append, List.mem_cons] at hw
      rcases hw with rfl | rfl | rfl | rfl | rfl | hw
      · exact hlk0
      · exact hin0
      · exact hse0
      · exact hi0
      · exact hcm
      · exact hw)) (by rw [hcw]) rfl rfl ⟨hr9, hdd⟩ ⟨by show dp + 10 + 1 ≤ R.frames; omega, by show 8 + (_ + 11) + (40 * dp + 200) ≤ R.locals; omega⟩) ⟨m_blind, va_recv hK hR.1 hc0 a3, m_Pc_of hX hR hS (by rw [hArg]; rfl)⟩ rfl (by rw [List.length_map]; exact m_As_len hArg hn1) hl.1 (m_stkr hArg) (lv_room (by omega)) hd ⟨by omega, by omega⟩
    rcases hE.2 with z | ⟨hl0, htab, Qc, XC, hQ, hxc⟩
    · exact absurd h (z _ _)
    · subst hQ
      refine m_gox hrun hS (fun ad' ce q locs' H' hag hle hrel hS' g1 g2 g3 => ?_)
      exact vx_out (fun x hx => (htab x hx).elim) hlk g1 g2 g3 (fun t ht hvm => hxc _ _ h ad' H' locs' t (fun i hi => (hag i (by omega)).trans (had i hi)) (Nat.le_trans hn0 hle) hrel hS' hvm (by rw [ht]; exact Nat.le_refl _) (fun q _ => by rw [ht])) hS'.2.2 (by omega) (by omega)
theorem ok_callh {GP : m_G → Prop} {my : Nat → m_T} {E : m_E} {pc nx : Nat} {y n c1 c2 idx : Nat} {T : m_T} (hT : my y = T) (hcw : T.2.1 = Cond.code T.1 T.2.2.1 T.2.2.2.1 T.2.2.2.2.1) (hcm : T.2.1 ∈ m_WS) (hm1 : T.2.2.2.2.2.1 = c1) (hm2 : T.2.2.2.2.2.2 = c2) (hL : T.2.2.2.1 ≤ 21) {ci : Nat} {r9 : vw_C} (hc0 : vwCl[ci]? = some r9) (hr9 : T.1.cls = r9.1) (hlk0 : Cond.methodLink E.2.2.1 idx T.1 ∈ m_WS) (hin0 : Cond.instanceMethod T.1 ∈ m_WS) (hse0 : Cond.selects r9.1 T.1 T.1 ∈ m_WS) (hi0 : Cond.initialized r9.1 ∈ m_WS) (hdd : T.1.cls ≠ "java/lang/invoke/MethodHandle" ∧ T.1.cls ≠ "java/lang/invoke/VarHandle" ∧ (parseMethodDescriptor T.1.desc).map (fun d => d.parameters.length) = some (n - 1)) {hd9 : List (String × Nat × Nat)} (hT0 : E.2.2.2.2.2 ≠ []) (hh : ∀ (E' : String) (tg k : Nat), m_hd E' hd9 = some (tg, k) → ∃ (pre suf : List ExceptionTableEntry) (x : ExceptionTableEntry) (nm : String), tableOf E.2.2.2.2.2 = pre ++ x :: suf ∧ (∀ z ∈ pre, z.catchType ≠ 0 ∧ ∃ nm9 : String, Cond.classLink E.2.2.1 z.catchType nm9 ∈ m_WS ∧ (E', nm9) ∈ m_ncs) ∧ covers x pc = true ∧ x.catchType ≠ 0 ∧ Cond.classLink E.2.2.1 x.catchType nm ∈ m_WS ∧ Cond.castable E' nm ∈ m_CW ∧ k < E.2.1 ∧ ((decode E.1 x.handlerPc = .ok (.astore k, 2) ∧ x.handlerPc + 2 = tg) ∨ ∃ k4 : Fin 4, (k4 : Nat) = k ∧ decode E.1 x.handlerPc = .ok (.astore_n k4, 1) ∧ x.handlerPc + 1 = tg)) (hd : decode E.1 pc = .ok (.invokevirtual idx, 3)) (hn : pc + 3 = nx) (h21 : E.2.1 ≠ 21) : m_OK GP my E pc (o_callh ci y n c1 c2 nx hd9) := by
  subst hn; subst hm1; subst hm2
  intro l G p e R s m args below meth c dp call n0 ad0 mc ms Q r kk hGP hC hcall hmc hms hE hk lo st bd S h ad ls H locs cells slots had hn0 hR hS hl hlo hst hc hs
  obtain ⟨hx, hb, hml, hown, hts, hK, hsz, hini, hlk, hfr, hlc, hX, hXF, hXT⟩ := hC
  obtain ⟨hrcv, hn1, hn2, hc1, hc2, o, S', hcl, h⟩ := h
  obtain ⟨a, As, fs, hArg, hfs⟩ := m_rcv_of hrcv
  obtain ⟨a1, a2, a3, a4⟩ := m_atO hR hfs
  have hcon := hcall _ _ _ _ _ hcl
  rw [hT] at hcon
  have hcv : ∀ v ∈ (st.take n).reverse, m_vok S.1 v := fun v hv => hst v (List.mem_of_mem_take (List.mem_reverse.mp hv))
  have hle := m_cat_le ad (st.drop n)
  rw [List.length_drop] at hle
  cases o with
  | inl ov =>
    have hrun := va_runV (n := n - 1) (As := As.map (m_v ad)) (b := ad a) (rest := (st.drop n).map (m_v ad)) (e := e) (meth := meth) (below := below) (g := F0 m pc ls (st.map (m_v ad))) (cells := cells) (slots := slots) (locs := locs) ⟨hx, hb, hml, hown, hts⟩ (hcon.met ad hcv) (cwV (C := r9.1) (n - 1) hts (m_good (fun w hw => by
      simp only [wsV, List.cons_append, List.nil_append, List.mem_cons] at hw
      rcases hw with rfl | rfl | rfl | rfl | rfl | hw
      · exact hlk0
      · exact hin0
      · exact hse0
      · exact hi0
      · exact hcm
      · exact hw)) (by rw [hcw]) rfl rfl ⟨hr9, hdd⟩ ⟨by show dp + 10 + 1 ≤ R.frames; omega, by show 8 + (_ + 11) + (40 * dp + 200) ≤ R.locals; omega⟩) ⟨m_blind, va_recv hK hR.1 hc0 a3, m_Pc_of hX hR hS (by rw [hArg]; rfl)⟩ rfl (by rw [List.length_map]; exact m_As_len hArg hn1) hl.1 (m_stkr hArg) (lv_room (by omega)) hd ⟨by omega, by omega⟩
    exact m_go hrun (hk _ _ _ _ _ h) had hn0 hS hl hlo hst hc hs hc1 hc2
  | inr E9 =>
    have hrun := vx_runV (n := n - 1) (As := As.map (m_v ad)) (b := ad a) (rest := (st.drop n).map (m_v ad)) (e := e) (meth := meth) (below := below) (g := F0 m pc ls (st.map (m_v ad))) (cells := cells) (slots := slots) (locs := locs) ⟨hx, hb, hml, hown, hts⟩ (hcon ad hcv) (cwV (C := r9.1) (n - 1) hts (m_good (fun w hw => by
      simp only [wsV, List.cons_append, List.nil_append, List.mem_cons] at hw
      rcases hw with rfl | rfl | rfl | rfl | rfl | hw
      · exact hlk0
      · exact hin0
      · exact hse0
      · exact hi0
      · exact hcm
      · exact hw)) (by rw [hcw]) rfl rfl ⟨hr9, hdd⟩ ⟨by show dp + 10 + 1 ≤ R.frames; omega, by show 8 + (_ + 11) + (40 * dp + 200) ≤ R.locals; omega⟩) ⟨m_blind, va_recv hK hR.1 hc0 a3, m_Pc_of hX hR hS (by rw [hArg]; rfl)⟩ rfl (by rw [List.length_map]; exact m_As_len hArg hn1) hl.1 (m_stkr hArg) (lv_room (by omega)) hd ⟨by omega, by omega⟩
    unfold m_cs at h
    dsimp only at h
    split at h
    · rename_i tg k hhd
      obtain ⟨pre, suf, x, nm, h1, h2, h3, h4, h5, h6, h7, h8⟩ := hh E9 tg k hhd
      refine m_gox hrun hS (fun ad' ce q locs' H' hag hle hrel hS' g1 g2 g3 => ?_)
      refine vx_catch hown pre x suf ((hXT hT0).trans h1) (fun z hz => Or.inr ⟨(h2 z hz).1, (h2 z hz).2.choose, hts _ (h2 z hz).2.choose_spec.1, hXF.2.2.2.2.2.2.1 _ (h2 z hz).2.choose_spec.2⟩) h3 h4 (hts _ h5) (va_Nw.use rfl (hXF.1 _ h6)) g1 g2 g3 ?_
      have hl' := m_lh_agree hag hlo hl
      have hlo' := m_lo_mono hle hlo
      rcases h8 with ⟨hd8, rfl⟩ | ⟨k4, hk4, hd8, rfl⟩
      · refine lv_astore hx hb hd8 (m_lh_has hl') h7 rfl (fun ls' h' => ?_)
        exact hk _ _ _ _ _ h ad' ls' H' locs' _ _ (fun i hi => (hag i (by omega)).trans (had i hi)) (Nat.le_trans hn0 hle) hrel hS' (m_lh_none hl' hlo' h' h21) (m_lo_none hlo') (fun v hv => by cases hv) (by show _ + (bd.1 - _) ≤ mc; omega) (by show _ + (bd.2 - _) ≤ ms; omega)
      · refine lv_astore_n hx hb hd8 hk4 (m_lh_has hl') h7 rfl (fun ls' h' => ?_)
        exact hk _ _ _ _ _ h ad' ls' H' locs' _ _ (fun i hi => (hag i (by omega)).trans (had i hi)) (Nat.le_trans hn0 hle) hrel hS' (m_lh_none hl' hlo' h' h21) (m_lo_none hlo') (fun v hv => by cases hv) (by show _ + (bd.1 - _) ≤ mc; omega) (by show _ + (bd.2 - _) ≤ ms; omega)
    · exact h.elim
theorem ok_callsw {GP : m_G → Prop} {my : Nat → m_T} {E : m_E} {pc nx : Nat} {y n c1 c2 idx : Nat} {T : m_T} {hh9 : List (Nat × Nat × Nat × Nat)} (hT : my y = T) (hcw : T.2.1 = Cond.codeWith T.1 T.2.2.1 T.2.2.2.1 T.2.2.2.2.1 hh9) (hcm : T.2.1 ∈ m_WS) (hm1 : T.2.2.2.2.2.1 = c1) (hm2 : T.2.2.2.2.2.2 = c2) (hL : T.2.2.2.1 ≤ 21) (hlk0 : Cond.methodLink E.2.2.1 idx T.1 ∈ m_WS) (hst0 : Cond.static T.1 ∈ m_WS) (hi0 : Cond.initialized T.1.cls ∈ m_WS) (hdd : T.1.cls ≠ "java/lang/invoke/MethodHandle" ∧ T.1.cls ≠ "java/lang/invoke/VarHandle" ∧ (parseMethodDescriptor T.1.desc).map (fun d => d.parameters.length) = some n) (hd : decode E.1 pc = .ok (.invokestatic idx, 3)) (hn : pc + 3 = nx) : m_OK GP my E pc (o_call y n c1 c2 nx) := by
  subst hn; subst hm1; subst hm2
  intro l G p e R s m args below meth c dp call n0 ad0 mc ms Q r kk hGP hC hcall hmc hms hE hk lo st bd S h ad ls H locs cells slots had hn0 hR hS hl hlo hst hc hs
  obtain ⟨hx, hb, hml, hown, hts, hK, hsz, hini, hlk, hfr, hlc, hX, hXF, hXT⟩ := hC
  obtain ⟨hn1, hn2, hc1, hc2, ov, S', hcl, h⟩ := h
  have hcon := hcall _ _ _ _ _ hcl
  rw [hT] at hcon
  have hM := hcon.met ad (fun v hv => hst v (List.mem_of_mem_take (List.mem_reverse.mp hv)))
  have hle := m_cat_le ad (st.drop n)
  rw [List.length_drop] at hle
  have hrun := vx_runSW (n := n) (As := (st.take n).reverse.map (m_v ad)) (rest := (st.drop n).map (m_v ad)) (e := e) (meth := meth) (below := below) (g := F0 m pc ls (st.map (m_v ad))) (cells := cells) (slots := slots) (locs := locs) ⟨hx, hb, hml, hown, hts⟩ hM (vx_cwSW n hts (m_good (fun w hw => by
    simp only [va_wsS, List.cons_append, List.nil_append, List.mem_cons] at hw
    rcases hw with rfl | rfl | rfl | rfl | hw
    · exact hlk0
    · exact hst0
    · exact hi0
    · exact hcm
    · exact hw)) (by rw [hcw]) rfl rfl hdd ⟨by show dp + 10 + 1 ≤ R.frames; omega, by show 8 + (_ + 11) + (40 * dp + 200) ≤ R.locals; omega⟩) ⟨m_blind, m_Pc_of hX hR hS rfl⟩ rfl (by simp [hn1]) hl.1 m_stk (lv_room (by omega)) hd ⟨by omega, by omega⟩
  exact m_go hrun (hk _ _ _ _ _ h) had hn0 hS hl hlo hst hc hs hc1 hc2
