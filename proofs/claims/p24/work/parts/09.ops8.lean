/-! longs among the locals (the method of 21 locals), and their arithmetic -/
theorem m_nlg_ne {ad : Nat → Nat} {lo : m_L} {i k : Nat} {v : Value} (h : m_nlg lo k) (hi : i + 1 = k) (hv : lo[i]? = some (some v)) : ((m_v ad v).category == 2) = false := by
  subst hi
  unfold m_nlg at h
  dsimp only at h
  rw [hv] at h
  cases v <;> first | exact h.elim | rfl
theorem m_lh_setW {ad : Nat → Nat} {nL k : Nat} {lo : m_L} {ls ls' : Array Slot} {x : Value} (h : m_lh ad nL lo ls) (hg : m_nlg lo k)
    (h' : lv_has ls' nL ((k, m_v ad x) :: (m_as ad lo).filter (fun q => !(q.1 == k) && !(q.1 + 1 == k && q.2.category == 2)))) : m_lh ad nL (lo.set k (some x)) ls' := by
  refine ⟨h'.1, h'.2.1, by rw [List.length_set]; exact h.2.2.1, fun i v hv => ?_⟩
  rw [List.getElem?_set] at hv
  split at hv
  · rename_i hk
    subst hk
    split at hv
    · cases hv
      exact h'.2.2 _ List.mem_cons_self
    · cases hv
  · rename_i hk
    refine h'.2.2 (i, m_v ad v) (List.mem_cons_of_mem _ (List.mem_filter.mpr ⟨m_as_of hv, ?_⟩))
    by_cases hi : i + 1 = k
    · simp [m_nlg_ne (ad := ad) hg hi hv, Ne.symm hk]
    · simp [hi, Ne.symm hk]
theorem m_lo_setW {nL n k : Nat} {lo : m_L} {x : Option Value} (h21 : nL = 21) (hc : ∀ (i : Nat) (v : Value), lo[i]? = some (some v) → m_vok n v ∧ (v.category = 1 ∨ nL = 21)) (hx : ∀ v, x = some v → m_vok n v) : ∀ (i : Nat) (v : Value), (lo.set k x)[i]? = some (some v) → m_vok n v ∧ (v.category = 1 ∨ nL = 21) := by
  intro i v hv
  rw [List.getElem?_set] at hv
  split at hv
  · split at hv
    · injection hv with hv
      exact ⟨hx v hv, Or.inr h21⟩
    · cases hv
  · exact hc i v hv
theorem m_lh_setL {ad : Nat → Nat} {nL k : Nat} {lo : m_L} {ls ls' : Array Slot} {x : Int64} (h : m_lh ad nL lo ls) (hg : m_nlg lo k)
    (h' : lv_has ls' nL ((k, Value.long x) :: (m_as ad lo).filter (fun q => !(q.1 == k) && (!(q.1 == k + 1) && !(q.1 + 1 == k && q.2.category == 2))))) : m_lh ad nL ((lo.set k (some (.long x))).set (k + 1) none) ls' := by
  refine ⟨h'.1, h'.2.1, by rw [List.length_set, List.length_set]; exact h.2.2.1, fun i v hv => ?_⟩
  rw [List.getElem?_set] at hv
  split at hv
  · split at hv
    · cases hv
    · cases hv
  · rename_i hk1
    rw [List.getElem?_set] at hv
    split at hv
    · rename_i hk
      subst hk
      split at hv
      · cases hv
        exact h'.2.2 _ List.mem_cons_self
      · cases hv
    · rename_i hk
      refine h'.2.2 (i, m_v ad v) (List.mem_cons_of_mem _ (List.mem_filter.mpr ⟨m_as_of hv, ?_⟩))
      by_cases hi : i + 1 = k
      · simp [m_nlg_ne (ad := ad) hg hi hv, Ne.symm hk, Ne.symm hk1]
      · simp [hi, Ne.symm hk, Ne.symm hk1]
theorem ok_istW {GP : m_G → Prop} {my : Nat → m_T} {E : m_E} {pc nx : Nat} {k : Nat} (hd : decode E.1 pc = .ok (.istore k, 2)) (hn : pc + 2 = nx) (h21 : E.2.1 = 21) : m_OK GP my E pc (o_istW k nx) := by
  subst hn
  intro l G p e R s m args below meth c dp call n0 ad0 mc ms Q r kk hGP hC hcall hmc hms hE hk lo st bd S h ad ls H locs cells slots had hn0 hR hS hl hlo hst hc hs
  obtain ⟨hx, hb, hml, hown, hts, hK, hsz, hini, hlk, hfr, hlc, hX, hXF, hXT⟩ := hC
  unfold o_istW at h
  split at h
  · rename_i x st'
    refine lv_istore hx hb hd (m_lh_has hl) (by rw [← hl.2.2.1]; exact h.1) rfl (fun ls' h' => ?_)
    exact hk _ _ _ _ _ h.2.2 ad ls' H locs cells slots had hn0 hR hS (m_lh_setW hl h.2.1 h') (m_lo_setW h21 hlo (fun v e => by cases e; exact trivial)) (m_st_t hst) hc hs
  · exact h.elim
theorem ok_astW {GP : m_G → Prop} {my : Nat → m_T} {E : m_E} {pc nx : Nat} {k : Nat} (hd : decode E.1 pc = .ok (.astore k, 2)) (hn : pc + 2 = nx) (h21 : E.2.1 = 21) : m_OK GP my E pc (o_astW k nx) := by
  subst hn
  intro l G p e R s m args below meth c dp call n0 ad0 mc ms Q r kk hGP hC hcall hmc hms hE hk lo st bd S h ad ls H locs cells slots had hn0 hR hS hl hlo hst hc hs
  obtain ⟨hx, hb, hml, hown, hts, hK, hsz, hini, hlk, hfr, hlc, hX, hXF, hXT⟩ := hC
  unfold o_astW at h
  split at h
  · rename_i x st'
    refine lv_astore hx hb hd (m_lh_has hl) (by rw [← hl.2.2.1]; exact h.1) rfl (fun ls' h' => ?_)
    exact hk _ _ _ _ _ h.2.2 ad ls' H locs cells slots had hn0 hR hS (m_lh_setW hl h.2.1 h') (m_lo_setW h21 hlo (fun v e => by cases e; exact m_st_h hst)) (m_st_t hst) hc hs
  · exact h.elim
theorem ok_iincW {GP : m_G → Prop} {my : Nat → m_T} {E : m_E} {pc nx : Nat} {k : Nat} {n : Int} {v : Int32} (hd : decode E.1 pc = .ok (.iinc k n, 3)) (hv : Int32.ofInt n = v) (hn : pc + 3 = nx) (h21 : E.2.1 = 21) : m_OK GP my E pc (o_iincW k v nx) := by
  subst hn
  intro l G p e R s m args below meth c dp call n0 ad0 mc ms Q r kk hGP hC hcall hmc hms hE hk lo st bd S h ad ls H locs cells slots had hn0 hR hS hl hlo hst hc hs
  obtain ⟨hx, hb, hml, hown, hts, hK, hsz, hini, hlk, hfr, hlc, hX, hXF, hXT⟩ := hC
  unfold o_iincW at h
  split at h
  · rename_i x h1
    obtain ⟨j, hj⟩ := List.getElem?_of_mem (m_as_of (ad := ad) h1)
    refine lv_iinc (v := x + v) hx hb hd (m_lh_has hl) hj (by rw [hv]) (by rw [← hl.2.2.1]; exact (List.getElem?_eq_some_iff.mp h1).1) rfl (fun ls' h' => ?_)
    exact hk _ _ _ _ _ h.2 ad ls' H locs cells slots had hn0 hR hS (m_lh_setW (x := .int (x + v)) hl h.1 h') (m_lo_setW h21 hlo (fun v e => by cases e; exact trivial)) hst hc hs
  · exact h.elim
theorem ok_lload {GP : m_G → Prop} {my : Nat → m_T} {E : m_E} {pc nx : Nat} {k : Nat} (hd : decode E.1 pc = .ok (.lload k, 2)) (hn : pc + 2 = nx) : m_OK GP my E pc (o_lload k nx) := by
  subst hn
  intro l G p e R s m args below meth c dp call n0 ad0 mc ms Q r kk hGP hC hcall hmc hms hE hk lo st bd S h ad ls H locs cells slots had hn0 hR hS hl hlo hst hc hs
  obtain ⟨hx, hb, hml, hown, hts, hK, hsz, hini, hlk, hfr, hlc, hX, hXF, hXT⟩ := hC
  unfold o_lload at h
  split at h
  · rename_i x h1
    refine lv_lload hx hb hd (hl.2.2.2 k _ h1) ?_
    exact hk _ _ _ _ _ h ad ls H locs cells slots had hn0 hR hS hl hlo (m_st_c (hlo k _ h1).1 hst) hc hs
  · exact h.elim
theorem ok_lstore {GP : m_G → Prop} {my : Nat → m_T} {E : m_E} {pc nx : Nat} {k : Nat} (hd : decode E.1 pc = .ok (.lstore k, 2)) (hn : pc + 2 = nx) (h21 : E.2.1 = 21) : m_OK GP my E pc (o_lstore k nx) := by
  subst hn
  intro l G p e R s m args below meth c dp call n0 ad0 mc ms Q r kk hGP hC hcall hmc hms hE hk lo st bd S h ad ls H locs cells slots had hn0 hR hS hl hlo hst hc hs
  obtain ⟨hx, hb, hml, hown, hts, hK, hsz, hini, hlk, hfr, hlc, hX, hXF, hXT⟩ := hC
  unfold o_lstore at h
  split at h
  · rename_i x st'
    refine lv_lstore hx hb hd (m_lh_has hl) (by rw [← hl.2.2.1]; exact h.1) rfl (fun ls' h' => ?_)
    exact hk _ _ _ _ _ h.2.2 ad ls' H locs cells slots had hn0 hR hS (m_lh_setL hl h.2.1 h') (m_lo_setW h21 (m_lo_setW h21 hlo (fun v e => by cases e; exact trivial)) (fun v e => by cases e)) (m_st_t hst) hc hs
  · exact h.elim
theorem ok_ladd {GP : m_G → Prop} {my : Nat → m_T} {E : m_E} {pc nx : Nat} (hd : decode E.1 pc = .ok (.ladd, 1)) (hn : pc + 1 = nx) : m_OK GP my E pc (o_lbin (fun x y => x + y) nx) := by
  subst hn
  intro l G p e R s m args below meth c dp call n0 ad0 mc ms Q r kk hGP hC hcall hmc hms hE hk lo st bd S h ad ls H locs cells slots had hn0 hR hS hl hlo hst hc hs
  obtain ⟨hx, hb, hml, hown, hts, hK, hsz, hini, hlk, hfr, hlc, hX, hXF, hXT⟩ := hC
  unfold o_lbin at h
  split at h
  · refine lv_ladd hx hb hd ?_
    exact hk _ _ _ _ _ h ad ls H locs cells slots had hn0 hR hS hl hlo (m_st_c trivial (m_st_t (m_st_t hst))) hc hs
  · exact h.elim
theorem ok_lsub {GP : m_G → Prop} {my : Nat → m_T} {E : m_E} {pc nx : Nat} (hd : decode E.1 pc = .ok (.lsub, 1)) (hn : pc + 1 = nx) : m_OK GP my E pc (o_lbin (fun x y => x - y) nx) := by
  subst hn
  intro l G p e R s m args below meth c dp call n0 ad0 mc ms Q r kk hGP hC hcall hmc hms hE hk lo st bd S h ad ls H locs cells slots had hn0 hR hS hl hlo hst hc hs
  obtain ⟨hx, hb, hml, hown, hts, hK, hsz, hini, hlk, hfr, hlc, hX, hXF, hXT⟩ := hC
  unfold o_lbin at h
  split at h
  · refine lv_lsub hx hb hd ?_
    exact hk _ _ _ _ _ h ad ls H locs cells slots had hn0 hR hS hl hlo (m_st_c trivial (m_st_t (m_st_t hst))) hc hs
  · exact h.elim
theorem ok_lmul {GP : m_G → Prop} {my : Nat → m_T} {E : m_E} {pc nx : Nat} (hd : decode E.1 pc = .ok (.lmul, 1)) (hn : pc + 1 = nx) : m_OK GP my E pc (o_lbin (fun x y => x * y) nx) := by
  subst hn
  intro l G p e R s m args below meth c dp call n0 ad0 mc ms Q r kk hGP hC hcall hmc hms hE hk lo st bd S h ad ls H locs cells slots had hn0 hR hS hl hlo hst hc hs
  obtain ⟨hx, hb, hml, hown, hts, hK, hsz, hini, hlk, hfr, hlc, hX, hXF, hXT⟩ := hC
  unfold o_lbin at h
  split at h
  · refine lv_lmul hx hb hd ?_
    exact hk _ _ _ _ _ h ad ls H locs cells slots had hn0 hR hS hl hlo (m_st_c trivial (m_st_t (m_st_t hst))) hc hs
  · exact h.elim
theorem ok_lrem {GP : m_G → Prop} {my : Nat → m_T} {E : m_E} {pc nx : Nat} (hd : decode E.1 pc = .ok (.lrem, 1)) (hn : pc + 1 = nx) : m_OK GP my E pc (o_ldiv (fun x y => x - x / y * y) nx) := by
  subst hn
  intro l G p e R s m args below meth c dp call n0 ad0 mc ms Q r kk hGP hC hcall hmc hms hE hk lo st bd S h ad ls H locs cells slots had hn0 hR hS hl hlo hst hc hs
  obtain ⟨hx, hb, hml, hown, hts, hK, hsz, hini, hlk, hfr, hlc, hX, hXF, hXT⟩ := hC
  unfold o_ldiv at h
  split at h
  · refine lv_lrem hx hb hd h.1 ?_
    exact hk _ _ _ _ _ h.2 ad ls H locs cells slots had hn0 hR hS hl hlo (m_st_c trivial (m_st_t (m_st_t hst))) hc hs
  · exact h.elim
theorem ok_ldc2 {GP : m_G → Prop} {my : Nat → m_T} {E : m_E} {pc nx idx : Nat} {v : Int64} (hw : Cond.constantLong E.2.2.1 idx v ∈ m_WS) (hd : decode E.1 pc = .ok (.ldc2_w idx, 3)) (hn : pc + 3 = nx) : m_OK GP my E pc (o_lconst v nx) := by
  subst hn
  intro l G p e R s m args below meth c dp call n0 ad0 mc ms Q r kk hGP hC hcall hmc hms hE hk lo st bd S h ad ls H locs cells slots had hn0 hR hS hl hlo hst hc hs
  obtain ⟨hx, hb, hml, hown, hts, hK, hsz, hini, hlk, hfr, hlc, hX, hXF, hXT⟩ := hC
  refine lv_ldc2 hx hb hown (hts _ hw) hd ?_
  exact hk _ _ _ _ _ h ad ls H locs cells slots had hn0 hR hS hl hlo (m_st_c trivial hst) hc hs
