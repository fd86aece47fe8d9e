section LK
/-- locals as the kit lists them -/
def m_as (ad : Nat → Nat) (lo : m_L) : List (Nat × Value) := (List.range lo.length).filterMap (fun i => match lo[i]? with
  | some (some v) => some (i, m_v ad v)
  | _ => none)
theorem m_as_mem {ad : Nat → Nat} {lo : m_L} {i : Nat} {v : Value} (h : (i, v) ∈ m_as ad lo) : ∃ v0, lo[i]? = some (some v0) ∧ v = m_v ad v0 := by
  unfold m_as at h
  obtain ⟨j, hj, h⟩ := List.mem_filterMap.mp h
  split at h
  · rename_i v0 h1
    cases h
    exact ⟨v0, h1, rfl⟩
  · cases h
theorem m_as_of {ad : Nat → Nat} {lo : m_L} {i : Nat} {v : Value} (h : lo[i]? = some (some v)) : (i, m_v ad v) ∈ m_as ad lo := by
  unfold m_as
  refine List.mem_filterMap.mpr ⟨i, List.mem_range.mpr (List.getElem?_eq_some_iff.mp h).1, ?_⟩
  rw [h]
theorem m_lh_has {ad : Nat → Nat} {nL : Nat} {lo : m_L} {ls : Array Slot} (h : m_lh ad nL lo ls) : lv_has ls nL (m_as ad lo) := by
  refine ⟨h.1, h.2.1, fun q hq => ?_⟩
  obtain ⟨i, v⟩ := q
  obtain ⟨v0, h1, rfl⟩ := m_as_mem hq
  exact h.2.2.2 i v0 h1
/-- a store of a value of one word -/
theorem m_lh_set {ad : Nat → Nat} {nL n k : Nat} {lo : m_L} {ls ls' : Array Slot} {x : Value} (h : m_lh ad nL lo ls) (hc : ∀ (i : Nat) (v : Value), lo[i]? = some (some v) → m_vok n v ∧ (v.category = 1 ∨ nL = 21))
    (h' : lv_has ls' nL ((k, m_v ad x) :: (m_as ad lo).filter (fun q => !(q.1 == k) && !(q.1 + 1 == k && q.2.category == 2)))) (h21 : nL ≠ 21) : m_lh ad nL (lo.set k (some x)) ls' := by
  refine ⟨h'.1, h'.2.1, by rw [List.length_set]; exact h.2.2.1, fun i v hv => ?_⟩
  rw [List.getElem?_set] at hv
  split at hv
  · rename_i hk
    subst hk
    split at hv
    · cases hv
      exact h'.2.2 _ List.mem_cons_self
    · cases hv
  · rename_i hk
    refine h'.2.2 (i, m_v ad v) (List.mem_cons_of_mem _ (List.mem_filter.mpr ⟨m_as_of hv, ?_⟩))
    have h2 : (m_v ad v).category = 1 := by
      have := (hc i v hv).2.resolve_right h21
      cases v <;> first | exact this | rfl
    simp [h2, Ne.symm hk]
theorem m_lo_set {nL n k : Nat} {lo : m_L} {x : Value} (hc : ∀ (i : Nat) (v : Value), lo[i]? = some (some v) → m_vok n v ∧ (v.category = 1 ∨ nL = 21)) (hx : m_vok n x ∧ (x.category = 1 ∨ nL = 21)) : ∀ (i : Nat) (v : Value), (lo.set k (some x))[i]? = some (some v) → m_vok n v ∧ (v.category = 1 ∨ nL = 21) := by
  intro i v hv
  rw [List.getElem?_set] at hv
  split at hv
  · split at hv
    · cases hv; exact hx
    · cases hv
  · exact hc i v hv
end LK
theorem m_st_c {n : Nat} {st : List Value} {v : Value} (hv : m_vok n v) (h : ∀ w ∈ st, m_vok n w) : ∀ w ∈ v :: st, m_vok n w := List.forall_mem_cons.mpr ⟨hv, h⟩
theorem m_st_t {n : Nat} {st : List Value} {v : Value} (h : ∀ w ∈ v :: st, m_vok n w) : ∀ w ∈ st, m_vok n w := (List.forall_mem_cons.mp h).2
theorem m_st_h {n : Nat} {st : List Value} {v : Value} (h : ∀ w ∈ v :: st, m_vok n w) : m_vok n v := (List.forall_mem_cons.mp h).1
theorem m_nlt {x y : Int32} (h : y ≤ x) : ¬ x < y := Int32.not_lt.mpr h
theorem m_lt {x y : Int32} (h : ¬ y ≤ x) : x < y := Int32.not_le.mp h

theorem ok_iload {GP : m_G → Prop} {my : Nat → m_T} {E : m_E} {pc nx : Nat} {k : Nat} (hd : decode E.1 pc = .ok (.iload k, 2)) (hn : pc + 2 = nx) : m_OK GP my E pc (o_iload k nx) := by
  subst hn
  intro l G p e R s m args below meth c dp call n0 ad0 mc ms Q r kk hGP hC hcall hmc hms hE hk lo st bd S h ad ls H locs cells slots had hn0 hR hS hl hlo hst hc hs
  obtain ⟨hx, hb, hml, hown, hts, hK, hsz, hini, hlk, hfr, hlc, hX, hXF, hXT⟩ := hC
  unfold o_iload at h
  split at h
  · rename_i x h1
    refine lv_iload hx hb hd (hl.2.2.2 k _ h1) ?_
    exact hk _ _ _ _ _ h ad ls H locs cells slots had hn0 hR hS hl hlo (m_st_c (hlo k _ h1).1 hst) hc hs
  · exact h.elim
theorem ok_iload_n {GP : m_G → Prop} {my : Nat → m_T} {E : m_E} {pc nx : Nat} {k : Nat} {k4 : Fin 4} (hd : decode E.1 pc = .ok (.iload_n k4, 1)) (h4 : (k4 : Nat) = k) (hn : pc + 1 = nx) : m_OK GP my E pc (o_iload k nx) := by
  subst hn
  intro l G p e R s m args below meth c dp call n0 ad0 mc ms Q r kk hGP hC hcall hmc hms hE hk lo st bd S h ad ls H locs cells slots had hn0 hR hS hl hlo hst hc hs
  obtain ⟨hx, hb, hml, hown, hts, hK, hsz, hini, hlk, hfr, hlc, hX, hXF, hXT⟩ := hC
  unfold o_iload at h
  split at h
  · rename_i x h1
    refine lv_iload_n hx hb hd h4 (hl.2.2.2 k _ h1) ?_
    exact hk _ _ _ _ _ h ad ls H locs cells slots had hn0 hR hS hl hlo (m_st_c (hlo k _ h1).1 hst) hc hs
  · exact h.elim
theorem ok_aload {GP : m_G → Prop} {my : Nat → m_T} {E : m_E} {pc nx : Nat} {k : Nat} (hd : decode E.1 pc = .ok (.aload k, 2)) (hn : pc + 2 = nx) : m_OK GP my E pc (o_aload k nx) := by
  subst hn
  intro l G p e R s m args below meth c dp call n0 ad0 mc ms Q r kk hGP hC hcall hmc hms hE hk lo st bd S h ad ls H locs cells slots had hn0 hR hS hl hlo hst hc hs
  obtain ⟨hx, hb, hml, hown, hts, hK, hsz, hini, hlk, hfr, hlc, hX, hXF, hXT⟩ := hC
  unfold o_aload at h
  split at h
  · rename_i x h1
    refine lv_aload hx hb hd (hl.2.2.2 k _ h1) ?_
    exact hk _ _ _ _ _ h ad ls H locs cells slots had hn0 hR hS hl hlo (m_st_c (hlo k _ h1).1 hst) hc hs
  · exact h.elim
theorem ok_aload_n {GP : m_G → Prop} {my : Nat → m_T} {E : m_E} {pc nx : Nat} {k : Nat} {k4 : Fin 4} (hd : decode E.1 pc = .ok (.aload_n k4, 1)) (h4 : (k4 : Nat) = k) (hn : pc + 1 = nx) : m_OK GP my E pc (o_aload k nx) := by
  subst hn
  intro l G p e R s m args below meth c dp call n0 ad0 mc ms Q r kk hGP hC hcall hmc hms hE hk lo st bd S h ad ls H locs cells slots had hn0 hR hS hl hlo hst hc hs
  obtain ⟨hx, hb, hml, hown, hts, hK, hsz, hini, hlk, hfr, hlc, hX, hXF, hXT⟩ := hC
  unfold o_aload at h
  split at h
  · rename_i x h1
    refine lv_aload_n hx hb hd h4 (hl.2.2.2 k _ h1) ?_
    exact hk _ _ _ _ _ h ad ls H locs cells slots had hn0 hR hS hl hlo (m_st_c (hlo k _ h1).1 hst) hc hs
  · exact h.elim
theorem ok_iconst {GP : m_G → Prop} {my : Nat → m_T} {E : m_E} {pc nx : Nat} {n : Int} {v : Int32} (hd : decode E.1 pc = .ok (.iconst n, 1)) (hv : Int32.ofInt n = v) (hn : pc + 1 = nx) : m_OK GP my E pc (o_const v nx) := by
  subst hn
  intro l G p e R s m args below meth c dp call n0 ad0 mc ms Q r kk hGP hC hcall hmc hms hE hk lo st bd S h ad ls H locs cells slots had hn0 hR hS hl hlo hst hc hs
  obtain ⟨hx, hb, hml, hown, hts, hK, hsz, hini, hlk, hfr, hlc, hX, hXF, hXT⟩ := hC
  refine lv_iconst hx hb hd hv ?_
  exact hk _ _ _ _ _ h ad ls H locs cells slots had hn0 hR hS hl hlo (m_st_c trivial hst) hc hs
theorem ok_bipush {GP : m_G → Prop} {my : Nat → m_T} {E : m_E} {pc nx : Nat} {n : Int} {v : Int32} (hd : decode E.1 pc = .ok (.bipush n, 2)) (hv : (Int8.ofInt n).toInt32 = v) (hn : pc + 2 = nx) : m_OK GP my E pc (o_const v nx) := by
  subst hn
  intro l G p e R s m args below meth c dp call n0 ad0 mc ms Q r kk hGP hC hcall hmc hms hE hk lo st bd S h ad ls H locs cells slots had hn0 hR hS hl hlo hst hc hs
  obtain ⟨hx, hb, hml, hown, hts, hK, hsz, hini, hlk, hfr, hlc, hX, hXF, hXT⟩ := hC
  refine lv_bipush hx hb hd hv ?_
  exact hk _ _ _ _ _ h ad ls H locs cells slots had hn0 hR hS hl hlo (m_st_c trivial hst) hc hs
theorem ok_sipush {GP : m_G → Prop} {my : Nat → m_T} {E : m_E} {pc nx : Nat} {n : Int} {v : Int32} (hd : decode E.1 pc = .ok (.sipush n, 3)) (hv : (Int16.ofInt n).toInt32 = v) (hn : pc + 3 = nx) : m_OK GP my E pc (o_const v nx) := by
  subst hn
  intro l G p e R s m args below meth c dp call n0 ad0 mc ms Q r kk hGP hC hcall hmc hms hE hk lo st bd S h ad ls H locs cells slots had hn0 hR hS hl hlo hst hc hs
  obtain ⟨hx, hb, hml, hown, hts, hK, hsz, hini, hlk, hfr, hlc, hX, hXF, hXT⟩ := hC
  refine lv_sipush hx hb hd hv ?_
  exact hk _ _ _ _ _ h ad ls H locs cells slots had hn0 hR hS hl hlo (m_st_c trivial hst) hc hs
theorem ok_ldc {GP : m_G → Prop} {my : Nat → m_T} {E : m_E} {pc nx : Nat} {n : Nat} {v : Int32} (hd : decode E.1 pc = .ok (.ldc n, 2)) (hv : Cond.constant E.2.2.1 n v ∈ m_WS) (hn : pc + 2 = nx) : m_OK GP my E pc (o_const v nx) := by
  subst hn
  intro l G p e R s m args below meth c dp call n0 ad0 mc ms Q r kk hGP hC hcall hmc hms hE hk lo st bd S h ad ls H locs cells slots had hn0 hR hS hl hlo hst hc hs
  obtain ⟨hx, hb, hml, hown, hts, hK, hsz, hini, hlk, hfr, hlc, hX, hXF, hXT⟩ := hC
  refine lv_ldc hx hb hown (hts _ hv) hd ?_
  exact hk _ _ _ _ _ h ad ls H locs cells slots had hn0 hR hS hl hlo (m_st_c trivial hst) hc hs
theorem ok_lconst {GP : m_G → Prop} {my : Nat → m_T} {E : m_E} {pc nx : Nat} {n : Fin 2} {v : Int64} (hd : decode E.1 pc = .ok (.lconst n, 1)) (hv : Int64.ofNat (n : Nat) = v) (hn : pc + 1 = nx) : m_OK GP my E pc (o_lconst v nx) := by
  subst hn
  intro l G p e R s m args below meth c dp call n0 ad0 mc ms Q r kk hGP hC hcall hmc hms hE hk lo st bd S h ad ls H locs cells slots had hn0 hR hS hl hlo hst hc hs
  obtain ⟨hx, hb, hml, hown, hts, hK, hsz, hini, hlk, hfr, hlc, hX, hXF, hXT⟩ := hC
  refine lv_lconst hx hb hd hv ?_
  exact hk _ _ _ _ _ h ad ls H locs cells slots had hn0 hR hS hl hlo (m_st_c trivial hst) hc hs
theorem ok_istore {GP : m_G → Prop} {my : Nat → m_T} {E : m_E} {pc nx : Nat} {k : Nat} (hd : decode E.1 pc = .ok (.istore k, 2)) (hn : pc + 2 = nx) (h21 : E.2.1 ≠ 21) : m_OK GP my E pc (o_istore k nx) := by
  subst hn
  intro l G p e R s m args below meth c dp call n0 ad0 mc ms Q r kk hGP hC hcall hmc hms hE hk lo st bd S h ad ls H locs cells slots had hn0 hR hS hl hlo hst hc hs
  obtain ⟨hx, hb, hml, hown, hts, hK, hsz, hini, hlk, hfr, hlc, hX, hXF, hXT⟩ := hC
  unfold o_istore at h
  split at h
  · rename_i x st'
    refine lv_istore hx hb hd (m_lh_has hl) (by rw [← hl.2.2.1]; exact h.1) rfl (fun ls' h' => ?_)
    exact hk _ _ _ _ _ h.2 ad ls' H locs cells slots had hn0 hR hS (m_lh_set hl hlo h' h21) (m_lo_set hlo ⟨trivial, Or.inl rfl⟩) (m_st_t hst) hc hs
  · exact h.elim
theorem ok_istore_n {GP : m_G → Prop} {my : Nat → m_T} {E : m_E} {pc nx : Nat} {k : Nat} {k4 : Fin 4} (hd : decode E.1 pc = .ok (.istore_n k4, 1)) (h4 : (k4 : Nat) = k) (hn : pc + 1 = nx) (h21 : E.2.1 ≠ 21) : m_OK GP my E pc (o_istore k nx) := by
  subst hn
  intro l G p e R s m args below meth c dp call n0 ad0 mc ms Q r kk hGP hC hcall hmc hms hE hk lo st bd S h ad ls H locs cells slots had hn0 hR hS hl hlo hst hc hs
  obtain ⟨hx, hb, hml, hown, hts, hK, hsz, hini, hlk, hfr, hlc, hX, hXF, hXT⟩ := hC
  unfold o_istore at h
  split at h
  · rename_i x st'
    refine lv_istore_n hx hb hd h4 (m_lh_has hl) (by rw [← hl.2.2.1]; exact h.1) rfl (fun ls' h' => ?_)
    exact hk _ _ _ _ _ h.2 ad ls' H locs cells slots had hn0 hR hS (m_lh_set hl hlo h' h21) (m_lo_set hlo ⟨trivial, Or.inl rfl⟩) (m_st_t hst) hc hs
  · exact h.elim
theorem ok_astore {GP : m_G → Prop} {my : Nat → m_T} {E : m_E} {pc nx : Nat} {k : Nat} (hd : decode E.1 pc = .ok (.astore k, 2)) (hn : pc + 2 = nx) (h21 : E.2.1 ≠ 21) : m_OK GP my E pc (o_astore k nx) := by
  subst hn
  intro l G p e R s m args below meth c dp call n0 ad0 mc ms Q r kk hGP hC hcall hmc hms hE hk lo st bd S h ad ls H locs cells slots had hn0 hR hS hl hlo hst hc hs
  obtain ⟨hx, hb, hml, hown, hts, hK, hsz, hini, hlk, hfr, hlc, hX, hXF, hXT⟩ := hC
  unfold o_astore at h
  split at h
  · rename_i x st'
    refine lv_astore hx hb hd (m_lh_has hl) (by rw [← hl.2.2.1]; exact h.1) rfl (fun ls' h' => ?_)
    exact hk _ _ _ _ _ h.2 ad ls' H locs cells slots had hn0 hR hS (m_lh_set hl hlo h' h21) (m_lo_set hlo ⟨m_st_h hst, Or.inl rfl⟩) (m_st_t hst) hc hs
  · exact h.elim
theorem ok_astore_n {GP : m_G → Prop} {my : Nat → m_T} {E : m_E} {pc nx : Nat} {k : Nat} {k4 : Fin 4} (hd : decode E.1 pc = .ok (.astore_n k4, 1)) (h4 : (k4 : Nat) = k) (hn : pc + 1 = nx) (h21 : E.2.1 ≠ 21) : m_OK GP my E pc (o_astore k nx) := by
  subst hn
  intro l G p e R s m args below meth c dp call n0 ad0 mc ms Q r kk hGP hC hcall hmc hms hE hk lo st bd S h ad ls H locs cells slots had hn0 hR hS hl hlo hst hc hs
  obtain ⟨hx, hb, hml, hown, hts, hK, hsz, hini, hlk, hfr, hlc, hX, hXF, hXT⟩ := hC
  unfold o_astore at h
  split at h
  · rename_i x st'
    refine lv_astore_n hx hb hd h4 (m_lh_has hl) (by rw [← hl.2.2.1]; exact h.1) rfl (fun ls' h' => ?_)
    exact hk _ _ _ _ _ h.2 ad ls' H locs cells slots had hn0 hR hS (m_lh_set hl hlo h' h21) (m_lo_set hlo ⟨m_st_h hst, Or.inl rfl⟩) (m_st_t hst) hc hs
  · exact h.elim
theorem ok_iinc {GP : m_G → Prop} {my : Nat → m_T} {E : m_E} {pc nx : Nat} {k : Nat} {n : Int} {v : Int32} (hd : decode E.1 pc = .ok (.iinc k n, 3)) (hv : Int32.ofInt n = v) (hn : pc + 3 = nx) (h21 : E.2.1 ≠ 21) : m_OK GP my E pc (o_iinc k v nx) := by
  subst hn
  intro l G p e R s m args below meth c dp call n0 ad0 mc ms Q r kk hGP hC hcall hmc hms hE hk lo st bd S h ad ls H locs cells slots had hn0 hR hS hl hlo hst hc hs
  obtain ⟨hx, hb, hml, hown, hts, hK, hsz, hini, hlk, hfr, hlc, hX, hXF, hXT⟩ := hC
  unfold o_iinc at h
  split at h
  · rename_i x h1
    obtain ⟨j, hj⟩ := List.getElem?_of_mem (m_as_of (ad := ad) h1)
    refine lv_iinc (v := x + v) hx hb hd (m_lh_has hl) hj (by rw [hv]) (by rw [← hl.2.2.1]; exact (List.getElem?_eq_some_iff.mp h1).1) rfl (fun ls' h' => ?_)
    exact hk _ _ _ _ _ h ad ls' H locs cells slots had hn0 hR hS (m_lh_set (x := .int (x + v)) hl hlo h' h21) (m_lo_set hlo ⟨trivial, Or.inl rfl⟩) hst hc hs
  · exact h.elim
theorem ok_dup {GP : m_G → Prop} {my : Nat → m_T} {E : m_E} {pc nx : Nat} (hd : decode E.1 pc = .ok (.dup, 1)) (hn : pc + 1 = nx) : m_OK GP my E pc (o_dup nx) := by
  subst hn
  intro l G p e R s m args below meth c dp call n0 ad0 mc ms Q r kk hGP hC hcall hmc hms hE hk lo st bd S h ad ls H locs cells slots had hn0 hR hS hl hlo hst hc hs
  obtain ⟨hx, hb, hml, hown, hts, hK, hsz, hini, hlk, hfr, hlc, hX, hXF, hXT⟩ := hC
  unfold o_dup at h
  split at h
  · refine lv_dup hx hb hd rfl ?_
    exact hk _ _ _ _ _ h ad ls H locs cells slots had hn0 hR hS hl hlo (m_st_c trivial hst) hc hs
  · refine lv_dup hx hb hd rfl ?_
    exact hk _ _ _ _ _ h ad ls H locs cells slots had hn0 hR hS hl hlo (m_st_c (m_st_h hst) hst) hc hs
  · exact h.elim
theorem ok_dup2 {GP : m_G → Prop} {my : Nat → m_T} {E : m_E} {pc nx : Nat} (hd : decode E.1 pc = .ok (.dup2, 1)) (hn : pc + 1 = nx) : m_OK GP my E pc (o_dup2 nx) := by
  subst hn
  intro l G p e R s m args below meth c dp call n0 ad0 mc ms Q r kk hGP hC hcall hmc hms hE hk lo st bd S h ad ls H locs cells slots had hn0 hR hS hl hlo hst hc hs
  obtain ⟨hx, hb, hml, hown, hts, hK, hsz, hini, hlk, hfr, hlc, hX, hXF, hXT⟩ := hC
  unfold o_dup2 at h
  split at h
  · refine lv_dup2_11 hx hb hd rfl rfl ?_
    exact hk _ _ _ _ _ h ad ls H locs cells slots had hn0 hR hS hl hlo (m_st_c trivial (m_st_c (m_st_h (m_st_t hst)) hst)) hc hs
  · exact h.elim
theorem ok_pop {GP : m_G → Prop} {my : Nat → m_T} {E : m_E} {pc nx : Nat} (hd : decode E.1 pc = .ok (.pop, 1)) (hn : pc + 1 = nx) : m_OK GP my E pc (o_pop nx) := by
  subst hn
  intro l G p e R s m args below meth c dp call n0 ad0 mc ms Q r kk hGP hC hcall hmc hms hE hk lo st bd S h ad ls H locs cells slots had hn0 hR hS hl hlo hst hc hs
  obtain ⟨hx, hb, hml, hown, hts, hK, hsz, hini, hlk, hfr, hlc, hX, hXF, hXT⟩ := hC
  unfold o_pop at h
  split at h
  · refine lv_pop hx hb hd rfl ?_
    exact hk _ _ _ _ _ h ad ls H locs cells slots had hn0 hR hS hl hlo (m_st_t hst) hc hs
  · exact h.elim
theorem ok_goto {GP : m_G → Prop} {my : Nat → m_T} {E : m_E} {pc nx : Nat} {tg : Nat} {off : Int} (hd : decode E.1 pc = .ok (.goto off, 3)) (ht : (pc : Int) + off = (tg : Int)) : m_OK GP my E pc (o_goto tg) := by
  intro l G p e R s m args below meth c dp call n0 ad0 mc ms Q r kk hGP hC hcall hmc hms hE hk lo st bd S h ad ls H locs cells slots had hn0 hR hS hl hlo hst hc hs
  obtain ⟨hx, hb, hml, hown, hts, hK, hsz, hini, hlk, hfr, hlc, hX, hXF, hXT⟩ := hC
  refine lv_goto hx hb hd ht ?_
  exact hk _ _ _ _ _ h ad ls H locs cells slots had hn0 hR hS hl hlo hst hc hs
theorem ok_iadd {GP : m_G → Prop} {my : Nat → m_T} {E : m_E} {pc nx : Nat} (hd : decode E.1 pc = .ok (.iadd, 1)) (hn : pc + 1 = nx) : m_OK GP my E pc (o_bin (fun x y => x + y) nx) := by
  subst hn
  intro l G p e R s m args below meth c dp call n0 ad0 mc ms Q r kk hGP hC hcall hmc hms hE hk lo st bd S h ad ls H locs cells slots had hn0 hR hS hl hlo hst hc hs
  obtain ⟨hx, hb, hml, hown, hts, hK, hsz, hini, hlk, hfr, hlc, hX, hXF, hXT⟩ := hC
  unfold o_bin at h
  split at h
  · refine lv_iadd hx hb hd ?_
    exact hk _ _ _ _ _ h ad ls H locs cells slots had hn0 hR hS hl hlo (m_st_c trivial (m_st_t (m_st_t hst))) hc hs
  · exact h.elim
theorem ok_isub {GP : m_G → Prop} {my : Nat → m_T} {E : m_E} {pc nx : Nat} (hd : decode E.1 pc = .ok (.isub, 1)) (hn : pc + 1 = nx) : m_OK GP my E pc (o_bin (fun x y => x - y) nx) := by
  subst hn
  intro l G p e R s m args below meth c dp call n0 ad0 mc ms Q r kk hGP hC hcall hmc hms hE hk lo st bd S h ad ls H locs cells slots had hn0 hR hS hl hlo hst hc hs
  obtain ⟨hx, hb, hml, hown, hts, hK, hsz, hini, hlk, hfr, hlc, hX, hXF, hXT⟩ := hC
  unfold o_bin at h
  split at h
  · refine lv_isub hx hb hd ?_
    exact hk _ _ _ _ _ h ad ls H locs cells slots had hn0 hR hS hl hlo (m_st_c trivial (m_st_t (m_st_t hst))) hc hs
  · exact h.elim
theorem ok_imul {GP : m_G → Prop} {my : Nat → m_T} {E : m_E} {pc nx : Nat} (hd : decode E.1 pc = .ok (.imul, 1)) (hn : pc + 1 = nx) : m_OK GP my E pc (o_bin (fun x y => x * y) nx) := by
  subst hn
  intro l G p e R s m args below meth c dp call n0 ad0 mc ms Q r kk hGP hC hcall hmc hms hE hk lo st bd S h ad ls H locs cells slots had hn0 hR hS hl hlo hst hc hs
  obtain ⟨hx, hb, hml, hown, hts, hK, hsz, hini, hlk, hfr, hlc, hX, hXF, hXT⟩ := hC
  unfold o_bin at h
  split at h
  · refine lv_imul hx hb hd ?_
    exact hk _ _ _ _ _ h ad ls H locs cells slots had hn0 hR hS hl hlo (m_st_c trivial (m_st_t (m_st_t hst))) hc hs
  · exact h.elim
theorem ok_iand {GP : m_G → Prop} {my : Nat → m_T} {E : m_E} {pc nx : Nat} (hd : decode E.1 pc = .ok (.iand, 1)) (hn : pc + 1 = nx) : m_OK GP my E pc (o_bin (fun x y => x &&& y) nx) := by
  subst hn
  intro l G p e R s m args below meth c dp call n0 ad0 mc ms Q r kk hGP hC hcall hmc hms hE hk lo st bd S h ad ls H locs cells slots had hn0 hR hS hl hlo hst hc hs
  obtain ⟨hx, hb, hml, hown, hts, hK, hsz, hini, hlk, hfr, hlc, hX, hXF, hXT⟩ := hC
  unfold o_bin at h
  split at h
  · refine lv_iand hx hb hd ?_
    exact hk _ _ _ _ _ h ad ls H locs cells slots had hn0 hR hS hl hlo (m_st_c trivial (m_st_t (m_st_t hst))) hc hs
  · exact h.elim
theorem ok_ior {GP : m_G → Prop} {my : Nat → m_T} {E : m_E} {pc nx : Nat} (hd : decode E.1 pc = .ok (.ior, 1)) (hn : pc + 1 = nx) : m_OK GP my E pc (o_bin (fun x y => x ||| y) nx) := by
  subst hn
  intro l G p e R s m args below meth c dp call n0 ad0 mc ms Q r kk hGP hC hcall hmc hms hE hk lo st bd S h ad ls H locs cells slots had hn0 hR hS hl hlo hst hc hs
  obtain ⟨hx, hb, hml, hown, hts, hK, hsz, hini, hlk, hfr, hlc, hX, hXF, hXT⟩ := hC
  unfold o_bin at h
  split at h
  · refine lv_ior hx hb hd ?_
    exact hk _ _ _ _ _ h ad ls H locs cells slots had hn0 hR hS hl hlo (m_st_c trivial (m_st_t (m_st_t hst))) hc hs
  · exact h.elim
theorem ok_ixor {GP : m_G → Prop} {my : Nat → m_T} {E : m_E} {pc nx : Nat} (hd : decode E.1 pc = .ok (.ixor, 1)) (hn : pc + 1 = nx) : m_OK GP my E pc (o_bin (fun x y => x ^^^ y) nx) := by
  subst hn
  intro l G p e R s m args below meth c dp call n0 ad0 mc ms Q r kk hGP hC hcall hmc hms hE hk lo st bd S h ad ls H locs cells slots had hn0 hR hS hl hlo hst hc hs
  obtain ⟨hx, hb, hml, hown, hts, hK, hsz, hini, hlk, hfr, hlc, hX, hXF, hXT⟩ := hC
  unfold o_bin at h
  split at h
  · refine lv_ixor hx hb hd ?_
    exact hk _ _ _ _ _ h ad ls H locs cells slots had hn0 hR hS hl hlo (m_st_c trivial (m_st_t (m_st_t hst))) hc hs
  · exact h.elim
theorem ok_ishl {GP : m_G → Prop} {my : Nat → m_T} {E : m_E} {pc nx : Nat} (hd : decode E.1 pc = .ok (.ishl, 1)) (hn : pc + 1 = nx) : m_OK GP my E pc (o_bin (fun x y => x <<< (y &&& 31)) nx) := by
  subst hn
  intro l G p e R s m args below meth c dp call n0 ad0 mc ms Q r kk hGP hC hcall hmc hms hE hk lo st bd S h ad ls H locs cells slots had hn0 hR hS hl hlo hst hc hs
  obtain ⟨hx, hb, hml, hown, hts, hK, hsz, hini, hlk, hfr, hlc, hX, hXF, hXT⟩ := hC
  unfold o_bin at h
  split at h
  · refine lv_ishl hx hb hd ?_
    exact hk _ _ _ _ _ h ad ls H locs cells slots had hn0 hR hS hl hlo (m_st_c trivial (m_st_t (m_st_t hst))) hc hs
  · exact h.elim
theorem ok_ishr {GP : m_G → Prop} {my : Nat → m_T} {E : m_E} {pc nx : Nat} (hd : decode E.1 pc = .ok (.ishr, 1)) (hn : pc + 1 = nx) : m_OK GP my E pc (o_bin (fun x y => x >>> (y &&& 31)) nx) := by
  subst hn
  intro l G p e R s m args below meth c dp call n0 ad0 mc ms Q r kk hGP hC hcall hmc hms hE hk lo st bd S h ad ls H locs cells slots had hn0 hR hS hl hlo hst hc hs
  obtain ⟨hx, hb, hml, hown, hts, hK, hsz, hini, hlk, hfr, hlc, hX, hXF, hXT⟩ := hC
  unfold o_bin at h
  split at h
  · refine lv_ishr hx hb hd ?_
    exact hk _ _ _ _ _ h ad ls H locs cells slots had hn0 hR hS hl hlo (m_st_c trivial (m_st_t (m_st_t hst))) hc hs
  · exact h.elim
theorem ok_iushr {GP : m_G → Prop} {my : Nat → m_T} {E : m_E} {pc nx : Nat} (hd : decode E.1 pc = .ok (.iushr, 1)) (hn : pc + 1 = nx) : m_OK GP my E pc (o_bin (fun x y => (x.toUInt32 >>> (y.toUInt32 &&& Int32.toUInt32 31)).toInt32) nx) := by
  subst hn
  intro l G p e R s m args below meth c dp call n0 ad0 mc ms Q r kk hGP hC hcall hmc hms hE hk lo st bd S h ad ls H locs cells slots had hn0 hR hS hl hlo hst hc hs
  obtain ⟨hx, hb, hml, hown, hts, hK, hsz, hini, hlk, hfr, hlc, hX, hXF, hXT⟩ := hC
  unfold o_bin at h
  split at h
  · refine lv_iushr hx hb hd rfl ?_
    exact hk _ _ _ _ _ h ad ls H locs cells slots had hn0 hR hS hl hlo (m_st_c trivial (m_st_t (m_st_t hst))) hc hs
  · exact h.elim
theorem ok_idiv {GP : m_G → Prop} {my : Nat → m_T} {E : m_E} {pc nx : Nat} (hd : decode E.1 pc = .ok (.idiv, 1)) (hn : pc + 1 = nx) : m_OK GP my E pc (o_div (fun x y => x / y) nx) := by
  subst hn
  intro l G p e R s m args below meth c dp call n0 ad0 mc ms Q r kk hGP hC hcall hmc hms hE hk lo st bd S h ad ls H locs cells slots had hn0 hR hS hl hlo hst hc hs
  obtain ⟨hx, hb, hml, hown, hts, hK, hsz, hini, hlk, hfr, hlc, hX, hXF, hXT⟩ := hC
  unfold o_div at h
  split at h
  · refine lv_idiv hx hb hd h.1 ?_
    exact hk _ _ _ _ _ h.2 ad ls H locs cells slots had hn0 hR hS hl hlo (m_st_c trivial (m_st_t (m_st_t hst))) hc hs
  · exact h.elim
theorem ok_irem {GP : m_G → Prop} {my : Nat → m_T} {E : m_E} {pc nx : Nat} (hd : decode E.1 pc = .ok (.irem, 1)) (hn : pc + 1 = nx) : m_OK GP my E pc (o_div (fun x y => x - x / y * y) nx) := by
  subst hn
  intro l G p e R s m args below meth c dp call n0 ad0 mc ms Q r kk hGP hC hcall hmc hms hE hk lo st bd S h ad ls H locs cells slots had hn0 hR hS hl hlo hst hc hs
  obtain ⟨hx, hb, hml, hown, hts, hK, hsz, hini, hlk, hfr, hlc, hX, hXF, hXT⟩ := hC
  unfold o_div at h
  split at h
  · refine lv_irem hx hb hd h.1 ?_
    exact hk _ _ _ _ _ h.2 ad ls H locs cells slots had hn0 hR hS hl hlo (m_st_c trivial (m_st_t (m_st_t hst))) hc hs
  · exact h.elim
theorem ok_ineg {GP : m_G → Prop} {my : Nat → m_T} {E : m_E} {pc nx : Nat} (hd : decode E.1 pc = .ok (.ineg, 1)) (hn : pc + 1 = nx) : m_OK GP my E pc (o_un (fun x => -x) nx) := by
  subst hn
  intro l G p e R s m args below meth c dp call n0 ad0 mc ms Q r kk hGP hC hcall hmc hms hE hk lo st bd S h ad ls H locs cells slots had hn0 hR hS hl hlo hst hc hs
  obtain ⟨hx, hb, hml, hown, hts, hK, hsz, hini, hlk, hfr, hlc, hX, hXF, hXT⟩ := hC
  unfold o_un at h
  split at h
  · refine lv_ineg hx hb hd ?_
    exact hk _ _ _ _ _ h ad ls H locs cells slots had hn0 hR hS hl hlo (m_st_c trivial (m_st_t hst)) hc hs
  · exact h.elim
theorem ok_i2l {GP : m_G → Prop} {my : Nat → m_T} {E : m_E} {pc nx : Nat} (hd : decode E.1 pc = .ok (.i2l, 1)) (hn : pc + 1 = nx) : m_OK GP my E pc (o_i2l nx) := by
  subst hn
  intro l G p e R s m args below meth c dp call n0 ad0 mc ms Q r kk hGP hC hcall hmc hms hE hk lo st bd S h ad ls H locs cells slots had hn0 hR hS hl hlo hst hc hs
  obtain ⟨hx, hb, hml, hown, hts, hK, hsz, hini, hlk, hfr, hlc, hX, hXF, hXT⟩ := hC
  unfold o_i2l at h
  split at h
  · refine lv_i2l hx hb hd rfl ?_
    exact hk _ _ _ _ _ h ad ls H locs cells slots had hn0 hR hS hl hlo (m_st_c trivial (m_st_t hst)) hc hs
  · exact h.elim
theorem ok_lcmp {GP : m_G → Prop} {my : Nat → m_T} {E : m_E} {pc nx : Nat} (hd : decode E.1 pc = .ok (.lcmp, 1)) (hn : pc + 1 = nx) : m_OK GP my E pc (o_lcmp nx) := by
  subst hn
  intro l G p e R s m args below meth c dp call n0 ad0 mc ms Q r kk hGP hC hcall hmc hms hE hk lo st bd S h ad ls H locs cells slots had hn0 hR hS hl hlo hst hc hs
  obtain ⟨hx, hb, hml, hown, hts, hK, hsz, hini, hlk, hfr, hlc, hX, hXF, hXT⟩ := hC
  unfold o_lcmp at h
  split at h
  · refine W.lcmp hx hb hd ?_
    exact hk _ _ _ _ _ h ad ls H locs cells slots had hn0 hR hS hl hlo (m_st_c trivial (m_st_t (m_st_t hst))) hc hs
  · exact h.elim
theorem ok_ifeq {GP : m_G → Prop} {my : Nat → m_T} {E : m_E} {pc nx : Nat} {tg : Nat} {off : Int} (hd : decode E.1 pc = .ok (.ifCond .eq off, 3)) (ht : (pc : Int) + off = (tg : Int)) (hn : pc + 3 = nx) : m_OK GP my E pc (o_ifeq tg nx) := by
  subst hn
  intro l G p e R s m args below meth c dp call n0 ad0 mc ms Q r kk hGP hC hcall hmc hms hE hk lo st bd S h ad ls H locs cells slots had hn0 hR hS hl hlo hst hc hs
  obtain ⟨hx, hb, hml, hown, hts, hK, hsz, hini, hlk, hfr, hlc, hX, hXF, hXT⟩ := hC
  unfold o_ifeq at h
  split at h
  · refine lv_if_eq hx hb hd ht (fun z => ?_) (fun z => ?_)
    · exact hk _ _ _ _ _ (h.1 z) ad ls H locs cells slots had hn0 hR hS hl hlo (m_st_t hst) hc hs
    · exact hk _ _ _ _ _ (h.2 z) ad ls H locs cells slots had hn0 hR hS hl hlo (m_st_t hst) hc hs
  · exact h.elim
theorem ok_ifne {GP : m_G → Prop} {my : Nat → m_T} {E : m_E} {pc nx : Nat} {tg : Nat} {off : Int} (hd : decode E.1 pc = .ok (.ifCond .ne off, 3)) (ht : (pc : Int) + off = (tg : Int)) (hn : pc + 3 = nx) : m_OK GP my E pc (o_ifne tg nx) := by
  subst hn
  intro l G p e R s m args below meth c dp call n0 ad0 mc ms Q r kk hGP hC hcall hmc hms hE hk lo st bd S h ad ls H locs cells slots had hn0 hR hS hl hlo hst hc hs
  obtain ⟨hx, hb, hml, hown, hts, hK, hsz, hini, hlk, hfr, hlc, hX, hXF, hXT⟩ := hC
  unfold o_ifne at h
  split at h
  · refine lv_if_ne hx hb hd ht (fun z => ?_) (fun z => ?_)
    · exact hk _ _ _ _ _ (h.2 (by simpa using z)) ad ls H locs cells slots had hn0 hR hS hl hlo (m_st_t hst) hc hs
    · exact hk _ _ _ _ _ (h.1 (by simpa using z)) ad ls H locs cells slots had hn0 hR hS hl hlo (m_st_t hst) hc hs
  · exact h.elim
theorem ok_iflt {GP : m_G → Prop} {my : Nat → m_T} {E : m_E} {pc nx : Nat} {tg : Nat} {off : Int} (hd : decode E.1 pc = .ok (.ifCond .lt off, 3)) (ht : (pc : Int) + off = (tg : Int)) (hn : pc + 3 = nx) : m_OK GP my E pc (o_iflt tg nx) := by
  subst hn
  intro l G p e R s m args below meth c dp call n0 ad0 mc ms Q r kk hGP hC hcall hmc hms hE hk lo st bd S h ad ls H locs cells slots had hn0 hR hS hl hlo hst hc hs
  obtain ⟨hx, hb, hml, hown, hts, hK, hsz, hini, hlk, hfr, hlc, hX, hXF, hXT⟩ := hC
  unfold o_iflt at h
  split at h
  · refine lv_if_lt hx hb hd ht (fun z => ?_) (fun z => ?_)
    · exact hk _ _ _ _ _ (h.1 z) ad ls H locs cells slots had hn0 hR hS hl hlo (m_st_t hst) hc hs
    · exact hk _ _ _ _ _ (h.2 z) ad ls H locs cells slots had hn0 hR hS hl hlo (m_st_t hst) hc hs
  · exact h.elim
theorem ok_ifge {GP : m_G → Prop} {my : Nat → m_T} {E : m_E} {pc nx : Nat} {tg : Nat} {off : Int} (hd : decode E.1 pc = .ok (.ifCond .ge off, 3)) (ht : (pc : Int) + off = (tg : Int)) (hn : pc + 3 = nx) : m_OK GP my E pc (o_ifge tg nx) := by
  subst hn
  intro l G p e R s m args below meth c dp call n0 ad0 mc ms Q r kk hGP hC hcall hmc hms hE hk lo st bd S h ad ls H locs cells slots had hn0 hR hS hl hlo hst hc hs
  obtain ⟨hx, hb, hml, hown, hts, hK, hsz, hini, hlk, hfr, hlc, hX, hXF, hXT⟩ := hC
  unfold o_ifge at h
  split at h
  · refine lv_if_ge hx hb hd ht (fun z => ?_) (fun z => ?_)
    · exact hk _ _ _ _ _ (h.2 (m_nlt z)) ad ls H locs cells slots had hn0 hR hS hl hlo (m_st_t hst) hc hs
    · exact hk _ _ _ _ _ (h.1 (m_lt z)) ad ls H locs cells slots had hn0 hR hS hl hlo (m_st_t hst) hc hs
  · exact h.elim
theorem ok_ifgt {GP : m_G → Prop} {my : Nat → m_T} {E : m_E} {pc nx : Nat} {tg : Nat} {off : Int} (hd : decode E.1 pc = .ok (.ifCond .gt off, 3)) (ht : (pc : Int) + off = (tg : Int)) (hn : pc + 3 = nx) : m_OK GP my E pc (o_ifgt tg nx) := by
  subst hn
  intro l G p e R s m args below meth c dp call n0 ad0 mc ms Q r kk hGP hC hcall hmc hms hE hk lo st bd S h ad ls H locs cells slots had hn0 hR hS hl hlo hst hc hs
  obtain ⟨hx, hb, hml, hown, hts, hK, hsz, hini, hlk, hfr, hlc, hX, hXF, hXT⟩ := hC
  unfold o_ifgt at h
  split at h
  · refine lv_if_gt hx hb hd ht (fun z => ?_) (fun z => ?_)
    · exact hk _ _ _ _ _ (h.1 z) ad ls H locs cells slots had hn0 hR hS hl hlo (m_st_t hst) hc hs
    · exact hk _ _ _ _ _ (h.2 z) ad ls H locs cells slots had hn0 hR hS hl hlo (m_st_t hst) hc hs
  · exact h.elim
theorem ok_ifle {GP : m_G → Prop} {my : Nat → m_T} {E : m_E} {pc nx : Nat} {tg : Nat} {off : Int} (hd : decode E.1 pc = .ok (.ifCond .le off, 3)) (ht : (pc : Int) + off = (tg : Int)) (hn : pc + 3 = nx) : m_OK GP my E pc (o_ifle tg nx) := by
  subst hn
  intro l G p e R s m args below meth c dp call n0 ad0 mc ms Q r kk hGP hC hcall hmc hms hE hk lo st bd S h ad ls H locs cells slots had hn0 hR hS hl hlo hst hc hs
  obtain ⟨hx, hb, hml, hown, hts, hK, hsz, hini, hlk, hfr, hlc, hX, hXF, hXT⟩ := hC
  unfold o_ifle at h
  split at h
  · refine lv_if_le hx hb hd ht (fun z => ?_) (fun z => ?_)
    · exact hk _ _ _ _ _ (h.2 (m_nlt z)) ad ls H locs cells slots had hn0 hR hS hl hlo (m_st_t hst) hc hs
    · exact hk _ _ _ _ _ (h.1 (m_lt z)) ad ls H locs cells slots had hn0 hR hS hl hlo (m_st_t hst) hc hs
  · exact h.elim
theorem ok_icmpeq {GP : m_G → Prop} {my : Nat → m_T} {E : m_E} {pc nx : Nat} {tg : Nat} {off : Int} (hd : decode E.1 pc = .ok (.if_icmp .eq off, 3)) (ht : (pc : Int) + off = (tg : Int)) (hn : pc + 3 = nx) : m_OK GP my E pc (o_icmpeq tg nx) := by
  subst hn
  intro l G p e R s m args below meth c dp call n0 ad0 mc ms Q r kk hGP hC hcall hmc hms hE hk lo st bd S h ad ls H locs cells slots had hn0 hR hS hl hlo hst hc hs
  obtain ⟨hx, hb, hml, hown, hts, hK, hsz, hini, hlk, hfr, hlc, hX, hXF, hXT⟩ := hC
  unfold o_icmpeq at h
  split at h
  · refine lv_icmp_eq hx hb hd ht (fun z => ?_) (fun z => ?_)
    · exact hk _ _ _ _ _ (h.1 z) ad ls H locs cells slots had hn0 hR hS hl hlo (m_st_t (m_st_t hst)) hc hs
    · exact hk _ _ _ _ _ (h.2 z) ad ls H locs cells slots had hn0 hR hS hl hlo (m_st_t (m_st_t hst)) hc hs
  · exact h.elim
theorem ok_icmpne {GP : m_G → Prop} {my : Nat → m_T} {E : m_E} {pc nx : Nat} {tg : Nat} {off : Int} (hd : decode E.1 pc = .ok (.if_icmp .ne off, 3)) (ht : (pc : Int) + off = (tg : Int)) (hn : pc + 3 = nx) : m_OK GP my E pc (o_icmpne tg nx) := by
  subst hn
  intro l G p e R s m args below meth c dp call n0 ad0 mc ms Q r kk hGP hC hcall hmc hms hE hk lo st bd S h ad ls H locs cells slots had hn0 hR hS hl hlo hst hc hs
  obtain ⟨hx, hb, hml, hown, hts, hK, hsz, hini, hlk, hfr, hlc, hX, hXF, hXT⟩ := hC
  unfold o_icmpne at h
  split at h
  · refine lv_icmp_ne hx hb hd ht (fun z => ?_) (fun z => ?_)
    · exact hk _ _ _ _ _ (h.2 (by simpa using z)) ad ls H locs cells slots had hn0 hR hS hl hlo (m_st_t (m_st_t hst)) hc hs
    · exact hk _ _ _ _ _ (h.1 (by simpa using z)) ad ls H locs cells slots had hn0 hR hS hl hlo (m_st_t (m_st_t hst)) hc hs
  · exact h.elim
theorem ok_icmplt {GP : m_G → Prop} {my : Nat → m_T} {E : m_E} {pc nx : Nat} {tg : Nat} {off : Int} (hd : decode E.1 pc = .ok (.if_icmp .lt off, 3)) (ht : (pc : Int) + off = (tg : Int)) (hn : pc + 3 = nx) : m_OK GP my E pc (o_icmplt tg nx) := by
  subst hn
  intro l G p e R s m args below meth c dp call n0 ad0 mc ms Q r kk hGP hC hcall hmc hms hE hk lo st bd S h ad ls H locs cells slots had hn0 hR hS hl hlo hst hc hs
  obtain ⟨hx, hb, hml, hown, hts, hK, hsz, hini, hlk, hfr, hlc, hX, hXF, hXT⟩ := hC
  unfold o_icmplt at h
  split at h
  · refine lv_icmp_lt hx hb hd ht (fun z => ?_) (fun z => ?_)
    · exact hk _ _ _ _ _ (h.1 z) ad ls H locs cells slots had hn0 hR hS hl hlo (m_st_t (m_st_t hst)) hc hs
    · exact hk _ _ _ _ _ (h.2 z) ad ls H locs cells slots had hn0 hR hS hl hlo (m_st_t (m_st_t hst)) hc hs
  · exact h.elim
theorem ok_icmpge {GP : m_G → Prop} {my : Nat → m_T} {E : m_E} {pc nx : Nat} {tg : Nat} {off : Int} (hd : decode E.1 pc = .ok (.if_icmp .ge off, 3)) (ht : (pc : Int) + off = (tg : Int)) (hn : pc + 3 = nx) : m_OK GP my E pc (o_icmpge tg nx) := by
  subst hn
  intro l G p e R s m args below meth c dp call n0 ad0 mc ms Q r kk hGP hC hcall hmc hms hE hk lo st bd S h ad ls H locs cells slots had hn0 hR hS hl hlo hst hc hs
  obtain ⟨hx, hb, hml, hown, hts, hK, hsz, hini, hlk, hfr, hlc, hX, hXF, hXT⟩ := hC
  unfold o_icmpge at h
  split at h
  · refine lv_icmp_ge hx hb hd ht (fun z => ?_) (fun z => ?_)
    · exact hk _ _ _ _ _ (h.2 (m_nlt z)) ad ls H locs cells slots had hn0 hR hS hl hlo (m_st_t (m_st_t hst)) hc hs
    · exact hk _ _ _ _ _ (h.1 (m_lt z)) ad ls H locs cells slots had hn0 hR hS hl hlo (m_st_t (m_st_t hst)) hc hs
  · exact h.elim
theorem ok_icmpgt {GP : m_G → Prop} {my : Nat → m_T} {E : m_E} {pc nx : Nat} {tg : Nat} {off : Int} (hd : decode E.1 pc = .ok (.if_icmp .gt off, 3)) (ht : (pc : Int) + off = (tg : Int)) (hn : pc + 3 = nx) : m_OK GP my E pc (o_icmpgt tg nx) := by
  subst hn
  intro l G p e R s m args below meth c dp call n0 ad0 mc ms Q r kk hGP hC hcall hmc hms hE hk lo st bd S h ad ls H locs cells slots had hn0 hR hS hl hlo hst hc hs
  obtain ⟨hx, hb, hml, hown, hts, hK, hsz, hini, hlk, hfr, hlc, hX, hXF, hXT⟩ := hC
  unfold o_icmpgt at h
  split at h
  · refine lv_icmp_gt hx hb hd ht (fun z => ?_) (fun z => ?_)
    · exact hk _ _ _ _ _ (h.1 z) ad ls H locs cells slots had hn0 hR hS hl hlo (m_st_t (m_st_t hst)) hc hs
    · exact hk _ _ _ _ _ (h.2 z) ad ls H locs cells slots had hn0 hR hS hl hlo (m_st_t (m_st_t hst)) hc hs
  · exact h.elim
theorem ok_icmple {GP : m_G → Prop} {my : Nat → m_T} {E : m_E} {pc nx : Nat} {tg : Nat} {off : Int} (hd : decode E.1 pc = .ok (.if_icmp .le off, 3)) (ht : (pc : Int) + off = (tg : Int)) (hn : pc + 3 = nx) : m_OK GP my E pc (o_icmple tg nx) := by
  subst hn
  intro l G p e R s m args below meth c dp call n0 ad0 mc ms Q r kk hGP hC hcall hmc hms hE hk lo st bd S h ad ls H locs cells slots had hn0 hR hS hl hlo hst hc hs
  obtain ⟨hx, hb, hml, hown, hts, hK, hsz, hini, hlk, hfr, hlc, hX, hXF, hXT⟩ := hC
  unfold o_icmple at h
  split at h
  · refine lv_icmp_le hx hb hd ht (fun z => ?_) (fun z => ?_)
    · exact hk _ _ _ _ _ (h.2 (m_nlt z)) ad ls H locs cells slots had hn0 hR hS hl hlo (m_st_t (m_st_t hst)) hc hs
    · exact hk _ _ _ _ _ (h.1 (m_lt z)) ad ls H locs cells slots had hn0 hR hS hl hlo (m_st_t (m_st_t hst)) hc hs
  · exact h.elim
