theorem m_Rel_up {G : m_G} {ad : Nat → Nat} {n a : Nat} {hh : Nat → m_C} {H H1 : Heap} {c : m_C} (hR : m_Rel G ad (n, hh) H) (h1 : 3 ≤ a) (h2 : a < n + 3) (hc : m_cok n c) (hP : va_P G.2.1 vwCl ((m_w G.2.2.1 ad (n, hh)).set (a - 3) (ad a, m_e G.2.2.1 ad c)) H1) (hD : va_D (m_AG G) ((m_w G.2.2.1 ad (n, hh)).set (a - 3) (ad a, m_e G.2.2.1 ad c))) : m_Rel G ad (n, m_up hh a c) H1 := by
  rw [m_w_set h1 h2] at hP hD
  refine ⟨hP, hD, fun b => ?_, fun b hb => ?_, hR.2.2.2.2⟩
  · by_cases hba : b = a
    · subst hba; show m_cok n (m_up hh b c b); rw [m_up_eq]; exact hc
    · show m_cok n (m_up hh a c b); rw [m_up_ne hba]; exact hR.2.2.1 b
  · show m_up hh a c b = m_N
    have hb : b < 3 ∨ n + 3 ≤ b := hb
    rw [m_up_ne (by omega)]
    exact hR.2.2.2.1 b hb
theorem m_Rel_new {G : m_G} {ad : Nat → Nat} {n q : Nat} {hh : Nat → m_C} {H H1 : Heap} {c : m_C} (hR : m_Rel G ad (n, hh) H) (hc : m_cok n c) (hP : va_P G.2.1 vwCl (m_w G.2.2.1 ad (n, hh) ++ [(q, m_e G.2.2.1 ad c)]) H1) (hD : va_D (m_AG G) (m_w G.2.2.1 ad (n, hh) ++ [(q, m_e G.2.2.1 ad c)])) : m_Rel G (va_up ad (n + 3) q) (n + 1, m_up hh (n + 3) c) H1 := by
  rw [m_w_push hR.2.2.1 hc] at hP hD
  refine ⟨hP, hD, fun b => ?_, fun b hb => ?_, ?_, ?_, ?_⟩
  · by_cases hba : b = n + 3
    · subst hba; show m_cok (n + 1) (m_up hh (n + 3) c (n + 3)); rw [m_up_eq]; exact hc.mono (Nat.le_succ n)
    · show m_cok (n + 1) (m_up hh (n + 3) c b); rw [m_up_ne hba]; exact (hR.2.2.1 b).mono (Nat.le_succ n)
  · show m_up hh (n + 3) c b = m_N
    have hb : b < 3 ∨ n + 1 + 3 ≤ b := hb
    rw [m_up_ne (by omega)]
    exact hR.2.2.2.1 b (by show b < 3 ∨ n + 3 ≤ b; omega)
  · rw [show va_up ad (n + 3) q 0 = ad 0 from if_neg (by omega)]; exact hR.2.2.2.2.1
  · rw [show va_up ad (n + 3) q 1 = ad 1 from if_neg (by omega)]; exact hR.2.2.2.2.2.1
  · rw [show va_up ad (n + 3) q 2 = ad 2 from if_neg (by omega)]; exact hR.2.2.2.2.2.2
theorem m_lh_agree {n : Nat} {ad ad' : Nat → Nat} {nL : Nat} {lo : m_L} {ls : Array Slot} (h : ∀ i, i < n + 3 → ad' i = ad i) (hlo : ∀ (i : Nat) (v : Value), lo[i]? = some (some v) → m_vok n v ∧ (v.category = 1 ∨ nL = 21)) (hl : m_lh ad nL lo ls) : m_lh ad' nL lo ls :=
  ⟨hl.1, hl.2.1, hl.2.2.1, fun i v hv => by rw [m_v_agree h (hlo i v hv).1]; exact hl.2.2.2 i v hv⟩
theorem m_lo_mono {nL n n' : Nat} {lo : m_L} (hn : n ≤ n') (hlo : ∀ (i : Nat) (v : Value), lo[i]? = some (some v) → m_vok n v ∧ (v.category = 1 ∨ nL = 21)) : ∀ (i : Nat) (v : Value), lo[i]? = some (some v) → m_vok n' v ∧ (v.category = 1 ∨ nL = 21) := fun i v h => ⟨(hlo i v h).1.mono hn, (hlo i v h).2⟩
theorem m_st_mono {n n' : Nat} {st : List Value} (hn : n ≤ n') (h : ∀ v ∈ st, m_vok n v) : ∀ v ∈ st, m_vok n' v := fun v hv => (h v hv).mono hn
theorem m_up_lt {ad : Nat → Nat} {n q : Nat} : ∀ i, i < n + 3 → va_up ad (n + 3) q i = ad i := fun i hi => if_neg (by omega)
/-- the cell of an address -/
theorem m_atO {G : m_G} {ad : Nat → Nat} {S : m_S} {H : Heap} {a ci : Nat} {fs : List Value} (hR : m_Rel G ad S H) (h : m_gO ci (S.2 a) = some fs) : 3 ≤ a ∧ a < S.1 + 3 ∧ (m_w G.2.2.1 ad S)[a - 3]? = some (ad a, .inr (ci, fs.map (m_v ad))) ∧ ∀ v ∈ fs, m_vok S.1 v := by
  have h1 := m_gO_inv h
  have h2 := m_in (S := S) (a := a) hR.2.2.2.1 (by rw [h1]; intro z; cases z)
  refine ⟨h2.1, h2.2, ?_, ?_⟩
  · rw [m_w_at h2.1 h2.2, h1]; rfl
  · have := hR.2.2.1 a; rw [h1] at this; exact this
theorem m_atI {G : m_G} {ad : Nat → Nat} {S : m_S} {H : Heap} {a k n : Nat} {f : Nat → Int32} (hR : m_Rel G ad S H) (h : m_gI k (S.2 a) = some (n, f)) : 3 ≤ a ∧ a < S.1 + 3 ∧ (m_w G.2.2.1 ad S)[a - 3]? = some (ad a, .inl (G.2.2.1 k, n, .inl f)) := by
  have h1 := m_gI_inv h
  have h2 := m_in (S := S) (a := a) hR.2.2.2.1 (by rw [h1]; intro z; cases z)
  refine ⟨h2.1, h2.2, ?_⟩
  rw [m_w_at h2.1 h2.2, h1]; rfl
theorem m_atJ {G : m_G} {ad : Nat → Nat} {S : m_S} {H : Heap} {a n : Nat} {f : Nat → Int64} (hR : m_Rel G ad S H) (h : m_gJ (S.2 a) = some (n, f)) : 3 ≤ a ∧ a < S.1 + 3 ∧ (m_w G.2.2.1 ad S)[a - 3]? = some (ad a, .inl (G.2.2.1 2, n, .inr (.inl f))) := by
  have h1 := m_gJ_inv h
  have h2 := m_in (S := S) (a := a) hR.2.2.2.1 (by rw [h1]; intro z; cases z)
  refine ⟨h2.1, h2.2, ?_⟩
  rw [m_w_at h2.1 h2.2, h1]; rfl
theorem m_atQ {G : m_G} {ad : Nat → Nat} {S : m_S} {H : Heap} {a k n : Nat} {f : Nat → Option Nat} (hR : m_Rel G ad S H) (h : m_gQ k (S.2 a) = some (n, f)) : 3 ≤ a ∧ a < S.1 + 3 ∧ (m_w G.2.2.1 ad S)[a - 3]? = some (ad a, .inl (G.2.2.1 k, n, .inr (.inr (.inr (.inr (fun j => (f j).map ad)))))) ∧ ∀ j a, f j = some a → a < S.1 + 3 := by
  have h1 := m_gQ_inv h
  have h2 := m_in (S := S) (a := a) hR.2.2.2.1 (by rw [h1]; intro z; cases z)
  refine ⟨h2.1, h2.2, ?_, ?_⟩
  · rw [m_w_at h2.1 h2.2, h1]; rfl
  · have := hR.2.2.1 a; rw [h1] at this; exact this
theorem m_set_ok {n k : Nat} {fs : List Value} {v : Value} (h : ∀ w ∈ fs, m_vok n w) (hv : m_vok n v) : ∀ w ∈ fs.set k v, m_vok n w := fun w hw => (List.mem_or_eq_of_mem_set hw).elim (h w) (fun z => by rw [z]; exact hv)

theorem ok_getf {GP : m_G → Prop} {my : Nat → m_T} {E : m_E} {pc nx : Nat} {C : String} {T : u_T} {N ci k idx : Nat} (hc0 : vwCl[ci]? = some (C, T, N)) (hk0 : k < N) (hin : ∀ w ∈ u_ws C T N, w ∈ m_WS) (hlk0 : Cond.fieldLink E.2.2.1 idx (T k).1 (T k).2.1 (T k).2.2.1 ∈ m_WS) (hd : decode E.1 pc = .ok (.getfield idx, 3)) (hn : pc + 3 = nx) : m_OK GP my E pc (o_getf ci k nx) := by
  subst hn
  intro l G p e R s m args below meth c dp call n0 ad0 mc ms Q r kk hGP hC hcall hmc hms hE hk lo st bd S h ad ls H locs cells slots had hn0 hR hS hl hlo hst hc hs
  obtain ⟨hx, hb, hml, hown, hts, hK, hsz, hini, hlk, hfr, hlc, hX, hXF, hXT⟩ := hC
  unfold o_getf at h
  split at h
  · split at h
    · rename_i a st' _ fs h1
      split at h
      · rename_i v h2
        obtain ⟨a1, a2, a3, a4⟩ := m_atO hR h1
        refine va_get (D := G.2.1) (v := m_v ad v) hx hb hts hin hown hK hR.1 (a - 3) a3 hc0 k hk0 (hts _ hlk0) (fun _ h9 => h9) (by rw [List.getElem?_map, h2]; rfl) hd ?_
        exact hk _ _ _ _ _ h ad ls H locs cells slots had hn0 hR hS hl hlo (m_st_c (a4 v (List.mem_of_getElem? h2)) (m_st_t hst)) hc hs
      · exact h.elim
    · exact h.elim
  · exact h.elim
theorem ok_puti {GP : m_G → Prop} {my : Nat → m_T} {E : m_E} {pc nx : Nat} {C : String} {T : u_T} {N ci k idx : Nat} (hc0 : vwCl[ci]? = some (C, T, N)) (hk0 : k < N) (hin : ∀ w ∈ u_ws C T N, w ∈ m_WS) (hlk0 : Cond.fieldLink E.2.2.1 idx (T k).1 (T k).2.1 (T k).2.2.1 ∈ m_WS) (ty0 : Nat → FieldType) (hty : ∀ k, k < N → parseFieldDescriptor (T k).2.2.1 = some (ty0 k)) (hnm : ∀ a, a < N → ∀ b, b < N → a ≠ b → (T a).2.1 ≠ (T b).2.1) (hfin : (T k).2.2.2 = false) (hpd : parseFieldDescriptor (T k).2.2.1 = some .int) (hd : decode E.1 pc = .ok (.putfield idx, 3)) (hn : pc + 3 = nx) : m_OK GP my E pc (o_puti ci k nx) := by
  subst hn
  intro l G p e R s m args below meth c dp call n0 ad0 mc ms Q r kk hGP hC hcall hmc hms hE hk lo st bd S h ad ls H locs cells slots had hn0 hR hS hl hlo hst hc hs
  obtain ⟨hx, hb, hml, hown, hts, hK, hsz, hini, hlk, hfr, hlc, hX, hXF, hXT⟩ := hC
  unfold o_puti at h
  split at h
  · split at h
    · rename_i x a st' _ fs h1
      obtain ⟨a1, a2, a3, a4⟩ := m_atO hR h1
      obtain ⟨n, hh⟩ := S
      refine va_put (D := G.2.1) (v := m_v ad (.int x)) hx hb hts hin ty0 hty hnm hown hK hR.1 hR.2.1 hS (a - 3) a3 hc0 k hk0 (hts _ hlk0) (fun _ h9 => h9) hfin hpd rfl rfl (by rw [List.length_map]; exact h.1) hd (fun H1 locs1 hP1 hD1 hS1 => ?_)
      rw [← List.map_set] at hP1 hD1
      exact hk _ _ _ _ _ h.2 ad ls H1 locs1 cells slots had hn0 (m_Rel_up (c := m_O ci (fs.set k (.int x))) hR a1 a2 (m_set_ok a4 trivial) hP1 hD1) hS1 hl hlo (m_st_t (m_st_t hst)) hc hs
    · exact h.elim
  · exact h.elim
theorem ok_putr {GP : m_G → Prop} {my : Nat → m_T} {E : m_E} {pc nx : Nat} {C : String} {T : u_T} {N ci k idx : Nat} (hc0 : vwCl[ci]? = some (C, T, N)) (hk0 : k < N) (hin : ∀ w ∈ u_ws C T N, w ∈ m_WS) (hlk0 : Cond.fieldLink E.2.2.1 idx (T k).1 (T k).2.1 (T k).2.2.1 ∈ m_WS) (ty0 : Nat → FieldType) (hty : ∀ k, k < N → parseFieldDescriptor (T k).2.2.1 = some (ty0 k)) (hnm : ∀ a, a < N → ∀ b, b < N → a ≠ b → (T a).2.1 ≠ (T b).2.1) (hfin : (T k).2.2.2 = false) {C2 : FieldType} (hpd : parseFieldDescriptor (T k).2.2.1 = some C2) (hn2 : ∀ q : Nat, narrow C2 (.ref q) = .ref q) (hf2 : ∀ q : Nat, fits C2 (.ref q) = true) (hd : decode E.1 pc = .ok (.putfield idx, 3)) (hn : pc + 3 = nx) : m_OK GP my E pc (o_putr ci k nx) := by
  subst hn
  intro l G p e R s m args below meth c dp call n0 ad0 mc ms Q r kk hGP hC hcall hmc hms hE hk lo st bd S h ad ls H locs cells slots had hn0 hR hS hl hlo hst hc hs
  obtain ⟨hx, hb, hml, hown, hts, hK, hsz, hini, hlk, hfr, hlc, hX, hXF, hXT⟩ := hC
  unfold o_putr at h
  split at h
  · split at h
    · rename_i x a st' _ fs h1
      obtain ⟨a1, a2, a3, a4⟩ := m_atO hR h1
      obtain ⟨n, hh⟩ := S
      refine va_put (D := G.2.1) (v := m_v ad (.ref x)) hx hb hts hin ty0 hty hnm hown hK hR.1 hR.2.1 hS (a - 3) a3 hc0 k hk0 (hts _ hlk0) (fun _ h9 => h9) hfin hpd (hn2 _) (hf2 _) (by rw [List.length_map]; exact h.1) hd (fun H1 locs1 hP1 hD1 hS1 => ?_)
      rw [← List.map_set] at hP1 hD1
      exact hk _ _ _ _ _ h.2 ad ls H1 locs1 cells slots had hn0 (m_Rel_up (c := m_O ci (fs.set k (.ref x))) hR a1 a2 (m_set_ok a4 (m_st_h hst)) hP1 hD1) hS1 hl hlo (m_st_t (m_st_t hst)) hc hs
    · exact h.elim
  · exact h.elim
theorem ok_putiF {GP : m_G → Prop} {my : Nat → m_T} {E : m_E} {pc nx : Nat} {C : String} {T : u_T} {N ci k idx : Nat} (hc0 : vwCl[ci]? = some (C, T, N)) (hk0 : k < N) (hin : ∀ w ∈ u_ws C T N, w ∈ m_WS) (hlk0 : Cond.fieldLink E.2.2.1 idx (T k).1 (T k).2.1 (T k).2.2.1 ∈ m_WS) (ty0 : Nat → FieldType) (hty : ∀ k, k < N → parseFieldDescriptor (T k).2.2.1 = some (ty0 k)) (hnm : ∀ a, a < N → ∀ b, b < N → a ≠ b → (T a).2.1 ≠ (T b).2.1) (hfin : (T k).2.2.2 = true) (hi : E.2.2.2.1 = true) (hdecl : (T k).1 = E.2.2.1) (hpd : parseFieldDescriptor (T k).2.2.1 = some .int) (hd : decode E.1 pc = .ok (.putfield idx, 3)) (hn : pc + 3 = nx) : m_OK GP my E pc (o_puti ci k nx) := by
  subst hn
  intro l G p e R s m args below meth c dp call n0 ad0 mc ms Q r kk hGP hC hcall hmc hms hE hk lo st bd S h ad ls H locs cells slots had hn0 hR hS hl hlo hst hc hs
  obtain ⟨hx, hb, hml, hown, hts, hK, hsz, hini, hlk, hfr, hlc, hX, hXF, hXT⟩ := hC
  unfold o_puti at h
  split at h
  · split at h
    · rename_i x a st' _ fs h1
      obtain ⟨a1, a2, a3, a4⟩ := m_atO hR h1
      obtain ⟨n, hh⟩ := S
      refine va_putF (D := G.2.1) (v := m_v ad (.int x)) hx hb hts hin ty0 hty hnm hown hK hR.1 hR.2.1 hS (a - 3) a3 hc0 k hk0 (hts _ hlk0) (fun _ h9 => h9) hfin (hini hi) hdecl hpd rfl rfl (by rw [List.length_map]; exact h.1) hd (fun H1 locs1 hP1 hD1 hS1 => ?_)
      rw [← List.map_set] at hP1 hD1
      exact hk _ _ _ _ _ h.2 ad ls H1 locs1 cells slots had hn0 (m_Rel_up (c := m_O ci (fs.set k (.int x))) hR a1 a2 (m_set_ok a4 trivial) hP1 hD1) hS1 hl hlo (m_st_t (m_st_t hst)) hc hs
    · exact h.elim
  · exact h.elim
theorem ok_putrF {GP : m_G → Prop} {my : Nat → m_T} {E : m_E} {pc nx : Nat} {C : String} {T : u_T} {N ci k idx : Nat} (hc0 : vwCl[ci]? = some (C, T, N)) (hk0 : k < N) (hin : ∀ w ∈ u_ws C T N, w ∈ m_WS) (hlk0 : Cond.fieldLink E.2.2.1 idx (T k).1 (T k).2.1 (T k).2.2.1 ∈ m_WS) (ty0 : Nat → FieldType) (hty : ∀ k, k < N → parseFieldDescriptor (T k).2.2.1 = some (ty0 k)) (hnm : ∀ a, a < N → ∀ b, b < N → a ≠ b → (T a).2.1 ≠ (T b).2.1) (hfin : (T k).2.2.2 = true) (hi : E.2.2.2.1 = true) (hdecl : (T k).1 = E.2.2.1) {C2 : FieldType} (hpd : parseFieldDescriptor (T k).2.2.1 = some C2) (hn2 : ∀ q : Nat, narrow C2 (.ref q) = .ref q) (hf2 : ∀ q : Nat, fits C2 (.ref q) = true) (hd : decode E.1 pc = .ok (.putfield idx, 3)) (hn : pc + 3 = nx) : m_OK GP my E pc (o_putr ci k nx) := by
  subst hn
  intro l G p e R s m args below meth c dp call n0 ad0 mc ms Q r kk hGP hC hcall hmc hms hE hk lo st bd S h ad ls H locs cells slots had hn0 hR hS hl hlo hst hc hs
  obtain ⟨hx, hb, hml, hown, hts, hK, hsz, hini, hlk, hfr, hlc, hX, hXF, hXT⟩ := hC
  unfold o_putr at h
  split at h
  · split at h
    · rename_i x a st' _ fs h1
      obtain ⟨a1, a2, a3, a4⟩ := m_atO hR h1
      obtain ⟨n, hh⟩ := S
      refine va_putF (D := G.2.1) (v := m_v ad (.ref x)) hx hb hts hin ty0 hty hnm hown hK hR.1 hR.2.1 hS (a - 3) a3 hc0 k hk0 (hts _ hlk0) (fun _ h9 => h9) hfin (hini hi) hdecl hpd (hn2 _) (hf2 _) (by rw [List.length_map]; exact h.1) hd (fun H1 locs1 hP1 hD1 hS1 => ?_)
      rw [← List.map_set] at hP1 hD1
      exact hk _ _ _ _ _ h.2 ad ls H1 locs1 cells slots had hn0 (m_Rel_up (c := m_O ci (fs.set k (.ref x))) hR a1 a2 (m_set_ok a4 (m_st_h hst)) hP1 hD1) hS1 hl hlo (m_st_t (m_st_t hst)) hc hs
    · exact h.elim
  · exact h.elim
theorem ok_putz {GP : m_G → Prop} {my : Nat → m_T} {E : m_E} {pc nx : Nat} {C : String} {T : u_T} {N ci k idx : Nat} (hc0 : vwCl[ci]? = some (C, T, N)) (hk0 : k < N) (hin : ∀ w ∈ u_ws C T N, w ∈ m_WS) (hlk0 : Cond.fieldLink E.2.2.1 idx (T k).1 (T k).2.1 (T k).2.2.1 ∈ m_WS) (ty0 : Nat → FieldType) (hty : ∀ k, k < N → parseFieldDescriptor (T k).2.2.1 = some (ty0 k)) (hnm : ∀ a, a < N → ∀ b, b < N → a ≠ b → (T a).2.1 ≠ (T b).2.1) (hfin : (T k).2.2.2 = false) (hpd : parseFieldDescriptor (T k).2.2.1 = some .boolean) (hd : decode E.1 pc = .ok (.putfield idx, 3)) (hn : pc + 3 = nx) : m_OK GP my E pc (o_putz ci k nx) := by
  subst hn
  intro l G p e R s m args below meth c dp call n0 ad0 mc ms Q r kk hGP hC hcall hmc hms hE hk lo st bd S h ad ls H locs cells slots had hn0 hR hS hl hlo hst hc hs
  obtain ⟨hx, hb, hml, hown, hts, hK, hsz, hini, hlk, hfr, hlc, hX, hXF, hXT⟩ := hC
  unfold o_putz at h
  split at h
  · split at h
    · rename_i x a st' _ fs h1
      obtain ⟨a1, a2, a3, a4⟩ := m_atO hR h1
      obtain ⟨n, hh⟩ := S
      have hz : narrow .boolean (.int x) = .int x ∧ fits .boolean (.int x) = true := by rcases h.1 with z | z <;> subst z <;> exact ⟨by decide, by decide⟩
      replace h := h.2
      refine va_put (D := G.2.1) (v := m_v ad (.int x)) hx hb hts hin ty0 hty hnm hown hK hR.1 hR.2.1 hS (a - 3) a3 hc0 k hk0 (hts _ hlk0) (fun _ h9 => h9) hfin hpd hz.1 hz.2 (by rw [List.length_map]; exact h.1) hd (fun H1 locs1 hP1 hD1 hS1 => ?_)
      rw [← List.map_set] at hP1 hD1
      exact hk _ _ _ _ _ h.2 ad ls H1 locs1 cells slots had hn0 (m_Rel_up (c := m_O ci (fs.set k (.int x))) hR a1 a2 (m_set_ok a4 trivial) hP1 hD1) hS1 hl hlo (m_st_t (m_st_t hst)) hc hs
    · exact h.elim
  · exact h.elim
theorem ok_iald {GP : m_G → Prop} {my : Nat → m_T} {E : m_E} {pc nx : Nat} (hd : decode E.1 pc = .ok (.iaload, 1)) (hn : pc + 1 = nx) : m_OK GP my E pc (o_iald 0 nx) := by
  subst hn
  intro l G p e R s m args below meth c dp call n0 ad0 mc ms Q r kk hGP hC hcall hmc hms hE hk lo st bd S h ad ls H locs cells slots had hn0 hR hS hl hlo hst hc hs
  obtain ⟨hx, hb, hml, hown, hts, hK, hsz, hini, hlk, hfr, hlc, hX, hXF, hXT⟩ := hC
  unfold o_iald at h
  split at h
  · split at h
    · rename_i i a st' _ n f h1
      obtain ⟨a1, a2, a3⟩ := m_atI hR h1
      refine va_iald (D := G.2.1) hx hb hK hR.1 (a - 3) 0 a3 rfl h.1 hd ?_
      exact hk _ _ _ _ _ h.2 ad ls H locs cells slots had hn0 hR hS hl hlo (m_st_c trivial (m_st_t (m_st_t hst))) hc hs
    · exact h.elim
  · exact h.elim
theorem ok_zald {GP : m_G → Prop} {my : Nat → m_T} {E : m_E} {pc nx : Nat} (hd : decode E.1 pc = .ok (.baload, 1)) (hn : pc + 1 = nx) : m_OK GP my E pc (o_iald 1 nx) := by
  subst hn
  intro l G p e R s m args below meth c dp call n0 ad0 mc ms Q r kk hGP hC hcall hmc hms hE hk lo st bd S h ad ls H locs cells slots had hn0 hR hS hl hlo hst hc hs
  obtain ⟨hx, hb, hml, hown, hts, hK, hsz, hini, hlk, hfr, hlc, hX, hXF, hXT⟩ := hC
  unfold o_iald at h
  split at h
  · split at h
    · rename_i i a st' _ n f h1
      obtain ⟨a1, a2, a3⟩ := m_atI hR h1
      refine va_zald (D := G.2.1) hx hb hK hR.1 (a - 3) 1 a3 rfl h.1 hd ?_
      exact hk _ _ _ _ _ h.2 ad ls H locs cells slots had hn0 hR hS hl hlo (m_st_c trivial (m_st_t (m_st_t hst))) hc hs
    · exact h.elim
  · exact h.elim
theorem ok_iast {GP : m_G → Prop} {my : Nat → m_T} {E : m_E} {pc nx : Nat} (hd : decode E.1 pc = .ok (.iastore, 1)) (hn : pc + 1 = nx) : m_OK GP my E pc (o_iast nx) := by
  subst hn
  intro l G p e R s m args below meth c dp call n0 ad0 mc ms Q r kk hGP hC hcall hmc hms hE hk lo st bd S h ad ls H locs cells slots had hn0 hR hS hl hlo hst hc hs
  obtain ⟨hx, hb, hml, hown, hts, hK, hsz, hini, hlk, hfr, hlc, hX, hXF, hXT⟩ := hC
  unfold o_iast at h
  split at h
  · split at h
    · rename_i x i a st' _ n f h1
      obtain ⟨a1, a2, a3⟩ := m_atI hR h1
      obtain ⟨n9, hh⟩ := S
      refine va_iast (D := G.2.1) hx hb hK hR.1 hR.2.1 hS (a - 3) 0 a3 rfl h.1 hd (fun H1 locs1 hP1 hD1 hS1 => ?_)
      exact hk _ _ _ _ _ h.2 ad ls H1 locs1 cells slots had hn0 (m_Rel_up (c := m_I 0 n (upd f i.toNatClampNeg x)) hR a1 a2 trivial hP1 hD1) hS1 hl hlo (m_st_t (m_st_t (m_st_t hst))) hc hs
    · exact h.elim
  · exact h.elim
theorem ok_zast {GP : m_G → Prop} {my : Nat → m_T} {E : m_E} {pc nx : Nat} (hd : decode E.1 pc = .ok (.bastore, 1)) (hn : pc + 1 = nx) : m_OK GP my E pc (o_zast nx) := by
  subst hn
  intro l G p e R s m args below meth c dp call n0 ad0 mc ms Q r kk hGP hC hcall hmc hms hE hk lo st bd S h ad ls H locs cells slots had hn0 hR hS hl hlo hst hc hs
  obtain ⟨hx, hb, hml, hown, hts, hK, hsz, hini, hlk, hfr, hlc, hX, hXF, hXT⟩ := hC
  unfold o_zast at h
  split at h
  · split at h
    · rename_i x i a st' _ n f h1
      obtain ⟨a1, a2, a3⟩ := m_atI hR h1
      obtain ⟨n9, hh⟩ := S
      have hz : vp_nar .boolean x = x := by rcases h.1 with z | z <;> subst z <;> decide
      refine va_zast (D := G.2.1) hx hb hK hR.1 hR.2.1 hS (a - 3) 1 a3 rfl h.2.1 hd (fun H1 locs1 hP1 hD1 hS1 => ?_)
      rw [hz] at hP1 hD1
      exact hk _ _ _ _ _ h.2.2 ad ls H1 locs1 cells slots had hn0 (m_Rel_up (c := m_I 1 n (upd f i.toNatClampNeg x)) hR a1 a2 trivial hP1 hD1) hS1 hl hlo (m_st_t (m_st_t (m_st_t hst))) hc hs
    · exact h.elim
  · exact h.elim
theorem ok_aaldI {GP : m_G → Prop} {my : Nat → m_T} {E : m_E} {pc nx : Nat} (hd : decode E.1 pc = .ok (.aaload, 1)) (hn : pc + 1 = nx) : m_OK GP my E pc (o_aald 3 nx) := by
  subst hn
  intro l G p e R s m args below meth c dp call n0 ad0 mc ms Q r kk hGP hC hcall hmc hms hE hk lo st bd S h ad ls H locs cells slots had hn0 hR hS hl hlo hst hc hs
  obtain ⟨hx, hb, hml, hown, hts, hK, hsz, hini, hlk, hfr, hlc, hX, hXF, hXT⟩ := hC
  unfold o_aald at h
  split at h
  · split at h
    · rename_i i a st' _ n f h1
      obtain ⟨a1, a2, a3, a4⟩ := m_atQ hR h1
      obtain ⟨h0, h⟩ := h
      split at h
      · rename_i q hq
        have hlt : i.toNatClampNeg < n := Nat.not_le.mp fun q => h0 (Or.inr q)
        refine W.aald (v := va_rf ((f i.toNatClampNeg).map ad)) (ty := .array .int) hx hb (hR.1 (a - 3) _ a3) ((hK.2 3 _ rfl).1 n (fun j => va_rf ((f j).map ad))) rfl (fun q => by cases q) (by show ¬ (i < 0 ∨ (arrV _ _ _).slots.size ≤ _); rw [arrV_size]; exact h0) (by show (arrV _ _ _).slots[_]? = _; rw [arrV_read _ _ hlt]) rfl rfl hd ?_
        rw [hq]
        exact hk _ _ _ _ _ h ad ls H locs cells slots had hn0 hR hS hl hlo (m_st_c (a4 _ _ hq) (m_st_t (m_st_t hst))) hc hs
      · exact h.elim
    · exact h.elim
  · exact h.elim
theorem ok_aald {GP : m_G → Prop} {my : Nat → m_T} {E : m_E} {pc nx : Nat} {k : Nat} {C : String} (hk0 : ∀ cy : Nat → ClassId, (m_tys cy)[k]? = some (cy k, .object C)) (hd : decode E.1 pc = .ok (.aaload, 1)) (hn : pc + 1 = nx) : m_OK GP my E pc (o_aald k nx) := by
  subst hn
  intro l G p e R s m args below meth c dp call n0 ad0 mc ms Q r kk hGP hC hcall hmc hms hE hk lo st bd S h ad ls H locs cells slots had hn0 hR hS hl hlo hst hc hs
  obtain ⟨hx, hb, hml, hown, hts, hK, hsz, hini, hlk, hfr, hlc, hX, hXF, hXT⟩ := hC
  unfold o_aald at h
  split at h
  · split at h
    · rename_i i a st' _ n f h1
      obtain ⟨a1, a2, a3, a4⟩ := m_atQ hR h1
      obtain ⟨h0, h⟩ := h
      split at h
      · rename_i q hq
        refine va_aldq (D := G.2.1) hx hb hK hR.1 (a - 3) k a3 (hk0 _) h0 hd ?_
        rw [hq]
        exact hk _ _ _ _ _ h ad ls H locs cells slots had hn0 hR hS hl hlo (m_st_c (a4 _ _ hq) (m_st_t (m_st_t hst))) hc hs
      · exact h.elim
    · exact h.elim
  · exact h.elim
theorem m_upmap {f : Nat → Option Nat} {ad : Nat → Nat} {i v : Nat} : (va_up (fun j => (f j).map ad) i (some (ad v))) = (fun j => (va_up f i (some v) j).map ad) := by
  funext j
  unfold va_up
  split <;> rfl
theorem ok_aast {GP : m_G → Prop} {my : Nat → m_T} {E : m_E} {pc nx : Nat} {k ci : Nat} {r9 : vw_C} (hk0 : ∀ cy : Nat → ClassId, (m_tys cy)[k]? = some (cy k, .object r9.1)) (hc0 : vwCl[ci]? = some r9) (hd : decode E.1 pc = .ok (.aastore, 1)) (hn : pc + 1 = nx) : m_OK GP my E pc (o_aast k ci nx) := by
  subst hn
  intro l G p e R s m args below meth c dp call n0 ad0 mc ms Q r kk hGP hC hcall hmc hms hE hk lo st bd S h ad ls H locs cells slots had hn0 hR hS hl hlo hst hc hs
  obtain ⟨hx, hb, hml, hown, hts, hK, hsz, hini, hlk, hfr, hlc, hX, hXF, hXT⟩ := hC
  unfold o_aast at h
  split at h
  · split at h
    · rename_i v i a st' _ _ n f fs h1 h2
      obtain ⟨a1, a2, a3, a4⟩ := m_atQ hR h1
      obtain ⟨b1, b2, b3, b4⟩ := m_atO hR h2
      obtain ⟨n9, hh⟩ := S
      refine va_astq (D := G.2.1) hx hb hK hR.1 hR.2.1 hS (a - 3) k (v - 3) ci a3 (hk0 _) b3 hc0 h.1 hd (fun H1 locs1 hP1 hD1 hS1 => ?_)
      rw [m_upmap] at hP1 hD1
      refine hk _ _ _ _ _ h.2 ad ls H1 locs1 cells slots had hn0 (m_Rel_up (c := m_Q k n (va_up f i.toNatClampNeg (some v))) hR a1 a2 ?_ hP1 hD1) hS1 hl hlo (m_st_t (m_st_t (m_st_t hst))) hc hs
      intro j q hq
      unfold va_up at hq
      split at hq
      · cases hq; exact b2
      · exact a4 j q hq
    · exact h.elim
  · exact h.elim
theorem ok_alenq {GP : m_G → Prop} {my : Nat → m_T} {E : m_E} {pc nx : Nat} {k : Nat} {ty : FieldType} (hk0 : ∀ cy : Nat → ClassId, (m_tys cy)[k]? = some (cy k, ty)) (hd : decode E.1 pc = .ok (.arraylength, 1)) (hn : pc + 1 = nx) : m_OK GP my E pc (o_alenq k nx) := by
  subst hn
  intro l G p e R s m args below meth c dp call n0 ad0 mc ms Q r kk hGP hC hcall hmc hms hE hk lo st bd S h ad ls H locs cells slots had hn0 hR hS hl hlo hst hc hs
  obtain ⟨hx, hb, hml, hown, hts, hK, hsz, hini, hlk, hfr, hlc, hX, hXF, hXT⟩ := hC
  unfold o_alenq at h
  split at h
  · split at h
    · rename_i a st' _ n f h1
      obtain ⟨a1, a2, a3, a4⟩ := m_atQ hR h1
      refine va_alen (D := G.2.1) hx hb hK hR.1 (a - 3) k a3 (hk0 _) rfl hd ?_
      exact hk _ _ _ _ _ h ad ls H locs cells slots had hn0 hR hS hl hlo (m_st_c trivial (m_st_t hst)) hc hs
    · exact h.elim
  · exact h.elim
theorem ok_getfU {GP : m_G → Prop} {my : Nat → m_T} {E : m_E} {pc nx : Nat} {C : String} {T : u_T} {N ci k idx : Nat} {ref : String} (hc0 : vwCl[ci]? = some (C, T, N)) (hk0 : k < N) (hin : ∀ w ∈ u_ws C T N, w ∈ m_WS) (hsm : Cond.sameField ref (T k).1 (T k).2.1 (T k).2.2.1 ∈ m_WS) (hlk0 : Cond.fieldLink E.2.2.1 idx ref (T k).2.1 (T k).2.2.1 ∈ m_WS) (hd : decode E.1 pc = .ok (.getfield idx, 3)) (hn : pc + 3 = nx) : m_OK GP my E pc (o_getf ci k nx) := by
  subst hn
  intro l G p e R s m args below meth c dp call n0 ad0 mc ms Q r kk hGP hC hcall hmc hms hE hk lo st bd S h ad ls H locs cells slots had hn0 hR hS hl hlo hst hc hs
  obtain ⟨hx, hb, hml, hown, hts, hK, hsz, hini, hlk, hfr, hlc, hX, hXF, hXT⟩ := hC
  unfold o_getf at h
  split at h
  · split at h
    · rename_i a st' _ fs h1
      split at h
      · rename_i v h2
        obtain ⟨a1, a2, a3, a4⟩ := m_atO hR h1
        refine va_get (D := G.2.1) (v := m_v ad v) hx hb hts hin hown hK hR.1 (a - 3) a3 hc0 k hk0 (hts _ hlk0) (fun x9 h9 => u_same (hts _ hsm) x9 h9) (by rw [List.getElem?_map, h2]; rfl) hd ?_
        exact hk _ _ _ _ _ h ad ls H locs cells slots had hn0 hR hS hl hlo (m_st_c (a4 v (List.mem_of_getElem? h2)) (m_st_t hst)) hc hs
      · exact h.elim
    · exact h.elim
  · exact h.elim
theorem ok_putiU {GP : m_G → Prop} {my : Nat → m_T} {E : m_E} {pc nx : Nat} {C : String} {T : u_T} {N ci k idx : Nat} {ref : String} (hc0 : vwCl[ci]? = some (C, T, N)) (hk0 : k < N) (hin : ∀ w ∈ u_ws C T N, w ∈ m_WS) (hsm : Cond.sameField ref (T k).1 (T k).2.1 (T k).2.2.1 ∈ m_WS) (hlk0 : Cond.fieldLink E.2.2.1 idx ref (T k).2.1 (T k).2.2.1 ∈ m_WS) (ty0 : Nat → FieldType) (hty : ∀ k, k < N → parseFieldDescriptor (T k).2.2.1 = some (ty0 k)) (hnm : ∀ a, a < N → ∀ b, b < N → a ≠ b → (T a).2.1 ≠ (T b).2.1) (hfin : (T k).2.2.2 = false) (hpd : parseFieldDescriptor (T k).2.2.1 = some .int) (hd : decode E.1 pc = .ok (.putfield idx, 3)) (hn : pc + 3 = nx) : m_OK GP my E pc (o_puti ci k nx) := by
  subst hn
  intro l G p e R s m args below meth c dp call n0 ad0 mc ms Q r kk hGP hC hcall hmc hms hE hk lo st bd S h ad ls H locs cells slots had hn0 hR hS hl hlo hst hc hs
  obtain ⟨hx, hb, hml, hown, hts, hK, hsz, hini, hlk, hfr, hlc, hX, hXF, hXT⟩ := hC
  unfold o_puti at h
  split at h
  · split at h
    · rename_i x a st' _ fs h1
      obtain ⟨a1, a2, a3, a4⟩ := m_atO hR h1
      obtain ⟨n, hh⟩ := S
      refine va_put (D := G.2.1) (v := m_v ad (.int x)) hx hb hts hin ty0 hty hnm hown hK hR.1 hR.2.1 hS (a - 3) a3 hc0 k hk0 (hts _ hlk0) (fun x9 h9 => u_same (hts _ hsm) x9 h9) hfin hpd rfl rfl (by rw [List.length_map]; exact h.1) hd (fun H1 locs1 hP1 hD1 hS1 => ?_)
      rw [← List.map_set] at hP1 hD1
      exact hk _ _ _ _ _ h.2 ad ls H1 locs1 cells slots had hn0 (m_Rel_up (c := m_O ci (fs.set k (.int x))) hR a1 a2 (m_set_ok a4 trivial) hP1 hD1) hS1 hl hlo (m_st_t (m_st_t hst)) hc hs
    · exact h.elim
  · exact h.elim
