theorem m_had {n0 n q : Nat} {ad ad0 : Nat → Nat} (h : ∀ i, i < n0 + 3 → ad i = ad0 i) (hn : n0 ≤ n) : ∀ i, i < n0 + 3 → va_up ad (n + 3) q i = ad0 i := fun i hi => (if_neg (by omega)).trans (h i hi)
theorem m_hA {G : m_G} {s : State} (h : G.1.heap.size ≤ s.heap.size) : ∀ q, s.heap.size ≤ q → m_AG G q := fun _ hq => Nat.le_trans h hq
theorem m_cyP {G : m_G} {s : State} {ty : FieldType} {cA c0 : ClassId} (h1 : va_RA s cA ty) (h2 : va_RA s c0 ty) : cA = c0 := by
  cases ty with
  | object C =>
    obtain ⟨-, -, -, -, -, e1⟩ := h1
    obtain ⟨-, -, -, -, -, e2⟩ := h2
    exact Option.some.inj (e1.symm.trans e2)
  | _ => exact Option.some.inj ((show s.vm.findClass _ = some cA from h1).symm.trans (show s.vm.findClass _ = some c0 from h2))
theorem m_cat_le (ad : Nat → Nat) (l : List Value) : ((l.map (m_v ad)).map fun v => v.category).sum ≤ 2 * l.length := by
  induction l with
  | nil => exact Nat.le_refl 0
  | cons v t ih =>
    have h1 : (m_v ad v).category ≤ 2 := by cases v <;> exact Nat.le_of_ble_eq_true rfl
    simp only [List.map_cons, List.sum_cons, List.length_cons]
    omega
theorem m_lastK {D : va_G} {cl : List vw_C} {tys : List (ClassId × FieldType)} {cA : ClassId} {ty : FieldType} {s : State} (h : va_K D cl (tys ++ [(cA, ty)]) s) : va_RA s cA ty := (h.2 tys.length (cA, ty) (by rw [List.getElem?_append_right (Nat.le_refl _), Nat.sub_self]; rfl)).2

theorem ok_new {GP : m_G → Prop} {my : Nat → m_T} {E : m_E} {pc nx : Nat} {C : String} {T : u_T} {N ci idx : Nat} {fs : List Value} (hc0 : vwCl[ci]? = some (C, T, N)) (hin : ∀ w ∈ u_ws C T N, w ∈ m_WS) (ty0 : Nat → FieldType) (hty : ∀ k, k < N → parseFieldDescriptor (T k).2.2.1 = some (ty0 k)) (hcl : Cond.classLink E.2.2.1 idx C ∈ m_WS) (hins : Cond.instantiable C N ∈ m_WS) (hi0 : Cond.initialized C ∈ m_WS)
    (hfs : ∀ j, j < N → defaultValue (ty0 j) = vp_V fs j) (hf0 : ∀ ad : Nat → Nat, fs.map (m_v ad) = fs) (hf1 : ∀ n : Nat, ∀ v ∈ fs, m_vok n v) (hd : decode E.1 pc = .ok (.new idx, 3)) (hn : pc + 3 = nx) : m_OK GP my E pc (o_new ci N fs nx) := by
  subst hn
  intro l G p e R s m args below meth c dp call n0 ad0 mc ms Q r kk hGP hC hcall hmc hms hE hk lo st bd S h ad ls H locs cells slots had hn0 hR hS hl hlo hst hc hs
  obtain ⟨hx, hb, hml, hown, hts, hK, hsz, hini, hlk, hfr, hlc, hX, hXF, hXT⟩ := hC
  unfold o_new at h
  obtain ⟨h1, h2, h⟩ := h
  obtain ⟨n, hh⟩ := S
  refine va_new (D := G.2.1) (fs := fs) hx hb hts hin ty0 hty hown (hts _ hcl) (hts _ hins) (hts _ hi0) hK hR.1 hR.2.1 hS (m_hA hsz) hc0 hfs (by omega) (by omega) hd (fun q H1 hP1 hD1 hS1 => ?_)
  have e : m_e G.2.2.1 ad (m_O ci fs) = .inr (ci, fs) := by show Sum.inr (ci, fs.map (m_v ad)) = _; rw [hf0]
  rw [← e] at hP1 hD1
  have k := hk _ _ _ _ _ h (va_up ad (n + 3) q) ls H1 locs (cells + 1) (slots + N) (m_had had hn0) (Nat.le_succ_of_le hn0) (m_Rel_new (c := m_O ci fs) hR (hf1 n) hP1 hD1) hS1 (m_lh_agree m_up_lt hlo hl) (m_lo_mono (Nat.le_succ n) hlo) (m_st_c (show n + 3 < n + 1 + 3 by omega) (m_st_mono (Nat.le_succ n) hst)) (by show cells + 1 + (bd.1 - 1) ≤ mc; omega) (by show slots + N + (bd.2 - N) ≤ ms; omega)
  rw [List.map_cons, m_vs_agree m_up_lt hst, show m_v (va_up ad (n + 3) q) (.ref (n + 3)) = .ref q from congrArg Value.ref (if_pos rfl)] at k
  exact k
theorem ok_newi {GP : m_G → Prop} {my : Nat → m_T} {E : m_E} {pc nx : Nat} {N : Nat} (harr : Cond.arrayClass .int ∈ m_WS) (hN : N ≤ 100000) (hd : decode E.1 pc = .ok (.newarray .int, 2)) (hn : pc + 2 = nx) : m_OK GP my E pc (o_newi 0 N nx) := by
  subst hn
  intro l G p e R s m args below meth c dp call n0 ad0 mc ms Q r kk hGP hC hcall hmc hms hE hk lo st bd S h ad ls H locs cells slots had hn0 hR hS hl hlo hst hc hs
  obtain ⟨hx, hb, hml, hown, hts, hK, hsz, hini, hlk, hfr, hlc, hX, hXF, hXT⟩ := hC
  unfold o_newi at h
  split at h
  · rename_i n9 st'
    obtain ⟨e9, h1, h2, h⟩ := h
    subst e9
    obtain ⟨n, hh⟩ := S
    have ec : (Int32.ofNat N).toNatClampNeg = N := nI_clamp (by omega)
    refine va_newa (D := G.2.1) (atype := .int) (ty := .int) (N' := N) (a0 := (N, .inl (fun _ => 0))) hx hb (hts _ harr) rfl hK hR.1 hR.2.1 hS (m_hA hsz) (fun _ => rfl) (nI_pos (by omega)) ec (by show N * 4 ≤ _; omega) (by omega) (by omega) hd (fun q cA H1 hK1 hP1 hD1 hS1 => ?_)
    have ecA : cA = G.2.2.1 0 := m_cyP (G := G) (m_lastK hK1) (hK.2 0 _ rfl).2
    rw [ecA] at hP1 hD1
    have k := hk _ _ _ _ _ h (va_up ad (n + 3) q) ls H1 locs (cells + 1) (slots + N) (m_had had hn0) (Nat.le_succ_of_le hn0) (m_Rel_new (c := m_I 0 N (fun _ => 0)) hR trivial hP1 hD1) hS1 (m_lh_agree m_up_lt hlo hl) (m_lo_mono (Nat.le_succ n) hlo) (m_st_c (show n + 3 < n + 1 + 3 by omega) (m_st_mono (Nat.le_succ n) (m_st_t hst))) (by show cells + 1 + (bd.1 - 1) ≤ mc; omega) (by show slots + N + (bd.2 - N) ≤ ms; omega)
    rw [List.map_cons, m_vs_agree m_up_lt (m_st_t hst), show m_v (va_up ad (n + 3) q) (.ref (n + 3)) = .ref q from congrArg Value.ref (if_pos rfl)] at k
    exact k
  · exact h.elim
theorem ok_newz {GP : m_G → Prop} {my : Nat → m_T} {E : m_E} {pc nx : Nat} {N : Nat} (harr : Cond.arrayClass .boolean ∈ m_WS) (hN : N ≤ 100000) (hd : decode E.1 pc = .ok (.newarray .boolean, 2)) (hn : pc + 2 = nx) : m_OK GP my E pc (o_newi 1 N nx) := by
  subst hn
  intro l G p e R s m args below meth c dp call n0 ad0 mc ms Q r kk hGP hC hcall hmc hms hE hk lo st bd S h ad ls H locs cells slots had hn0 hR hS hl hlo hst hc hs
  obtain ⟨hx, hb, hml, hown, hts, hK, hsz, hini, hlk, hfr, hlc, hX, hXF, hXT⟩ := hC
  unfold o_newi at h
  split at h
  · rename_i n9 st'
    obtain ⟨e9, h1, h2, h⟩ := h
    subst e9
    obtain ⟨n, hh⟩ := S
    have ec : (Int32.ofNat N).toNatClampNeg = N := nI_clamp (by omega)
    refine va_newa (D := G.2.1) (atype := .boolean) (ty := .boolean) (N' := N) (a0 := (N, .inl (fun _ => 0))) hx hb (hts _ harr) rfl hK hR.1 hR.2.1 hS (m_hA hsz) (fun _ => rfl) (nI_pos (by omega)) ec (by show N * 1 ≤ _; omega) (by omega) (by omega) hd (fun q cA H1 hK1 hP1 hD1 hS1 => ?_)
    have ecA : cA = G.2.2.1 1 := m_cyP (G := G) (m_lastK hK1) (hK.2 1 _ rfl).2
    rw [ecA] at hP1 hD1
    have k := hk _ _ _ _ _ h (va_up ad (n + 3) q) ls H1 locs (cells + 1) (slots + N) (m_had had hn0) (Nat.le_succ_of_le hn0) (m_Rel_new (c := m_I 1 N (fun _ => 0)) hR trivial hP1 hD1) hS1 (m_lh_agree m_up_lt hlo hl) (m_lo_mono (Nat.le_succ n) hlo) (m_st_c (show n + 3 < n + 1 + 3 by omega) (m_st_mono (Nat.le_succ n) (m_st_t hst))) (by show cells + 1 + (bd.1 - 1) ≤ mc; omega) (by show slots + N + (bd.2 - N) ≤ ms; omega)
    rw [List.map_cons, m_vs_agree m_up_lt (m_st_t hst), show m_v (va_up ad (n + 3) q) (.ref (n + 3)) = .ref q from congrArg Value.ref (if_pos rfl)] at k
    exact k
  · exact h.elim
theorem ok_newq {GP : m_G → Prop} {my : Nat → m_T} {E : m_E} {pc nx : Nat} {N k idx : Nat} {C : String} (hk0 : ∀ cy : Nat → ClassId, (m_tys cy)[k]? = some (cy k, .object C)) (hC9 : C ∈ m_aos) (hcl : Cond.classLink E.2.2.1 idx C ∈ m_WS) (hN : N ≤ 100000) (hd : decode E.1 pc = .ok (.anewarray idx, 3)) (hn : pc + 3 = nx) : m_OK GP my E pc (o_newq k N nx) := by
  subst hn
  intro l G p e R s m args below meth c dp call n0 ad0 mc ms Q r kk hGP hC hcall hmc hms hE hk lo st bd S h ad ls H locs cells slots had hn0 hR hS hl hlo hst hc hs
  obtain ⟨hx, hb, hml, hown, hts, hK, hsz, hini, hlk, hfr, hlc, hX, hXF, hXT⟩ := hC
  unfold o_newq at h
  split at h
  · rename_i n9 st'
    obtain ⟨e9, h1, h2, h⟩ := h
    subst e9
    obtain ⟨n, hh⟩ := S
    have ec : (Int32.ofNat N).toNatClampNeg = N := nI_clamp (by omega)
    refine va_newq (D := G.2.1) (C := C) (N' := N) hx hb hown (hts _ hcl) (hXF.2.1 C hC9) hK hR.1 hR.2.1 hS (m_hA hsz) (nI_pos (by omega)) ec (by omega) (by omega) (by omega) hd (fun q cA H1 hK1 hP1 hD1 hS1 => ?_)
    have ecA : cA = G.2.2.1 k := m_cyP (G := G) (m_lastK hK1) (hK.2 k _ (hk0 _)).2
    rw [ecA] at hP1 hD1
    have k := hk _ _ _ _ _ h (va_up ad (n + 3) q) ls H1 locs (cells + 1) (slots + N) (m_had had hn0) (Nat.le_succ_of_le hn0) (m_Rel_new (c := m_Q k N (fun _ => none)) hR (fun _ _ z => by cases z) hP1 hD1) hS1 (m_lh_agree m_up_lt hlo hl) (m_lo_mono (Nat.le_succ n) hlo) (m_st_c (show n + 3 < n + 1 + 3 by omega) (m_st_mono (Nat.le_succ n) (m_st_t hst))) (by show cells + 1 + (bd.1 - 1) ≤ mc; omega) (by show slots + N + (bd.2 - N) ≤ ms; omega)
    rw [List.map_cons, m_vs_agree m_up_lt (m_st_t hst), show m_v (va_up ad (n + 3) q) (.ref (n + 3)) = .ref q from congrArg Value.ref (if_pos rfl)] at k
    exact k
  · exact h.elim
theorem ok_drop {GP : m_G → Prop} {my : Nat → m_T} {E : m_E} {pc nx : Nat} {idx : Nat} (hlk0 : Cond.methodLink E.2.2.1 idx Lib.objectInit ∈ m_WS) (hin0 : Cond.instanceMethod Lib.objectInit ∈ m_WS) (hco : Cond.code Lib.objectInit ⟨#[0xb1]⟩ 1 none ∈ m_WS) (hd : decode E.1 pc = .ok (.invokespecial idx, 3)) (hn : pc + 3 = nx) : m_OK GP my E pc (o_drop nx) := by
  subst hn
  intro l G p e R s m args below meth c dp call n0 ad0 mc ms Q r kk hGP hC hcall hmc hms hE hk lo st bd S h ad ls H locs cells slots had hn0 hR hS hl hlo hst hc hs
  obtain ⟨hx, hb, hml, hown, hts, hK, hsz, hini, hlk, hfr, hlc, hX, hXF, hXT⟩ := hC
  unfold o_drop at h
  split at h
  · rename_i a st'
    have hle := m_cat_le ad st'
    refine W.objInit hx hb hown (hts _ hlk0) (hts _ hin0) (hts _ hco) rfl (by show ls.size = c.maxLocals; rw [hl.1, hml]) rfl hd (by omega) (by show 2 * 0 + ((st'.map (m_v ad)).map fun v => v.category).sum + 12 ≤ R.locals; have := h.1; omega) ?_
    exact hk _ _ _ _ _ h.2 ad ls H locs cells slots had hn0 hR hS hl hlo (m_st_t hst) hc hs
  · exact h.elim
theorem ok_cast {GP : m_G → Prop} {my : Nat → m_T} {E : m_E} {pc nx : Nat} {ci idx : Nat} {r9 : vw_C} (hc0 : vwCl[ci]? = some r9) (hcl : Cond.classLink E.2.2.1 idx r9.1 ∈ m_WS) (hca : Cond.castable r9.1 r9.1 ∈ m_CW) (hd : decode E.1 pc = .ok (.checkcast idx, 3)) (hn : pc + 3 = nx) : m_OK GP my E pc (o_cast ci nx) := by
  subst hn
  intro l G p e R s m args below meth c dp call n0 ad0 mc ms Q r kk hGP hC hcall hmc hms hE hk lo st bd S h ad ls H locs cells slots had hn0 hR hS hl hlo hst hc hs
  obtain ⟨hx, hb, hml, hown, hts, hK, hsz, hini, hlk, hfr, hlc, hX, hXF, hXT⟩ := hC
  unfold o_cast at h
  split at h
  · split at h
    · rename_i a st' _ fs h1
      obtain ⟨a1, a2, a3, a4⟩ := m_atO hR h1
      refine va_castY hx hb hown (hts _ hcl) (hXF.1 _ hca) (va_recv hK hR.1 hc0 a3) hd ?_
      exact hk _ _ _ _ _ h ad ls H locs cells slots had hn0 hR hS hl hlo hst hc hs
    · exact h.elim
  · exact h.elim
theorem ok_mmin {GP : m_G → Prop} {my : Nat → m_T} {E : m_E} {pc nx : Nat} {idx : Nat} (hlk0 : Cond.methodLink E.2.2.1 idx Lib.Math.min.name ∈ m_WS) (hst0 : Cond.static Lib.Math.min.name ∈ m_WS) (hi0 : Cond.initialized "java/lang/Math" ∈ m_WS) (hco : Cond.code Lib.Math.min.name Lib.Math.min.code 2 (some .int) ∈ m_WS) (hd : decode E.1 pc = .ok (.invokestatic idx, 3)) (hn : pc + 3 = nx) : m_OK GP my E pc (o_mbin (fun x y => if y < x then y else x) nx) := by
  subst hn
  intro l G p e R s m args below meth c dp call n0 ad0 mc ms Q r kk hGP hC hcall hmc hms hE hk lo st bd S h ad ls H locs cells slots had hn0 hR hS hl hlo hst hc hs
  obtain ⟨hx, hb, hml, hown, hts, hK, hsz, hini, hlk, hfr, hlc, hX, hXF, hXT⟩ := hC
  unfold o_mbin at h
  split at h
  · rename_i st'
    have hle := m_cat_le ad st'
    have h1 := h.1
    refine va_mmin hx hb (by rw [hl.1, hml]) hown (hts _ hlk0) (hts _ hst0) (hts _ hi0) (hts _ hco) (by omega) (by omega) (by omega) (by omega) hd ?_
    exact hk _ _ _ _ _ h.2 ad ls H locs cells slots had hn0 hR hS hl hlo (m_st_c trivial (m_st_t (m_st_t hst))) hc hs
  · exact h.elim
theorem ok_mmax {GP : m_G → Prop} {my : Nat → m_T} {E : m_E} {pc nx : Nat} {idx : Nat} (hlk0 : Cond.methodLink E.2.2.1 idx Lib.Math.max.name ∈ m_WS) (hst0 : Cond.static Lib.Math.max.name ∈ m_WS) (hi0 : Cond.initialized "java/lang/Math" ∈ m_WS) (hco : Cond.code Lib.Math.max.name Lib.Math.max.code 2 (some .int) ∈ m_WS) (hd : decode E.1 pc = .ok (.invokestatic idx, 3)) (hn : pc + 3 = nx) : m_OK GP my E pc (o_mbin (fun x y => if x < y then y else x) nx) := by
  subst hn
  intro l G p e R s m args below meth c dp call n0 ad0 mc ms Q r kk hGP hC hcall hmc hms hE hk lo st bd S h ad ls H locs cells slots had hn0 hR hS hl hlo hst hc hs
  obtain ⟨hx, hb, hml, hown, hts, hK, hsz, hini, hlk, hfr, hlc, hX, hXF, hXT⟩ := hC
  unfold o_mbin at h
  split at h
  · rename_i st'
    have hle := m_cat_le ad st'
    have h1 := h.1
    refine va_mmax hx hb (by rw [hl.1, hml]) hown (hts _ hlk0) (hts _ hst0) (hts _ hi0) (hts _ hco) (by omega) (by omega) (by omega) (by omega) hd ?_
    exact hk _ _ _ _ _ h.2 ad ls H locs cells slots had hn0 hR hS hl hlo (m_st_c trivial (m_st_t (m_st_t hst))) hc hs
  · exact h.elim
theorem ok_mabs {GP : m_G → Prop} {my : Nat → m_T} {E : m_E} {pc nx : Nat} {idx : Nat} (hlk0 : Cond.methodLink E.2.2.1 idx Lib.Math.abs.name ∈ m_WS) (hst0 : Cond.static Lib.Math.abs.name ∈ m_WS) (hi0 : Cond.initialized "java/lang/Math" ∈ m_WS) (hco : Cond.code Lib.Math.abs.name Lib.Math.abs.code 1 (some .int) ∈ m_WS) (hd : decode E.1 pc = .ok (.invokestatic idx, 3)) (hn : pc + 3 = nx) : m_OK GP my E pc (o_mun (fun x => if 0 ≤ x then x else 0 - x) nx) := by
  subst hn
  intro l G p e R s m args below meth c dp call n0 ad0 mc ms Q r kk hGP hC hcall hmc hms hE hk lo st bd S h ad ls H locs cells slots had hn0 hR hS hl hlo hst hc hs
  obtain ⟨hx, hb, hml, hown, hts, hK, hsz, hini, hlk, hfr, hlc, hX, hXF, hXT⟩ := hC
  unfold o_mun at h
  split at h
  · rename_i st'
    have hle := m_cat_le ad st'
    have h1 := h.1
    refine va_mabs hx hb (by rw [hl.1, hml]) hown (hts _ hlk0) (hts _ hst0) (hts _ hi0) (hts _ hco) (by omega) (by omega) (by omega) (by omega) hd ?_
    exact hk _ _ _ _ _ h.2 ad ls H locs cells slots had hn0 hR hS hl hlo (m_st_c trivial (m_st_t hst)) hc hs
  · exact h.elim
theorem ok_copy {GP : m_G → Prop} {my : Nat → m_T} {E : m_E} {pc nx : Nat} {idx : Nat} (hlk0 : Cond.methodLink E.2.2.1 idx arraycopyName ∈ m_WS) (hna : Cond.native arraycopyName ∈ m_WS) (hst0 : Cond.static arraycopyName ∈ m_WS) (hi0 : Cond.initialized "java/lang/System" ∈ m_WS) (hd : decode E.1 pc = .ok (.invokestatic idx, 3)) (hn : pc + 3 = nx) : m_OK GP my E pc (o_copy nx) := by
  subst hn
  intro l G p e R s m args below meth c dp call n0 ad0 mc ms Q r kk hGP hC hcall hmc hms hE hk lo st bd S h ad ls H locs cells slots had hn0 hR hS hl hlo hst hc hs
  obtain ⟨hx, hb, hml, hown, hts, hK, hsz, hini, hlk, hfr, hlc, hX, hXF, hXT⟩ := hC
  unfold o_copy at h
  split at h
  · split at h
    · rename_i n dp9 a sp a0 st' _ _ n1 f n2 g h1 h2
      obtain ⟨h0, b1, b2, b3, b4, b5, h⟩ := h
      obtain ⟨p1, p2, p3⟩ := m_atI hR h1
      obtain ⟨q1, q2, q3⟩ := m_atI hR h2
      have hw9 : nativeFrameWords "java/lang/System" "arraycopy" 5 ≤ 60 := by decide
      have hle := m_cat_le ad st'
      obtain ⟨n9, hh⟩ := S
      refine va_copyi (D := G.2.1) hx hb (by rw [hl.1, hml]) hown (hts _ hlk0) (hts _ hna) (hts _ hst0) (hts _ hi0) hK hR.1 hR.2.1 hS (a0 - 3) (a - 3) 0 0 p3 q3 rfl rfl rfl b1 b2 b3 b4 b5 (fun i _ => rfl) (by omega) (by omega) hd (fun H1 locs1 hP1 hD1 hS1 => ?_)
      exact hk _ _ _ _ _ h ad ls H1 locs1 cells slots had hn0 (m_Rel_up (c := m_I 0 n2 (va_cpy f g sp.toNatClampNeg dp9.toNatClampNeg n.toNatClampNeg)) hR q1 q2 trivial hP1 hD1) hS1 hl hlo (m_st_t (m_st_t (m_st_t (m_st_t (m_st_t hst))))) hc hs
    · exact h.elim
  · exact h.elim
theorem ok_slen {my : Nat → m_T} {E : m_E} {pc nx : Nat} {L : Nat} {xs : Nat → Int32} (hd : decode E.1 pc = .ok (.arraylength, 1)) (hn : pc + 1 = nx) : m_OK (fun G => G.2.2.2.2 = (L, xs)) my E pc (o_slen L nx) := by
  subst hn
  intro l G p e R s m args below meth c dp call n0 ad0 mc ms Q r kk hGP hC hcall hmc hms hE hk lo st bd S h ad ls H locs cells slots had hn0 hR hS hl hlo hst hc hs
  obtain ⟨hx, hb, hml, hown, hts, hK, hsz, hini, hlk, hfr, hlc, hX, hXF, hXT⟩ := hC
  unfold o_slen at h
  split at h
  · rename_i st'
    obtain ⟨-, -, -, -, -, -, -, h8, h9, -⟩ := hXF
    have e0 := hR.2.2.2.2.1
    rw [hGP, ← e0] at h8
    rw [← e0] at h9
    refine va_slen hx hb h8 (Nat.lt_of_lt_of_le h9 hsz) (Nat.not_le.mpr h9) hS hd ?_
    exact hk _ _ _ _ _ h ad ls H locs cells slots had hn0 hR hS hl hlo (m_st_c trivial (m_st_t hst)) hc hs
  · exact h.elim
theorem ok_sald {my : Nat → m_T} {E : m_E} {pc nx : Nat} {L : Nat} {xs : Nat → Int32} (hd : decode E.1 pc = .ok (.iaload, 1)) (hn : pc + 1 = nx) : m_OK (fun G => G.2.2.2.2 = (L, xs)) my E pc (o_sald L xs nx) := by
  subst hn
  intro l G p e R s m args below meth c dp call n0 ad0 mc ms Q r kk hGP hC hcall hmc hms hE hk lo st bd S h ad ls H locs cells slots had hn0 hR hS hl hlo hst hc hs
  obtain ⟨hx, hb, hml, hown, hts, hK, hsz, hini, hlk, hfr, hlc, hX, hXF, hXT⟩ := hC
  unfold o_sald at h
  split at h
  · rename_i i st'
    obtain ⟨-, -, -, -, -, -, -, h8, h9, -⟩ := hXF
    have e0 := hR.2.2.2.2.1
    rw [hGP, ← e0] at h8
    rw [← e0] at h9
    refine va_sld hx hb h8 (Nat.lt_of_lt_of_le h9 hsz) (Nat.not_le.mpr h9) hS h.1 hd ?_
    exact hk _ _ _ _ _ h.2 ad ls H locs cells slots had hn0 hR hS hl hlo (m_st_c trivial (m_st_t (m_st_t hst))) hc hs
  · exact h.elim
theorem ok_ireturn {GP : m_G → Prop} {my : Nat → m_T} {E : m_E} {pc nx : Nat} (hret : E.2.2.2.2.1 = some .int) (hd : decode E.1 pc = .ok (.ireturn, 1)) : m_OK GP my E pc o_ireturn := by
  intro l G p e R s m args below meth c dp call n0 ad0 mc ms Q r kk hGP hC hcall hmc hms hE hk lo st bd S h ad ls H locs cells slots had hn0 hR hS hl hlo hst hc hs
  obtain ⟨hx, hb, hml, hown, hts, hK, hsz, hini, hlk, hfr, hlc, hX, hXF, hXT⟩ := hC
  unfold o_ireturn at h
  split at h
  · rename_i x
    exact hE.1 _ _ _ h (Or.inl ⟨hret, rfl, x, rfl⟩) ad ls H locs cells slots pc had hn0 hR hS (fun v hv => by cases hv; trivial) (by omega) (by omega) hd
  · exact h.elim
theorem ok_zreturn {GP : m_G → Prop} {my : Nat → m_T} {E : m_E} {pc nx : Nat} (hret : E.2.2.2.2.1 = some .boolean) (hd : decode E.1 pc = .ok (.ireturn, 1)) : m_OK GP my E pc o_zreturn := by
  intro l G p e R s m args below meth c dp call n0 ad0 mc ms Q r kk hGP hC hcall hmc hms hE hk lo st bd S h ad ls H locs cells slots had hn0 hR hS hl hlo hst hc hs
  obtain ⟨hx, hb, hml, hown, hts, hK, hsz, hini, hlk, hfr, hlc, hX, hXF, hXT⟩ := hC
  unfold o_zreturn at h
  split at h
  · rename_i x
    exact hE.1 _ _ _ h.2 (Or.inr (Or.inl ⟨hret, rfl, by rcases h.1 with z | z <;> subst z <;> simp⟩)) ad ls H locs cells slots pc had hn0 hR hS (fun v hv => by cases hv; trivial) (by omega) (by omega) hd
  · exact h.elim
theorem ok_return {GP : m_G → Prop} {my : Nat → m_T} {E : m_E} {pc nx : Nat} (hret : E.2.2.2.2.1 = none) (hd : decode E.1 pc = .ok (.return_, 1)) : m_OK GP my E pc o_return := by
  intro l G p e R s m args below meth c dp call n0 ad0 mc ms Q r kk hGP hC hcall hmc hms hE hk lo st bd S h ad ls H locs cells slots had hn0 hR hS hl hlo hst hc hs
  obtain ⟨hx, hb, hml, hown, hts, hK, hsz, hini, hlk, hfr, hlc, hX, hXF, hXT⟩ := hC
  unfold o_return at h
  split at h
  · exact hE.1 _ _ _ h (Or.inr (Or.inr (Or.inl ⟨hret, rfl, rfl⟩))) ad ls H locs cells slots pc had hn0 hR hS (fun v hv => by cases hv) (by omega) (by omega) hd
  · exact h.elim
theorem ok_areturn {GP : m_G → Prop} {my : Nat → m_T} {E : m_E} {pc nx : Nat} (hret : (∃ C, E.2.2.2.2.1 = some (.object C)) ∨ ∃ t, E.2.2.2.2.1 = some (.array t)) (hd : decode E.1 pc = .ok (.areturn, 1)) : m_OK GP my E pc o_areturn := by
  intro l G p e R s m args below meth c dp call n0 ad0 mc ms Q r kk hGP hC hcall hmc hms hE hk lo st bd S h ad ls H locs cells slots had hn0 hR hS hl hlo hst hc hs
  obtain ⟨hx, hb, hml, hown, hts, hK, hsz, hini, hlk, hfr, hlc, hX, hXF, hXT⟩ := hC
  unfold o_areturn at h
  split at h
  · rename_i x
    exact hE.1 _ _ _ h (Or.inr (Or.inr (Or.inr ⟨hret, rfl, x, rfl⟩))) ad ls H locs cells slots pc had hn0 hR hS (fun v hv => by cases hv; exact m_st_h hst) (by omega) (by omega) hd
  · exact h.elim
