theorem ok_null {GP : m_G → Prop} {my : Nat → m_T} {E : m_E} {pc nx : Nat} (hd : decode E.1 pc = .ok (.aconst_null, 1)) (hn : pc + 1 = nx) : m_OK GP my E pc (o_null nx) := by
  subst hn
  intro l G p e R s m args below meth c dp call n0 ad0 mc ms Q r kk hGP hC hcall hmc hms hE hk lo st bd S h ad ls H locs cells slots had hn0 hR hS hl hlo hst hc hs
  obtain ⟨hx, hb, hml, hown, hts, hK, hsz, hini, hlk, hfr, hlc, hX, hXF, hXT⟩ := hC
  refine lv_null hx hb hd ?_
  exact hk _ _ _ _ _ h ad ls H locs cells slots had hn0 hR hS hl hlo (m_st_c trivial hst) hc hs
theorem ok_dupx1 {GP : m_G → Prop} {my : Nat → m_T} {E : m_E} {pc nx : Nat} (hd : decode E.1 pc = .ok (.dup_x1, 1)) (hn : pc + 1 = nx) : m_OK GP my E pc (o_dupx1 nx) := by
  subst hn
  intro l G p e R s m args below meth c dp call n0 ad0 mc ms Q r kk hGP hC hcall hmc hms hE hk lo st bd S h ad ls H locs cells slots had hn0 hR hS hl hlo hst hc hs
  obtain ⟨hx, hb, hml, hown, hts, hK, hsz, hini, hlk, hfr, hlc, hX, hXF, hXT⟩ := hC
  unfold o_dupx1 at h
  split at h
  · refine lv_dup_x1 hx hb hd rfl rfl ?_
    exact hk _ _ _ _ _ h ad ls H locs cells slots had hn0 hR hS hl hlo (m_st_c (m_st_h hst) (m_st_c (m_st_h (m_st_t hst)) (m_st_c (m_st_h hst) (m_st_t (m_st_t hst))))) hc hs
  · exact h.elim
theorem m_apart_ne {G : m_G} {ad : Nat → Nat} {S : m_S} {H : Heap} {x y : Nat} (hR : m_Rel G ad S H) (hX : ¬ m_AG G G.2.2.2.1.2.1) (hx : x < S.1 + 3) (hy : y < S.1 + 3) (h : m_apart x y) : ad x ≠ ad y := by
  have hA : ∀ a, 3 ≤ a → a < S.1 + 3 → m_AG G (ad a) := fun a h1 h2 => hR.2.1.2 (a - 3) _ (m_w_at h1 h2)
  have e1 : ad 1 = G.2.2.2.1.2.1 := hR.2.2.2.2.2.1
  obtain ⟨hne, h | h | h⟩ := h
  · intro z
    rw [h.1, e1] at z
    exact hX (by rw [z]; exact hA y h.2 hy)
  · intro z
    rw [h.1, e1] at z
    exact hX (by rw [← z]; exact hA x h.2 hx)
  · intro z
    have := hR.2.1.1 (x - 3) (y - 3) _ _ (m_w_at h.1 hx) (m_w_at h.2 hy) z
    omega
theorem ok_acmpeq {GP : m_G → Prop} {my : Nat → m_T} {E : m_E} {pc nx : Nat} {tg : Nat} {off : Int} (hd : decode E.1 pc = .ok (.if_acmp .eq off, 3)) (ht : (pc : Int) + off = (tg : Int)) (hn : pc + 3 = nx) : m_OK GP my E pc (o_acmpeq tg nx) := by
  subst hn
  intro l G p e R s m args below meth c dp call n0 ad0 mc ms Q r kk hGP hC hcall hmc hms hE hk lo st bd S h ad ls H locs cells slots had hn0 hR hS hl hlo hst hc hs
  obtain ⟨hx, hb, hml, hown, hts, hK, hsz, hini, hlk, hfr, hlc, hX, hXF, hXT⟩ := hC
  unfold o_acmpeq at h
  split at h
  · rename_i y x st'
    rcases h with ⟨h1, h⟩ | ⟨h1, h⟩
    · subst h1
      refine lv_acmp_eq (rx := some (ad x)) (ry := some (ad x)) hx hb hd ht (fun z => ?_) (fun z => absurd rfl z)
      exact hk _ _ _ _ _ h ad ls H locs cells slots had hn0 hR hS hl hlo (m_st_t (m_st_t hst)) hc hs
    · refine lv_acmp_eq (rx := some (ad x)) (ry := some (ad y)) hx hb hd ht (fun z => absurd (Option.some.inj z) (m_apart_ne hR (va_T.out hXF.2.2.2.2.2.2.2.2.2.2.1) (m_st_h (m_st_t hst)) (m_st_h hst) h1)) (fun z => ?_)
      exact hk _ _ _ _ _ h ad ls H locs cells slots had hn0 hR hS hl hlo (m_st_t (m_st_t hst)) hc hs
  · exact h.elim
theorem ok_acmpne {GP : m_G → Prop} {my : Nat → m_T} {E : m_E} {pc nx : Nat} {tg : Nat} {off : Int} (hd : decode E.1 pc = .ok (.if_acmp .ne off, 3)) (ht : (pc : Int) + off = (tg : Int)) (hn : pc + 3 = nx) : m_OK GP my E pc (o_acmpne tg nx) := by
  subst hn
  intro l G p e R s m args below meth c dp call n0 ad0 mc ms Q r kk hGP hC hcall hmc hms hE hk lo st bd S h ad ls H locs cells slots had hn0 hR hS hl hlo hst hc hs
  obtain ⟨hx, hb, hml, hown, hts, hK, hsz, hini, hlk, hfr, hlc, hX, hXF, hXT⟩ := hC
  unfold o_acmpne at h
  split at h
  · rename_i y x st'
    rcases h with ⟨h1, h⟩ | ⟨h1, h⟩
    · subst h1
      refine lv_acmp_ne (rx := some (ad x)) (ry := some (ad x)) hx hb hd ht (fun z => absurd rfl z) (fun z => ?_)
      exact hk _ _ _ _ _ h ad ls H locs cells slots had hn0 hR hS hl hlo (m_st_t (m_st_t hst)) hc hs
    · refine lv_acmp_ne (rx := some (ad x)) (ry := some (ad y)) hx hb hd ht (fun z => ?_) (fun z => absurd (Option.some.inj z) (m_apart_ne hR (va_T.out hXF.2.2.2.2.2.2.2.2.2.2.1) (m_st_h (m_st_t hst)) (m_st_h hst) h1))
      exact hk _ _ _ _ _ h ad ls H locs cells slots had hn0 hR hS hl hlo (m_st_t (m_st_t hst)) hc hs
  · exact h.elim
theorem ok_de {GP : m_G → Prop} {my : Nat → m_T} {E : m_E} {pc nx : Nat} {idx : Nat} (hlk0 : Cond.fieldLink E.2.2.1 idx "java/util/ArrayList" "DEFAULTCAPACITY_EMPTY_ELEMENTDATA" "[Ljava/lang/Object;" ∈ m_WS) (hd : decode E.1 pc = .ok (.getstatic idx, 3)) (hn : pc + 3 = nx) : m_OK GP my E pc (o_de nx) := by
  subst hn
  intro l G p e R s m args below meth c dp call n0 ad0 mc ms Q r kk hGP hC hcall hmc hms hE hk lo st bd S h ad ls H locs cells slots had hn0 hR hS hl hlo hst hc hs
  obtain ⟨hx, hb, hml, hown, hts, hK, hsz, hini, hlk, hfr, hlc, hX, hXF, hXT⟩ := hC
  have e1 : ad 1 = G.2.2.2.1.2.1 := hR.2.2.2.2.2.1
  have hZ := hXF.2.2.2.2.2.2.2.2.2.1
  rw [← e1] at hZ
  refine va_gets hx hb hZ hS hown (hts _ hlk0) (fun _ z => z) hd ?_
  exact hk _ _ _ _ _ h ad ls H locs cells slots had hn0 hR hS hl hlo (m_st_c (show 1 < S.1 + 3 by omega) hst) hc hs
theorem ok_alenO {GP : m_G → Prop} {my : Nat → m_T} {E : m_E} {pc nx : Nat} (hd : decode E.1 pc = .ok (.arraylength, 1)) (hn : pc + 1 = nx) : m_OK GP my E pc (o_alenO nx) := by
  subst hn
  intro l G p e R s m args below meth c dp call n0 ad0 mc ms Q r kk hGP hC hcall hmc hms hE hk lo st bd S h ad ls H locs cells slots had hn0 hR hS hl hlo hst hc hs
  obtain ⟨hx, hb, hml, hown, hts, hK, hsz, hini, hlk, hfr, hlc, hX, hXF, hXT⟩ := hC
  unfold o_alenO at h
  split at h
  · rename_i a st'
    rcases h with ⟨rfl, h⟩ | h
    · have e1 : ad 1 = G.2.2.2.1.2.1 := hR.2.2.2.2.2.1
      have hZ := hXF.2.2.2.2.2.2.2.2.2.2.1
      rw [← e1] at hZ
      refine va_tlen hx hb hZ hS (v := 0) (by decide) hd ?_
      exact hk _ _ _ _ _ h ad ls H locs cells slots had hn0 hR hS hl hlo (m_st_c trivial (m_st_t hst)) hc hs
    · split at h
      · rename_i _ n f h1
        obtain ⟨a1, a2, a3, a4⟩ := m_atQ hR h1
        refine va_alen (D := G.2.1) hx hb hK hR.1 (a - 3) 8 a3 rfl rfl hd ?_
        exact hk _ _ _ _ _ h ad ls H locs cells slots had hn0 hR hS hl hlo (m_st_c trivial (m_st_t hst)) hc hs
      · exact h.elim
  · exact h.elim
theorem ok_aastO {GP : m_G → Prop} {my : Nat → m_T} {E : m_E} {pc nx : Nat} {ci : Nat} {r9 : vw_C} (hc0 : vwCl[ci]? = some r9) (hca : Cond.castable r9.1 "java/lang/Object" ∈ m_CW) (hd : decode E.1 pc = .ok (.aastore, 1)) (hn : pc + 1 = nx) : m_OK GP my E pc (o_aastO ci nx) := by
  subst hn
  intro l G p e R s m args below meth c dp call n0 ad0 mc ms Q r kk hGP hC hcall hmc hms hE hk lo st bd S h ad ls H locs cells slots had hn0 hR hS hl hlo hst hc hs
  obtain ⟨hx, hb, hml, hown, hts, hK, hsz, hini, hlk, hfr, hlc, hX, hXF, hXT⟩ := hC
  unfold o_aastO at h
  split at h
  · split at h
    · rename_i v i a st' _ _ n f fs h1 h2
      obtain ⟨a1, a2, a3, a4⟩ := m_atQ hR h1
      obtain ⟨b1, b2, b3, b4⟩ := m_atO hR h2
      obtain ⟨n9, hh⟩ := S
      refine va_astqM (D := G.2.1) hx hb hK hR.1 hR.2.1 hS (a - 3) 8 a3 rfl (va_rAny hK hR.1 b3 hc0 (vb_asgC (hXF.1 _ hca))) h.1 hd (fun H1 locs1 hP1 hD1 hS1 => ?_)
      rw [m_upmap] at hP1 hD1
      refine hk _ _ _ _ _ h.2 ad ls H1 locs1 cells slots had hn0 (m_Rel_up (c := m_Q 8 n (va_up f i.toNatClampNeg (some v))) hR a1 a2 ?_ hP1 hD1) hS1 hl hlo (m_st_t (m_st_t (m_st_t hst))) hc hs
      intro j q hq
      unfold va_up at hq
      split at hq
      · cases hq; exact b2
      · exact a4 j q hq
    · exact h.elim
  · exact h.elim
theorem ok_castS {GP : m_G → Prop} {my : Nat → m_T} {E : m_E} {pc nx : Nat} {ci idx : Nat} {r9 : vw_C} (hc0 : vwCl[ci]? = some r9) (hcl : Cond.classLink E.2.2.1 idx r9.1 ∈ m_WS) (hd : decode E.1 pc = .ok (.checkcast idx, 3)) (hn : pc + 3 = nx) : m_OK GP my E pc (o_cast ci nx) := by
  subst hn
  intro l G p e R s m args below meth c dp call n0 ad0 mc ms Q r kk hGP hC hcall hmc hms hE hk lo st bd S h ad ls H locs cells slots had hn0 hR hS hl hlo hst hc hs
  obtain ⟨hx, hb, hml, hown, hts, hK, hsz, hini, hlk, hfr, hlc, hX, hXF, hXT⟩ := hC
  unfold o_cast at h
  split at h
  · split at h
    · rename_i a st' _ fs h1
      obtain ⟨a1, a2, a3, a4⟩ := m_atO hR h1
      refine va_castS (cC := G.2.1.1 ci) hx hb hown (hts _ hcl) (hK.1 ci _ hc0).2 (va_recv hK hR.1 hc0 a3) hd ?_
      exact hk _ _ _ _ _ h ad ls H locs cells slots had hn0 hR hS hl hlo hst hc hs
    · exact h.elim
  · exact h.elim
theorem m_recvQ {G : m_G} {s : State} {H : Heap} {ad : Nat → Nat} {S : m_S} {a n : Nat} {f : Nat → Option Nat} (hK : va_K G.2.1 vwCl (m_tys G.2.2.1) s) (hR : m_Rel G ad S H) (h : m_gQ 8 (S.2 a) = some (n, f)) : ∃ cell : Cell, H[ad a]? = some cell ∧ cell.vm.isStatics = false ∧ s.vm.findClass "[Ljava/lang/Object;" = some cell.cls := by
  obtain ⟨a1, a2, a3, a4⟩ := m_atQ hR h
  obtain ⟨-, -, -, -, -, e1⟩ := (hK.2 8 _ rfl).2
  exact ⟨_, hR.1 (a - 3) _ a3, rfl, e1⟩
theorem ok_getC {GP : m_G → Prop} {my : Nat → m_T} {E : m_E} {pc nx : Nat} {idx : Nat} (hlk0 : Cond.methodLink E.2.2.1 idx ⟨"java/lang/Object", "getClass", "()Ljava/lang/Class;"⟩ ∈ m_WS) (hde : Cond.declares ⟨"java/lang/Object", "getClass", "()Ljava/lang/Class;"⟩ ∈ m_CW) (hse : Cond.selects "[Ljava/lang/Object;" ⟨"java/lang/Object", "getClass", "()Ljava/lang/Class;"⟩ ⟨"java/lang/Object", "getClass", "()Ljava/lang/Class;"⟩ ∈ m_WS) (hin0 : Cond.instanceMethod ⟨"java/lang/Object", "getClass", "()Ljava/lang/Class;"⟩ ∈ m_WS) (hna : Cond.native ⟨"java/lang/Object", "getClass", "()Ljava/lang/Class;"⟩ ∈ m_WS) (hd : decode E.1 pc = .ok (.invokevirtual idx, 3)) (hn : pc + 3 = nx) : m_OK GP my E pc (o_getC nx) := by
  subst hn
  intro l G p e R s m args below meth c dp call n0 ad0 mc ms Q r kk hGP hC hcall hmc hms hE hk lo st bd S h ad ls H locs cells slots had hn0 hR hS hl hlo hst hc hs
  obtain ⟨hx, hb, hml, hown, hts, hK, hsz, hini, hlk, hfr, hlc, hX, hXF, hXT⟩ := hC
  unfold o_getC at h
  split at h
  · rename_i a st'
    obtain ⟨h0, h⟩ := h
    split at h
    · rename_i _ x9 h1
      have hle := m_cat_le ad st'
      have e2 : ad 2 = G.2.2.2.1.2.2 := hR.2.2.2.2.2.2
      have hM := hXF.2.2.2.2.2.2.2.2.2.2.2
      rw [← e2] at hM
      refine va_getC hx hb (by rw [hl.1, hml]) hown (hts _ hlk0) (va_Nw.use rfl (hXF.1 _ hde)) (hts _ hse) (hts _ hin0) (hts _ hna) hM (m_recvQ hK hR h1) (by omega) (by omega) hd ?_
      exact hk _ _ _ _ _ h ad ls H locs cells slots had hn0 hR hS hl hlo (m_st_c (show 2 < S.1 + 3 by omega) (m_st_t hst)) hc hs
    · exact h.elim
  · exact h.elim
theorem ok_ldcM {GP : m_G → Prop} {my : Nat → m_T} {E : m_E} {pc nx : Nat} {idx : Nat} (hlk0 : Cond.classLink E.2.2.1 idx "[Ljava/lang/Object;" ∈ m_WS) (hd : decode E.1 pc = .ok (.ldc idx, 2)) (hn : pc + 2 = nx) : m_OK GP my E pc (o_ldcM nx) := by
  subst hn
  intro l G p e R s m args below meth c dp call n0 ad0 mc ms Q r kk hGP hC hcall hmc hms hE hk lo st bd S h ad ls H locs cells slots had hn0 hR hS hl hlo hst hc hs
  obtain ⟨hx, hb, hml, hown, hts, hK, hsz, hini, hlk, hfr, hlc, hX, hXF, hXT⟩ := hC
  have e2 : ad 2 = G.2.2.2.1.2.2 := hR.2.2.2.2.2.2
  have hM := hXF.2.2.2.2.2.2.2.2.2.2.2
  rw [← e2] at hM
  refine va_ldcM hx hb hown (hts _ hlk0) hM hd ?_
  exact hk _ _ _ _ _ h ad ls H locs cells slots had hn0 hR hS hl hlo (m_st_c (show 2 < S.1 + 3 by omega) hst) hc hs
theorem m_cpymap {f g : Nat → Option Nat} {ad : Nat → Nat} {sp dp n : Nat} : va_cpy (fun j => (f j).map ad) (fun j => (g j).map ad) sp dp n = (fun j => (va_cpy f g sp dp n j).map ad) := by
  funext j
  unfold va_cpy
  split <;> rfl
theorem ok_copyq {GP : m_G → Prop} {my : Nat → m_T} {E : m_E} {pc nx : Nat} {ci idx : Nat} {r9 : vw_C} (hc0 : vwCl[ci]? = some r9) (hca : Cond.castable r9.1 "java/lang/Object" ∈ m_CW) (hlk0 : Cond.methodLink E.2.2.1 idx arraycopyName ∈ m_WS) (hna : Cond.native arraycopyName ∈ m_WS) (hst0 : Cond.static arraycopyName ∈ m_WS) (hi0 : Cond.initialized "java/lang/System" ∈ m_WS) (hd : decode E.1 pc = .ok (.invokestatic idx, 3)) (hn : pc + 3 = nx) : m_OK GP my E pc (o_copyq ci nx) := by
  subst hn
  intro l G p e R s m args below meth c dp call n0 ad0 mc ms Q r kk hGP hC hcall hmc hms hE hk lo st bd S h ad ls H locs cells slots had hn0 hR hS hl hlo hst hc hs
  obtain ⟨hx, hb, hml, hown, hts, hK, hsz, hini, hlk, hfr, hlc, hX, hXF, hXT⟩ := hC
  unfold o_copyq at h
  split at h
  · split at h
    · rename_i n dp9 a sp a0 st' _ _ n1 f n2 g h1 h2
      obtain ⟨h0, b1, b2, b3, b4, b5, b6, h⟩ := h
      obtain ⟨p1, p2, p3, p4⟩ := m_atQ hR h1
      obtain ⟨q1, q2, q3, q4⟩ := m_atQ hR h2
      have hw9 : nativeFrameWords "java/lang/System" "arraycopy" 5 ≤ 60 := by decide
      have hle := m_cat_le ad st'
      refine va_copyq (D := G.2.1) (C := r9.1) hx hb (by rw [hl.1, hml]) hown (hts _ hlk0) (hts _ hna) (hts _ hst0) (hts _ hi0) hK hR.1 hR.2.1 hS (a0 - 3) (a - 3) 8 8 p3 q3 rfl rfl b1 b2 b3 b4 b5 (fun i hi y hy => ?_) (vb_asgC (hXF.1 _ hca)) (by omega) (by omega) hd (fun H1 locs1 hP1 hD1 hS1 => ?_)
      · cases hf : f (sp.toNatClampNeg + i) with
        | none => rw [hf] at hy; cases hy
        | some y0 =>
          rw [hf] at hy
          cases hy
          obtain ⟨fs, hfs⟩ := Option.isSome_iff_exists.mp (b6 i hi y0 hf)
          obtain ⟨-, -, c3, -⟩ := m_atO hR hfs
          exact va_recv hK hR.1 hc0 c3
      · rw [m_cpymap] at hP1 hD1
        obtain ⟨n9, hh⟩ := S
        refine hk _ _ _ _ _ h ad ls H1 locs1 cells slots had hn0 (m_Rel_up (c := m_Q 8 n2 (va_cpy f g sp.toNatClampNeg dp9.toNatClampNeg n.toNatClampNeg)) hR q1 q2 ?_ hP1 hD1) hS1 hl hlo (m_st_t (m_st_t (m_st_t (m_st_t (m_st_t hst))))) hc hs
        intro j q hq
        unfold va_cpy at hq
        split at hq
        · exact p4 _ q hq
        · exact q4 _ q hq
    · exact h.elim
  · exact h.elim
theorem ok_newqd {GP : m_G → Prop} {my : Nat → m_T} {E : m_E} {pc nx : Nat} {k idx : Nat} {C : String} (hk0 : ∀ cy : Nat → ClassId, (m_tys cy)[k]? = some (cy k, .object C)) (hC9 : C ∈ m_aos) (hcl : Cond.classLink E.2.2.1 idx C ∈ m_WS) (hd : decode E.1 pc = .ok (.anewarray idx, 3)) (hn : pc + 3 = nx) : m_OK GP my E pc (o_newqd k nx) := by
  intro l G p e R s m args below meth c dp call n0 ad0 mc ms Q r kk hGP hC hcall hmc hms hE hk lo st bd S h
  unfold o_newqd at h
  split at h
  · obtain ⟨N, h1, h2, h3⟩ := h
    exact ok_newq (N := N) hk0 hC9 hcl h2 hd hn l G p e R s m args below meth c dp call n0 ad0 mc ms Q r kk hGP hC hcall hmc hms hE hk lo _ bd S ⟨h1, h3⟩
  · exact h.elim
