/-! the law's turns: adds -/
theorem g_i0 {n : Nat} (h : 0 < n) (hn : n < 2147483648) : vp_in 0 n = True := v_in (i := 0) h hn
theorem g_i1 {n : Nat} (h : 1 < n) (hn : n < 2147483648) : vp_in 1 n = True := v_in (i := 1) h hn
theorem g_i2 {n : Nat} (h : 2 < n) (hn : n < 2147483648) : vp_in 2 n = True := v_in (i := 2) h hn
theorem g_i3 {n : Nat} (h : 3 < n) (hn : n < 2147483648) : vp_in 3 n = True := v_in (i := 3) h hn
theorem g_i4 {n : Nat} (h : 4 < n) (hn : n < 2147483648) : vp_in 4 n = True := v_in (i := 4) h hn
theorem g_c1 : (1 : Int32).toNatClampNeg = 1 := by decide
theorem g_c2 : (2 : Int32).toNatClampNeg = 2 := by decide
theorem g_c3 : (3 : Int32).toNatClampNeg = 3 := by decide
theorem g_c4 : (4 : Int32).toNatClampNeg = 4 := by decide
theorem g_m4 {c : Nat} : (4 : Int32) * nI c = nI (4 * c) := v_mul 4 c
theorem g_p2 {c : Nat} : nI c + 2 = nI (c + 2) := v_add c 2
theorem g_p3 {c : Nat} : nI c + 3 = nI (c + 3) := v_add c 3
theorem g_1p {c : Nat} : (1 : Int32) + nI c = nI (1 + c) := v_add 1 c
theorem g_10p {c : Nat} : (10 : Int32) + nI c = nI (10 + c) := v_add 10 c
theorem g_40p {c : Nat} : (40 : Int32) + nI c = nI (40 + c) := v_add 40 c
theorem g_rem {a N : Nat} (ha : a < 2147483648) (h0 : 0 < N) (hN : N < 2147483648) : nI a - nI a / nI N * nI N = nI (a % N) := by
  rw [pk_div ha h0 hN, v_mul, v_sub (by rw [Nat.mul_comm]; exact Nat.mul_div_le a N)]
  congr 1
  rw [Nat.mul_comm]
  exact Nat.sub_eq_of_eq_add (by rw [Nat.add_comm]; exact (Nat.div_add_mod a N).symm)
theorem g_r6 {a : Nat} (ha : a < 2147483648) : nI a - nI a / 6 * 6 = nI (a % 6) := g_rem (N := 6) ha (by omega) (by omega)
theorem g_d6 {a : Nat} (ha : a < 2147483648) : nI a / 6 = nI (a / 6) := pk_div (d := 6) ha (by omega) (by omega)
theorem g_60 : ((6 : Int32) = 0) = False := eq_false (by decide)
theorem g_eq {a b : Nat} (ha : a < 2147483648) (hb : b < 2147483648) : (nI a = nI b) = (a = b) := propext (nI_eq ha hb)
theorem w_A_cable {m nc nd nk ns hr a b s : Nat} {row : Nat → Nat} {cb db kb : Nat → Nat → Nat} {ar : Nat → Nat → Int32} (h : w_A m nc nd nk ns hr cb db kb ar) (h0 : row 0 = a) (h1 : row 1 = b) (h2 : row 2 = s) (hnc : nc < 10) : w_A (m + 1) (nc + 1) nd nk ns hr (m_uf cb nc row) db kb (m_uf (m_uf ar 95 (upd (upd (upd (ar 95) (4 * nc) (nI a)) (4 * nc + 1) (nI b)) (4 * nc + 2) (nI s))) 94 (upd (ar 94) 0 (nI (nc + 1)))) := by
  obtain ⟨⟨a0, a1, a2, a3, a4⟩, b1, c1, d1, e1, t, f1, f2⟩ := h
  refine ⟨⟨?_, ?_, ?_, ?_, ?_⟩, fun c hc => ?_, fun k hk => ?_, fun i hi => ?_, fun z => by omega, t, ?_, by omega⟩
  · rw [m_uf_eq, u_eq]
  · rw [m_uf_eq, u_ne (by omega)]; exact a1
  · rw [m_uf_eq, u_ne (by omega)]; exact a2
  · rw [m_uf_eq, u_ne (by omega)]; exact a3
  · rw [m_uf_eq, u_ne (by omega)]; exact a4
  · rw [m_uf_ne (by omega), m_uf_eq]
    by_cases e : c = nc
    · subst e
      rw [m_uf_eq, h0, h1, h2]
      refine ⟨?_, ?_, u_eq⟩
      · rw [u_ne (by omega), u_ne (by omega), u_eq]
      · rw [u_ne (by omega), u_eq]
    · rw [m_uf_ne e, u_ne (by omega), u_ne (by omega), u_ne (by omega), u_ne (by omega), u_ne (by omega), u_ne (by omega), u_ne (by omega), u_ne (by omega), u_ne (by omega)]
      exact b1 c (by omega)
  · rw [m_uf_ne (by omega), m_uf_eq, u_ne (by omega), u_ne (by omega), u_ne (by omega)]
    exact c1 k hk
  · rw [m_uf_ne (by omega), m_uf_ne (by omega)]
    exact d1 i hi
  · rw [m_uf_ne (by omega), m_uf_ne (by omega)]; exact f1
theorem w_A_demand {m nc nd nk ns hr a b s q : Nat} {row : Nat → Nat} {cb db kb : Nat → Nat → Nat} {ar : Nat → Nat → Int32} (h : w_A m nc nd nk ns hr cb db kb ar) (h0 : row 0 = q) (h1 : row 1 = a) (h2 : row 2 = b) (h3 : row 3 = s) : w_A (m + 1) nc (nd + 1) nk ns hr cb (m_uf db nd row) kb (m_uf (m_uf ar 96 (upd (upd (upd (upd (ar 96) (4 * nd) (nI q)) (4 * nd + 1) (nI a)) (4 * nd + 2) (nI b)) (4 * nd + 3) (nI s))) 94 (upd (ar 94) 1 (nI (nd + 1)))) := by
  obtain ⟨⟨a0, a1, a2, a3, a4⟩, b1, c1, d1, e1, t, f1, f2⟩ := h
  refine ⟨⟨?_, ?_, ?_, ?_, ?_⟩, fun c hc => ?_, fun k hk => ?_, fun i hi => ?_, fun z => ?_, t, ?_, by omega⟩
  · rw [m_uf_eq, u_ne (by omega)]; exact a0
  · rw [m_uf_eq, u_eq]
  · rw [m_uf_eq, u_ne (by omega)]; exact a2
  · rw [m_uf_eq, u_ne (by omega)]; exact a3
  · rw [m_uf_eq, u_ne (by omega)]; exact a4
  · rw [m_uf_ne (by omega), m_uf_ne (by omega)]
    exact b1 c hc
  · rw [m_uf_ne (by omega), m_uf_ne (by omega)]
    exact c1 k hk
  · rw [m_uf_ne (by omega), m_uf_eq]
    by_cases e : i = nd
    · subst e
      rw [m_uf_eq, h0, h1, h2, h3]
      refine ⟨?_, ?_, ?_, u_eq⟩
      · rw [u_ne (by omega), u_ne (by omega), u_ne (by omega), u_eq]
      · rw [u_ne (by omega), u_ne (by omega), u_eq]
      · rw [u_ne (by omega), u_eq]
    · rw [m_uf_ne e]
      iterate 16 rw [u_ne (by omega)]
      exact d1 i (by omega)
  · rw [m_uf_ne (by omega), m_uf_ne (by omega)]
    exact e1 z
  · rw [m_uf_ne (by omega), m_uf_ne (by omega)]; exact f1
theorem w_A_ship {m nc nd nk ns hr : Nat} {cb db kb : Nat → Nat → Nat} {ar : Nat → Nat → Int32} (h : w_A m nc nd nk ns hr cb db kb ar) : w_A (m + 1) nc nd nk (ns + 1) hr cb db kb (m_uf ar 94 (upd (ar 94) 3 (nI (ns + 1)))) := by
  obtain ⟨⟨a0, a1, a2, a3, a4⟩, b1, c1, d1, e1, t, f1, f2⟩ := h
  refine ⟨⟨?_, ?_, ?_, ?_, ?_⟩, fun c hc => ?_, fun k hk => ?_, fun i hi => ?_, fun z => ?_, t, ?_, by omega⟩
  · rw [m_uf_eq, u_ne (by omega)]; exact a0
  · rw [m_uf_eq, u_ne (by omega)]; exact a1
  · rw [m_uf_eq, u_ne (by omega)]; exact a2
  · rw [m_uf_eq, u_eq]
  · rw [m_uf_eq, u_ne (by omega)]; exact a4
  · rw [m_uf_ne (by omega)]; exact b1 c hc
  · rw [m_uf_ne (by omega)]; exact c1 k hk
  · rw [m_uf_ne (by omega)]; exact d1 i hi
  · rw [m_uf_ne (by omega)]; exact e1 z
  · rw [m_uf_ne (by omega)]; exact f1
