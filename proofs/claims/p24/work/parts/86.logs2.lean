/-! the logs, further -/
/-- a demand more -/
theorem pl_demand {nc nd nk sz hr : Nat} {cb db sd ow : Nat → Nat → Nat} {o32 : Nat → Nat → Int32} {W : n_W} {row : Nat → Nat} (H : n_PL nc nd nk sz hr cb db sd ow o32 W) (hd : ∀ i, i < nd → db i 0 < 6) (hr4 : row 4 = hr) : n_PL nc (nd + 1) nk sz hr cb (m_uf db nd row) sd ow o32 W := by
  obtain ⟨h6, ⟨v1, v2, v3, v4, v5⟩, h8⟩ := H
  have hA : n_ag hr (n_lg nc nd nk sz cb db sd W) (n_lg nc (nd + 1) nk sz cb (m_uf db nd row) sd W) := by
    refine ⟨⟨Nat.le_refl _, fun _ _ => rfl, fun c c1 c2 => absurd c2 (Nat.not_lt.mpr c1)⟩, ⟨by show nd ≤ nd + 1; omega, m_uf_cb, fun c c1 c2 => ?_⟩, ⟨Nat.le_refl _, fun _ _ => rfl, fun c c1 c2 => absurd c2 (Nat.not_lt.mpr c1)⟩, Nat.le_refl _, fun k hk => ⟨rfl, rfl, fun _ _ => Iff.rfl⟩, fun c c1 c2 => absurd c2 (Nat.not_lt.mpr c1)⟩
    have e : c = nd := by have c1' : nd ≤ c := c1; have c2' : c < nd + 1 := c2; omega
    subst e
    show hr ≤ m_uf db c row c 4
    rw [m_uf_eq, hr4]
    exact Nat.le_refl _
  rw [n_vb_s] at v1 v2 v3 v4 v5
  have hU := h6 hr (Nat.le_refl _)
  obtain ⟨k1, k2, k3, k4⟩ := id hU
  have n6 : n_vk (n_lg nc (nd + 1) nk sz cb (m_uf db nd row) sd W) hr (n_vb (n_lg nc nd nk sz cb db sd W) hr) := ⟨k1, Nat.le_trans k2 hA.2.1.1, k3, k4⟩
  obtain ⟨r1, r2, r3⟩ := pl_log hA h6 hd n6
  unfold n_PL
  rw [r2]
  refine ⟨r1, ⟨v1, ?_, v3, v4, v5⟩, fun i hi j hj => by rw [r3 i hi j hj]; exact h8 i hi j hj⟩
  have k2' : (n_vb (n_lg nc nd nk sz cb db sd W) hr).2.1 ≤ nd := k2
  have v2' : n_ty db hr (nd - (n_vb (n_lg nc nd nk sz cb db sd W) hr).2.1) (n_vb (n_lg nc nd nk sz cb db sd W) hr).2.1 = nd := v2
  show n_ty (m_uf db nd row) hr (nd + 1 - (n_vb (n_lg nc nd nk sz cb db sd W) hr).2.1) (n_vb (n_lg nc nd nk sz cb db sd W) hr).2.1 = nd + 1
  rw [show nd + 1 - (n_vb (n_lg nc nd nk sz cb db sd W) hr).2.1 = (nd - (n_vb (n_lg nc nd nk sz cb db sd W) hr).2.1) + 1 by omega]
  exact ty_nw (db := db) (db' := m_uf db nd row) (h := hr) (nd := nd) m_uf_cb (by rw [m_uf_eq, hr4]; exact Nat.le_refl _) _ _ (by omega) v2'
theorem n_hd2_cg {f g : Nat → Nat} {a b s : Nat} (ha : a < 6) (hb : b < 6) (h : ∀ j, j < 6 → f j = g j) : ∀ j, j < 6 → n_hd2 f a b s j = n_hd2 g a b s j := by
  intro j hj
  unfold n_hd2
  rw [h a ha, h b hb, h j hj]
/-- a sale more -/
theorem pl_sell {nc nd nk sz hr c a b s : Nat} {cb db sd ow : Nat → Nat → Nat} {o32 : Nat → Nat → Int32} {W : n_W} (H : n_PL nc nd nk sz hr cb db sd ow o32 W) (hd : ∀ i, i < nd → db i 0 < 6) (hc : c < nc) (ha : a < 6) (hb : b < 6) (hs : s ≤ ow c a) : n_PL nc nd nk (sz + 1) hr cb db (m_uf sd sz (n_row5 c a b s hr)) (m_uf ow c (n_hd2 (ow c) a b s)) o32 W := by
  obtain ⟨h6, ⟨v1, v2, v3, v4, v5⟩, h8⟩ := H
  have hA : n_ag hr (n_lg nc nd nk sz cb db sd W) (n_lg nc nd nk (sz + 1) cb db (m_uf sd sz (n_row5 c a b s hr)) W) := by
    refine ⟨⟨Nat.le_refl _, fun _ _ => rfl, fun c c1 c2 => absurd c2 (Nat.not_lt.mpr c1)⟩, ⟨Nat.le_refl _, fun _ _ => rfl, fun c c1 c2 => absurd c2 (Nat.not_lt.mpr c1)⟩, ⟨by show sz ≤ sz + 1; omega, m_uf_cb, fun c c1 c2 => ?_⟩, Nat.le_refl _, fun k hk => ⟨rfl, rfl, fun _ _ => Iff.rfl⟩, fun c c1 c2 => absurd c2 (Nat.not_lt.mpr c1)⟩
    have e : c = sz := by have c1' : sz ≤ c := c1; have c2' : c < sz + 1 := c2; omega
    subst e
    show hr ≤ m_uf sd c _ c 4
    rw [m_uf_eq]
    exact Nat.le_refl _
  rw [n_vb_s] at v1 v2 v3 v4 v5
  have hU := h6 hr (Nat.le_refl _)
  obtain ⟨k1, k2, k3, k4⟩ := id hU
  have k3' : (n_vb (n_lg nc nd nk sz cb db sd W) hr).2.2.2.2 ≤ sz := k3
  have v1' : (n_vl (n_lg nc nd nk sz cb db sd W) hr (n_vb (n_lg nc nd nk sz cb db sd W) hr)).1 = nc := v1
  have v3' : (n_ro hr sd (sz - (n_vb (n_lg nc nd nk sz cb db sd W) hr).2.2.2.2) (n_vb (n_lg nc nd nk sz cb db sd W) hr).2.2.2.2 (n_vl (n_lg nc nd nk sz cb db sd W) hr (n_vb (n_lg nc nd nk sz cb db sd W) hr)).2.2).1 = sz := v3
  have v5' : ∀ c, c < nc → ∀ j, j < 6 → (n_ro hr sd (sz - (n_vb (n_lg nc nd nk sz cb db sd W) hr).2.2.2.2) (n_vb (n_lg nc nd nk sz cb db sd W) hr).2.2.2.2 (n_vl (n_lg nc nd nk sz cb db sd W) hr (n_vb (n_lg nc nd nk sz cb db sd W) hr)).2.2).2 c j = ow c j := v5
  have n6 : n_vk (n_lg nc nd nk (sz + 1) cb db (m_uf sd sz (n_row5 c a b s hr)) W) hr (n_vb (n_lg nc nd nk sz cb db sd W) hr) := by
    refine ⟨k1, k2, Nat.le_trans k3 hA.2.2.1.1, ?_⟩
    show n_rk hr (m_uf sd sz (n_row5 c a b s hr)) (n_vl (n_lg nc nd nk sz cb db sd W) hr (n_vb (n_lg nc nd nk sz cb db sd W) hr)).1 (sz + 1 - (n_vb (n_lg nc nd nk sz cb db sd W) hr).2.2.2.2) (n_vb (n_lg nc nd nk sz cb db sd W) hr).2.2.2.2 (n_vl (n_lg nc nd nk sz cb db sd W) hr (n_vb (n_lg nc nd nk sz cb db sd W) hr)).2.2
    rw [show sz + 1 - (n_vb (n_lg nc nd nk sz cb db sd W) hr).2.2.2.2 = (sz - (n_vb (n_lg nc nd nk sz cb db sd W) hr).2.2.2.2) + 1 by omega]
    refine rk_nw (sd := sd) (sz := sz) m_uf_cb _ _ _ (by omega) k4 v3' ?_
    rw [m_uf_eq, v1']
    refine ⟨hc, ?_⟩
    show s ≤ (n_ro hr sd (sz - (n_vb (n_lg nc nd nk sz cb db sd W) hr).2.2.2.2) (n_vb (n_lg nc nd nk sz cb db sd W) hr).2.2.2.2 (n_vl (n_lg nc nd nk sz cb db sd W) hr (n_vb (n_lg nc nd nk sz cb db sd W) hr)).2.2).2 c a
    rw [v5' c hc a ha]
    exact hs
  obtain ⟨r1, r2, r3⟩ := pl_log hA h6 hd n6
  have eR : n_vr (n_lg nc nd nk (sz + 1) cb db (m_uf sd sz (n_row5 c a b s hr)) W) hr (n_vb (n_lg nc nd nk sz cb db sd W) hr) = (sz + 1, m_uf (n_vr (n_lg nc nd nk sz cb db sd W) hr (n_vb (n_lg nc nd nk sz cb db sd W) hr)).2 c (n_hd2 ((n_vr (n_lg nc nd nk sz cb db sd W) hr (n_vb (n_lg nc nd nk sz cb db sd W) hr)).2 c) a b s)) := by
    show n_ro hr (m_uf sd sz (n_row5 c a b s hr)) (sz + 1 - (n_vb (n_lg nc nd nk sz cb db sd W) hr).2.2.2.2) (n_vb (n_lg nc nd nk sz cb db sd W) hr).2.2.2.2 (n_vl (n_lg nc nd nk sz cb db sd W) hr (n_vb (n_lg nc nd nk sz cb db sd W) hr)).2.2 = _
    rw [show sz + 1 - (n_vb (n_lg nc nd nk sz cb db sd W) hr).2.2.2.2 = (sz - (n_vb (n_lg nc nd nk sz cb db sd W) hr).2.2.2.2) + 1 by omega]
    have e := ro_nw (h := hr) (sd := sd) (sd' := m_uf sd sz (n_row5 c a b s hr)) (sz := sz) m_uf_cb (by rw [m_uf_eq]; exact Nat.le_refl _) _ _ _ (by omega) v3'
    rw [m_uf_eq] at e
    exact e
  unfold n_PL
  rw [r2]
  refine ⟨r1, ⟨v1, v2, ?_, v4, fun c' hc' j hj => ?_⟩, fun i hi j hj => by rw [r3 i hi j hj]; exact h8 i hi j hj⟩
  · show (n_vr (n_lg nc nd nk (sz + 1) cb db (m_uf sd sz (n_row5 c a b s hr)) W) hr (n_vb (n_lg nc nd nk sz cb db sd W) hr)).1 = sz + 1
    rw [eR]
  · show (n_vr (n_lg nc nd nk (sz + 1) cb db (m_uf sd sz (n_row5 c a b s hr)) W) hr (n_vb (n_lg nc nd nk sz cb db sd W) hr)).2 c' j = m_uf ow c (n_hd2 (ow c) a b s) c' j
    rw [eR]
    show m_uf (n_vr (n_lg nc nd nk sz cb db sd W) hr (n_vb (n_lg nc nd nk sz cb db sd W) hr)).2 c (n_hd2 ((n_vr (n_lg nc nd nk sz cb db sd W) hr (n_vb (n_lg nc nd nk sz cb db sd W) hr)).2 c) a b s) c' j = m_uf ow c (n_hd2 (ow c) a b s) c' j
    by_cases e : c' = c
    · rw [e, m_uf_eq, m_uf_eq]
      exact n_hd2_cg ha hb (fun j hj => v5' c hc j hj) j hj
    · rw [m_uf_ne e, m_uf_ne e]
      exact v5' c' hc' j hj
/-- a cut more -/
theorem pl_cut {nc nd nk sz hr c p : Nat} {cb db sd ow : Nat → Nat → Nat} {o32 : Nat → Nat → Int32} {kb sb : Nat → Nat → Nat} {kw sc : Nat → Option Nat} {wh : Nat → Nat} (H : n_PL nc nd nk sz hr cb db sd ow o32 (kb, kw, sb, sc, wh)) (hd : ∀ i, i < nd → db i 0 < 6) : n_PL nc nd (nk + 1) sz hr cb db sd ow o32 (m_uf kb nk (n_row4 c p hr 0), m_uf kw nk none, sb, sc, m_uf wh c 0) := by
  obtain ⟨h6, ⟨v1, v2, v3, v4, v5⟩, h8⟩ := H
  have hA : n_ag hr (n_lg nc nd nk sz cb db sd (kb, kw, sb, sc, wh)) (n_lg nc nd (nk + 1) sz cb db sd (m_uf kb nk (n_row4 c p hr 0), m_uf kw nk none, sb, sc, m_uf wh c 0)) := by
    refine ⟨⟨Nat.le_refl _, fun _ _ => rfl, fun c c1 c2 => absurd c2 (Nat.not_lt.mpr c1)⟩, ⟨Nat.le_refl _, fun _ _ => rfl, fun c c1 c2 => absurd c2 (Nat.not_lt.mpr c1)⟩, ⟨Nat.le_refl _, fun _ _ => rfl, fun c c1 c2 => absurd c2 (Nat.not_lt.mpr c1)⟩, by show nk ≤ nk + 1; omega, fun k hk => ?_, fun k c1 c2 => ?_⟩
    · have hk' : k < nk := hk
      show m_uf kb nk (n_row4 c p hr 0) k 0 = kb k 0 ∧ m_uf kb nk (n_row4 c p hr 0) k 2 = kb k 2 ∧ ∀ h, h < hr → (m_uf kw nk none k = some h ↔ kw k = some h)
      rw [m_uf_ne (by omega), m_uf_ne (by omega)]
      exact ⟨rfl, rfl, fun _ _ => Iff.rfl⟩
    · have e : k = nk := by have c1' : nk ≤ k := c1; have c2' : k < nk + 1 := c2; omega
      subst e
      show hr ≤ m_uf kb k (n_row4 c p hr 0) k 2 ∧ m_uf kw k none k = none
      rw [m_uf_eq, m_uf_eq]
      exact ⟨Nat.le_refl _, rfl⟩
  rw [n_vb_s] at v1 v2 v3 v4 v5
  have hU := h6 hr (Nat.le_refl _)
  obtain ⟨k1, k2, k3, k4⟩ := id hU
  have n6 : n_vk (n_lg nc nd (nk + 1) sz cb db sd (m_uf kb nk (n_row4 c p hr 0), m_uf kw nk none, sb, sc, m_uf wh c 0)) hr (n_vb (n_lg nc nd nk sz cb db sd (kb, kw, sb, sc, wh)) hr) := ⟨k1, k2, k3, k4⟩
  obtain ⟨r1, r2, r3⟩ := pl_log hA h6 hd n6
  unfold n_PL
  rw [r2]
  refine ⟨r1, ⟨v1, v2, v3, fun c' hc' => ?_, v5⟩, fun i hi j hj => by rw [r3 i hi j hj]; exact h8 i hi j hj⟩
  have v4' : n_up (n_ct kb kw hr) nk 0 (n_vl (n_lg nc nd nk sz cb db sd (kb, kw, sb, sc, wh)) hr (n_vb (n_lg nc nd nk sz cb db sd (kb, kw, sb, sc, wh)) hr)).2.1 c' = wh c' := v4 c' hc'
  show n_up (n_ct (m_uf kb nk (n_row4 c p hr 0)) (m_uf kw nk none) hr) (nk + 1) 0 (n_vl (n_lg nc nd nk sz cb db sd (kb, kw, sb, sc, wh)) hr (n_vb (n_lg nc nd nk sz cb db sd (kb, kw, sb, sc, wh)) hr)).2.1 c' = m_uf wh c 0 c'
  rw [n_up_add, Nat.zero_add, ct_cg (kb := kb) (kw := kw) (fun k hk => by rw [m_uf_ne (by omega), m_uf_ne (by omega)]; exact ⟨rfl, rfl, Iff.rfl⟩)]
  generalize n_up (n_ct kb kw hr) nk 0 (n_vl (n_lg nc nd nk sz cb db sd (kb, kw, sb, sc, wh)) hr (n_vb (n_lg nc nd nk sz cb db sd (kb, kw, sb, sc, wh)) hr)).2.1 = w at v4'
  show n_ct (m_uf kb nk (n_row4 c p hr 0)) (m_uf kw nk none) hr nk w c' = m_uf wh c 0 c'
  unfold n_ct
  rw [m_uf_eq, m_uf_eq, if_pos (show n_row4 c p hr 0 2 = hr from rfl), if_neg (fun z => by cases z)]
  show m_uf w c 0 c' = m_uf wh c 0 c'
  by_cases e : c' = c
  · rw [e, m_uf_eq, m_uf_eq]
  · rw [m_uf_ne e, m_uf_ne e]
    exact v4'
/-- what an hour does to the cuts -/
def n_kr (nk hr : Nat) (W W' : n_W) : Prop := ∀ k, k < nk → W'.1 k 0 = W.1 k 0 ∧ W'.1 k 2 = W.1 k 2 ∧ (W'.2.1 k = W.2.1 k ∨ W.2.1 k = none ∧ W'.2.1 k = some (hr + 1))
theorem n_kr_z {nk hr s k : Nat} {storm : Bool} {W W' : n_W} (h : n_kr nk hr W W') (hk : W'.2.1 k = none) : n_kr nk hr W (n_wz storm hr s k W') := by
  unfold n_wz
  split
  · split
    · exact h
    · split
      · split
        · intro q hq
          obtain ⟨h1, h2, h3⟩ := h q hq
          exact ⟨by show m_u2 W'.1 k 3 _ q 0 = _; rw [m_u2_n2 (by omega)]; exact h1, by show m_u2 W'.1 k 3 _ q 2 = _; rw [m_u2_n2 (by omega)]; exact h2, h3⟩
        · intro q hq
          obtain ⟨h1, h2, h3⟩ := h q hq
          refine ⟨by show m_u2 W'.1 k 3 _ q 0 = _; rw [m_u2_n2 (by omega)]; exact h1, by show m_u2 W'.1 k 3 _ q 2 = _; rw [m_u2_n2 (by omega)]; exact h2, ?_⟩
          show m_uf W'.2.1 k (some (hr + 1)) q = W.2.1 q ∨ W.2.1 q = none ∧ m_uf W'.2.1 k (some (hr + 1)) q = some (hr + 1)
          by_cases e : q = k
          · rw [e, m_uf_eq]
            subst e
            rw [hk] at h3
            rcases h3 with h3 | ⟨_, h3⟩
            · exact Or.inr ⟨h3.symm, rfl⟩
            · cases h3
          · rw [m_uf_ne e]
            exact h3
      · exact h
  · exact h
theorem n_kr_up {nc nk ns hr : Nat} {storm : Bool} {cb ow : Nat → Nat → Nat} {W : n_W} : ∀ {m s : Nat} {T : (Nat → Int32) × Int32 × n_W}, s + m = ns → n_WI nc nk ns hr (hr + 1) T.2.2 → n_kr nk hr W T.2.2 → n_kr nk hr W (n_up (n_dz storm hr cb ow) m s T).2.2 := by
  intro m
  induction m with
  | zero => intro s T _ _ h; exact h
  | succ m ih =>
    intro s T hs h h'
    refine ih (by omega) (n_WI_d h (by omega)) ?_
    unfold n_dz
    split
    · exact h'
    · rename_i k hk
      exact n_kr_z h' (h.1 s (by omega) k hk).2.1
theorem n_kr_h {nc nd nk ns : Nat} {cb db ow : Nat → Nat → Nat} {s1 s2 : Int32} {D : n_D} (h : n_WI nc nk ns D.1 D.1 D.2.2.2.2.2.1) : n_kr nk D.1 D.2.2.2.2.2.1 (n_hour nc nd nk ns cb db ow s1 s2 D).2.2.2.2.2.1 := n_kr_up (T := ((n_ht nc nd nk cb db ow D).1, D.2.2.2.2.1, D.2.2.2.2.2.1)) (by omega) (n_WI_H h (by omega)) (fun k _ => ⟨rfl, rfl, Or.inl rfl⟩)
theorem n_ct_m {kb : Nat → Nat → Nat} {kw : Nat → Option Nat} {h nk c : Nat} (h2 : ∀ k, k < nk → kb k 2 ≠ h) : ∀ (m : Nat) (w : Nat → Nat), m ≤ nk → ((∃ k, k < m ∧ kb k 0 = c ∧ kw k = some h) ∧ n_up (n_ct kb kw h) m 0 w c = 1) ∨ ((∀ k, k < m → kb k 0 = c → kw k ≠ some h) ∧ n_up (n_ct kb kw h) m 0 w c = w c) := by
  intro m
  induction m with
  | zero => intro w _; exact Or.inr ⟨fun k hk => absurd hk (Nat.not_lt_zero _), rfl⟩
  | succ m ih =>
    intro w hm
    rw [n_up_add, Nat.zero_add]
    have ih' := ih w (by omega)
    generalize n_up (n_ct kb kw h) m 0 w = v at ih'
    show ((∃ k, k < m + 1 ∧ kb k 0 = c ∧ kw k = some h) ∧ n_ct kb kw h m v c = 1) ∨ ((∀ k, k < m + 1 → kb k 0 = c → kw k ≠ some h) ∧ n_ct kb kw h m v c = w c)
    unfold n_ct
    rw [if_neg (h2 m (by omega))]
    by_cases e : kw m = some h
    · rw [if_pos e]
      by_cases ec : kb m 0 = c
      · left
        rw [ec, m_uf_eq]
        exact ⟨⟨m, by omega, ec, e⟩, rfl⟩
      · rw [m_uf_ne (fun z => ec z.symm)]
        rcases ih' with ⟨⟨k, a1, a2, a3⟩, a4⟩ | ⟨a1, a2⟩
        · exact Or.inl ⟨⟨k, by omega, a2, a3⟩, a4⟩
        · refine Or.inr ⟨fun k hk hkc => ?_, a2⟩
          by_cases ek : k = m
          · exact absurd (by rw [← ek]; exact hkc) ec
          · exact a1 k (by omega) hkc
    · rw [if_neg e]
      rcases ih' with ⟨⟨k, a1, a2, a3⟩, a4⟩ | ⟨a1, a2⟩
      · exact Or.inl ⟨⟨k, by omega, a2, a3⟩, a4⟩
      · refine Or.inr ⟨fun k hk hkc => ?_, a2⟩
        by_cases ek : k = m
        · rw [ek]; exact e
        · exact a1 k (by omega) hkc
/-- an hour more -/
theorem pl_hour {nc nd nk ns sz hr : Nat} {cb db sd ow : Nat → Nat → Nat} {o32 : Nat → Nat → Int32} {W W' : n_W} (H : n_PL nc nd nk sz hr cb db sd ow o32 W) (hd : ∀ i, i < nd → db i 0 < 6) (hW : n_WI nc nk ns hr hr W) (hW' : n_WI nc nk ns (hr + 1) (hr + 1) W') (hK : n_kr nk hr W W') : n_PL nc nd nk sz (hr + 1) cb db sd ow (fun i j => o32 i j + nI ((n_lead nc nd W.2.2.2.2 cb db ow).2.1 i j)) W' := by
  obtain ⟨h6, ⟨v1, v2, v3, v4, v5⟩, h8⟩ := H
  have hA : n_ag (hr + 1) (n_lg nc nd nk sz cb db sd W) (n_lg nc nd nk sz cb db sd W') := by
    refine ⟨⟨Nat.le_refl _, fun _ _ => rfl, fun c c1 c2 => absurd c2 (Nat.not_lt.mpr c1)⟩, ⟨Nat.le_refl _, fun _ _ => rfl, fun c c1 c2 => absurd c2 (Nat.not_lt.mpr c1)⟩, ⟨Nat.le_refl _, fun _ _ => rfl, fun c c1 c2 => absurd c2 (Nat.not_lt.mpr c1)⟩, Nat.le_refl _, fun k hk => ?_, fun c c1 c2 => absurd c2 (Nat.not_lt.mpr c1)⟩
    obtain ⟨a1, a2, a3⟩ := hK k hk
    refine ⟨a1, a2, fun h hh => ?_⟩
    show W'.2.1 k = some h ↔ W.2.1 k = some h
    rcases a3 with a3 | ⟨a3, a4⟩
    · rw [a3]
    · rw [a3, a4]
      exact ⟨fun z => by have := Option.some.inj z; omega, fun z => by cases z⟩
  have hk : ∀ h, h < hr + 1 → n_vk (n_lg nc nd nk sz cb db sd W) h (n_vb (n_lg nc nd nk sz cb db sd W) h) := fun h hh => h6 h (by omega)
  have hvb := ag_vb hA hk
  have has := fun i (hi : i < 6) j (hj : j < 6) => ag_as hA hk hd hi hj (hr + 1) (Nat.le_refl _)
  have hva : ∀ h, h ≤ hr → n_vk (n_lg nc nd nk sz cb db sd W') h (n_vb (n_lg nc nd nk sz cb db sd W') h) := fun h hh => by rw [hvb h (by omega)]; exact (ag_vs hA (by omega) (hk h (by omega))).2
  have hlead := n_lead_cg (nc := nc) (nd := nd) (wh := (n_vb (n_lg nc nd nk sz cb db sd W) (hr + 1)).2.2.1) (wh' := W.2.2.2.2) (cb := cb) (cb' := cb) (db := db) (db' := db) (ow := (n_vb (n_lg nc nd nk sz cb db sd W) (hr + 1)).2.2.2.1) (ow' := ow) (fun c hc => ⟨v4 c hc, rfl⟩) (fun i hi => ⟨rfl, hd i hi⟩) v5
  have e1 := hvb (hr + 1) (Nat.le_refl _)
  have eas : ∀ i, i < 6 → ∀ j, j < 6 → o32 i j + nI ((n_lead nc nd W.2.2.2.2 cb db ow).2.1 i j) = n_as (n_lg nc nd nk sz cb db sd W') i j (hr + 1) := by
    intro i hi j hj
    rw [has i hi j hj, n_as_s, ← h8 i hi j hj, ← hlead.2.1 i hi j hj]
    show _ = o32 i j + nI ((n_lead (n_vb (n_lg nc nd nk sz cb db sd W) (hr + 1)).1 (n_vb (n_lg nc nd nk sz cb db sd W) (hr + 1)).2.1 (n_vb (n_lg nc nd nk sz cb db sd W) (hr + 1)).2.2.1 cb db (n_vb (n_lg nc nd nk sz cb db sd W) (hr + 1)).2.2.2.1).2.1 i j)
    rw [v1, v2]
  unfold n_PL
  rw [n_vb_s (h := hr + 1), e1]
  generalize n_vb (n_lg nc nd nk sz cb db sd W) (hr + 1) = V at v1 v2 v3 v4 v5 e1
  obtain ⟨V1, V2, Vw, Vo, Vz⟩ := V
  have v1' : V1 = nc := v1
  have v2' : V2 = nd := v2
  have v3' : Vz = sz := v3
  have v4' : ∀ c, c < nc → Vw c = W.2.2.2.2 c := v4
  have v5' : ∀ c, c < nc → ∀ j, j < 6 → Vo c j = ow c j := v5
  subst v1' v2' v3'
  have eL : n_vl (n_lg V1 V2 nk Vz cb db sd W') (hr + 1) (V1, V2, Vw, Vo, Vz) = (V1, Vw, Vo) := by
    show n_ly cb (hr + 1) (V1 - V1) (V1, Vw, Vo) = _
    rw [Nat.sub_self]
    rfl
  have eR : n_vr (n_lg V1 V2 nk Vz cb db sd W') (hr + 1) (V1, V2, Vw, Vo, Vz) = (Vz, Vo) := by
    unfold n_vr
    rw [eL]
    show n_ro (hr + 1) sd (Vz - Vz) Vz Vo = _
    rw [Nat.sub_self]
    rfl
  have n6 : n_vk (n_lg V1 V2 nk Vz cb db sd W') (hr + 1) (V1, V2, Vw, Vo, Vz) := by
    refine ⟨Nat.le_refl _, Nat.le_refl _, Nat.le_refl _, ?_⟩
    show n_rk (hr + 1) sd _ (Vz - Vz) Vz _
    rw [Nat.sub_self]
    trivial
  refine ⟨fun h hh => ?_, ⟨?_, ?_, ?_, fun c hc => ?_, fun c hc j hj => ?_⟩, eas⟩
  · by_cases e : h = hr + 1
    · rw [e, e1]; exact n6
    · exact hva h (by omega)
  · show (n_vl (n_lg V1 V2 nk Vz cb db sd W') (hr + 1) (V1, V2, Vw, Vo, Vz)).1 = V1
    rw [eL]
  · show n_ty db (hr + 1) (V2 - V2) V2 = V2
    rw [Nat.sub_self]
    rfl
  · show (n_vr (n_lg V1 V2 nk Vz cb db sd W') (hr + 1) (V1, V2, Vw, Vo, Vz)).1 = Vz
    rw [eR]
  · show n_up (n_ct W'.1 W'.2.1 (hr + 1)) nk 0 (n_vl (n_lg V1 V2 nk Vz cb db sd W') (hr + 1) (V1, V2, Vw, Vo, Vz)).2.1 c = W'.2.2.2.2 c
    rw [eL]
    obtain ⟨w1, w2⟩ := hW.2.2.2 c hc
    obtain ⟨w1', w2'⟩ := hW'.2.2.2 c hc
    rcases n_ct_m (kb := W'.1) (kw := W'.2.1) (h := hr + 1) (nk := nk) (c := c) (fun k hk => by have := (hW.2.1 k hk).2.2.2.1; rw [(hK k hk).2.1]; omega) nk Vw (Nat.le_refl _) with ⟨⟨k, a1, a2, a3⟩, a4⟩ | ⟨a1, a2⟩
    · rw [a4]
      by_cases z : W'.2.2.2.2 c = 0
      · obtain ⟨q, q1, q2, q3⟩ := w2'.mp z
        rcases Nat.lt_trichotomy k q with hkq | hkq | hkq
        · obtain ⟨w, b1, b2⟩ := hW'.2.2.1 k q hkq q1 (by rw [a2, q2])
          have b3 : w = hr + 1 := Option.some.inj (b1.symm.trans a3)
          have := (hW.2.1 q q1).2.2.2.1
          rw [(hK q q1).2.1] at b2
          omega
        · subst hkq
          rw [q3] at a3
          cases a3
        · obtain ⟨w, b1, b2⟩ := hW'.2.2.1 q k hkq a1 (by rw [a2, q2])
          rw [q3] at b1
          cases b1
      · omega
    · rw [a2, v4' c hc]
      by_cases z : W.2.2.2.2 c = 0
      · obtain ⟨q, q1, q2, q3⟩ := w2.mp z
        obtain ⟨b1, b2, b3⟩ := hK q q1
        rcases b3 with b3 | ⟨_, b3⟩
        · have := w2'.mpr ⟨q, q1, b1.trans q2, b3.trans q3⟩
          omega
        · exact absurd b3 (a1 q q1 (b1.trans q2))
      · by_cases z' : W'.2.2.2.2 c = 0
        · obtain ⟨q, q1, q2, q3⟩ := w2'.mp z'
          obtain ⟨b1, b2, b3⟩ := hK q q1
          rcases b3 with b3 | ⟨_, b3⟩
          · exact absurd (w2.mpr ⟨q, q1, b1.symm.trans q2, b3.symm.trans q3⟩) z
          · rw [q3] at b3
            cases b3
        · omega
  · show (n_vr (n_lg V1 V2 nk Vz cb db sd W') (hr + 1) (V1, V2, Vw, Vo, Vz)).2 c j = ow c j
    rw [eR]
    exact v5' c hc j hj
