/-! the logs grow: the hours before stay -/
def n_ag (H : Nat) (G G' : n_Lg) : Prop :=
  (G.1.1 ≤ G'.1.1 ∧ (∀ c, c < G.1.1 → G'.2.1.1 c = G.2.1.1 c) ∧ ∀ c, G.1.1 ≤ c → c < G'.1.1 → H ≤ G'.2.1.1 c 4) ∧
  (G.1.2.1 ≤ G'.1.2.1 ∧ (∀ c, c < G.1.2.1 → G'.2.1.2.1 c = G.2.1.2.1 c) ∧ ∀ c, G.1.2.1 ≤ c → c < G'.1.2.1 → H ≤ G'.2.1.2.1 c 4) ∧
  (G.1.2.2.2 ≤ G'.1.2.2.2 ∧ (∀ c, c < G.1.2.2.2 → G'.2.1.2.2.2 c = G.2.1.2.2.2 c) ∧ ∀ c, G.1.2.2.2 ≤ c → c < G'.1.2.2.2 → H ≤ G'.2.1.2.2.2 c 4) ∧
  (G.1.2.2.1 ≤ G'.1.2.2.1 ∧ (∀ k, k < G.1.2.2.1 → G'.2.1.2.2.1 k 0 = G.2.1.2.2.1 k 0 ∧ G'.2.1.2.2.1 k 2 = G.2.1.2.2.1 k 2 ∧ ∀ h, h < H → (G'.2.2 k = some h ↔ G.2.2 k = some h)) ∧ ∀ k, G.1.2.2.1 ≤ k → k < G'.1.2.2.1 → H ≤ G'.2.1.2.2.1 k 2 ∧ G'.2.2 k = none)
theorem ag_vl {H h : Nat} {G G' : n_Lg} {V : n_V} (hA : n_ag H G G') (hh : h < H) (hk : V.1 ≤ G.1.1) : n_vl G' h V = n_vl G h V := by
  obtain ⟨⟨a1, a2, a3⟩, _⟩ := hA
  unfold n_vl
  rw [show G'.1.1 - V.1 = (G.1.1 - V.1) + (G'.1.1 - G.1.1) by omega]
  exact ly_fz a2 (fun c c1 c2 => by have := a3 c c1 (by omega); omega) _ _ (by show V.1 + (G.1.1 - V.1) = G.1.1; omega)
theorem ag_vs {H h : Nat} {G G' : n_Lg} {V : n_V} (hA : n_ag H G G') (hh : h < H) (hk : n_vk G h V) : n_vs G' h V = n_vs G h V ∧ n_vk G' h V := by
  obtain ⟨k1, k2, k3, k4⟩ := hk
  have eL := ag_vl hA hh k1
  obtain ⟨⟨a1, a2, a3⟩, ⟨b1, b2, b3⟩, ⟨c1, c2, c3⟩, d1, d2, d3⟩ := hA
  have eR : n_vr G' h V = n_vr G h V := by
    unfold n_vr
    rw [eL, show G'.1.2.2.2 - V.2.2.2.2 = (G.1.2.2.2 - V.2.2.2.2) + (G'.1.2.2.2 - G.1.2.2.2) by omega]
    exact ro_fz c2 (fun c q1 q2 => by have := c3 c q1 (by omega); omega) _ _ _ (by omega)
  constructor
  · unfold n_vs
    rw [eL, eR, show G'.1.2.1 - V.2.1 = (G.1.2.1 - V.2.1) + (G'.1.2.1 - G.1.2.1) by omega, ty_fz b2 (fun c q1 q2 => by have := b3 c q1 (by omega); omega) _ _ (by omega), show G'.1.2.2.1 = G.1.2.2.1 + (G'.1.2.2.1 - G.1.2.2.1) by omega, ct_fz (fun k hk => ⟨(d2 k hk).1, (d2 k hk).2.1, (d2 k hk).2.2 h hh⟩) (fun k q1 q2 => by have := d3 k q1 (by omega); exact ⟨by omega, this.2⟩)]
  · refine ⟨by omega, by omega, by omega, ?_⟩
    rw [eL, show G'.1.2.2.2 - V.2.2.2.2 = (G.1.2.2.2 - V.2.2.2.2) + (G'.1.2.2.2 - G.1.2.2.2) by omega]
    exact rk_fz c2 (fun c q1 q2 => by have := c3 c q1 (by omega); omega) _ _ _ (by omega) k4
theorem ag_vb {H : Nat} {G G' : n_Lg} (hA : n_ag H G G') (hk : ∀ h, h < H → n_vk G h (n_vb G h)) : ∀ h, h ≤ H → n_vb G' h = n_vb G h := by
  intro h
  induction h with
  | zero => intro _; rfl
  | succ h ih =>
    intro hh
    rw [n_vb_s, n_vb_s, ih (by omega)]
    exact (ag_vs hA (by omega) (hk h (by omega))).1
theorem n_vs_le {G : n_Lg} {h : Nat} {V : n_V} (hk : n_vk G h V) : (n_vs G h V).1 ≤ G.1.1 ∧ (n_vs G h V).2.1 ≤ G.1.2.1 := by
  obtain ⟨k1, k2, _⟩ := hk
  constructor
  · have := (n_ly_le (cb := G.2.1.1) (h := h) (m := G.1.1 - V.1) (s := (V.1, V.2.2.1, V.2.2.2.1))).2
    show (n_vl G h V).1 ≤ G.1.1
    unfold n_vl
    simp only at this
    omega
  · have := (n_ty_le (h := h) (db := G.2.1.2.1) (m := G.1.2.1 - V.2.1) (i := V.2.1)).2
    show n_ty G.2.1.2.1 h (G.1.2.1 - V.2.1) V.2.1 ≤ G.1.2.1
    omega
theorem ag_as {H i j : Nat} {G G' : n_Lg} (hA : n_ag H G G') (hk : ∀ h, h < H → n_vk G h (n_vb G h)) (hd : ∀ i, i < G.1.2.1 → G.2.1.2.1 i 0 < 6) (hi : i < 6) (hj : j < 6) : ∀ h, h ≤ H → n_as G' i j h = n_as G i j h := by
  intro h
  induction h with
  | zero => intro _; rfl
  | succ h ih =>
    intro hh
    rw [n_as_s, n_as_s, ih (by omega), ag_vb hA hk (h + 1) hh]
    refine congrArg (fun x => n_as G i j h + nI x) ?_
    have hle := n_vs_le (hk h (by omega))
    rw [← n_vb_s] at hle
    obtain ⟨⟨a1, a2, a3⟩, ⟨b1, b2, b3⟩, _⟩ := hA
    have hcg := n_lead_cg (nc := (n_vb G (h + 1)).1) (nd := (n_vb G (h + 1)).2.1) (wh := (n_vb G (h + 1)).2.2.1) (wh' := (n_vb G (h + 1)).2.2.1) (cb := G'.2.1.1) (cb' := G.2.1.1) (db := G'.2.1.2.1) (db' := G.2.1.2.1) (ow := (n_vb G (h + 1)).2.2.2.1) (ow' := (n_vb G (h + 1)).2.2.2.1) (fun c hc => ⟨rfl, a2 c (by omega)⟩) (fun i hi => ⟨b2 i (by omega), by rw [b2 i (by omega)]; exact hd i (by omega)⟩) (fun _ _ _ _ => rfl)
    exact hcg.2.1 i hi j hj
def n_lg (nc nd nk sz : Nat) (cb db sd : Nat → Nat → Nat) (W : n_W) : n_Lg := ((nc, nd, nk, sz), (cb, db, W.1, sd), W.2.1)
def n_lv (nc nd sz : Nat) (wh : Nat → Nat) (ow : Nat → Nat → Nat) (V : n_V) : Prop := V.1 = nc ∧ V.2.1 = nd ∧ V.2.2.2.2 = sz ∧ (∀ c, c < nc → V.2.2.1 c = wh c) ∧ ∀ c, c < nc → ∀ j, j < 6 → V.2.2.2.1 c j = ow c j
def n_PL (nc nd nk sz hr : Nat) (cb db sd ow : Nat → Nat → Nat) (o32 : Nat → Nat → Int32) (W : n_W) : Prop :=
  (∀ h, h ≤ hr → n_vk (n_lg nc nd nk sz cb db sd W) h (n_vb (n_lg nc nd nk sz cb db sd W) h)) ∧ n_lv nc nd sz W.2.2.2.2 ow (n_vb (n_lg nc nd nk sz cb db sd W) (hr + 1)) ∧ ∀ i, i < 6 → ∀ j, j < 6 → o32 i j = n_as (n_lg nc nd nk sz cb db sd W) i j hr
def n_PI (nc nd nk ns sz : Nat) (cb db sd ow : Nat → Nat → Nat) (D : n_D) : Prop :=
  D.1 ≤ 500 ∧ n_WI nc nk ns D.1 D.1 D.2.2.2.2.2.1 ∧ (∀ c, c < nc → cb c 3 < 6 ∧ cb c 2 ≤ 8 ∧ cb c 4 ≤ D.1 ∧ cb c 5 = n_ab (cb c 0) (cb c 1) * 200 ∧ cb c 6 = min (cb c 0) (cb c 1) * 200) ∧ (∀ i, i < nd → db i 4 ≤ D.1 ∧ db i 0 < 6) ∧ (∀ i, i < sz → sd i 1 < 6 ∧ sd i 2 < 6 ∧ sd i 1 ≠ sd i 2 ∧ sd i 4 ≤ D.1 ∧ sd i 0 < nc) ∧ n_PL nc nd nk sz D.1 cb db sd ow D.2.1 D.2.2.2.2.2.1
theorem pl_log {hr : Nat} {G G' : n_Lg} (hA : n_ag hr G G') (h6 : ∀ h, h ≤ hr → n_vk G h (n_vb G h)) (hd : ∀ i, i < G.1.2.1 → G.2.1.2.1 i 0 < 6) (n6 : n_vk G' hr (n_vb G hr)) : (∀ h, h ≤ hr → n_vk G' h (n_vb G' h)) ∧ n_vb G' (hr + 1) = n_vs G' hr (n_vb G hr) ∧ ∀ i, i < 6 → ∀ j, j < 6 → n_as G' i j hr = n_as G i j hr := by
  have hk : ∀ h, h < hr → n_vk G h (n_vb G h) := fun h hh => h6 h (by omega)
  have hvb := ag_vb hA hk
  refine ⟨fun h hh => ?_, by rw [n_vb_s, hvb hr (Nat.le_refl _)], fun i hi j hj => ag_as hA hk hd hi hj hr (Nat.le_refl _)⟩
  rw [hvb h hh]
  by_cases e : h = hr
  · rw [e]; exact n6
  · exact (ag_vs hA (by omega) (hk h (by omega))).2
theorem m_uf_cb {f : Nat → Nat → Nat} {n : Nat} {r : Nat → Nat} : (∀ c, c < n → m_uf f n r c = f c) := fun c hc => m_uf_ne (by omega)
/-- a cable more -/
theorem pl_cable {nc nd nk sz hr : Nat} {cb db sd ow : Nat → Nat → Nat} {o32 : Nat → Nat → Int32} {kb sb : Nat → Nat → Nat} {kw sc : Nat → Option Nat} {wh row orow : Nat → Nat} (H : n_PL nc nd nk sz hr cb db sd ow o32 (kb, kw, sb, sc, wh)) (hd : ∀ i, i < nd → db i 0 < 6) (hsd : ∀ i, i < sz → sd i 0 < nc) (hkb : ∀ k, k < nk → kb k 0 < nc) (hr4 : row 4 = hr) (hor : ∀ j, j < 6 → orow j = if j = row 3 then row 2 else 0) : n_PL (nc + 1) nd nk sz hr (m_uf cb nc row) db sd (m_uf ow nc orow) o32 (kb, kw, sb, sc, m_uf wh nc 1) := by
  obtain ⟨h6, ⟨v1, v2, v3, v4, v5⟩, h8⟩ := H
  have hA : n_ag hr (n_lg nc nd nk sz cb db sd (kb, kw, sb, sc, wh)) (n_lg (nc + 1) nd nk sz (m_uf cb nc row) db sd (kb, kw, sb, sc, m_uf wh nc 1)) := by
    refine ⟨⟨by show nc ≤ nc + 1; omega, m_uf_cb, fun c c1 c2 => ?_⟩, ⟨Nat.le_refl _, fun _ _ => rfl, fun c c1 c2 => ?_⟩, ⟨Nat.le_refl _, fun _ _ => rfl, fun c c1 c2 => ?_⟩, Nat.le_refl _, fun k hk => ⟨rfl, rfl, fun _ _ => Iff.rfl⟩, fun c c1 c2 => ?_⟩
    · have e : c = nc := by have c1' : nc ≤ c := c1; have c2' : c < nc + 1 := c2; omega
      subst e
      show hr ≤ m_uf cb c row c 4
      rw [m_uf_eq, hr4]
      exact Nat.le_refl _
    · exact absurd c2 (Nat.not_lt.mpr c1)
    · exact absurd c2 (Nat.not_lt.mpr c1)
    · exact absurd c2 (Nat.not_lt.mpr c1)
  rw [n_vb_s] at v1 v2 v3 v4 v5
  have hU := h6 hr (Nat.le_refl _)
  generalize hGG : n_lg nc nd nk sz cb db sd (kb, kw, sb, sc, wh) = G at hA h6 v1 v2 v3 v4 v5 h8 hU
  generalize hGG' : n_lg (nc + 1) nd nk sz (m_uf cb nc row) db sd (kb, kw, sb, sc, m_uf wh nc 1) = G' at hA
  have hU' := hU
  obtain ⟨k1, k2, k3, k4⟩ := hU'
  have eL : n_vl G' hr (n_vb G hr) = (nc + 1, m_uf (n_vl G hr (n_vb G hr)).2.1 nc 1, m_uf (n_vl G hr (n_vb G hr)).2.2 nc (n_ir (m_uf cb nc row) nc)) := by
    have v1' : (n_vl G hr (n_vb G hr)).1 = nc := v1
    unfold n_vl at v1' ⊢
    subst hGG hGG'
    have k1' : (n_vb (n_lg nc nd nk sz cb db sd (kb, kw, sb, sc, wh)) hr).1 ≤ nc := k1
    show n_ly (m_uf cb nc row) hr (nc + 1 - (n_vb (n_lg nc nd nk sz cb db sd (kb, kw, sb, sc, wh)) hr).1) _ = _
    rw [show nc + 1 - (n_vb (n_lg nc nd nk sz cb db sd (kb, kw, sb, sc, wh)) hr).1 = (nc - (n_vb (n_lg nc nd nk sz cb db sd (kb, kw, sb, sc, wh)) hr).1) + 1 by omega]
    exact ly_nw (cb := cb) (cb' := m_uf cb nc row) (h := hr) (nc := nc) m_uf_cb (by rw [m_uf_eq, hr4]; exact Nat.le_refl _) _ _ (by show (n_vb (n_lg nc nd nk sz cb db sd (kb, kw, sb, sc, wh)) hr).1 + (nc - (n_vb (n_lg nc nd nk sz cb db sd (kb, kw, sb, sc, wh)) hr).1) = nc; omega) v1'
  have eR : n_vr G' hr (n_vb G hr) = ((n_vr G hr (n_vb G hr)).1, m_uf (n_vr G hr (n_vb G hr)).2 nc (n_ir (m_uf cb nc row) nc)) := by
    unfold n_vr
    rw [eL]
    subst hGG hGG'
    have k3' : (n_vb (n_lg nc nd nk sz cb db sd (kb, kw, sb, sc, wh)) hr).2.2.2.2 ≤ sz := k3
    exact ro_uf (sd := sd) (sz := sz) (c := nc) (fun i hi => by have := hsd i hi; show sd i 0 ≠ nc; omega) _ _ _ (by show (n_vb (n_lg nc nd nk sz cb db sd (kb, kw, sb, sc, wh)) hr).2.2.2.2 + (sz - (n_vb (n_lg nc nd nk sz cb db sd (kb, kw, sb, sc, wh)) hr).2.2.2.2) = sz; omega)
  have n6 : n_vk G' hr (n_vb G hr) := by
    refine ⟨Nat.le_trans k1 hA.1.1, Nat.le_trans k2 hA.2.1.1, Nat.le_trans k3 hA.2.2.1.1, ?_⟩
    rw [eL]
    have v1' : (n_vl G hr (n_vb G hr)).1 = nc := v1
    subst hGG hGG'
    have k3' : (n_vb (n_lg nc nd nk sz cb db sd (kb, kw, sb, sc, wh)) hr).2.2.2.2 ≤ sz := k3
    exact rk_uf (sd := sd) (sz := sz) (c := nc) (fun i hi => by have := hsd i hi; show sd i 0 ≠ nc; omega) (by rw [v1']; show nc ≤ nc + 1; omega) _ _ _ (by show (n_vb (n_lg nc nd nk sz cb db sd (kb, kw, sb, sc, wh)) hr).2.2.2.2 + (sz - (n_vb (n_lg nc nd nk sz cb db sd (kb, kw, sb, sc, wh)) hr).2.2.2.2) = sz; omega) k4
  have hdG : ∀ i, i < G.1.2.1 → G.2.1.2.1 i 0 < 6 := by subst hGG; exact hd
  obtain ⟨r1, r2, r3⟩ := pl_log hA h6 hdG n6
  unfold n_PL
  rw [hGG', r2]
  refine ⟨r1, ⟨?_, ?_, ?_, fun c hc => ?_, fun c hc j hj => ?_⟩, fun i hi j hj => by rw [r3 i hi j hj]; exact h8 i hi j hj⟩
  · show (n_vl G' hr (n_vb G hr)).1 = nc + 1
    rw [eL]
  · have e2 : (n_vs G' hr (n_vb G hr)).2.1 = (n_vs G hr (n_vb G hr)).2.1 := by subst hGG hGG'; rfl
    rw [e2]
    exact v2
  · show (n_vr G' hr (n_vb G hr)).1 = sz
    rw [eR]
    exact v3
  · have e3 : (n_vs G' hr (n_vb G hr)).2.2.1 = m_uf (n_vs G hr (n_vb G hr)).2.2.1 nc 1 := by
      show n_up (n_ct G'.2.1.2.2.1 G'.2.2 hr) G'.1.2.2.1 0 (n_vl G' hr (n_vb G hr)).2.1 = m_uf (n_up (n_ct G.2.1.2.2.1 G.2.2 hr) G.1.2.2.1 0 (n_vl G hr (n_vb G hr)).2.1) nc 1
      rw [eL]
      subst hGG hGG'
      exact ct_uf (kb := kb) (kw := kw) (nk := nk) (c := nc) (fun k hk => by have := hkb k hk; show kb k 0 ≠ nc; omega) _
    rw [e3]
    show _ = m_uf wh nc 1 c
    by_cases e : c = nc
    · rw [e, m_uf_eq, m_uf_eq]
    · rw [m_uf_ne e, m_uf_ne e]
      exact v4 c (by omega)
  · show (n_vr G' hr (n_vb G hr)).2 c j = m_uf ow nc orow c j
    rw [eR]
    show (m_uf (n_vr G hr (n_vb G hr)).2 nc (n_ir (m_uf cb nc row) nc)) c j = m_uf ow nc orow c j
    by_cases e : c = nc
    · rw [e, m_uf_eq, m_uf_eq, hor j hj]
      unfold n_ir
      rw [m_uf_eq]
    · rw [m_uf_ne e, m_uf_ne e]
      exact v5 c (by omega) j hj
