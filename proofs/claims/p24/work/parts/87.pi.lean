/-! what holds of the logs, cuts and ships through every command -/
theorem n_WI_cable {nc nk ns hr : Nat} {kb sb : Nat → Nat → Nat} {kw sc : Nat → Option Nat} {wh : Nat → Nat} (h : n_WI nc nk ns hr hr (kb, kw, sb, sc, wh)) : n_WI (nc + 1) nk ns hr hr (kb, kw, sb, sc, m_uf wh nc 1) := by
  obtain ⟨h1, h2, h3, h4⟩ := h
  simp only at h1 h2 h3 h4
  refine ⟨h1, fun k hk => ⟨(h2 k hk).1, (h2 k hk).2.1, by have := (h2 k hk).2.2.1; show kb k 0 < nc + 1; omega, (h2 k hk).2.2.2⟩, h3, fun c hc => ?_⟩
  show m_uf wh nc 1 c ≤ 1 ∧ (m_uf wh nc 1 c = 0 ↔ ∃ k, k < nk ∧ kb k 0 = c ∧ kw k = none)
  by_cases e : c = nc
  · subst e
    rw [m_uf_eq]
    exact ⟨Nat.le_refl _, ⟨fun z => by omega, fun ⟨k, k1, k2, _⟩ => by have := (h2 k k1).2.2.1; omega⟩⟩
  · rw [m_uf_ne e]
    exact h4 c (by omega)
theorem n_WI_cut {nc nk ns hr c p : Nat} {kb sb : Nat → Nat → Nat} {kw sc : Nat → Option Nat} {wh : Nat → Nat} (h : n_WI nc nk ns hr hr (kb, kw, sb, sc, wh)) (hc : c < nc) (hco : n_co kb c nk 0 = none) : n_WI nc (nk + 1) ns hr hr (m_uf kb nk (n_row4 c p hr 0), m_uf kw nk none, sb, sc, m_uf wh c 0) := by
  obtain ⟨h1, h2, h3, h4⟩ := h
  simp only at h1 h2 h3 h4
  refine ⟨fun s hs k hk => ?_, fun k hk => ?_, fun k k' h5 h6 h7 => ?_, fun c' hc' => ?_⟩
  · obtain ⟨a1, a2, a3⟩ := h1 s hs k hk
    refine ⟨by omega, ?_, a3⟩
    show m_uf kw nk none k = none
    rw [m_uf_ne (by omega)]
    exact a2
  · show (m_uf kw nk none k = none ↔ m_uf kb nk (n_row4 c p hr 0) k 3 < 5) ∧ m_uf kb nk (n_row4 c p hr 0) k 3 ≤ 5 ∧ m_uf kb nk (n_row4 c p hr 0) k 0 < nc ∧ m_uf kb nk (n_row4 c p hr 0) k 2 ≤ hr ∧ ∀ w, m_uf kw nk none k = some w → m_uf kb nk (n_row4 c p hr 0) k 2 < w ∧ w ≤ hr
    by_cases e : k = nk
    · subst e
      rw [m_uf_eq, m_uf_eq]
      exact ⟨⟨fun _ => by show 0 < 5; omega, fun _ => rfl⟩, by show 0 ≤ 5; omega, hc, Nat.le_refl _, fun w hw => by cases hw⟩
    · rw [m_uf_ne e, m_uf_ne e]
      exact h2 k (by omega)
  · have h7' : m_uf kb nk (n_row4 c p hr 0) k 0 = m_uf kb nk (n_row4 c p hr 0) k' 0 := h7
    show ∃ w, m_uf kw nk none k = some w ∧ w ≤ m_uf kb nk (n_row4 c p hr 0) k' 2
    have ek : k ≠ nk := by omega
    rw [m_uf_ne ek]
    rw [m_uf_ne ek] at h7'
    by_cases e : k' = nk
    · subst e
      rw [m_uf_eq] at h7' ⊢
      have hnone := n_co_none hco k (Nat.zero_le _) (by omega)
      have h8 : kb k 0 = c := h7'
      have h9 : ¬ kb k 3 < 5 := fun z => hnone ⟨h8, z⟩
      rcases hkw : kw k with _ | w
      · exact absurd ((h2 k (by omega)).1.mp hkw) h9
      · exact ⟨w, rfl, ((h2 k (by omega)).2.2.2.2 w hkw).2⟩
    · rw [m_uf_ne e] at h7' ⊢
      exact h3 k k' h5 (by omega) h7'
  · show m_uf wh c 0 c' ≤ 1 ∧ (m_uf wh c 0 c' = 0 ↔ ∃ k, k < nk + 1 ∧ m_uf kb nk (n_row4 c p hr 0) k 0 = c' ∧ m_uf kw nk none k = none)
    by_cases e : c' = c
    · subst e
      rw [m_uf_eq]
      exact ⟨by omega, ⟨fun _ => ⟨nk, by omega, by rw [m_uf_eq]; rfl, by rw [m_uf_eq]⟩, fun _ => rfl⟩⟩
    · rw [m_uf_ne e]
      refine ⟨(h4 c' hc').1, (h4 c' hc').2.trans ⟨fun ⟨k, k1, k2, k3⟩ => ⟨k, by omega, by rw [m_uf_ne (by omega)]; exact k2, by rw [m_uf_ne (by omega)]; exact k3⟩, fun ⟨k, k1, k2, k3⟩ => ?_⟩⟩
      by_cases ek : k = nk
      · subst ek
        rw [m_uf_eq] at k2
        exact absurd k2.symm e
      · rw [m_uf_ne ek] at k2 k3
        exact ⟨k, by omega, k2, k3⟩
theorem n_WI_ship {nc nk ns hr : Nat} {kb sb sb' : Nat → Nat → Nat} {kw sc : Nat → Option Nat} {wh : Nat → Nat} (h : n_WI nc nk ns hr hr (kb, kw, sb, sc, wh)) : n_WI nc nk (ns + 1) hr hr (kb, kw, sb', m_uf sc ns none, wh) := by
  obtain ⟨h1, h2, h3, h4⟩ := h
  simp only at h1 h2 h3 h4
  refine ⟨fun s hs k hk => ?_, h2, h3, h4⟩
  have hk' : m_uf sc ns none s = some k := hk
  have es : s ≠ ns := fun e => by rw [e, m_uf_eq] at hk'; cases hk'
  rw [m_uf_ne es] at hk'
  obtain ⟨a1, a2, a3⟩ := h1 s (by omega) k hk'
  refine ⟨a1, a2, fun s' hs' h' => ?_⟩
  have h'' : m_uf sc ns none s' = some k := h'
  have es' : s' ≠ ns := fun e => by rw [e, m_uf_eq] at h''; cases h''
  rw [m_uf_ne es'] at h''
  exact a3 s' (by omega) h''
theorem n_WI_send {nc nk ns hr x : Nat} {o : Option Nat} {kb sb : Nat → Nat → Nat} {kw sc : Nat → Option Nat} {wh : Nat → Nat} (h : n_WI nc nk ns hr hr (kb, kw, sb, sc, wh)) (ho : ∀ k, o = some k → k < nk ∧ kb k 3 < 5 ∧ ∀ s, s < ns → sc s ≠ some k) : n_WI nc nk ns hr hr (kb, kw, sb, m_uf sc x o, wh) := by
  obtain ⟨h1, h2, h3, h4⟩ := h
  simp only at h1 h2 h3 h4
  refine ⟨fun s hs k hk => ?_, h2, h3, h4⟩
  have hk' : m_uf sc x o s = some k := hk
  by_cases e : s = x
  · subst e
    rw [m_uf_eq] at hk'
    obtain ⟨a1, a2, a3⟩ := ho k hk'
    refine ⟨a1, (h2 k a1).1.mpr a2, fun s' hs' h' => ?_⟩
    have h'' : m_uf sc s o s' = some k := h'
    by_cases e' : s' = s
    · exact e'
    · rw [m_uf_ne e'] at h''
      exact absurd h'' (a3 s' hs')
  · rw [m_uf_ne e] at hk'
    obtain ⟨a1, a2, a3⟩ := h1 s hs k hk'
    refine ⟨a1, a2, fun s' hs' h' => ?_⟩
    have h'' : m_uf sc x o s' = some k := h'
    by_cases e' : s' = x
    · subst e'
      rw [m_uf_eq] at h''
      exact absurd hk' ((ho k h'').2.2 s hs)
    · rw [m_uf_ne e'] at h''
      exact a3 s' hs' h''
theorem pi_ship {nc nd nk ns sz hr : Nat} {cb db sd ow : Nat → Nat → Nat} {o32 : Nat → Nat → Int32} {acc acc' : Nat → Int32} {club sp : Int32} {kb sb : Nat → Nat → Nat} {kw sc : Nat → Option Nat} {wh : Nat → Nat} {wy wy' : Nat → Option Nat} {ln ln' : Nat → Nat} {sb' : Nat → Nat → Nat} (H : n_PI nc nd nk ns sz cb db sd ow (hr, o32, acc, club, sp, (kb, kw, sb, sc, wh), wy, ln)) : n_PI nc nd nk (ns + 1) sz cb db sd ow (hr, o32, acc, club, sp, (kb, kw, sb', m_uf sc ns none, wh), wy, ln) := ⟨H.1, n_WI_ship H.2.1, H.2.2.1, H.2.2.2.1, H.2.2.2.2.1, H.2.2.2.2.2⟩
theorem pi_send {nc nd nk ns sz hr : Nat} {cb db sd ow : Nat → Nat → Nat} {o32 : Nat → Nat → Int32} {acc acc' : Nat → Int32} {club sp : Int32} {kb sb : Nat → Nat → Nat} {kw sc : Nat → Option Nat} {wh : Nat → Nat} {wy wy' : Nat → Option Nat} {ln ln' : Nat → Nat} {x : Nat} {o : Option Nat} (H : n_PI nc nd nk ns sz cb db sd ow (hr, o32, acc, club, sp, (kb, kw, sb, sc, wh), wy, ln)) (ho : ∀ k, o = some k → k < nk ∧ kb k 3 < 5 ∧ ∀ s, s < ns → sc s ≠ some k) : n_PI nc nd nk ns sz cb db sd ow (hr, o32, acc, club, sp, (kb, kw, sb, m_uf sc x o, wh), wy, ln) := ⟨H.1, n_WI_send H.2.1 ho, H.2.2.1, H.2.2.2.1, H.2.2.2.2.1, H.2.2.2.2.2⟩
theorem pi_fill {nc nd nk ns sz hr : Nat} {cb db sd ow : Nat → Nat → Nat} {o32 : Nat → Nat → Int32} {acc acc' : Nat → Int32} {club sp : Int32} {kb sb : Nat → Nat → Nat} {kw sc : Nat → Option Nat} {wh : Nat → Nat} {wy wy' : Nat → Option Nat} {ln ln' : Nat → Nat} {sb' : Nat → Nat → Nat} (H : n_PI nc nd nk ns sz cb db sd ow (hr, o32, acc, club, sp, (kb, kw, sb, sc, wh), wy, ln)) : n_PI nc nd nk ns sz cb db sd ow (hr, o32, acc, club, sp, (kb, kw, sb', sc, wh), wy, ln) := ⟨H.1, H.2.1, H.2.2.1, H.2.2.2.1, H.2.2.2.2.1, H.2.2.2.2.2⟩
theorem pi_cable {nc nd nk ns sz hr : Nat} {cb db sd ow : Nat → Nat → Nat} {o32 : Nat → Nat → Int32} {acc acc' : Nat → Int32} {club sp : Int32} {kb sb : Nat → Nat → Nat} {kw sc : Nat → Option Nat} {wh : Nat → Nat} {wy wy' : Nat → Option Nat} {ln ln' : Nat → Nat} {a b s m : Nat} (H : n_PI nc nd nk ns sz cb db sd ow (hr, o32, acc, club, sp, (kb, kw, sb, sc, wh), wy, ln)) (hs : s ≤ 8) (hm : m < 6) : n_PI (nc + 1) nd nk ns sz (m_uf cb nc (n_row7 a b s m hr)) db sd (m_uf ow nc (fun j => if j = m then s else 0)) (hr, o32, acc, club, sp, (kb, kw, sb, sc, m_uf wh nc 1), wy, ln) := by
  obtain ⟨h1, h2, h3, h4, h5, h6⟩ := H
  refine ⟨h1, n_WI_cable h2, fun c hc => ?_, h4, fun i hi => ⟨(h5 i hi).1, (h5 i hi).2.1, (h5 i hi).2.2.1, (h5 i hi).2.2.2.1, by have := (h5 i hi).2.2.2.2; omega⟩, pl_cable h6 (fun i hi => (h4 i hi).2) (fun i hi => (h5 i hi).2.2.2.2) (fun k hk => (h2.2.1 k hk).2.2.1) rfl (fun j _ => rfl)⟩
  by_cases e : c = nc
  · subst e
    rw [m_uf_eq]
    exact ⟨hm, hs, Nat.le_refl _, rfl, rfl⟩
  · rw [m_uf_ne e]
    exact h3 c (by omega)
theorem pi_demand {nc nd nk ns sz hr : Nat} {cb db sd ow : Nat → Nat → Nat} {o32 : Nat → Nat → Int32} {acc acc' : Nat → Int32} {club sp : Int32} {kb sb : Nat → Nat → Nat} {kw sc : Nat → Option Nat} {wh : Nat → Nat} {wy wy' : Nat → Option Nat} {ln ln' : Nat → Nat} {m x y s : Nat} (H : n_PI nc nd nk ns sz cb db sd ow (hr, o32, acc, club, sp, (kb, kw, sb, sc, wh), wy, ln)) (hm : m < 6) : n_PI nc (nd + 1) nk ns sz cb (m_uf db nd (n_row5 m x y s hr)) sd ow (hr, o32, acc, club, sp, (kb, kw, sb, sc, wh), wy', ln') := by
  obtain ⟨h1, h2, h3, h4, h5, h6⟩ := H
  refine ⟨h1, h2, h3, fun i hi => ?_, h5, pl_demand h6 (fun i hi => (h4 i hi).2) rfl⟩
  by_cases e : i = nd
  · subst e
    rw [m_uf_eq]
    exact ⟨Nat.le_refl _, hm⟩
  · rw [m_uf_ne e]
    exact h4 i (by omega)
theorem pi_sell {nc nd nk ns sz hr : Nat} {cb db sd ow : Nat → Nat → Nat} {o32 : Nat → Nat → Int32} {acc acc' : Nat → Int32} {club sp : Int32} {kb sb : Nat → Nat → Nat} {kw sc : Nat → Option Nat} {wh : Nat → Nat} {wy wy' : Nat → Option Nat} {ln ln' : Nat → Nat} {c a b s : Nat} (H : n_PI nc nd nk ns sz cb db sd ow (hr, o32, acc, club, sp, (kb, kw, sb, sc, wh), wy, ln)) (hc : c < nc) (ha : a < 6) (hb : b < 6) (hab : a ≠ b) (hs : s ≤ ow c a) : n_PI nc nd nk ns (sz + 1) cb db (m_uf sd sz (n_row5 c a b s hr)) (m_uf ow c (n_hd2 (ow c) a b s)) (hr, o32, acc', club, sp, (kb, kw, sb, sc, wh), wy, ln) := by
  obtain ⟨h1, h2, h3, h4, h5, h6⟩ := H
  refine ⟨h1, h2, h3, h4, fun i hi => ?_, pl_sell h6 (fun i hi => (h4 i hi).2) hc ha hb hs⟩
  by_cases e : i = sz
  · subst e
    rw [m_uf_eq]
    exact ⟨ha, hb, hab, Nat.le_refl _, hc⟩
  · rw [m_uf_ne e]
    exact h5 i (by omega)
theorem pi_cut {nc nd nk ns sz hr : Nat} {cb db sd ow : Nat → Nat → Nat} {o32 : Nat → Nat → Int32} {acc acc' : Nat → Int32} {club sp : Int32} {kb sb : Nat → Nat → Nat} {kw sc : Nat → Option Nat} {wh : Nat → Nat} {wy wy' : Nat → Option Nat} {ln ln' : Nat → Nat} {c p : Nat} (H : n_PI nc nd nk ns sz cb db sd ow (hr, o32, acc, club, sp, (kb, kw, sb, sc, wh), wy, ln)) (hc : c < nc) (hco : n_co kb c nk 0 = none) : n_PI nc nd (nk + 1) ns sz cb db sd ow (hr, o32, acc, club, sp, (m_uf kb nk (n_row4 c p hr 0), m_uf kw nk none, sb, sc, m_uf wh c 0), wy, ln) := by
  obtain ⟨h1, h2, h3, h4, h5, h6⟩ := H
  exact ⟨h1, n_WI_cut h2 hc hco, h3, h4, h5, pl_cut h6 (fun i hi => (h4 i hi).2)⟩
theorem pi_hour {nc nd nk ns sz : Nat} {cb db sd ow : Nat → Nat → Nat} {s1 s2 : Int32} {D : n_D} (H : n_PI nc nd nk ns sz cb db sd ow D) (hD : D.1 < 500) : n_PI nc nd nk ns sz cb db sd ow (n_hour nc nd nk ns cb db ow s1 s2 D) := by
  obtain ⟨h1, h2, h3, h4, h5, h6⟩ := H
  have hw := n_WI_h (nd := nd) (cb := cb) (db := db) (ow := ow) (s1 := s1) (s2 := s2) h2
  refine ⟨by show D.1 + 1 ≤ 500; omega, hw, fun c hc => ?_, fun i hi => ?_, fun i hi => ?_, ?_⟩
  · obtain ⟨a1, a2, a3, a4⟩ := h3 c hc
    exact ⟨a1, a2, by show cb c 4 ≤ D.1 + 1; omega, a4⟩
  · obtain ⟨a1, a2⟩ := h4 i hi
    exact ⟨by show db i 4 ≤ D.1 + 1; omega, a2⟩
  · obtain ⟨a1, a2, a3, a4, a5⟩ := h5 i hi
    exact ⟨a1, a2, a3, by show sd i 4 ≤ D.1 + 1; omega, a5⟩
  · exact pl_hour h6 (fun i hi => (h4 i hi).2) h2 hw (n_kr_h h2)
theorem pi_hours {nc nd nk ns sz : Nat} {cb db sd ow : Nat → Nat → Nat} {s1 s2 : Int32} : ∀ {m : Nat} {D : n_D}, n_PI nc nd nk ns sz cb db sd ow D → D.1 + m ≤ 500 → n_PI nc nd nk ns sz cb db sd ow (n_hours nc nd nk ns cb db ow s1 s2 m D) := by
  intro m
  induction m with
  | zero => intro D h _; exact h
  | succ m ih =>
    intro D h hm
    rw [n_hours_s]
    exact ih (pi_hour h (by omega)) (by rw [n_hour_1]; omega)
/-- before any command -/
theorem pi_0 {acc : Nat → Int32} {club sp : Int32} {cb db sd ow kb sb : Nat → Nat → Nat} {kw sc : Nat → Option Nat} {wh : Nat → Nat} {wy : Nat → Option Nat} {ln : Nat → Nat} : n_PI 0 0 0 0 0 cb db sd ow (0, (fun _ _ => 0), acc, club, sp, (kb, kw, sb, sc, wh), wy, ln) := by
  refine ⟨by show 0 ≤ 500; omega, ⟨fun s hs => absurd hs (Nat.not_lt_zero _), fun s hs => absurd hs (Nat.not_lt_zero _), fun k k' _ h => absurd h (Nat.not_lt_zero _), fun s hs => absurd hs (Nat.not_lt_zero _)⟩, fun s hs => absurd hs (Nat.not_lt_zero _), fun s hs => absurd hs (Nat.not_lt_zero _), fun s hs => absurd hs (Nat.not_lt_zero _), fun h hh => ?_, ⟨rfl, rfl, rfl, fun s hs => absurd hs (Nat.not_lt_zero _), fun s hs => absurd hs (Nat.not_lt_zero _)⟩, fun i _ j _ => rfl⟩
  have e : h = 0 := by have hh' : h ≤ 0 := hh; omega
  subst e
  exact ⟨Nat.le_refl _, Nat.le_refl _, Nat.le_refl _, trivial⟩
