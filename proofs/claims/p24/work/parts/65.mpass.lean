/-! the model: passes -/
/-- what holds of cuts and ships through an hour -/
def n_WI (nc nk ns hr H : Nat) (W : n_W) : Prop :=
  (∀ s, s < ns → ∀ k, W.2.2.2.1 s = some k → k < nk ∧ W.2.1 k = none ∧ ∀ s', s' < ns → W.2.2.2.1 s' = some k → s' = s) ∧
  (∀ k, k < nk → (W.2.1 k = none ↔ W.1 k 3 < 5) ∧ W.1 k 3 ≤ 5 ∧ W.1 k 0 < nc ∧ W.1 k 2 ≤ hr ∧ ∀ w, W.2.1 k = some w → W.1 k 2 < w ∧ w ≤ H) ∧
  (∀ k k', k < k' → k' < nk → W.1 k 0 = W.1 k' 0 → ∃ w, W.2.1 k = some w ∧ w ≤ W.1 k' 2) ∧
  (∀ c, c < nc → W.2.2.2.2 c ≤ 1 ∧ (W.2.2.2.2 c = 0 ↔ ∃ k, k < nk ∧ W.1 k 0 = c ∧ W.2.1 k = none))
theorem n_WI_H {nc nk ns hr H H' : Nat} {W : n_W} (h : n_WI nc nk ns hr H W) (hH : H ≤ H') : n_WI nc nk ns hr H' W := ⟨h.1, fun k hk => ⟨(h.2.1 k hk).1, (h.2.1 k hk).2.1, (h.2.1 k hk).2.2.1, (h.2.1 k hk).2.2.2.1, fun w hw => ⟨((h.2.1 k hk).2.2.2.2 w hw).1, Nat.le_trans ((h.2.1 k hk).2.2.2.2 w hw).2 hH⟩⟩, h.2.2.1, h.2.2.2⟩
theorem n_WI_z {nc nk ns hr s k : Nat} {storm : Bool} {W : n_W} (h : n_WI nc nk ns hr (hr + 1) W) (hs : s < ns) (hsc : W.2.2.2.1 s = some k) : n_WI nc nk ns hr (hr + 1) (n_wz storm hr s k W) := by
  obtain ⟨kb, kw, sb, sc, wh⟩ := W
  obtain ⟨h1, h2, h3, h4⟩ := h
  simp only at h1 h2 h3 h4 hsc
  obtain ⟨a1, a2, a3⟩ := h1 s hs k hsc
  unfold n_wz
  simp only
  split
  · split
    · exact ⟨h1, h2, h3, h4⟩
    · split
      · split
        · rename_i h5
          refine ⟨h1, fun j hj => ?_, fun j j' g1 g2 g3 => ?_, fun c hc => ?_⟩
          · obtain ⟨b1, b2, b3, b4, b5⟩ := h2 j hj
            show (kw j = none ↔ m_u2 kb k 3 (kb k 3 + 1) j 3 < 5) ∧ m_u2 kb k 3 (kb k 3 + 1) j 3 ≤ 5 ∧ m_u2 kb k 3 (kb k 3 + 1) j 0 < nc ∧ m_u2 kb k 3 (kb k 3 + 1) j 2 ≤ hr ∧ ∀ w, kw j = some w → m_u2 kb k 3 (kb k 3 + 1) j 2 < w ∧ w ≤ hr + 1
            rw [m_u2_n2 (by omega : (0 : Nat) ≠ 3), m_u2_n2 (by omega : (2 : Nat) ≠ 3)]
            by_cases e : j = k
            · subst e
              rw [m_u2_eq]
              exact ⟨⟨fun _ => h5, fun _ => a2⟩, by omega, b3, b4, b5⟩
            · rw [m_u2_n1 e]
              exact ⟨b1, b2, b3, b4, b5⟩
          · have g3' : m_u2 kb k 3 (kb k 3 + 1) j 0 = m_u2 kb k 3 (kb k 3 + 1) j' 0 := g3
            rw [m_u2_n2 (by omega), m_u2_n2 (by omega)] at g3'
            show ∃ w, kw j = some w ∧ w ≤ m_u2 kb k 3 (kb k 3 + 1) j' 2
            rw [m_u2_n2 (by omega)]
            exact h3 j j' g1 g2 g3'
          · obtain ⟨b1, b2⟩ := h4 c hc
            refine ⟨b1, b2.trans ?_⟩
            show (∃ j, j < nk ∧ kb j 0 = c ∧ kw j = none) ↔ ∃ j, j < nk ∧ m_u2 kb k 3 (kb k 3 + 1) j 0 = c ∧ kw j = none
            exact ⟨fun ⟨j, q1, q2, q3⟩ => ⟨j, q1, by rw [m_u2_n2 (by omega)]; exact q2, q3⟩, fun ⟨j, q1, q2, q3⟩ => ⟨j, q1, by rw [m_u2_n2 (by omega)] at q2; exact q2, q3⟩⟩
        · rename_i h5
          have k5 : kb k 3 < 5 := ((h2 k a1).1).mp a2
          refine ⟨fun s2 hs2 j hj => ?_, fun j hj => ?_, fun j j' g1 g2 g3 => ?_, fun c hc => ?_⟩
          · have hj' : m_uf sc s none s2 = some j := hj
            by_cases e : s2 = s
            · subst e
              rw [m_uf_eq] at hj'
              cases hj'
            · rw [m_uf_ne e] at hj'
              obtain ⟨b1, b2, b3⟩ := h1 s2 hs2 j hj'
              have hjk : j ≠ k := fun z => by
                subst z
                exact e (a3 s2 hs2 hj')
              refine ⟨b1, ?_, fun s3 hs3 hsc3 => ?_⟩
              · show m_uf kw k (some (hr + 1)) j = none
                rw [m_uf_ne hjk]
                exact b2
              · have h9 : m_uf sc s none s3 = some j := hsc3
                by_cases e3 : s3 = s
                · subst e3
                  rw [m_uf_eq] at h9
                  cases h9
                · rw [m_uf_ne e3] at h9
                  exact b3 s3 hs3 h9
          · obtain ⟨b1, b2, b3, b4, b5⟩ := h2 j hj
            show (m_uf kw k (some (hr + 1)) j = none ↔ m_u2 kb k 3 (kb k 3 + 1) j 3 < 5) ∧ m_u2 kb k 3 (kb k 3 + 1) j 3 ≤ 5 ∧ m_u2 kb k 3 (kb k 3 + 1) j 0 < nc ∧ m_u2 kb k 3 (kb k 3 + 1) j 2 ≤ hr ∧ ∀ w, m_uf kw k (some (hr + 1)) j = some w → m_u2 kb k 3 (kb k 3 + 1) j 2 < w ∧ w ≤ hr + 1
            rw [m_u2_n2 (by omega : (0 : Nat) ≠ 3), m_u2_n2 (by omega : (2 : Nat) ≠ 3)]
            by_cases e : j = k
            · subst e
              rw [m_u2_eq, m_uf_eq]
              refine ⟨⟨fun z => (by cases z), fun z => absurd z h5⟩, by omega, b3, b4, fun w hw => ?_⟩
              cases hw
              omega
            · rw [m_u2_n1 e, m_uf_ne e]
              exact ⟨b1, b2, b3, b4, b5⟩
          · have g3' : m_u2 kb k 3 (kb k 3 + 1) j 0 = m_u2 kb k 3 (kb k 3 + 1) j' 0 := g3
            rw [m_u2_n2 (by omega), m_u2_n2 (by omega)] at g3'
            show ∃ w, m_uf kw k (some (hr + 1)) j = some w ∧ w ≤ m_u2 kb k 3 (kb k 3 + 1) j' 2
            rw [m_u2_n2 (by omega)]
            obtain ⟨w, q1, q2⟩ := h3 j j' g1 g2 g3'
            have hjk : j ≠ k := fun z => by
              subst z
              rw [a2] at q1
              cases q1
            rw [m_uf_ne hjk]
            exact ⟨w, q1, q2⟩
          · obtain ⟨b1, b2⟩ := h4 c hc
            show m_uf wh (kb k 0) 1 c ≤ 1 ∧ (m_uf wh (kb k 0) 1 c = 0 ↔ ∃ j, j < nk ∧ m_u2 kb k 3 (kb k 3 + 1) j 0 = c ∧ m_uf kw k (some (hr + 1)) j = none)
            by_cases e : c = kb k 0
            · subst e
              rw [m_uf_eq]
              refine ⟨Nat.le_refl _, ⟨fun z => (by cases z), fun ⟨j, q1, q2, q3⟩ => ?_⟩⟩
              exfalso
              rw [m_u2_n2 (by omega)] at q2
              have hjk : j ≠ k := fun z => by
                subst z
                rw [m_uf_eq] at q3
                cases q3
              rw [m_uf_ne hjk] at q3
              by_cases hlt : j < k
              · obtain ⟨w, q4, _⟩ := h3 j k hlt a1 q2
                rw [q3] at q4
                cases q4
              · obtain ⟨w, q4, _⟩ := h3 k j (by omega) q1 q2.symm
                rw [a2] at q4
                cases q4
            · rw [m_uf_ne e]
              refine ⟨b1, b2.trans ?_⟩
              constructor
              · rintro ⟨j, q1, q2, q3⟩
                refine ⟨j, q1, by rw [m_u2_n2 (by omega)]; exact q2, ?_⟩
                rw [m_uf_ne (fun z => by subst z; exact e q2.symm)]
                exact q3
              · rintro ⟨j, q1, q2, q3⟩
                rw [m_u2_n2 (by omega)] at q2
                rw [m_uf_ne (fun z => by subst z; exact e q2.symm)] at q3
                exact ⟨j, q1, q2, q3⟩
      · exact ⟨h1, h2, h3, h4⟩
  · exact ⟨h1, h2, h3, h4⟩
theorem n_WI_d {nc nk ns hr s : Nat} {storm : Bool} {cb ow : Nat → Nat → Nat} {T : (Nat → Int32) × Int32 × n_W} (h : n_WI nc nk ns hr (hr + 1) T.2.2) (hs : s < ns) : n_WI nc nk ns hr (hr + 1) (n_dz storm hr cb ow s T).2.2 := by
  unfold n_dz
  split
  · exact h
  · rename_i k hk
    exact n_WI_z h hs hk
theorem n_WI_wc {nc nk ns hr H : Nat} {W : n_W} (h : n_WI nc nk ns hr H W) : x_wc nc nk W.2.2.2.2 W.1 := by
  intro c hc
  obtain ⟨h1, h2⟩ := h.2.2.2 c hc
  rw [h2]
  constructor
  · rintro ⟨k, k1, k2, k3⟩ z
    exact n_co_none z k (Nat.zero_le k) (by omega) ⟨k2, ((h.2.1 k k1).1).mp k3⟩
  · intro z
    obtain ⟨k, hk⟩ := Option.ne_none_iff_exists'.mp z
    obtain ⟨_, k2, k3, k4⟩ := n_co_lt hk
    exact ⟨k, by omega, k3, ((h.2.1 k (by omega)).1).mpr k4⟩
