/-! the model: passes, pass -/
theorem n_fc_lt {nc nk ns hr H : Nat} {W : n_W} (h : n_WI nc nk ns hr H W) : n_fc W.1 nk nc 0 none = (n_cf W.1 W.2.1 nk 0 (none, 0)).1 ∧ ∀ c, n_fc W.1 nk nc 0 none = some c → c < nc := by
  have hu : ∀ k k', k < nk → k' < nk → W.1 k 3 < 5 → W.1 k' 3 < 5 → W.1 k 0 = W.1 k' 0 → k = k' := by
    intro k k' h1 h2 h3 h4 h5
    have e1 := ((h.2.1 k h1).1).mpr h3
    have e2 := ((h.2.1 k' h2).1).mpr h4
    by_cases e : k < k'
    · obtain ⟨w, q, _⟩ := h.2.2.1 k k' e h2 h5
      rw [e1] at q
      cases q
    · by_cases e' : k' < k
      · obtain ⟨w, q, _⟩ := h.2.2.1 k' k e' h1 h5.symm
        rw [e2] at q
        cases q
      · omega
  have hfi := n_fc_fi (nc := nc) (fun k hk => (h.2.1 k hk).2.2.1) hu
  refine ⟨n_fi_u hfi (n_cf_fi (fun k hk => (h.2.1 k hk).1)), fun c hc => ?_⟩
  rw [hc] at hfi
  obtain ⟨k, k1, k2, k3, _⟩ := hfi
  rw [← k3]
  exact (h.2.1 k k1).2.2.1
