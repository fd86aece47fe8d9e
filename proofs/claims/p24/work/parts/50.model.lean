/-! the model: small tests -/
theorem n_in {x : Int32} {N : Nat} (h : N ≤ 1000) : (if ¬ x < 0 ∧ ¬ nI N - 1 < x then (1 : Int32) else 0) = if ¬ x < 0 ∧ x < nI N then 1 else 0 := by
  by_cases h0 : x < 0
  · rw [if_neg (fun z => z.1 h0), if_neg (fun z => z.1 h0)]
  · obtain ⟨k, hk, rfl⟩ := nI_of h0
    rcases N with _ | M
    · have e : nI 0 - 1 < nI k := by
        have e1 : nI 0 - 1 < 0 := by decide
        have e2 : ¬ nI k < 0 := nI_pos hk
        exact Int32.not_le.mp (fun z => e2 (Int32.lt_of_le_of_lt z e1))
      rw [if_neg (fun z => z.2 e), if_neg (fun z => absurd ((nI_ltI hk (by omega)).mp z.2) (by omega))]
    · rw [v_sub1]
      by_cases h1 : k < M + 1
      · rw [if_pos ⟨h0, nI_nlt (by omega) (by omega)⟩, if_pos ⟨h0, nI_lt h1 (by omega)⟩]
      · rw [if_neg (fun z => z.2 (nI_lt (by omega) (by omega))), if_neg (fun z => absurd ((nI_ltI hk (by omega)).mp z.2) h1)]
