/-- the law's body, on every script: what is owed of the small machine -/
theorem law_run (L : Nat) (xs : Nat → Int32) (hL : L ≤ 3072) : ∃ d : Nat, d ≤ 500 ∧ m_W1 (m_lk (cd_L_law L xs)) (m_Ev m_cds m_my d) (fun o _ => o = .inl (some (.int 1))) 0 (m_ent 7 [.ref 0]) [] (646423, 7156836) (0, fun _ => m_N) := by
  sorry
