/-! the constructors: the model -/
theorem m_up_sw {h : Nat → m_C} {a b : Nat} {x y z : m_C} (e : b ≠ a) : m_up (m_up (m_up h a x) b y) a z = m_up (m_up h b y) a z := by
  funext q
  by_cases e1 : q = a
  · rw [e1, m_up_a, m_up_a]
  · rw [m_up_b e1, m_up_b e1]
    by_cases e2 : q = b
    · rw [e2, m_up_a, m_up_a]
    · rw [m_up_b e2, m_up_b e2, m_up_b e1]
