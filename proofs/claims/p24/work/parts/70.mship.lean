/-! the model's commands: ship, send, fill, storm -/
theorem x_O_cg {nc : Nat} {cb ow : Nat → Nat → Nat} {a b : Nat → Nat → Int32} (h : x_O nc cb ow a) (h1 : b 97 = a 97) : x_O nc cb ow b := fun c hc => ⟨(h c hc).1, (h c hc).2.1, (h c hc).2.2.1, fun j hj => by rw [h1]; exact (h c hc).2.2.2 j hj⟩
def n_tf (c : Prop) [Decidable c] : Int32 := if c then 1 else 0
theorem n_tf_t {c : Prop} [Decidable c] (h : c) : n_tf c = 1 := if_pos h
theorem n_tf_f {c : Prop} [Decidable c] (h : ¬ c) : n_tf c = 0 := if_neg h
theorem n_gc_0 {a b c : Prop} [Decidable a] [Decidable b] [Decidable c] (h : n_gc (n_tf a) (n_tf b) (n_tf c) = 0) : a ∧ b ∧ c := by
  by_cases ha : a
  · by_cases hb : b
    · by_cases hc : c
      · exact ⟨ha, hb, hc⟩
      · rw [n_tf_t ha, n_tf_t hb, n_tf_f hc] at h
        exact absurd h (by decide)
    · rw [n_tf_t ha, n_tf_f hb] at h
      unfold n_gc at h
      rw [if_neg (by decide), if_pos rfl] at h
      exact absurd h (by decide)
  · rw [n_tf_f ha] at h
    unfold n_gc at h
    rw [if_pos rfl] at h
    exact absurd h (by decide)
/-- what a model's command leaves: it went, or what it threw -/
def x_an (n : Nat) (rq : Nat → Nat → Option Nat) (ou : Nat → Int64) (dy : Nat → m_C) (ar : Nat → Nat → Int32) (t w : Int32) (P Q : (Nat → Nat → Int32) → Prop) (v : Option Value) (S' : m_S) : Prop := ∃ ar' : Nat → Nat → Int32, S' = (n, m_hp ar' rq ou dy) ∧ (∀ y, y < 94 → ar' y = ar y) ∧ ar' 94 35 = t ∧ (if t = 0 then v = some (.int w) ∧ Q ar' else v = some (.int 0) ∧ P ar')
def n_row3 (a b c : Nat) : Nat → Nat := fun j => if j = 0 then a else if j = 1 then b else c
theorem n_gc_ne {a b c : Int32} : n_gc a b c = 0 ∨ n_gc a b c = 1 ∨ n_gc a b c = 2 ∨ n_gc a b c = 3 := by
  unfold n_gc
  split
  · exact Or.inr (Or.inl rfl)
  · split
    · exact Or.inr (Or.inr (Or.inl rfl))
    · split
      · exact Or.inr (Or.inr (Or.inr rfl))
      · exact Or.inl rfl
theorem i_nat {x : Int32} (h : ¬ x < 0) : x = nI x.toNatClampNeg ∧ x.toNatClampNeg < 2147483648 := by
  obtain ⟨k, hk, e⟩ := nI_of h
  rw [e, v_cl hk]
  exact ⟨rfl, hk⟩
theorem i_rng {x : Int32} {N : Nat} (hN : N < 2147483648) (h0 : ¬ x < 0) (h : ¬ nI N < x) : x = nI x.toNatClampNeg ∧ x.toNatClampNeg ≤ N := by
  obtain ⟨e, hk⟩ := i_nat h0
  refine ⟨e, ?_⟩
  have : ¬ N < x.toNatClampNeg := fun z => h (by rw [e]; exact nI_lt z hk)
  omega
