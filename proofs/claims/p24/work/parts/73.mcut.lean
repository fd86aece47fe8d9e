/-! the model's commands: cut, send, fill, storm -/
def n_row4 (a b c e : Nat) : Nat → Nat := fun j => match j with
  | 0 => a
  | 1 => b
  | 2 => c
  | _ => e
theorem n_ab_min {a b : Nat} (ha : a < 6) (hb : b < 6) : min a b * 200 + n_ab a b * 200 ≤ 1000 := by
  unfold n_ab
  split <;> omega
def n_oc (y : Int32) : Option Nat := if y = -1 then none else some y.toNatClampNeg
theorem n_oc_w {y : Int32} {N : Nat} (hN : N < 2147483648) (h : y = -1 ∨ (¬ y < 0 ∧ y < nI N)) : n_w (n_oc y) = y ∧ ∀ k, n_oc y = some k → k < N := by
  unfold n_oc
  by_cases e : y = -1
  · rw [if_pos e, e]
    exact ⟨rfl, fun k z => by cases z⟩
  · rw [if_neg e]
    rcases h with h | h
    · exact absurd h e
    · obtain ⟨c, hc, e1, e2⟩ := n_ok_of hN h
      rw [e2]
      exact ⟨e1.symm, fun k z => by cases z; exact hc⟩
