/-! the model's commands: sell -/
/-- a cable's owners behind a sale -/
def n_hd2 (f : Nat → Nat) (a b s : Nat) : Nat → Nat := fun j => if j = a then f a - s else if j = b then f b + s else f j
def n_acs (acc : Nat → Int32) (a b : Nat) (p : Int32) : Nat → Int32 := upd (upd acc a (acc a + p)) b (upd acc a (acc a + p) b - p)
def n_got (got : Nat → Nat → Int32) (a b : Nat) (p : Int32) : Nat → Nat → Int32 := fun i j => if i = a ∧ j = b then got a b + p else got i j
theorem n_hd2_sum {f : Nat → Nat} {a b s : Nat} (hab : a ≠ b) (hs : s ≤ f a) : ∀ {k : Nat}, n_sum (n_hd2 f a b s) k + (if a < k then s else 0) = n_sum f k + (if b < k then s else 0) := by
  intro k
  induction k with
  | zero => rw [if_neg (Nat.not_lt_zero a), if_neg (Nat.not_lt_zero b)]; rfl
  | succ k ih =>
    show n_sum (n_hd2 f a b s) k + n_hd2 f a b s k + _ = n_sum f k + f k + _
    have e : n_hd2 f a b s k = if k = a then f a - s else if k = b then f b + s else f k := rfl
    rw [e]
    by_cases h1 : k = a
    · subst h1
      rw [if_pos rfl, if_pos (by omega)]
      rw [if_neg (Nat.lt_irrefl k)] at ih
      by_cases h2 : b < k
      · rw [if_pos h2] at ih; rw [if_pos (by omega)]; omega
      · rw [if_neg h2] at ih; rw [if_neg (by omega)]; omega
    · rw [if_neg h1]
      by_cases h2 : k = b
      · subst h2
        rw [if_pos rfl, if_pos (show k < k + 1 by omega)]
        rw [if_neg (Nat.lt_irrefl k)] at ih
        by_cases h3 : a < k
        · rw [if_pos h3] at ih; rw [if_pos (by omega)]; omega
        · rw [if_neg h3] at ih; rw [if_neg (by omega)]; omega
      · rw [if_neg h2]
        by_cases h3 : a < k
        · rw [if_pos h3] at ih; rw [if_pos (show a < k + 1 by omega)]
          by_cases h4 : b < k
          · rw [if_pos h4] at ih; rw [if_pos (show b < k + 1 by omega)]; omega
          · rw [if_neg h4] at ih; rw [if_neg (show ¬ b < k + 1 by omega)]; omega
        · rw [if_neg h3] at ih; rw [if_neg (show ¬ a < k + 1 by omega)]
          by_cases h4 : b < k
          · rw [if_pos h4] at ih; rw [if_pos (show b < k + 1 by omega)]; omega
          · rw [if_neg h4] at ih; rw [if_neg (show ¬ b < k + 1 by omega)]; omega
theorem u_eq {f : Nat → Int32} {a : Nat} {v : Int32} : upd f a v a = v := if_pos rfl
theorem u_ne {f : Nat → Int32} {a x : Nat} {v : Int32} (h : x ≠ a) : upd f a v x = f x := if_neg h
theorem n_sum_ge {f : Nat → Nat} {j : Nat} : ∀ {k : Nat}, j < k → f j ≤ n_sum f k := by
  intro k
  induction k with
  | zero => intro h; omega
  | succ k ih =>
    intro h
    show f j ≤ n_sum f k + f k
    by_cases e : j = k
    · rw [e]; omega
    · have := ih (by omega); omega
