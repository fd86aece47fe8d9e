/-! the model's commands: cable, demand -/
def n_row7 (a b s m h : Nat) : Nat → Nat := fun j => match j with
  | 0 => a
  | 1 => b
  | 2 => s
  | 3 => m
  | 4 => h
  | 5 => n_ab a b * 200
  | _ => min a b * 200
def n_row5 (a b c e h : Nat) : Nat → Nat := fun j => match j with
  | 0 => a
  | 1 => b
  | 2 => c
  | 3 => e
  | _ => h
theorem n_sum_pt {a v : Nat} {k : Nat} (h : a < k) : n_sum (fun j => if j = a then v else 0) k = v := by
  have e := n_sum_one (f := fun _ => 0) (a := a) (v := v) (k := k) rfl
  rw [if_pos h, n_sum_0 (fun _ _ => rfl), Nat.zero_add] at e
  exact e
