/-! sums and bits -/
theorem pz_cg {f g : Nat → Nat} : ∀ {k : Nat}, (∀ j, j < k → f j = g j) → n_sum f k = n_sum g k := by
  intro k
  induction k with
  | zero => intro _; rfl
  | succ k ih =>
    intro h
    show n_sum f k + f k = n_sum g k + g k
    rw [ih (fun j hj => h j (by omega)), h k (by omega)]
theorem pz_add {f g : Nat → Nat} : ∀ {k : Nat}, n_sum (fun j => f j + g j) k = n_sum f k + n_sum g k := by
  intro k
  induction k with
  | zero => rfl
  | succ k ih =>
    show n_sum (fun j => f j + g j) k + (f k + g k) = (n_sum f k + f k) + (n_sum g k + g k)
    rw [ih]
    omega
theorem pz_mul {a : Nat} {f : Nat → Nat} : ∀ {k : Nat}, n_sum (fun j => a * f j) k = a * n_sum f k := by
  intro k
  induction k with
  | zero => rfl
  | succ k ih =>
    show n_sum (fun j => a * f j) k + a * f k = a * (n_sum f k + f k)
    rw [ih, Nat.mul_add]
theorem pz_le {f g : Nat → Nat} : ∀ {k : Nat}, (∀ j, j < k → f j ≤ g j) → n_sum f k ≤ n_sum g k := by
  intro k
  induction k with
  | zero => intro _; exact Nat.le_refl _
  | succ k ih =>
    intro h
    show n_sum f k + f k ≤ n_sum g k + g k
    have h1 := ih (fun j hj => h j (by omega))
    have h2 := h k (by omega)
    omega
theorem pz_zero {k : Nat} : n_sum (fun _ => 0) k = 0 := by
  induction k with
  | zero => rfl
  | succ k ih =>
    show n_sum (fun _ => 0) k + 0 = 0
    rw [ih]
theorem pz_z {f : Nat → Nat} {k : Nat} (h : ∀ j, j < k → f j = 0) : n_sum f k = 0 := (pz_cg (g := fun _ => 0) h).trans pz_zero
theorem pz_ge {f : Nat → Nat} : ∀ {k : Nat} {j : Nat}, j < k → f j ≤ n_sum f k := by
  intro k
  induction k with
  | zero => intro j h; exact absurd h (Nat.not_lt_zero _)
  | succ k ih =>
    intro j h
    show f j ≤ n_sum f k + f k
    by_cases e : j = k
    · subst e; omega
    · have := ih (j := j) (by omega); omega
theorem pz_comm {f : Nat → Nat → Nat} {m : Nat} : ∀ {k : Nat}, n_sum (fun i => n_sum (fun j => f i j) m) k = n_sum (fun j => n_sum (fun i => f i j) k) m := by
  intro k
  induction k with
  | zero => exact (pz_zero (k := m)).symm
  | succ k ih =>
    show n_sum (fun i => n_sum (fun j => f i j) m) k + n_sum (fun j => f k j) m = n_sum (fun j => n_sum (fun i => f i j) k + f k j) m
    rw [pz_add, ih]
theorem pz_one {f g : Nat → Nat} {i : Nat} : ∀ {k : Nat}, i < k → (∀ j, j < k → j ≠ i → g j = f j) → n_sum g k + f i = n_sum f k + g i := by
  intro k
  induction k with
  | zero => intro h; exact absurd h (Nat.not_lt_zero _)
  | succ k ih =>
    intro hi h
    show (n_sum g k + g k) + f i = (n_sum f k + f k) + g i
    by_cases e : i = k
    · subst e
      have := pz_cg (f := g) (g := f) (k := i) (fun j hj => h j (by omega) (by omega))
      omega
    · have h1 := ih (by omega) (fun j hj hn => h j (by omega) hn)
      have h2 := h k (by omega) (by omega)
      omega
theorem bt_lt {w k : Nat} : n_bt w k < 2 := Nat.mod_lt _ (by omega)
theorem bt_tb {w k : Nat} : n_bt w k = if w.testBit k then 1 else 0 := by
  have h1 := Nat.testBit_eq_decide_div_mod_eq (x := w) (i := k)
  have h2 : n_bt w k < 2 := bt_lt
  unfold n_bt at *
  rw [h1]
  by_cases h : w / 2 ^ k % 2 = 1
  · simp [h]
  · have h3 : w / 2 ^ k % 2 = 0 := by omega
    simp [h3]
theorem bt_or {w c k : Nat} : n_bt (w ||| 2 ^ c) k = if k = c then 1 else n_bt w k := by
  rw [bt_tb, bt_tb, Nat.testBit_or, Nat.testBit_two_pow]
  by_cases h : k = c
  · subst h
    simp
  · have h2 : ¬ c = k := fun z => h z.symm
    simp [h, h2]
theorem bt_pow {c k : Nat} : n_bt (2 ^ c) k = if k = c then 1 else 0 := by
  rw [bt_tb, Nat.testBit_two_pow]
  by_cases h : k = c
  · subst h; simp
  · have h2 : ¬ c = k := fun z => h z.symm
    simp [h, h2]
theorem bt_0 {k : Nat} : n_bt 0 k = 0 := by unfold n_bt; simp
