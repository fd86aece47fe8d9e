/-! the model: pays -/
theorem i_subsub (a b c : Int32) : a - b - c = a - (b + c) := by
  rw [Int32.sub_eq_add_neg, Int32.sub_eq_add_neg, Int32.sub_eq_add_neg, Int32.neg_add, Int32.sub_eq_add_neg, Int32.add_assoc]
/-- the lowest owner -/
def n_lo (ow : Nat → Nat) : Nat → Nat → Option Nat
  | 0, _ => none
  | m + 1, j => if 0 < ow j then some j else n_lo ow m (j + 1)
theorem n_lo_s {ow : Nat → Nat} {m j : Nat} : n_lo ow (m + 1) j = if 0 < ow j then some j else n_lo ow m (j + 1) := rfl
theorem n_lo_lt {ow : Nat → Nat} : ∀ {m j q : Nat}, n_lo ow m j = some q → j ≤ q ∧ q < j + m := by
  intro m
  induction m with
  | zero => intro j q h; cases h
  | succ m ih =>
    intro j q h
    rw [n_lo_s] at h
    split at h
    · cases h; omega
    · have := ih h; omega
theorem n_lo_none {ow : Nat → Nat} : ∀ {m j : Nat}, n_lo ow m j = none → ∀ k, j ≤ k → k < j + m → ow k = 0 := by
  intro m
  induction m with
  | zero => intro j _ k h1 h2; omega
  | succ m ih =>
    intro j h k h1 h2
    rw [n_lo_s] at h
    split at h
    · cases h
    · by_cases e : k = j
      · subst e; omega
      · exact ih h k (by omega) (by omega)
theorem n_sum_0 {f : Nat → Nat} : ∀ {k : Nat}, (∀ j, j < k → f j = 0) → n_sum f k = 0 := by
  intro k
  induction k with
  | zero => intro _; rfl
  | succ k ih =>
    intro h
    show n_sum f k + f k = 0
    rw [ih (fun j hj => h j (by omega)), h k (by omega)]
theorem n_sum_mono {f : Nat → Nat} {a : Nat} : ∀ {b : Nat}, a ≤ b → n_sum f a ≤ n_sum f b := by
  intro b
  induction b with
  | zero => intro h; rw [show a = 0 by omega]; exact Nat.le_refl _
  | succ b ih =>
    intro h
    by_cases e : a = b + 1
    · rw [e]; exact Nat.le_refl _
    · have := ih (by omega)
      show n_sum f a ≤ n_sum f b + f b
      omega
theorem n_sum_s {f : Nat → Nat} {k : Nat} : n_sum f (k + 1) = n_sum f k + f k := rfl
def n_sh (ow : Nat → Nat) (S sum j : Nat) : Nat := sum * ow j / S
theorem n_qf_eq {ow : Nat → Nat} {S sum : Nat} : ∀ {m j : Nat} {a : Nat → Int32} {l : Int32} {w : Option Nat}, n_qf ow S sum m j (a, l, w) = ((fun k => if j ≤ k ∧ k < j + m then a k - nI (n_sh ow S sum k) else a k), l - nI (n_sum (n_sh ow S sum) (j + m) - n_sum (n_sh ow S sum) j), match w with | none => n_lo ow m j | some q => some q) := by
  intro m
  induction m with
  | zero =>
    intro j a l w
    have e1 : (fun k => if j ≤ k ∧ k < j + 0 then a k - nI (n_sh ow S sum k) else a k) = a := by
      funext k
      rw [if_neg (by omega)]
    have e2 : l - nI (n_sum (n_sh ow S sum) (j + 0) - n_sum (n_sh ow S sum) j) = l := by
      rw [Nat.add_zero, Nat.sub_self]
      exact Int32.sub_zero l
    rw [e1, e2]
    cases w <;> rfl
  | succ m ih =>
    intro j a l w
    have hst : n_qf ow S sum (m + 1) j (a, l, w) = n_qf ow S sum m (j + 1) (upd a j (a j - nI (n_sh ow S sum j)), l - nI (n_sh ow S sum j), match w with | none => if 0 < ow j then some j else none | some q => some q) := rfl
    rw [hst, ih]
    refine Prod.ext ?_ (Prod.ext ?_ ?_)
    · funext k
      show (if j + 1 ≤ k ∧ k < j + 1 + m then upd a j (a j - nI (n_sh ow S sum j)) k - nI (n_sh ow S sum k) else upd a j (a j - nI (n_sh ow S sum j)) k) = if j ≤ k ∧ k < j + (m + 1) then a k - nI (n_sh ow S sum k) else a k
      by_cases e : k = j
      · subst e
        rw [if_neg (by omega), if_pos (by omega), upd, if_pos rfl]
      · rw [upd, if_neg e]
        by_cases e2 : j ≤ k ∧ k < j + (m + 1)
        · rw [if_pos e2, if_pos (by omega)]
        · rw [if_neg e2, if_neg (by omega)]
    · show l - nI (n_sh ow S sum j) - nI (n_sum (n_sh ow S sum) (j + 1 + m) - n_sum (n_sh ow S sum) (j + 1)) = l - nI (n_sum (n_sh ow S sum) (j + (m + 1)) - n_sum (n_sh ow S sum) j)
      rw [i_subsub, v_add]
      have h1 : n_sum (n_sh ow S sum) (j + 1) ≤ n_sum (n_sh ow S sum) (j + 1 + m) := n_sum_mono (by omega)
      rw [n_sum_s] at h1 ⊢
      rw [show j + (m + 1) = j + 1 + m by omega]
      refine congrArg (fun x => l - nI x) ?_
      omega
    · cases w with
      | none =>
        show (match (if 0 < ow j then some j else none) with | none => n_lo ow m (j + 1) | some q => some q) = n_lo ow (m + 1) j
        rw [n_lo_s]
        by_cases e : 0 < ow j
        · rw [if_pos e, if_pos e]
        · rw [if_neg e, if_neg e]
      | some q => rfl
/-- an account when the owners of a cable have paid -/
theorem n_ch_eq {ow : Nat → Nat} {S sum q : Nat} {acc : Nat → Int32} (hq : n_lo ow 6 0 = some q) : ∀ j, j < 6 → n_ch ow S sum acc j = if j = q then acc j - nI (n_sh ow S sum j) - (nI sum - nI (n_sum (n_sh ow S sum) 6)) else acc j - nI (n_sh ow S sum j) := by
  intro j hj
  have hq6 := (n_lo_lt hq).2
  have e : n_ch ow S sum acc = n_qe (n_qf ow S sum 6 0 (acc, nI sum, none)) := rfl
  rw [e, n_qf_eq]
  have e0 : n_sum (n_sh ow S sum) (0 + 6) - n_sum (n_sh ow S sum) 0 = n_sum (n_sh ow S sum) 6 := by rw [Nat.zero_add]; show _ - 0 = _; exact Nat.sub_zero _
  rw [e0]
  unfold n_qe
  simp only
  rw [hq]
  simp only
  rw [if_pos (by omega)]
  by_cases e : j = q
  · subst e
    rw [if_pos rfl, upd, if_pos rfl]
  · rw [if_neg e, upd, if_neg e, if_pos (by omega)]
def x_O (nc : Nat) (cb ow : Nat → Nat → Nat) (ar : Nat → Nat → Int32) : Prop := ∀ c, c < nc → 0 < cb c 2 ∧ cb c 2 ≤ 8 ∧ n_sum (ow c) 6 = cb c 2 ∧ ∀ j, j < 6 → ar 97 (6 * c + j) = nI (ow c j) ∧ ow c j ≤ 8
