/-! the model: leadsAll, the method -/
def n_ldm (nc : Nat) (wh : Nat → Nat) (cb db : Nat → Nat → Nat) (own : Bool) (m i : Nat) (q : n_Q) : n_Q := n_up (fun i q => match q.2.2.1 i with | none => n_L1 nc wh cb db (if own = true then 0 else 20) i q | some _ => q) m i q
def x_Q (o32 : Nat → Nat → Int32) (nc nd : Nat) (q : n_Q) (ar : Nat → Nat → Int32) : Prop := x_F nc q.1 ar ∧ (∀ i, i < 6 → ∀ j, j < 6 → ar 112 (6 * i + j) = o32 i j + nI (q.2.1 i j)) ∧ (∀ i, i < nd → ar 102 i = n_w (q.2.2.1 i)) ∧ (∀ i, i < nd → ar 103 i = nI (q.2.2.2 i)) ∧ (∀ i, nd ≤ i → ar 103 i = 0)
def x_wc (nc nk : Nat) (wh : Nat → Nat) (kb : Nat → Nat → Nat) : Prop := ∀ c, c < nc → (wh c = 0 ↔ n_co kb c nk 0 ≠ none)
theorem n_ldm_s {nc m i : Nat} {wh : Nat → Nat} {cb db : Nat → Nat → Nat} {own : Bool} {q : n_Q} : n_ldm nc wh cb db own (m + 1) i q = n_ldm nc wh cb db own m (i + 1) (match q.2.2.1 i with | none => n_L1 nc wh cb db (if own = true then 0 else 20) i q | some _ => q) := rfl
/-- in the first round no demand is led yet -/
theorem n_ld1_m {nc : Nat} {wh : Nat → Nat} {cb db : Nat → Nat → Nat} : ∀ {m i : Nat} {q : n_Q}, (∀ j, i ≤ j → q.2.2.1 j = none) → n_ld1 nc wh cb db m i q = n_ldm nc wh cb db true m i q := by
  intro m
  induction m with
  | zero => intro i q _; rfl
  | succ m ih =>
    intro i q h
    rw [n_ldm_s, h i (Nat.le_refl _)]
    show n_ld1 nc wh cb db m (i + 1) (n_L1 nc wh cb db 0 i q) = n_ldm nc wh cb db true m (i + 1) (n_L1 nc wh cb db 0 i q)
    refine ih (fun j hj => ?_)
    unfold n_L1 n_l1
    split
    · exact h j (by omega)
    · show m_uf q.2.2.1 i _ j = none
      rw [m_uf_ne (by omega)]
      exact h j (by omega)
theorem n_ld2_m {nc : Nat} {wh : Nat → Nat} {cb db : Nat → Nat → Nat} {m i : Nat} {q : n_Q} : n_ld2 nc wh cb db m i q = n_ldm nc wh cb db false m i q := rfl
