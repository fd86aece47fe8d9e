/-! the model: cutOf, isSentTo, freeOf -/
/-- the first cut of a cable that is not mended, from the cut k on -/
def n_co (kb : Nat → Nat → Nat) (c : Nat) : Nat → Nat → Option Nat
  | 0, _ => none
  | m + 1, k => if kb k 0 = c ∧ kb k 3 < 5 then some k else n_co kb c m (k + 1)
theorem n_co_s {kb : Nat → Nat → Nat} {c m k : Nat} : n_co kb c (m + 1) k = if kb k 0 = c ∧ kb k 3 < 5 then some k else n_co kb c m (k + 1) := rfl
theorem n_co_lt {kb : Nat → Nat → Nat} {c : Nat} : ∀ {m k w : Nat}, n_co kb c m k = some w → k ≤ w ∧ w < k + m ∧ kb w 0 = c ∧ kb w 3 < 5 := by
  intro m
  induction m with
  | zero => intro k w h; cases h
  | succ m ih =>
    intro k w h
    rw [n_co_s] at h
    split at h
    · rename_i h1
      cases h
      exact ⟨Nat.le_refl _, by omega, h1.1, h1.2⟩
    · have h2 := ih h
      exact ⟨by omega, by omega, h2.2.2⟩
/-- whether one of the ships behind s is sent to the cut k -/
def n_sx (sc : Nat → Option Nat) (k : Nat) (m s : Nat) (v : Int32) : Int32 := n_up (fun s v => if v = 0 then (if sc s = some k then 1 else 0) else 1) m s v
theorem n_sx_01 {sc : Nat → Option Nat} {k : Nat} : ∀ {m s : Nat} {v : Int32}, (v = 0 ∨ v = 1) → (n_sx sc k m s v = 0 ∨ n_sx sc k m s v = 1) := by
  intro m
  induction m with
  | zero => intro s v h; exact h
  | succ m ih =>
    intro s v h
    refine ih (v := if v = 0 then (if sc s = some k then 1 else 0) else 1) ?_
    split
    · split
      · exact Or.inr rfl
      · exact Or.inl rfl
    · exact Or.inr rfl
theorem n_sx_1 {sc : Nat → Option Nat} {k : Nat} : ∀ {m s : Nat}, n_sx sc k m s 1 = 1 := by
  intro m
  induction m with
  | zero => intro s; rfl
  | succ m ih =>
    intro s
    have e10 : ¬ (1 : Int32) = 0 := by decide
    show n_sx sc k m (s + 1) (if (1 : Int32) = 0 then (if sc s = some k then 1 else 0) else 1) = 1
    rw [if_neg e10]
    exact ih
theorem n_sx_0 {sc : Nat → Option Nat} {k : Nat} : ∀ {m s : Nat}, (n_sx sc k m s 0 = 0) ↔ ∀ t, s ≤ t → t < s + m → sc t ≠ some k := by
  intro m
  induction m with
  | zero => intro s; exact ⟨fun _ t h1 h2 => absurd h2 (by omega), fun _ => rfl⟩
  | succ m ih =>
    intro s
    have e : n_sx sc k (m + 1) s 0 = n_sx sc k m (s + 1) (if sc s = some k then 1 else 0) := by
      show n_sx sc k m (s + 1) (if (0 : Int32) = 0 then (if sc s = some k then 1 else 0) else 1) = _
      rw [if_pos rfl]
    rw [e]
    by_cases h : sc s = some k
    · rw [if_pos h, n_sx_1]
      exact ⟨fun z => absurd z (by decide), fun z => absurd h (z s (Nat.le_refl _) (by omega))⟩
    · rw [if_neg h, ih]
      refine ⟨fun z t h1 h2 => ?_, fun z t h1 h2 => z t (by omega) (by omega)⟩
      by_cases e2 : t = s
      · rw [e2]; exact h
      · exact z t (by omega) (by omega)
/-- the model's free strands -/
def x_F (nc : Nat) (fr : Nat → Nat → Nat) (ar : Nat → Nat → Int32) : Prop := ∀ c, c < nc → ∀ j, j < 6 → ar 115 (6 * c + j) = nI (fr c j)
/-- what a demand would take of others on a cable, in the model: with the round -/
def n_mo (kb : Nat → Nat → Nat) (nk : Nat) (fr : Nat → Nat → Nat) (own : Bool) (dm ds c : Nat) : Option Nat := if n_co kb c nk 0 ≠ none ∨ n_sum (fr c) 6 < ds ∨ (own = true ∧ fr c dm < ds) then none else some (ds - fr c dm)
def n_b (b : Bool) : Int32 := if b = true then 1 else 0
theorem n_b_0 {b : Bool} : (n_b b = 0) = (¬ b = true) := by
  cases b
  · simp [n_b]
  · simp [n_b]
