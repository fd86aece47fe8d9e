/-! the model: leads, looksAt -/
def n_pop (s : Nat) : Nat := n_sum (fun i => s / 2 ^ i % 2) 6
theorem n_pop_s {s x : Nat} (hs : s < 64) (hx : x < 6) (h : s / 2 ^ x % 2 = 0) : n_pop (s ||| 2 ^ x) = n_pop s + 1 := m_fin (p := fun s => ∀ x : Fin 6, s / 2 ^ x.val % 2 = 0 → n_pop (s ||| 2 ^ x.val) = n_pop s + 1) (n := 64) (by decide +kernel) s hs ⟨x, hx⟩ h
theorem n_pop_le {s x g : Nat} (hs : s < 64) (hx : x < 6) (hg : g < 6) (h : s / 2 ^ x % 2 = 0) (h2 : s / 2 ^ g % 2 = 0) (e : x ≠ g) : n_pop s ≤ 4 := m_fin (p := fun s => ∀ x g : Fin 6, s / 2 ^ x.val % 2 = 0 → s / 2 ^ g.val % 2 = 0 → x.val ≠ g.val → n_pop s ≤ 4) (n := 64) (by decide +kernel) s hs ⟨x, hx⟩ ⟨g, hg⟩ h h2 e
theorem n_ab_le {a b : Nat} (ha : a < 6) (hb : b < 6) : n_ab a b * 200 ≤ 1000 := by
  unfold n_ab
  split <;> omega
/-- the landings on the way take away the next one -/
def n_ld (st : Nat → Nat) (m k : Nat) (o : Option Nat) : Option Nat := n_up (fun k o => if o = some (st k) then none else o) m k o
theorem n_ld_n {st : Nat → Nat} : ∀ {m k : Nat}, n_ld st m k none = none := by
  intro m
  induction m with
  | zero => intro k; rfl
  | succ m ih =>
    intro k
    show n_ld st m (k + 1) (if (none : Option Nat) = some (st k) then none else none) = none
    rw [if_neg (fun z => by cases z)]
    exact ih
theorem n_ld_s {st : Nat → Nat} {x : Nat} : ∀ {m k : Nat}, ((∃ i, k ≤ i ∧ i < k + m ∧ st i = x) → n_ld st m k (some x) = none) ∧ ((¬ ∃ i, k ≤ i ∧ i < k + m ∧ st i = x) → n_ld st m k (some x) = some x) := by
  intro m
  induction m with
  | zero => intro k; exact ⟨fun ⟨i, h1, h2, _⟩ => absurd h2 (by omega), fun _ => rfl⟩
  | succ m ih =>
    intro k
    have e : n_ld st (m + 1) k (some x) = n_ld st m (k + 1) (if (some x : Option Nat) = some (st k) then none else some x) := rfl
    rw [e]
    by_cases h : st k = x
    · rw [if_pos (by rw [h]), n_ld_n]
      exact ⟨fun _ => rfl, fun z => absurd ⟨k, Nat.le_refl _, by omega, h⟩ z⟩
    · rw [if_neg (fun z => h (by injection z with z; exact z.symm))]
      refine ⟨fun ⟨i, h1, h2, h3⟩ => ih.1 ⟨i, ?_, by omega, h3⟩, fun z => ih.2 (fun ⟨i, h1, h2, h3⟩ => z ⟨i, by omega, by omega, h3⟩)⟩
      have : i ≠ k := fun z => h (by rw [← z]; exact h3)
      omega
theorem n_w_eq' {o : Option Nat} {k : Nat} (h : ∀ w, o = some w → w < 2147483648) (hk : k < 2147483648) : (nI k = n_w o) = (o = some k) := by
  rw [← n_w_eq h hk]
  exact propext ⟨Eq.symm, Eq.symm⟩
