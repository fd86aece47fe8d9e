/-! the model: findsWay -/
theorem n_sum_cg {f g : Nat → Nat} : ∀ {k : Nat}, (∀ j, j < k → f j = g j) → n_sum f k = n_sum g k := by
  intro k
  induction k with
  | zero => intro _; rfl
  | succ k ih =>
    intro h
    show n_sum f k + f k = n_sum g k + g k
    rw [ih (fun j hj => h j (by omega)), h k (by omega)]
theorem n_sum_u {α : Type} {p : Nat → α} {F : α → Nat} {k : Nat} {c : α} : n_sum (fun j => F (m_uf p k c j)) (k + 1) = n_sum (fun j => F (p j)) k + F c := by
  show n_sum (fun j => F (m_uf p k c j)) k + F (m_uf p k c k) = _
  rw [m_uf_eq, n_sum_cg (g := fun j => F (p j)) (fun j hj => by rw [m_uf_ne (by omega)])]
theorem nI_m1 (c : Nat) : nI c - 1 + 1 = nI c := Int32.sub_add_cancel _ _
theorem nI_dn (c : Nat) : nI (c + 1) + (-1) = nI c := by
  rw [← v_sub1 c]
  exact (Int32.sub_eq_add_neg _ _).symm
/-- what holds at a node of the search: the way so far, the landings on it -/
def x_nd (nc : Nat) (pa pb : Nat → Nat) (fo : Nat → Option Nat) (ln : Nat → Nat) (g dp h s : Nat) (p st : Nat → Nat) (l t : Nat) : Prop := st dp = h ∧ s < 64 ∧ n_pop s = dp + 1 ∧ s / 2 ^ g % 2 = 0 ∧ p_wy nc pa pb dp h s p ∧ (∀ i, i ≤ dp → st i < 6) ∧ (∀ x, x < 6 → (s / 2 ^ x % 2 = 1 ↔ ∃ i, i ≤ dp ∧ st i = x)) ∧ (∀ i, i < dp → fo (p i) ≠ none) ∧ l = n_sum (fun j => (fo (p j)).getD 0) dp ∧ t = n_sum (fun j => ln (p j)) dp ∧ l ≤ 4 * dp ∧ t ≤ 1000 * dp
theorem x_nd_s {nc g dp h s c x f l t : Nat} {pa pb ln p st : Nat → Nat} {fo : Nat → Option Nat} (H : x_nd nc pa pb fo ln g dp h s p st l t) (hc : c < nc) (hac : n_ac (pa c) (pb c) h = some x) (hpa : pa c < 6) (hpb : pb c < 6) (hx : s / 2 ^ x % 2 = 0) (hf : fo c = some f) (hf4 : f ≤ 4) (hln : ln c ≤ 1000) (hg : x ≠ g) : x_nd nc pa pb fo ln g (dp + 1) x (s ||| 2 ^ x) (m_uf p dp c) (m_uf st (dp + 1) x) (l + f) (t + ln c) := by
  obtain ⟨h1, h2, h3, h4, h5, h6, h7, h8, h9, h10, h11, h12⟩ := H
  have hx6 := n_ac_lt hpa hpb hac
  refine ⟨m_uf_eq, n_or_lt (n := 6) h2 hx6, by rw [n_pop_s h2 hx6 hx, h3], ?_, p_wy_s h5 hc hac hx, fun i hi => ?_, fun y hy => ?_, fun i hi => ?_, ?_, ?_, by omega, by omega⟩
  · have := n_bit_or (s := s) (x := x) (y := g)
    have e : ¬ (s ||| 2 ^ x) / 2 ^ g % 2 = 1 := fun z => (this.mp z).elim (fun z => by omega) (fun z => hg z.symm)
    omega
  · by_cases e : i = dp + 1
    · rw [e, m_uf_eq]; exact hx6
    · rw [m_uf_ne e]; exact h6 i (by omega)
  · rw [n_bit_or, h7 y hy]
    constructor
    · rintro (⟨i, a1, a2⟩ | e)
      · exact ⟨i, by omega, by rw [m_uf_ne (by omega)]; exact a2⟩
      · exact ⟨dp + 1, Nat.le_refl _, by rw [m_uf_eq, e]⟩
    · rintro ⟨i, a1, a2⟩
      by_cases e : i = dp + 1
      · rw [e, m_uf_eq] at a2
        exact Or.inr a2.symm
      · rw [m_uf_ne e] at a2
        exact Or.inl ⟨i, by omega, a2⟩
  · by_cases e : i = dp
    · rw [e, m_uf_eq, hf]; exact fun z => by cases z
    · rw [m_uf_ne e]; exact h8 i (by omega)
  · rw [n_sum_u (F := fun q => (fo q).getD 0), ← h9, hf]
    rfl
  · rw [n_sum_u (F := ln), ← h10]
def n_is (b : n_P) : Bool := match b with
  | none => false
  | some _ => true
theorem n_2pop {h : Nat} (hh : h < 6) : n_pop (2 ^ h) = 1 := m_fin (p := fun h => n_pop (2 ^ h) = 1) (n := 6) (by decide +kernel) h hh
theorem n_2bit {h x : Nat} : 2 ^ h / 2 ^ x % 2 = 1 ↔ x = h := by
  have := n_bit_or (s := 0) (x := h) (y := x)
  rw [Nat.zero_or] at this
  rw [this, Nat.zero_div]
  exact ⟨fun z => z.elim (fun z => absurd z (by decide)) id, Or.inr⟩
