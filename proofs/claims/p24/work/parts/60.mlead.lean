/-! the model: leadsAll -/
theorem n_mk_bit {p : Nat → Nat} {c : Nat} : ∀ {k : Nat}, n_bt (n_mk p k) c = 1 ↔ ∃ i, i < k ∧ p i = c := by
  intro k
  induction k with
  | zero =>
    refine ⟨fun z => ?_, fun ⟨i, h, _⟩ => absurd h (Nat.not_lt_zero i)⟩
    have e : n_bt (n_mk p 0) c = 0 := by show 0 / 2 ^ c % 2 = 0; rw [Nat.zero_div]
    rw [e] at z
    cases z
  | succ k ih =>
    show (n_mk p k ||| 2 ^ p k) / 2 ^ c % 2 = 1 ↔ _
    rw [n_bit_or]
    have ih' : n_mk p k / 2 ^ c % 2 = 1 ↔ ∃ i, i < k ∧ p i = c := ih
    rw [ih']
    constructor
    · rintro (⟨i, h1, h2⟩ | h)
      · exact ⟨i, by omega, h2⟩
      · exact ⟨k, by omega, h.symm⟩
    · rintro ⟨i, h1, h2⟩
      by_cases e : i = k
      · subst e
        exact Or.inr h2.symm
      · exact Or.inl ⟨i, by omega, h2⟩
theorem n_mk_lt {p : Nat → Nat} : ∀ {k : Nat}, (∀ i, i < k → p i < 10) → n_mk p k < 1024 := by
  intro k
  induction k with
  | zero => intro _; show 0 < 1024; omega
  | succ k ih =>
    intro h
    exact n_or_lt (n := 10) (ih (fun i hi => h i (by omega))) (h k (by omega))
theorem n_sum_one {f : Nat → Nat} {a v : Nat} : ∀ {k : Nat}, f a = 0 → n_sum (fun c => if c = a then v else f c) k = n_sum f k + if a < k then v else 0 := by
  intro k
  induction k with
  | zero => intro _; rw [if_neg (Nat.not_lt_zero a)]; rfl
  | succ k ih =>
    intro h
    show n_sum (fun c => if c = a then v else f c) k + (if k = a then v else f k) = n_sum f k + f k + if a < k + 1 then v else 0
    rw [ih h]
    by_cases e : k = a
    · subst e
      rw [if_pos rfl, if_neg (Nat.lt_irrefl k), if_pos (by omega), h]
    · rw [if_neg e]
      by_cases e2 : a < k
      · rw [if_pos e2, if_pos (by omega)]; omega
      · rw [if_neg e2, if_neg (by omega)]; omega
theorem n_sum_mk {p G : Nat → Nat} {nc : Nat} : ∀ {k : Nat}, (∀ i, i < k → p i < nc) → (∀ i j, i < j → j < k → p i ≠ p j) → n_sum (fun i => G (p i)) k = n_sum (fun c => if n_bt (n_mk p k) c = 1 then G c else 0) nc := by
  intro k
  induction k with
  | zero =>
    intro _ _
    have h0 : ∀ m : Nat, n_sum (fun c => if n_bt (n_mk p 0) c = 1 then G c else 0) m = 0 := by
      intro m
      induction m with
      | zero => rfl
      | succ m ih =>
        have e : ¬ n_bt (n_mk p 0) m = 1 := fun z => by obtain ⟨i, h, _⟩ := n_mk_bit.mp z; exact absurd h (Nat.not_lt_zero i)
        show n_sum (fun c => if n_bt (n_mk p 0) c = 1 then G c else 0) m + (if n_bt (n_mk p 0) m = 1 then G m else 0) = 0
        rw [ih, if_neg e]
    exact (h0 nc).symm
  | succ k ih =>
    intro h1 h2
    show n_sum (fun i => G (p i)) k + G (p k) = _
    rw [ih (fun i hi => h1 i (by omega)) (fun i j a b => h2 i j a (by omega))]
    have hk : ¬ n_bt (n_mk p k) (p k) = 1 := fun z => by
      obtain ⟨i, a, b⟩ := n_mk_bit.mp z
      exact h2 i k a (by omega) b
    have e := n_sum_one (f := fun c => if n_bt (n_mk p k) c = 1 then G c else 0) (a := p k) (v := G (p k)) (k := nc) (if_neg hk)
    rw [if_pos (h1 k (by omega))] at e
    rw [← e]
    refine n_sum_cg (fun c hc => ?_)
    show (if c = p k then G (p k) else if n_bt (n_mk p k) c = 1 then G c else 0) = if n_bt (n_mk p (k + 1)) c = 1 then G c else 0
    by_cases e1 : c = p k
    · rw [if_pos e1, if_pos (n_mk_bit.mpr ⟨k, by omega, e1.symm⟩), e1]
    · rw [if_neg e1]
      by_cases e2 : n_bt (n_mk p k) c = 1
      · obtain ⟨i, a, b⟩ := n_mk_bit.mp e2
        rw [if_pos e2, if_pos (n_mk_bit.mpr ⟨i, by omega, b⟩)]
      · rw [if_neg e2, if_neg (fun z => ?_)]
        obtain ⟨i, a, b⟩ := n_mk_bit.mp z
        by_cases e3 : i = k
        · subst e3; exact e1 b.symm
        · exact e2 (n_mk_bit.mpr ⟨i, by omega, b⟩)
theorem n_Ls_sum {fr : Nat → Nat → Nat} {ln L : Nat → Nat} {mask dm ds o : Nat} : ∀ {k : Nat}, n_Ls fr ln L mask dm ds k o = L o + n_sum (fun c => if n_bt mask c = 1 then n_tk (fr c) dm ds o * ln c else 0) k := by
  intro k
  induction k with
  | zero => rfl
  | succ k ih =>
    show n_Ls fr ln L mask dm ds k o + _ = L o + (_ + _)
    rw [ih, Nat.add_assoc]
