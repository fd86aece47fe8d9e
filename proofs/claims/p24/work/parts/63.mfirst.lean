/-! the model: firstCut, credits -/
def n_fs (kb : Nat → Nat → Nat) (nk c : Nat) (o : Option Nat) : Option Nat := match n_co kb c nk 0 with
  | none => o
  | some k => match o with
    | none => some c
    | some f => match n_co kb f nk 0 with
      | none => o
      | some kf => if kb k 2 < kb kf 2 then some c else o
def n_fc (kb : Nat → Nat → Nat) (nk m c : Nat) (o : Option Nat) : Option Nat := n_up (n_fs kb nk) m c o
theorem n_fc_s {kb : Nat → Nat → Nat} {nk m c : Nat} {o : Option Nat} : n_fc kb nk (m + 1) c o = n_fc kb nk m (c + 1) (n_fs kb nk c o) := rfl
/-- the cable that was cut first, by what it is -/
def n_fi (kb : Nat → Nat → Nat) (nk : Nat) (o : Option Nat) : Prop := match o with
  | none => ∀ k, k < nk → ¬ kb k 3 < 5
  | some c => ∃ k, k < nk ∧ kb k 3 < 5 ∧ kb k 0 = c ∧ ∀ k', k' < nk → kb k' 3 < 5 → kb k 2 < kb k' 2 ∨ (kb k 2 = kb k' 2 ∧ c ≤ kb k' 0)
theorem n_fi_u {kb : Nat → Nat → Nat} {nk : Nat} {o o' : Option Nat} (h : n_fi kb nk o) (h' : n_fi kb nk o') : o = o' := by
  cases o with
  | none =>
    cases o' with
    | none => rfl
    | some c =>
      obtain ⟨k, h1, h2, _⟩ := h'
      exact absurd h2 (h k h1)
  | some c =>
    obtain ⟨k, h1, h2, h3, h4⟩ := h
    cases o' with
    | none => exact absurd h2 (h' k h1)
    | some c' =>
      obtain ⟨k', g1, g2, g3, g4⟩ := h'
      have a := h4 k' g1 g2
      have b := g4 k h1 h2
      have e : c = c' := by omega
      rw [e]
theorem n_cf_fi {kb : Nat → Nat → Nat} {kw : Nat → Option Nat} {nk : Nat} (hkw : ∀ k, k < nk → (kw k = none ↔ kb k 3 < 5)) : n_fi kb nk (n_cf kb kw nk 0 (none, 0)).1 := by
  have key : ∀ (m k : Nat) (t : Option Nat × Nat), k + m = nk → (match t.1 with | none => ∀ j, j < k → ¬ kb j 3 < 5 | some c => ∃ j, j < k ∧ kb j 3 < 5 ∧ kb j 0 = c ∧ kb j 2 = t.2 ∧ ∀ j', j' < k → kb j' 3 < 5 → kb j 2 < kb j' 2 ∨ (kb j 2 = kb j' 2 ∧ c ≤ kb j' 0)) → n_fi kb nk (n_cf kb kw m k t).1 := by
    intro m
    induction m with
    | zero =>
      intro k t hk h
      have e : k = nk := by omega
      subst e
      show n_fi kb k t.1
      obtain ⟨t1, t2⟩ := t
      cases t1 with
      | none => exact h
      | some c =>
        obtain ⟨j, h1, h2, h3, _, h5⟩ := h
        exact ⟨j, h1, h2, h3, h5⟩
    | succ m ih =>
      intro k t hk h
      have hst : n_cf kb kw (m + 1) k t = n_cf kb kw m (k + 1) (n_cs (kw k) (kb k 0) (kb k 2) t) := rfl
      rw [hst]
      have hk1 := hkw k (by omega)
      obtain ⟨t1, t2⟩ := t
      refine ih (k + 1) _ (by omega) ?_
      unfold n_cs
      rcases hkk : kw k with _ | w
      · have ho : kb k 3 < 5 := hk1.mp hkk
        simp only
        cases t1 with
        | none =>
          simp only at h ⊢
          refine ⟨k, by omega, ho, rfl, rfl, fun j' h1 h2 => ?_⟩
          by_cases e : j' = k
          · subst e; right; exact ⟨rfl, Nat.le_refl _⟩
          · exact absurd h2 (h j' (by omega))
        | some c =>
          simp only at h ⊢
          obtain ⟨j, h1, h2, h3, h4, h5⟩ := h
          by_cases hlt : kb k 2 < t2 ∨ (kb k 2 = t2 ∧ kb k 0 < c)
          · rw [if_pos hlt]
            refine ⟨k, by omega, ho, rfl, rfl, fun j' g1 g2 => ?_⟩
            by_cases e : j' = k
            · subst e; right; exact ⟨rfl, Nat.le_refl _⟩
            · have := h5 j' (by omega) g2
              omega
          · rw [if_neg hlt]
            refine ⟨j, by omega, h2, h3, h4, fun j' g1 g2 => ?_⟩
            by_cases e : j' = k
            · subst e; omega
            · exact h5 j' (by omega) g2
      · have ho : ¬ kb k 3 < 5 := fun z => by rw [hk1.mpr z] at hkk; cases hkk
        simp only
        cases t1 with
        | none =>
          simp only at h ⊢
          intro j hj
          by_cases e : j = k
          · subst e; exact ho
          · exact h j (by omega)
        | some c =>
          simp only at h ⊢
          obtain ⟨j, h1, h2, h3, h4, h5⟩ := h
          refine ⟨j, by omega, h2, h3, h4, fun j' g1 g2 => ?_⟩
          by_cases e : j' = k
          · subst e; exact absurd g2 ho
          · exact h5 j' (by omega) g2
  exact key nk 0 (none, 0) (by omega) (fun j hj => absurd hj (Nat.not_lt_zero j))
theorem n_co_none {kb : Nat → Nat → Nat} {c : Nat} : ∀ {m k : Nat}, n_co kb c m k = none → ∀ j, k ≤ j → j < k + m → ¬ (kb j 0 = c ∧ kb j 3 < 5) := by
  intro m
  induction m with
  | zero => intro k _ j h1 h2; omega
  | succ m ih =>
    intro k h j h1 h2
    rw [n_co_s] at h
    split at h
    · cases h
    · rename_i hn
      by_cases e : j = k
      · subst e; exact hn
      · exact ih h j (by omega) (by omega)
theorem n_fc_fi {kb : Nat → Nat → Nat} {nk nc : Nat} (hk0 : ∀ k, k < nk → kb k 0 < nc) (hu : ∀ k k', k < nk → k' < nk → kb k 3 < 5 → kb k' 3 < 5 → kb k 0 = kb k' 0 → k = k') : n_fi kb nk (n_fc kb nk nc 0 none) := by
  have key : ∀ (m c : Nat) (o : Option Nat), c + m = nc → (match o with | none => ∀ j, j < nk → kb j 0 < c → ¬ kb j 3 < 5 | some f => ∃ j, j < nk ∧ kb j 3 < 5 ∧ kb j 0 = f ∧ f < c ∧ ∀ j', j' < nk → kb j' 0 < c → kb j' 3 < 5 → kb j 2 < kb j' 2 ∨ (kb j 2 = kb j' 2 ∧ f ≤ kb j' 0)) → n_fi kb nk (n_fc kb nk m c o) := by
    intro m
    induction m with
    | zero =>
      intro c o hc h
      have e : c = nc := by omega
      subst e
      show n_fi kb nk o
      cases o with
      | none => exact fun k hk => h k hk (hk0 k hk)
      | some f =>
        obtain ⟨j, h1, h2, h3, h4, h5⟩ := h
        exact ⟨j, h1, h2, h3, fun k' g1 g2 => h5 k' g1 (hk0 k' g1) g2⟩
    | succ m ih =>
      intro c o hc h
      rw [n_fc_s]
      refine ih (c + 1) _ (by omega) ?_
      unfold n_fs
      rcases hk : n_co kb c nk 0 with _ | k
      · have hno := n_co_none hk
        simp only
        cases o with
        | none =>
          simp only at h ⊢
          intro j hj hjc ho
          by_cases e : kb j 0 = c
          · exact hno j (Nat.zero_le j) (by omega) ⟨e, ho⟩
          · exact h j hj (by omega) ho
        | some f =>
          simp only at h ⊢
          obtain ⟨j, h1, h2, h3, h4, h5⟩ := h
          refine ⟨j, h1, h2, h3, by omega, fun j' g1 g2 g3 => ?_⟩
          by_cases e : kb j' 0 = c
          · exact absurd ⟨e, g3⟩ (hno j' (Nat.zero_le j') (by omega))
          · exact h5 j' g1 (by omega) g3
      · obtain ⟨_, k2, k3, k4⟩ := n_co_lt hk
        have hkn : k < nk := by omega
        simp only
        cases o with
        | none =>
          simp only at h ⊢
          refine ⟨k, hkn, k4, k3, by omega, fun j' g1 g2 g3 => ?_⟩
          by_cases e : kb j' 0 = c
          · have := hu k j' hkn g1 k4 g3 (by omega)
            subst this
            right
            exact ⟨rfl, by omega⟩
          · exact absurd g3 (h j' g1 (by omega))
        | some f =>
          simp only at h ⊢
          obtain ⟨j, h1, h2, h3, h4, h5⟩ := h
          rcases hkf : n_co kb f nk 0 with _ | kf
          · exact absurd ⟨h3, h2⟩ (n_co_none hkf j (Nat.zero_le j) (by omega))
          · obtain ⟨_, q2, q3, q4⟩ := n_co_lt hkf
            have ej := hu j kf h1 (by omega) h2 q4 (by omega)
            subst ej
            simp only
            by_cases hlt : kb k 2 < kb j 2
            · rw [if_pos hlt]
              refine ⟨k, hkn, k4, k3, by omega, fun j' g1 g2 g3 => ?_⟩
              by_cases e : kb j' 0 = c
              · have := hu k j' hkn g1 k4 g3 (by omega)
                subst this
                right
                exact ⟨rfl, by omega⟩
              · have := h5 j' g1 (by omega) g3
                omega
            · rw [if_neg hlt]
              refine ⟨j, h1, h2, h3, by omega, fun j' g1 g2 g3 => ?_⟩
              by_cases e : kb j' 0 = c
              · have := hu k j' hkn g1 k4 g3 (by omega)
                subst this
                omega
              · exact h5 j' g1 (by omega) g3
  exact key nc 0 none (by omega) (fun j _ h _ => absurd h (Nat.not_lt_zero _))
def x_A (t : (Nat → Int32) × Int32) (ar : Nat → Nat → Int32) : Prop := (∀ j, j < 6 → ar 114 j = t.1 j) ∧ ar 114 6 = t.2
theorem x_O_u {nc : Nat} {cb ow : Nat → Nat → Nat} {ar : Nat → Nat → Int32} {row : Nat → Int32} (h : x_O nc cb ow ar) : x_O nc cb ow (m_uf ar 114 row) := fun c hc => by
  obtain ⟨h1, h2, h3, h4⟩ := h c hc
  exact ⟨h1, h2, h3, fun j hj => by rw [m_uf_ne (by omega)]; exact h4 j hj⟩
