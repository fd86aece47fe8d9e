/-! ways without pruning: what the model looks at, and that the net finds the same -/
abbrev n_P : Type := Option (Nat × (Nat → Nat) × Nat × Nat)
/-- the mask of the first k cables of a way -/
def n_mk (p : Nat → Nat) : Nat → Nat
  | 0 => 0
  | k + 1 => n_mk p k ||| 2 ^ p k
theorem n_mk_cg {p q : Nat → Nat} : ∀ {k : Nat}, (∀ i, i < k → p i = q i) → n_mk p k = n_mk q k := by
  intro k
  induction k with
  | zero => intro _; rfl
  | succ k ih =>
    intro h
    show n_mk p k ||| 2 ^ p k = n_mk q k ||| 2 ^ q k
    rw [ih (fun i hi => h i (by omega)), h k (by omega)]
theorem n_mk_u {p : Nat → Nat} {k c : Nat} : n_mk (m_uf p k c) (k + 1) = n_mk p k ||| 2 ^ c := by
  show n_mk (m_uf p k c) k ||| 2 ^ (m_uf p k c k) = _
  rw [m_uf_eq, n_mk_cg (q := p) (fun i hi => m_uf_ne (by omega))]
def p_bt (l t : Nat) (q : Nat × (Nat → Nat) × Nat × Nat) : Prop := l < q.2.2.1 ∨ (l = q.2.2.1 ∧ t < q.2.2.2)
theorem p_bt_dec {l t : Nat} {q : Nat × (Nat → Nat) × Nat × Nat} : p_bt l t q ∨ ¬ p_bt l t q := Classical.em _
def p_look (k : Nat) (p : Nat → Nat) (l t : Nat) (b : n_P) : n_P := match b with
  | none => some (k, p, l, t)
  | some q => if l < q.2.2.1 ∨ (l = q.2.2.1 ∧ t < q.2.2.2) then some (k, p, l, t) else some q
def p_st (fo ac : Option Nat) (g s dp : Nat) (p : Nat → Nat) (l t ln c : Nat) (go : Nat → Nat → (Nat → Nat) → Nat → Nat → n_P → n_P) (b : n_P) : n_P :=
  match fo, ac with
  | some f, some x => if s / 2 ^ x % 2 = 0 then (if x = g then p_look (dp + 1) (m_uf p dp c) (l + f) (t + ln) b else go x (s ||| 2 ^ x) (m_uf p dp c) (l + f) (t + ln) b) else b
  | _, _ => b
def p_fw (nc : Nat) (pa pb ln : Nat → Nat) (fo : Nat → Option Nat) (g : Nat) : Nat → Nat → Nat → Nat → (Nat → Nat) → Nat → Nat → n_P → n_P
  | 0, _, _, _, _, _, _, b => b
  | k + 1, dp, h, s, p, l, t, b => n_up (fun c b => p_st (fo c) (n_ac (pa c) (pb c) h) g s dp p l t (ln c) c (p_fw nc pa pb ln fo g k (dp + 1)) b) nc 0 b
theorem n_up_inv {α : Type} {f : Nat → α → α} {Q : α → Prop} {N : Nat} (h : ∀ c, c < N → ∀ b, Q b → Q (f c b)) : ∀ (m c : Nat) (b : α), c + m = N → Q b → Q (n_up f m c b) := by
  intro m
  induction m with
  | zero => intro c b _ hb; exact hb
  | succ m ih => intro c b hc hb; exact ih (c + 1) _ (by omega) (h c (by omega) b hb)
theorem n_up_inv2 {α β : Type} {f : Nat → α → α} {g : Nat → β → β} {Q : α → β → Prop} {N : Nat} (h : ∀ c, c < N → ∀ a b, Q a b → Q (f c a) (g c b)) : ∀ (m c : Nat) (a : α) (b : β), c + m = N → Q a b → Q (n_up f m c a) (n_up g m c b) := by
  intro m
  induction m with
  | zero => intro c a b _ hb; exact hb
  | succ m ih => intro c a b hc hb; exact ih (c + 1) _ _ (by omega) (h c (by omega) a b hb)
theorem p_fw_nb {nc g : Nat} {pa pb ln : Nat → Nat} {fo : Nat → Option Nat} : ∀ (k dp h s : Nat) (p : Nat → Nat) (l t : Nat) (q : Nat × (Nat → Nat) × Nat × Nat), ¬ p_bt l t q → p_fw nc pa pb ln fo g k dp h s p l t (some q) = some q := by
  intro k
  induction k with
  | zero => intro dp h s p l t q _; rfl
  | succ k ih =>
    intro dp h s p l t q hq
    refine n_up_inv (Q := fun b => b = some q) (N := nc) (fun c hc b hb => ?_) nc 0 _ (by omega) rfl
    subst hb
    unfold p_st
    split
    · rename_i f x _ _
      have hq2 : ¬ p_bt (l + f) (t + ln c) q := by
        unfold p_bt at hq ⊢
        omega
      split
      · split
        · exact if_neg hq2
        · exact ih _ _ _ _ _ _ q hq2
      · rfl
    · rfl
def p_R (most : Nat) (b : Option Nat × Nat × Nat) : n_P → Prop
  | none => b = (none, most, 7200)
  | some q => b = (some (n_mk q.2.1 q.1), q.2.2.1, q.2.2.2) ∧ q.2.2.1 ≤ most
theorem p_eq {nc g F most : Nat} {pa pb ln : Nat → Nat} {fo fo2 : Nat → Option Nat} (hfo : ∀ c, c < nc → fo2 c = fo c ∨ (fo2 c = none ∧ most = 0 ∧ ∃ f, fo c = some (f + 1))) (hF : ∀ c, c < nc → ∀ f, fo2 c = some f → f ≤ F) (hFm : F * 5 ≤ most) (hln : ∀ c, c < nc → ln c ≤ 1000) :
    ∀ (k dp h s : Nat) (p : Nat → Nat) (l t : Nat) (b : Option Nat × Nat × Nat) (b' : n_P), h ≠ g → dp + k = 5 → l ≤ F * dp → t ≤ 1000 * dp → p_R most b b' → p_R most (n_fw nc pa pb ln fo g k h s (n_mk p dp) l t b) (p_fw nc pa pb ln fo2 g k dp h s p l t b') := by
  intro k
  induction k with
  | zero =>
    intro dp h s p l t b b' hg hd hl ht hR
    unfold n_fw p_fw
    rw [if_neg hg]
    exact hR
  | succ k ih =>
    intro dp h s p l t b b' hg hd hl ht hR
    unfold n_fw p_fw
    rw [if_neg hg]
    refine n_up_inv2 (Q := p_R most) (N := nc) (fun c hc b b' hR => ?_) nc 0 b b' (by omega) hR
    rcases hfo c hc with e | ⟨e, hm0, f, e2⟩
    · rw [e]
      rcases hfc : fo c with _ | f
      · rw [n_st_n rfl]
        exact hR
      · rcases hac : n_ac (pa c) (pb c) h with _ | x
        · rw [n_st_a rfl]
          exact hR
        · have hf1 := hF c hc f (by rw [e]; exact hfc)
          have hln1 := hln c hc
          have hlf : l + f ≤ F * (dp + 1) := by rw [Nat.mul_succ]; omega
          have hlm : l + f ≤ most := by
            have h1 : F * (dp + 1) ≤ F * 5 := Nat.mul_le_mul_left F (by omega)
            omega
          have htm : t + ln c ≤ 1000 * (dp + 1) := by omega
          by_cases hs : s / 2 ^ x % 2 = 0
          · by_cases hb : n_bt2 (l + f) (t + ln c) b = true
            · rw [n_st_t rfl rfl ⟨hs, hb⟩]
              show p_R most _ (p_st (some f) (some x) g s dp p l t (ln c) c _ b')
              unfold p_st
              simp only
              rw [if_pos hs, ← n_mk_u]
              by_cases hx : x = g
              · rw [if_pos hx]
                have hn : n_fw nc pa pb ln fo g k x (s ||| 2 ^ x) (n_mk (m_uf p dp c) (dp + 1)) (l + f) (t + ln c) b = (some (n_mk (m_uf p dp c) (dp + 1)), l + f, t + ln c) := by
                  cases k <;> (unfold n_fw; rw [if_pos hx])
                rw [hn]
                have hl : p_look (dp + 1) (m_uf p dp c) (l + f) (t + ln c) b' = some (dp + 1, m_uf p dp c, l + f, t + ln c) := by
                  unfold p_look
                  cases b' with
                  | none => rfl
                  | some q =>
                    obtain ⟨h1, h2⟩ := hR
                    unfold n_bt2 at hb
                    rw [decide_eq_true_eq, h1] at hb
                    exact if_pos hb
                rw [hl]
                exact ⟨rfl, hlm⟩
              · rw [if_neg hx]
                exact ih (dp + 1) x (s ||| 2 ^ x) (m_uf p dp c) (l + f) (t + ln c) b b' hx (by omega) hlf htm hR
            · rw [n_st_f rfl rfl (fun y => hb y.2)]
              have hbd : ∃ q, b' = some q ∧ ¬ p_bt (l + f) (t + ln c) q := by
                cases b' with
                | none =>
                  exfalso
                  apply hb
                  have h1 : b = (none, most, 7200) := hR
                  unfold n_bt2
                  rw [decide_eq_true_eq, h1]
                  show l + f < most ∨ (l + f = most ∧ t + ln c < 7200)
                  omega
                | some q =>
                  refine ⟨q, rfl, fun z => hb ?_⟩
                  obtain ⟨h1, h2⟩ := hR
                  unfold n_bt2
                  rw [decide_eq_true_eq, h1]
                  exact z
              obtain ⟨q, rfl, hq⟩ := hbd
              have hp : p_st (some f) (some x) g s dp p l t (ln c) c (p_fw nc pa pb ln fo2 g k (dp + 1)) (some q) = some q := by
                unfold p_st
                simp only
                rw [if_pos hs]
                split
                · exact if_neg hq
                · exact p_fw_nb _ _ _ _ _ _ _ q hq
              show p_R most b (p_st (some f) (some x) g s dp p l t (ln c) c _ (some q))
              rw [hp]
              exact hR
          · rw [n_st_f rfl rfl (fun y => hs y.1)]
            show p_R most b (p_st (some f) (some x) g s dp p l t (ln c) c _ b')
            unfold p_st
            simp only
            rw [if_neg hs]
            exact hR
    · rw [e]
      have hn : n_st (fo c) (n_ac (pa c) (pb c) h) s (n_mk p dp) l t (ln c) c (n_fw nc pa pb ln fo g k) b = b := by
        rcases hac : n_ac (pa c) (pb c) h with _ | x
        · exact n_st_a rfl
        · refine n_st_f e2 rfl (fun y => ?_)
          have hy := y.2
          unfold n_bt2 at hy
          rw [decide_eq_true_eq] at hy
          have hb1 : b.2.1 ≤ most := by
            cases b' with
            | none =>
              have h1 : b = (none, most, 7200) := hR
              rw [h1]
              exact Nat.le_refl _
            | some q =>
              obtain ⟨h1, h2⟩ := hR
              rw [h1]
              exact h2
          omega
      rw [hn]
      exact hR
/-- what holds of the best way that is found -/
def p_ok (nc : Nat) : n_P → Prop
  | none => True
  | some q => 1 ≤ q.1 ∧ q.1 ≤ 5 ∧ (∀ i, i < q.1 → q.2.1 i < nc) ∧ (∀ i j, i < j → j < q.1 → q.2.1 i ≠ q.2.1 j) ∧ q.2.2.1 ≤ 20 ∧ q.2.2.2 ≤ 5000
theorem n_bit_or {s x y : Nat} : (s ||| 2 ^ x) / 2 ^ y % 2 = 1 ↔ (s / 2 ^ y % 2 = 1 ∨ y = x) := by
  have h1 : ∀ a : Nat, (a / 2 ^ y % 2 = 1) ↔ a.testBit y = true := fun a => by rw [Nat.testBit_eq_decide_div_mod_eq, decide_eq_true_eq]
  rw [h1, h1, Nat.testBit_or, Bool.or_eq_true, Nat.testBit_two_pow, decide_eq_true_eq]
  exact ⟨fun z => z.imp id Eq.symm, fun z => z.imp id Eq.symm⟩
theorem n_bit_01 {s x : Nat} : ¬ s / 2 ^ x % 2 = 0 ↔ s / 2 ^ x % 2 = 1 := by omega
theorem n_ac_of {a b h x : Nat} (e : n_ac a b h = some x) : (h = a ∧ x = b) ∨ (h = b ∧ x = a) := by
  unfold n_ac at e
  split at e
  · rename_i h1; cases e; exact Or.inl ⟨h1, rfl⟩
  · split at e
    · rename_i h1; cases e; exact Or.inr ⟨h1, rfl⟩
    · cases e
/-- a way so far: its cables are different, their ends were on the way -/
def p_wy (nc : Nat) (pa pb : Nat → Nat) (dp h s : Nat) (p : Nat → Nat) : Prop := s / 2 ^ h % 2 = 1 ∧ (∀ i, i < dp → p i < nc ∧ s / 2 ^ (pa (p i)) % 2 = 1 ∧ s / 2 ^ (pb (p i)) % 2 = 1) ∧ ∀ i j, i < j → j < dp → p i ≠ p j
theorem p_wy_s {nc dp h s c x : Nat} {pa pb p : Nat → Nat} (H : p_wy nc pa pb dp h s p) (hc : c < nc) (hac : n_ac (pa c) (pb c) h = some x) (hx : s / 2 ^ x % 2 = 0) : p_wy nc pa pb (dp + 1) x (s ||| 2 ^ x) (m_uf p dp c) := by
  obtain ⟨h1, h2, h3⟩ := H
  have hab := n_ac_of hac
  refine ⟨n_bit_or.mpr (Or.inr rfl), fun i hi => ?_, fun i j hij hj => ?_⟩
  · by_cases e : i = dp
    · subst e
      rw [m_uf_eq]
      refine ⟨hc, ?_, ?_⟩
      · rcases hab with ⟨a1, a2⟩ | ⟨a1, a2⟩
        · rw [← a1]; exact n_bit_or.mpr (Or.inl h1)
        · rw [← a2]; exact n_bit_or.mpr (Or.inr rfl)
      · rcases hab with ⟨a1, a2⟩ | ⟨a1, a2⟩
        · rw [← a2]; exact n_bit_or.mpr (Or.inr rfl)
        · rw [← a1]; exact n_bit_or.mpr (Or.inl h1)
    · rw [m_uf_ne e]
      obtain ⟨g1, g2, g3⟩ := h2 i (by omega)
      exact ⟨g1, n_bit_or.mpr (Or.inl g2), n_bit_or.mpr (Or.inl g3)⟩
  · have e : i ≠ dp := by omega
    rw [m_uf_ne e]
    by_cases e2 : j = dp
    · subst e2
      rw [m_uf_eq]
      intro z
      obtain ⟨g1, g2, g3⟩ := h2 i (by omega)
      rw [z] at g2 g3
      rcases hab with ⟨a1, a2⟩ | ⟨a1, a2⟩
      · rw [← a2] at g3; omega
      · rw [← a2] at g2; omega
    · rw [m_uf_ne e2]
      exact h3 i j hij (by omega)
theorem p_look_ok {nc k l t : Nat} {p : Nat → Nat} {b : n_P} (hb : p_ok nc b) (h1 : 1 ≤ k) (h2 : k ≤ 5) (h3 : ∀ i, i < k → p i < nc) (h4 : ∀ i j, i < j → j < k → p i ≠ p j) (h5 : l ≤ 20) (h6 : t ≤ 5000) : p_ok nc (p_look k p l t b) := by
  unfold p_look
  cases b with
  | none => exact ⟨h1, h2, h3, h4, h5, h6⟩
  | some q =>
    simp only
    split
    · exact ⟨h1, h2, h3, h4, h5, h6⟩
    · exact hb
theorem p_fw_ok {nc g : Nat} {pa pb ln : Nat → Nat} {fo : Nat → Option Nat} (hF : ∀ c, c < nc → ∀ f, fo c = some f → f ≤ 4) (hln : ∀ c, c < nc → ln c ≤ 1000) :
    ∀ (k dp h s : Nat) (p : Nat → Nat) (l t : Nat) (b : n_P), dp + k = 5 → l ≤ 4 * dp → t ≤ 1000 * dp → p_wy nc pa pb dp h s p → p_ok nc b → p_ok nc (p_fw nc pa pb ln fo g k dp h s p l t b) := by
  intro k
  induction k with
  | zero => intro dp h s p l t b _ _ _ _ hb; exact hb
  | succ k ih =>
    intro dp h s p l t b hd hl ht hw hb
    refine n_up_inv (Q := p_ok nc) (N := nc) (fun c hc b hb => ?_) nc 0 b (by omega) hb
    unfold p_st
    split
    · rename_i f x hf hx
      have hf1 := hF c hc f hf
      have hln1 := hln c hc
      split
      · rename_i hs
        have hw2 := p_wy_s hw hc hx hs
        split
        · exact p_look_ok hb (by omega) (by omega) (fun i hi => (hw2.2.1 i hi).1) hw2.2.2 (by omega) (by omega)
        · exact ih (dp + 1) _ _ _ _ _ b (by omega) (by omega) (by omega) hw2 hb
      · exact hb
    · exact hb
