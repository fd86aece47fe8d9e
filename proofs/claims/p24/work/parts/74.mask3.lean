/-! the model: owned, isWhole, account, seal, owesAnew -/
theorem n_up_add {α : Type} {f : Nat → α → α} {b : Nat} : ∀ {a c : Nat} {s : α}, n_up f (a + b) c s = n_up f b (c + a) (n_up f a c s) := by
  intro a
  induction a with
  | zero => intro c s; rw [Nat.zero_add]; rfl
  | succ a ih =>
    intro c s
    rw [show a + 1 + b = (a + b) + 1 by omega, n_up_s, n_up_s, ih, show c + 1 + a = c + (a + 1) by omega]
def n_mf (g : Nat → Int32) : Nat → Int32 → Int32 := fun k s => if k / 6 = k % 6 then s else n_ss s (g k)
theorem n_mf_r {g : Nat → Int32} {f : Nat → Nat → Int32} {i : Nat} (hf : ∀ j, j < 6 → g (6 * i + j) = f i j) : ∀ {m j : Nat} {s : Int32}, j + m ≤ 6 → n_up (n_mf g) m (6 * i + j) s = n_sr f i m j s := by
  intro m
  induction m with
  | zero => intro j s _; rfl
  | succ m ih =>
    intro j s h
    have e : n_sr f i (m + 1) j s = n_sr f i m (j + 1) (if i = j then s else n_ss s (f i j)) := rfl
    rw [n_up_s, e, show 6 * i + j + 1 = 6 * i + (j + 1) by omega, ih (by omega)]
    refine congrArg _ ?_
    unfold n_mf
    rw [show (6 * i + j) / 6 = i by omega, show (6 * i + j) % 6 = j by omega, hf j (by omega)]
theorem n_mf_e {g : Nat → Int32} {f : Nat → Nat → Int32} (hf : ∀ i, i < 6 → ∀ j, j < 6 → g (6 * i + j) = f i j) : ∀ {m i : Nat} {s : Int32}, i + m ≤ 6 → n_up (n_mf g) (6 * m) (6 * i) s = n_se f m i s := by
  intro m
  induction m with
  | zero => intro i s _; rfl
  | succ m ih =>
    intro i s h
    have e : n_se f (m + 1) i s = n_se f m (i + 1) (n_sr f i 6 0 s) := rfl
    rw [show 6 * (m + 1) = 6 + 6 * m by omega, n_up_add, e, show 6 * i + 6 = 6 * (i + 1) by omega, ih (by omega)]
    refine congrArg _ ?_
    exact n_mf_r (j := 0) (hf i (by omega)) (by omega)
theorem v_mod6 {k : Nat} (h : k < 36) : nI k - nI k / 6 * 6 = nI (k % 6) := m_fin (p := fun k => nI k - nI k / 6 * 6 = nI (k % 6)) (n := 36) (by decide +kernel) k h
