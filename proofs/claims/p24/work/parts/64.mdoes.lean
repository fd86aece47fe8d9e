/-! an hour of a ship: what comes of it; the model's does -/
def m_u2 (f : Nat → Nat → Nat) (a b v : Nat) : Nat → Nat → Nat := m_uf f a (m_uf (f a) b v)
theorem m_u2_eq {f : Nat → Nat → Nat} {a b v : Nat} : m_u2 f a b v a b = v := by unfold m_u2; rw [m_uf_eq, m_uf_eq]
theorem m_u2_n1 {f : Nat → Nat → Nat} {a b v x : Nat} (h : x ≠ a) : m_u2 f a b v x = f x := by unfold m_u2; rw [m_uf_ne h]
theorem m_u2_n2 {f : Nat → Nat → Nat} {a b v x y : Nat} (h : y ≠ b) : m_u2 f a b v x y = f x y := by
  unfold m_u2
  by_cases e : x = a
  · rw [e, m_uf_eq, m_uf_ne h]
  · rw [m_uf_ne e]
abbrev n_W : Type := (Nat → Nat → Nat) × (Nat → Option Nat) × (Nat → Nat → Nat) × (Nat → Option Nat) × (Nat → Nat)
def n_wz (storm : Bool) (hr s k : Nat) (W : n_W) : n_W :=
  if W.2.2.1 s 1 = W.1 k 1 then
    if storm = true then W else if 0 < W.2.2.1 s 2 then
      if W.1 k 3 + 1 < 5 then (m_u2 W.1 k 3 (W.1 k 3 + 1), W.2) else (m_u2 W.1 k 3 (W.1 k 3 + 1), m_uf W.2.1 k (some (hr + 1)), m_u2 W.2.2.1 s 2 (W.2.2.1 s 2 - 1), m_uf W.2.2.2.1 s none, m_uf W.2.2.2.2 (W.1 k 0) 1)
    else W
  else (W.1, W.2.1, m_u2 W.2.2.1 s 1 (n_sail (W.1 k 1) (W.2.2.1 s 1) (W.2.2.1 s 0)), W.2.2.2)
def n_dz (storm : Bool) (hr : Nat) (cb ow : Nat → Nat → Nat) (s : Nat) (T : (Nat → Int32) × Int32 × n_W) : (Nat → Int32) × Int32 × n_W :=
  match T.2.2.2.2.2.1 s with
  | none => T
  | some k => (n_ch (ow (T.2.2.1 k 0)) (cb (T.2.2.1 k 0) 2) 20 T.1, T.2.1 + 20, n_wz storm hr s k T.2.2)
theorem n_sail_le {t p v : Nat} (ht : t ≤ 1000) (hp : p ≤ 1000) : n_sail t p v ≤ 1000 := by
  unfold n_sail
  split <;> omega
