/-! longs, and the mask of whole cables -/
def nL (z : Int) : Int64 := Int64.ofInt z
theorem nL_add (a b : Int) : nL a + nL b = nL (a + b) := (Int64.ofInt_add a b).symm
theorem nL_sub (a b : Int) : nL a - nL b = nL (a - b) := (Int64.ofInt_sub a b).symm
theorem nL_mul (a b : Int) : nL a * nL b = nL (a * b) := (Int64.ofInt_mul a b).symm
theorem nL_ii {z : Int} (h1 : -2147483648 ≤ z) (h2 : z < 2147483648) : (Int32.ofInt z).toInt64 = nL z := Int32.toInt64_ofInt (by rw [Int32.toInt_minValue]; omega) (by rw [Int32.toInt_maxValue]; omega)
theorem nL_i {u : Nat} (h : u < 2147483648) : (nI u).toInt64 = nL (u : Int) := by
  rw [nI_i]
  exact nL_ii (by omega) (by omega)
theorem nL_toInt {a : Int} (h1 : -4611686018427387904 < a) (h2 : a < 4611686018427387904) : (nL a).toInt = a := Int64.toInt_ofInt_of_le (by omega) (by omega)
theorem nL_lt {a b : Int} (h1 : -4611686018427387904 < a) (h2 : a < 4611686018427387904) (h3 : -4611686018427387904 < b) (h4 : b < 4611686018427387904) : (nL a < nL b) = (a < b) := by
  rw [Int64.lt_iff_toInt_lt, nL_toInt h1 h2, nL_toInt h3 h4]
theorem nL_div {t : Int} (h1 : -10000000000000 < t) (h2 : t < 10000000000000) : nL (200 * t) / 200 = nL t := by
  apply Int64.toInt_inj.mp
  have e : (200 : Int64).toInt = 200 := by decide
  rw [Int64.toInt_div_of_ne_right _ _ (by decide), nL_toInt (by omega) (by omega), nL_toInt (by omega) (by omega), e]
  exact Int.mul_tdiv_cancel_left t (by decide)
theorem nL_rem {t : Int} (h1 : -10000000000000 < t) (h2 : t < 10000000000000) : nL (200 * t) - nL (200 * t) / 200 * 200 = 0 := by
  rw [nL_div h1 h2]
  have e : (200 : Int64) = nL 200 := rfl
  rw [e, nL_mul, nL_sub, show (200 * t - t * 200 : Int) = 0 by omega]
  rfl
def n_wm (wh : Nat → Nat) : Nat → Nat
  | 0 => 0
  | k + 1 => n_wm wh k ||| wh k * 2 ^ k
theorem wm_lt {wh : Nat → Nat} : ∀ {k : Nat}, (∀ c, c < k → wh c ≤ 1) → n_wm wh k < 2 ^ k := by
  intro k
  induction k with
  | zero => intro _; exact Nat.one_pos
  | succ k ih =>
    intro h
    have h1 := ih (fun c hc => h c (by omega))
    have h2 := h k (by omega)
    show n_wm wh k ||| wh k * 2 ^ k < 2 ^ (k + 1)
    refine Nat.or_lt_two_pow (by rw [Nat.pow_succ]; omega) ?_
    rw [Nat.pow_succ]
    have h3 : wh k * 2 ^ k ≤ 1 * 2 ^ k := Nat.mul_le_mul_right _ h2
    have h4 : 0 < 2 ^ k := Nat.two_pow_pos k
    omega
theorem wm_bt {wh : Nat → Nat} : ∀ {k : Nat}, (∀ c, c < k → wh c ≤ 1) → ∀ c, n_bt (n_wm wh k) c = if c < k then wh c else 0 := by
  intro k
  induction k with
  | zero => intro _ c; rw [if_neg (Nat.not_lt_zero c)]; exact bt_0
  | succ k ih =>
    intro h c
    have h1 := ih (fun c hc => h c (by omega)) c
    have h2 := h k (by omega)
    show n_bt (n_wm wh k ||| wh k * 2 ^ k) c = _
    rcases (show wh k = 0 ∨ wh k = 1 by omega) with e | e
    · rw [e, Nat.zero_mul, Nat.or_zero, h1]
      by_cases hc : c < k
      · rw [if_pos hc, if_pos (by omega)]
      · rw [if_neg hc]
        by_cases hk : c = k
        · rw [if_pos (by omega), hk, e]
        · rw [if_neg (by omega)]
    · rw [e, Nat.one_mul, bt_or, h1]
      by_cases hk : c = k
      · rw [if_pos hk, if_pos (by omega), hk, e]
      · rw [if_neg hk]
        by_cases hc : c < k
        · rw [if_pos hc, if_pos (by omega)]
        · rw [if_neg hc, if_neg (by omega)]
theorem g_shl {w k : Nat} (hw : w ≤ 1) (hk : k < 10) : nI w <<< (nI k &&& 31) = nI (w * 2 ^ k) := by
  rcases (show w = 0 ∨ w = 1 by omega) with e | e
  · subst e
    rw [Nat.zero_mul]
    exact m_fin (p := fun k => nI 0 <<< (nI k &&& 31) = nI 0) (n := 10) (by decide +kernel) k hk
  · subst e
    rw [Nat.one_mul]
    exact v_shl1 hk
theorem g_not {w W : Nat} (h : ∀ c, n_bt w c = 1 → n_bt W c = 1) : nI w &&& (nI W ^^^ -1) = 0 := by
  apply Int32.toBitVec_inj.mp
  show BitVec.ofNat 32 w &&& (BitVec.ofNat 32 W ^^^ (-1 : Int32).toBitVec) = 0#32
  have e : (-1 : Int32).toBitVec = BitVec.allOnes 32 := by decide
  rw [e]
  apply BitVec.eq_of_getLsbD_eq
  intro i hi
  have h1 := h i
  rw [bt_tb, bt_tb] at h1
  simp only [BitVec.getLsbD_and, BitVec.getLsbD_xor, BitVec.getLsbD_ofNat, BitVec.getLsbD_allOnes, hi, decide_true, Bool.true_and]
  cases hw : w.testBit i with
  | false => simp
  | true =>
    rw [hw] at h1
    have h2 := h1 (if_pos rfl)
    cases hW : W.testBit i with
    | false => rw [hW] at h2; exact absurd h2 (by simp)
    | true => simp
