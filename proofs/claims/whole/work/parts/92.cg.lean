/-! the club's half and the model's half of the heap -/
theorem z_R_g {nc nd nk ns sz n : Nat} {cb db sd ow : Nat → Nat → Nat} {got : Nat → Nat → Int32} {s1 s2 : Int32} {D : n_D} {a b : Nat → Nat → Int32} {rq rq' : Nat → Nat → Option Nat} {dy : Nat → m_C} (h : z_R nc nd nk ns sz cb db sd ow got s1 s2 D n a rq dy) (ha : ∀ x, x < 40 ∨ (76 ≤ x ∧ x < 94) → b x = a x) (hq : ∀ x, x ≠ 41 → x ≠ 54 → rq' x = rq x) : z_R nc nd nk ns sz cb db sd ow got s1 s2 D n b rq' dy := by
  obtain ⟨hn, ca, da, ka, sa, g, ⟨hC, hD, hK, hS, hL, hM, hN, h93, h9⟩, h38⟩ := h
  have b3 := ha 3 (by omega)
  have b4 := ha 4 (by omega)
  refine ⟨hn, ca, da, ka, sa, g, ⟨z_C_cg hC (by rw [b4]) (ha 6 (by omega)) (fun c hc => ha _ (by omega)) (hq 5 (by omega) (by omega)), z_D_cg hD (by rw [b4]) (ha 19 (by omega)) (ha 20 (by omega)) (hq 18 (by omega) (by omega)), z_K_cg hK (by rw [b3]) (hq 76 (by omega) (by omega)), z_S_cg hS (by rw [b3]) (hq 77 (by omega) (by omega)), hL, z_M_cg hM (by rw [b3]) (by rw [b3]) (by rw [b3]) (fun x h1 h2 => ha x (by omega)), y_N_cg hC.1 hN (by rw [b4]) (fun x h1 h2 => ha x (by omega)), by rw [ha 93 (by omega)]; exact h93, by rw [b3]; exact h9⟩, by rw [b3]; exact h38⟩
theorem x_R_g {nc nd nk ns : Nat} {cb db ow : Nat → Nat → Nat} {got : Nat → Nat → Int32} {s1 s2 : Int32} {D : n_D} {a b : Nat → Nat → Int32} (h : x_R nc nd nk ns cb db ow got s1 s2 D a) (ha : ∀ x, 94 ≤ x → b x = a x) : x_R nc nd nk ns cb db ow got s1 s2 D b := by
  obtain ⟨h0, hC, hD, hO, ⟨t1, t2, t3, t4, t5⟩, hcl, ho, hwy, h103, h97, a1, a2, a3⟩ := h
  have b94 := ha 94 (by omega)
  refine ⟨h0, x_C_cg hC (by rw [b94]) (ha _ (by omega)) (ha _ (by omega)), x_D_cg hD (by rw [b94]) (ha _ (by omega)) (ha _ (by omega)) (ha _ (by omega)) (ha _ (by omega)), x_O_cg hO (ha _ (by omega)), ⟨fun j hj => by rw [ha 114 (by omega)]; exact t1 j hj, by rw [b94]; exact t2, x_K_cg t3 (by rw [b94]) (ha _ (by omega)) (ha _ (by omega)) (ha _ (by omega)) (ha _ (by omega)), x_S_cg t4 (by rw [b94]) (ha _ (by omega)) (ha _ (by omega)) (ha _ (by omega)) (ha _ (by omega)), fun k hk => by rw [ha 107 (by omega)]; exact t5 k hk⟩, by rw [ha 114 (by omega)]; exact hcl, fun p hp q hq => by rw [ha 112 (by omega), ha 113 (by omega)]; exact ho p hp q hq, fun i hi => by rw [ha 102 (by omega), ha 103 (by omega)]; exact hwy i hi, fun i hi => by rw [ha 103 (by omega)]; exact h103 i hi, fun c h1 h2 j hj => by rw [ha 97 (by omega)]; exact h97 c h1 h2 j hj, by rw [b94]; exact a1, by rw [b94]; exact a2, by rw [b94]; exact a3⟩
/-- the law's invariant, after at most m commands; and behind both calls of a turn -/
def w_J (m : Nat) (S : m_S) : Prop := ∃ (n nc nd nk ns sz : Nat) (cb db sd ow : Nat → Nat → Nat) (got : Nat → Nat → Int32) (s1 s2 : Int32) (D : n_D) (ar : Nat → Nat → Int32) (rq : Nat → Nat → Option Nat) (ou : Nat → Int64) (dy : Nat → m_C), S = (n, m_hp ar rq ou dy) ∧ z_R nc nd nk ns sz cb db sd ow got s1 s2 D n ar rq dy ∧ x_R nc nd nk ns cb db ow got s1 s2 D ar ∧ n_PI nc nd nk ns sz cb db sd ow D ∧ sz ≤ m
def w_E (m : Nat) (t : Int32) (v : Int64) (S : m_S) : Prop := w_J m S ∧ ∃ (n : Nat) (ar : Nat → Nat → Int32) (rq : Nat → Nat → Option Nat) (ou : Nat → Int64) (dy : Nat → m_C), S = (n, m_hp ar rq ou dy) ∧ ar 94 35 = t ∧ (t = 0 → ou 0 = v)
def w_C (m yL yM : Nat) (a1 a2 : List Value) (S : m_S) (g : Int32 → Int64) : Prop := ∃ (t w : Int32) (S1 S2 : m_S), m_Ev m_cds m_my 20 yL a1 S (.inl (some (.int t))) S1 ∧ m_rcv 8 a2 S1 ∧ m_Ev m_cds m_my 20 yM a2 S1 (.inl (some (.int w))) S2 ∧ w_E m t (g w) S2
theorem rcv8 {l : List Value} {n : Nat} {ar : Nat → Nat → Int32} {rq : Nat → Nat → Option Nat} {ou : Nat → Int64} {dy : Nat → m_C} : m_rcv 8 (.ref 94 :: l) (n, m_hp ar rq ou dy) := by
  show (m_gO 8 (m_hp ar rq ou dy 94)).isSome = true
  rw [m_hp_94, m_gO_O]
  rfl
theorem n_gc_ts {t a b c : Int32} (h : t = n_gc a b c) : t = 0 ∨ t = 1 ∨ t = 2 ∨ t = 3 := h ▸ n_gc_ne
theorem w_in {x : Int32} {N : Nat} (hN : N < 2147483648) (h : ¬ x < 0 ∧ x < nI N) : x.toNatClampNeg < N := by
  obtain ⟨c, hc, _, e⟩ := n_ok_of hN h
  omega
theorem j_ship {m : Nat} {S : m_S} {x y z : Int32} (H : w_J m S) : w_C (m + 1) 127 78 [.ref 3, .int x, .int y, .int z, .ref 119] [.ref 94, .int x, .int y, .int z] S (fun w => w.toInt64) := by
  obtain ⟨n, nc, nd, nk, ns, sz, cb, db, sd, ow, got, s1, s2, ⟨hr, o32, acc, club, sp, ⟨kb, kw, sb, sc, wh⟩, wy, ln⟩, ar, rq, ou, dy, rfl, ⟨hn, ca, da, ka, sa, g, hR⟩, hX, hP, hm⟩ := H
  obtain ⟨t, ht⟩ : ∃ t : Int32, t = n_gc (n_tf (¬ x < 0 ∧ x < 6)) (n_tf ((¬ y < 10 ∧ ¬ 200 < y) ∧ (¬ z < 0 ∧ ¬ 10 < z))) (n_tf (ns < 3)) := ⟨_, rfl⟩
  obtain ⟨S1, hE, n', ar', rq', ou', dy', rfl, h94, hif⟩ := l_ship 19 (ou := ou) (c_cship 17 hn hR ht) (n_gc_ts ht)
  obtain ⟨v, S2, hE2, ar2, rfl, p1, p2, p3⟩ := e_mship 17 (n := n') (rq := rq') (ou := ou') (dy := dy') (x_R_g hX h94) ht
  by_cases t0 : t = 0
  · rw [if_pos t0] at hif p3
    obtain ⟨q1, q2, q3⟩ := hif
    obtain ⟨rfl, q4⟩ := p3
    exact ⟨t, _, _, _, hE, rcv8, hE2, ⟨n', _, _, _, _, _, _, _, _, _, _, _, _, _, ar2, rq', ou', dy', rfl, z_R_g q3 (fun x hx => p1 x (by omega)) (fun _ _ _ => rfl), q4, pi_ship (acc' := acc) (wy' := wy) (ln' := ln) hP, by omega⟩, n', ar2, rq', ou', dy', rfl, p2, fun _ => q2⟩
  · rw [if_neg t0] at hif p3
    obtain ⟨rfl, rfl, rfl, rfl⟩ := hif
    obtain ⟨rfl, q4⟩ := p3
    exact ⟨t, _, _, _, hE, rcv8, hE2, ⟨_, _, _, _, _, _, _, _, _, _, _, _, _, _, ar2, _, ou', _, rfl, z_R_g ⟨hn, ca, da, ka, sa, g, hR⟩ (fun x hx => p1 x (by omega)) (fun _ _ _ => rfl), q4, hP, by omega⟩, _, ar2, _, ou', _, rfl, p2, fun h => absurd h t0⟩
