/-! the law's commands: the club's and the model's calls end alike -/
theorem n_s1 {s : Int32} (h : ¬ s < 1) : ¬ s < 0 := fun z => h (by rw [Int32.lt_iff_toInt_lt] at z ⊢; have e0 : (0 : Int32).toInt = 0 := rfl; have e1 : (1 : Int32).toInt = 1 := rfl; omega)
theorem n_nm {a b : Int32} (ha : ¬ a < 0 ∧ a < 6) (hb : ¬ b < 0 ∧ b < 6) (h : ¬ a = b) : a.toNatClampNeg ≠ b.toNatClampNeg := by
  obtain ⟨c, _, e1, e2⟩ := n_ok_of (n := 6) (by omega) ha
  obtain ⟨c', _, e3, e4⟩ := n_ok_of (n := 6) (by omega) hb
  rw [e2, e4]
  intro z
  exact h (by rw [e1, e3, z])
theorem n_le_of {v : Nat} {s : Int32} (hv : v < 2147483648) (h8 : s.toNatClampNeg ≤ 8) (e : s = nI s.toNatClampNeg) (h : ¬ nI v < s) : s.toNatClampNeg ≤ v := by
  rw [e, nI_ltI (by omega) (by omega)] at h
  omega
theorem n_gc_t3 {a b : Int32} : ¬ n_gc a b (n_tf True) = 3 := by
  rw [n_tf_t trivial]
  unfold n_gc
  split
  · decide
  · split <;> decide
theorem n_ho {y : Int32} {nk ns : Nat} {kb : Nat → Nat → Nat} {sc : Nat → Option Nat} (h1 : y = -1 ∨ (¬ y < 0 ∧ y < nI nk)) (h2 : y = -1 ∨ (kb y.toNatClampNeg 3 < 5 ∧ n_sx sc y.toNatClampNeg ns 0 0 = 0)) (hk : nk ≤ 16) : ∀ k, n_oc y = some k → k < nk ∧ kb k 3 < 5 ∧ ∀ s, s < ns → sc s ≠ some k := by
  intro k h
  have h3 := (n_oc_w (N := nk) (by omega) h1).2 k h
  unfold n_oc at h
  by_cases e : y = -1
  · rw [if_pos e] at h; cases h
  · rw [if_neg e] at h
    cases h
    rcases h2 with h2 | ⟨h2, h4⟩
    · exact absurd h2 e
    · exact ⟨h3, h2, fun s hs => n_sx_0.mp h4 s (Nat.zero_le _) (by omega)⟩
theorem j_cable {m0 : Nat} {S : m_S} {x y s m : Int32} (H : w_J m0 S) : w_C (m0 + 1) 123 73 [.ref 3, .int x, .int y, .int s, .int m, .ref 119] [.ref 94, .int x, .int y, .int s, .int m] S (fun w => w.toInt64) := by
  obtain ⟨n, nc, nd, nk, ns, sz, cb, db, sd, ow, got, s1, s2, ⟨hr, o32, acc, club, sp, ⟨kb, kw, sb, sc, wh⟩, wy, ln⟩, ar, rq, ou, dy, rfl, ⟨hn, ca, da, ka, sa, g, hR⟩, hX, hP, hm⟩ := H
  have hk16 := hX.1.2.2.1
  obtain ⟨t, ht⟩ : ∃ t : Int32, t = n_gc (n_tf (((¬ x < 0 ∧ x < 6) ∧ (¬ y < 0 ∧ y < 6)) ∧ (¬ m < 0 ∧ m < 6))) (n_tf (¬ x = y ∧ (¬ s < 1 ∧ ¬ 8 < s))) (n_tf (nc < 10)) := ⟨_, rfl⟩
  obtain ⟨S1, hE, n', ar', rq', ou', dy', rfl, h94, hif⟩ := l_cable 19 (ou := ou) (c_ccable 16 hn hR hP.1 ht) (n_gc_ts ht)
  obtain ⟨v, S2, hE2, ar2, rfl, p1, p2, p3⟩ := e_mcable 17 (n := n') (rq := rq') (ou := ou') (dy := dy') (x_R_g hX h94) ht
  by_cases t0 : t = 0
  · rw [if_pos t0] at hif p3
    obtain ⟨q1, q2, q3⟩ := hif
    obtain ⟨rfl, q4⟩ := p3
    obtain ⟨c1, c2, c3⟩ := n_gc_0 (ht.symm.trans t0)
    refine ⟨t, _, _, _, hE, rcv8, hE2, ⟨n', _, _, _, _, _, _, _, _, _, _, _, _, _, ar2, rq', ou', dy', rfl, z_R_g q3 (fun x hx => p1 x (by omega)) (fun _ _ _ => rfl), q4, ?_, by omega⟩, n', ar2, rq', ou', dy', rfl, p2, fun _ => q2⟩
    exact pi_cable (acc' := acc) (wy' := wy) (ln' := ln) hP (by have := (i_rng (N := 8) (by omega) (n_s1 c2.2.1) c2.2.2).2; omega) (w_in (N := 6) (by omega) c1.2)
  · rw [if_neg t0] at hif p3
    obtain ⟨rfl, rfl, rfl, rfl⟩ := hif
    obtain ⟨rfl, q4⟩ := p3
    exact ⟨t, _, _, _, hE, rcv8, hE2, ⟨_, _, _, _, _, _, _, _, _, _, _, _, _, _, ar2, _, ou', _, rfl, z_R_g ⟨hn, ca, da, ka, sa, g, hR⟩ (fun x hx => p1 x (by omega)) (fun _ _ _ => rfl), q4, hP, by omega⟩, _, ar2, _, ou', _, rfl, p2, fun h => absurd h t0⟩
theorem j_demand {m0 : Nat} {S : m_S} {m x y s : Int32} (H : w_J m0 S) : w_C (m0 + 1) 124 74 [.ref 3, .int m, .int x, .int y, .int s, .ref 119] [.ref 94, .int m, .int x, .int y, .int s] S (fun w => w.toInt64) := by
  obtain ⟨n, nc, nd, nk, ns, sz, cb, db, sd, ow, got, s1, s2, ⟨hr, o32, acc, club, sp, ⟨kb, kw, sb, sc, wh⟩, wy, ln⟩, ar, rq, ou, dy, rfl, ⟨hn, ca, da, ka, sa, g, hR⟩, hX, hP, hm⟩ := H
  have hk16 := hX.1.2.2.1
  obtain ⟨t, ht⟩ : ∃ t : Int32, t = n_gc (n_tf (((¬ x < 0 ∧ x < 6) ∧ (¬ y < 0 ∧ y < 6)) ∧ (¬ m < 0 ∧ m < 6))) (n_tf (¬ x = y ∧ (¬ s < 1 ∧ ¬ 4 < s))) (n_tf (nd < 10)) := ⟨_, rfl⟩
  obtain ⟨S1, hE, n', ar', rq', ou', dy', rfl, h94, hif⟩ := l_demand 19 (ou := ou) (c_cdemand 17 hn hR hP.1 ht) (n_gc_ts ht)
  obtain ⟨v, S2, hE2, ar2, rfl, p1, p2, p3⟩ := e_mdemand 17 (n := n') (rq := rq') (ou := ou') (dy := dy') (x_R_g hX h94) ht
  by_cases t0 : t = 0
  · rw [if_pos t0] at hif p3
    obtain ⟨q1, q2, q3⟩ := hif
    obtain ⟨rfl, q4⟩ := p3
    obtain ⟨c1, c2, c3⟩ := n_gc_0 (ht.symm.trans t0)
    refine ⟨t, _, _, _, hE, rcv8, hE2, ⟨n', _, _, _, _, _, _, _, _, _, _, _, _, _, ar2, rq', ou', dy', rfl, z_R_g q3 (fun x hx => p1 x (by omega)) (fun _ _ _ => rfl), q4, ?_, by omega⟩, n', ar2, rq', ou', dy', rfl, p2, fun _ => q2⟩
    exact pi_demand (acc' := acc) hP (w_in (N := 6) (by omega) c1.2)
  · rw [if_neg t0] at hif p3
    obtain ⟨rfl, rfl, rfl, rfl⟩ := hif
    obtain ⟨rfl, q4⟩ := p3
    exact ⟨t, _, _, _, hE, rcv8, hE2, ⟨_, _, _, _, _, _, _, _, _, _, _, _, _, _, ar2, _, ou', _, rfl, z_R_g ⟨hn, ca, da, ka, sa, g, hR⟩ (fun x hx => p1 x (by omega)) (fun _ _ _ => rfl), q4, hP, by omega⟩, _, ar2, _, ou', _, rfl, p2, fun h => absurd h t0⟩
theorem j_sell {m0 : Nat} {S : m_S} {x m z s p : Int32} (H : w_J m0 S) (hm0 : m0 ≤ 511) : w_C (m0 + 1) 125 75 [.ref 3, .int x, .int m, .int z, .int s, .int p, .ref 119] [.ref 94, .int x, .int m, .int z, .int s, .int p] S (fun w => w.toInt64) := by
  obtain ⟨n, nc, nd, nk, ns, sz, cb, db, sd, ow, got, s1, s2, ⟨hr, o32, acc, club, sp, ⟨kb, kw, sb, sc, wh⟩, wy, ln⟩, ar, rq, ou, dy, rfl, ⟨hn, ca, da, ka, sa, g, hR⟩, hX, hP, hm⟩ := H
  have hk16 := hX.1.2.2.1
  obtain ⟨t, ht⟩ : ∃ t : Int32, t = n_gc (n_tf (((¬ x < 0 ∧ x < nI nc) ∧ (¬ m < 0 ∧ m < 6)) ∧ (¬ z < 0 ∧ z < 6))) (n_tf (¬ m = z ∧ ((¬ s < 1 ∧ ¬ 8 < s) ∧ (¬ p < 0 ∧ ¬ 100000 < p)))) (n_tf ((((¬ x < 0 ∧ x < nI nc) ∧ (¬ m < 0 ∧ m < 6)) ∧ (¬ z < 0 ∧ z < 6)) ∧ ¬ nI (ow x.toNatClampNeg m.toNatClampNeg) < s)) := ⟨_, rfl⟩
  obtain ⟨S1, hE, n', ar', rq', ou', dy', rfl, h94, hif⟩ := l_sell 19 (ou := ou) (c_csell 12 hn hR hP.1 (by omega) (fun c hc => by have := hX.2.2.2.1 c hc; omega) ht) (n_gc_ts ht)
  obtain ⟨v, S2, hE2, ar2, rfl, p1, p2, p3⟩ := e_msell 17 (n := n') (rq := rq') (ou := ou') (dy := dy') (x_R_g hX h94) ht
  by_cases t0 : t = 0
  · rw [if_pos t0] at hif p3
    obtain ⟨q1, q2, q3⟩ := hif
    obtain ⟨rfl, q4⟩ := p3
    obtain ⟨c1, c2, c3⟩ := n_gc_0 (ht.symm.trans t0)
    refine ⟨t, _, _, _, hE, rcv8, hE2, ⟨n', _, _, _, _, _, _, _, _, _, _, _, _, _, ar2, rq', ou', dy', rfl, z_R_g q3 (fun x hx => p1 x (by omega)) (fun _ _ _ => rfl), q4, ?_, by omega⟩, n', ar2, rq', ou', dy', rfl, p2, fun _ => q2⟩
    exact pi_sell (wy' := wy) (ln' := ln) hP (w_in (N := nc) (by have := hX.1.1; omega) c1.1.1) (w_in (N := 6) (by omega) c1.1.2) (w_in (N := 6) (by omega) c1.2) (n_nm c1.1.2 c1.2 c2.1) (by obtain ⟨e1, e2⟩ := i_rng (N := 8) (by omega) (n_s1 c2.2.1.1) c2.2.1.2; exact n_le_of (by have := (hX.2.2.2.1 _ (w_in (N := nc) (by have := hX.1.1; omega) c1.1.1)).2.2.2 _ (w_in (N := 6) (by omega) c1.1.2); omega) e2 e1 c3.2)
  · rw [if_neg t0] at hif p3
    obtain ⟨rfl, rfl, rfl, rfl⟩ := hif
    obtain ⟨rfl, q4⟩ := p3
    exact ⟨t, _, _, _, hE, rcv8, hE2, ⟨_, _, _, _, _, _, _, _, _, _, _, _, _, _, ar2, _, ou', _, rfl, z_R_g ⟨hn, ca, da, ka, sa, g, hR⟩ (fun x hx => p1 x (by omega)) (fun _ _ _ => rfl), q4, hP, by omega⟩, _, ar2, _, ou', _, rfl, p2, fun h => absurd h t0⟩
theorem j_cut {m0 : Nat} {S : m_S} {x y : Int32} (H : w_J m0 S) : w_C (m0 + 1) 126 77 [.ref 3, .int x, .int y, .ref 119] [.ref 94, .int x, .int y] S (fun w => w.toInt64) := by
  obtain ⟨n, nc, nd, nk, ns, sz, cb, db, sd, ow, got, s1, s2, ⟨hr, o32, acc, club, sp, ⟨kb, kw, sb, sc, wh⟩, wy, ln⟩, ar, rq, ou, dy, rfl, ⟨hn, ca, da, ka, sa, g, hR⟩, hX, hP, hm⟩ := H
  have hk16 := hX.1.2.2.1
  obtain ⟨t, ht⟩ : ∃ t : Int32, t = n_gc (n_tf (¬ x < 0 ∧ x < nI nc)) (n_tf ((¬ x < 0 ∧ x < nI nc) ∧ (¬ y < 0 ∧ ¬ nI (cb x.toNatClampNeg 5) < y))) (n_tf ((¬ x < 0 ∧ x < nI nc) ∧ (n_co kb x.toNatClampNeg nk 0 = none ∧ nk < 16))) := ⟨_, rfl⟩
  obtain ⟨S1, hE, n', ar', rq', ou', dy', rfl, h94, hif⟩ := l_cut 19 (ou := ou) (c_ccut 17 hn hR hP.1 (n_WI_wc hP.2.1) (fun c hc => (hP.2.2.1 c hc).2.2.2) ht) (n_gc_ts ht)
  obtain ⟨v, S2, hE2, ar2, rfl, p1, p2, p3⟩ := e_mcut 17 (n := n') (rq := rq') (ou := ou') (dy := dy') (x_R_g hX h94) hP.1 ht
  by_cases t0 : t = 0
  · rw [if_pos t0] at hif p3
    obtain ⟨q1, q2, q3⟩ := hif
    obtain ⟨rfl, q4⟩ := p3
    obtain ⟨c1, c2, c3⟩ := n_gc_0 (ht.symm.trans t0)
    refine ⟨t, _, _, _, hE, rcv8, hE2, ⟨n', _, _, _, _, _, _, _, _, _, _, _, _, _, ar2, rq', ou', dy', rfl, z_R_g q3 (fun x hx => p1 x (by omega)) (fun _ _ _ => rfl), q4, ?_, by omega⟩, n', ar2, rq', ou', dy', rfl, p2, fun _ => q2⟩
    exact pi_cut (acc' := acc) (wy' := wy) (ln' := ln) hP (w_in (N := nc) (by have := hX.1.1; omega) c1) c3.2.1
  · rw [if_neg t0] at hif p3
    obtain ⟨rfl, rfl, rfl, rfl⟩ := hif
    obtain ⟨rfl, q4⟩ := p3
    exact ⟨t, _, _, _, hE, rcv8, hE2, ⟨_, _, _, _, _, _, _, _, _, _, _, _, _, _, ar2, _, ou', _, rfl, z_R_g ⟨hn, ca, da, ka, sa, g, hR⟩ (fun x hx => p1 x (by omega)) (fun _ _ _ => rfl), q4, hP, by omega⟩, _, ar2, _, ou', _, rfl, p2, fun h => absurd h t0⟩
theorem j_send {m0 : Nat} {S : m_S} {x y : Int32} (H : w_J m0 S) : w_C (m0 + 1) 128 80 [.ref 3, .int x, .int y, .ref 119] [.ref 94, .int x, .int y] S (fun w => w.toInt64) := by
  obtain ⟨n, nc, nd, nk, ns, sz, cb, db, sd, ow, got, s1, s2, ⟨hr, o32, acc, club, sp, ⟨kb, kw, sb, sc, wh⟩, wy, ln⟩, ar, rq, ou, dy, rfl, ⟨hn, ca, da, ka, sa, g, hR⟩, hX, hP, hm⟩ := H
  have hk16 := hX.1.2.2.1
  obtain ⟨t, ht⟩ : ∃ t : Int32, t = n_gc (n_tf ((¬ x < 0 ∧ x < nI ns) ∧ (y = -1 ∨ (¬ y < 0 ∧ y < nI nk)))) (n_tf (((¬ x < 0 ∧ x < nI ns) ∧ (y = -1 ∨ (¬ y < 0 ∧ y < nI nk))) ∧ (y = -1 ∨ (kb y.toNatClampNeg 3 < 5 ∧ n_sx sc y.toNatClampNeg ns 0 0 = 0)))) (n_tf True) := ⟨_, rfl⟩
  obtain ⟨S1, hE, n', ar', rq', ou', dy', rfl, h94, hif⟩ := l_send 19 (ou := ou) (c_csend 17 hn hR (fun k hk => (hP.2.1.2.1 k hk).1) ht) ((by rcases n_gc_ts ht with h | h | h | h <;> first | exact Or.inl h | exact Or.inr (Or.inl h) | exact Or.inr (Or.inr h) | exact absurd (ht.symm.trans h) n_gc_t3))
  obtain ⟨v, S2, hE2, ar2, rfl, p1, p2, p3⟩ := e_msend 17 (n := n') (rq := rq') (ou := ou') (dy := dy') (x_R_g hX h94) ht
  by_cases t0 : t = 0
  · rw [if_pos t0] at hif p3
    obtain ⟨q1, q2, q3⟩ := hif
    obtain ⟨rfl, q4⟩ := p3
    obtain ⟨c1, c2, c3⟩ := n_gc_0 (ht.symm.trans t0)
    refine ⟨t, _, _, _, hE, rcv8, hE2, ⟨n', _, _, _, _, _, _, _, _, _, _, _, _, _, ar2, rq', ou', dy', rfl, z_R_g q3 (fun x hx => p1 x (by omega)) (fun _ _ _ => rfl), q4, ?_, by omega⟩, n', ar2, rq', ou', dy', rfl, p2, fun _ => q2⟩
    exact pi_send (acc' := acc) (wy' := wy) (ln' := ln) hP (n_ho c1.2 c2.2 hk16)
  · rw [if_neg t0] at hif p3
    obtain ⟨rfl, rfl, rfl, rfl⟩ := hif
    obtain ⟨rfl, q4⟩ := p3
    exact ⟨t, _, _, _, hE, rcv8, hE2, ⟨_, _, _, _, _, _, _, _, _, _, _, _, _, _, ar2, _, ou', _, rfl, z_R_g ⟨hn, ca, da, ka, sa, g, hR⟩ (fun x hx => p1 x (by omega)) (fun _ _ _ => rfl), q4, hP, by omega⟩, _, ar2, _, ou', _, rfl, p2, fun h => absurd h t0⟩
theorem j_fill {m0 : Nat} {S : m_S} {x y : Int32} (H : w_J m0 S) : w_C (m0 + 1) 129 81 [.ref 3, .int x, .int y, .ref 119] [.ref 94, .int x, .int y] S (fun w => w.toInt64) := by
  obtain ⟨n, nc, nd, nk, ns, sz, cb, db, sd, ow, got, s1, s2, ⟨hr, o32, acc, club, sp, ⟨kb, kw, sb, sc, wh⟩, wy, ln⟩, ar, rq, ou, dy, rfl, ⟨hn, ca, da, ka, sa, g, hR⟩, hX, hP, hm⟩ := H
  have hk16 := hX.1.2.2.1
  obtain ⟨t, ht⟩ : ∃ t : Int32, t = n_gc (n_tf (¬ x < 0 ∧ x < nI ns)) (n_tf (¬ y < 0 ∧ ¬ 10 < y)) (n_tf ((¬ x < 0 ∧ x < nI ns) ∧ (sc x.toNatClampNeg = none ∧ sb x.toNatClampNeg 1 % 200 = 0))) := ⟨_, rfl⟩
  obtain ⟨S1, hE, n', ar', rq', ou', dy', rfl, h94, hif⟩ := l_fill 19 (ou := ou) (c_cfill 17 hn hR ht) (n_gc_ts ht)
  obtain ⟨v, S2, hE2, ar2, rfl, p1, p2, p3⟩ := e_mfill 17 (n := n') (rq := rq') (ou := ou') (dy := dy') (x_R_g hX h94) ht
  by_cases t0 : t = 0
  · rw [if_pos t0] at hif p3
    obtain ⟨q1, q2, q3⟩ := hif
    obtain ⟨rfl, q4⟩ := p3
    refine ⟨t, _, _, _, hE, rcv8, hE2, ⟨n', _, _, _, _, _, _, _, _, _, _, _, _, _, ar2, rq', ou', dy', rfl, z_R_g q3 (fun x hx => p1 x (by omega)) (fun _ _ _ => rfl), q4, ?_, by omega⟩, n', ar2, rq', ou', dy', rfl, p2, fun _ => q2⟩
    exact pi_fill (acc' := acc) (wy' := wy) (ln' := ln) hP
  · rw [if_neg t0] at hif p3
    obtain ⟨rfl, rfl, rfl, rfl⟩ := hif
    obtain ⟨rfl, q4⟩ := p3
    exact ⟨t, _, _, _, hE, rcv8, hE2, ⟨_, _, _, _, _, _, _, _, _, _, _, _, _, _, ar2, _, ou', _, rfl, z_R_g ⟨hn, ca, da, ka, sa, g, hR⟩ (fun x hx => p1 x (by omega)) (fun _ _ _ => rfl), q4, hP, by omega⟩, _, ar2, _, ou', _, rfl, p2, fun h => absurd h t0⟩
