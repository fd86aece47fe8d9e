/-! the law's other calls joined: pass, storm, questions -/
theorem j_pass {m0 : Nat} {S : m_S} {x : Int32} (H : w_J m0 S) : w_C (m0 + 1) 131 95 [.ref 3, .int x, .ref 119] [.ref 94, .int x] S (fun w => w.toInt64) := by
  obtain ⟨n, nc, nd, nk, ns, sz, cb, db, sd, ow, got, s1, s2, D, ar, rq, ou, dy, rfl, ⟨hn, ca, da, ka, sa, g, hR⟩, hX, hP, hm⟩ := H
  obtain ⟨o, S0, hE0, hI⟩ := e_cpass 8 (x := x) (ou := ou) hR hP.2.1 hP.1
  have bad : ∀ t : Int32, t ≠ 0 → (t = 1 ∨ t = 2) → (o = .inr (n_xa t) ∧ S0 = (n, m_hp ar rq ou dy)) → (∀ (n' : Nat) (ar' : Nat → Nat → Int32) (rq' : Nat → Nat → Option Nat) (ou' : Nat → Int64) (dy' : Nat → m_C), x_R nc nd nk ns cb db ow got s1 s2 D ar' → ∃ (S2 : m_S), m_Ev m_cds m_my 20 95 [.ref 94, .int x] (n', m_hp ar' rq' ou' dy') (.inl (some (.int 0))) S2 ∧ ∃ ar2 : Nat → Nat → Int32, S2 = (n', m_hp ar2 rq' ou' dy') ∧ (∀ y, y < 94 → ar2 y = ar' y) ∧ x_R nc nd nk ns cb db ow got s1 s2 D ar2 ∧ ar2 94 35 = t) → w_C (m0 + 1) 131 95 [.ref 3, .int x, .ref 119] [.ref 94, .int x] (n, m_hp ar rq ou dy) (fun w => w.toInt64) := by
    intro t t0 t12 hI hM
    obtain ⟨S1, hE, n', ar', rq', ou', dy', rfl, h94, hif⟩ := l_pass 19 (x := x) (t := t) (w := 0) (Q := fun _ _ _ _ => True) ⟨o, S0, hE0, by unfold c_an; rw [if_neg t0]; exact hI⟩ (Or.inr t12)
    rw [if_neg t0] at hif
    obtain ⟨rfl, rfl, rfl, rfl⟩ := hif
    obtain ⟨S2, hE2, ar2, rfl, p1, p2, p3⟩ := hM _ _ _ ou' _ hX
    exact ⟨t, _, _, _, hE, rcv8, hE2, ⟨_, _, _, _, _, _, _, _, _, _, _, _, _, _, ar2, _, ou', _, rfl, z_R_g ⟨hn, ca, da, ka, sa, g, hR⟩ (fun x hx => p1 x (by omega)) (fun _ _ _ => rfl), p2, hP, by omega⟩, _, ar2, _, ou', _, rfl, p3, fun h => absurd h t0⟩
  by_cases c1 : ¬ x < 1 ∧ ¬ 24 < x
  · rw [if_pos c1] at hI
    by_cases c2 : D.1 + x.toNatClampNeg ≤ 500
    · rw [if_pos c2] at hI
      obtain ⟨rfl, ar1, dy1, rfl, r1, r2⟩ := hI
      obtain ⟨S1, hE, n', ar', rq', ou', dy', rfl, h94, hif⟩ := l_pass 19 (x := x) (t := 0) (w := nI (D.1 + x.toNatClampNeg)) (Q := z_R nc nd nk ns sz cb db sd ow got s1 s2 (n_hours nc nd nk ns cb db ow s1 s2 x.toNatClampNeg D)) ⟨_, _, hE0, by unfold c_an; rw [if_pos rfl]; exact ⟨rfl, n, ar1, rq, dy1, rfl, Nat.le_refl _, r2, hn, ca, da, ka, sa, g, r1⟩⟩ (Or.inl rfl)
      rw [if_pos rfl] at hif
      obtain ⟨q1, q2, q3⟩ := hif
      obtain ⟨v, S2, hE2, ar2, rfl, p1, p2⟩ := e_mpass 13 (n := n') (x := x) (rq := rq') (ou := ou') (dy := dy') (x_R_g hX h94) hP.2.1 hP.1
      rw [if_pos c1, if_pos c2] at p2
      obtain ⟨rfl, p3, p4⟩ := p2
      exact ⟨0, _, _, _, hE, rcv8, hE2, ⟨n', _, _, _, _, _, _, _, _, _, _, _, _, _, ar2, rq', ou', dy', rfl, z_R_g q3 (fun x hx => p1 x (by omega)) (fun _ _ _ => rfl), p3, pi_hours hP c2, by omega⟩, n', ar2, rq', ou', dy', rfl, p4, fun _ => q2⟩
    · rw [if_neg c2] at hI
      refine bad 2 (by decide) (Or.inr rfl) hI (fun n' ar' rq' ou' dy' h => ?_)
      obtain ⟨v, S2, hE2, ar2, rfl, p1, p2⟩ := e_mpass 13 (n := n') (x := x) (rq := rq') (ou := ou') (dy := dy') h hP.2.1 hP.1
      rw [if_pos c1, if_neg c2] at p2
      obtain ⟨rfl, p3, p4⟩ := p2
      exact ⟨_, hE2, ar2, rfl, p1, p3, p4⟩
  · rw [if_neg c1] at hI
    refine bad 1 (by decide) (Or.inl rfl) hI (fun n' ar' rq' ou' dy' h => ?_)
    obtain ⟨v, S2, hE2, ar2, rfl, p1, p2⟩ := e_mpass 13 (n := n') (x := x) (rq := rq') (ou := ou') (dy := dy') h hP.2.1 hP.1
    rw [if_neg c1] at p2
    obtain ⟨rfl, p3, p4⟩ := p2
    exact ⟨_, hE2, ar2, rfl, p1, p3, p4⟩
def w_F (m : Nat) (t : Int32) (S : m_S) : Prop := w_J m S ∧ ∃ (n : Nat) (ar : Nat → Nat → Int32) (rq : Nat → Nat → Option Nat) (ou : Nat → Int64) (dy : Nat → m_C), S = (n, m_hp ar rq ou dy) ∧ ar 94 35 = t
theorem j_storm {m0 : Nat} {S : m_S} {x y : Int32} (H : w_J m0 S) : ∃ (t : Int32) (S1 S2 : m_S), m_Ev m_cds m_my 20 130 [.ref 3, .int x, .int y] S (.inl (some (.int t))) S1 ∧ m_rcv 8 [.ref 94, .int x, .int y] S1 ∧ m_Ev m_cds m_my 20 82 [.ref 94, .int x, .int y] S1 (.inl none) S2 ∧ w_F (m0 + 1) t S2 := by
  obtain ⟨n, nc, nd, nk, ns, sz, cb, db, sd, ow, got, s1, s2, ⟨hr, o32, acc, club, sp, ⟨kb, kw, sb, sc, wh⟩, wy, ln⟩, ar, rq, ou, dy, rfl, ⟨hn, ca, da, ka, sa, g, hR⟩, hX, hP, hm⟩ := H
  obtain ⟨t, ht⟩ : ∃ t : Int32, t = n_gc (n_tf ((¬ x < 0 ∧ ¬ 1000 < x) ∧ (¬ y < x ∧ ¬ 1000 < y))) 1 1 := ⟨_, rfl⟩
  have t01 : t = 0 ∨ t = 1 := by
    rw [ht]
    unfold n_tf
    split
    · exact Or.inl (by decide)
    · exact Or.inr (by decide)
  obtain ⟨S1, hE, hZ⟩ := l_storm 19 (Z := fun S' => ∃ ar' : Nat → Nat → Int32, S' = (n, m_hp ar' rq ou dy) ∧ (∀ x, 94 ≤ x → ar' x = ar x) ∧ z_R nc nd nk ns sz cb db sd ow got x y (hr, o32, acc, club, sp, (kb, kw, sb, sc, wh), wy, ln) n ar' rq dy) (c_cstorm 17 (ou := ou) hn hR ht) t01
  by_cases t0 : t = 0
  · rw [if_pos t0] at hZ
    obtain ⟨ar', rfl, h94, hz⟩ := hZ
    obtain ⟨S2, hE2, ar2, rfl, p1, p2, p3⟩ := e_mstorm 18 (n := n) (rq := rq) (ou := ou) (dy := dy) (x_R_g hX h94) ht
    rw [if_pos t0] at p3
    exact ⟨t, _, _, hE, rcv8, hE2, ⟨n, _, _, _, _, _, _, _, _, _, _, _, _, _, ar2, rq, ou, dy, rfl, z_R_g hz (fun x hx => p1 x (by omega)) (fun _ _ _ => rfl), p3, hP, by omega⟩, n, ar2, rq, ou, dy, rfl, p2⟩
  · rw [if_neg t0] at hZ
    subst hZ
    obtain ⟨S2, hE2, ar2, rfl, p1, p2, p3⟩ := e_mstorm 18 (n := n) (rq := rq) (ou := ou) (dy := dy) hX ht
    rw [if_neg t0] at p3
    exact ⟨t, _, _, hE, rcv8, hE2, ⟨n, _, _, _, _, _, _, _, _, _, _, _, _, _, ar2, rq, ou, dy, rfl, z_R_g ⟨hn, ca, da, ka, sa, g, hR⟩ (fun x hx => p1 x (by omega)) (fun _ _ _ => rfl), p3, hP, by omega⟩, n, ar2, rq, ou, dy, rfl, p2⟩
theorem j_q {m0 n nc nd nk ns sz yL yM : Nat} {cb db sd ow : Nat → Nat → Nat} {got : Nat → Nat → Int32} {s1 s2 : Int32} {D : n_D} {ar ar2 : Nat → Nat → Int32} {rq rq2 : Nat → Nat → Option Nat} {ou ou' : Nat → Int64} {dy : Nat → m_C} {a1 a2 : List Value} {t w : Int32} {g : Int32 → Int64} (hL : m_Ev m_cds m_my 20 yL a1 (n, m_hp ar rq ou dy) (.inl (some (.int t))) (n, m_hp ar2 rq2 ou' dy)) (hM : m_Ev m_cds m_my 20 yM (.ref 94 :: a2) (n, m_hp ar2 rq2 ou' dy) (.inl (some (.int w))) (n, m_hp (m_uf ar2 94 (m_uf (ar2 94) 35 t)) rq2 ou' dy)) (hv : t = 0 → ou' 0 = g w) (hz : z_R nc nd nk ns sz cb db sd ow got s1 s2 D n ar rq dy) (hf : y_f ar rq ar2 rq2) (hX : x_R nc nd nk ns cb db ow got s1 s2 D ar) (hP : n_PI nc nd nk ns sz cb db sd ow D) (hm : sz ≤ m0) : w_C (m0 + 1) yL yM a1 (.ref 94 :: a2) (n, m_hp ar rq ou dy) g :=
  ⟨t, w, _, _, hL, rcv8, hM, ⟨n, nc, nd, nk, ns, sz, cb, db, sd, ow, got, s1, s2, D, _, rq2, ou', dy, rfl, z_R_g hz (fun x hx => by rw [m_uf_ne (by omega)]; exact hf.1 x (by omega)) hf.2, x_R_th (x_R_g hX (fun x hx => hf.1 x (by omega))), hP, by omega⟩, n, _, rq2, ou', dy, rfl, by rw [m_uf_eq, m_uf_eq], hv⟩
