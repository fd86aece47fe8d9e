/-! the commands at the arguments that the law gives -/
theorem n_gc_ts {t a b c : Int32} (h : t = n_gc a b c) : t = 0 ∨ t = 1 ∨ t = 2 ∨ t = 3 := h ▸ n_gc_ne
theorem v_ge {a b : Nat} {x : Int32} (h : b ≤ a) (ha : a < 2147483648 := by omega) (e : x = nI b := by decide) : ¬ nI a < x := by subst e; exact nI_nlt h ha
theorem v_le {a b : Nat} {x : Int32} (h : a ≤ b) (hb : b < 2147483648 := by omega) (e : x = nI b := by decide) : ¬ x < nI a := by subst e; exact nI_nlt h hb
theorem v_ok {a b : Nat} {x : Int32} (h : a < b) (hb : b < 2147483648 := by omega) (e : x = nI b := by decide) : ¬ nI a < 0 ∧ nI a < x := by subst e; exact ⟨nI_pos (by omega), nI_lt h hb⟩
theorem v_un {a b : Nat} (h : a ≠ b) (ha : a < 2147483648 := by omega) (hb : b < 2147483648 := by omega) : ¬ nI a = nI b := fun z => h ((nI_eq ha hb).mp z)
theorem k_cable (d : Nat) {n nc nd nk ns sz m : Nat} {cb db sd ow : Nat → Nat → Nat} {got : Nat → Nat → Int32} {s1 s2 : Int32} {hr : Nat} {o32 : Nat → Nat → Int32} {acc : Nat → Int32} {club sp : Int32} {kb sb : Nat → Nat → Nat} {kw sc : Nat → Option Nat} {wh : Nat → Nat} {wy : Nat → Option Nat} {ln : Nat → Nat} {ar : Nat → Nat → Int32} {rq : Nat → Nat → Option Nat} {ou : Nat → Int64} {dy : Nat → m_C} {a b s mm : Nat} (H : z_R nc nd nk ns sz cb db sd ow got s1 s2 (hr, o32, acc, club, sp, (kb, kw, sb, sc, wh), wy, ln) n ar rq dy) (hP : n_PI nc nd nk ns sz cb db sd ow (hr, o32, acc, club, sp, (kb, kw, sb, sc, wh), wy, ln)) (hQ : w_Q m nc nd cb db ow (hr, o32, acc, club, sp, (kb, kw, sb, sc, wh), wy, ln)) (ha : a < 6) (hb : b < 6) (hab : a ≠ b) (hs1 : 1 ≤ s) (hs8 : s ≤ 8) (hmm : mm < 6) (hnc : nc < 10) :
    ∃ (n' : Nat) (ar' : Nat → Nat → Int32) (rq' : Nat → Nat → Option Nat) (dy' : Nat → m_C), m_Ev m_cds m_my (d + 4) 78 [.ref 3, .int (nI a), .int (nI b), .int (nI s), .int (nI mm)] (n, m_hp ar rq ou dy) (.inl (some (.int (nI nc)))) (n', m_hp ar' rq' ou dy') ∧ (∀ x, 94 ≤ x → ar' x = ar x) ∧ z_R (nc + 1) nd nk ns sz (m_uf cb nc (n_row7 a b s mm hr)) db sd (m_uf ow nc (fun j => if j = mm then s else 0)) got s1 s2 (hr, o32, acc, club, sp, (kb, kw, sb, sc, m_uf wh nc 1), wy, ln) n' ar' rq' dy' ∧ n_PI (nc + 1) nd nk ns sz (m_uf cb nc (n_row7 a b s mm hr)) db sd (m_uf ow nc (fun j => if j = mm then s else 0)) (hr, o32, acc, club, sp, (kb, kw, sb, sc, m_uf wh nc 1), wy, ln) ∧ w_Q (m + 1) (nc + 1) nd (m_uf cb nc (n_row7 a b s mm hr)) db (m_uf ow nc (fun j => if j = mm then s else 0)) (hr, o32, acc, club, sp, (kb, kw, sb, sc, m_uf wh nc 1), wy, ln) := by
  obtain ⟨hn, ca, da, ka, sa, g, hR⟩ := H
  obtain ⟨t, ht⟩ : ∃ t : Int32, t = n_gc (n_tf (((¬ nI a < 0 ∧ nI a < 6) ∧ (¬ nI b < 0 ∧ nI b < 6)) ∧ (¬ nI mm < 0 ∧ nI mm < 6))) (n_tf (¬ nI a = nI b ∧ (¬ nI s < 1 ∧ ¬ 8 < nI s))) (n_tf (nc < 10)) := ⟨_, rfl⟩
  obtain ⟨S', hE, hA⟩ := l_cable (d + 3) (ou := ou) (c_ccable d hn hR hP.1 ht) (n_gc_ts ht)
  have t0 : t = 0 := by rw [ht, n_tf_t ⟨⟨v_ok ha, v_ok hb⟩, v_ok hmm⟩, n_tf_t ⟨v_un hab, v_ge (b := 1) hs1, v_le (b := 8) hs8⟩, n_tf_t hnc]; rfl
  unfold l_an at hA
  rw [if_pos t0] at hA hE
  obtain ⟨n', ar', rq', dy', rfl, p1, p2, p3⟩ := hA
  rw [v_cl (by omega), v_cl (by omega), v_cl (by omega), v_cl (by omega)] at p3
  refine ⟨n', ar', rq', dy', hE, p2, p3, pi_cable (acc' := acc) (wy' := wy) (ln' := ln) hP hs8 hmm, ?_⟩
  obtain ⟨q1, q2, q3, ⟨P, q4, q5⟩, q6⟩ := hQ
  refine ⟨fun c hc => ?_, q2, by have : hr ≤ m := q3; show hr ≤ m + 1; omega, ⟨P, MY_mono q4 (by omega), q5⟩, q6⟩
  by_cases e : c = nc
  · subst e
    rw [m_uf_eq, m_uf_eq]
    exact ⟨n_sum_pt hmm, hs1, ha, hb, hab⟩
  · rw [m_uf_ne e, m_uf_ne e]
    exact q1 c (by omega)
theorem k_cable10 (d : Nat) {n nc nd nk ns sz m : Nat} {cb db sd ow : Nat → Nat → Nat} {got : Nat → Nat → Int32} {s1 s2 : Int32} {hr : Nat} {o32 : Nat → Nat → Int32} {acc : Nat → Int32} {club sp : Int32} {kb sb : Nat → Nat → Nat} {kw sc : Nat → Option Nat} {wh : Nat → Nat} {wy : Nat → Option Nat} {ln : Nat → Nat} {ar : Nat → Nat → Int32} {rq : Nat → Nat → Option Nat} {ou : Nat → Int64} {dy : Nat → m_C} {a b s mm : Nat} (H : z_R nc nd nk ns sz cb db sd ow got s1 s2 (hr, o32, acc, club, sp, (kb, kw, sb, sc, wh), wy, ln) n ar rq dy) (hP : n_PI nc nd nk ns sz cb db sd ow (hr, o32, acc, club, sp, (kb, kw, sb, sc, wh), wy, ln)) (ha : a < 6) (hb : b < 6) (hab : a ≠ b) (hs1 : 1 ≤ s) (hs8 : s ≤ 8) (hmm : mm < 6) (hnc : nc = 10) :
    m_Ev m_cds m_my (d + 4) 78 [.ref 3, .int (nI a), .int (nI b), .int (nI s), .int (nI mm)] (n, m_hp ar rq ou dy) (.inl (some (.int (-1000003)))) (n, m_hp ar rq ou dy) := by
  obtain ⟨hn, ca, da, ka, sa, g, hR⟩ := H
  obtain ⟨t, ht⟩ : ∃ t : Int32, t = n_gc (n_tf (((¬ nI a < 0 ∧ nI a < 6) ∧ (¬ nI b < 0 ∧ nI b < 6)) ∧ (¬ nI mm < 0 ∧ nI mm < 6))) (n_tf (¬ nI a = nI b ∧ (¬ nI s < 1 ∧ ¬ 8 < nI s))) (n_tf (nc < 10)) := ⟨_, rfl⟩
  obtain ⟨S', hE, hA⟩ := l_cable (d + 3) (ou := ou) (c_ccable d hn hR hP.1 ht) (n_gc_ts ht)
  have t3 : t = 3 := by rw [ht, n_tf_t ⟨⟨v_ok ha, v_ok hb⟩, v_ok hmm⟩, n_tf_t ⟨v_un hab, v_ge (b := 1) hs1, v_le (b := 8) hs8⟩, n_tf_f (by omega)]; exact n_gc_3 rfl
  unfold l_an at hA
  subst t3
  rw [if_neg (by decide)] at hA hE
  subst hA
  exact hE
theorem k_demand (d : Nat) {n nc nd nk ns sz m : Nat} {cb db sd ow : Nat → Nat → Nat} {got : Nat → Nat → Int32} {s1 s2 : Int32} {hr : Nat} {o32 : Nat → Nat → Int32} {acc : Nat → Int32} {club sp : Int32} {kb sb : Nat → Nat → Nat} {kw sc : Nat → Option Nat} {wh : Nat → Nat} {wy : Nat → Option Nat} {ln : Nat → Nat} {ar : Nat → Nat → Int32} {rq : Nat → Nat → Option Nat} {ou : Nat → Int64} {dy : Nat → m_C} {a b s mm : Nat} (H : z_R nc nd nk ns sz cb db sd ow got s1 s2 (hr, o32, acc, club, sp, (kb, kw, sb, sc, wh), wy, ln) n ar rq dy) (hP : n_PI nc nd nk ns sz cb db sd ow (hr, o32, acc, club, sp, (kb, kw, sb, sc, wh), wy, ln)) (hQ : w_Q m nc nd cb db ow (hr, o32, acc, club, sp, (kb, kw, sb, sc, wh), wy, ln)) (ha : a < 6) (hb : b < 6) (hab : a ≠ b) (hs1 : 1 ≤ s) (hs4 : s ≤ 4) (hmm : mm < 6) (hnd : nd < 10) :
    ∃ (n' : Nat) (ar' : Nat → Nat → Int32) (rq' : Nat → Nat → Option Nat) (dy' : Nat → m_C), m_Ev m_cds m_my (d + 4) 79 [.ref 3, .int (nI mm), .int (nI a), .int (nI b), .int (nI s)] (n, m_hp ar rq ou dy) (.inl (some (.int (nI nd)))) (n', m_hp ar' rq' ou dy') ∧ (∀ x, 94 ≤ x → ar' x = ar x) ∧ z_R nc (nd + 1) nk ns sz cb (m_uf db nd (n_row5 mm a b s hr)) sd ow got s1 s2 (hr, o32, acc, club, sp, (kb, kw, sb, sc, wh), m_uf wy nd none, m_uf ln nd 0) n' ar' rq' dy' ∧ n_PI nc (nd + 1) nk ns sz cb (m_uf db nd (n_row5 mm a b s hr)) sd ow (hr, o32, acc, club, sp, (kb, kw, sb, sc, wh), m_uf wy nd none, m_uf ln nd 0) ∧ w_Q (m + 1) nc (nd + 1) cb (m_uf db nd (n_row5 mm a b s hr)) ow (hr, o32, acc, club, sp, (kb, kw, sb, sc, wh), m_uf wy nd none, m_uf ln nd 0) := by
  obtain ⟨hn, ca, da, ka, sa, g, hR⟩ := H
  obtain ⟨t, ht⟩ : ∃ t : Int32, t = n_gc (n_tf (((¬ nI a < 0 ∧ nI a < 6) ∧ (¬ nI b < 0 ∧ nI b < 6)) ∧ (¬ nI mm < 0 ∧ nI mm < 6))) (n_tf (¬ nI a = nI b ∧ (¬ nI s < 1 ∧ ¬ 4 < nI s))) (n_tf (nd < 10)) := ⟨_, rfl⟩
  obtain ⟨S', hE, hA⟩ := l_demand (d + 3) (ou := ou) (c_cdemand (d + 1) hn hR hP.1 ht) (n_gc_ts ht)
  have t0 : t = 0 := by rw [ht, n_tf_t ⟨⟨v_ok ha, v_ok hb⟩, v_ok hmm⟩, n_tf_t ⟨v_un hab, v_ge (b := 1) hs1, v_le (b := 4) hs4⟩, n_tf_t hnd]; rfl
  unfold l_an at hA
  rw [if_pos t0] at hA hE
  obtain ⟨n', ar', rq', dy', rfl, p1, p2, p3⟩ := hA
  rw [v_cl (by omega), v_cl (by omega), v_cl (by omega), v_cl (by omega)] at p3
  refine ⟨n', ar', rq', dy', hE, p2, p3, pi_demand (acc' := acc) hP hmm, ?_⟩
  obtain ⟨q1, q2, q3, ⟨P, q4, q5⟩, q6⟩ := hQ
  refine ⟨q1, fun i hi => ?_, by have : hr ≤ m := q3; show hr ≤ m + 1; omega, ⟨P, MY_mono q4 (by omega), q5⟩, q6⟩
  by_cases e : i = nd
  · subst e
    rw [m_uf_eq]
    exact ⟨ha, hb, hab, hs4⟩
  · rw [m_uf_ne e]
    exact q2 i (by omega)
theorem k_demand10 (d : Nat) {n nc nd nk ns sz m : Nat} {cb db sd ow : Nat → Nat → Nat} {got : Nat → Nat → Int32} {s1 s2 : Int32} {hr : Nat} {o32 : Nat → Nat → Int32} {acc : Nat → Int32} {club sp : Int32} {kb sb : Nat → Nat → Nat} {kw sc : Nat → Option Nat} {wh : Nat → Nat} {wy : Nat → Option Nat} {ln : Nat → Nat} {ar : Nat → Nat → Int32} {rq : Nat → Nat → Option Nat} {ou : Nat → Int64} {dy : Nat → m_C} {a b s mm : Nat} (H : z_R nc nd nk ns sz cb db sd ow got s1 s2 (hr, o32, acc, club, sp, (kb, kw, sb, sc, wh), wy, ln) n ar rq dy) (hP : n_PI nc nd nk ns sz cb db sd ow (hr, o32, acc, club, sp, (kb, kw, sb, sc, wh), wy, ln)) (ha : a < 6) (hb : b < 6) (hab : a ≠ b) (hs1 : 1 ≤ s) (hs4 : s ≤ 4) (hmm : mm < 6) (hnd : nd = 10) :
    m_Ev m_cds m_my (d + 4) 79 [.ref 3, .int (nI mm), .int (nI a), .int (nI b), .int (nI s)] (n, m_hp ar rq ou dy) (.inl (some (.int (-1000003)))) (n, m_hp ar rq ou dy) := by
  obtain ⟨hn, ca, da, ka, sa, g, hR⟩ := H
  obtain ⟨t, ht⟩ : ∃ t : Int32, t = n_gc (n_tf (((¬ nI a < 0 ∧ nI a < 6) ∧ (¬ nI b < 0 ∧ nI b < 6)) ∧ (¬ nI mm < 0 ∧ nI mm < 6))) (n_tf (¬ nI a = nI b ∧ (¬ nI s < 1 ∧ ¬ 4 < nI s))) (n_tf (nd < 10)) := ⟨_, rfl⟩
  obtain ⟨S', hE, hA⟩ := l_demand (d + 3) (ou := ou) (c_cdemand (d + 1) hn hR hP.1 ht) (n_gc_ts ht)
  have t3 : t = 3 := by rw [ht, n_tf_t ⟨⟨v_ok ha, v_ok hb⟩, v_ok hmm⟩, n_tf_t ⟨v_un hab, v_ge (b := 1) hs1, v_le (b := 4) hs4⟩, n_tf_f (by omega)]; exact n_gc_3 rfl
  unfold l_an at hA
  subst t3
  rw [if_neg (by decide)] at hA hE
  subst hA
  exact hE
theorem k_ship (d : Nat) {n nc nd nk ns sz m : Nat} {cb db sd ow : Nat → Nat → Nat} {got : Nat → Nat → Int32} {s1 s2 : Int32} {hr : Nat} {o32 : Nat → Nat → Int32} {acc : Nat → Int32} {club sp : Int32} {kb sb : Nat → Nat → Nat} {kw sc : Nat → Option Nat} {wh : Nat → Nat} {wy : Nat → Option Nat} {ln : Nat → Nat} {ar : Nat → Nat → Int32} {rq : Nat → Nat → Option Nat} {ou : Nat → Int64} {dy : Nat → m_C} {a v s : Nat} (H : z_R nc nd nk ns sz cb db sd ow got s1 s2 (hr, o32, acc, club, sp, (kb, kw, sb, sc, wh), wy, ln) n ar rq dy) (hP : n_PI nc nd nk ns sz cb db sd ow (hr, o32, acc, club, sp, (kb, kw, sb, sc, wh), wy, ln)) (hQ : w_Q m nc nd cb db ow (hr, o32, acc, club, sp, (kb, kw, sb, sc, wh), wy, ln)) (ha : a < 6) (hv1 : 10 ≤ v) (hv2 : v ≤ 200) (hs : s ≤ 10) (hns : ns < 3) :
    ∃ (n' : Nat) (ar' : Nat → Nat → Int32) (rq' : Nat → Nat → Option Nat) (dy' : Nat → m_C), m_Ev m_cds m_my (d + 4) 82 [.ref 3, .int (nI a), .int (nI v), .int (nI s)] (n, m_hp ar rq ou dy) (.inl (some (.int (nI ns)))) (n', m_hp ar' rq' ou dy') ∧ (∀ x, 94 ≤ x → ar' x = ar x) ∧ z_R nc nd nk (ns + 1) sz cb db sd ow got s1 s2 (hr, o32, acc, club, sp, (kb, kw, m_uf sb ns (n_row3 v (a * 200) s), m_uf sc ns none, wh), wy, ln) n' ar' rq' dy' ∧ n_PI nc nd nk (ns + 1) sz cb db sd ow (hr, o32, acc, club, sp, (kb, kw, m_uf sb ns (n_row3 v (a * 200) s), m_uf sc ns none, wh), wy, ln) ∧ w_Q (m + 1) nc nd cb db ow (hr, o32, acc, club, sp, (kb, kw, m_uf sb ns (n_row3 v (a * 200) s), m_uf sc ns none, wh), wy, ln) := by
  obtain ⟨hn, ca, da, ka, sa, g, hR⟩ := H
  obtain ⟨t, ht⟩ : ∃ t : Int32, t = n_gc (n_tf (¬ nI a < 0 ∧ nI a < 6)) (n_tf ((¬ nI v < 10 ∧ ¬ 200 < nI v) ∧ (¬ nI s < 0 ∧ ¬ 10 < nI s))) (n_tf (ns < 3)) := ⟨_, rfl⟩
  obtain ⟨S', hE, hA⟩ := l_ship (d + 3) (ou := ou) (c_cship (d + 1) hn hR ht) (n_gc_ts ht)
  have t0 : t = 0 := by rw [ht, n_tf_t (v_ok ha), n_tf_t ⟨⟨v_ge (b := 10) hv1, v_le (b := 200) hv2⟩, nI_pos (by omega), v_le (b := 10) hs⟩, n_tf_t hns]; rfl
  unfold l_an at hA
  rw [if_pos t0] at hA hE
  obtain ⟨n', ar', rq', dy', rfl, p1, p2, p3⟩ := hA
  rw [v_cl (by omega), v_cl (by omega), v_cl (by omega)] at p3
  exact ⟨n', ar', rq', dy', hE, p2, p3, pi_ship (acc' := acc) (wy' := wy) (ln' := ln) hP, w_Q_mono hQ (Nat.le_succ m)⟩
theorem k_ship3 (d : Nat) {n nc nd nk ns sz m : Nat} {cb db sd ow : Nat → Nat → Nat} {got : Nat → Nat → Int32} {s1 s2 : Int32} {hr : Nat} {o32 : Nat → Nat → Int32} {acc : Nat → Int32} {club sp : Int32} {kb sb : Nat → Nat → Nat} {kw sc : Nat → Option Nat} {wh : Nat → Nat} {wy : Nat → Option Nat} {ln : Nat → Nat} {ar : Nat → Nat → Int32} {rq : Nat → Nat → Option Nat} {ou : Nat → Int64} {dy : Nat → m_C} {a v s : Nat} (H : z_R nc nd nk ns sz cb db sd ow got s1 s2 (hr, o32, acc, club, sp, (kb, kw, sb, sc, wh), wy, ln) n ar rq dy) (ha : a < 6) (hv1 : 10 ≤ v) (hv2 : v ≤ 200) (hs : s ≤ 10) (hns : ns = 3) :
    m_Ev m_cds m_my (d + 4) 82 [.ref 3, .int (nI a), .int (nI v), .int (nI s)] (n, m_hp ar rq ou dy) (.inl (some (.int (-1000003)))) (n, m_hp ar rq ou dy) := by
  obtain ⟨hn, ca, da, ka, sa, g, hR⟩ := H
  obtain ⟨t, ht⟩ : ∃ t : Int32, t = n_gc (n_tf (¬ nI a < 0 ∧ nI a < 6)) (n_tf ((¬ nI v < 10 ∧ ¬ 200 < nI v) ∧ (¬ nI s < 0 ∧ ¬ 10 < nI s))) (n_tf (ns < 3)) := ⟨_, rfl⟩
  obtain ⟨S', hE, hA⟩ := l_ship (d + 3) (ou := ou) (c_cship (d + 1) hn hR ht) (n_gc_ts ht)
  have t3 : t = 3 := by rw [ht, n_tf_t (v_ok ha), n_tf_t ⟨⟨v_ge (b := 10) hv1, v_le (b := 200) hv2⟩, nI_pos (by omega), v_le (b := 10) hs⟩, n_tf_f (by omega)]; exact n_gc_3 rfl
  unfold l_an at hA
  subst t3
  rw [if_neg (by decide)] at hA hE
  subst hA
  exact hE
theorem k_sell (d : Nat) {n nc nd nk ns sz m : Nat} {cb db sd ow : Nat → Nat → Nat} {got : Nat → Nat → Int32} {s1 s2 : Int32} {hr : Nat} {o32 : Nat → Nat → Int32} {acc : Nat → Int32} {club sp : Int32} {kb sb : Nat → Nat → Nat} {kw sc : Nat → Option Nat} {wh : Nat → Nat} {wy : Nat → Option Nat} {ln : Nat → Nat} {ar : Nat → Nat → Int32} {rq : Nat → Nat → Option Nat} {ou : Nat → Int64} {dy : Nat → m_C} {c a b s p : Nat} (H : z_R nc nd nk ns sz cb db sd ow got s1 s2 (hr, o32, acc, club, sp, (kb, kw, sb, sc, wh), wy, ln) n ar rq dy) (hP : n_PI nc nd nk ns sz cb db sd ow (hr, o32, acc, club, sp, (kb, kw, sb, sc, wh), wy, ln)) (hQ : w_Q m nc nd cb db ow (hr, o32, acc, club, sp, (kb, kw, sb, sc, wh), wy, ln)) (hsz : sz ≤ 511) (hc : c < nc) (ha : a < 6) (hb : b < 6) (hab : a ≠ b) (hs1 : 1 ≤ s) (hs8 : s ≤ 8) (hp : p ≤ 1000) (hso : s ≤ ow c a) :
    ∃ (n' : Nat) (ar' : Nat → Nat → Int32) (rq' : Nat → Nat → Option Nat) (dy' : Nat → m_C), m_Ev m_cds m_my (d + 8) 80 [.ref 3, .int (nI c), .int (nI a), .int (nI b), .int (nI s), .int (nI p)] (n, m_hp ar rq ou dy) (.inl (some (.int (nI (ow c b + s))))) (n', m_hp ar' rq' ou dy') ∧ (∀ x, 94 ≤ x → ar' x = ar x) ∧ z_R nc nd nk ns (sz + 1) cb db (m_uf sd sz (n_row5 c a b s hr)) (m_uf ow c (n_hd2 (ow c) a b s)) (n_got got a b (nI p)) s1 s2 (hr, o32, n_acs acc a b (nI p), club, sp, (kb, kw, sb, sc, wh), wy, ln) n' ar' rq' dy' ∧ n_PI nc nd nk ns (sz + 1) cb db (m_uf sd sz (n_row5 c a b s hr)) (m_uf ow c (n_hd2 (ow c) a b s)) (hr, o32, n_acs acc a b (nI p), club, sp, (kb, kw, sb, sc, wh), wy, ln) ∧ w_Q (m + 1) nc nd cb db (m_uf ow c (n_hd2 (ow c) a b s)) (hr, o32, n_acs acc a b (nI p), club, sp, (kb, kw, sb, sc, wh), wy, ln) := by
  obtain ⟨hn, ca, da, ka, sa, g, hR⟩ := H
  have hnc := hR.1.1.1
  have hoc : ow c a ≤ 8 := by
    have h1 := (hQ.1 c hc).1
    have h2 := (hP.2.2.1 c hc).2.1
    have h3 := pz_ge (f := ow c) ha
    omega
  obtain ⟨t, ht⟩ : ∃ t : Int32, t = n_gc (n_tf (((¬ nI c < 0 ∧ nI c < nI nc) ∧ (¬ nI a < 0 ∧ nI a < 6)) ∧ (¬ nI b < 0 ∧ nI b < 6))) (n_tf (¬ nI a = nI b ∧ ((¬ nI s < 1 ∧ ¬ 8 < nI s) ∧ (¬ nI p < 0 ∧ ¬ 100000 < nI p)))) (n_tf ((((¬ nI c < 0 ∧ nI c < nI nc) ∧ (¬ nI a < 0 ∧ nI a < 6)) ∧ (¬ nI b < 0 ∧ nI b < 6)) ∧ ¬ nI (ow (nI c).toNatClampNeg (nI a).toNatClampNeg) < nI s)) := ⟨_, rfl⟩
  obtain ⟨S', hE, hA⟩ := l_sell (d + 7) (ou := ou) (c_csell d hn hR hP.1 hsz (fun c hc => by have h1 := (hQ.1 c hc).1; have h2 := (hP.2.2.1 c hc).2.1; omega) ht) (n_gc_ts ht)
  have c1 : ((¬ nI c < 0 ∧ nI c < nI nc) ∧ (¬ nI a < 0 ∧ nI a < 6)) ∧ (¬ nI b < 0 ∧ nI b < 6) := ⟨⟨v_ok hc (by omega) rfl, v_ok ha⟩, v_ok hb⟩
  have t0 : t = 0 := by rw [ht, n_tf_t c1, n_tf_t ⟨v_un hab, ⟨v_ge (b := 1) hs1, v_le (b := 8) hs8⟩, nI_pos (by omega), v_le (b := 100000) (by omega)⟩, n_tf_t ⟨c1, by rw [v_cl (by omega), v_cl (by omega)]; exact nI_nlt hso (by omega)⟩]; rfl
  unfold l_an at hA
  rw [if_pos t0] at hA hE
  obtain ⟨n', ar', rq', dy', rfl, p1, p2, p3⟩ := hA
  rw [v_cl (by omega), v_cl (by omega), v_cl (by omega), v_cl (by omega)] at p3
  rw [v_cl (by omega), v_cl (by omega), v_cl (by omega)] at hE
  refine ⟨n', ar', rq', dy', hE, p2, p3, pi_sell (wy' := wy) (ln' := ln) hP hc ha hb hab hso, ?_⟩
  obtain ⟨q1, q2, q3, ⟨P, q4, q5⟩, q6⟩ := hQ
  refine ⟨fun c' hc' => ?_, q2, by have : hr ≤ m := q3; show hr ≤ m + 1; omega, ⟨P, MY_mono (MY_sell q4 ha hb hab hp) (by omega), q5⟩, q6⟩
  by_cases e : c' = c
  · subst e
    rw [m_uf_eq]
    have hs1 := n_hd2_sum hab hso (k := 6)
    rw [if_pos ha, if_pos hb] at hs1
    have := (q1 c' hc').1
    exact ⟨by omega, (q1 c' hc').2⟩
  · rw [m_uf_ne e]
    exact q1 c' hc'
theorem k_sell3 (d : Nat) {n nc nd nk ns sz m : Nat} {cb db sd ow : Nat → Nat → Nat} {got : Nat → Nat → Int32} {s1 s2 : Int32} {hr : Nat} {o32 : Nat → Nat → Int32} {acc : Nat → Int32} {club sp : Int32} {kb sb : Nat → Nat → Nat} {kw sc : Nat → Option Nat} {wh : Nat → Nat} {wy : Nat → Option Nat} {ln : Nat → Nat} {ar : Nat → Nat → Int32} {rq : Nat → Nat → Option Nat} {ou : Nat → Int64} {dy : Nat → m_C} {c a b s p : Nat} (H : z_R nc nd nk ns sz cb db sd ow got s1 s2 (hr, o32, acc, club, sp, (kb, kw, sb, sc, wh), wy, ln) n ar rq dy) (hP : n_PI nc nd nk ns sz cb db sd ow (hr, o32, acc, club, sp, (kb, kw, sb, sc, wh), wy, ln)) (hQ : w_Q m nc nd cb db ow (hr, o32, acc, club, sp, (kb, kw, sb, sc, wh), wy, ln)) (hsz : sz ≤ 511) (hc : c < nc) (ha : a < 6) (hb : b < 6) (hab : a ≠ b) (hs1 : 1 ≤ s) (hs8 : s ≤ 8) (hp : p ≤ 1000) (hso : ow c a < s) :
    m_Ev m_cds m_my (d + 8) 80 [.ref 3, .int (nI c), .int (nI a), .int (nI b), .int (nI s), .int (nI p)] (n, m_hp ar rq ou dy) (.inl (some (.int (-1000003)))) (n, m_hp ar rq ou dy) := by
  obtain ⟨hn, ca, da, ka, sa, g, hR⟩ := H
  have hnc := hR.1.1.1
  obtain ⟨t, ht⟩ : ∃ t : Int32, t = n_gc (n_tf (((¬ nI c < 0 ∧ nI c < nI nc) ∧ (¬ nI a < 0 ∧ nI a < 6)) ∧ (¬ nI b < 0 ∧ nI b < 6))) (n_tf (¬ nI a = nI b ∧ ((¬ nI s < 1 ∧ ¬ 8 < nI s) ∧ (¬ nI p < 0 ∧ ¬ 100000 < nI p)))) (n_tf ((((¬ nI c < 0 ∧ nI c < nI nc) ∧ (¬ nI a < 0 ∧ nI a < 6)) ∧ (¬ nI b < 0 ∧ nI b < 6)) ∧ ¬ nI (ow (nI c).toNatClampNeg (nI a).toNatClampNeg) < nI s)) := ⟨_, rfl⟩
  obtain ⟨S', hE, hA⟩ := l_sell (d + 7) (ou := ou) (c_csell d hn hR hP.1 hsz (fun c hc => by have h1 := (hQ.1 c hc).1; have h2 := (hP.2.2.1 c hc).2.1; omega) ht) (n_gc_ts ht)
  have c1 : ((¬ nI c < 0 ∧ nI c < nI nc) ∧ (¬ nI a < 0 ∧ nI a < 6)) ∧ (¬ nI b < 0 ∧ nI b < 6) := ⟨⟨v_ok hc (by omega) rfl, v_ok ha⟩, v_ok hb⟩
  have t3 : t = 3 := by rw [ht, n_tf_t c1, n_tf_t ⟨v_un hab, ⟨v_ge (b := 1) hs1, v_le (b := 8) hs8⟩, nI_pos (by omega), v_le (b := 100000) (by omega)⟩, n_tf_f (fun w => w.2 (by rw [v_cl (by omega), v_cl (by omega)]; exact nI_lt hso (by omega)))]; exact n_gc_3 rfl
  unfold l_an at hA
  subst t3
  rw [if_neg (by decide)] at hA hE
  subst hA
  exact hE
theorem k_sell1 (d : Nat) {n nc nd nk ns sz m : Nat} {cb db sd ow : Nat → Nat → Nat} {got : Nat → Nat → Int32} {s1 s2 : Int32} {hr : Nat} {o32 : Nat → Nat → Int32} {acc : Nat → Int32} {club sp : Int32} {kb sb : Nat → Nat → Nat} {kw sc : Nat → Option Nat} {wh : Nat → Nat} {wy : Nat → Option Nat} {ln : Nat → Nat} {ar : Nat → Nat → Int32} {rq : Nat → Nat → Option Nat} {ou : Nat → Int64} {dy : Nat → m_C} {a b s p : Nat} (H : z_R nc nd nk ns sz cb db sd ow got s1 s2 (hr, o32, acc, club, sp, (kb, kw, sb, sc, wh), wy, ln) n ar rq dy) (hP : n_PI nc nd nk ns sz cb db sd ow (hr, o32, acc, club, sp, (kb, kw, sb, sc, wh), wy, ln)) (hQ : w_Q m nc nd cb db ow (hr, o32, acc, club, sp, (kb, kw, sb, sc, wh), wy, ln)) (hsz : sz ≤ 511) (hc : nc = 0) :
    m_Ev m_cds m_my (d + 8) 80 [.ref 3, .int (nI 0), .int (nI a), .int (nI b), .int (nI s), .int (nI p)] (n, m_hp ar rq ou dy) (.inl (some (.int (-1000001)))) (n, m_hp ar rq ou dy) := by
  obtain ⟨hn, ca, da, ka, sa, g, hR⟩ := H
  obtain ⟨t, ht⟩ : ∃ t : Int32, t = n_gc (n_tf (((¬ nI 0 < 0 ∧ nI 0 < nI nc) ∧ (¬ nI a < 0 ∧ nI a < 6)) ∧ (¬ nI b < 0 ∧ nI b < 6))) (n_tf (¬ nI a = nI b ∧ ((¬ nI s < 1 ∧ ¬ 8 < nI s) ∧ (¬ nI p < 0 ∧ ¬ 100000 < nI p)))) (n_tf ((((¬ nI 0 < 0 ∧ nI 0 < nI nc) ∧ (¬ nI a < 0 ∧ nI a < 6)) ∧ (¬ nI b < 0 ∧ nI b < 6)) ∧ ¬ nI (ow (nI 0).toNatClampNeg (nI a).toNatClampNeg) < nI s)) := ⟨_, rfl⟩
  obtain ⟨S', hE, hA⟩ := l_sell (d + 7) (ou := ou) (c_csell d hn hR hP.1 hsz (fun c hc => by have h1 := (hQ.1 c hc).1; have h2 := (hP.2.2.1 c hc).2.1; omega) ht) (n_gc_ts ht)
  have t1 : t = 1 := by rw [ht, n_tf_f (fun w => nI_nlt (a := 0) (b := nc) (by omega) (by omega) w.1.1.2)]; exact n_gc_1 rfl
  unfold l_an at hA
  subst t1
  rw [if_neg (by decide)] at hA hE
  subst hA
  exact hE
