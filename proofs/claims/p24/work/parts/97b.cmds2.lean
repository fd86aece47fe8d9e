/-! the commands at the arguments that the law gives: cut, send, fill, storm, pass -/
theorem k_cut (d : Nat) {n nc nd nk ns sz m : Nat} {cb db sd ow : Nat → Nat → Nat} {got : Nat → Nat → Int32} {s1 s2 : Int32} {hr : Nat} {o32 : Nat → Nat → Int32} {acc : Nat → Int32} {club sp : Int32} {kb sb : Nat → Nat → Nat} {kw sc : Nat → Option Nat} {wh : Nat → Nat} {wy : Nat → Option Nat} {ln : Nat → Nat} {ar : Nat → Nat → Int32} {rq : Nat → Nat → Option Nat} {ou : Nat → Int64} {dy : Nat → m_C} {c p : Nat} (H : z_R nc nd nk ns sz cb db sd ow got s1 s2 (hr, o32, acc, club, sp, (kb, kw, sb, sc, wh), wy, ln) n ar rq dy) (hP : n_PI nc nd nk ns sz cb db sd ow (hr, o32, acc, club, sp, (kb, kw, sb, sc, wh), wy, ln)) (hQ : w_Q m nc nd cb db ow (hr, o32, acc, club, sp, (kb, kw, sb, sc, wh), wy, ln)) (hc : c < nc) (hp : p ≤ cb c 5) (hw : wh c = 1) (hnk : nk < 16) :
    ∃ (n' : Nat) (ar' : Nat → Nat → Int32) (rq' : Nat → Nat → Option Nat) (dy' : Nat → m_C), m_Ev m_cds m_my (d + 3) 81 [.ref 3, .int (nI c), .int (nI p)] (n, m_hp ar rq ou dy) (.inl (some (.int (nI nk)))) (n', m_hp ar' rq' ou dy') ∧ (∀ x, 94 ≤ x → ar' x = ar x) ∧ z_R nc nd (nk + 1) ns sz cb db sd ow got s1 s2 (hr, o32, acc, club, sp, (m_uf kb nk (n_row4 c (min (cb c 0) (cb c 1) * 200 + p) hr 0), m_uf kw nk none, sb, sc, m_uf wh c 0), wy, ln) n' ar' rq' dy' ∧ n_PI nc nd (nk + 1) ns sz cb db sd ow (hr, o32, acc, club, sp, (m_uf kb nk (n_row4 c (min (cb c 0) (cb c 1) * 200 + p) hr 0), m_uf kw nk none, sb, sc, m_uf wh c 0), wy, ln) ∧ w_Q (m + 1) nc nd cb db ow (hr, o32, acc, club, sp, (m_uf kb nk (n_row4 c (min (cb c 0) (cb c 1) * 200 + p) hr 0), m_uf kw nk none, sb, sc, m_uf wh c 0), wy, ln) := by
  obtain ⟨hn, ca, da, ka, sa, g, hR⟩ := H
  have hnc := hR.1.1.1
  have h5 : cb c 5 ≤ 1000 := (hR.1.1.2.2.1 c hc).2.2.2.2.2
  have hco : n_co kb c nk 0 = none := by
    have hwc := n_WI_wc hP.2.1 c hc
    cases e : n_co kb c nk 0 with
    | none => rfl
    | some k => have z := hwc.mpr (by show n_co kb c nk 0 ≠ none; rw [e]; exact fun z => nomatch z); have z' : wh c = 0 := z; omega
  obtain ⟨t, ht⟩ : ∃ t : Int32, t = n_gc (n_tf (¬ nI c < 0 ∧ nI c < nI nc)) (n_tf ((¬ nI c < 0 ∧ nI c < nI nc) ∧ (¬ nI p < 0 ∧ ¬ nI (cb (nI c).toNatClampNeg 5) < nI p))) (n_tf ((¬ nI c < 0 ∧ nI c < nI nc) ∧ (n_co kb (nI c).toNatClampNeg nk 0 = none ∧ nk < 16))) := ⟨_, rfl⟩
  obtain ⟨S', hE, hA⟩ := l_cut (d + 2) (ou := ou) (c_ccut d hn hR hP.1 (n_WI_wc hP.2.1) (fun c hc => (hP.2.2.1 c hc).2.2.2) ht) (n_gc_ts ht)
  have c1 : ¬ nI c < 0 ∧ nI c < nI nc := v_ok hc (by omega) rfl
  have t0 : t = 0 := by rw [ht, n_tf_t c1, n_tf_t ⟨c1, nI_pos (by omega), by rw [v_cl (by omega)]; exact nI_nlt hp (by omega)⟩, n_tf_t ⟨c1, by rw [v_cl (by omega)]; exact hco, hnk⟩]; rfl
  unfold l_an at hA
  rw [if_pos t0] at hA hE
  obtain ⟨n', ar', rq', dy', rfl, p1, p2, p3⟩ := hA
  rw [v_cl (by omega), v_cl (by omega)] at p3
  exact ⟨n', ar', rq', dy', hE, p2, p3, pi_cut (acc' := acc) (wy' := wy) (ln' := ln) hP hc hco, w_Q_mono hQ (Nat.le_succ m)⟩
theorem k_cut3 (d : Nat) {n nc nd nk ns sz m : Nat} {cb db sd ow : Nat → Nat → Nat} {got : Nat → Nat → Int32} {s1 s2 : Int32} {hr : Nat} {o32 : Nat → Nat → Int32} {acc : Nat → Int32} {club sp : Int32} {kb sb : Nat → Nat → Nat} {kw sc : Nat → Option Nat} {wh : Nat → Nat} {wy : Nat → Option Nat} {ln : Nat → Nat} {ar : Nat → Nat → Int32} {rq : Nat → Nat → Option Nat} {ou : Nat → Int64} {dy : Nat → m_C} {c p : Nat} (H : z_R nc nd nk ns sz cb db sd ow got s1 s2 (hr, o32, acc, club, sp, (kb, kw, sb, sc, wh), wy, ln) n ar rq dy) (hP : n_PI nc nd nk ns sz cb db sd ow (hr, o32, acc, club, sp, (kb, kw, sb, sc, wh), wy, ln)) (hc : c < nc) (hp : p ≤ cb c 5) (hw : ¬ (wh c = 1 ∧ nk < 16)) :
    m_Ev m_cds m_my (d + 3) 81 [.ref 3, .int (nI c), .int (nI p)] (n, m_hp ar rq ou dy) (.inl (some (.int (-1000003)))) (n, m_hp ar rq ou dy) := by
  obtain ⟨hn, ca, da, ka, sa, g, hR⟩ := H
  have hnc := hR.1.1.1
  have h5 : cb c 5 ≤ 1000 := (hR.1.1.2.2.1 c hc).2.2.2.2.2
  have hco : ¬ (n_co kb c nk 0 = none ∧ nk < 16) := fun z => by
    have hwc := n_WI_wc hP.2.1 c hc
    have h1 : wh c ≤ 1 := (hR.1.1.2.2.2.1 c hc).2
    have h2 : ¬ wh c = 0 := fun w => hwc.mp w z.1
    exact hw ⟨by omega, z.2⟩
  obtain ⟨t, ht⟩ : ∃ t : Int32, t = n_gc (n_tf (¬ nI c < 0 ∧ nI c < nI nc)) (n_tf ((¬ nI c < 0 ∧ nI c < nI nc) ∧ (¬ nI p < 0 ∧ ¬ nI (cb (nI c).toNatClampNeg 5) < nI p))) (n_tf ((¬ nI c < 0 ∧ nI c < nI nc) ∧ (n_co kb (nI c).toNatClampNeg nk 0 = none ∧ nk < 16))) := ⟨_, rfl⟩
  obtain ⟨S', hE, hA⟩ := l_cut (d + 2) (ou := ou) (c_ccut d hn hR hP.1 (n_WI_wc hP.2.1) (fun c hc => (hP.2.2.1 c hc).2.2.2) ht) (n_gc_ts ht)
  have c1 : ¬ nI c < 0 ∧ nI c < nI nc := v_ok hc (by omega) rfl
  have t3 : t = 3 := by rw [ht, n_tf_t c1, n_tf_t ⟨c1, nI_pos (by omega), by rw [v_cl (by omega)]; exact nI_nlt hp (by omega)⟩, n_tf_f (fun w => hco (by have := w.2; rw [v_cl (by omega)] at this; exact this))]; exact n_gc_3 rfl
  unfold l_an at hA
  subst t3
  rw [if_neg (by decide)] at hA hE
  subst hA
  exact hE
theorem k_cut1 (d : Nat) {n nc nd nk ns sz m : Nat} {cb db sd ow : Nat → Nat → Nat} {got : Nat → Nat → Int32} {s1 s2 : Int32} {hr : Nat} {o32 : Nat → Nat → Int32} {acc : Nat → Int32} {club sp : Int32} {kb sb : Nat → Nat → Nat} {kw sc : Nat → Option Nat} {wh : Nat → Nat} {wy : Nat → Option Nat} {ln : Nat → Nat} {ar : Nat → Nat → Int32} {rq : Nat → Nat → Option Nat} {ou : Nat → Int64} {dy : Nat → m_C} {p : Nat} (H : z_R nc nd nk ns sz cb db sd ow got s1 s2 (hr, o32, acc, club, sp, (kb, kw, sb, sc, wh), wy, ln) n ar rq dy) (hP : n_PI nc nd nk ns sz cb db sd ow (hr, o32, acc, club, sp, (kb, kw, sb, sc, wh), wy, ln)) (hc : nc = 0) :
    m_Ev m_cds m_my (d + 3) 81 [.ref 3, .int (nI 0), .int (nI p)] (n, m_hp ar rq ou dy) (.inl (some (.int (-1000001)))) (n, m_hp ar rq ou dy) := by
  obtain ⟨hn, ca, da, ka, sa, g, hR⟩ := H
  obtain ⟨t, ht⟩ : ∃ t : Int32, t = n_gc (n_tf (¬ nI 0 < 0 ∧ nI 0 < nI nc)) (n_tf ((¬ nI 0 < 0 ∧ nI 0 < nI nc) ∧ (¬ nI p < 0 ∧ ¬ nI (cb (nI 0).toNatClampNeg 5) < nI p))) (n_tf ((¬ nI 0 < 0 ∧ nI 0 < nI nc) ∧ (n_co kb (nI 0).toNatClampNeg nk 0 = none ∧ nk < 16))) := ⟨_, rfl⟩
  obtain ⟨S', hE, hA⟩ := l_cut (d + 2) (ou := ou) (c_ccut d hn hR hP.1 (n_WI_wc hP.2.1) (fun c hc => (hP.2.2.1 c hc).2.2.2) ht) (n_gc_ts ht)
  have t1 : t = 1 := by rw [ht, n_tf_f (fun w => nI_nlt (a := 0) (b := nc) (by omega) (by omega) w.2)]; exact n_gc_1 rfl
  unfold l_an at hA
  subst t1
  rw [if_neg (by decide)] at hA hE
  subst hA
  exact hE
theorem n_gc_t3 {a b : Int32} : ¬ n_gc a b (n_tf True) = 3 := by
  rw [n_tf_t trivial]
  unfold n_gc
  split
  · decide
  · split <;> decide
theorem n_ho {y : Int32} {nk ns : Nat} {kb : Nat → Nat → Nat} {sc : Nat → Option Nat} (h1 : y = -1 ∨ (¬ y < 0 ∧ y < nI nk)) (h2 : y = -1 ∨ (kb y.toNatClampNeg 3 < 5 ∧ n_sx sc y.toNatClampNeg ns 0 0 = 0)) (hk : nk ≤ 16) : ∀ k, n_oc y = some k → k < nk ∧ kb k 3 < 5 ∧ ∀ s, s < ns → sc s ≠ some k := by
  intro k h
  have h3 := (n_oc_w (N := nk) (by omega) h1).2 k h
  unfold n_oc at h
  by_cases e : y = -1
  · rw [if_pos e] at h; cases h
  · rw [if_neg e] at h
    cases h
    rcases h2 with h2 | ⟨h2, h4⟩
    · exact absurd h2 e
    · exact ⟨h3, h2, fun s hs => n_sx_0.mp h4 s (Nat.zero_le _) (by omega)⟩
theorem k_send (d : Nat) {n nc nd nk ns sz m : Nat} {cb db sd ow : Nat → Nat → Nat} {got : Nat → Nat → Int32} {s1 s2 : Int32} {hr : Nat} {o32 : Nat → Nat → Int32} {acc : Nat → Int32} {club sp : Int32} {kb sb : Nat → Nat → Nat} {kw sc : Nat → Option Nat} {wh : Nat → Nat} {wy : Nat → Option Nat} {ln : Nat → Nat} {ar : Nat → Nat → Int32} {rq : Nat → Nat → Option Nat} {ou : Nat → Int64} {dy : Nat → m_C} {s : Nat} {y : Int32} (H : z_R nc nd nk ns sz cb db sd ow got s1 s2 (hr, o32, acc, club, sp, (kb, kw, sb, sc, wh), wy, ln) n ar rq dy) (hP : n_PI nc nd nk ns sz cb db sd ow (hr, o32, acc, club, sp, (kb, kw, sb, sc, wh), wy, ln)) (hQ : w_Q m nc nd cb db ow (hr, o32, acc, club, sp, (kb, kw, sb, sc, wh), wy, ln)) (hs : s < ns) (hy : y = -1 ∨ (¬ y < 0 ∧ y < nI nk)) :
    (∃ (n' : Nat) (ar' : Nat → Nat → Int32) (rq' : Nat → Nat → Option Nat) (dy' : Nat → m_C), m_Ev m_cds m_my (d + 3) 83 [.ref 3, .int (nI s), .int y] (n, m_hp ar rq ou dy) (.inl (some (.int (n_w (sc s))))) (n', m_hp ar' rq' ou dy') ∧ (∀ x, 94 ≤ x → ar' x = ar x) ∧ z_R nc nd nk ns sz cb db sd ow got s1 s2 (hr, o32, acc, club, sp, (kb, kw, sb, m_uf sc s (n_oc y), wh), wy, ln) n' ar' rq' dy' ∧ n_PI nc nd nk ns sz cb db sd ow (hr, o32, acc, club, sp, (kb, kw, sb, m_uf sc s (n_oc y), wh), wy, ln) ∧ w_Q (m + 1) nc nd cb db ow (hr, o32, acc, club, sp, (kb, kw, sb, m_uf sc s (n_oc y), wh), wy, ln)) ∨ (y ≠ -1 ∧ m_Ev m_cds m_my (d + 3) 83 [.ref 3, .int (nI s), .int y] (n, m_hp ar rq ou dy) (.inl (some (.int (-1000003)))) (n, m_hp ar rq ou dy)) := by
  obtain ⟨hn, ca, da, ka, sa, g, hR⟩ := H
  have hns := hR.1.2.2.2.1.1
  have hnk := hR.1.2.2.1.1
  obtain ⟨t, ht⟩ : ∃ t : Int32, t = n_gc (n_tf ((¬ nI s < 0 ∧ nI s < nI ns) ∧ (y = -1 ∨ (¬ y < 0 ∧ y < nI nk)))) (n_tf (((¬ nI s < 0 ∧ nI s < nI ns) ∧ (y = -1 ∨ (¬ y < 0 ∧ y < nI nk))) ∧ (y = -1 ∨ (kb y.toNatClampNeg 3 < 5 ∧ n_sx sc y.toNatClampNeg ns 0 0 = 0)))) (n_tf True) := ⟨_, rfl⟩
  obtain ⟨S', hE, hA⟩ := l_send (d + 2) (ou := ou) (c_csend d hn hR (fun k hk => (hP.2.1.2.1 k hk).1) ht) ((by rcases n_gc_ts ht with h | h | h | h <;> first | exact Or.inl h | exact Or.inr (Or.inl h) | exact Or.inr (Or.inr h) | exact absurd (ht.symm.trans h) n_gc_t3))
  have c1 : ((¬ nI s < 0 ∧ nI s < nI ns) ∧ (y = -1 ∨ (¬ y < 0 ∧ y < nI nk))) := ⟨v_ok hs (by omega) rfl, hy⟩
  unfold l_an at hA
  by_cases c2 : y = -1 ∨ (kb y.toNatClampNeg 3 < 5 ∧ n_sx sc y.toNatClampNeg ns 0 0 = 0)
  · have t0 : t = 0 := by rw [ht, n_tf_t c1, n_tf_t ⟨c1, c2⟩, n_tf_t trivial]; rfl
    rw [if_pos t0] at hA hE
    obtain ⟨n', ar', rq', dy', rfl, p1, p2, p3⟩ := hA
    rw [v_cl (by omega)] at p3 hE
    exact Or.inl ⟨n', ar', rq', dy', hE, p2, p3, pi_send (acc' := acc) (wy' := wy) (ln' := ln) hP (n_ho hy c2 hnk), w_Q_mono hQ (Nat.le_succ m)⟩
  · have t2 : t = 2 := by rw [ht, n_tf_t c1, n_tf_f (fun w => c2 w.2)]; exact n_gc_2 rfl
    subst t2
    rw [if_neg (by decide)] at hA hE
    subst hA
    exact Or.inr ⟨fun z => c2 (Or.inl z), hE⟩
theorem k_send1 (d : Nat) {n nc nd nk ns sz m : Nat} {cb db sd ow : Nat → Nat → Nat} {got : Nat → Nat → Int32} {s1 s2 : Int32} {hr : Nat} {o32 : Nat → Nat → Int32} {acc : Nat → Int32} {club sp : Int32} {kb sb : Nat → Nat → Nat} {kw sc : Nat → Option Nat} {wh : Nat → Nat} {wy : Nat → Option Nat} {ln : Nat → Nat} {ar : Nat → Nat → Int32} {rq : Nat → Nat → Option Nat} {ou : Nat → Int64} {dy : Nat → m_C} {y : Int32} (H : z_R nc nd nk ns sz cb db sd ow got s1 s2 (hr, o32, acc, club, sp, (kb, kw, sb, sc, wh), wy, ln) n ar rq dy) (hP : n_PI nc nd nk ns sz cb db sd ow (hr, o32, acc, club, sp, (kb, kw, sb, sc, wh), wy, ln)) (hs : ns = 0) :
    m_Ev m_cds m_my (d + 3) 83 [.ref 3, .int (nI 0), .int y] (n, m_hp ar rq ou dy) (.inl (some (.int (-1000001)))) (n, m_hp ar rq ou dy) := by
  obtain ⟨hn, ca, da, ka, sa, g, hR⟩ := H
  obtain ⟨t, ht⟩ : ∃ t : Int32, t = n_gc (n_tf ((¬ nI 0 < 0 ∧ nI 0 < nI ns) ∧ (y = -1 ∨ (¬ y < 0 ∧ y < nI nk)))) (n_tf (((¬ nI 0 < 0 ∧ nI 0 < nI ns) ∧ (y = -1 ∨ (¬ y < 0 ∧ y < nI nk))) ∧ (y = -1 ∨ (kb y.toNatClampNeg 3 < 5 ∧ n_sx sc y.toNatClampNeg ns 0 0 = 0)))) (n_tf True) := ⟨_, rfl⟩
  obtain ⟨S', hE, hA⟩ := l_send (d + 2) (ou := ou) (c_csend d hn hR (fun k hk => (hP.2.1.2.1 k hk).1) ht) ((by rcases n_gc_ts ht with h | h | h | h <;> first | exact Or.inl h | exact Or.inr (Or.inl h) | exact Or.inr (Or.inr h) | exact absurd (ht.symm.trans h) n_gc_t3))
  have t1 : t = 1 := by rw [ht, n_tf_f (fun w => nI_nlt (a := 0) (b := ns) (by omega) (by omega) w.1.2)]; exact n_gc_1 rfl
  unfold l_an at hA
  subst t1
  rw [if_neg (by decide)] at hA hE
  subst hA
  exact hE
theorem k_fill (d : Nat) {n nc nd nk ns sz m : Nat} {cb db sd ow : Nat → Nat → Nat} {got : Nat → Nat → Int32} {s1 s2 : Int32} {hr : Nat} {o32 : Nat → Nat → Int32} {acc : Nat → Int32} {club sp : Int32} {kb sb : Nat → Nat → Nat} {kw sc : Nat → Option Nat} {wh : Nat → Nat} {wy : Nat → Option Nat} {ln : Nat → Nat} {ar : Nat → Nat → Int32} {rq : Nat → Nat → Option Nat} {ou : Nat → Int64} {dy : Nat → m_C} {s p : Nat} (H : z_R nc nd nk ns sz cb db sd ow got s1 s2 (hr, o32, acc, club, sp, (kb, kw, sb, sc, wh), wy, ln) n ar rq dy) (hP : n_PI nc nd nk ns sz cb db sd ow (hr, o32, acc, club, sp, (kb, kw, sb, sc, wh), wy, ln)) (hQ : w_Q m nc nd cb db ow (hr, o32, acc, club, sp, (kb, kw, sb, sc, wh), wy, ln)) (hs : s < ns) (hp : p ≤ 10) :
    (∃ (n' : Nat) (ar' : Nat → Nat → Int32) (rq' : Nat → Nat → Option Nat) (dy' : Nat → m_C), m_Ev m_cds m_my (d + 3) 84 [.ref 3, .int (nI s), .int (nI p)] (n, m_hp ar rq ou dy) (.inl (some (.int (nI (sb s 2))))) (n', m_hp ar' rq' ou dy') ∧ sb s 2 ≤ 10 ∧ (∀ x, 94 ≤ x → ar' x = ar x) ∧ z_R nc nd nk ns sz cb db sd ow got s1 s2 (hr, o32, acc, club, sp, (kb, kw, m_u2 sb s 2 p, sc, wh), wy, ln) n' ar' rq' dy' ∧ n_PI nc nd nk ns sz cb db sd ow (hr, o32, acc, club, sp, (kb, kw, m_u2 sb s 2 p, sc, wh), wy, ln) ∧ w_Q (m + 1) nc nd cb db ow (hr, o32, acc, club, sp, (kb, kw, m_u2 sb s 2 p, sc, wh), wy, ln)) ∨ m_Ev m_cds m_my (d + 3) 84 [.ref 3, .int (nI s), .int (nI p)] (n, m_hp ar rq ou dy) (.inl (some (.int (-1000003)))) (n, m_hp ar rq ou dy) := by
  obtain ⟨hn, ca, da, ka, sa, g, hR⟩ := H
  have hns := hR.1.2.2.2.1.1
  have h10 : sb s 2 ≤ 10 := (hR.1.2.2.2.1.2.2.1 s hs).2.2.2.2.2.1
  obtain ⟨t, ht⟩ : ∃ t : Int32, t = n_gc (n_tf (¬ nI s < 0 ∧ nI s < nI ns)) (n_tf (¬ nI p < 0 ∧ ¬ 10 < nI p)) (n_tf ((¬ nI s < 0 ∧ nI s < nI ns) ∧ (sc (nI s).toNatClampNeg = none ∧ sb (nI s).toNatClampNeg 1 % 200 = 0))) := ⟨_, rfl⟩
  obtain ⟨S', hE, hA⟩ := l_fill (d + 2) (ou := ou) (c_cfill d hn hR ht) (n_gc_ts ht)
  have c1 : ¬ nI s < 0 ∧ nI s < nI ns := v_ok hs (by omega) rfl
  have c2 : ¬ nI p < 0 ∧ ¬ 10 < nI p := ⟨nI_pos (by omega), v_le (b := 10) hp⟩
  unfold l_an at hA
  by_cases c3 : sc (nI s).toNatClampNeg = none ∧ sb (nI s).toNatClampNeg 1 % 200 = 0
  · have t0 : t = 0 := by rw [ht, n_tf_t c1, n_tf_t c2, n_tf_t ⟨c1, c3⟩]; rfl
    rw [if_pos t0] at hA hE
    obtain ⟨n', ar', rq', dy', rfl, p1, p2, p3⟩ := hA
    rw [v_cl (by omega), v_cl (by omega)] at p3
    rw [v_cl (by omega)] at hE
    exact Or.inl ⟨n', ar', rq', dy', hE, h10, p2, p3, pi_fill (acc' := acc) (wy' := wy) (ln' := ln) hP, w_Q_mono hQ (Nat.le_succ m)⟩
  · have t3 : t = 3 := by rw [ht, n_tf_t c1, n_tf_t c2, n_tf_f (fun w => c3 w.2)]; exact n_gc_3 rfl
    subst t3
    rw [if_neg (by decide)] at hA hE
    subst hA
    exact Or.inr hE
theorem k_fill1 (d : Nat) {n nc nd nk ns sz m : Nat} {cb db sd ow : Nat → Nat → Nat} {got : Nat → Nat → Int32} {s1 s2 : Int32} {hr : Nat} {o32 : Nat → Nat → Int32} {acc : Nat → Int32} {club sp : Int32} {kb sb : Nat → Nat → Nat} {kw sc : Nat → Option Nat} {wh : Nat → Nat} {wy : Nat → Option Nat} {ln : Nat → Nat} {ar : Nat → Nat → Int32} {rq : Nat → Nat → Option Nat} {ou : Nat → Int64} {dy : Nat → m_C} {p : Nat} (H : z_R nc nd nk ns sz cb db sd ow got s1 s2 (hr, o32, acc, club, sp, (kb, kw, sb, sc, wh), wy, ln) n ar rq dy) (hs : ns = 0) :
    m_Ev m_cds m_my (d + 3) 84 [.ref 3, .int (nI 0), .int (nI p)] (n, m_hp ar rq ou dy) (.inl (some (.int (-1000001)))) (n, m_hp ar rq ou dy) := by
  obtain ⟨hn, ca, da, ka, sa, g, hR⟩ := H
  obtain ⟨t, ht⟩ : ∃ t : Int32, t = n_gc (n_tf (¬ nI 0 < 0 ∧ nI 0 < nI ns)) (n_tf (¬ nI p < 0 ∧ ¬ 10 < nI p)) (n_tf ((¬ nI 0 < 0 ∧ nI 0 < nI ns) ∧ (sc (nI 0).toNatClampNeg = none ∧ sb (nI 0).toNatClampNeg 1 % 200 = 0))) := ⟨_, rfl⟩
  obtain ⟨S', hE, hA⟩ := l_fill (d + 2) (ou := ou) (c_cfill d hn hR ht) (n_gc_ts ht)
  have t1 : t = 1 := by rw [ht, n_tf_f (fun w => nI_nlt (a := 0) (b := ns) (by omega) (by omega) w.2)]; exact n_gc_1 rfl
  unfold l_an at hA
  subst t1
  rw [if_neg (by decide)] at hA hE
  subst hA
  exact hE
theorem k_storm (d : Nat) {n nc nd nk ns sz m : Nat} {cb db sd ow : Nat → Nat → Nat} {got : Nat → Nat → Int32} {s1 s2 : Int32} {hr : Nat} {o32 : Nat → Nat → Int32} {acc : Nat → Int32} {club sp : Int32} {kb sb : Nat → Nat → Nat} {kw sc : Nat → Option Nat} {wh : Nat → Nat} {wy : Nat → Option Nat} {ln : Nat → Nat} {ar : Nat → Nat → Int32} {rq : Nat → Nat → Option Nat} {ou : Nat → Int64} {dy : Nat → m_C} {a b : Nat} (H : z_R nc nd nk ns sz cb db sd ow got s1 s2 (hr, o32, acc, club, sp, (kb, kw, sb, sc, wh), wy, ln) n ar rq dy) (hab : a ≤ b) (hb : b ≤ 1000) :
    ∃ ar' : Nat → Nat → Int32, m_Ev m_cds m_my (d + 3) 85 [.ref 3, .int (nI a), .int (nI b)] (n, m_hp ar rq ou dy) (.inl (some (.int 0))) (n, m_hp ar' rq ou dy) ∧ (∀ x, 94 ≤ x → ar' x = ar x) ∧ z_R nc nd nk ns sz cb db sd ow got (nI a) (nI b) (hr, o32, acc, club, sp, (kb, kw, sb, sc, wh), wy, ln) n ar' rq dy := by
  obtain ⟨hn, ca, da, ka, sa, g, hR⟩ := H
  obtain ⟨t, ht⟩ : ∃ t : Int32, t = n_gc (n_tf ((¬ nI a < 0 ∧ ¬ 1000 < nI a) ∧ (¬ nI b < nI a ∧ ¬ 1000 < nI b))) 1 1 := ⟨_, rfl⟩
  have t0 : t = 0 := by rw [ht, n_tf_t ⟨⟨nI_pos (by omega), v_le (b := 1000) (by omega)⟩, nI_nlt hab (by omega), v_le (b := 1000) hb⟩]; rfl
  obtain ⟨S1, hE, hZ⟩ := l_storm (d + 2) (Z := fun S' => ∃ ar' : Nat → Nat → Int32, S' = (n, m_hp ar' rq ou dy) ∧ (∀ x, 94 ≤ x → ar' x = ar x) ∧ z_R nc nd nk ns sz cb db sd ow got (nI a) (nI b) (hr, o32, acc, club, sp, (kb, kw, sb, sc, wh), wy, ln) n ar' rq dy) (c_cstorm d (ou := ou) hn hR ht) (Or.inl t0)
  rw [if_pos t0] at hZ hE
  obtain ⟨ar', rfl, h94, hz⟩ := hZ
  exact ⟨ar', hE, h94, hz⟩
theorem k_storm1 (d : Nat) {n nc nd nk ns sz m : Nat} {cb db sd ow : Nat → Nat → Nat} {got : Nat → Nat → Int32} {s1 s2 : Int32} {hr : Nat} {o32 : Nat → Nat → Int32} {acc : Nat → Int32} {club sp : Int32} {kb sb : Nat → Nat → Nat} {kw sc : Nat → Option Nat} {wh : Nat → Nat} {wy : Nat → Option Nat} {ln : Nat → Nat} {ar : Nat → Nat → Int32} {rq : Nat → Nat → Option Nat} {ou : Nat → Int64} {dy : Nat → m_C} {a : Nat} (H : z_R nc nd nk ns sz cb db sd ow got s1 s2 (hr, o32, acc, club, sp, (kb, kw, sb, sc, wh), wy, ln) n ar rq dy) (ha : a ≤ 1000) :
    m_Ev m_cds m_my (d + 3) 85 [.ref 3, .int (nI a), .int (nI a - 1)] (n, m_hp ar rq ou dy) (.inl (some (.int (-1000002)))) (n, m_hp ar rq ou dy) := by
  obtain ⟨hn, ca, da, ka, sa, g, hR⟩ := H
  have hlt : nI a - 1 < nI a := by
    by_cases h0 : a = 0
    · subst h0; decide
    · have e : nI a - 1 = nI (a - 1) := by
        have := v_sub (a := a) (b := 1) (by omega)
        exact this
      rw [e]
      exact nI_lt (by omega) (by omega)
  obtain ⟨t, ht⟩ : ∃ t : Int32, t = n_gc (n_tf ((¬ nI a < 0 ∧ ¬ 1000 < nI a) ∧ (¬ (nI a - 1) < nI a ∧ ¬ 1000 < (nI a - 1)))) 1 1 := ⟨_, rfl⟩
  have t1 : t = 1 := by rw [ht, n_tf_f (fun w => w.2.1 hlt)]; exact n_gc_1 rfl
  obtain ⟨S1, hE, hZ⟩ := l_storm (d + 2) (Z := fun S' => ∃ ar' : Nat → Nat → Int32, S' = (n, m_hp ar' rq ou dy) ∧ (∀ x, 94 ≤ x → ar' x = ar x) ∧ z_R nc nd nk ns sz cb db sd ow got (nI a) (nI a - 1) (hr, o32, acc, club, sp, (kb, kw, sb, sc, wh), wy, ln) n ar' rq dy) (c_cstorm d (ou := ou) hn hR ht) (Or.inr t1)
  subst t1
  rw [if_neg (by decide)] at hZ hE
  subst hZ
  exact hE
theorem k_pass (d : Nat) {n nc nd nk ns sz : Nat} {cb db sd ow : Nat → Nat → Nat} {got : Nat → Nat → Int32} {s1 s2 : Int32} {D : n_D} {ar : Nat → Nat → Int32} {rq : Nat → Nat → Option Nat} {ou : Nat → Int64} {dy : Nat → m_C} (H : z_R nc nd nk ns sz cb db sd ow got s1 s2 D n ar rq dy) (hP : n_PI nc nd nk ns sz cb db sd ow D) (hh : D.1 < 500) :
    ∃ (ar' : Nat → Nat → Int32) (dy' : Nat → m_C), m_Ev m_cds m_my (d + 12) 86 [.ref 3, .int 1] (n, m_hp ar rq ou dy) (.inl (some (.int (nI (D.1 + 1))))) (n, m_hp ar' rq ou dy') ∧ (∀ x, 94 ≤ x → ar' x = ar x) ∧ z_R nc nd nk ns sz cb db sd ow got s1 s2 (n_hour nc nd nk ns cb db ow s1 s2 D) n ar' rq dy' ∧ n_PI nc nd nk ns sz cb db sd ow (n_hour nc nd nk ns cb db ow s1 s2 D) := by
  obtain ⟨hn, ca, da, ka, sa, g, hR⟩ := H
  obtain ⟨o, S0, hE0, hI⟩ := e_cpass d (x := 1) (ou := ou) hR hP.2.1 hP.1
  have e1 : (1 : Int32).toNatClampNeg = 1 := by decide
  rw [if_pos ⟨by decide, by decide⟩, e1, if_pos (by omega)] at hI
  obtain ⟨rfl, ar1, dy1, rfl, r1, r2⟩ := hI
  obtain ⟨S1, hE, hA⟩ := l_pass (d + 11) (x := 1) (t := 0) (w := nI (D.1 + 1)) (Q := z_R nc nd nk ns sz cb db sd ow got s1 s2 (n_hour nc nd nk ns cb db ow s1 s2 D)) ⟨_, _, hE0, by unfold c_an; rw [if_pos rfl]; exact ⟨rfl, n, ar1, rq, dy1, rfl, Nat.le_refl _, r2, hn, ca, da, ka, sa, g, r1⟩⟩ (Or.inl rfl)
  have hS : S1 = (n, m_hp ar1 rq ou dy1) ∨ True := Or.inr trivial
  refine ⟨ar1, dy1, ?_, r2, ⟨hn, ca, da, ka, sa, g, r1⟩, pi_hour hP hh⟩
  refine m_go1 my_L_pass cs_L_pass trivial (Nat.le_of_ble_eq_true rfl) rfl ?_
  simp (disch := omega) only [mt_L_pass, st_L_pass_0, st_L_pass_1, st_L_pass_2, o_iload, o_aload, o_const, o_lconst, o_istore, o_astore, o_iinc, o_dup, o_dup2, o_pop, o_bin, o_div, o_un, o_mbin, o_mun, o_i2l, o_lcmp, o_ifeq, o_ifne, o_iflt, o_ifge, o_ifgt, o_ifle, o_icmpeq, o_icmpne, o_icmplt, o_icmpge, o_icmpgt, o_icmple, o_goto, o_getf, o_puti, o_putz, o_putr, o_iald, o_iast, o_zast, o_lald, o_last, o_aald, o_aast, o_alenO, o_new, o_newi, o_newl, o_newq, o_newqd, o_mna, o_copy, o_drop, o_cast, o_call, o_callx, o_callv, o_callvx, o_callh, o_sald, o_slen, o_switch, m_rcv, o_ireturn, o_zreturn, o_areturn, o_return, o_throw, o_null, o_dupx1, o_de, m_ent, List.getElem?_cons_zero, List.getElem?_cons_succ, List.getElem?_nil, List.set_cons_zero, List.set_cons_succ, List.length_cons, List.length_nil, List.map_cons, List.map_nil, List.replicate_succ, List.replicate_zero, List.take_succ_cons, List.take_zero, List.drop_succ_cons, List.drop_zero, List.reverse_cons, List.reverse_nil, List.cons_append, List.nil_append, List.append_nil, Option.toList_some, Option.toList_none, Nat.reduceAdd, Nat.reduceSub, Nat.reduceLeDiff, Nat.reduceLT, Nat.reduceEqDiff, Nat.le_refl, Nat.zero_le, Nat.zero_add, Nat.sub_zero, true_and, and_true, false_and, and_false, if_true, if_false, ite_true, ite_false, reduceIte, or_true, true_or, Option.isSome_some, not_true_eq_false, not_false_eq_true, forall_const, true_implies, false_implies, implies_true, ne_eq, m_gI_I, m_gJ_J, m_gQ_Q, m_gO_O, m_hp_3]
  refine ⟨_, _, hE0, ?_⟩
  simp (disch := omega) only [m_cs, st_L_pass_5, st_L_pass_6, st_L_pass_7, st_L_pass_9, st_L_pass_10, st_L_pass_11, st_L_pass_13, o_iload, o_aload, o_const, o_lconst, o_istore, o_astore, o_iinc, o_dup, o_dup2, o_pop, o_bin, o_div, o_un, o_mbin, o_mun, o_i2l, o_lcmp, o_ifeq, o_ifne, o_iflt, o_ifge, o_ifgt, o_ifle, o_icmpeq, o_icmpne, o_icmplt, o_icmpge, o_icmpgt, o_icmple, o_goto, o_getf, o_puti, o_putz, o_putr, o_iald, o_iast, o_zast, o_lald, o_last, o_aald, o_aast, o_alenO, o_new, o_newi, o_newl, o_newq, o_newqd, o_mna, o_copy, o_drop, o_cast, o_call, o_callx, o_callv, o_callvx, o_callh, o_sald, o_slen, o_switch, m_rcv, o_ireturn, o_zreturn, o_areturn, o_return, o_throw, o_null, o_dupx1, o_de, m_ent, List.getElem?_cons_zero, List.getElem?_cons_succ, List.getElem?_nil, List.set_cons_zero, List.set_cons_succ, List.length_cons, List.length_nil, List.map_cons, List.map_nil, List.replicate_succ, List.replicate_zero, List.take_succ_cons, List.take_zero, List.drop_succ_cons, List.drop_zero, List.reverse_cons, List.reverse_nil, List.cons_append, List.nil_append, List.append_nil, Option.toList_some, Option.toList_none, Nat.reduceAdd, Nat.reduceSub, Nat.reduceLeDiff, Nat.reduceLT, Nat.reduceEqDiff, Nat.le_refl, Nat.zero_le, Nat.zero_add, Nat.sub_zero, true_and, and_true, false_and, and_false, if_true, if_false, ite_true, ite_false, reduceIte, or_true, true_or, Option.isSome_some, not_true_eq_false, not_false_eq_true, forall_const, true_implies, false_implies, implies_true, ne_eq, m_gI_I, m_gJ_J, m_gQ_Q, m_gO_O]
theorem k_pass0 (d : Nat) {n nc nd nk ns sz : Nat} {cb db sd ow : Nat → Nat → Nat} {got : Nat → Nat → Int32} {s1 s2 : Int32} {D : n_D} {ar : Nat → Nat → Int32} {rq : Nat → Nat → Option Nat} {ou : Nat → Int64} {dy : Nat → m_C} (H : z_R nc nd nk ns sz cb db sd ow got s1 s2 D n ar rq dy) (hP : n_PI nc nd nk ns sz cb db sd ow D) :
    m_Ev m_cds m_my (d + 12) 86 [.ref 3, .int 0] (n, m_hp ar rq ou dy) (.inl (some (.int (-1000002)))) (n, m_hp ar rq ou dy) := by
  obtain ⟨hn, ca, da, ka, sa, g, hR⟩ := H
  obtain ⟨o, S0, hE0, hI⟩ := e_cpass d (x := 0) (ou := ou) hR hP.2.1 hP.1
  rw [if_neg (fun w => w.1 (by decide))] at hI
  obtain ⟨rfl, rfl⟩ := hI
  refine m_go1 my_L_pass cs_L_pass trivial (Nat.le_of_ble_eq_true rfl) rfl ?_
  simp (disch := omega) only [mt_L_pass, st_L_pass_0, st_L_pass_1, st_L_pass_2, o_iload, o_aload, o_const, o_lconst, o_istore, o_astore, o_iinc, o_dup, o_dup2, o_pop, o_bin, o_div, o_un, o_mbin, o_mun, o_i2l, o_lcmp, o_ifeq, o_ifne, o_iflt, o_ifge, o_ifgt, o_ifle, o_icmpeq, o_icmpne, o_icmplt, o_icmpge, o_icmpgt, o_icmple, o_goto, o_getf, o_puti, o_putz, o_putr, o_iald, o_iast, o_zast, o_lald, o_last, o_aald, o_aast, o_alenO, o_new, o_newi, o_newl, o_newq, o_newqd, o_mna, o_copy, o_drop, o_cast, o_call, o_callx, o_callv, o_callvx, o_callh, o_sald, o_slen, o_switch, m_rcv, o_ireturn, o_zreturn, o_areturn, o_return, o_throw, o_null, o_dupx1, o_de, m_ent, List.getElem?_cons_zero, List.getElem?_cons_succ, List.getElem?_nil, List.set_cons_zero, List.set_cons_succ, List.length_cons, List.length_nil, List.map_cons, List.map_nil, List.replicate_succ, List.replicate_zero, List.take_succ_cons, List.take_zero, List.drop_succ_cons, List.drop_zero, List.reverse_cons, List.reverse_nil, List.cons_append, List.nil_append, List.append_nil, Option.toList_some, Option.toList_none, Nat.reduceAdd, Nat.reduceSub, Nat.reduceLeDiff, Nat.reduceLT, Nat.reduceEqDiff, Nat.le_refl, Nat.zero_le, Nat.zero_add, Nat.sub_zero, true_and, and_true, false_and, and_false, if_true, if_false, ite_true, ite_false, reduceIte, or_true, true_or, Option.isSome_some, not_true_eq_false, not_false_eq_true, forall_const, true_implies, false_implies, implies_true, ne_eq, m_gI_I, m_gJ_J, m_gQ_Q, m_gO_O, m_hp_3]
  refine ⟨_, _, hE0, ?_⟩
  have e : m_hd m_ias [(m_ias, 7, 2), (m_iss, 11, 2)] = some (7, 2) := if_pos rfl
  simp (disch := omega) only [m_cs, e, st_L_pass_5, st_L_pass_6, st_L_pass_7, st_L_pass_9, st_L_pass_10, st_L_pass_11, st_L_pass_13, o_iload, o_aload, o_const, o_lconst, o_istore, o_astore, o_iinc, o_dup, o_dup2, o_pop, o_bin, o_div, o_un, o_mbin, o_mun, o_i2l, o_lcmp, o_ifeq, o_ifne, o_iflt, o_ifge, o_ifgt, o_ifle, o_icmpeq, o_icmpne, o_icmplt, o_icmpge, o_icmpgt, o_icmple, o_goto, o_getf, o_puti, o_putz, o_putr, o_iald, o_iast, o_zast, o_lald, o_last, o_aald, o_aast, o_alenO, o_new, o_newi, o_newl, o_newq, o_newqd, o_mna, o_copy, o_drop, o_cast, o_call, o_callx, o_callv, o_callvx, o_callh, o_sald, o_slen, o_switch, m_rcv, o_ireturn, o_zreturn, o_areturn, o_return, o_throw, o_null, o_dupx1, o_de, m_ent, List.getElem?_cons_zero, List.getElem?_cons_succ, List.getElem?_nil, List.set_cons_zero, List.set_cons_succ, List.length_cons, List.length_nil, List.map_cons, List.map_nil, List.replicate_succ, List.replicate_zero, List.take_succ_cons, List.take_zero, List.drop_succ_cons, List.drop_zero, List.reverse_cons, List.reverse_nil, List.cons_append, List.nil_append, List.append_nil, Option.toList_some, Option.toList_none, Nat.reduceAdd, Nat.reduceSub, Nat.reduceLeDiff, Nat.reduceLT, Nat.reduceEqDiff, Nat.le_refl, Nat.zero_le, Nat.zero_add, Nat.sub_zero, true_and, and_true, false_and, and_false, if_true, if_false, ite_true, ite_false, reduceIte, or_true, true_or, Option.isSome_some, not_true_eq_false, not_false_eq_true, forall_const, true_implies, false_implies, implies_true, ne_eq, m_gI_I, m_gJ_J, m_gQ_Q, m_gO_O]
