/-! the club's commands, whole heap: send, fill, storm -/
theorem c_csend (d : Nat) {n nc nd nk ns sz : Nat} {x y t : Int32} {ca da ka sa g : Nat → Nat} {cb db sd ow : Nat → Nat → Nat} {got : Nat → Nat → Int32} {s1 s2 : Int32} {hr : Nat} {o32 : Nat → Nat → Int32} {acc : Nat → Int32} {club sp : Int32} {kb sb : Nat → Nat → Nat} {kw sc : Nat → Option Nat} {wh : Nat → Nat} {wy : Nat → Option Nat} {ln : Nat → Nat} {ar : Nat → Nat → Int32} {rq : Nat → Nat → Option Nat} {ou : Nat → Int64} {dy : Nat → m_C} (hn : 95 ≤ n) (H : y_R n nc nd nk ns sz ca da ka sa g cb db sd ow got s1 s2 (hr, o32, acc, club, sp, (kb, kw, sb, sc, wh), wy, ln) ar rq dy) (hkw : ∀ k, k < nk → (kw k = none ↔ kb k 3 < 5)) (ht : t = n_gc (n_tf ((¬ x < 0 ∧ x < nI ns) ∧ (y = -1 ∨ (¬ y < 0 ∧ y < nI nk)))) (n_tf (((¬ x < 0 ∧ x < nI ns) ∧ (y = -1 ∨ (¬ y < 0 ∧ y < nI nk))) ∧ (y = -1 ∨ (kb y.toNatClampNeg 3 < 5 ∧ n_sx sc y.toNatClampNeg ns 0 0 = 0)))) (n_tf True)) :
    ∃ (o : m_R) (S' : m_S), m_Ev m_cds m_my (d + 2) 28 [.ref 3, .int x, .int y] (n, m_hp ar rq ou dy) o S' ∧ c_an n rq ou dy ar t (n_w (sc x.toNatClampNeg)) n_x2 (z_R nc nd nk ns sz cb db sd ow got s1 s2 (hr, o32, acc, club, sp, (kb, kw, sb, m_uf sc x.toNatClampNeg (n_oc y), wh), wy, ln)) o S' := by
  obtain ⟨⟨hC, hD, hK, hS, hL, hM, hN, h93, h9⟩, h38⟩ := id H
  simp only at hC hD hK hS hM hN h93 h9 h38
  obtain ⟨hns, h11, hSB, hSa⟩ := id hS
  obtain ⟨hnk, h10, hKB, hKa⟩ := id hK
  obtain ⟨o, S', hE, hP⟩ := e_send d (n := n) (x := x) (y := y) (ou := ou) hns hnk h11 h10 hSB hKB
  refine ⟨o, S', hE, ?_⟩
  unfold c_an
  have succ : ((¬ x < 0 ∧ x < nI ns) ∧ (y = -1 ∨ (¬ y < 0 ∧ y < nI nk))) → c_send n ns sa sb sc x y ar rq ou dy o S' → (o = .inl (some (.int (n_w (sc x.toNatClampNeg)))) ∧ ∃ (n' : Nat) (ar' : Nat → Nat → Int32) (rq' : Nat → Nat → Option Nat) (dy' : Nat → m_C), S' = (n', m_hp ar' rq' ou dy') ∧ n ≤ n' ∧ (∀ x, 94 ≤ x → ar' x = ar x) ∧ (z_R nc nd nk ns sz cb db sd ow got s1 s2 (hr, o32, acc, club, sp, (kb, kw, sb, m_uf sc x.toNatClampNeg (n_oc y), wh), wy, ln)) n' ar' rq' dy') := by
    rintro ⟨c1, c2⟩ ⟨s, rfl, hs, rfl, rfl⟩
    rw [v_cl (by omega)]
    obtain ⟨hoc, hoc2⟩ := n_oc_w (by omega) c2
    obtain ⟨J1, J2, J3, J4, J5, J6, J7⟩ := hSB s hs
    refine ⟨rfl, n, ar, rq, _, rfl, Nat.le_refl _, fun _ _ => rfl, hn, ca, da, ka, sa, g, ⟨⟨hC.1, hC.2.1, n_CB_up hC.2.2.1 J3 (by decide), hC.2.2.2⟩, ⟨hD.1, hD.2.1, n_DB_up hD.2.2.1 J3 (by decide), hD.2.2.2⟩, ⟨hnk, h10, n_KB_up hKB J3 (by decide), hKa⟩, ⟨hns, h11, fun t ht => ?_, hSa⟩, y_L_up hL J3 (by decide) (by decide), hM, hN, h93, h9⟩, h38⟩
    show rq 77 t = some (sa t) ∧ 98 ≤ sa t ∧ m_up dy (sa s) _ (sa t) = m_O 6 [.int (nI (sb t 0)), .int (nI (sb t 1)), .int (nI (sb t 2)), .int (n_w (m_uf sc s (n_oc y) t))] ∧ sb t 0 ≤ 200 ∧ sb t 1 ≤ 1000 ∧ sb t 2 ≤ 10 ∧ ∀ k, m_uf sc s (n_oc y) t = some k → k < 16
    by_cases et : t = s
    · subst et
      rw [m_up_a, m_uf_eq, hoc]
      exact ⟨J1, J2, rfl, J4, J5, J6, fun k z => by have := hoc2 k z; omega⟩
    · rw [m_up_b (fun z => et ((hSa t ht).2 s hs z)), m_uf_ne et]
      exact hSB t ht
  by_cases c1 : (¬ x < 0 ∧ x < nI ns)
  · rw [if_pos c1] at hP
    by_cases c2 : y = -1
    · rw [if_pos c2] at hP
      have t0 : t = 0 := by rw [ht, n_tf_t ⟨c1, Or.inl c2⟩, n_tf_t ⟨⟨c1, Or.inl c2⟩, Or.inl c2⟩, n_tf_t trivial]; rfl
      rw [if_pos t0]
      exact succ ⟨c1, Or.inl c2⟩ hP
    · rw [if_neg c2] at hP
      by_cases c3 : ¬ y < 0 ∧ y < nI nk
      · rw [if_pos c3] at hP
        obtain ⟨k, hk, g1, g2⟩ := n_ok_of (by omega) c3
        have hsx := n_sx_0 (sc := sc) (k := y.toNatClampNeg) (m := ns) (s := 0)
        by_cases c4 : kw y.toNatClampNeg = none ∧ ∀ s, s < ns → sc s ≠ some y.toNatClampNeg
        · rw [if_pos c4] at hP
          have w4 : kb y.toNatClampNeg 3 < 5 ∧ n_sx sc y.toNatClampNeg ns 0 0 = 0 := ⟨(hkw _ (by rw [g2]; exact hk)).mp c4.1, hsx.mpr (fun t _ h2 => c4.2 t (by omega))⟩
          have t0 : t = 0 := by rw [ht, n_tf_t ⟨c1, Or.inr c3⟩, n_tf_t ⟨⟨c1, Or.inr c3⟩, Or.inr w4⟩, n_tf_t trivial]; rfl
          rw [if_pos t0]
          exact succ ⟨c1, Or.inr c3⟩ hP
        · rw [if_neg c4] at hP
          have w4 : ¬ (kb y.toNatClampNeg 3 < 5 ∧ n_sx sc y.toNatClampNeg ns 0 0 = 0) := fun w => c4 ⟨(hkw _ (by rw [g2]; exact hk)).mpr w.1, fun s hs => hsx.mp w.2 s (Nat.zero_le s) (by omega)⟩
          have t0 : t = 2 := by rw [ht, n_tf_t ⟨c1, Or.inr c3⟩, n_tf_f (fun w => w.2.elim c2 w4)]; exact n_gc_2 rfl
          rw [if_neg (by rw [t0]; decide), t0]
          exact hP
      · rw [if_neg c3] at hP
        have t0 : t = 1 := by rw [ht, n_tf_f (fun w => w.2.elim c2 c3)]; exact n_gc_1 rfl
        rw [if_neg (by rw [t0]; decide), t0]
        exact hP
  · rw [if_neg c1] at hP
    have t0 : t = 1 := by rw [ht, n_tf_f (fun w => c1 w.1)]; exact n_gc_1 rfl
    rw [if_neg (by rw [t0]; decide), t0]
    exact hP
theorem c_cfill (d : Nat) {n nc nd nk ns sz : Nat} {x y t : Int32} {ca da ka sa g : Nat → Nat} {cb db sd ow : Nat → Nat → Nat} {got : Nat → Nat → Int32} {s1 s2 : Int32} {hr : Nat} {o32 : Nat → Nat → Int32} {acc : Nat → Int32} {club sp : Int32} {kb sb : Nat → Nat → Nat} {kw sc : Nat → Option Nat} {wh : Nat → Nat} {wy : Nat → Option Nat} {ln : Nat → Nat} {ar : Nat → Nat → Int32} {rq : Nat → Nat → Option Nat} {ou : Nat → Int64} {dy : Nat → m_C} (hn : 95 ≤ n) (H : y_R n nc nd nk ns sz ca da ka sa g cb db sd ow got s1 s2 (hr, o32, acc, club, sp, (kb, kw, sb, sc, wh), wy, ln) ar rq dy) (ht : t = n_gc (n_tf (¬ x < 0 ∧ x < nI ns)) (n_tf (¬ y < 0 ∧ ¬ 10 < y)) (n_tf ((¬ x < 0 ∧ x < nI ns) ∧ (sc x.toNatClampNeg = none ∧ sb x.toNatClampNeg 1 % 200 = 0)))) :
    ∃ (o : m_R) (S' : m_S), m_Ev m_cds m_my (d + 2) 29 [.ref 3, .int x, .int y] (n, m_hp ar rq ou dy) o S' ∧ c_an n rq ou dy ar t (nI (sb x.toNatClampNeg 2)) n_x3 (z_R nc nd nk ns sz cb db sd ow got s1 s2 (hr, o32, acc, club, sp, (kb, kw, m_u2 sb x.toNatClampNeg 2 y.toNatClampNeg, sc, wh), wy, ln)) o S' := by
  obtain ⟨⟨hC, hD, hK, hS, hL, hM, hN, h93, h9⟩, h38⟩ := id H
  simp only at hC hD hK hS hM hN h93 h9 h38
  obtain ⟨hns, h11, hSB, hSa⟩ := id hS
  obtain ⟨o, S', hE, hP⟩ := e_fill d (n := n) (x := x) (y := y) (ou := ou) hns h11 hSB
  refine ⟨o, S', hE, ?_⟩
  unfold c_an
  by_cases c1 : (¬ x < 0 ∧ x < nI ns)
  · rw [if_pos c1] at hP
    by_cases c2 : (¬ y < 0 ∧ ¬ 10 < y)
    · rw [if_pos c2] at hP
      by_cases c3 : sc x.toNatClampNeg = none ∧ sb x.toNatClampNeg 1 % 200 = 0
      · rw [if_pos c3] at hP
        have t0 : t = 0 := by rw [ht, n_tf_t c1, n_tf_t c2, n_tf_t ⟨c1, c3⟩]; rfl
        rw [if_pos t0]
        obtain ⟨s, rfl, hs, rfl, rfl⟩ := hP
        obtain ⟨e3, hy⟩ := i_rng (N := 10) (by omega) c2.1 c2.2
        rw [v_cl (by omega)]
        generalize y.toNatClampNeg = yn at e3 hy ⊢
        obtain ⟨J1, J2, J3, J4, J5, J6, J7⟩ := hSB s hs
        refine ⟨rfl, n, ar, rq, _, rfl, Nat.le_refl _, fun _ _ => rfl, hn, ca, da, ka, sa, g, ⟨⟨hC.1, hC.2.1, n_CB_up hC.2.2.1 J3 (by decide), hC.2.2.2⟩, ⟨hD.1, hD.2.1, n_DB_up hD.2.2.1 J3 (by decide), hD.2.2.2⟩, ⟨hK.1, hK.2.1, n_KB_up hK.2.2.1 J3 (by decide), hK.2.2.2⟩, ⟨hns, h11, fun t ht => ?_, hSa⟩, y_L_up hL J3 (by decide) (by decide), hM, hN, h93, h9⟩, h38⟩
        show rq 77 t = some (sa t) ∧ 98 ≤ sa t ∧ m_up dy (sa s) _ (sa t) = m_O 6 [.int (nI (m_u2 sb s 2 yn t 0)), .int (nI (m_u2 sb s 2 yn t 1)), .int (nI (m_u2 sb s 2 yn t 2)), .int (n_w (sc t))] ∧ m_u2 sb s 2 yn t 0 ≤ 200 ∧ m_u2 sb s 2 yn t 1 ≤ 1000 ∧ m_u2 sb s 2 yn t 2 ≤ 10 ∧ ∀ k, sc t = some k → k < 16
        rw [m_u2_n2 (by omega : (0 : Nat) ≠ 2), m_u2_n2 (by omega : (1 : Nat) ≠ 2)]
        by_cases et : t = s
        · subst et
          rw [m_up_a, m_u2_eq, e3]
          exact ⟨J1, J2, rfl, J4, J5, hy, J7⟩
        · rw [m_up_b (fun z => et ((hSa t ht).2 s hs z)), m_u2_n1 et]
          exact hSB t ht
      · rw [if_neg c3] at hP
        have t0 : t = 3 := by rw [ht, n_tf_t c1, n_tf_t c2, n_tf_f (fun w => c3 w.2)]; exact n_gc_3 rfl
        rw [if_neg (by rw [t0]; decide), t0]
        exact hP
    · rw [if_neg c2] at hP
      have t0 : t = 2 := by rw [ht, n_tf_t c1, n_tf_f c2]; exact n_gc_2 rfl
      rw [if_neg (by rw [t0]; decide), t0]
      exact hP
  · rw [if_neg c1] at hP
    have t0 : t = 1 := by rw [ht, n_tf_f c1]; exact n_gc_1 rfl
    rw [if_neg (by rw [t0]; decide), t0]
    exact hP
theorem c_cstorm (d : Nat) {n nc nd nk ns sz : Nat} {x y t : Int32} {ca da ka sa g : Nat → Nat} {cb db sd ow : Nat → Nat → Nat} {got : Nat → Nat → Int32} {s1 s2 : Int32} {hr : Nat} {o32 : Nat → Nat → Int32} {acc : Nat → Int32} {club sp : Int32} {kb sb : Nat → Nat → Nat} {kw sc : Nat → Option Nat} {wh : Nat → Nat} {wy : Nat → Option Nat} {ln : Nat → Nat} {ar : Nat → Nat → Int32} {rq : Nat → Nat → Option Nat} {ou : Nat → Int64} {dy : Nat → m_C} (hn : 95 ≤ n) (H : y_R n nc nd nk ns sz ca da ka sa g cb db sd ow got s1 s2 (hr, o32, acc, club, sp, (kb, kw, sb, sc, wh), wy, ln) ar rq dy) (ht : t = n_gc (n_tf ((¬ x < 0 ∧ ¬ 1000 < x) ∧ (¬ y < x ∧ ¬ 1000 < y))) 1 1) :
    ∃ (o : m_R) (S' : m_S), m_Ev m_cds m_my (d + 2) 30 [.ref 3, .int x, .int y] (n, m_hp ar rq ou dy) o S' ∧ (if t = 0 then o = .inl none ∧ ∃ ar' : Nat → Nat → Int32, S' = (n, m_hp ar' rq ou dy) ∧ (∀ x, 94 ≤ x → ar' x = ar x) ∧ z_R nc nd nk ns sz cb db sd ow got x y (hr, o32, acc, club, sp, (kb, kw, sb, sc, wh), wy, ln) n ar' rq dy else o = .inr (n_xa t) ∧ S' = (n, m_hp ar rq ou dy)) := by
  have hE := e_storm d (n := n) (x := x) (y := y) (ar := ar) (rq := rq) (ou := ou) (dy := dy)
  by_cases c1 : (¬ x < 0 ∧ ¬ 1000 < x) ∧ (¬ y < x ∧ ¬ 1000 < y)
  · rw [if_pos c1, if_pos c1] at hE
    have t0 : t = 0 := by rw [ht, n_tf_t c1]; rfl
    refine ⟨_, _, hE, ?_⟩
    rw [if_pos t0]
    obtain ⟨⟨hC, hD, hK, hS, hL, hM, hN, h93, h9⟩, h38⟩ := H
    simp only at hC hD hK hS hM hN h93 h9 h38
    have hx : ∀ q, q ≠ 3 → m_uf ar 3 (m_uf (m_uf (ar 3) 13 x) 14 y) q = ar q := fun q hq => m_uf_ne hq
    have h3 : ∀ k, k ≠ 13 → k ≠ 14 → m_uf ar 3 (m_uf (m_uf (ar 3) 13 x) 14 y) 3 k = ar 3 k := fun k q1 q2 => by rw [m_uf_eq, m_uf_ne q2, m_uf_ne q1]
    have h13 : m_uf ar 3 (m_uf (m_uf (ar 3) 13 x) 14 y) 3 13 = x := by rw [m_uf_eq, m_uf_ne (by omega), m_uf_eq]
    have h14 : m_uf ar 3 (m_uf (m_uf (ar 3) 13 x) 14 y) 3 14 = y := by rw [m_uf_eq, m_uf_eq]
    generalize m_uf ar 3 (m_uf (m_uf (ar 3) 13 x) 14 y) = b at hx h3 h13 h14 ⊢
    exact ⟨rfl, b, rfl, fun q hq => hx q (by omega), hn, ca, da, ka, sa, g, ⟨y_C_cg hC (by rw [hx 4 (by omega)]) (hx _ (by omega)) (fun c hc => hx _ (by omega)), z_D_cg hD (by rw [hx 4 (by omega)]) (hx _ (by omega)) (hx _ (by omega)) rfl, z_K_cg hK (h3 _ (by omega) (by omega)) rfl, z_S_cg hS (h3 _ (by omega) (by omega)) rfl, hL, ⟨by rw [h3 _ (by omega) (by omega)]; exact hM.1, h13, h14, fun p hp q hq => by rw [hx _ (by omega), hx _ (by omega)]; exact hM.2.2.2 p hp q hq⟩, y_N_cg hC.1 hN (by rw [hx 4 (by omega)]) (fun q q1 q2 => hx _ (by omega)), by rw [hx _ (by omega)]; exact h93, by rw [h3 _ (by omega) (by omega)]; exact h9⟩, by rw [h3 _ (by omega) (by omega)]; exact h38⟩
  · rw [if_neg c1, if_neg c1] at hE
    have t0 : t = 1 := by rw [ht, n_tf_f c1]; exact n_gc_1 rfl
    refine ⟨_, _, hE, ?_⟩
    rw [if_neg (by rw [t0]; decide), t0]
    exact ⟨rfl, rfl⟩
