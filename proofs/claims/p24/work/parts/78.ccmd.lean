/-! the club's commands, whole heap: ship, send, fill, storm -/
theorem z_C_cg {n nc : Nat} {ca : Nat → Nat} {cb ow : Nat → Nat → Nat} {wh : Nat → Nat} {a b : Nat → Nat → Int32} {rq rq' : Nat → Nat → Option Nat} {dy : Nat → m_C} (h : y_C n nc ca cb ow wh a rq dy) (h4 : b 4 7 = a 4 7) (h6 : b 6 = a 6) (h8 : ∀ c, c < 10 → b (8 + c) = a (8 + c)) (hr : rq' 5 = rq 5) : y_C n nc ca cb ow wh b rq' dy := by
  obtain ⟨q1, q2, q3, q4⟩ := y_C_cg h h4 h6 h8
  exact ⟨q1, q2, fun c hc => by show rq' 5 c = _ ∧ _; rw [hr]; exact q3 c hc, q4⟩
theorem z_D_cg {n nd : Nat} {da : Nat → Nat} {db : Nat → Nat → Nat} {wy : Nat → Option Nat} {ln : Nat → Nat} {a b : Nat → Nat → Int32} {rq rq' : Nat → Nat → Option Nat} {dy : Nat → m_C} (h : y_D n nd da db wy ln a rq dy) (h4 : b 4 8 = a 4 8) (h1 : b 19 = a 19) (h2 : b 20 = a 20) (hr : rq' 18 = rq 18) : y_D n nd da db wy ln b rq' dy :=
  ⟨h.1, by rw [h4]; exact h.2.1, fun i hi => by show rq' 18 i = _ ∧ _; rw [hr]; exact h.2.2.1 i hi, fun i hi => by rw [h1, h2]; exact h.2.2.2 i hi⟩
theorem z_K_cg {n nk : Nat} {ka : Nat → Nat} {kb : Nat → Nat → Nat} {kw : Nat → Option Nat} {a b : Nat → Nat → Int32} {rq rq' : Nat → Nat → Option Nat} {dy : Nat → m_C} (h : y_K n nk ka kb kw a rq dy) (h3 : b 3 10 = a 3 10) (hr : rq' 76 = rq 76) : y_K n nk ka kb kw b rq' dy := ⟨h.1, by rw [h3]; exact h.2.1, fun i hi => by rw [hr]; exact h.2.2.1 i hi, h.2.2.2⟩
theorem z_S_cg {n ns : Nat} {sa : Nat → Nat} {sb : Nat → Nat → Nat} {sc : Nat → Option Nat} {a b : Nat → Nat → Int32} {rq rq' : Nat → Nat → Option Nat} {dy : Nat → m_C} (h : y_S n ns sa sb sc a rq dy) (h3 : b 3 11 = a 3 11) (hr : rq' 77 = rq 77) : y_S n ns sa sb sc b rq' dy := ⟨h.1, by rw [h3]; exact h.2.1, fun i hi => by rw [hr]; exact h.2.2.1 i hi, h.2.2.2⟩
theorem z_M_cg {hr : Nat} {o32 got : Nat → Nat → Int32} {s1 s2 : Int32} {a b : Nat → Nat → Int32} (h : y_M hr o32 got s1 s2 a) (h1 : b 3 12 = a 3 12) (h2 : b 3 13 = a 3 13) (h3 : b 3 14 = a 3 14) (hx : ∀ x, 80 ≤ x → x < 93 → b x = a x) : y_M hr o32 got s1 s2 b := ⟨by rw [h1]; exact h.1, by rw [h2]; exact h.2.1, by rw [h3]; exact h.2.2.1, fun p hp q hq => by rw [hx _ (by omega) (by omega), hx _ (by omega) (by omega)]; exact h.2.2.2 p hp q hq⟩
theorem z_C_nw {n nc : Nat} {ca : Nat → Nat} {cb ow : Nat → Nat → Nat} {wh : Nat → Nat} {a : Nat → Nat → Int32} {rq : Nat → Nat → Option Nat} {dy : Nat → m_C} {c : m_C} (h : y_C n nc ca cb ow wh a rq dy) : y_C (n + 1) nc ca cb ow wh a rq (m_up dy (n + 3) c) := by
  obtain ⟨q1, q2, q3, q4, q5, q6⟩ := h
  refine ⟨q1, q2, fun i hi => ?_, q4, q5, fun i hi => by have := q6 i hi; omega⟩
  obtain ⟨r1, r2, r3, r4⟩ := q3 i hi
  exact ⟨r1, r2, by rw [m_up_b (by have := q6 i hi; omega)]; exact r3, r4⟩
theorem z_D_nw {n nd : Nat} {da : Nat → Nat} {db : Nat → Nat → Nat} {wy : Nat → Option Nat} {ln : Nat → Nat} {a : Nat → Nat → Int32} {rq : Nat → Nat → Option Nat} {dy : Nat → m_C} {c : m_C} (h : y_D n nd da db wy ln a rq dy) : y_D (n + 1) nd da db wy ln a rq (m_up dy (n + 3) c) := by
  obtain ⟨q1, q2, q3, q4⟩ := h
  refine ⟨q1, q2, fun i hi => ?_, fun i hi => ⟨by have := (q4 i hi).1; omega, (q4 i hi).2⟩⟩
  obtain ⟨r1, r2, r3, r4⟩ := q3 i hi
  exact ⟨r1, r2, by rw [m_up_b (by have := (q4 i hi).1; omega)]; exact r3, r4⟩
theorem z_K_nw {n nk : Nat} {ka : Nat → Nat} {kb : Nat → Nat → Nat} {kw : Nat → Option Nat} {a : Nat → Nat → Int32} {rq : Nat → Nat → Option Nat} {dy : Nat → m_C} {c : m_C} (h : y_K n nk ka kb kw a rq dy) : y_K (n + 1) nk ka kb kw a rq (m_up dy (n + 3) c) := by
  obtain ⟨q1, q2, q3, q4⟩ := h
  refine ⟨q1, q2, fun i hi => ?_, fun i hi => ⟨by have := (q4 i hi).1; omega, (q4 i hi).2⟩⟩
  obtain ⟨r1, r2, r3, r4⟩ := q3 i hi
  exact ⟨r1, r2, by rw [m_up_b (by have := (q4 i hi).1; omega)]; exact r3, r4⟩
theorem z_S_nw {n ns : Nat} {sa : Nat → Nat} {sb : Nat → Nat → Nat} {sc : Nat → Option Nat} {a : Nat → Nat → Int32} {rq : Nat → Nat → Option Nat} {dy : Nat → m_C} {c : m_C} (h : y_S n ns sa sb sc a rq dy) : y_S (n + 1) ns sa sb sc a rq (m_up dy (n + 3) c) := by
  obtain ⟨q1, q2, q3, q4⟩ := h
  refine ⟨q1, q2, fun i hi => ?_, fun i hi => ⟨by have := (q4 i hi).1; omega, (q4 i hi).2⟩⟩
  obtain ⟨r1, r2, r3, r4⟩ := q3 i hi
  exact ⟨r1, r2, by rw [m_up_b (by have := (q4 i hi).1; omega)]; exact r3, r4⟩
theorem z_L_nw {n sz : Nat} {g : Nat → Nat} {sd : Nat → Nat → Nat} {dy : Nat → m_C} {c : m_C} (hn : 95 ≤ n) (h : y_L n sz g sd dy) : y_L (n + 1) sz g sd (m_up dy (n + 3) c) := by
  obtain ⟨q1, q2, q3, q4⟩ := h
  refine ⟨q1, n_LR_up hn q2, n_LG_up q3, fun i hi => ?_⟩
  obtain ⟨r1, r2, r3⟩ := q4 i hi
  exact ⟨r1, by rw [m_up_b (by have := (q3 i hi).2.1; omega)]; exact r2, r3⟩
def z_R (nc nd nk ns sz : Nat) (cb db sd ow : Nat → Nat → Nat) (got : Nat → Nat → Int32) (s1 s2 : Int32) (D : n_D) (n : Nat) (ar : Nat → Nat → Int32) (rq : Nat → Nat → Option Nat) (dy : Nat → m_C) : Prop := 95 ≤ n ∧ ∃ ca da ka sa g : Nat → Nat, y_R n nc nd nk ns sz ca da ka sa g cb db sd ow got s1 s2 D ar rq dy
/-- what a club's command leaves: it went, or what it threw -/
def c_an (n : Nat) (rq : Nat → Nat → Option Nat) (ou : Nat → Int64) (dy : Nat → m_C) (ar : Nat → Nat → Int32) (t w : Int32) (ex : Int32 → String) (Q : Nat → (Nat → Nat → Int32) → (Nat → Nat → Option Nat) → (Nat → m_C) → Prop) (o : m_R) (S' : m_S) : Prop := if t = 0 then o = .inl (some (.int w)) ∧ ∃ (n' : Nat) (ar' : Nat → Nat → Int32) (rq' : Nat → Nat → Option Nat) (dy' : Nat → m_C), S' = (n', m_hp ar' rq' ou dy') ∧ n ≤ n' ∧ (∀ x, 94 ≤ x → ar' x = ar x) ∧ Q n' ar' rq' dy' else o = .inr (ex t) ∧ S' = (n, m_hp ar rq ou dy)
def n_x3 (t : Int32) : String := if t = 1 then m_ios else if t = 2 then m_ias else m_iss
def n_x2 (t : Int32) : String := if t = 1 then m_ios else m_iss
def n_xa (t : Int32) : String := if t = 1 then m_ias else m_iss
theorem n_gc_1 {a b c : Int32} (h : a = 0) : n_gc a b c = 1 := if_pos h
theorem n_gc_2 {b c : Int32} (h : b = 0) : n_gc 1 b c = 2 := by unfold n_gc; rw [if_neg (by decide), if_pos h]
theorem n_gc_3 {c : Int32} (h : c = 0) : n_gc 1 1 c = 3 := by unfold n_gc; rw [if_neg (by decide), if_neg (by decide), if_pos h]
theorem n_gc_4 : n_gc 1 1 1 = 0 := by decide
theorem c_cship (d : Nat) {n nc nd nk ns sz : Nat} {x y z t : Int32} {ca da ka sa g : Nat → Nat} {cb db sd ow : Nat → Nat → Nat} {got : Nat → Nat → Int32} {s1 s2 : Int32} {hr : Nat} {o32 : Nat → Nat → Int32} {acc : Nat → Int32} {club sp : Int32} {kb sb : Nat → Nat → Nat} {kw sc : Nat → Option Nat} {wh : Nat → Nat} {wy : Nat → Option Nat} {ln : Nat → Nat} {ar : Nat → Nat → Int32} {rq : Nat → Nat → Option Nat} {ou : Nat → Int64} {dy : Nat → m_C} (hn : 95 ≤ n) (H : y_R n nc nd nk ns sz ca da ka sa g cb db sd ow got s1 s2 (hr, o32, acc, club, sp, (kb, kw, sb, sc, wh), wy, ln) ar rq dy) (ht : t = n_gc (n_tf (¬ x < 0 ∧ x < 6)) (n_tf ((¬ y < 10 ∧ ¬ 200 < y) ∧ (¬ z < 0 ∧ ¬ 10 < z))) (n_tf (ns < 3))) :
    ∃ (o : m_R) (S' : m_S), m_Ev m_cds m_my (d + 2) 27 [.ref 3, .int x, .int y, .int z] (n, m_hp ar rq ou dy) o S' ∧ c_an n rq ou dy ar t (nI ns) n_x3 (z_R nc nd nk (ns + 1) sz cb db sd ow got s1 s2 (hr, o32, acc, club, sp, (kb, kw, m_uf sb ns (n_row3 y.toNatClampNeg (x.toNatClampNeg * 200) z.toNatClampNeg), m_uf sc ns none, wh), wy, ln)) o S' := by
  obtain ⟨⟨hC, hD, hK, hS, hL, hM, hN, h93, h9⟩, h38⟩ := id H
  simp only at hC hD hK hS hM hN h93 h9 h38
  obtain ⟨hns, h11, hSB, hSa⟩ := id hS
  obtain ⟨o, S', hE, hP⟩ := e_ship d (x := x) (y := y) (z := z) (rq := rq) (ou := ou) (dy := dy) hn h11 hns
  refine ⟨o, S', hE, ?_⟩
  have z3 : (nI ns < 3) = (ns < 3) := propext (nI_ltI (b := 3) (by omega) (by omega))
  unfold c_an
  by_cases c1 : ¬ x < 0 ∧ x < 6
  · rw [if_pos c1] at hP
    by_cases c2 : ¬ y < 10 ∧ ¬ 200 < y
    · rw [if_pos c2] at hP
      by_cases c3 : ¬ z < 0 ∧ ¬ 10 < z
      · rw [if_pos c3] at hP
        by_cases c4 : ns < 3
        · rw [if_pos (by rw [z3]; exact c4)] at hP
          have t0 : t = 0 := by rw [ht, n_tf_t c1, n_tf_t ⟨c2, c3⟩, n_tf_t c4]; rfl
          rw [if_pos t0]
          obtain ⟨rfl, rfl⟩ := hP
          obtain ⟨a, ha, e1, e2⟩ := n_ok_of (n := 6) (by omega) c1
          obtain ⟨e3, hy⟩ := i_rng (N := 200) (by omega) (fun w => c2.1 (Int32.lt_trans w (by decide))) c2.2
          obtain ⟨e4, hz⟩ := i_rng (N := 10) (by omega) c3.1 c3.2
          rw [e2]
          have hm : x * 200 = nI (a * 200) := by rw [e1]; exact v_mul a 200
          rw [hm]
          generalize y.toNatClampNeg = yn at e3 hy ⊢
          generalize z.toNatClampNeg = zn at e4 hz ⊢
          refine ⟨rfl, _, _, _, _, rfl, by omega, fun q hq => m_uf_ne (by omega), by omega, ca, da, ka, m_uf sa ns (n + 3), g, ⟨z_C_cg (z_C_nw hC) ?_ ?_ (fun c hc => ?_) ?_, z_D_cg (z_D_nw hD) ?_ ?_ ?_ ?_, z_K_cg (z_K_nw hK) ?_ ?_, ⟨by omega, ?_, fun s hs => ?_, fun s hs => ?_⟩, z_L_nw hn hL, z_M_cg hM ?_ ?_ ?_ (fun q q1 q2 => ?_), y_N_cg hC.1 hN ?_ (fun q q1 q2 => ?_), ?_, ?_⟩, ?_⟩
          all_goals try simp (disch := omega) only [m_uf_eq, m_uf_ne]
          · show va_up (rq 77) ns (some (n + 3)) s = some (m_uf sa ns (n + 3) s) ∧ 98 ≤ m_uf sa ns (n + 3) s ∧ m_up dy (n + 3) (m_O 6 [.int y, .int (nI (a * 200)), .int z, .int (-1)]) (m_uf sa ns (n + 3) s) = m_O 6 [.int (nI (m_uf sb ns (n_row3 yn (a * 200) zn) s 0)), .int (nI (m_uf sb ns (n_row3 yn (a * 200) zn) s 1)), .int (nI (m_uf sb ns (n_row3 yn (a * 200) zn) s 2)), .int (n_w (m_uf sc ns none s))] ∧ m_uf sb ns (n_row3 yn (a * 200) zn) s 0 ≤ 200 ∧ m_uf sb ns (n_row3 yn (a * 200) zn) s 1 ≤ 1000 ∧ m_uf sb ns (n_row3 yn (a * 200) zn) s 2 ≤ 10 ∧ ∀ k, m_uf sc ns none s = some k → k < 16
            by_cases e : s = ns
            · subst e
              rw [m_uf_eq, m_uf_eq, m_uf_eq, m_up_a, va_up_i, if_pos rfl, e3, e4]
              exact ⟨rfl, by omega, rfl, hy, by show a * 200 ≤ 1000; omega, hz, fun _ w => by cases w⟩
            · obtain ⟨J1, J2, J3, J4, J5, J6, J7⟩ := hSB s (by omega)
              have := (hSa s (by omega)).1
              rw [m_uf_ne e, m_uf_ne e, m_uf_ne e, m_up_b (by omega), va_up_i, if_neg e]
              exact ⟨J1, J2, J3, J4, J5, J6, J7⟩
          · by_cases e : s = ns
            · subst e
              rw [m_uf_eq]
              refine ⟨by omega, fun s' hs' w => ?_⟩
              by_cases e' : s' = s
              · exact e'.symm
              · rw [m_uf_ne e'] at w
                have := (hSa s' (by omega)).1
                omega
            · rw [m_uf_ne e]
              refine ⟨by have := (hSa s (by omega)).1; omega, fun s' hs' w => ?_⟩
              by_cases e' : s' = ns
              · subst e'
                rw [m_uf_eq] at w
                have := (hSa s (by omega)).1
                omega
              · rw [m_uf_ne e'] at w
                exact (hSa s (by omega)).2 s' (by omega) w
          · exact h93
          · exact h9
          · exact h38
        · rw [if_neg (by rw [z3]; exact c4)] at hP
          have t0 : t = 3 := by rw [ht, n_tf_t c1, n_tf_t ⟨c2, c3⟩, n_tf_f c4]; rfl
          rw [if_neg (by rw [t0]; decide), t0]
          exact hP
      · rw [if_neg c3] at hP
        have t0 : t = 2 := by rw [ht, n_tf_t c1, n_tf_f (fun w => c3 w.2)]; exact n_gc_2 rfl
        rw [if_neg (by rw [t0]; decide), t0]
        exact hP
    · rw [if_neg c2] at hP
      have t0 : t = 2 := by rw [ht, n_tf_t c1, n_tf_f (fun w => c2 w.1)]; exact n_gc_2 rfl
      rw [if_neg (by rw [t0]; decide), t0]
      exact hP
  · rw [if_neg c1] at hP
    have t0 : t = 1 := by rw [ht, n_tf_f c1]; exact n_gc_1 rfl
    rw [if_neg (by rw [t0]; decide), t0]
    exact hP
