/-! the club's commands, whole heap: sell -/
def n_fr2 (n : Nat) (dy dy' : Nat → m_C) : Prop := ∀ a k fs, a ≠ 78 → a < n + 3 → dy a = m_O k fs → dy' a = m_O k fs
theorem z_C_fr {n n' nc : Nat} {ca : Nat → Nat} {cb ow : Nat → Nat → Nat} {wh : Nat → Nat} {a : Nat → Nat → Int32} {rq : Nat → Nat → Option Nat} {dy dy' : Nat → m_C} (h : y_C n nc ca cb ow wh a rq dy) (hn : n ≤ n') (hf : n_fr2 n dy dy') : y_C n' nc ca cb ow wh a rq dy' := by
  obtain ⟨q1, q2, q3, q4, q5, q6⟩ := h
  refine ⟨q1, q2, fun i hi => ?_, q4, q5, fun i hi => by have := q6 i hi; omega⟩
  obtain ⟨r1, r2, r3, r4⟩ := q3 i hi
  exact ⟨r1, r2, hf _ _ _ (by omega) (q6 i hi) r3, r4⟩
theorem z_D_fr {n n' nd : Nat} {da : Nat → Nat} {db : Nat → Nat → Nat} {wy : Nat → Option Nat} {ln : Nat → Nat} {a : Nat → Nat → Int32} {rq : Nat → Nat → Option Nat} {dy dy' : Nat → m_C} (h : y_D n nd da db wy ln a rq dy) (hn : n ≤ n') (hf : n_fr2 n dy dy') : y_D n' nd da db wy ln a rq dy' := by
  obtain ⟨q1, q2, q3, q4⟩ := h
  refine ⟨q1, q2, fun i hi => ?_, fun i hi => ⟨by have := (q4 i hi).1; omega, (q4 i hi).2⟩⟩
  obtain ⟨r1, r2, r3, r4⟩ := q3 i hi
  exact ⟨r1, r2, hf _ _ _ (by omega) (q4 i hi).1 r3, r4⟩
theorem z_K_fr {n n' nk : Nat} {ka : Nat → Nat} {kb : Nat → Nat → Nat} {kw : Nat → Option Nat} {a : Nat → Nat → Int32} {rq : Nat → Nat → Option Nat} {dy dy' : Nat → m_C} (h : y_K n nk ka kb kw a rq dy) (hn : n ≤ n') (hf : n_fr2 n dy dy') : y_K n' nk ka kb kw a rq dy' := by
  obtain ⟨q1, q2, q3, q4⟩ := h
  refine ⟨q1, q2, fun i hi => ?_, fun i hi => ⟨by have := (q4 i hi).1; omega, (q4 i hi).2⟩⟩
  obtain ⟨r1, r2, r3, r4⟩ := q3 i hi
  exact ⟨r1, r2, hf _ _ _ (by omega) (q4 i hi).1 r3, r4⟩
theorem z_S_fr {n n' ns : Nat} {sa : Nat → Nat} {sb : Nat → Nat → Nat} {sc : Nat → Option Nat} {a : Nat → Nat → Int32} {rq : Nat → Nat → Option Nat} {dy dy' : Nat → m_C} (h : y_S n ns sa sb sc a rq dy) (hn : n ≤ n') (hf : n_fr2 n dy dy') : y_S n' ns sa sb sc a rq dy' := by
  obtain ⟨q1, q2, q3, q4⟩ := h
  refine ⟨q1, q2, fun i hi => ?_, fun i hi => ⟨by have := (q4 i hi).1; omega, (q4 i hi).2⟩⟩
  obtain ⟨r1, r2, r3, r4⟩ := q3 i hi
  exact ⟨r1, r2, hf _ _ _ (by omega) (q4 i hi).1 r3, r4⟩
theorem c_csell (d : Nat) {n nc nd nk ns sz : Nat} {x m z s p t : Int32} {ca da ka sa g : Nat → Nat} {cb db sd ow : Nat → Nat → Nat} {got : Nat → Nat → Int32} {s1 s2 : Int32} {hr : Nat} {o32 : Nat → Nat → Int32} {acc : Nat → Int32} {club sp : Int32} {kb sb : Nat → Nat → Nat} {kw sc : Nat → Option Nat} {wh : Nat → Nat} {wy : Nat → Option Nat} {ln : Nat → Nat} {ar : Nat → Nat → Int32} {rq : Nat → Nat → Option Nat} {ou : Nat → Int64} {dy : Nat → m_C} (hn : 95 ≤ n) (H : y_R n nc nd nk ns sz ca da ka sa g cb db sd ow got s1 s2 (hr, o32, acc, club, sp, (kb, kw, sb, sc, wh), wy, ln) ar rq dy) (hhr : hr ≤ 500) (hsz : sz ≤ 511) (hsum : ∀ c, c < nc → n_sum (ow c) 6 ≤ 8) (ht : t = n_gc (n_tf (((¬ x < 0 ∧ x < nI nc) ∧ (¬ m < 0 ∧ m < 6)) ∧ (¬ z < 0 ∧ z < 6))) (n_tf (¬ m = z ∧ ((¬ s < 1 ∧ ¬ 8 < s) ∧ (¬ p < 0 ∧ ¬ 100000 < p)))) (n_tf ((((¬ x < 0 ∧ x < nI nc) ∧ (¬ m < 0 ∧ m < 6)) ∧ (¬ z < 0 ∧ z < 6)) ∧ ¬ nI (ow x.toNatClampNeg m.toNatClampNeg) < s))) :
    ∃ (o : m_R) (S' : m_S), m_Ev m_cds m_my (d + 7) 25 [.ref 3, .int x, .int m, .int z, .int s, .int p] (n, m_hp ar rq ou dy) o S' ∧ c_an n rq ou dy ar t (nI (ow x.toNatClampNeg z.toNatClampNeg + s.toNatClampNeg)) n_x3 (z_R nc nd nk ns (sz + 1) cb db (m_uf sd sz (n_row5 x.toNatClampNeg m.toNatClampNeg z.toNatClampNeg s.toNatClampNeg hr)) (m_uf ow x.toNatClampNeg (n_hd2 (ow x.toNatClampNeg) m.toNatClampNeg z.toNatClampNeg s.toNatClampNeg)) (n_got got m.toNatClampNeg z.toNatClampNeg p) s1 s2 (hr, o32, n_acs acc m.toNatClampNeg z.toNatClampNeg p, club, sp, (kb, kw, sb, sc, wh), wy, ln)) o S' := by
  obtain ⟨⟨hC, hD, hK, hS, hL, hM, hN, h93, h9⟩, h38⟩ := id H
  simp only at hC hD hK hS hM hN h93 h9 h38
  obtain ⟨hnc, h7, hCB, hWB, hOB, hCa⟩ := id hC
  obtain ⟨o, S', hE, hP⟩ := e_sell d (x := x) (m := m) (z := z) (s := s) (p := p) (g := g) (rq := rq) (ou := ou) hn hnc h7 hsz hL.2.1 hL.2.2.1
  refine ⟨o, S', hE, ?_⟩
  unfold c_an
  have bad : ∀ (e : Int32), t = e → e ≠ 0 → (o = .inr (n_x3 e) ∧ S' = (n, m_hp ar rq ou dy)) → (if t = 0 then (o = .inl (some (.int (nI (ow x.toNatClampNeg z.toNatClampNeg + s.toNatClampNeg)))) ∧ ∃ (n' : Nat) (ar' : Nat → Nat → Int32) (rq' : Nat → Nat → Option Nat) (dy' : Nat → m_C), S' = (n', m_hp ar' rq' ou dy') ∧ n ≤ n' ∧ (∀ x, 94 ≤ x → ar' x = ar x) ∧ (z_R nc nd nk ns (sz + 1) cb db (m_uf sd sz (n_row5 x.toNatClampNeg m.toNatClampNeg z.toNatClampNeg s.toNatClampNeg hr)) (m_uf ow x.toNatClampNeg (n_hd2 (ow x.toNatClampNeg) m.toNatClampNeg z.toNatClampNeg s.toNatClampNeg)) (n_got got m.toNatClampNeg z.toNatClampNeg p) s1 s2 (hr, o32, n_acs acc m.toNatClampNeg z.toNatClampNeg p, club, sp, (kb, kw, sb, sc, wh), wy, ln)) n' ar' rq' dy') else o = .inr (n_x3 t) ∧ S' = (n, m_hp ar rq ou dy)) := by
    intro e t0 e0 h
    rw [if_neg (by rw [t0]; exact e0), t0]
    exact h
  by_cases c1 : ¬ x < 0 ∧ x < nI nc
  · rw [if_pos c1] at hP
    by_cases c2 : ¬ m < 0 ∧ m < 6
    · rw [if_pos c2] at hP
      by_cases c3 : ¬ z < 0 ∧ z < 6
      · rw [if_pos c3] at hP
        have cc : (((¬ x < 0 ∧ x < nI nc) ∧ (¬ m < 0 ∧ m < 6)) ∧ (¬ z < 0 ∧ z < 6)) := ⟨⟨c1, c2⟩, c3⟩
        by_cases c4 : ¬ m = z
        · rw [if_pos c4] at hP
          by_cases c5 : ¬ s < 1 ∧ ¬ 8 < s
          · rw [if_pos c5] at hP
            by_cases c6 : ¬ p < 0 ∧ ¬ 100000 < p
            · rw [if_pos c6] at hP
              have cc2 : (¬ m = z ∧ ((¬ s < 1 ∧ ¬ 8 < s) ∧ (¬ p < 0 ∧ ¬ 100000 < p))) := ⟨c4, c5, c6⟩
              obtain ⟨c, hc, e1, e2⟩ := n_ok_of (by omega) c1
              obtain ⟨a, ha, e3, e4⟩ := n_ok_of (n := 6) (by omega) c2
              obtain ⟨b, hb, e5, e6⟩ := n_ok_of (n := 6) (by omega) c3
              have q1 := ((hOB c hc).2.2 a ha).1
              have q2 := ((hOB c hc).2.2 b hb).1
              unfold c_sell2 at hP
              rw [e2, e4, e6, q1] at hP
              by_cases c7 : nI (ow c a) < s
              · rw [if_pos c7] at hP
                exact bad 3 (by rw [ht, n_tf_t cc, n_tf_t cc2, n_tf_f (fun w => w.2 (by rw [e2, e4]; exact c7))]; exact n_gc_3 rfl) (by decide) hP
              · rw [if_neg c7] at hP
                have t0 : t = 0 := by rw [ht, n_tf_t cc, n_tf_t cc2, n_tf_t ⟨cc, by rw [e2, e4]; exact c7⟩]; rfl
                rw [if_pos t0]
                obtain ⟨n', dy', rfl, rfl, k1, k2, k3, k4, k5⟩ := hP
                obtain ⟨e7, hs8⟩ := i_rng (N := 8) (by omega) (fun w => c5.1 (Int32.lt_trans w (by decide))) c5.2
                have hab : a ≠ b := fun w => c4 (by rw [e3, e5, w])
                rw [e2, e4, e6]
                have hsa : s.toNatClampNeg ≤ ow c a := by
                  have : ¬ ow c a < s.toNatClampNeg := fun w => c7 (by rw [e7]; exact nI_lt w (by omega))
                  omega
                generalize s.toNatClampNeg = sn at e7 hs8 hsa ⊢
                have hfr : n_fr2 n dy dy' := k5
                have hnn : n ≤ n' := by omega
                have hsn : nI (ow c a) - s = nI (ow c a - sn) := by rw [e7]; exact v_sub hsa
                have hsb : nI (ow c b) + s = nI (ow c b + sn) := by rw [e7]; exact v_add _ _
                have hrowb : upd (ar (8 + c)) a (ar (8 + c) a - s) b = nI (ow c b) := by rw [u_ne (fun w => hab w.symm)]; exact q2
                refine ⟨by rw [u_eq, hrowb, hsb], n', _, rq, dy', rfl, hnn, fun q hq => ?_, by omega, ca, da, ka, sa, m_uf g sz (n + 3), ⟨⟨hnc, ?_, (z_C_fr hC hnn hfr).2.2.1, fun c' hc' => ?_, fun c' hc' => ?_, (z_C_fr hC hnn hfr).2.2.2.2.2⟩, z_D_cg (z_D_fr hD hnn hfr) ?_ ?_ ?_ rfl, z_K_cg (z_K_fr hK hnn hfr) ?_ rfl, z_S_cg (z_S_fr hS hnn hfr) ?_ rfl, ⟨by omega, k3, fun i hi => ?_, fun i hi => ?_⟩, ⟨?_, ?_, ?_, fun u hu q hq => ?_⟩, Or.inr ?_, ?_, ?_⟩, ?_⟩
                all_goals try simp (disch := omega) only [m_uf_eq, m_uf_ne]
                · exact h7
                · exact hWB c' hc'
                · obtain ⟨o1, o2, o3⟩ := hOB c' hc'
                  refine ⟨o1, o2, fun j hj => ?_⟩
                  by_cases e : c' = c
                  · subst e
                    rw [m_uf_eq, m_uf_eq]
                    have hs1 := n_hd2_sum hab hsa (k := 6)
                    rw [if_pos ha, if_pos hb] at hs1
                    have hge := n_sum_ge (f := n_hd2 (ow c') a b sn) hj
                    have h8 := hsum c' hc'
                    refine ⟨?_, by omega⟩
                    show _ = nI (if j = a then ow c' a - sn else if j = b then ow c' b + sn else ow c' j)
                    by_cases h2 : j = b
                    · rw [if_neg (fun w => hab (w.symm.trans h2)), if_pos h2, h2, u_eq, hrowb, hsb]
                    · rw [u_ne h2]
                      by_cases h3 : j = a
                      · rw [if_pos h3, h3, u_eq, q1, hsn]
                      · rw [if_neg h3, if_neg h2, u_ne h3]
                        exact (o3 j hj).1
                  · rw [m_uf_ne (by omega : 8 + c' ≠ 8 + c), m_uf_ne e]
                    exact o3 j hj
                · by_cases e : i = sz
                  · subst e
                    rw [m_uf_eq]
                    exact ⟨by omega, by omega, by rw [k4, m_gO_O]; rfl⟩
                  · obtain ⟨r1, r2, r3⟩ := hL.2.2.1 i (by omega)
                    obtain ⟨w1, w2, _⟩ := hL.2.2.2 i (by omega)
                    rw [m_uf_ne e]
                    exact ⟨r1, by omega, by rw [hfr _ _ _ (by omega) r2 w2, m_gO_O]; rfl⟩
                · show 98 ≤ m_uf g sz (n + 3) i ∧ dy' (m_uf g sz (n + 3) i) = m_O 5 [.int (nI (m_uf sd sz (n_row5 c a b sn hr) i 0)), .int (nI (m_uf sd sz (n_row5 c a b sn hr) i 1)), .int (nI (m_uf sd sz (n_row5 c a b sn hr) i 2)), .int (nI (m_uf sd sz (n_row5 c a b sn hr) i 3)), .int (nI (m_uf sd sz (n_row5 c a b sn hr) i 4))] ∧ m_uf sd sz (n_row5 c a b sn hr) i 0 < 10 ∧ m_uf sd sz (n_row5 c a b sn hr) i 1 < 6 ∧ m_uf sd sz (n_row5 c a b sn hr) i 2 < 6 ∧ m_uf sd sz (n_row5 c a b sn hr) i 3 ≤ 8 ∧ m_uf sd sz (n_row5 c a b sn hr) i 4 ≤ 500
                  by_cases e : i = sz
                  · subst e
                    rw [m_uf_eq, m_uf_eq, k4, e7, hM.1]
                    exact ⟨by omega, rfl, by show c < 10; omega, ha, hb, hs8, hhr⟩
                  · obtain ⟨r1, r2, r3⟩ := hL.2.2.1 i (by omega)
                    obtain ⟨w1, w2, w3⟩ := hL.2.2.2 i (by omega)
                    rw [m_uf_ne e, m_uf_ne e]
                    exact ⟨w1, hfr _ _ _ (by omega) r2 w2, w3⟩
                · exact hM.1
                · exact hM.2.1
                · exact hM.2.2.1
                · have hm4 := hM.2.2.2 u hu q hq
                  refine ⟨hm4.1, ?_⟩
                  show _ = if u = a ∧ q = b then got a b + p else got u q
                  by_cases e : u = a
                  · subst e
                    rw [m_uf_eq]
                    by_cases e9 : q = b
                    · rw [if_pos ⟨rfl, e9⟩, e9, u_eq, (hM.2.2.2 u hu b hb).2]
                    · rw [if_neg (fun w => e9 w.2), u_ne e9]
                      exact hm4.2
                  · rw [if_neg (fun w => e w.1), m_uf_ne (by omega : 87 + u ≠ 87 + a)]
                    simp (disch := omega) only [m_uf_ne]
                    exact hm4.2
                · rw [h93]; rfl
                · exact h9
                · exact h38
            · rw [if_neg c6] at hP
              exact bad 2 (by rw [ht, n_tf_t cc, n_tf_f (fun w => c6 w.2.2)]; exact n_gc_2 rfl) (by decide) hP
          · rw [if_neg c5] at hP
            exact bad 2 (by rw [ht, n_tf_t cc, n_tf_f (fun w => c5 w.2.1)]; exact n_gc_2 rfl) (by decide) hP
        · rw [if_neg c4] at hP
          exact bad 2 (by rw [ht, n_tf_t cc, n_tf_f (fun w => c4 w.1)]; exact n_gc_2 rfl) (by decide) hP
      · rw [if_neg c3] at hP
        exact bad 1 (by rw [ht, n_tf_f (fun w => c3 w.2)]; exact n_gc_1 rfl) (by decide) hP
    · rw [if_neg c2] at hP
      exact bad 1 (by rw [ht, n_tf_f (fun w => c2 w.1.2)]; exact n_gc_1 rfl) (by decide) hP
  · rw [if_neg c1] at hP
    exact bad 1 (by rw [ht, n_tf_f (fun w => c1 w.1.1)]; exact n_gc_1 rfl) (by decide) hP
