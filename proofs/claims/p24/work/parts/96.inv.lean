/-! what holds between the law's turns; the questions, asked of a club -/
theorem z_R_g {nc nd nk ns sz n : Nat} {cb db sd ow : Nat → Nat → Nat} {got : Nat → Nat → Int32} {s1 s2 : Int32} {D : n_D} {a b : Nat → Nat → Int32} {rq rq' : Nat → Nat → Option Nat} {dy : Nat → m_C} (h : z_R nc nd nk ns sz cb db sd ow got s1 s2 D n a rq dy) (ha : ∀ x, x < 40 ∨ (76 ≤ x ∧ x < 94) → b x = a x) (hq : ∀ x, x ≠ 41 → x ≠ 54 → rq' x = rq x) : z_R nc nd nk ns sz cb db sd ow got s1 s2 D n b rq' dy := by
  obtain ⟨hn, ca, da, ka, sa, g, ⟨hC, hD, hK, hS, hL, hM, hN, h93, h9⟩, h38⟩ := h
  have b3 := ha 3 (by omega)
  have b4 := ha 4 (by omega)
  refine ⟨hn, ca, da, ka, sa, g, ⟨z_C_cg hC (by rw [b4]) (ha 6 (by omega)) (fun c hc => ha _ (by omega)) (hq 5 (by omega) (by omega)), z_D_cg hD (by rw [b4]) (ha 19 (by omega)) (ha 20 (by omega)) (hq 18 (by omega) (by omega)), z_K_cg hK (by rw [b3]) (hq 76 (by omega) (by omega)), z_S_cg hS (by rw [b3]) (hq 77 (by omega) (by omega)), hL, z_M_cg hM (by rw [b3]) (by rw [b3]) (by rw [b3]) (fun x h1 h2 => ha x (by omega)), y_N_cg hC.1 hN (by rw [b4]) (fun x h1 h2 => ha x (by omega)), by rw [ha 93 (by omega)]; exact h93, by rw [b3]; exact h9⟩, by rw [b3]; exact h38⟩
theorem z_R_nw {n nc nd nk ns sz : Nat} {cb db sd ow : Nat → Nat → Nat} {got : Nat → Nat → Int32} {s1 s2 : Int32} {D : n_D} {ar : Nat → Nat → Int32} {rq : Nat → Nat → Option Nat} {ou : Nat → Int64} {dy : Nat → m_C} {c : m_C} (h : z_R nc nd nk ns sz cb db sd ow got s1 s2 D n ar rq dy) : z_R nc nd nk ns sz cb db sd ow got s1 s2 D (n + 1) ar rq (m_up dy (n + 3) c) := by
  obtain ⟨hn, ca, da, ka, sa, g, ⟨hC, hD, hK, hS, hL, hM, hN, h93, h9⟩, h38⟩ := h
  exact ⟨by omega, ca, da, ka, sa, g, ⟨z_C_nw hC, z_D_nw hD, z_K_nw hK, z_S_nw hS, z_L_nw hn hL, hM, hN, h93, h9⟩, h38⟩
theorem q1_in {c N : Nat} {v : Nat → Int32} (hc : c < N) (hN : N < 2147483648) : q_1 (nI c) N v = some (v c) := by
  unfold q_1
  rw [if_pos ⟨nI_pos (by omega), nI_lt hc hN⟩, v_cl (by omega)]
theorem q1_out {c N : Nat} {v : Nat → Int32} (hc : N ≤ c) (hN : c < 2147483648) : q_1 (nI c) N v = none := by
  unfold q_1
  exact if_neg (fun z => nI_nlt hc hN z.2)
theorem q2_in {c N j M : Nat} {v : Nat → Nat → Int32} (hc : c < N) (hN : N < 2147483648) (hj : j < M) (hM : M < 2147483648) : q_2 (nI c) N (nI j) M v = some (v c j) := by
  unfold q_2
  rw [if_pos ⟨⟨nI_pos (by omega), nI_lt hc hN⟩, nI_pos (by omega), nI_lt hj hM⟩, v_cl (by omega), v_cl (by omega)]
theorem q2_out {c N j M : Nat} {v : Nat → Nat → Int32} (hc : N ≤ c) (hN : c < 2147483648) : q_2 (nI c) N (nI j) M v = none := by
  unfold q_2
  exact if_neg (fun z => nI_nlt hc hN z.1.2)
theorem q_owned (d : Nat) {n nc nd nk ns sz : Nat} {cb db sd ow : Nat → Nat → Nat} {got : Nat → Nat → Int32} {s1 s2 : Int32} {D : n_D} {ar : Nat → Nat → Int32} {rq : Nat → Nat → Option Nat} {ou : Nat → Int64} {dy : Nat → m_C} {c j : Nat} (H : z_R nc nd nk ns sz cb db sd ow got s1 s2 D n ar rq dy) (hc : c < nc) (hj : j < 6) : m_Ev m_cds m_my (d + 3) 87 [.ref 3, .int (nI c), .int (nI j)] (n, m_hp ar rq ou dy) (.inl (some (.int (nI (ow c j))))) (n, m_hp ar rq ou dy) := by
  obtain ⟨hn, ca, da, ka, sa, g, ⟨hC, hD, hK, hS, hL, hM, hN, h93, h9⟩, h38⟩ := H
  have h := l_owned (d + 2) (x := nI c) (y := nI j) (ou := ou) (e_owned d hC.1 hC.2.1 (rq := rq) (dy := dy) (n := n))
  rw [q2_in hc (by have := hC.1; omega) hj (by omega)] at h
  have e : l_v (some ((fun c j => ar (8 + c) j) c j)) = nI (ow c j) := ((hC.2.2.2.2.1 c hc).2.2 j hj).1
  rw [e] at h
  exact h
theorem q_owned0 (d : Nat) {n nc nd nk ns sz : Nat} {cb db sd ow : Nat → Nat → Nat} {got : Nat → Nat → Int32} {s1 s2 : Int32} {D : n_D} {ar : Nat → Nat → Int32} {rq : Nat → Nat → Option Nat} {ou : Nat → Int64} {dy : Nat → m_C} {j : Nat} (H : z_R nc nd nk ns sz cb db sd ow got s1 s2 D n ar rq dy) (h0 : nc = 0) : m_Ev m_cds m_my (d + 3) 87 [.ref 3, .int (nI 0), .int (nI j)] (n, m_hp ar rq ou dy) (.inl (some (.int (-1000001)))) (n, m_hp ar rq ou dy) := by
  obtain ⟨hn, ca, da, ka, sa, g, ⟨hC, hD, hK, hS, hL, hM, hN, h93, h9⟩, h38⟩ := H
  have h := l_owned (d + 2) (x := nI 0) (y := nI j) (ou := ou) (e_owned d hC.1 hC.2.1 (rq := rq) (dy := dy) (n := n))
  rw [q2_out (by omega) (by omega)] at h
  exact h
theorem i_01 {w : Nat} (h : w ≤ 1) : nI w = 0 ∨ nI w = 1 := by
  rcases (show w = 0 ∨ w = 1 by omega) with e | e
  · rw [e]; exact Or.inl rfl
  · rw [e]; exact Or.inr rfl
theorem q_isWhole (d : Nat) {n nc nd nk ns sz : Nat} {cb db sd ow : Nat → Nat → Nat} {got : Nat → Nat → Int32} {s1 s2 : Int32} {D : n_D} {ar : Nat → Nat → Int32} {rq : Nat → Nat → Option Nat} {ou : Nat → Int64} {dy : Nat → m_C} {c : Nat} (H : z_R nc nd nk ns sz cb db sd ow got s1 s2 D n ar rq dy) (hc : c < nc) : m_Ev m_cds m_my (d + 3) 88 [.ref 3, .int (nI c)] (n, m_hp ar rq ou dy) (.inl (some (.int (nI (D.2.2.2.2.2.1.2.2.2.2 c))))) (n, m_hp ar rq ou dy) := by
  obtain ⟨hn, ca, da, ka, sa, g, ⟨hC, hD, hK, hS, hL, hM, hN, h93, h9⟩, h38⟩ := H
  have hW := hC.2.2.2.1
  have h := l_isWhole (d + 2) (x := nI c) (ou := ou) (e_isWhole d hC.1 hC.2.1 (rq := rq) (dy := dy) (n := n) (fun c hc => by
    have w1 : ar 6 c = nI _ := (hW c hc).1
    rw [w1]
    exact i_01 (hW c hc).2))
  rw [q1_in hc (by have := hC.1; omega)] at h
  obtain ⟨w1, w2⟩ := hW c hc
  have w1' : ar 6 c = nI (D.2.2.2.2.2.1.2.2.2.2 c) := w1
  rw [w1'] at h
  generalize D.2.2.2.2.2.1.2.2.2.2 c = w at h w2 ⊢
  rcases (show w = 0 ∨ w = 1 by omega) with e | e
  · subst e; exact h
  · subst e; exact h
theorem q_way (d : Nat) {n nc nd nk ns sz : Nat} {cb db sd ow : Nat → Nat → Nat} {got : Nat → Nat → Int32} {s1 s2 : Int32} {D : n_D} {ar : Nat → Nat → Int32} {rq : Nat → Nat → Option Nat} {ou : Nat → Int64} {dy : Nat → m_C} {i : Nat} (H : z_R nc nd nk ns sz cb db sd ow got s1 s2 D n ar rq dy) (hi : i < nd) : m_Ev m_cds m_my (d + 3) 89 [.ref 3, .int (nI i)] (n, m_hp ar rq ou dy) (.inl (some (.int (n_w (D.2.2.2.2.2.2.1 i))))) (n, m_hp ar rq ou dy) := by
  obtain ⟨hn, ca, da, ka, sa, g, ⟨hC, hD, hK, hS, hL, hM, hN, h93, h9⟩, h38⟩ := H
  have h := l_way (d + 2) (x := nI i) (ou := ou) (e_way d hD.1 hD.2.1 (rq := rq) (dy := dy) (n := n))
  rw [q1_in hi (by have := hD.1; omega)] at h
  have e : l_v (some (ar 19 i)) = n_w (D.2.2.2.2.2.2.1 i) := (hD.2.2.2 i hi).2.2.1
  rw [e] at h
  exact h
theorem q_lent (d : Nat) {n nc nd nk ns sz : Nat} {cb db sd ow : Nat → Nat → Nat} {got : Nat → Nat → Int32} {s1 s2 : Int32} {D : n_D} {ar : Nat → Nat → Int32} {rq : Nat → Nat → Option Nat} {ou : Nat → Int64} {dy : Nat → m_C} {i : Nat} (H : z_R nc nd nk ns sz cb db sd ow got s1 s2 D n ar rq dy) (hi : i < nd) : m_Ev m_cds m_my (d + 3) 90 [.ref 3, .int (nI i)] (n, m_hp ar rq ou dy) (.inl (some (.int (nI (D.2.2.2.2.2.2.2 i))))) (n, m_hp ar rq ou dy) := by
  obtain ⟨hn, ca, da, ka, sa, g, ⟨hC, hD, hK, hS, hL, hM, hN, h93, h9⟩, h38⟩ := H
  have h := l_lent (d + 2) (x := nI i) (ou := ou) (e_lent d hD.1 hD.2.1 (rq := rq) (dy := dy) (n := n))
  rw [q1_in hi (by have := hD.1; omega)] at h
  have e : l_v (some (ar 20 i)) = nI (D.2.2.2.2.2.2.2 i) := (hD.2.2.2 i hi).2.2.2
  rw [e] at h
  exact h
theorem q_owes (d : Nat) {n nc nd nk ns sz : Nat} {cb db sd ow : Nat → Nat → Nat} {got : Nat → Nat → Int32} {s1 s2 : Int32} {D : n_D} {ar : Nat → Nat → Int32} {rq : Nat → Nat → Option Nat} {ou : Nat → Int64} {dy : Nat → m_C} {i j : Nat} (H : z_R nc nd nk ns sz cb db sd ow got s1 s2 D n ar rq dy) (hi : i < 6) (hj : j < 6) : m_Ev m_cds m_my (d + 3) 91 [.ref 3, .int (nI i), .int (nI j)] (n, m_hp ar rq ou dy) (.inl (some (.int (D.2.1 i j)))) (n, m_hp ar rq ou dy) := by
  obtain ⟨hn, ca, da, ka, sa, g, ⟨hC, hD, hK, hS, hL, hM, hN, h93, h9⟩, h38⟩ := H
  have h := l_owes (d + 2) (x := nI i) (y := nI j) (ou := ou) (e_owes d (ar := ar) (rq := rq) (dy := dy) (n := n))
  rw [q2_in hi (by omega) hj (by omega)] at h
  have e : l_v (some ((fun c j => ar (80 + c) j) i j)) = D.2.1 i j := (hM.2.2.2 i hi j hj).1
  rw [e] at h
  exact h
theorem q_owes6 (d : Nat) {n : Nat} {ar : Nat → Nat → Int32} {rq : Nat → Nat → Option Nat} {ou : Nat → Int64} {dy : Nat → m_C} : m_Ev m_cds m_my (d + 3) 91 [.ref 3, .int 6, .int 0] (n, m_hp ar rq ou dy) (.inl (some (.int (-1000001)))) (n, m_hp ar rq ou dy) := by
  have h := l_owes (d + 2) (x := nI 6) (y := nI 0) (ou := ou) (e_owes d (ar := ar) (rq := rq) (dy := dy) (n := n))
  rw [q2_out (by omega) (by omega)] at h
  exact h
theorem q_sold (d : Nat) {n nc nd nk ns sz : Nat} {cb db sd ow : Nat → Nat → Nat} {got : Nat → Nat → Int32} {s1 s2 : Int32} {D : n_D} {ar : Nat → Nat → Int32} {rq : Nat → Nat → Option Nat} {ou : Nat → Int64} {dy : Nat → m_C} {i j : Nat} (H : z_R nc nd nk ns sz cb db sd ow got s1 s2 D n ar rq dy) (hi : i < 6) (hj : j < 6) : m_Ev m_cds m_my (d + 3) 94 [.ref 3, .int (nI i), .int (nI j)] (n, m_hp ar rq ou dy) (.inl (some (.int (got i j)))) (n, m_hp ar rq ou dy) := by
  obtain ⟨hn, ca, da, ka, sa, g, ⟨hC, hD, hK, hS, hL, hM, hN, h93, h9⟩, h38⟩ := H
  have h := l_sold (d + 2) (x := nI i) (y := nI j) (ou := ou) (e_sold d (ar := ar) (rq := rq) (dy := dy) (n := n))
  rw [q2_in hi (by omega) hj (by omega)] at h
  have e : l_v (some ((fun c j => ar (87 + c) j) i j)) = got i j := (hM.2.2.2 i hi j hj).2
  rw [e] at h
  exact h
theorem q_acc (d : Nat) {n nc nd nk ns sz : Nat} {cb db sd ow : Nat → Nat → Nat} {got : Nat → Nat → Int32} {s1 s2 : Int32} {D : n_D} {ar : Nat → Nat → Int32} {rq : Nat → Nat → Option Nat} {ou : Nat → Int64} {dy : Nat → m_C} {j : Nat} (H : z_R nc nd nk ns sz cb db sd ow got s1 s2 D n ar rq dy) (hj : j < 6) : m_Ev m_cds m_my (d + 3) 93 [.ref 3, .int (nI j)] (n, m_hp ar rq ou dy) (.inl (some (.int (D.2.2.1 j)))) (n, m_hp ar rq ou dy) := by
  obtain ⟨hn, ca, da, ka, sa, g, ⟨hC, hD, hK, hS, hL, hM, hN, h93, h9⟩, h38⟩ := H
  have h := l_account (d + 2) (x := nI j) (ou := ou) (e_account d (ar := ar) (rq := rq) (dy := dy) (n := n))
  rw [if_neg (fun z => by rw [n_neg (by omega)] at z; exact z), q1_in hj (by omega)] at h
  have e : l_v (some (ar 93 j)) = D.2.2.1 j := congrFun h93 j
  rw [e] at h
  exact h
theorem q_club (d : Nat) {n nc nd nk ns sz : Nat} {cb db sd ow : Nat → Nat → Nat} {got : Nat → Nat → Int32} {s1 s2 : Int32} {D : n_D} {ar : Nat → Nat → Int32} {rq : Nat → Nat → Option Nat} {ou : Nat → Int64} {dy : Nat → m_C} (H : z_R nc nd nk ns sz cb db sd ow got s1 s2 D n ar rq dy) : m_Ev m_cds m_my (d + 3) 93 [.ref 3, .int (-1)] (n, m_hp ar rq ou dy) (.inl (some (.int D.2.2.2.1))) (n, m_hp ar rq ou dy) := by
  obtain ⟨hn, ca, da, ka, sa, g, ⟨hC, hD, hK, hS, hL, hM, hN, h93, h9⟩, h38⟩ := H
  have h := l_account (d + 2) (x := -1) (ou := ou) (e_account d (ar := ar) (rq := rq) (dy := dy) (n := n))
  rw [if_pos rfl] at h
  have e : l_v (some (ar 3 8)) = D.2.2.2.1 := h38
  rw [e] at h
  exact h
theorem q_acc6 (d : Nat) {n : Nat} {ar : Nat → Nat → Int32} {rq : Nat → Nat → Option Nat} {ou : Nat → Int64} {dy : Nat → m_C} : m_Ev m_cds m_my (d + 3) 93 [.ref 3, .int 6] (n, m_hp ar rq ou dy) (.inl (some (.int (-1000001)))) (n, m_hp ar rq ou dy) := by
  have h := l_account (d + 2) (x := nI 6) (ou := ou) (e_account d (ar := ar) (rq := rq) (dy := dy) (n := n))
  rw [if_neg (fun z => by rw [n_neg (by omega)] at z; exact z), q1_out (by omega) (by omega)] at h
  exact h
theorem q_spent (d : Nat) {n nc nd nk ns sz : Nat} {cb db sd ow : Nat → Nat → Nat} {got : Nat → Nat → Int32} {s1 s2 : Int32} {D : n_D} {ar : Nat → Nat → Int32} {rq : Nat → Nat → Option Nat} {ou : Nat → Int64} {dy : Nat → m_C} (H : z_R nc nd nk ns sz cb db sd ow got s1 s2 D n ar rq dy) : m_Ev m_cds m_my (d + 1) 39 [.ref 3] (n, m_hp ar rq ou dy) (.inl (some (.int D.2.2.2.2.1))) (n, m_hp ar rq ou dy) := by
  obtain ⟨hn, ca, da, ka, sa, g, ⟨hC, hD, hK, hS, hL, hM, hN, h93, h9⟩, h38⟩ := H
  have h := e_spent d (n := n) (ar := ar) (rq := rq) (ou := ou) (dy := dy)
  have e : ar 3 9 = D.2.2.2.2.1 := h9
  rw [e] at h
  exact h
theorem q_place (d : Nat) {n nc nd nk ns sz : Nat} {cb db sd ow : Nat → Nat → Nat} {got : Nat → Nat → Int32} {s1 s2 : Int32} {D : n_D} {ar : Nat → Nat → Int32} {rq : Nat → Nat → Option Nat} {ou : Nat → Int64} {dy : Nat → m_C} {s : Nat} (H : z_R nc nd nk ns sz cb db sd ow got s1 s2 D n ar rq dy) (hs : s < ns) : m_Ev m_cds m_my (d + 3) 95 [.ref 3, .int (nI s)] (n, m_hp ar rq ou dy) (.inl (some (.int (nI (D.2.2.2.2.2.1.2.2.1 s 1))))) (n, m_hp ar rq ou dy) ∧ D.2.2.2.2.2.1.2.2.1 s 1 ≤ 1000 := by
  obtain ⟨hn, ca, da, ka, sa, g, ⟨hC, hD, hK, hS, hL, hM, hN, h93, h9⟩, h38⟩ := H
  have h := l_place (d + 2) (x := nI s) (ou := ou) (e_place d hS.1 hS.2.1 hS.2.2.1 (n := n))
  rw [q1_in hs (by have := hS.1; omega)] at h
  exact ⟨h, (hS.2.2.1 s hs).2.2.2.2.1⟩
theorem q_worked (d : Nat) {n nc nd nk ns sz : Nat} {cb db sd ow : Nat → Nat → Nat} {got : Nat → Nat → Int32} {s1 s2 : Int32} {D : n_D} {ar : Nat → Nat → Int32} {rq : Nat → Nat → Option Nat} {ou : Nat → Int64} {dy : Nat → m_C} {k : Nat} (H : z_R nc nd nk ns sz cb db sd ow got s1 s2 D n ar rq dy) (hk : k < nk) : m_Ev m_cds m_my (d + 3) 96 [.ref 3, .int (nI k)] (n, m_hp ar rq ou dy) (.inl (some (.int (nI (D.2.2.2.2.2.1.1 k 3))))) (n, m_hp ar rq ou dy) := by
  obtain ⟨hn, ca, da, ka, sa, g, ⟨hC, hD, hK, hS, hL, hM, hN, h93, h9⟩, h38⟩ := H
  have h := l_worked (d + 2) (x := nI k) (ou := ou) (e_worked d hK.1 hK.2.1 hK.2.2.1 (n := n))
  rw [q1_in hk (by have := hK.1; omega)] at h
  exact h
theorem q_anew (d : Nat) {n nc nd nk ns sz : Nat} {cb db sd ow : Nat → Nat → Nat} {got : Nat → Nat → Int32} {s1 s2 : Int32} {D : n_D} {ar : Nat → Nat → Int32} {rq : Nat → Nat → Option Nat} {ou : Nat → Int64} {dy : Nat → m_C} {i j : Nat} (H : z_R nc nd nk ns sz cb db sd ow got s1 s2 D n ar rq dy) (hP : n_PI nc nd nk ns sz cb db sd ow D) (hi : i < 6) (hj : j < 6) : ∃ (ar2 : Nat → Nat → Int32) (rq2 : Nat → Nat → Option Nat), m_Ev m_cds m_my (d + 11) 92 [.ref 3, .int (nI i), .int (nI j)] (n, m_hp ar rq ou dy) (.inl (some (.int (D.2.1 i j)))) (n, m_hp ar2 rq2 ou dy) ∧ y_f ar rq ar2 rq2 := by
  obtain ⟨hn, ca, da, ka, sa, g, ⟨hC, hD, hK, hS, hL, hM, hN, h93, h9⟩, h38⟩ := H
  obtain ⟨p1, p2, p3, p4, p5, p6, p7, p8⟩ := hP
  obtain ⟨o, S', hE, ⟨ar2, rq2, rfl, hf⟩, hI⟩ := e_owesAnew d (x := nI i) (y := nI j) (ou := ou) hC hD hK hL hM.1 (G := n_lg nc nd nk sz cb db sd D.2.2.2.2.2.1) rfl (fun c hc => ⟨(p3 c hc).1, (p3 c hc).2.1, by have := (p3 c hc).2.2.1; omega⟩) (fun i hi => by have := (p4 i hi).1; omega) (fun i hi => ⟨(p5 i hi).1, (p5 i hi).2.1, (p5 i hi).2.2.1⟩) p1 (fun h hh => p6 h (by omega))
  rw [if_pos ⟨⟨nI_pos (by omega), i_lt (n := 6) hi⟩, nI_pos (by omega), i_lt (n := 6) hj⟩, v_cl (by omega), v_cl (by omega), ← p8 i hi j hj] at hI
  subst hI
  exact ⟨ar2, rq2, l_owesAnew (d + 10) (x := nI i) (y := nI j) (ou := ou) (q := some _) hE, hf⟩
def w_Q (m nc nd : Nat) (cb db ow : Nat → Nat → Nat) (D : n_D) : Prop := (∀ c, c < nc → n_sum (ow c) 6 = cb c 2 ∧ 0 < cb c 2 ∧ cb c 0 < 6 ∧ cb c 1 < 6 ∧ cb c 0 ≠ cb c 1) ∧ (∀ i, i < nd → db i 1 < 6 ∧ db i 2 < 6 ∧ db i 1 ≠ db i 2 ∧ db i 3 ≤ 4) ∧ D.1 ≤ m ∧ (∃ P, n_MY (1000 * m) D.2.2.1 D.2.2.2.1 P ∧ D.2.2.2.2.1 = nI P) ∧ ∃ u : Nat → Nat → Nat, ∀ i, i < 6 → ∀ j, j < 6 → D.2.1 i j = nI (u i j) ∧ u i j ≤ 400000 * D.1
def w_A (m nc nd nk ns hr : Nat) (cb db kb : Nat → Nat → Nat) (ar : Nat → Nat → Int32) : Prop := (ar 94 0 = nI nc ∧ ar 94 1 = nI nd ∧ ar 94 2 = nI nk ∧ ar 94 3 = nI ns ∧ ar 94 4 = nI hr) ∧ (∀ c, c < nc → ar 95 (4 * c) = nI (cb c 0) ∧ ar 95 (4 * c + 1) = nI (cb c 1) ∧ ar 95 (4 * c + 2) = nI (cb c 2)) ∧ (∀ k, k < nk → ar 95 (40 + k) = nI (kb k 0)) ∧ (∀ i, i < nd → ar 96 (4 * i) = nI (db i 0) ∧ ar 96 (4 * i + 1) = nI (db i 1) ∧ ar 96 (4 * i + 2) = nI (db i 2) ∧ ar 96 (4 * i + 3) = nI (db i 3)) ∧ (nc = 0 → ar 95 0 = 0 ∧ ar 95 1 = 0) ∧ ∃ t, ar 97 0 = nI t ∧ t ≤ m
/-- the law's invariant, after at most m turns -/
def w_J (m : Nat) (S : m_S) : Prop := ∃ (n nc nd nk ns sz : Nat) (cb db sd ow : Nat → Nat → Nat) (got : Nat → Nat → Int32) (s1 s2 : Int32) (D : n_D) (ar : Nat → Nat → Int32) (rq : Nat → Nat → Option Nat) (ou : Nat → Int64) (dy : Nat → m_C), S = (n, m_hp ar rq ou dy) ∧ z_R nc nd nk ns sz cb db sd ow got s1 s2 D n ar rq dy ∧ n_PI nc nd nk ns sz cb db sd ow D ∧ w_Q m nc nd cb db ow D ∧ w_A m nc nd nk ns D.1 cb db D.2.2.2.2.2.1.1 ar ∧ sz ≤ m
theorem w_Q_mono {m m' nc nd : Nat} {cb db ow : Nat → Nat → Nat} {D : n_D} (h : w_Q m nc nd cb db ow D) (hm : m ≤ m') : w_Q m' nc nd cb db ow D := by
  obtain ⟨h1, h2, h3, ⟨P, h4, h5⟩, h6⟩ := h
  exact ⟨h1, h2, by omega, ⟨P, MY_mono h4 (by omega), h5⟩, h6⟩
theorem w_A_mono {m m' nc nd nk ns hr : Nat} {cb db kb : Nat → Nat → Nat} {ar : Nat → Nat → Int32} (h : w_A m nc nd nk ns hr cb db kb ar) (hm : m ≤ m') : w_A m' nc nd nk ns hr cb db kb ar := by
  obtain ⟨h1, h2, h3, h4, h5, t, h6, h7⟩ := h
  exact ⟨h1, h2, h3, h4, h5, t, h6, by omega⟩
theorem w_A_cg {m nc nd nk ns hr : Nat} {cb db kb : Nat → Nat → Nat} {a b : Nat → Nat → Int32} (h : w_A m nc nd nk ns hr cb db kb a) (e : ∀ x, 94 ≤ x → b x = a x) : w_A m nc nd nk ns hr cb db kb b := by
  unfold w_A
  rw [e 94 (by omega), e 95 (by omega), e 96 (by omega), e 97 (by omega)]
  exact h
theorem w_J_mono {m m' : Nat} {S : m_S} (h : w_J m S) (hm : m ≤ m') : w_J m' S := by
  obtain ⟨n, nc, nd, nk, ns, sz, cb, db, sd, ow, got, s1, s2, D, ar, rq, ou, dy, e, h1, h2, h3, h4, h5⟩ := h
  exact ⟨n, nc, nd, nk, ns, sz, cb, db, sd, ow, got, s1, s2, D, ar, rq, ou, dy, e, h1, h2, w_Q_mono h3 hm, w_A_mono h4 hm, by omega⟩
