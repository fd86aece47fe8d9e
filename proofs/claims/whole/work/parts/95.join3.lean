/-! the law's questions joined -/
theorem j_owned {m0 : Nat} {S : m_S} {x y : Int32} (H : w_J m0 S) : w_C (m0 + 1) 132 96 [.ref 3, .int x, .int y, .ref 119] [.ref 94, .int x, .int y] S (fun w => w.toInt64) := by
  obtain ⟨n, nc, nd, nk, ns, sz, cb, db, sd, ow, got, s1, s2, ⟨hr, o32, acc, club, sp, ⟨kb, kw, sb, sc, wh⟩, wy, ln⟩, ar, rq, ou, dy, rfl, hz, hX, hP, hm⟩ := H
  obtain ⟨hn, ca, da, ka, sa, g, ⟨hC, hD, hK, hS, hL0, hM0, hN, h93, h9⟩, h38⟩ := id hz
  simp only at hC hD hK hS hM0 hN h93 h9 h38
  obtain ⟨⟨xnc, xnd, xnk, xns⟩, xC, xD, xO, ⟨t1, t2, t3, t4, t5⟩, xcl, xo, xwy, x103, x97, a1, a2, a3⟩ := id hX
  simp only at t1 t2 t3 t4 xcl xo xwy a1
  obtain ⟨ou', hL, hou⟩ := l_owned 19 (x := x) (y := y) (ou := ou) (e_owned 17 hC.1 hC.2.1 (rq := rq) (dy := dy) (n := n))
  have hMo := e_mowned 17 xnc xC.1 xO (x := x) (y := y) (n := n) (rq := rq) (ou := ou') (dy := dy) (ar := ar)
  unfold q_2 at hL hou
  by_cases c : ((¬ x < 0 ∧ x < nI nc) ∧ (¬ y < 0 ∧ y < 6))
  · have c' : ((¬ x < 0 ∧ x < nI nc) ∧ (¬ y < 0 ∧ y < nI 6)) := c
    rw [if_pos c'] at hL hou
    rw [if_pos c, if_pos c] at hMo
    exact j_q hL hMo (fun _ => (hou _ rfl).trans (congrArg Int32.toInt64 (((hC.2.2.2.2.1 _ (w_in (N := nc) (by omega) c.1)).2.2 _ (w_in (N := 6) (by omega) c.2)).1))) hz y_f_refl hX hP hm
  · have c' : ¬ ((¬ x < 0 ∧ x < nI nc) ∧ (¬ y < 0 ∧ y < nI 6)) := c
    rw [if_neg c'] at hL
    rw [if_neg c, if_neg c] at hMo
    exact j_q hL hMo (fun h => absurd h (by decide)) hz y_f_refl hX hP hm
theorem j_way {m0 : Nat} {S : m_S} {x : Int32} (H : w_J m0 S) : w_C (m0 + 1) 134 98 [.ref 3, .int x, .ref 119] [.ref 94, .int x] S (fun w => w.toInt64) := by
  obtain ⟨n, nc, nd, nk, ns, sz, cb, db, sd, ow, got, s1, s2, ⟨hr, o32, acc, club, sp, ⟨kb, kw, sb, sc, wh⟩, wy, ln⟩, ar, rq, ou, dy, rfl, hz, hX, hP, hm⟩ := H
  obtain ⟨hn, ca, da, ka, sa, g, ⟨hC, hD, hK, hS, hL0, hM0, hN, h93, h9⟩, h38⟩ := id hz
  simp only at hC hD hK hS hM0 hN h93 h9 h38
  obtain ⟨⟨xnc, xnd, xnk, xns⟩, xC, xD, xO, ⟨t1, t2, t3, t4, t5⟩, xcl, xo, xwy, x103, x97, a1, a2, a3⟩ := id hX
  simp only at t1 t2 t3 t4 xcl xo xwy a1
  obtain ⟨ou', hL, hou⟩ := l_way 19 (x := x) (ou := ou) (e_way 17 hD.1 hD.2.1 (rq := rq) (dy := dy) (n := n))
  have hMo := e_mway 17 xD.1 xnd (x := x) (n := n) (rq := rq) (ou := ou') (dy := dy) (ar := ar)
  unfold q_1 at hL hou
  by_cases c : (¬ x < 0 ∧ x < nI nd)
  · have c' : (¬ x < 0 ∧ x < nI nd) := c
    rw [if_pos c'] at hL hou
    rw [if_pos c, if_pos c] at hMo
    exact j_q hL hMo (fun _ => (hou _ rfl).trans (congrArg Int32.toInt64 ((hD.2.2.2 _ (w_in (N := nd) (by omega) c)).2.2.1.trans (xwy _ (w_in (N := nd) (by omega) c)).1.symm))) hz y_f_refl hX hP hm
  · have c' : ¬ (¬ x < 0 ∧ x < nI nd) := c
    rw [if_neg c'] at hL
    rw [if_neg c, if_neg c] at hMo
    exact j_q hL hMo (fun h => absurd h (by decide)) hz y_f_refl hX hP hm
theorem j_lent {m0 : Nat} {S : m_S} {x : Int32} (H : w_J m0 S) : w_C (m0 + 1) 135 99 [.ref 3, .int x, .ref 119] [.ref 94, .int x] S (fun w => w.toInt64) := by
  obtain ⟨n, nc, nd, nk, ns, sz, cb, db, sd, ow, got, s1, s2, ⟨hr, o32, acc, club, sp, ⟨kb, kw, sb, sc, wh⟩, wy, ln⟩, ar, rq, ou, dy, rfl, hz, hX, hP, hm⟩ := H
  obtain ⟨hn, ca, da, ka, sa, g, ⟨hC, hD, hK, hS, hL0, hM0, hN, h93, h9⟩, h38⟩ := id hz
  simp only at hC hD hK hS hM0 hN h93 h9 h38
  obtain ⟨⟨xnc, xnd, xnk, xns⟩, xC, xD, xO, ⟨t1, t2, t3, t4, t5⟩, xcl, xo, xwy, x103, x97, a1, a2, a3⟩ := id hX
  simp only at t1 t2 t3 t4 xcl xo xwy a1
  obtain ⟨ou', hL, hou⟩ := l_lent 19 (x := x) (ou := ou) (e_lent 17 hD.1 hD.2.1 (rq := rq) (dy := dy) (n := n))
  have hMo := e_mlent 17 xD.1 xnd (x := x) (n := n) (rq := rq) (ou := ou') (dy := dy) (ar := ar)
  unfold q_1 at hL hou
  by_cases c : (¬ x < 0 ∧ x < nI nd)
  · have c' : (¬ x < 0 ∧ x < nI nd) := c
    rw [if_pos c'] at hL hou
    rw [if_pos c, if_pos c] at hMo
    exact j_q hL hMo (fun _ => (hou _ rfl).trans (congrArg Int32.toInt64 ((hD.2.2.2 _ (w_in (N := nd) (by omega) c)).2.2.2.trans (xwy _ (w_in (N := nd) (by omega) c)).2.symm))) hz y_f_refl hX hP hm
  · have c' : ¬ (¬ x < 0 ∧ x < nI nd) := c
    rw [if_neg c'] at hL
    rw [if_neg c, if_neg c] at hMo
    exact j_q hL hMo (fun h => absurd h (by decide)) hz y_f_refl hX hP hm
theorem j_owes {m0 : Nat} {S : m_S} {x y : Int32} (H : w_J m0 S) : w_C (m0 + 1) 136 100 [.ref 3, .int x, .int y, .ref 119] [.ref 94, .int x, .int y] S (fun w => w.toInt64) := by
  obtain ⟨n, nc, nd, nk, ns, sz, cb, db, sd, ow, got, s1, s2, ⟨hr, o32, acc, club, sp, ⟨kb, kw, sb, sc, wh⟩, wy, ln⟩, ar, rq, ou, dy, rfl, hz, hX, hP, hm⟩ := H
  obtain ⟨hn, ca, da, ka, sa, g, ⟨hC, hD, hK, hS, hL0, hM0, hN, h93, h9⟩, h38⟩ := id hz
  simp only at hC hD hK hS hM0 hN h93 h9 h38
  obtain ⟨⟨xnc, xnd, xnk, xns⟩, xC, xD, xO, ⟨t1, t2, t3, t4, t5⟩, xcl, xo, xwy, x103, x97, a1, a2, a3⟩ := id hX
  simp only at t1 t2 t3 t4 xcl xo xwy a1
  obtain ⟨ou', hL, hou⟩ := l_owes 19 (x := x) (y := y) (ou := ou) (e_owes 17 (rq := rq) (dy := dy) (n := n))
  have hMo := e_mowes 17 (x := x) (y := y) (n := n) (rq := rq) (ou := ou') (dy := dy) (ar := ar)
  unfold q_2 at hL hou
  by_cases c : ((¬ x < 0 ∧ x < 6) ∧ (¬ y < 0 ∧ y < 6))
  · have c' : ((¬ x < 0 ∧ x < nI 6) ∧ (¬ y < 0 ∧ y < nI 6)) := c
    rw [if_pos c'] at hL hou
    rw [if_pos c, if_pos c] at hMo
    exact j_q hL hMo (fun _ => (hou _ rfl).trans (congrArg Int32.toInt64 ((hM0.2.2.2 _ (w_in (N := 6) (by omega) c.1) _ (w_in (N := 6) (by omega) c.2)).1.trans (xo _ (w_in (N := 6) (by omega) c.1) _ (w_in (N := 6) (by omega) c.2)).1.symm))) hz y_f_refl hX hP hm
  · have c' : ¬ ((¬ x < 0 ∧ x < nI 6) ∧ (¬ y < 0 ∧ y < nI 6)) := c
    rw [if_neg c'] at hL
    rw [if_neg c, if_neg c] at hMo
    exact j_q hL hMo (fun h => absurd h (by decide)) hz y_f_refl hX hP hm
theorem j_sold {m0 : Nat} {S : m_S} {x y : Int32} (H : w_J m0 S) : w_C (m0 + 1) 139 104 [.ref 3, .int x, .int y, .ref 119] [.ref 94, .int x, .int y] S (fun w => w.toInt64) := by
  obtain ⟨n, nc, nd, nk, ns, sz, cb, db, sd, ow, got, s1, s2, ⟨hr, o32, acc, club, sp, ⟨kb, kw, sb, sc, wh⟩, wy, ln⟩, ar, rq, ou, dy, rfl, hz, hX, hP, hm⟩ := H
  obtain ⟨hn, ca, da, ka, sa, g, ⟨hC, hD, hK, hS, hL0, hM0, hN, h93, h9⟩, h38⟩ := id hz
  simp only at hC hD hK hS hM0 hN h93 h9 h38
  obtain ⟨⟨xnc, xnd, xnk, xns⟩, xC, xD, xO, ⟨t1, t2, t3, t4, t5⟩, xcl, xo, xwy, x103, x97, a1, a2, a3⟩ := id hX
  simp only at t1 t2 t3 t4 xcl xo xwy a1
  obtain ⟨ou', hL, hou⟩ := l_sold 19 (x := x) (y := y) (ou := ou) (e_sold 17 (rq := rq) (dy := dy) (n := n))
  have hMo := e_msold 17 (x := x) (y := y) (n := n) (rq := rq) (ou := ou') (dy := dy) (ar := ar)
  unfold q_2 at hL hou
  by_cases c : ((¬ x < 0 ∧ x < 6) ∧ (¬ y < 0 ∧ y < 6))
  · have c' : ((¬ x < 0 ∧ x < nI 6) ∧ (¬ y < 0 ∧ y < nI 6)) := c
    rw [if_pos c'] at hL hou
    rw [if_pos c, if_pos c] at hMo
    exact j_q hL hMo (fun _ => (hou _ rfl).trans (congrArg Int32.toInt64 ((hM0.2.2.2 _ (w_in (N := 6) (by omega) c.1) _ (w_in (N := 6) (by omega) c.2)).2.trans (xo _ (w_in (N := 6) (by omega) c.1) _ (w_in (N := 6) (by omega) c.2)).2.symm))) hz y_f_refl hX hP hm
  · have c' : ¬ ((¬ x < 0 ∧ x < nI 6) ∧ (¬ y < 0 ∧ y < nI 6)) := c
    rw [if_neg c'] at hL
    rw [if_neg c, if_neg c] at hMo
    exact j_q hL hMo (fun h => absurd h (by decide)) hz y_f_refl hX hP hm
theorem j_place {m0 : Nat} {S : m_S} {x : Int32} (H : w_J m0 S) : w_C (m0 + 1) 140 105 [.ref 3, .int x, .ref 119] [.ref 94, .int x] S (fun w => w.toInt64) := by
  obtain ⟨n, nc, nd, nk, ns, sz, cb, db, sd, ow, got, s1, s2, ⟨hr, o32, acc, club, sp, ⟨kb, kw, sb, sc, wh⟩, wy, ln⟩, ar, rq, ou, dy, rfl, hz, hX, hP, hm⟩ := H
  obtain ⟨hn, ca, da, ka, sa, g, ⟨hC, hD, hK, hS, hL0, hM0, hN, h93, h9⟩, h38⟩ := id hz
  simp only at hC hD hK hS hM0 hN h93 h9 h38
  obtain ⟨⟨xnc, xnd, xnk, xns⟩, xC, xD, xO, ⟨t1, t2, t3, t4, t5⟩, xcl, xo, xwy, x103, x97, a1, a2, a3⟩ := id hX
  simp only at t1 t2 t3 t4 xcl xo xwy a1
  obtain ⟨ou', hL, hou⟩ := l_place 19 (x := x) (ou := ou) (e_place 17 hS.1 hS.2.1 hS.2.2.1 (rq := rq) (dy := dy) (n := n))
  have hMo := e_mplace 17 t4.1 xns (x := x) (n := n) (rq := rq) (ou := ou') (dy := dy) (ar := ar)
  unfold q_1 at hL hou
  by_cases c : (¬ x < 0 ∧ x < nI ns)
  · have c' : (¬ x < 0 ∧ x < nI ns) := c
    rw [if_pos c'] at hL hou
    rw [if_pos c, if_pos c] at hMo
    exact j_q hL hMo (fun _ => (hou _ rfl).trans (congrArg Int32.toInt64 ((t4.2.1 _ (w_in (N := ns) (by omega) c)).1.symm))) hz y_f_refl hX hP hm
  · have c' : ¬ (¬ x < 0 ∧ x < nI ns) := c
    rw [if_neg c'] at hL
    rw [if_neg c, if_neg c] at hMo
    exact j_q hL hMo (fun h => absurd h (by decide)) hz y_f_refl hX hP hm
theorem j_worked {m0 : Nat} {S : m_S} {x : Int32} (H : w_J m0 S) : w_C (m0 + 1) 141 106 [.ref 3, .int x, .ref 119] [.ref 94, .int x] S (fun w => w.toInt64) := by
  obtain ⟨n, nc, nd, nk, ns, sz, cb, db, sd, ow, got, s1, s2, ⟨hr, o32, acc, club, sp, ⟨kb, kw, sb, sc, wh⟩, wy, ln⟩, ar, rq, ou, dy, rfl, hz, hX, hP, hm⟩ := H
  obtain ⟨hn, ca, da, ka, sa, g, ⟨hC, hD, hK, hS, hL0, hM0, hN, h93, h9⟩, h38⟩ := id hz
  simp only at hC hD hK hS hM0 hN h93 h9 h38
  obtain ⟨⟨xnc, xnd, xnk, xns⟩, xC, xD, xO, ⟨t1, t2, t3, t4, t5⟩, xcl, xo, xwy, x103, x97, a1, a2, a3⟩ := id hX
  simp only at t1 t2 t3 t4 xcl xo xwy a1
  obtain ⟨ou', hL, hou⟩ := l_worked 19 (x := x) (ou := ou) (e_worked 17 hK.1 hK.2.1 hK.2.2.1 (rq := rq) (dy := dy) (n := n))
  have hMo := e_mworked 17 t3.1 xnk (x := x) (n := n) (rq := rq) (ou := ou') (dy := dy) (ar := ar)
  unfold q_1 at hL hou
  by_cases c : (¬ x < 0 ∧ x < nI nk)
  · have c' : (¬ x < 0 ∧ x < nI nk) := c
    rw [if_pos c'] at hL hou
    rw [if_pos c, if_pos c] at hMo
    exact j_q hL hMo (fun _ => (hou _ rfl).trans (congrArg Int32.toInt64 ((t3.2 _ (w_in (N := nk) (by omega) c)).2.2.2.1.symm))) hz y_f_refl hX hP hm
  · have c' : ¬ (¬ x < 0 ∧ x < nI nk) := c
    rw [if_neg c'] at hL
    rw [if_neg c, if_neg c] at hMo
    exact j_q hL hMo (fun h => absurd h (by decide)) hz y_f_refl hX hP hm
theorem j_isWhole {m0 : Nat} {S : m_S} {x : Int32} (H : w_J m0 S) : w_C (m0 + 1) 133 97 [.ref 3, .int x, .ref 119] [.ref 94, .int x] S (fun w => if w = 0 then (0 : Int64) else 1) := by
  obtain ⟨n, nc, nd, nk, ns, sz, cb, db, sd, ow, got, s1, s2, ⟨hr, o32, acc, club, sp, ⟨kb, kw, sb, sc, wh⟩, wy, ln⟩, ar, rq, ou, dy, rfl, hz, hX, hP, hm⟩ := H
  obtain ⟨hn, ca, da, ka, sa, g, ⟨hC, hD, hK, hS, hL0, hM0, hN, h93, h9⟩, h38⟩ := id hz
  simp only at hC hD hK hS hM0 hN h93 h9 h38
  obtain ⟨⟨xnc, xnd, xnk, xns⟩, xC, xD, xO, ⟨t1, t2, t3, t4, t5⟩, xcl, xo, xwy, x103, x97, a1, a2, a3⟩ := id hX
  simp only at t1 t2 t3 t4 xcl xo xwy a1
  have hwz : ∀ c, c < nc → ar 6 c = 0 ∨ ar 6 c = 1 := fun c hc => by
    obtain ⟨e, h1⟩ := hC.2.2.2.1 c hc
    have e' : ar 6 c = nI (wh c) := e
    rw [e']
    rcases (by omega : wh c = 0 ∨ wh c = 1) with h | h <;> rw [h]
    · exact Or.inl rfl
    · exact Or.inr rfl
  obtain ⟨ou', hL, hou⟩ := l_isWhole 19 (x := x) (ou := ou) (e_isWhole 17 hC.1 hC.2.1 hwz (rq := rq) (dy := dy) (n := n))
  have hMo := e_misWhole 17 xnc xnk xC.1 t3 (x := x) (n := n) (rq := rq) (ou := ou') (dy := dy) (ar := ar)
  unfold q_1 at hL hou
  by_cases c : (¬ x < 0 ∧ x < nI nc)
  · have c' : (¬ x < 0 ∧ x < nI nc) := c
    rw [if_pos c'] at hL hou
    rw [if_pos c, if_pos c] at hMo
    refine j_q (g := fun w => if w = 0 then (0 : Int64) else 1) hL hMo (fun _ => (hou _ rfl).trans ?_) hz y_f_refl hX hP hm
    have hlt := w_in (N := nc) (by omega) c
    obtain ⟨e, h1⟩ := hC.2.2.2.1 _ hlt
    have e' : ar 6 x.toNatClampNeg = nI (wh x.toNatClampNeg) := e
    have hw := n_WI_wc hP.2.1 _ hlt
    have hw' : wh x.toNatClampNeg = 0 ↔ n_co kb x.toNatClampNeg nk 0 ≠ none := hw
    rw [e']
    by_cases z : n_co kb x.toNatClampNeg nk 0 = none
    · rw [if_pos z]
      have h0 : wh x.toNatClampNeg = 1 := by
        rcases (by omega : wh x.toNatClampNeg = 0 ∨ wh x.toNatClampNeg = 1) with h | h
        · exact absurd z (hw'.mp h)
        · exact h
      rw [h0]
      rfl
    · rw [if_neg z, hw'.mpr z]
      rfl
  · have c' : ¬ (¬ x < 0 ∧ x < nI nc) := c
    rw [if_neg c'] at hL
    rw [if_neg c, if_neg c] at hMo
    exact j_q hL hMo (fun h => absurd h (by decide)) hz y_f_refl hX hP hm
theorem j_account {m0 : Nat} {S : m_S} {x : Int32} (H : w_J m0 S) : w_C (m0 + 1) 138 102 [.ref 3, .int x, .ref 119] [.ref 94, .int x] S (fun w => w.toInt64) := by
  obtain ⟨n, nc, nd, nk, ns, sz, cb, db, sd, ow, got, s1, s2, ⟨hr, o32, acc, club, sp, ⟨kb, kw, sb, sc, wh⟩, wy, ln⟩, ar, rq, ou, dy, rfl, hz, hX, hP, hm⟩ := H
  obtain ⟨hn, ca, da, ka, sa, g, ⟨hC, hD, hK, hS, hL0, hM0, hN, h93, h9⟩, h38⟩ := id hz
  simp only at hC hD hK hS hM0 hN h93 h9 h38
  obtain ⟨⟨xnc, xnd, xnk, xns⟩, xC, xD, xO, ⟨t1, t2, t3, t4, t5⟩, xcl, xo, xwy, x103, x97, a1, a2, a3⟩ := id hX
  simp only at t1 t2 t3 t4 xcl xo xwy a1
  obtain ⟨ou', hL, hou⟩ := l_account 19 (x := x) (ou := ou) (e_account 17 (rq := rq) (dy := dy) (n := n) (ar := ar))
  have hMo := e_maccount 17 (x := x) (n := n) (rq := rq) (ou := ou') (dy := dy) t1 xcl
  unfold q_1 at hL hou
  by_cases e : x = -1
  · rw [if_pos e] at hL hou
    rw [if_pos e, if_pos e] at hMo
    exact j_q hL hMo (fun _ => (hou _ rfl).trans (congrArg Int32.toInt64 h38)) hz y_f_refl hX hP hm
  · rw [if_neg e] at hL hou
    rw [if_neg e, if_neg e] at hMo
    by_cases c : ¬ x < 0 ∧ x < 6
    · have c' : ¬ x < 0 ∧ x < nI 6 := c
      rw [if_pos c'] at hL hou
      rw [if_pos c, if_pos c] at hMo
      exact j_q hL hMo (fun _ => (hou _ rfl).trans (congrArg Int32.toInt64 (congrFun h93 _))) hz y_f_refl hX hP hm
    · have c' : ¬ (¬ x < 0 ∧ x < nI 6) := c
      rw [if_neg c'] at hL
      rw [if_neg c, if_neg c] at hMo
      exact j_q hL hMo (fun h => absurd h (by decide)) hz y_f_refl hX hP hm
theorem j_owesAnew {m0 : Nat} {S : m_S} {x y : Int32} (H : w_J m0 S) : w_C (m0 + 1) 137 101 [.ref 3, .int x, .int y, .ref 119] [.ref 94, .int x, .int y] S (fun w => w.toInt64) := by
  obtain ⟨n, nc, nd, nk, ns, sz, cb, db, sd, ow, got, s1, s2, ⟨hr, o32, acc, club, sp, ⟨kb, kw, sb, sc, wh⟩, wy, ln⟩, ar, rq, ou, dy, rfl, hz, hX, hP, hm⟩ := H
  obtain ⟨hn, ca, da, ka, sa, g, ⟨hC, hD, hK, hS, hL0, hM0, hN, h93, h9⟩, h38⟩ := id hz
  simp only at hC hD hK hS hM0 hN h93 h9 h38
  obtain ⟨⟨xnc, xnd, xnk, xns⟩, xC, xD, xO, ⟨t1, t2, t3, t4, t5⟩, xcl, xo, xwy, x103, x97, a1, a2, a3⟩ := id hX
  simp only at t1 t2 t3 t4 xcl xo xwy a1
  have hP' := hP
  obtain ⟨p1, p2, p3, p4, p5, p6, p7, p8⟩ := hP'
  simp only at p1 p3 p4 p5 p6 p8
  obtain ⟨o, S', hE, ⟨ar2, rq2, rfl, hf⟩, hI⟩ := e_owesAnew 9 (x := x) (y := y) (ou := ou) hC hD hK hL0 hM0.1 (G := n_lg nc nd nk sz cb db sd (kb, kw, sb, sc, wh)) rfl (fun c hc => ⟨(p3 c hc).1, (p3 c hc).2.1, by have := (p3 c hc).2.2.1; omega⟩) (fun i hi => by have := (p4 i hi).1; omega) (fun i hi => ⟨(p5 i hi).1, (p5 i hi).2.1, (p5 i hi).2.2.1⟩) p1 (fun h hh => p6 h (by omega))
  by_cases c : (¬ x < 0 ∧ x < 6) ∧ (¬ y < 0 ∧ y < 6)
  · rw [if_pos c] at hI
    subst hI
    obtain ⟨ou', hL, hou⟩ := l_owesAnew 19 (x := x) (y := y) (ou := ou) (q := some _) hE
    have hMo := e_mowesAnew 16 (x := x) (y := y) (n := n) (rq := rq2) (ou := ou') (dy := dy) (ar := ar2)
    rw [if_pos c, if_pos c] at hMo
    refine j_q hL hMo (fun _ => (hou _ rfl).trans (congrArg Int32.toInt64 ?_)) hz hf hX hP hm
    have hx := w_in (N := 6) (by omega) c.1
    have hy := w_in (N := 6) (by omega) c.2
    rw [hf.1 112 (by omega), (xo _ hx _ hy).1]
    exact (p8 _ hx _ hy).symm
  · rw [if_neg c] at hI
    obtain ⟨rfl, h2⟩ := hI
    obtain ⟨ou', hL, hou⟩ := l_owesAnew 19 (x := x) (y := y) (ou := ou) (q := none) hE
    have hMo := e_mowesAnew 16 (x := x) (y := y) (n := n) (rq := rq2) (ou := ou') (dy := dy) (ar := ar2)
    rw [if_neg c, if_neg c] at hMo
    exact j_q hL hMo (fun h => absurd h (by decide)) hz hf hX hP hm
/-- two questions that the law asks straight -/
def w_D (m yC yM : Nat) (S : m_S) : Prop := ∃ (v : Int32) (S2 : m_S), m_rcv 7 [.ref 3] S ∧ m_Ev m_cds m_my 20 yC [.ref 3] S (.inl (some (.int v))) S ∧ m_rcv 8 [.ref 94] S ∧ m_Ev m_cds m_my 20 yM [.ref 94] S (.inl (some (.int v))) S2 ∧ w_J m S2
theorem rcv7 {l : List Value} {n : Nat} {ar : Nat → Nat → Int32} {rq : Nat → Nat → Option Nat} {ou : Nat → Int64} {dy : Nat → m_C} : m_rcv 7 (.ref 3 :: l) (n, m_hp ar rq ou dy) := by
  show (m_gO 7 (m_hp ar rq ou dy 3)).isSome = true
  rw [m_hp_3, m_gO_O]
  rfl
theorem j_spent {m0 : Nat} {S : m_S} (H : w_J m0 S) : w_D (m0 + 1) 39 103 S := by
  obtain ⟨n, nc, nd, nk, ns, sz, cb, db, sd, ow, got, s1, s2, ⟨hr, o32, acc, club, sp, ⟨kb, kw, sb, sc, wh⟩, wy, ln⟩, ar, rq, ou, dy, rfl, hz, hX, hP, hm⟩ := H
  obtain ⟨hn, ca, da, ka, sa, g, ⟨hC, hD, hK, hS, hL0, hM0, hN, h93, h9⟩, h38⟩ := id hz
  simp only at hC hD hK hS hM0 hN h93 h9 h38
  obtain ⟨⟨xnc, xnd, xnk, xns⟩, xC, xD, xO, ⟨t1, t2, t3, t4, t5⟩, xcl, xo, xwy, x103, x97, a1, a2, a3⟩ := id hX
  simp only at t1 t2 t3 t4 xcl xo xwy a1
  have hE := e_spent 19 (n := n) (ar := ar) (rq := rq) (ou := ou) (dy := dy)
  have hMo := e_mspent 19 (n := n) (ar := ar) (rq := rq) (ou := ou) (dy := dy)
  rw [h9] at hE
  rw [t2] at hMo
  exact ⟨_, _, rcv7, hE, rcv8, hMo, n, nc, nd, nk, ns, sz, cb, db, sd, ow, got, s1, s2, _, _, rq, ou, dy, rfl, z_R_g hz (fun x hx => m_uf_ne (by omega)) (fun _ _ _ => rfl), x_R_th hX, hP, by omega⟩
theorem j_seal {m0 : Nat} {S : m_S} (H : w_J m0 S) : w_D (m0 + 1) 43 107 S := by
  obtain ⟨n, nc, nd, nk, ns, sz, cb, db, sd, ow, got, s1, s2, ⟨hr, o32, acc, club, sp, ⟨kb, kw, sb, sc, wh⟩, wy, ln⟩, ar, rq, ou, dy, rfl, hz, hX, hP, hm⟩ := H
  obtain ⟨hn, ca, da, ka, sa, g, ⟨hC, hD, hK, hS, hL0, hM0, hN, h93, h9⟩, h38⟩ := id hz
  simp only at hC hD hK hS hM0 hN h93 h9 h38
  obtain ⟨⟨xnc, xnd, xnk, xns⟩, xC, xD, xO, ⟨t1, t2, t3, t4, t5⟩, xcl, xo, xwy, x103, x97, a1, a2, a3⟩ := id hX
  simp only at t1 t2 t3 t4 xcl xo xwy a1
  have hE := e_seal 19 (n := n) (ar := ar) (rq := rq) (ou := ou) (dy := dy)
  have hMo := e_mseal 19 (n := n) (f := fun i j => ar (80 + i) j) (ar := ar) (rq := rq) (ou := ou) (dy := dy) (fun i hi j hj => (xo i hi j hj).1.trans (hM0.2.2.2 i hi j hj).1.symm)
  exact ⟨_, _, rcv7, hE, rcv8, hMo, n, nc, nd, nk, ns, sz, cb, db, sd, ow, got, s1, s2, _, _, rq, ou, dy, rfl, z_R_g hz (fun x hx => m_uf_ne (by omega)) (fun _ _ _ => rfl), x_R_th hX, hP, by omega⟩
