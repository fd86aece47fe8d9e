/-! the club as a whole: what its heap holds -/
theorem m_O_inj {k k' : Nat} {fs fs' : List Value} (h : m_O k fs = m_O k' fs') : k = k' := by
  unfold m_O at h
  simp only [Sum.inr.injEq, Sum.inl.injEq, Prod.mk.injEq] at h
  exact h.1
theorem m_O_Q {k k' n : Nat} {fs : List Value} {f : Nat → Option Nat} : m_O k fs ≠ m_Q k' n f := fun z => by cases z
theorem m_up_O {dy : Nat → m_C} {a b k k' : Nat} {fs fs' : List Value} {c : m_C} (ha : dy a = m_O k fs) (hb : dy b = m_O k' fs') (hk : k' ≠ k) : m_up dy a c b = dy b := m_up_b (fun z => by rw [z, ha] at hb; exact hk (m_O_inj hb).symm)
theorem n_CB_up {B nc a k : Nat} {ca : Nat → Nat} {cb : Nat → Nat → Nat} {rq : Nat → Nat → Option Nat} {dy : Nat → m_C} {fs : List Value} {c : m_C} (h : n_CB B nc ca cb rq dy) (ha : dy a = m_O k fs) (hk : k ≠ 1) : n_CB B nc ca cb rq (m_up dy a c) := fun i hi => by
  obtain ⟨h1, h2, h3, h4⟩ := h i hi
  exact ⟨h1, h2, by rw [m_up_O ha h3 hk.symm]; exact h3, h4⟩
theorem n_DB_up {B nd a k : Nat} {da : Nat → Nat} {db : Nat → Nat → Nat} {rq : Nat → Nat → Option Nat} {dy : Nat → m_C} {fs : List Value} {c : m_C} (h : n_DB B nd da db rq dy) (ha : dy a = m_O k fs) (hk : k ≠ 3) : n_DB B nd da db rq (m_up dy a c) := fun i hi => by
  obtain ⟨h1, h2, h3, h4⟩ := h i hi
  exact ⟨h1, h2, by rw [m_up_O ha h3 hk.symm]; exact h3, h4⟩
theorem n_KB_up {nk a k : Nat} {ka : Nat → Nat} {kb : Nat → Nat → Nat} {kw : Nat → Option Nat} {rq : Nat → Nat → Option Nat} {dy : Nat → m_C} {fs : List Value} {c : m_C} (h : n_KB nk ka kb kw rq dy) (ha : dy a = m_O k fs) (hk : k ≠ 2) : n_KB nk ka kb kw rq (m_up dy a c) := fun i hi => by
  obtain ⟨h1, h2, h3, h4⟩ := h i hi
  exact ⟨h1, h2, by rw [m_up_O ha h3 hk.symm]; exact h3, h4⟩
theorem n_SB_up {ns a k : Nat} {sa : Nat → Nat} {sb : Nat → Nat → Nat} {sc : Nat → Option Nat} {rq : Nat → Nat → Option Nat} {dy : Nat → m_C} {fs : List Value} {c : m_C} (h : n_SB ns sa sb sc rq dy) (ha : dy a = m_O k fs) (hk : k ≠ 6) : n_SB ns sa sb sc rq (m_up dy a c) := fun i hi => by
  obtain ⟨h1, h2, h3, h4⟩ := h i hi
  exact ⟨h1, h2, by rw [m_up_O ha h3 hk.symm]; exact h3, h4⟩
def y_L (n sz : Nat) (g : Nat → Nat) (sd : Nat → Nat → Nat) (dy : Nat → m_C) : Prop := sz ≤ 512 ∧ n_LR dy n sz g ∧ n_LG dy n sz g ∧ n_GB sz g sd dy
theorem y_L_up {n sz a k : Nat} {g : Nat → Nat} {sd : Nat → Nat → Nat} {dy : Nat → m_C} {fs : List Value} {c : m_C} (h : y_L n sz g sd dy) (ha : dy a = m_O k fs) (h0 : k ≠ 0) (h5 : k ≠ 5) : y_L n sz g sd (m_up dy a c) := by
  obtain ⟨h1, ⟨mc, e, q1, q2⟩, h3, h4⟩ := h
  refine ⟨h1, ⟨mc, e, by rw [m_up_O ha q1 h0.symm]; exact q1, ?_⟩, fun i hi => ?_, fun i hi => ?_⟩
  · rcases q2 with q2 | ⟨cap, f, r1, r2, r3, r4⟩
    · exact Or.inl q2
    · refine Or.inr ⟨cap, f, r1, r2, ?_, r4⟩
      rw [m_up_b (fun z => by rw [z, ha] at r3; exact m_O_Q r3)]
      exact r3
  · obtain ⟨r1, r2, r3⟩ := h3 i hi
    obtain ⟨_, s2, _⟩ := h4 i hi
    exact ⟨r1, r2, by rw [m_up_O ha s2 h5.symm]; exact r3⟩
  · obtain ⟨s1, s2, s3⟩ := h4 i hi
    exact ⟨s1, by rw [m_up_O ha s2 h5.symm]; exact s2, s3⟩
def y_C (n nc : Nat) (ca : Nat → Nat) (cb ow : Nat → Nat → Nat) (wh : Nat → Nat) (ar : Nat → Nat → Int32) (rq : Nat → Nat → Option Nat) (dy : Nat → m_C) : Prop := nc ≤ 10 ∧ ar 4 7 = nI nc ∧ n_CB 4 nc ca cb rq dy ∧ n_WB 4 nc wh ar ∧ n_OB nc cb ow ar ∧ ∀ c, c < nc → ca c < n + 3
def y_D (n nd : Nat) (da : Nat → Nat) (db : Nat → Nat → Nat) (wy : Nat → Option Nat) (ln : Nat → Nat) (ar : Nat → Nat → Int32) (rq : Nat → Nat → Option Nat) (dy : Nat → m_C) : Prop := nd ≤ 10 ∧ ar 4 8 = nI nd ∧ n_DB 4 nd da db rq dy ∧ ∀ i, i < nd → da i < n + 3 ∧ db i 3 ≤ 4 ∧ ar 19 i = n_w (wy i) ∧ ar 20 i = nI (ln i)
def y_K (n nk : Nat) (ka : Nat → Nat) (kb : Nat → Nat → Nat) (kw : Nat → Option Nat) (ar : Nat → Nat → Int32) (rq : Nat → Nat → Option Nat) (dy : Nat → m_C) : Prop := nk ≤ 16 ∧ ar 3 10 = nI nk ∧ n_KB nk ka kb kw rq dy ∧ ∀ k, k < nk → ka k < n + 3 ∧ ∀ k', k' < nk → ka k = ka k' → k = k'
def y_S (n ns : Nat) (sa : Nat → Nat) (sb : Nat → Nat → Nat) (sc : Nat → Option Nat) (ar : Nat → Nat → Int32) (rq : Nat → Nat → Option Nat) (dy : Nat → m_C) : Prop := ns ≤ 3 ∧ ar 3 11 = nI ns ∧ n_SB ns sa sb sc rq dy ∧ ∀ s, s < ns → sa s < n + 3 ∧ ∀ s', s' < ns → sa s = sa s' → s = s'
def y_M (hr : Nat) (o32 got : Nat → Nat → Int32) (s1 s2 : Int32) (ar : Nat → Nat → Int32) : Prop := ar 3 12 = nI hr ∧ ar 3 13 = s1 ∧ ar 3 14 = s2 ∧ ∀ a, a < 6 → ∀ b, b < 6 → ar (80 + a) b = o32 a b ∧ ar (87 + a) b = got a b
def y_N (nc nd : Nat) (cb db ow : Nat → Nat → Nat) (wh : Nat → Nat) (ar : Nat → Nat → Int32) : Prop := (ar 4 15 = 0 ∧ n_RQ 4 nc nd ar (n_lead nc nd wh cb db ow)) ∨ ar 4 15 = 1
/-- the club's heap in the midst of an hour: T holds the accounts, what was spent, cuts and ships -/
def y_T (n nc nd nk ns sz hr : Nat) (ca da ka sa g : Nat → Nat) (cb db sd ow : Nat → Nat → Nat) (wy : Nat → Option Nat) (ln : Nat → Nat) (o32 got : Nat → Nat → Int32) (s1 s2 : Int32) (T : (Nat → Int32) × Int32 × n_W) (ar : Nat → Nat → Int32) (rq : Nat → Nat → Option Nat) (dy : Nat → m_C) : Prop :=
  y_C n nc ca cb ow T.2.2.2.2.2.2 ar rq dy ∧ y_D n nd da db wy ln ar rq dy ∧ y_K n nk ka T.2.2.1 T.2.2.2.1 ar rq dy ∧ y_S n ns sa T.2.2.2.2.1 T.2.2.2.2.2.1 ar rq dy ∧ y_L n sz g sd dy ∧ y_M hr o32 got s1 s2 ar ∧ y_N nc nd cb db ow T.2.2.2.2.2.2 ar ∧ ar 93 = T.1 ∧ ar 3 9 = T.2.1
theorem n_RQ_cg {B nc nd : Nat} {q : n_Q} {a b : Nat → Nat → Int32} (h : n_RQ B nc nd a q) (hx : ∀ x, x ≠ B → B + 15 ≤ x → x < B + 35 → b x = a x) : n_RQ B nc nd b q ∨ ¬ (nc ≤ 10) := by
  by_cases hnc : nc ≤ 10
  · refine Or.inl ⟨fun c hc j hj => ?_, fun i hi j hj => ?_, fun i hi => ?_, fun i hi => ?_⟩
    · rw [hx _ (by omega) (by omega) (by omega)]; exact h.1 c hc j hj
    · rw [hx _ (by omega) (by omega) (by omega)]; exact h.2.1 i hi j hj
    · rw [hx _ (by omega) (by omega) (by omega)]; exact h.2.2.1 i hi
    · rw [hx _ (by omega) (by omega) (by omega)]; exact h.2.2.2 i hi
  · exact Or.inr hnc
theorem y_C_cg {n nc : Nat} {ca : Nat → Nat} {cb ow : Nat → Nat → Nat} {wh : Nat → Nat} {a b : Nat → Nat → Int32} {rq : Nat → Nat → Option Nat} {dy : Nat → m_C} (h : y_C n nc ca cb ow wh a rq dy) (h4 : b 4 7 = a 4 7) (h6 : b 6 = a 6) (h8 : ∀ c, c < 10 → b (8 + c) = a (8 + c)) : y_C n nc ca cb ow wh b rq dy := by
  obtain ⟨q1, q2, q3, q4, q5, q6⟩ := h
  refine ⟨q1, by rw [h4]; exact q2, q3, fun c hc => ⟨by show b 6 c = _; rw [h6]; exact (q4 c hc).1, (q4 c hc).2⟩, fun c hc => ⟨(q5 c hc).1, (q5 c hc).2.1, fun j hj => ?_⟩, q6⟩
  rw [h8 c (by omega)]
  exact (q5 c hc).2.2 j hj
theorem y_N_cg {nc nd : Nat} {cb db ow : Nat → Nat → Nat} {wh : Nat → Nat} {a b : Nat → Nat → Int32} (hnc : nc ≤ 10) (h : y_N nc nd cb db ow wh a) (h4 : b 4 15 = a 4 15) (hx : ∀ x, 19 ≤ x → x < 39 → b x = a x) : y_N nc nd cb db ow wh b := by
  rcases h with ⟨q1, q2⟩ | q
  · refine Or.inl ⟨by rw [h4]; exact q1, ?_⟩
    rcases n_RQ_cg q2 (fun x a1 a2 a3 => hx x (by omega) (by omega)) with r | r
    · exact r
    · exact absurd hnc r
  · exact Or.inr (by rw [h4]; exact q)
theorem e_clubShip (d : Nat) {n nc nd nk ns sz hr s : Nat} {ca da ka sa g : Nat → Nat} {cb db sd ow : Nat → Nat → Nat} {wy : Nat → Option Nat} {ln : Nat → Nat} {o32 got : Nat → Nat → Int32} {s1 s2 : Int32} {storm : Bool} {T : (Nat → Int32) × Int32 × n_W} {ar : Nat → Nat → Int32} {rq : Nat → Nat → Option Nat} {ou : Nat → Int64} {dy : Nat → m_C}
    (H : y_T n nc nd nk ns sz hr ca da ka sa g cb db sd ow wy ln o32 got s1 s2 T ar rq dy) (hW : n_WI nc nk ns hr (hr + 1) T.2.2) (hhr : hr < 500) (hs : s < ns) (hst : (¬ nI hr < s1 ∧ ¬ s2 < nI hr) ↔ storm = true) :
    ∃ S', m_Ev m_cds m_my (d + 3) 49 [.ref 3, .ref (sa s)] (n, m_hp ar rq ou dy) (.inl none) S' ∧ ∃ (ar' : Nat → Nat → Int32) (dy' : Nat → m_C), S' = (n, m_hp ar' rq ou dy') ∧ y_T n nc nd nk ns sz hr ca da ka sa g cb db sd ow wy ln o32 got s1 s2 (n_dz storm hr cb ow s T) ar' rq dy' ∧ (∀ x, 94 ≤ x → ar' x = ar x) ∧ ar' 3 8 = ar 3 8 := by
  obtain ⟨acc, sp, kb, kw, sb, sc, wh⟩ := T
  obtain ⟨hC, hD, hK, hS, hL, hM, hN, h93, h9⟩ := H
  simp only at hC hD hK hS hN h93 h9
  obtain ⟨hns, h11, hSB, hSa⟩ := hS
  obtain ⟨S1, S2, S3, S4, S5, S6, S7⟩ := hSB s hs
  rcases hsc : sc s with _ | k
  · have e : n_dz storm hr cb ow s (acc, sp, kb, kw, sb, sc, wh) = (acc, sp, kb, kw, sb, sc, wh) := by
      unfold n_dz
      simp only
      rw [hsc]
    rw [e]
    rw [hsc] at S3
    exact ⟨_, e_runShip0 (d + 2) S2 S3, ar, dy, rfl, ⟨hC, hD, hK, ⟨hns, h11, hSB, hSa⟩, hL, hM, hN, h93, h9⟩, fun _ _ => rfl, rfl⟩
  · have hW0 := hW
    obtain ⟨W1, W2, W3, W4⟩ := hW
    obtain ⟨k1, k2, k3⟩ := W1 s hs k hsc
    obtain ⟨b1, b2, b3, b4, b5⟩ := W2 k k1
    simp only at k2 b1 b2 b3 b4 b5
    obtain ⟨hnk, h10, hKB, hKa⟩ := hK
    obtain ⟨K1, K2, K3, K4, K5, K6, K7, K8⟩ := hKB k k1
    obtain ⟨hnc, h7, hCB, hWB, hOB, hCa⟩ := hC
    obtain ⟨m1, m2, m3, m4⟩ := hM
    have hE := e_runShip d (n := n) (ou := ou) hnc hnk hCB hKB hSB hOB hs hsc k1 b3 k2 m1
    have e : n_dz storm hr cb ow s (acc, sp, kb, kw, sb, sc, wh) = (n_ch (ow (kb k 0)) (cb (kb k 0) 2) 20 acc, sp + 20, n_wz storm hr s k (kb, kw, sb, sc, wh)) := by
      unfold n_dz
      simp only
      rw [hsc]
    rw [e]
    rw [h93] at hE
    refine ⟨_, hE, ?_⟩
    clear hE
    have hx : ∀ x, x ≠ 93 → x ≠ 3 → n_rp ar (n_ch (ow (kb k 0)) (cb (kb k 0) 2) 20 acc) x = ar x := fun x a1 a2 => n_rp_ne a1 a2
    have h3 : ∀ j, j ≠ 9 → n_rp ar (n_ch (ow (kb k 0)) (cb (kb k 0) 2) 20 acc) 3 j = ar 3 j := fun j hj => n_rp_3 hj
    have q93 : n_rp ar (n_ch (ow (kb k 0)) (cb (kb k 0) 2) 20 acc) 93 = n_ch (ow (kb k 0)) (cb (kb k 0) 2) 20 acc := by unfold n_rp; rw [m_uf_ne (by omega), m_uf_eq]
    have q9 : n_rp ar (n_ch (ow (kb k 0)) (cb (kb k 0) 2) 20 acc) 3 9 = sp + 20 := by unfold n_rp; rw [m_uf_eq, m_uf_eq, h9]
    generalize n_rp ar (n_ch (ow (kb k 0)) (cb (kb k 0) 2) 20 acc) = ar1 at hx h3 q93 q9 ⊢
    have hC1 : y_C n nc ca cb ow wh ar1 rq dy := y_C_cg ⟨hnc, h7, hCB, hWB, hOB, hCa⟩ (by rw [hx 4 (by omega) (by omega)]) (hx 6 (by omega) (by omega)) (fun c hc => hx _ (by omega) (by omega))
    have hD1 : y_D n nd da db wy ln ar1 rq dy := ⟨hD.1, by rw [hx 4 (by omega) (by omega)]; exact hD.2.1, hD.2.2.1, fun i hi => by rw [hx 19 (by omega) (by omega), hx 20 (by omega) (by omega)]; exact hD.2.2.2 i hi⟩
    have hK1 : y_K n nk ka kb kw ar1 rq dy := ⟨hnk, by rw [h3 10 (by omega)]; exact h10, hKB, hKa⟩
    have hS1 : y_S n ns sa sb sc ar1 rq dy := ⟨hns, by rw [h3 11 (by omega)]; exact h11, hSB, hSa⟩
    have hM1 : y_M hr o32 got s1 s2 ar1 := ⟨by rw [h3 12 (by omega)]; exact m1, by rw [h3 13 (by omega)]; exact m2, by rw [h3 14 (by omega)]; exact m3, fun a ha b hb => by rw [hx _ (by omega) (by omega), hx _ (by omega) (by omega)]; exact m4 a ha b hb⟩
    have hN1 : y_N nc nd cb db ow wh ar1 := y_N_cg hnc hN (by rw [hx 4 (by omega) (by omega)]) (fun x a1 a2 => hx x (by omega) (by omega))
    have h8 : ar1 3 8 = ar 3 8 := h3 8 (by omega)
    have hhi : ∀ x, 94 ≤ x → ar1 x = ar x := fun x hx2 => hx x (by omega) (by omega)
    have hstw : (¬ ar1 3 12 < ar1 3 13 ∧ ¬ ar1 3 14 < ar1 3 12) ↔ storm = true := by rw [hM1.1, hM1.2.1, hM1.2.2.1]; exact hst
    have keep : ∃ (ar' : Nat → Nat → Int32) (dy' : Nat → m_C), ((n, m_hp ar1 rq ou dy) : m_S) = (n, m_hp ar' rq ou dy') ∧ y_T n nc nd nk ns sz hr ca da ka sa g cb db sd ow wy ln o32 got s1 s2 (n_ch (ow (kb k 0)) (cb (kb k 0) 2) 20 acc, sp + 20, (kb, kw, sb, sc, wh)) ar' rq dy' ∧ (∀ x, 94 ≤ x → ar' x = ar x) ∧ ar' 3 8 = ar 3 8 := ⟨ar1, dy, rfl, ⟨hC1, hD1, hK1, hS1, hL, hM1, hN1, q93, q9⟩, hhi, h8⟩
    unfold n_rs n_wz
    simp only
    by_cases c1 : sb s 1 = kb k 1
    · rw [if_pos c1, if_pos c1]
      by_cases c2 : storm = true
      · rw [if_pos (hstw.mpr c2), if_pos c2]
        exact keep
      · rw [if_neg (fun z => c2 (hstw.mp z)), if_neg c2]
        by_cases c3 : 0 < sb s 2
        · rw [if_pos c3, if_pos c3]
          unfold n_wk
          have hne : sa s ≠ ka k := fun z => by rw [z, K3] at S3; exact absurd (m_O_inj S3) (by decide)
          by_cases c4 : kb k 3 + 1 < 5
          · rw [if_pos c4, if_pos c4]
            refine ⟨ar1, _, rfl, ⟨⟨hC1.1, hC1.2.1, n_CB_up hC1.2.2.1 K3 (by decide), hC1.2.2.2⟩, ⟨hD1.1, hD1.2.1, n_DB_up hD1.2.2.1 K3 (by decide), hD1.2.2.2⟩, ⟨hnk, hK1.2.1, fun j hj => ?_, hKa⟩, ⟨hns, hS1.2.1, n_SB_up hSB K3 (by decide), hSa⟩, y_L_up hL K3 (by decide) (by decide), hM1, hN1, q93, q9⟩, hhi, h8⟩
            obtain ⟨J1, J2, J3, J4, J5, J6, J7, J8⟩ := hKB j hj
            show rq 76 j = some (ka j) ∧ 98 ≤ ka j ∧ m_up dy (ka k) _ (ka j) = m_O 2 [.int (nI (m_u2 kb k 3 (kb k 3 + 1) j 0)), .int (nI (m_u2 kb k 3 (kb k 3 + 1) j 1)), .int (nI (m_u2 kb k 3 (kb k 3 + 1) j 2)), .int (nI (m_u2 kb k 3 (kb k 3 + 1) j 3)), .int (n_w (kw j))] ∧ m_u2 kb k 3 (kb k 3 + 1) j 0 < 10 ∧ m_u2 kb k 3 (kb k 3 + 1) j 1 ≤ 1000 ∧ m_u2 kb k 3 (kb k 3 + 1) j 2 ≤ 500 ∧ m_u2 kb k 3 (kb k 3 + 1) j 3 ≤ 5 ∧ ∀ h, kw j = some h → h ≤ 500
            rw [m_u2_n2 (by omega : (0 : Nat) ≠ 3), m_u2_n2 (by omega : (1 : Nat) ≠ 3), m_u2_n2 (by omega : (2 : Nat) ≠ 3)]
            by_cases ej : j = k
            · subst ej
              rw [m_up_a, m_u2_eq, k2]
              exact ⟨J1, J2, rfl, J4, J5, J6, by omega, fun h z => by cases z⟩
            · rw [m_up_b (fun z => ej ((hKa j hj).2 k k1 z)), m_u2_n1 ej]
              exact ⟨J1, J2, J3, J4, J5, J6, J7, J8⟩
          · rw [if_neg c4, if_neg c4]
            have hk5 : kb k 3 < 5 := b1.mp k2
            have S3' : m_up dy (ka k) (m_O 2 [.int (nI (kb k 0)), .int (nI (kb k 1)), .int (nI (kb k 2)), .int (nI (kb k 3 + 1)), .int (n_w (some (hr + 1)))]) (sa s) = m_O 6 [.int (nI (sb s 0)), .int (nI (sb s 1)), .int (nI (sb s 2)), .int (n_w (sc s))] := by rw [m_up_b hne]; exact S3
            have y6 : ∀ (r6 : Nat → Int32) (r4 : Nat → Int32) (x : Nat), x ≠ 6 → x ≠ 4 → m_uf (m_uf ar1 6 r6) 4 r4 x = ar1 x := fun r6 r4 x a1 a2 => by rw [m_uf_ne a2, m_uf_ne a1]
            refine ⟨_, _, rfl, ⟨⟨hnc, ?_, n_CB_up (n_CB_up hC1.2.2.1 K3 (by decide)) S3' (by decide), fun c hc => ?_, fun c hc => ?_, hCa⟩, ⟨hD1.1, ?_, n_DB_up (n_DB_up hD1.2.2.1 K3 (by decide)) S3' (by decide), fun i hi => ?_⟩, ⟨hnk, ?_, fun j hj => ?_, hKa⟩, ⟨hns, ?_, fun t ht => ?_, hSa⟩, y_L_up (y_L_up hL K3 (by decide) (by decide)) S3' (by decide) (by decide), ⟨?_, ?_, ?_, fun a ha b hb => ?_⟩, Or.inr ?_, ?_, ?_⟩, fun x hx2 => ?_, ?_⟩
            · rw [m_uf_eq, m_uf_ne (by omega), hx 4 (by omega) (by omega)]; exact h7
            · show m_uf (m_uf ar1 6 _) 4 _ 6 c = nI (m_uf wh (kb k 0) 1 c) ∧ m_uf wh (kb k 0) 1 c ≤ 1
              rw [m_uf_ne (by omega), m_uf_eq]
              have := hC1.2.2.2.1 c hc
              by_cases ec : c = kb k 0
              · rw [upd, if_pos ec, ec, m_uf_eq]
                exact ⟨rfl, Nat.le_refl _⟩
              · rw [upd, if_neg ec, m_uf_ne ec]
                exact this
            · obtain ⟨o1, o2, o3⟩ := hC1.2.2.2.2.1 c hc
              refine ⟨o1, o2, fun j hj => ?_⟩
              rw [y6 _ _ _ (by omega) (by omega)]
              exact o3 j hj
            · rw [m_uf_eq, m_uf_ne (by omega), hx 4 (by omega) (by omega)]; exact hD.2.1
            · rw [y6 _ _ 19 (by omega) (by omega), y6 _ _ 20 (by omega) (by omega)]; exact hD1.2.2.2 i hi
            · rw [y6 _ _ 3 (by omega) (by omega)]; exact hK1.2.1
            · obtain ⟨J1, J2, J3, J4, J5, J6, J7, J8⟩ := hKB j hj
              show rq 76 j = some (ka j) ∧ 98 ≤ ka j ∧ m_up (m_up dy (ka k) _) (sa s) _ (ka j) = m_O 2 [.int (nI (m_u2 kb k 3 (kb k 3 + 1) j 0)), .int (nI (m_u2 kb k 3 (kb k 3 + 1) j 1)), .int (nI (m_u2 kb k 3 (kb k 3 + 1) j 2)), .int (nI (m_u2 kb k 3 (kb k 3 + 1) j 3)), .int (n_w (m_uf kw k (some (hr + 1)) j))] ∧ m_u2 kb k 3 (kb k 3 + 1) j 0 < 10 ∧ m_u2 kb k 3 (kb k 3 + 1) j 1 ≤ 1000 ∧ m_u2 kb k 3 (kb k 3 + 1) j 2 ≤ 500 ∧ m_u2 kb k 3 (kb k 3 + 1) j 3 ≤ 5 ∧ ∀ h, m_uf kw k (some (hr + 1)) j = some h → h ≤ 500
              rw [m_u2_n2 (by omega : (0 : Nat) ≠ 3), m_u2_n2 (by omega : (1 : Nat) ≠ 3), m_u2_n2 (by omega : (2 : Nat) ≠ 3), m_up_b (fun z => by rw [z, S3] at J3; exact absurd (m_O_inj J3) (by decide))]
              by_cases ej : j = k
              · subst ej
                rw [m_up_a, m_u2_eq, m_uf_eq]
                exact ⟨J1, J2, rfl, J4, J5, J6, by omega, fun h z => by cases z; omega⟩
              · rw [m_up_b (fun z => ej ((hKa j hj).2 k k1 z)), m_u2_n1 ej, m_uf_ne ej]
                exact ⟨J1, J2, J3, J4, J5, J6, J7, J8⟩
            · rw [y6 _ _ 3 (by omega) (by omega)]; exact hS1.2.1
            · obtain ⟨J1, J2, J3, J4, J5, J6, J7⟩ := hSB t ht
              show rq 77 t = some (sa t) ∧ 98 ≤ sa t ∧ m_up (m_up dy (ka k) _) (sa s) _ (sa t) = m_O 6 [.int (nI (m_u2 sb s 2 (sb s 2 - 1) t 0)), .int (nI (m_u2 sb s 2 (sb s 2 - 1) t 1)), .int (nI (m_u2 sb s 2 (sb s 2 - 1) t 2)), .int (n_w (m_uf sc s none t))] ∧ m_u2 sb s 2 (sb s 2 - 1) t 0 ≤ 200 ∧ m_u2 sb s 2 (sb s 2 - 1) t 1 ≤ 1000 ∧ m_u2 sb s 2 (sb s 2 - 1) t 2 ≤ 10 ∧ ∀ k, m_uf sc s none t = some k → k < 16
              rw [m_u2_n2 (by omega : (0 : Nat) ≠ 2), m_u2_n2 (by omega : (1 : Nat) ≠ 2)]
              by_cases et : t = s
              · subst et
                rw [m_up_a, m_u2_eq, m_uf_eq]
                exact ⟨J1, J2, rfl, J4, J5, by omega, fun _ z => by cases z⟩
              · rw [m_up_b (fun z => et ((hSa t ht).2 s hs z)), m_up_b (fun z => by rw [z, K3] at J3; exact absurd (m_O_inj J3) (by decide)), m_u2_n1 et, m_uf_ne et]
                exact ⟨J1, J2, J3, J4, J5, J6, J7⟩
            · rw [y6 _ _ 3 (by omega) (by omega)]; exact hM1.1
            · rw [y6 _ _ 3 (by omega) (by omega)]; exact hM1.2.1
            · rw [y6 _ _ 3 (by omega) (by omega)]; exact hM1.2.2.1
            · rw [y6 _ _ _ (by omega) (by omega), y6 _ _ _ (by omega) (by omega)]; exact hM1.2.2.2 a ha b hb
            · rw [m_uf_eq, m_uf_eq]
            · rw [y6 _ _ 93 (by omega) (by omega)]; exact q93
            · rw [y6 _ _ 3 (by omega) (by omega)]; exact q9
            · rw [y6 _ _ x (by omega) (by omega)]; exact hhi x hx2
            · rw [y6 _ _ 3 (by omega) (by omega)]; exact h8
        · rw [if_neg c3, if_neg c3]
          exact keep
    · rw [if_neg c1, if_neg c1]
      refine ⟨ar1, _, rfl, ⟨⟨hC1.1, hC1.2.1, n_CB_up hC1.2.2.1 S3 (by decide), hC1.2.2.2⟩, ⟨hD1.1, hD1.2.1, n_DB_up hD1.2.2.1 S3 (by decide), hD1.2.2.2⟩, ⟨hnk, hK1.2.1, n_KB_up hKB S3 (by decide), hKa⟩, ⟨hns, hS1.2.1, fun t ht => ?_, hSa⟩, y_L_up hL S3 (by decide) (by decide), hM1, hN1, q93, q9⟩, hhi, h8⟩
      obtain ⟨J1, J2, J3, J4, J5, J6, J7⟩ := hSB t ht
      show rq 77 t = some (sa t) ∧ 98 ≤ sa t ∧ m_up dy (sa s) _ (sa t) = m_O 6 [.int (nI (m_u2 sb s 1 (n_sail (kb k 1) (sb s 1) (sb s 0)) t 0)), .int (nI (m_u2 sb s 1 (n_sail (kb k 1) (sb s 1) (sb s 0)) t 1)), .int (nI (m_u2 sb s 1 (n_sail (kb k 1) (sb s 1) (sb s 0)) t 2)), .int (n_w (sc t))] ∧ m_u2 sb s 1 (n_sail (kb k 1) (sb s 1) (sb s 0)) t 0 ≤ 200 ∧ m_u2 sb s 1 (n_sail (kb k 1) (sb s 1) (sb s 0)) t 1 ≤ 1000 ∧ m_u2 sb s 1 (n_sail (kb k 1) (sb s 1) (sb s 0)) t 2 ≤ 10 ∧ ∀ k, sc t = some k → k < 16
      rw [m_u2_n2 (by omega : (0 : Nat) ≠ 1), m_u2_n2 (by omega : (2 : Nat) ≠ 1)]
      by_cases et : t = s
      · subst et
        rw [m_up_a, m_u2_eq, hsc]
        exact ⟨J1, J2, rfl, J4, n_sail_le K5 J5, J6, fun k' z => by cases z; omega⟩
      · rw [m_up_b (fun z => et ((hSa t ht).2 s hs z)), m_u2_n1 et]
        exact ⟨J1, J2, J3, J4, J5, J6, J7⟩
