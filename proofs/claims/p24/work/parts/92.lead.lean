/-! what an hour that is led takes, lends and owes -/
theorem tk_le {fr : Nat → Nat} {dm ds o : Nat} : n_tk fr dm ds o ≤ n_lf fr dm ds o := by
  unfold n_tk
  split
  · exact Nat.zero_le _
  · exact Nat.min_le_right _ _
theorem tk_fr {fr : Nat → Nat} {dm ds o : Nat} : n_tk fr dm ds o ≤ fr o := by
  unfold n_tk
  split
  · exact Nat.zero_le _
  · exact Nat.min_le_left _ _
theorem tk_sum {fr : Nat → Nat} {dm ds : Nat} : ∀ o, n_sum (n_tk fr dm ds) o + n_lf fr dm ds o = ds - fr dm := by
  intro o
  induction o with
  | zero => show 0 + (ds - fr dm) = ds - fr dm; omega
  | succ o ih =>
    show (n_sum (n_tk fr dm ds) o + n_tk fr dm ds o) + n_lf fr dm ds (o + 1) = ds - fr dm
    rw [n_lf_s]
    have := tk_le (fr := fr) (dm := dm) (ds := ds) (o := o)
    omega
theorem tk_lf {fr : Nat → Nat} {dm ds : Nat} : ∀ o, n_lf fr dm ds o = ds - fr dm - n_sum (fun i => if i = dm then 0 else fr i) o := by
  intro o
  induction o with
  | zero => rfl
  | succ o ih =>
    rw [n_lf_s]
    show n_lf fr dm ds o - n_tk fr dm ds o = ds - fr dm - (n_sum (fun i => if i = dm then 0 else fr i) o + if o = dm then 0 else fr o)
    unfold n_tk
    by_cases h : o = dm
    · rw [if_pos h, if_pos h, ih]
      omega
    · rw [if_neg h, if_neg h, ih]
      omega
theorem fr_sum {fr : Nat → Nat} {dm : Nat} (hdm : dm < 6) : n_sum fr 6 = fr dm + n_sum (fun i => if i = dm then 0 else fr i) 6 := by
  have h := pz_one (f := fr) (g := fun i => if i = dm then 0 else fr i) hdm (fun j _ hj => if_neg hj)
  simp only [if_true] at h
  omega
theorem tk_all {fr : Nat → Nat} {dm ds : Nat} (hdm : dm < 6) (hs : ds ≤ n_sum fr 6) : n_sum (n_tk fr dm ds) 6 = ds - fr dm := by
  have h1 := tk_sum (fr := fr) (dm := dm) (ds := ds) 6
  have h2 := tk_lf (fr := fr) (dm := dm) (ds := ds) 6
  have h3 := fr_sum (fr := fr) hdm
  omega
theorem ff_sum {fr : Nat → Nat} {dm ds : Nat} (hdm : dm < 6) (hs : ds ≤ n_sum fr 6) : n_sum (n_ff fr dm ds) 6 + ds = n_sum fr 6 := by
  have h1 := tk_all hdm hs
  have h2 : n_sum (fun j => n_ff fr dm ds j + (n_tk fr dm ds j + if j = dm then min (fr dm) ds else 0)) 6 = n_sum fr 6 := pz_cg (fun j _ => by
    have ht := tk_fr (fr := fr) (dm := dm) (ds := ds) (o := j)
    by_cases e : j = dm
    · subst e
      have h0 : n_tk fr j ds j = 0 := if_pos rfl
      unfold n_ff
      rw [if_pos rfl, if_pos rfl, h0]
      omega
    · unfold n_ff
      rw [if_neg e, if_neg e]
      omega)
  rw [pz_add, pz_add] at h2
  have h3 : n_sum (fun j => if j = dm then min (fr dm) ds else 0) 6 = min (fr dm) ds := by
    have h := pz_one (f := fun _ => 0) (g := fun j => if j = dm then min (fr dm) ds else 0) hdm (fun j _ hj => if_neg hj)
    simp only [if_true] at h
    rw [pz_zero] at h
    omega
  have h4 := pz_ge (f := fr) hdm
  omega
theorem fm_sum {fr : Nat → Nat → Nat} {mask dm ds c : Nat} (hdm : dm < 6) (hs : n_bt mask c = 1 → ds ≤ n_sum (fr c) 6) : n_sum (n_fm fr mask dm ds c) 6 + n_bt mask c * ds = n_sum (fr c) 6 := by
  have hlt : n_bt mask c < 2 := bt_lt
  by_cases h : n_bt mask c = 1
  · have e : n_sum (n_fm fr mask dm ds c) 6 = n_sum (n_ff (fr c) dm ds) 6 := pz_cg (fun j _ => by unfold n_fm; rw [if_pos h])
    have := ff_sum hdm (hs h)
    rw [e, h]
    omega
  · have h0 : n_bt mask c = 0 := by omega
    have e : n_sum (n_fm fr mask dm ds c) 6 = n_sum (fr c) 6 := pz_cg (fun j _ => by unfold n_fm; rw [if_neg h])
    rw [e, h0]
    omega
theorem Ls_eq {fr : Nat → Nat → Nat} {ln L : Nat → Nat} {mask dm ds o : Nat} : ∀ k, n_Ls fr ln L mask dm ds k o = L o + n_sum (fun c => n_bt mask c * (n_tk (fr c) dm ds o * ln c)) k := by
  intro k
  induction k with
  | zero => rfl
  | succ k ih =>
    show n_Ls fr ln L mask dm ds k o + (if n_bt mask k = 1 then n_tk (fr k) dm ds o * ln k else 0) = L o + (n_sum (fun c => n_bt mask c * (n_tk (fr c) dm ds o * ln c)) k + n_bt mask k * (n_tk (fr k) dm ds o * ln k))
    rw [ih]
    have hlt : n_bt mask k < 2 := bt_lt
    by_cases h : n_bt mask k = 1
    · rw [if_pos h, h]; omega
    · have h0 : n_bt mask k = 0 := by omega
      rw [if_neg h, h0]; omega
theorem Ls_sum {nc : Nat} {fr : Nat → Nat → Nat} {ln L : Nat → Nat} {mask dm ds : Nat} {fo : Nat → Option Nat} (hdm : dm < 6) (hs : ∀ c, c < nc → n_bt mask c = 1 → ds ≤ n_sum (fr c) 6 ∧ fo c = some (ds - fr c dm)) : n_sum (fun o => n_Ls fr ln L mask dm ds nc o) 6 = n_sum L 6 + n_sum (fun c => n_bt mask c * ((fo c).getD 0 * ln c)) nc := by
  have e1 : n_sum (fun o => n_Ls fr ln L mask dm ds nc o) 6 = n_sum (fun o => L o + n_sum (fun c => n_bt mask c * (n_tk (fr c) dm ds o * ln c)) nc) 6 := pz_cg (fun o _ => Ls_eq nc)
  rw [e1, pz_add, pz_comm]
  refine congrArg (fun z => n_sum L 6 + z) (pz_cg (fun c hc => ?_))
  have hlt : n_bt mask c < 2 := bt_lt
  by_cases h : n_bt mask c = 1
  · obtain ⟨a1, a2⟩ := hs c hc h
    have h2 := tk_all hdm a1
    rw [h, a2]
    show n_sum (fun i => 1 * (n_tk (fr c) dm ds i * ln c)) 6 = 1 * ((ds - fr c dm) * ln c)
    rw [Nat.one_mul, ← h2, Nat.mul_comm, ← pz_mul]
    exact pz_cg (fun j _ => by rw [Nat.one_mul, Nat.mul_comm])
  · have h0 : n_bt mask c = 0 := by omega
    rw [h0, Nat.zero_mul]
    exact pz_z (fun j _ => Nat.zero_mul _)
def n_ub (o : Option Nat) (c : Nat) : Nat := match o with
  | none => 0
  | some w => n_bt w c
def n_WY (nc : Nat) (wh : Nat → Nat) (cb db : Nat → Nat → Nat) (i w l : Nat) : Prop := (∀ c, n_bt w c = 1 → c < nc ∧ wh c = 1) ∧ l ≤ db i 3 * n_sum (n_bt w) nc ∧ n_dg nc (fun c => cb c 0) (fun c => cb c 1) w (db i 1) = 1 ∧ n_dg nc (fun c => cb c 0) (fun c => cb c 1) w (db i 2) = 1 ∧ ∀ p, p ≠ db i 1 → p ≠ db i 2 → n_dg nc (fun c => cb c 0) (fun c => cb c 1) w p = 0 ∨ n_dg nc (fun c => cb c 0) (fun c => cb c 1) w p = 2
/-- what the law asks of an hour that is led -/
def n_IQ (nc nd : Nat) (wh : Nat → Nat) (cb db ow : Nat → Nat → Nat) (q : n_Q) : Prop :=
  (∀ c, c < nc → n_sum (q.1 c) 6 + n_sum (fun i => n_ub (q.2.2.1 i) c * db i 3) nd = n_sum (ow c) 6) ∧
  (∃ T, n_sum (fun i => n_sum (q.2.1 i) 6) 6 = 200 * T ∧ n_sum q.2.2.2 nd ≤ T ∧ T ≤ 5 * n_sum q.2.2.2 nd) ∧
  ∀ i, i < nd → (q.2.2.1 i = none → q.2.2.2 i = 0) ∧ ∀ w, q.2.2.1 i = some w → n_WY nc wh cb db i w (q.2.2.2 i)
/-- what is told of cables and demands -/
def n_HC (nc : Nat) (wh : Nat → Nat) (cb : Nat → Nat → Nat) : Prop := ∀ c, c < nc → wh c ≤ 1 ∧ ∃ a, 1 ≤ a ∧ a ≤ 5 ∧ cb c 5 = 200 * a
def n_HD (nd : Nat) (db : Nat → Nat → Nat) : Prop := ∀ i, i < nd → db i 0 < 6 ∧ db i 1 ≠ db i 2
theorem IQ_step {nc nd most i : Nat} {wh : Nat → Nat} {cb db ow : Nat → Nat → Nat} {q : n_Q} (hC : n_HC nc wh cb) (hD : n_HD nd db) (hi : i < nd) (hn : q.2.2.1 i = none) (H : n_IQ nc nd wh cb db ow q) : n_IQ nc nd wh cb db ow (n_L1 nc wh cb db most i q) ∧ ∀ j, j ≠ i → (n_L1 nc wh cb db most i q).2.2.1 j = q.2.2.1 j := by
  obtain ⟨hd0, hd12⟩ := hD i hi
  unfold n_L1
  generalize hb : n_fw nc (fun c => cb c 0) (fun c => cb c 1) (fun c => cb c 5) (n_foS wh q.1 (db i 0) (db i 3)) (db i 2) 5 (db i 1) (2 ^ db i 1) 0 0 0 (none, most, 7200) = b
  rcases hb1 : b.1 with _ | mask
  · rw [n_l1_n hb hb1]
    exact ⟨H, fun _ _ => rfl⟩
  · have hw := fw_way (ln := fun c => cb c 5) (most := most) (fo := n_foS wh q.1 (db i 0) (db i 3)) (nc := nc) (pa := fun c => cb c 0) (pb := fun c => cb c 1) (w := mask) hd12 (by rw [hb]; exact hb1)
    rw [hb] at hw
    rw [n_l1_s hb hb1]
    obtain ⟨w1, w2, w3, w4, w5⟩ := hw
    obtain ⟨h1, ⟨T, t1, t2, t3⟩, h3⟩ := H
    have hfo : ∀ c, n_bt mask c = 1 → c < nc ∧ wh c ≠ 0 ∧ db i 3 ≤ n_sum (q.1 c) 6 ∧ n_foS wh q.1 (db i 0) (db i 3) c = some (db i 3 - q.1 c (db i 0)) := by
      intro c hc
      obtain ⟨a1, a2⟩ := w1 c hc
      have a3 : ¬ (wh c = 0 ∨ n_sum (q.1 c) 6 < db i 3) := fun z => a2 (if_pos z)
      exact ⟨a1, fun z => a3 (Or.inl z), by have : ¬ n_sum (q.1 c) 6 < db i 3 := fun z => a3 (Or.inr z); omega, if_neg a3⟩
    have hl0 := (h3 i hi).1 hn
    have hmu : ∀ j, j ≠ i → m_uf q.2.2.1 i (some mask) j = q.2.2.1 j := fun j hj => m_uf_ne hj
    have hsl : n_sum (m_uf q.2.2.2 i b.2.1) nd = n_sum q.2.2.2 nd + b.2.1 := by
      have e := pz_one (f := q.2.2.2) (g := m_uf q.2.2.2 i b.2.1) hi (fun j _ hj => m_uf_ne hj)
      rw [m_uf_eq, hl0] at e
      omega
    refine ⟨⟨fun c hc => ?_, ?_, fun j hj => ?_⟩, hmu⟩
    · have e1 := fm_sum (fr := q.1) (mask := mask) (ds := db i 3) (c := c) hd0 (fun hc => (hfo c hc).2.2.1)
      have e2 := pz_one (f := fun j => n_ub (q.2.2.1 j) c * db j 3) (g := fun j => n_ub (m_uf q.2.2.1 i (some mask) j) c * db j 3) hi (fun j _ hj => by
        show n_ub (m_uf q.2.2.1 i (some mask) j) c * db j 3 = n_ub (q.2.2.1 j) c * db j 3
        rw [hmu j hj])
      have e3 : n_ub (q.2.2.1 i) c = 0 := by rw [hn]; rfl
      have e4 : n_ub (m_uf q.2.2.1 i (some mask) i) c = n_bt mask c := by rw [m_uf_eq]; rfl
      simp only [e3, e4, Nat.zero_mul, Nat.add_zero] at e2
      have e5 := h1 c hc
      show n_sum (fun j => n_fm q.1 mask (db i 0) (db i 3) c j) 6 + n_sum (fun j => n_ub (m_uf q.2.2.1 i (some mask) j) c * db j 3) nd = n_sum (ow c) 6
      have e6 : n_sum (fun j => n_fm q.1 mask (db i 0) (db i 3) c j) 6 = n_sum (n_fm q.1 mask (db i 0) (db i 3) c) 6 := rfl
      omega
    · have e1 := Ls_sum (nc := nc) (ln := fun c => cb c 5) (L := q.2.1 (db i 0)) (fr := q.1) (mask := mask) (ds := db i 3) (fo := n_foS wh q.1 (db i 0) (db i 3)) hd0 (fun c _ hc => (hfo c hc).2.2)
      have e2 := pz_one (f := fun j => n_sum (q.2.1 j) 6) (g := fun j => n_sum (m_uf q.2.1 (db i 0) (fun j => n_Ls q.1 (fun c => cb c 5) (q.2.1 (db i 0)) mask (db i 0) (db i 3) nc j) j) 6) hd0 (fun j _ hj => by
        show n_sum (m_uf q.2.1 (db i 0) _ j) 6 = n_sum (q.2.1 j) 6
        rw [m_uf_ne hj])
      simp only [m_uf_eq] at e2
      have e3 : ∃ U, n_sum (fun c => n_bt mask c * ((n_foS wh q.1 (db i 0) (db i 3) c).getD 0 * cb c 5)) nc = 200 * U ∧ b.2.1 ≤ U ∧ U ≤ 5 * b.2.1 := by
        refine ⟨n_sum (fun c => n_bt mask c * ((n_foS wh q.1 (db i 0) (db i 3) c).getD 0 * (cb c 5 / 200))) nc, ?_, ?_, ?_⟩
        · rw [← pz_mul]
          refine pz_cg (fun c hc => ?_)
          obtain ⟨_, a, a1, a2, a3⟩ := hC c hc
          rw [a3, Nat.mul_div_cancel_left a (by omega)]
          rw [Nat.mul_left_comm 200, Nat.mul_left_comm 200]
        · rw [w2]
          unfold n_fs2
          refine pz_le (fun c hc => ?_)
          obtain ⟨_, a, a1, a2, a3⟩ := hC c hc
          rw [a3, Nat.mul_div_cancel_left a (by omega)]
          exact Nat.mul_le_mul_left _ (Nat.le_mul_of_pos_right _ a1)
        · rw [w2]
          unfold n_fs2
          rw [← pz_mul]
          refine pz_le (fun c hc => ?_)
          obtain ⟨_, a, a1, a2, a3⟩ := hC c hc
          rw [a3, Nat.mul_div_cancel_left a (by omega), Nat.mul_left_comm 5]
          refine Nat.mul_le_mul_left _ ?_
          rw [Nat.mul_comm]
          exact Nat.mul_le_mul_right _ a2
      obtain ⟨U, u1, u2, u3⟩ := e3
      refine ⟨T + U, ?_, ?_, ?_⟩
      · show n_sum (fun j => n_sum (m_uf q.2.1 (db i 0) (fun j => n_Ls q.1 (fun c => cb c 5) (q.2.1 (db i 0)) mask (db i 0) (db i 3) nc j) j) 6) 6 = 200 * (T + U)
        omega
      · show n_sum (m_uf q.2.2.2 i b.2.1) nd ≤ T + U
        omega
      · show T + U ≤ 5 * n_sum (m_uf q.2.2.2 i b.2.1) nd
        omega
    · show (m_uf q.2.2.1 i (some mask) j = none → m_uf q.2.2.2 i b.2.1 j = 0) ∧ ∀ w, m_uf q.2.2.1 i (some mask) j = some w → n_WY nc wh cb db j w (m_uf q.2.2.2 i b.2.1 j)
      by_cases e : j = i
      · subst e
        rw [m_uf_eq, m_uf_eq]
        refine ⟨(fun z => nomatch z), fun w z => ?_⟩
        cases z
        refine ⟨fun c hc => ?_, ?_, w3, w4, w5⟩
        · obtain ⟨a1, a2, _⟩ := hfo c hc
          have := (hC c a1).1
          exact ⟨a1, by omega⟩
        · rw [w2]
          unfold n_fs2
          rw [← pz_mul]
          refine pz_le (fun c hc => ?_)
          have hlt : n_bt mask c < 2 := bt_lt
          by_cases h : n_bt mask c = 1
          · rw [h, (hfo c h).2.2.2]
            show 1 * (db j 3 - _) ≤ db j 3 * 1
            omega
          · have h0 : n_bt mask c = 0 := by omega
            rw [h0]
            omega
      · rw [m_uf_ne e, m_uf_ne e]
        exact h3 j hj
theorem IQ_1 {nc nd : Nat} {wh : Nat → Nat} {cb db ow : Nat → Nat → Nat} (hC : n_HC nc wh cb) (hD : n_HD nd db) : ∀ (m i : Nat) (q : n_Q), i + m = nd → (∀ j, i ≤ j → q.2.2.1 j = none) → n_IQ nc nd wh cb db ow q → n_IQ nc nd wh cb db ow (n_ld1 nc wh cb db m i q) := by
  intro m
  induction m with
  | zero => intro i q _ _ h; exact h
  | succ m ih =>
    intro i q hi hn h
    obtain ⟨h1, h2⟩ := IQ_step (most := 0) hC hD (show i < nd by omega) (hn i (Nat.le_refl i)) h
    exact ih (i + 1) _ (by omega) (fun j hj => by rw [h2 j (by omega)]; exact hn j (by omega)) h1
theorem IQ_2 {nc nd : Nat} {wh : Nat → Nat} {cb db ow : Nat → Nat → Nat} (hC : n_HC nc wh cb) (hD : n_HD nd db) : ∀ (m i : Nat) (q : n_Q), i + m = nd → n_IQ nc nd wh cb db ow q → n_IQ nc nd wh cb db ow (n_ld2 nc wh cb db m i q) := by
  intro m
  induction m with
  | zero => intro i q _ h; exact h
  | succ m ih =>
    intro i q hi h
    refine ih (i + 1) _ (by omega) ?_
    show n_IQ nc nd wh cb db ow (match q.2.2.1 i with | none => n_L1 nc wh cb db 20 i q | some _ => q)
    rcases e : q.2.2.1 i with _ | w
    · exact (IQ_step (most := 20) hC hD (show i < nd by omega) e h).1
    · exact h
theorem IQ_lead {nc nd : Nat} {wh : Nat → Nat} {cb db ow : Nat → Nat → Nat} (hC : n_HC nc wh cb) (hD : n_HD nd db) : n_IQ nc nd wh cb db ow (n_lead nc nd wh cb db ow) := by
  unfold n_lead
  refine IQ_2 hC hD nd 0 _ (by omega) (IQ_1 hC hD nd 0 _ (by omega) (fun _ _ => rfl) ⟨fun c _ => ?_, ⟨0, ?_, ?_, ?_⟩, fun i _ => ⟨fun _ => rfl, fun w e => by cases e⟩⟩)
  · have : n_sum (fun i => n_ub ((fun _ => none : Nat → Option Nat) i) c * db i 3) nd = 0 := pz_z (fun i _ => Nat.zero_mul _)
    show n_sum (ow c) 6 + n_sum (fun i => n_ub none c * db i 3) nd = n_sum (ow c) 6
    have e : n_sum (fun i => n_ub none c * db i 3) nd = 0 := this
    omega
  · exact pz_z (fun _ _ => pz_zero)
  · show n_sum (fun _ => 0) nd ≤ 0
    rw [pz_zero]
    exact Nat.le_refl _
  · exact Nat.zero_le _
/-- no more strands are taken of a cable than there are -/
theorem IQ_used {nc nd c : Nat} {wh : Nat → Nat} {cb db ow : Nat → Nat → Nat} {q : n_Q} (h : n_IQ nc nd wh cb db ow q) (hc : c < nc) : n_sum (fun i => n_ub (q.2.2.1 i) c * db i 3) nd ≤ n_sum (ow c) 6 := by
  have := h.1 c hc
  omega
