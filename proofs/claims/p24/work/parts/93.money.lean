/-! money: the accounts as whole numbers, and their sum -/
theorem nI_i (p : Nat) : nI p = Int32.ofInt (p : Int) := Int32.ofInt_eq_ofNat.symm
def n_si (A : Nat → Int) : Nat → Int
  | 0 => 0
  | k + 1 => n_si A k + A k
theorem si_cg {A B : Nat → Int} : ∀ {k : Nat}, (∀ j, j < k → A j = B j) → n_si A k = n_si B k := by
  intro k
  induction k with
  | zero => intro _; rfl
  | succ k ih =>
    intro h
    show n_si A k + A k = n_si B k + B k
    rw [ih (fun j hj => h j (by omega)), h k (by omega)]
theorem si_sub {A : Nat → Int} {f : Nat → Nat} : ∀ {k : Nat}, n_si (fun j => A j - (f j : Int)) k = n_si A k - (n_sum f k : Int) := by
  intro k
  induction k with
  | zero => rfl
  | succ k ih =>
    show n_si (fun j => A j - (f j : Int)) k + (A k - (f k : Int)) = (n_si A k + A k) - ((n_sum f k + f k : Nat) : Int)
    rw [ih]
    omega
theorem si_at {A : Nat → Int} {q : Nat} {d : Int} : ∀ {k : Nat}, n_si (fun j => if j = q then A j - d else A j) k = n_si A k - (if q < k then d else 0) := by
  intro k
  induction k with
  | zero => rw [if_neg (Nat.not_lt_zero q)]; rfl
  | succ k ih =>
    show n_si (fun j => if j = q then A j - d else A j) k + (if k = q then A k - d else A k) = (n_si A k + A k) - (if q < k + 1 then d else 0)
    rw [ih]
    by_cases e : k = q
    · subst e
      rw [if_neg (Nat.lt_irrefl k), if_pos rfl, if_pos (Nat.lt_succ_self k)]
      omega
    · rw [if_neg e]
      by_cases h : q < k
      · rw [if_pos h, if_pos (by omega)]
        omega
      · rw [if_neg h, if_neg (by omega)]
        omega
def n_QF (ow : Nat → Nat) (S sum : Nat) (A : Nat → Int) (j : Nat) (t : (Nat → Int32) × Int32 × Option Nat) : Prop := (∀ i, i < 6 → t.1 i = Int32.ofInt (A i - ((if i < j then sum * ow i / S else 0 : Nat) : Int))) ∧ t.2.1 = Int32.ofInt ((sum : Int) - (n_sum (fun i => sum * ow i / S) j : Nat)) ∧ (t.2.2 = none → n_sum ow j = 0) ∧ ∀ q, t.2.2 = some q → q < 6
theorem qf_form {ow : Nat → Nat} {S sum : Nat} {A : Nat → Int} : ∀ (m j : Nat) (t : (Nat → Int32) × Int32 × Option Nat), j + m = 6 → n_QF ow S sum A j t → n_QF ow S sum A 6 (n_qf ow S sum m j t) := by
  intro m
  induction m with
  | zero =>
    intro j t hj h
    have e : j = 6 := by omega
    subst e
    exact h
  | succ m ih =>
    intro j t hj h
    obtain ⟨acc, l, w⟩ := t
    obtain ⟨h1, h2, h3, h4⟩ := h
    simp only at h1 h2 h3 h4
    refine ih (j + 1) _ (by omega) ⟨fun i hi => ?_, ?_, fun e => ?_, fun q e => ?_⟩
    · show upd acc j (acc j - nI (sum * ow j / S)) i = _
      by_cases e : i = j
      · subst e
        rw [upd, if_pos rfl, h1 i hi, nI_i, ← Int32.ofInt_sub, if_neg (Nat.lt_irrefl i), if_pos (Nat.lt_succ_self i)]
        congr 1
        omega
      · rw [upd, if_neg e, h1 i hi]
        by_cases h : i < j
        · rw [if_pos h, if_pos (by omega)]
        · rw [if_neg h, if_neg (by omega)]
    · show l - nI (sum * ow j / S) = Int32.ofInt ((sum : Int) - ((n_sum (fun i => sum * ow i / S) j + sum * ow j / S : Nat) : Int))
      rw [h2, nI_i, ← Int32.ofInt_sub]
      congr 1
      omega
    · show n_sum ow j + ow j = 0
      cases w with
      | none =>
        have e' : (if 0 < ow j then some j else none) = none := e
        have h5 := h3 rfl
        by_cases hp : 0 < ow j
        · rw [if_pos hp] at e'; cases e'
        · omega
      | some q => cases e
    · cases w with
      | none =>
        have e' : (if 0 < ow j then some j else none) = some q := e
        by_cases hp : 0 < ow j
        · rw [if_pos hp] at e'
          cases e'
          omega
        · rw [if_neg hp] at e'; cases e'
      | some q' =>
        have e' : some q' = some q := e
        exact h4 q e'
theorem ch_money {ow : Nat → Nat} {S sum : Nat} {acc : Nat → Int32} {A : Nat → Int} (hS : n_sum ow 6 = S) (h0 : 0 < S) (hsum : sum ≤ 20) (hA : ∀ j, j < 6 → acc j = Int32.ofInt (A j)) : ∃ A' : Nat → Int, (∀ j, j < 6 → n_ch ow S sum acc j = Int32.ofInt (A' j)) ∧ n_si A' 6 = n_si A 6 - sum ∧ ∀ j, j < 6 → A j - 40 ≤ A' j ∧ A' j ≤ A j := by
  have H := qf_form (S := S) (ow := ow) (sum := sum) (A := A) 6 0 (acc, nI sum, none) rfl ⟨fun i hi => by
    show acc i = _
    rw [hA i hi, if_neg (Nat.not_lt_zero i)]
    exact congrArg Int32.ofInt (by omega), by
    show nI sum = Int32.ofInt ((sum : Int) - ((0 : Nat) : Int))
    rw [nI_i]
    exact congrArg Int32.ofInt (by omega), fun _ => rfl, fun q e => by cases e⟩
  unfold n_ch
  generalize n_qf ow S sum 6 0 (acc, nI sum, none) = t at H ⊢
  obtain ⟨acc2, l, w⟩ := t
  obtain ⟨h1, h2, h3, h4⟩ := H
  simp only at h1 h2 h3 h4
  have hP : n_sum (fun i => sum * ow i / S) 6 ≤ sum := by
    have e1 : n_sum (fun i => S * (sum * ow i / S)) 6 ≤ n_sum (fun i => sum * ow i) 6 := pz_le (fun i _ => Nat.mul_div_le _ _)
    rw [pz_mul, pz_mul, hS, Nat.mul_comm sum S] at e1
    exact Nat.le_of_mul_le_mul_left e1 h0
  rcases w with _ | q
  · have := h3 rfl
    omega
  · have hq := h4 q rfl
    refine ⟨fun i => if i = q then (A i - ((sum * ow i / S : Nat) : Int)) - ((sum : Int) - (n_sum (fun i => sum * ow i / S) 6 : Nat)) else A i - ((sum * ow i / S : Nat) : Int), fun j hj => ?_, ?_, fun j hj => ?_⟩
    · show upd acc2 q (acc2 q - l) j = Int32.ofInt (if j = q then (A j - ((sum * ow j / S : Nat) : Int)) - ((sum : Int) - (n_sum (fun i => sum * ow i / S) 6 : Nat)) else A j - ((sum * ow j / S : Nat) : Int))
      by_cases e : j = q
      · subst e
        rw [upd, if_pos rfl, if_pos rfl, h1 j hj, h2, if_pos hj, ← Int32.ofInt_sub]
      · rw [upd, if_neg e, if_neg e, h1 j hj, if_pos hj]
    · have e := si_at (A := fun i => A i - ((sum * ow i / S : Nat) : Int)) (q := q) (d := (sum : Int) - (n_sum (fun i => sum * ow i / S) 6 : Nat)) (k := 6)
      rw [if_pos hq, si_sub (f := fun i => sum * ow i / S)] at e
      rw [e]
      omega
    · have hp : sum * ow j / S ≤ n_sum (fun i => sum * ow i / S) 6 := pz_ge (f := fun i => sum * ow i / S) hj
      show A j - 40 ≤ (if j = q then (A j - ((sum * ow j / S : Nat) : Int)) - ((sum : Int) - (n_sum (fun i => sum * ow i / S) 6 : Nat)) else A j - ((sum * ow j / S : Nat) : Int)) ∧ (if j = q then (A j - ((sum * ow j / S : Nat) : Int)) - ((sum : Int) - (n_sum (fun i => sum * ow i / S) 6 : Nat)) else A j - ((sum * ow j / S : Nat) : Int)) ≤ A j
      generalize n_sum (fun i => sum * ow i / S) 6 = nn at hP hp ⊢
      generalize sum * ow j / S = pt at hp ⊢
      by_cases e : j = q
      · simp only [if_pos e]
        omega
      · simp only [if_neg e]
        omega
/-- all accounts, the club's with them, and what was spent are 0 together -/
def n_MY (B : Nat) (acc : Nat → Int32) (club : Int32) (P : Nat) : Prop := ∃ (A : Nat → Int) (C : Int), (∀ j, j < 6 → acc j = Int32.ofInt (A j) ∧ -(B : Int) ≤ A j ∧ A j ≤ B) ∧ club = Int32.ofInt C ∧ -(B : Int) ≤ C ∧ C ≤ B ∧ P ≤ B ∧ n_si A 6 + C + P = 0
theorem MY_mono {B B' P : Nat} {acc : Nat → Int32} {club : Int32} (h : n_MY B acc club P) (hB : B ≤ B') : n_MY B' acc club P := by
  obtain ⟨A, C, h1, h2, h3, h4, h5, h6⟩ := h
  exact ⟨A, C, fun j hj => ⟨(h1 j hj).1, by have := (h1 j hj).2.1; omega, by have := (h1 j hj).2.2; omega⟩, h2, by omega, by omega, by omega, h6⟩
theorem MY_ps {B P nc i : Nat} {bl : Option Nat} {wy : Nat → Option Nat} {cb db ow : Nat → Nat → Nat} {t : (Nat → Int32) × Int32} (h : n_MY B t.1 t.2 P) (hO : ∀ c, c < nc → n_sum (ow c) 6 = cb c 2 ∧ 0 < cb c 2) (hb : ∀ c, bl = some c → c < nc) (hd : db i 0 < 6 ∧ db i 3 ≤ 4) : n_MY (B + 60) (n_ps bl wy cb db ow i t).1 (n_ps bl wy cb db ow i t).2 P := by
  unfold n_ps
  rcases wy i with _ | w
  · obtain ⟨A, C, h1, h2, h3, h4, h5, h6⟩ := h
    obtain ⟨hd0, hd4⟩ := hd
    have hu : ∀ j, j < 6 → upd t.1 (db i 0) (t.1 (db i 0) + nI (5 * db i 3)) j = Int32.ofInt ((fun j => if j = db i 0 then A j - (-(5 * db i 3 : Nat) : Int) else A j) j) := fun j hj => by
      by_cases e : j = db i 0
      · show _ = Int32.ofInt (if j = db i 0 then A j - (-(5 * db i 3 : Nat) : Int) else A j)
        rw [if_pos e, e, upd, if_pos rfl, (h1 _ hd0).1, nI_i, ← Int32.ofInt_add]
        congr 1
        omega
      · show _ = Int32.ofInt (if j = db i 0 then A j - (-(5 * db i 3 : Nat) : Int) else A j)
        rw [if_neg e, upd, if_neg e, (h1 j hj).1]
    have hs := si_at (A := A) (q := db i 0) (d := (-(5 * db i 3 : Nat) : Int)) (k := 6)
    rw [if_pos hd0] at hs
    rcases hbl : bl with _ | c
    · refine ⟨_, C - (5 * db i 3 : Nat), fun j hj => ⟨hu j hj, ?_⟩, ?_, by omega, by omega, by omega, ?_⟩
      · obtain ⟨_, a1, a2⟩ := h1 j hj
        by_cases e : j = db i 0
        · rw [if_pos e]; omega
        · rw [if_neg e]; omega
      · show t.2 - nI (5 * db i 3) = _
        rw [h2, nI_i, ← Int32.ofInt_sub]
      · rw [hs]
        omega
    · obtain ⟨o1, o2⟩ := hO c (hb c hbl)
      obtain ⟨A', g1, g2, g3⟩ := ch_money (sum := 5 * db i 3) o1 o2 (by omega) hu
      refine ⟨A', C, fun j hj => ⟨g1 j hj, ?_⟩, h2, by omega, by omega, by omega, ?_⟩
      · obtain ⟨_, a1, a2⟩ := h1 j hj
        have g := g3 j hj
        by_cases e : j = db i 0
        · rw [if_pos e] at g; omega
        · rw [if_neg e] at g; omega
      · rw [g2, hs]
        omega
  · exact MY_mono h (by omega)
theorem MY_pf {P nc nd : Nat} {bl : Option Nat} {wy : Nat → Option Nat} {cb db ow : Nat → Nat → Nat} (hO : ∀ c, c < nc → n_sum (ow c) 6 = cb c 2 ∧ 0 < cb c 2) (hb : ∀ c, bl = some c → c < nc) (hd : ∀ i, i < nd → db i 0 < 6 ∧ db i 3 ≤ 4) : ∀ (m i B : Nat) (t : (Nat → Int32) × Int32), i + m = nd → n_MY B t.1 t.2 P → n_MY (B + 60 * m) (n_pf bl wy cb db ow m i t).1 (n_pf bl wy cb db ow m i t).2 P := by
  intro m
  induction m with
  | zero => intro i B t _ h; exact h
  | succ m ih =>
    intro i B t hi h
    have h2 := ih (i + 1) (B + 60) _ (by omega) (MY_ps (nc := nc) (i := i) (wy := wy) (t := t) h hO hb (hd i (by omega)))
    exact MY_mono h2 (by omega)
theorem MY_dz {B P nc nk ns hr s : Nat} {storm : Bool} {cb ow : Nat → Nat → Nat} {club : Int32} {T : (Nat → Int32) × Int32 × n_W} (h : n_MY B T.1 club P) (hsp : T.2.1 = nI P) (hW : n_WI nc nk ns hr (hr + 1) T.2.2) (hs : s < ns) (hO : ∀ c, c < nc → n_sum (ow c) 6 = cb c 2 ∧ 0 < cb c 2) : ∃ P', n_MY (B + 40) (n_dz storm hr cb ow s T).1 club P' ∧ (n_dz storm hr cb ow s T).2.1 = nI P' ∧ P ≤ P' ∧ P' ≤ P + 20 := by
  unfold n_dz
  rcases hk : T.2.2.2.2.2.1 s with _ | k
  · exact ⟨P, MY_mono h (by omega), hsp, Nat.le_refl _, by omega⟩
  · have k1 := (hW.1 s hs k hk).1
    have k2 := (hW.2.1 k k1).2.2.1
    obtain ⟨o1, o2⟩ := hO _ k2
    obtain ⟨A, C, h1, h2, h3, h4, h5, h6⟩ := h
    obtain ⟨A', g1, g2, g3⟩ := ch_money (sum := 20) o1 o2 (Nat.le_refl _) (fun j hj => (h1 j hj).1)
    refine ⟨P + 20, ⟨A', C, fun j hj => ⟨g1 j hj, by have := g3 j hj; have := h1 j hj; omega, by have := g3 j hj; have := h1 j hj; omega⟩, h2, by omega, by omega, by omega, by omega⟩, ?_, by omega, Nat.le_refl _⟩
    show T.2.1 + 20 = nI (P + 20)
    rw [hsp]
    exact v_add P 20
theorem MY_dzs {nc nk ns hr : Nat} {storm : Bool} {cb ow : Nat → Nat → Nat} {club : Int32} (hO : ∀ c, c < nc → n_sum (ow c) 6 = cb c 2 ∧ 0 < cb c 2) : ∀ (m s B P : Nat) (T : (Nat → Int32) × Int32 × n_W), s + m = ns → n_MY B T.1 club P → T.2.1 = nI P → n_WI nc nk ns hr (hr + 1) T.2.2 → ∃ P', n_MY (B + 40 * m) (n_up (n_dz storm hr cb ow) m s T).1 club P' ∧ (n_up (n_dz storm hr cb ow) m s T).2.1 = nI P' ∧ P ≤ P' ∧ P' ≤ P + 20 * m := by
  intro m
  induction m with
  | zero => intro s B P T _ h hsp _; exact ⟨P, h, hsp, Nat.le_refl _, Nat.le_refl _⟩
  | succ m ih =>
    intro s B P T hs h hsp hW
    obtain ⟨P1, a1, a2, a3, a4⟩ := MY_dz (storm := storm) (s := s) h hsp hW (by omega) hO
    obtain ⟨P2, b1, b2, b3, b4⟩ := ih (s + 1) (B + 40) P1 _ (by omega) a1 a2 (n_WI_d hW (by omega))
    exact ⟨P2, MY_mono b1 (by omega), b2, by omega, by omega⟩
theorem MY_hour {B P nc nd nk ns : Nat} {cb db ow : Nat → Nat → Nat} {s1 s2 : Int32} {D : n_D} (h : n_MY B D.2.2.1 D.2.2.2.1 P) (hsp : D.2.2.2.2.1 = nI P) (hW : n_WI nc nk ns D.1 D.1 D.2.2.2.2.2.1) (hO : ∀ c, c < nc → n_sum (ow c) 6 = cb c 2 ∧ 0 < cb c 2) (hd : ∀ i, i < nd → db i 0 < 6 ∧ db i 3 ≤ 4) (hnd : nd ≤ 10) (hns : ns ≤ 3) : ∃ P', n_MY (B + 1000) (n_hour nc nd nk ns cb db ow s1 s2 D).2.2.1 (n_hour nc nd nk ns cb db ow s1 s2 D).2.2.2.1 P' ∧ (n_hour nc nd nk ns cb db ow s1 s2 D).2.2.2.2.1 = nI P' ∧ P ≤ P' ∧ P' ≤ P + 20 * ns := by
  have hW' := n_WI_H (H' := D.1 + 1) hW (Nat.le_succ _)
  have hb := (n_fc_lt hW).2
  have h1 := MY_pf (bl := n_fc D.2.2.2.2.2.1.1 nk nc 0 none) (wy := (n_hQ nc nd cb db ow D).2.2.1) hO hb hd nd 0 B (D.2.2.1, D.2.2.2.1) (by omega) h
  obtain ⟨P', b1, b2, b3, b4⟩ := MY_dzs (storm := n_storm D.1 s1 s2) hO ns 0 (B + 60 * nd) P ((n_ht nc nd nk cb db ow D).1, D.2.2.2.2.1, D.2.2.2.2.2.1) (by omega) h1 hsp hW'
  exact ⟨P', MY_mono b1 (by omega), b2, b3, b4⟩
theorem MY_sell {B P a b p : Nat} {acc : Nat → Int32} {club : Int32} (h : n_MY B acc club P) (ha : a < 6) (hb : b < 6) (hab : a ≠ b) (hp : p ≤ 1000) : n_MY (B + 1000) (n_acs acc a b (nI p)) club P := by
  obtain ⟨A, C, h1, h2, h3, h4, h5, h6⟩ := h
  have e1 := si_at (A := A) (q := a) (d := -(p : Int)) (k := 6)
  have e2 := si_at (A := fun j => if j = a then A j - (-(p : Int)) else A j) (q := b) (d := (p : Int)) (k := 6)
  rw [if_pos ha] at e1
  rw [if_pos hb, e1] at e2
  refine ⟨_, C, fun j hj => ⟨?_, ?_⟩, h2, by omega, by omega, by omega, by rw [e2]; omega⟩
  · unfold n_acs
    by_cases x1 : j = b
    · subst x1
      have x2 : ¬ j = a := fun z => hab z.symm
      simp only [upd, if_true, if_neg x2, (h1 j hj).1, nI_i, ← Int32.ofInt_sub]
    · by_cases x2 : j = a
      · subst x2
        simp only [upd, if_true, if_neg x1, (h1 j hj).1, nI_i, ← Int32.ofInt_add]
        congr 1
        omega
      · simp only [upd, if_neg x1, if_neg x2, (h1 j hj).1]
  · obtain ⟨_, a1, a2⟩ := h1 j hj
    split <;> split <;> omega
