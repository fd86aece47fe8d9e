/-! a way that is followed touches its ends once, every other landing twice or never -/
def n_tc (pa pb : Nat → Nat) (p c : Nat) : Nat := if pa c = p ∨ pb c = p then 1 else 0
def n_dg (nc : Nat) (pa pb : Nat → Nat) (w p : Nat) : Nat := n_sum (fun c => n_bt w c * n_tc pa pb p c) nc
def n_fs2 (nc : Nat) (fo : Nat → Option Nat) (w : Nat) : Nat := n_sum (fun c => n_bt w c * (fo c).getD 0) nc
def n_PP (nc : Nat) (pa pb : Nat → Nat) (fo : Nat → Option Nat) (d h s w l : Nat) : Prop :=
  n_bt s h = 1 ∧ n_bt s d = 1 ∧ (∀ c, n_bt w c = 1 → c < nc ∧ fo c ≠ none ∧ n_bt s (pa c) = 1 ∧ n_bt s (pb c) = 1) ∧ l = n_fs2 nc fo w ∧
  (h = d → ∀ p, n_dg nc pa pb w p = 0) ∧ (h ≠ d → n_dg nc pa pb w d = 1 ∧ n_dg nc pa pb w h = 1 ∧ ∀ p, p ≠ d → p ≠ h → n_dg nc pa pb w p = 0 ∨ n_dg nc pa pb w p = 2)
theorem dg_out {nc s w p : Nat} {pa pb : Nat → Nat} (h : ∀ c, n_bt w c = 1 → n_bt s (pa c) = 1 ∧ n_bt s (pb c) = 1) (hp : n_bt s p = 0) : n_dg nc pa pb w p = 0 := by
  refine pz_z (fun c _ => ?_)
  show n_bt w c * n_tc pa pb p c = 0
  have h1 : n_bt w c < 2 := bt_lt
  by_cases e : n_bt w c = 1
  · obtain ⟨a, b⟩ := h c e
    have : n_tc pa pb p c = 0 := by
      unfold n_tc
      rw [if_neg]
      rintro (z | z)
      · rw [z] at a; omega
      · rw [z] at b; omega
    rw [this, Nat.mul_zero]
  · have : n_bt w c = 0 := by omega
    rw [this, Nat.zero_mul]
theorem sum_or {nc w c : Nat} {v : Nat → Nat} (hc : c < nc) (h0 : n_bt w c = 0) : n_sum (fun i => n_bt (w ||| 2 ^ c) i * v i) nc = n_sum (fun i => n_bt w i * v i) nc + v c := by
  have h := pz_one (f := fun i => n_bt w i * v i) (g := fun i => n_bt (w ||| 2 ^ c) i * v i) hc (fun j _ hj => by
    show n_bt (w ||| 2 ^ c) j * v j = n_bt w j * v j
    rw [bt_or, if_neg hj])
  have h1 : n_bt (w ||| 2 ^ c) c = 1 := by rw [bt_or, if_pos rfl]
  simp only [h0, h1, Nat.zero_mul, Nat.one_mul] at h
  omega
theorem PP_step {nc d h s w l c f x : Nat} {pa pb : Nat → Nat} {fo : Nat → Option Nat} (H : n_PP nc pa pb fo d h s w l) (hc : c < nc) (hf : fo c = some f) (hx : n_ac (pa c) (pb c) h = some x) (hs : n_bt s x = 0) : n_PP nc pa pb fo d x (s ||| 2 ^ x) (w ||| 2 ^ c) (l + f) := by
  obtain ⟨h1, h2, h3, h4, h5, h6⟩ := H
  have hxh : x ≠ h := fun z => by rw [z] at hs; omega
  have hxd : x ≠ d := fun z => by rw [z] at hs; omega
  have hends : (pa c = h ∧ pb c = x) ∨ (pb c = h ∧ pa c = x) := by
    unfold n_ac at hx
    split at hx
    · rename_i e
      cases hx
      exact Or.inl ⟨e.symm, rfl⟩
    · split at hx
      · rename_i e
        cases hx
        exact Or.inr ⟨e.symm, rfl⟩
      · cases hx
  have hw0 : n_bt w c = 0 := by
    have hlt : n_bt w c < 2 := bt_lt
    by_cases e : n_bt w c = 1
    · obtain ⟨_, _, a, b⟩ := h3 c e
      rcases hends with ⟨_, e2⟩ | ⟨_, e2⟩
      · rw [e2] at b; omega
      · rw [e2] at a; omega
    · omega
  have hout : ∀ p, n_bt s p = 0 → n_dg nc pa pb w p = 0 := fun p hp => dg_out (fun c hc => (h3 c hc).2.2) hp
  have hadd : ∀ p, n_dg nc pa pb (w ||| 2 ^ c) p = n_dg nc pa pb w p + (if p = h ∨ p = x then 1 else 0) := by
    intro p
    have e := sum_or (v := n_tc pa pb p) hc hw0
    have e2 : n_tc pa pb p c = if p = h ∨ p = x then 1 else 0 := by
      unfold n_tc
      rcases hends with ⟨e1, e2⟩ | ⟨e1, e2⟩
      · rw [e1, e2]
        by_cases z : p = h ∨ p = x
        · rw [if_pos z, if_pos (z.imp Eq.symm Eq.symm)]
        · rw [if_neg z, if_neg (fun y => z (y.imp Eq.symm Eq.symm))]
      · rw [e1, e2]
        by_cases z : p = h ∨ p = x
        · rw [if_pos z, if_pos (z.symm.imp Eq.symm Eq.symm)]
        · rw [if_neg z, if_neg (fun y => z (y.symm.imp Eq.symm Eq.symm))]
    rw [e2] at e
    exact e
  have hsor : ∀ p, n_bt s p = 1 → n_bt (s ||| 2 ^ x) p = 1 := fun p hp => by
    rw [bt_or]
    by_cases e : p = x
    · rw [if_pos e]
    · rw [if_neg e]; exact hp
  refine ⟨by rw [bt_or, if_pos rfl], hsor d h2, fun c' hc' => ?_, ?_, fun z => absurd z hxd, fun _ => ?_⟩
  · by_cases e : c' = c
    · subst e
      refine ⟨hc, (by rw [hf]; exact fun z => nomatch z), ?_⟩
      rcases hends with ⟨e1, e2⟩ | ⟨e1, e2⟩
      · exact ⟨by rw [e1]; exact hsor h h1, by rw [e2, bt_or, if_pos rfl]⟩
      · exact ⟨by rw [e2, bt_or, if_pos rfl], by rw [e1]; exact hsor h h1⟩
    · rw [bt_or, if_neg e] at hc'
      obtain ⟨a1, a2, a3, a4⟩ := h3 c' hc'
      exact ⟨a1, a2, hsor _ a3, hsor _ a4⟩
  · have e := sum_or (v := fun c => (fo c).getD 0) hc hw0
    have e3 : (fo c).getD 0 = f := by rw [hf]; rfl
    rw [h4]
    unfold n_fs2
    rw [e, e3]
  · have dx := hout x hs
    by_cases hd : h = d
    · have z := h5 hd
      refine ⟨by rw [hadd, z, if_pos (Or.inl hd.symm)], by rw [hadd, z, if_pos (Or.inr rfl)], fun p p1 p2 => Or.inl ?_⟩
      rw [hadd, z, if_neg]
      rintro (y | y)
      · exact p1 (y.trans hd)
      · exact p2 y
    · obtain ⟨a1, a2, a3⟩ := h6 hd
      refine ⟨?_, by rw [hadd, dx, if_pos (Or.inr rfl)], fun p p1 p2 => ?_⟩
      · rw [hadd, a1, if_neg]
        rintro (y | y)
        · exact hd y.symm
        · exact hxd y.symm
      · by_cases e : p = h
        · right
          rw [hadd, if_pos (Or.inl e), e, a2]
        · rw [hadd, if_neg (fun y => y.elim e p2)]
          exact a3 p p1 e
def n_RR (nc : Nat) (pa pb : Nat → Nat) (fo : Nat → Option Nat) (d g : Nat) (b : Option Nat × Nat × Nat) : Prop := ∀ w, b.1 = some w → ∃ s, n_PP nc pa pb fo d g s w b.2.1
theorem fw_R {nc d g : Nat} {pa pb ln : Nat → Nat} {fo : Nat → Option Nat} : ∀ (k h s w l t : Nat) (b : Option Nat × Nat × Nat), n_PP nc pa pb fo d h s w l → n_RR nc pa pb fo d g b → n_RR nc pa pb fo d g (n_fw nc pa pb ln fo g k h s w l t b) := by
  intro k
  induction k with
  | zero =>
    intro h s w l t b hP hb
    unfold n_fw
    split
    · rename_i e
      subst e
      intro w' e'
      cases e'
      exact ⟨s, hP⟩
    · exact hb
  | succ k ih =>
    intro h s w l t b hP hb
    unfold n_fw
    split
    · rename_i e
      subst e
      intro w' e'
      cases e'
      exact ⟨s, hP⟩
    · refine n_up_inv (Q := n_RR nc pa pb fo d g) (N := nc) (fun c hc b hb => ?_) nc 0 b (by omega) hb
      unfold n_st
      split
      · rename_i f x e1 e2
        split
        · rename_i hcond
          exact ih _ _ _ _ _ _ (PP_step hP hc e1 e2 hcond.1) hb
        · exact hb
      · exact hb
theorem fw_way {nc d g most : Nat} {pa pb ln : Nat → Nat} {fo : Nat → Option Nat} {w : Nat} (hdg : d ≠ g) (hw : (n_fw nc pa pb ln fo g 5 d (2 ^ d) 0 0 0 (none, most, 7200)).1 = some w) :
    (∀ c, n_bt w c = 1 → c < nc ∧ fo c ≠ none) ∧ (n_fw nc pa pb ln fo g 5 d (2 ^ d) 0 0 0 (none, most, 7200)).2.1 = n_fs2 nc fo w ∧ n_dg nc pa pb w d = 1 ∧ n_dg nc pa pb w g = 1 ∧ ∀ p, p ≠ d → p ≠ g → n_dg nc pa pb w p = 0 ∨ n_dg nc pa pb w p = 2 := by
  have z : ∀ p, n_dg nc pa pb 0 p = 0 := fun p => pz_z (fun c _ => by show n_bt 0 c * _ = 0; rw [bt_0, Nat.zero_mul])
  have h0 : n_PP nc pa pb fo d d (2 ^ d) 0 0 := ⟨by rw [bt_pow, if_pos rfl], by rw [bt_pow, if_pos rfl], fun c hc => by rw [bt_0] at hc; omega, (pz_z (fun c _ => by show n_bt 0 c * _ = 0; rw [bt_0, Nat.zero_mul])).symm, fun _ => z, fun h => absurd rfl h⟩
  obtain ⟨s, a1, a2, a3, a4, a5, a6⟩ := fw_R (ln := ln) (g := g) 5 d (2 ^ d) 0 0 0 (none, most, 7200) h0 (fun w e => by cases e) w hw
  obtain ⟨b1, b2, b3⟩ := a6 (fun z => hdg z.symm)
  exact ⟨fun c hc => ⟨(a3 c hc).1, (a3 c hc).2.1⟩, a4, b1, b2, b3⟩
