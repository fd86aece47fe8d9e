/-! an hour's leading depends on what is in range alone -/
theorem n_up_cg {α : Type} {f g : Nat → α → α} {N : Nat} (h : ∀ c, c < N → ∀ b, f c b = g c b) : ∀ (m c : Nat) (b : α), c + m = N → n_up f m c b = n_up g m c b := by
  intro m
  induction m with
  | zero => intro c b _; rfl
  | succ m ih =>
    intro c b hc
    rw [n_up_s, n_up_s, h c (by omega), ih (c + 1) _ (by omega)]
theorem n_fw_cg {nc g : Nat} {pa pb ln pa' pb' ln' : Nat → Nat} {fo fo' : Nat → Option Nat} (hp : ∀ c, c < nc → pa c = pa' c ∧ pb c = pb' c ∧ ln c = ln' c ∧ fo c = fo' c) : ∀ (k h s w l t : Nat) (b : Option Nat × Nat × Nat), n_fw nc pa pb ln fo g k h s w l t b = n_fw nc pa' pb' ln' fo' g k h s w l t b := by
  intro k
  induction k with
  | zero => intro h s w l t b; rfl
  | succ k ih =>
    intro h s w l t b
    unfold n_fw
    split
    · rfl
    · refine n_up_cg (N := nc) (fun c hc b => ?_) nc 0 b (by omega)
      obtain ⟨h1, h2, h3, h4⟩ := hp c hc
      have hgo : n_fw nc pa pb ln fo g k = n_fw nc pa' pb' ln' fo' g k := by funext h s w l t b; exact ih h s w l t b
      rw [h1, h2, h3, h4, hgo]
theorem n_lf_cg {f f' : Nat → Nat} {dm ds : Nat} (hdm : dm < 6) (h : ∀ j, j < 6 → f j = f' j) : ∀ o, o ≤ 6 → n_lf f dm ds o = n_lf f' dm ds o := by
  intro o
  induction o with
  | zero => intro _; show ds - f dm = ds - f' dm; rw [h dm hdm]
  | succ o ih =>
    intro ho
    rw [n_lf_s, n_lf_s]
    unfold n_tk
    rw [ih (by omega), h o (by omega)]
theorem n_tk_cg {f f' : Nat → Nat} {dm ds o : Nat} (hdm : dm < 6) (ho : o < 6) (h : ∀ j, j < 6 → f j = f' j) : n_tk f dm ds o = n_tk f' dm ds o := by
  unfold n_tk
  rw [n_lf_cg hdm h o (by omega), h o ho]
theorem n_ff_cg {f f' : Nat → Nat} {dm ds o : Nat} (hdm : dm < 6) (ho : o < 6) (h : ∀ j, j < 6 → f j = f' j) : n_ff f dm ds o = n_ff f' dm ds o := by
  unfold n_ff
  rw [n_tk_cg hdm ho h, h dm hdm, h o ho]
def n_qr (nc : Nat) (q q' : n_Q) : Prop := (∀ c, c < nc → ∀ j, j < 6 → q.1 c j = q'.1 c j) ∧ (∀ i, i < 6 → ∀ j, j < 6 → q.2.1 i j = q'.2.1 i j) ∧ q.2.2.1 = q'.2.2.1 ∧ q.2.2.2 = q'.2.2.2
theorem n_L1_cg {nc most i : Nat} {wh wh' : Nat → Nat} {cb cb' db db' : Nat → Nat → Nat} {q q' : n_Q} (hw : ∀ c, c < nc → wh c = wh' c ∧ cb c = cb' c) (hd : db i = db' i) (hdm : db i 0 < 6) (h : n_qr nc q q') : n_qr nc (n_L1 nc wh cb db most i q) (n_L1 nc wh' cb' db' most i q') := by
  obtain ⟨h1, h2, h3, h4⟩ := h
  have hfo : ∀ c, c < nc → n_foS wh q.1 (db i 0) (db i 3) c = n_foS wh' q'.1 (db' i 0) (db' i 3) c := by
    intro c hc
    unfold n_foS
    rw [(hw c hc).1, n_sum_cg (h1 c hc), ← hd, h1 c hc _ hdm]
  have hfw : n_fw nc (fun c => cb c 0) (fun c => cb c 1) (fun c => cb c 5) (n_foS wh q.1 (db i 0) (db i 3)) (db i 2) 5 (db i 1) (2 ^ db i 1) 0 0 0 (none, most, 7200) = n_fw nc (fun c => cb' c 0) (fun c => cb' c 1) (fun c => cb' c 5) (n_foS wh' q'.1 (db' i 0) (db' i 3)) (db' i 2) 5 (db' i 1) (2 ^ db' i 1) 0 0 0 (none, most, 7200) := by
    rw [← hd] at hfo ⊢
    exact n_fw_cg (fun c hc => ⟨by rw [(hw c hc).2], by rw [(hw c hc).2], by rw [(hw c hc).2], hfo c hc⟩) _ _ _ _ _ _ _
  generalize hb : n_fw nc (fun c => cb c 0) (fun c => cb c 1) (fun c => cb c 5) (n_foS wh q.1 (db i 0) (db i 3)) (db i 2) 5 (db i 1) (2 ^ db i 1) 0 0 0 (none, most, 7200) = b at hfw
  have hb' := hfw.symm
  rcases hb1 : b.1 with _ | mask
  · have e1 : n_L1 nc wh cb db most i q = q := n_l1_n hb hb1
    have e2 : n_L1 nc wh' cb' db' most i q' = q' := n_l1_n hb' hb1
    rw [e1, e2]
    exact ⟨h1, h2, h3, h4⟩
  · have e1 : n_L1 nc wh cb db most i q = (fun c j => n_fm q.1 mask (db i 0) (db i 3) c j, m_uf q.2.1 (db i 0) (fun j => n_Ls q.1 (fun c => cb c 5) (q.2.1 (db i 0)) mask (db i 0) (db i 3) nc j), m_uf q.2.2.1 i (some mask), m_uf q.2.2.2 i b.2.1) := n_l1_s hb hb1
    have e2 : n_L1 nc wh' cb' db' most i q' = (fun c j => n_fm q'.1 mask (db' i 0) (db' i 3) c j, m_uf q'.2.1 (db' i 0) (fun j => n_Ls q'.1 (fun c => cb' c 5) (q'.2.1 (db' i 0)) mask (db' i 0) (db' i 3) nc j), m_uf q'.2.2.1 i (some mask), m_uf q'.2.2.2 i b.2.1) := n_l1_s hb' hb1
    rw [e1, e2, ← hd]
    refine ⟨fun c hc j hj => ?_, fun a ha j hj => ?_, ?_, ?_⟩
    · show n_fm q.1 mask (db i 0) (db i 3) c j = n_fm q'.1 mask (db i 0) (db i 3) c j
      unfold n_fm
      rw [n_ff_cg hdm hj (h1 c hc), h1 c hc j hj]
    · show m_uf q.2.1 (db i 0) _ a j = m_uf q'.2.1 (db i 0) _ a j
      by_cases e : a = db i 0
      · subst e
        rw [m_uf_eq, m_uf_eq, n_Ls_sum, n_Ls_sum, h2 _ hdm j hj]
        refine congrArg _ (n_sum_cg (fun c hc => ?_))
        rw [n_tk_cg hdm hj (h1 c hc), (hw c hc).2]
      · rw [m_uf_ne e, m_uf_ne e]
        exact h2 a ha j hj
    · show m_uf q.2.2.1 i (some mask) = m_uf q'.2.2.1 i (some mask)
      rw [h3]
    · show m_uf q.2.2.2 i b.2.1 = m_uf q'.2.2.2 i b.2.1
      rw [h4]
theorem n_lead_cg {nc nd : Nat} {wh wh' : Nat → Nat} {cb cb' db db' ow ow' : Nat → Nat → Nat} (hw : ∀ c, c < nc → wh c = wh' c ∧ cb c = cb' c) (hd : ∀ i, i < nd → db i = db' i ∧ db i 0 < 6) (ho : ∀ c, c < nc → ∀ j, j < 6 → ow c j = ow' c j) : n_qr nc (n_lead nc nd wh cb db ow) (n_lead nc nd wh' cb' db' ow') := by
  unfold n_lead n_ld2 n_ld1
  have h0 : n_qr nc (ow, fun _ _ => 0, fun _ => none, fun _ => 0) (ow', fun _ _ => 0, fun _ => none, fun _ => 0) := ⟨ho, fun _ _ _ _ => rfl, rfl, rfl⟩
  have hb := n_up_inv2 (Q := n_qr nc) (N := nd) (f := fun i q => n_L1 nc wh cb db 0 i q) (g := fun i q => n_L1 nc wh' cb' db' 0 i q) (fun i hi q q' hq => n_L1_cg hw (hd i hi).1 (hd i hi).2 hq) nd 0 _ _ (by omega) h0
  refine n_up_inv2 (Q := n_qr nc) (N := nd) (fun i hi q q' hq => ?_) nd 0 _ _ (by omega) hb
  rw [← hq.2.2.1]
  split
  · exact n_L1_cg hw (hd i hi).1 (hd i hi).2 hq
  · exact hq
/-! the logs grow at their end: what was told before stays -/
theorem ly_fz {cb cb' : Nat → Nat → Nat} {h nc e : Nat} (h1 : ∀ c, c < nc → cb' c = cb c) (h2 : ∀ c, nc ≤ c → c < nc + e → h < cb' c 4) : ∀ (m : Nat) (s : Nat × (Nat → Nat) × (Nat → Nat → Nat)), s.1 + m = nc → n_ly cb' h (m + e) s = n_ly cb h m s := by
  intro m
  induction m with
  | zero =>
    intro s hs
    cases e with
    | zero => rfl
    | succ e =>
      rw [Nat.zero_add]
      show (if cb' s.1 4 ≤ h then _ else s) = s
      rw [if_neg (by have := h2 s.1 (by omega) (by omega); omega)]
  | succ m ih =>
    intro s hs
    rw [show m + 1 + e = (m + e) + 1 by omega]
    show (if cb' s.1 4 ≤ h then n_ly cb' h (m + e) (s.1 + 1, m_uf s.2.1 s.1 1, m_uf s.2.2 s.1 (n_ir cb' s.1)) else s) = if cb s.1 4 ≤ h then n_ly cb h m (s.1 + 1, m_uf s.2.1 s.1 1, m_uf s.2.2 s.1 (n_ir cb s.1)) else s
    have e1 : cb' s.1 = cb s.1 := h1 s.1 (by omega)
    have e2 : n_ir cb' s.1 = n_ir cb s.1 := by unfold n_ir; rw [e1]
    rw [e1, e2, ih (s.1 + 1, m_uf s.2.1 s.1 1, m_uf s.2.2 s.1 (n_ir cb s.1)) (by show s.1 + 1 + m = nc; omega)]
theorem ly_nw {cb cb' : Nat → Nat → Nat} {h nc : Nat} (h1 : ∀ c, c < nc → cb' c = cb c) (h2 : cb' nc 4 ≤ h) : ∀ (m : Nat) (s : Nat × (Nat → Nat) × (Nat → Nat → Nat)), s.1 + m = nc → (n_ly cb h m s).1 = nc → n_ly cb' h (m + 1) s = (nc + 1, m_uf (n_ly cb h m s).2.1 nc 1, m_uf (n_ly cb h m s).2.2 nc (n_ir cb' nc)) := by
  intro m
  induction m with
  | zero =>
    intro s hs _
    have e : s.1 = nc := by omega
    show (if cb' s.1 4 ≤ h then n_ly cb' h 0 (s.1 + 1, m_uf s.2.1 s.1 1, m_uf s.2.2 s.1 (n_ir cb' s.1)) else s) = _
    rw [e, if_pos h2]
    rfl
  | succ m ih =>
    intro s hs hr
    have e1 : cb' s.1 = cb s.1 := h1 s.1 (by omega)
    have e2 : n_ir cb' s.1 = n_ir cb s.1 := by unfold n_ir; rw [e1]
    by_cases hc : cb s.1 4 ≤ h
    · have r1 : n_ly cb h (m + 1) s = n_ly cb h m (s.1 + 1, m_uf s.2.1 s.1 1, m_uf s.2.2 s.1 (n_ir cb s.1)) := if_pos hc
      rw [r1] at hr ⊢
      show (if cb' s.1 4 ≤ h then n_ly cb' h (m + 1) (s.1 + 1, m_uf s.2.1 s.1 1, m_uf s.2.2 s.1 (n_ir cb' s.1)) else s) = _
      rw [e1, if_pos hc, e2]
      exact ih _ (by show s.1 + 1 + m = nc; omega) hr
    · have r1 : n_ly cb h (m + 1) s = s := if_neg hc
      rw [r1] at hr
      omega
theorem ty_fz {db db' : Nat → Nat → Nat} {h nd e : Nat} (h1 : ∀ c, c < nd → db' c = db c) (h2 : ∀ c, nd ≤ c → c < nd + e → h < db' c 4) : ∀ (m i : Nat), i + m = nd → n_ty db' h (m + e) i = n_ty db h m i := by
  intro m
  induction m with
  | zero =>
    intro i hi
    cases e with
    | zero => rfl
    | succ e =>
      rw [Nat.zero_add]
      show (if db' i 4 ≤ h then _ else i) = i
      rw [if_neg (by have := h2 i (by omega) (by omega); omega)]
  | succ m ih =>
    intro i hi
    rw [show m + 1 + e = (m + e) + 1 by omega]
    show (if db' i 4 ≤ h then n_ty db' h (m + e) (i + 1) else i) = if db i 4 ≤ h then n_ty db h m (i + 1) else i
    rw [h1 i (by omega), ih (i + 1) (by omega)]
theorem ty_nw {db db' : Nat → Nat → Nat} {h nd : Nat} (h1 : ∀ c, c < nd → db' c = db c) (h2 : db' nd 4 ≤ h) : ∀ (m i : Nat), i + m = nd → n_ty db h m i = nd → n_ty db' h (m + 1) i = nd + 1 := by
  intro m
  induction m with
  | zero =>
    intro i hi _
    have e : i = nd := by omega
    show (if db' i 4 ≤ h then n_ty db' h 0 (i + 1) else i) = nd + 1
    rw [e, if_pos h2]
    rfl
  | succ m ih =>
    intro i hi hr
    by_cases hc : db i 4 ≤ h
    · have r1 : n_ty db h (m + 1) i = n_ty db h m (i + 1) := if_pos hc
      rw [r1] at hr
      show (if db' i 4 ≤ h then n_ty db' h (m + 1) (i + 1) else i) = nd + 1
      rw [h1 i (by omega), if_pos hc]
      exact ih (i + 1) (by omega) hr
    · have r1 : n_ty db h (m + 1) i = i := if_neg hc
      rw [r1] at hr
      omega
theorem ro_fz {sd sd' : Nat → Nat → Nat} {h sz e : Nat} (h1 : ∀ c, c < sz → sd' c = sd c) (h2 : ∀ c, sz ≤ c → c < sz + e → h < sd' c 4) : ∀ (m i : Nat) (ow : Nat → Nat → Nat), i + m = sz → n_ro h sd' (m + e) i ow = n_ro h sd m i ow := by
  intro m
  induction m with
  | zero =>
    intro i ow hi
    cases e with
    | zero => rfl
    | succ e =>
      rw [Nat.zero_add]
      show (if sd' i 4 ≤ h then _ else (i, ow)) = (i, ow)
      rw [if_neg (by have := h2 i (by omega) (by omega); omega)]
  | succ m ih =>
    intro i ow hi
    rw [show m + 1 + e = (m + e) + 1 by omega]
    show (if sd' i 4 ≤ h then n_ro h sd' (m + e) (i + 1) (m_uf ow (sd' i 0) (n_hd2 (ow (sd' i 0)) (sd' i 1) (sd' i 2) (sd' i 3))) else (i, ow)) = if sd i 4 ≤ h then n_ro h sd m (i + 1) (m_uf ow (sd i 0) (n_hd2 (ow (sd i 0)) (sd i 1) (sd i 2) (sd i 3))) else (i, ow)
    rw [h1 i (by omega), ih (i + 1) _ (by omega)]
theorem rk_fz {sd sd' : Nat → Nat → Nat} {h sz e na : Nat} (h1 : ∀ c, c < sz → sd' c = sd c) (h2 : ∀ c, sz ≤ c → c < sz + e → h < sd' c 4) : ∀ (m i : Nat) (ow : Nat → Nat → Nat), i + m = sz → n_rk h sd na m i ow → n_rk h sd' na (m + e) i ow := by
  intro m
  induction m with
  | zero =>
    intro i ow hi _
    cases e with
    | zero => trivial
    | succ e =>
      rw [Nat.zero_add]
      intro hc
      have := h2 i (by omega) (by omega)
      omega
  | succ m ih =>
    intro i ow hi hk
    rw [show m + 1 + e = (m + e) + 1 by omega]
    intro hc
    rw [h1 i (by omega)] at hc ⊢
    obtain ⟨k1, k2⟩ := hk hc
    exact ⟨k1, ih (i + 1) _ (by omega) k2⟩
theorem ro_nw {sd sd' : Nat → Nat → Nat} {h sz : Nat} (h1 : ∀ c, c < sz → sd' c = sd c) (h2 : sd' sz 4 ≤ h) : ∀ (m i : Nat) (ow : Nat → Nat → Nat), i + m = sz → (n_ro h sd m i ow).1 = sz → n_ro h sd' (m + 1) i ow = (sz + 1, m_uf (n_ro h sd m i ow).2 (sd' sz 0) (n_hd2 ((n_ro h sd m i ow).2 (sd' sz 0)) (sd' sz 1) (sd' sz 2) (sd' sz 3))) := by
  intro m
  induction m with
  | zero =>
    intro i ow hi _
    have e : i = sz := by omega
    subst e
    show (if sd' i 4 ≤ h then n_ro h sd' 0 (i + 1) _ else (i, ow)) = _
    rw [if_pos h2]
    rfl
  | succ m ih =>
    intro i ow hi hr
    by_cases hc : sd i 4 ≤ h
    · have r1 : n_ro h sd (m + 1) i ow = n_ro h sd m (i + 1) (m_uf ow (sd i 0) (n_hd2 (ow (sd i 0)) (sd i 1) (sd i 2) (sd i 3))) := if_pos hc
      rw [r1] at hr ⊢
      show (if sd' i 4 ≤ h then n_ro h sd' (m + 1) (i + 1) (m_uf ow (sd' i 0) (n_hd2 (ow (sd' i 0)) (sd' i 1) (sd' i 2) (sd' i 3))) else (i, ow)) = _
      rw [h1 i (by omega), if_pos hc]
      exact ih (i + 1) _ (by omega) hr
    · have r1 : n_ro h sd (m + 1) i ow = (i, ow) := if_neg hc
      rw [r1] at hr
      have : i = sz := hr
      omega
theorem rk_nw {sd sd' : Nat → Nat → Nat} {h sz na : Nat} (h1 : ∀ c, c < sz → sd' c = sd c) : ∀ (m i : Nat) (ow : Nat → Nat → Nat), i + m = sz → n_rk h sd na m i ow → (n_ro h sd m i ow).1 = sz → (sd' sz 0 < na ∧ sd' sz 3 ≤ (n_ro h sd m i ow).2 (sd' sz 0) (sd' sz 1)) → n_rk h sd' na (m + 1) i ow := by
  intro m
  induction m with
  | zero =>
    intro i ow hi _ _ hn
    have e : i = sz := by omega
    subst e
    exact fun _ => ⟨hn, trivial⟩
  | succ m ih =>
    intro i ow hi hk hr hn
    by_cases hc : sd i 4 ≤ h
    · have r1 : n_ro h sd (m + 1) i ow = n_ro h sd m (i + 1) (m_uf ow (sd i 0) (n_hd2 (ow (sd i 0)) (sd i 1) (sd i 2) (sd i 3))) := if_pos hc
      rw [r1] at hr hn
      intro _
      rw [h1 i (by omega)]
      obtain ⟨k1, k2⟩ := hk hc
      exact ⟨k1, ih (i + 1) _ (by omega) k2 hr hn⟩
    · have r1 : n_ro h sd (m + 1) i ow = (i, ow) := if_neg hc
      rw [r1] at hr
      have : i = sz := hr
      omega
theorem ro_uf {sd : Nat → Nat → Nat} {h sz c : Nat} {row : Nat → Nat} (h1 : ∀ i, i < sz → sd i 0 ≠ c) : ∀ (m i : Nat) (ow : Nat → Nat → Nat), i + m = sz → n_ro h sd m i (m_uf ow c row) = ((n_ro h sd m i ow).1, m_uf (n_ro h sd m i ow).2 c row) := by
  intro m
  induction m with
  | zero => intro i ow _; rfl
  | succ m ih =>
    intro i ow hi
    have hn := h1 i (by omega)
    have e : m_uf (m_uf ow c row) (sd i 0) (n_hd2 (m_uf ow c row (sd i 0)) (sd i 1) (sd i 2) (sd i 3)) = m_uf (m_uf ow (sd i 0) (n_hd2 (ow (sd i 0)) (sd i 1) (sd i 2) (sd i 3))) c row := by
      rw [m_uf_ne hn]
      funext x
      unfold m_uf
      by_cases e1 : x = sd i 0
      · rw [if_pos e1, if_neg (fun z => hn (e1.symm.trans z)), if_pos e1]
      · rw [if_neg e1]
        by_cases e2 : x = c
        · rw [if_pos e2, if_pos e2]
        · rw [if_neg e2, if_neg e2, if_neg e1]
    show (if sd i 4 ≤ h then n_ro h sd m (i + 1) (m_uf (m_uf ow c row) (sd i 0) (n_hd2 (m_uf ow c row (sd i 0)) (sd i 1) (sd i 2) (sd i 3))) else (i, m_uf ow c row)) = ((n_ro h sd (m + 1) i ow).1, m_uf (n_ro h sd (m + 1) i ow).2 c row)
    rw [e]
    by_cases hc : sd i 4 ≤ h
    · have r1 : n_ro h sd (m + 1) i ow = n_ro h sd m (i + 1) (m_uf ow (sd i 0) (n_hd2 (ow (sd i 0)) (sd i 1) (sd i 2) (sd i 3))) := if_pos hc
      rw [if_pos hc, r1]
      exact ih (i + 1) _ (by omega)
    · have r1 : n_ro h sd (m + 1) i ow = (i, ow) := if_neg hc
      rw [if_neg hc, r1]
theorem rk_uf {sd : Nat → Nat → Nat} {h sz c na na' : Nat} {row : Nat → Nat} (h1 : ∀ i, i < sz → sd i 0 ≠ c) (hna : na ≤ na') : ∀ (m i : Nat) (ow : Nat → Nat → Nat), i + m = sz → n_rk h sd na m i ow → n_rk h sd na' m i (m_uf ow c row) := by
  intro m
  induction m with
  | zero => intro i ow _ _; trivial
  | succ m ih =>
    intro i ow hi hk hc
    have hn := h1 i (by omega)
    have e : m_uf (m_uf ow c row) (sd i 0) (n_hd2 (m_uf ow c row (sd i 0)) (sd i 1) (sd i 2) (sd i 3)) = m_uf (m_uf ow (sd i 0) (n_hd2 (ow (sd i 0)) (sd i 1) (sd i 2) (sd i 3))) c row := by
      rw [m_uf_ne hn]
      funext x
      unfold m_uf
      by_cases e1 : x = sd i 0
      · rw [if_pos e1, if_neg (fun z => hn (e1.symm.trans z)), if_pos e1]
      · rw [if_neg e1]
        by_cases e2 : x = c
        · rw [if_pos e2, if_pos e2]
        · rw [if_neg e2, if_neg e2, if_neg e1]
    obtain ⟨⟨k1, k2⟩, k3⟩ := hk hc
    rw [e]
    exact ⟨⟨by omega, by rw [m_uf_ne hn]; exact k2⟩, ih (i + 1) _ (by omega) k3⟩
theorem ct_uf {kb : Nat → Nat → Nat} {kw : Nat → Option Nat} {h nk c v : Nat} (h1 : ∀ k, k < nk → kb k 0 ≠ c) : ∀ (w : Nat → Nat), n_up (n_ct kb kw h) nk 0 (m_uf w c v) = m_uf (n_up (n_ct kb kw h) nk 0 w) c v := by
  intro w
  refine n_up_inv2 (Q := fun a b => a = m_uf b c v) (N := nk) (fun k hk a b hab => ?_) nk 0 _ _ (by omega) rfl
  subst hab
  have hn := h1 k hk
  have e : ∀ (w : Nat → Nat) (x : Nat), m_uf (m_uf w c v) (kb k 0) x = m_uf (m_uf w (kb k 0) x) c v := by
    intro w x
    funext y
    unfold m_uf
    by_cases e1 : y = kb k 0
    · rw [if_pos e1, if_neg (fun z => hn (e1.symm.trans z)), if_pos e1]
    · rw [if_neg e1]
      by_cases e2 : y = c
      · rw [if_pos e2, if_pos e2]
      · rw [if_neg e2, if_neg e2, if_neg e1]
  unfold n_ct
  split
  · split
    · rw [e, e]
    · rw [e]
  · split
    · rw [e]
    · rfl
theorem ct_cg {kb kb' : Nat → Nat → Nat} {kw kw' : Nat → Option Nat} {h nk : Nat} (h1 : ∀ k, k < nk → kb' k 0 = kb k 0 ∧ kb' k 2 = kb k 2 ∧ (kw' k = some h ↔ kw k = some h)) (w : Nat → Nat) : n_up (n_ct kb' kw' h) nk 0 w = n_up (n_ct kb kw h) nk 0 w := by
  refine n_up_cg (N := nk) (fun k hk b => ?_) nk 0 w (by omega)
  obtain ⟨a1, a2, a3⟩ := h1 k hk
  unfold n_ct
  rw [a1, a2]
  by_cases e : kw k = some h
  · rw [if_pos e, if_pos (a3.mpr e)]
  · rw [if_neg e, if_neg (fun z => e (a3.mp z))]
theorem ct_fz {kb kb' : Nat → Nat → Nat} {kw kw' : Nat → Option Nat} {h nk e : Nat} (h1 : ∀ k, k < nk → kb' k 0 = kb k 0 ∧ kb' k 2 = kb k 2 ∧ (kw' k = some h ↔ kw k = some h)) (h2 : ∀ k, nk ≤ k → k < nk + e → h < kb' k 2 ∧ kw' k = none) (w : Nat → Nat) : n_up (n_ct kb' kw' h) (nk + e) 0 w = n_up (n_ct kb kw h) nk 0 w := by
  rw [n_up_add, ct_cg h1, Nat.zero_add]
  have key : ∀ (m c : Nat) (b : Nat → Nat), nk ≤ c → c + m = nk + e → n_up (n_ct kb' kw' h) m c b = b := by
    intro m
    induction m with
    | zero => intro c b _ _; rfl
    | succ m ih =>
      intro c b hc hm
      obtain ⟨a1, a2⟩ := h2 c hc (by omega)
      have e1 : n_ct kb' kw' h c b = b := by
        unfold n_ct
        rw [if_neg (by omega), if_neg (by rw [a2]; exact fun z => by cases z)]
      rw [n_up_s, e1]
      exact ih (c + 1) b (by omega) (by omega)
  exact key e nk _ (Nat.le_refl _) rfl
