/-- the law, from its entry -/
theorem whole_start {p : Program} {e : Env} {s : State} {m : MethodId} {below : List Frame} {meth : Method} {c : Code} (l : Launch) (hflags : l.flags = flags0) {b L : Nat} {xs : Nat → Int32} (hL : L ≤ 260) (C0 : lw_At p s m meth c b L xs) : W p l e room_1 s m #[Value.ref b] below meth c s.heap [] 0 0 (lw_Z below #[Value.ref b] s) (entryFrame m ([Value.ref b] : List Value).toArray 8) := by
  obtain ⟨G, hG1, hGb, hGX, hGG⟩ := m_start hflags C0
  obtain ⟨hx, hb, hr, hml, hown, hts, hX, hbl, hlocks, hgv⟩ := C0
  have hrun := law_run L xs
  subst hG1
  obtain ⟨ad, had0, had1, had2⟩ : ∃ ad : Nat → Nat, ad 0 = G.2.2.2.1.1 ∧ ad 1 = G.2.2.2.1.2.1 ∧ ad 2 = G.2.2.2.1.2.2 := ⟨fun i => if i = 0 then G.2.2.2.1.1 else if i = 1 then G.2.2.2.1.2.1 else G.2.2.2.1.2.2, rfl, rfl, rfl⟩
  have hcall := w_Lok hGG hGX hL
  have hC : m_Cx G p room_1 G.1 m #[Value.ref b] meth c 20 (cL_law, 8, RL, false, (some .boolean), []) :=
    ⟨hx, hb, hml, hown, fun w hw => hts w (m_WSg hw).1, hGG.2.1, Nat.le_refl _, (fun h => by cases h), hlocks, by show 20 + 11 ≤ 2048; omega, by show 40 * 20 + 240 ≤ 84000; omega, ⟨State.WarmedH.refl G.1, Nat.le_refl _, fun _ _ => rfl⟩, hGG.2.2, fun h => absurd rfl h⟩
  have hE : m_End l G p e room_1 G.1 m #[Value.ref b] below meth c (cL_law, 8, RL, false, (some .boolean), []) 0 ad 697806 7008279 (fun o _ => o = .inl (some (.int 1))) (lw_Z below #[Value.ref b] G.1) := by
    constructor
    · intro ov S' i ho hf ad2 ls2 H2 locs2 cells2 slots2 pc2 hag hle hrel hS2 hov hc2 hs2 hd2
      cases ho
      rcases hf with ⟨h1, -⟩ | ⟨-, rfl, -⟩ | ⟨h1, -⟩ | ⟨⟨C, h1⟩ | ⟨C, h1⟩, -⟩
      · cases h1
      · refine va_forget (fun q hq => hS2.2.2 q hq) ?_
        refine W.widen (k := 697806) (n := 7008279) hc2 hs2 ?_
        exact lw_ret hx hb hr hlocks hd2
      · cases h1
      · cases h1
      · cases h1
    · refine Or.inl ?_
      intro E' S' h
      cases h
  obtain ⟨ls, e1, hl⟩ := m_entry (ad := ad) (m := m) (n := 8) (args := [.ref 0]) (by decide) (m_c1_of rfl)
  have e2 : ([Value.ref b] : List Value) = [Value.ref 0].map (m_v ad) := by
    show [Value.ref b] = [Value.ref (ad 0)]
    rw [had0, hGb]
  have e3 : entryFrame m ([Value.ref b] : List Value).toArray 8 = F0 m 0 ls [] := by rw [e2]; exact e1
  rw [e3]
  have hP := hrun (m_W l G p e room_1 G.1 m #[Value.ref b] below meth c 8 0 ad 697806 7008279 (lw_Z below #[Value.ref b] G.1))
    (fun pc lo st bd S kk hkk hop => ok_L_lawW (GP := fun G => G.2.2.2.2 = (L, xs)) pc l G p e room_1 G.1 m #[Value.ref b] below meth c 20 (w_L L xs) 0 ad _ _ _ _ kk hGX hC hcall (Nat.le_refl _) (Nat.le_refl _) hE hkk lo st bd S hop)
  refine hP ad ls G.1.heap [] 0 0 (fun _ _ => rfl) (Nat.le_refl _) ⟨fun k q h => by simp [m_w] at h, ⟨fun i j p q h => by simp [m_w] at h, fun k q h => by simp [m_w] at h⟩, fun _ => trivial, fun _ _ => rfl, had0, had1, had2⟩ va_S.rf hl (fun i v h => ?_) (fun v hv => by cases hv) (by decide) (by decide)
  have h1 := m_ent_at h
  match i, h1 with
  | 0, h1 => cases h1; exact ⟨(by decide : 0 < 0 + 3), Or.inl rfl⟩
  | i + 1, h1 => simp at h1
