theorem m_range_add (a b : Nat) : List.range (a + b) = List.range a ++ (List.range b).map (fun i => a + i) := by
  induction b with
  | zero => simp
  | succ b ih => rw [← Nat.add_assoc, List.range_succ, ih, List.range_succ, List.map_append, List.append_assoc]; rfl
def m_adg (ad : Nat → Nat) (n N q : Nat) (r : Nat → Nat) : Nat → Nat := fun a => if a = n + 3 then q else if n + 3 < a ∧ a < n + 4 + N then r (a - (n + 4)) else ad a
theorem m_adg_lt {ad : Nat → Nat} {n N q : Nat} {r : Nat → Nat} : ∀ i, i < n + 3 → m_adg ad n N q r i = ad i := fun i hi => by
  unfold m_adg
  rw [if_neg (by omega), if_neg (by omega)]
theorem m_w_grid {cy : Nat → ClassId} {ad : Nat → Nat} {n N K q : Nat} {r : Nat → Nat} {hh : Nat → m_C} {f : Nat → va_E} (hok : ∀ a, m_cok n (hh a)) :
    (m_w cy ad (n, hh) ++ [(q, (.inl (cy 3, N, .inr (.inr (.inr (.inr (fun i => if i < N then some (r i) else none))))) : va_E))]) ++ va_pl ([] ++ (List.range N).map r) (vr_up f ((List.range N).map r) (.inl (cy 0, K, .inl (fun _ => 0)))) = m_w cy (m_adg ad n N q r) (n + 1 + N, m_grid hh (n + 3) N K) := by
  have hag : ∀ i, i < n + 3 → m_adg ad n N q r i = ad i := m_adg_lt
  unfold m_w
  show _ = (List.range (n + 1 + N)).map _
  rw [m_range_add, List.range_succ, List.map_append, List.map_append]
  congr 1
  · congr 1
    · apply List.map_congr_left
      intro i hi
      have hi := List.mem_range.mp hi
      show (ad (i + 3), m_e cy ad (hh (i + 3))) = (m_adg ad n N q r (i + 3), m_e cy (m_adg ad n N q r) (m_grid hh (n + 3) N K (i + 3)))
      rw [hag _ (by omega), show m_grid hh (n + 3) N K (i + 3) = hh (i + 3) from by unfold m_grid; rw [if_neg (by omega), if_neg (by omega)], m_e_agree hag (hok _)]
    · show [_] = [_]
      congr 1
      show (q, _) = (m_adg ad n N q r (n + 3), m_e cy (m_adg ad n N q r) (m_grid hh (n + 3) N K (n + 3)))
      have e1 : m_adg ad n N q r (n + 3) = q := if_pos rfl
      have e2 : m_grid hh (n + 3) N K (n + 3) = m_Q 3 N (fun i => if i < N then some (n + 3 + 1 + i) else none) := if_pos rfl
      rw [e1, e2]
      show (q, Sum.inl _) = (q, Sum.inl _)
      congr 8
      funext i
      by_cases hi : i < N
      · simp only [if_pos hi]
        show some (r i) = some (m_adg ad n N q r (n + 3 + 1 + i))
        unfold m_adg
        rw [if_neg (by omega), if_pos (by omega), show n + 3 + 1 + i - (n + 4) = i by omega]
      · simp only [if_neg hi]; rfl
  · show (([] ++ (List.range N).map r).map _) = _
    rw [List.nil_append, List.map_map, List.map_map]
    apply List.map_congr_left
    intro i hi
    have hi := List.mem_range.mp hi
    show (r i, vr_up f ((List.range N).map r) _ (r i)) = (m_adg ad n N q r (n + 1 + i + 3), m_e cy (m_adg ad n N q r) (m_grid hh (n + 3) N K (n + 1 + i + 3)))
    rw [vr_up_in (List.mem_map.mpr ⟨i, List.mem_range.mpr hi, rfl⟩)]
    have e1 : m_adg ad n N q r (n + 1 + i + 3) = r i := by
      unfold m_adg
      rw [if_neg (by omega), if_pos (by omega), show n + 1 + i + 3 - (n + 4) = i by omega]
    have e2 : m_grid hh (n + 3) N K (n + 1 + i + 3) = m_I 0 K (fun _ => 0) := by
      unfold m_grid
      rw [if_neg (by omega), if_pos (by omega)]
    rw [e1, e2]
    rfl
theorem ok_mna {GP : m_G → Prop} {my : Nat → m_T} {E : m_E} {pc nx : Nat} {N K idx : Nat} (hcl : Cond.classLink E.2.2.1 idx "[[I" ∈ m_WS) (harr : Cond.arrayClass .int ∈ m_WS) (hN : N ≤ 1000) (hK9 : K ≤ 1000) (hd : decode E.1 pc = .ok (.multianewarray idx 2, 4)) (hn : pc + 4 = nx) : m_OK GP my E pc (o_mna N K nx) := by
  subst hn
  intro l G p e R s m args below meth c dp call n0 ad0 mc ms Q r kk hGP hC hcall hmc hms hE hk lo st bd S h ad ls H locs cells slots had hn0 hR hS hl hlo hst hc hs
  obtain ⟨hx, hb, hml, hown, hts, hK, hsz, hini, hlk, hfr, hlc, hX, hXF, hXT⟩ := hC
  unfold o_mna at h
  split at h
  · rename_i k9 n9 st'
    obtain ⟨e9, e8, h1, h2, h⟩ := h
    subst e9; subst e8
    obtain ⟨n, hh⟩ := S
    have ec : (Int32.ofNat N).toNatClampNeg = N := nI_clamp (by omega)
    have ek : (Int32.ofNat K).toNatClampNeg = K := nI_clamp (by omega)
    have es : "[" ++ (FieldType.array .int).toString = "[[I" := by decide +kernel
    have et : (FieldType.array .int).toString = "[" ++ FieldType.int.toString := by decide +kernel
    refine va_mna (D := G.2.1) (X := m_w G.2.2.1 ad (n, hh)) (L := []) (f := fun _ => .inr (0, [])) (ty := .int) (cy := G.2.2.1 0) (N' := N) (K' := K) (z := (K, .inl (fun _ => 0))) hx hb hown (by rw [es]; exact hts _ hcl) hXF.2.2.1 (hts _ harr) (by rw [et]; exact (hK.2 0 _ rfl).2) hK (by show va_P _ _ (_ ++ []) _; rw [List.append_nil]; exact hR.1) (by show va_D _ (_ ++ []); rw [List.append_nil]; exact hR.2.1) hS (m_hA hsz) (nI_pos (by omega)) (nI_pos (by omega)) ec ek (by omega) (by show K * 4 ≤ _; omega) (by omega) rfl rfl (by omega) (by omega) (fun c9 => by show Jvm.Free.Multi.innerC c9 K (.int 0) = arrV c9 K (fun _ => .int 0); unfold Jvm.Free.Multi.innerC arrV; congr 1; apply Array.ext <;> simp) hd (fun q r9 cA H1 _ _ hK1 hP1 hD1 hS1 => ?_)
    have ecA : cA = G.2.2.1 3 := m_cyP (G := G) (m_lastK hK1) (hK.2 3 _ rfl).2
    rw [ecA, m_w_grid (n := n) (hh := hh) hR.2.2.1] at hP1 hD1
    have hrel : m_Rel G (m_adg ad n N q r9) (n + 1 + N, m_grid hh (n + 3) N K) H1 := by
      refine ⟨hP1, hD1, fun b => ?_, fun b hb9 => ?_, ?_, ?_, ?_⟩
      · show m_cok (n + 1 + N) (m_grid hh (n + 3) N K b)
        unfold m_grid
        split
        · intro j a ha
          dsimp only at ha
          split at ha
          · cases ha; omega
          · cases ha
        · split
          · trivial
          · exact (hR.2.2.1 b).mono (by show n ≤ n + 1 + N; omega)
      · have hb9 : b < 3 ∨ n + 1 + N + 3 ≤ b := hb9
        show m_grid hh (n + 3) N K b = m_N
        unfold m_grid
        rw [if_neg (by omega), if_neg (by omega)]
        exact hR.2.2.2.1 b (by show b < 3 ∨ n + 3 ≤ b; omega)
      · rw [m_adg_lt 0 (by omega)]; exact hR.2.2.2.2.1
      · rw [m_adg_lt 1 (by omega)]; exact hR.2.2.2.2.2.1
      · rw [m_adg_lt 2 (by omega)]; exact hR.2.2.2.2.2.2
    have k := hk _ _ _ _ _ h (m_adg ad n N q r9) ls H1 locs (cells + 1 + N) (slots + N + N * K) (fun i hi => (m_adg_lt i (by have : n0 ≤ n := hn0; omega)).trans (had i hi)) (by have : n0 ≤ n := hn0; show n0 ≤ n + 1 + N; omega) hrel hS1 (m_lh_agree m_adg_lt hlo hl) (m_lo_mono (by show n ≤ n + 1 + N; omega) hlo) (m_st_c (show n + 3 < n + 1 + N + 3 by omega) (m_st_mono (by show n ≤ n + 1 + N; omega) (m_st_t (m_st_t hst)))) (by show cells + 1 + N + (bd.1 - (1 + N)) ≤ mc; omega) (by show slots + N + N * K + (bd.2 - (N + N * K)) ≤ ms; omega)
    rw [List.map_cons, m_vs_agree m_adg_lt (m_st_t (m_st_t hst)), show m_v (m_adg ad n N q r9) (.ref (n + 3)) = .ref q from congrArg Value.ref (if_pos rfl)] at k
    exact k
  · exact h.elim
