theorem va_AOA.of' {ty : FieldType} {A : Array Value} {U : State} (h : (Cond.arrayOver (.array ty)).before A U = true) : va_AOA ty U := h
theorem m_aoOK : ∀ C ∈ m_aos, Cond.arrayOver (.object C) ∈ lw_tbl := by decide +kernel
theorem m_eqlen {args : Array Value} {s : State} {t : Term} {ty : FieldType} (h1 : (Cond.arrayOf t ty).before args s = true) (h2 : (Cond.eq (.length t) (.int 0)).before args s = true) : (Term.length t).eval args s none [] s = some (.int (Int32.ofNat 0)) := by
  have h3 : (Cond.eq (.length t) (.int 0)).holds args s none s [] = true := h2
  simp only [Cond.holds, Cond.value] at h3
  cases hv : (Term.length t).eval args s none [] s with
  | none => rw [hv] at h3; cases h3
  | some v =>
    rw [hv] at h3
    cases v <;> simp [Term.eval] at h3
    subst h3
    rfl
def m_flat : List Cond := flatC (Jvm.Cond.and given_1 narrow_1)
theorem m_instW : ∀ (k : Nat) (q : vw_C), vwCl[k]? = some q → Cond.instantiable q.1 q.2.2 ∈ lw_tbl ∧ ∀ w ∈ u_ws q.1 q.2.1 q.2.2, w ∈ m_WS := by
  intro k q hq
  match k, hq with
  | 0, hq => cases hq; exact ⟨List.mem_of_getElem? (i := 129) (by decide +kernel), in_Jx4a65c⟩
  | 1, hq => cases hq; exact ⟨List.mem_of_getElem? (i := 444) (by decide +kernel), in_X0⟩
  | 2, hq => cases hq; exact ⟨List.mem_of_getElem? (i := 708) (by decide +kernel), in_X1⟩
  | 3, hq => cases hq; exact ⟨List.mem_of_getElem? (i := 513) (by decide +kernel), in_X2⟩
  | 4, hq => cases hq; exact ⟨List.mem_of_getElem? (i := 53) (by decide +kernel), in_X3⟩
  | 5, hq => cases hq; exact ⟨List.mem_of_getElem? (i := 614) (by decide +kernel), in_X4⟩
  | 6, hq => cases hq; exact ⟨List.mem_of_getElem? (i := 566) (by decide +kernel), in_X5⟩
  | 7, hq => cases hq; exact ⟨List.mem_of_getElem? (i := 45) (by decide +kernel), in_X6⟩
  | k + 8, hq => exact absurd hq (by simp [vwCl])
theorem m_KC {s : State} {args : Array Value} (hts : ∀ w ∈ lw_tbl, w.before args s = true) : ∃ (dC : Nat → ClassId) (dI : Nat → Nat → Nat), ∀ (k : Nat) (q : vw_C), vwCl[k]? = some q → u_Kn s q.1 q.2.1 q.2.2 (dC k) (dI k) := by
  have h : ∀ k : Nat, ∃ (c : ClassId) (i : Nat → Nat), ∀ q : vw_C, vwCl[k]? = some q → u_Kn s q.1 q.2.1 q.2.2 c i := by
    intro k
    cases hk : vwCl[k]? with
    | none => exact ⟨0, fun _ => 0, fun q hq => by cases hq⟩
    | some q =>
      obtain ⟨h1, h2⟩ := m_instW k q hk
      obtain ⟨c, i, h3⟩ := u_known (C := q.1) (T := q.2.1) (N := q.2.2) (n := q.2.2) hts (fun w hw => (m_WSg (h2 w hw)).1) (hts _ h1)
      exact ⟨c, i, fun q' hq' => by cases hq'; exact h3⟩
  exact ⟨fun k => (h k).choose, fun k => (h k).choose_spec.choose, fun k q hq => (h k).choose_spec.choose_spec q hq⟩
theorem m_arrP {s : State} {args : Array Value} {ty : FieldType} (h : (Cond.arrayClass ty).before args s = true) (hp : ∀ cA : ClassId, s.vm.findClass ("[" ++ ty.toString) = some cA → va_RA s cA ty) : ∃ cA : ClassId, ArrOfT s cA ty ∧ va_RA s cA ty := by
  obtain ⟨c, k, comp, h1, h2, h3⟩ := Cond.arrayClass_spec h
  exact ⟨c, fun N z => ⟨(fun k9 h9 => by cases h9), k, h2, comp, h3⟩, hp c h1⟩
theorem m_arrO {s : State} {args : Array Value} {C : String} (h : (Cond.arrayOver (.object C)).before args s = true) : ∃ cA : ClassId, ArrOfT s cA (.object C) ∧ va_RA s cA (.object C) := by
  obtain ⟨comp, c, k, h1, h2, h3, h4, h5⟩ := Cond.arrayOver_spec h
  exact ⟨c, fun N z => ⟨(fun k9 h9 => by cases h9), k, h3, comp, h4⟩, k, comp, h3, h4, h1, h5⟩
theorem m_arrA {s : State} {args : Array Value} {t : FieldType} (h : (Cond.arrayOver (.array t)).before args s = true) : ∃ cA : ClassId, ArrOfT s cA (.array t) ∧ va_RA s cA (.array t) := by
  obtain ⟨comp, c, k, h1, h3, h4, h5⟩ := Cond.arrayOver_specA h
  exact ⟨c, fun N z => ⟨(fun k9 h9 => by cases h9), k, h3, comp, h4⟩, h5⟩
theorem m_KT {s : State} {args : Array Value} (hts : ∀ w ∈ lw_tbl, w.before args s = true) : ∃ cy : Nat → ClassId, ∀ (k : Nat) (q : ClassId × FieldType), (m_tys cy)[k]? = some q → ArrOfT s q.1 q.2 ∧ va_RA s q.1 q.2 := by
  obtain ⟨c0, a0⟩ := m_arrP (ty := .int) (hts _ (List.mem_of_getElem? (i := 123) (by decide +kernel))) (fun _ z => z)
  obtain ⟨c1, a1⟩ := m_arrP (ty := .boolean) (hts _ (List.mem_of_getElem? (i := 122) (by decide +kernel))) (fun _ z => z)
  obtain ⟨c2, a2⟩ := m_arrP (ty := .int) (hts _ (List.mem_of_getElem? (i := 123) (by decide +kernel))) (fun _ z => z)
  obtain ⟨c3, a3⟩ := m_arrA (t := .int) (hts _ (List.mem_of_getElem? (i := 61) (by decide +kernel)))
  obtain ⟨c4, a4⟩ := m_arrO (C := "Cablecourt$Cable") (hts _ (List.mem_of_getElem? (i := 59) (by decide +kernel)))
  obtain ⟨c5, a5⟩ := m_arrO (C := "Cablecourt$Demand") (hts _ (List.mem_of_getElem? (i := 63) (by decide +kernel)))
  obtain ⟨c6, a6⟩ := m_arrO (C := "Cablecourt$Cut") (hts _ (List.mem_of_getElem? (i := 125) (by decide +kernel)))
  obtain ⟨c7, a7⟩ := m_arrO (C := "Cablecourt$Ship") (hts _ (List.mem_of_getElem? (i := 127) (by decide +kernel)))
  obtain ⟨c8, a8⟩ := m_arrO (C := "java/lang/Object") (hts _ (List.mem_of_getElem? (i := 690) (by decide +kernel)))
  refine ⟨fun k => match k with
    | 0 => c0
    | 1 => c1
    | 2 => c2
    | 3 => c3
    | 4 => c4
    | 5 => c5
    | 6 => c6
    | 7 => c7
    | _ => c8, fun k q hq => ?_⟩
  match k, hq with
  | 0, hq => cases hq; exact a0
  | 1, hq => cases hq; exact a1
  | 2, hq => cases hq; exact a2
  | 3, hq => cases hq; exact a3
  | 4, hq => cases hq; exact a4
  | 5, hq => cases hq; exact a5
  | 6, hq => cases hq; exact a6
  | 7, hq => cases hq; exact a7
  | 8, hq => cases hq; exact a8
  | k + 9, hq => exact absurd hq (by simp [m_tys])
theorem m_str {s : State} {args : Array Value} {own tx : String} {k : Nat} (h1 : (Cond.stringRef own k tx).before args s = true) (h2 : (Cond.exactly (.string own k) "java/lang/String").before args s = true) : ∃ sa, vk_R own k tx sa s := by
  obtain ⟨a, -, -, -, h, -⟩ := Cond.exactly_spec h2
  exact ⟨a, vk_R.of h1 h⟩
theorem m_strOK : ∀ q ∈ m_strs, Cond.stringRef RX6 q.1 q.2 ∈ lw_tbl ∧ Cond.exactly (.string RX6 q.1) "java/lang/String" ∈ m_flat := by decide +kernel
theorem m_ncOK : ∀ q ∈ m_ncs, Cond.not (.castable q.1 q.2) ∈ m_flat := by decide +kernel
theorem m_start {p : Program} {s : State} {m : MethodId} {meth : Method} {c : Code} {l : Launch} (hflags : l.flags = flags0) {b L : Nat} {xs : Nat → Int32} (C0 : lw_At p s m meth c b L xs) : ∃ G : m_G, G.1 = s ∧ G.2.2.2.1.1 = b ∧ G.2.2.2.2 = (L, xs) ∧ m_GG l G := by
  obtain ⟨hx, hb, hr, hml, hown, hts, hX, hbl, hlocks, hgv⟩ := C0
  have hf : ∀ w ∈ m_flat, w.before #[Value.ref b] s = true := flat_of_before _ hgv
  obtain ⟨dC, dI, hKC⟩ := m_KC hts
  obtain ⟨cy, hKT⟩ := m_KT hts
  have hA : ∀ a : Nat, a < s.heap.size → ¬ (fun q : Nat => s.heap.size ≤ q) a := fun a h1 h2 => absurd h1 (Nat.not_lt.mpr h2)
  obtain ⟨mi, hmi⟩ := va_Mi.of (hf (.isRef (.mirror "[Ljava/lang/Object;")) (by decide +kernel))
  have hlen : (Term.length (.static "java/util/ArrayList" "DEFAULTCAPACITY_EMPTY_ELEMENTDATA" "[Ljava/lang/Object;")).eval #[Value.ref b] s none [] s = some (.int (Int32.ofNat 0)) := by
    obtain ⟨q, hq⟩ : ∃ q, va_Zq "java/util/ArrayList" "DEFAULTCAPACITY_EMPTY_ELEMENTDATA" "[Ljava/lang/Object;" (fun q : Nat => s.heap.size ≤ q) s s.heap ∧ q = 0 := ⟨0, va_Zqof (hts _ (List.mem_of_getElem? (i := 141) (by decide +kernel))) (hts _ (List.mem_of_getElem? (i := 26) (by decide +kernel))) (hf (.isRef (.static "java/util/ArrayList" "DEFAULTCAPACITY_EMPTY_ELEMENTDATA" "[Ljava/lang/Object;")) (by decide +kernel)) hA, rfl⟩
    exact m_eqlen (hf (.arrayOf (.static "java/util/ArrayList" "DEFAULTCAPACITY_EMPTY_ELEMENTDATA" "[Ljava/lang/Object;") (.object "java/lang/Object")) (by decide +kernel)) (hf (.eq (.length (.static "java/util/ArrayList" "DEFAULTCAPACITY_EMPTY_ELEMENTDATA" "[Ljava/lang/Object;")) (.int 0)) (by decide +kernel))
  obtain ⟨de, hde, hT⟩ := va_Tof (A := fun q : Nat => s.heap.size ≤ q) (N := 0) (f := fun _ => .null) (by decide) (hf (.arrayOf (.static "java/util/ArrayList" "DEFAULTCAPACITY_EMPTY_ELEMENTDATA" "[Ljava/lang/Object;") (.object "java/lang/Object")) (by decide +kernel)) hlen (fun j hj => absurd hj (Nat.not_lt_zero j)) hA
  refine ⟨(s, (dC, dI), cy, (b, de, mi), (L, xs)), rfl, rfl, rfl, by unfold Launch.stackTraces; rw [hflags]; decide +kernel, ⟨hKC, hKT⟩, ?_⟩
  refine ⟨fun w hw => ?_, fun C hC => ?_, va_AOA.of' (hts _ (List.mem_of_getElem? (i := 61) (by decide +kernel))), fun q hq => ?_, vx_Zqof (hts _ (List.mem_of_getElem? (i := 249) (by decide +kernel))) (hts _ (List.mem_of_getElem? (i := 27) (by decide +kernel))) (hf (.isRef (.static Bundle.tN "UNASSIGNED_STACK" Bundle.steD)) (by decide +kernel)) hA, vx_Zqof (hts _ (List.mem_of_getElem? (i := 251) (by decide +kernel))) (hts _ (List.mem_of_getElem? (i := 27) (by decide +kernel))) (hf (.isRef (.static Bundle.tN "SUPPRESSED_SENTINEL" Bundle.listD)) (by decide +kernel)) hA, fun q hq => va_Nc.of (hf _ (m_ncOK q hq)), hX, hbl, va_Zref (hts _ (List.mem_of_getElem? (i := 141) (by decide +kernel))) (hts _ (List.mem_of_getElem? (i := 26) (by decide +kernel))) hde hA, hT, hmi⟩
  · have h1 := List.mem_filter.mp hw
    have h2 := hts w h1.1
    have h3 := h1.2
    unfold m_cwd at h3
    split at h3
    · exact va_Nw.of rfl h2
    · exact va_Nw.of rfl h2
    · exact va_Nw.of rfl h2
    · cases h3
  · exact va_AO.of (hts _ (m_aoOK C hC))
  · exact m_str (hts _ (m_strOK q hq).1) (hf _ (m_strOK q hq).2)
