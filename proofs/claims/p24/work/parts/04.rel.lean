/-! WHAT A STATE OF THE SMALL MACHINE MEANS IN THE HEAP -/
def m_v (ad : Nat → Nat) (v : Value) : Value := match v with
  | .ref a => .ref (ad a)
  | w => w
def m_e (cy : Nat → ClassId) (ad : Nat → Nat) (c : m_C) : va_E := match c with
  | Sum.inl (k, n, f) => .inl (cy k, n, .inl f)
  | Sum.inr (Sum.inl (n, f)) => .inl (cy 2, n, .inr (.inl f))
  | Sum.inr (Sum.inr (Sum.inl (k, n, f))) => .inl (cy k, n, .inr (.inr (.inr (.inr (fun j => (f j).map ad)))))
  | Sum.inr (Sum.inr (Sum.inr (Sum.inl (ci, fs)))) => .inr (ci, fs.map (m_v ad))
  | Sum.inr (Sum.inr (Sum.inr (Sum.inr _))) => .inr (0, [])
def m_w (cy : Nat → ClassId) (ad : Nat → Nat) (S : m_S) : va_W := (List.range S.1).map (fun i => (ad (i + 3), m_e cy ad (S.2 (i + 3))))
def m_vok (n : Nat) (v : Value) : Prop := match v with
  | .ref a => a < n + 3
  | _ => True
def m_cok (n : Nat) (c : m_C) : Prop := match c with
  | Sum.inr (Sum.inr (Sum.inl (_, _, f))) => ∀ j a, f j = some a → a < n + 3
  | Sum.inr (Sum.inr (Sum.inr (Sum.inl (_, fs)))) => ∀ v ∈ fs, m_vok n v
  | _ => True
theorem m_vok.mono {n n' : Nat} {v : Value} (h : m_vok n v) (hn : n ≤ n') : m_vok n' v := by
  cases v <;> first | trivial | (have h1 : _ < n + 3 := h; show _ < n' + 3; omega)
theorem m_cok.mono {n n' : Nat} {c : m_C} (h : m_cok n c) (hn : n ≤ n') : m_cok n' c := by
  rcases c with ⟨k, m, f⟩ | ⟨m, f⟩ | ⟨k, m, f⟩ | ⟨ci, fs⟩ | _
  · trivial
  · trivial
  · exact fun j a ha => Nat.lt_of_lt_of_le (h j a ha) (by omega)
  · exact fun v hv => (h v hv).mono hn
  · trivial
theorem m_v_agree {n : Nat} {ad ad' : Nat → Nat} {v : Value} (h : ∀ i, i < n + 3 → ad' i = ad i) (hv : m_vok n v) : m_v ad' v = m_v ad v := by
  cases v <;> first | rfl | (have h1 : _ < n + 3 := hv; show Value.ref _ = Value.ref _; rw [h _ h1])
theorem m_vs_agree {n : Nat} {ad ad' : Nat → Nat} {l : List Value} (h : ∀ i, i < n + 3 → ad' i = ad i) (hv : ∀ v ∈ l, m_vok n v) : l.map (m_v ad') = l.map (m_v ad) :=
  List.map_congr_left fun v h1 => m_v_agree h (hv v h1)
theorem m_e_agree {cy : Nat → ClassId} {n : Nat} {ad ad' : Nat → Nat} {c : m_C} (h : ∀ i, i < n + 3 → ad' i = ad i) (hc : m_cok n c) : m_e cy ad' c = m_e cy ad c := by
  rcases c with ⟨k, m, f⟩ | ⟨m, f⟩ | ⟨k, m, f⟩ | ⟨ci, fs⟩ | _
  · rfl
  · rfl
  · show Sum.inl _ = Sum.inl _
    congr 7
    funext j
    cases hf : f j with
    | none => rfl
    | some a => show some (ad' a) = some (ad a); rw [h a (hc j a hf)]
  · show Sum.inr _ = Sum.inr _
    congr 2
    exact m_vs_agree h hc
  · rfl
theorem m_w_at {cy : Nat → ClassId} {ad : Nat → Nat} {S : m_S} {a : Nat} (h1 : 3 ≤ a) (h2 : a < S.1 + 3) : (m_w cy ad S)[a - 3]? = some (ad a, m_e cy ad (S.2 a)) := by
  unfold m_w
  rw [List.getElem?_map, List.getElem?_range (by omega)]
  show some (ad (a - 3 + 3), m_e cy ad (S.2 (a - 3 + 3))) = _
  rw [show a - 3 + 3 = a by omega]
theorem m_w_len {cy : Nat → ClassId} {ad : Nat → Nat} {S : m_S} : (m_w cy ad S).length = S.1 := by unfold m_w; simp
theorem m_w_set {cy : Nat → ClassId} {ad : Nat → Nat} {n : Nat} {h : Nat → m_C} {a : Nat} {c : m_C} (h1 : 3 ≤ a) (_h2 : a < n + 3) : (m_w cy ad (n, h)).set (a - 3) (ad a, m_e cy ad c) = m_w cy ad (n, m_up h a c) := by
  apply List.ext_getElem?
  intro i
  rw [List.getElem?_set, m_w_len]
  unfold m_w
  simp only [List.getElem?_map]
  by_cases hi : i < n
  · simp only [List.getElem?_range hi, Option.map_some]
    by_cases he : a - 3 = i
    · subst he
      simp only [if_true, hi]
      rw [show a - 3 + 3 = a by omega, m_up_eq]
    · simp only [he, if_false]
      rw [m_up_ne (by omega)]
  · have h0 : (List.range n)[i]? = none := List.getElem?_eq_none (by rw [List.length_range]; omega)
    simp only [h0, Option.map_none]
    by_cases he : a - 3 = i
    · simp [he, hi]
    · simp [he]
theorem m_w_push {cy : Nat → ClassId} {ad : Nat → Nat} {n q : Nat} {h : Nat → m_C} {c : m_C} (hok : ∀ a, m_cok n (h a)) (hc : m_cok n c) : m_w cy ad (n, h) ++ [(q, m_e cy ad c)] = m_w cy (va_up ad (n + 3) q) (n + 1, m_up h (n + 3) c) := by
  have hag : ∀ i, i < n + 3 → va_up ad (n + 3) q i = ad i := fun i hi => if_neg (by omega)
  unfold m_w
  rw [List.range_succ, List.map_append]
  congr 1
  · apply List.map_congr_left
    intro i hi
    have hi := List.mem_range.mp hi
    show (ad (i + 3), m_e cy ad (h (i + 3))) = (va_up ad (n + 3) q (i + 3), m_e cy (va_up ad (n + 3) q) (m_up h (n + 3) c (i + 3)))
    rw [hag _ (by omega), m_up_ne (by omega), m_e_agree hag (hok _)]
  · show [(q, m_e cy ad c)] = [(va_up ad (n + 3) q (n + 3), m_e cy (va_up ad (n + 3) q) (m_up h (n + 3) c (n + 3)))]
    rw [m_up_eq, m_e_agree hag hc, show va_up ad (n + 3) q (n + 3) = q from if_pos rfl]
def m_tys (cy : Nat → ClassId) : List (ClassId × FieldType) := [(cy 0, .int), (cy 1, .boolean), (cy 2, .int), (cy 3, .array .int), (cy 4, .object "Cablecourt$Cable"), (cy 5, .object "Cablecourt$Demand"), (cy 6, .object "Cablecourt$Cut"), (cy 7, .object "Cablecourt$Ship"), (cy 8, .object "java/lang/Object")]
abbrev m_A (s0 : State) : Nat → Prop := fun q => s0.heap.size ≤ q
/-- what stays the same from the law's first state on: that state, the classes' numbers, the rows' classes, the addresses of the script, of the empty row and of the class of rows of objects, the script -/
abbrev m_G : Type := State × va_G × (Nat → ClassId) × (Nat × Nat × Nat) × (Nat × (Nat → Int32))
abbrev m_AG (G : m_G) : Nat → Prop := fun q => G.1.heap.size ≤ q
def m_Rel (G : m_G) (ad : Nat → Nat) (S : m_S) (H : Heap) : Prop := va_P G.2.1 vwCl (m_w G.2.2.1 ad S) H ∧ va_D (m_AG G) (m_w G.2.2.1 ad S) ∧ (∀ a, m_cok S.1 (S.2 a)) ∧ (∀ a, (a < 3 ∨ S.1 + 3 ≤ a) → S.2 a = m_N) ∧ ad 0 = G.2.2.2.1.1 ∧ ad 1 = G.2.2.2.1.2.1 ∧ ad 2 = G.2.2.2.1.2.2
def m_CTX (G : m_G) (U : State) : Prop := G.1.WarmedH U.vm ∧ G.1.heap.size ≤ U.heap.size ∧ ∀ q, q < G.1.heap.size → U.heap[q]? = G.1.heap[q]?
def m_strs : List (Nat × String) := [(171, "the hours are over"), (166, "the ship is sent, or not at a landing"), (140, "the cable is not whole"), (109, "the member owns fewer strands"), (289, "a ship is sent to the cut"), (287, "the cut is mended"), (285, "there are no more"), (283, "out of range"), (280, "both are the same"), (276, "no such cable, demand, cut or ship"), (274, "no such member"), (271, "no such landing")]
def m_aos : List String := ["Cablecourt$Cable", "Cablecourt$Demand", "Cablecourt$Cut", "Cablecourt$Ship", "java/lang/Object"]
def m_ios : String := "java/lang/IndexOutOfBoundsException"
def m_ias : String := "java/lang/IllegalArgumentException"
def m_iss : String := "java/lang/IllegalStateException"
def m_ncs : List (String × String) := [(m_ios, m_ias), (m_ios, m_iss), (m_ias, m_ios), (m_ias, m_iss), (m_iss, m_ios), (m_iss, m_ias)]
/-- what else is so in each state: words, arrays' classes, texts, the JDK's statics, the script -/
def m_XF (G : m_G) (s : State) : Prop := (∀ w ∈ m_CW, va_Nw w s) ∧ (∀ C ∈ m_aos, va_AO C s) ∧ va_AOA .int s ∧ (∀ q ∈ m_strs, ∃ sa, vk_R RX6 q.1 q.2 sa s) ∧ vx_Zq Bundle.tN "UNASSIGNED_STACK" Bundle.steD (m_AG G) s s.heap ∧ vx_Zq Bundle.tN "SUPPRESSED_SENTINEL" Bundle.listD (m_AG G) s s.heap ∧ (∀ q ∈ m_ncs, va_Nc q.1 q.2 s) ∧ va_X G.2.2.2.1.1 G.2.2.2.2.1 G.2.2.2.2.2 s s.heap ∧ G.2.2.2.1.1 < G.1.heap.size ∧ va_Z "java/util/ArrayList" "DEFAULTCAPACITY_EMPTY_ELEMENTDATA" "[Ljava/lang/Object;" (.ref G.2.2.2.1.2.1) (m_AG G) s s.heap ∧ va_T (.object "java/lang/Object") G.2.2.2.1.2.1 0 (fun _ => .null) (m_AG G) s s.heap ∧ va_Mi "[Ljava/lang/Object;" G.2.2.2.1.2.2 s
theorem va_AOA.moved {ty : FieldType} {u U : State} (hvm : u.vm.Alike U.vm) (h : va_AOA ty u) : va_AOA ty U := by
  obtain ⟨comp, c, k, h1, h3, h4, h5⟩ := Cond.arrayOver_specA h
  have h2 : (u.vm.classes.findIdx? fun (x : Class) => match x.kind with | .array component _ => component == comp | _ => false) = some c := by
    have h' : (Cond.arrayOver (.array ty)).holds #[] u none u [] = true := h
    simp only [Cond.holds, Cond.value, beq_iff_eq, h1, Option.bind_some, Option.bind_eq_some_iff, Option.map_eq_some_iff] at h'
    obtain ⟨c2, hi, k2, hk2, hb⟩ := h'
    split at hb
    · simp only [Bool.and_eq_true, decide_eq_true_eq] at hb
      have : c2 = c := by have := hb.2.symm.trans h5; cases this; rfl
      rw [← this]
      exact hi
    · cases hb
  obtain ⟨k', hk', he⟩ := hvm.2.2 _ _ h3
  have hi : (U.vm.classes.findIdx? fun (x : Class) => match x.kind with | .array component _ => component == comp | _ => false) = some c := by
    have hb : u.vm.bare = U.vm.bare := by first | exact hvm.bare_eq | exact hvm.bare_eq.symm
    have e1 := va_idx_bare U.vm comp
    have e2 := va_idx_bare u.vm comp
    rw [hb] at e2
    exact (e1.symm.trans e2).trans h2
  have hkind : k'.kind = .array comp (.array ty) := by rw [he]; exact h4
  have f1 : U.vm.findClass (FieldType.array ty).toString = some comp := by rw [hvm.findClass]; exact h1
  have f2 : U.vm.findClass ("[" ++ (FieldType.array ty).toString) = some c := by rw [hvm.findClass]; exact h5
  show (Cond.arrayOver (.array ty)).holds #[] U none U [] = true
  simp only [Cond.holds, Cond.value, beq_iff_eq, f1, Option.bind_some, Option.bind_eq_some_iff, Option.map_eq_some_iff]
  refine ⟨c, hi, k', hk', ?_⟩
  simp [hkind, f2]
theorem m_XF.mv {G : m_G} {u U : State} (h : m_XF G u) (hu : G.1.heap.size ≤ u.heap.size) (hW : u.WarmedH U.vm) (hh : ∀ q, q < G.1.heap.size → U.heap[q]? = u.heap[q]?) : m_XF G U := by
  obtain ⟨h1, h2, h3, h4, h5, h6, h7, h8, h9, h10, h11, h12⟩ := h
  have hA : ∀ a : Nat, a < u.heap.size → ¬ m_AG G a → U.heap[a]? = u.heap[a]? := fun a _ ha => hh a (Nat.not_le.mp ha)
  refine ⟨fun w hw => ?_, fun C hC => (h2 C hC).moved hW.alike, h3.moved hW.alike, fun q hq => ?_, (h5.moved hW.alike).kept hA, (h6.moved hW.alike).kept hA, fun q hq => (h7 q hq).moved hW.alike, (h8.moved hW.alike).kept (hh _ h9), h9, (h10.moved hW.alike).kept hA, (h11.moved hW.alike).kept hA, h12.moved hW.alike⟩
  · have hc := (List.mem_filter.mp hw).2
    unfold m_cwd at hc
    split at hc
    · exact va_Nw.warmC hW (h1 _ hw)
    · exact va_Nw.warmM hW (h1 _ hw)
    · exact va_Nw.warmD hW (h1 _ hw)
    · cases hc
  · obtain ⟨sa, h⟩ := h4 q hq
    exact ⟨sa, h.warm hW⟩
def m_lh (ad : Nat → Nat) (nL : Nat) (lo : m_L) (ls : Array Slot) : Prop := ls.size = nL ∧ lv_wf ls ∧ lo.length = nL ∧ ∀ (i : Nat) (v : Value), lo[i]? = some (some v) → ls[i]? = some (.val (m_v ad v))
theorem m_in {S : m_S} {a : Nat} (h : ∀ a, (a < 3 ∨ S.1 + 3 ≤ a) → S.2 a = m_N) (hn : S.2 a ≠ m_N) : 3 ≤ a ∧ a < S.1 + 3 := by
  by_cases h1 : a < 3 ∨ S.1 + 3 ≤ a
  · exact absurd (h a h1) hn
  · omega
theorem m_good {ws : List Cond} (h : ∀ w ∈ ws, w ∈ m_WS) : GoodIn m_WS ws := fun w hw => ⟨h w hw, good_of_word (m_WSg (h w hw)).2⟩
abbrev m_E : Type := ByteArray × Nat × String × Bool × Option FieldType × List (Nat × Nat × Nat × Nat)
/-- a method of the table: its name, its code's word, its bytes, its locals, what it answers with, the cells and slots that a call may cost -/
abbrev m_T : Type := MethodName × Cond × ByteArray × Nat × Option FieldType × Nat × Nat
def m_Pc (G : m_G) (ad : Nat → Nat) (args : List Value) (S : m_S) : Array Value → State → Prop := fun v U => v = (args.map (m_v ad)).toArray ∧ m_CTX G U ∧ m_Rel G ad S U.heap
def m_Qc (G : m_G) (ad : Nat → Nat) (n : Nat) (o : m_R) (S' : m_S) : Array Value → State → Outcome → State → Prop := fun _ st oc t => (∃ (ov : Option Value) (ad' : Nat → Nat), o = .inl ov ∧ (∀ i, i < n + 3 → ad' i = ad i) ∧ n ≤ S'.1 ∧ oc = .returned (ov.map (m_v ad')) ∧ (∀ v, ov = some v → m_vok S'.1 v) ∧ m_Rel G ad' S' t.heap) ∧ va_F (m_AG G) st t
def m_XC (G : m_G) (ad : Nat → Nat) (n : Nat) (o : m_R) (S' : m_S) : String → State → State → Prop := fun E st t => o = .inr E ∧ (∃ ad' : Nat → Nat, (∀ i, i < n + 3 → ad' i = ad i) ∧ n ≤ S'.1 ∧ m_Rel G ad' S' t.heap) ∧ va_F (m_AG G) st t
def m_rm (dp mc ms : Nat) : Room := { frames := dp + 10, cells := mc, slots := ms, locals := 40 * dp + 200 }
/-- a call's contract, of one call alone -/
def m_Con (l : Launch) (G : m_G) (dp : Nat) (T : m_T) (args : List Value) (S : m_S) (o : m_R) (S' : m_S) : Prop :=
  ∀ ad : Nat → Nat, (∀ v ∈ args, m_vok S.1 v) → vx_Met l T.1 (T.2.1 :: m_WS) (m_rm dp T.2.2.2.2.2.1 T.2.2.2.2.2.2) (m_Pc G ad args S) (m_Qc G ad S.1 o S') (m_XC G ad S.1 o S') T.2.2.2.2.2.1 T.2.2.2.2.2.2 (m_AG G)
section MW
variable (l : Launch) (G : m_G) (p : Program) (e : Env) (R : Room) (s : State) (m : MethodId) (args : Array Value) (below : List Frame) (meth : Method) (c : Code)
def m_W (nL n0 : Nat) (ad0 : Nat → Nat) (mc ms : Nat) (Q : State → Prop) (pc : Nat) (lo : m_L) (st : List Value) (bd : Nat × Nat) (S : m_S) : Prop :=
  ∀ (ad : Nat → Nat) (ls : Array Slot) (H : Heap) (locs : List Loc) (cells slots : Nat), (∀ i, i < n0 + 3 → ad i = ad0 i) → n0 ≤ S.1 → m_Rel G ad S H → va_S (m_AG G) s.heap H locs → m_lh ad nL lo ls →
    (∀ (i : Nat) (v : Value), lo[i]? = some (some v) → m_vok S.1 v ∧ (v.category = 1 ∨ nL = 21)) → (∀ v ∈ st, m_vok S.1 v) → cells + bd.1 ≤ mc → slots + bd.2 ≤ ms → W p l e R s m args below meth c H locs cells slots Q (F0 m pc ls (st.map (m_v ad)))
/-- what holds all through a method's body: its code, its locals, its class, whether it is a constructor; the tables; the script -/
def m_Cx (dp : Nat) (E : m_E) : Prop :=
  p.tables.exec = Jvm.exec ∧ c.code = E.1 ∧ c.maxLocals = E.2.1 ∧ s.vm.findClass E.2.2.1 = some m.cls ∧ (∀ w ∈ m_WS, w.before args s = true) ∧ va_K G.2.1 vwCl (m_tys G.2.2.1) s ∧ G.1.heap.size ≤ s.heap.size ∧ (E.2.2.2.1 = true → meth.name = "<init>") ∧ meth.locks = false ∧ dp + 11 ≤ R.frames ∧ 40 * dp + 240 ≤ R.locals ∧ m_CTX G s ∧ m_XF G s ∧ (E.2.2.2.2.2 ≠ [] → c.exceptionTable.toList = tableOf E.2.2.2.2.2)
/-- what an answer may be -/
def m_fit (ret : Option FieldType) (ov : Option Value) (i : Instr) : Prop := (ret = some .int ∧ i = .ireturn ∧ ∃ x : Int32, ov = some (.int x)) ∨ (ret = some .boolean ∧ i = .ireturn ∧ (ov = some (.int 0) ∨ ov = some (.int 1))) ∨ (ret = none ∧ i = .return_ ∧ ov = none) ∨ (((∃ C, ret = some (.object C)) ∨ ∃ t, ret = some (.array t)) ∧ i = .areturn ∧ ∃ x : Nat, ov = some (.ref x))
def m_End (E : m_E) (n0 : Nat) (ad0 : Nat → Nat) (mc ms : Nat) (r : m_R → m_S → Prop) (Q : State → Prop) : Prop :=
  (∀ (ov : Option Value) (S' : m_S) (i : Instr), r (.inl ov) S' → m_fit E.2.2.2.2.1 ov i → ∀ (ad : Nat → Nat) (ls : Array Slot) (H : Heap) (locs : List Loc) (cells slots pc : Nat), (∀ i, i < n0 + 3 → ad i = ad0 i) → n0 ≤ S'.1 → m_Rel G ad S' H → va_S (m_AG G) s.heap H locs → (∀ v, ov = some v → m_vok S'.1 v) → cells ≤ mc → slots ≤ ms → decode E.1 pc = .ok (i, 1) → W p l e R s m args below meth c H locs cells slots Q (F0 m pc ls (ov.toList.map (m_v ad)))) ∧
  ((∀ (E' : String) (S' : m_S), ¬ r (.inr E') S') ∨ (l.stackTraces = false ∧ (∀ x ∈ c.exceptionTable.toList, False) ∧ ∃ Qc XC, Q = vx_MQ below Qc XC args s mc ms (m_AG G) ∧
    ∀ (E' : String) (S' : m_S), r (.inr E') S' → ∀ (ad : Nat → Nat) (H : Heap) (locs : List Loc) (t : State), (∀ i, i < n0 + 3 → ad i = ad0 i) → n0 ≤ S'.1 → m_Rel G ad S' H → va_S (m_AG G) s.heap H locs → s.vm.Alike t.vm → H.size ≤ t.heap.size → (∀ q : Nat, q < H.size → t.heap[q]? = H[q]?) → XC E' s t))
end MW
def m_callOK (l : Launch) (G : m_G) (dp : Nat) (my : Nat → m_T) (call : m_call) : Prop := ∀ (y : Nat) (args : List Value) (S : m_S) (o : m_R) (S' : m_S), call y args S o S' → m_Con l G dp (my y) args S o S'
/-- an operation is what the instruction at this place does -/
def m_OK (GP : m_G → Prop) (my : Nat → m_T) (E : m_E) (pc : Nat) (op : m_Op) : Prop :=
  ∀ (l : Launch) (G : m_G) (p : Program) (e : Env) (R : Room) (s : State) (m : MethodId) (args : Array Value) (below : List Frame) (meth : Method) (c : Code) (dp : Nat) (call : m_call) (n0 : Nat) (ad0 : Nat → Nat) (mc ms : Nat) (Q : State → Prop) (r : m_R → m_S → Prop) (kk : m_K),
    GP G → m_Cx G p R s m args meth c dp E → m_callOK l G dp my call → mc ≤ R.cells → ms ≤ R.slots → m_End l G p e R s m args below meth c E n0 ad0 mc ms r Q →
    (∀ pc lo st bd S, kk pc lo st bd S → m_W l G p e R s m args below meth c E.2.1 n0 ad0 mc ms Q pc lo st bd S) → ∀ (lo : m_L) (st : List Value) (bd : Nat × Nat) (S : m_S), op call lo st bd S kk r → m_W l G p e R s m args below meth c E.2.1 n0 ad0 mc ms Q pc lo st bd S
