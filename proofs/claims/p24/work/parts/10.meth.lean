/-! METHODS OF THE SMALL MACHINE: what a call comes to, and that the Java machine comes to the same -/
def m_c1 : List Value → Bool
  | [] => true
  | Value.int _ :: t => m_c1 t
  | Value.ref _ :: t => m_c1 t
  | Value.null :: t => m_c1 t
  | _ => false
theorem m_c1_of {l : List Value} (h : m_c1 l = true) : ∀ v ∈ l, v.category = 1 := by
  induction l with
  | nil => intro v hv; cases hv
  | cons w t ih =>
    cases w <;> first | (refine List.forall_mem_cons.mpr ⟨rfl, ih h⟩) | cases h
def m_isW (w : Cond) : Bool := match w with
  | .codeWith _ _ _ _ _ => true
  | _ => false
/-- a method with a table of its own only returns -/
def m_thr (w : Cond) (o : m_R) : Prop := match o with
  | .inl _ => True
  | .inr _ => m_isW w = false
/-- a call, of so many frames at most -/
def m_Ev (cds : Nat → Nat → m_Op) (my : Nat → m_T) : Nat → m_call
  | 0 => fun _ _ _ _ _ => False
  | d + 1 => fun y args S o S' => m_thr (my y).2.1 o ∧ args.length ≤ (my y).2.2.2.1 ∧ m_c1 args = true ∧ m_W1 (cds y) (m_Ev cds my d) (fun o2 S2 => o2 = o ∧ S2 = S') 0 (m_ent (my y).2.2.2.1 args) [] ((my y).2.2.2.2.2.1, (my y).2.2.2.2.2.2) S
theorem m_args1 : ∀ (l : List Value) (i k : Nat) (v : Value), (∀ v ∈ l, v.category = 1) → l[k]? = some v → (i + k, v) ∈ lv_args i l := by
  intro l
  induction l with
  | nil => intro i k v _ h; cases h
  | cons w t ih =>
    intro i k v hc h
    have hw := hc w List.mem_cons_self
    cases k with
    | zero => cases h; exact List.mem_cons_self
    | succ k =>
      refine List.mem_cons_of_mem _ ?_
      rw [if_neg (by rw [hw]; decide)]
      have := ih (i + 1) k v (fun v hv => hc v (List.mem_cons_of_mem _ hv)) h
      rwa [show i + 1 + k = i + (k + 1) by omega] at this
theorem m_sl1 : ∀ (l : List Value), (∀ v ∈ l, v.category = 1) → (lg_sl l).length = l.length := by
  intro l
  induction l with
  | nil => intro _; rfl
  | cons w t ih =>
    intro hc
    have hw := hc w List.mem_cons_self
    show ((if w.category = 2 then [Slot.val w, .second] else [.val w]) ++ lg_sl t).length = _
    rw [if_neg (by rw [hw]; decide), List.length_append, ih (fun v hv => hc v (List.mem_cons_of_mem _ hv))]
    simp [Nat.add_comm]
theorem m_ent_at {n i : Nat} {args : List Value} {v : Value} (h : (m_ent n args)[i]? = some (some v)) : args[i]? = some v := by
  unfold m_ent at h
  by_cases hi : i < args.length
  · rw [List.getElem?_append_left (by rw [List.length_map]; exact hi), List.getElem?_map] at h
    cases ha : args[i]? with
    | none => rw [ha] at h; cases h
    | some w => rw [ha] at h; cases h; rfl
  · rw [List.getElem?_append_right (by rw [List.length_map]; omega), List.getElem?_replicate] at h
    split at h
    · cases h
    · cases h
theorem m_vcat {ad : Nat → Nat} {v : Value} : (m_v ad v).category = v.category := by cases v <;> rfl
/-- the locals at a method's entry -/
theorem m_entry {ad : Nat → Nat} {n : Nat} {args : List Value} {m : MethodId} (hn : args.length ≤ n) (hc : ∀ v ∈ args, v.category = 1) : ∃ ls : Array Slot, entryFrame m (args.map (m_v ad)).toArray n = F0 m 0 ls [] ∧ m_lh ad n (m_ent n args) ls := by
  have hc' : ∀ v ∈ args.map (m_v ad), v.category = 1 := fun v hv => by
    obtain ⟨w, hw, rfl⟩ := List.mem_map.mp hv
    rw [m_vcat]; exact hc w hw
  have hl := lv_entry (args.map (m_v ad)) (n := n) (by rw [m_sl1 _ hc', List.length_map]; exact hn)
  refine ⟨_, lg_entry_eq m _ n, hl.1, hl.2.1, by unfold m_ent; simp; omega, fun i v hv => ?_⟩
  have h1 := m_ent_at hv
  have h2 := m_args1 (args.map (m_v ad)) 0 i (m_v ad v) hc' (by rw [List.getElem?_map, h1]; rfl)
  rw [Nat.zero_add] at h2
  exact hl.2.2 _ h2
/-- what the law's start gives once for all -/
def m_GG (l : Launch) (G : m_G) : Prop := l.stackTraces = false ∧ va_K G.2.1 vwCl (m_tys G.2.2.1) G.1 ∧ m_XF G G.1
/-- how a method stands in the table: its words, its code, its own operations -/
def m_MOK (GP : m_G → Prop) (my : Nat → m_T) (cds : Nat → Nat → m_Op) (y : Nat) : Prop :=
  ∃ (own : String) (ini : Bool) (hh : List (Nat × Nat × Nat × Nat)), plainName (my y).1.cls = true ∧ own = (my y).1.cls ∧ (ini = true → (my y).1.name = "<init>") ∧
    ((hh = [] ∧ (my y).2.1 = Cond.code (my y).1 (my y).2.2.1 (my y).2.2.2.1 (my y).2.2.2.2.1) ∨ (hh ≠ [] ∧ (my y).2.1 = Cond.codeWith (my y).1 (my y).2.2.1 (my y).2.2.2.1 (my y).2.2.2.2.1 hh)) ∧
    ∀ pc : Nat, m_OK GP my ((my y).2.2.1, (my y).2.2.2.1, own, ini, (my y).2.2.2.2.1, hh) pc (cds y pc)
section METH
variable {l : Launch} {G : m_G} {p : Program} {e : Env} {s : State} {m : MethodId} {args : Array Value} {below : List Frame} {meth : Method} {c : Code} {s₁ : State}
theorem m_body {GP : m_G → Prop} {my : Nat → m_T} {d : Nat} {call : m_call} {T : m_T} {cd : Nat → m_Op} {own : String} {ini : Bool} {hh : List (Nat × Nat × Nat × Nat)} {as : List Value} {S S' : m_S} {o : m_R} {ad : Nat → Nat}
    (hGP : GP G) (hG : m_GG l G) (hcall : m_callOK l G d my call) (hown : own = T.1.cls) (hini : ini = true → T.1.name = "<init>")
    (hok : ∀ pc : Nat, m_OK GP my (T.2.2.1, T.2.2.2.1, own, ini, T.2.2.2.2.1, hh) pc (cd pc)) (hn : as.length ≤ T.2.2.2.1) (hc1 : m_c1 as = true)
    (hW : m_W1 cd call (fun o2 S2 => o2 = o ∧ S2 = S') 0 (m_ent T.2.2.2.1 as) [] (T.2.2.2.2.2.1, T.2.2.2.2.2.2) S) (hv : ∀ v ∈ as, m_vok S.1 v)
    (B : BodyLoose p l T.1 (headSpec (T.2.1 :: m_WS) (m_rm (d + 1) T.2.2.2.2.2.1 T.2.2.2.2.2.2)) T.2.2.1 T.2.2.2.1 T.2.2.2.2.1 e s m args below meth c s₁) (hml : c.maxLocals = T.2.2.2.1)
    (htab : hh = [] → ∀ x ∈ c.exceptionTable.toList, False) (htab2 : hh ≠ [] → c.exceptionTable.toList = tableOf hh) (hno : hh ≠ [] → ∃ ov, o = .inl ov) (hP : m_Pc G ad as S args s) :
    W p l e (headSpec (T.2.1 :: m_WS) (m_rm (d + 1) T.2.2.2.2.2.1 T.2.2.2.2.2.2)).room s m args below meth c s.heap [] 0 0 (vx_MQ below (m_Qc G ad S.1 o S') (m_XC G ad S.1 o S') args s T.2.2.2.2.2.1 T.2.2.2.2.2.2 (m_AG G)) (entryFrame m args T.2.2.2.1) := by
  obtain ⟨rfl, hX, hR⟩ := hP
  obtain ⟨hst, hK, hXF⟩ := hG
  have hts : ∀ w ∈ m_WS, w.before (as.map (m_v ad)).toArray s = true := fun w hw => atoms_spec (ws := T.2.1 :: m_WS) B.pre w (List.mem_cons_of_mem _ hw)
  have hC : m_Cx G p (m_rm (d + 1) T.2.2.2.2.2.1 T.2.2.2.2.2.2) s m (as.map (m_v ad)).toArray meth c d (T.2.2.1, T.2.2.2.1, own, ini, T.2.2.2.2.1, hh) :=
    ⟨B.exec, B.bytes, hml, by rw [hown]; exact findClass_of_methodNamed B.named, hts, hK.moved hX.1.alike, hX.2.1, fun h => by rw [(name_of_methodNamed B.named B.method).1]; exact hini h, B.notSynchronized, by show d + 11 ≤ d + 1 + 10; omega, by show 40 * d + 240 ≤ 40 * (d + 1) + 200; omega, hX, hXF.mv (Nat.le_refl _) hX.1 hX.2.2, htab2⟩
  obtain ⟨ls, e1, hl⟩ := m_entry (ad := ad) (m := m) hn (m_c1_of hc1)
  rw [e1]
  have hlk := B.notSynchronized
  have hr := B.returns
  have hE : m_End l G p e (m_rm (d + 1) T.2.2.2.2.2.1 T.2.2.2.2.2.2) s m (as.map (m_v ad)).toArray below meth c (T.2.2.1, T.2.2.2.1, own, ini, T.2.2.2.2.1, hh) S.1 ad T.2.2.2.2.2.1 T.2.2.2.2.2.2 (fun o2 S2 => o2 = o ∧ S2 = S') (vx_MQ below (m_Qc G ad S.1 o S') (m_XC G ad S.1 o S') (as.map (m_v ad)).toArray s T.2.2.2.2.2.1 T.2.2.2.2.2.2 (m_AG G)) := by
    constructor
    · rintro ov S2 i ⟨rfl, rfl⟩ hf ad2 ls2 H2 locs2 cells2 slots2 pc2 hag hle hrel hS2 hov hc2 hs2 hd2
      refine W.widen hc2 hs2 (vx_ret ?_)
      have hq : ∀ (v : Option Value), v = ov.map (m_v ad2) → ∀ t : State, t.heap = H2 → s.WarmedH t.vm → m_Qc G ad S.1 (.inl ov) S2 (as.map (m_v ad)).toArray s (.returned v) t := fun v hv t ht _ =>
        ⟨⟨ov, ad2, rfl, hag, hle, by rw [hv], hov, by rw [ht]; exact hrel⟩, hS2.F ht⟩
      rcases hf with ⟨h1, rfl, x, rfl⟩ | ⟨h1, rfl, h2⟩ | ⟨h1, rfl, rfl⟩ | ⟨⟨C, h1⟩ | ⟨C, h1⟩, rfl, x, rfl⟩
      · exact W.iret (v := x) B.exec B.bytes (hr.trans h1) (hq _ rfl) hS2.2.2 hd2 hlk
      · rcases h2 with rfl | rfl
        · exact W.zret (v := 0) B.exec B.bytes (hr.trans h1) (by decide) (hq _ rfl) hS2.2.2 hd2 hlk
        · exact W.zret (v := 1) B.exec B.bytes (hr.trans h1) (by decide) (hq _ rfl) hS2.2.2 hd2 hlk
      · exact W.vret B.exec B.bytes (hr.trans h1) (hq _ rfl) hS2.2.2 hd2 hlk
      · exact W.aret (v := .ref (ad2 x)) B.exec B.bytes (hr.trans h1) (Or.inl ⟨C, rfl⟩) (Or.inr ⟨_, rfl⟩) (hq _ rfl) hS2.2.2 hd2 hlk
      · exact W.aret (v := .ref (ad2 x)) B.exec B.bytes (hr.trans h1) (Or.inr ⟨C, rfl⟩) (Or.inr ⟨_, rfl⟩) (hq _ rfl) hS2.2.2 hd2 hlk
    · by_cases h0 : hh = []
      · refine Or.inr ⟨hst, htab h0, _, _, rfl, ?_⟩
        rintro E2 S2 ⟨rfl, rfl⟩ ad2 H2 locs2 t hag hle hrel hS2 hvm hz hk2
        refine ⟨rfl, ⟨ad2, hag, hle, ?_⟩, ?_⟩
        · exact ⟨hrel.1.kept (fun k q hk => hk2 q.1 ((hrel.1 k q hk).lt)), hrel.2⟩
        · exact ⟨Nat.le_trans hS2.1 hz, fun q h1 h2 => by rw [hk2 q (Nat.lt_of_lt_of_le h1 hS2.1)]; exact hS2.2.1 q h1 h2⟩
      · obtain ⟨ov, rfl⟩ := hno h0
        refine Or.inl ?_
        rintro E2 S2 ⟨h, -⟩
        cases h
  have hP := hW (m_W l G p e (m_rm (d + 1) T.2.2.2.2.2.1 T.2.2.2.2.2.2) s m (as.map (m_v ad)).toArray below meth c T.2.2.2.1 S.1 ad T.2.2.2.2.2.1 T.2.2.2.2.2.2 (vx_MQ below (m_Qc G ad S.1 o S') (m_XC G ad S.1 o S') (as.map (m_v ad)).toArray s T.2.2.2.2.2.1 T.2.2.2.2.2.2 (m_AG G)))
    (fun pc lo st bd S kk hkk hop => hok pc l G p e (m_rm (d + 1) T.2.2.2.2.2.1 T.2.2.2.2.2.2) s m (as.map (m_v ad)).toArray below meth c d call _ ad _ _ _ (fun o2 S2 => o2 = o ∧ S2 = S') kk hGP hC hcall (Nat.le_refl _) (Nat.le_refl _) hE hkk lo st bd S hop)
  exact hP ad ls s.heap [] 0 0 (fun _ _ => rfl) (Nat.le_refl _) hR va_S.rf hl (fun i v h => by
    have h1 := m_ent_at h
    exact ⟨hv v (List.mem_of_getElem? h1), Or.inl (m_c1_of hc1 v (List.mem_of_getElem? h1))⟩) (fun v hv => by cases hv) (by show 0 + _ ≤ _; omega) (by show 0 + _ ≤ _; omega)
end METH
theorem m_sound {GP : m_G → Prop} {my : Nat → m_T} {cds : Nat → Nat → m_Op} (hM : ∀ y, m_MOK GP my cds y) {l : Launch} {G : m_G} (hGP : GP G) (hG : m_GG l G) : ∀ d : Nat, m_callOK l G d my (m_Ev cds my d) := by
  intro d
  induction d with
  | zero => intro y as S o S' h; exact h.elim
  | succ d ih =>
    intro y as S o S' h ad hv
    obtain ⟨hth, hn, hc1, hW⟩ := h
    obtain ⟨own, ini, hh, hpl, hown, hini, hcw, hok⟩ := hM y
    rcases hcw with ⟨h0, hcw⟩ | ⟨h0, hcw⟩
    · refine vx_ofW (cc := (my y).2.2.1) (maxL := (my y).2.2.2.1) (ret := (my y).2.2.2.2.1) (ws' := m_WS) hpl (by rw [hcw]) (fun p e s m args below meth c s₁ B hml htab hP => ?_)
      exact m_body hGP hG ih hown hini hok hn hc1 hW hv B hml (fun _ => htab) (fun h => absurd h0 h) (fun h => absurd h0 h) hP
    · refine vx_ofWH (cc := (my y).2.2.1) (maxL := (my y).2.2.2.1) (ret := (my y).2.2.2.2.1) (ws' := m_WS) (hh := hh) hpl (by rw [hcw]) (fun p e s m args below meth c s₁ B hml hP => ?_)
      have hco : (Cond.codeWith (my y).1 (my y).2.2.1 (my y).2.2.2.1 (my y).2.2.2.2.1 hh).before args s = true := atoms_spec (ws := (my y).2.1 :: m_WS) B.pre _ (by rw [hcw]; exact List.mem_cons_self)
      by_cases ho : ∃ ov, o = .inl ov
      · exact m_body hGP hG ih hown hini hok hn hc1 hW hv B hml (fun h => absurd h h0) (fun _ => vx_table (x := (my y).1) B hco) (fun _ => ho) hP
      · cases o with
        | inl ov => exact absurd ⟨ov, rfl⟩ ho
        | inr E9 =>
          rw [hcw] at hth
          cases hth
