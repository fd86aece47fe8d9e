theorem m_dk {cc : ByteArray} {L : List (Nat × Instr × Nat)} (h : ∀ q ∈ L, decode cc q.1 = .ok q.2) {pc len : Nat} {i : Instr} (k : Nat) (hk : L[k]? = some (pc, i, len)) : decode cc pc = .ok (i, len) := h (pc, i, len) (List.mem_of_getElem? hk)
theorem m_cn {GP : m_G → Prop} {my : Nat → m_T} {E : m_E} {pc : Nat} {op : m_Op} {l : List (Nat × m_Op)} (h : m_OK GP my E pc op) (t : ∀ q ∈ l, m_OK GP my E q.1 q.2) : ∀ q ∈ (pc, op) :: l, m_OK GP my E q.1 q.2 := List.forall_mem_cons.mpr ⟨h, t⟩
theorem m_nl {GP : m_G → Prop} {my : Nat → m_T} {E : m_E} : ∀ q ∈ ([] : List (Nat × m_Op)), m_OK GP my E q.1 q.2 := fun _ h => by cases h
theorem m_lk_ok {GP : m_G → Prop} {my : Nat → m_T} {E : m_E} : ∀ (l : List (Nat × m_Op)), (∀ q ∈ l, m_OK GP my E q.1 q.2) → ∀ pc : Nat, m_OK GP my E pc (m_lk l pc) := by
  intro l
  induction l with
  | nil =>
    intro _ pc l G p e R s m args below meth c dp call n0 ad0 mc ms Q r kk hGP hC hcall hmc hms hE hk lo st bd S h
    exact h.elim
  | cons a t ih =>
    intro h pc
    obtain ⟨h1, h2⟩ := List.forall_mem_cons.mp h
    show m_OK GP my E pc (if a.1 = pc then a.2 else m_lk t pc)
    by_cases hp : a.1 = pc
    · rw [if_pos hp, ← hp]; exact h1
    · rw [if_neg hp]; exact ih h2 pc
def m_exn : List String := ["java/lang/RuntimeException", "java/lang/Exception"]
