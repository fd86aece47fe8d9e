/-! A place's meaning, unfolded: an operation is monotone in what comes behind it -/
def m_mono (op : m_Op) : Prop := ∀ (call : m_call) (lo : m_L) (st : List Value) (bd : Nat × Nat) (S : m_S) (kk kk' : m_K) (r : m_R → m_S → Prop), (∀ pc lo st bd S, kk pc lo st bd S → kk' pc lo st bd S) → op call lo st bd S kk r → op call lo st bd S kk' r
theorem mo_iload {k nx : Nat} : m_mono (o_iload k nx) := by
  intro call lo st bd S kk kk' r hk h
  revert h
  unfold o_iload
  (repeat' split) <;> (intro h; first
    | exact h
    | exact h.elim
    | exact hk _ _ _ _ _ h
    | exact ⟨h.1, hk _ _ _ _ _ h.2⟩
    | exact ⟨h.1, h.2.1, hk _ _ _ _ _ h.2.2⟩
    | exact ⟨h.1, h.2.1, h.2.2.1, hk _ _ _ _ _ h.2.2.2⟩
    | exact ⟨h.1, h.2.1, h.2.2.1, h.2.2.2.1, hk _ _ _ _ _ h.2.2.2.2⟩
    | exact ⟨h.1, h.2.1, h.2.2.1, h.2.2.2.1, h.2.2.2.2.1, h.2.2.2.2.2.1, hk _ _ _ _ _ h.2.2.2.2.2.2⟩
    | exact ⟨h.1, h.2.1, h.2.2.1, h.2.2.2.1, h.2.2.2.2.1, h.2.2.2.2.2.1, h.2.2.2.2.2.2.1, hk _ _ _ _ _ h.2.2.2.2.2.2.2⟩
    | exact ⟨fun z => hk _ _ _ _ _ (h.1 z), fun z => hk _ _ _ _ _ (h.2 z)⟩
    | exact h.imp (fun z => ⟨z.1, hk _ _ _ _ _ z.2⟩) (fun z => ⟨z.1, hk _ _ _ _ _ z.2⟩)
    | exact h.imp (fun z => ⟨z.1, hk _ _ _ _ _ z.2⟩) (fun z => hk _ _ _ _ _ z)
    | exact h.imp (fun z => ⟨z.1, hk _ _ _ _ _ z.2⟩) (fun z => z)
    | (obtain ⟨N, h⟩ := h; exact ⟨N, h.1, h.2.1, h.2.2.1, h.2.2.2.1, hk _ _ _ _ _ h.2.2.2.2⟩)
    | (simp_all; done))
theorem mo_aload {k nx : Nat} : m_mono (o_aload k nx) := by
  intro call lo st bd S kk kk' r hk h
  revert h
  unfold o_aload
  (repeat' split) <;> (intro h; first
    | exact h
    | exact h.elim
    | exact hk _ _ _ _ _ h
    | exact ⟨h.1, hk _ _ _ _ _ h.2⟩
    | exact ⟨h.1, h.2.1, hk _ _ _ _ _ h.2.2⟩
    | exact ⟨h.1, h.2.1, h.2.2.1, hk _ _ _ _ _ h.2.2.2⟩
    | exact ⟨h.1, h.2.1, h.2.2.1, h.2.2.2.1, hk _ _ _ _ _ h.2.2.2.2⟩
    | exact ⟨h.1, h.2.1, h.2.2.1, h.2.2.2.1, h.2.2.2.2.1, h.2.2.2.2.2.1, hk _ _ _ _ _ h.2.2.2.2.2.2⟩
    | exact ⟨h.1, h.2.1, h.2.2.1, h.2.2.2.1, h.2.2.2.2.1, h.2.2.2.2.2.1, h.2.2.2.2.2.2.1, hk _ _ _ _ _ h.2.2.2.2.2.2.2⟩
    | exact ⟨fun z => hk _ _ _ _ _ (h.1 z), fun z => hk _ _ _ _ _ (h.2 z)⟩
    | exact h.imp (fun z => ⟨z.1, hk _ _ _ _ _ z.2⟩) (fun z => ⟨z.1, hk _ _ _ _ _ z.2⟩)
    | exact h.imp (fun z => ⟨z.1, hk _ _ _ _ _ z.2⟩) (fun z => hk _ _ _ _ _ z)
    | exact h.imp (fun z => ⟨z.1, hk _ _ _ _ _ z.2⟩) (fun z => z)
    | (obtain ⟨N, h⟩ := h; exact ⟨N, h.1, h.2.1, h.2.2.1, h.2.2.2.1, hk _ _ _ _ _ h.2.2.2.2⟩)
    | (simp_all; done))
theorem mo_const {v : Int32} {nx : Nat} : m_mono (o_const v nx) := by
  intro call lo st bd S kk kk' r hk h
  revert h
  unfold o_const
  (repeat' split) <;> (intro h; first
    | exact h
    | exact h.elim
    | exact hk _ _ _ _ _ h
    | exact ⟨h.1, hk _ _ _ _ _ h.2⟩
    | exact ⟨h.1, h.2.1, hk _ _ _ _ _ h.2.2⟩
    | exact ⟨h.1, h.2.1, h.2.2.1, hk _ _ _ _ _ h.2.2.2⟩
    | exact ⟨h.1, h.2.1, h.2.2.1, h.2.2.2.1, hk _ _ _ _ _ h.2.2.2.2⟩
    | exact ⟨h.1, h.2.1, h.2.2.1, h.2.2.2.1, h.2.2.2.2.1, h.2.2.2.2.2.1, hk _ _ _ _ _ h.2.2.2.2.2.2⟩
    | exact ⟨h.1, h.2.1, h.2.2.1, h.2.2.2.1, h.2.2.2.2.1, h.2.2.2.2.2.1, h.2.2.2.2.2.2.1, hk _ _ _ _ _ h.2.2.2.2.2.2.2⟩
    | exact ⟨fun z => hk _ _ _ _ _ (h.1 z), fun z => hk _ _ _ _ _ (h.2 z)⟩
    | exact h.imp (fun z => ⟨z.1, hk _ _ _ _ _ z.2⟩) (fun z => ⟨z.1, hk _ _ _ _ _ z.2⟩)
    | exact h.imp (fun z => ⟨z.1, hk _ _ _ _ _ z.2⟩) (fun z => hk _ _ _ _ _ z)
    | exact h.imp (fun z => ⟨z.1, hk _ _ _ _ _ z.2⟩) (fun z => z)
    | (obtain ⟨N, h⟩ := h; exact ⟨N, h.1, h.2.1, h.2.2.1, h.2.2.2.1, hk _ _ _ _ _ h.2.2.2.2⟩)
    | (simp_all; done))
theorem mo_lconst {v : Int64} {nx : Nat} : m_mono (o_lconst v nx) := by
  intro call lo st bd S kk kk' r hk h
  revert h
  unfold o_lconst
  (repeat' split) <;> (intro h; first
    | exact h
    | exact h.elim
    | exact hk _ _ _ _ _ h
    | exact ⟨h.1, hk _ _ _ _ _ h.2⟩
    | exact ⟨h.1, h.2.1, hk _ _ _ _ _ h.2.2⟩
    | exact ⟨h.1, h.2.1, h.2.2.1, hk _ _ _ _ _ h.2.2.2⟩
    | exact ⟨h.1, h.2.1, h.2.2.1, h.2.2.2.1, hk _ _ _ _ _ h.2.2.2.2⟩
    | exact ⟨h.1, h.2.1, h.2.2.1, h.2.2.2.1, h.2.2.2.2.1, h.2.2.2.2.2.1, hk _ _ _ _ _ h.2.2.2.2.2.2⟩
    | exact ⟨h.1, h.2.1, h.2.2.1, h.2.2.2.1, h.2.2.2.2.1, h.2.2.2.2.2.1, h.2.2.2.2.2.2.1, hk _ _ _ _ _ h.2.2.2.2.2.2.2⟩
    | exact ⟨fun z => hk _ _ _ _ _ (h.1 z), fun z => hk _ _ _ _ _ (h.2 z)⟩
    | exact h.imp (fun z => ⟨z.1, hk _ _ _ _ _ z.2⟩) (fun z => ⟨z.1, hk _ _ _ _ _ z.2⟩)
    | exact h.imp (fun z => ⟨z.1, hk _ _ _ _ _ z.2⟩) (fun z => hk _ _ _ _ _ z)
    | exact h.imp (fun z => ⟨z.1, hk _ _ _ _ _ z.2⟩) (fun z => z)
    | (obtain ⟨N, h⟩ := h; exact ⟨N, h.1, h.2.1, h.2.2.1, h.2.2.2.1, hk _ _ _ _ _ h.2.2.2.2⟩)
    | (simp_all; done))
theorem mo_istore {k nx : Nat} : m_mono (o_istore k nx) := by
  intro call lo st bd S kk kk' r hk h
  revert h
  unfold o_istore
  (repeat' split) <;> (intro h; first
    | exact h
    | exact h.elim
    | exact hk _ _ _ _ _ h
    | exact ⟨h.1, hk _ _ _ _ _ h.2⟩
    | exact ⟨h.1, h.2.1, hk _ _ _ _ _ h.2.2⟩
    | exact ⟨h.1, h.2.1, h.2.2.1, hk _ _ _ _ _ h.2.2.2⟩
    | exact ⟨h.1, h.2.1, h.2.2.1, h.2.2.2.1, hk _ _ _ _ _ h.2.2.2.2⟩
    | exact ⟨h.1, h.2.1, h.2.2.1, h.2.2.2.1, h.2.2.2.2.1, h.2.2.2.2.2.1, hk _ _ _ _ _ h.2.2.2.2.2.2⟩
    | exact ⟨h.1, h.2.1, h.2.2.1, h.2.2.2.1, h.2.2.2.2.1, h.2.2.2.2.2.1, h.2.2.2.2.2.2.1, hk _ _ _ _ _ h.2.2.2.2.2.2.2⟩
    | exact ⟨fun z => hk _ _ _ _ _ (h.1 z), fun z => hk _ _ _ _ _ (h.2 z)⟩
    | exact h.imp (fun z => ⟨z.1, hk _ _ _ _ _ z.2⟩) (fun z => ⟨z.1, hk _ _ _ _ _ z.2⟩)
    | exact h.imp (fun z => ⟨z.1, hk _ _ _ _ _ z.2⟩) (fun z => hk _ _ _ _ _ z)
    | exact h.imp (fun z => ⟨z.1, hk _ _ _ _ _ z.2⟩) (fun z => z)
    | (obtain ⟨N, h⟩ := h; exact ⟨N, h.1, h.2.1, h.2.2.1, h.2.2.2.1, hk _ _ _ _ _ h.2.2.2.2⟩)
    | (simp_all; done))
theorem mo_astore {k nx : Nat} : m_mono (o_astore k nx) := by
  intro call lo st bd S kk kk' r hk h
  revert h
  unfold o_astore
  (repeat' split) <;> (intro h; first
    | exact h
    | exact h.elim
    | exact hk _ _ _ _ _ h
    | exact ⟨h.1, hk _ _ _ _ _ h.2⟩
    | exact ⟨h.1, h.2.1, hk _ _ _ _ _ h.2.2⟩
    | exact ⟨h.1, h.2.1, h.2.2.1, hk _ _ _ _ _ h.2.2.2⟩
    | exact ⟨h.1, h.2.1, h.2.2.1, h.2.2.2.1, hk _ _ _ _ _ h.2.2.2.2⟩
    | exact ⟨h.1, h.2.1, h.2.2.1, h.2.2.2.1, h.2.2.2.2.1, h.2.2.2.2.2.1, hk _ _ _ _ _ h.2.2.2.2.2.2⟩
    | exact ⟨h.1, h.2.1, h.2.2.1, h.2.2.2.1, h.2.2.2.2.1, h.2.2.2.2.2.1, h.2.2.2.2.2.2.1, hk _ _ _ _ _ h.2.2.2.2.2.2.2⟩
    | exact ⟨fun z => hk _ _ _ _ _ (h.1 z), fun z => hk _ _ _ _ _ (h.2 z)⟩
    | exact h.imp (fun z => ⟨z.1, hk _ _ _ _ _ z.2⟩) (fun z => ⟨z.1, hk _ _ _ _ _ z.2⟩)
    | exact h.imp (fun z => ⟨z.1, hk _ _ _ _ _ z.2⟩) (fun z => hk _ _ _ _ _ z)
    | exact h.imp (fun z => ⟨z.1, hk _ _ _ _ _ z.2⟩) (fun z => z)
    | (obtain ⟨N, h⟩ := h; exact ⟨N, h.1, h.2.1, h.2.2.1, h.2.2.2.1, hk _ _ _ _ _ h.2.2.2.2⟩)
    | (simp_all; done))
theorem mo_iinc {k : Nat} {v : Int32} {nx : Nat} : m_mono (o_iinc k v nx) := by
  intro call lo st bd S kk kk' r hk h
  revert h
  unfold o_iinc
  (repeat' split) <;> (intro h; first
    | exact h
    | exact h.elim
    | exact hk _ _ _ _ _ h
    | exact ⟨h.1, hk _ _ _ _ _ h.2⟩
    | exact ⟨h.1, h.2.1, hk _ _ _ _ _ h.2.2⟩
    | exact ⟨h.1, h.2.1, h.2.2.1, hk _ _ _ _ _ h.2.2.2⟩
    | exact ⟨h.1, h.2.1, h.2.2.1, h.2.2.2.1, hk _ _ _ _ _ h.2.2.2.2⟩
    | exact ⟨h.1, h.2.1, h.2.2.1, h.2.2.2.1, h.2.2.2.2.1, h.2.2.2.2.2.1, hk _ _ _ _ _ h.2.2.2.2.2.2⟩
    | exact ⟨h.1, h.2.1, h.2.2.1, h.2.2.2.1, h.2.2.2.2.1, h.2.2.2.2.2.1, h.2.2.2.2.2.2.1, hk _ _ _ _ _ h.2.2.2.2.2.2.2⟩
    | exact ⟨fun z => hk _ _ _ _ _ (h.1 z), fun z => hk _ _ _ _ _ (h.2 z)⟩
    | exact h.imp (fun z => ⟨z.1, hk _ _ _ _ _ z.2⟩) (fun z => ⟨z.1, hk _ _ _ _ _ z.2⟩)
    | exact h.imp (fun z => ⟨z.1, hk _ _ _ _ _ z.2⟩) (fun z => hk _ _ _ _ _ z)
    | exact h.imp (fun z => ⟨z.1, hk _ _ _ _ _ z.2⟩) (fun z => z)
    | (obtain ⟨N, h⟩ := h; exact ⟨N, h.1, h.2.1, h.2.2.1, h.2.2.2.1, hk _ _ _ _ _ h.2.2.2.2⟩)
    | (simp_all; done))
theorem mo_dup {nx : Nat} : m_mono (o_dup nx) := by
  intro call lo st bd S kk kk' r hk h
  revert h
  unfold o_dup
  (repeat' split) <;> (intro h; first
    | exact h
    | exact h.elim
    | exact hk _ _ _ _ _ h
    | exact ⟨h.1, hk _ _ _ _ _ h.2⟩
    | exact ⟨h.1, h.2.1, hk _ _ _ _ _ h.2.2⟩
    | exact ⟨h.1, h.2.1, h.2.2.1, hk _ _ _ _ _ h.2.2.2⟩
    | exact ⟨h.1, h.2.1, h.2.2.1, h.2.2.2.1, hk _ _ _ _ _ h.2.2.2.2⟩
    | exact ⟨h.1, h.2.1, h.2.2.1, h.2.2.2.1, h.2.2.2.2.1, h.2.2.2.2.2.1, hk _ _ _ _ _ h.2.2.2.2.2.2⟩
    | exact ⟨h.1, h.2.1, h.2.2.1, h.2.2.2.1, h.2.2.2.2.1, h.2.2.2.2.2.1, h.2.2.2.2.2.2.1, hk _ _ _ _ _ h.2.2.2.2.2.2.2⟩
    | exact ⟨fun z => hk _ _ _ _ _ (h.1 z), fun z => hk _ _ _ _ _ (h.2 z)⟩
    | exact h.imp (fun z => ⟨z.1, hk _ _ _ _ _ z.2⟩) (fun z => ⟨z.1, hk _ _ _ _ _ z.2⟩)
    | exact h.imp (fun z => ⟨z.1, hk _ _ _ _ _ z.2⟩) (fun z => hk _ _ _ _ _ z)
    | exact h.imp (fun z => ⟨z.1, hk _ _ _ _ _ z.2⟩) (fun z => z)
    | (obtain ⟨N, h⟩ := h; exact ⟨N, h.1, h.2.1, h.2.2.1, h.2.2.2.1, hk _ _ _ _ _ h.2.2.2.2⟩)
    | (simp_all; done))
theorem mo_dup2 {nx : Nat} : m_mono (o_dup2 nx) := by
  intro call lo st bd S kk kk' r hk h
  revert h
  unfold o_dup2
  (repeat' split) <;> (intro h; first
    | exact h
    | exact h.elim
    | exact hk _ _ _ _ _ h
    | exact ⟨h.1, hk _ _ _ _ _ h.2⟩
    | exact ⟨h.1, h.2.1, hk _ _ _ _ _ h.2.2⟩
    | exact ⟨h.1, h.2.1, h.2.2.1, hk _ _ _ _ _ h.2.2.2⟩
    | exact ⟨h.1, h.2.1, h.2.2.1, h.2.2.2.1, hk _ _ _ _ _ h.2.2.2.2⟩
    | exact ⟨h.1, h.2.1, h.2.2.1, h.2.2.2.1, h.2.2.2.2.1, h.2.2.2.2.2.1, hk _ _ _ _ _ h.2.2.2.2.2.2⟩
    | exact ⟨h.1, h.2.1, h.2.2.1, h.2.2.2.1, h.2.2.2.2.1, h.2.2.2.2.2.1, h.2.2.2.2.2.2.1, hk _ _ _ _ _ h.2.2.2.2.2.2.2⟩
    | exact ⟨fun z => hk _ _ _ _ _ (h.1 z), fun z => hk _ _ _ _ _ (h.2 z)⟩
    | exact h.imp (fun z => ⟨z.1, hk _ _ _ _ _ z.2⟩) (fun z => ⟨z.1, hk _ _ _ _ _ z.2⟩)
    | exact h.imp (fun z => ⟨z.1, hk _ _ _ _ _ z.2⟩) (fun z => hk _ _ _ _ _ z)
    | exact h.imp (fun z => ⟨z.1, hk _ _ _ _ _ z.2⟩) (fun z => z)
    | (obtain ⟨N, h⟩ := h; exact ⟨N, h.1, h.2.1, h.2.2.1, h.2.2.2.1, hk _ _ _ _ _ h.2.2.2.2⟩)
    | (simp_all; done))
theorem mo_pop {nx : Nat} : m_mono (o_pop nx) := by
  intro call lo st bd S kk kk' r hk h
  revert h
  unfold o_pop
  (repeat' split) <;> (intro h; first
    | exact h
    | exact h.elim
    | exact hk _ _ _ _ _ h
    | exact ⟨h.1, hk _ _ _ _ _ h.2⟩
    | exact ⟨h.1, h.2.1, hk _ _ _ _ _ h.2.2⟩
    | exact ⟨h.1, h.2.1, h.2.2.1, hk _ _ _ _ _ h.2.2.2⟩
    | exact ⟨h.1, h.2.1, h.2.2.1, h.2.2.2.1, hk _ _ _ _ _ h.2.2.2.2⟩
    | exact ⟨h.1, h.2.1, h.2.2.1, h.2.2.2.1, h.2.2.2.2.1, h.2.2.2.2.2.1, hk _ _ _ _ _ h.2.2.2.2.2.2⟩
    | exact ⟨h.1, h.2.1, h.2.2.1, h.2.2.2.1, h.2.2.2.2.1, h.2.2.2.2.2.1, h.2.2.2.2.2.2.1, hk _ _ _ _ _ h.2.2.2.2.2.2.2⟩
    | exact ⟨fun z => hk _ _ _ _ _ (h.1 z), fun z => hk _ _ _ _ _ (h.2 z)⟩
    | exact h.imp (fun z => ⟨z.1, hk _ _ _ _ _ z.2⟩) (fun z => ⟨z.1, hk _ _ _ _ _ z.2⟩)
    | exact h.imp (fun z => ⟨z.1, hk _ _ _ _ _ z.2⟩) (fun z => hk _ _ _ _ _ z)
    | exact h.imp (fun z => ⟨z.1, hk _ _ _ _ _ z.2⟩) (fun z => z)
    | (obtain ⟨N, h⟩ := h; exact ⟨N, h.1, h.2.1, h.2.2.1, h.2.2.2.1, hk _ _ _ _ _ h.2.2.2.2⟩)
    | (simp_all; done))
theorem mo_bin {f : Int32 → Int32 → Int32} {nx : Nat} : m_mono (o_bin f nx) := by
  intro call lo st bd S kk kk' r hk h
  revert h
  unfold o_bin
  (repeat' split) <;> (intro h; first
    | exact h
    | exact h.elim
    | exact hk _ _ _ _ _ h
    | exact ⟨h.1, hk _ _ _ _ _ h.2⟩
    | exact ⟨h.1, h.2.1, hk _ _ _ _ _ h.2.2⟩
    | exact ⟨h.1, h.2.1, h.2.2.1, hk _ _ _ _ _ h.2.2.2⟩
    | exact ⟨h.1, h.2.1, h.2.2.1, h.2.2.2.1, hk _ _ _ _ _ h.2.2.2.2⟩
    | exact ⟨h.1, h.2.1, h.2.2.1, h.2.2.2.1, h.2.2.2.2.1, h.2.2.2.2.2.1, hk _ _ _ _ _ h.2.2.2.2.2.2⟩
    | exact ⟨h.1, h.2.1, h.2.2.1, h.2.2.2.1, h.2.2.2.2.1, h.2.2.2.2.2.1, h.2.2.2.2.2.2.1, hk _ _ _ _ _ h.2.2.2.2.2.2.2⟩
    | exact ⟨fun z => hk _ _ _ _ _ (h.1 z), fun z => hk _ _ _ _ _ (h.2 z)⟩
    | exact h.imp (fun z => ⟨z.1, hk _ _ _ _ _ z.2⟩) (fun z => ⟨z.1, hk _ _ _ _ _ z.2⟩)
    | exact h.imp (fun z => ⟨z.1, hk _ _ _ _ _ z.2⟩) (fun z => hk _ _ _ _ _ z)
    | exact h.imp (fun z => ⟨z.1, hk _ _ _ _ _ z.2⟩) (fun z => z)
    | (obtain ⟨N, h⟩ := h; exact ⟨N, h.1, h.2.1, h.2.2.1, h.2.2.2.1, hk _ _ _ _ _ h.2.2.2.2⟩)
    | (simp_all; done))
theorem mo_div {f : Int32 → Int32 → Int32} {nx : Nat} : m_mono (o_div f nx) := by
  intro call lo st bd S kk kk' r hk h
  revert h
  unfold o_div
  (repeat' split) <;> (intro h; first
    | exact h
    | exact h.elim
    | exact hk _ _ _ _ _ h
    | exact ⟨h.1, hk _ _ _ _ _ h.2⟩
    | exact ⟨h.1, h.2.1, hk _ _ _ _ _ h.2.2⟩
    | exact ⟨h.1, h.2.1, h.2.2.1, hk _ _ _ _ _ h.2.2.2⟩
    | exact ⟨h.1, h.2.1, h.2.2.1, h.2.2.2.1, hk _ _ _ _ _ h.2.2.2.2⟩
    | exact ⟨h.1, h.2.1, h.2.2.1, h.2.2.2.1, h.2.2.2.2.1, h.2.2.2.2.2.1, hk _ _ _ _ _ h.2.2.2.2.2.2⟩
    | exact ⟨h.1, h.2.1, h.2.2.1, h.2.2.2.1, h.2.2.2.2.1, h.2.2.2.2.2.1, h.2.2.2.2.2.2.1, hk _ _ _ _ _ h.2.2.2.2.2.2.2⟩
    | exact ⟨fun z => hk _ _ _ _ _ (h.1 z), fun z => hk _ _ _ _ _ (h.2 z)⟩
    | exact h.imp (fun z => ⟨z.1, hk _ _ _ _ _ z.2⟩) (fun z => ⟨z.1, hk _ _ _ _ _ z.2⟩)
    | exact h.imp (fun z => ⟨z.1, hk _ _ _ _ _ z.2⟩) (fun z => hk _ _ _ _ _ z)
    | exact h.imp (fun z => ⟨z.1, hk _ _ _ _ _ z.2⟩) (fun z => z)
    | (obtain ⟨N, h⟩ := h; exact ⟨N, h.1, h.2.1, h.2.2.1, h.2.2.2.1, hk _ _ _ _ _ h.2.2.2.2⟩)
    | (simp_all; done))
theorem mo_un {f : Int32 → Int32} {nx : Nat} : m_mono (o_un f nx) := by
  intro call lo st bd S kk kk' r hk h
  revert h
  unfold o_un
  (repeat' split) <;> (intro h; first
    | exact h
    | exact h.elim
    | exact hk _ _ _ _ _ h
    | exact ⟨h.1, hk _ _ _ _ _ h.2⟩
    | exact ⟨h.1, h.2.1, hk _ _ _ _ _ h.2.2⟩
    | exact ⟨h.1, h.2.1, h.2.2.1, hk _ _ _ _ _ h.2.2.2⟩
    | exact ⟨h.1, h.2.1, h.2.2.1, h.2.2.2.1, hk _ _ _ _ _ h.2.2.2.2⟩
    | exact ⟨h.1, h.2.1, h.2.2.1, h.2.2.2.1, h.2.2.2.2.1, h.2.2.2.2.2.1, hk _ _ _ _ _ h.2.2.2.2.2.2⟩
    | exact ⟨h.1, h.2.1, h.2.2.1, h.2.2.2.1, h.2.2.2.2.1, h.2.2.2.2.2.1, h.2.2.2.2.2.2.1, hk _ _ _ _ _ h.2.2.2.2.2.2.2⟩
    | exact ⟨fun z => hk _ _ _ _ _ (h.1 z), fun z => hk _ _ _ _ _ (h.2 z)⟩
    | exact h.imp (fun z => ⟨z.1, hk _ _ _ _ _ z.2⟩) (fun z => ⟨z.1, hk _ _ _ _ _ z.2⟩)
    | exact h.imp (fun z => ⟨z.1, hk _ _ _ _ _ z.2⟩) (fun z => hk _ _ _ _ _ z)
    | exact h.imp (fun z => ⟨z.1, hk _ _ _ _ _ z.2⟩) (fun z => z)
    | (obtain ⟨N, h⟩ := h; exact ⟨N, h.1, h.2.1, h.2.2.1, h.2.2.2.1, hk _ _ _ _ _ h.2.2.2.2⟩)
    | (simp_all; done))
theorem mo_i2l {nx : Nat} : m_mono (o_i2l nx) := by
  intro call lo st bd S kk kk' r hk h
  revert h
  unfold o_i2l
  (repeat' split) <;> (intro h; first
    | exact h
    | exact h.elim
    | exact hk _ _ _ _ _ h
    | exact ⟨h.1, hk _ _ _ _ _ h.2⟩
    | exact ⟨h.1, h.2.1, hk _ _ _ _ _ h.2.2⟩
    | exact ⟨h.1, h.2.1, h.2.2.1, hk _ _ _ _ _ h.2.2.2⟩
    | exact ⟨h.1, h.2.1, h.2.2.1, h.2.2.2.1, hk _ _ _ _ _ h.2.2.2.2⟩
    | exact ⟨h.1, h.2.1, h.2.2.1, h.2.2.2.1, h.2.2.2.2.1, h.2.2.2.2.2.1, hk _ _ _ _ _ h.2.2.2.2.2.2⟩
    | exact ⟨h.1, h.2.1, h.2.2.1, h.2.2.2.1, h.2.2.2.2.1, h.2.2.2.2.2.1, h.2.2.2.2.2.2.1, hk _ _ _ _ _ h.2.2.2.2.2.2.2⟩
    | exact ⟨fun z => hk _ _ _ _ _ (h.1 z), fun z => hk _ _ _ _ _ (h.2 z)⟩
    | exact h.imp (fun z => ⟨z.1, hk _ _ _ _ _ z.2⟩) (fun z => ⟨z.1, hk _ _ _ _ _ z.2⟩)
    | exact h.imp (fun z => ⟨z.1, hk _ _ _ _ _ z.2⟩) (fun z => hk _ _ _ _ _ z)
    | exact h.imp (fun z => ⟨z.1, hk _ _ _ _ _ z.2⟩) (fun z => z)
    | (obtain ⟨N, h⟩ := h; exact ⟨N, h.1, h.2.1, h.2.2.1, h.2.2.2.1, hk _ _ _ _ _ h.2.2.2.2⟩)
    | (simp_all; done))
theorem mo_lcmp {nx : Nat} : m_mono (o_lcmp nx) := by
  intro call lo st bd S kk kk' r hk h
  revert h
  unfold o_lcmp
  (repeat' split) <;> (intro h; first
    | exact h
    | exact h.elim
    | exact hk _ _ _ _ _ h
    | exact ⟨h.1, hk _ _ _ _ _ h.2⟩
    | exact ⟨h.1, h.2.1, hk _ _ _ _ _ h.2.2⟩
    | exact ⟨h.1, h.2.1, h.2.2.1, hk _ _ _ _ _ h.2.2.2⟩
    | exact ⟨h.1, h.2.1, h.2.2.1, h.2.2.2.1, hk _ _ _ _ _ h.2.2.2.2⟩
    | exact ⟨h.1, h.2.1, h.2.2.1, h.2.2.2.1, h.2.2.2.2.1, h.2.2.2.2.2.1, hk _ _ _ _ _ h.2.2.2.2.2.2⟩
    | exact ⟨h.1, h.2.1, h.2.2.1, h.2.2.2.1, h.2.2.2.2.1, h.2.2.2.2.2.1, h.2.2.2.2.2.2.1, hk _ _ _ _ _ h.2.2.2.2.2.2.2⟩
    | exact ⟨fun z => hk _ _ _ _ _ (h.1 z), fun z => hk _ _ _ _ _ (h.2 z)⟩
    | exact h.imp (fun z => ⟨z.1, hk _ _ _ _ _ z.2⟩) (fun z => ⟨z.1, hk _ _ _ _ _ z.2⟩)
    | exact h.imp (fun z => ⟨z.1, hk _ _ _ _ _ z.2⟩) (fun z => hk _ _ _ _ _ z)
    | exact h.imp (fun z => ⟨z.1, hk _ _ _ _ _ z.2⟩) (fun z => z)
    | (obtain ⟨N, h⟩ := h; exact ⟨N, h.1, h.2.1, h.2.2.1, h.2.2.2.1, hk _ _ _ _ _ h.2.2.2.2⟩)
    | (simp_all; done))
theorem mo_ifeq {tg nx : Nat} : m_mono (o_ifeq tg nx) := by
  intro call lo st bd S kk kk' r hk h
  revert h
  unfold o_ifeq
  (repeat' split) <;> (intro h; first
    | exact h
    | exact h.elim
    | exact hk _ _ _ _ _ h
    | exact ⟨h.1, hk _ _ _ _ _ h.2⟩
    | exact ⟨h.1, h.2.1, hk _ _ _ _ _ h.2.2⟩
    | exact ⟨h.1, h.2.1, h.2.2.1, hk _ _ _ _ _ h.2.2.2⟩
    | exact ⟨h.1, h.2.1, h.2.2.1, h.2.2.2.1, hk _ _ _ _ _ h.2.2.2.2⟩
    | exact ⟨h.1, h.2.1, h.2.2.1, h.2.2.2.1, h.2.2.2.2.1, h.2.2.2.2.2.1, hk _ _ _ _ _ h.2.2.2.2.2.2⟩
    | exact ⟨h.1, h.2.1, h.2.2.1, h.2.2.2.1, h.2.2.2.2.1, h.2.2.2.2.2.1, h.2.2.2.2.2.2.1, hk _ _ _ _ _ h.2.2.2.2.2.2.2⟩
    | exact ⟨fun z => hk _ _ _ _ _ (h.1 z), fun z => hk _ _ _ _ _ (h.2 z)⟩
    | exact h.imp (fun z => ⟨z.1, hk _ _ _ _ _ z.2⟩) (fun z => ⟨z.1, hk _ _ _ _ _ z.2⟩)
    | exact h.imp (fun z => ⟨z.1, hk _ _ _ _ _ z.2⟩) (fun z => hk _ _ _ _ _ z)
    | exact h.imp (fun z => ⟨z.1, hk _ _ _ _ _ z.2⟩) (fun z => z)
    | (obtain ⟨N, h⟩ := h; exact ⟨N, h.1, h.2.1, h.2.2.1, h.2.2.2.1, hk _ _ _ _ _ h.2.2.2.2⟩)
    | (simp_all; done))
theorem mo_ifne {tg nx : Nat} : m_mono (o_ifne tg nx) := by
  intro call lo st bd S kk kk' r hk h
  revert h
  unfold o_ifne
  (repeat' split) <;> (intro h; first
    | exact h
    | exact h.elim
    | exact hk _ _ _ _ _ h
    | exact ⟨h.1, hk _ _ _ _ _ h.2⟩
    | exact ⟨h.1, h.2.1, hk _ _ _ _ _ h.2.2⟩
    | exact ⟨h.1, h.2.1, h.2.2.1, hk _ _ _ _ _ h.2.2.2⟩
    | exact ⟨h.1, h.2.1, h.2.2.1, h.2.2.2.1, hk _ _ _ _ _ h.2.2.2.2⟩
    | exact ⟨h.1, h.2.1, h.2.2.1, h.2.2.2.1, h.2.2.2.2.1, h.2.2.2.2.2.1, hk _ _ _ _ _ h.2.2.2.2.2.2⟩
    | exact ⟨h.1, h.2.1, h.2.2.1, h.2.2.2.1, h.2.2.2.2.1, h.2.2.2.2.2.1, h.2.2.2.2.2.2.1, hk _ _ _ _ _ h.2.2.2.2.2.2.2⟩
    | exact ⟨fun z => hk _ _ _ _ _ (h.1 z), fun z => hk _ _ _ _ _ (h.2 z)⟩
    | exact h.imp (fun z => ⟨z.1, hk _ _ _ _ _ z.2⟩) (fun z => ⟨z.1, hk _ _ _ _ _ z.2⟩)
    | exact h.imp (fun z => ⟨z.1, hk _ _ _ _ _ z.2⟩) (fun z => hk _ _ _ _ _ z)
    | exact h.imp (fun z => ⟨z.1, hk _ _ _ _ _ z.2⟩) (fun z => z)
    | (obtain ⟨N, h⟩ := h; exact ⟨N, h.1, h.2.1, h.2.2.1, h.2.2.2.1, hk _ _ _ _ _ h.2.2.2.2⟩)
    | (simp_all; done))
theorem mo_iflt {tg nx : Nat} : m_mono (o_iflt tg nx) := by
  intro call lo st bd S kk kk' r hk h
  revert h
  unfold o_iflt
  (repeat' split) <;> (intro h; first
    | exact h
    | exact h.elim
    | exact hk _ _ _ _ _ h
    | exact ⟨h.1, hk _ _ _ _ _ h.2⟩
    | exact ⟨h.1, h.2.1, hk _ _ _ _ _ h.2.2⟩
    | exact ⟨h.1, h.2.1, h.2.2.1, hk _ _ _ _ _ h.2.2.2⟩
    | exact ⟨h.1, h.2.1, h.2.2.1, h.2.2.2.1, hk _ _ _ _ _ h.2.2.2.2⟩
    | exact ⟨h.1, h.2.1, h.2.2.1, h.2.2.2.1, h.2.2.2.2.1, h.2.2.2.2.2.1, hk _ _ _ _ _ h.2.2.2.2.2.2⟩
    | exact ⟨h.1, h.2.1, h.2.2.1, h.2.2.2.1, h.2.2.2.2.1, h.2.2.2.2.2.1, h.2.2.2.2.2.2.1, hk _ _ _ _ _ h.2.2.2.2.2.2.2⟩
    | exact ⟨fun z => hk _ _ _ _ _ (h.1 z), fun z => hk _ _ _ _ _ (h.2 z)⟩
    | exact h.imp (fun z => ⟨z.1, hk _ _ _ _ _ z.2⟩) (fun z => ⟨z.1, hk _ _ _ _ _ z.2⟩)
    | exact h.imp (fun z => ⟨z.1, hk _ _ _ _ _ z.2⟩) (fun z => hk _ _ _ _ _ z)
    | exact h.imp (fun z => ⟨z.1, hk _ _ _ _ _ z.2⟩) (fun z => z)
    | (obtain ⟨N, h⟩ := h; exact ⟨N, h.1, h.2.1, h.2.2.1, h.2.2.2.1, hk _ _ _ _ _ h.2.2.2.2⟩)
    | (simp_all; done))
theorem mo_ifge {tg nx : Nat} : m_mono (o_ifge tg nx) := by
  intro call lo st bd S kk kk' r hk h
  revert h
  unfold o_ifge
  (repeat' split) <;> (intro h; first
    | exact h
    | exact h.elim
    | exact hk _ _ _ _ _ h
    | exact ⟨h.1, hk _ _ _ _ _ h.2⟩
    | exact ⟨h.1, h.2.1, hk _ _ _ _ _ h.2.2⟩
    | exact ⟨h.1, h.2.1, h.2.2.1, hk _ _ _ _ _ h.2.2.2⟩
    | exact ⟨h.1, h.2.1, h.2.2.1, h.2.2.2.1, hk _ _ _ _ _ h.2.2.2.2⟩
    | exact ⟨h.1, h.2.1, h.2.2.1, h.2.2.2.1, h.2.2.2.2.1, h.2.2.2.2.2.1, hk _ _ _ _ _ h.2.2.2.2.2.2⟩
    | exact ⟨h.1, h.2.1, h.2.2.1, h.2.2.2.1, h.2.2.2.2.1, h.2.2.2.2.2.1, h.2.2.2.2.2.2.1, hk _ _ _ _ _ h.2.2.2.2.2.2.2⟩
    | exact ⟨fun z => hk _ _ _ _ _ (h.1 z), fun z => hk _ _ _ _ _ (h.2 z)⟩
    | exact h.imp (fun z => ⟨z.1, hk _ _ _ _ _ z.2⟩) (fun z => ⟨z.1, hk _ _ _ _ _ z.2⟩)
    | exact h.imp (fun z => ⟨z.1, hk _ _ _ _ _ z.2⟩) (fun z => hk _ _ _ _ _ z)
    | exact h.imp (fun z => ⟨z.1, hk _ _ _ _ _ z.2⟩) (fun z => z)
    | (obtain ⟨N, h⟩ := h; exact ⟨N, h.1, h.2.1, h.2.2.1, h.2.2.2.1, hk _ _ _ _ _ h.2.2.2.2⟩)
    | (simp_all; done))
theorem mo_ifgt {tg nx : Nat} : m_mono (o_ifgt tg nx) := by
  intro call lo st bd S kk kk' r hk h
  revert h
  unfold o_ifgt
  (repeat' split) <;> (intro h; first
    | exact h
    | exact h.elim
    | exact hk _ _ _ _ _ h
    | exact ⟨h.1, hk _ _ _ _ _ h.2⟩
    | exact ⟨h.1, h.2.1, hk _ _ _ _ _ h.2.2⟩
    | exact ⟨h.1, h.2.1, h.2.2.1, hk _ _ _ _ _ h.2.2.2⟩
    | exact ⟨h.1, h.2.1, h.2.2.1, h.2.2.2.1, hk _ _ _ _ _ h.2.2.2.2⟩
    | exact ⟨h.1, h.2.1, h.2.2.1, h.2.2.2.1, h.2.2.2.2.1, h.2.2.2.2.2.1, hk _ _ _ _ _ h.2.2.2.2.2.2⟩
    | exact ⟨h.1, h.2.1, h.2.2.1, h.2.2.2.1, h.2.2.2.2.1, h.2.2.2.2.2.1, h.2.2.2.2.2.2.1, hk _ _ _ _ _ h.2.2.2.2.2.2.2⟩
    | exact ⟨fun z => hk _ _ _ _ _ (h.1 z), fun z => hk _ _ _ _ _ (h.2 z)⟩
    | exact h.imp (fun z => ⟨z.1, hk _ _ _ _ _ z.2⟩) (fun z => ⟨z.1, hk _ _ _ _ _ z.2⟩)
    | exact h.imp (fun z => ⟨z.1, hk _ _ _ _ _ z.2⟩) (fun z => hk _ _ _ _ _ z)
    | exact h.imp (fun z => ⟨z.1, hk _ _ _ _ _ z.2⟩) (fun z => z)
    | (obtain ⟨N, h⟩ := h; exact ⟨N, h.1, h.2.1, h.2.2.1, h.2.2.2.1, hk _ _ _ _ _ h.2.2.2.2⟩)
    | (simp_all; done))
theorem mo_ifle {tg nx : Nat} : m_mono (o_ifle tg nx) := by
  intro call lo st bd S kk kk' r hk h
  revert h
  unfold o_ifle
  (repeat' split) <;> (intro h; first
    | exact h
    | exact h.elim
    | exact hk _ _ _ _ _ h
    | exact ⟨h.1, hk _ _ _ _ _ h.2⟩
    | exact ⟨h.1, h.2.1, hk _ _ _ _ _ h.2.2⟩
    | exact ⟨h.1, h.2.1, h.2.2.1, hk _ _ _ _ _ h.2.2.2⟩
    | exact ⟨h.1, h.2.1, h.2.2.1, h.2.2.2.1, hk _ _ _ _ _ h.2.2.2.2⟩
    | exact ⟨h.1, h.2.1, h.2.2.1, h.2.2.2.1, h.2.2.2.2.1, h.2.2.2.2.2.1, hk _ _ _ _ _ h.2.2.2.2.2.2⟩
    | exact ⟨h.1, h.2.1, h.2.2.1, h.2.2.2.1, h.2.2.2.2.1, h.2.2.2.2.2.1, h.2.2.2.2.2.2.1, hk _ _ _ _ _ h.2.2.2.2.2.2.2⟩
    | exact ⟨fun z => hk _ _ _ _ _ (h.1 z), fun z => hk _ _ _ _ _ (h.2 z)⟩
    | exact h.imp (fun z => ⟨z.1, hk _ _ _ _ _ z.2⟩) (fun z => ⟨z.1, hk _ _ _ _ _ z.2⟩)
    | exact h.imp (fun z => ⟨z.1, hk _ _ _ _ _ z.2⟩) (fun z => hk _ _ _ _ _ z)
    | exact h.imp (fun z => ⟨z.1, hk _ _ _ _ _ z.2⟩) (fun z => z)
    | (obtain ⟨N, h⟩ := h; exact ⟨N, h.1, h.2.1, h.2.2.1, h.2.2.2.1, hk _ _ _ _ _ h.2.2.2.2⟩)
    | (simp_all; done))
theorem mo_icmpeq {tg nx : Nat} : m_mono (o_icmpeq tg nx) := by
  intro call lo st bd S kk kk' r hk h
  revert h
  unfold o_icmpeq
  (repeat' split) <;> (intro h; first
    | exact h
    | exact h.elim
    | exact hk _ _ _ _ _ h
    | exact ⟨h.1, hk _ _ _ _ _ h.2⟩
    | exact ⟨h.1, h.2.1, hk _ _ _ _ _ h.2.2⟩
    | exact ⟨h.1, h.2.1, h.2.2.1, hk _ _ _ _ _ h.2.2.2⟩
    | exact ⟨h.1, h.2.1, h.2.2.1, h.2.2.2.1, hk _ _ _ _ _ h.2.2.2.2⟩
    | exact ⟨h.1, h.2.1, h.2.2.1, h.2.2.2.1, h.2.2.2.2.1, h.2.2.2.2.2.1, hk _ _ _ _ _ h.2.2.2.2.2.2⟩
    | exact ⟨h.1, h.2.1, h.2.2.1, h.2.2.2.1, h.2.2.2.2.1, h.2.2.2.2.2.1, h.2.2.2.2.2.2.1, hk _ _ _ _ _ h.2.2.2.2.2.2.2⟩
    | exact ⟨fun z => hk _ _ _ _ _ (h.1 z), fun z => hk _ _ _ _ _ (h.2 z)⟩
    | exact h.imp (fun z => ⟨z.1, hk _ _ _ _ _ z.2⟩) (fun z => ⟨z.1, hk _ _ _ _ _ z.2⟩)
    | exact h.imp (fun z => ⟨z.1, hk _ _ _ _ _ z.2⟩) (fun z => hk _ _ _ _ _ z)
    | exact h.imp (fun z => ⟨z.1, hk _ _ _ _ _ z.2⟩) (fun z => z)
    | (obtain ⟨N, h⟩ := h; exact ⟨N, h.1, h.2.1, h.2.2.1, h.2.2.2.1, hk _ _ _ _ _ h.2.2.2.2⟩)
    | (simp_all; done))
theorem mo_icmpne {tg nx : Nat} : m_mono (o_icmpne tg nx) := by
  intro call lo st bd S kk kk' r hk h
  revert h
  unfold o_icmpne
  (repeat' split) <;> (intro h; first
    | exact h
    | exact h.elim
    | exact hk _ _ _ _ _ h
    | exact ⟨h.1, hk _ _ _ _ _ h.2⟩
    | exact ⟨h.1, h.2.1, hk _ _ _ _ _ h.2.2⟩
    | exact ⟨h.1, h.2.1, h.2.2.1, hk _ _ _ _ _ h.2.2.2⟩
    | exact ⟨h.1, h.2.1, h.2.2.1, h.2.2.2.1, hk _ _ _ _ _ h.2.2.2.2⟩
    | exact ⟨h.1, h.2.1, h.2.2.1, h.2.2.2.1, h.2.2.2.2.1, h.2.2.2.2.2.1, hk _ _ _ _ _ h.2.2.2.2.2.2⟩
    | exact ⟨h.1, h.2.1, h.2.2.1, h.2.2.2.1, h.2.2.2.2.1, h.2.2.2.2.2.1, h.2.2.2.2.2.2.1, hk _ _ _ _ _ h.2.2.2.2.2.2.2⟩
    | exact ⟨fun z => hk _ _ _ _ _ (h.1 z), fun z => hk _ _ _ _ _ (h.2 z)⟩
    | exact h.imp (fun z => ⟨z.1, hk _ _ _ _ _ z.2⟩) (fun z => ⟨z.1, hk _ _ _ _ _ z.2⟩)
    | exact h.imp (fun z => ⟨z.1, hk _ _ _ _ _ z.2⟩) (fun z => hk _ _ _ _ _ z)
    | exact h.imp (fun z => ⟨z.1, hk _ _ _ _ _ z.2⟩) (fun z => z)
    | (obtain ⟨N, h⟩ := h; exact ⟨N, h.1, h.2.1, h.2.2.1, h.2.2.2.1, hk _ _ _ _ _ h.2.2.2.2⟩)
    | (simp_all; done))
theorem mo_icmplt {tg nx : Nat} : m_mono (o_icmplt tg nx) := by
  intro call lo st bd S kk kk' r hk h
  revert h
  unfold o_icmplt
  (repeat' split) <;> (intro h; first
    | exact h
    | exact h.elim
    | exact hk _ _ _ _ _ h
    | exact ⟨h.1, hk _ _ _ _ _ h.2⟩
    | exact ⟨h.1, h.2.1, hk _ _ _ _ _ h.2.2⟩
    | exact ⟨h.1, h.2.1, h.2.2.1, hk _ _ _ _ _ h.2.2.2⟩
    | exact ⟨h.1, h.2.1, h.2.2.1, h.2.2.2.1, hk _ _ _ _ _ h.2.2.2.2⟩
    | exact ⟨h.1, h.2.1, h.2.2.1, h.2.2.2.1, h.2.2.2.2.1, h.2.2.2.2.2.1, hk _ _ _ _ _ h.2.2.2.2.2.2⟩
    | exact ⟨h.1, h.2.1, h.2.2.1, h.2.2.2.1, h.2.2.2.2.1, h.2.2.2.2.2.1, h.2.2.2.2.2.2.1, hk _ _ _ _ _ h.2.2.2.2.2.2.2⟩
    | exact ⟨fun z => hk _ _ _ _ _ (h.1 z), fun z => hk _ _ _ _ _ (h.2 z)⟩
    | exact h.imp (fun z => ⟨z.1, hk _ _ _ _ _ z.2⟩) (fun z => ⟨z.1, hk _ _ _ _ _ z.2⟩)
    | exact h.imp (fun z => ⟨z.1, hk _ _ _ _ _ z.2⟩) (fun z => hk _ _ _ _ _ z)
    | exact h.imp (fun z => ⟨z.1, hk _ _ _ _ _ z.2⟩) (fun z => z)
    | (obtain ⟨N, h⟩ := h; exact ⟨N, h.1, h.2.1, h.2.2.1, h.2.2.2.1, hk _ _ _ _ _ h.2.2.2.2⟩)
    | (simp_all; done))
theorem mo_icmpge {tg nx : Nat} : m_mono (o_icmpge tg nx) := by
  intro call lo st bd S kk kk' r hk h
  revert h
  unfold o_icmpge
  (repeat' split) <;> (intro h; first
    | exact h
    | exact h.elim
    | exact hk _ _ _ _ _ h
    | exact ⟨h.1, hk _ _ _ _ _ h.2⟩
    | exact ⟨h.1, h.2.1, hk _ _ _ _ _ h.2.2⟩
    | exact ⟨h.1, h.2.1, h.2.2.1, hk _ _ _ _ _ h.2.2.2⟩
    | exact ⟨h.1, h.2.1, h.2.2.1, h.2.2.2.1, hk _ _ _ _ _ h.2.2.2.2⟩
    | exact ⟨h.1, h.2.1, h.2.2.1, h.2.2.2.1, h.2.2.2.2.1, h.2.2.2.2.2.1, hk _ _ _ _ _ h.2.2.2.2.2.2⟩
    | exact ⟨h.1, h.2.1, h.2.2.1, h.2.2.2.1, h.2.2.2.2.1, h.2.2.2.2.2.1, h.2.2.2.2.2.2.1, hk _ _ _ _ _ h.2.2.2.2.2.2.2⟩
    | exact ⟨fun z => hk _ _ _ _ _ (h.1 z), fun z => hk _ _ _ _ _ (h.2 z)⟩
    | exact h.imp (fun z => ⟨z.1, hk _ _ _ _ _ z.2⟩) (fun z => ⟨z.1, hk _ _ _ _ _ z.2⟩)
    | exact h.imp (fun z => ⟨z.1, hk _ _ _ _ _ z.2⟩) (fun z => hk _ _ _ _ _ z)
    | exact h.imp (fun z => ⟨z.1, hk _ _ _ _ _ z.2⟩) (fun z => z)
    | (obtain ⟨N, h⟩ := h; exact ⟨N, h.1, h.2.1, h.2.2.1, h.2.2.2.1, hk _ _ _ _ _ h.2.2.2.2⟩)
    | (simp_all; done))
theorem mo_icmpgt {tg nx : Nat} : m_mono (o_icmpgt tg nx) := by
  intro call lo st bd S kk kk' r hk h
  revert h
  unfold o_icmpgt
  (repeat' split) <;> (intro h; first
    | exact h
    | exact h.elim
    | exact hk _ _ _ _ _ h
    | exact ⟨h.1, hk _ _ _ _ _ h.2⟩
    | exact ⟨h.1, h.2.1, hk _ _ _ _ _ h.2.2⟩
    | exact ⟨h.1, h.2.1, h.2.2.1, hk _ _ _ _ _ h.2.2.2⟩
    | exact ⟨h.1, h.2.1, h.2.2.1, h.2.2.2.1, hk _ _ _ _ _ h.2.2.2.2⟩
    | exact ⟨h.1, h.2.1, h.2.2.1, h.2.2.2.1, h.2.2.2.2.1, h.2.2.2.2.2.1, hk _ _ _ _ _ h.2.2.2.2.2.2⟩
    | exact ⟨h.1, h.2.1, h.2.2.1, h.2.2.2.1, h.2.2.2.2.1, h.2.2.2.2.2.1, h.2.2.2.2.2.2.1, hk _ _ _ _ _ h.2.2.2.2.2.2.2⟩
    | exact ⟨fun z => hk _ _ _ _ _ (h.1 z), fun z => hk _ _ _ _ _ (h.2 z)⟩
    | exact h.imp (fun z => ⟨z.1, hk _ _ _ _ _ z.2⟩) (fun z => ⟨z.1, hk _ _ _ _ _ z.2⟩)
    | exact h.imp (fun z => ⟨z.1, hk _ _ _ _ _ z.2⟩) (fun z => hk _ _ _ _ _ z)
    | exact h.imp (fun z => ⟨z.1, hk _ _ _ _ _ z.2⟩) (fun z => z)
    | (obtain ⟨N, h⟩ := h; exact ⟨N, h.1, h.2.1, h.2.2.1, h.2.2.2.1, hk _ _ _ _ _ h.2.2.2.2⟩)
    | (simp_all; done))
theorem mo_icmple {tg nx : Nat} : m_mono (o_icmple tg nx) := by
  intro call lo st bd S kk kk' r hk h
  revert h
  unfold o_icmple
  (repeat' split) <;> (intro h; first
    | exact h
    | exact h.elim
    | exact hk _ _ _ _ _ h
    | exact ⟨h.1, hk _ _ _ _ _ h.2⟩
    | exact ⟨h.1, h.2.1, hk _ _ _ _ _ h.2.2⟩
    | exact ⟨h.1, h.2.1, h.2.2.1, hk _ _ _ _ _ h.2.2.2⟩
    | exact ⟨h.1, h.2.1, h.2.2.1, h.2.2.2.1, hk _ _ _ _ _ h.2.2.2.2⟩
    | exact ⟨h.1, h.2.1, h.2.2.1, h.2.2.2.1, h.2.2.2.2.1, h.2.2.2.2.2.1, hk _ _ _ _ _ h.2.2.2.2.2.2⟩
    | exact ⟨h.1, h.2.1, h.2.2.1, h.2.2.2.1, h.2.2.2.2.1, h.2.2.2.2.2.1, h.2.2.2.2.2.2.1, hk _ _ _ _ _ h.2.2.2.2.2.2.2⟩
    | exact ⟨fun z => hk _ _ _ _ _ (h.1 z), fun z => hk _ _ _ _ _ (h.2 z)⟩
    | exact h.imp (fun z => ⟨z.1, hk _ _ _ _ _ z.2⟩) (fun z => ⟨z.1, hk _ _ _ _ _ z.2⟩)
    | exact h.imp (fun z => ⟨z.1, hk _ _ _ _ _ z.2⟩) (fun z => hk _ _ _ _ _ z)
    | exact h.imp (fun z => ⟨z.1, hk _ _ _ _ _ z.2⟩) (fun z => z)
    | (obtain ⟨N, h⟩ := h; exact ⟨N, h.1, h.2.1, h.2.2.1, h.2.2.2.1, hk _ _ _ _ _ h.2.2.2.2⟩)
    | (simp_all; done))
theorem mo_goto {tg : Nat} : m_mono (o_goto tg) := by
  intro call lo st bd S kk kk' r hk h
  revert h
  unfold o_goto
  (repeat' split) <;> (intro h; first
    | exact h
    | exact h.elim
    | exact hk _ _ _ _ _ h
    | exact ⟨h.1, hk _ _ _ _ _ h.2⟩
    | exact ⟨h.1, h.2.1, hk _ _ _ _ _ h.2.2⟩
    | exact ⟨h.1, h.2.1, h.2.2.1, hk _ _ _ _ _ h.2.2.2⟩
    | exact ⟨h.1, h.2.1, h.2.2.1, h.2.2.2.1, hk _ _ _ _ _ h.2.2.2.2⟩
    | exact ⟨h.1, h.2.1, h.2.2.1, h.2.2.2.1, h.2.2.2.2.1, h.2.2.2.2.2.1, hk _ _ _ _ _ h.2.2.2.2.2.2⟩
    | exact ⟨h.1, h.2.1, h.2.2.1, h.2.2.2.1, h.2.2.2.2.1, h.2.2.2.2.2.1, h.2.2.2.2.2.2.1, hk _ _ _ _ _ h.2.2.2.2.2.2.2⟩
    | exact ⟨fun z => hk _ _ _ _ _ (h.1 z), fun z => hk _ _ _ _ _ (h.2 z)⟩
    | exact h.imp (fun z => ⟨z.1, hk _ _ _ _ _ z.2⟩) (fun z => ⟨z.1, hk _ _ _ _ _ z.2⟩)
    | exact h.imp (fun z => ⟨z.1, hk _ _ _ _ _ z.2⟩) (fun z => hk _ _ _ _ _ z)
    | exact h.imp (fun z => ⟨z.1, hk _ _ _ _ _ z.2⟩) (fun z => z)
    | (obtain ⟨N, h⟩ := h; exact ⟨N, h.1, h.2.1, h.2.2.1, h.2.2.2.1, hk _ _ _ _ _ h.2.2.2.2⟩)
    | (simp_all; done))
theorem mo_getf {ci k nx : Nat} : m_mono (o_getf ci k nx) := by
  intro call lo st bd S kk kk' r hk h
  revert h
  unfold o_getf
  (repeat' split) <;> (intro h; first
    | exact h
    | exact h.elim
    | exact hk _ _ _ _ _ h
    | exact ⟨h.1, hk _ _ _ _ _ h.2⟩
    | exact ⟨h.1, h.2.1, hk _ _ _ _ _ h.2.2⟩
    | exact ⟨h.1, h.2.1, h.2.2.1, hk _ _ _ _ _ h.2.2.2⟩
    | exact ⟨h.1, h.2.1, h.2.2.1, h.2.2.2.1, hk _ _ _ _ _ h.2.2.2.2⟩
    | exact ⟨h.1, h.2.1, h.2.2.1, h.2.2.2.1, h.2.2.2.2.1, h.2.2.2.2.2.1, hk _ _ _ _ _ h.2.2.2.2.2.2⟩
    | exact ⟨h.1, h.2.1, h.2.2.1, h.2.2.2.1, h.2.2.2.2.1, h.2.2.2.2.2.1, h.2.2.2.2.2.2.1, hk _ _ _ _ _ h.2.2.2.2.2.2.2⟩
    | exact ⟨fun z => hk _ _ _ _ _ (h.1 z), fun z => hk _ _ _ _ _ (h.2 z)⟩
    | exact h.imp (fun z => ⟨z.1, hk _ _ _ _ _ z.2⟩) (fun z => ⟨z.1, hk _ _ _ _ _ z.2⟩)
    | exact h.imp (fun z => ⟨z.1, hk _ _ _ _ _ z.2⟩) (fun z => hk _ _ _ _ _ z)
    | exact h.imp (fun z => ⟨z.1, hk _ _ _ _ _ z.2⟩) (fun z => z)
    | (obtain ⟨N, h⟩ := h; exact ⟨N, h.1, h.2.1, h.2.2.1, h.2.2.2.1, hk _ _ _ _ _ h.2.2.2.2⟩)
    | (simp_all; done))
theorem mo_puti {ci k nx : Nat} : m_mono (o_puti ci k nx) := by
  intro call lo st bd S kk kk' r hk h
  revert h
  unfold o_puti
  (repeat' split) <;> (intro h; first
    | exact h
    | exact h.elim
    | exact hk _ _ _ _ _ h
    | exact ⟨h.1, hk _ _ _ _ _ h.2⟩
    | exact ⟨h.1, h.2.1, hk _ _ _ _ _ h.2.2⟩
    | exact ⟨h.1, h.2.1, h.2.2.1, hk _ _ _ _ _ h.2.2.2⟩
    | exact ⟨h.1, h.2.1, h.2.2.1, h.2.2.2.1, hk _ _ _ _ _ h.2.2.2.2⟩
    | exact ⟨h.1, h.2.1, h.2.2.1, h.2.2.2.1, h.2.2.2.2.1, h.2.2.2.2.2.1, hk _ _ _ _ _ h.2.2.2.2.2.2⟩
    | exact ⟨h.1, h.2.1, h.2.2.1, h.2.2.2.1, h.2.2.2.2.1, h.2.2.2.2.2.1, h.2.2.2.2.2.2.1, hk _ _ _ _ _ h.2.2.2.2.2.2.2⟩
    | exact ⟨fun z => hk _ _ _ _ _ (h.1 z), fun z => hk _ _ _ _ _ (h.2 z)⟩
    | exact h.imp (fun z => ⟨z.1, hk _ _ _ _ _ z.2⟩) (fun z => ⟨z.1, hk _ _ _ _ _ z.2⟩)
    | exact h.imp (fun z => ⟨z.1, hk _ _ _ _ _ z.2⟩) (fun z => hk _ _ _ _ _ z)
    | exact h.imp (fun z => ⟨z.1, hk _ _ _ _ _ z.2⟩) (fun z => z)
    | (obtain ⟨N, h⟩ := h; exact ⟨N, h.1, h.2.1, h.2.2.1, h.2.2.2.1, hk _ _ _ _ _ h.2.2.2.2⟩)
    | (simp_all; done))
theorem mo_putz {ci k nx : Nat} : m_mono (o_putz ci k nx) := by
  intro call lo st bd S kk kk' r hk h
  revert h
  unfold o_putz
  (repeat' split) <;> (intro h; first
    | exact h
    | exact h.elim
    | exact hk _ _ _ _ _ h
    | exact ⟨h.1, hk _ _ _ _ _ h.2⟩
    | exact ⟨h.1, h.2.1, hk _ _ _ _ _ h.2.2⟩
    | exact ⟨h.1, h.2.1, h.2.2.1, hk _ _ _ _ _ h.2.2.2⟩
    | exact ⟨h.1, h.2.1, h.2.2.1, h.2.2.2.1, hk _ _ _ _ _ h.2.2.2.2⟩
    | exact ⟨h.1, h.2.1, h.2.2.1, h.2.2.2.1, h.2.2.2.2.1, h.2.2.2.2.2.1, hk _ _ _ _ _ h.2.2.2.2.2.2⟩
    | exact ⟨h.1, h.2.1, h.2.2.1, h.2.2.2.1, h.2.2.2.2.1, h.2.2.2.2.2.1, h.2.2.2.2.2.2.1, hk _ _ _ _ _ h.2.2.2.2.2.2.2⟩
    | exact ⟨fun z => hk _ _ _ _ _ (h.1 z), fun z => hk _ _ _ _ _ (h.2 z)⟩
    | exact h.imp (fun z => ⟨z.1, hk _ _ _ _ _ z.2⟩) (fun z => ⟨z.1, hk _ _ _ _ _ z.2⟩)
    | exact h.imp (fun z => ⟨z.1, hk _ _ _ _ _ z.2⟩) (fun z => hk _ _ _ _ _ z)
    | exact h.imp (fun z => ⟨z.1, hk _ _ _ _ _ z.2⟩) (fun z => z)
    | (obtain ⟨N, h⟩ := h; exact ⟨N, h.1, h.2.1, h.2.2.1, h.2.2.2.1, hk _ _ _ _ _ h.2.2.2.2⟩)
    | (simp_all; done))
theorem mo_putr {ci k nx : Nat} : m_mono (o_putr ci k nx) := by
  intro call lo st bd S kk kk' r hk h
  revert h
  unfold o_putr
  (repeat' split) <;> (intro h; first
    | exact h
    | exact h.elim
    | exact hk _ _ _ _ _ h
    | exact ⟨h.1, hk _ _ _ _ _ h.2⟩
    | exact ⟨h.1, h.2.1, hk _ _ _ _ _ h.2.2⟩
    | exact ⟨h.1, h.2.1, h.2.2.1, hk _ _ _ _ _ h.2.2.2⟩
    | exact ⟨h.1, h.2.1, h.2.2.1, h.2.2.2.1, hk _ _ _ _ _ h.2.2.2.2⟩
    | exact ⟨h.1, h.2.1, h.2.2.1, h.2.2.2.1, h.2.2.2.2.1, h.2.2.2.2.2.1, hk _ _ _ _ _ h.2.2.2.2.2.2⟩
    | exact ⟨h.1, h.2.1, h.2.2.1, h.2.2.2.1, h.2.2.2.2.1, h.2.2.2.2.2.1, h.2.2.2.2.2.2.1, hk _ _ _ _ _ h.2.2.2.2.2.2.2⟩
    | exact ⟨fun z => hk _ _ _ _ _ (h.1 z), fun z => hk _ _ _ _ _ (h.2 z)⟩
    | exact h.imp (fun z => ⟨z.1, hk _ _ _ _ _ z.2⟩) (fun z => ⟨z.1, hk _ _ _ _ _ z.2⟩)
    | exact h.imp (fun z => ⟨z.1, hk _ _ _ _ _ z.2⟩) (fun z => hk _ _ _ _ _ z)
    | exact h.imp (fun z => ⟨z.1, hk _ _ _ _ _ z.2⟩) (fun z => z)
    | (obtain ⟨N, h⟩ := h; exact ⟨N, h.1, h.2.1, h.2.2.1, h.2.2.2.1, hk _ _ _ _ _ h.2.2.2.2⟩)
    | (simp_all; done))
theorem mo_iald {k nx : Nat} : m_mono (o_iald k nx) := by
  intro call lo st bd S kk kk' r hk h
  revert h
  unfold o_iald
  (repeat' split) <;> (intro h; first
    | exact h
    | exact h.elim
    | exact hk _ _ _ _ _ h
    | exact ⟨h.1, hk _ _ _ _ _ h.2⟩
    | exact ⟨h.1, h.2.1, hk _ _ _ _ _ h.2.2⟩
    | exact ⟨h.1, h.2.1, h.2.2.1, hk _ _ _ _ _ h.2.2.2⟩
    | exact ⟨h.1, h.2.1, h.2.2.1, h.2.2.2.1, hk _ _ _ _ _ h.2.2.2.2⟩
    | exact ⟨h.1, h.2.1, h.2.2.1, h.2.2.2.1, h.2.2.2.2.1, h.2.2.2.2.2.1, hk _ _ _ _ _ h.2.2.2.2.2.2⟩
    | exact ⟨h.1, h.2.1, h.2.2.1, h.2.2.2.1, h.2.2.2.2.1, h.2.2.2.2.2.1, h.2.2.2.2.2.2.1, hk _ _ _ _ _ h.2.2.2.2.2.2.2⟩
    | exact ⟨fun z => hk _ _ _ _ _ (h.1 z), fun z => hk _ _ _ _ _ (h.2 z)⟩
    | exact h.imp (fun z => ⟨z.1, hk _ _ _ _ _ z.2⟩) (fun z => ⟨z.1, hk _ _ _ _ _ z.2⟩)
    | exact h.imp (fun z => ⟨z.1, hk _ _ _ _ _ z.2⟩) (fun z => hk _ _ _ _ _ z)
    | exact h.imp (fun z => ⟨z.1, hk _ _ _ _ _ z.2⟩) (fun z => z)
    | (obtain ⟨N, h⟩ := h; exact ⟨N, h.1, h.2.1, h.2.2.1, h.2.2.2.1, hk _ _ _ _ _ h.2.2.2.2⟩)
    | (simp_all; done))
theorem mo_iast {nx : Nat} : m_mono (o_iast nx) := by
  intro call lo st bd S kk kk' r hk h
  revert h
  unfold o_iast
  (repeat' split) <;> (intro h; first
    | exact h
    | exact h.elim
    | exact hk _ _ _ _ _ h
    | exact ⟨h.1, hk _ _ _ _ _ h.2⟩
    | exact ⟨h.1, h.2.1, hk _ _ _ _ _ h.2.2⟩
    | exact ⟨h.1, h.2.1, h.2.2.1, hk _ _ _ _ _ h.2.2.2⟩
    | exact ⟨h.1, h.2.1, h.2.2.1, h.2.2.2.1, hk _ _ _ _ _ h.2.2.2.2⟩
    | exact ⟨h.1, h.2.1, h.2.2.1, h.2.2.2.1, h.2.2.2.2.1, h.2.2.2.2.2.1, hk _ _ _ _ _ h.2.2.2.2.2.2⟩
    | exact ⟨h.1, h.2.1, h.2.2.1, h.2.2.2.1, h.2.2.2.2.1, h.2.2.2.2.2.1, h.2.2.2.2.2.2.1, hk _ _ _ _ _ h.2.2.2.2.2.2.2⟩
    | exact ⟨fun z => hk _ _ _ _ _ (h.1 z), fun z => hk _ _ _ _ _ (h.2 z)⟩
    | exact h.imp (fun z => ⟨z.1, hk _ _ _ _ _ z.2⟩) (fun z => ⟨z.1, hk _ _ _ _ _ z.2⟩)
    | exact h.imp (fun z => ⟨z.1, hk _ _ _ _ _ z.2⟩) (fun z => hk _ _ _ _ _ z)
    | exact h.imp (fun z => ⟨z.1, hk _ _ _ _ _ z.2⟩) (fun z => z)
    | (obtain ⟨N, h⟩ := h; exact ⟨N, h.1, h.2.1, h.2.2.1, h.2.2.2.1, hk _ _ _ _ _ h.2.2.2.2⟩)
    | (simp_all; done))
theorem mo_zast {nx : Nat} : m_mono (o_zast nx) := by
  intro call lo st bd S kk kk' r hk h
  revert h
  unfold o_zast
  (repeat' split) <;> (intro h; first
    | exact h
    | exact h.elim
    | exact hk _ _ _ _ _ h
    | exact ⟨h.1, hk _ _ _ _ _ h.2⟩
    | exact ⟨h.1, h.2.1, hk _ _ _ _ _ h.2.2⟩
    | exact ⟨h.1, h.2.1, h.2.2.1, hk _ _ _ _ _ h.2.2.2⟩
    | exact ⟨h.1, h.2.1, h.2.2.1, h.2.2.2.1, hk _ _ _ _ _ h.2.2.2.2⟩
    | exact ⟨h.1, h.2.1, h.2.2.1, h.2.2.2.1, h.2.2.2.2.1, h.2.2.2.2.2.1, hk _ _ _ _ _ h.2.2.2.2.2.2⟩
    | exact ⟨h.1, h.2.1, h.2.2.1, h.2.2.2.1, h.2.2.2.2.1, h.2.2.2.2.2.1, h.2.2.2.2.2.2.1, hk _ _ _ _ _ h.2.2.2.2.2.2.2⟩
    | exact ⟨fun z => hk _ _ _ _ _ (h.1 z), fun z => hk _ _ _ _ _ (h.2 z)⟩
    | exact h.imp (fun z => ⟨z.1, hk _ _ _ _ _ z.2⟩) (fun z => ⟨z.1, hk _ _ _ _ _ z.2⟩)
    | exact h.imp (fun z => ⟨z.1, hk _ _ _ _ _ z.2⟩) (fun z => hk _ _ _ _ _ z)
    | exact h.imp (fun z => ⟨z.1, hk _ _ _ _ _ z.2⟩) (fun z => z)
    | (obtain ⟨N, h⟩ := h; exact ⟨N, h.1, h.2.1, h.2.2.1, h.2.2.2.1, hk _ _ _ _ _ h.2.2.2.2⟩)
    | (simp_all; done))
theorem mo_lald {nx : Nat} : m_mono (o_lald nx) := by
  intro call lo st bd S kk kk' r hk h
  revert h
  unfold o_lald
  (repeat' split) <;> (intro h; first
    | exact h
    | exact h.elim
    | exact hk _ _ _ _ _ h
    | exact ⟨h.1, hk _ _ _ _ _ h.2⟩
    | exact ⟨h.1, h.2.1, hk _ _ _ _ _ h.2.2⟩
    | exact ⟨h.1, h.2.1, h.2.2.1, hk _ _ _ _ _ h.2.2.2⟩
    | exact ⟨h.1, h.2.1, h.2.2.1, h.2.2.2.1, hk _ _ _ _ _ h.2.2.2.2⟩
    | exact ⟨h.1, h.2.1, h.2.2.1, h.2.2.2.1, h.2.2.2.2.1, h.2.2.2.2.2.1, hk _ _ _ _ _ h.2.2.2.2.2.2⟩
    | exact ⟨h.1, h.2.1, h.2.2.1, h.2.2.2.1, h.2.2.2.2.1, h.2.2.2.2.2.1, h.2.2.2.2.2.2.1, hk _ _ _ _ _ h.2.2.2.2.2.2.2⟩
    | exact ⟨fun z => hk _ _ _ _ _ (h.1 z), fun z => hk _ _ _ _ _ (h.2 z)⟩
    | exact h.imp (fun z => ⟨z.1, hk _ _ _ _ _ z.2⟩) (fun z => ⟨z.1, hk _ _ _ _ _ z.2⟩)
    | exact h.imp (fun z => ⟨z.1, hk _ _ _ _ _ z.2⟩) (fun z => hk _ _ _ _ _ z)
    | exact h.imp (fun z => ⟨z.1, hk _ _ _ _ _ z.2⟩) (fun z => z)
    | (obtain ⟨N, h⟩ := h; exact ⟨N, h.1, h.2.1, h.2.2.1, h.2.2.2.1, hk _ _ _ _ _ h.2.2.2.2⟩)
    | (simp_all; done))
theorem mo_last {nx : Nat} : m_mono (o_last nx) := by
  intro call lo st bd S kk kk' r hk h
  revert h
  unfold o_last
  (repeat' split) <;> (intro h; first
    | exact h
    | exact h.elim
    | exact hk _ _ _ _ _ h
    | exact ⟨h.1, hk _ _ _ _ _ h.2⟩
    | exact ⟨h.1, h.2.1, hk _ _ _ _ _ h.2.2⟩
    | exact ⟨h.1, h.2.1, h.2.2.1, hk _ _ _ _ _ h.2.2.2⟩
    | exact ⟨h.1, h.2.1, h.2.2.1, h.2.2.2.1, hk _ _ _ _ _ h.2.2.2.2⟩
    | exact ⟨h.1, h.2.1, h.2.2.1, h.2.2.2.1, h.2.2.2.2.1, h.2.2.2.2.2.1, hk _ _ _ _ _ h.2.2.2.2.2.2⟩
    | exact ⟨h.1, h.2.1, h.2.2.1, h.2.2.2.1, h.2.2.2.2.1, h.2.2.2.2.2.1, h.2.2.2.2.2.2.1, hk _ _ _ _ _ h.2.2.2.2.2.2.2⟩
    | exact ⟨fun z => hk _ _ _ _ _ (h.1 z), fun z => hk _ _ _ _ _ (h.2 z)⟩
    | exact h.imp (fun z => ⟨z.1, hk _ _ _ _ _ z.2⟩) (fun z => ⟨z.1, hk _ _ _ _ _ z.2⟩)
    | exact h.imp (fun z => ⟨z.1, hk _ _ _ _ _ z.2⟩) (fun z => hk _ _ _ _ _ z)
    | exact h.imp (fun z => ⟨z.1, hk _ _ _ _ _ z.2⟩) (fun z => z)
    | (obtain ⟨N, h⟩ := h; exact ⟨N, h.1, h.2.1, h.2.2.1, h.2.2.2.1, hk _ _ _ _ _ h.2.2.2.2⟩)
    | (simp_all; done))
theorem mo_aald {k nx : Nat} : m_mono (o_aald k nx) := by
  intro call lo st bd S kk kk' r hk h
  revert h
  unfold o_aald
  (repeat' split) <;> (intro h; first
    | exact h
    | exact h.elim
    | exact hk _ _ _ _ _ h
    | exact ⟨h.1, hk _ _ _ _ _ h.2⟩
    | exact ⟨h.1, h.2.1, hk _ _ _ _ _ h.2.2⟩
    | exact ⟨h.1, h.2.1, h.2.2.1, hk _ _ _ _ _ h.2.2.2⟩
    | exact ⟨h.1, h.2.1, h.2.2.1, h.2.2.2.1, hk _ _ _ _ _ h.2.2.2.2⟩
    | exact ⟨h.1, h.2.1, h.2.2.1, h.2.2.2.1, h.2.2.2.2.1, h.2.2.2.2.2.1, hk _ _ _ _ _ h.2.2.2.2.2.2⟩
    | exact ⟨h.1, h.2.1, h.2.2.1, h.2.2.2.1, h.2.2.2.2.1, h.2.2.2.2.2.1, h.2.2.2.2.2.2.1, hk _ _ _ _ _ h.2.2.2.2.2.2.2⟩
    | exact ⟨fun z => hk _ _ _ _ _ (h.1 z), fun z => hk _ _ _ _ _ (h.2 z)⟩
    | exact h.imp (fun z => ⟨z.1, hk _ _ _ _ _ z.2⟩) (fun z => ⟨z.1, hk _ _ _ _ _ z.2⟩)
    | exact h.imp (fun z => ⟨z.1, hk _ _ _ _ _ z.2⟩) (fun z => hk _ _ _ _ _ z)
    | exact h.imp (fun z => ⟨z.1, hk _ _ _ _ _ z.2⟩) (fun z => z)
    | (obtain ⟨N, h⟩ := h; exact ⟨N, h.1, h.2.1, h.2.2.1, h.2.2.2.1, hk _ _ _ _ _ h.2.2.2.2⟩)
    | (simp_all; done))
theorem mo_aast {k ci nx : Nat} : m_mono (o_aast k ci nx) := by
  intro call lo st bd S kk kk' r hk h
  revert h
  unfold o_aast
  (repeat' split) <;> (intro h; first
    | exact h
    | exact h.elim
    | exact hk _ _ _ _ _ h
    | exact ⟨h.1, hk _ _ _ _ _ h.2⟩
    | exact ⟨h.1, h.2.1, hk _ _ _ _ _ h.2.2⟩
    | exact ⟨h.1, h.2.1, h.2.2.1, hk _ _ _ _ _ h.2.2.2⟩
    | exact ⟨h.1, h.2.1, h.2.2.1, h.2.2.2.1, hk _ _ _ _ _ h.2.2.2.2⟩
    | exact ⟨h.1, h.2.1, h.2.2.1, h.2.2.2.1, h.2.2.2.2.1, h.2.2.2.2.2.1, hk _ _ _ _ _ h.2.2.2.2.2.2⟩
    | exact ⟨h.1, h.2.1, h.2.2.1, h.2.2.2.1, h.2.2.2.2.1, h.2.2.2.2.2.1, h.2.2.2.2.2.2.1, hk _ _ _ _ _ h.2.2.2.2.2.2.2⟩
    | exact ⟨fun z => hk _ _ _ _ _ (h.1 z), fun z => hk _ _ _ _ _ (h.2 z)⟩
    | exact h.imp (fun z => ⟨z.1, hk _ _ _ _ _ z.2⟩) (fun z => ⟨z.1, hk _ _ _ _ _ z.2⟩)
    | exact h.imp (fun z => ⟨z.1, hk _ _ _ _ _ z.2⟩) (fun z => hk _ _ _ _ _ z)
    | exact h.imp (fun z => ⟨z.1, hk _ _ _ _ _ z.2⟩) (fun z => z)
    | (obtain ⟨N, h⟩ := h; exact ⟨N, h.1, h.2.1, h.2.2.1, h.2.2.2.1, hk _ _ _ _ _ h.2.2.2.2⟩)
    | (simp_all; done))
theorem mo_alenq {k nx : Nat} : m_mono (o_alenq k nx) := by
  intro call lo st bd S kk kk' r hk h
  revert h
  unfold o_alenq
  (repeat' split) <;> (intro h; first
    | exact h
    | exact h.elim
    | exact hk _ _ _ _ _ h
    | exact ⟨h.1, hk _ _ _ _ _ h.2⟩
    | exact ⟨h.1, h.2.1, hk _ _ _ _ _ h.2.2⟩
    | exact ⟨h.1, h.2.1, h.2.2.1, hk _ _ _ _ _ h.2.2.2⟩
    | exact ⟨h.1, h.2.1, h.2.2.1, h.2.2.2.1, hk _ _ _ _ _ h.2.2.2.2⟩
    | exact ⟨h.1, h.2.1, h.2.2.1, h.2.2.2.1, h.2.2.2.2.1, h.2.2.2.2.2.1, hk _ _ _ _ _ h.2.2.2.2.2.2⟩
    | exact ⟨h.1, h.2.1, h.2.2.1, h.2.2.2.1, h.2.2.2.2.1, h.2.2.2.2.2.1, h.2.2.2.2.2.2.1, hk _ _ _ _ _ h.2.2.2.2.2.2.2⟩
    | exact ⟨fun z => hk _ _ _ _ _ (h.1 z), fun z => hk _ _ _ _ _ (h.2 z)⟩
    | exact h.imp (fun z => ⟨z.1, hk _ _ _ _ _ z.2⟩) (fun z => ⟨z.1, hk _ _ _ _ _ z.2⟩)
    | exact h.imp (fun z => ⟨z.1, hk _ _ _ _ _ z.2⟩) (fun z => hk _ _ _ _ _ z)
    | exact h.imp (fun z => ⟨z.1, hk _ _ _ _ _ z.2⟩) (fun z => z)
    | (obtain ⟨N, h⟩ := h; exact ⟨N, h.1, h.2.1, h.2.2.1, h.2.2.2.1, hk _ _ _ _ _ h.2.2.2.2⟩)
    | (simp_all; done))
theorem mo_new {ci N : Nat} {fs : List Value} {nx : Nat} : m_mono (o_new ci N fs nx) := by
  intro call lo st bd S kk kk' r hk h
  revert h
  unfold o_new
  (repeat' split) <;> (intro h; first
    | exact h
    | exact h.elim
    | exact hk _ _ _ _ _ h
    | exact ⟨h.1, hk _ _ _ _ _ h.2⟩
    | exact ⟨h.1, h.2.1, hk _ _ _ _ _ h.2.2⟩
    | exact ⟨h.1, h.2.1, h.2.2.1, hk _ _ _ _ _ h.2.2.2⟩
    | exact ⟨h.1, h.2.1, h.2.2.1, h.2.2.2.1, hk _ _ _ _ _ h.2.2.2.2⟩
    | exact ⟨h.1, h.2.1, h.2.2.1, h.2.2.2.1, h.2.2.2.2.1, h.2.2.2.2.2.1, hk _ _ _ _ _ h.2.2.2.2.2.2⟩
    | exact ⟨h.1, h.2.1, h.2.2.1, h.2.2.2.1, h.2.2.2.2.1, h.2.2.2.2.2.1, h.2.2.2.2.2.2.1, hk _ _ _ _ _ h.2.2.2.2.2.2.2⟩
    | exact ⟨fun z => hk _ _ _ _ _ (h.1 z), fun z => hk _ _ _ _ _ (h.2 z)⟩
    | exact h.imp (fun z => ⟨z.1, hk _ _ _ _ _ z.2⟩) (fun z => ⟨z.1, hk _ _ _ _ _ z.2⟩)
    | exact h.imp (fun z => ⟨z.1, hk _ _ _ _ _ z.2⟩) (fun z => hk _ _ _ _ _ z)
    | exact h.imp (fun z => ⟨z.1, hk _ _ _ _ _ z.2⟩) (fun z => z)
    | (obtain ⟨N, h⟩ := h; exact ⟨N, h.1, h.2.1, h.2.2.1, h.2.2.2.1, hk _ _ _ _ _ h.2.2.2.2⟩)
    | (simp_all; done))
theorem mo_newi {k N : Nat} {nx : Nat} : m_mono (o_newi k N nx) := by
  intro call lo st bd S kk kk' r hk h
  revert h
  unfold o_newi
  (repeat' split) <;> (intro h; first
    | exact h
    | exact h.elim
    | exact hk _ _ _ _ _ h
    | exact ⟨h.1, hk _ _ _ _ _ h.2⟩
    | exact ⟨h.1, h.2.1, hk _ _ _ _ _ h.2.2⟩
    | exact ⟨h.1, h.2.1, h.2.2.1, hk _ _ _ _ _ h.2.2.2⟩
    | exact ⟨h.1, h.2.1, h.2.2.1, h.2.2.2.1, hk _ _ _ _ _ h.2.2.2.2⟩
    | exact ⟨h.1, h.2.1, h.2.2.1, h.2.2.2.1, h.2.2.2.2.1, h.2.2.2.2.2.1, hk _ _ _ _ _ h.2.2.2.2.2.2⟩
    | exact ⟨h.1, h.2.1, h.2.2.1, h.2.2.2.1, h.2.2.2.2.1, h.2.2.2.2.2.1, h.2.2.2.2.2.2.1, hk _ _ _ _ _ h.2.2.2.2.2.2.2⟩
    | exact ⟨fun z => hk _ _ _ _ _ (h.1 z), fun z => hk _ _ _ _ _ (h.2 z)⟩
    | exact h.imp (fun z => ⟨z.1, hk _ _ _ _ _ z.2⟩) (fun z => ⟨z.1, hk _ _ _ _ _ z.2⟩)
    | exact h.imp (fun z => ⟨z.1, hk _ _ _ _ _ z.2⟩) (fun z => hk _ _ _ _ _ z)
    | exact h.imp (fun z => ⟨z.1, hk _ _ _ _ _ z.2⟩) (fun z => z)
    | (obtain ⟨N, h⟩ := h; exact ⟨N, h.1, h.2.1, h.2.2.1, h.2.2.2.1, hk _ _ _ _ _ h.2.2.2.2⟩)
    | (simp_all; done))
theorem mo_newl {N : Nat} {nx : Nat} : m_mono (o_newl N nx) := by
  intro call lo st bd S kk kk' r hk h
  revert h
  unfold o_newl
  (repeat' split) <;> (intro h; first
    | exact h
    | exact h.elim
    | exact hk _ _ _ _ _ h
    | exact ⟨h.1, hk _ _ _ _ _ h.2⟩
    | exact ⟨h.1, h.2.1, hk _ _ _ _ _ h.2.2⟩
    | exact ⟨h.1, h.2.1, h.2.2.1, hk _ _ _ _ _ h.2.2.2⟩
    | exact ⟨h.1, h.2.1, h.2.2.1, h.2.2.2.1, hk _ _ _ _ _ h.2.2.2.2⟩
    | exact ⟨h.1, h.2.1, h.2.2.1, h.2.2.2.1, h.2.2.2.2.1, h.2.2.2.2.2.1, hk _ _ _ _ _ h.2.2.2.2.2.2⟩
    | exact ⟨h.1, h.2.1, h.2.2.1, h.2.2.2.1, h.2.2.2.2.1, h.2.2.2.2.2.1, h.2.2.2.2.2.2.1, hk _ _ _ _ _ h.2.2.2.2.2.2.2⟩
    | exact ⟨fun z => hk _ _ _ _ _ (h.1 z), fun z => hk _ _ _ _ _ (h.2 z)⟩
    | exact h.imp (fun z => ⟨z.1, hk _ _ _ _ _ z.2⟩) (fun z => ⟨z.1, hk _ _ _ _ _ z.2⟩)
    | exact h.imp (fun z => ⟨z.1, hk _ _ _ _ _ z.2⟩) (fun z => hk _ _ _ _ _ z)
    | exact h.imp (fun z => ⟨z.1, hk _ _ _ _ _ z.2⟩) (fun z => z)
    | (obtain ⟨N, h⟩ := h; exact ⟨N, h.1, h.2.1, h.2.2.1, h.2.2.2.1, hk _ _ _ _ _ h.2.2.2.2⟩)
    | (simp_all; done))
theorem mo_newq {k N : Nat} {nx : Nat} : m_mono (o_newq k N nx) := by
  intro call lo st bd S kk kk' r hk h
  revert h
  unfold o_newq
  (repeat' split) <;> (intro h; first
    | exact h
    | exact h.elim
    | exact hk _ _ _ _ _ h
    | exact ⟨h.1, hk _ _ _ _ _ h.2⟩
    | exact ⟨h.1, h.2.1, hk _ _ _ _ _ h.2.2⟩
    | exact ⟨h.1, h.2.1, h.2.2.1, hk _ _ _ _ _ h.2.2.2⟩
    | exact ⟨h.1, h.2.1, h.2.2.1, h.2.2.2.1, hk _ _ _ _ _ h.2.2.2.2⟩
    | exact ⟨h.1, h.2.1, h.2.2.1, h.2.2.2.1, h.2.2.2.2.1, h.2.2.2.2.2.1, hk _ _ _ _ _ h.2.2.2.2.2.2⟩
    | exact ⟨h.1, h.2.1, h.2.2.1, h.2.2.2.1, h.2.2.2.2.1, h.2.2.2.2.2.1, h.2.2.2.2.2.2.1, hk _ _ _ _ _ h.2.2.2.2.2.2.2⟩
    | exact ⟨fun z => hk _ _ _ _ _ (h.1 z), fun z => hk _ _ _ _ _ (h.2 z)⟩
    | exact h.imp (fun z => ⟨z.1, hk _ _ _ _ _ z.2⟩) (fun z => ⟨z.1, hk _ _ _ _ _ z.2⟩)
    | exact h.imp (fun z => ⟨z.1, hk _ _ _ _ _ z.2⟩) (fun z => hk _ _ _ _ _ z)
    | exact h.imp (fun z => ⟨z.1, hk _ _ _ _ _ z.2⟩) (fun z => z)
    | (obtain ⟨N, h⟩ := h; exact ⟨N, h.1, h.2.1, h.2.2.1, h.2.2.2.1, hk _ _ _ _ _ h.2.2.2.2⟩)
    | (simp_all; done))
theorem mo_mna {N K nx : Nat} : m_mono (o_mna N K nx) := by
  intro call lo st bd S kk kk' r hk h
  revert h
  unfold o_mna
  (repeat' split) <;> (intro h; first
    | exact h
    | exact h.elim
    | exact hk _ _ _ _ _ h
    | exact ⟨h.1, hk _ _ _ _ _ h.2⟩
    | exact ⟨h.1, h.2.1, hk _ _ _ _ _ h.2.2⟩
    | exact ⟨h.1, h.2.1, h.2.2.1, hk _ _ _ _ _ h.2.2.2⟩
    | exact ⟨h.1, h.2.1, h.2.2.1, h.2.2.2.1, hk _ _ _ _ _ h.2.2.2.2⟩
    | exact ⟨h.1, h.2.1, h.2.2.1, h.2.2.2.1, h.2.2.2.2.1, h.2.2.2.2.2.1, hk _ _ _ _ _ h.2.2.2.2.2.2⟩
    | exact ⟨h.1, h.2.1, h.2.2.1, h.2.2.2.1, h.2.2.2.2.1, h.2.2.2.2.2.1, h.2.2.2.2.2.2.1, hk _ _ _ _ _ h.2.2.2.2.2.2.2⟩
    | exact ⟨fun z => hk _ _ _ _ _ (h.1 z), fun z => hk _ _ _ _ _ (h.2 z)⟩
    | exact h.imp (fun z => ⟨z.1, hk _ _ _ _ _ z.2⟩) (fun z => ⟨z.1, hk _ _ _ _ _ z.2⟩)
    | exact h.imp (fun z => ⟨z.1, hk _ _ _ _ _ z.2⟩) (fun z => hk _ _ _ _ _ z)
    | exact h.imp (fun z => ⟨z.1, hk _ _ _ _ _ z.2⟩) (fun z => z)
    | (obtain ⟨N, h⟩ := h; exact ⟨N, h.1, h.2.1, h.2.2.1, h.2.2.2.1, hk _ _ _ _ _ h.2.2.2.2⟩)
    | (simp_all; done))
theorem mo_copy {nx : Nat} : m_mono (o_copy nx) := by
  intro call lo st bd S kk kk' r hk h
  revert h
  unfold o_copy
  (repeat' split) <;> (intro h; first
    | exact h
    | exact h.elim
    | exact hk _ _ _ _ _ h
    | exact ⟨h.1, hk _ _ _ _ _ h.2⟩
    | exact ⟨h.1, h.2.1, hk _ _ _ _ _ h.2.2⟩
    | exact ⟨h.1, h.2.1, h.2.2.1, hk _ _ _ _ _ h.2.2.2⟩
    | exact ⟨h.1, h.2.1, h.2.2.1, h.2.2.2.1, hk _ _ _ _ _ h.2.2.2.2⟩
    | exact ⟨h.1, h.2.1, h.2.2.1, h.2.2.2.1, h.2.2.2.2.1, h.2.2.2.2.2.1, hk _ _ _ _ _ h.2.2.2.2.2.2⟩
    | exact ⟨h.1, h.2.1, h.2.2.1, h.2.2.2.1, h.2.2.2.2.1, h.2.2.2.2.2.1, h.2.2.2.2.2.2.1, hk _ _ _ _ _ h.2.2.2.2.2.2.2⟩
    | exact ⟨fun z => hk _ _ _ _ _ (h.1 z), fun z => hk _ _ _ _ _ (h.2 z)⟩
    | exact h.imp (fun z => ⟨z.1, hk _ _ _ _ _ z.2⟩) (fun z => ⟨z.1, hk _ _ _ _ _ z.2⟩)
    | exact h.imp (fun z => ⟨z.1, hk _ _ _ _ _ z.2⟩) (fun z => hk _ _ _ _ _ z)
    | exact h.imp (fun z => ⟨z.1, hk _ _ _ _ _ z.2⟩) (fun z => z)
    | (obtain ⟨N, h⟩ := h; exact ⟨N, h.1, h.2.1, h.2.2.1, h.2.2.2.1, hk _ _ _ _ _ h.2.2.2.2⟩)
    | (simp_all; done))
theorem mo_drop {nx : Nat} : m_mono (o_drop nx) := by
  intro call lo st bd S kk kk' r hk h
  revert h
  unfold o_drop
  (repeat' split) <;> (intro h; first
    | exact h
    | exact h.elim
    | exact hk _ _ _ _ _ h
    | exact ⟨h.1, hk _ _ _ _ _ h.2⟩
    | exact ⟨h.1, h.2.1, hk _ _ _ _ _ h.2.2⟩
    | exact ⟨h.1, h.2.1, h.2.2.1, hk _ _ _ _ _ h.2.2.2⟩
    | exact ⟨h.1, h.2.1, h.2.2.1, h.2.2.2.1, hk _ _ _ _ _ h.2.2.2.2⟩
    | exact ⟨h.1, h.2.1, h.2.2.1, h.2.2.2.1, h.2.2.2.2.1, h.2.2.2.2.2.1, hk _ _ _ _ _ h.2.2.2.2.2.2⟩
    | exact ⟨h.1, h.2.1, h.2.2.1, h.2.2.2.1, h.2.2.2.2.1, h.2.2.2.2.2.1, h.2.2.2.2.2.2.1, hk _ _ _ _ _ h.2.2.2.2.2.2.2⟩
    | exact ⟨fun z => hk _ _ _ _ _ (h.1 z), fun z => hk _ _ _ _ _ (h.2 z)⟩
    | exact h.imp (fun z => ⟨z.1, hk _ _ _ _ _ z.2⟩) (fun z => ⟨z.1, hk _ _ _ _ _ z.2⟩)
    | exact h.imp (fun z => ⟨z.1, hk _ _ _ _ _ z.2⟩) (fun z => hk _ _ _ _ _ z)
    | exact h.imp (fun z => ⟨z.1, hk _ _ _ _ _ z.2⟩) (fun z => z)
    | (obtain ⟨N, h⟩ := h; exact ⟨N, h.1, h.2.1, h.2.2.1, h.2.2.2.1, hk _ _ _ _ _ h.2.2.2.2⟩)
    | (simp_all; done))
theorem mo_mbin {f : Int32 → Int32 → Int32} {nx : Nat} : m_mono (o_mbin f nx) := by
  intro call lo st bd S kk kk' r hk h
  revert h
  unfold o_mbin
  (repeat' split) <;> (intro h; first
    | exact h
    | exact h.elim
    | exact hk _ _ _ _ _ h
    | exact ⟨h.1, hk _ _ _ _ _ h.2⟩
    | exact ⟨h.1, h.2.1, hk _ _ _ _ _ h.2.2⟩
    | exact ⟨h.1, h.2.1, h.2.2.1, hk _ _ _ _ _ h.2.2.2⟩
    | exact ⟨h.1, h.2.1, h.2.2.1, h.2.2.2.1, hk _ _ _ _ _ h.2.2.2.2⟩
    | exact ⟨h.1, h.2.1, h.2.2.1, h.2.2.2.1, h.2.2.2.2.1, h.2.2.2.2.2.1, hk _ _ _ _ _ h.2.2.2.2.2.2⟩
    | exact ⟨h.1, h.2.1, h.2.2.1, h.2.2.2.1, h.2.2.2.2.1, h.2.2.2.2.2.1, h.2.2.2.2.2.2.1, hk _ _ _ _ _ h.2.2.2.2.2.2.2⟩
    | exact ⟨fun z => hk _ _ _ _ _ (h.1 z), fun z => hk _ _ _ _ _ (h.2 z)⟩
    | exact h.imp (fun z => ⟨z.1, hk _ _ _ _ _ z.2⟩) (fun z => ⟨z.1, hk _ _ _ _ _ z.2⟩)
    | exact h.imp (fun z => ⟨z.1, hk _ _ _ _ _ z.2⟩) (fun z => hk _ _ _ _ _ z)
    | exact h.imp (fun z => ⟨z.1, hk _ _ _ _ _ z.2⟩) (fun z => z)
    | (obtain ⟨N, h⟩ := h; exact ⟨N, h.1, h.2.1, h.2.2.1, h.2.2.2.1, hk _ _ _ _ _ h.2.2.2.2⟩)
    | (simp_all; done))
theorem mo_mun {f : Int32 → Int32} {nx : Nat} : m_mono (o_mun f nx) := by
  intro call lo st bd S kk kk' r hk h
  revert h
  unfold o_mun
  (repeat' split) <;> (intro h; first
    | exact h
    | exact h.elim
    | exact hk _ _ _ _ _ h
    | exact ⟨h.1, hk _ _ _ _ _ h.2⟩
    | exact ⟨h.1, h.2.1, hk _ _ _ _ _ h.2.2⟩
    | exact ⟨h.1, h.2.1, h.2.2.1, hk _ _ _ _ _ h.2.2.2⟩
    | exact ⟨h.1, h.2.1, h.2.2.1, h.2.2.2.1, hk _ _ _ _ _ h.2.2.2.2⟩
    | exact ⟨h.1, h.2.1, h.2.2.1, h.2.2.2.1, h.2.2.2.2.1, h.2.2.2.2.2.1, hk _ _ _ _ _ h.2.2.2.2.2.2⟩
    | exact ⟨h.1, h.2.1, h.2.2.1, h.2.2.2.1, h.2.2.2.2.1, h.2.2.2.2.2.1, h.2.2.2.2.2.2.1, hk _ _ _ _ _ h.2.2.2.2.2.2.2⟩
    | exact ⟨fun z => hk _ _ _ _ _ (h.1 z), fun z => hk _ _ _ _ _ (h.2 z)⟩
    | exact h.imp (fun z => ⟨z.1, hk _ _ _ _ _ z.2⟩) (fun z => ⟨z.1, hk _ _ _ _ _ z.2⟩)
    | exact h.imp (fun z => ⟨z.1, hk _ _ _ _ _ z.2⟩) (fun z => hk _ _ _ _ _ z)
    | exact h.imp (fun z => ⟨z.1, hk _ _ _ _ _ z.2⟩) (fun z => z)
    | (obtain ⟨N, h⟩ := h; exact ⟨N, h.1, h.2.1, h.2.2.1, h.2.2.2.1, hk _ _ _ _ _ h.2.2.2.2⟩)
    | (simp_all; done))
theorem mo_cast {ci nx : Nat} : m_mono (o_cast ci nx) := by
  intro call lo st bd S kk kk' r hk h
  revert h
  unfold o_cast
  (repeat' split) <;> (intro h; first
    | exact h
    | exact h.elim
    | exact hk _ _ _ _ _ h
    | exact ⟨h.1, hk _ _ _ _ _ h.2⟩
    | exact ⟨h.1, h.2.1, hk _ _ _ _ _ h.2.2⟩
    | exact ⟨h.1, h.2.1, h.2.2.1, hk _ _ _ _ _ h.2.2.2⟩
    | exact ⟨h.1, h.2.1, h.2.2.1, h.2.2.2.1, hk _ _ _ _ _ h.2.2.2.2⟩
    | exact ⟨h.1, h.2.1, h.2.2.1, h.2.2.2.1, h.2.2.2.2.1, h.2.2.2.2.2.1, hk _ _ _ _ _ h.2.2.2.2.2.2⟩
    | exact ⟨h.1, h.2.1, h.2.2.1, h.2.2.2.1, h.2.2.2.2.1, h.2.2.2.2.2.1, h.2.2.2.2.2.2.1, hk _ _ _ _ _ h.2.2.2.2.2.2.2⟩
    | exact ⟨fun z => hk _ _ _ _ _ (h.1 z), fun z => hk _ _ _ _ _ (h.2 z)⟩
    | exact h.imp (fun z => ⟨z.1, hk _ _ _ _ _ z.2⟩) (fun z => ⟨z.1, hk _ _ _ _ _ z.2⟩)
    | exact h.imp (fun z => ⟨z.1, hk _ _ _ _ _ z.2⟩) (fun z => hk _ _ _ _ _ z)
    | exact h.imp (fun z => ⟨z.1, hk _ _ _ _ _ z.2⟩) (fun z => z)
    | (obtain ⟨N, h⟩ := h; exact ⟨N, h.1, h.2.1, h.2.2.1, h.2.2.2.1, hk _ _ _ _ _ h.2.2.2.2⟩)
    | (simp_all; done))
theorem mo_call {y n c1 c2 nx : Nat} : m_mono (o_call y n c1 c2 nx) := by
  intro call lo st bd S kk kk' r hk h
  obtain ⟨h1, h2, h3, h4, ov, S2, h5, h6⟩ := h
  exact ⟨h1, h2, h3, h4, ov, S2, h5, hk _ _ _ _ _ h6⟩
theorem mo_callx {y n c1 c2 nx : Nat} : m_mono (o_callx y n c1 c2 nx) := by
  intro call lo st bd S kk kk' r hk h
  obtain ⟨h1, h2, h3, h4, o, S2, h5, h6⟩ := h
  refine ⟨h1, h2, h3, h4, o, S2, h5, ?_⟩
  cases o with
  | inl ov => exact hk _ _ _ _ _ h6
  | inr E => exact h6
theorem mo_callv {ci y n c1 c2 nx : Nat} : m_mono (o_callv ci y n c1 c2 nx) := by
  intro call lo st bd S kk kk' r hk h
  exact ⟨h.1, mo_call _ _ _ _ _ _ _ _ hk h.2⟩
theorem mo_callvx {ci y n c1 c2 nx : Nat} : m_mono (o_callvx ci y n c1 c2 nx) := by
  intro call lo st bd S kk kk' r hk h
  exact ⟨h.1, mo_callx _ _ _ _ _ _ _ _ hk h.2⟩
theorem mo_callh {ci y n c1 c2 nx : Nat} {hs : List (String × Nat × Nat)} : m_mono (o_callh ci y n c1 c2 nx hs) := by
  intro call lo st bd S kk kk' r hk h
  obtain ⟨h0, h1, h2, h3, h4, o, S2, h5, h6⟩ := h
  refine ⟨h0, h1, h2, h3, h4, o, S2, h5, ?_⟩
  cases o with
  | inl ov => exact hk _ _ _ _ _ h6
  | inr E =>
    revert h6
    unfold m_cs
    dsimp only
    split
    · exact fun h6 => hk _ _ _ _ _ h6
    · exact fun h6 => h6.elim
theorem mo_ireturn  : m_mono (o_ireturn ) := by
  intro call lo st bd S kk kk' r hk h
  revert h
  unfold o_ireturn
  (repeat' split) <;> (intro h; first
    | exact h
    | exact h.elim
    | exact hk _ _ _ _ _ h
    | exact ⟨h.1, hk _ _ _ _ _ h.2⟩
    | exact ⟨h.1, h.2.1, hk _ _ _ _ _ h.2.2⟩
    | exact ⟨h.1, h.2.1, h.2.2.1, hk _ _ _ _ _ h.2.2.2⟩
    | exact ⟨h.1, h.2.1, h.2.2.1, h.2.2.2.1, hk _ _ _ _ _ h.2.2.2.2⟩
    | exact ⟨h.1, h.2.1, h.2.2.1, h.2.2.2.1, h.2.2.2.2.1, h.2.2.2.2.2.1, hk _ _ _ _ _ h.2.2.2.2.2.2⟩
    | exact ⟨h.1, h.2.1, h.2.2.1, h.2.2.2.1, h.2.2.2.2.1, h.2.2.2.2.2.1, h.2.2.2.2.2.2.1, hk _ _ _ _ _ h.2.2.2.2.2.2.2⟩
    | exact ⟨fun z => hk _ _ _ _ _ (h.1 z), fun z => hk _ _ _ _ _ (h.2 z)⟩
    | exact h.imp (fun z => ⟨z.1, hk _ _ _ _ _ z.2⟩) (fun z => ⟨z.1, hk _ _ _ _ _ z.2⟩)
    | exact h.imp (fun z => ⟨z.1, hk _ _ _ _ _ z.2⟩) (fun z => hk _ _ _ _ _ z)
    | exact h.imp (fun z => ⟨z.1, hk _ _ _ _ _ z.2⟩) (fun z => z)
    | (obtain ⟨N, h⟩ := h; exact ⟨N, h.1, h.2.1, h.2.2.1, h.2.2.2.1, hk _ _ _ _ _ h.2.2.2.2⟩)
    | (simp_all; done))
theorem mo_zreturn  : m_mono (o_zreturn ) := by
  intro call lo st bd S kk kk' r hk h
  revert h
  unfold o_zreturn
  (repeat' split) <;> (intro h; first
    | exact h
    | exact h.elim
    | exact hk _ _ _ _ _ h
    | exact ⟨h.1, hk _ _ _ _ _ h.2⟩
    | exact ⟨h.1, h.2.1, hk _ _ _ _ _ h.2.2⟩
    | exact ⟨h.1, h.2.1, h.2.2.1, hk _ _ _ _ _ h.2.2.2⟩
    | exact ⟨h.1, h.2.1, h.2.2.1, h.2.2.2.1, hk _ _ _ _ _ h.2.2.2.2⟩
    | exact ⟨h.1, h.2.1, h.2.2.1, h.2.2.2.1, h.2.2.2.2.1, h.2.2.2.2.2.1, hk _ _ _ _ _ h.2.2.2.2.2.2⟩
    | exact ⟨h.1, h.2.1, h.2.2.1, h.2.2.2.1, h.2.2.2.2.1, h.2.2.2.2.2.1, h.2.2.2.2.2.2.1, hk _ _ _ _ _ h.2.2.2.2.2.2.2⟩
    | exact ⟨fun z => hk _ _ _ _ _ (h.1 z), fun z => hk _ _ _ _ _ (h.2 z)⟩
    | exact h.imp (fun z => ⟨z.1, hk _ _ _ _ _ z.2⟩) (fun z => ⟨z.1, hk _ _ _ _ _ z.2⟩)
    | exact h.imp (fun z => ⟨z.1, hk _ _ _ _ _ z.2⟩) (fun z => hk _ _ _ _ _ z)
    | exact h.imp (fun z => ⟨z.1, hk _ _ _ _ _ z.2⟩) (fun z => z)
    | (obtain ⟨N, h⟩ := h; exact ⟨N, h.1, h.2.1, h.2.2.1, h.2.2.2.1, hk _ _ _ _ _ h.2.2.2.2⟩)
    | (simp_all; done))
theorem mo_areturn  : m_mono (o_areturn ) := by
  intro call lo st bd S kk kk' r hk h
  revert h
  unfold o_areturn
  (repeat' split) <;> (intro h; first
    | exact h
    | exact h.elim
    | exact hk _ _ _ _ _ h
    | exact ⟨h.1, hk _ _ _ _ _ h.2⟩
    | exact ⟨h.1, h.2.1, hk _ _ _ _ _ h.2.2⟩
    | exact ⟨h.1, h.2.1, h.2.2.1, hk _ _ _ _ _ h.2.2.2⟩
    | exact ⟨h.1, h.2.1, h.2.2.1, h.2.2.2.1, hk _ _ _ _ _ h.2.2.2.2⟩
    | exact ⟨h.1, h.2.1, h.2.2.1, h.2.2.2.1, h.2.2.2.2.1, h.2.2.2.2.2.1, hk _ _ _ _ _ h.2.2.2.2.2.2⟩
    | exact ⟨h.1, h.2.1, h.2.2.1, h.2.2.2.1, h.2.2.2.2.1, h.2.2.2.2.2.1, h.2.2.2.2.2.2.1, hk _ _ _ _ _ h.2.2.2.2.2.2.2⟩
    | exact ⟨fun z => hk _ _ _ _ _ (h.1 z), fun z => hk _ _ _ _ _ (h.2 z)⟩
    | exact h.imp (fun z => ⟨z.1, hk _ _ _ _ _ z.2⟩) (fun z => ⟨z.1, hk _ _ _ _ _ z.2⟩)
    | exact h.imp (fun z => ⟨z.1, hk _ _ _ _ _ z.2⟩) (fun z => hk _ _ _ _ _ z)
    | exact h.imp (fun z => ⟨z.1, hk _ _ _ _ _ z.2⟩) (fun z => z)
    | (obtain ⟨N, h⟩ := h; exact ⟨N, h.1, h.2.1, h.2.2.1, h.2.2.2.1, hk _ _ _ _ _ h.2.2.2.2⟩)
    | (simp_all; done))
theorem mo_return  : m_mono (o_return ) := by
  intro call lo st bd S kk kk' r hk h
  revert h
  unfold o_return
  (repeat' split) <;> (intro h; first
    | exact h
    | exact h.elim
    | exact hk _ _ _ _ _ h
    | exact ⟨h.1, hk _ _ _ _ _ h.2⟩
    | exact ⟨h.1, h.2.1, hk _ _ _ _ _ h.2.2⟩
    | exact ⟨h.1, h.2.1, h.2.2.1, hk _ _ _ _ _ h.2.2.2⟩
    | exact ⟨h.1, h.2.1, h.2.2.1, h.2.2.2.1, hk _ _ _ _ _ h.2.2.2.2⟩
    | exact ⟨h.1, h.2.1, h.2.2.1, h.2.2.2.1, h.2.2.2.2.1, h.2.2.2.2.2.1, hk _ _ _ _ _ h.2.2.2.2.2.2⟩
    | exact ⟨h.1, h.2.1, h.2.2.1, h.2.2.2.1, h.2.2.2.2.1, h.2.2.2.2.2.1, h.2.2.2.2.2.2.1, hk _ _ _ _ _ h.2.2.2.2.2.2.2⟩
    | exact ⟨fun z => hk _ _ _ _ _ (h.1 z), fun z => hk _ _ _ _ _ (h.2 z)⟩
    | exact h.imp (fun z => ⟨z.1, hk _ _ _ _ _ z.2⟩) (fun z => ⟨z.1, hk _ _ _ _ _ z.2⟩)
    | exact h.imp (fun z => ⟨z.1, hk _ _ _ _ _ z.2⟩) (fun z => hk _ _ _ _ _ z)
    | exact h.imp (fun z => ⟨z.1, hk _ _ _ _ _ z.2⟩) (fun z => z)
    | (obtain ⟨N, h⟩ := h; exact ⟨N, h.1, h.2.1, h.2.2.1, h.2.2.2.1, hk _ _ _ _ _ h.2.2.2.2⟩)
    | (simp_all; done))
theorem mo_throw {E : String} : m_mono (o_throw E) := by
  intro call lo st bd S kk kk' r hk h
  revert h
  unfold o_throw
  (repeat' split) <;> (intro h; first
    | exact h
    | exact h.elim
    | exact hk _ _ _ _ _ h
    | exact ⟨h.1, hk _ _ _ _ _ h.2⟩
    | exact ⟨h.1, h.2.1, hk _ _ _ _ _ h.2.2⟩
    | exact ⟨h.1, h.2.1, h.2.2.1, hk _ _ _ _ _ h.2.2.2⟩
    | exact ⟨h.1, h.2.1, h.2.2.1, h.2.2.2.1, hk _ _ _ _ _ h.2.2.2.2⟩
    | exact ⟨h.1, h.2.1, h.2.2.1, h.2.2.2.1, h.2.2.2.2.1, h.2.2.2.2.2.1, hk _ _ _ _ _ h.2.2.2.2.2.2⟩
    | exact ⟨h.1, h.2.1, h.2.2.1, h.2.2.2.1, h.2.2.2.2.1, h.2.2.2.2.2.1, h.2.2.2.2.2.2.1, hk _ _ _ _ _ h.2.2.2.2.2.2.2⟩
    | exact ⟨fun z => hk _ _ _ _ _ (h.1 z), fun z => hk _ _ _ _ _ (h.2 z)⟩
    | exact h.imp (fun z => ⟨z.1, hk _ _ _ _ _ z.2⟩) (fun z => ⟨z.1, hk _ _ _ _ _ z.2⟩)
    | exact h.imp (fun z => ⟨z.1, hk _ _ _ _ _ z.2⟩) (fun z => hk _ _ _ _ _ z)
    | exact h.imp (fun z => ⟨z.1, hk _ _ _ _ _ z.2⟩) (fun z => z)
    | (obtain ⟨N, h⟩ := h; exact ⟨N, h.1, h.2.1, h.2.2.1, h.2.2.2.1, hk _ _ _ _ _ h.2.2.2.2⟩)
    | (simp_all; done))
theorem mo_switch {f : Int32 → Option Nat} : m_mono (o_switch f) := by
  intro call lo st bd S kk kk' r hk h
  revert h
  unfold o_switch
  (repeat' split) <;> (intro h; first
    | exact h
    | exact h.elim
    | exact hk _ _ _ _ _ h
    | exact ⟨h.1, hk _ _ _ _ _ h.2⟩
    | exact ⟨h.1, h.2.1, hk _ _ _ _ _ h.2.2⟩
    | exact ⟨h.1, h.2.1, h.2.2.1, hk _ _ _ _ _ h.2.2.2⟩
    | exact ⟨h.1, h.2.1, h.2.2.1, h.2.2.2.1, hk _ _ _ _ _ h.2.2.2.2⟩
    | exact ⟨h.1, h.2.1, h.2.2.1, h.2.2.2.1, h.2.2.2.2.1, h.2.2.2.2.2.1, hk _ _ _ _ _ h.2.2.2.2.2.2⟩
    | exact ⟨h.1, h.2.1, h.2.2.1, h.2.2.2.1, h.2.2.2.2.1, h.2.2.2.2.2.1, h.2.2.2.2.2.2.1, hk _ _ _ _ _ h.2.2.2.2.2.2.2⟩
    | exact ⟨fun z => hk _ _ _ _ _ (h.1 z), fun z => hk _ _ _ _ _ (h.2 z)⟩
    | exact h.imp (fun z => ⟨z.1, hk _ _ _ _ _ z.2⟩) (fun z => ⟨z.1, hk _ _ _ _ _ z.2⟩)
    | exact h.imp (fun z => ⟨z.1, hk _ _ _ _ _ z.2⟩) (fun z => hk _ _ _ _ _ z)
    | exact h.imp (fun z => ⟨z.1, hk _ _ _ _ _ z.2⟩) (fun z => z)
    | (obtain ⟨N, h⟩ := h; exact ⟨N, h.1, h.2.1, h.2.2.1, h.2.2.2.1, hk _ _ _ _ _ h.2.2.2.2⟩)
    | (simp_all; done))
theorem mo_slen {L nx : Nat} : m_mono (o_slen L nx) := by
  intro call lo st bd S kk kk' r hk h
  revert h
  unfold o_slen
  (repeat' split) <;> (intro h; first
    | exact h
    | exact h.elim
    | exact hk _ _ _ _ _ h
    | exact ⟨h.1, hk _ _ _ _ _ h.2⟩
    | exact ⟨h.1, h.2.1, hk _ _ _ _ _ h.2.2⟩
    | exact ⟨h.1, h.2.1, h.2.2.1, hk _ _ _ _ _ h.2.2.2⟩
    | exact ⟨h.1, h.2.1, h.2.2.1, h.2.2.2.1, hk _ _ _ _ _ h.2.2.2.2⟩
    | exact ⟨h.1, h.2.1, h.2.2.1, h.2.2.2.1, h.2.2.2.2.1, h.2.2.2.2.2.1, hk _ _ _ _ _ h.2.2.2.2.2.2⟩
    | exact ⟨h.1, h.2.1, h.2.2.1, h.2.2.2.1, h.2.2.2.2.1, h.2.2.2.2.2.1, h.2.2.2.2.2.2.1, hk _ _ _ _ _ h.2.2.2.2.2.2.2⟩
    | exact ⟨fun z => hk _ _ _ _ _ (h.1 z), fun z => hk _ _ _ _ _ (h.2 z)⟩
    | exact h.imp (fun z => ⟨z.1, hk _ _ _ _ _ z.2⟩) (fun z => ⟨z.1, hk _ _ _ _ _ z.2⟩)
    | exact h.imp (fun z => ⟨z.1, hk _ _ _ _ _ z.2⟩) (fun z => hk _ _ _ _ _ z)
    | exact h.imp (fun z => ⟨z.1, hk _ _ _ _ _ z.2⟩) (fun z => z)
    | (obtain ⟨N, h⟩ := h; exact ⟨N, h.1, h.2.1, h.2.2.1, h.2.2.2.1, hk _ _ _ _ _ h.2.2.2.2⟩)
    | (simp_all; done))
theorem mo_sald {L : Nat} {xs : Nat → Int32} {nx : Nat} : m_mono (o_sald L xs nx) := by
  intro call lo st bd S kk kk' r hk h
  revert h
  unfold o_sald
  (repeat' split) <;> (intro h; first
    | exact h
    | exact h.elim
    | exact hk _ _ _ _ _ h
    | exact ⟨h.1, hk _ _ _ _ _ h.2⟩
    | exact ⟨h.1, h.2.1, hk _ _ _ _ _ h.2.2⟩
    | exact ⟨h.1, h.2.1, h.2.2.1, hk _ _ _ _ _ h.2.2.2⟩
    | exact ⟨h.1, h.2.1, h.2.2.1, h.2.2.2.1, hk _ _ _ _ _ h.2.2.2.2⟩
    | exact ⟨h.1, h.2.1, h.2.2.1, h.2.2.2.1, h.2.2.2.2.1, h.2.2.2.2.2.1, hk _ _ _ _ _ h.2.2.2.2.2.2⟩
    | exact ⟨h.1, h.2.1, h.2.2.1, h.2.2.2.1, h.2.2.2.2.1, h.2.2.2.2.2.1, h.2.2.2.2.2.2.1, hk _ _ _ _ _ h.2.2.2.2.2.2.2⟩
    | exact ⟨fun z => hk _ _ _ _ _ (h.1 z), fun z => hk _ _ _ _ _ (h.2 z)⟩
    | exact h.imp (fun z => ⟨z.1, hk _ _ _ _ _ z.2⟩) (fun z => ⟨z.1, hk _ _ _ _ _ z.2⟩)
    | exact h.imp (fun z => ⟨z.1, hk _ _ _ _ _ z.2⟩) (fun z => hk _ _ _ _ _ z)
    | exact h.imp (fun z => ⟨z.1, hk _ _ _ _ _ z.2⟩) (fun z => z)
    | (obtain ⟨N, h⟩ := h; exact ⟨N, h.1, h.2.1, h.2.2.1, h.2.2.2.1, hk _ _ _ _ _ h.2.2.2.2⟩)
    | (simp_all; done))
theorem mo_null {nx : Nat} : m_mono (o_null nx) := by
  intro call lo st bd S kk kk' r hk h
  revert h
  unfold o_null
  (repeat' split) <;> (intro h; first
    | exact h
    | exact h.elim
    | exact hk _ _ _ _ _ h
    | exact ⟨h.1, hk _ _ _ _ _ h.2⟩
    | exact ⟨h.1, h.2.1, hk _ _ _ _ _ h.2.2⟩
    | exact ⟨h.1, h.2.1, h.2.2.1, hk _ _ _ _ _ h.2.2.2⟩
    | exact ⟨h.1, h.2.1, h.2.2.1, h.2.2.2.1, hk _ _ _ _ _ h.2.2.2.2⟩
    | exact ⟨h.1, h.2.1, h.2.2.1, h.2.2.2.1, h.2.2.2.2.1, h.2.2.2.2.2.1, hk _ _ _ _ _ h.2.2.2.2.2.2⟩
    | exact ⟨h.1, h.2.1, h.2.2.1, h.2.2.2.1, h.2.2.2.2.1, h.2.2.2.2.2.1, h.2.2.2.2.2.2.1, hk _ _ _ _ _ h.2.2.2.2.2.2.2⟩
    | exact ⟨fun z => hk _ _ _ _ _ (h.1 z), fun z => hk _ _ _ _ _ (h.2 z)⟩
    | exact h.imp (fun z => ⟨z.1, hk _ _ _ _ _ z.2⟩) (fun z => ⟨z.1, hk _ _ _ _ _ z.2⟩)
    | exact h.imp (fun z => ⟨z.1, hk _ _ _ _ _ z.2⟩) (fun z => hk _ _ _ _ _ z)
    | exact h.imp (fun z => ⟨z.1, hk _ _ _ _ _ z.2⟩) (fun z => z)
    | (obtain ⟨N, h⟩ := h; exact ⟨N, h.1, h.2.1, h.2.2.1, h.2.2.2.1, hk _ _ _ _ _ h.2.2.2.2⟩)
    | (simp_all; done))
theorem mo_dupx1 {nx : Nat} : m_mono (o_dupx1 nx) := by
  intro call lo st bd S kk kk' r hk h
  revert h
  unfold o_dupx1
  (repeat' split) <;> (intro h; first
    | exact h
    | exact h.elim
    | exact hk _ _ _ _ _ h
    | exact ⟨h.1, hk _ _ _ _ _ h.2⟩
    | exact ⟨h.1, h.2.1, hk _ _ _ _ _ h.2.2⟩
    | exact ⟨h.1, h.2.1, h.2.2.1, hk _ _ _ _ _ h.2.2.2⟩
    | exact ⟨h.1, h.2.1, h.2.2.1, h.2.2.2.1, hk _ _ _ _ _ h.2.2.2.2⟩
    | exact ⟨h.1, h.2.1, h.2.2.1, h.2.2.2.1, h.2.2.2.2.1, h.2.2.2.2.2.1, hk _ _ _ _ _ h.2.2.2.2.2.2⟩
    | exact ⟨h.1, h.2.1, h.2.2.1, h.2.2.2.1, h.2.2.2.2.1, h.2.2.2.2.2.1, h.2.2.2.2.2.2.1, hk _ _ _ _ _ h.2.2.2.2.2.2.2⟩
    | exact ⟨fun z => hk _ _ _ _ _ (h.1 z), fun z => hk _ _ _ _ _ (h.2 z)⟩
    | exact h.imp (fun z => ⟨z.1, hk _ _ _ _ _ z.2⟩) (fun z => ⟨z.1, hk _ _ _ _ _ z.2⟩)
    | exact h.imp (fun z => ⟨z.1, hk _ _ _ _ _ z.2⟩) (fun z => hk _ _ _ _ _ z)
    | exact h.imp (fun z => ⟨z.1, hk _ _ _ _ _ z.2⟩) (fun z => z)
    | (obtain ⟨N, h⟩ := h; exact ⟨N, h.1, h.2.1, h.2.2.1, h.2.2.2.1, hk _ _ _ _ _ h.2.2.2.2⟩)
    | (simp_all; done))
theorem mo_acmpeq {tg nx : Nat} : m_mono (o_acmpeq tg nx) := by
  intro call lo st bd S kk kk' r hk h
  revert h
  unfold o_acmpeq
  (repeat' split) <;> (intro h; first
    | exact h
    | exact h.elim
    | exact hk _ _ _ _ _ h
    | exact ⟨h.1, hk _ _ _ _ _ h.2⟩
    | exact ⟨h.1, h.2.1, hk _ _ _ _ _ h.2.2⟩
    | exact ⟨h.1, h.2.1, h.2.2.1, hk _ _ _ _ _ h.2.2.2⟩
    | exact ⟨h.1, h.2.1, h.2.2.1, h.2.2.2.1, hk _ _ _ _ _ h.2.2.2.2⟩
    | exact ⟨h.1, h.2.1, h.2.2.1, h.2.2.2.1, h.2.2.2.2.1, h.2.2.2.2.2.1, hk _ _ _ _ _ h.2.2.2.2.2.2⟩
    | exact ⟨h.1, h.2.1, h.2.2.1, h.2.2.2.1, h.2.2.2.2.1, h.2.2.2.2.2.1, h.2.2.2.2.2.2.1, hk _ _ _ _ _ h.2.2.2.2.2.2.2⟩
    | exact ⟨fun z => hk _ _ _ _ _ (h.1 z), fun z => hk _ _ _ _ _ (h.2 z)⟩
    | exact h.imp (fun z => ⟨z.1, hk _ _ _ _ _ z.2⟩) (fun z => ⟨z.1, hk _ _ _ _ _ z.2⟩)
    | exact h.imp (fun z => ⟨z.1, hk _ _ _ _ _ z.2⟩) (fun z => hk _ _ _ _ _ z)
    | exact h.imp (fun z => ⟨z.1, hk _ _ _ _ _ z.2⟩) (fun z => z)
    | (obtain ⟨N, h⟩ := h; exact ⟨N, h.1, h.2.1, h.2.2.1, h.2.2.2.1, hk _ _ _ _ _ h.2.2.2.2⟩)
    | (simp_all; done))
theorem mo_acmpne {tg nx : Nat} : m_mono (o_acmpne tg nx) := by
  intro call lo st bd S kk kk' r hk h
  revert h
  unfold o_acmpne
  (repeat' split) <;> (intro h; first
    | exact h
    | exact h.elim
    | exact hk _ _ _ _ _ h
    | exact ⟨h.1, hk _ _ _ _ _ h.2⟩
    | exact ⟨h.1, h.2.1, hk _ _ _ _ _ h.2.2⟩
    | exact ⟨h.1, h.2.1, h.2.2.1, hk _ _ _ _ _ h.2.2.2⟩
    | exact ⟨h.1, h.2.1, h.2.2.1, h.2.2.2.1, hk _ _ _ _ _ h.2.2.2.2⟩
    | exact ⟨h.1, h.2.1, h.2.2.1, h.2.2.2.1, h.2.2.2.2.1, h.2.2.2.2.2.1, hk _ _ _ _ _ h.2.2.2.2.2.2⟩
    | exact ⟨h.1, h.2.1, h.2.2.1, h.2.2.2.1, h.2.2.2.2.1, h.2.2.2.2.2.1, h.2.2.2.2.2.2.1, hk _ _ _ _ _ h.2.2.2.2.2.2.2⟩
    | exact ⟨fun z => hk _ _ _ _ _ (h.1 z), fun z => hk _ _ _ _ _ (h.2 z)⟩
    | exact h.imp (fun z => ⟨z.1, hk _ _ _ _ _ z.2⟩) (fun z => ⟨z.1, hk _ _ _ _ _ z.2⟩)
    | exact h.imp (fun z => ⟨z.1, hk _ _ _ _ _ z.2⟩) (fun z => hk _ _ _ _ _ z)
    | exact h.imp (fun z => ⟨z.1, hk _ _ _ _ _ z.2⟩) (fun z => z)
    | (obtain ⟨N, h⟩ := h; exact ⟨N, h.1, h.2.1, h.2.2.1, h.2.2.2.1, hk _ _ _ _ _ h.2.2.2.2⟩)
    | (simp_all; done))
theorem mo_de {nx : Nat} : m_mono (o_de nx) := by
  intro call lo st bd S kk kk' r hk h
  revert h
  unfold o_de
  (repeat' split) <;> (intro h; first
    | exact h
    | exact h.elim
    | exact hk _ _ _ _ _ h
    | exact ⟨h.1, hk _ _ _ _ _ h.2⟩
    | exact ⟨h.1, h.2.1, hk _ _ _ _ _ h.2.2⟩
    | exact ⟨h.1, h.2.1, h.2.2.1, hk _ _ _ _ _ h.2.2.2⟩
    | exact ⟨h.1, h.2.1, h.2.2.1, h.2.2.2.1, hk _ _ _ _ _ h.2.2.2.2⟩
    | exact ⟨h.1, h.2.1, h.2.2.1, h.2.2.2.1, h.2.2.2.2.1, h.2.2.2.2.2.1, hk _ _ _ _ _ h.2.2.2.2.2.2⟩
    | exact ⟨h.1, h.2.1, h.2.2.1, h.2.2.2.1, h.2.2.2.2.1, h.2.2.2.2.2.1, h.2.2.2.2.2.2.1, hk _ _ _ _ _ h.2.2.2.2.2.2.2⟩
    | exact ⟨fun z => hk _ _ _ _ _ (h.1 z), fun z => hk _ _ _ _ _ (h.2 z)⟩
    | exact h.imp (fun z => ⟨z.1, hk _ _ _ _ _ z.2⟩) (fun z => ⟨z.1, hk _ _ _ _ _ z.2⟩)
    | exact h.imp (fun z => ⟨z.1, hk _ _ _ _ _ z.2⟩) (fun z => hk _ _ _ _ _ z)
    | exact h.imp (fun z => ⟨z.1, hk _ _ _ _ _ z.2⟩) (fun z => z)
    | (obtain ⟨N, h⟩ := h; exact ⟨N, h.1, h.2.1, h.2.2.1, h.2.2.2.1, hk _ _ _ _ _ h.2.2.2.2⟩)
    | (simp_all; done))
theorem mo_alenO {nx : Nat} : m_mono (o_alenO nx) := by
  intro call lo st bd S kk kk' r hk h
  revert h
  unfold o_alenO
  (repeat' split) <;> (intro h; first
    | exact h
    | exact h.elim
    | exact hk _ _ _ _ _ h
    | exact ⟨h.1, hk _ _ _ _ _ h.2⟩
    | exact ⟨h.1, h.2.1, hk _ _ _ _ _ h.2.2⟩
    | exact ⟨h.1, h.2.1, h.2.2.1, hk _ _ _ _ _ h.2.2.2⟩
    | exact ⟨h.1, h.2.1, h.2.2.1, h.2.2.2.1, hk _ _ _ _ _ h.2.2.2.2⟩
    | exact ⟨h.1, h.2.1, h.2.2.1, h.2.2.2.1, h.2.2.2.2.1, h.2.2.2.2.2.1, hk _ _ _ _ _ h.2.2.2.2.2.2⟩
    | exact ⟨h.1, h.2.1, h.2.2.1, h.2.2.2.1, h.2.2.2.2.1, h.2.2.2.2.2.1, h.2.2.2.2.2.2.1, hk _ _ _ _ _ h.2.2.2.2.2.2.2⟩
    | exact ⟨fun z => hk _ _ _ _ _ (h.1 z), fun z => hk _ _ _ _ _ (h.2 z)⟩
    | exact h.imp (fun z => ⟨z.1, hk _ _ _ _ _ z.2⟩) (fun z => ⟨z.1, hk _ _ _ _ _ z.2⟩)
    | exact h.imp (fun z => ⟨z.1, hk _ _ _ _ _ z.2⟩) (fun z => hk _ _ _ _ _ z)
    | exact h.imp (fun z => ⟨z.1, hk _ _ _ _ _ z.2⟩) (fun z => z)
    | (obtain ⟨N, h⟩ := h; exact ⟨N, h.1, h.2.1, h.2.2.1, h.2.2.2.1, hk _ _ _ _ _ h.2.2.2.2⟩)
    | (simp_all; done))
theorem mo_aastO {ci nx : Nat} : m_mono (o_aastO ci nx) := by
  intro call lo st bd S kk kk' r hk h
  revert h
  unfold o_aastO
  (repeat' split) <;> (intro h; first
    | exact h
    | exact h.elim
    | exact hk _ _ _ _ _ h
    | exact ⟨h.1, hk _ _ _ _ _ h.2⟩
    | exact ⟨h.1, h.2.1, hk _ _ _ _ _ h.2.2⟩
    | exact ⟨h.1, h.2.1, h.2.2.1, hk _ _ _ _ _ h.2.2.2⟩
    | exact ⟨h.1, h.2.1, h.2.2.1, h.2.2.2.1, hk _ _ _ _ _ h.2.2.2.2⟩
    | exact ⟨h.1, h.2.1, h.2.2.1, h.2.2.2.1, h.2.2.2.2.1, h.2.2.2.2.2.1, hk _ _ _ _ _ h.2.2.2.2.2.2⟩
    | exact ⟨h.1, h.2.1, h.2.2.1, h.2.2.2.1, h.2.2.2.2.1, h.2.2.2.2.2.1, h.2.2.2.2.2.2.1, hk _ _ _ _ _ h.2.2.2.2.2.2.2⟩
    | exact ⟨fun z => hk _ _ _ _ _ (h.1 z), fun z => hk _ _ _ _ _ (h.2 z)⟩
    | exact h.imp (fun z => ⟨z.1, hk _ _ _ _ _ z.2⟩) (fun z => ⟨z.1, hk _ _ _ _ _ z.2⟩)
    | exact h.imp (fun z => ⟨z.1, hk _ _ _ _ _ z.2⟩) (fun z => hk _ _ _ _ _ z)
    | exact h.imp (fun z => ⟨z.1, hk _ _ _ _ _ z.2⟩) (fun z => z)
    | (obtain ⟨N, h⟩ := h; exact ⟨N, h.1, h.2.1, h.2.2.1, h.2.2.2.1, hk _ _ _ _ _ h.2.2.2.2⟩)
    | (simp_all; done))
theorem mo_getC {nx : Nat} : m_mono (o_getC nx) := by
  intro call lo st bd S kk kk' r hk h
  revert h
  unfold o_getC
  (repeat' split) <;> (intro h; first
    | exact h
    | exact h.elim
    | exact hk _ _ _ _ _ h
    | exact ⟨h.1, hk _ _ _ _ _ h.2⟩
    | exact ⟨h.1, h.2.1, hk _ _ _ _ _ h.2.2⟩
    | exact ⟨h.1, h.2.1, h.2.2.1, hk _ _ _ _ _ h.2.2.2⟩
    | exact ⟨h.1, h.2.1, h.2.2.1, h.2.2.2.1, hk _ _ _ _ _ h.2.2.2.2⟩
    | exact ⟨h.1, h.2.1, h.2.2.1, h.2.2.2.1, h.2.2.2.2.1, h.2.2.2.2.2.1, hk _ _ _ _ _ h.2.2.2.2.2.2⟩
    | exact ⟨h.1, h.2.1, h.2.2.1, h.2.2.2.1, h.2.2.2.2.1, h.2.2.2.2.2.1, h.2.2.2.2.2.2.1, hk _ _ _ _ _ h.2.2.2.2.2.2.2⟩
    | exact ⟨fun z => hk _ _ _ _ _ (h.1 z), fun z => hk _ _ _ _ _ (h.2 z)⟩
    | exact h.imp (fun z => ⟨z.1, hk _ _ _ _ _ z.2⟩) (fun z => ⟨z.1, hk _ _ _ _ _ z.2⟩)
    | exact h.imp (fun z => ⟨z.1, hk _ _ _ _ _ z.2⟩) (fun z => hk _ _ _ _ _ z)
    | exact h.imp (fun z => ⟨z.1, hk _ _ _ _ _ z.2⟩) (fun z => z)
    | (obtain ⟨N, h⟩ := h; exact ⟨N, h.1, h.2.1, h.2.2.1, h.2.2.2.1, hk _ _ _ _ _ h.2.2.2.2⟩)
    | (simp_all; done))
theorem mo_ldcM {nx : Nat} : m_mono (o_ldcM nx) := by
  intro call lo st bd S kk kk' r hk h
  revert h
  unfold o_ldcM
  (repeat' split) <;> (intro h; first
    | exact h
    | exact h.elim
    | exact hk _ _ _ _ _ h
    | exact ⟨h.1, hk _ _ _ _ _ h.2⟩
    | exact ⟨h.1, h.2.1, hk _ _ _ _ _ h.2.2⟩
    | exact ⟨h.1, h.2.1, h.2.2.1, hk _ _ _ _ _ h.2.2.2⟩
    | exact ⟨h.1, h.2.1, h.2.2.1, h.2.2.2.1, hk _ _ _ _ _ h.2.2.2.2⟩
    | exact ⟨h.1, h.2.1, h.2.2.1, h.2.2.2.1, h.2.2.2.2.1, h.2.2.2.2.2.1, hk _ _ _ _ _ h.2.2.2.2.2.2⟩
    | exact ⟨h.1, h.2.1, h.2.2.1, h.2.2.2.1, h.2.2.2.2.1, h.2.2.2.2.2.1, h.2.2.2.2.2.2.1, hk _ _ _ _ _ h.2.2.2.2.2.2.2⟩
    | exact ⟨fun z => hk _ _ _ _ _ (h.1 z), fun z => hk _ _ _ _ _ (h.2 z)⟩
    | exact h.imp (fun z => ⟨z.1, hk _ _ _ _ _ z.2⟩) (fun z => ⟨z.1, hk _ _ _ _ _ z.2⟩)
    | exact h.imp (fun z => ⟨z.1, hk _ _ _ _ _ z.2⟩) (fun z => hk _ _ _ _ _ z)
    | exact h.imp (fun z => ⟨z.1, hk _ _ _ _ _ z.2⟩) (fun z => z)
    | (obtain ⟨N, h⟩ := h; exact ⟨N, h.1, h.2.1, h.2.2.1, h.2.2.2.1, hk _ _ _ _ _ h.2.2.2.2⟩)
    | (simp_all; done))
theorem mo_copyq {ci nx : Nat} : m_mono (o_copyq ci nx) := by
  intro call lo st bd S kk kk' r hk h
  revert h
  unfold o_copyq
  (repeat' split) <;> (intro h; first
    | exact h
    | exact h.elim
    | exact hk _ _ _ _ _ h
    | exact ⟨h.1, hk _ _ _ _ _ h.2⟩
    | exact ⟨h.1, h.2.1, hk _ _ _ _ _ h.2.2⟩
    | exact ⟨h.1, h.2.1, h.2.2.1, hk _ _ _ _ _ h.2.2.2⟩
    | exact ⟨h.1, h.2.1, h.2.2.1, h.2.2.2.1, hk _ _ _ _ _ h.2.2.2.2⟩
    | exact ⟨h.1, h.2.1, h.2.2.1, h.2.2.2.1, h.2.2.2.2.1, h.2.2.2.2.2.1, hk _ _ _ _ _ h.2.2.2.2.2.2⟩
    | exact ⟨h.1, h.2.1, h.2.2.1, h.2.2.2.1, h.2.2.2.2.1, h.2.2.2.2.2.1, h.2.2.2.2.2.2.1, hk _ _ _ _ _ h.2.2.2.2.2.2.2⟩
    | exact ⟨fun z => hk _ _ _ _ _ (h.1 z), fun z => hk _ _ _ _ _ (h.2 z)⟩
    | exact h.imp (fun z => ⟨z.1, hk _ _ _ _ _ z.2⟩) (fun z => ⟨z.1, hk _ _ _ _ _ z.2⟩)
    | exact h.imp (fun z => ⟨z.1, hk _ _ _ _ _ z.2⟩) (fun z => hk _ _ _ _ _ z)
    | exact h.imp (fun z => ⟨z.1, hk _ _ _ _ _ z.2⟩) (fun z => z)
    | (obtain ⟨N, h⟩ := h; exact ⟨N, h.1, h.2.1, h.2.2.1, h.2.2.2.1, hk _ _ _ _ _ h.2.2.2.2⟩)
    | (simp_all; done))
theorem mo_newqd {k nx : Nat} : m_mono (o_newqd k nx) := by
  intro call lo st bd S kk kk' r hk h
  revert h
  unfold o_newqd
  (repeat' split) <;> (intro h; first
    | exact h
    | exact h.elim
    | exact hk _ _ _ _ _ h
    | exact ⟨h.1, hk _ _ _ _ _ h.2⟩
    | exact ⟨h.1, h.2.1, hk _ _ _ _ _ h.2.2⟩
    | exact ⟨h.1, h.2.1, h.2.2.1, hk _ _ _ _ _ h.2.2.2⟩
    | exact ⟨h.1, h.2.1, h.2.2.1, h.2.2.2.1, hk _ _ _ _ _ h.2.2.2.2⟩
    | exact ⟨h.1, h.2.1, h.2.2.1, h.2.2.2.1, h.2.2.2.2.1, h.2.2.2.2.2.1, hk _ _ _ _ _ h.2.2.2.2.2.2⟩
    | exact ⟨h.1, h.2.1, h.2.2.1, h.2.2.2.1, h.2.2.2.2.1, h.2.2.2.2.2.1, h.2.2.2.2.2.2.1, hk _ _ _ _ _ h.2.2.2.2.2.2.2⟩
    | exact ⟨fun z => hk _ _ _ _ _ (h.1 z), fun z => hk _ _ _ _ _ (h.2 z)⟩
    | exact h.imp (fun z => ⟨z.1, hk _ _ _ _ _ z.2⟩) (fun z => ⟨z.1, hk _ _ _ _ _ z.2⟩)
    | exact h.imp (fun z => ⟨z.1, hk _ _ _ _ _ z.2⟩) (fun z => hk _ _ _ _ _ z)
    | exact h.imp (fun z => ⟨z.1, hk _ _ _ _ _ z.2⟩) (fun z => z)
    | (obtain ⟨N, h⟩ := h; exact ⟨N, h.1, h.2.1, h.2.2.1, h.2.2.2.1, hk _ _ _ _ _ h.2.2.2.2⟩)
    | (simp_all; done))
theorem mo_lload {k nx : Nat} : m_mono (o_lload k nx) := by
  intro call lo st bd S kk kk' r hk h
  revert h
  unfold o_lload
  (repeat' split) <;> (intro h; first
    | exact h
    | exact h.elim
    | exact hk _ _ _ _ _ h
    | exact ⟨h.1, hk _ _ _ _ _ h.2⟩
    | exact ⟨h.1, h.2.1, hk _ _ _ _ _ h.2.2⟩
    | exact ⟨h.1, h.2.1, h.2.2.1, hk _ _ _ _ _ h.2.2.2⟩
    | exact ⟨h.1, h.2.1, h.2.2.1, h.2.2.2.1, hk _ _ _ _ _ h.2.2.2.2⟩
    | exact ⟨h.1, h.2.1, h.2.2.1, h.2.2.2.1, h.2.2.2.2.1, h.2.2.2.2.2.1, hk _ _ _ _ _ h.2.2.2.2.2.2⟩
    | exact ⟨h.1, h.2.1, h.2.2.1, h.2.2.2.1, h.2.2.2.2.1, h.2.2.2.2.2.1, h.2.2.2.2.2.2.1, hk _ _ _ _ _ h.2.2.2.2.2.2.2⟩
    | exact ⟨fun z => hk _ _ _ _ _ (h.1 z), fun z => hk _ _ _ _ _ (h.2 z)⟩
    | exact h.imp (fun z => ⟨z.1, hk _ _ _ _ _ z.2⟩) (fun z => ⟨z.1, hk _ _ _ _ _ z.2⟩)
    | exact h.imp (fun z => ⟨z.1, hk _ _ _ _ _ z.2⟩) (fun z => hk _ _ _ _ _ z)
    | exact h.imp (fun z => ⟨z.1, hk _ _ _ _ _ z.2⟩) (fun z => z)
    | (obtain ⟨N, h⟩ := h; exact ⟨N, h.1, h.2.1, h.2.2.1, h.2.2.2.1, hk _ _ _ _ _ h.2.2.2.2⟩)
    | (simp_all; done))
theorem mo_lstore {k nx : Nat} : m_mono (o_lstore k nx) := by
  intro call lo st bd S kk kk' r hk h
  revert h
  unfold o_lstore
  (repeat' split) <;> (intro h; first
    | exact h
    | exact h.elim
    | exact hk _ _ _ _ _ h
    | exact ⟨h.1, hk _ _ _ _ _ h.2⟩
    | exact ⟨h.1, h.2.1, hk _ _ _ _ _ h.2.2⟩
    | exact ⟨h.1, h.2.1, h.2.2.1, hk _ _ _ _ _ h.2.2.2⟩
    | exact ⟨h.1, h.2.1, h.2.2.1, h.2.2.2.1, hk _ _ _ _ _ h.2.2.2.2⟩
    | exact ⟨h.1, h.2.1, h.2.2.1, h.2.2.2.1, h.2.2.2.2.1, h.2.2.2.2.2.1, hk _ _ _ _ _ h.2.2.2.2.2.2⟩
    | exact ⟨h.1, h.2.1, h.2.2.1, h.2.2.2.1, h.2.2.2.2.1, h.2.2.2.2.2.1, h.2.2.2.2.2.2.1, hk _ _ _ _ _ h.2.2.2.2.2.2.2⟩
    | exact ⟨fun z => hk _ _ _ _ _ (h.1 z), fun z => hk _ _ _ _ _ (h.2 z)⟩
    | exact h.imp (fun z => ⟨z.1, hk _ _ _ _ _ z.2⟩) (fun z => ⟨z.1, hk _ _ _ _ _ z.2⟩)
    | exact h.imp (fun z => ⟨z.1, hk _ _ _ _ _ z.2⟩) (fun z => hk _ _ _ _ _ z)
    | exact h.imp (fun z => ⟨z.1, hk _ _ _ _ _ z.2⟩) (fun z => z)
    | (obtain ⟨N, h⟩ := h; exact ⟨N, h.1, h.2.1, h.2.2.1, h.2.2.2.1, hk _ _ _ _ _ h.2.2.2.2⟩)
    | (simp_all; done))
theorem mo_istW {k nx : Nat} : m_mono (o_istW k nx) := by
  intro call lo st bd S kk kk' r hk h
  revert h
  unfold o_istW
  (repeat' split) <;> (intro h; first
    | exact h
    | exact h.elim
    | exact hk _ _ _ _ _ h
    | exact ⟨h.1, hk _ _ _ _ _ h.2⟩
    | exact ⟨h.1, h.2.1, hk _ _ _ _ _ h.2.2⟩
    | exact ⟨h.1, h.2.1, h.2.2.1, hk _ _ _ _ _ h.2.2.2⟩
    | exact ⟨h.1, h.2.1, h.2.2.1, h.2.2.2.1, hk _ _ _ _ _ h.2.2.2.2⟩
    | exact ⟨h.1, h.2.1, h.2.2.1, h.2.2.2.1, h.2.2.2.2.1, h.2.2.2.2.2.1, hk _ _ _ _ _ h.2.2.2.2.2.2⟩
    | exact ⟨h.1, h.2.1, h.2.2.1, h.2.2.2.1, h.2.2.2.2.1, h.2.2.2.2.2.1, h.2.2.2.2.2.2.1, hk _ _ _ _ _ h.2.2.2.2.2.2.2⟩
    | exact ⟨fun z => hk _ _ _ _ _ (h.1 z), fun z => hk _ _ _ _ _ (h.2 z)⟩
    | exact h.imp (fun z => ⟨z.1, hk _ _ _ _ _ z.2⟩) (fun z => ⟨z.1, hk _ _ _ _ _ z.2⟩)
    | exact h.imp (fun z => ⟨z.1, hk _ _ _ _ _ z.2⟩) (fun z => hk _ _ _ _ _ z)
    | exact h.imp (fun z => ⟨z.1, hk _ _ _ _ _ z.2⟩) (fun z => z)
    | (obtain ⟨N, h⟩ := h; exact ⟨N, h.1, h.2.1, h.2.2.1, h.2.2.2.1, hk _ _ _ _ _ h.2.2.2.2⟩)
    | (simp_all; done))
theorem mo_astW {k nx : Nat} : m_mono (o_astW k nx) := by
  intro call lo st bd S kk kk' r hk h
  revert h
  unfold o_astW
  (repeat' split) <;> (intro h; first
    | exact h
    | exact h.elim
    | exact hk _ _ _ _ _ h
    | exact ⟨h.1, hk _ _ _ _ _ h.2⟩
    | exact ⟨h.1, h.2.1, hk _ _ _ _ _ h.2.2⟩
    | exact ⟨h.1, h.2.1, h.2.2.1, hk _ _ _ _ _ h.2.2.2⟩
    | exact ⟨h.1, h.2.1, h.2.2.1, h.2.2.2.1, hk _ _ _ _ _ h.2.2.2.2⟩
    | exact ⟨h.1, h.2.1, h.2.2.1, h.2.2.2.1, h.2.2.2.2.1, h.2.2.2.2.2.1, hk _ _ _ _ _ h.2.2.2.2.2.2⟩
    | exact ⟨h.1, h.2.1, h.2.2.1, h.2.2.2.1, h.2.2.2.2.1, h.2.2.2.2.2.1, h.2.2.2.2.2.2.1, hk _ _ _ _ _ h.2.2.2.2.2.2.2⟩
    | exact ⟨fun z => hk _ _ _ _ _ (h.1 z), fun z => hk _ _ _ _ _ (h.2 z)⟩
    | exact h.imp (fun z => ⟨z.1, hk _ _ _ _ _ z.2⟩) (fun z => ⟨z.1, hk _ _ _ _ _ z.2⟩)
    | exact h.imp (fun z => ⟨z.1, hk _ _ _ _ _ z.2⟩) (fun z => hk _ _ _ _ _ z)
    | exact h.imp (fun z => ⟨z.1, hk _ _ _ _ _ z.2⟩) (fun z => z)
    | (obtain ⟨N, h⟩ := h; exact ⟨N, h.1, h.2.1, h.2.2.1, h.2.2.2.1, hk _ _ _ _ _ h.2.2.2.2⟩)
    | (simp_all; done))
theorem mo_iincW {k : Nat} {v : Int32} {nx : Nat} : m_mono (o_iincW k v nx) := by
  intro call lo st bd S kk kk' r hk h
  revert h
  unfold o_iincW
  (repeat' split) <;> (intro h; first
    | exact h
    | exact h.elim
    | exact hk _ _ _ _ _ h
    | exact ⟨h.1, hk _ _ _ _ _ h.2⟩
    | exact ⟨h.1, h.2.1, hk _ _ _ _ _ h.2.2⟩
    | exact ⟨h.1, h.2.1, h.2.2.1, hk _ _ _ _ _ h.2.2.2⟩
    | exact ⟨h.1, h.2.1, h.2.2.1, h.2.2.2.1, hk _ _ _ _ _ h.2.2.2.2⟩
    | exact ⟨h.1, h.2.1, h.2.2.1, h.2.2.2.1, h.2.2.2.2.1, h.2.2.2.2.2.1, hk _ _ _ _ _ h.2.2.2.2.2.2⟩
    | exact ⟨h.1, h.2.1, h.2.2.1, h.2.2.2.1, h.2.2.2.2.1, h.2.2.2.2.2.1, h.2.2.2.2.2.2.1, hk _ _ _ _ _ h.2.2.2.2.2.2.2⟩
    | exact ⟨fun z => hk _ _ _ _ _ (h.1 z), fun z => hk _ _ _ _ _ (h.2 z)⟩
    | exact h.imp (fun z => ⟨z.1, hk _ _ _ _ _ z.2⟩) (fun z => ⟨z.1, hk _ _ _ _ _ z.2⟩)
    | exact h.imp (fun z => ⟨z.1, hk _ _ _ _ _ z.2⟩) (fun z => hk _ _ _ _ _ z)
    | exact h.imp (fun z => ⟨z.1, hk _ _ _ _ _ z.2⟩) (fun z => z)
    | (obtain ⟨N, h⟩ := h; exact ⟨N, h.1, h.2.1, h.2.2.1, h.2.2.2.1, hk _ _ _ _ _ h.2.2.2.2⟩)
    | (simp_all; done))
theorem mo_lbin {f : Int64 → Int64 → Int64} {nx : Nat} : m_mono (o_lbin f nx) := by
  intro call lo st bd S kk kk' r hk h
  revert h
  unfold o_lbin
  (repeat' split) <;> (intro h; first
    | exact h
    | exact h.elim
    | exact hk _ _ _ _ _ h
    | exact ⟨h.1, hk _ _ _ _ _ h.2⟩
    | exact ⟨h.1, h.2.1, hk _ _ _ _ _ h.2.2⟩
    | exact ⟨h.1, h.2.1, h.2.2.1, hk _ _ _ _ _ h.2.2.2⟩
    | exact ⟨h.1, h.2.1, h.2.2.1, h.2.2.2.1, hk _ _ _ _ _ h.2.2.2.2⟩
    | exact ⟨h.1, h.2.1, h.2.2.1, h.2.2.2.1, h.2.2.2.2.1, h.2.2.2.2.2.1, hk _ _ _ _ _ h.2.2.2.2.2.2⟩
    | exact ⟨h.1, h.2.1, h.2.2.1, h.2.2.2.1, h.2.2.2.2.1, h.2.2.2.2.2.1, h.2.2.2.2.2.2.1, hk _ _ _ _ _ h.2.2.2.2.2.2.2⟩
    | exact ⟨fun z => hk _ _ _ _ _ (h.1 z), fun z => hk _ _ _ _ _ (h.2 z)⟩
    | exact h.imp (fun z => ⟨z.1, hk _ _ _ _ _ z.2⟩) (fun z => ⟨z.1, hk _ _ _ _ _ z.2⟩)
    | exact h.imp (fun z => ⟨z.1, hk _ _ _ _ _ z.2⟩) (fun z => hk _ _ _ _ _ z)
    | exact h.imp (fun z => ⟨z.1, hk _ _ _ _ _ z.2⟩) (fun z => z)
    | (obtain ⟨N, h⟩ := h; exact ⟨N, h.1, h.2.1, h.2.2.1, h.2.2.2.1, hk _ _ _ _ _ h.2.2.2.2⟩)
    | (simp_all; done))
theorem mo_ldiv {f : Int64 → Int64 → Int64} {nx : Nat} : m_mono (o_ldiv f nx) := by
  intro call lo st bd S kk kk' r hk h
  revert h
  unfold o_ldiv
  (repeat' split) <;> (intro h; first
    | exact h
    | exact h.elim
    | exact hk _ _ _ _ _ h
    | exact ⟨h.1, hk _ _ _ _ _ h.2⟩
    | exact ⟨h.1, h.2.1, hk _ _ _ _ _ h.2.2⟩
    | exact ⟨h.1, h.2.1, h.2.2.1, hk _ _ _ _ _ h.2.2.2⟩
    | exact ⟨h.1, h.2.1, h.2.2.1, h.2.2.2.1, hk _ _ _ _ _ h.2.2.2.2⟩
    | exact ⟨h.1, h.2.1, h.2.2.1, h.2.2.2.1, h.2.2.2.2.1, h.2.2.2.2.2.1, hk _ _ _ _ _ h.2.2.2.2.2.2⟩
    | exact ⟨h.1, h.2.1, h.2.2.1, h.2.2.2.1, h.2.2.2.2.1, h.2.2.2.2.2.1, h.2.2.2.2.2.2.1, hk _ _ _ _ _ h.2.2.2.2.2.2.2⟩
    | exact ⟨fun z => hk _ _ _ _ _ (h.1 z), fun z => hk _ _ _ _ _ (h.2 z)⟩
    | exact h.imp (fun z => ⟨z.1, hk _ _ _ _ _ z.2⟩) (fun z => ⟨z.1, hk _ _ _ _ _ z.2⟩)
    | exact h.imp (fun z => ⟨z.1, hk _ _ _ _ _ z.2⟩) (fun z => hk _ _ _ _ _ z)
    | exact h.imp (fun z => ⟨z.1, hk _ _ _ _ _ z.2⟩) (fun z => z)
    | (obtain ⟨N, h⟩ := h; exact ⟨N, h.1, h.2.1, h.2.2.1, h.2.2.2.1, hk _ _ _ _ _ h.2.2.2.2⟩)
    | (simp_all; done))
theorem mo_bad  : m_mono (o_bad ) := by
  intro call lo st bd S kk kk' r hk h
  revert h
  unfold o_bad
  (repeat' split) <;> (intro h; first
    | exact h
    | exact h.elim
    | exact hk _ _ _ _ _ h
    | exact ⟨h.1, hk _ _ _ _ _ h.2⟩
    | exact ⟨h.1, h.2.1, hk _ _ _ _ _ h.2.2⟩
    | exact ⟨h.1, h.2.1, h.2.2.1, hk _ _ _ _ _ h.2.2.2⟩
    | exact ⟨h.1, h.2.1, h.2.2.1, h.2.2.2.1, hk _ _ _ _ _ h.2.2.2.2⟩
    | exact ⟨h.1, h.2.1, h.2.2.1, h.2.2.2.1, h.2.2.2.2.1, h.2.2.2.2.2.1, hk _ _ _ _ _ h.2.2.2.2.2.2⟩
    | exact ⟨h.1, h.2.1, h.2.2.1, h.2.2.2.1, h.2.2.2.2.1, h.2.2.2.2.2.1, h.2.2.2.2.2.2.1, hk _ _ _ _ _ h.2.2.2.2.2.2.2⟩
    | exact ⟨fun z => hk _ _ _ _ _ (h.1 z), fun z => hk _ _ _ _ _ (h.2 z)⟩
    | exact h.imp (fun z => ⟨z.1, hk _ _ _ _ _ z.2⟩) (fun z => ⟨z.1, hk _ _ _ _ _ z.2⟩)
    | exact h.imp (fun z => ⟨z.1, hk _ _ _ _ _ z.2⟩) (fun z => hk _ _ _ _ _ z)
    | exact h.imp (fun z => ⟨z.1, hk _ _ _ _ _ z.2⟩) (fun z => z)
    | (obtain ⟨N, h⟩ := h; exact ⟨N, h.1, h.2.1, h.2.2.1, h.2.2.2.1, hk _ _ _ _ _ h.2.2.2.2⟩)
    | (simp_all; done))
theorem m_W1.iff {l : List (Nat × m_Op)} {call : m_call} {r : m_R → m_S → Prop} {pc : Nat} {op : m_Op} (hop : m_lk l pc = op) (hall : ∀ q, m_mono (m_lk l q)) {lo : m_L} {st : List Value} {bd : Nat × Nat} {S : m_S} : m_W1 (m_lk l) call r pc lo st bd S = op call lo st bd S (m_W1 (m_lk l) call r) r := by
  apply propext
  constructor
  · intro h
    have h2 := h (fun pc lo st bd S => m_lk l pc call lo st bd S (m_W1 (m_lk l) call r) r) (fun pc lo st bd S kk hkk hop2 => hall pc call lo st bd S kk _ r (fun a b c d e h => m_W1.step (hkk a b c d e h)) hop2)
    rw [hop] at h2
    exact h2
  · intro h
    exact m_W1.step (by rw [hop]; exact h)
theorem m_mono_lk : ∀ (l : List (Nat × m_Op)), (∀ q ∈ l, m_mono q.2) → ∀ pc, m_mono (m_lk l pc) := by
  intro l
  induction l with
  | nil => intro _ pc; exact mo_bad
  | cons a t ih =>
    intro h pc
    obtain ⟨h1, h2⟩ := List.forall_mem_cons.mp h
    show m_mono (if a.1 = pc then a.2 else m_lk t pc)
    split
    · exact h1
    · exact ih h2 pc
theorem m_mc {pc : Nat} {op : m_Op} {l : List (Nat × m_Op)} (h : m_mono op) (t : ∀ q ∈ l, m_mono q.2) : ∀ q ∈ (pc, op) :: l, m_mono q.2 := List.forall_mem_cons.mpr ⟨h, t⟩
theorem m_mn : ∀ q ∈ ([] : List (Nat × m_Op)), m_mono q.2 := fun _ h => nomatch h
