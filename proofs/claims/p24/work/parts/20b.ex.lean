/-! An operation that may come to one of many ends comes to one of them -/
def m_ex (op : m_Op) : Prop := ∀ (Z : Type) (call : m_call) (lo : m_L) (st : List Value) (bd : Nat × Nat) (S : m_S) (K : Z → m_K) (R : Z → m_R → m_S → Prop), op call lo st bd S (fun pc lo st bd S => ∃ z, K z pc lo st bd S) (fun o S => ∃ z, R z o S) → ∃ z, op call lo st bd S (K z) (R z)
theorem m_brE {Z : Type} {c : Prop} {P Q : Z → Prop} (h : (c → ∃ z, P z) ∧ (¬ c → ∃ z, Q z)) : ∃ z, (c → P z) ∧ (¬ c → Q z) := by
  by_cases hc : c
  · obtain ⟨z, hz⟩ := h.1 hc; exact ⟨z, fun _ => hz, fun n => absurd hc n⟩
  · obtain ⟨z, hz⟩ := h.2 hc; exact ⟨z, fun n => absurd n hc, fun _ => hz⟩
theorem ex_iload {k nx : Nat} : m_ex (o_iload k nx) := by
  intro Z call lo st bd S K R h
  revert h
  unfold o_iload
  (repeat' split) <;> (intro h; first
    | exact h
    | exact h.elim
    | exact m_brE h
    | (simpa only [exists_and_left, exists_or] using h)
    | (obtain ⟨N, h1, h2, h3, h4, z, h5⟩ := h; exact ⟨z, N, h1, h2, h3, h4, h5⟩)
    | (simp_all; done))
theorem ex_aload {k nx : Nat} : m_ex (o_aload k nx) := by
  intro Z call lo st bd S K R h
  revert h
  unfold o_aload
  (repeat' split) <;> (intro h; first
    | exact h
    | exact h.elim
    | exact m_brE h
    | (simpa only [exists_and_left, exists_or] using h)
    | (obtain ⟨N, h1, h2, h3, h4, z, h5⟩ := h; exact ⟨z, N, h1, h2, h3, h4, h5⟩)
    | (simp_all; done))
theorem ex_const {v : Int32} {nx : Nat} : m_ex (o_const v nx) := by
  intro Z call lo st bd S K R h
  revert h
  unfold o_const
  (repeat' split) <;> (intro h; first
    | exact h
    | exact h.elim
    | exact m_brE h
    | (simpa only [exists_and_left, exists_or] using h)
    | (obtain ⟨N, h1, h2, h3, h4, z, h5⟩ := h; exact ⟨z, N, h1, h2, h3, h4, h5⟩)
    | (simp_all; done))
theorem ex_lconst {v : Int64} {nx : Nat} : m_ex (o_lconst v nx) := by
  intro Z call lo st bd S K R h
  revert h
  unfold o_lconst
  (repeat' split) <;> (intro h; first
    | exact h
    | exact h.elim
    | exact m_brE h
    | (simpa only [exists_and_left, exists_or] using h)
    | (obtain ⟨N, h1, h2, h3, h4, z, h5⟩ := h; exact ⟨z, N, h1, h2, h3, h4, h5⟩)
    | (simp_all; done))
theorem ex_istore {k nx : Nat} : m_ex (o_istore k nx) := by
  intro Z call lo st bd S K R h
  revert h
  unfold o_istore
  (repeat' split) <;> (intro h; first
    | exact h
    | exact h.elim
    | exact m_brE h
    | (simpa only [exists_and_left, exists_or] using h)
    | (obtain ⟨N, h1, h2, h3, h4, z, h5⟩ := h; exact ⟨z, N, h1, h2, h3, h4, h5⟩)
    | (simp_all; done))
theorem ex_astore {k nx : Nat} : m_ex (o_astore k nx) := by
  intro Z call lo st bd S K R h
  revert h
  unfold o_astore
  (repeat' split) <;> (intro h; first
    | exact h
    | exact h.elim
    | exact m_brE h
    | (simpa only [exists_and_left, exists_or] using h)
    | (obtain ⟨N, h1, h2, h3, h4, z, h5⟩ := h; exact ⟨z, N, h1, h2, h3, h4, h5⟩)
    | (simp_all; done))
theorem ex_iinc {k : Nat} {v : Int32} {nx : Nat} : m_ex (o_iinc k v nx) := by
  intro Z call lo st bd S K R h
  revert h
  unfold o_iinc
  (repeat' split) <;> (intro h; first
    | exact h
    | exact h.elim
    | exact m_brE h
    | (simpa only [exists_and_left, exists_or] using h)
    | (obtain ⟨N, h1, h2, h3, h4, z, h5⟩ := h; exact ⟨z, N, h1, h2, h3, h4, h5⟩)
    | (simp_all; done))
theorem ex_dup {nx : Nat} : m_ex (o_dup nx) := by
  intro Z call lo st bd S K R h
  revert h
  unfold o_dup
  (repeat' split) <;> (intro h; first
    | exact h
    | exact h.elim
    | exact m_brE h
    | (simpa only [exists_and_left, exists_or] using h)
    | (obtain ⟨N, h1, h2, h3, h4, z, h5⟩ := h; exact ⟨z, N, h1, h2, h3, h4, h5⟩)
    | (simp_all; done))
theorem ex_dup2 {nx : Nat} : m_ex (o_dup2 nx) := by
  intro Z call lo st bd S K R h
  revert h
  unfold o_dup2
  (repeat' split) <;> (intro h; first
    | exact h
    | exact h.elim
    | exact m_brE h
    | (simpa only [exists_and_left, exists_or] using h)
    | (obtain ⟨N, h1, h2, h3, h4, z, h5⟩ := h; exact ⟨z, N, h1, h2, h3, h4, h5⟩)
    | (simp_all; done))
theorem ex_pop {nx : Nat} : m_ex (o_pop nx) := by
  intro Z call lo st bd S K R h
  revert h
  unfold o_pop
  (repeat' split) <;> (intro h; first
    | exact h
    | exact h.elim
    | exact m_brE h
    | (simpa only [exists_and_left, exists_or] using h)
    | (obtain ⟨N, h1, h2, h3, h4, z, h5⟩ := h; exact ⟨z, N, h1, h2, h3, h4, h5⟩)
    | (simp_all; done))
theorem ex_bin {f : Int32 → Int32 → Int32} {nx : Nat} : m_ex (o_bin f nx) := by
  intro Z call lo st bd S K R h
  revert h
  unfold o_bin
  (repeat' split) <;> (intro h; first
    | exact h
    | exact h.elim
    | exact m_brE h
    | (simpa only [exists_and_left, exists_or] using h)
    | (obtain ⟨N, h1, h2, h3, h4, z, h5⟩ := h; exact ⟨z, N, h1, h2, h3, h4, h5⟩)
    | (simp_all; done))
theorem ex_div {f : Int32 → Int32 → Int32} {nx : Nat} : m_ex (o_div f nx) := by
  intro Z call lo st bd S K R h
  revert h
  unfold o_div
  (repeat' split) <;> (intro h; first
    | exact h
    | exact h.elim
    | exact m_brE h
    | (simpa only [exists_and_left, exists_or] using h)
    | (obtain ⟨N, h1, h2, h3, h4, z, h5⟩ := h; exact ⟨z, N, h1, h2, h3, h4, h5⟩)
    | (simp_all; done))
theorem ex_un {f : Int32 → Int32} {nx : Nat} : m_ex (o_un f nx) := by
  intro Z call lo st bd S K R h
  revert h
  unfold o_un
  (repeat' split) <;> (intro h; first
    | exact h
    | exact h.elim
    | exact m_brE h
    | (simpa only [exists_and_left, exists_or] using h)
    | (obtain ⟨N, h1, h2, h3, h4, z, h5⟩ := h; exact ⟨z, N, h1, h2, h3, h4, h5⟩)
    | (simp_all; done))
theorem ex_i2l {nx : Nat} : m_ex (o_i2l nx) := by
  intro Z call lo st bd S K R h
  revert h
  unfold o_i2l
  (repeat' split) <;> (intro h; first
    | exact h
    | exact h.elim
    | exact m_brE h
    | (simpa only [exists_and_left, exists_or] using h)
    | (obtain ⟨N, h1, h2, h3, h4, z, h5⟩ := h; exact ⟨z, N, h1, h2, h3, h4, h5⟩)
    | (simp_all; done))
theorem ex_lcmp {nx : Nat} : m_ex (o_lcmp nx) := by
  intro Z call lo st bd S K R h
  revert h
  unfold o_lcmp
  (repeat' split) <;> (intro h; first
    | exact h
    | exact h.elim
    | exact m_brE h
    | (simpa only [exists_and_left, exists_or] using h)
    | (obtain ⟨N, h1, h2, h3, h4, z, h5⟩ := h; exact ⟨z, N, h1, h2, h3, h4, h5⟩)
    | (simp_all; done))
theorem ex_ifeq {tg nx : Nat} : m_ex (o_ifeq tg nx) := by
  intro Z call lo st bd S K R h
  revert h
  unfold o_ifeq
  (repeat' split) <;> (intro h; first
    | exact h
    | exact h.elim
    | exact m_brE h
    | (simpa only [exists_and_left, exists_or] using h)
    | (obtain ⟨N, h1, h2, h3, h4, z, h5⟩ := h; exact ⟨z, N, h1, h2, h3, h4, h5⟩)
    | (simp_all; done))
theorem ex_ifne {tg nx : Nat} : m_ex (o_ifne tg nx) := by
  intro Z call lo st bd S K R h
  revert h
  unfold o_ifne
  (repeat' split) <;> (intro h; first
    | exact h
    | exact h.elim
    | exact m_brE h
    | (simpa only [exists_and_left, exists_or] using h)
    | (obtain ⟨N, h1, h2, h3, h4, z, h5⟩ := h; exact ⟨z, N, h1, h2, h3, h4, h5⟩)
    | (simp_all; done))
theorem ex_iflt {tg nx : Nat} : m_ex (o_iflt tg nx) := by
  intro Z call lo st bd S K R h
  revert h
  unfold o_iflt
  (repeat' split) <;> (intro h; first
    | exact h
    | exact h.elim
    | exact m_brE h
    | (simpa only [exists_and_left, exists_or] using h)
    | (obtain ⟨N, h1, h2, h3, h4, z, h5⟩ := h; exact ⟨z, N, h1, h2, h3, h4, h5⟩)
    | (simp_all; done))
theorem ex_ifge {tg nx : Nat} : m_ex (o_ifge tg nx) := by
  intro Z call lo st bd S K R h
  revert h
  unfold o_ifge
  (repeat' split) <;> (intro h; first
    | exact h
    | exact h.elim
    | exact m_brE h
    | (simpa only [exists_and_left, exists_or] using h)
    | (obtain ⟨N, h1, h2, h3, h4, z, h5⟩ := h; exact ⟨z, N, h1, h2, h3, h4, h5⟩)
    | (simp_all; done))
theorem ex_ifgt {tg nx : Nat} : m_ex (o_ifgt tg nx) := by
  intro Z call lo st bd S K R h
  revert h
  unfold o_ifgt
  (repeat' split) <;> (intro h; first
    | exact h
    | exact h.elim
    | exact m_brE h
    | (simpa only [exists_and_left, exists_or] using h)
    | (obtain ⟨N, h1, h2, h3, h4, z, h5⟩ := h; exact ⟨z, N, h1, h2, h3, h4, h5⟩)
    | (simp_all; done))
theorem ex_ifle {tg nx : Nat} : m_ex (o_ifle tg nx) := by
  intro Z call lo st bd S K R h
  revert h
  unfold o_ifle
  (repeat' split) <;> (intro h; first
    | exact h
    | exact h.elim
    | exact m_brE h
    | (simpa only [exists_and_left, exists_or] using h)
    | (obtain ⟨N, h1, h2, h3, h4, z, h5⟩ := h; exact ⟨z, N, h1, h2, h3, h4, h5⟩)
    | (simp_all; done))
theorem ex_icmpeq {tg nx : Nat} : m_ex (o_icmpeq tg nx) := by
  intro Z call lo st bd S K R h
  revert h
  unfold o_icmpeq
  (repeat' split) <;> (intro h; first
    | exact h
    | exact h.elim
    | exact m_brE h
    | (simpa only [exists_and_left, exists_or] using h)
    | (obtain ⟨N, h1, h2, h3, h4, z, h5⟩ := h; exact ⟨z, N, h1, h2, h3, h4, h5⟩)
    | (simp_all; done))
theorem ex_icmpne {tg nx : Nat} : m_ex (o_icmpne tg nx) := by
  intro Z call lo st bd S K R h
  revert h
  unfold o_icmpne
  (repeat' split) <;> (intro h; first
    | exact h
    | exact h.elim
    | exact m_brE h
    | (simpa only [exists_and_left, exists_or] using h)
    | (obtain ⟨N, h1, h2, h3, h4, z, h5⟩ := h; exact ⟨z, N, h1, h2, h3, h4, h5⟩)
    | (simp_all; done))
theorem ex_icmplt {tg nx : Nat} : m_ex (o_icmplt tg nx) := by
  intro Z call lo st bd S K R h
  revert h
  unfold o_icmplt
  (repeat' split) <;> (intro h; first
    | exact h
    | exact h.elim
    | exact m_brE h
    | (simpa only [exists_and_left, exists_or] using h)
    | (obtain ⟨N, h1, h2, h3, h4, z, h5⟩ := h; exact ⟨z, N, h1, h2, h3, h4, h5⟩)
    | (simp_all; done))
theorem ex_icmpge {tg nx : Nat} : m_ex (o_icmpge tg nx) := by
  intro Z call lo st bd S K R h
  revert h
  unfold o_icmpge
  (repeat' split) <;> (intro h; first
    | exact h
    | exact h.elim
    | exact m_brE h
    | (simpa only [exists_and_left, exists_or] using h)
    | (obtain ⟨N, h1, h2, h3, h4, z, h5⟩ := h; exact ⟨z, N, h1, h2, h3, h4, h5⟩)
    | (simp_all; done))
theorem ex_icmpgt {tg nx : Nat} : m_ex (o_icmpgt tg nx) := by
  intro Z call lo st bd S K R h
  revert h
  unfold o_icmpgt
  (repeat' split) <;> (intro h; first
    | exact h
    | exact h.elim
    | exact m_brE h
    | (simpa only [exists_and_left, exists_or] using h)
    | (obtain ⟨N, h1, h2, h3, h4, z, h5⟩ := h; exact ⟨z, N, h1, h2, h3, h4, h5⟩)
    | (simp_all; done))
theorem ex_icmple {tg nx : Nat} : m_ex (o_icmple tg nx) := by
  intro Z call lo st bd S K R h
  revert h
  unfold o_icmple
  (repeat' split) <;> (intro h; first
    | exact h
    | exact h.elim
    | exact m_brE h
    | (simpa only [exists_and_left, exists_or] using h)
    | (obtain ⟨N, h1, h2, h3, h4, z, h5⟩ := h; exact ⟨z, N, h1, h2, h3, h4, h5⟩)
    | (simp_all; done))
theorem ex_goto {tg : Nat} : m_ex (o_goto tg) := by
  intro Z call lo st bd S K R h
  revert h
  unfold o_goto
  (repeat' split) <;> (intro h; first
    | exact h
    | exact h.elim
    | exact m_brE h
    | (simpa only [exists_and_left, exists_or] using h)
    | (obtain ⟨N, h1, h2, h3, h4, z, h5⟩ := h; exact ⟨z, N, h1, h2, h3, h4, h5⟩)
    | (simp_all; done))
theorem ex_getf {ci k nx : Nat} : m_ex (o_getf ci k nx) := by
  intro Z call lo st bd S K R h
  revert h
  unfold o_getf
  (repeat' split) <;> (intro h; first
    | exact h
    | exact h.elim
    | exact m_brE h
    | (simpa only [exists_and_left, exists_or] using h)
    | (obtain ⟨N, h1, h2, h3, h4, z, h5⟩ := h; exact ⟨z, N, h1, h2, h3, h4, h5⟩)
    | (simp_all; done))
theorem ex_puti {ci k nx : Nat} : m_ex (o_puti ci k nx) := by
  intro Z call lo st bd S K R h
  revert h
  unfold o_puti
  (repeat' split) <;> (intro h; first
    | exact h
    | exact h.elim
    | exact m_brE h
    | (simpa only [exists_and_left, exists_or] using h)
    | (obtain ⟨N, h1, h2, h3, h4, z, h5⟩ := h; exact ⟨z, N, h1, h2, h3, h4, h5⟩)
    | (simp_all; done))
theorem ex_putz {ci k nx : Nat} : m_ex (o_putz ci k nx) := by
  intro Z call lo st bd S K R h
  revert h
  unfold o_putz
  (repeat' split) <;> (intro h; first
    | exact h
    | exact h.elim
    | exact m_brE h
    | (simpa only [exists_and_left, exists_or] using h)
    | (obtain ⟨N, h1, h2, h3, h4, z, h5⟩ := h; exact ⟨z, N, h1, h2, h3, h4, h5⟩)
    | (simp_all; done))
theorem ex_putr {ci k nx : Nat} : m_ex (o_putr ci k nx) := by
  intro Z call lo st bd S K R h
  revert h
  unfold o_putr
  (repeat' split) <;> (intro h; first
    | exact h
    | exact h.elim
    | exact m_brE h
    | (simpa only [exists_and_left, exists_or] using h)
    | (obtain ⟨N, h1, h2, h3, h4, z, h5⟩ := h; exact ⟨z, N, h1, h2, h3, h4, h5⟩)
    | (simp_all; done))
theorem ex_iald {k nx : Nat} : m_ex (o_iald k nx) := by
  intro Z call lo st bd S K R h
  revert h
  unfold o_iald
  (repeat' split) <;> (intro h; first
    | exact h
    | exact h.elim
    | exact m_brE h
    | (simpa only [exists_and_left, exists_or] using h)
    | (obtain ⟨N, h1, h2, h3, h4, z, h5⟩ := h; exact ⟨z, N, h1, h2, h3, h4, h5⟩)
    | (simp_all; done))
theorem ex_iast {nx : Nat} : m_ex (o_iast nx) := by
  intro Z call lo st bd S K R h
  revert h
  unfold o_iast
  (repeat' split) <;> (intro h; first
    | exact h
    | exact h.elim
    | exact m_brE h
    | (simpa only [exists_and_left, exists_or] using h)
    | (obtain ⟨N, h1, h2, h3, h4, z, h5⟩ := h; exact ⟨z, N, h1, h2, h3, h4, h5⟩)
    | (simp_all; done))
theorem ex_zast {nx : Nat} : m_ex (o_zast nx) := by
  intro Z call lo st bd S K R h
  revert h
  unfold o_zast
  (repeat' split) <;> (intro h; first
    | exact h
    | exact h.elim
    | exact m_brE h
    | (simpa only [exists_and_left, exists_or] using h)
    | (obtain ⟨N, h1, h2, h3, h4, z, h5⟩ := h; exact ⟨z, N, h1, h2, h3, h4, h5⟩)
    | (simp_all; done))
theorem ex_lald {nx : Nat} : m_ex (o_lald nx) := by
  intro Z call lo st bd S K R h
  revert h
  unfold o_lald
  (repeat' split) <;> (intro h; first
    | exact h
    | exact h.elim
    | exact m_brE h
    | (simpa only [exists_and_left, exists_or] using h)
    | (obtain ⟨N, h1, h2, h3, h4, z, h5⟩ := h; exact ⟨z, N, h1, h2, h3, h4, h5⟩)
    | (simp_all; done))
theorem ex_last {nx : Nat} : m_ex (o_last nx) := by
  intro Z call lo st bd S K R h
  revert h
  unfold o_last
  (repeat' split) <;> (intro h; first
    | exact h
    | exact h.elim
    | exact m_brE h
    | (simpa only [exists_and_left, exists_or] using h)
    | (obtain ⟨N, h1, h2, h3, h4, z, h5⟩ := h; exact ⟨z, N, h1, h2, h3, h4, h5⟩)
    | (simp_all; done))
theorem ex_aald {k nx : Nat} : m_ex (o_aald k nx) := by
  intro Z call lo st bd S K R h
  revert h
  unfold o_aald
  (repeat' split) <;> (intro h; first
    | exact h
    | exact h.elim
    | exact m_brE h
    | (simpa only [exists_and_left, exists_or] using h)
    | (obtain ⟨N, h1, h2, h3, h4, z, h5⟩ := h; exact ⟨z, N, h1, h2, h3, h4, h5⟩)
    | (simp_all; done))
theorem ex_aast {k ci nx : Nat} : m_ex (o_aast k ci nx) := by
  intro Z call lo st bd S K R h
  revert h
  unfold o_aast
  (repeat' split) <;> (intro h; first
    | exact h
    | exact h.elim
    | exact m_brE h
    | (simpa only [exists_and_left, exists_or] using h)
    | (obtain ⟨N, h1, h2, h3, h4, z, h5⟩ := h; exact ⟨z, N, h1, h2, h3, h4, h5⟩)
    | (simp_all; done))
theorem ex_alenq {k nx : Nat} : m_ex (o_alenq k nx) := by
  intro Z call lo st bd S K R h
  revert h
  unfold o_alenq
  (repeat' split) <;> (intro h; first
    | exact h
    | exact h.elim
    | exact m_brE h
    | (simpa only [exists_and_left, exists_or] using h)
    | (obtain ⟨N, h1, h2, h3, h4, z, h5⟩ := h; exact ⟨z, N, h1, h2, h3, h4, h5⟩)
    | (simp_all; done))
theorem ex_new {ci N : Nat} {fs : List Value} {nx : Nat} : m_ex (o_new ci N fs nx) := by
  intro Z call lo st bd S K R h
  revert h
  unfold o_new
  (repeat' split) <;> (intro h; first
    | exact h
    | exact h.elim
    | exact m_brE h
    | (simpa only [exists_and_left, exists_or] using h)
    | (obtain ⟨N, h1, h2, h3, h4, z, h5⟩ := h; exact ⟨z, N, h1, h2, h3, h4, h5⟩)
    | (simp_all; done))
theorem ex_newi {k N : Nat} {nx : Nat} : m_ex (o_newi k N nx) := by
  intro Z call lo st bd S K R h
  revert h
  unfold o_newi
  (repeat' split) <;> (intro h; first
    | exact h
    | exact h.elim
    | exact m_brE h
    | (simpa only [exists_and_left, exists_or] using h)
    | (obtain ⟨N, h1, h2, h3, h4, z, h5⟩ := h; exact ⟨z, N, h1, h2, h3, h4, h5⟩)
    | (simp_all; done))
theorem ex_newl {N : Nat} {nx : Nat} : m_ex (o_newl N nx) := by
  intro Z call lo st bd S K R h
  revert h
  unfold o_newl
  (repeat' split) <;> (intro h; first
    | exact h
    | exact h.elim
    | exact m_brE h
    | (simpa only [exists_and_left, exists_or] using h)
    | (obtain ⟨N, h1, h2, h3, h4, z, h5⟩ := h; exact ⟨z, N, h1, h2, h3, h4, h5⟩)
    | (simp_all; done))
theorem ex_newq {k N : Nat} {nx : Nat} : m_ex (o_newq k N nx) := by
  intro Z call lo st bd S K R h
  revert h
  unfold o_newq
  (repeat' split) <;> (intro h; first
    | exact h
    | exact h.elim
    | exact m_brE h
    | (simpa only [exists_and_left, exists_or] using h)
    | (obtain ⟨N, h1, h2, h3, h4, z, h5⟩ := h; exact ⟨z, N, h1, h2, h3, h4, h5⟩)
    | (simp_all; done))
theorem ex_mna {N K nx : Nat} : m_ex (o_mna N K nx) := by
  intro Z call lo st bd S K R h
  revert h
  unfold o_mna
  (repeat' split) <;> (intro h; first
    | exact h
    | exact h.elim
    | exact m_brE h
    | (simpa only [exists_and_left, exists_or] using h)
    | (obtain ⟨N, h1, h2, h3, h4, z, h5⟩ := h; exact ⟨z, N, h1, h2, h3, h4, h5⟩)
    | (simp_all; done))
theorem ex_copy {nx : Nat} : m_ex (o_copy nx) := by
  intro Z call lo st bd S K R h
  revert h
  unfold o_copy
  (repeat' split) <;> (intro h; first
    | exact h
    | exact h.elim
    | exact m_brE h
    | (simpa only [exists_and_left, exists_or] using h)
    | (obtain ⟨N, h1, h2, h3, h4, z, h5⟩ := h; exact ⟨z, N, h1, h2, h3, h4, h5⟩)
    | (simp_all; done))
theorem ex_drop {nx : Nat} : m_ex (o_drop nx) := by
  intro Z call lo st bd S K R h
  revert h
  unfold o_drop
  (repeat' split) <;> (intro h; first
    | exact h
    | exact h.elim
    | exact m_brE h
    | (simpa only [exists_and_left, exists_or] using h)
    | (obtain ⟨N, h1, h2, h3, h4, z, h5⟩ := h; exact ⟨z, N, h1, h2, h3, h4, h5⟩)
    | (simp_all; done))
theorem ex_mbin {f : Int32 → Int32 → Int32} {nx : Nat} : m_ex (o_mbin f nx) := by
  intro Z call lo st bd S K R h
  revert h
  unfold o_mbin
  (repeat' split) <;> (intro h; first
    | exact h
    | exact h.elim
    | exact m_brE h
    | (simpa only [exists_and_left, exists_or] using h)
    | (obtain ⟨N, h1, h2, h3, h4, z, h5⟩ := h; exact ⟨z, N, h1, h2, h3, h4, h5⟩)
    | (simp_all; done))
theorem ex_mun {f : Int32 → Int32} {nx : Nat} : m_ex (o_mun f nx) := by
  intro Z call lo st bd S K R h
  revert h
  unfold o_mun
  (repeat' split) <;> (intro h; first
    | exact h
    | exact h.elim
    | exact m_brE h
    | (simpa only [exists_and_left, exists_or] using h)
    | (obtain ⟨N, h1, h2, h3, h4, z, h5⟩ := h; exact ⟨z, N, h1, h2, h3, h4, h5⟩)
    | (simp_all; done))
theorem ex_cast {ci nx : Nat} : m_ex (o_cast ci nx) := by
  intro Z call lo st bd S K R h
  revert h
  unfold o_cast
  (repeat' split) <;> (intro h; first
    | exact h
    | exact h.elim
    | exact m_brE h
    | (simpa only [exists_and_left, exists_or] using h)
    | (obtain ⟨N, h1, h2, h3, h4, z, h5⟩ := h; exact ⟨z, N, h1, h2, h3, h4, h5⟩)
    | (simp_all; done))
theorem ex_call {y n c1 c2 nx : Nat} : m_ex (o_call y n c1 c2 nx) := by
  intro Z call lo st bd S K R h
  obtain ⟨h1, h2, h3, h4, ov, S2, h5, z, h6⟩ := h
  exact ⟨z, h1, h2, h3, h4, ov, S2, h5, h6⟩
theorem ex_callx {y n c1 c2 nx : Nat} : m_ex (o_callx y n c1 c2 nx) := by
  intro Z call lo st bd S K R h
  obtain ⟨h1, h2, h3, h4, o, S2, h5, h6⟩ := h
  cases o with
  | inl ov => obtain ⟨z, h6⟩ := h6; exact ⟨z, h1, h2, h3, h4, _, S2, h5, h6⟩
  | inr E => obtain ⟨z, h6⟩ := h6; exact ⟨z, h1, h2, h3, h4, _, S2, h5, h6⟩
theorem ex_callv {ci y n c1 c2 nx : Nat} : m_ex (o_callv ci y n c1 c2 nx) := by
  intro Z call lo st bd S K R h
  obtain ⟨z, h1⟩ := ex_call _ _ _ _ _ _ _ _ h.2
  exact ⟨z, h.1, h1⟩
theorem ex_callvx {ci y n c1 c2 nx : Nat} : m_ex (o_callvx ci y n c1 c2 nx) := by
  intro Z call lo st bd S K R h
  obtain ⟨z, h1⟩ := ex_callx _ _ _ _ _ _ _ _ h.2
  exact ⟨z, h.1, h1⟩
theorem ex_callh {ci y n c1 c2 nx : Nat} {hs : List (String × Nat × Nat)} : m_ex (o_callh ci y n c1 c2 nx hs) := by
  intro Z call lo st bd S K R h
  obtain ⟨h0, h1, h2, h3, h4, o, S2, h5, h6⟩ := h
  cases o with
  | inl ov => obtain ⟨z, h6⟩ := h6; exact ⟨z, h0, h1, h2, h3, h4, _, S2, h5, h6⟩
  | inr E =>
    unfold m_cs at h6
    dsimp only at h6
    split at h6
    · rename_i tg k hk
      obtain ⟨z, h6⟩ := h6
      refine ⟨z, h0, h1, h2, h3, h4, _, S2, h5, ?_⟩
      unfold m_cs
      dsimp only
      rw [hk]
      exact h6
    · exact h6.elim
theorem ex_ireturn  : m_ex (o_ireturn ) := by
  intro Z call lo st bd S K R h
  revert h
  unfold o_ireturn
  (repeat' split) <;> (intro h; first
    | exact h
    | exact h.elim
    | exact m_brE h
    | (simpa only [exists_and_left, exists_or] using h)
    | (obtain ⟨N, h1, h2, h3, h4, z, h5⟩ := h; exact ⟨z, N, h1, h2, h3, h4, h5⟩)
    | (simp_all; done))
theorem ex_zreturn  : m_ex (o_zreturn ) := by
  intro Z call lo st bd S K R h
  revert h
  unfold o_zreturn
  (repeat' split) <;> (intro h; first
    | exact h
    | exact h.elim
    | exact m_brE h
    | (simpa only [exists_and_left, exists_or] using h)
    | (obtain ⟨N, h1, h2, h3, h4, z, h5⟩ := h; exact ⟨z, N, h1, h2, h3, h4, h5⟩)
    | (simp_all; done))
theorem ex_areturn  : m_ex (o_areturn ) := by
  intro Z call lo st bd S K R h
  revert h
  unfold o_areturn
  (repeat' split) <;> (intro h; first
    | exact h
    | exact h.elim
    | exact m_brE h
    | (simpa only [exists_and_left, exists_or] using h)
    | (obtain ⟨N, h1, h2, h3, h4, z, h5⟩ := h; exact ⟨z, N, h1, h2, h3, h4, h5⟩)
    | (simp_all; done))
theorem ex_return  : m_ex (o_return ) := by
  intro Z call lo st bd S K R h
  revert h
  unfold o_return
  (repeat' split) <;> (intro h; first
    | exact h
    | exact h.elim
    | exact m_brE h
    | (simpa only [exists_and_left, exists_or] using h)
    | (obtain ⟨N, h1, h2, h3, h4, z, h5⟩ := h; exact ⟨z, N, h1, h2, h3, h4, h5⟩)
    | (simp_all; done))
theorem ex_throw {E : String} : m_ex (o_throw E) := by
  intro Z call lo st bd S K R h
  revert h
  unfold o_throw
  (repeat' split) <;> (intro h; first
    | exact h
    | exact h.elim
    | exact m_brE h
    | (simpa only [exists_and_left, exists_or] using h)
    | (obtain ⟨N, h1, h2, h3, h4, z, h5⟩ := h; exact ⟨z, N, h1, h2, h3, h4, h5⟩)
    | (simp_all; done))
theorem ex_switch {f : Int32 → Option Nat} : m_ex (o_switch f) := by
  intro Z call lo st bd S K R h
  revert h
  unfold o_switch
  (repeat' split) <;> (intro h; first
    | exact h
    | exact h.elim
    | exact m_brE h
    | (simpa only [exists_and_left, exists_or] using h)
    | (obtain ⟨N, h1, h2, h3, h4, z, h5⟩ := h; exact ⟨z, N, h1, h2, h3, h4, h5⟩)
    | (simp_all; done))
theorem ex_slen {L nx : Nat} : m_ex (o_slen L nx) := by
  intro Z call lo st bd S K R h
  revert h
  unfold o_slen
  (repeat' split) <;> (intro h; first
    | exact h
    | exact h.elim
    | exact m_brE h
    | (simpa only [exists_and_left, exists_or] using h)
    | (obtain ⟨N, h1, h2, h3, h4, z, h5⟩ := h; exact ⟨z, N, h1, h2, h3, h4, h5⟩)
    | (simp_all; done))
theorem ex_sald {L : Nat} {xs : Nat → Int32} {nx : Nat} : m_ex (o_sald L xs nx) := by
  intro Z call lo st bd S K R h
  revert h
  unfold o_sald
  (repeat' split) <;> (intro h; first
    | exact h
    | exact h.elim
    | exact m_brE h
    | (simpa only [exists_and_left, exists_or] using h)
    | (obtain ⟨N, h1, h2, h3, h4, z, h5⟩ := h; exact ⟨z, N, h1, h2, h3, h4, h5⟩)
    | (simp_all; done))
theorem ex_null {nx : Nat} : m_ex (o_null nx) := by
  intro Z call lo st bd S K R h
  revert h
  unfold o_null
  (repeat' split) <;> (intro h; first
    | exact h
    | exact h.elim
    | exact m_brE h
    | (simpa only [exists_and_left, exists_or] using h)
    | (obtain ⟨N, h1, h2, h3, h4, z, h5⟩ := h; exact ⟨z, N, h1, h2, h3, h4, h5⟩)
    | (simp_all; done))
theorem ex_dupx1 {nx : Nat} : m_ex (o_dupx1 nx) := by
  intro Z call lo st bd S K R h
  revert h
  unfold o_dupx1
  (repeat' split) <;> (intro h; first
    | exact h
    | exact h.elim
    | exact m_brE h
    | (simpa only [exists_and_left, exists_or] using h)
    | (obtain ⟨N, h1, h2, h3, h4, z, h5⟩ := h; exact ⟨z, N, h1, h2, h3, h4, h5⟩)
    | (simp_all; done))
theorem ex_acmpeq {tg nx : Nat} : m_ex (o_acmpeq tg nx) := by
  intro Z call lo st bd S K R h
  revert h
  unfold o_acmpeq
  (repeat' split) <;> (intro h; first
    | exact h
    | exact h.elim
    | exact m_brE h
    | (simpa only [exists_and_left, exists_or] using h)
    | (obtain ⟨N, h1, h2, h3, h4, z, h5⟩ := h; exact ⟨z, N, h1, h2, h3, h4, h5⟩)
    | (simp_all; done))
theorem ex_acmpne {tg nx : Nat} : m_ex (o_acmpne tg nx) := by
  intro Z call lo st bd S K R h
  revert h
  unfold o_acmpne
  (repeat' split) <;> (intro h; first
    | exact h
    | exact h.elim
    | exact m_brE h
    | (simpa only [exists_and_left, exists_or] using h)
    | (obtain ⟨N, h1, h2, h3, h4, z, h5⟩ := h; exact ⟨z, N, h1, h2, h3, h4, h5⟩)
    | (simp_all; done))
theorem ex_de {nx : Nat} : m_ex (o_de nx) := by
  intro Z call lo st bd S K R h
  revert h
  unfold o_de
  (repeat' split) <;> (intro h; first
    | exact h
    | exact h.elim
    | exact m_brE h
    | (simpa only [exists_and_left, exists_or] using h)
    | (obtain ⟨N, h1, h2, h3, h4, z, h5⟩ := h; exact ⟨z, N, h1, h2, h3, h4, h5⟩)
    | (simp_all; done))
theorem ex_alenO {nx : Nat} : m_ex (o_alenO nx) := by
  intro Z call lo st bd S K R h
  revert h
  unfold o_alenO
  (repeat' split) <;> (intro h; first
    | exact h
    | exact h.elim
    | exact m_brE h
    | (simpa only [exists_and_left, exists_or] using h)
    | (obtain ⟨N, h1, h2, h3, h4, z, h5⟩ := h; exact ⟨z, N, h1, h2, h3, h4, h5⟩)
    | (simp_all; done))
theorem ex_aastO {ci nx : Nat} : m_ex (o_aastO ci nx) := by
  intro Z call lo st bd S K R h
  revert h
  unfold o_aastO
  (repeat' split) <;> (intro h; first
    | exact h
    | exact h.elim
    | exact m_brE h
    | (simpa only [exists_and_left, exists_or] using h)
    | (obtain ⟨N, h1, h2, h3, h4, z, h5⟩ := h; exact ⟨z, N, h1, h2, h3, h4, h5⟩)
    | (simp_all; done))
theorem ex_getC {nx : Nat} : m_ex (o_getC nx) := by
  intro Z call lo st bd S K R h
  revert h
  unfold o_getC
  (repeat' split) <;> (intro h; first
    | exact h
    | exact h.elim
    | exact m_brE h
    | (simpa only [exists_and_left, exists_or] using h)
    | (obtain ⟨N, h1, h2, h3, h4, z, h5⟩ := h; exact ⟨z, N, h1, h2, h3, h4, h5⟩)
    | (simp_all; done))
theorem ex_ldcM {nx : Nat} : m_ex (o_ldcM nx) := by
  intro Z call lo st bd S K R h
  revert h
  unfold o_ldcM
  (repeat' split) <;> (intro h; first
    | exact h
    | exact h.elim
    | exact m_brE h
    | (simpa only [exists_and_left, exists_or] using h)
    | (obtain ⟨N, h1, h2, h3, h4, z, h5⟩ := h; exact ⟨z, N, h1, h2, h3, h4, h5⟩)
    | (simp_all; done))
theorem ex_copyq {ci nx : Nat} : m_ex (o_copyq ci nx) := by
  intro Z call lo st bd S K R h
  revert h
  unfold o_copyq
  (repeat' split) <;> (intro h; first
    | exact h
    | exact h.elim
    | exact m_brE h
    | (simpa only [exists_and_left, exists_or] using h)
    | (obtain ⟨N, h1, h2, h3, h4, z, h5⟩ := h; exact ⟨z, N, h1, h2, h3, h4, h5⟩)
    | (simp_all; done))
theorem ex_newqd {k nx : Nat} : m_ex (o_newqd k nx) := by
  intro Z call lo st bd S K R h
  revert h
  unfold o_newqd
  (repeat' split) <;> (intro h; first
    | exact h
    | exact h.elim
    | exact m_brE h
    | (simpa only [exists_and_left, exists_or] using h)
    | (obtain ⟨N, h1, h2, h3, h4, z, h5⟩ := h; exact ⟨z, N, h1, h2, h3, h4, h5⟩)
    | (simp_all; done))
theorem ex_lload {k nx : Nat} : m_ex (o_lload k nx) := by
  intro Z call lo st bd S K R h
  revert h
  unfold o_lload
  (repeat' split) <;> (intro h; first
    | exact h
    | exact h.elim
    | exact m_brE h
    | (simpa only [exists_and_left, exists_or] using h)
    | (obtain ⟨N, h1, h2, h3, h4, z, h5⟩ := h; exact ⟨z, N, h1, h2, h3, h4, h5⟩)
    | (simp_all; done))
theorem ex_lstore {k nx : Nat} : m_ex (o_lstore k nx) := by
  intro Z call lo st bd S K R h
  revert h
  unfold o_lstore
  (repeat' split) <;> (intro h; first
    | exact h
    | exact h.elim
    | exact m_brE h
    | (simpa only [exists_and_left, exists_or] using h)
    | (obtain ⟨N, h1, h2, h3, h4, z, h5⟩ := h; exact ⟨z, N, h1, h2, h3, h4, h5⟩)
    | (simp_all; done))
theorem ex_istW {k nx : Nat} : m_ex (o_istW k nx) := by
  intro Z call lo st bd S K R h
  revert h
  unfold o_istW
  (repeat' split) <;> (intro h; first
    | exact h
    | exact h.elim
    | exact m_brE h
    | (simpa only [exists_and_left, exists_or] using h)
    | (obtain ⟨N, h1, h2, h3, h4, z, h5⟩ := h; exact ⟨z, N, h1, h2, h3, h4, h5⟩)
    | (simp_all; done))
theorem ex_astW {k nx : Nat} : m_ex (o_astW k nx) := by
  intro Z call lo st bd S K R h
  revert h
  unfold o_astW
  (repeat' split) <;> (intro h; first
    | exact h
    | exact h.elim
    | exact m_brE h
    | (simpa only [exists_and_left, exists_or] using h)
    | (obtain ⟨N, h1, h2, h3, h4, z, h5⟩ := h; exact ⟨z, N, h1, h2, h3, h4, h5⟩)
    | (simp_all; done))
theorem ex_iincW {k : Nat} {v : Int32} {nx : Nat} : m_ex (o_iincW k v nx) := by
  intro Z call lo st bd S K R h
  revert h
  unfold o_iincW
  (repeat' split) <;> (intro h; first
    | exact h
    | exact h.elim
    | exact m_brE h
    | (simpa only [exists_and_left, exists_or] using h)
    | (obtain ⟨N, h1, h2, h3, h4, z, h5⟩ := h; exact ⟨z, N, h1, h2, h3, h4, h5⟩)
    | (simp_all; done))
theorem ex_lbin {f : Int64 → Int64 → Int64} {nx : Nat} : m_ex (o_lbin f nx) := by
  intro Z call lo st bd S K R h
  revert h
  unfold o_lbin
  (repeat' split) <;> (intro h; first
    | exact h
    | exact h.elim
    | exact m_brE h
    | (simpa only [exists_and_left, exists_or] using h)
    | (obtain ⟨N, h1, h2, h3, h4, z, h5⟩ := h; exact ⟨z, N, h1, h2, h3, h4, h5⟩)
    | (simp_all; done))
theorem ex_ldiv {f : Int64 → Int64 → Int64} {nx : Nat} : m_ex (o_ldiv f nx) := by
  intro Z call lo st bd S K R h
  revert h
  unfold o_ldiv
  (repeat' split) <;> (intro h; first
    | exact h
    | exact h.elim
    | exact m_brE h
    | (simpa only [exists_and_left, exists_or] using h)
    | (obtain ⟨N, h1, h2, h3, h4, z, h5⟩ := h; exact ⟨z, N, h1, h2, h3, h4, h5⟩)
    | (simp_all; done))
theorem ex_bad  : m_ex (o_bad ) := by
  intro Z call lo st bd S K R h
  revert h
  unfold o_bad
  (repeat' split) <;> (intro h; first
    | exact h
    | exact h.elim
    | exact m_brE h
    | (simpa only [exists_and_left, exists_or] using h)
    | (obtain ⟨N, h1, h2, h3, h4, z, h5⟩ := h; exact ⟨z, N, h1, h2, h3, h4, h5⟩)
    | (simp_all; done))
theorem m_W1.ex {l : List (Nat × m_Op)} {call : m_call} {r : m_R → m_S → Prop} (hm : ∀ q, m_mono (m_lk l q)) (he : ∀ q, m_ex (m_lk l q)) {pc : Nat} {lo : m_L} {st : List Value} {bd : Nat × Nat} {S : m_S} (h : m_W1 (m_lk l) call r pc lo st bd S) : ∃ (o : m_R) (S' : m_S), r o S' ∧ m_W1 (m_lk l) call (fun o2 S2 => o2 = o ∧ S2 = S') pc lo st bd S := by
  have k := h (fun pc lo st bd S => ∃ z : {z : m_R × m_S // r z.1 z.2}, m_W1 (m_lk l) call (fun o2 S2 => o2 = z.1.1 ∧ S2 = z.1.2) pc lo st bd S) (fun pc lo st bd S kk hkk hop => by
    have h1 := hm pc call lo st bd S kk _ r (fun a b c d e h => hkk a b c d e h) hop
    have hr : r = (fun o S => ∃ z : {z : m_R × m_S // r z.1 z.2}, o = z.1.1 ∧ S = z.1.2) := by
      funext o S
      apply propext
      constructor
      · exact fun h => ⟨⟨(o, S), h⟩, rfl, rfl⟩
      · rintro ⟨⟨z, hz⟩, rfl, rfl⟩; exact hz
    have h2 := cast (congrArg (fun R => m_lk l pc call lo st bd S (fun pc lo st bd S => ∃ z : {z : m_R × m_S // r z.1 z.2}, m_W1 (m_lk l) call (fun o2 S2 => o2 = z.1.1 ∧ S2 = z.1.2) pc lo st bd S) R) hr) h1
    obtain ⟨z, hz⟩ := he pc _ call lo st bd S (fun (z : {z : m_R × m_S // r z.1 z.2}) => m_W1 (m_lk l) call (fun o2 S2 => o2 = z.1.1 ∧ S2 = z.1.2)) (fun (z : {z : m_R × m_S // r z.1 z.2}) o S => o = z.1.1 ∧ S = z.1.2) h2
    exact ⟨z, m_W1.step hz⟩)
  obtain ⟨z, hz⟩ := k
  exact ⟨z.1.1, z.1.2, z.2, hz⟩
theorem m_ex_lk : ∀ (l : List (Nat × m_Op)), (∀ q ∈ l, m_ex q.2) → ∀ pc, m_ex (m_lk l pc) := by
  intro l
  induction l with
  | nil => intro _ pc; exact ex_bad
  | cons a t ih =>
    intro h pc
    obtain ⟨h1, h2⟩ := List.forall_mem_cons.mp h
    show m_ex (if a.1 = pc then a.2 else m_lk t pc)
    split
    · exact h1
    · exact ih h2 pc
theorem m_xc {pc : Nat} {op : m_Op} {l : List (Nat × m_Op)} (h : m_ex op) (t : ∀ q ∈ l, m_ex q.2) : ∀ q ∈ (pc, op) :: l, m_ex q.2 := List.forall_mem_cons.mpr ⟨h, t⟩
theorem m_xn : ∀ q ∈ ([] : List (Nat × m_Op)), m_ex q.2 := fun _ h => nomatch h
