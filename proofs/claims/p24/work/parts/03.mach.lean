/-! THE SMALL MACHINE: cells and addresses of our own, one operation an instruction; a method's meaning is the least set closed under its operations. Address 0 is the script, 1 the empty row of a new list, 2 the class of rows of objects; cells lie from 3 on, in the order in which they are made. -/
abbrev m_C : Type := (Nat × Nat × (Nat → Int32)) ⊕ ((Nat × (Nat → Int64)) ⊕ ((Nat × Nat × (Nat → Option Nat)) ⊕ ((Nat × List Value) ⊕ Unit)))
def m_I (k n : Nat) (f : Nat → Int32) : m_C := Sum.inl (k, n, f)
def m_J (n : Nat) (f : Nat → Int64) : m_C := Sum.inr (Sum.inl (n, f))
def m_Q (k n : Nat) (f : Nat → Option Nat) : m_C := Sum.inr (Sum.inr (Sum.inl (k, n, f)))
def m_O (ci : Nat) (fs : List Value) : m_C := Sum.inr (Sum.inr (Sum.inr (Sum.inl (ci, fs))))
def m_N : m_C := Sum.inr (Sum.inr (Sum.inr (Sum.inr ())))
abbrev m_S : Type := Nat × (Nat → m_C)
abbrev m_R : Type := Option Value ⊕ String
abbrev m_L : Type := List (Option Value)
abbrev m_K : Type := Nat → m_L → List Value → Nat × Nat → m_S → Prop
abbrev m_call : Type := Nat → List Value → m_S → m_R → m_S → Prop
abbrev m_Op : Type := m_call → m_L → List Value → Nat × Nat → m_S → m_K → (m_R → m_S → Prop) → Prop
def m_gI (k : Nat) (c : m_C) : Option (Nat × (Nat → Int32)) := match c with
  | Sum.inl (k', n, f) => if k' = k then some (n, f) else none
  | _ => none
def m_gJ (c : m_C) : Option (Nat × (Nat → Int64)) := match c with
  | Sum.inr (Sum.inl (n, f)) => some (n, f)
  | _ => none
def m_gQ (k : Nat) (c : m_C) : Option (Nat × (Nat → Option Nat)) := match c with
  | Sum.inr (Sum.inr (Sum.inl (k', n, f))) => if k' = k then some (n, f) else none
  | _ => none
def m_gO (k : Nat) (c : m_C) : Option (List Value) := match c with
  | Sum.inr (Sum.inr (Sum.inr (Sum.inl (k', fs)))) => if k' = k then some fs else none
  | _ => none
theorem m_gI_I {k n : Nat} {f : Nat → Int32} : m_gI k (m_I k n f) = some (n, f) := by simp [m_gI, m_I]
theorem m_gJ_J {n : Nat} {f : Nat → Int64} : m_gJ (m_J n f) = some (n, f) := by simp [m_gJ, m_J]
theorem m_gQ_Q {k n : Nat} {f : Nat → Option Nat} : m_gQ k (m_Q k n f) = some (n, f) := by simp [m_gQ, m_Q]
theorem m_gO_O {k : Nat} {fs : List Value} : m_gO k (m_O k fs) = some fs := by simp [m_gO, m_O]
theorem m_gI_inv {k n : Nat} {f : Nat → Int32} {c : m_C} (h : m_gI k c = some (n, f)) : c = m_I k n f := by
  unfold m_gI at h
  split at h
  · split at h
    · cases h; subst_vars; rfl
    · cases h
  · cases h
theorem m_gJ_inv {n : Nat} {f : Nat → Int64} {c : m_C} (h : m_gJ c = some (n, f)) : c = m_J n f := by
  unfold m_gJ at h
  split at h
  · cases h; rfl
  · cases h
theorem m_gQ_inv {k n : Nat} {f : Nat → Option Nat} {c : m_C} (h : m_gQ k c = some (n, f)) : c = m_Q k n f := by
  unfold m_gQ at h
  split at h
  · split at h
    · cases h; subst_vars; rfl
    · cases h
  · cases h
theorem m_gO_inv {k : Nat} {fs : List Value} {c : m_C} (h : m_gO k c = some fs) : c = m_O k fs := by
  unfold m_gO at h
  split at h
  · split at h
    · cases h; subst_vars; rfl
    · cases h
  · cases h
def m_up (h : Nat → m_C) (a : Nat) (c : m_C) : Nat → m_C := fun b => if b = a then c else h b
theorem m_up_eq {h : Nat → m_C} {a : Nat} {c : m_C} : m_up h a c a = c := if_pos rfl
theorem m_up_ne {h : Nat → m_C} {a b : Nat} {c : m_C} (hb : b ≠ a) : m_up h a c b = h b := if_neg hb
-- operations
def o_iload (k nx : Nat) : m_Op := fun _ lo st bd S kk _ => match lo[k]? with
  | some (some (Value.int x)) => kk nx lo (.int x :: st) bd S
  | _ => False
def o_aload (k nx : Nat) : m_Op := fun _ lo st bd S kk _ => match lo[k]? with
  | some (some (Value.ref x)) => kk nx lo (.ref x :: st) bd S
  | _ => False
def o_const (v : Int32) (nx : Nat) : m_Op := fun _ lo st bd S kk _ => kk nx lo (.int v :: st) bd S
def o_lconst (v : Int64) (nx : Nat) : m_Op := fun _ lo st bd S kk _ => kk nx lo (.long v :: st) bd S
def o_istore (k nx : Nat) : m_Op := fun _ lo st bd S kk _ => match st with
  | Value.int x :: st => k < lo.length ∧ kk nx (lo.set k (some (.int x))) st bd S
  | _ => False
def o_astore (k nx : Nat) : m_Op := fun _ lo st bd S kk _ => match st with
  | Value.ref x :: st => k < lo.length ∧ kk nx (lo.set k (some (.ref x))) st bd S
  | _ => False
def o_iinc (k : Nat) (v : Int32) (nx : Nat) : m_Op := fun _ lo st bd S kk _ => match lo[k]? with
  | some (some (Value.int x)) => kk nx (lo.set k (some (.int (x + v)))) st bd S
  | _ => False
def o_dup (nx : Nat) : m_Op := fun _ lo st bd S kk _ => match st with
  | Value.int x :: st => kk nx lo (.int x :: .int x :: st) bd S
  | Value.ref x :: st => kk nx lo (.ref x :: .ref x :: st) bd S
  | _ => False
def o_dup2 (nx : Nat) : m_Op := fun _ lo st bd S kk _ => match st with
  | Value.int i :: Value.ref a :: st => kk nx lo (.int i :: .ref a :: .int i :: .ref a :: st) bd S
  | _ => False
def o_pop (nx : Nat) : m_Op := fun _ lo st bd S kk _ => match st with
  | Value.int _ :: st => kk nx lo st bd S
  | _ => False
def o_bin (f : Int32 → Int32 → Int32) (nx : Nat) : m_Op := fun _ lo st bd S kk _ => match st with
  | Value.int y :: Value.int x :: st => kk nx lo (.int (f x y) :: st) bd S
  | _ => False
def o_div (f : Int32 → Int32 → Int32) (nx : Nat) : m_Op := fun _ lo st bd S kk _ => match st with
  | Value.int y :: Value.int x :: st => ¬ y = 0 ∧ kk nx lo (.int (f x y) :: st) bd S
  | _ => False
def o_un (f : Int32 → Int32) (nx : Nat) : m_Op := fun _ lo st bd S kk _ => match st with
  | Value.int x :: st => kk nx lo (.int (f x) :: st) bd S
  | _ => False
def o_i2l (nx : Nat) : m_Op := fun _ lo st bd S kk _ => match st with
  | Value.int x :: st => kk nx lo (.long x.toInt64 :: st) bd S
  | _ => False
def o_lcmp (nx : Nat) : m_Op := fun _ lo st bd S kk _ => match st with
  | Value.long y :: Value.long x :: st => kk nx lo (.int (lg_cmp x y) :: st) bd S
  | _ => False
def o_ifeq (tg nx : Nat) : m_Op := fun _ lo st bd S kk _ => match st with
  | Value.int x :: st => (x = 0 → kk tg lo st bd S) ∧ (¬ x = 0 → kk nx lo st bd S)
  | _ => False
def o_ifne (tg nx : Nat) : m_Op := fun _ lo st bd S kk _ => match st with
  | Value.int x :: st => (x = 0 → kk nx lo st bd S) ∧ (¬ x = 0 → kk tg lo st bd S)
  | _ => False
def o_iflt (tg nx : Nat) : m_Op := fun _ lo st bd S kk _ => match st with
  | Value.int x :: st => (x < 0 → kk tg lo st bd S) ∧ (¬ x < 0 → kk nx lo st bd S)
  | _ => False
def o_ifge (tg nx : Nat) : m_Op := fun _ lo st bd S kk _ => match st with
  | Value.int x :: st => (x < 0 → kk nx lo st bd S) ∧ (¬ x < 0 → kk tg lo st bd S)
  | _ => False
def o_ifgt (tg nx : Nat) : m_Op := fun _ lo st bd S kk _ => match st with
  | Value.int x :: st => (0 < x → kk tg lo st bd S) ∧ (¬ 0 < x → kk nx lo st bd S)
  | _ => False
def o_ifle (tg nx : Nat) : m_Op := fun _ lo st bd S kk _ => match st with
  | Value.int x :: st => (0 < x → kk nx lo st bd S) ∧ (¬ 0 < x → kk tg lo st bd S)
  | _ => False
def o_icmpeq (tg nx : Nat) : m_Op := fun _ lo st bd S kk _ => match st with
  | Value.int y :: Value.int x :: st => (x = y → kk tg lo st bd S) ∧ (¬ x = y → kk nx lo st bd S)
  | _ => False
def o_icmpne (tg nx : Nat) : m_Op := fun _ lo st bd S kk _ => match st with
  | Value.int y :: Value.int x :: st => (x = y → kk nx lo st bd S) ∧ (¬ x = y → kk tg lo st bd S)
  | _ => False
def o_icmplt (tg nx : Nat) : m_Op := fun _ lo st bd S kk _ => match st with
  | Value.int y :: Value.int x :: st => (x < y → kk tg lo st bd S) ∧ (¬ x < y → kk nx lo st bd S)
  | _ => False
def o_icmpge (tg nx : Nat) : m_Op := fun _ lo st bd S kk _ => match st with
  | Value.int y :: Value.int x :: st => (x < y → kk nx lo st bd S) ∧ (¬ x < y → kk tg lo st bd S)
  | _ => False
def o_icmpgt (tg nx : Nat) : m_Op := fun _ lo st bd S kk _ => match st with
  | Value.int y :: Value.int x :: st => (y < x → kk tg lo st bd S) ∧ (¬ y < x → kk nx lo st bd S)
  | _ => False
def o_icmple (tg nx : Nat) : m_Op := fun _ lo st bd S kk _ => match st with
  | Value.int y :: Value.int x :: st => (y < x → kk nx lo st bd S) ∧ (¬ y < x → kk tg lo st bd S)
  | _ => False
def o_goto (tg : Nat) : m_Op := fun _ lo st bd S kk _ => kk tg lo st bd S
def o_getf (ci k nx : Nat) : m_Op := fun _ lo st bd S kk _ => match st with
  | Value.ref a :: st => match m_gO ci (S.2 a) with
    | some fs => match fs[k]? with
      | some v => kk nx lo (v :: st) bd S
      | none => False
    | none => False
  | _ => False
def o_puti (ci k nx : Nat) : m_Op := fun _ lo st bd S kk _ => match st with
  | Value.int x :: Value.ref a :: st => match m_gO ci (S.2 a) with
    | some fs => k < fs.length ∧ kk nx lo st bd (S.1, m_up S.2 a (m_O ci (fs.set k (.int x))))
    | none => False
  | _ => False
def o_putz (ci k nx : Nat) : m_Op := fun _ lo st bd S kk _ => match st with
  | Value.int x :: Value.ref a :: st => match m_gO ci (S.2 a) with
    | some fs => (x = 0 ∨ x = 1) ∧ k < fs.length ∧ kk nx lo st bd (S.1, m_up S.2 a (m_O ci (fs.set k (.int x))))
    | none => False
  | _ => False
def o_putr (ci k nx : Nat) : m_Op := fun _ lo st bd S kk _ => match st with
  | Value.ref x :: Value.ref a :: st => match m_gO ci (S.2 a) with
    | some fs => k < fs.length ∧ kk nx lo st bd (S.1, m_up S.2 a (m_O ci (fs.set k (.ref x))))
    | none => False
  | _ => False
def o_iald (k nx : Nat) : m_Op := fun _ lo st bd S kk _ => match st with
  | Value.int i :: Value.ref a :: st => match m_gI k (S.2 a) with
    | some (n, f) => vp_in i n ∧ kk nx lo (.int (f i.toNatClampNeg) :: st) bd S
    | none => False
  | _ => False
def o_iast (nx : Nat) : m_Op := fun _ lo st bd S kk _ => match st with
  | Value.int x :: Value.int i :: Value.ref a :: st => match m_gI 0 (S.2 a) with
    | some (n, f) => vp_in i n ∧ kk nx lo st bd (S.1, m_up S.2 a (m_I 0 n (upd f i.toNatClampNeg x)))
    | none => False
  | _ => False
def o_zast (nx : Nat) : m_Op := fun _ lo st bd S kk _ => match st with
  | Value.int x :: Value.int i :: Value.ref a :: st => match m_gI 1 (S.2 a) with
    | some (n, f) => (x = 0 ∨ x = 1) ∧ vp_in i n ∧ kk nx lo st bd (S.1, m_up S.2 a (m_I 1 n (upd f i.toNatClampNeg x)))
    | none => False
  | _ => False
def o_lald (nx : Nat) : m_Op := fun _ lo st bd S kk _ => match st with
  | Value.int i :: Value.ref a :: st => match m_gJ (S.2 a) with
    | some (n, f) => vp_in i n ∧ kk nx lo (.long (f i.toNatClampNeg) :: st) bd S
    | none => False
  | _ => False
def o_last (nx : Nat) : m_Op := fun _ lo st bd S kk _ => match st with
  | Value.long x :: Value.int i :: Value.ref a :: st => match m_gJ (S.2 a) with
    | some (n, f) => vp_in i n ∧ kk nx lo st bd (S.1, m_up S.2 a (m_J n (vp_updL f i.toNatClampNeg x)))
    | none => False
  | _ => False
def o_aald (k nx : Nat) : m_Op := fun _ lo st bd S kk _ => match st with
  | Value.int i :: Value.ref a :: st => match m_gQ k (S.2 a) with
    | some (n, f) => vp_in i n ∧ match f i.toNatClampNeg with
      | some q => kk nx lo (.ref q :: st) bd S
      | none => False
    | none => False
  | _ => False
def o_aast (k ci nx : Nat) : m_Op := fun _ lo st bd S kk _ => match st with
  | Value.ref v :: Value.int i :: Value.ref a :: st => match m_gQ k (S.2 a), m_gO ci (S.2 v) with
    | some (n, f), some _ => vp_in i n ∧ kk nx lo st bd (S.1, m_up S.2 a (m_Q k n (va_up f i.toNatClampNeg (some v))))
    | _, _ => False
  | _ => False
def o_alenq (k nx : Nat) : m_Op := fun _ lo st bd S kk _ => match st with
  | Value.ref a :: st => match m_gQ k (S.2 a) with
    | some (n, _) => kk nx lo (.int (Int32.ofNat n) :: st) bd S
    | none => False
  | _ => False
def o_new (ci N : Nat) (fs : List Value) (nx : Nat) : m_Op := fun _ lo st bd S kk _ => 1 ≤ bd.1 ∧ N ≤ bd.2 ∧ kk nx lo (.ref (S.1 + 3) :: st) (bd.1 - 1, bd.2 - N) (S.1 + 1, m_up S.2 (S.1 + 3) (m_O ci fs))
def o_newi (k N : Nat) (nx : Nat) : m_Op := fun _ lo st bd S kk _ => match st with
  | Value.int n :: st => n = Int32.ofNat N ∧ 1 ≤ bd.1 ∧ N ≤ bd.2 ∧ kk nx lo (.ref (S.1 + 3) :: st) (bd.1 - 1, bd.2 - N) (S.1 + 1, m_up S.2 (S.1 + 3) (m_I k N (fun _ => 0)))
  | _ => False
def o_newl (N : Nat) (nx : Nat) : m_Op := fun _ lo st bd S kk _ => match st with
  | Value.int n :: st => n = Int32.ofNat N ∧ 1 ≤ bd.1 ∧ N ≤ bd.2 ∧ kk nx lo (.ref (S.1 + 3) :: st) (bd.1 - 1, bd.2 - N) (S.1 + 1, m_up S.2 (S.1 + 3) (m_J N (fun _ => 0)))
  | _ => False
def o_newq (k N : Nat) (nx : Nat) : m_Op := fun _ lo st bd S kk _ => match st with
  | Value.int n :: st => n = Int32.ofNat N ∧ 1 ≤ bd.1 ∧ N ≤ bd.2 ∧ kk nx lo (.ref (S.1 + 3) :: st) (bd.1 - 1, bd.2 - N) (S.1 + 1, m_up S.2 (S.1 + 3) (m_Q k N (fun _ => none)))
  | _ => False
/-- new int[N][K] -/
def m_grid (h : Nat → m_C) (q N K : Nat) : Nat → m_C := fun b => if b = q then m_Q 3 N (fun i => if i < N then some (q + 1 + i) else none) else if q < b ∧ b < q + 1 + N then m_I 0 K (fun _ => 0) else h b
def o_mna (N K nx : Nat) : m_Op := fun _ lo st bd S kk _ => match st with
  | Value.int k :: Value.int n :: st => n = Int32.ofNat N ∧ k = Int32.ofNat K ∧ 1 + N ≤ bd.1 ∧ N + N * K ≤ bd.2 ∧ kk nx lo (.ref (S.1 + 3) :: st) (bd.1 - (1 + N), bd.2 - (N + N * K)) (S.1 + 1 + N, m_grid S.2 (S.1 + 3) N K)
  | _ => False
def o_copy (nx : Nat) : m_Op := fun _ lo st bd S kk _ => match st with
  | Value.int n :: Value.int dp :: Value.ref a :: Value.int sp :: Value.ref a0 :: st => match m_gI 0 (S.2 a0), m_gI 0 (S.2 a) with
    | some (n0, f), some (n1, g) => st.length ≤ 4 ∧ ¬ sp < 0 ∧ ¬ dp < 0 ∧ ¬ n < 0 ∧ sp.toNatClampNeg + n.toNatClampNeg ≤ n0 ∧ dp.toNatClampNeg + n.toNatClampNeg ≤ n1 ∧ kk nx lo st bd (S.1, m_up S.2 a (m_I 0 n1 (va_cpy f g sp.toNatClampNeg dp.toNatClampNeg n.toNatClampNeg)))
    | _, _ => False
  | _ => False
def o_drop (nx : Nat) : m_Op := fun _ lo st bd S kk _ => match st with
  | Value.ref _ :: st => st.length ≤ 4 ∧ kk nx lo st bd S
  | _ => False
def o_mbin (f : Int32 → Int32 → Int32) (nx : Nat) : m_Op := fun _ lo st bd S kk _ => match st with
  | Value.int y :: Value.int x :: st => st.length ≤ 4 ∧ kk nx lo (.int (f x y) :: st) bd S
  | _ => False
def o_mun (f : Int32 → Int32) (nx : Nat) : m_Op := fun _ lo st bd S kk _ => match st with
  | Value.int x :: st => st.length ≤ 4 ∧ kk nx lo (.int (f x) :: st) bd S
  | _ => False
def o_cast (ci nx : Nat) : m_Op := fun _ lo st bd S kk _ => match st with
  | Value.ref a :: st => match m_gO ci (S.2 a) with
    | some _ => kk nx lo (.ref a :: st) bd S
    | none => False
  | _ => False
def o_call (y n c1 c2 nx : Nat) : m_Op := fun call lo st bd S kk _ => n ≤ st.length ∧ st.length ≤ n + 4 ∧ c1 ≤ bd.1 ∧ c2 ≤ bd.2 ∧ ∃ (ov : Option Value) (S' : m_S), call y (st.take n).reverse S (.inl ov) S' ∧ kk nx lo (ov.toList ++ st.drop n) (bd.1 - c1, bd.2 - c2) S'
def m_cs (o : m_R) (a : Option Value → Prop) (b : String → Prop) : Prop := match o with
  | .inl ov => a ov
  | .inr E => b E
def o_callx (y n c1 c2 nx : Nat) : m_Op := fun call lo st bd S kk r => n ≤ st.length ∧ st.length ≤ n + 4 ∧ c1 ≤ bd.1 ∧ c2 ≤ bd.2 ∧ ∃ (o : m_R) (S' : m_S), call y (st.take n).reverse S o S' ∧ m_cs o (fun ov => kk nx lo (ov.toList ++ st.drop n) (bd.1 - c1, bd.2 - c2) S') (fun E => r (.inr E) S')
/-- the receiver is an object of this class -/
def m_rcv (ci : Nat) (args : List Value) (S : m_S) : Prop := match args with
  | Value.ref a :: _ => (m_gO ci (S.2 a)).isSome = true
  | _ => False
def o_callv (ci y n c1 c2 nx : Nat) : m_Op := fun call lo st bd S kk r => m_rcv ci (st.take n).reverse S ∧ o_call y n c1 c2 nx call lo st bd S kk r
def o_callvx (ci y n c1 c2 nx : Nat) : m_Op := fun call lo st bd S kk r => m_rcv ci (st.take n).reverse S ∧ o_callx y n c1 c2 nx call lo st bd S kk r
def m_hd (E : String) : List (String × Nat × Nat) → Option (Nat × Nat)
  | [] => none
  | (E', q) :: t => if E = E' then some q else m_hd E t
def o_callh (ci y n c1 c2 nx : Nat) (hs : List (String × Nat × Nat)) : m_Op := fun call lo st bd S kk _ => m_rcv ci (st.take n).reverse S ∧ n ≤ st.length ∧ st.length ≤ n + 4 ∧ c1 ≤ bd.1 ∧ c2 ≤ bd.2 ∧ ∃ (o : m_R) (S' : m_S), call y (st.take n).reverse S o S' ∧ m_cs o (fun ov => kk nx lo (ov.toList ++ st.drop n) (bd.1 - c1, bd.2 - c2) S') (fun E => match m_hd E hs with
    | some (tg, k) => kk tg (lo.set k none) [] (bd.1 - c1, bd.2 - c2) S'
    | none => False)
def o_ireturn : m_Op := fun _ _ st _ S _ r => match st with
  | [Value.int x] => r (.inl (some (.int x))) S
  | _ => False
def o_zreturn : m_Op := fun _ _ st _ S _ r => match st with
  | [Value.int x] => (x = 0 ∨ x = 1) ∧ r (.inl (some (.int x))) S
  | _ => False
def o_areturn : m_Op := fun _ _ st _ S _ r => match st with
  | [Value.ref x] => r (.inl (some (.ref x))) S
  | _ => False
def o_return : m_Op := fun _ _ st _ S _ r => match st with
  | [] => r (.inl none) S
  | _ => False
def o_throw (E : String) : m_Op := fun _ _ st bd S _ r => st.length ≤ 4 ∧ 1 ≤ bd.1 ∧ 6 ≤ bd.2 ∧ r (.inr E) S
def o_switch (f : Int32 → Option Nat) : m_Op := fun _ lo st bd S kk _ => match st with
  | Value.int x :: st => match f x with
    | some tg => kk tg lo st bd S
    | none => False
  | _ => False
/-- the script's length, and one of its ints -/
def o_slen (L nx : Nat) : m_Op := fun _ lo st bd S kk _ => match st with
  | Value.ref 0 :: st => kk nx lo (.int (Int32.ofNat L) :: st) bd S
  | _ => False
def o_sald (L : Nat) (xs : Nat → Int32) (nx : Nat) : m_Op := fun _ lo st bd S kk _ => match st with
  | Value.int i :: Value.ref 0 :: st => vp_in i L ∧ kk nx lo (.int (xs i.toNatClampNeg) :: st) bd S
  | _ => False
-- what lists need
def o_null (nx : Nat) : m_Op := fun _ lo st bd S kk _ => kk nx lo (.null :: st) bd S
def o_dupx1 (nx : Nat) : m_Op := fun _ lo st bd S kk _ => match st with
  | Value.ref x :: Value.ref y :: st => kk nx lo (.ref x :: .ref y :: .ref x :: st) bd S
  | _ => False
def m_apart (x y : Nat) : Prop := x ≠ y ∧ ((x = 1 ∧ 3 ≤ y) ∨ (y = 1 ∧ 3 ≤ x) ∨ (3 ≤ x ∧ 3 ≤ y))
def o_acmpeq (tg nx : Nat) : m_Op := fun _ lo st bd S kk _ => match st with
  | Value.ref y :: Value.ref x :: st => (x = y ∧ kk tg lo st bd S) ∨ (m_apart x y ∧ kk nx lo st bd S)
  | _ => False
def o_acmpne (tg nx : Nat) : m_Op := fun _ lo st bd S kk _ => match st with
  | Value.ref y :: Value.ref x :: st => (x = y ∧ kk nx lo st bd S) ∨ (m_apart x y ∧ kk tg lo st bd S)
  | _ => False
def o_de (nx : Nat) : m_Op := fun _ lo st bd S kk _ => kk nx lo (.ref 1 :: st) bd S
def o_alenO (nx : Nat) : m_Op := fun _ lo st bd S kk _ => match st with
  | Value.ref a :: st => (a = 1 ∧ kk nx lo (.int 0 :: st) bd S) ∨ match m_gQ 8 (S.2 a) with
    | some (n, _) => kk nx lo (.int (Int32.ofNat n) :: st) bd S
    | none => False
  | _ => False
def o_aastO (ci nx : Nat) : m_Op := fun _ lo st bd S kk _ => match st with
  | Value.ref v :: Value.int i :: Value.ref a :: st => match m_gQ 8 (S.2 a), m_gO ci (S.2 v) with
    | some (n, f), some _ => vp_in i n ∧ kk nx lo st bd (S.1, m_up S.2 a (m_Q 8 n (va_up f i.toNatClampNeg (some v))))
    | _, _ => False
  | _ => False
def o_getC (nx : Nat) : m_Op := fun _ lo st bd S kk _ => match st with
  | Value.ref a :: st => st.length ≤ 4 ∧ match m_gQ 8 (S.2 a) with
    | some _ => kk nx lo (.ref 2 :: st) bd S
    | none => False
  | _ => False
def o_ldcM (nx : Nat) : m_Op := fun _ lo st bd S kk _ => kk nx lo (.ref 2 :: st) bd S
def o_copyq (ci nx : Nat) : m_Op := fun _ lo st bd S kk _ => match st with
  | Value.int n :: Value.int dp :: Value.ref a :: Value.int sp :: Value.ref a0 :: st => match m_gQ 8 (S.2 a0), m_gQ 8 (S.2 a) with
    | some (n0, f), some (n1, g) => st.length ≤ 4 ∧ ¬ sp < 0 ∧ ¬ dp < 0 ∧ ¬ n < 0 ∧ sp.toNatClampNeg + n.toNatClampNeg ≤ n0 ∧ dp.toNatClampNeg + n.toNatClampNeg ≤ n1 ∧ (∀ i : Nat, i < n.toNatClampNeg → ∀ y : Nat, f (sp.toNatClampNeg + i) = some y → (m_gO ci (S.2 y)).isSome = true) ∧
      kk nx lo st bd (S.1, m_up S.2 a (m_Q 8 n1 (va_cpy f g sp.toNatClampNeg dp.toNatClampNeg n.toNatClampNeg)))
    | _, _ => False
  | _ => False
def o_newqd (k nx : Nat) : m_Op := fun _ lo st bd S kk _ => match st with
  | Value.int n :: st => ∃ N : Nat, n = Int32.ofNat N ∧ N ≤ 100000 ∧ 1 ≤ bd.1 ∧ N ≤ bd.2 ∧ kk nx lo (.ref (S.1 + 3) :: st) (bd.1 - 1, bd.2 - N) (S.1 + 1, m_up S.2 (S.1 + 3) (m_Q k N (fun _ => none)))
  | _ => False
-- longs among the locals
def m_nlg (lo : m_L) (k : Nat) : Prop := match k with
  | 0 => True
  | k + 1 => match lo[k]? with
    | some (some (Value.long _)) => False
    | some (some (Value.double _)) => False
    | _ => True
def o_lload (k nx : Nat) : m_Op := fun _ lo st bd S kk _ => match lo[k]? with
  | some (some (Value.long x)) => kk nx lo (.long x :: st) bd S
  | _ => False
def o_lstore (k nx : Nat) : m_Op := fun _ lo st bd S kk _ => match st with
  | Value.long x :: st => k + 1 < lo.length ∧ m_nlg lo k ∧ kk nx ((lo.set k (some (.long x))).set (k + 1) none) st bd S
  | _ => False
def o_istW (k nx : Nat) : m_Op := fun _ lo st bd S kk _ => match st with
  | Value.int x :: st => k < lo.length ∧ m_nlg lo k ∧ kk nx (lo.set k (some (.int x))) st bd S
  | _ => False
def o_astW (k nx : Nat) : m_Op := fun _ lo st bd S kk _ => match st with
  | Value.ref x :: st => k < lo.length ∧ m_nlg lo k ∧ kk nx (lo.set k (some (.ref x))) st bd S
  | _ => False
def o_iincW (k : Nat) (v : Int32) (nx : Nat) : m_Op := fun _ lo st bd S kk _ => match lo[k]? with
  | some (some (Value.int x)) => m_nlg lo k ∧ kk nx (lo.set k (some (.int (x + v)))) st bd S
  | _ => False
def o_lbin (f : Int64 → Int64 → Int64) (nx : Nat) : m_Op := fun _ lo st bd S kk _ => match st with
  | Value.long y :: Value.long x :: st => kk nx lo (.long (f x y) :: st) bd S
  | _ => False
def o_ldiv (f : Int64 → Int64 → Int64) (nx : Nat) : m_Op := fun _ lo st bd S kk _ => match st with
  | Value.long y :: Value.long x :: st => ¬ y = 0 ∧ kk nx lo (.long (f x y) :: st) bd S
  | _ => False
def o_bad : m_Op := fun _ _ _ _ _ _ _ => False
def m_lk : List (Nat × m_Op) → Nat → m_Op
  | [], _ => o_bad
  | (p, o) :: t, q => if p = q then o else m_lk t q
/-- a place of a method's code from which, by its operations, it comes to an end that r allows -/
def m_W1 (cd : Nat → m_Op) (call : m_call) (r : m_R → m_S → Prop) (pc : Nat) (lo : m_L) (st : List Value) (bd : Nat × Nat) (S : m_S) : Prop :=
  ∀ P : m_K, (∀ (pc : Nat) (lo : m_L) (st : List Value) (bd : Nat × Nat) (S : m_S) (kk : m_K), (∀ pc lo st bd S, kk pc lo st bd S → P pc lo st bd S) → cd pc call lo st bd S kk r → P pc lo st bd S) → P pc lo st bd S
theorem m_W1.step {cd : Nat → m_Op} {call : m_call} {r : m_R → m_S → Prop} {pc : Nat} {lo : m_L} {st : List Value} {bd : Nat × Nat} {S : m_S} (h : cd pc call lo st bd S (m_W1 cd call r) r) : m_W1 cd call r pc lo st bd S :=
  fun P hP => hP pc lo st bd S (m_W1 cd call r) (fun _ _ _ _ _ h1 => h1 P hP) h
def m_ent (n : Nat) (args : List Value) : m_L := args.map some ++ List.replicate (n - args.length) none
