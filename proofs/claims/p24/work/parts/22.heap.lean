/-! THE NORMAL FORM OF THE HEAP: the cells that both constructors make lie at fixed addresses; ar: the contents of int rows and the number fields of objects, by address; rq: rows of references; ou: the law's own long; dy: what is made later (from 98 on), and the list (78) -/
def m_sht : List (Nat × Nat × Nat) := [(0, 0, 0), (0, 0, 0), (0, 0, 0), (5, 0, 0), (4, 0, 0), (3, 4, 10), (1, 1, 10), (2, 0, 10), (1, 0, 6), (1, 0, 6), (1, 0, 6), (1, 0, 6), (1, 0, 6), (1, 0, 6), (1, 0, 6), (1, 0, 6), (1, 0, 6), (1, 0, 6), (3, 5, 10), (1, 0, 10), (1, 0, 10), (2, 0, 6), (1, 0, 6), (1, 0, 6), (1, 0, 6), (1, 0, 6), (1, 0, 6), (1, 0, 6), (2, 0, 10), (1, 0, 6), (1, 0, 6), (1, 0, 6), (1, 0, 6), (1, 0, 6), (1, 0, 6), (1, 0, 6), (1, 0, 6), (1, 0, 6), (1, 0, 6), (1, 0, 10), (4, 0, 0), (3, 4, 10), (1, 1, 10), (2, 0, 10), (1, 0, 6), (1, 0, 6), (1, 0, 6), (1, 0, 6), (1, 0, 6), (1, 0, 6), (1, 0, 6), (1, 0, 6), (1, 0, 6), (1, 0, 6), (3, 5, 10), (1, 0, 10), (1, 0, 10), (2, 0, 6), (1, 0, 6), (1, 0, 6), (1, 0, 6), (1, 0, 6), (1, 0, 6), (1, 0, 6), (2, 0, 10), (1, 0, 6), (1, 0, 6), (1, 0, 6), (1, 0, 6), (1, 0, 6), (1, 0, 6), (1, 0, 6), (1, 0, 6), (1, 0, 6), (1, 0, 6), (1, 0, 10), (3, 6, 16), (3, 7, 3), (0, 0, 0), (2, 0, 6), (1, 0, 6), (1, 0, 6), (1, 0, 6), (1, 0, 6), (1, 0, 6), (1, 0, 6), (2, 0, 6), (1, 0, 6), (1, 0, 6), (1, 0, 6), (1, 0, 6), (1, 0, 6), (1, 0, 6), (1, 0, 6), (1, 0, 5), (1, 0, 56), (1, 0, 40), (1, 0, 1)]
def m_shp (a : Nat) : Nat × Nat × Nat := (m_sht[a]?).getD (0, 0, 0)
def m_fN (a : Nat) (s : Nat → Int32) : List Value := [.ref (a + 1), .ref (a + 2), .ref (a + 3), .ref (a + 14), .ref (a + 15), .ref (a + 16), .ref (a + 17), .int (s 7), .int (s 8), .ref (a + 24), .ref (a + 35), .int (s 11), .int (s 12), .int (s 13), .int (s 14), .int (s 15)]
def m_fC (s : Nat → Int32) : List Value := [.ref 4, .ref 40, .ref 76, .ref 77, .ref 78, .ref 79, .ref 86, .ref 93, .int (s 8), .int (s 9), .int (s 10), .int (s 11), .int (s 12), .int (s 13), .int (s 14)]
def m_hpc (ar : Nat → Nat → Int32) (rq : Nat → Nat → Option Nat) (ou : Nat → Int64) (dy : Nat → m_C) (a k n : Nat) : Nat → m_C
  | 1 => m_I k n (ar a)
  | 2 => m_Q 3 n (fun i => if i < n then some (a + 1 + i) else none)
  | 3 => m_Q k n (rq a)
  | 4 => m_O 4 (m_fN a (ar a))
  | 5 => m_O 7 (m_fC (ar a))
  | 7 => m_J 1 ou
  | _ => dy a
def m_hp (ar : Nat → Nat → Int32) (rq : Nat → Nat → Option Nat) (ou : Nat → Int64) (dy : Nat → m_C) (a : Nat) : m_C := m_hpc ar rq ou dy a (m_shp a).2.1 (m_shp a).2.2 (m_shp a).1
def m_uf {α : Type} (f : Nat → α) (a : Nat) (v : α) : Nat → α := fun b => if b = a then v else f b
theorem m_uf_eq {α : Type} {f : Nat → α} {a : Nat} {v : α} : m_uf f a v a = v := if_pos rfl
theorem m_uf_ne {α : Type} {f : Nat → α} {a b : Nat} {v : α} (h : b ≠ a) : m_uf f a v b = f b := if_neg h
theorem m_fN_len {a : Nat} {s : Nat → Int32} : (m_fN a s).length = 16 := rfl
theorem m_fN_0 {a : Nat} {s : Nat → Int32} : (m_fN a s)[0]? = some (.ref (a + 1)) := rfl
theorem m_fN_1 {a : Nat} {s : Nat → Int32} : (m_fN a s)[1]? = some (.ref (a + 2)) := rfl
theorem m_fN_2 {a : Nat} {s : Nat → Int32} : (m_fN a s)[2]? = some (.ref (a + 3)) := rfl
theorem m_fN_3 {a : Nat} {s : Nat → Int32} : (m_fN a s)[3]? = some (.ref (a + 14)) := rfl
theorem m_fN_4 {a : Nat} {s : Nat → Int32} : (m_fN a s)[4]? = some (.ref (a + 15)) := rfl
theorem m_fN_5 {a : Nat} {s : Nat → Int32} : (m_fN a s)[5]? = some (.ref (a + 16)) := rfl
theorem m_fN_6 {a : Nat} {s : Nat → Int32} : (m_fN a s)[6]? = some (.ref (a + 17)) := rfl
theorem m_fN_7 {a : Nat} {s : Nat → Int32} : (m_fN a s)[7]? = some (.int (s 7)) := rfl
theorem m_fN_s7 {a : Nat} {s : Nat → Int32} {x : Int32} : (m_fN a s).set 7 (.int x) = m_fN a (m_uf s 7 x) := by simp [m_fN, m_uf]
theorem m_fN_8 {a : Nat} {s : Nat → Int32} : (m_fN a s)[8]? = some (.int (s 8)) := rfl
theorem m_fN_s8 {a : Nat} {s : Nat → Int32} {x : Int32} : (m_fN a s).set 8 (.int x) = m_fN a (m_uf s 8 x) := by simp [m_fN, m_uf]
theorem m_fN_9 {a : Nat} {s : Nat → Int32} : (m_fN a s)[9]? = some (.ref (a + 24)) := rfl
theorem m_fN_10 {a : Nat} {s : Nat → Int32} : (m_fN a s)[10]? = some (.ref (a + 35)) := rfl
theorem m_fN_11 {a : Nat} {s : Nat → Int32} : (m_fN a s)[11]? = some (.int (s 11)) := rfl
theorem m_fN_s11 {a : Nat} {s : Nat → Int32} {x : Int32} : (m_fN a s).set 11 (.int x) = m_fN a (m_uf s 11 x) := by simp [m_fN, m_uf]
theorem m_fN_12 {a : Nat} {s : Nat → Int32} : (m_fN a s)[12]? = some (.int (s 12)) := rfl
theorem m_fN_s12 {a : Nat} {s : Nat → Int32} {x : Int32} : (m_fN a s).set 12 (.int x) = m_fN a (m_uf s 12 x) := by simp [m_fN, m_uf]
theorem m_fN_13 {a : Nat} {s : Nat → Int32} : (m_fN a s)[13]? = some (.int (s 13)) := rfl
theorem m_fN_s13 {a : Nat} {s : Nat → Int32} {x : Int32} : (m_fN a s).set 13 (.int x) = m_fN a (m_uf s 13 x) := by simp [m_fN, m_uf]
theorem m_fN_14 {a : Nat} {s : Nat → Int32} : (m_fN a s)[14]? = some (.int (s 14)) := rfl
theorem m_fN_s14 {a : Nat} {s : Nat → Int32} {x : Int32} : (m_fN a s).set 14 (.int x) = m_fN a (m_uf s 14 x) := by simp [m_fN, m_uf]
theorem m_fN_15 {a : Nat} {s : Nat → Int32} : (m_fN a s)[15]? = some (.int (s 15)) := rfl
theorem m_fN_s15 {a : Nat} {s : Nat → Int32} {x : Int32} : (m_fN a s).set 15 (.int x) = m_fN a (m_uf s 15 x) := by simp [m_fN, m_uf]
theorem m_fC_len {s : Nat → Int32} : (m_fC s).length = 15 := rfl
theorem m_fC_0 {s : Nat → Int32} : (m_fC s)[0]? = some (.ref 4) := rfl
theorem m_fC_1 {s : Nat → Int32} : (m_fC s)[1]? = some (.ref 40) := rfl
theorem m_fC_2 {s : Nat → Int32} : (m_fC s)[2]? = some (.ref 76) := rfl
theorem m_fC_3 {s : Nat → Int32} : (m_fC s)[3]? = some (.ref 77) := rfl
theorem m_fC_4 {s : Nat → Int32} : (m_fC s)[4]? = some (.ref 78) := rfl
theorem m_fC_5 {s : Nat → Int32} : (m_fC s)[5]? = some (.ref 79) := rfl
theorem m_fC_6 {s : Nat → Int32} : (m_fC s)[6]? = some (.ref 86) := rfl
theorem m_fC_7 {s : Nat → Int32} : (m_fC s)[7]? = some (.ref 93) := rfl
theorem m_fC_8 {s : Nat → Int32} : (m_fC s)[8]? = some (.int (s 8)) := rfl
theorem m_fC_s8 {s : Nat → Int32} {x : Int32} : (m_fC s).set 8 (.int x) = m_fC (m_uf s 8 x) := by simp [m_fC, m_uf]
theorem m_fC_9 {s : Nat → Int32} : (m_fC s)[9]? = some (.int (s 9)) := rfl
theorem m_fC_s9 {s : Nat → Int32} {x : Int32} : (m_fC s).set 9 (.int x) = m_fC (m_uf s 9 x) := by simp [m_fC, m_uf]
theorem m_fC_10 {s : Nat → Int32} : (m_fC s)[10]? = some (.int (s 10)) := rfl
theorem m_fC_s10 {s : Nat → Int32} {x : Int32} : (m_fC s).set 10 (.int x) = m_fC (m_uf s 10 x) := by simp [m_fC, m_uf]
theorem m_fC_11 {s : Nat → Int32} : (m_fC s)[11]? = some (.int (s 11)) := rfl
theorem m_fC_s11 {s : Nat → Int32} {x : Int32} : (m_fC s).set 11 (.int x) = m_fC (m_uf s 11 x) := by simp [m_fC, m_uf]
theorem m_fC_12 {s : Nat → Int32} : (m_fC s)[12]? = some (.int (s 12)) := rfl
theorem m_fC_s12 {s : Nat → Int32} {x : Int32} : (m_fC s).set 12 (.int x) = m_fC (m_uf s 12 x) := by simp [m_fC, m_uf]
theorem m_fC_13 {s : Nat → Int32} : (m_fC s)[13]? = some (.int (s 13)) := rfl
theorem m_fC_s13 {s : Nat → Int32} {x : Int32} : (m_fC s).set 13 (.int x) = m_fC (m_uf s 13 x) := by simp [m_fC, m_uf]
theorem m_fC_14 {s : Nat → Int32} : (m_fC s)[14]? = some (.int (s 14)) := rfl
theorem m_fC_s14 {s : Nat → Int32} {x : Int32} : (m_fC s).set 14 (.int x) = m_fC (m_uf s 14 x) := by simp [m_fC, m_uf]
theorem m_hp_I {ar : Nat → Nat → Int32} {rq : Nat → Nat → Option Nat} {ou : Nat → Int64} {dy : Nat → m_C} {a k n : Nat} (h : m_shp a = (1, k, n)) : m_hp ar rq ou dy a = m_I k n (ar a) := by unfold m_hp; rw [h]; rfl
theorem m_hp_G {ar : Nat → Nat → Int32} {rq : Nat → Nat → Option Nat} {ou : Nat → Int64} {dy : Nat → m_C} {a k n : Nat} (h : m_shp a = (2, k, n)) : m_hp ar rq ou dy a = m_Q 3 n (fun i => if i < n then some (a + 1 + i) else none) := by unfold m_hp; rw [h]; rfl
theorem m_hp_Q {ar : Nat → Nat → Int32} {rq : Nat → Nat → Option Nat} {ou : Nat → Int64} {dy : Nat → m_C} {a k n : Nat} (h : m_shp a = (3, k, n)) : m_hp ar rq ou dy a = m_Q k n (rq a) := by unfold m_hp; rw [h]; rfl
theorem m_shp_dy {a : Nat} (h : 98 ≤ a) : m_shp a = (0, 0, 0) := by unfold m_shp; rw [List.getElem?_eq_none (by show 98 ≤ a; exact h)]; rfl
theorem m_hp_dy {ar : Nat → Nat → Int32} {rq : Nat → Nat → Option Nat} {ou : Nat → Int64} {dy : Nat → m_C} {a : Nat} (h : 98 ≤ a) : m_hp ar rq ou dy a = dy a := by unfold m_hp; rw [m_shp_dy h]; rfl
theorem m_hp_78 {ar : Nat → Nat → Int32} {rq : Nat → Nat → Option Nat} {ou : Nat → Int64} {dy : Nat → m_C} : m_hp ar rq ou dy 78 = dy 78 := rfl
theorem m_hp_3 {ar : Nat → Nat → Int32} {rq : Nat → Nat → Option Nat} {ou : Nat → Int64} {dy : Nat → m_C} : m_hp ar rq ou dy 3 = m_O 7 (m_fC (ar 3)) := rfl
theorem m_hp_N {ar : Nat → Nat → Int32} {rq : Nat → Nat → Option Nat} {ou : Nat → Int64} {dy : Nat → m_C} {B : Nat} (h : B = 4 ∨ B = 40) : m_hp ar rq ou dy B = m_O 4 (m_fN B (ar B)) := by rcases h with rfl | rfl <;> rfl
theorem m_hp_5 {ar : Nat → Nat → Int32} {rq : Nat → Nat → Option Nat} {ou : Nat → Int64} {dy : Nat → m_C} : m_hp ar rq ou dy 5 = m_Q 4 10 (rq 5) := rfl
theorem m_hp_6 {ar : Nat → Nat → Int32} {rq : Nat → Nat → Option Nat} {ou : Nat → Int64} {dy : Nat → m_C} : m_hp ar rq ou dy 6 = m_I 1 10 (ar 6) := rfl
theorem m_hp_7 {ar : Nat → Nat → Int32} {rq : Nat → Nat → Option Nat} {ou : Nat → Int64} {dy : Nat → m_C} : m_hp ar rq ou dy 7 = m_Q 3 10 (fun i => if i < 10 then some (7 + 1 + i) else none) := rfl
theorem m_hp_8 {ar : Nat → Nat → Int32} {rq : Nat → Nat → Option Nat} {ou : Nat → Int64} {dy : Nat → m_C} : m_hp ar rq ou dy 8 = m_I 0 6 (ar 8) := rfl
theorem m_hp_9 {ar : Nat → Nat → Int32} {rq : Nat → Nat → Option Nat} {ou : Nat → Int64} {dy : Nat → m_C} : m_hp ar rq ou dy 9 = m_I 0 6 (ar 9) := rfl
theorem m_hp_10 {ar : Nat → Nat → Int32} {rq : Nat → Nat → Option Nat} {ou : Nat → Int64} {dy : Nat → m_C} : m_hp ar rq ou dy 10 = m_I 0 6 (ar 10) := rfl
theorem m_hp_11 {ar : Nat → Nat → Int32} {rq : Nat → Nat → Option Nat} {ou : Nat → Int64} {dy : Nat → m_C} : m_hp ar rq ou dy 11 = m_I 0 6 (ar 11) := rfl
theorem m_hp_12 {ar : Nat → Nat → Int32} {rq : Nat → Nat → Option Nat} {ou : Nat → Int64} {dy : Nat → m_C} : m_hp ar rq ou dy 12 = m_I 0 6 (ar 12) := rfl
theorem m_hp_13 {ar : Nat → Nat → Int32} {rq : Nat → Nat → Option Nat} {ou : Nat → Int64} {dy : Nat → m_C} : m_hp ar rq ou dy 13 = m_I 0 6 (ar 13) := rfl
theorem m_hp_14 {ar : Nat → Nat → Int32} {rq : Nat → Nat → Option Nat} {ou : Nat → Int64} {dy : Nat → m_C} : m_hp ar rq ou dy 14 = m_I 0 6 (ar 14) := rfl
theorem m_hp_15 {ar : Nat → Nat → Int32} {rq : Nat → Nat → Option Nat} {ou : Nat → Int64} {dy : Nat → m_C} : m_hp ar rq ou dy 15 = m_I 0 6 (ar 15) := rfl
theorem m_hp_16 {ar : Nat → Nat → Int32} {rq : Nat → Nat → Option Nat} {ou : Nat → Int64} {dy : Nat → m_C} : m_hp ar rq ou dy 16 = m_I 0 6 (ar 16) := rfl
theorem m_hp_17 {ar : Nat → Nat → Int32} {rq : Nat → Nat → Option Nat} {ou : Nat → Int64} {dy : Nat → m_C} : m_hp ar rq ou dy 17 = m_I 0 6 (ar 17) := rfl
theorem m_hp_18 {ar : Nat → Nat → Int32} {rq : Nat → Nat → Option Nat} {ou : Nat → Int64} {dy : Nat → m_C} : m_hp ar rq ou dy 18 = m_Q 5 10 (rq 18) := rfl
theorem m_hp_19 {ar : Nat → Nat → Int32} {rq : Nat → Nat → Option Nat} {ou : Nat → Int64} {dy : Nat → m_C} : m_hp ar rq ou dy 19 = m_I 0 10 (ar 19) := rfl
theorem m_hp_20 {ar : Nat → Nat → Int32} {rq : Nat → Nat → Option Nat} {ou : Nat → Int64} {dy : Nat → m_C} : m_hp ar rq ou dy 20 = m_I 0 10 (ar 20) := rfl
theorem m_hp_21 {ar : Nat → Nat → Int32} {rq : Nat → Nat → Option Nat} {ou : Nat → Int64} {dy : Nat → m_C} : m_hp ar rq ou dy 21 = m_Q 3 6 (fun i => if i < 6 then some (21 + 1 + i) else none) := rfl
theorem m_hp_22 {ar : Nat → Nat → Int32} {rq : Nat → Nat → Option Nat} {ou : Nat → Int64} {dy : Nat → m_C} : m_hp ar rq ou dy 22 = m_I 0 6 (ar 22) := rfl
theorem m_hp_23 {ar : Nat → Nat → Int32} {rq : Nat → Nat → Option Nat} {ou : Nat → Int64} {dy : Nat → m_C} : m_hp ar rq ou dy 23 = m_I 0 6 (ar 23) := rfl
theorem m_hp_24 {ar : Nat → Nat → Int32} {rq : Nat → Nat → Option Nat} {ou : Nat → Int64} {dy : Nat → m_C} : m_hp ar rq ou dy 24 = m_I 0 6 (ar 24) := rfl
theorem m_hp_25 {ar : Nat → Nat → Int32} {rq : Nat → Nat → Option Nat} {ou : Nat → Int64} {dy : Nat → m_C} : m_hp ar rq ou dy 25 = m_I 0 6 (ar 25) := rfl
theorem m_hp_26 {ar : Nat → Nat → Int32} {rq : Nat → Nat → Option Nat} {ou : Nat → Int64} {dy : Nat → m_C} : m_hp ar rq ou dy 26 = m_I 0 6 (ar 26) := rfl
theorem m_hp_27 {ar : Nat → Nat → Int32} {rq : Nat → Nat → Option Nat} {ou : Nat → Int64} {dy : Nat → m_C} : m_hp ar rq ou dy 27 = m_I 0 6 (ar 27) := rfl
theorem m_hp_28 {ar : Nat → Nat → Int32} {rq : Nat → Nat → Option Nat} {ou : Nat → Int64} {dy : Nat → m_C} : m_hp ar rq ou dy 28 = m_Q 3 10 (fun i => if i < 10 then some (28 + 1 + i) else none) := rfl
theorem m_hp_29 {ar : Nat → Nat → Int32} {rq : Nat → Nat → Option Nat} {ou : Nat → Int64} {dy : Nat → m_C} : m_hp ar rq ou dy 29 = m_I 0 6 (ar 29) := rfl
theorem m_hp_30 {ar : Nat → Nat → Int32} {rq : Nat → Nat → Option Nat} {ou : Nat → Int64} {dy : Nat → m_C} : m_hp ar rq ou dy 30 = m_I 0 6 (ar 30) := rfl
theorem m_hp_31 {ar : Nat → Nat → Int32} {rq : Nat → Nat → Option Nat} {ou : Nat → Int64} {dy : Nat → m_C} : m_hp ar rq ou dy 31 = m_I 0 6 (ar 31) := rfl
theorem m_hp_32 {ar : Nat → Nat → Int32} {rq : Nat → Nat → Option Nat} {ou : Nat → Int64} {dy : Nat → m_C} : m_hp ar rq ou dy 32 = m_I 0 6 (ar 32) := rfl
theorem m_hp_33 {ar : Nat → Nat → Int32} {rq : Nat → Nat → Option Nat} {ou : Nat → Int64} {dy : Nat → m_C} : m_hp ar rq ou dy 33 = m_I 0 6 (ar 33) := rfl
theorem m_hp_34 {ar : Nat → Nat → Int32} {rq : Nat → Nat → Option Nat} {ou : Nat → Int64} {dy : Nat → m_C} : m_hp ar rq ou dy 34 = m_I 0 6 (ar 34) := rfl
theorem m_hp_35 {ar : Nat → Nat → Int32} {rq : Nat → Nat → Option Nat} {ou : Nat → Int64} {dy : Nat → m_C} : m_hp ar rq ou dy 35 = m_I 0 6 (ar 35) := rfl
theorem m_hp_36 {ar : Nat → Nat → Int32} {rq : Nat → Nat → Option Nat} {ou : Nat → Int64} {dy : Nat → m_C} : m_hp ar rq ou dy 36 = m_I 0 6 (ar 36) := rfl
theorem m_hp_37 {ar : Nat → Nat → Int32} {rq : Nat → Nat → Option Nat} {ou : Nat → Int64} {dy : Nat → m_C} : m_hp ar rq ou dy 37 = m_I 0 6 (ar 37) := rfl
theorem m_hp_38 {ar : Nat → Nat → Int32} {rq : Nat → Nat → Option Nat} {ou : Nat → Int64} {dy : Nat → m_C} : m_hp ar rq ou dy 38 = m_I 0 6 (ar 38) := rfl
theorem m_hp_39 {ar : Nat → Nat → Int32} {rq : Nat → Nat → Option Nat} {ou : Nat → Int64} {dy : Nat → m_C} : m_hp ar rq ou dy 39 = m_I 0 10 (ar 39) := rfl
theorem m_hp_41 {ar : Nat → Nat → Int32} {rq : Nat → Nat → Option Nat} {ou : Nat → Int64} {dy : Nat → m_C} : m_hp ar rq ou dy 41 = m_Q 4 10 (rq 41) := rfl
theorem m_hp_42 {ar : Nat → Nat → Int32} {rq : Nat → Nat → Option Nat} {ou : Nat → Int64} {dy : Nat → m_C} : m_hp ar rq ou dy 42 = m_I 1 10 (ar 42) := rfl
theorem m_hp_43 {ar : Nat → Nat → Int32} {rq : Nat → Nat → Option Nat} {ou : Nat → Int64} {dy : Nat → m_C} : m_hp ar rq ou dy 43 = m_Q 3 10 (fun i => if i < 10 then some (43 + 1 + i) else none) := rfl
theorem m_hp_44 {ar : Nat → Nat → Int32} {rq : Nat → Nat → Option Nat} {ou : Nat → Int64} {dy : Nat → m_C} : m_hp ar rq ou dy 44 = m_I 0 6 (ar 44) := rfl
theorem m_hp_45 {ar : Nat → Nat → Int32} {rq : Nat → Nat → Option Nat} {ou : Nat → Int64} {dy : Nat → m_C} : m_hp ar rq ou dy 45 = m_I 0 6 (ar 45) := rfl
theorem m_hp_46 {ar : Nat → Nat → Int32} {rq : Nat → Nat → Option Nat} {ou : Nat → Int64} {dy : Nat → m_C} : m_hp ar rq ou dy 46 = m_I 0 6 (ar 46) := rfl
theorem m_hp_47 {ar : Nat → Nat → Int32} {rq : Nat → Nat → Option Nat} {ou : Nat → Int64} {dy : Nat → m_C} : m_hp ar rq ou dy 47 = m_I 0 6 (ar 47) := rfl
theorem m_hp_48 {ar : Nat → Nat → Int32} {rq : Nat → Nat → Option Nat} {ou : Nat → Int64} {dy : Nat → m_C} : m_hp ar rq ou dy 48 = m_I 0 6 (ar 48) := rfl
theorem m_hp_49 {ar : Nat → Nat → Int32} {rq : Nat → Nat → Option Nat} {ou : Nat → Int64} {dy : Nat → m_C} : m_hp ar rq ou dy 49 = m_I 0 6 (ar 49) := rfl
theorem m_hp_50 {ar : Nat → Nat → Int32} {rq : Nat → Nat → Option Nat} {ou : Nat → Int64} {dy : Nat → m_C} : m_hp ar rq ou dy 50 = m_I 0 6 (ar 50) := rfl
theorem m_hp_51 {ar : Nat → Nat → Int32} {rq : Nat → Nat → Option Nat} {ou : Nat → Int64} {dy : Nat → m_C} : m_hp ar rq ou dy 51 = m_I 0 6 (ar 51) := rfl
theorem m_hp_52 {ar : Nat → Nat → Int32} {rq : Nat → Nat → Option Nat} {ou : Nat → Int64} {dy : Nat → m_C} : m_hp ar rq ou dy 52 = m_I 0 6 (ar 52) := rfl
theorem m_hp_53 {ar : Nat → Nat → Int32} {rq : Nat → Nat → Option Nat} {ou : Nat → Int64} {dy : Nat → m_C} : m_hp ar rq ou dy 53 = m_I 0 6 (ar 53) := rfl
theorem m_hp_54 {ar : Nat → Nat → Int32} {rq : Nat → Nat → Option Nat} {ou : Nat → Int64} {dy : Nat → m_C} : m_hp ar rq ou dy 54 = m_Q 5 10 (rq 54) := rfl
theorem m_hp_55 {ar : Nat → Nat → Int32} {rq : Nat → Nat → Option Nat} {ou : Nat → Int64} {dy : Nat → m_C} : m_hp ar rq ou dy 55 = m_I 0 10 (ar 55) := rfl
theorem m_hp_56 {ar : Nat → Nat → Int32} {rq : Nat → Nat → Option Nat} {ou : Nat → Int64} {dy : Nat → m_C} : m_hp ar rq ou dy 56 = m_I 0 10 (ar 56) := rfl
theorem m_hp_57 {ar : Nat → Nat → Int32} {rq : Nat → Nat → Option Nat} {ou : Nat → Int64} {dy : Nat → m_C} : m_hp ar rq ou dy 57 = m_Q 3 6 (fun i => if i < 6 then some (57 + 1 + i) else none) := rfl
theorem m_hp_58 {ar : Nat → Nat → Int32} {rq : Nat → Nat → Option Nat} {ou : Nat → Int64} {dy : Nat → m_C} : m_hp ar rq ou dy 58 = m_I 0 6 (ar 58) := rfl
theorem m_hp_59 {ar : Nat → Nat → Int32} {rq : Nat → Nat → Option Nat} {ou : Nat → Int64} {dy : Nat → m_C} : m_hp ar rq ou dy 59 = m_I 0 6 (ar 59) := rfl
theorem m_hp_60 {ar : Nat → Nat → Int32} {rq : Nat → Nat → Option Nat} {ou : Nat → Int64} {dy : Nat → m_C} : m_hp ar rq ou dy 60 = m_I 0 6 (ar 60) := rfl
theorem m_hp_61 {ar : Nat → Nat → Int32} {rq : Nat → Nat → Option Nat} {ou : Nat → Int64} {dy : Nat → m_C} : m_hp ar rq ou dy 61 = m_I 0 6 (ar 61) := rfl
theorem m_hp_62 {ar : Nat → Nat → Int32} {rq : Nat → Nat → Option Nat} {ou : Nat → Int64} {dy : Nat → m_C} : m_hp ar rq ou dy 62 = m_I 0 6 (ar 62) := rfl
theorem m_hp_63 {ar : Nat → Nat → Int32} {rq : Nat → Nat → Option Nat} {ou : Nat → Int64} {dy : Nat → m_C} : m_hp ar rq ou dy 63 = m_I 0 6 (ar 63) := rfl
theorem m_hp_64 {ar : Nat → Nat → Int32} {rq : Nat → Nat → Option Nat} {ou : Nat → Int64} {dy : Nat → m_C} : m_hp ar rq ou dy 64 = m_Q 3 10 (fun i => if i < 10 then some (64 + 1 + i) else none) := rfl
theorem m_hp_65 {ar : Nat → Nat → Int32} {rq : Nat → Nat → Option Nat} {ou : Nat → Int64} {dy : Nat → m_C} : m_hp ar rq ou dy 65 = m_I 0 6 (ar 65) := rfl
theorem m_hp_66 {ar : Nat → Nat → Int32} {rq : Nat → Nat → Option Nat} {ou : Nat → Int64} {dy : Nat → m_C} : m_hp ar rq ou dy 66 = m_I 0 6 (ar 66) := rfl
theorem m_hp_67 {ar : Nat → Nat → Int32} {rq : Nat → Nat → Option Nat} {ou : Nat → Int64} {dy : Nat → m_C} : m_hp ar rq ou dy 67 = m_I 0 6 (ar 67) := rfl
theorem m_hp_68 {ar : Nat → Nat → Int32} {rq : Nat → Nat → Option Nat} {ou : Nat → Int64} {dy : Nat → m_C} : m_hp ar rq ou dy 68 = m_I 0 6 (ar 68) := rfl
theorem m_hp_69 {ar : Nat → Nat → Int32} {rq : Nat → Nat → Option Nat} {ou : Nat → Int64} {dy : Nat → m_C} : m_hp ar rq ou dy 69 = m_I 0 6 (ar 69) := rfl
theorem m_hp_70 {ar : Nat → Nat → Int32} {rq : Nat → Nat → Option Nat} {ou : Nat → Int64} {dy : Nat → m_C} : m_hp ar rq ou dy 70 = m_I 0 6 (ar 70) := rfl
theorem m_hp_71 {ar : Nat → Nat → Int32} {rq : Nat → Nat → Option Nat} {ou : Nat → Int64} {dy : Nat → m_C} : m_hp ar rq ou dy 71 = m_I 0 6 (ar 71) := rfl
theorem m_hp_72 {ar : Nat → Nat → Int32} {rq : Nat → Nat → Option Nat} {ou : Nat → Int64} {dy : Nat → m_C} : m_hp ar rq ou dy 72 = m_I 0 6 (ar 72) := rfl
theorem m_hp_73 {ar : Nat → Nat → Int32} {rq : Nat → Nat → Option Nat} {ou : Nat → Int64} {dy : Nat → m_C} : m_hp ar rq ou dy 73 = m_I 0 6 (ar 73) := rfl
theorem m_hp_74 {ar : Nat → Nat → Int32} {rq : Nat → Nat → Option Nat} {ou : Nat → Int64} {dy : Nat → m_C} : m_hp ar rq ou dy 74 = m_I 0 6 (ar 74) := rfl
theorem m_hp_75 {ar : Nat → Nat → Int32} {rq : Nat → Nat → Option Nat} {ou : Nat → Int64} {dy : Nat → m_C} : m_hp ar rq ou dy 75 = m_I 0 10 (ar 75) := rfl
theorem m_hp_76 {ar : Nat → Nat → Int32} {rq : Nat → Nat → Option Nat} {ou : Nat → Int64} {dy : Nat → m_C} : m_hp ar rq ou dy 76 = m_Q 6 16 (rq 76) := rfl
theorem m_hp_77 {ar : Nat → Nat → Int32} {rq : Nat → Nat → Option Nat} {ou : Nat → Int64} {dy : Nat → m_C} : m_hp ar rq ou dy 77 = m_Q 7 3 (rq 77) := rfl
theorem m_hp_79 {ar : Nat → Nat → Int32} {rq : Nat → Nat → Option Nat} {ou : Nat → Int64} {dy : Nat → m_C} : m_hp ar rq ou dy 79 = m_Q 3 6 (fun i => if i < 6 then some (79 + 1 + i) else none) := rfl
theorem m_hp_80 {ar : Nat → Nat → Int32} {rq : Nat → Nat → Option Nat} {ou : Nat → Int64} {dy : Nat → m_C} : m_hp ar rq ou dy 80 = m_I 0 6 (ar 80) := rfl
theorem m_hp_81 {ar : Nat → Nat → Int32} {rq : Nat → Nat → Option Nat} {ou : Nat → Int64} {dy : Nat → m_C} : m_hp ar rq ou dy 81 = m_I 0 6 (ar 81) := rfl
theorem m_hp_82 {ar : Nat → Nat → Int32} {rq : Nat → Nat → Option Nat} {ou : Nat → Int64} {dy : Nat → m_C} : m_hp ar rq ou dy 82 = m_I 0 6 (ar 82) := rfl
theorem m_hp_83 {ar : Nat → Nat → Int32} {rq : Nat → Nat → Option Nat} {ou : Nat → Int64} {dy : Nat → m_C} : m_hp ar rq ou dy 83 = m_I 0 6 (ar 83) := rfl
theorem m_hp_84 {ar : Nat → Nat → Int32} {rq : Nat → Nat → Option Nat} {ou : Nat → Int64} {dy : Nat → m_C} : m_hp ar rq ou dy 84 = m_I 0 6 (ar 84) := rfl
theorem m_hp_85 {ar : Nat → Nat → Int32} {rq : Nat → Nat → Option Nat} {ou : Nat → Int64} {dy : Nat → m_C} : m_hp ar rq ou dy 85 = m_I 0 6 (ar 85) := rfl
theorem m_hp_86 {ar : Nat → Nat → Int32} {rq : Nat → Nat → Option Nat} {ou : Nat → Int64} {dy : Nat → m_C} : m_hp ar rq ou dy 86 = m_Q 3 6 (fun i => if i < 6 then some (86 + 1 + i) else none) := rfl
theorem m_hp_87 {ar : Nat → Nat → Int32} {rq : Nat → Nat → Option Nat} {ou : Nat → Int64} {dy : Nat → m_C} : m_hp ar rq ou dy 87 = m_I 0 6 (ar 87) := rfl
theorem m_hp_88 {ar : Nat → Nat → Int32} {rq : Nat → Nat → Option Nat} {ou : Nat → Int64} {dy : Nat → m_C} : m_hp ar rq ou dy 88 = m_I 0 6 (ar 88) := rfl
theorem m_hp_89 {ar : Nat → Nat → Int32} {rq : Nat → Nat → Option Nat} {ou : Nat → Int64} {dy : Nat → m_C} : m_hp ar rq ou dy 89 = m_I 0 6 (ar 89) := rfl
theorem m_hp_90 {ar : Nat → Nat → Int32} {rq : Nat → Nat → Option Nat} {ou : Nat → Int64} {dy : Nat → m_C} : m_hp ar rq ou dy 90 = m_I 0 6 (ar 90) := rfl
theorem m_hp_91 {ar : Nat → Nat → Int32} {rq : Nat → Nat → Option Nat} {ou : Nat → Int64} {dy : Nat → m_C} : m_hp ar rq ou dy 91 = m_I 0 6 (ar 91) := rfl
theorem m_hp_92 {ar : Nat → Nat → Int32} {rq : Nat → Nat → Option Nat} {ou : Nat → Int64} {dy : Nat → m_C} : m_hp ar rq ou dy 92 = m_I 0 6 (ar 92) := rfl
theorem m_hp_93 {ar : Nat → Nat → Int32} {rq : Nat → Nat → Option Nat} {ou : Nat → Int64} {dy : Nat → m_C} : m_hp ar rq ou dy 93 = m_I 0 6 (ar 93) := rfl
theorem m_hp_94 {ar : Nat → Nat → Int32} {rq : Nat → Nat → Option Nat} {ou : Nat → Int64} {dy : Nat → m_C} : m_hp ar rq ou dy 94 = m_I 0 5 (ar 94) := rfl
theorem m_hp_95 {ar : Nat → Nat → Int32} {rq : Nat → Nat → Option Nat} {ou : Nat → Int64} {dy : Nat → m_C} : m_hp ar rq ou dy 95 = m_I 0 56 (ar 95) := rfl
theorem m_hp_96 {ar : Nat → Nat → Int32} {rq : Nat → Nat → Option Nat} {ou : Nat → Int64} {dy : Nat → m_C} : m_hp ar rq ou dy 96 = m_I 0 40 (ar 96) := rfl
theorem m_hp_97 {ar : Nat → Nat → Int32} {rq : Nat → Nat → Option Nat} {ou : Nat → Int64} {dy : Nat → m_C} : m_hp ar rq ou dy 97 = m_I 0 1 (ar 97) := rfl
theorem m_hp_N1 {ar : Nat → Nat → Int32} {rq : Nat → Nat → Option Nat} {ou : Nat → Int64} {dy : Nat → m_C} {B : Nat} (h : B = 4 ∨ B = 40) : m_hp ar rq ou dy (B + 1) = m_Q 4 10 (rq (B + 1)) := by rcases h with rfl | rfl <;> rfl
theorem m_hp_N2 {ar : Nat → Nat → Int32} {rq : Nat → Nat → Option Nat} {ou : Nat → Int64} {dy : Nat → m_C} {B : Nat} (h : B = 4 ∨ B = 40) : m_hp ar rq ou dy (B + 2) = m_I 1 10 (ar (B + 2)) := by rcases h with rfl | rfl <;> rfl
theorem m_hp_N3 {ar : Nat → Nat → Int32} {rq : Nat → Nat → Option Nat} {ou : Nat → Int64} {dy : Nat → m_C} {B : Nat} (h : B = 4 ∨ B = 40) : m_hp ar rq ou dy (B + 3) = m_Q 3 10 (fun i => if i < 10 then some (B + 3 + 1 + i) else none) := by rcases h with rfl | rfl <;> rfl
theorem m_hp_N14 {ar : Nat → Nat → Int32} {rq : Nat → Nat → Option Nat} {ou : Nat → Int64} {dy : Nat → m_C} {B : Nat} (h : B = 4 ∨ B = 40) : m_hp ar rq ou dy (B + 14) = m_Q 5 10 (rq (B + 14)) := by rcases h with rfl | rfl <;> rfl
theorem m_hp_N15 {ar : Nat → Nat → Int32} {rq : Nat → Nat → Option Nat} {ou : Nat → Int64} {dy : Nat → m_C} {B : Nat} (h : B = 4 ∨ B = 40) : m_hp ar rq ou dy (B + 15) = m_I 0 10 (ar (B + 15)) := by rcases h with rfl | rfl <;> rfl
theorem m_hp_N16 {ar : Nat → Nat → Int32} {rq : Nat → Nat → Option Nat} {ou : Nat → Int64} {dy : Nat → m_C} {B : Nat} (h : B = 4 ∨ B = 40) : m_hp ar rq ou dy (B + 16) = m_I 0 10 (ar (B + 16)) := by rcases h with rfl | rfl <;> rfl
theorem m_hp_N17 {ar : Nat → Nat → Int32} {rq : Nat → Nat → Option Nat} {ou : Nat → Int64} {dy : Nat → m_C} {B : Nat} (h : B = 4 ∨ B = 40) : m_hp ar rq ou dy (B + 17) = m_Q 3 6 (fun i => if i < 6 then some (B + 17 + 1 + i) else none) := by rcases h with rfl | rfl <;> rfl
theorem m_hp_N24 {ar : Nat → Nat → Int32} {rq : Nat → Nat → Option Nat} {ou : Nat → Int64} {dy : Nat → m_C} {B : Nat} (h : B = 4 ∨ B = 40) : m_hp ar rq ou dy (B + 24) = m_Q 3 10 (fun i => if i < 10 then some (B + 24 + 1 + i) else none) := by rcases h with rfl | rfl <;> rfl
theorem m_hp_N35 {ar : Nat → Nat → Int32} {rq : Nat → Nat → Option Nat} {ou : Nat → Int64} {dy : Nat → m_C} {B : Nat} (h : B = 4 ∨ B = 40) : m_hp ar rq ou dy (B + 35) = m_I 0 10 (ar (B + 35)) := by rcases h with rfl | rfl <;> rfl
theorem m_fin {p : Nat → Prop} {n : Nat} (h : ∀ k : Fin n, p k.val) : ∀ k, k < n → p k := fun k hk => h ⟨k, hk⟩
theorem m_shp_N3 {B i : Nat} (h : B = 4 ∨ B = 40) (hi : i < 10) : m_shp (B + 3 + 1 + i) = (1, 0, 6) := by rcases h with rfl | rfl <;> exact m_fin (p := fun i => m_shp (_ + 3 + 1 + i) = (1, 0, 6)) (n := 10) (by decide +kernel) i hi
theorem m_hp_Nr3 {ar : Nat → Nat → Int32} {rq : Nat → Nat → Option Nat} {ou : Nat → Int64} {dy : Nat → m_C} {B i : Nat} (h : B = 4 ∨ B = 40) (hi : i < 10) : m_hp ar rq ou dy (B + 3 + 1 + i) = m_I 0 6 (ar (B + 3 + 1 + i)) := m_hp_I (m_shp_N3 h hi)
theorem m_shp_N17 {B i : Nat} (h : B = 4 ∨ B = 40) (hi : i < 6) : m_shp (B + 17 + 1 + i) = (1, 0, 6) := by rcases h with rfl | rfl <;> exact m_fin (p := fun i => m_shp (_ + 17 + 1 + i) = (1, 0, 6)) (n := 6) (by decide +kernel) i hi
theorem m_hp_Nr17 {ar : Nat → Nat → Int32} {rq : Nat → Nat → Option Nat} {ou : Nat → Int64} {dy : Nat → m_C} {B i : Nat} (h : B = 4 ∨ B = 40) (hi : i < 6) : m_hp ar rq ou dy (B + 17 + 1 + i) = m_I 0 6 (ar (B + 17 + 1 + i)) := m_hp_I (m_shp_N17 h hi)
theorem m_shp_N24 {B i : Nat} (h : B = 4 ∨ B = 40) (hi : i < 10) : m_shp (B + 24 + 1 + i) = (1, 0, 6) := by rcases h with rfl | rfl <;> exact m_fin (p := fun i => m_shp (_ + 24 + 1 + i) = (1, 0, 6)) (n := 10) (by decide +kernel) i hi
theorem m_hp_Nr24 {ar : Nat → Nat → Int32} {rq : Nat → Nat → Option Nat} {ou : Nat → Int64} {dy : Nat → m_C} {B i : Nat} (h : B = 4 ∨ B = 40) (hi : i < 10) : m_hp ar rq ou dy (B + 24 + 1 + i) = m_I 0 6 (ar (B + 24 + 1 + i)) := m_hp_I (m_shp_N24 h hi)
theorem m_shp_r79 {i : Nat} (hi : i < 6) : m_shp (79 + 1 + i) = (1, 0, 6) := m_fin (p := fun i => m_shp (79 + 1 + i) = (1, 0, 6)) (n := 6) (by decide +kernel) i hi
theorem m_hp_r79 {ar : Nat → Nat → Int32} {rq : Nat → Nat → Option Nat} {ou : Nat → Int64} {dy : Nat → m_C} {i : Nat} (hi : i < 6) : m_hp ar rq ou dy (79 + 1 + i) = m_I 0 6 (ar (79 + 1 + i)) := m_hp_I (m_shp_r79 hi)
theorem m_shp_r86 {i : Nat} (hi : i < 6) : m_shp (86 + 1 + i) = (1, 0, 6) := m_fin (p := fun i => m_shp (86 + 1 + i) = (1, 0, 6)) (n := 6) (by decide +kernel) i hi
theorem m_hp_r86 {ar : Nat → Nat → Int32} {rq : Nat → Nat → Option Nat} {ou : Nat → Int64} {dy : Nat → m_C} {i : Nat} (hi : i < 6) : m_hp ar rq ou dy (86 + 1 + i) = m_I 0 6 (ar (86 + 1 + i)) := m_hp_I (m_shp_r86 hi)
theorem m_up_hp {ar ar' : Nat → Nat → Int32} {rq rq' : Nat → Nat → Option Nat} {ou ou' : Nat → Int64} {dy dy' : Nat → m_C} {a : Nat} {c : m_C} (h1 : m_hp ar' rq' ou' dy' a = c) (h2 : ∀ b, b ≠ a → m_hp ar' rq' ou' dy' b = m_hp ar rq ou dy b) : m_up (m_hp ar rq ou dy) a c = m_hp ar' rq' ou' dy' := by
  funext b
  unfold m_up
  split
  · rename_i h; rw [h, h1]
  · rename_i h; exact (h2 b h).symm
theorem m_hp_cg {ar ar' : Nat → Nat → Int32} {rq rq' : Nat → Nat → Option Nat} {ou ou' : Nat → Int64} {dy dy' : Nat → m_C} {b : Nat} (h1 : ar' b = ar b) (h2 : rq' b = rq b) (h3 : (m_shp b).1 = 7 → ou' = ou) (h4 : dy' b = dy b) : m_hp ar' rq' ou' dy' b = m_hp ar rq ou dy b := by
  unfold m_hp
  generalize hk : (m_shp b).1 = k at h3 ⊢
  unfold m_hpc
  split <;> first | rfl | rw [h1] | rw [h2] | exact h4 | exact congrArg _ (h3 rfl)
theorem m_up_I {ar : Nat → Nat → Int32} {rq : Nat → Nat → Option Nat} {ou : Nat → Int64} {dy : Nat → m_C} {a k n : Nat} {f : Nat → Int32} (h : m_shp a = (1, k, n)) : m_up (m_hp ar rq ou dy) a (m_I k n f) = m_hp (m_uf ar a f) rq ou dy :=
  m_up_hp (by rw [m_hp_I h, m_uf_eq]) (fun b hb => m_hp_cg (m_uf_ne hb) rfl (fun _ => rfl) rfl)
theorem m_up_Q {ar : Nat → Nat → Int32} {rq : Nat → Nat → Option Nat} {ou : Nat → Int64} {dy : Nat → m_C} {a k n : Nat} {f : Nat → Option Nat} (h : m_shp a = (3, k, n)) : m_up (m_hp ar rq ou dy) a (m_Q k n f) = m_hp ar (m_uf rq a f) ou dy :=
  m_up_hp (by rw [m_hp_Q h, m_uf_eq]) (fun b hb => m_hp_cg rfl (m_uf_ne hb) (fun _ => rfl) rfl)
theorem m_up_3 {ar : Nat → Nat → Int32} {rq : Nat → Nat → Option Nat} {ou : Nat → Int64} {dy : Nat → m_C} {f : Nat → Int32} : m_up (m_hp ar rq ou dy) 3 (m_O 7 (m_fC f)) = m_hp (m_uf ar 3 f) rq ou dy :=
  m_up_hp (by rw [m_hp_3, m_uf_eq]) (fun b hb => m_hp_cg (m_uf_ne hb) rfl (fun _ => rfl) rfl)
theorem m_up_N {ar : Nat → Nat → Int32} {rq : Nat → Nat → Option Nat} {ou : Nat → Int64} {dy : Nat → m_C} {B : Nat} {f : Nat → Int32} (h : B = 4 ∨ B = 40) : m_up (m_hp ar rq ou dy) B (m_O 4 (m_fN B f)) = m_hp (m_uf ar B f) rq ou dy :=
  m_up_hp (by rw [m_hp_N h, m_uf_eq]) (fun b hb => m_hp_cg (m_uf_ne hb) rfl (fun _ => rfl) rfl)
theorem m_up_dy {ar : Nat → Nat → Int32} {rq : Nat → Nat → Option Nat} {ou : Nat → Int64} {dy : Nat → m_C} {a : Nat} {c : m_C} (h : 98 ≤ a) : m_up (m_hp ar rq ou dy) a c = m_hp ar rq ou (m_up dy a c) :=
  m_up_hp (by rw [m_hp_dy h, m_up_eq]) (fun b hb => m_hp_cg rfl rfl (fun _ => rfl) (m_up_ne hb))
theorem m_up_78 {ar : Nat → Nat → Int32} {rq : Nat → Nat → Option Nat} {ou : Nat → Int64} {dy : Nat → m_C} {c : m_C} : m_up (m_hp ar rq ou dy) 78 c = m_hp ar rq ou (m_up dy 78 c) :=
  m_up_hp (by rw [m_hp_78, m_up_eq]) (fun b hb => m_hp_cg rfl rfl (fun _ => rfl) (m_up_ne hb))
theorem m_up_5 {ar : Nat → Nat → Int32} {rq : Nat → Nat → Option Nat} {ou : Nat → Int64} {dy : Nat → m_C} {f : Nat → Option Nat} : m_up (m_hp ar rq ou dy) 5 (m_Q 4 10 f) = m_hp ar (m_uf rq 5 f) ou dy := m_up_Q rfl
theorem m_up_6 {ar : Nat → Nat → Int32} {rq : Nat → Nat → Option Nat} {ou : Nat → Int64} {dy : Nat → m_C} {f : Nat → Int32} : m_up (m_hp ar rq ou dy) 6 (m_I 1 10 f) = m_hp (m_uf ar 6 f) rq ou dy := m_up_I rfl
theorem m_up_8 {ar : Nat → Nat → Int32} {rq : Nat → Nat → Option Nat} {ou : Nat → Int64} {dy : Nat → m_C} {f : Nat → Int32} : m_up (m_hp ar rq ou dy) 8 (m_I 0 6 f) = m_hp (m_uf ar 8 f) rq ou dy := m_up_I rfl
theorem m_up_9 {ar : Nat → Nat → Int32} {rq : Nat → Nat → Option Nat} {ou : Nat → Int64} {dy : Nat → m_C} {f : Nat → Int32} : m_up (m_hp ar rq ou dy) 9 (m_I 0 6 f) = m_hp (m_uf ar 9 f) rq ou dy := m_up_I rfl
theorem m_up_10 {ar : Nat → Nat → Int32} {rq : Nat → Nat → Option Nat} {ou : Nat → Int64} {dy : Nat → m_C} {f : Nat → Int32} : m_up (m_hp ar rq ou dy) 10 (m_I 0 6 f) = m_hp (m_uf ar 10 f) rq ou dy := m_up_I rfl
theorem m_up_11 {ar : Nat → Nat → Int32} {rq : Nat → Nat → Option Nat} {ou : Nat → Int64} {dy : Nat → m_C} {f : Nat → Int32} : m_up (m_hp ar rq ou dy) 11 (m_I 0 6 f) = m_hp (m_uf ar 11 f) rq ou dy := m_up_I rfl
theorem m_up_12 {ar : Nat → Nat → Int32} {rq : Nat → Nat → Option Nat} {ou : Nat → Int64} {dy : Nat → m_C} {f : Nat → Int32} : m_up (m_hp ar rq ou dy) 12 (m_I 0 6 f) = m_hp (m_uf ar 12 f) rq ou dy := m_up_I rfl
theorem m_up_13 {ar : Nat → Nat → Int32} {rq : Nat → Nat → Option Nat} {ou : Nat → Int64} {dy : Nat → m_C} {f : Nat → Int32} : m_up (m_hp ar rq ou dy) 13 (m_I 0 6 f) = m_hp (m_uf ar 13 f) rq ou dy := m_up_I rfl
theorem m_up_14 {ar : Nat → Nat → Int32} {rq : Nat → Nat → Option Nat} {ou : Nat → Int64} {dy : Nat → m_C} {f : Nat → Int32} : m_up (m_hp ar rq ou dy) 14 (m_I 0 6 f) = m_hp (m_uf ar 14 f) rq ou dy := m_up_I rfl
theorem m_up_15 {ar : Nat → Nat → Int32} {rq : Nat → Nat → Option Nat} {ou : Nat → Int64} {dy : Nat → m_C} {f : Nat → Int32} : m_up (m_hp ar rq ou dy) 15 (m_I 0 6 f) = m_hp (m_uf ar 15 f) rq ou dy := m_up_I rfl
theorem m_up_16 {ar : Nat → Nat → Int32} {rq : Nat → Nat → Option Nat} {ou : Nat → Int64} {dy : Nat → m_C} {f : Nat → Int32} : m_up (m_hp ar rq ou dy) 16 (m_I 0 6 f) = m_hp (m_uf ar 16 f) rq ou dy := m_up_I rfl
theorem m_up_17 {ar : Nat → Nat → Int32} {rq : Nat → Nat → Option Nat} {ou : Nat → Int64} {dy : Nat → m_C} {f : Nat → Int32} : m_up (m_hp ar rq ou dy) 17 (m_I 0 6 f) = m_hp (m_uf ar 17 f) rq ou dy := m_up_I rfl
theorem m_up_18 {ar : Nat → Nat → Int32} {rq : Nat → Nat → Option Nat} {ou : Nat → Int64} {dy : Nat → m_C} {f : Nat → Option Nat} : m_up (m_hp ar rq ou dy) 18 (m_Q 5 10 f) = m_hp ar (m_uf rq 18 f) ou dy := m_up_Q rfl
theorem m_up_19 {ar : Nat → Nat → Int32} {rq : Nat → Nat → Option Nat} {ou : Nat → Int64} {dy : Nat → m_C} {f : Nat → Int32} : m_up (m_hp ar rq ou dy) 19 (m_I 0 10 f) = m_hp (m_uf ar 19 f) rq ou dy := m_up_I rfl
theorem m_up_20 {ar : Nat → Nat → Int32} {rq : Nat → Nat → Option Nat} {ou : Nat → Int64} {dy : Nat → m_C} {f : Nat → Int32} : m_up (m_hp ar rq ou dy) 20 (m_I 0 10 f) = m_hp (m_uf ar 20 f) rq ou dy := m_up_I rfl
theorem m_up_22 {ar : Nat → Nat → Int32} {rq : Nat → Nat → Option Nat} {ou : Nat → Int64} {dy : Nat → m_C} {f : Nat → Int32} : m_up (m_hp ar rq ou dy) 22 (m_I 0 6 f) = m_hp (m_uf ar 22 f) rq ou dy := m_up_I rfl
theorem m_up_23 {ar : Nat → Nat → Int32} {rq : Nat → Nat → Option Nat} {ou : Nat → Int64} {dy : Nat → m_C} {f : Nat → Int32} : m_up (m_hp ar rq ou dy) 23 (m_I 0 6 f) = m_hp (m_uf ar 23 f) rq ou dy := m_up_I rfl
theorem m_up_24 {ar : Nat → Nat → Int32} {rq : Nat → Nat → Option Nat} {ou : Nat → Int64} {dy : Nat → m_C} {f : Nat → Int32} : m_up (m_hp ar rq ou dy) 24 (m_I 0 6 f) = m_hp (m_uf ar 24 f) rq ou dy := m_up_I rfl
theorem m_up_25 {ar : Nat → Nat → Int32} {rq : Nat → Nat → Option Nat} {ou : Nat → Int64} {dy : Nat → m_C} {f : Nat → Int32} : m_up (m_hp ar rq ou dy) 25 (m_I 0 6 f) = m_hp (m_uf ar 25 f) rq ou dy := m_up_I rfl
theorem m_up_26 {ar : Nat → Nat → Int32} {rq : Nat → Nat → Option Nat} {ou : Nat → Int64} {dy : Nat → m_C} {f : Nat → Int32} : m_up (m_hp ar rq ou dy) 26 (m_I 0 6 f) = m_hp (m_uf ar 26 f) rq ou dy := m_up_I rfl
theorem m_up_27 {ar : Nat → Nat → Int32} {rq : Nat → Nat → Option Nat} {ou : Nat → Int64} {dy : Nat → m_C} {f : Nat → Int32} : m_up (m_hp ar rq ou dy) 27 (m_I 0 6 f) = m_hp (m_uf ar 27 f) rq ou dy := m_up_I rfl
theorem m_up_29 {ar : Nat → Nat → Int32} {rq : Nat → Nat → Option Nat} {ou : Nat → Int64} {dy : Nat → m_C} {f : Nat → Int32} : m_up (m_hp ar rq ou dy) 29 (m_I 0 6 f) = m_hp (m_uf ar 29 f) rq ou dy := m_up_I rfl
theorem m_up_30 {ar : Nat → Nat → Int32} {rq : Nat → Nat → Option Nat} {ou : Nat → Int64} {dy : Nat → m_C} {f : Nat → Int32} : m_up (m_hp ar rq ou dy) 30 (m_I 0 6 f) = m_hp (m_uf ar 30 f) rq ou dy := m_up_I rfl
theorem m_up_31 {ar : Nat → Nat → Int32} {rq : Nat → Nat → Option Nat} {ou : Nat → Int64} {dy : Nat → m_C} {f : Nat → Int32} : m_up (m_hp ar rq ou dy) 31 (m_I 0 6 f) = m_hp (m_uf ar 31 f) rq ou dy := m_up_I rfl
theorem m_up_32 {ar : Nat → Nat → Int32} {rq : Nat → Nat → Option Nat} {ou : Nat → Int64} {dy : Nat → m_C} {f : Nat → Int32} : m_up (m_hp ar rq ou dy) 32 (m_I 0 6 f) = m_hp (m_uf ar 32 f) rq ou dy := m_up_I rfl
theorem m_up_33 {ar : Nat → Nat → Int32} {rq : Nat → Nat → Option Nat} {ou : Nat → Int64} {dy : Nat → m_C} {f : Nat → Int32} : m_up (m_hp ar rq ou dy) 33 (m_I 0 6 f) = m_hp (m_uf ar 33 f) rq ou dy := m_up_I rfl
theorem m_up_34 {ar : Nat → Nat → Int32} {rq : Nat → Nat → Option Nat} {ou : Nat → Int64} {dy : Nat → m_C} {f : Nat → Int32} : m_up (m_hp ar rq ou dy) 34 (m_I 0 6 f) = m_hp (m_uf ar 34 f) rq ou dy := m_up_I rfl
theorem m_up_35 {ar : Nat → Nat → Int32} {rq : Nat → Nat → Option Nat} {ou : Nat → Int64} {dy : Nat → m_C} {f : Nat → Int32} : m_up (m_hp ar rq ou dy) 35 (m_I 0 6 f) = m_hp (m_uf ar 35 f) rq ou dy := m_up_I rfl
theorem m_up_36 {ar : Nat → Nat → Int32} {rq : Nat → Nat → Option Nat} {ou : Nat → Int64} {dy : Nat → m_C} {f : Nat → Int32} : m_up (m_hp ar rq ou dy) 36 (m_I 0 6 f) = m_hp (m_uf ar 36 f) rq ou dy := m_up_I rfl
theorem m_up_37 {ar : Nat → Nat → Int32} {rq : Nat → Nat → Option Nat} {ou : Nat → Int64} {dy : Nat → m_C} {f : Nat → Int32} : m_up (m_hp ar rq ou dy) 37 (m_I 0 6 f) = m_hp (m_uf ar 37 f) rq ou dy := m_up_I rfl
theorem m_up_38 {ar : Nat → Nat → Int32} {rq : Nat → Nat → Option Nat} {ou : Nat → Int64} {dy : Nat → m_C} {f : Nat → Int32} : m_up (m_hp ar rq ou dy) 38 (m_I 0 6 f) = m_hp (m_uf ar 38 f) rq ou dy := m_up_I rfl
theorem m_up_39 {ar : Nat → Nat → Int32} {rq : Nat → Nat → Option Nat} {ou : Nat → Int64} {dy : Nat → m_C} {f : Nat → Int32} : m_up (m_hp ar rq ou dy) 39 (m_I 0 10 f) = m_hp (m_uf ar 39 f) rq ou dy := m_up_I rfl
theorem m_up_41 {ar : Nat → Nat → Int32} {rq : Nat → Nat → Option Nat} {ou : Nat → Int64} {dy : Nat → m_C} {f : Nat → Option Nat} : m_up (m_hp ar rq ou dy) 41 (m_Q 4 10 f) = m_hp ar (m_uf rq 41 f) ou dy := m_up_Q rfl
theorem m_up_42 {ar : Nat → Nat → Int32} {rq : Nat → Nat → Option Nat} {ou : Nat → Int64} {dy : Nat → m_C} {f : Nat → Int32} : m_up (m_hp ar rq ou dy) 42 (m_I 1 10 f) = m_hp (m_uf ar 42 f) rq ou dy := m_up_I rfl
theorem m_up_44 {ar : Nat → Nat → Int32} {rq : Nat → Nat → Option Nat} {ou : Nat → Int64} {dy : Nat → m_C} {f : Nat → Int32} : m_up (m_hp ar rq ou dy) 44 (m_I 0 6 f) = m_hp (m_uf ar 44 f) rq ou dy := m_up_I rfl
theorem m_up_45 {ar : Nat → Nat → Int32} {rq : Nat → Nat → Option Nat} {ou : Nat → Int64} {dy : Nat → m_C} {f : Nat → Int32} : m_up (m_hp ar rq ou dy) 45 (m_I 0 6 f) = m_hp (m_uf ar 45 f) rq ou dy := m_up_I rfl
theorem m_up_46 {ar : Nat → Nat → Int32} {rq : Nat → Nat → Option Nat} {ou : Nat → Int64} {dy : Nat → m_C} {f : Nat → Int32} : m_up (m_hp ar rq ou dy) 46 (m_I 0 6 f) = m_hp (m_uf ar 46 f) rq ou dy := m_up_I rfl
theorem m_up_47 {ar : Nat → Nat → Int32} {rq : Nat → Nat → Option Nat} {ou : Nat → Int64} {dy : Nat → m_C} {f : Nat → Int32} : m_up (m_hp ar rq ou dy) 47 (m_I 0 6 f) = m_hp (m_uf ar 47 f) rq ou dy := m_up_I rfl
theorem m_up_48 {ar : Nat → Nat → Int32} {rq : Nat → Nat → Option Nat} {ou : Nat → Int64} {dy : Nat → m_C} {f : Nat → Int32} : m_up (m_hp ar rq ou dy) 48 (m_I 0 6 f) = m_hp (m_uf ar 48 f) rq ou dy := m_up_I rfl
theorem m_up_49 {ar : Nat → Nat → Int32} {rq : Nat → Nat → Option Nat} {ou : Nat → Int64} {dy : Nat → m_C} {f : Nat → Int32} : m_up (m_hp ar rq ou dy) 49 (m_I 0 6 f) = m_hp (m_uf ar 49 f) rq ou dy := m_up_I rfl
theorem m_up_50 {ar : Nat → Nat → Int32} {rq : Nat → Nat → Option Nat} {ou : Nat → Int64} {dy : Nat → m_C} {f : Nat → Int32} : m_up (m_hp ar rq ou dy) 50 (m_I 0 6 f) = m_hp (m_uf ar 50 f) rq ou dy := m_up_I rfl
theorem m_up_51 {ar : Nat → Nat → Int32} {rq : Nat → Nat → Option Nat} {ou : Nat → Int64} {dy : Nat → m_C} {f : Nat → Int32} : m_up (m_hp ar rq ou dy) 51 (m_I 0 6 f) = m_hp (m_uf ar 51 f) rq ou dy := m_up_I rfl
theorem m_up_52 {ar : Nat → Nat → Int32} {rq : Nat → Nat → Option Nat} {ou : Nat → Int64} {dy : Nat → m_C} {f : Nat → Int32} : m_up (m_hp ar rq ou dy) 52 (m_I 0 6 f) = m_hp (m_uf ar 52 f) rq ou dy := m_up_I rfl
theorem m_up_53 {ar : Nat → Nat → Int32} {rq : Nat → Nat → Option Nat} {ou : Nat → Int64} {dy : Nat → m_C} {f : Nat → Int32} : m_up (m_hp ar rq ou dy) 53 (m_I 0 6 f) = m_hp (m_uf ar 53 f) rq ou dy := m_up_I rfl
theorem m_up_54 {ar : Nat → Nat → Int32} {rq : Nat → Nat → Option Nat} {ou : Nat → Int64} {dy : Nat → m_C} {f : Nat → Option Nat} : m_up (m_hp ar rq ou dy) 54 (m_Q 5 10 f) = m_hp ar (m_uf rq 54 f) ou dy := m_up_Q rfl
theorem m_up_55 {ar : Nat → Nat → Int32} {rq : Nat → Nat → Option Nat} {ou : Nat → Int64} {dy : Nat → m_C} {f : Nat → Int32} : m_up (m_hp ar rq ou dy) 55 (m_I 0 10 f) = m_hp (m_uf ar 55 f) rq ou dy := m_up_I rfl
theorem m_up_56 {ar : Nat → Nat → Int32} {rq : Nat → Nat → Option Nat} {ou : Nat → Int64} {dy : Nat → m_C} {f : Nat → Int32} : m_up (m_hp ar rq ou dy) 56 (m_I 0 10 f) = m_hp (m_uf ar 56 f) rq ou dy := m_up_I rfl
theorem m_up_58 {ar : Nat → Nat → Int32} {rq : Nat → Nat → Option Nat} {ou : Nat → Int64} {dy : Nat → m_C} {f : Nat → Int32} : m_up (m_hp ar rq ou dy) 58 (m_I 0 6 f) = m_hp (m_uf ar 58 f) rq ou dy := m_up_I rfl
theorem m_up_59 {ar : Nat → Nat → Int32} {rq : Nat → Nat → Option Nat} {ou : Nat → Int64} {dy : Nat → m_C} {f : Nat → Int32} : m_up (m_hp ar rq ou dy) 59 (m_I 0 6 f) = m_hp (m_uf ar 59 f) rq ou dy := m_up_I rfl
theorem m_up_60 {ar : Nat → Nat → Int32} {rq : Nat → Nat → Option Nat} {ou : Nat → Int64} {dy : Nat → m_C} {f : Nat → Int32} : m_up (m_hp ar rq ou dy) 60 (m_I 0 6 f) = m_hp (m_uf ar 60 f) rq ou dy := m_up_I rfl
theorem m_up_61 {ar : Nat → Nat → Int32} {rq : Nat → Nat → Option Nat} {ou : Nat → Int64} {dy : Nat → m_C} {f : Nat → Int32} : m_up (m_hp ar rq ou dy) 61 (m_I 0 6 f) = m_hp (m_uf ar 61 f) rq ou dy := m_up_I rfl
theorem m_up_62 {ar : Nat → Nat → Int32} {rq : Nat → Nat → Option Nat} {ou : Nat → Int64} {dy : Nat → m_C} {f : Nat → Int32} : m_up (m_hp ar rq ou dy) 62 (m_I 0 6 f) = m_hp (m_uf ar 62 f) rq ou dy := m_up_I rfl
theorem m_up_63 {ar : Nat → Nat → Int32} {rq : Nat → Nat → Option Nat} {ou : Nat → Int64} {dy : Nat → m_C} {f : Nat → Int32} : m_up (m_hp ar rq ou dy) 63 (m_I 0 6 f) = m_hp (m_uf ar 63 f) rq ou dy := m_up_I rfl
theorem m_up_65 {ar : Nat → Nat → Int32} {rq : Nat → Nat → Option Nat} {ou : Nat → Int64} {dy : Nat → m_C} {f : Nat → Int32} : m_up (m_hp ar rq ou dy) 65 (m_I 0 6 f) = m_hp (m_uf ar 65 f) rq ou dy := m_up_I rfl
theorem m_up_66 {ar : Nat → Nat → Int32} {rq : Nat → Nat → Option Nat} {ou : Nat → Int64} {dy : Nat → m_C} {f : Nat → Int32} : m_up (m_hp ar rq ou dy) 66 (m_I 0 6 f) = m_hp (m_uf ar 66 f) rq ou dy := m_up_I rfl
theorem m_up_67 {ar : Nat → Nat → Int32} {rq : Nat → Nat → Option Nat} {ou : Nat → Int64} {dy : Nat → m_C} {f : Nat → Int32} : m_up (m_hp ar rq ou dy) 67 (m_I 0 6 f) = m_hp (m_uf ar 67 f) rq ou dy := m_up_I rfl
theorem m_up_68 {ar : Nat → Nat → Int32} {rq : Nat → Nat → Option Nat} {ou : Nat → Int64} {dy : Nat → m_C} {f : Nat → Int32} : m_up (m_hp ar rq ou dy) 68 (m_I 0 6 f) = m_hp (m_uf ar 68 f) rq ou dy := m_up_I rfl
theorem m_up_69 {ar : Nat → Nat → Int32} {rq : Nat → Nat → Option Nat} {ou : Nat → Int64} {dy : Nat → m_C} {f : Nat → Int32} : m_up (m_hp ar rq ou dy) 69 (m_I 0 6 f) = m_hp (m_uf ar 69 f) rq ou dy := m_up_I rfl
theorem m_up_70 {ar : Nat → Nat → Int32} {rq : Nat → Nat → Option Nat} {ou : Nat → Int64} {dy : Nat → m_C} {f : Nat → Int32} : m_up (m_hp ar rq ou dy) 70 (m_I 0 6 f) = m_hp (m_uf ar 70 f) rq ou dy := m_up_I rfl
theorem m_up_71 {ar : Nat → Nat → Int32} {rq : Nat → Nat → Option Nat} {ou : Nat → Int64} {dy : Nat → m_C} {f : Nat → Int32} : m_up (m_hp ar rq ou dy) 71 (m_I 0 6 f) = m_hp (m_uf ar 71 f) rq ou dy := m_up_I rfl
theorem m_up_72 {ar : Nat → Nat → Int32} {rq : Nat → Nat → Option Nat} {ou : Nat → Int64} {dy : Nat → m_C} {f : Nat → Int32} : m_up (m_hp ar rq ou dy) 72 (m_I 0 6 f) = m_hp (m_uf ar 72 f) rq ou dy := m_up_I rfl
theorem m_up_73 {ar : Nat → Nat → Int32} {rq : Nat → Nat → Option Nat} {ou : Nat → Int64} {dy : Nat → m_C} {f : Nat → Int32} : m_up (m_hp ar rq ou dy) 73 (m_I 0 6 f) = m_hp (m_uf ar 73 f) rq ou dy := m_up_I rfl
theorem m_up_74 {ar : Nat → Nat → Int32} {rq : Nat → Nat → Option Nat} {ou : Nat → Int64} {dy : Nat → m_C} {f : Nat → Int32} : m_up (m_hp ar rq ou dy) 74 (m_I 0 6 f) = m_hp (m_uf ar 74 f) rq ou dy := m_up_I rfl
theorem m_up_75 {ar : Nat → Nat → Int32} {rq : Nat → Nat → Option Nat} {ou : Nat → Int64} {dy : Nat → m_C} {f : Nat → Int32} : m_up (m_hp ar rq ou dy) 75 (m_I 0 10 f) = m_hp (m_uf ar 75 f) rq ou dy := m_up_I rfl
theorem m_up_76 {ar : Nat → Nat → Int32} {rq : Nat → Nat → Option Nat} {ou : Nat → Int64} {dy : Nat → m_C} {f : Nat → Option Nat} : m_up (m_hp ar rq ou dy) 76 (m_Q 6 16 f) = m_hp ar (m_uf rq 76 f) ou dy := m_up_Q rfl
theorem m_up_77 {ar : Nat → Nat → Int32} {rq : Nat → Nat → Option Nat} {ou : Nat → Int64} {dy : Nat → m_C} {f : Nat → Option Nat} : m_up (m_hp ar rq ou dy) 77 (m_Q 7 3 f) = m_hp ar (m_uf rq 77 f) ou dy := m_up_Q rfl
theorem m_up_80 {ar : Nat → Nat → Int32} {rq : Nat → Nat → Option Nat} {ou : Nat → Int64} {dy : Nat → m_C} {f : Nat → Int32} : m_up (m_hp ar rq ou dy) 80 (m_I 0 6 f) = m_hp (m_uf ar 80 f) rq ou dy := m_up_I rfl
theorem m_up_81 {ar : Nat → Nat → Int32} {rq : Nat → Nat → Option Nat} {ou : Nat → Int64} {dy : Nat → m_C} {f : Nat → Int32} : m_up (m_hp ar rq ou dy) 81 (m_I 0 6 f) = m_hp (m_uf ar 81 f) rq ou dy := m_up_I rfl
theorem m_up_82 {ar : Nat → Nat → Int32} {rq : Nat → Nat → Option Nat} {ou : Nat → Int64} {dy : Nat → m_C} {f : Nat → Int32} : m_up (m_hp ar rq ou dy) 82 (m_I 0 6 f) = m_hp (m_uf ar 82 f) rq ou dy := m_up_I rfl
theorem m_up_83 {ar : Nat → Nat → Int32} {rq : Nat → Nat → Option Nat} {ou : Nat → Int64} {dy : Nat → m_C} {f : Nat → Int32} : m_up (m_hp ar rq ou dy) 83 (m_I 0 6 f) = m_hp (m_uf ar 83 f) rq ou dy := m_up_I rfl
theorem m_up_84 {ar : Nat → Nat → Int32} {rq : Nat → Nat → Option Nat} {ou : Nat → Int64} {dy : Nat → m_C} {f : Nat → Int32} : m_up (m_hp ar rq ou dy) 84 (m_I 0 6 f) = m_hp (m_uf ar 84 f) rq ou dy := m_up_I rfl
theorem m_up_85 {ar : Nat → Nat → Int32} {rq : Nat → Nat → Option Nat} {ou : Nat → Int64} {dy : Nat → m_C} {f : Nat → Int32} : m_up (m_hp ar rq ou dy) 85 (m_I 0 6 f) = m_hp (m_uf ar 85 f) rq ou dy := m_up_I rfl
theorem m_up_87 {ar : Nat → Nat → Int32} {rq : Nat → Nat → Option Nat} {ou : Nat → Int64} {dy : Nat → m_C} {f : Nat → Int32} : m_up (m_hp ar rq ou dy) 87 (m_I 0 6 f) = m_hp (m_uf ar 87 f) rq ou dy := m_up_I rfl
theorem m_up_88 {ar : Nat → Nat → Int32} {rq : Nat → Nat → Option Nat} {ou : Nat → Int64} {dy : Nat → m_C} {f : Nat → Int32} : m_up (m_hp ar rq ou dy) 88 (m_I 0 6 f) = m_hp (m_uf ar 88 f) rq ou dy := m_up_I rfl
theorem m_up_89 {ar : Nat → Nat → Int32} {rq : Nat → Nat → Option Nat} {ou : Nat → Int64} {dy : Nat → m_C} {f : Nat → Int32} : m_up (m_hp ar rq ou dy) 89 (m_I 0 6 f) = m_hp (m_uf ar 89 f) rq ou dy := m_up_I rfl
theorem m_up_90 {ar : Nat → Nat → Int32} {rq : Nat → Nat → Option Nat} {ou : Nat → Int64} {dy : Nat → m_C} {f : Nat → Int32} : m_up (m_hp ar rq ou dy) 90 (m_I 0 6 f) = m_hp (m_uf ar 90 f) rq ou dy := m_up_I rfl
theorem m_up_91 {ar : Nat → Nat → Int32} {rq : Nat → Nat → Option Nat} {ou : Nat → Int64} {dy : Nat → m_C} {f : Nat → Int32} : m_up (m_hp ar rq ou dy) 91 (m_I 0 6 f) = m_hp (m_uf ar 91 f) rq ou dy := m_up_I rfl
theorem m_up_92 {ar : Nat → Nat → Int32} {rq : Nat → Nat → Option Nat} {ou : Nat → Int64} {dy : Nat → m_C} {f : Nat → Int32} : m_up (m_hp ar rq ou dy) 92 (m_I 0 6 f) = m_hp (m_uf ar 92 f) rq ou dy := m_up_I rfl
theorem m_up_93 {ar : Nat → Nat → Int32} {rq : Nat → Nat → Option Nat} {ou : Nat → Int64} {dy : Nat → m_C} {f : Nat → Int32} : m_up (m_hp ar rq ou dy) 93 (m_I 0 6 f) = m_hp (m_uf ar 93 f) rq ou dy := m_up_I rfl
theorem m_up_94 {ar : Nat → Nat → Int32} {rq : Nat → Nat → Option Nat} {ou : Nat → Int64} {dy : Nat → m_C} {f : Nat → Int32} : m_up (m_hp ar rq ou dy) 94 (m_I 0 5 f) = m_hp (m_uf ar 94 f) rq ou dy := m_up_I rfl
theorem m_up_95 {ar : Nat → Nat → Int32} {rq : Nat → Nat → Option Nat} {ou : Nat → Int64} {dy : Nat → m_C} {f : Nat → Int32} : m_up (m_hp ar rq ou dy) 95 (m_I 0 56 f) = m_hp (m_uf ar 95 f) rq ou dy := m_up_I rfl
theorem m_up_96 {ar : Nat → Nat → Int32} {rq : Nat → Nat → Option Nat} {ou : Nat → Int64} {dy : Nat → m_C} {f : Nat → Int32} : m_up (m_hp ar rq ou dy) 96 (m_I 0 40 f) = m_hp (m_uf ar 96 f) rq ou dy := m_up_I rfl
theorem m_up_97 {ar : Nat → Nat → Int32} {rq : Nat → Nat → Option Nat} {ou : Nat → Int64} {dy : Nat → m_C} {f : Nat → Int32} : m_up (m_hp ar rq ou dy) 97 (m_I 0 1 f) = m_hp (m_uf ar 97 f) rq ou dy := m_up_I rfl
theorem m_up_N1 {ar : Nat → Nat → Int32} {rq : Nat → Nat → Option Nat} {ou : Nat → Int64} {dy : Nat → m_C} {B : Nat} {f : Nat → Option Nat} (h : B = 4 ∨ B = 40) : m_up (m_hp ar rq ou dy) (B + 1) (m_Q 4 10 f) = m_hp ar (m_uf rq (B + 1) f) ou dy := m_up_Q (by rcases h with rfl | rfl <;> rfl)
theorem m_up_N2 {ar : Nat → Nat → Int32} {rq : Nat → Nat → Option Nat} {ou : Nat → Int64} {dy : Nat → m_C} {B : Nat} {f : Nat → Int32} (h : B = 4 ∨ B = 40) : m_up (m_hp ar rq ou dy) (B + 2) (m_I 1 10 f) = m_hp (m_uf ar (B + 2) f) rq ou dy := m_up_I (by rcases h with rfl | rfl <;> rfl)
theorem m_up_N14 {ar : Nat → Nat → Int32} {rq : Nat → Nat → Option Nat} {ou : Nat → Int64} {dy : Nat → m_C} {B : Nat} {f : Nat → Option Nat} (h : B = 4 ∨ B = 40) : m_up (m_hp ar rq ou dy) (B + 14) (m_Q 5 10 f) = m_hp ar (m_uf rq (B + 14) f) ou dy := m_up_Q (by rcases h with rfl | rfl <;> rfl)
theorem m_up_N15 {ar : Nat → Nat → Int32} {rq : Nat → Nat → Option Nat} {ou : Nat → Int64} {dy : Nat → m_C} {B : Nat} {f : Nat → Int32} (h : B = 4 ∨ B = 40) : m_up (m_hp ar rq ou dy) (B + 15) (m_I 0 10 f) = m_hp (m_uf ar (B + 15) f) rq ou dy := m_up_I (by rcases h with rfl | rfl <;> rfl)
theorem m_up_N16 {ar : Nat → Nat → Int32} {rq : Nat → Nat → Option Nat} {ou : Nat → Int64} {dy : Nat → m_C} {B : Nat} {f : Nat → Int32} (h : B = 4 ∨ B = 40) : m_up (m_hp ar rq ou dy) (B + 16) (m_I 0 10 f) = m_hp (m_uf ar (B + 16) f) rq ou dy := m_up_I (by rcases h with rfl | rfl <;> rfl)
theorem m_up_N35 {ar : Nat → Nat → Int32} {rq : Nat → Nat → Option Nat} {ou : Nat → Int64} {dy : Nat → m_C} {B : Nat} {f : Nat → Int32} (h : B = 4 ∨ B = 40) : m_up (m_hp ar rq ou dy) (B + 35) (m_I 0 10 f) = m_hp (m_uf ar (B + 35) f) rq ou dy := m_up_I (by rcases h with rfl | rfl <;> rfl)
theorem m_up_Nr3 {ar : Nat → Nat → Int32} {rq : Nat → Nat → Option Nat} {ou : Nat → Int64} {dy : Nat → m_C} {B i : Nat} {f : Nat → Int32} (h : B = 4 ∨ B = 40) (hi : i < 10) : m_up (m_hp ar rq ou dy) (B + 3 + 1 + i) (m_I 0 6 f) = m_hp (m_uf ar (B + 3 + 1 + i) f) rq ou dy := m_up_I (m_shp_N3 h hi)
theorem m_up_Nr17 {ar : Nat → Nat → Int32} {rq : Nat → Nat → Option Nat} {ou : Nat → Int64} {dy : Nat → m_C} {B i : Nat} {f : Nat → Int32} (h : B = 4 ∨ B = 40) (hi : i < 6) : m_up (m_hp ar rq ou dy) (B + 17 + 1 + i) (m_I 0 6 f) = m_hp (m_uf ar (B + 17 + 1 + i) f) rq ou dy := m_up_I (m_shp_N17 h hi)
theorem m_up_Nr24 {ar : Nat → Nat → Int32} {rq : Nat → Nat → Option Nat} {ou : Nat → Int64} {dy : Nat → m_C} {B i : Nat} {f : Nat → Int32} (h : B = 4 ∨ B = 40) (hi : i < 10) : m_up (m_hp ar rq ou dy) (B + 24 + 1 + i) (m_I 0 6 f) = m_hp (m_uf ar (B + 24 + 1 + i) f) rq ou dy := m_up_I (m_shp_N24 h hi)
theorem m_up_r79 {ar : Nat → Nat → Int32} {rq : Nat → Nat → Option Nat} {ou : Nat → Int64} {dy : Nat → m_C} {i : Nat} {f : Nat → Int32} (hi : i < 6) : m_up (m_hp ar rq ou dy) (79 + 1 + i) (m_I 0 6 f) = m_hp (m_uf ar (79 + 1 + i) f) rq ou dy := m_up_I (m_shp_r79 hi)
theorem m_up_r86 {ar : Nat → Nat → Int32} {rq : Nat → Nat → Option Nat} {ou : Nat → Int64} {dy : Nat → m_C} {i : Nat} {f : Nat → Int32} (hi : i < 6) : m_up (m_hp ar rq ou dy) (86 + 1 + i) (m_I 0 6 f) = m_hp (m_uf ar (86 + 1 + i) f) rq ou dy := m_up_I (m_shp_r86 hi)
