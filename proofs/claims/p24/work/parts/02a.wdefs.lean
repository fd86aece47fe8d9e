def m_WS : List Cond := lw_tbl.filter goodWord
theorem m_WSg {w : Cond} (h : w ∈ m_WS) : w ∈ lw_tbl ∧ goodWord w = true := List.mem_filter.mp h
/-- words that a warmer table keeps, though they are none of the good ones -/
def m_cwd : Cond → Bool
  | .castable _ _ => true
  | .methodLinkNest _ _ _ _ => true
  | .declares _ => true
  | _ => false
def m_CW : List Cond := lw_tbl.filter m_cwd
theorem m_wk {w : Cond} (k : Nat) (h : lw_tbl[k]? = some w) (g : goodWord w = true) : w ∈ m_WS := List.mem_filter.mpr ⟨List.mem_of_getElem? h, g⟩
theorem m_wc {w : Cond} (k : Nat) (h : lw_tbl[k]? = some w) (g : m_cwd w = true) : w ∈ m_CW := List.mem_filter.mpr ⟨List.mem_of_getElem? h, g⟩
