/-! the heap at the start -/
def ar0 (a k : Nat) : Int32 := if a = 3 ∧ (k = 13 ∨ k = 14) then -1 else 0
def rq0 (_ _ : Nat) : Option Nat := none
theorem ar0_z {a : Nat} (h1 : a ≠ 3) : ar0 a = fun _ => 0 := by
  funext k
  unfold ar0
  rw [if_neg (by omega)]
theorem ar0_3 : ar0 3 = fun k => if k = 13 ∨ k = 14 then -1 else 0 := by
  funext k
  unfold ar0
  by_cases h : k = 13 ∨ k = 14
  · rw [if_pos h, if_pos ⟨rfl, h⟩]
  · rw [if_neg h, if_neg (by omega)]
theorem x_start {h H : Nat → m_C} {ou : Nat → Int64} (hc : p_club h H) (c94 : H 94 = m_I 0 5 (fun _ => 0)) (c95 : H 95 = m_I 0 56 (fun _ => 0)) (c96 : H 96 = m_I 0 40 (fun _ => 0)) (c97 : H 97 = m_I 0 1 (fun _ => 0)) : H = m_hp ar0 rq0 ou H := by
  obtain ⟨c3, cN, c76, c77, c78, c79, c80, c86, c87, c93⟩ := hc
  obtain ⟨g4, n0, n1, n2, n3, n4, n14, n15, n16, n17, n18, n24, n25, n35, _⟩ := cN 4 (Or.inl rfl)
  obtain ⟨g40, k0, k1, k2, k3, k4, k14, k15, k16, k17, k18, k24, k25, k35, _⟩ := cN 40 (Or.inr rfl)
  funext a
  by_cases hbig : 98 ≤ a
  · exact (m_hp_dy hbig).symm
  by_cases e0 : a = 0
  · subst e0; rfl
  by_cases e1 : a = 1
  · subst e1; rfl
  by_cases e2 : a = 2
  · subst e2; rfl
  by_cases e3 : a = 3
  · subst e3; show H 3 = m_O 7 (m_fC (ar0 3)); rw [ar0_3]; exact c3
  by_cases e4 : a = 4
  · subst e4; show H 4 = m_O 4 (m_fN 4 (ar0 4)); rw [ar0_z (by omega)]; exact n0
  by_cases e5 : a = 5
  · subst e5; exact n1
  by_cases e6 : a = 6
  · subst e6; show H 6 = m_I 1 10 (ar0 6); rw [ar0_z (by omega)]; exact n2
  by_cases e7 : a = 7
  · subst e7; exact n3
  by_cases e8 : a = 8
  · subst e8; show H 8 = m_I 0 6 (ar0 8); rw [ar0_z (by omega)]; exact n4 0 (by omega)
  by_cases e9 : a = 9
  · subst e9; show H 9 = m_I 0 6 (ar0 9); rw [ar0_z (by omega)]; exact n4 1 (by omega)
  by_cases e10 : a = 10
  · subst e10; show H 10 = m_I 0 6 (ar0 10); rw [ar0_z (by omega)]; exact n4 2 (by omega)
  by_cases e11 : a = 11
  · subst e11; show H 11 = m_I 0 6 (ar0 11); rw [ar0_z (by omega)]; exact n4 3 (by omega)
  by_cases e12 : a = 12
  · subst e12; show H 12 = m_I 0 6 (ar0 12); rw [ar0_z (by omega)]; exact n4 4 (by omega)
  by_cases e13 : a = 13
  · subst e13; show H 13 = m_I 0 6 (ar0 13); rw [ar0_z (by omega)]; exact n4 5 (by omega)
  by_cases e14 : a = 14
  · subst e14; show H 14 = m_I 0 6 (ar0 14); rw [ar0_z (by omega)]; exact n4 6 (by omega)
  by_cases e15 : a = 15
  · subst e15; show H 15 = m_I 0 6 (ar0 15); rw [ar0_z (by omega)]; exact n4 7 (by omega)
  by_cases e16 : a = 16
  · subst e16; show H 16 = m_I 0 6 (ar0 16); rw [ar0_z (by omega)]; exact n4 8 (by omega)
  by_cases e17 : a = 17
  · subst e17; show H 17 = m_I 0 6 (ar0 17); rw [ar0_z (by omega)]; exact n4 9 (by omega)
  by_cases e18 : a = 18
  · subst e18; exact n14
  by_cases e19 : a = 19
  · subst e19; show H 19 = m_I 0 10 (ar0 19); rw [ar0_z (by omega)]; exact n15
  by_cases e20 : a = 20
  · subst e20; show H 20 = m_I 0 10 (ar0 20); rw [ar0_z (by omega)]; exact n16
  by_cases e21 : a = 21
  · subst e21; exact n17
  by_cases e22 : a = 22
  · subst e22; show H 22 = m_I 0 6 (ar0 22); rw [ar0_z (by omega)]; exact n18 0 (by omega)
  by_cases e23 : a = 23
  · subst e23; show H 23 = m_I 0 6 (ar0 23); rw [ar0_z (by omega)]; exact n18 1 (by omega)
  by_cases e24 : a = 24
  · subst e24; show H 24 = m_I 0 6 (ar0 24); rw [ar0_z (by omega)]; exact n18 2 (by omega)
  by_cases e25 : a = 25
  · subst e25; show H 25 = m_I 0 6 (ar0 25); rw [ar0_z (by omega)]; exact n18 3 (by omega)
  by_cases e26 : a = 26
  · subst e26; show H 26 = m_I 0 6 (ar0 26); rw [ar0_z (by omega)]; exact n18 4 (by omega)
  by_cases e27 : a = 27
  · subst e27; show H 27 = m_I 0 6 (ar0 27); rw [ar0_z (by omega)]; exact n18 5 (by omega)
  by_cases e28 : a = 28
  · subst e28; exact n24
  by_cases e29 : a = 29
  · subst e29; show H 29 = m_I 0 6 (ar0 29); rw [ar0_z (by omega)]; exact n25 0 (by omega)
  by_cases e30 : a = 30
  · subst e30; show H 30 = m_I 0 6 (ar0 30); rw [ar0_z (by omega)]; exact n25 1 (by omega)
  by_cases e31 : a = 31
  · subst e31; show H 31 = m_I 0 6 (ar0 31); rw [ar0_z (by omega)]; exact n25 2 (by omega)
  by_cases e32 : a = 32
  · subst e32; show H 32 = m_I 0 6 (ar0 32); rw [ar0_z (by omega)]; exact n25 3 (by omega)
  by_cases e33 : a = 33
  · subst e33; show H 33 = m_I 0 6 (ar0 33); rw [ar0_z (by omega)]; exact n25 4 (by omega)
  by_cases e34 : a = 34
  · subst e34; show H 34 = m_I 0 6 (ar0 34); rw [ar0_z (by omega)]; exact n25 5 (by omega)
  by_cases e35 : a = 35
  · subst e35; show H 35 = m_I 0 6 (ar0 35); rw [ar0_z (by omega)]; exact n25 6 (by omega)
  by_cases e36 : a = 36
  · subst e36; show H 36 = m_I 0 6 (ar0 36); rw [ar0_z (by omega)]; exact n25 7 (by omega)
  by_cases e37 : a = 37
  · subst e37; show H 37 = m_I 0 6 (ar0 37); rw [ar0_z (by omega)]; exact n25 8 (by omega)
  by_cases e38 : a = 38
  · subst e38; show H 38 = m_I 0 6 (ar0 38); rw [ar0_z (by omega)]; exact n25 9 (by omega)
  by_cases e39 : a = 39
  · subst e39; show H 39 = m_I 0 10 (ar0 39); rw [ar0_z (by omega)]; exact n35
  by_cases e40 : a = 40
  · subst e40; show H 40 = m_O 4 (m_fN 40 (ar0 40)); rw [ar0_z (by omega)]; exact k0
  by_cases e41 : a = 41
  · subst e41; exact k1
  by_cases e42 : a = 42
  · subst e42; show H 42 = m_I 1 10 (ar0 42); rw [ar0_z (by omega)]; exact k2
  by_cases e43 : a = 43
  · subst e43; exact k3
  by_cases e44 : a = 44
  · subst e44; show H 44 = m_I 0 6 (ar0 44); rw [ar0_z (by omega)]; exact k4 0 (by omega)
  by_cases e45 : a = 45
  · subst e45; show H 45 = m_I 0 6 (ar0 45); rw [ar0_z (by omega)]; exact k4 1 (by omega)
  by_cases e46 : a = 46
  · subst e46; show H 46 = m_I 0 6 (ar0 46); rw [ar0_z (by omega)]; exact k4 2 (by omega)
  by_cases e47 : a = 47
  · subst e47; show H 47 = m_I 0 6 (ar0 47); rw [ar0_z (by omega)]; exact k4 3 (by omega)
  by_cases e48 : a = 48
  · subst e48; show H 48 = m_I 0 6 (ar0 48); rw [ar0_z (by omega)]; exact k4 4 (by omega)
  by_cases e49 : a = 49
  · subst e49; show H 49 = m_I 0 6 (ar0 49); rw [ar0_z (by omega)]; exact k4 5 (by omega)
  by_cases e50 : a = 50
  · subst e50; show H 50 = m_I 0 6 (ar0 50); rw [ar0_z (by omega)]; exact k4 6 (by omega)
  by_cases e51 : a = 51
  · subst e51; show H 51 = m_I 0 6 (ar0 51); rw [ar0_z (by omega)]; exact k4 7 (by omega)
  by_cases e52 : a = 52
  · subst e52; show H 52 = m_I 0 6 (ar0 52); rw [ar0_z (by omega)]; exact k4 8 (by omega)
  by_cases e53 : a = 53
  · subst e53; show H 53 = m_I 0 6 (ar0 53); rw [ar0_z (by omega)]; exact k4 9 (by omega)
  by_cases e54 : a = 54
  · subst e54; exact k14
  by_cases e55 : a = 55
  · subst e55; show H 55 = m_I 0 10 (ar0 55); rw [ar0_z (by omega)]; exact k15
  by_cases e56 : a = 56
  · subst e56; show H 56 = m_I 0 10 (ar0 56); rw [ar0_z (by omega)]; exact k16
  by_cases e57 : a = 57
  · subst e57; exact k17
  by_cases e58 : a = 58
  · subst e58; show H 58 = m_I 0 6 (ar0 58); rw [ar0_z (by omega)]; exact k18 0 (by omega)
  by_cases e59 : a = 59
  · subst e59; show H 59 = m_I 0 6 (ar0 59); rw [ar0_z (by omega)]; exact k18 1 (by omega)
  by_cases e60 : a = 60
  · subst e60; show H 60 = m_I 0 6 (ar0 60); rw [ar0_z (by omega)]; exact k18 2 (by omega)
  by_cases e61 : a = 61
  · subst e61; show H 61 = m_I 0 6 (ar0 61); rw [ar0_z (by omega)]; exact k18 3 (by omega)
  by_cases e62 : a = 62
  · subst e62; show H 62 = m_I 0 6 (ar0 62); rw [ar0_z (by omega)]; exact k18 4 (by omega)
  by_cases e63 : a = 63
  · subst e63; show H 63 = m_I 0 6 (ar0 63); rw [ar0_z (by omega)]; exact k18 5 (by omega)
  by_cases e64 : a = 64
  · subst e64; exact k24
  by_cases e65 : a = 65
  · subst e65; show H 65 = m_I 0 6 (ar0 65); rw [ar0_z (by omega)]; exact k25 0 (by omega)
  by_cases e66 : a = 66
  · subst e66; show H 66 = m_I 0 6 (ar0 66); rw [ar0_z (by omega)]; exact k25 1 (by omega)
  by_cases e67 : a = 67
  · subst e67; show H 67 = m_I 0 6 (ar0 67); rw [ar0_z (by omega)]; exact k25 2 (by omega)
  by_cases e68 : a = 68
  · subst e68; show H 68 = m_I 0 6 (ar0 68); rw [ar0_z (by omega)]; exact k25 3 (by omega)
  by_cases e69 : a = 69
  · subst e69; show H 69 = m_I 0 6 (ar0 69); rw [ar0_z (by omega)]; exact k25 4 (by omega)
  by_cases e70 : a = 70
  · subst e70; show H 70 = m_I 0 6 (ar0 70); rw [ar0_z (by omega)]; exact k25 5 (by omega)
  by_cases e71 : a = 71
  · subst e71; show H 71 = m_I 0 6 (ar0 71); rw [ar0_z (by omega)]; exact k25 6 (by omega)
  by_cases e72 : a = 72
  · subst e72; show H 72 = m_I 0 6 (ar0 72); rw [ar0_z (by omega)]; exact k25 7 (by omega)
  by_cases e73 : a = 73
  · subst e73; show H 73 = m_I 0 6 (ar0 73); rw [ar0_z (by omega)]; exact k25 8 (by omega)
  by_cases e74 : a = 74
  · subst e74; show H 74 = m_I 0 6 (ar0 74); rw [ar0_z (by omega)]; exact k25 9 (by omega)
  by_cases e75 : a = 75
  · subst e75; show H 75 = m_I 0 10 (ar0 75); rw [ar0_z (by omega)]; exact k35
  by_cases e76 : a = 76
  · subst e76; exact c76
  by_cases e77 : a = 77
  · subst e77; exact c77
  by_cases e78 : a = 78
  · subst e78; rfl
  by_cases e79 : a = 79
  · subst e79; exact c79
  by_cases e80 : a = 80
  · subst e80; show H 80 = m_I 0 6 (ar0 80); rw [ar0_z (by omega)]; exact c80 0 (by omega)
  by_cases e81 : a = 81
  · subst e81; show H 81 = m_I 0 6 (ar0 81); rw [ar0_z (by omega)]; exact c80 1 (by omega)
  by_cases e82 : a = 82
  · subst e82; show H 82 = m_I 0 6 (ar0 82); rw [ar0_z (by omega)]; exact c80 2 (by omega)
  by_cases e83 : a = 83
  · subst e83; show H 83 = m_I 0 6 (ar0 83); rw [ar0_z (by omega)]; exact c80 3 (by omega)
  by_cases e84 : a = 84
  · subst e84; show H 84 = m_I 0 6 (ar0 84); rw [ar0_z (by omega)]; exact c80 4 (by omega)
  by_cases e85 : a = 85
  · subst e85; show H 85 = m_I 0 6 (ar0 85); rw [ar0_z (by omega)]; exact c80 5 (by omega)
  by_cases e86 : a = 86
  · subst e86; exact c86
  by_cases e87 : a = 87
  · subst e87; show H 87 = m_I 0 6 (ar0 87); rw [ar0_z (by omega)]; exact c87 0 (by omega)
  by_cases e88 : a = 88
  · subst e88; show H 88 = m_I 0 6 (ar0 88); rw [ar0_z (by omega)]; exact c87 1 (by omega)
  by_cases e89 : a = 89
  · subst e89; show H 89 = m_I 0 6 (ar0 89); rw [ar0_z (by omega)]; exact c87 2 (by omega)
  by_cases e90 : a = 90
  · subst e90; show H 90 = m_I 0 6 (ar0 90); rw [ar0_z (by omega)]; exact c87 3 (by omega)
  by_cases e91 : a = 91
  · subst e91; show H 91 = m_I 0 6 (ar0 91); rw [ar0_z (by omega)]; exact c87 4 (by omega)
  by_cases e92 : a = 92
  · subst e92; show H 92 = m_I 0 6 (ar0 92); rw [ar0_z (by omega)]; exact c87 5 (by omega)
  by_cases e93 : a = 93
  · subst e93; show H 93 = m_I 0 6 (ar0 93); rw [ar0_z (by omega)]; exact c93
  by_cases e94 : a = 94
  · subst e94; show H 94 = m_I 0 5 (ar0 94); rw [ar0_z (by omega)]; exact c94
  by_cases e95 : a = 95
  · subst e95; show H 95 = m_I 0 56 (ar0 95); rw [ar0_z (by omega)]; exact c95
  by_cases e96 : a = 96
  · subst e96; show H 96 = m_I 0 40 (ar0 96); rw [ar0_z (by omega)]; exact c96
  by_cases e97 : a = 97
  · subst e97; show H 97 = m_I 0 1 (ar0 97); rw [ar0_z (by omega)]; exact c97
  exact absurd hbig (by omega)
theorem p_club_cg {h h' h2 : Nat → m_C} (H : p_club h h') (e : ∀ a, a < 94 → h2 a = h' a) : p_club h h2 := by
  obtain ⟨c3, cN, c76, c77, c78, c79, c80, c86, c87, c93⟩ := H
  exact ⟨by rw [e 3 (by omega)]; exact c3, fun B hB => by
    obtain ⟨h0, q⟩ := cN B hB
    exact ⟨h2, p_net_cg q (fun a h1 h2 => e a (by omega))⟩, by rw [e 76 (by omega)]; exact c76, by rw [e 77 (by omega)]; exact c77, by rw [e 78 (by omega)]; exact c78, by rw [e 79 (by omega)]; exact c79, fun i hi => by rw [e _ (by omega)]; exact c80 i hi, by rw [e 86 (by omega)]; exact c86, fun i hi => by rw [e _ (by omega)]; exact c87 i hi, by rw [e 93 (by omega)]; exact c93⟩
theorem w_J_0 {ou : Nat → Int64} {H : Nat → m_C} (h78 : H 78 = m_O 0 [.int 0, .ref 1, .int 0]) : w_J 0 (95, m_hp ar0 rq0 ou H) := by
  have no : ∀ {p : Nat → Prop}, ∀ c, c < 0 → p c := fun c hc => absurd hc (Nat.not_lt_zero c)
  have z : ∀ a k, a ≠ 3 → ar0 a k = 0 := fun a k h1 => by rw [ar0_z h1]
  have z3 : ∀ k, k ≠ 13 → k ≠ 14 → ar0 3 k = 0 := fun k h1 h2 => by rw [ar0_3]; exact if_neg (by omega)
  refine ⟨95, 0, 0, 0, 0, 0, (fun _ _ => 0), (fun _ _ => 0), (fun _ _ => 0), (fun _ _ => 0), (fun _ _ => 0), -1, -1, (0, (fun _ _ => 0), ar0 93, 0, 0, ((fun _ _ => 0), (fun _ => none), (fun _ _ => 0), (fun _ => none), (fun _ => 0)), (fun _ => none), (fun _ => 0)), ar0, rq0, ou, H, rfl, ⟨by omega, (fun _ => 0), (fun _ => 0), (fun _ => 0), (fun _ => 0), (fun _ => 0), ⟨?_, ?_, ?_, ?_, ?_, ?_, ?_, rfl, z3 9 (by omega) (by omega)⟩, z3 8 (by omega) (by omega)⟩, pi_0, ⟨no, no, Nat.le_refl _, ⟨0, ⟨fun _ => 0, 0, fun j hj => ⟨?_, (by show -((1000 * 0 : Nat) : Int) ≤ (0 : Int); decide), (by show (0 : Int) ≤ ((1000 * 0 : Nat) : Int); decide)⟩, rfl, by decide, by decide, by decide, rfl⟩, rfl⟩, fun _ _ => 0, fun i hi j hj => ⟨rfl, Nat.zero_le _⟩⟩, ⟨⟨z 94 0 (by omega), z 94 1 (by omega), z 94 2 (by omega), z 94 3 (by omega), z 94 4 (by omega)⟩, no, no, no, fun _ => ⟨z 95 0 (by omega), z 95 1 (by omega)⟩, 0, z 97 0 (by omega), Nat.le_refl _⟩, Nat.le_refl _⟩
  · exact ⟨by omega, z 4 7 (by omega), no, no, no, no⟩
  · exact ⟨by omega, z 4 8 (by omega), no, no⟩
  · exact ⟨by omega, z3 10 (by omega) (by omega), no, no⟩
  · exact ⟨by omega, z3 11 (by omega) (by omega), no, no⟩
  · exact ⟨by omega, ⟨0, 1, h78, Or.inl ⟨rfl, rfl⟩⟩, no, no⟩
  · exact ⟨z3 12 (by omega) (by omega), by rw [ar0_3]; exact if_pos (Or.inl rfl), by rw [ar0_3]; exact if_pos (Or.inr rfl), fun a ha b hb => ⟨z _ _ (by omega), z _ _ (by omega)⟩⟩
  · exact Or.inl ⟨z 4 15 (by omega), no, fun i hi j hj => z _ _ (by omega), no, no⟩
  · exact z 93 j (by omega)
