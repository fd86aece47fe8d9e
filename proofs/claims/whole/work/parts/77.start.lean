/-! the heap at the start -/
def ar0 (a k : Nat) : Int32 := if (a = 3 ∧ (k = 13 ∨ k = 14)) ∨ (a = 94 ∧ (k = 22 ∨ k = 23)) ∨ (a = 111 ∧ k < 3) then -1 else 0
def rq0 (_ _ : Nat) : Option Nat := none
theorem ar0_z {a : Nat} (h1 : a ≠ 3) (h2 : a ≠ 94) (h3 : a ≠ 111) : ar0 a = fun _ => 0 := by
  funext k
  unfold ar0
  rw [if_neg (by omega)]
theorem ar0_3 : ar0 3 = fun k => if k = 13 ∨ k = 14 then -1 else 0 := by
  funext k
  unfold ar0
  by_cases h : k = 13 ∨ k = 14
  · rw [if_pos h, if_pos (Or.inl ⟨rfl, h⟩)]
  · rw [if_neg h, if_neg (by omega)]
theorem ar0_94 : ar0 94 = fun k => if k = 22 ∨ k = 23 then -1 else 0 := by
  funext k
  unfold ar0
  by_cases h : k = 22 ∨ k = 23
  · rw [if_pos h, if_pos (Or.inr (Or.inl ⟨rfl, h⟩))]
  · rw [if_neg h, if_neg (by omega)]
theorem ar0_111 : ar0 111 = upd (upd (upd (fun _ => 0) 0 (-1)) 1 (-1)) 2 (-1) := by
  funext k
  unfold ar0 upd
  by_cases h2 : k = 2
  · rw [if_pos h2, if_pos (by omega)]
  · by_cases h1 : k = 1
    · rw [if_neg h2, if_pos h1, if_pos (by omega)]
    · by_cases h0 : k = 0
      · rw [if_neg h2, if_neg h1, if_pos h0, if_pos (by omega)]
      · rw [if_neg h2, if_neg h1, if_neg h0, if_neg (by omega)]
theorem x_start {h H : Nat → m_C} {ou : Nat → Int64} (hc : p_club h H) (hm : p_mod H) (h119 : H 119 = m_J 1 ou) : H = m_hp ar0 rq0 ou H := by
  obtain ⟨c3, cN, c76, c77, c78, c79, c80, c86, c87, c93⟩ := hc
  obtain ⟨g4, n0, n1, n2, n3, n4, n14, n15, n16, n17, n18, n24, n25, n35, _⟩ := cN 4 (Or.inl rfl)
  obtain ⟨g40, k0, k1, k2, k3, k4, k14, k15, k16, k17, k18, k24, k25, k35, _⟩ := cN 40 (Or.inr rfl)
  obtain ⟨m94, m95, m96, m97, m98, m99, m100, m101, m102, m103, m104, m105, m106, m107, m108, m109, m110, m111, m112, m113, m114, m115, m116, m117, m118⟩ := hm
  funext a
  by_cases hbig : 120 ≤ a
  · exact (m_hp_dy hbig).symm
  by_cases e0 : a = 0
  · subst e0; rfl
  by_cases e1 : a = 1
  · subst e1; rfl
  by_cases e2 : a = 2
  · subst e2; rfl
  by_cases e3 : a = 3
  · subst e3; show H 3 = m_O 7 (m_fC (ar0 3)); rw [ar0_3]; exact c3
  by_cases e4 : a = 4
  · subst e4; show H 4 = m_O 4 (m_fN 4 (ar0 4)); rw [ar0_z (by omega) (by omega) (by omega)]; exact n0
  by_cases e5 : a = 5
  · subst e5; exact n1
  by_cases e6 : a = 6
  · subst e6; show H 6 = m_I 1 10 (ar0 6); rw [ar0_z (by omega) (by omega) (by omega)]; exact n2
  by_cases e7 : a = 7
  · subst e7; exact n3
  by_cases e8 : a = 8
  · subst e8; show H 8 = m_I 0 6 (ar0 8); rw [ar0_z (by omega) (by omega) (by omega)]; exact n4 0 (by omega)
  by_cases e9 : a = 9
  · subst e9; show H 9 = m_I 0 6 (ar0 9); rw [ar0_z (by omega) (by omega) (by omega)]; exact n4 1 (by omega)
  by_cases e10 : a = 10
  · subst e10; show H 10 = m_I 0 6 (ar0 10); rw [ar0_z (by omega) (by omega) (by omega)]; exact n4 2 (by omega)
  by_cases e11 : a = 11
  · subst e11; show H 11 = m_I 0 6 (ar0 11); rw [ar0_z (by omega) (by omega) (by omega)]; exact n4 3 (by omega)
  by_cases e12 : a = 12
  · subst e12; show H 12 = m_I 0 6 (ar0 12); rw [ar0_z (by omega) (by omega) (by omega)]; exact n4 4 (by omega)
  by_cases e13 : a = 13
  · subst e13; show H 13 = m_I 0 6 (ar0 13); rw [ar0_z (by omega) (by omega) (by omega)]; exact n4 5 (by omega)
  by_cases e14 : a = 14
  · subst e14; show H 14 = m_I 0 6 (ar0 14); rw [ar0_z (by omega) (by omega) (by omega)]; exact n4 6 (by omega)
  by_cases e15 : a = 15
  · subst e15; show H 15 = m_I 0 6 (ar0 15); rw [ar0_z (by omega) (by omega) (by omega)]; exact n4 7 (by omega)
  by_cases e16 : a = 16
  · subst e16; show H 16 = m_I 0 6 (ar0 16); rw [ar0_z (by omega) (by omega) (by omega)]; exact n4 8 (by omega)
  by_cases e17 : a = 17
  · subst e17; show H 17 = m_I 0 6 (ar0 17); rw [ar0_z (by omega) (by omega) (by omega)]; exact n4 9 (by omega)
  by_cases e18 : a = 18
  · subst e18; exact n14
  by_cases e19 : a = 19
  · subst e19; show H 19 = m_I 0 10 (ar0 19); rw [ar0_z (by omega) (by omega) (by omega)]; exact n15
  by_cases e20 : a = 20
  · subst e20; show H 20 = m_I 0 10 (ar0 20); rw [ar0_z (by omega) (by omega) (by omega)]; exact n16
  by_cases e21 : a = 21
  · subst e21; exact n17
  by_cases e22 : a = 22
  · subst e22; show H 22 = m_I 0 6 (ar0 22); rw [ar0_z (by omega) (by omega) (by omega)]; exact n18 0 (by omega)
  by_cases e23 : a = 23
  · subst e23; show H 23 = m_I 0 6 (ar0 23); rw [ar0_z (by omega) (by omega) (by omega)]; exact n18 1 (by omega)
  by_cases e24 : a = 24
  · subst e24; show H 24 = m_I 0 6 (ar0 24); rw [ar0_z (by omega) (by omega) (by omega)]; exact n18 2 (by omega)
  by_cases e25 : a = 25
  · subst e25; show H 25 = m_I 0 6 (ar0 25); rw [ar0_z (by omega) (by omega) (by omega)]; exact n18 3 (by omega)
  by_cases e26 : a = 26
  · subst e26; show H 26 = m_I 0 6 (ar0 26); rw [ar0_z (by omega) (by omega) (by omega)]; exact n18 4 (by omega)
  by_cases e27 : a = 27
  · subst e27; show H 27 = m_I 0 6 (ar0 27); rw [ar0_z (by omega) (by omega) (by omega)]; exact n18 5 (by omega)
  by_cases e28 : a = 28
  · subst e28; exact n24
  by_cases e29 : a = 29
  · subst e29; show H 29 = m_I 0 6 (ar0 29); rw [ar0_z (by omega) (by omega) (by omega)]; exact n25 0 (by omega)
  by_cases e30 : a = 30
  · subst e30; show H 30 = m_I 0 6 (ar0 30); rw [ar0_z (by omega) (by omega) (by omega)]; exact n25 1 (by omega)
  by_cases e31 : a = 31
  · subst e31; show H 31 = m_I 0 6 (ar0 31); rw [ar0_z (by omega) (by omega) (by omega)]; exact n25 2 (by omega)
  by_cases e32 : a = 32
  · subst e32; show H 32 = m_I 0 6 (ar0 32); rw [ar0_z (by omega) (by omega) (by omega)]; exact n25 3 (by omega)
  by_cases e33 : a = 33
  · subst e33; show H 33 = m_I 0 6 (ar0 33); rw [ar0_z (by omega) (by omega) (by omega)]; exact n25 4 (by omega)
  by_cases e34 : a = 34
  · subst e34; show H 34 = m_I 0 6 (ar0 34); rw [ar0_z (by omega) (by omega) (by omega)]; exact n25 5 (by omega)
  by_cases e35 : a = 35
  · subst e35; show H 35 = m_I 0 6 (ar0 35); rw [ar0_z (by omega) (by omega) (by omega)]; exact n25 6 (by omega)
  by_cases e36 : a = 36
  · subst e36; show H 36 = m_I 0 6 (ar0 36); rw [ar0_z (by omega) (by omega) (by omega)]; exact n25 7 (by omega)
  by_cases e37 : a = 37
  · subst e37; show H 37 = m_I 0 6 (ar0 37); rw [ar0_z (by omega) (by omega) (by omega)]; exact n25 8 (by omega)
  by_cases e38 : a = 38
  · subst e38; show H 38 = m_I 0 6 (ar0 38); rw [ar0_z (by omega) (by omega) (by omega)]; exact n25 9 (by omega)
  by_cases e39 : a = 39
  · subst e39; show H 39 = m_I 0 10 (ar0 39); rw [ar0_z (by omega) (by omega) (by omega)]; exact n35
  by_cases e40 : a = 40
  · subst e40; show H 40 = m_O 4 (m_fN 40 (ar0 40)); rw [ar0_z (by omega) (by omega) (by omega)]; exact k0
  by_cases e41 : a = 41
  · subst e41; exact k1
  by_cases e42 : a = 42
  · subst e42; show H 42 = m_I 1 10 (ar0 42); rw [ar0_z (by omega) (by omega) (by omega)]; exact k2
  by_cases e43 : a = 43
  · subst e43; exact k3
  by_cases e44 : a = 44
  · subst e44; show H 44 = m_I 0 6 (ar0 44); rw [ar0_z (by omega) (by omega) (by omega)]; exact k4 0 (by omega)
  by_cases e45 : a = 45
  · subst e45; show H 45 = m_I 0 6 (ar0 45); rw [ar0_z (by omega) (by omega) (by omega)]; exact k4 1 (by omega)
  by_cases e46 : a = 46
  · subst e46; show H 46 = m_I 0 6 (ar0 46); rw [ar0_z (by omega) (by omega) (by omega)]; exact k4 2 (by omega)
  by_cases e47 : a = 47
  · subst e47; show H 47 = m_I 0 6 (ar0 47); rw [ar0_z (by omega) (by omega) (by omega)]; exact k4 3 (by omega)
  by_cases e48 : a = 48
  · subst e48; show H 48 = m_I 0 6 (ar0 48); rw [ar0_z (by omega) (by omega) (by omega)]; exact k4 4 (by omega)
  by_cases e49 : a = 49
  · subst e49; show H 49 = m_I 0 6 (ar0 49); rw [ar0_z (by omega) (by omega) (by omega)]; exact k4 5 (by omega)
  by_cases e50 : a = 50
  · subst e50; show H 50 = m_I 0 6 (ar0 50); rw [ar0_z (by omega) (by omega) (by omega)]; exact k4 6 (by omega)
  by_cases e51 : a = 51
  · subst e51; show H 51 = m_I 0 6 (ar0 51); rw [ar0_z (by omega) (by omega) (by omega)]; exact k4 7 (by omega)
  by_cases e52 : a = 52
  · subst e52; show H 52 = m_I 0 6 (ar0 52); rw [ar0_z (by omega) (by omega) (by omega)]; exact k4 8 (by omega)
  by_cases e53 : a = 53
  · subst e53; show H 53 = m_I 0 6 (ar0 53); rw [ar0_z (by omega) (by omega) (by omega)]; exact k4 9 (by omega)
  by_cases e54 : a = 54
  · subst e54; exact k14
  by_cases e55 : a = 55
  · subst e55; show H 55 = m_I 0 10 (ar0 55); rw [ar0_z (by omega) (by omega) (by omega)]; exact k15
  by_cases e56 : a = 56
  · subst e56; show H 56 = m_I 0 10 (ar0 56); rw [ar0_z (by omega) (by omega) (by omega)]; exact k16
  by_cases e57 : a = 57
  · subst e57; exact k17
  by_cases e58 : a = 58
  · subst e58; show H 58 = m_I 0 6 (ar0 58); rw [ar0_z (by omega) (by omega) (by omega)]; exact k18 0 (by omega)
  by_cases e59 : a = 59
  · subst e59; show H 59 = m_I 0 6 (ar0 59); rw [ar0_z (by omega) (by omega) (by omega)]; exact k18 1 (by omega)
  by_cases e60 : a = 60
  · subst e60; show H 60 = m_I 0 6 (ar0 60); rw [ar0_z (by omega) (by omega) (by omega)]; exact k18 2 (by omega)
  by_cases e61 : a = 61
  · subst e61; show H 61 = m_I 0 6 (ar0 61); rw [ar0_z (by omega) (by omega) (by omega)]; exact k18 3 (by omega)
  by_cases e62 : a = 62
  · subst e62; show H 62 = m_I 0 6 (ar0 62); rw [ar0_z (by omega) (by omega) (by omega)]; exact k18 4 (by omega)
  by_cases e63 : a = 63
  · subst e63; show H 63 = m_I 0 6 (ar0 63); rw [ar0_z (by omega) (by omega) (by omega)]; exact k18 5 (by omega)
  by_cases e64 : a = 64
  · subst e64; exact k24
  by_cases e65 : a = 65
  · subst e65; show H 65 = m_I 0 6 (ar0 65); rw [ar0_z (by omega) (by omega) (by omega)]; exact k25 0 (by omega)
  by_cases e66 : a = 66
  · subst e66; show H 66 = m_I 0 6 (ar0 66); rw [ar0_z (by omega) (by omega) (by omega)]; exact k25 1 (by omega)
  by_cases e67 : a = 67
  · subst e67; show H 67 = m_I 0 6 (ar0 67); rw [ar0_z (by omega) (by omega) (by omega)]; exact k25 2 (by omega)
  by_cases e68 : a = 68
  · subst e68; show H 68 = m_I 0 6 (ar0 68); rw [ar0_z (by omega) (by omega) (by omega)]; exact k25 3 (by omega)
  by_cases e69 : a = 69
  · subst e69; show H 69 = m_I 0 6 (ar0 69); rw [ar0_z (by omega) (by omega) (by omega)]; exact k25 4 (by omega)
  by_cases e70 : a = 70
  · subst e70; show H 70 = m_I 0 6 (ar0 70); rw [ar0_z (by omega) (by omega) (by omega)]; exact k25 5 (by omega)
  by_cases e71 : a = 71
  · subst e71; show H 71 = m_I 0 6 (ar0 71); rw [ar0_z (by omega) (by omega) (by omega)]; exact k25 6 (by omega)
  by_cases e72 : a = 72
  · subst e72; show H 72 = m_I 0 6 (ar0 72); rw [ar0_z (by omega) (by omega) (by omega)]; exact k25 7 (by omega)
  by_cases e73 : a = 73
  · subst e73; show H 73 = m_I 0 6 (ar0 73); rw [ar0_z (by omega) (by omega) (by omega)]; exact k25 8 (by omega)
  by_cases e74 : a = 74
  · subst e74; show H 74 = m_I 0 6 (ar0 74); rw [ar0_z (by omega) (by omega) (by omega)]; exact k25 9 (by omega)
  by_cases e75 : a = 75
  · subst e75; show H 75 = m_I 0 10 (ar0 75); rw [ar0_z (by omega) (by omega) (by omega)]; exact k35
  by_cases e76 : a = 76
  · subst e76; exact c76
  by_cases e77 : a = 77
  · subst e77; exact c77
  by_cases e78 : a = 78
  · subst e78; rfl
  by_cases e79 : a = 79
  · subst e79; exact c79
  by_cases e80 : a = 80
  · subst e80; show H 80 = m_I 0 6 (ar0 80); rw [ar0_z (by omega) (by omega) (by omega)]; exact c80 0 (by omega)
  by_cases e81 : a = 81
  · subst e81; show H 81 = m_I 0 6 (ar0 81); rw [ar0_z (by omega) (by omega) (by omega)]; exact c80 1 (by omega)
  by_cases e82 : a = 82
  · subst e82; show H 82 = m_I 0 6 (ar0 82); rw [ar0_z (by omega) (by omega) (by omega)]; exact c80 2 (by omega)
  by_cases e83 : a = 83
  · subst e83; show H 83 = m_I 0 6 (ar0 83); rw [ar0_z (by omega) (by omega) (by omega)]; exact c80 3 (by omega)
  by_cases e84 : a = 84
  · subst e84; show H 84 = m_I 0 6 (ar0 84); rw [ar0_z (by omega) (by omega) (by omega)]; exact c80 4 (by omega)
  by_cases e85 : a = 85
  · subst e85; show H 85 = m_I 0 6 (ar0 85); rw [ar0_z (by omega) (by omega) (by omega)]; exact c80 5 (by omega)
  by_cases e86 : a = 86
  · subst e86; exact c86
  by_cases e87 : a = 87
  · subst e87; show H 87 = m_I 0 6 (ar0 87); rw [ar0_z (by omega) (by omega) (by omega)]; exact c87 0 (by omega)
  by_cases e88 : a = 88
  · subst e88; show H 88 = m_I 0 6 (ar0 88); rw [ar0_z (by omega) (by omega) (by omega)]; exact c87 1 (by omega)
  by_cases e89 : a = 89
  · subst e89; show H 89 = m_I 0 6 (ar0 89); rw [ar0_z (by omega) (by omega) (by omega)]; exact c87 2 (by omega)
  by_cases e90 : a = 90
  · subst e90; show H 90 = m_I 0 6 (ar0 90); rw [ar0_z (by omega) (by omega) (by omega)]; exact c87 3 (by omega)
  by_cases e91 : a = 91
  · subst e91; show H 91 = m_I 0 6 (ar0 91); rw [ar0_z (by omega) (by omega) (by omega)]; exact c87 4 (by omega)
  by_cases e92 : a = 92
  · subst e92; show H 92 = m_I 0 6 (ar0 92); rw [ar0_z (by omega) (by omega) (by omega)]; exact c87 5 (by omega)
  by_cases e93 : a = 93
  · subst e93; show H 93 = m_I 0 6 (ar0 93); rw [ar0_z (by omega) (by omega) (by omega)]; exact c93
  by_cases e94 : a = 94
  · subst e94; show H 94 = m_O 8 (m_fM (ar0 94)); rw [ar0_94]; exact m94
  by_cases e95 : a = 95
  · subst e95; show H 95 = m_I 0 10 (ar0 95); rw [ar0_z (by omega) (by omega) (by omega)]; exact m95
  by_cases e96 : a = 96
  · subst e96; show H 96 = m_I 0 10 (ar0 96); rw [ar0_z (by omega) (by omega) (by omega)]; exact m96
  by_cases e97 : a = 97
  · subst e97; show H 97 = m_I 0 60 (ar0 97); rw [ar0_z (by omega) (by omega) (by omega)]; exact m97
  by_cases e98 : a = 98
  · subst e98; show H 98 = m_I 0 10 (ar0 98); rw [ar0_z (by omega) (by omega) (by omega)]; exact m98
  by_cases e99 : a = 99
  · subst e99; show H 99 = m_I 0 10 (ar0 99); rw [ar0_z (by omega) (by omega) (by omega)]; exact m99
  by_cases e100 : a = 100
  · subst e100; show H 100 = m_I 0 10 (ar0 100); rw [ar0_z (by omega) (by omega) (by omega)]; exact m100
  by_cases e101 : a = 101
  · subst e101; show H 101 = m_I 0 10 (ar0 101); rw [ar0_z (by omega) (by omega) (by omega)]; exact m101
  by_cases e102 : a = 102
  · subst e102; show H 102 = m_I 0 10 (ar0 102); rw [ar0_z (by omega) (by omega) (by omega)]; exact m102
  by_cases e103 : a = 103
  · subst e103; show H 103 = m_I 0 10 (ar0 103); rw [ar0_z (by omega) (by omega) (by omega)]; exact m103
  by_cases e104 : a = 104
  · subst e104; show H 104 = m_I 0 16 (ar0 104); rw [ar0_z (by omega) (by omega) (by omega)]; exact m104
  by_cases e105 : a = 105
  · subst e105; show H 105 = m_I 0 16 (ar0 105); rw [ar0_z (by omega) (by omega) (by omega)]; exact m105
  by_cases e106 : a = 106
  · subst e106; show H 106 = m_I 0 16 (ar0 106); rw [ar0_z (by omega) (by omega) (by omega)]; exact m106
  by_cases e107 : a = 107
  · subst e107; show H 107 = m_I 0 16 (ar0 107); rw [ar0_z (by omega) (by omega) (by omega)]; exact m107
  by_cases e108 : a = 108
  · subst e108; show H 108 = m_I 0 3 (ar0 108); rw [ar0_z (by omega) (by omega) (by omega)]; exact m108
  by_cases e109 : a = 109
  · subst e109; show H 109 = m_I 0 3 (ar0 109); rw [ar0_z (by omega) (by omega) (by omega)]; exact m109
  by_cases e110 : a = 110
  · subst e110; show H 110 = m_I 0 3 (ar0 110); rw [ar0_z (by omega) (by omega) (by omega)]; exact m110
  by_cases e111 : a = 111
  · subst e111; show H 111 = m_I 0 3 (ar0 111); rw [ar0_111]; exact m111
  by_cases e112 : a = 112
  · subst e112; show H 112 = m_I 0 36 (ar0 112); rw [ar0_z (by omega) (by omega) (by omega)]; exact m112
  by_cases e113 : a = 113
  · subst e113; show H 113 = m_I 0 36 (ar0 113); rw [ar0_z (by omega) (by omega) (by omega)]; exact m113
  by_cases e114 : a = 114
  · subst e114; show H 114 = m_I 0 7 (ar0 114); rw [ar0_z (by omega) (by omega) (by omega)]; exact m114
  by_cases e115 : a = 115
  · subst e115; show H 115 = m_I 0 60 (ar0 115); rw [ar0_z (by omega) (by omega) (by omega)]; exact m115
  by_cases e116 : a = 116
  · subst e116; show H 116 = m_I 0 8 (ar0 116); rw [ar0_z (by omega) (by omega) (by omega)]; exact m116
  by_cases e117 : a = 117
  · subst e117; show H 117 = m_I 0 8 (ar0 117); rw [ar0_z (by omega) (by omega) (by omega)]; exact m117
  by_cases e118 : a = 118
  · subst e118; show H 118 = m_I 0 8 (ar0 118); rw [ar0_z (by omega) (by omega) (by omega)]; exact m118
  by_cases e119 : a = 119
  · subst e119; exact h119
  exact absurd hbig (by omega)
