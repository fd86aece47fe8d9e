def m_cdl : List (List (Nat × m_Op)) := [cd_X0_init, cd_X0_across, cd_X1_init, cd_X2_init, cd_X3_init, cd_X3_clear, cd_X3_lay, cd_X3_tell, cd_X3_hand, cd_X3_sever, cd_X3_mend, cd_X3_lead, cd_X3_freeAll, cd_X3_leadOne, cd_X3_foreignOn, cd_X3_follow, cd_X3_isBetter, cd_X3_take, cd_X3_takeFrom, cd_X4_init, cd_X5_init, cd_X5_sailTo, cd_X6_init, cd_X6_cable, cd_X6_demand, cd_X6_sell, cd_X6_cut, cd_X6_ship, cd_X6_send, cd_X6_fill, cd_X6_storm, cd_X6_pass, cd_X6_owned, cd_X6_isWhole, cd_X6_way, cd_X6_lent, cd_X6_owes, cd_X6_owesAnew, cd_X6_account, cd_X6_spent, cd_X6_sold, cd_X6_place, cd_X6_worked, cd_X6_seal, cd_X6_passHour, cd_X6_addLoans, cd_X6_payCredits, cd_X6_cableCutFirst, cd_X6_chargeOwners, cd_X6_runShip, cd_X6_work, cd_X6_isStorm, cd_X6_retellNet, cd_X6_retellSales, cd_X6_checkLanding, cd_X6_checkMember, cd_X6_checkNumber, cd_X6_checkUnlike, cd_X6_checkRange, cd_X6_checkRoom, cd_X6_checkOpenForShip, cd_Jxa1e45_init_da8c8, cd_Jxc12de_init_da8c8, cd_Jx4a65c_init_da8c8, cd_Jx4a65c_grow_92f84, cd_Jx4a65c_grow_d5877, cd_Jx4a65c_size_8abf5, cd_Jx4a65c_elementData_915e3, cd_Jx4a65c_get_915e3, cd_Jx4a65c_add_72be8, cd_Jx4a65c_add_9ea2d, cd_J7_copyOf_1904c, cd_J7_copyOf_6403c, cd_J15_checkIndex_7cf53, cd_J8_newLength_cabcc, cd_J3_checkIndex_8e157, cd_L_at, cd_L_low, cd_L_cable, cd_L_demand, cd_L_sell, cd_L_cut, cd_L_ship, cd_L_send, cd_L_fill, cd_L_storm, cd_L_pass, cd_L_owned, cd_L_isWhole, cd_L_way, cd_L_lent, cd_L_owes, cd_L_owesAnew, cd_L_account, cd_L_sold, cd_L_place, cd_L_worked, cd_L_adds, cd_L_sets, cd_L_isWay, cd_L_passes, cd_L_isSealed, cd_L_acts]
def m_cds (y : Nat) : Nat → m_Op := m_lk ((m_cdl[y]?).getD [])
theorem cs_X0_init : m_cds 0 = m_lk cd_X0_init := rfl
theorem cs_X0_across : m_cds 1 = m_lk cd_X0_across := rfl
theorem cs_X1_init : m_cds 2 = m_lk cd_X1_init := rfl
theorem cs_X2_init : m_cds 3 = m_lk cd_X2_init := rfl
theorem cs_X3_init : m_cds 4 = m_lk cd_X3_init := rfl
theorem cs_X3_clear : m_cds 5 = m_lk cd_X3_clear := rfl
theorem cs_X3_lay : m_cds 6 = m_lk cd_X3_lay := rfl
theorem cs_X3_tell : m_cds 7 = m_lk cd_X3_tell := rfl
theorem cs_X3_hand : m_cds 8 = m_lk cd_X3_hand := rfl
theorem cs_X3_sever : m_cds 9 = m_lk cd_X3_sever := rfl
theorem cs_X3_mend : m_cds 10 = m_lk cd_X3_mend := rfl
theorem cs_X3_lead : m_cds 11 = m_lk cd_X3_lead := rfl
theorem cs_X3_freeAll : m_cds 12 = m_lk cd_X3_freeAll := rfl
theorem cs_X3_leadOne : m_cds 13 = m_lk cd_X3_leadOne := rfl
theorem cs_X3_foreignOn : m_cds 14 = m_lk cd_X3_foreignOn := rfl
theorem cs_X3_follow : m_cds 15 = m_lk cd_X3_follow := rfl
theorem cs_X3_isBetter : m_cds 16 = m_lk cd_X3_isBetter := rfl
theorem cs_X3_take : m_cds 17 = m_lk cd_X3_take := rfl
theorem cs_X3_takeFrom : m_cds 18 = m_lk cd_X3_takeFrom := rfl
theorem cs_X4_init : m_cds 19 = m_lk cd_X4_init := rfl
theorem cs_X5_init : m_cds 20 = m_lk cd_X5_init := rfl
theorem cs_X5_sailTo : m_cds 21 = m_lk cd_X5_sailTo := rfl
theorem cs_X6_init : m_cds 22 = m_lk cd_X6_init := rfl
theorem cs_X6_cable : m_cds 23 = m_lk cd_X6_cable := rfl
theorem cs_X6_demand : m_cds 24 = m_lk cd_X6_demand := rfl
theorem cs_X6_sell : m_cds 25 = m_lk cd_X6_sell := rfl
theorem cs_X6_cut : m_cds 26 = m_lk cd_X6_cut := rfl
theorem cs_X6_ship : m_cds 27 = m_lk cd_X6_ship := rfl
theorem cs_X6_send : m_cds 28 = m_lk cd_X6_send := rfl
theorem cs_X6_fill : m_cds 29 = m_lk cd_X6_fill := rfl
theorem cs_X6_storm : m_cds 30 = m_lk cd_X6_storm := rfl
theorem cs_X6_pass : m_cds 31 = m_lk cd_X6_pass := rfl
theorem cs_X6_owned : m_cds 32 = m_lk cd_X6_owned := rfl
theorem cs_X6_isWhole : m_cds 33 = m_lk cd_X6_isWhole := rfl
theorem cs_X6_way : m_cds 34 = m_lk cd_X6_way := rfl
theorem cs_X6_lent : m_cds 35 = m_lk cd_X6_lent := rfl
theorem cs_X6_owes : m_cds 36 = m_lk cd_X6_owes := rfl
theorem cs_X6_owesAnew : m_cds 37 = m_lk cd_X6_owesAnew := rfl
theorem cs_X6_account : m_cds 38 = m_lk cd_X6_account := rfl
theorem cs_X6_spent : m_cds 39 = m_lk cd_X6_spent := rfl
theorem cs_X6_sold : m_cds 40 = m_lk cd_X6_sold := rfl
theorem cs_X6_place : m_cds 41 = m_lk cd_X6_place := rfl
theorem cs_X6_worked : m_cds 42 = m_lk cd_X6_worked := rfl
theorem cs_X6_seal : m_cds 43 = m_lk cd_X6_seal := rfl
theorem cs_X6_passHour : m_cds 44 = m_lk cd_X6_passHour := rfl
theorem cs_X6_addLoans : m_cds 45 = m_lk cd_X6_addLoans := rfl
theorem cs_X6_payCredits : m_cds 46 = m_lk cd_X6_payCredits := rfl
theorem cs_X6_cableCutFirst : m_cds 47 = m_lk cd_X6_cableCutFirst := rfl
theorem cs_X6_chargeOwners : m_cds 48 = m_lk cd_X6_chargeOwners := rfl
theorem cs_X6_runShip : m_cds 49 = m_lk cd_X6_runShip := rfl
theorem cs_X6_work : m_cds 50 = m_lk cd_X6_work := rfl
theorem cs_X6_isStorm : m_cds 51 = m_lk cd_X6_isStorm := rfl
theorem cs_X6_retellNet : m_cds 52 = m_lk cd_X6_retellNet := rfl
theorem cs_X6_retellSales : m_cds 53 = m_lk cd_X6_retellSales := rfl
theorem cs_X6_checkLanding : m_cds 54 = m_lk cd_X6_checkLanding := rfl
theorem cs_X6_checkMember : m_cds 55 = m_lk cd_X6_checkMember := rfl
theorem cs_X6_checkNumber : m_cds 56 = m_lk cd_X6_checkNumber := rfl
theorem cs_X6_checkUnlike : m_cds 57 = m_lk cd_X6_checkUnlike := rfl
theorem cs_X6_checkRange : m_cds 58 = m_lk cd_X6_checkRange := rfl
theorem cs_X6_checkRoom : m_cds 59 = m_lk cd_X6_checkRoom := rfl
theorem cs_X6_checkOpenForShip : m_cds 60 = m_lk cd_X6_checkOpenForShip := rfl
theorem cs_Jxa1e45_init_da8c8 : m_cds 61 = m_lk cd_Jxa1e45_init_da8c8 := rfl
theorem cs_Jxc12de_init_da8c8 : m_cds 62 = m_lk cd_Jxc12de_init_da8c8 := rfl
theorem cs_Jx4a65c_init_da8c8 : m_cds 63 = m_lk cd_Jx4a65c_init_da8c8 := rfl
theorem cs_Jx4a65c_grow_92f84 : m_cds 64 = m_lk cd_Jx4a65c_grow_92f84 := rfl
theorem cs_Jx4a65c_grow_d5877 : m_cds 65 = m_lk cd_Jx4a65c_grow_d5877 := rfl
theorem cs_Jx4a65c_size_8abf5 : m_cds 66 = m_lk cd_Jx4a65c_size_8abf5 := rfl
theorem cs_Jx4a65c_elementData_915e3 : m_cds 67 = m_lk cd_Jx4a65c_elementData_915e3 := rfl
theorem cs_Jx4a65c_get_915e3 : m_cds 68 = m_lk cd_Jx4a65c_get_915e3 := rfl
theorem cs_Jx4a65c_add_72be8 : m_cds 69 = m_lk cd_Jx4a65c_add_72be8 := rfl
theorem cs_Jx4a65c_add_9ea2d : m_cds 70 = m_lk cd_Jx4a65c_add_9ea2d := rfl
theorem cs_J7_copyOf_1904c : m_cds 71 = m_lk cd_J7_copyOf_1904c := rfl
theorem cs_J7_copyOf_6403c : m_cds 72 = m_lk cd_J7_copyOf_6403c := rfl
theorem cs_J15_checkIndex_7cf53 : m_cds 73 = m_lk cd_J15_checkIndex_7cf53 := rfl
theorem cs_J8_newLength_cabcc : m_cds 74 = m_lk cd_J8_newLength_cabcc := rfl
theorem cs_J3_checkIndex_8e157 : m_cds 75 = m_lk cd_J3_checkIndex_8e157 := rfl
theorem cs_L_at : m_cds 76 = m_lk cd_L_at := rfl
theorem cs_L_low : m_cds 77 = m_lk cd_L_low := rfl
theorem cs_L_cable : m_cds 78 = m_lk cd_L_cable := rfl
theorem cs_L_demand : m_cds 79 = m_lk cd_L_demand := rfl
theorem cs_L_sell : m_cds 80 = m_lk cd_L_sell := rfl
theorem cs_L_cut : m_cds 81 = m_lk cd_L_cut := rfl
theorem cs_L_ship : m_cds 82 = m_lk cd_L_ship := rfl
theorem cs_L_send : m_cds 83 = m_lk cd_L_send := rfl
theorem cs_L_fill : m_cds 84 = m_lk cd_L_fill := rfl
theorem cs_L_storm : m_cds 85 = m_lk cd_L_storm := rfl
theorem cs_L_pass : m_cds 86 = m_lk cd_L_pass := rfl
theorem cs_L_owned : m_cds 87 = m_lk cd_L_owned := rfl
theorem cs_L_isWhole : m_cds 88 = m_lk cd_L_isWhole := rfl
theorem cs_L_way : m_cds 89 = m_lk cd_L_way := rfl
theorem cs_L_lent : m_cds 90 = m_lk cd_L_lent := rfl
theorem cs_L_owes : m_cds 91 = m_lk cd_L_owes := rfl
theorem cs_L_owesAnew : m_cds 92 = m_lk cd_L_owesAnew := rfl
theorem cs_L_account : m_cds 93 = m_lk cd_L_account := rfl
theorem cs_L_sold : m_cds 94 = m_lk cd_L_sold := rfl
theorem cs_L_place : m_cds 95 = m_lk cd_L_place := rfl
theorem cs_L_worked : m_cds 96 = m_lk cd_L_worked := rfl
theorem cs_L_adds : m_cds 97 = m_lk cd_L_adds := rfl
theorem cs_L_sets : m_cds 98 = m_lk cd_L_sets := rfl
theorem cs_L_isWay : m_cds 99 = m_lk cd_L_isWay := rfl
theorem cs_L_passes : m_cds 100 = m_lk cd_L_passes := rfl
theorem cs_L_isSealed : m_cds 101 = m_lk cd_L_isSealed := rfl
theorem cs_L_acts : m_cds 102 = m_lk cd_L_acts := rfl
theorem m_allok {GP : m_G → Prop} : ∀ y, m_MOK GP m_my m_cds y := by
  intro y
  by_cases hy : y < 103
  · have h : ∀ k ∈ List.range 103, m_MOK GP m_my m_cds k := by
      show ∀ k ∈ [0, 1, 2, 3, 4, 5, 6, 7, 8, 9, 10, 11, 12, 13, 14, 15, 16, 17, 18, 19, 20, 21, 22, 23, 24, 25, 26, 27, 28, 29, 30, 31, 32, 33, 34, 35, 36, 37, 38, 39, 40, 41, 42, 43, 44, 45, 46, 47, 48, 49, 50, 51, 52, 53, 54, 55, 56, 57, 58, 59, 60, 61, 62, 63, 64, 65, 66, 67, 68, 69, 70, 71, 72, 73, 74, 75, 76, 77, 78, 79, 80, 81, 82, 83, 84, 85, 86, 87, 88, 89, 90, 91, 92, 93, 94, 95, 96, 97, 98, 99, 100, 101, 102], _
      exact List.forall_mem_cons.mpr ⟨mk_X0_init cs_X0_init, List.forall_mem_cons.mpr ⟨mk_X0_across cs_X0_across, List.forall_mem_cons.mpr ⟨mk_X1_init cs_X1_init, List.forall_mem_cons.mpr ⟨mk_X2_init cs_X2_init, List.forall_mem_cons.mpr ⟨mk_X3_init cs_X3_init, List.forall_mem_cons.mpr ⟨mk_X3_clear cs_X3_clear, List.forall_mem_cons.mpr ⟨mk_X3_lay cs_X3_lay, List.forall_mem_cons.mpr ⟨mk_X3_tell cs_X3_tell, List.forall_mem_cons.mpr ⟨mk_X3_hand cs_X3_hand, List.forall_mem_cons.mpr ⟨mk_X3_sever cs_X3_sever, List.forall_mem_cons.mpr ⟨mk_X3_mend cs_X3_mend, List.forall_mem_cons.mpr ⟨mk_X3_lead cs_X3_lead, List.forall_mem_cons.mpr ⟨mk_X3_freeAll cs_X3_freeAll, List.forall_mem_cons.mpr ⟨mk_X3_leadOne cs_X3_leadOne, List.forall_mem_cons.mpr ⟨mk_X3_foreignOn cs_X3_foreignOn, List.forall_mem_cons.mpr ⟨mk_X3_follow cs_X3_follow, List.forall_mem_cons.mpr ⟨mk_X3_isBetter cs_X3_isBetter, List.forall_mem_cons.mpr ⟨mk_X3_take cs_X3_take, List.forall_mem_cons.mpr ⟨mk_X3_takeFrom cs_X3_takeFrom, List.forall_mem_cons.mpr ⟨mk_X4_init cs_X4_init, List.forall_mem_cons.mpr ⟨mk_X5_init cs_X5_init, List.forall_mem_cons.mpr ⟨mk_X5_sailTo cs_X5_sailTo, List.forall_mem_cons.mpr ⟨mk_X6_init cs_X6_init, List.forall_mem_cons.mpr ⟨mk_X6_cable cs_X6_cable, List.forall_mem_cons.mpr ⟨mk_X6_demand cs_X6_demand, List.forall_mem_cons.mpr ⟨mk_X6_sell cs_X6_sell, List.forall_mem_cons.mpr ⟨mk_X6_cut cs_X6_cut, List.forall_mem_cons.mpr ⟨mk_X6_ship cs_X6_ship, List.forall_mem_cons.mpr ⟨mk_X6_send cs_X6_send, List.forall_mem_cons.mpr ⟨mk_X6_fill cs_X6_fill, List.forall_mem_cons.mpr ⟨mk_X6_storm cs_X6_storm, List.forall_mem_cons.mpr ⟨mk_X6_pass cs_X6_pass, List.forall_mem_cons.mpr ⟨mk_X6_owned cs_X6_owned, List.forall_mem_cons.mpr ⟨mk_X6_isWhole cs_X6_isWhole, List.forall_mem_cons.mpr ⟨mk_X6_way cs_X6_way, List.forall_mem_cons.mpr ⟨mk_X6_lent cs_X6_lent, List.forall_mem_cons.mpr ⟨mk_X6_owes cs_X6_owes, List.forall_mem_cons.mpr ⟨mk_X6_owesAnew cs_X6_owesAnew, List.forall_mem_cons.mpr ⟨mk_X6_account cs_X6_account, List.forall_mem_cons.mpr ⟨mk_X6_spent cs_X6_spent, List.forall_mem_cons.mpr ⟨mk_X6_sold cs_X6_sold, List.forall_mem_cons.mpr ⟨mk_X6_place cs_X6_place, List.forall_mem_cons.mpr ⟨mk_X6_worked cs_X6_worked, List.forall_mem_cons.mpr ⟨mk_X6_seal cs_X6_seal, List.forall_mem_cons.mpr ⟨mk_X6_passHour cs_X6_passHour, List.forall_mem_cons.mpr ⟨mk_X6_addLoans cs_X6_addLoans, List.forall_mem_cons.mpr ⟨mk_X6_payCredits cs_X6_payCredits, List.forall_mem_cons.mpr ⟨mk_X6_cableCutFirst cs_X6_cableCutFirst, List.forall_mem_cons.mpr ⟨mk_X6_chargeOwners cs_X6_chargeOwners, List.forall_mem_cons.mpr ⟨mk_X6_runShip cs_X6_runShip, List.forall_mem_cons.mpr ⟨mk_X6_work cs_X6_work, List.forall_mem_cons.mpr ⟨mk_X6_isStorm cs_X6_isStorm, List.forall_mem_cons.mpr ⟨mk_X6_retellNet cs_X6_retellNet, List.forall_mem_cons.mpr ⟨mk_X6_retellSales cs_X6_retellSales, List.forall_mem_cons.mpr ⟨mk_X6_checkLanding cs_X6_checkLanding, List.forall_mem_cons.mpr ⟨mk_X6_checkMember cs_X6_checkMember, List.forall_mem_cons.mpr ⟨mk_X6_checkNumber cs_X6_checkNumber, List.forall_mem_cons.mpr ⟨mk_X6_checkUnlike cs_X6_checkUnlike, List.forall_mem_cons.mpr ⟨mk_X6_checkRange cs_X6_checkRange, List.forall_mem_cons.mpr ⟨mk_X6_checkRoom cs_X6_checkRoom, List.forall_mem_cons.mpr ⟨mk_X6_checkOpenForShip cs_X6_checkOpenForShip, List.forall_mem_cons.mpr ⟨mk_Jxa1e45_init_da8c8 cs_Jxa1e45_init_da8c8, List.forall_mem_cons.mpr ⟨mk_Jxc12de_init_da8c8 cs_Jxc12de_init_da8c8, List.forall_mem_cons.mpr ⟨mk_Jx4a65c_init_da8c8 cs_Jx4a65c_init_da8c8, List.forall_mem_cons.mpr ⟨mk_Jx4a65c_grow_92f84 cs_Jx4a65c_grow_92f84, List.forall_mem_cons.mpr ⟨mk_Jx4a65c_grow_d5877 cs_Jx4a65c_grow_d5877, List.forall_mem_cons.mpr ⟨mk_Jx4a65c_size_8abf5 cs_Jx4a65c_size_8abf5, List.forall_mem_cons.mpr ⟨mk_Jx4a65c_elementData_915e3 cs_Jx4a65c_elementData_915e3, List.forall_mem_cons.mpr ⟨mk_Jx4a65c_get_915e3 cs_Jx4a65c_get_915e3, List.forall_mem_cons.mpr ⟨mk_Jx4a65c_add_72be8 cs_Jx4a65c_add_72be8, List.forall_mem_cons.mpr ⟨mk_Jx4a65c_add_9ea2d cs_Jx4a65c_add_9ea2d, List.forall_mem_cons.mpr ⟨mk_J7_copyOf_1904c cs_J7_copyOf_1904c, List.forall_mem_cons.mpr ⟨mk_J7_copyOf_6403c cs_J7_copyOf_6403c, List.forall_mem_cons.mpr ⟨mk_J15_checkIndex_7cf53 cs_J15_checkIndex_7cf53, List.forall_mem_cons.mpr ⟨mk_J8_newLength_cabcc cs_J8_newLength_cabcc, List.forall_mem_cons.mpr ⟨mk_J3_checkIndex_8e157 cs_J3_checkIndex_8e157, List.forall_mem_cons.mpr ⟨mk_L_at cs_L_at, List.forall_mem_cons.mpr ⟨mk_L_low cs_L_low, List.forall_mem_cons.mpr ⟨mk_L_cable cs_L_cable, List.forall_mem_cons.mpr ⟨mk_L_demand cs_L_demand, List.forall_mem_cons.mpr ⟨mk_L_sell cs_L_sell, List.forall_mem_cons.mpr ⟨mk_L_cut cs_L_cut, List.forall_mem_cons.mpr ⟨mk_L_ship cs_L_ship, List.forall_mem_cons.mpr ⟨mk_L_send cs_L_send, List.forall_mem_cons.mpr ⟨mk_L_fill cs_L_fill, List.forall_mem_cons.mpr ⟨mk_L_storm cs_L_storm, List.forall_mem_cons.mpr ⟨mk_L_pass cs_L_pass, List.forall_mem_cons.mpr ⟨mk_L_owned cs_L_owned, List.forall_mem_cons.mpr ⟨mk_L_isWhole cs_L_isWhole, List.forall_mem_cons.mpr ⟨mk_L_way cs_L_way, List.forall_mem_cons.mpr ⟨mk_L_lent cs_L_lent, List.forall_mem_cons.mpr ⟨mk_L_owes cs_L_owes, List.forall_mem_cons.mpr ⟨mk_L_owesAnew cs_L_owesAnew, List.forall_mem_cons.mpr ⟨mk_L_account cs_L_account, List.forall_mem_cons.mpr ⟨mk_L_sold cs_L_sold, List.forall_mem_cons.mpr ⟨mk_L_place cs_L_place, List.forall_mem_cons.mpr ⟨mk_L_worked cs_L_worked, List.forall_mem_cons.mpr ⟨mk_L_adds cs_L_adds, List.forall_mem_cons.mpr ⟨mk_L_sets cs_L_sets, List.forall_mem_cons.mpr ⟨mk_L_isWay cs_L_isWay, List.forall_mem_cons.mpr ⟨mk_L_passes cs_L_passes, List.forall_mem_cons.mpr ⟨mk_L_isSealed cs_L_isSealed, List.forall_mem_cons.mpr ⟨mk_L_acts cs_L_acts, fun _ h => nomatch h⟩⟩⟩⟩⟩⟩⟩⟩⟩⟩⟩⟩⟩⟩⟩⟩⟩⟩⟩⟩⟩⟩⟩⟩⟩⟩⟩⟩⟩⟩⟩⟩⟩⟩⟩⟩⟩⟩⟩⟩⟩⟩⟩⟩⟩⟩⟩⟩⟩⟩⟩⟩⟩⟩⟩⟩⟩⟩⟩⟩⟩⟩⟩⟩⟩⟩⟩⟩⟩⟩⟩⟩⟩⟩⟩⟩⟩⟩⟩⟩⟩⟩⟩⟩⟩⟩⟩⟩⟩⟩⟩⟩⟩⟩⟩⟩⟩⟩⟩⟩⟩⟩⟩
    exact h y (List.mem_range.mpr hy)
  · have h1 : m_my y = mt_X0_init := by
      show (m_tab[y]?).getD _ = _
      rw [List.getElem?_eq_none (by show 103 ≤ y; omega)]
      rfl
    have h2 : m_cds y = m_lk [] := by
      show m_lk ((m_cdl[y]?).getD []) = _
      rw [List.getElem?_eq_none (by show 103 ≤ y; omega)]
      rfl
    refine ⟨RX0, false, [], by rw [h1]; decide +kernel, by rw [h1]; rfl, (fun h9 => by cases h9), Or.inl ⟨rfl, by rw [h1]; rfl⟩, fun pc => ?_⟩
    rw [h2]
    exact m_lk_ok [] m_nl pc
