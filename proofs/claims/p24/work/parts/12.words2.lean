theorem in_Jx4a65c : ∀ w ∈ u_ws RJx4a65c TJx4a65c 3, w ∈ m_WS := List.forall_mem_cons.mpr ⟨wd_130, List.forall_mem_cons.mpr ⟨wd_126, List.forall_mem_cons.mpr ⟨wd_128, fun _ h => nomatch h⟩⟩⟩
theorem df_Jx4a65c : ∀ j, j < 3 → defaultValue (tyJx4a65c j) = vp_V [.int 0, .null, .int 0] j := by decide +kernel
theorem dv_Jx4a65c : ∀ n : Nat, ∀ v ∈ ([.int 0, .null, .int 0] : List Value), m_vok n v := by intro n; simp [m_vok]
theorem in_X0 : ∀ w ∈ u_ws RX0 TX0 7, w ∈ m_WS := List.forall_mem_cons.mpr ⟨wd_446, List.forall_mem_cons.mpr ⟨wd_448, List.forall_mem_cons.mpr ⟨wd_450, List.forall_mem_cons.mpr ⟨wd_452, List.forall_mem_cons.mpr ⟨wd_454, List.forall_mem_cons.mpr ⟨wd_456, List.forall_mem_cons.mpr ⟨wd_458, fun _ h => nomatch h⟩⟩⟩⟩⟩⟩⟩
theorem df_X0 : ∀ j, j < 7 → defaultValue (tyX0 j) = vp_V [.int 0, .int 0, .int 0, .int 0, .int 0, .int 0, .int 0] j := by decide +kernel
theorem dv_X0 : ∀ n : Nat, ∀ v ∈ ([.int 0, .int 0, .int 0, .int 0, .int 0, .int 0, .int 0] : List Value), m_vok n v := by intro n; simp [m_vok]
theorem in_X1 : ∀ w ∈ u_ws RX1 TX1 5, w ∈ m_WS := List.forall_mem_cons.mpr ⟨wd_701, List.forall_mem_cons.mpr ⟨wd_703, List.forall_mem_cons.mpr ⟨wd_705, List.forall_mem_cons.mpr ⟨wd_707, List.forall_mem_cons.mpr ⟨wd_709, fun _ h => nomatch h⟩⟩⟩⟩⟩
theorem df_X1 : ∀ j, j < 5 → defaultValue (tyX1 j) = vp_V [.int 0, .int 0, .int 0, .int 0, .int 0] j := by decide +kernel
theorem dv_X1 : ∀ n : Nat, ∀ v ∈ ([.int 0, .int 0, .int 0, .int 0, .int 0] : List Value), m_vok n v := by intro n; simp [m_vok]
theorem in_X2 : ∀ w ∈ u_ws RX2 TX2 5, w ∈ m_WS := List.forall_mem_cons.mpr ⟨wd_509, List.forall_mem_cons.mpr ⟨wd_511, List.forall_mem_cons.mpr ⟨wd_513, List.forall_mem_cons.mpr ⟨wd_515, List.forall_mem_cons.mpr ⟨wd_517, fun _ h => nomatch h⟩⟩⟩⟩⟩
theorem df_X2 : ∀ j, j < 5 → defaultValue (tyX2 j) = vp_V [.int 0, .int 0, .int 0, .int 0, .int 0] j := by decide +kernel
theorem dv_X2 : ∀ n : Nat, ∀ v ∈ ([.int 0, .int 0, .int 0, .int 0, .int 0] : List Value), m_vok n v := by intro n; simp [m_vok]
theorem in_X3 : ∀ w ∈ u_ws RX3 TX3 16, w ∈ m_WS := List.forall_mem_cons.mpr ⟨wd_68, List.forall_mem_cons.mpr ⟨wd_70, List.forall_mem_cons.mpr ⟨wd_72, List.forall_mem_cons.mpr ⟨wd_74, List.forall_mem_cons.mpr ⟨wd_76, List.forall_mem_cons.mpr ⟨wd_78, List.forall_mem_cons.mpr ⟨wd_80, List.forall_mem_cons.mpr ⟨wd_82, List.forall_mem_cons.mpr ⟨wd_84, List.forall_mem_cons.mpr ⟨wd_86, List.forall_mem_cons.mpr ⟨wd_88, List.forall_mem_cons.mpr ⟨wd_90, List.forall_mem_cons.mpr ⟨wd_92, List.forall_mem_cons.mpr ⟨wd_94, List.forall_mem_cons.mpr ⟨wd_96, List.forall_mem_cons.mpr ⟨wd_98, fun _ h => nomatch h⟩⟩⟩⟩⟩⟩⟩⟩⟩⟩⟩⟩⟩⟩⟩⟩
theorem df_X3 : ∀ j, j < 16 → defaultValue (tyX3 j) = vp_V [.null, .null, .null, .null, .null, .null, .null, .int 0, .int 0, .null, .null, .int 0, .int 0, .int 0, .int 0, .int 0] j := by decide +kernel
theorem dv_X3 : ∀ n : Nat, ∀ v ∈ ([.null, .null, .null, .null, .null, .null, .null, .int 0, .int 0, .null, .null, .int 0, .int 0, .int 0, .int 0, .int 0] : List Value), m_vok n v := by intro n; simp [m_vok]
theorem in_X4 : ∀ w ∈ u_ws RX4 TX4 5, w ∈ m_WS := List.forall_mem_cons.mpr ⟨wd_608, List.forall_mem_cons.mpr ⟨wd_610, List.forall_mem_cons.mpr ⟨wd_612, List.forall_mem_cons.mpr ⟨wd_614, List.forall_mem_cons.mpr ⟨wd_616, fun _ h => nomatch h⟩⟩⟩⟩⟩
theorem df_X4 : ∀ j, j < 5 → defaultValue (tyX4 j) = vp_V [.int 0, .int 0, .int 0, .int 0, .int 0] j := by decide +kernel
theorem dv_X4 : ∀ n : Nat, ∀ v ∈ ([.int 0, .int 0, .int 0, .int 0, .int 0] : List Value), m_vok n v := by intro n; simp [m_vok]
theorem in_X5 : ∀ w ∈ u_ws RX5 TX5 4, w ∈ m_WS := List.forall_mem_cons.mpr ⟨wd_557, List.forall_mem_cons.mpr ⟨wd_559, List.forall_mem_cons.mpr ⟨wd_561, List.forall_mem_cons.mpr ⟨wd_563, fun _ h => nomatch h⟩⟩⟩⟩
theorem df_X5 : ∀ j, j < 4 → defaultValue (tyX5 j) = vp_V [.int 0, .int 0, .int 0, .int 0] j := by decide +kernel
theorem dv_X5 : ∀ n : Nat, ∀ v ∈ ([.int 0, .int 0, .int 0, .int 0] : List Value), m_vok n v := by intro n; simp [m_vok]
theorem in_X6 : ∀ w ∈ u_ws RX6 TX6 15, w ∈ m_WS := List.forall_mem_cons.mpr ⟨wd_149, List.forall_mem_cons.mpr ⟨wd_151, List.forall_mem_cons.mpr ⟨wd_153, List.forall_mem_cons.mpr ⟨wd_155, List.forall_mem_cons.mpr ⟨wd_157, List.forall_mem_cons.mpr ⟨wd_159, List.forall_mem_cons.mpr ⟨wd_161, List.forall_mem_cons.mpr ⟨wd_163, List.forall_mem_cons.mpr ⟨wd_165, List.forall_mem_cons.mpr ⟨wd_167, List.forall_mem_cons.mpr ⟨wd_169, List.forall_mem_cons.mpr ⟨wd_171, List.forall_mem_cons.mpr ⟨wd_173, List.forall_mem_cons.mpr ⟨wd_175, List.forall_mem_cons.mpr ⟨wd_177, fun _ h => nomatch h⟩⟩⟩⟩⟩⟩⟩⟩⟩⟩⟩⟩⟩⟩⟩
theorem df_X6 : ∀ j, j < 15 → defaultValue (tyX6 j) = vp_V [.null, .null, .null, .null, .null, .null, .null, .null, .int 0, .int 0, .int 0, .int 0, .int 0, .int 0, .int 0] j := by decide +kernel
theorem dv_X6 : ∀ n : Nat, ∀ v ∈ ([.null, .null, .null, .null, .null, .null, .null, .null, .int 0, .int 0, .int 0, .int 0, .int 0, .int 0, .int 0] : List Value), m_vok n v := by intro n; simp [m_vok]
def mt_X0_init : m_T := (yX0_init, Cond.code yX0_init cX0_init 6 none, cX0_init, 6, none, 0, 0)
theorem cw_X0_init : mt_X0_init.2.1 ∈ m_WS := wd_426
def mt_X0_across : m_T := (yX0_across, Cond.code yX0_across cX0_across 2 (some .int), cX0_across, 2, (some .int), 0, 0)
theorem cw_X0_across : mt_X0_across.2.1 ∈ m_WS := wd_317
def mt_X1_init : m_T := (yX1_init, Cond.code yX1_init cX1_init 4 none, cX1_init, 4, none, 0, 0)
theorem cw_X1_init : mt_X1_init.2.1 ∈ m_WS := wd_690
def mt_X2_init : m_T := (yX2_init, Cond.code yX2_init cX2_init 6 none, cX2_init, 6, none, 0, 0)
theorem cw_X2_init : mt_X2_init.2.1 ∈ m_WS := wd_495
def mt_X3_init : m_T := (yX3_init, Cond.code yX3_init cX3_init 1 none, cX3_init, 1, none, 35, 242)
theorem cw_X3_init : mt_X3_init.2.1 ∈ m_WS := wd_35
def mt_X3_clear : m_T := (yX3_clear, Cond.code yX3_clear cX3_clear 1 none, cX3_clear, 1, none, 0, 0)
theorem cw_X3_clear : mt_X3_clear.2.1 ∈ m_WS := wd_782
def mt_X3_lay : m_T := (yX3_lay, Cond.code yX3_lay cX3_lay 3 none, cX3_lay, 3, none, 0, 0)
theorem cw_X3_lay : mt_X3_lay.2.1 ∈ m_WS := wd_464
def mt_X3_tell : m_T := (yX3_tell, Cond.code yX3_tell cX3_tell 2 none, cX3_tell, 2, none, 0, 0)
theorem cw_X3_tell : mt_X3_tell.2.1 ∈ m_WS := wd_523
def mt_X3_hand : m_T := (yX3_hand, Cond.code yX3_hand cX3_hand 2 none, cX3_hand, 2, none, 0, 0)
theorem cw_X3_hand : mt_X3_hand.2.1 ∈ m_WS := wd_678
def mt_X3_sever : m_T := (yX3_sever, Cond.code yX3_sever cX3_sever 2 none, cX3_sever, 2, none, 0, 0)
theorem cw_X3_sever : mt_X3_sever.2.1 ∈ m_WS := wd_715
def mt_X3_mend : m_T := (yX3_mend, Cond.code yX3_mend cX3_mend 2 none, cX3_mend, 2, none, 0, 0)
theorem cw_X3_mend : mt_X3_mend.2.1 ∈ m_WS := wd_370
def mt_X3_lead : m_T := (yX3_lead, Cond.code yX3_lead cX3_lead 2 none, cX3_lead, 2, none, 0, 0)
theorem cw_X3_lead : mt_X3_lead.2.1 ∈ m_WS := wd_292
def mt_X3_freeAll : m_T := (yX3_freeAll, Cond.code yX3_freeAll cX3_freeAll 3 none, cX3_freeAll, 3, none, 0, 0)
theorem cw_X3_freeAll : mt_X3_freeAll.2.1 ∈ m_WS := wd_296
def mt_X3_leadOne : m_T := (yX3_leadOne, Cond.code yX3_leadOne cX3_leadOne 5 none, cX3_leadOne, 5, none, 0, 0)
theorem cw_X3_leadOne : mt_X3_leadOne.2.1 ∈ m_WS := wd_303
def mt_X3_foreignOn : m_T := (yX3_foreignOn, Cond.code yX3_foreignOn cX3_foreignOn 5 (some .int), cX3_foreignOn, 5, (some .int), 0, 0)
theorem cw_X3_foreignOn : mt_X3_foreignOn.2.1 ∈ m_WS := wd_307
def mt_X3_follow : m_T := (yX3_follow, Cond.code yX3_follow cX3_follow 11 none, cX3_follow, 11, none, 0, 0)
theorem cw_X3_follow : mt_X3_follow.2.1 ∈ m_WS := wd_313
def mt_X3_isBetter : m_T := (yX3_isBetter, Cond.code yX3_isBetter cX3_isBetter 3 (some .boolean), cX3_isBetter, 3, (some .boolean), 0, 0)
theorem cw_X3_isBetter : mt_X3_isBetter.2.1 ∈ m_WS := wd_321
def mt_X3_take : m_T := (yX3_take, Cond.code yX3_take cX3_take 7 none, cX3_take, 7, none, 0, 0)
theorem cw_X3_take : mt_X3_take.2.1 ∈ m_WS := wd_325
def mt_X3_takeFrom : m_T := (yX3_takeFrom, Cond.code yX3_takeFrom cX3_takeFrom 5 (some .int), cX3_takeFrom, 5, (some .int), 0, 0)
theorem cw_X3_takeFrom : mt_X3_takeFrom.2.1 ∈ m_WS := wd_329
def mt_X4_init : m_T := (yX4_init, Cond.code yX4_init cX4_init 6 none, cX4_init, 6, none, 0, 0)
theorem cw_X4_init : mt_X4_init.2.1 ∈ m_WS := wd_596
def mt_X5_init : m_T := (yX5_init, Cond.code yX5_init cX5_init 4 none, cX5_init, 4, none, 0, 0)
theorem cw_X5_init : mt_X5_init.2.1 ∈ m_WS := wd_548
def mt_X5_sailTo : m_T := (yX5_sailTo, Cond.code yX5_sailTo cX5_sailTo 2 none, cX5_sailTo, 2, none, 0, 0)
theorem cw_X5_sailTo : mt_X5_sailTo.2.1 ∈ m_WS := wd_356
def mt_X6_init : m_T := (yX6_init, Cond.code yX6_init cX6_init 1 none, cX6_init, 1, none, 90, 628)
theorem cw_X6_init : mt_X6_init.2.1 ∈ m_WS := wd_27
def mt_X6_cable : m_T := (yX6_cable, Cond.code yX6_cable cX6_cable 5 (some .int), cX6_cable, 5, (some .int), 7, 43)
theorem cw_X6_cable : mt_X6_cable.2.1 ∈ m_WS := wd_390
def mt_X6_demand : m_T := (yX6_demand, Cond.code yX6_demand cX6_demand 5 (some .int), cX6_demand, 5, (some .int), 7, 41)
theorem cw_X6_demand : mt_X6_demand.2.1 ∈ m_WS := wd_490
def mt_X6_sell : m_T := (yX6_sell, Cond.code yX6_sell cX6_sell 7 (some .int), cX6_sell, 7, (some .int), 9, 847)
theorem cw_X6_sell : mt_X6_sell.2.1 ∈ m_WS := wd_589
def mt_X6_cut : m_T := (yX6_cut, Cond.code yX6_cut cX6_cut 4 (some .int), cX6_cut, 4, (some .int), 5, 29)
theorem cw_X6_cut : mt_X6_cut.2.1 ∈ m_WS := wd_685
def mt_X6_ship : m_T := (yX6_ship, Cond.code yX6_ship cX6_ship 4 (some .int), cX6_ship, 4, (some .int), 5, 28)
theorem cw_X6_ship : mt_X6_ship.2.1 ∈ m_WS := wd_544
def mt_X6_send : m_T := (yX6_send, Cond.code yX6_send cX6_send 4 (some .int), cX6_send, 4, (some .int), 4, 24)
theorem cw_X6_send : mt_X6_send.2.1 ∈ m_WS := wd_722
def mt_X6_fill : m_T := (yX6_fill, Cond.code yX6_fill cX6_fill 5 (some .int), cX6_fill, 5, (some .int), 3, 18)
theorem cw_X6_fill : mt_X6_fill.2.1 ∈ m_WS := wd_742
def mt_X6_storm : m_T := (yX6_storm, Cond.code yX6_storm cX6_storm 3 none, cX6_storm, 3, none, 2, 12)
theorem cw_X6_storm : mt_X6_storm.2.1 ∈ m_WS := wd_735
def mt_X6_pass : m_T := (yX6_pass, Cond.code yX6_pass cX6_pass 3 (some .int), cX6_pass, 3, (some .int), 2, 12)
theorem cw_X6_pass : mt_X6_pass.2.1 ∈ m_WS := wd_197
def mt_X6_owned : m_T := (yX6_owned, Cond.code yX6_owned cX6_owned 3 (some .int), cX6_owned, 3, (some .int), 2, 12)
theorem cw_X6_owned : mt_X6_owned.2.1 ∈ m_WS := wd_472
def mt_X6_isWhole : m_T := (yX6_isWhole, Cond.code yX6_isWhole cX6_isWhole 2 (some .boolean), cX6_isWhole, 2, (some .boolean), 1, 6)
theorem cw_X6_isWhole : mt_X6_isWhole.2.1 ∈ m_WS := wd_483
def mt_X6_way : m_T := (yX6_way, Cond.code yX6_way cX6_way 2 (some .int), cX6_way, 2, (some .int), 1, 6)
theorem cw_X6_way : mt_X6_way.2.1 ∈ m_WS := wd_530
def mt_X6_lent : m_T := (yX6_lent, Cond.code yX6_lent cX6_lent 2 (some .int), cX6_lent, 2, (some .int), 1, 6)
theorem cw_X6_lent : mt_X6_lent.2.1 ∈ m_WS := wd_537
def mt_X6_owes : m_T := (yX6_owes, Cond.code yX6_owes cX6_owes 3 (some .int), cX6_owes, 3, (some .int), 2, 12)
theorem cw_X6_owes : mt_X6_owes.2.1 ∈ m_WS := wd_753
def mt_X6_owesAnew : m_T := (yX6_owesAnew, Cond.code yX6_owesAnew cX6_owesAnew 6 (some .int), cX6_owesAnew, 6, (some .int), 2, 12)
theorem cw_X6_owesAnew : mt_X6_owesAnew.2.1 ∈ m_WS := wd_778
def mt_X6_account : m_T := (yX6_account, Cond.code yX6_account cX6_account 2 (some .int), cX6_account, 2, (some .int), 1, 6)
theorem cw_X6_account : mt_X6_account.2.1 ∈ m_WS := wd_575
def mt_X6_spent : m_T := (yX6_spent, Cond.code yX6_spent cX6_spent 1 (some .int), cX6_spent, 1, (some .int), 0, 0)
theorem cw_X6_spent : mt_X6_spent.2.1 ∈ m_WS := wd_183
def mt_X6_sold : m_T := (yX6_sold, Cond.code yX6_sold cX6_sold 3 (some .int), cX6_sold, 3, (some .int), 2, 12)
theorem cw_X6_sold : mt_X6_sold.2.1 ∈ m_WS := wd_582
def mt_X6_place : m_T := (yX6_place, Cond.code yX6_place cX6_place 2 (some .int), cX6_place, 2, (some .int), 1, 6)
theorem cw_X6_place : mt_X6_place.2.1 ∈ m_WS := wd_764
def mt_X6_worked : m_T := (yX6_worked, Cond.code yX6_worked cX6_worked 2 (some .int), cX6_worked, 2, (some .int), 1, 6)
theorem cw_X6_worked : mt_X6_worked.2.1 ∈ m_WS := wd_771
def mt_X6_seal : m_T := (yX6_seal, Cond.code yX6_seal cX6_seal 4 (some .int), cX6_seal, 4, (some .int), 0, 0)
theorem cw_X6_seal : mt_X6_seal.2.1 ∈ m_WS := wd_812
def mt_X6_passHour : m_T := (yX6_passHour, Cond.code yX6_passHour cX6_passHour 2 none, cX6_passHour, 2, none, 0, 0)
theorem cw_X6_passHour : mt_X6_passHour.2.1 ∈ m_WS := wd_288
def mt_X6_addLoans : m_T := (yX6_addLoans, Cond.code yX6_addLoans cX6_addLoans 3 none, cX6_addLoans, 3, none, 0, 0)
theorem cw_X6_addLoans : mt_X6_addLoans.2.1 ∈ m_WS := wd_336
def mt_X6_payCredits : m_T := (yX6_payCredits, Cond.code yX6_payCredits cX6_payCredits 5 none, cX6_payCredits, 5, none, 0, 0)
theorem cw_X6_payCredits : mt_X6_payCredits.2.1 ∈ m_WS := wd_340
def mt_X6_cableCutFirst : m_T := (yX6_cableCutFirst, Cond.code yX6_cableCutFirst cX6_cableCutFirst 5 (some .int), cX6_cableCutFirst, 5, (some .int), 0, 0)
theorem cw_X6_cableCutFirst : mt_X6_cableCutFirst.2.1 ∈ m_WS := wd_344
def mt_X6_chargeOwners : m_T := (yX6_chargeOwners, Cond.code yX6_chargeOwners cX6_chargeOwners 9 none, cX6_chargeOwners, 9, none, 0, 0)
theorem cw_X6_chargeOwners : mt_X6_chargeOwners.2.1 ∈ m_WS := wd_348
def mt_X6_runShip : m_T := (yX6_runShip, Cond.code yX6_runShip cX6_runShip 3 none, cX6_runShip, 3, none, 0, 0)
theorem cw_X6_runShip : mt_X6_runShip.2.1 ∈ m_WS := wd_352
def mt_X6_work : m_T := (yX6_work, Cond.code yX6_work cX6_work 3 none, cX6_work, 3, none, 0, 0)
theorem cw_X6_work : mt_X6_work.2.1 ∈ m_WS := wd_366
def mt_X6_isStorm : m_T := (yX6_isStorm, Cond.code yX6_isStorm cX6_isStorm 1 (some .boolean), cX6_isStorm, 1, (some .boolean), 0, 0)
theorem cw_X6_isStorm : mt_X6_isStorm.2.1 ∈ m_WS := wd_362
def mt_X6_retellNet : m_T := (yX6_retellNet, Cond.code yX6_retellNet cX6_retellNet 3 none, cX6_retellNet, 3, none, 0, 0)
theorem cw_X6_retellNet : mt_X6_retellNet.2.1 ∈ m_WS := wd_786
def mt_X6_retellSales : m_T := (yX6_retellSales, Cond.code yX6_retellSales cX6_retellSales 4 (some .int), cX6_retellSales, 4, (some .int), 0, 0)
theorem cw_X6_retellSales : mt_X6_retellSales.2.1 ∈ m_WS := wd_790
def mt_X6_checkLanding : m_T := (yX6_checkLanding, Cond.code yX6_checkLanding cX6_checkLanding 1 none, cX6_checkLanding, 1, none, 1, 6)
theorem cw_X6_checkLanding : mt_X6_checkLanding.2.1 ∈ m_WS := wd_393
def mt_X6_checkMember : m_T := (yX6_checkMember, Cond.code yX6_checkMember cX6_checkMember 1 none, cX6_checkMember, 1, none, 1, 6)
theorem cw_X6_checkMember : mt_X6_checkMember.2.1 ∈ m_WS := wd_412
def mt_X6_checkNumber : m_T := (yX6_checkNumber, Cond.code yX6_checkNumber cX6_checkNumber 2 none, cX6_checkNumber, 2, none, 1, 6)
theorem cw_X6_checkNumber : mt_X6_checkNumber.2.1 ∈ m_WS := wd_475
def mt_X6_checkUnlike : m_T := (yX6_checkUnlike, Cond.code yX6_checkUnlike cX6_checkUnlike 2 none, cX6_checkUnlike, 2, none, 1, 6)
theorem cw_X6_checkUnlike : mt_X6_checkUnlike.2.1 ∈ m_WS := wd_416
def mt_X6_checkRange : m_T := (yX6_checkRange, Cond.code yX6_checkRange cX6_checkRange 3 none, cX6_checkRange, 3, none, 1, 6)
theorem cw_X6_checkRange : mt_X6_checkRange.2.1 ∈ m_WS := wd_200
def mt_X6_checkRoom : m_T := (yX6_checkRoom, Cond.code yX6_checkRoom cX6_checkRoom 2 none, cX6_checkRoom, 2, none, 1, 6)
theorem cw_X6_checkRoom : mt_X6_checkRoom.2.1 ∈ m_WS := wd_420
def mt_X6_checkOpenForShip : m_T := (yX6_checkOpenForShip, Cond.code yX6_checkOpenForShip cX6_checkOpenForShip 3 none, cX6_checkOpenForShip, 3, none, 2, 12)
theorem cw_X6_checkOpenForShip : mt_X6_checkOpenForShip.2.1 ∈ m_WS := wd_726
def mt_Jxa1e45_init_da8c8 : m_T := (yJxa1e45_init_da8c8, Cond.code yJxa1e45_init_da8c8 cJxa1e45_init_da8c8 1 none, cJxa1e45_init_da8c8, 1, none, 0, 0)
theorem cw_Jxa1e45_init_da8c8 : mt_Jxa1e45_init_da8c8.2.1 ∈ m_WS := wd_117
def mt_Jxc12de_init_da8c8 : m_T := (yJxc12de_init_da8c8, Cond.code yJxc12de_init_da8c8 cJxc12de_init_da8c8 1 none, cJxc12de_init_da8c8, 1, none, 0, 0)
theorem cw_Jxc12de_init_da8c8 : mt_Jxc12de_init_da8c8.2.1 ∈ m_WS := wd_114
def mt_Jx4a65c_init_da8c8 : m_T := (yJx4a65c_init_da8c8, Cond.code yJx4a65c_init_da8c8 cJx4a65c_init_da8c8 1 none, cJx4a65c_init_da8c8, 1, none, 0, 0)
theorem cw_Jx4a65c_init_da8c8 : mt_Jx4a65c_init_da8c8.2.1 ∈ m_WS := wd_111
def mt_Jx4a65c_grow_92f84 : m_T := (yJx4a65c_grow_92f84, Cond.code yJx4a65c_grow_92f84 cJx4a65c_grow_92f84 4 (some (.array (.object "java/lang/Object"))), cJx4a65c_grow_92f84, 4, (some (.array (.object "java/lang/Object"))), 1, 800)
theorem cw_Jx4a65c_grow_92f84 : mt_Jx4a65c_grow_92f84.2.1 ∈ m_WS := wd_638
def mt_Jx4a65c_grow_d5877 : m_T := (yJx4a65c_grow_d5877, Cond.code yJx4a65c_grow_d5877 cJx4a65c_grow_d5877 1 (some (.array (.object "java/lang/Object"))), cJx4a65c_grow_d5877, 1, (some (.array (.object "java/lang/Object"))), 1, 800)
theorem cw_Jx4a65c_grow_d5877 : mt_Jx4a65c_grow_d5877.2.1 ∈ m_WS := wd_634
def mt_Jx4a65c_size_8abf5 : m_T := (yJx4a65c_size_8abf5, Cond.code yJx4a65c_size_8abf5 cJx4a65c_size_8abf5 1 (some .int), cJx4a65c_size_8abf5, 1, (some .int), 0, 0)
theorem cw_Jx4a65c_size_8abf5 : mt_Jx4a65c_size_8abf5.2.1 ∈ m_WS := wd_622
def mt_Jx4a65c_elementData_915e3 : m_T := (yJx4a65c_elementData_915e3, Cond.code yJx4a65c_elementData_915e3 cJx4a65c_elementData_915e3 2 (some (.object "java/lang/Object")), cJx4a65c_elementData_915e3, 2, (some (.object "java/lang/Object")), 0, 0)
theorem cw_Jx4a65c_elementData_915e3 : mt_Jx4a65c_elementData_915e3.2.1 ∈ m_WS := wd_804
def mt_Jx4a65c_get_915e3 : m_T := (yJx4a65c_get_915e3, Cond.code yJx4a65c_get_915e3 cJx4a65c_get_915e3 2 (some (.object "java/lang/Object")), cJx4a65c_get_915e3, 2, (some (.object "java/lang/Object")), 0, 0)
theorem cw_Jx4a65c_get_915e3 : mt_Jx4a65c_get_915e3.2.1 ∈ m_WS := wd_794
def mt_Jx4a65c_add_72be8 : m_T := (yJx4a65c_add_72be8, Cond.code yJx4a65c_add_72be8 cJx4a65c_add_72be8 4 none, cJx4a65c_add_72be8, 4, none, 1, 800)
theorem cw_Jx4a65c_add_72be8 : mt_Jx4a65c_add_72be8.2.1 ∈ m_WS := wd_630
def mt_Jx4a65c_add_9ea2d : m_T := (yJx4a65c_add_9ea2d, Cond.code yJx4a65c_add_9ea2d cJx4a65c_add_9ea2d 2 (some .boolean), cJx4a65c_add_9ea2d, 2, (some .boolean), 1, 800)
theorem cw_Jx4a65c_add_9ea2d : mt_Jx4a65c_add_9ea2d.2.1 ∈ m_WS := wd_626
def mt_J7_copyOf_1904c : m_T := (yJ7_copyOf_1904c, Cond.code yJ7_copyOf_1904c cJ7_copyOf_1904c 2 (some (.array (.object "java/lang/Object"))), cJ7_copyOf_1904c, 2, (some (.array (.object "java/lang/Object"))), 1, 800)
theorem cw_J7_copyOf_1904c : mt_J7_copyOf_1904c.2.1 ∈ m_WS := wd_649
def mt_J7_copyOf_6403c : m_T := (yJ7_copyOf_6403c, Cond.code yJ7_copyOf_6403c cJ7_copyOf_6403c 4 (some (.array (.object "java/lang/Object"))), cJ7_copyOf_6403c, 4, (some (.array (.object "java/lang/Object"))), 1, 800)
theorem cw_J7_copyOf_6403c : mt_J7_copyOf_6403c.2.1 ∈ m_WS := wd_667
def mt_J15_checkIndex_7cf53 : m_T := (yJ15_checkIndex_7cf53, Cond.code yJ15_checkIndex_7cf53 cJ15_checkIndex_7cf53 2 (some .int), cJ15_checkIndex_7cf53, 2, (some .int), 0, 0)
theorem cw_J15_checkIndex_7cf53 : mt_J15_checkIndex_7cf53.2.1 ∈ m_WS := wd_797
def mt_J8_newLength_cabcc : m_T := (yJ8_newLength_cabcc, Cond.code yJ8_newLength_cabcc cJ8_newLength_cabcc 4 (some .int), cJ8_newLength_cabcc, 4, (some .int), 0, 0)
theorem cw_J8_newLength_cabcc : mt_J8_newLength_cabcc.2.1 ∈ m_WS := wd_641
def mt_J3_checkIndex_8e157 : m_T := (yJ3_checkIndex_8e157, Cond.code yJ3_checkIndex_8e157 cJ3_checkIndex_8e157 3 (some .int), cJ3_checkIndex_8e157, 3, (some .int), 0, 0)
theorem cw_J3_checkIndex_8e157 : mt_J3_checkIndex_8e157.2.1 ∈ m_WS := wd_800
def mt_L_at : m_T := (yL_at, Cond.code yL_at cL_at 2 (some .int), cL_at, 2, (some .int), 0, 0)
theorem cw_L_at : mt_L_at.2.1 ∈ m_WS := wd_186
def mt_L_low : m_T := (yL_low, Cond.code yL_low cL_low 2 (some .int), cL_low, 2, (some .int), 0, 0)
theorem cw_L_low : mt_L_low.2.1 ∈ m_WS := wd_378
def hh_L_cable : List (Nat × Nat × Nat × Nat) := [(0, 9, 10, 16), (0, 9, 15, 19), (0, 9, 20, 22)]
def mt_L_cable : m_T := (yL_cable, Cond.codeWith yL_cable cL_cable 6 (some .int) hh_L_cable, cL_cable, 6, (some .int), 7, 43)
theorem cw_L_cable : mt_L_cable.2.1 ∈ m_WS := wd_385
def hh_L_demand : List (Nat × Nat × Nat × Nat) := [(0, 9, 10, 16), (0, 9, 15, 19), (0, 9, 20, 22)]
def mt_L_demand : m_T := (yL_demand, Cond.codeWith yL_demand cL_demand 6 (some .int) hh_L_demand, cL_demand, 6, (some .int), 7, 41)
theorem cw_L_demand : mt_L_demand.2.1 ∈ m_WS := wd_486
def hh_L_sell : List (Nat × Nat × Nat × Nat) := [(0, 11, 12, 16), (0, 11, 17, 19), (0, 11, 22, 22)]
def mt_L_sell : m_T := (yL_sell, Cond.codeWith yL_sell cL_sell 7 (some .int) hh_L_sell, cL_sell, 7, (some .int), 9, 847)
theorem cw_L_sell : mt_L_sell.2.1 ∈ m_WS := wd_585
def hh_L_cut : List (Nat × Nat × Nat × Nat) := [(0, 6, 7, 16), (0, 6, 11, 19), (0, 6, 15, 22)]
def mt_L_cut : m_T := (yL_cut, Cond.codeWith yL_cut cL_cut 4 (some .int) hh_L_cut, cL_cut, 4, (some .int), 5, 29)
theorem cw_L_cut : mt_L_cut.2.1 ∈ m_WS := wd_681
def hh_L_ship : List (Nat × Nat × Nat × Nat) := [(0, 7, 8, 16), (0, 7, 13, 19), (0, 7, 18, 22)]
def mt_L_ship : m_T := (yL_ship, Cond.codeWith yL_ship cL_ship 5 (some .int) hh_L_ship, cL_ship, 5, (some .int), 5, 28)
theorem cw_L_ship : mt_L_ship.2.1 ∈ m_WS := wd_540
def hh_L_send : List (Nat × Nat × Nat × Nat) := [(0, 6, 7, 16), (0, 6, 11, 22)]
def mt_L_send : m_T := (yL_send, Cond.codeWith yL_send cL_send 4 (some .int) hh_L_send, cL_send, 4, (some .int), 4, 24)
theorem cw_L_send : mt_L_send.2.1 ∈ m_WS := wd_718
def hh_L_fill : List (Nat × Nat × Nat × Nat) := [(0, 6, 7, 16), (0, 6, 11, 19), (0, 6, 15, 22)]
def mt_L_fill : m_T := (yL_fill, Cond.codeWith yL_fill cL_fill 4 (some .int) hh_L_fill, cL_fill, 4, (some .int), 3, 18)
theorem cw_L_fill : mt_L_fill.2.1 ∈ m_WS := wd_738
def hh_L_storm : List (Nat × Nat × Nat × Nat) := [(0, 7, 8, 19)]
def mt_L_storm : m_T := (yL_storm, Cond.codeWith yL_storm cL_storm 4 (some .int) hh_L_storm, cL_storm, 4, (some .int), 2, 12)
theorem cw_L_storm : mt_L_storm.2.1 ∈ m_WS := wd_731
def hh_L_pass : List (Nat × Nat × Nat × Nat) := [(0, 5, 6, 19), (0, 5, 10, 22)]
def mt_L_pass : m_T := (yL_pass, Cond.codeWith yL_pass cL_pass 3 (some .int) hh_L_pass, cL_pass, 3, (some .int), 2, 12)
theorem cw_L_pass : mt_L_pass.2.1 ∈ m_WS := wd_191
def hh_L_owned : List (Nat × Nat × Nat × Nat) := [(0, 6, 7, 16)]
def mt_L_owned : m_T := (yL_owned, Cond.codeWith yL_owned cL_owned 4 (some .int) hh_L_owned, cL_owned, 4, (some .int), 2, 12)
theorem cw_L_owned : mt_L_owned.2.1 ∈ m_WS := wd_468
def hh_L_isWhole : List (Nat × Nat × Nat × Nat) := [(0, 13, 14, 16)]
def mt_L_isWhole : m_T := (yL_isWhole, Cond.codeWith yL_isWhole cL_isWhole 3 (some .int) hh_L_isWhole, cL_isWhole, 3, (some .int), 1, 6)
theorem cw_L_isWhole : mt_L_isWhole.2.1 ∈ m_WS := wd_479
def hh_L_way : List (Nat × Nat × Nat × Nat) := [(0, 5, 6, 16)]
def mt_L_way : m_T := (yL_way, Cond.codeWith yL_way cL_way 3 (some .int) hh_L_way, cL_way, 3, (some .int), 1, 6)
theorem cw_L_way : mt_L_way.2.1 ∈ m_WS := wd_526
def hh_L_lent : List (Nat × Nat × Nat × Nat) := [(0, 5, 6, 16)]
def mt_L_lent : m_T := (yL_lent, Cond.codeWith yL_lent cL_lent 3 (some .int) hh_L_lent, cL_lent, 3, (some .int), 1, 6)
theorem cw_L_lent : mt_L_lent.2.1 ∈ m_WS := wd_533
def hh_L_owes : List (Nat × Nat × Nat × Nat) := [(0, 6, 7, 16)]
def mt_L_owes : m_T := (yL_owes, Cond.codeWith yL_owes cL_owes 4 (some .int) hh_L_owes, cL_owes, 4, (some .int), 2, 12)
theorem cw_L_owes : mt_L_owes.2.1 ∈ m_WS := wd_749
def hh_L_owesAnew : List (Nat × Nat × Nat × Nat) := [(0, 6, 7, 16)]
def mt_L_owesAnew : m_T := (yL_owesAnew, Cond.codeWith yL_owesAnew cL_owesAnew 4 (some .int) hh_L_owesAnew, cL_owesAnew, 4, (some .int), 2, 12)
theorem cw_L_owesAnew : mt_L_owesAnew.2.1 ∈ m_WS := wd_774
def hh_L_account : List (Nat × Nat × Nat × Nat) := [(0, 5, 6, 16)]
def mt_L_account : m_T := (yL_account, Cond.codeWith yL_account cL_account 3 (some .int) hh_L_account, cL_account, 3, (some .int), 1, 6)
theorem cw_L_account : mt_L_account.2.1 ∈ m_WS := wd_571
def hh_L_sold : List (Nat × Nat × Nat × Nat) := [(0, 6, 7, 16)]
def mt_L_sold : m_T := (yL_sold, Cond.codeWith yL_sold cL_sold 4 (some .int) hh_L_sold, cL_sold, 4, (some .int), 2, 12)
theorem cw_L_sold : mt_L_sold.2.1 ∈ m_WS := wd_578
def hh_L_place : List (Nat × Nat × Nat × Nat) := [(0, 5, 6, 16)]
def mt_L_place : m_T := (yL_place, Cond.codeWith yL_place cL_place 3 (some .int) hh_L_place, cL_place, 3, (some .int), 1, 6)
theorem cw_L_place : mt_L_place.2.1 ∈ m_WS := wd_760
def hh_L_worked : List (Nat × Nat × Nat × Nat) := [(0, 5, 6, 16)]
def mt_L_worked : m_T := (yL_worked, Cond.codeWith yL_worked cL_worked 3 (some .int) hh_L_worked, cL_worked, 3, (some .int), 1, 6)
theorem cw_L_worked : mt_L_worked.2.1 ∈ m_WS := wd_767
def mt_L_adds : m_T := (yL_adds, Cond.code yL_adds cL_adds 12 (some .boolean), cL_adds, 12, (some .boolean), 24, 142)
theorem cw_L_adds : mt_L_adds.2.1 ∈ m_WS := wd_382
def mt_L_sets : m_T := (yL_sets, Cond.code yL_sets cL_sets 15 (some .boolean), cL_sets, 15, (some .boolean), 36, 1008)
theorem cw_L_sets : mt_L_sets.2.1 ∈ m_WS := wd_568
def mt_L_isWay : m_T := (yL_isWay, Cond.code yL_isWay cL_isWay 8 (some .boolean), cL_isWay, 8, (some .boolean), 0, 0)
theorem cw_L_isWay : mt_L_isWay.2.1 ∈ m_WS := wd_757
def mt_L_passes : m_T := (yL_passes, Cond.code yL_passes cL_passes 21 (some .boolean), cL_passes, 21, (some .boolean), 420, 2600)
theorem cw_L_passes : mt_L_passes.2.1 ∈ m_WS := wd_746
def mt_L_isSealed : m_T := (yL_isSealed, Cond.code yL_isSealed cL_isSealed 3 (some .boolean), cL_isSealed, 3, (some .boolean), 70, 400)
theorem cw_L_isSealed : mt_L_isSealed.2.1 ∈ m_WS := wd_808
def mt_L_acts : m_T := (yL_acts, Cond.code yL_acts cL_acts 8 (some .boolean), cL_acts, 8, (some .boolean), 550, 4150)
theorem cw_L_acts : mt_L_acts.2.1 ∈ m_WS := wd_375
theorem th_iss_107_111_0 : ∀ w ∈ (vx_atS RX6 111 m_iss m_exn).filter goodWord, w ∈ lw_tbl := by decide +kernel
theorem th_iss_107_111_a : ∀ w ∈ (vx_atS RX6 111 m_iss m_exn).filter goodWord, w ∈ m_WS := fun w hw => List.mem_filter.mpr ⟨th_iss_107_111_0 w hw, (List.mem_filter.mp hw).2⟩
theorem th_iss_107_111_b : ∀ w ∈ (vx_atS RX6 111 m_iss m_exn).filter (fun w => !goodWord w), w ∈ m_CW := by decide +kernel
theorem th_iss_107_111_c : ∀ w ∈ Cond.classLink RX6 107 m_iss :: Cond.initialized m_iss :: vx_atS RX6 111 m_iss m_exn, vx_ot w = true := by decide +kernel
theorem th_ios_269_273_0 : ∀ w ∈ (vx_atS RX6 273 m_ios m_exn).filter goodWord, w ∈ lw_tbl := by decide +kernel
theorem th_ios_269_273_a : ∀ w ∈ (vx_atS RX6 273 m_ios m_exn).filter goodWord, w ∈ m_WS := fun w hw => List.mem_filter.mpr ⟨th_ios_269_273_0 w hw, (List.mem_filter.mp hw).2⟩
theorem th_ios_269_273_b : ∀ w ∈ (vx_atS RX6 273 m_ios m_exn).filter (fun w => !goodWord w), w ∈ m_CW := by decide +kernel
theorem th_ios_269_273_c : ∀ w ∈ Cond.classLink RX6 269 m_ios :: Cond.initialized m_ios :: vx_atS RX6 273 m_ios m_exn, vx_ot w = true := by decide +kernel
theorem th_ias_278_282_0 : ∀ w ∈ (vx_atS RX6 282 m_ias m_exn).filter goodWord, w ∈ lw_tbl := by decide +kernel
theorem th_ias_278_282_a : ∀ w ∈ (vx_atS RX6 282 m_ias m_exn).filter goodWord, w ∈ m_WS := fun w hw => List.mem_filter.mpr ⟨th_ias_278_282_0 w hw, (List.mem_filter.mp hw).2⟩
theorem th_ias_278_282_b : ∀ w ∈ (vx_atS RX6 282 m_ias m_exn).filter (fun w => !goodWord w), w ∈ m_CW := by decide +kernel
theorem th_ias_278_282_c : ∀ w ∈ Cond.classLink RX6 278 m_ias :: Cond.initialized m_ias :: vx_atS RX6 282 m_ias m_exn, vx_ot w = true := by decide +kernel
def m_tab : List m_T := [mt_X0_init, mt_X0_across, mt_X1_init, mt_X2_init, mt_X3_init, mt_X3_clear, mt_X3_lay, mt_X3_tell, mt_X3_hand, mt_X3_sever, mt_X3_mend, mt_X3_lead, mt_X3_freeAll, mt_X3_leadOne, mt_X3_foreignOn, mt_X3_follow, mt_X3_isBetter, mt_X3_take, mt_X3_takeFrom, mt_X4_init, mt_X5_init, mt_X5_sailTo, mt_X6_init, mt_X6_cable, mt_X6_demand, mt_X6_sell, mt_X6_cut, mt_X6_ship, mt_X6_send, mt_X6_fill, mt_X6_storm, mt_X6_pass, mt_X6_owned, mt_X6_isWhole, mt_X6_way, mt_X6_lent, mt_X6_owes, mt_X6_owesAnew, mt_X6_account, mt_X6_spent, mt_X6_sold, mt_X6_place, mt_X6_worked, mt_X6_seal, mt_X6_passHour, mt_X6_addLoans, mt_X6_payCredits, mt_X6_cableCutFirst, mt_X6_chargeOwners, mt_X6_runShip, mt_X6_work, mt_X6_isStorm, mt_X6_retellNet, mt_X6_retellSales, mt_X6_checkLanding, mt_X6_checkMember, mt_X6_checkNumber, mt_X6_checkUnlike, mt_X6_checkRange, mt_X6_checkRoom, mt_X6_checkOpenForShip, mt_Jxa1e45_init_da8c8, mt_Jxc12de_init_da8c8, mt_Jx4a65c_init_da8c8, mt_Jx4a65c_grow_92f84, mt_Jx4a65c_grow_d5877, mt_Jx4a65c_size_8abf5, mt_Jx4a65c_elementData_915e3, mt_Jx4a65c_get_915e3, mt_Jx4a65c_add_72be8, mt_Jx4a65c_add_9ea2d, mt_J7_copyOf_1904c, mt_J7_copyOf_6403c, mt_J15_checkIndex_7cf53, mt_J8_newLength_cabcc, mt_J3_checkIndex_8e157, mt_L_at, mt_L_low, mt_L_cable, mt_L_demand, mt_L_sell, mt_L_cut, mt_L_ship, mt_L_send, mt_L_fill, mt_L_storm, mt_L_pass, mt_L_owned, mt_L_isWhole, mt_L_way, mt_L_lent, mt_L_owes, mt_L_owesAnew, mt_L_account, mt_L_sold, mt_L_place, mt_L_worked, mt_L_adds, mt_L_sets, mt_L_isWay, mt_L_passes, mt_L_isSealed, mt_L_acts]
def m_my (y : Nat) : m_T := (m_tab[y]?).getD mt_X0_init
theorem my_X0_init : m_my 0 = mt_X0_init := rfl
theorem my_X0_across : m_my 1 = mt_X0_across := rfl
theorem my_X1_init : m_my 2 = mt_X1_init := rfl
theorem my_X2_init : m_my 3 = mt_X2_init := rfl
theorem my_X3_init : m_my 4 = mt_X3_init := rfl
theorem my_X3_clear : m_my 5 = mt_X3_clear := rfl
theorem my_X3_lay : m_my 6 = mt_X3_lay := rfl
theorem my_X3_tell : m_my 7 = mt_X3_tell := rfl
theorem my_X3_hand : m_my 8 = mt_X3_hand := rfl
theorem my_X3_sever : m_my 9 = mt_X3_sever := rfl
theorem my_X3_mend : m_my 10 = mt_X3_mend := rfl
theorem my_X3_lead : m_my 11 = mt_X3_lead := rfl
theorem my_X3_freeAll : m_my 12 = mt_X3_freeAll := rfl
theorem my_X3_leadOne : m_my 13 = mt_X3_leadOne := rfl
theorem my_X3_foreignOn : m_my 14 = mt_X3_foreignOn := rfl
theorem my_X3_follow : m_my 15 = mt_X3_follow := rfl
theorem my_X3_isBetter : m_my 16 = mt_X3_isBetter := rfl
theorem my_X3_take : m_my 17 = mt_X3_take := rfl
theorem my_X3_takeFrom : m_my 18 = mt_X3_takeFrom := rfl
theorem my_X4_init : m_my 19 = mt_X4_init := rfl
theorem my_X5_init : m_my 20 = mt_X5_init := rfl
theorem my_X5_sailTo : m_my 21 = mt_X5_sailTo := rfl
theorem my_X6_init : m_my 22 = mt_X6_init := rfl
theorem my_X6_cable : m_my 23 = mt_X6_cable := rfl
theorem my_X6_demand : m_my 24 = mt_X6_demand := rfl
theorem my_X6_sell : m_my 25 = mt_X6_sell := rfl
theorem my_X6_cut : m_my 26 = mt_X6_cut := rfl
theorem my_X6_ship : m_my 27 = mt_X6_ship := rfl
theorem my_X6_send : m_my 28 = mt_X6_send := rfl
theorem my_X6_fill : m_my 29 = mt_X6_fill := rfl
theorem my_X6_storm : m_my 30 = mt_X6_storm := rfl
theorem my_X6_pass : m_my 31 = mt_X6_pass := rfl
theorem my_X6_owned : m_my 32 = mt_X6_owned := rfl
theorem my_X6_isWhole : m_my 33 = mt_X6_isWhole := rfl
theorem my_X6_way : m_my 34 = mt_X6_way := rfl
theorem my_X6_lent : m_my 35 = mt_X6_lent := rfl
theorem my_X6_owes : m_my 36 = mt_X6_owes := rfl
theorem my_X6_owesAnew : m_my 37 = mt_X6_owesAnew := rfl
theorem my_X6_account : m_my 38 = mt_X6_account := rfl
theorem my_X6_spent : m_my 39 = mt_X6_spent := rfl
theorem my_X6_sold : m_my 40 = mt_X6_sold := rfl
theorem my_X6_place : m_my 41 = mt_X6_place := rfl
theorem my_X6_worked : m_my 42 = mt_X6_worked := rfl
theorem my_X6_seal : m_my 43 = mt_X6_seal := rfl
theorem my_X6_passHour : m_my 44 = mt_X6_passHour := rfl
theorem my_X6_addLoans : m_my 45 = mt_X6_addLoans := rfl
theorem my_X6_payCredits : m_my 46 = mt_X6_payCredits := rfl
theorem my_X6_cableCutFirst : m_my 47 = mt_X6_cableCutFirst := rfl
theorem my_X6_chargeOwners : m_my 48 = mt_X6_chargeOwners := rfl
theorem my_X6_runShip : m_my 49 = mt_X6_runShip := rfl
theorem my_X6_work : m_my 50 = mt_X6_work := rfl
theorem my_X6_isStorm : m_my 51 = mt_X6_isStorm := rfl
theorem my_X6_retellNet : m_my 52 = mt_X6_retellNet := rfl
theorem my_X6_retellSales : m_my 53 = mt_X6_retellSales := rfl
theorem my_X6_checkLanding : m_my 54 = mt_X6_checkLanding := rfl
theorem my_X6_checkMember : m_my 55 = mt_X6_checkMember := rfl
theorem my_X6_checkNumber : m_my 56 = mt_X6_checkNumber := rfl
theorem my_X6_checkUnlike : m_my 57 = mt_X6_checkUnlike := rfl
theorem my_X6_checkRange : m_my 58 = mt_X6_checkRange := rfl
theorem my_X6_checkRoom : m_my 59 = mt_X6_checkRoom := rfl
theorem my_X6_checkOpenForShip : m_my 60 = mt_X6_checkOpenForShip := rfl
theorem my_Jxa1e45_init_da8c8 : m_my 61 = mt_Jxa1e45_init_da8c8 := rfl
theorem my_Jxc12de_init_da8c8 : m_my 62 = mt_Jxc12de_init_da8c8 := rfl
theorem my_Jx4a65c_init_da8c8 : m_my 63 = mt_Jx4a65c_init_da8c8 := rfl
theorem my_Jx4a65c_grow_92f84 : m_my 64 = mt_Jx4a65c_grow_92f84 := rfl
theorem my_Jx4a65c_grow_d5877 : m_my 65 = mt_Jx4a65c_grow_d5877 := rfl
theorem my_Jx4a65c_size_8abf5 : m_my 66 = mt_Jx4a65c_size_8abf5 := rfl
theorem my_Jx4a65c_elementData_915e3 : m_my 67 = mt_Jx4a65c_elementData_915e3 := rfl
theorem my_Jx4a65c_get_915e3 : m_my 68 = mt_Jx4a65c_get_915e3 := rfl
theorem my_Jx4a65c_add_72be8 : m_my 69 = mt_Jx4a65c_add_72be8 := rfl
theorem my_Jx4a65c_add_9ea2d : m_my 70 = mt_Jx4a65c_add_9ea2d := rfl
theorem my_J7_copyOf_1904c : m_my 71 = mt_J7_copyOf_1904c := rfl
theorem my_J7_copyOf_6403c : m_my 72 = mt_J7_copyOf_6403c := rfl
theorem my_J15_checkIndex_7cf53 : m_my 73 = mt_J15_checkIndex_7cf53 := rfl
theorem my_J8_newLength_cabcc : m_my 74 = mt_J8_newLength_cabcc := rfl
theorem my_J3_checkIndex_8e157 : m_my 75 = mt_J3_checkIndex_8e157 := rfl
theorem my_L_at : m_my 76 = mt_L_at := rfl
theorem my_L_low : m_my 77 = mt_L_low := rfl
theorem my_L_cable : m_my 78 = mt_L_cable := rfl
theorem my_L_demand : m_my 79 = mt_L_demand := rfl
theorem my_L_sell : m_my 80 = mt_L_sell := rfl
theorem my_L_cut : m_my 81 = mt_L_cut := rfl
theorem my_L_ship : m_my 82 = mt_L_ship := rfl
theorem my_L_send : m_my 83 = mt_L_send := rfl
theorem my_L_fill : m_my 84 = mt_L_fill := rfl
theorem my_L_storm : m_my 85 = mt_L_storm := rfl
theorem my_L_pass : m_my 86 = mt_L_pass := rfl
theorem my_L_owned : m_my 87 = mt_L_owned := rfl
theorem my_L_isWhole : m_my 88 = mt_L_isWhole := rfl
theorem my_L_way : m_my 89 = mt_L_way := rfl
theorem my_L_lent : m_my 90 = mt_L_lent := rfl
theorem my_L_owes : m_my 91 = mt_L_owes := rfl
theorem my_L_owesAnew : m_my 92 = mt_L_owesAnew := rfl
theorem my_L_account : m_my 93 = mt_L_account := rfl
theorem my_L_sold : m_my 94 = mt_L_sold := rfl
theorem my_L_place : m_my 95 = mt_L_place := rfl
theorem my_L_worked : m_my 96 = mt_L_worked := rfl
theorem my_L_adds : m_my 97 = mt_L_adds := rfl
theorem my_L_sets : m_my 98 = mt_L_sets := rfl
theorem my_L_isWay : m_my 99 = mt_L_isWay := rfl
theorem my_L_passes : m_my 100 = mt_L_passes := rfl
theorem my_L_isSealed : m_my 101 = mt_L_isSealed := rfl
theorem my_L_acts : m_my 102 = mt_L_acts := rfl
