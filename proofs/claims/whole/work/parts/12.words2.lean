theorem in_Jx4a65c : ∀ w ∈ u_ws RJx4a65c TJx4a65c 3, w ∈ m_WS := List.forall_mem_cons.mpr ⟨wd_131, List.forall_mem_cons.mpr ⟨wd_127, List.forall_mem_cons.mpr ⟨wd_129, fun _ h => nomatch h⟩⟩⟩
theorem df_Jx4a65c : ∀ j, j < 3 → defaultValue (tyJx4a65c j) = vp_V [.int 0, .null, .int 0] j := by decide +kernel
theorem dv_Jx4a65c : ∀ n : Nat, ∀ v ∈ ([.int 0, .null, .int 0] : List Value), m_vok n v := by intro n; simp [m_vok]
theorem in_X0 : ∀ w ∈ u_ws RX0 TX0 7, w ∈ m_WS := List.forall_mem_cons.mpr ⟨wd_342, List.forall_mem_cons.mpr ⟨wd_344, List.forall_mem_cons.mpr ⟨wd_346, List.forall_mem_cons.mpr ⟨wd_348, List.forall_mem_cons.mpr ⟨wd_350, List.forall_mem_cons.mpr ⟨wd_352, List.forall_mem_cons.mpr ⟨wd_354, fun _ h => nomatch h⟩⟩⟩⟩⟩⟩⟩
theorem df_X0 : ∀ j, j < 7 → defaultValue (tyX0 j) = vp_V [.int 0, .int 0, .int 0, .int 0, .int 0, .int 0, .int 0] j := by decide +kernel
theorem dv_X0 : ∀ n : Nat, ∀ v ∈ ([.int 0, .int 0, .int 0, .int 0, .int 0, .int 0, .int 0] : List Value), m_vok n v := by intro n; simp [m_vok]
theorem in_X1 : ∀ w ∈ u_ws RX1 TX1 5, w ∈ m_WS := List.forall_mem_cons.mpr ⟨wd_528, List.forall_mem_cons.mpr ⟨wd_530, List.forall_mem_cons.mpr ⟨wd_532, List.forall_mem_cons.mpr ⟨wd_534, List.forall_mem_cons.mpr ⟨wd_536, fun _ h => nomatch h⟩⟩⟩⟩⟩
theorem df_X1 : ∀ j, j < 5 → defaultValue (tyX1 j) = vp_V [.int 0, .int 0, .int 0, .int 0, .int 0] j := by decide +kernel
theorem dv_X1 : ∀ n : Nat, ∀ v ∈ ([.int 0, .int 0, .int 0, .int 0, .int 0] : List Value), m_vok n v := by intro n; simp [m_vok]
theorem in_X2 : ∀ w ∈ u_ws RX2 TX2 5, w ∈ m_WS := List.forall_mem_cons.mpr ⟨wd_386, List.forall_mem_cons.mpr ⟨wd_388, List.forall_mem_cons.mpr ⟨wd_390, List.forall_mem_cons.mpr ⟨wd_392, List.forall_mem_cons.mpr ⟨wd_394, fun _ h => nomatch h⟩⟩⟩⟩⟩
theorem df_X2 : ∀ j, j < 5 → defaultValue (tyX2 j) = vp_V [.int 0, .int 0, .int 0, .int 0, .int 0] j := by decide +kernel
theorem dv_X2 : ∀ n : Nat, ∀ v ∈ ([.int 0, .int 0, .int 0, .int 0, .int 0] : List Value), m_vok n v := by intro n; simp [m_vok]
theorem in_X3 : ∀ w ∈ u_ws RX3 TX3 16, w ∈ m_WS := List.forall_mem_cons.mpr ⟨wd_69, List.forall_mem_cons.mpr ⟨wd_71, List.forall_mem_cons.mpr ⟨wd_73, List.forall_mem_cons.mpr ⟨wd_75, List.forall_mem_cons.mpr ⟨wd_77, List.forall_mem_cons.mpr ⟨wd_79, List.forall_mem_cons.mpr ⟨wd_81, List.forall_mem_cons.mpr ⟨wd_83, List.forall_mem_cons.mpr ⟨wd_85, List.forall_mem_cons.mpr ⟨wd_87, List.forall_mem_cons.mpr ⟨wd_89, List.forall_mem_cons.mpr ⟨wd_91, List.forall_mem_cons.mpr ⟨wd_93, List.forall_mem_cons.mpr ⟨wd_95, List.forall_mem_cons.mpr ⟨wd_97, List.forall_mem_cons.mpr ⟨wd_99, fun _ h => nomatch h⟩⟩⟩⟩⟩⟩⟩⟩⟩⟩⟩⟩⟩⟩⟩⟩
theorem df_X3 : ∀ j, j < 16 → defaultValue (tyX3 j) = vp_V [.null, .null, .null, .null, .null, .null, .null, .int 0, .int 0, .null, .null, .int 0, .int 0, .int 0, .int 0, .int 0] j := by decide +kernel
theorem dv_X3 : ∀ n : Nat, ∀ v ∈ ([.null, .null, .null, .null, .null, .null, .null, .int 0, .int 0, .null, .null, .int 0, .int 0, .int 0, .int 0, .int 0] : List Value), m_vok n v := by intro n; simp [m_vok]
theorem in_X4 : ∀ w ∈ u_ws RX4 TX4 5, w ∈ m_WS := List.forall_mem_cons.mpr ⟨wd_430, List.forall_mem_cons.mpr ⟨wd_432, List.forall_mem_cons.mpr ⟨wd_434, List.forall_mem_cons.mpr ⟨wd_436, List.forall_mem_cons.mpr ⟨wd_438, fun _ h => nomatch h⟩⟩⟩⟩⟩
theorem df_X4 : ∀ j, j < 5 → defaultValue (tyX4 j) = vp_V [.int 0, .int 0, .int 0, .int 0, .int 0] j := by decide +kernel
theorem dv_X4 : ∀ n : Nat, ∀ v ∈ ([.int 0, .int 0, .int 0, .int 0, .int 0] : List Value), m_vok n v := by intro n; simp [m_vok]
theorem in_X5 : ∀ w ∈ u_ws RX5 TX5 4, w ∈ m_WS := List.forall_mem_cons.mpr ⟨wd_562, List.forall_mem_cons.mpr ⟨wd_564, List.forall_mem_cons.mpr ⟨wd_566, List.forall_mem_cons.mpr ⟨wd_568, fun _ h => nomatch h⟩⟩⟩⟩
theorem df_X5 : ∀ j, j < 4 → defaultValue (tyX5 j) = vp_V [.int 0, .int 0, .int 0, .int 0] j := by decide +kernel
theorem dv_X5 : ∀ n : Nat, ∀ v ∈ ([.int 0, .int 0, .int 0, .int 0] : List Value), m_vok n v := by intro n; simp [m_vok]
theorem in_X6 : ∀ w ∈ u_ws RX6 TX6 15, w ∈ m_WS := List.forall_mem_cons.mpr ⟨wd_150, List.forall_mem_cons.mpr ⟨wd_152, List.forall_mem_cons.mpr ⟨wd_154, List.forall_mem_cons.mpr ⟨wd_156, List.forall_mem_cons.mpr ⟨wd_158, List.forall_mem_cons.mpr ⟨wd_160, List.forall_mem_cons.mpr ⟨wd_162, List.forall_mem_cons.mpr ⟨wd_164, List.forall_mem_cons.mpr ⟨wd_166, List.forall_mem_cons.mpr ⟨wd_168, List.forall_mem_cons.mpr ⟨wd_170, List.forall_mem_cons.mpr ⟨wd_172, List.forall_mem_cons.mpr ⟨wd_174, List.forall_mem_cons.mpr ⟨wd_176, List.forall_mem_cons.mpr ⟨wd_178, fun _ h => nomatch h⟩⟩⟩⟩⟩⟩⟩⟩⟩⟩⟩⟩⟩⟩⟩
theorem df_X6 : ∀ j, j < 15 → defaultValue (tyX6 j) = vp_V [.null, .null, .null, .null, .null, .null, .null, .null, .int 0, .int 0, .int 0, .int 0, .int 0, .int 0, .int 0] j := by decide +kernel
theorem dv_X6 : ∀ n : Nat, ∀ v ∈ ([.null, .null, .null, .null, .null, .null, .null, .null, .int 0, .int 0, .int 0, .int 0, .int 0, .int 0, .int 0] : List Value), m_vok n v := by intro n; simp [m_vok]
theorem in_X7 : ∀ w ∈ u_ws RX7 TX7 36, w ∈ m_WS := List.forall_mem_cons.mpr ⟨wd_825, List.forall_mem_cons.mpr ⟨wd_827, List.forall_mem_cons.mpr ⟨wd_829, List.forall_mem_cons.mpr ⟨wd_831, List.forall_mem_cons.mpr ⟨wd_833, List.forall_mem_cons.mpr ⟨wd_835, List.forall_mem_cons.mpr ⟨wd_837, List.forall_mem_cons.mpr ⟨wd_839, List.forall_mem_cons.mpr ⟨wd_841, List.forall_mem_cons.mpr ⟨wd_843, List.forall_mem_cons.mpr ⟨wd_845, List.forall_mem_cons.mpr ⟨wd_847, List.forall_mem_cons.mpr ⟨wd_849, List.forall_mem_cons.mpr ⟨wd_851, List.forall_mem_cons.mpr ⟨wd_853, List.forall_mem_cons.mpr ⟨wd_855, List.forall_mem_cons.mpr ⟨wd_857, List.forall_mem_cons.mpr ⟨wd_859, List.forall_mem_cons.mpr ⟨wd_861, List.forall_mem_cons.mpr ⟨wd_863, List.forall_mem_cons.mpr ⟨wd_865, List.forall_mem_cons.mpr ⟨wd_867, List.forall_mem_cons.mpr ⟨wd_869, List.forall_mem_cons.mpr ⟨wd_871, List.forall_mem_cons.mpr ⟨wd_873, List.forall_mem_cons.mpr ⟨wd_875, List.forall_mem_cons.mpr ⟨wd_877, List.forall_mem_cons.mpr ⟨wd_879, List.forall_mem_cons.mpr ⟨wd_881, List.forall_mem_cons.mpr ⟨wd_883, List.forall_mem_cons.mpr ⟨wd_885, List.forall_mem_cons.mpr ⟨wd_887, List.forall_mem_cons.mpr ⟨wd_889, List.forall_mem_cons.mpr ⟨wd_891, List.forall_mem_cons.mpr ⟨wd_893, List.forall_mem_cons.mpr ⟨wd_895, fun _ h => nomatch h⟩⟩⟩⟩⟩⟩⟩⟩⟩⟩⟩⟩⟩⟩⟩⟩⟩⟩⟩⟩⟩⟩⟩⟩⟩⟩⟩⟩⟩⟩⟩⟩⟩⟩⟩⟩
theorem df_X7 : ∀ j, j < 36 → defaultValue (tyX7 j) = vp_V [.int 0, .int 0, .null, .null, .null, .int 0, .null, .null, .null, .null, .null, .null, .int 0, .null, .null, .null, .null, .int 0, .null, .null, .null, .null, .int 0, .int 0, .null, .null, .null, .int 0, .null, .null, .null, .null, .int 0, .int 0, .int 0, .int 0] j := by decide +kernel
theorem dv_X7 : ∀ n : Nat, ∀ v ∈ ([.int 0, .int 0, .null, .null, .null, .int 0, .null, .null, .null, .null, .null, .null, .int 0, .null, .null, .null, .null, .int 0, .null, .null, .null, .null, .int 0, .int 0, .null, .null, .null, .int 0, .null, .null, .null, .null, .int 0, .int 0, .int 0, .int 0] : List Value), m_vok n v := by intro n; simp [m_vok]
def mt_X0_init : m_T := (yX0_init, Cond.code yX0_init cX0_init 6 none, cX0_init, 6, none, 0, 0)
theorem cw_X0_init : mt_X0_init.2.1 ∈ m_WS := wd_320
def mt_X0_across : m_T := (yX0_across, Cond.code yX0_across cX0_across 2 (some .int), cX0_across, 2, (some .int), 0, 0)
theorem cw_X0_across : mt_X0_across.2.1 ∈ m_WS := wd_635
def mt_X1_init : m_T := (yX1_init, Cond.code yX1_init cX1_init 4 none, cX1_init, 4, none, 0, 0)
theorem cw_X1_init : mt_X1_init.2.1 ∈ m_WS := wd_517
def mt_X2_init : m_T := (yX2_init, Cond.code yX2_init cX2_init 6 none, cX2_init, 6, none, 0, 0)
theorem cw_X2_init : mt_X2_init.2.1 ∈ m_WS := wd_372
def mt_X3_init : m_T := (yX3_init, Cond.code yX3_init cX3_init 1 none, cX3_init, 1, none, 35, 242)
theorem cw_X3_init : mt_X3_init.2.1 ∈ m_WS := wd_36
def mt_X3_clear : m_T := (yX3_clear, Cond.code yX3_clear cX3_clear 1 none, cX3_clear, 1, none, 0, 0)
theorem cw_X3_clear : mt_X3_clear.2.1 ∈ m_WS := wd_732
def mt_X3_lay : m_T := (yX3_lay, Cond.code yX3_lay cX3_lay 3 none, cX3_lay, 3, none, 0, 0)
theorem cw_X3_lay : mt_X3_lay.2.1 ∈ m_WS := wd_360
def mt_X3_tell : m_T := (yX3_tell, Cond.code yX3_tell cX3_tell 2 none, cX3_tell, 2, none, 0, 0)
theorem cw_X3_tell : mt_X3_tell.2.1 ∈ m_WS := wd_400
def mt_X3_hand : m_T := (yX3_hand, Cond.code yX3_hand cX3_hand 2 none, cX3_hand, 2, none, 0, 0)
theorem cw_X3_hand : mt_X3_hand.2.1 ∈ m_WS := wd_505
def mt_X3_sever : m_T := (yX3_sever, Cond.code yX3_sever cX3_sever 2 none, cX3_sever, 2, none, 0, 0)
theorem cw_X3_sever : mt_X3_sever.2.1 ∈ m_WS := wd_542
def mt_X3_mend : m_T := (yX3_mend, Cond.code yX3_mend cX3_mend 2 none, cX3_mend, 2, none, 0, 0)
theorem cw_X3_mend : mt_X3_mend.2.1 ∈ m_WS := wd_686
def mt_X3_lead : m_T := (yX3_lead, Cond.code yX3_lead cX3_lead 2 none, cX3_lead, 2, none, 0, 0)
theorem cw_X3_lead : mt_X3_lead.2.1 ∈ m_WS := wd_614
def mt_X3_freeAll : m_T := (yX3_freeAll, Cond.code yX3_freeAll cX3_freeAll 3 none, cX3_freeAll, 3, none, 0, 0)
theorem cw_X3_freeAll : mt_X3_freeAll.2.1 ∈ m_WS := wd_618
def mt_X3_leadOne : m_T := (yX3_leadOne, Cond.code yX3_leadOne cX3_leadOne 5 none, cX3_leadOne, 5, none, 0, 0)
theorem cw_X3_leadOne : mt_X3_leadOne.2.1 ∈ m_WS := wd_623
def mt_X3_foreignOn : m_T := (yX3_foreignOn, Cond.code yX3_foreignOn cX3_foreignOn 5 (some .int), cX3_foreignOn, 5, (some .int), 0, 0)
theorem cw_X3_foreignOn : mt_X3_foreignOn.2.1 ∈ m_WS := wd_627
def mt_X3_follow : m_T := (yX3_follow, Cond.code yX3_follow cX3_follow 11 none, cX3_follow, 11, none, 0, 0)
theorem cw_X3_follow : mt_X3_follow.2.1 ∈ m_WS := wd_631
def mt_X3_isBetter : m_T := (yX3_isBetter, Cond.code yX3_isBetter cX3_isBetter 3 (some .boolean), cX3_isBetter, 3, (some .boolean), 0, 0)
theorem cw_X3_isBetter : mt_X3_isBetter.2.1 ∈ m_WS := wd_639
def mt_X3_take : m_T := (yX3_take, Cond.code yX3_take cX3_take 7 none, cX3_take, 7, none, 0, 0)
theorem cw_X3_take : mt_X3_take.2.1 ∈ m_WS := wd_643
def mt_X3_takeFrom : m_T := (yX3_takeFrom, Cond.code yX3_takeFrom cX3_takeFrom 5 (some .int), cX3_takeFrom, 5, (some .int), 0, 0)
theorem cw_X3_takeFrom : mt_X3_takeFrom.2.1 ∈ m_WS := wd_647
def mt_X4_init : m_T := (yX4_init, Cond.code yX4_init cX4_init 6 none, cX4_init, 6, none, 0, 0)
theorem cw_X4_init : mt_X4_init.2.1 ∈ m_WS := wd_418
def mt_X5_init : m_T := (yX5_init, Cond.code yX5_init cX5_init 4 none, cX5_init, 4, none, 0, 0)
theorem cw_X5_init : mt_X5_init.2.1 ∈ m_WS := wd_553
def mt_X5_sailTo : m_T := (yX5_sailTo, Cond.code yX5_sailTo cX5_sailTo 2 none, cX5_sailTo, 2, none, 0, 0)
theorem cw_X5_sailTo : mt_X5_sailTo.2.1 ∈ m_WS := wd_672
def mt_X6_init : m_T := (yX6_init, Cond.code yX6_init cX6_init 1 none, cX6_init, 1, none, 90, 628)
theorem cw_X6_init : mt_X6_init.2.1 ∈ m_WS := wd_28
def mt_X6_cable : m_T := (yX6_cable, Cond.code yX6_cable cX6_cable 5 (some .int), cX6_cable, 5, (some .int), 7, 43)
theorem cw_X6_cable : mt_X6_cable.2.1 ∈ m_WS := wd_198
def mt_X6_demand : m_T := (yX6_demand, Cond.code yX6_demand cX6_demand 5 (some .int), cX6_demand, 5, (some .int), 7, 41)
theorem cw_X6_demand : mt_X6_demand.2.1 ∈ m_WS := wd_367
def mt_X6_sell : m_T := (yX6_sell, Cond.code yX6_sell cX6_sell 7 (some .int), cX6_sell, 7, (some .int), 9, 847)
theorem cw_X6_sell : mt_X6_sell.2.1 ∈ m_WS := wd_407
def mt_X6_cut : m_T := (yX6_cut, Cond.code yX6_cut cX6_cut 4 (some .int), cX6_cut, 4, (some .int), 5, 29)
theorem cw_X6_cut : mt_X6_cut.2.1 ∈ m_WS := wd_512
def mt_X6_ship : m_T := (yX6_ship, Cond.code yX6_ship cX6_ship 4 (some .int), cX6_ship, 4, (some .int), 5, 28)
theorem cw_X6_ship : mt_X6_ship.2.1 ∈ m_WS := wd_549
def mt_X6_send : m_T := (yX6_send, Cond.code yX6_send cX6_send 4 (some .int), cX6_send, 4, (some .int), 4, 24)
theorem cw_X6_send : mt_X6_send.2.1 ∈ m_WS := wd_577
def mt_X6_fill : m_T := (yX6_fill, Cond.code yX6_fill cX6_fill 5 (some .int), cX6_fill, 5, (some .int), 3, 18)
theorem cw_X6_fill : mt_X6_fill.2.1 ∈ m_WS := wd_590
def mt_X6_storm : m_T := (yX6_storm, Cond.code yX6_storm cX6_storm 3 none, cX6_storm, 3, none, 2, 12)
theorem cw_X6_storm : mt_X6_storm.2.1 ∈ m_WS := wd_598
def mt_X6_pass : m_T := (yX6_pass, Cond.code yX6_pass cX6_pass 3 (some .int), cX6_pass, 3, (some .int), 2, 12)
theorem cw_X6_pass : mt_X6_pass.2.1 ∈ m_WS := wd_605
def mt_X6_owned : m_T := (yX6_owned, Cond.code yX6_owned cX6_owned 3 (some .int), cX6_owned, 3, (some .int), 2, 12)
theorem cw_X6_owned : mt_X6_owned.2.1 ∈ m_WS := wd_693
def mt_X6_isWhole : m_T := (yX6_isWhole, Cond.code yX6_isWhole cX6_isWhole 2 (some .boolean), cX6_isWhole, 2, (some .boolean), 1, 6)
theorem cw_X6_isWhole : mt_X6_isWhole.2.1 ∈ m_WS := wd_700
def mt_X6_way : m_T := (yX6_way, Cond.code yX6_way cX6_way 2 (some .int), cX6_way, 2, (some .int), 1, 6)
theorem cw_X6_way : mt_X6_way.2.1 ∈ m_WS := wd_707
def mt_X6_lent : m_T := (yX6_lent, Cond.code yX6_lent cX6_lent 2 (some .int), cX6_lent, 2, (some .int), 1, 6)
theorem cw_X6_lent : mt_X6_lent.2.1 ∈ m_WS := wd_714
def mt_X6_owes : m_T := (yX6_owes, Cond.code yX6_owes cX6_owes 3 (some .int), cX6_owes, 3, (some .int), 2, 12)
theorem cw_X6_owes : mt_X6_owes.2.1 ∈ m_WS := wd_721
def mt_X6_owesAnew : m_T := (yX6_owesAnew, Cond.code yX6_owesAnew cX6_owesAnew 6 (some .int), cX6_owesAnew, 6, (some .int), 2, 12)
theorem cw_X6_owesAnew : mt_X6_owesAnew.2.1 ∈ m_WS := wd_728
def mt_X6_account : m_T := (yX6_account, Cond.code yX6_account cX6_account 2 (some .int), cX6_account, 2, (some .int), 1, 6)
theorem cw_X6_account : mt_X6_account.2.1 ∈ m_WS := wd_761
def mt_X6_spent : m_T := (yX6_spent, Cond.code yX6_spent cX6_spent 1 (some .int), cX6_spent, 1, (some .int), 0, 0)
theorem cw_X6_spent : mt_X6_spent.2.1 ∈ m_WS := wd_184
def mt_X6_sold : m_T := (yX6_sold, Cond.code yX6_sold cX6_sold 3 (some .int), cX6_sold, 3, (some .int), 2, 12)
theorem cw_X6_sold : mt_X6_sold.2.1 ∈ m_WS := wd_768
def mt_X6_place : m_T := (yX6_place, Cond.code yX6_place cX6_place 2 (some .int), cX6_place, 2, (some .int), 1, 6)
theorem cw_X6_place : mt_X6_place.2.1 ∈ m_WS := wd_775
def mt_X6_worked : m_T := (yX6_worked, Cond.code yX6_worked cX6_worked 2 (some .int), cX6_worked, 2, (some .int), 1, 6)
theorem cw_X6_worked : mt_X6_worked.2.1 ∈ m_WS := wd_782
def mt_X6_seal : m_T := (yX6_seal, Cond.code yX6_seal cX6_seal 4 (some .int), cX6_seal, 4, (some .int), 0, 0)
theorem cw_X6_seal : mt_X6_seal.2.1 ∈ m_WS := wd_188
def mt_X6_passHour : m_T := (yX6_passHour, Cond.code yX6_passHour cX6_passHour 2 none, cX6_passHour, 2, none, 0, 0)
theorem cw_X6_passHour : mt_X6_passHour.2.1 ∈ m_WS := wd_610
def mt_X6_addLoans : m_T := (yX6_addLoans, Cond.code yX6_addLoans cX6_addLoans 3 none, cX6_addLoans, 3, none, 0, 0)
theorem cw_X6_addLoans : mt_X6_addLoans.2.1 ∈ m_WS := wd_652
def mt_X6_payCredits : m_T := (yX6_payCredits, Cond.code yX6_payCredits cX6_payCredits 5 none, cX6_payCredits, 5, none, 0, 0)
theorem cw_X6_payCredits : mt_X6_payCredits.2.1 ∈ m_WS := wd_656
def mt_X6_cableCutFirst : m_T := (yX6_cableCutFirst, Cond.code yX6_cableCutFirst cX6_cableCutFirst 5 (some .int), cX6_cableCutFirst, 5, (some .int), 0, 0)
theorem cw_X6_cableCutFirst : mt_X6_cableCutFirst.2.1 ∈ m_WS := wd_660
def mt_X6_chargeOwners : m_T := (yX6_chargeOwners, Cond.code yX6_chargeOwners cX6_chargeOwners 9 none, cX6_chargeOwners, 9, none, 0, 0)
theorem cw_X6_chargeOwners : mt_X6_chargeOwners.2.1 ∈ m_WS := wd_664
def mt_X6_runShip : m_T := (yX6_runShip, Cond.code yX6_runShip cX6_runShip 3 none, cX6_runShip, 3, none, 0, 0)
theorem cw_X6_runShip : mt_X6_runShip.2.1 ∈ m_WS := wd_668
def mt_X6_work : m_T := (yX6_work, Cond.code yX6_work cX6_work 3 none, cX6_work, 3, none, 0, 0)
theorem cw_X6_work : mt_X6_work.2.1 ∈ m_WS := wd_682
def mt_X6_isStorm : m_T := (yX6_isStorm, Cond.code yX6_isStorm cX6_isStorm 1 (some .boolean), cX6_isStorm, 1, (some .boolean), 0, 0)
theorem cw_X6_isStorm : mt_X6_isStorm.2.1 ∈ m_WS := wd_678
def mt_X6_retellNet : m_T := (yX6_retellNet, Cond.code yX6_retellNet cX6_retellNet 3 none, cX6_retellNet, 3, none, 0, 0)
theorem cw_X6_retellNet : mt_X6_retellNet.2.1 ∈ m_WS := wd_736
def mt_X6_retellSales : m_T := (yX6_retellSales, Cond.code yX6_retellSales cX6_retellSales 4 (some .int), cX6_retellSales, 4, (some .int), 0, 0)
theorem cw_X6_retellSales : mt_X6_retellSales.2.1 ∈ m_WS := wd_740
def mt_X6_checkLanding : m_T := (yX6_checkLanding, Cond.code yX6_checkLanding cX6_checkLanding 1 none, cX6_checkLanding, 1, none, 1, 6)
theorem cw_X6_checkLanding : mt_X6_checkLanding.2.1 ∈ m_WS := wd_201
def mt_X6_checkMember : m_T := (yX6_checkMember, Cond.code yX6_checkMember cX6_checkMember 1 none, cX6_checkMember, 1, none, 1, 6)
theorem cw_X6_checkMember : mt_X6_checkMember.2.1 ∈ m_WS := wd_272
def mt_X6_checkNumber : m_T := (yX6_checkNumber, Cond.code yX6_checkNumber cX6_checkNumber 2 none, cX6_checkNumber, 2, none, 1, 6)
theorem cw_X6_checkNumber : mt_X6_checkNumber.2.1 ∈ m_WS := wd_410
def mt_X6_checkUnlike : m_T := (yX6_checkUnlike, Cond.code yX6_checkUnlike cX6_checkUnlike 2 none, cX6_checkUnlike, 2, none, 1, 6)
theorem cw_X6_checkUnlike : mt_X6_checkUnlike.2.1 ∈ m_WS := wd_276
def mt_X6_checkRange : m_T := (yX6_checkRange, Cond.code yX6_checkRange cX6_checkRange 3 none, cX6_checkRange, 3, none, 1, 6)
theorem cw_X6_checkRange : mt_X6_checkRange.2.1 ∈ m_WS := wd_295
def mt_X6_checkRoom : m_T := (yX6_checkRoom, Cond.code yX6_checkRoom cX6_checkRoom 2 none, cX6_checkRoom, 2, none, 1, 6)
theorem cw_X6_checkRoom : mt_X6_checkRoom.2.1 ∈ m_WS := wd_299
def mt_X6_checkOpenForShip : m_T := (yX6_checkOpenForShip, Cond.code yX6_checkOpenForShip cX6_checkOpenForShip 3 none, cX6_checkOpenForShip, 3, none, 2, 12)
theorem cw_X6_checkOpenForShip : mt_X6_checkOpenForShip.2.1 ∈ m_WS := wd_581
def mt_X7_init : m_T := (yX7_init, Cond.code yX7_init cX7_init 2 none, cX7_init, 2, none, 24, 379)
theorem cw_X7_init : mt_X7_init.2.1 ∈ m_WS := wd_787
def mt_X7_thrown : m_T := (yX7_thrown, Cond.code yX7_thrown cX7_thrown 1 (some .int), cX7_thrown, 1, (some .int), 0, 0)
theorem cw_X7_thrown : mt_X7_thrown.2.1 ∈ m_WS := wd_901
def mt_X7_in : m_T := (yX7_in, Cond.code yX7_in cX7_in 3 (some .boolean), cX7_in, 3, (some .boolean), 0, 0)
theorem cw_X7_in : mt_X7_in.2.1 ∈ m_WS := wd_911
def mt_X7_goes : m_T := (yX7_goes, Cond.code yX7_goes cX7_goes 4 (some .boolean), cX7_goes, 4, (some .boolean), 0, 0)
theorem cw_X7_goes : mt_X7_goes.2.1 ∈ m_WS := wd_918
def mt_X7_isLanding : m_T := (yX7_isLanding, Cond.code yX7_isLanding cX7_isLanding 1 (some .boolean), cX7_isLanding, 1, (some .boolean), 0, 0)
theorem cw_X7_isLanding : mt_X7_isLanding.2.1 ∈ m_WS := wd_908
def mt_X7_isMember : m_T := (yX7_isMember, Cond.code yX7_isMember cX7_isMember 1 (some .boolean), cX7_isMember, 1, (some .boolean), 0, 0)
theorem cw_X7_isMember : mt_X7_isMember.2.1 ∈ m_WS := wd_914
def mt_X7_isCable : m_T := (yX7_isCable, Cond.code yX7_isCable cX7_isCable 2 (some .boolean), cX7_isCable, 2, (some .boolean), 0, 0)
theorem cw_X7_isCable : mt_X7_isCable.2.1 ∈ m_WS := wd_930
def mt_X7_isDemand : m_T := (yX7_isDemand, Cond.code yX7_isDemand cX7_isDemand 2 (some .boolean), cX7_isDemand, 2, (some .boolean), 0, 0)
theorem cw_X7_isDemand : mt_X7_isDemand.2.1 ∈ m_WS := wd_1043
def mt_X7_isCut : m_T := (yX7_isCut, Cond.code yX7_isCut cX7_isCut 2 (some .boolean), cX7_isCut, 2, (some .boolean), 0, 0)
theorem cw_X7_isCut : mt_X7_isCut.2.1 ∈ m_WS := wd_963
def mt_X7_isShip : m_T := (yX7_isShip, Cond.code yX7_isShip cX7_isShip 2 (some .boolean), cX7_isShip, 2, (some .boolean), 0, 0)
theorem cw_X7_isShip : mt_X7_isShip.2.1 ∈ m_WS := wd_959
def mt_X7_length : m_T := (yX7_length, Cond.code yX7_length cX7_length 3 (some .int), cX7_length, 3, (some .int), 0, 0)
theorem cw_X7_length : mt_X7_length.2.1 ∈ m_WS := wd_939
def mt_X7_low : m_T := (yX7_low, Cond.code yX7_low cX7_low 2 (some .int), cX7_low, 2, (some .int), 0, 0)
theorem cw_X7_low : mt_X7_low.2.1 ∈ m_WS := wd_947
def mt_X7_cable : m_T := (yX7_cable, Cond.code yX7_cable cX7_cable 6 (some .int), cX7_cable, 6, (some .int), 0, 0)
theorem cw_X7_cable : mt_X7_cable.2.1 ∈ m_WS := wd_905
def mt_X7_demand : m_T := (yX7_demand, Cond.code yX7_demand cX7_demand 6 (some .int), cX7_demand, 6, (some .int), 0, 0)
theorem cw_X7_demand : mt_X7_demand.2.1 ∈ m_WS := wd_922
def mt_X7_sell : m_T := (yX7_sell, Cond.code yX7_sell cX7_sell 8 (some .int), cX7_sell, 8, (some .int), 0, 0)
theorem cw_X7_sell : mt_X7_sell.2.1 ∈ m_WS := wd_926
def mt_X7_cutOf : m_T := (yX7_cutOf, Cond.code yX7_cutOf cX7_cutOf 3 (some .int), cX7_cutOf, 3, (some .int), 0, 0)
theorem cw_X7_cutOf : mt_X7_cutOf.2.1 ∈ m_WS := wd_943
def mt_X7_cut : m_T := (yX7_cut, Cond.code yX7_cut cX7_cut 4 (some .int), cX7_cut, 4, (some .int), 0, 0)
theorem cw_X7_cut : mt_X7_cut.2.1 ∈ m_WS := wd_935
def mt_X7_ship : m_T := (yX7_ship, Cond.code yX7_ship cX7_ship 4 (some .int), cX7_ship, 4, (some .int), 0, 0)
theorem cw_X7_ship : mt_X7_ship.2.1 ∈ m_WS := wd_951
def mt_X7_isSentTo : m_T := (yX7_isSentTo, Cond.code yX7_isSentTo cX7_isSentTo 4 (some .boolean), cX7_isSentTo, 4, (some .boolean), 0, 0)
theorem cw_X7_isSentTo : mt_X7_isSentTo.2.1 ∈ m_WS := wd_967
def mt_X7_send : m_T := (yX7_send, Cond.code yX7_send cX7_send 5 (some .int), cX7_send, 5, (some .int), 0, 0)
theorem cw_X7_send : mt_X7_send.2.1 ∈ m_WS := wd_955
def mt_X7_fill : m_T := (yX7_fill, Cond.code yX7_fill cX7_fill 5 (some .int), cX7_fill, 5, (some .int), 0, 0)
theorem cw_X7_fill : mt_X7_fill.2.1 ∈ m_WS := wd_971
def mt_X7_storm : m_T := (yX7_storm, Cond.code yX7_storm cX7_storm 3 none, cX7_storm, 3, none, 0, 0)
theorem cw_X7_storm : mt_X7_storm.2.1 ∈ m_WS := wd_975
def mt_X7_freeOf : m_T := (yX7_freeOf, Cond.code yX7_freeOf cX7_freeOf 4 (some .int), cX7_freeOf, 4, (some .int), 0, 0)
theorem cw_X7_freeOf : mt_X7_freeOf.2.1 ∈ m_WS := wd_1003
def mt_X7_lentOn : m_T := (yX7_lentOn, Cond.code yX7_lentOn cX7_lentOn 6 (some .int), cX7_lentOn, 6, (some .int), 0, 0)
theorem cw_X7_lentOn : mt_X7_lentOn.2.1 ∈ m_WS := wd_999
def mt_X7_leads : m_T := (yX7_leads, Cond.code yX7_leads cX7_leads 6 (some .int), cX7_leads, 6, (some .int), 0, 0)
theorem cw_X7_leads : mt_X7_leads.2.1 ∈ m_WS := wd_995
def mt_X7_findsWay : m_T := (yX7_findsWay, Cond.code yX7_findsWay cX7_findsWay 5 (some .boolean), cX7_findsWay, 5, (some .boolean), 0, 0)
theorem cw_X7_findsWay : mt_X7_findsWay.2.1 ∈ m_WS := wd_991
def mt_X7_looksAt : m_T := (yX7_looksAt, Cond.code yX7_looksAt cX7_looksAt 7 none, cX7_looksAt, 7, none, 0, 0)
theorem cw_X7_looksAt : mt_X7_looksAt.2.1 ∈ m_WS := wd_1007
def mt_X7_takes : m_T := (yX7_takes, Cond.code yX7_takes cX7_takes 8 none, cX7_takes, 8, none, 0, 0)
theorem cw_X7_takes : mt_X7_takes.2.1 ∈ m_WS := wd_1011
def mt_X7_leadsAll : m_T := (yX7_leadsAll, Cond.code yX7_leadsAll cX7_leadsAll 4 none, cX7_leadsAll, 4, none, 0, 0)
theorem cw_X7_leadsAll : mt_X7_leadsAll.2.1 ∈ m_WS := wd_987
def mt_X7_pays : m_T := (yX7_pays, Cond.code yX7_pays cX7_pays 9 none, cX7_pays, 9, none, 0, 0)
theorem cw_X7_pays : mt_X7_pays.2.1 ∈ m_WS := wd_1023
def mt_X7_firstCut : m_T := (yX7_firstCut, Cond.code yX7_firstCut cX7_firstCut 4 (some .int), cX7_firstCut, 4, (some .int), 0, 0)
theorem cw_X7_firstCut : mt_X7_firstCut.2.1 ∈ m_WS := wd_1019
def mt_X7_credits : m_T := (yX7_credits, Cond.code yX7_credits cX7_credits 4 none, cX7_credits, 4, none, 0, 0)
theorem cw_X7_credits : mt_X7_credits.2.1 ∈ m_WS := wd_1015
def mt_X7_does : m_T := (yX7_does, Cond.code yX7_does cX7_does 5 none, cX7_does, 5, none, 0, 0)
theorem cw_X7_does : mt_X7_does.2.1 ∈ m_WS := wd_1027
def mt_X7_passes : m_T := (yX7_passes, Cond.code yX7_passes cX7_passes 2 none, cX7_passes, 2, none, 0, 0)
theorem cw_X7_passes : mt_X7_passes.2.1 ∈ m_WS := wd_983
def mt_X7_pass : m_T := (yX7_pass, Cond.code yX7_pass cX7_pass 3 (some .int), cX7_pass, 3, (some .int), 0, 0)
theorem cw_X7_pass : mt_X7_pass.2.1 ∈ m_WS := wd_979
def mt_X7_owned : m_T := (yX7_owned, Cond.code yX7_owned cX7_owned 3 (some .int), cX7_owned, 3, (some .int), 0, 0)
theorem cw_X7_owned : mt_X7_owned.2.1 ∈ m_WS := wd_1031
def mt_X7_isWhole : m_T := (yX7_isWhole, Cond.code yX7_isWhole cX7_isWhole 2 (some .boolean), cX7_isWhole, 2, (some .boolean), 0, 0)
theorem cw_X7_isWhole : mt_X7_isWhole.2.1 ∈ m_WS := wd_1035
def mt_X7_way : m_T := (yX7_way, Cond.code yX7_way cX7_way 2 (some .int), cX7_way, 2, (some .int), 0, 0)
theorem cw_X7_way : mt_X7_way.2.1 ∈ m_WS := wd_1039
def mt_X7_lent : m_T := (yX7_lent, Cond.code yX7_lent cX7_lent 2 (some .int), cX7_lent, 2, (some .int), 0, 0)
theorem cw_X7_lent : mt_X7_lent.2.1 ∈ m_WS := wd_1047
def mt_X7_owes : m_T := (yX7_owes, Cond.code yX7_owes cX7_owes 3 (some .int), cX7_owes, 3, (some .int), 0, 0)
theorem cw_X7_owes : mt_X7_owes.2.1 ∈ m_WS := wd_1051
def mt_X7_owesAnew : m_T := (yX7_owesAnew, Cond.code yX7_owesAnew cX7_owesAnew 3 (some .int), cX7_owesAnew, 3, (some .int), 0, 0)
theorem cw_X7_owesAnew : mt_X7_owesAnew.2.1 ∈ m_WS := wd_1055
def mt_X7_account : m_T := (yX7_account, Cond.code yX7_account cX7_account 2 (some .int), cX7_account, 2, (some .int), 0, 0)
theorem cw_X7_account : mt_X7_account.2.1 ∈ m_WS := wd_1060
def mt_X7_spent : m_T := (yX7_spent, Cond.code yX7_spent cX7_spent 1 (some .int), cX7_spent, 1, (some .int), 0, 0)
theorem cw_X7_spent : mt_X7_spent.2.1 ∈ m_WS := wd_1064
def mt_X7_sold : m_T := (yX7_sold, Cond.code yX7_sold cX7_sold 3 (some .int), cX7_sold, 3, (some .int), 0, 0)
theorem cw_X7_sold : mt_X7_sold.2.1 ∈ m_WS := wd_1068
def mt_X7_place : m_T := (yX7_place, Cond.code yX7_place cX7_place 2 (some .int), cX7_place, 2, (some .int), 0, 0)
theorem cw_X7_place : mt_X7_place.2.1 ∈ m_WS := wd_1072
def mt_X7_worked : m_T := (yX7_worked, Cond.code yX7_worked cX7_worked 2 (some .int), cX7_worked, 2, (some .int), 0, 0)
theorem cw_X7_worked : mt_X7_worked.2.1 ∈ m_WS := wd_1076
def mt_X7_seal : m_T := (yX7_seal, Cond.code yX7_seal cX7_seal 3 (some .int), cX7_seal, 3, (some .int), 0, 0)
theorem cw_X7_seal : mt_X7_seal.2.1 ∈ m_WS := wd_1080
def mt_Jxa1e45_init_da8c8 : m_T := (yJxa1e45_init_da8c8, Cond.code yJxa1e45_init_da8c8 cJxa1e45_init_da8c8 1 none, cJxa1e45_init_da8c8, 1, none, 0, 0)
theorem cw_Jxa1e45_init_da8c8 : mt_Jxa1e45_init_da8c8.2.1 ∈ m_WS := wd_118
def mt_Jxc12de_init_da8c8 : m_T := (yJxc12de_init_da8c8, Cond.code yJxc12de_init_da8c8 cJxc12de_init_da8c8 1 none, cJxc12de_init_da8c8, 1, none, 0, 0)
theorem cw_Jxc12de_init_da8c8 : mt_Jxc12de_init_da8c8.2.1 ∈ m_WS := wd_115
def mt_Jx4a65c_init_da8c8 : m_T := (yJx4a65c_init_da8c8, Cond.code yJx4a65c_init_da8c8 cJx4a65c_init_da8c8 1 none, cJx4a65c_init_da8c8, 1, none, 0, 0)
theorem cw_Jx4a65c_init_da8c8 : mt_Jx4a65c_init_da8c8.2.1 ∈ m_WS := wd_112
def mt_Jx4a65c_grow_92f84 : m_T := (yJx4a65c_grow_92f84, Cond.code yJx4a65c_grow_92f84 cJx4a65c_grow_92f84 4 (some (.array (.object "java/lang/Object"))), cJx4a65c_grow_92f84, 4, (some (.array (.object "java/lang/Object"))), 1, 800)
theorem cw_Jx4a65c_grow_92f84 : mt_Jx4a65c_grow_92f84.2.1 ∈ m_WS := wd_460
def mt_Jx4a65c_grow_d5877 : m_T := (yJx4a65c_grow_d5877, Cond.code yJx4a65c_grow_d5877 cJx4a65c_grow_d5877 1 (some (.array (.object "java/lang/Object"))), cJx4a65c_grow_d5877, 1, (some (.array (.object "java/lang/Object"))), 1, 800)
theorem cw_Jx4a65c_grow_d5877 : mt_Jx4a65c_grow_d5877.2.1 ∈ m_WS := wd_456
def mt_Jx4a65c_size_8abf5 : m_T := (yJx4a65c_size_8abf5, Cond.code yJx4a65c_size_8abf5 cJx4a65c_size_8abf5 1 (some .int), cJx4a65c_size_8abf5, 1, (some .int), 0, 0)
theorem cw_Jx4a65c_size_8abf5 : mt_Jx4a65c_size_8abf5.2.1 ∈ m_WS := wd_444
def mt_Jx4a65c_elementData_915e3 : m_T := (yJx4a65c_elementData_915e3, Cond.code yJx4a65c_elementData_915e3 cJx4a65c_elementData_915e3 2 (some (.object "java/lang/Object")), cJx4a65c_elementData_915e3, 2, (some (.object "java/lang/Object")), 0, 0)
theorem cw_Jx4a65c_elementData_915e3 : mt_Jx4a65c_elementData_915e3.2.1 ∈ m_WS := wd_754
def mt_Jx4a65c_get_915e3 : m_T := (yJx4a65c_get_915e3, Cond.code yJx4a65c_get_915e3 cJx4a65c_get_915e3 2 (some (.object "java/lang/Object")), cJx4a65c_get_915e3, 2, (some (.object "java/lang/Object")), 0, 0)
theorem cw_Jx4a65c_get_915e3 : mt_Jx4a65c_get_915e3.2.1 ∈ m_WS := wd_744
def mt_Jx4a65c_add_72be8 : m_T := (yJx4a65c_add_72be8, Cond.code yJx4a65c_add_72be8 cJx4a65c_add_72be8 4 none, cJx4a65c_add_72be8, 4, none, 1, 800)
theorem cw_Jx4a65c_add_72be8 : mt_Jx4a65c_add_72be8.2.1 ∈ m_WS := wd_452
def mt_Jx4a65c_add_9ea2d : m_T := (yJx4a65c_add_9ea2d, Cond.code yJx4a65c_add_9ea2d cJx4a65c_add_9ea2d 2 (some .boolean), cJx4a65c_add_9ea2d, 2, (some .boolean), 1, 800)
theorem cw_Jx4a65c_add_9ea2d : mt_Jx4a65c_add_9ea2d.2.1 ∈ m_WS := wd_448
def mt_J7_copyOf_1904c : m_T := (yJ7_copyOf_1904c, Cond.code yJ7_copyOf_1904c cJ7_copyOf_1904c 2 (some (.array (.object "java/lang/Object"))), cJ7_copyOf_1904c, 2, (some (.array (.object "java/lang/Object"))), 1, 800)
theorem cw_J7_copyOf_1904c : mt_J7_copyOf_1904c.2.1 ∈ m_WS := wd_473
def mt_J7_copyOf_6403c : m_T := (yJ7_copyOf_6403c, Cond.code yJ7_copyOf_6403c cJ7_copyOf_6403c 4 (some (.array (.object "java/lang/Object"))), cJ7_copyOf_6403c, 4, (some (.array (.object "java/lang/Object"))), 1, 800)
theorem cw_J7_copyOf_6403c : mt_J7_copyOf_6403c.2.1 ∈ m_WS := wd_492
def mt_J15_checkIndex_7cf53 : m_T := (yJ15_checkIndex_7cf53, Cond.code yJ15_checkIndex_7cf53 cJ15_checkIndex_7cf53 2 (some .int), cJ15_checkIndex_7cf53, 2, (some .int), 0, 0)
theorem cw_J15_checkIndex_7cf53 : mt_J15_checkIndex_7cf53.2.1 ∈ m_WS := wd_747
def mt_J8_newLength_cabcc : m_T := (yJ8_newLength_cabcc, Cond.code yJ8_newLength_cabcc cJ8_newLength_cabcc 4 (some .int), cJ8_newLength_cabcc, 4, (some .int), 0, 0)
theorem cw_J8_newLength_cabcc : mt_J8_newLength_cabcc.2.1 ∈ m_WS := wd_463
def mt_J3_checkIndex_8e157 : m_T := (yJ3_checkIndex_8e157, Cond.code yJ3_checkIndex_8e157 cJ3_checkIndex_8e157 3 (some .int), cJ3_checkIndex_8e157, 3, (some .int), 0, 0)
theorem cw_J3_checkIndex_8e157 : mt_J3_checkIndex_8e157.2.1 ∈ m_WS := wd_750
def hh_L_cable : List (Nat × Nat × Nat × Nat) := [(0, 14, 17, 13), (0, 14, 21, 15), (0, 14, 25, 17)]
def mt_L_cable : m_T := (yL_cable, Cond.codeWith yL_cable cL_cable 7 (some .int) hh_L_cable, cL_cable, 7, (some .int), 7, 43)
theorem cw_L_cable : mt_L_cable.2.1 ∈ m_WS := wd_191
def hh_L_demand : List (Nat × Nat × Nat × Nat) := [(0, 14, 17, 13), (0, 14, 21, 15), (0, 14, 25, 17)]
def mt_L_demand : m_T := (yL_demand, Cond.codeWith yL_demand cL_demand 7 (some .int) hh_L_demand, cL_demand, 7, (some .int), 7, 41)
theorem cw_L_demand : mt_L_demand.2.1 ∈ m_WS := wd_363
def hh_L_sell : List (Nat × Nat × Nat × Nat) := [(0, 16, 19, 13), (0, 16, 23, 15), (0, 16, 27, 17)]
def mt_L_sell : m_T := (yL_sell, Cond.codeWith yL_sell cL_sell 8 (some .int) hh_L_sell, cL_sell, 8, (some .int), 9, 847)
theorem cw_L_sell : mt_L_sell.2.1 ∈ m_WS := wd_403
def hh_L_cut : List (Nat × Nat × Nat × Nat) := [(0, 10, 13, 13), (0, 10, 17, 15), (0, 10, 21, 17)]
def mt_L_cut : m_T := (yL_cut, Cond.codeWith yL_cut cL_cut 5 (some .int) hh_L_cut, cL_cut, 5, (some .int), 5, 29)
theorem cw_L_cut : mt_L_cut.2.1 ∈ m_WS := wd_508
def hh_L_ship : List (Nat × Nat × Nat × Nat) := [(0, 12, 15, 13), (0, 12, 19, 15), (0, 12, 23, 17)]
def mt_L_ship : m_T := (yL_ship, Cond.codeWith yL_ship cL_ship 6 (some .int) hh_L_ship, cL_ship, 6, (some .int), 5, 28)
theorem cw_L_ship : mt_L_ship.2.1 ∈ m_WS := wd_545
def hh_L_send : List (Nat × Nat × Nat × Nat) := [(0, 10, 13, 13), (0, 10, 17, 17)]
def mt_L_send : m_T := (yL_send, Cond.codeWith yL_send cL_send 5 (some .int) hh_L_send, cL_send, 5, (some .int), 4, 24)
theorem cw_L_send : mt_L_send.2.1 ∈ m_WS := wd_573
def hh_L_fill : List (Nat × Nat × Nat × Nat) := [(0, 10, 13, 13), (0, 10, 17, 15), (0, 10, 21, 17)]
def mt_L_fill : m_T := (yL_fill, Cond.codeWith yL_fill cL_fill 5 (some .int) hh_L_fill, cL_fill, 5, (some .int), 3, 18)
theorem cw_L_fill : mt_L_fill.2.1 ∈ m_WS := wd_586
def hh_L_storm : List (Nat × Nat × Nat × Nat) := [(0, 6, 9, 15)]
def mt_L_storm : m_T := (yL_storm, Cond.codeWith yL_storm cL_storm 4 (some .int) hh_L_storm, cL_storm, 4, (some .int), 2, 12)
theorem cw_L_storm : mt_L_storm.2.1 ∈ m_WS := wd_594
def hh_L_pass : List (Nat × Nat × Nat × Nat) := [(0, 9, 12, 15), (0, 9, 15, 17)]
def mt_L_pass : m_T := (yL_pass, Cond.codeWith yL_pass cL_pass 4 (some .int) hh_L_pass, cL_pass, 4, (some .int), 2, 12)
theorem cw_L_pass : mt_L_pass.2.1 ∈ m_WS := wd_601
def hh_L_owned : List (Nat × Nat × Nat × Nat) := [(0, 10, 13, 13)]
def mt_L_owned : m_T := (yL_owned, Cond.codeWith yL_owned cL_owned 5 (some .int) hh_L_owned, cL_owned, 5, (some .int), 2, 12)
theorem cw_L_owned : mt_L_owned.2.1 ∈ m_WS := wd_689
def hh_L_isWhole : List (Nat × Nat × Nat × Nat) := [(0, 16, 19, 13)]
def mt_L_isWhole : m_T := (yL_isWhole, Cond.codeWith yL_isWhole cL_isWhole 4 (some .int) hh_L_isWhole, cL_isWhole, 4, (some .int), 1, 6)
theorem cw_L_isWhole : mt_L_isWhole.2.1 ∈ m_WS := wd_696
def hh_L_way : List (Nat × Nat × Nat × Nat) := [(0, 9, 12, 13)]
def mt_L_way : m_T := (yL_way, Cond.codeWith yL_way cL_way 4 (some .int) hh_L_way, cL_way, 4, (some .int), 1, 6)
theorem cw_L_way : mt_L_way.2.1 ∈ m_WS := wd_703
def hh_L_lent : List (Nat × Nat × Nat × Nat) := [(0, 9, 12, 13)]
def mt_L_lent : m_T := (yL_lent, Cond.codeWith yL_lent cL_lent 4 (some .int) hh_L_lent, cL_lent, 4, (some .int), 1, 6)
theorem cw_L_lent : mt_L_lent.2.1 ∈ m_WS := wd_710
def hh_L_owes : List (Nat × Nat × Nat × Nat) := [(0, 10, 13, 13)]
def mt_L_owes : m_T := (yL_owes, Cond.codeWith yL_owes cL_owes 5 (some .int) hh_L_owes, cL_owes, 5, (some .int), 2, 12)
theorem cw_L_owes : mt_L_owes.2.1 ∈ m_WS := wd_717
def hh_L_owesAnew : List (Nat × Nat × Nat × Nat) := [(0, 10, 13, 13)]
def mt_L_owesAnew : m_T := (yL_owesAnew, Cond.codeWith yL_owesAnew cL_owesAnew 5 (some .int) hh_L_owesAnew, cL_owesAnew, 5, (some .int), 2, 12)
theorem cw_L_owesAnew : mt_L_owesAnew.2.1 ∈ m_WS := wd_724
def hh_L_account : List (Nat × Nat × Nat × Nat) := [(0, 9, 12, 13)]
def mt_L_account : m_T := (yL_account, Cond.codeWith yL_account cL_account 4 (some .int) hh_L_account, cL_account, 4, (some .int), 1, 6)
theorem cw_L_account : mt_L_account.2.1 ∈ m_WS := wd_757
def hh_L_sold : List (Nat × Nat × Nat × Nat) := [(0, 10, 13, 13)]
def mt_L_sold : m_T := (yL_sold, Cond.codeWith yL_sold cL_sold 5 (some .int) hh_L_sold, cL_sold, 5, (some .int), 2, 12)
theorem cw_L_sold : mt_L_sold.2.1 ∈ m_WS := wd_764
def hh_L_place : List (Nat × Nat × Nat × Nat) := [(0, 9, 12, 13)]
def mt_L_place : m_T := (yL_place, Cond.codeWith yL_place cL_place 4 (some .int) hh_L_place, cL_place, 4, (some .int), 1, 6)
theorem cw_L_place : mt_L_place.2.1 ∈ m_WS := wd_771
def hh_L_worked : List (Nat × Nat × Nat × Nat) := [(0, 9, 12, 13)]
def mt_L_worked : m_T := (yL_worked, Cond.codeWith yL_worked cL_worked 4 (some .int) hh_L_worked, cL_worked, 4, (some .int), 1, 6)
theorem cw_L_worked : mt_L_worked.2.1 ∈ m_WS := wd_778
theorem th_iss_107_111_0 : ∀ w ∈ (vx_atS RX6 111 m_iss m_exn).filter goodWord, w ∈ lw_tbl := by decide +kernel
theorem th_iss_107_111_a : ∀ w ∈ (vx_atS RX6 111 m_iss m_exn).filter goodWord, w ∈ m_WS := fun w hw => List.mem_filter.mpr ⟨th_iss_107_111_0 w hw, (List.mem_filter.mp hw).2⟩
theorem th_iss_107_111_b : ∀ w ∈ (vx_atS RX6 111 m_iss m_exn).filter (fun w => !goodWord w), w ∈ m_CW := by decide +kernel
theorem th_iss_107_111_c : ∀ w ∈ Cond.classLink RX6 107 m_iss :: Cond.initialized m_iss :: vx_atS RX6 111 m_iss m_exn, vx_ot w = true := by decide +kernel
theorem th_ios_269_273_0 : ∀ w ∈ (vx_atS RX6 273 m_ios m_exn).filter goodWord, w ∈ lw_tbl := by decide +kernel
theorem th_ios_269_273_a : ∀ w ∈ (vx_atS RX6 273 m_ios m_exn).filter goodWord, w ∈ m_WS := fun w hw => List.mem_filter.mpr ⟨th_ios_269_273_0 w hw, (List.mem_filter.mp hw).2⟩
theorem th_ios_269_273_b : ∀ w ∈ (vx_atS RX6 273 m_ios m_exn).filter (fun w => !goodWord w), w ∈ m_CW := by decide +kernel
theorem th_ios_269_273_c : ∀ w ∈ Cond.classLink RX6 269 m_ios :: Cond.initialized m_ios :: vx_atS RX6 273 m_ios m_exn, vx_ot w = true := by decide +kernel
theorem th_ias_278_282_0 : ∀ w ∈ (vx_atS RX6 282 m_ias m_exn).filter goodWord, w ∈ lw_tbl := by decide +kernel
theorem th_ias_278_282_a : ∀ w ∈ (vx_atS RX6 282 m_ias m_exn).filter goodWord, w ∈ m_WS := fun w hw => List.mem_filter.mpr ⟨th_ias_278_282_0 w hw, (List.mem_filter.mp hw).2⟩
theorem th_ias_278_282_b : ∀ w ∈ (vx_atS RX6 282 m_ias m_exn).filter (fun w => !goodWord w), w ∈ m_CW := by decide +kernel
theorem th_ias_278_282_c : ∀ w ∈ Cond.classLink RX6 278 m_ias :: Cond.initialized m_ias :: vx_atS RX6 282 m_ias m_exn, vx_ot w = true := by decide +kernel
def m_tab : List m_T := [mt_X0_init, mt_X0_across, mt_X1_init, mt_X2_init, mt_X3_init, mt_X3_clear, mt_X3_lay, mt_X3_tell, mt_X3_hand, mt_X3_sever, mt_X3_mend, mt_X3_lead, mt_X3_freeAll, mt_X3_leadOne, mt_X3_foreignOn, mt_X3_follow, mt_X3_isBetter, mt_X3_take, mt_X3_takeFrom, mt_X4_init, mt_X5_init, mt_X5_sailTo, mt_X6_init, mt_X6_cable, mt_X6_demand, mt_X6_sell, mt_X6_cut, mt_X6_ship, mt_X6_send, mt_X6_fill, mt_X6_storm, mt_X6_pass, mt_X6_owned, mt_X6_isWhole, mt_X6_way, mt_X6_lent, mt_X6_owes, mt_X6_owesAnew, mt_X6_account, mt_X6_spent, mt_X6_sold, mt_X6_place, mt_X6_worked, mt_X6_seal, mt_X6_passHour, mt_X6_addLoans, mt_X6_payCredits, mt_X6_cableCutFirst, mt_X6_chargeOwners, mt_X6_runShip, mt_X6_work, mt_X6_isStorm, mt_X6_retellNet, mt_X6_retellSales, mt_X6_checkLanding, mt_X6_checkMember, mt_X6_checkNumber, mt_X6_checkUnlike, mt_X6_checkRange, mt_X6_checkRoom, mt_X6_checkOpenForShip, mt_X7_init, mt_X7_thrown, mt_X7_in, mt_X7_goes, mt_X7_isLanding, mt_X7_isMember, mt_X7_isCable, mt_X7_isDemand, mt_X7_isCut, mt_X7_isShip, mt_X7_length, mt_X7_low, mt_X7_cable, mt_X7_demand, mt_X7_sell, mt_X7_cutOf, mt_X7_cut, mt_X7_ship, mt_X7_isSentTo, mt_X7_send, mt_X7_fill, mt_X7_storm, mt_X7_freeOf, mt_X7_lentOn, mt_X7_leads, mt_X7_findsWay, mt_X7_looksAt, mt_X7_takes, mt_X7_leadsAll, mt_X7_pays, mt_X7_firstCut, mt_X7_credits, mt_X7_does, mt_X7_passes, mt_X7_pass, mt_X7_owned, mt_X7_isWhole, mt_X7_way, mt_X7_lent, mt_X7_owes, mt_X7_owesAnew, mt_X7_account, mt_X7_spent, mt_X7_sold, mt_X7_place, mt_X7_worked, mt_X7_seal, mt_Jxa1e45_init_da8c8, mt_Jxc12de_init_da8c8, mt_Jx4a65c_init_da8c8, mt_Jx4a65c_grow_92f84, mt_Jx4a65c_grow_d5877, mt_Jx4a65c_size_8abf5, mt_Jx4a65c_elementData_915e3, mt_Jx4a65c_get_915e3, mt_Jx4a65c_add_72be8, mt_Jx4a65c_add_9ea2d, mt_J7_copyOf_1904c, mt_J7_copyOf_6403c, mt_J15_checkIndex_7cf53, mt_J8_newLength_cabcc, mt_J3_checkIndex_8e157, mt_L_cable, mt_L_demand, mt_L_sell, mt_L_cut, mt_L_ship, mt_L_send, mt_L_fill, mt_L_storm, mt_L_pass, mt_L_owned, mt_L_isWhole, mt_L_way, mt_L_lent, mt_L_owes, mt_L_owesAnew, mt_L_account, mt_L_sold, mt_L_place, mt_L_worked]
def m_my (y : Nat) : m_T := (m_tab[y]?).getD mt_X0_init
theorem my_X0_init : m_my 0 = mt_X0_init := rfl
theorem my_X0_across : m_my 1 = mt_X0_across := rfl
theorem my_X1_init : m_my 2 = mt_X1_init := rfl
theorem my_X2_init : m_my 3 = mt_X2_init := rfl
theorem my_X3_init : m_my 4 = mt_X3_init := rfl
theorem my_X3_clear : m_my 5 = mt_X3_clear := rfl
theorem my_X3_lay : m_my 6 = mt_X3_lay := rfl
theorem my_X3_tell : m_my 7 = mt_X3_tell := rfl
theorem my_X3_hand : m_my 8 = mt_X3_hand := rfl
theorem my_X3_sever : m_my 9 = mt_X3_sever := rfl
theorem my_X3_mend : m_my 10 = mt_X3_mend := rfl
theorem my_X3_lead : m_my 11 = mt_X3_lead := rfl
theorem my_X3_freeAll : m_my 12 = mt_X3_freeAll := rfl
theorem my_X3_leadOne : m_my 13 = mt_X3_leadOne := rfl
theorem my_X3_foreignOn : m_my 14 = mt_X3_foreignOn := rfl
theorem my_X3_follow : m_my 15 = mt_X3_follow := rfl
theorem my_X3_isBetter : m_my 16 = mt_X3_isBetter := rfl
theorem my_X3_take : m_my 17 = mt_X3_take := rfl
theorem my_X3_takeFrom : m_my 18 = mt_X3_takeFrom := rfl
theorem my_X4_init : m_my 19 = mt_X4_init := rfl
theorem my_X5_init : m_my 20 = mt_X5_init := rfl
theorem my_X5_sailTo : m_my 21 = mt_X5_sailTo := rfl
theorem my_X6_init : m_my 22 = mt_X6_init := rfl
theorem my_X6_cable : m_my 23 = mt_X6_cable := rfl
theorem my_X6_demand : m_my 24 = mt_X6_demand := rfl
theorem my_X6_sell : m_my 25 = mt_X6_sell := rfl
theorem my_X6_cut : m_my 26 = mt_X6_cut := rfl
theorem my_X6_ship : m_my 27 = mt_X6_ship := rfl
theorem my_X6_send : m_my 28 = mt_X6_send := rfl
theorem my_X6_fill : m_my 29 = mt_X6_fill := rfl
theorem my_X6_storm : m_my 30 = mt_X6_storm := rfl
theorem my_X6_pass : m_my 31 = mt_X6_pass := rfl
theorem my_X6_owned : m_my 32 = mt_X6_owned := rfl
theorem my_X6_isWhole : m_my 33 = mt_X6_isWhole := rfl
theorem my_X6_way : m_my 34 = mt_X6_way := rfl
theorem my_X6_lent : m_my 35 = mt_X6_lent := rfl
theorem my_X6_owes : m_my 36 = mt_X6_owes := rfl
theorem my_X6_owesAnew : m_my 37 = mt_X6_owesAnew := rfl
theorem my_X6_account : m_my 38 = mt_X6_account := rfl
theorem my_X6_spent : m_my 39 = mt_X6_spent := rfl
theorem my_X6_sold : m_my 40 = mt_X6_sold := rfl
theorem my_X6_place : m_my 41 = mt_X6_place := rfl
theorem my_X6_worked : m_my 42 = mt_X6_worked := rfl
theorem my_X6_seal : m_my 43 = mt_X6_seal := rfl
theorem my_X6_passHour : m_my 44 = mt_X6_passHour := rfl
theorem my_X6_addLoans : m_my 45 = mt_X6_addLoans := rfl
theorem my_X6_payCredits : m_my 46 = mt_X6_payCredits := rfl
theorem my_X6_cableCutFirst : m_my 47 = mt_X6_cableCutFirst := rfl
theorem my_X6_chargeOwners : m_my 48 = mt_X6_chargeOwners := rfl
theorem my_X6_runShip : m_my 49 = mt_X6_runShip := rfl
theorem my_X6_work : m_my 50 = mt_X6_work := rfl
theorem my_X6_isStorm : m_my 51 = mt_X6_isStorm := rfl
theorem my_X6_retellNet : m_my 52 = mt_X6_retellNet := rfl
theorem my_X6_retellSales : m_my 53 = mt_X6_retellSales := rfl
theorem my_X6_checkLanding : m_my 54 = mt_X6_checkLanding := rfl
theorem my_X6_checkMember : m_my 55 = mt_X6_checkMember := rfl
theorem my_X6_checkNumber : m_my 56 = mt_X6_checkNumber := rfl
theorem my_X6_checkUnlike : m_my 57 = mt_X6_checkUnlike := rfl
theorem my_X6_checkRange : m_my 58 = mt_X6_checkRange := rfl
theorem my_X6_checkRoom : m_my 59 = mt_X6_checkRoom := rfl
theorem my_X6_checkOpenForShip : m_my 60 = mt_X6_checkOpenForShip := rfl
theorem my_X7_init : m_my 61 = mt_X7_init := rfl
theorem my_X7_thrown : m_my 62 = mt_X7_thrown := rfl
theorem my_X7_in : m_my 63 = mt_X7_in := rfl
theorem my_X7_goes : m_my 64 = mt_X7_goes := rfl
theorem my_X7_isLanding : m_my 65 = mt_X7_isLanding := rfl
theorem my_X7_isMember : m_my 66 = mt_X7_isMember := rfl
theorem my_X7_isCable : m_my 67 = mt_X7_isCable := rfl
theorem my_X7_isDemand : m_my 68 = mt_X7_isDemand := rfl
theorem my_X7_isCut : m_my 69 = mt_X7_isCut := rfl
theorem my_X7_isShip : m_my 70 = mt_X7_isShip := rfl
theorem my_X7_length : m_my 71 = mt_X7_length := rfl
theorem my_X7_low : m_my 72 = mt_X7_low := rfl
theorem my_X7_cable : m_my 73 = mt_X7_cable := rfl
theorem my_X7_demand : m_my 74 = mt_X7_demand := rfl
theorem my_X7_sell : m_my 75 = mt_X7_sell := rfl
theorem my_X7_cutOf : m_my 76 = mt_X7_cutOf := rfl
theorem my_X7_cut : m_my 77 = mt_X7_cut := rfl
theorem my_X7_ship : m_my 78 = mt_X7_ship := rfl
theorem my_X7_isSentTo : m_my 79 = mt_X7_isSentTo := rfl
theorem my_X7_send : m_my 80 = mt_X7_send := rfl
theorem my_X7_fill : m_my 81 = mt_X7_fill := rfl
theorem my_X7_storm : m_my 82 = mt_X7_storm := rfl
theorem my_X7_freeOf : m_my 83 = mt_X7_freeOf := rfl
theorem my_X7_lentOn : m_my 84 = mt_X7_lentOn := rfl
theorem my_X7_leads : m_my 85 = mt_X7_leads := rfl
theorem my_X7_findsWay : m_my 86 = mt_X7_findsWay := rfl
theorem my_X7_looksAt : m_my 87 = mt_X7_looksAt := rfl
theorem my_X7_takes : m_my 88 = mt_X7_takes := rfl
theorem my_X7_leadsAll : m_my 89 = mt_X7_leadsAll := rfl
theorem my_X7_pays : m_my 90 = mt_X7_pays := rfl
theorem my_X7_firstCut : m_my 91 = mt_X7_firstCut := rfl
theorem my_X7_credits : m_my 92 = mt_X7_credits := rfl
theorem my_X7_does : m_my 93 = mt_X7_does := rfl
theorem my_X7_passes : m_my 94 = mt_X7_passes := rfl
theorem my_X7_pass : m_my 95 = mt_X7_pass := rfl
theorem my_X7_owned : m_my 96 = mt_X7_owned := rfl
theorem my_X7_isWhole : m_my 97 = mt_X7_isWhole := rfl
theorem my_X7_way : m_my 98 = mt_X7_way := rfl
theorem my_X7_lent : m_my 99 = mt_X7_lent := rfl
theorem my_X7_owes : m_my 100 = mt_X7_owes := rfl
theorem my_X7_owesAnew : m_my 101 = mt_X7_owesAnew := rfl
theorem my_X7_account : m_my 102 = mt_X7_account := rfl
theorem my_X7_spent : m_my 103 = mt_X7_spent := rfl
theorem my_X7_sold : m_my 104 = mt_X7_sold := rfl
theorem my_X7_place : m_my 105 = mt_X7_place := rfl
theorem my_X7_worked : m_my 106 = mt_X7_worked := rfl
theorem my_X7_seal : m_my 107 = mt_X7_seal := rfl
theorem my_Jxa1e45_init_da8c8 : m_my 108 = mt_Jxa1e45_init_da8c8 := rfl
theorem my_Jxc12de_init_da8c8 : m_my 109 = mt_Jxc12de_init_da8c8 := rfl
theorem my_Jx4a65c_init_da8c8 : m_my 110 = mt_Jx4a65c_init_da8c8 := rfl
theorem my_Jx4a65c_grow_92f84 : m_my 111 = mt_Jx4a65c_grow_92f84 := rfl
theorem my_Jx4a65c_grow_d5877 : m_my 112 = mt_Jx4a65c_grow_d5877 := rfl
theorem my_Jx4a65c_size_8abf5 : m_my 113 = mt_Jx4a65c_size_8abf5 := rfl
theorem my_Jx4a65c_elementData_915e3 : m_my 114 = mt_Jx4a65c_elementData_915e3 := rfl
theorem my_Jx4a65c_get_915e3 : m_my 115 = mt_Jx4a65c_get_915e3 := rfl
theorem my_Jx4a65c_add_72be8 : m_my 116 = mt_Jx4a65c_add_72be8 := rfl
theorem my_Jx4a65c_add_9ea2d : m_my 117 = mt_Jx4a65c_add_9ea2d := rfl
theorem my_J7_copyOf_1904c : m_my 118 = mt_J7_copyOf_1904c := rfl
theorem my_J7_copyOf_6403c : m_my 119 = mt_J7_copyOf_6403c := rfl
theorem my_J15_checkIndex_7cf53 : m_my 120 = mt_J15_checkIndex_7cf53 := rfl
theorem my_J8_newLength_cabcc : m_my 121 = mt_J8_newLength_cabcc := rfl
theorem my_J3_checkIndex_8e157 : m_my 122 = mt_J3_checkIndex_8e157 := rfl
theorem my_L_cable : m_my 123 = mt_L_cable := rfl
theorem my_L_demand : m_my 124 = mt_L_demand := rfl
theorem my_L_sell : m_my 125 = mt_L_sell := rfl
theorem my_L_cut : m_my 126 = mt_L_cut := rfl
theorem my_L_ship : m_my 127 = mt_L_ship := rfl
theorem my_L_send : m_my 128 = mt_L_send := rfl
theorem my_L_fill : m_my 129 = mt_L_fill := rfl
theorem my_L_storm : m_my 130 = mt_L_storm := rfl
theorem my_L_pass : m_my 131 = mt_L_pass := rfl
theorem my_L_owned : m_my 132 = mt_L_owned := rfl
theorem my_L_isWhole : m_my 133 = mt_L_isWhole := rfl
theorem my_L_way : m_my 134 = mt_L_way := rfl
theorem my_L_lent : m_my 135 = mt_L_lent := rfl
theorem my_L_owes : m_my 136 = mt_L_owes := rfl
theorem my_L_owesAnew : m_my 137 = mt_L_owesAnew := rfl
theorem my_L_account : m_my 138 = mt_L_account := rfl
theorem my_L_sold : m_my 139 = mt_L_sold := rfl
theorem my_L_place : m_my 140 = mt_L_place := rfl
theorem my_L_worked : m_my 141 = mt_L_worked := rfl
