set_option maxRecDepth 100000 in
theorem kok_0 : evKOk 0 := ⟨rfl, rfl, fun w h => ev_in ((show ∀ w ∈ u_ws RX5 TX5 12, w ∈ lw_tbl ∧ goodWord w = true by decide +kernel) w h).1 ((show ∀ w ∈ u_ws RX5 TX5 12, w ∈ lw_tbl ∧ goodWord w = true by decide +kernel) w h).2, tyX5_ok, nmX5, rfl⟩
set_option maxRecDepth 100000 in
theorem kok_1 : evKOk 1 := ⟨rfl, rfl, fun w h => ev_in ((show ∀ w ∈ u_ws RX0 TX0 1, w ∈ lw_tbl ∧ goodWord w = true by decide +kernel) w h).1 ((show ∀ w ∈ u_ws RX0 TX0 1, w ∈ lw_tbl ∧ goodWord w = true by decide +kernel) w h).2, tyX0_ok, nmX0, rfl⟩
set_option maxRecDepth 100000 in
theorem kok_3 : evKOk 3 := ⟨rfl, rfl, fun w h => ev_in ((show ∀ w ∈ u_ws RX3 TX3 2, w ∈ lw_tbl ∧ goodWord w = true by decide +kernel) w h).1 ((show ∀ w ∈ u_ws RX3 TX3 2, w ∈ lw_tbl ∧ goodWord w = true by decide +kernel) w h).2, tyX3_ok, nmX3, rfl⟩
set_option maxRecDepth 100000 in
theorem kok_6 : evKOk 6 := ⟨rfl, rfl, fun w h => ev_in ((show ∀ w ∈ u_ws RX2 TX2 14, w ∈ lw_tbl ∧ goodWord w = true by decide +kernel) w h).1 ((show ∀ w ∈ u_ws RX2 TX2 14, w ∈ lw_tbl ∧ goodWord w = true by decide +kernel) w h).2, tyX2_ok, nmX2, rfl⟩
set_option maxRecDepth 100000 in
theorem kok_16 : evKOk 16 := ⟨rfl, rfl, fun w h => ev_in ((show ∀ w ∈ u_ws RX1 TX1 3, w ∈ lw_tbl ∧ goodWord w = true by decide +kernel) w h).1 ((show ∀ w ∈ u_ws RX1 TX1 3, w ∈ lw_tbl ∧ goodWord w = true by decide +kernel) w h).2, tyX1_ok, nmX1, rfl⟩
set_option maxRecDepth 100000 in
theorem kok_18 : evKOk 18 := ⟨rfl, rfl, fun w h => ev_in ((show ∀ w ∈ u_ws RX4 TX4 8, w ∈ lw_tbl ∧ goodWord w = true by decide +kernel) w h).1 ((show ∀ w ∈ u_ws RX4 TX4 8, w ∈ lw_tbl ∧ goodWord w = true by decide +kernel) w h).2, tyX4_ok, nmX4, rfl⟩
set_option maxRecDepth 100000 in
theorem kok_30 : evKOk 30 := ⟨rfl, rfl, fun w h => ev_in ((show ∀ w ∈ u_ws RX6 TX6 25, w ∈ lw_tbl ∧ goodWord w = true by decide +kernel) w h).1 ((show ∀ w ∈ u_ws RX6 TX6 25, w ∈ lw_tbl ∧ goodWord w = true by decide +kernel) w h).2, tyX6_ok, nmX6, rfl⟩
abbrev M_J6_bitCount_0f7a4 : evM := (RJ6, cJ6_bitCount_0f7a4, 1, (some FieldType.int))
set_option maxRecDepth 100000 in
theorem mv_J6_bitCount_0f7a4 : evMS yJ6_bitCount_0f7a4 M_J6_bitCount_0f7a4 1 := ⟨⟨⟨by decide +kernel, by decide +kernel, by decide +kernel⟩, ev_in (List.mem_of_getElem? (i := 611) rfl) rfl, ev_in (List.mem_of_getElem? (i := 68) rfl) rfl⟩, ev_in (List.mem_of_getElem? (i := 610) rfl) rfl⟩
abbrev M_J7_fill_53178 : evM := (RJ7, cJ7_fill_53178, 4, none)
set_option maxRecDepth 100000 in
theorem mv_J7_fill_53178 : evMS yJ7_fill_53178 M_J7_fill_53178 2 := ⟨⟨⟨by decide +kernel, by decide +kernel, by decide +kernel⟩, ev_in (List.mem_of_getElem? (i := 101) rfl) rfl, ev_in (List.mem_of_getElem? (i := 62) rfl) rfl⟩, ev_in (List.mem_of_getElem? (i := 100) rfl) rfl⟩
abbrev M_J9_abs_0f7a4 : evM := (RJ9, cJ9_abs_0f7a4, 1, (some FieldType.int))
set_option maxRecDepth 100000 in
theorem mv_J9_abs_0f7a4 : evMS yJ9_abs_0f7a4 M_J9_abs_0f7a4 1 := ⟨⟨⟨by decide +kernel, by decide +kernel, by decide +kernel⟩, ev_in (List.mem_of_getElem? (i := 409) rfl) rfl, ev_in (List.mem_of_getElem? (i := 67) rfl) rfl⟩, ev_in (List.mem_of_getElem? (i := 408) rfl) rfl⟩
abbrev M_J9_floorDiv_7cf53 : evM := (RJ9, cJ9_floorDiv_7cf53, 3, (some FieldType.int))
set_option maxRecDepth 100000 in
theorem mv_J9_floorDiv_7cf53 : evMS yJ9_floorDiv_7cf53 M_J9_floorDiv_7cf53 2 := ⟨⟨⟨by decide +kernel, by decide +kernel, by decide +kernel⟩, ev_in (List.mem_of_getElem? (i := 441) rfl) rfl, ev_in (List.mem_of_getElem? (i := 67) rfl) rfl⟩, ev_in (List.mem_of_getElem? (i := 440) rfl) rfl⟩
abbrev M_J9_max_7cf53 : evM := (RJ9, cJ9_max_7cf53, 2, (some FieldType.int))
set_option maxRecDepth 100000 in
theorem mv_J9_max_7cf53 : evMS yJ9_max_7cf53 M_J9_max_7cf53 2 := ⟨⟨⟨by decide +kernel, by decide +kernel, by decide +kernel⟩, ev_in (List.mem_of_getElem? (i := 377) rfl) rfl, ev_in (List.mem_of_getElem? (i := 67) rfl) rfl⟩, ev_in (List.mem_of_getElem? (i := 376) rfl) rfl⟩
abbrev M_J9_min_7cf53 : evM := (RJ9, cJ9_min_7cf53, 2, (some FieldType.int))
set_option maxRecDepth 100000 in
theorem mv_J9_min_7cf53 : evMS yJ9_min_7cf53 M_J9_min_7cf53 2 := ⟨⟨⟨by decide +kernel, by decide +kernel, by decide +kernel⟩, ev_in (List.mem_of_getElem? (i := 316) rfl) rfl, ev_in (List.mem_of_getElem? (i := 67) rfl) rfl⟩, ev_in (List.mem_of_getElem? (i := 315) rfl) rfl⟩
abbrev M_J9_min_f86c9 : evM := (RJ9, cJ9_min_f86c9, 4, (some FieldType.long))
set_option maxRecDepth 100000 in
theorem mv_J9_min_f86c9 : evMS yJ9_min_f86c9 M_J9_min_f86c9 2 := ⟨⟨⟨by decide +kernel, by decide +kernel, by decide +kernel⟩, ev_in (List.mem_of_getElem? (i := 455) rfl) rfl, ev_in (List.mem_of_getElem? (i := 67) rfl) rfl⟩, ev_in (List.mem_of_getElem? (i := 454) rfl) rfl⟩
abbrev M_X0_becomeLike : evM := (RX0, cX0_becomeLike, 3, none)
set_option maxRecDepth 100000 in
theorem mv_X0_becomeLike : evMV yX0_becomeLike M_X0_becomeLike 1 := ⟨⟨⟨by decide +kernel, by decide +kernel, by decide +kernel⟩, ev_in (List.mem_of_getElem? (i := 355) rfl) rfl, ev_in (List.mem_of_getElem? (i := 59) rfl) rfl⟩, ev_in (List.mem_of_getElem? (i := 353) rfl) rfl, ev_in (List.mem_of_getElem? (i := 354) rfl) rfl⟩
abbrev M_X0_init : evM := (RX0, cX0_init, 2, none)
abbrev M_X0_legsInAll : evM := (RX0, cX0_legsInAll, 3, (some FieldType.int))
set_option maxRecDepth 100000 in
theorem mv_X0_legsInAll : evMV yX0_legsInAll M_X0_legsInAll 0 := ⟨⟨⟨by decide +kernel, by decide +kernel, by decide +kernel⟩, ev_in (List.mem_of_getElem? (i := 628) rfl) rfl, ev_in (List.mem_of_getElem? (i := 59) rfl) rfl⟩, ev_in (List.mem_of_getElem? (i := 626) rfl) rfl, ev_in (List.mem_of_getElem? (i := 627) rfl) rfl⟩
abbrev M_X1_init : evM := (RX1, cX1_init, 2, none)
abbrev M_X1_known : evM := (RX1, cX1_known, 1, (some FieldType.int))
set_option maxRecDepth 100000 in
theorem mv_X1_known : evMV yX1_known M_X1_known 0 := ⟨⟨⟨by decide +kernel, by decide +kernel, by decide +kernel⟩, ev_in (List.mem_of_getElem? (i := 485) rfl) rfl, ev_in (List.mem_of_getElem? (i := 63) rfl) rfl⟩, ev_in (List.mem_of_getElem? (i := 483) rfl) rfl, ev_in (List.mem_of_getElem? (i := 484) rfl) rfl⟩
abbrev M_X1_lose : evM := (RX1, cX1_lose, 1, none)
set_option maxRecDepth 100000 in
theorem mv_X1_lose : evMV yX1_lose M_X1_lose 0 := ⟨⟨⟨by decide +kernel, by decide +kernel, by decide +kernel⟩, ev_in (List.mem_of_getElem? (i := 637) rfl) rfl, ev_in (List.mem_of_getElem? (i := 63) rfl) rfl⟩, ev_in (List.mem_of_getElem? (i := 635) rfl) rfl, ev_in (List.mem_of_getElem? (i := 636) rfl) rfl⟩
abbrev M_X1_remember : evM := (RX1, cX1_remember, 2, none)
set_option maxRecDepth 100000 in
theorem mv_X1_remember : evMV yX1_remember M_X1_remember 1 := ⟨⟨⟨by decide +kernel, by decide +kernel, by decide +kernel⟩, ev_in (List.mem_of_getElem? (i := 351) rfl) rfl, ev_in (List.mem_of_getElem? (i := 63) rfl) rfl⟩, ev_in (List.mem_of_getElem? (i := 349) rfl) rfl, ev_in (List.mem_of_getElem? (i := 350) rfl) rfl⟩
abbrev M_X1_restore : evM := (RX1, cX1_restore, 2, none)
set_option maxRecDepth 100000 in
theorem mv_X1_restore : evMV yX1_restore M_X1_restore 1 := ⟨⟨⟨by decide +kernel, by decide +kernel, by decide +kernel⟩, ev_in (List.mem_of_getElem? (i := 489) rfl) rfl, ev_in (List.mem_of_getElem? (i := 63) rfl) rfl⟩, ev_in (List.mem_of_getElem? (i := 487) rfl) rfl, ev_in (List.mem_of_getElem? (i := 488) rfl) rfl⟩
abbrev M_X2_burntInAll : evM := (RX2, cX2_burntInAll, 3, (some FieldType.int))
set_option maxRecDepth 100000 in
theorem mv_X2_burntInAll : evMV yX2_burntInAll M_X2_burntInAll 0 := ⟨⟨⟨by decide +kernel, by decide +kernel, by decide +kernel⟩, ev_in (List.mem_of_getElem? (i := 509) rfl) rfl, ev_in (List.mem_of_getElem? (i := 65) rfl) rfl⟩, ev_in (List.mem_of_getElem? (i := 507) rfl) rfl, ev_in (List.mem_of_getElem? (i := 508) rfl) rfl⟩
abbrev M_X2_burntOnLeg : evM := (RX2, cX2_burntOnLeg, 15, (some FieldType.int))
set_option maxRecDepth 100000 in
theorem mv_X2_burntOnLeg : evMV yX2_burntOnLeg M_X2_burntOnLeg 1 := ⟨⟨⟨by decide +kernel, by decide +kernel, by decide +kernel⟩, ev_in (List.mem_of_getElem? (i := 446) rfl) rfl, ev_in (List.mem_of_getElem? (i := 65) rfl) rfl⟩, ev_in (List.mem_of_getElem? (i := 444) rfl) rfl, ev_in (List.mem_of_getElem? (i := 445) rfl) rfl⟩
abbrev M_X2_draw : evM := (RX2, cX2_draw, 3, none)
set_option maxRecDepth 100000 in
theorem mv_X2_draw : evMV yX2_draw M_X2_draw 1 := ⟨⟨⟨by decide +kernel, by decide +kernel, by decide +kernel⟩, ev_in (List.mem_of_getElem? (i := 373) rfl) rfl, ev_in (List.mem_of_getElem? (i := 65) rfl) rfl⟩, ev_in (List.mem_of_getElem? (i := 371) rfl) rfl, ev_in (List.mem_of_getElem? (i := 372) rfl) rfl⟩
abbrev M_X2_evenHour : evM := (RX2, cX2_evenHour, 6, (some FieldType.int))
set_option maxRecDepth 100000 in
theorem mv_X2_evenHour : evMV yX2_evenHour M_X2_evenHour 3 := ⟨⟨⟨by decide +kernel, by decide +kernel, by decide +kernel⟩, ev_in (List.mem_of_getElem? (i := 406) rfl) rfl, ev_in (List.mem_of_getElem? (i := 65) rfl) rfl⟩, ev_in (List.mem_of_getElem? (i := 405) rfl) rfl, ev_in (List.mem_of_getElem? (i := 15) rfl) rfl⟩
abbrev M_X2_hourLower : evM := (RX2, cX2_hourLower, 2, (some FieldType.int))
set_option maxRecDepth 100000 in
theorem mv_X2_hourLower : evMV yX2_hourLower M_X2_hourLower 1 := ⟨⟨⟨by decide +kernel, by decide +kernel, by decide +kernel⟩, ev_in (List.mem_of_getElem? (i := 426) rfl) rfl, ev_in (List.mem_of_getElem? (i := 65) rfl) rfl⟩, ev_in (List.mem_of_getElem? (i := 424) rfl) rfl, ev_in (List.mem_of_getElem? (i := 425) rfl) rfl⟩
abbrev M_X2_hourRoundedUp : evM := (RX2, cX2_hourRoundedUp, 3, (some FieldType.int))
set_option maxRecDepth 100000 in
theorem mv_X2_hourRoundedUp : evMV yX2_hourRoundedUp M_X2_hourRoundedUp 1 := ⟨⟨⟨by decide +kernel, by decide +kernel, by decide +kernel⟩, ev_in (List.mem_of_getElem? (i := 422) rfl) rfl, ev_in (List.mem_of_getElem? (i := 65) rfl) rfl⟩, ev_in (List.mem_of_getElem? (i := 420) rfl) rfl, ev_in (List.mem_of_getElem? (i := 421) rfl) rfl⟩
abbrev M_X2_hourUpper : evM := (RX2, cX2_hourUpper, 3, (some FieldType.int))
set_option maxRecDepth 100000 in
theorem mv_X2_hourUpper : evMV yX2_hourUpper M_X2_hourUpper 1 := ⟨⟨⟨by decide +kernel, by decide +kernel, by decide +kernel⟩, ev_in (List.mem_of_getElem? (i := 438) rfl) rfl, ev_in (List.mem_of_getElem? (i := 65) rfl) rfl⟩, ev_in (List.mem_of_getElem? (i := 436) rfl) rfl, ev_in (List.mem_of_getElem? (i := 437) rfl) rfl⟩
abbrev M_X2_hoursAround : evM := (RX2, cX2_hoursAround, 2, (some FieldType.int))
set_option maxRecDepth 100000 in
theorem mv_X2_hoursAround : evMV yX2_hoursAround M_X2_hoursAround 1 := ⟨⟨⟨by decide +kernel, by decide +kernel, by decide +kernel⟩, ev_in (List.mem_of_getElem? (i := 450) rfl) rfl, ev_in (List.mem_of_getElem? (i := 65) rfl) rfl⟩, ev_in (List.mem_of_getElem? (i := 448) rfl) rfl, ev_in (List.mem_of_getElem? (i := 449) rfl) rfl⟩
abbrev M_X2_init : evM := (RX2, cX2_init, 1, none)
abbrev M_X2_isNoLeg : evM := (RX2, cX2_isNoLeg, 2, (some FieldType.boolean))
set_option maxRecDepth 100000 in
theorem mv_X2_isNoLeg : evMV yX2_isNoLeg M_X2_isNoLeg 1 := ⟨⟨⟨by decide +kernel, by decide +kernel, by decide +kernel⟩, ev_in (List.mem_of_getElem? (i := 434) rfl) rfl, ev_in (List.mem_of_getElem? (i := 65) rfl) rfl⟩, ev_in (List.mem_of_getElem? (i := 433) rfl) rfl, ev_in (List.mem_of_getElem? (i := 17) rfl) rfl⟩
abbrev M_X2_layPorts : evM := (RX2, cX2_layPorts, 4, none)
set_option maxRecDepth 100000 in
theorem mv_X2_layPorts : evMV yX2_layPorts M_X2_layPorts 1 := ⟨⟨⟨by decide +kernel, by decide +kernel, by decide +kernel⟩, ev_in (List.mem_of_getElem? (i := 382) rfl) rfl, ev_in (List.mem_of_getElem? (i := 65) rfl) rfl⟩, ev_in (List.mem_of_getElem? (i := 381) rfl) rfl, ev_in (List.mem_of_getElem? (i := 10) rfl) rfl⟩
abbrev M_X2_measureStretches : evM := (RX2, cX2_measureStretches, 7, none)
set_option maxRecDepth 100000 in
theorem mv_X2_measureStretches : evMV yX2_measureStretches M_X2_measureStretches 0 := ⟨⟨⟨by decide +kernel, by decide +kernel, by decide +kernel⟩, ev_in (List.mem_of_getElem? (i := 413) rfl) rfl, ev_in (List.mem_of_getElem? (i := 65) rfl) rfl⟩, ev_in (List.mem_of_getElem? (i := 412) rfl) rfl, ev_in (List.mem_of_getElem? (i := 16) rfl) rfl⟩
abbrev M_X2_meetingAt : evM := (RX2, cX2_meetingAt, 2, (some FieldType.int))
set_option maxRecDepth 100000 in
theorem mv_X2_meetingAt : evMV yX2_meetingAt M_X2_meetingAt 1 := ⟨⟨⟨by decide +kernel, by decide +kernel, by decide +kernel⟩, ev_in (List.mem_of_getElem? (i := 543) rfl) rfl, ev_in (List.mem_of_getElem? (i := 65) rfl) rfl⟩, ev_in (List.mem_of_getElem? (i := 541) rfl) rfl, ev_in (List.mem_of_getElem? (i := 542) rfl) rfl⟩
abbrev M_X2_mileAt : evM := (RX2, cX2_mileAt, 4, (some FieldType.int))
set_option maxRecDepth 100000 in
theorem mv_X2_mileAt : evMV yX2_mileAt M_X2_mileAt 1 := ⟨⟨⟨by decide +kernel, by decide +kernel, by decide +kernel⟩, ev_in (List.mem_of_getElem? (i := 575) rfl) rfl, ev_in (List.mem_of_getElem? (i := 65) rfl) rfl⟩, ev_in (List.mem_of_getElem? (i := 573) rfl) rfl, ev_in (List.mem_of_getElem? (i := 574) rfl) rfl⟩
abbrev M_X2_milesAround : evM := (RX2, cX2_milesAround, 2, (some FieldType.int))
set_option maxRecDepth 100000 in
theorem mv_X2_milesAround : evMV yX2_milesAround M_X2_milesAround 1 := ⟨⟨⟨by decide +kernel, by decide +kernel, by decide +kernel⟩, ev_in (List.mem_of_getElem? (i := 430) rfl) rfl, ev_in (List.mem_of_getElem? (i := 65) rfl) rfl⟩, ev_in (List.mem_of_getElem? (i := 428) rfl) rfl, ev_in (List.mem_of_getElem? (i := 429) rfl) rfl⟩
abbrev M_X2_milesOfLeg : evM := (RX2, cX2_milesOfLeg, 2, (some FieldType.int))
set_option maxRecDepth 100000 in
theorem mv_X2_milesOfLeg : evMV yX2_milesOfLeg M_X2_milesOfLeg 1 := ⟨⟨⟨by decide +kernel, by decide +kernel, by decide +kernel⟩, ev_in (List.mem_of_getElem? (i := 459) rfl) rfl, ev_in (List.mem_of_getElem? (i := 65) rfl) rfl⟩, ev_in (List.mem_of_getElem? (i := 458) rfl) rfl, ev_in (List.mem_of_getElem? (i := 18) rfl) rfl⟩
abbrev M_X2_missAt : evM := (RX2, cX2_missAt, 6, (some FieldType.int))
set_option maxRecDepth 100000 in
theorem mv_X2_missAt : evMV yX2_missAt M_X2_missAt 3 := ⟨⟨⟨by decide +kernel, by decide +kernel, by decide +kernel⟩, ev_in (List.mem_of_getElem? (i := 402) rfl) rfl, ev_in (List.mem_of_getElem? (i := 65) rfl) rfl⟩, ev_in (List.mem_of_getElem? (i := 401) rfl) rfl, ev_in (List.mem_of_getElem? (i := 14) rfl) rfl⟩
abbrev M_X2_mostMissed : evM := (RX2, cX2_mostMissed, 7, (some FieldType.int))
set_option maxRecDepth 100000 in
theorem mv_X2_mostMissed : evMV yX2_mostMissed M_X2_mostMissed 2 := ⟨⟨⟨by decide +kernel, by decide +kernel, by decide +kernel⟩, ev_in (List.mem_of_getElem? (i := 398) rfl) rfl, ev_in (List.mem_of_getElem? (i := 65) rfl) rfl⟩, ev_in (List.mem_of_getElem? (i := 397) rfl) rfl, ev_in (List.mem_of_getElem? (i := 13) rfl) rfl⟩
abbrev M_X2_neededSpeed : evM := (RX2, cX2_neededSpeed, 1, (some FieldType.int))
set_option maxRecDepth 100000 in
theorem mv_X2_neededSpeed : evMV yX2_neededSpeed M_X2_neededSpeed 0 := ⟨⟨⟨by decide +kernel, by decide +kernel, by decide +kernel⟩, ev_in (List.mem_of_getElem? (i := 559) rfl) rfl, ev_in (List.mem_of_getElem? (i := 65) rfl) rfl⟩, ev_in (List.mem_of_getElem? (i := 557) rfl) rfl, ev_in (List.mem_of_getElem? (i := 558) rfl) rfl⟩
abbrev M_X2_nextEnd : evM := (RX2, cX2_nextEnd, 3, (some FieldType.int))
set_option maxRecDepth 100000 in
theorem mv_X2_nextEnd : evMV yX2_nextEnd M_X2_nextEnd 1 := ⟨⟨⟨by decide +kernel, by decide +kernel, by decide +kernel⟩, ev_in (List.mem_of_getElem? (i := 394) rfl) rfl, ev_in (List.mem_of_getElem? (i := 65) rfl) rfl⟩, ev_in (List.mem_of_getElem? (i := 393) rfl) rfl, ev_in (List.mem_of_getElem? (i := 12) rfl) rfl⟩
abbrev M_X2_sailedOnLeg : evM := (RX2, cX2_sailedOnLeg, 7, (some FieldType.int))
set_option maxRecDepth 100000 in
theorem mv_X2_sailedOnLeg : evMV yX2_sailedOnLeg M_X2_sailedOnLeg 2 := ⟨⟨⟨by decide +kernel, by decide +kernel, by decide +kernel⟩, ev_in (List.mem_of_getElem? (i := 580) rfl) rfl, ev_in (List.mem_of_getElem? (i := 65) rfl) rfl⟩, ev_in (List.mem_of_getElem? (i := 579) rfl) rfl, ev_in (List.mem_of_getElem? (i := 20) rfl) rfl⟩
abbrev M_X2_splitStretches : evM := (RX2, cX2_splitStretches, 5, none)
set_option maxRecDepth 100000 in
theorem mv_X2_splitStretches : evMV yX2_splitStretches M_X2_splitStretches 0 := ⟨⟨⟨by decide +kernel, by decide +kernel, by decide +kernel⟩, ev_in (List.mem_of_getElem? (i := 390) rfl) rfl, ev_in (List.mem_of_getElem? (i := 65) rfl) rfl⟩, ev_in (List.mem_of_getElem? (i := 389) rfl) rfl, ev_in (List.mem_of_getElem? (i := 11) rfl) rfl⟩
abbrev M_X2_stands : evM := (RX2, cX2_stands, 1, (some FieldType.boolean))
set_option maxRecDepth 100000 in
theorem mv_X2_stands : evMV yX2_stands M_X2_stands 0 := ⟨⟨⟨by decide +kernel, by decide +kernel, by decide +kernel⟩, ev_in (List.mem_of_getElem? (i := 417) rfl) rfl, ev_in (List.mem_of_getElem? (i := 65) rfl) rfl⟩, ev_in (List.mem_of_getElem? (i := 415) rfl) rfl, ev_in (List.mem_of_getElem? (i := 416) rfl) rfl⟩
abbrev M_X2_stretchCount : evM := (RX2, cX2_stretchCount, 1, (some FieldType.int))
set_option maxRecDepth 100000 in
theorem mv_X2_stretchCount : evMV yX2_stretchCount M_X2_stretchCount 0 := ⟨⟨⟨by decide +kernel, by decide +kernel, by decide +kernel⟩, ev_in (List.mem_of_getElem? (i := 505) rfl) rfl, ev_in (List.mem_of_getElem? (i := 65) rfl) rfl⟩, ev_in (List.mem_of_getElem? (i := 503) rfl) rfl, ev_in (List.mem_of_getElem? (i := 504) rfl) rfl⟩
abbrev M_X3_becomeLike : evM := (RX3, cX3_becomeLike, 2, none)
set_option maxRecDepth 100000 in
theorem mv_X3_becomeLike : evMV yX3_becomeLike M_X3_becomeLike 1 := ⟨⟨⟨by decide +kernel, by decide +kernel, by decide +kernel⟩, ev_in (List.mem_of_getElem? (i := 359) rfl) rfl, ev_in (List.mem_of_getElem? (i := 60) rfl) rfl⟩, ev_in (List.mem_of_getElem? (i := 357) rfl) rfl, ev_in (List.mem_of_getElem? (i := 358) rfl) rfl⟩
abbrev M_X3_becomeNew : evM := (RX3, cX3_becomeNew, 1, none)
set_option maxRecDepth 100000 in
theorem mv_X3_becomeNew : evMV yX3_becomeNew M_X3_becomeNew 0 := ⟨⟨⟨by decide +kernel, by decide +kernel, by decide +kernel⟩, ev_in (List.mem_of_getElem? (i := 93) rfl) rfl, ev_in (List.mem_of_getElem? (i := 60) rfl) rfl⟩, ev_in (List.mem_of_getElem? (i := 91) rfl) rfl, ev_in (List.mem_of_getElem? (i := 92) rfl) rfl⟩
abbrev M_X3_init : evM := (RX3, cX3_init, 1, none)
abbrev M_X3_isLegAhead : evM := (RX3, cX3_isLegAhead, 2, (some FieldType.boolean))
set_option maxRecDepth 100000 in
theorem mv_X3_isLegAhead : evMV yX3_isLegAhead M_X3_isLegAhead 1 := ⟨⟨⟨by decide +kernel, by decide +kernel, by decide +kernel⟩, ev_in (List.mem_of_getElem? (i := 533) rfl) rfl, ev_in (List.mem_of_getElem? (i := 60) rfl) rfl⟩, ev_in (List.mem_of_getElem? (i := 531) rfl) rfl, ev_in (List.mem_of_getElem? (i := 532) rfl) rfl⟩
abbrev M_X3_isPortAhead : evM := (RX3, cX3_isPortAhead, 2, (some FieldType.boolean))
set_option maxRecDepth 100000 in
theorem mv_X3_isPortAhead : evMV yX3_isPortAhead M_X3_isPortAhead 1 := ⟨⟨⟨by decide +kernel, by decide +kernel, by decide +kernel⟩, ev_in (List.mem_of_getElem? (i := 472) rfl) rfl, ev_in (List.mem_of_getElem? (i := 60) rfl) rfl⟩, ev_in (List.mem_of_getElem? (i := 470) rfl) rfl, ev_in (List.mem_of_getElem? (i := 471) rfl) rfl⟩
abbrev M_X3_ofLeg : evM := (RX3, cX3_ofLeg, 4, (some FieldType.int))
set_option maxRecDepth 100000 in
theorem mv_X3_ofLeg : evMV yX3_ofLeg M_X3_ofLeg 2 := ⟨⟨⟨by decide +kernel, by decide +kernel, by decide +kernel⟩, ev_in (List.mem_of_getElem? (i := 386) rfl) rfl, ev_in (List.mem_of_getElem? (i := 60) rfl) rfl⟩, ev_in (List.mem_of_getElem? (i := 384) rfl) rfl, ev_in (List.mem_of_getElem? (i := 385) rfl) rfl⟩
abbrev M_X3_placeOf : evM := (RX3, cX3_placeOf, 2, (some FieldType.int))
set_option maxRecDepth 100000 in
theorem mv_X3_placeOf : evMS yX3_placeOf M_X3_placeOf 2 := ⟨⟨⟨by decide +kernel, by decide +kernel, by decide +kernel⟩, ev_in (List.mem_of_getElem? (i := 343) rfl) rfl, ev_in (List.mem_of_getElem? (i := 60) rfl) rfl⟩, ev_in (List.mem_of_getElem? (i := 342) rfl) rfl⟩
abbrev M_X3_setOfLeg : evM := (RX3, cX3_setOfLeg, 5, none)
set_option maxRecDepth 100000 in
theorem mv_X3_setOfLeg : evMV yX3_setOfLeg M_X3_setOfLeg 3 := ⟨⟨⟨by decide +kernel, by decide +kernel, by decide +kernel⟩, ev_in (List.mem_of_getElem? (i := 340) rfl) rfl, ev_in (List.mem_of_getElem? (i := 60) rfl) rfl⟩, ev_in (List.mem_of_getElem? (i := 338) rfl) rfl, ev_in (List.mem_of_getElem? (i := 339) rfl) rfl⟩
abbrev M_X3_setTrait : evM := (RX3, cX3_setTrait, 3, none)
set_option maxRecDepth 100000 in
theorem mv_X3_setTrait : evMV yX3_setTrait M_X3_setTrait 2 := ⟨⟨⟨by decide +kernel, by decide +kernel, by decide +kernel⟩, ev_in (List.mem_of_getElem? (i := 347) rfl) rfl, ev_in (List.mem_of_getElem? (i := 60) rfl) rfl⟩, ev_in (List.mem_of_getElem? (i := 345) rfl) rfl, ev_in (List.mem_of_getElem? (i := 346) rfl) rfl⟩
abbrev M_X3_trait : evM := (RX3, cX3_trait, 2, (some FieldType.int))
set_option maxRecDepth 100000 in
theorem mv_X3_trait : evMV yX3_trait M_X3_trait 1 := ⟨⟨⟨by decide +kernel, by decide +kernel, by decide +kernel⟩, ev_in (List.mem_of_getElem? (i := 298) rfl) rfl, ev_in (List.mem_of_getElem? (i := 60) rfl) rfl⟩, ev_in (List.mem_of_getElem? (i := 296) rfl) rfl, ev_in (List.mem_of_getElem? (i := 297) rfl) rfl⟩
abbrev M_X4_becomeEmpty : evM := (RX4, cX4_becomeEmpty, 1, none)
set_option maxRecDepth 100000 in
theorem mv_X4_becomeEmpty : evMV yX4_becomeEmpty M_X4_becomeEmpty 0 := ⟨⟨⟨by decide +kernel, by decide +kernel, by decide +kernel⟩, ev_in (List.mem_of_getElem? (i := 274) rfl) rfl, ev_in (List.mem_of_getElem? (i := 64) rfl) rfl⟩, ev_in (List.mem_of_getElem? (i := 272) rfl) rfl, ev_in (List.mem_of_getElem? (i := 273) rfl) rfl⟩
abbrev M_X4_beginsItem : evM := (RX4, cX4_beginsItem, 4, (some FieldType.boolean))
set_option maxRecDepth 100000 in
theorem mv_X4_beginsItem : evMV yX4_beginsItem M_X4_beginsItem 2 := ⟨⟨⟨by decide +kernel, by decide +kernel, by decide +kernel⟩, ev_in (List.mem_of_getElem? (i := 294) rfl) rfl, ev_in (List.mem_of_getElem? (i := 64) rfl) rfl⟩, ev_in (List.mem_of_getElem? (i := 293) rfl) rfl, ev_in (List.mem_of_getElem? (i := 1) rfl) rfl⟩
abbrev M_X4_endItem : evM := (RX4, cX4_endItem, 4, none)
set_option maxRecDepth 100000 in
theorem mv_X4_endItem : evMV yX4_endItem M_X4_endItem 1 := ⟨⟨⟨by decide +kernel, by decide +kernel, by decide +kernel⟩, ev_in (List.mem_of_getElem? (i := 336) rfl) rfl, ev_in (List.mem_of_getElem? (i := 64) rfl) rfl⟩, ev_in (List.mem_of_getElem? (i := 335) rfl) rfl, ev_in (List.mem_of_getElem? (i := 8) rfl) rfl⟩
abbrev M_X4_greatest : evM := (RX4, cX4_greatest, 1, (some FieldType.int))
set_option maxRecDepth 100000 in
theorem mv_X4_greatest : evMV yX4_greatest M_X4_greatest 0 := ⟨⟨⟨by decide +kernel, by decide +kernel, by decide +kernel⟩, ev_in (List.mem_of_getElem? (i := 330) rfl) rfl, ev_in (List.mem_of_getElem? (i := 64) rfl) rfl⟩, ev_in (List.mem_of_getElem? (i := 329) rfl) rfl, ev_in (List.mem_of_getElem? (i := 7) rfl) rfl⟩
abbrev M_X4_init : evM := (RX4, cX4_init, 1, none)
abbrev M_X4_isFigure : evM := (RX4, cX4_isFigure, 1, (some FieldType.boolean))
set_option maxRecDepth 100000 in
theorem mv_X4_isFigure : evMS yX4_isFigure M_X4_isFigure 1 := ⟨⟨⟨by decide +kernel, by decide +kernel, by decide +kernel⟩, ev_in (List.mem_of_getElem? (i := 305) rfl) rfl, ev_in (List.mem_of_getElem? (i := 64) rfl) rfl⟩, ev_in (List.mem_of_getElem? (i := 304) rfl) rfl⟩
abbrev M_X4_least : evM := (RX4, cX4_least, 2, (some FieldType.int))
set_option maxRecDepth 100000 in
theorem mv_X4_least : evMV yX4_least M_X4_least 0 := ⟨⟨⟨by decide +kernel, by decide +kernel, by decide +kernel⟩, ev_in (List.mem_of_getElem? (i := 324) rfl) rfl, ev_in (List.mem_of_getElem? (i := 64) rfl) rfl⟩, ev_in (List.mem_of_getElem? (i := 323) rfl) rfl, ev_in (List.mem_of_getElem? (i := 6) rfl) rfl⟩
abbrev M_X4_length : evM := (RX4, cX4_length, 1, (some FieldType.int))
set_option maxRecDepth 100000 in
theorem mv_X4_length : evMV yX4_length M_X4_length 0 := ⟨⟨⟨by decide +kernel, by decide +kernel, by decide +kernel⟩, ev_in (List.mem_of_getElem? (i := 266) rfl) rfl, ev_in (List.mem_of_getElem? (i := 64) rfl) rfl⟩, ev_in (List.mem_of_getElem? (i := 264) rfl) rfl, ev_in (List.mem_of_getElem? (i := 265) rfl) rfl⟩
abbrev M_X4_numberAt : evM := (RX4, cX4_numberAt, 5, (some FieldType.int))
set_option maxRecDepth 100000 in
theorem mv_X4_numberAt : evMV yX4_numberAt M_X4_numberAt 1 := ⟨⟨⟨by decide +kernel, by decide +kernel, by decide +kernel⟩, ev_in (List.mem_of_getElem? (i := 309) rfl) rfl, ev_in (List.mem_of_getElem? (i := 64) rfl) rfl⟩, ev_in (List.mem_of_getElem? (i := 308) rfl) rfl, ev_in (List.mem_of_getElem? (i := 3) rfl) rfl⟩
abbrev M_X4_numbersOfItem : evM := (RX4, cX4_numbersOfItem, 1, (some FieldType.int))
set_option maxRecDepth 100000 in
theorem mv_X4_numbersOfItem : evMV yX4_numbersOfItem M_X4_numbersOfItem 0 := ⟨⟨⟨by decide +kernel, by decide +kernel, by decide +kernel⟩, ev_in (List.mem_of_getElem? (i := 302) rfl) rfl, ev_in (List.mem_of_getElem? (i := 64) rfl) rfl⟩, ev_in (List.mem_of_getElem? (i := 301) rfl) rfl, ev_in (List.mem_of_getElem? (i := 2) rfl) rfl⟩
abbrev M_X4_takesLetter : evM := (RX4, cX4_takesLetter, 2, (some FieldType.boolean))
set_option maxRecDepth 100000 in
theorem mv_X4_takesLetter : evMV yX4_takesLetter M_X4_takesLetter 1 := ⟨⟨⟨by decide +kernel, by decide +kernel, by decide +kernel⟩, ev_in (List.mem_of_getElem? (i := 262) rfl) rfl, ev_in (List.mem_of_getElem? (i := 64) rfl) rfl⟩, ev_in (List.mem_of_getElem? (i := 260) rfl) rfl, ev_in (List.mem_of_getElem? (i := 261) rfl) rfl⟩
abbrev M_X4_takesNumber : evM := (RX4, cX4_takesNumber, 2, (some FieldType.boolean))
set_option maxRecDepth 100000 in
theorem mv_X4_takesNumber : evMV yX4_takesNumber M_X4_takesNumber 1 := ⟨⟨⟨by decide +kernel, by decide +kernel, by decide +kernel⟩, ev_in (List.mem_of_getElem? (i := 320) rfl) rfl, ev_in (List.mem_of_getElem? (i := 64) rfl) rfl⟩, ev_in (List.mem_of_getElem? (i := 319) rfl) rfl, ev_in (List.mem_of_getElem? (i := 5) rfl) rfl⟩
abbrev M_X4_takesToken : evM := (RX4, cX4_takesToken, 4, (some FieldType.boolean))
set_option maxRecDepth 100000 in
theorem mv_X4_takesToken : evMV yX4_takesToken M_X4_takesToken 2 := ⟨⟨⟨by decide +kernel, by decide +kernel, by decide +kernel⟩, ev_in (List.mem_of_getElem? (i := 290) rfl) rfl, ev_in (List.mem_of_getElem? (i := 64) rfl) rfl⟩, ev_in (List.mem_of_getElem? (i := 289) rfl) rfl, ev_in (List.mem_of_getElem? (i := 0) rfl) rfl⟩
abbrev M_X4_tellShip : evM := (RX4, cX4_tellShip, 4, (some FieldType.int))
set_option maxRecDepth 100000 in
theorem mv_X4_tellShip : evMV yX4_tellShip M_X4_tellShip 1 := ⟨⟨⟨by decide +kernel, by decide +kernel, by decide +kernel⟩, ev_in (List.mem_of_getElem? (i := 285) rfl) rfl, ev_in (List.mem_of_getElem? (i := 64) rfl) rfl⟩, ev_in (List.mem_of_getElem? (i := 283) rfl) rfl, ev_in (List.mem_of_getElem? (i := 284) rfl) rfl⟩
abbrev M_X4_tokenEnd : evM := (RX4, cX4_tokenEnd, 3, (some FieldType.int))
set_option maxRecDepth 100000 in
theorem mv_X4_tokenEnd : evMV yX4_tokenEnd M_X4_tokenEnd 1 := ⟨⟨⟨by decide +kernel, by decide +kernel, by decide +kernel⟩, ev_in (List.mem_of_getElem? (i := 313) rfl) rfl, ev_in (List.mem_of_getElem? (i := 64) rfl) rfl⟩, ev_in (List.mem_of_getElem? (i := 312) rfl) rfl, ev_in (List.mem_of_getElem? (i := 4) rfl) rfl⟩
abbrev M_X5_agrees : evM := (RX5, cX5_agrees, 3, (some FieldType.boolean))
set_option maxRecDepth 100000 in
theorem mv_X5_agrees : evMV yX5_agrees M_X5_agrees 1 := ⟨⟨⟨by decide +kernel, by decide +kernel, by decide +kernel⟩, ev_in (List.mem_of_getElem? (i := 604) rfl) rfl, ev_in (List.mem_of_getElem? (i := 58) rfl) rfl⟩, ev_in (List.mem_of_getElem? (i := 603) rfl) rfl, ev_in (List.mem_of_getElem? (i := 23) rfl) rfl⟩
abbrev M_X5_back : evM := (RX5, cX5_back, 2, (some FieldType.int))
set_option maxRecDepth 100000 in
theorem mv_X5_back : evMV yX5_back M_X5_back 1 := ⟨⟨⟨by decide +kernel, by decide +kernel, by decide +kernel⟩, ev_in (List.mem_of_getElem? (i := 633) rfl) rfl, ev_in (List.mem_of_getElem? (i := 58) rfl) rfl⟩, ev_in (List.mem_of_getElem? (i := 631) rfl) rfl, ev_in (List.mem_of_getElem? (i := 632) rfl) rfl⟩
abbrev M_X5_clear : evM := (RX5, cX5_clear, 2, (some FieldType.int))
set_option maxRecDepth 100000 in
theorem mv_X5_clear : evMV yX5_clear M_X5_clear 0 := ⟨⟨⟨by decide +kernel, by decide +kernel, by decide +kernel⟩, ev_in (List.mem_of_getElem? (i := 270) rfl) rfl, ev_in (List.mem_of_getElem? (i := 58) rfl) rfl⟩, ev_in (List.mem_of_getElem? (i := 268) rfl) rfl, ev_in (List.mem_of_getElem? (i := 269) rfl) rfl⟩
abbrev M_X5_closed : evM := (RX5, cX5_closed, 4, (some FieldType.int))
set_option maxRecDepth 100000 in
theorem mv_X5_closed : evMV yX5_closed M_X5_closed 2 := ⟨⟨⟨by decide +kernel, by decide +kernel, by decide +kernel⟩, ev_in (List.mem_of_getElem? (i := 539) rfl) rfl, ev_in (List.mem_of_getElem? (i := 58) rfl) rfl⟩, ev_in (List.mem_of_getElem? (i := 537) rfl) rfl, ev_in (List.mem_of_getElem? (i := 538) rfl) rfl⟩
abbrev M_X5_commonMeasure : evM := (RX5, cX5_commonMeasure, 6, (some FieldType.int))
set_option maxRecDepth 100000 in
theorem mv_X5_commonMeasure : evMS yX5_commonMeasure M_X5_commonMeasure 2 := ⟨⟨⟨by decide +kernel, by decide +kernel, by decide +kernel⟩, ev_in (List.mem_of_getElem? (i := 524) rfl) rfl, ev_in (List.mem_of_getElem? (i := 58) rfl) rfl⟩, ev_in (List.mem_of_getElem? (i := 523) rfl) rfl⟩
abbrev M_X5_cost : evM := (RX5, cX5_cost, 4, (some FieldType.int))
set_option maxRecDepth 100000 in
theorem mv_X5_cost : evMV yX5_cost M_X5_cost 2 := ⟨⟨⟨by decide +kernel, by decide +kernel, by decide +kernel⟩, ev_in (List.mem_of_getElem? (i := 547) rfl) rfl, ev_in (List.mem_of_getElem? (i := 58) rfl) rfl⟩, ev_in (List.mem_of_getElem? (i := 545) rfl) rfl, ev_in (List.mem_of_getElem? (i := 546) rfl) rfl⟩
abbrev M_X5_count : evM := (RX5, cX5_count, 2, (some FieldType.int))
set_option maxRecDepth 100000 in
theorem mv_X5_count : evMV yX5_count M_X5_count 1 := ⟨⟨⟨by decide +kernel, by decide +kernel, by decide +kernel⟩, ev_in (List.mem_of_getElem? (i := 641) rfl) rfl, ev_in (List.mem_of_getElem? (i := 58) rfl) rfl⟩, ev_in (List.mem_of_getElem? (i := 639) rfl) rfl, ev_in (List.mem_of_getElem? (i := 640) rfl) rfl⟩
abbrev M_X5_drawAllPlans : evM := (RX5, cX5_drawAllPlans, 2, none)
set_option maxRecDepth 100000 in
theorem mv_X5_drawAllPlans : evMV yX5_drawAllPlans M_X5_drawAllPlans 0 := ⟨⟨⟨by decide +kernel, by decide +kernel, by decide +kernel⟩, ev_in (List.mem_of_getElem? (i := 596) rfl) rfl, ev_in (List.mem_of_getElem? (i := 58) rfl) rfl⟩, ev_in (List.mem_of_getElem? (i := 595) rfl) rfl, ev_in (List.mem_of_getElem? (i := 21) rfl) rfl⟩
abbrev M_X5_drawEased : evM := (RX5, cX5_drawEased, 5, none)
set_option maxRecDepth 100000 in
theorem mv_X5_drawEased : evMV yX5_drawEased M_X5_drawEased 3 := ⟨⟨⟨by decide +kernel, by decide +kernel, by decide +kernel⟩, ev_in (List.mem_of_getElem? (i := 567) rfl) rfl, ev_in (List.mem_of_getElem? (i := 58) rfl) rfl⟩, ev_in (List.mem_of_getElem? (i := 566) rfl) rfl, ev_in (List.mem_of_getElem? (i := 19) rfl) rfl⟩
abbrev M_X5_drawnPlan : evM := (RX5, cX5_drawnPlan, 3, (some (FieldType.object "EvenVoyage$Plan")))
set_option maxRecDepth 100000 in
theorem mv_X5_drawnPlan : evMV yX5_drawnPlan M_X5_drawnPlan 1 := ⟨⟨⟨by decide +kernel, by decide +kernel, by decide +kernel⟩, ev_in (List.mem_of_getElem? (i := 369) rfl) rfl, ev_in (List.mem_of_getElem? (i := 58) rfl) rfl⟩, ev_in (List.mem_of_getElem? (i := 368) rfl) rfl, ev_in (List.mem_of_getElem? (i := 9) rfl) rfl⟩
abbrev M_X5_eased : evM := (RX5, cX5_eased, 10, (some FieldType.int))
set_option maxRecDepth 100000 in
theorem mv_X5_eased : evMV yX5_eased M_X5_eased 1 := ⟨⟨⟨by decide +kernel, by decide +kernel, by decide +kernel⟩, ev_in (List.mem_of_getElem? (i := 563) rfl) rfl, ev_in (List.mem_of_getElem? (i := 58) rfl) rfl⟩, ev_in (List.mem_of_getElem? (i := 561) rfl) rfl, ev_in (List.mem_of_getElem? (i := 562) rfl) rfl⟩
abbrev M_X5_fastens : evM := (RX5, cX5_fastens, 5, (some FieldType.int))
set_option maxRecDepth 100000 in
theorem mv_X5_fastens : evMV yX5_fastens M_X5_fastens 2 := ⟨⟨⟨by decide +kernel, by decide +kernel, by decide +kernel⟩, ev_in (List.mem_of_getElem? (i := 477) rfl) rfl, ev_in (List.mem_of_getElem? (i := 58) rfl) rfl⟩, ev_in (List.mem_of_getElem? (i := 475) rfl) rfl, ev_in (List.mem_of_getElem? (i := 476) rfl) rfl⟩
abbrev M_X5_forget : evM := (RX5, cX5_forget, 2, (some FieldType.int))
set_option maxRecDepth 100000 in
theorem mv_X5_forget : evMV yX5_forget M_X5_forget 0 := ⟨⟨⟨by decide +kernel, by decide +kernel, by decide +kernel⟩, ev_in (List.mem_of_getElem? (i := 588) rfl) rfl, ev_in (List.mem_of_getElem? (i := 58) rfl) rfl⟩, ev_in (List.mem_of_getElem? (i := 586) rfl) rfl, ev_in (List.mem_of_getElem? (i := 587) rfl) rfl⟩
abbrev M_X5_holds : evM := (RX5, cX5_holds, 5, (some FieldType.int))
set_option maxRecDepth 100000 in
theorem mv_X5_holds : evMV yX5_holds M_X5_holds 2 := ⟨⟨⟨by decide +kernel, by decide +kernel, by decide +kernel⟩, ev_in (List.mem_of_getElem? (i := 464) rfl) rfl, ev_in (List.mem_of_getElem? (i := 58) rfl) rfl⟩, ev_in (List.mem_of_getElem? (i := 462) rfl) rfl, ev_in (List.mem_of_getElem? (i := 463) rfl) rfl⟩
abbrev M_X5_init : evM := (RX5, cX5_init, 2, none)
abbrev M_X5_isNoShip : evM := (RX5, cX5_isNoShip, 1, (some FieldType.boolean))
set_option maxRecDepth 100000 in
theorem mv_X5_isNoShip : evMS yX5_isNoShip M_X5_isNoShip 1 := ⟨⟨⟨by decide +kernel, by decide +kernel, by decide +kernel⟩, ev_in (List.mem_of_getElem? (i := 281) rfl) rfl, ev_in (List.mem_of_getElem? (i := 58) rfl) rfl⟩, ev_in (List.mem_of_getElem? (i := 280) rfl) rfl⟩
abbrev M_X5_keep : evM := (RX5, cX5_keep, 2, (some FieldType.int))
set_option maxRecDepth 100000 in
theorem mv_X5_keep : evMV yX5_keep M_X5_keep 1 := ⟨⟨⟨by decide +kernel, by decide +kernel, by decide +kernel⟩, ev_in (List.mem_of_getElem? (i := 623) rfl) rfl, ev_in (List.mem_of_getElem? (i := 58) rfl) rfl⟩, ev_in (List.mem_of_getElem? (i := 621) rfl) rfl, ev_in (List.mem_of_getElem? (i := 622) rfl) rfl⟩
abbrev M_X5_leg : evM := (RX5, cX5_leg, 5, (some FieldType.int))
set_option maxRecDepth 100000 in
theorem mv_X5_leg : evMV yX5_leg M_X5_leg 3 := ⟨⟨⟨by decide +kernel, by decide +kernel, by decide +kernel⟩, ev_in (List.mem_of_getElem? (i := 497) rfl) rfl, ev_in (List.mem_of_getElem? (i := 58) rfl) rfl⟩, ev_in (List.mem_of_getElem? (i := 495) rfl) rfl, ev_in (List.mem_of_getElem? (i := 496) rfl) rfl⟩
abbrev M_X5_look : evM := (RX5, cX5_look, 6, (some FieldType.int))
set_option maxRecDepth 100000 in
theorem mv_X5_look : evMV yX5_look M_X5_look 0 := ⟨⟨⟨by decide +kernel, by decide +kernel, by decide +kernel⟩, ev_in (List.mem_of_getElem? (i := 608) rfl) rfl, ev_in (List.mem_of_getElem? (i := 58) rfl) rfl⟩, ev_in (List.mem_of_getElem? (i := 606) rfl) rfl, ev_in (List.mem_of_getElem? (i := 607) rfl) rfl⟩
abbrev M_X5_mile : evM := (RX5, cX5_mile, 3, (some FieldType.int))
set_option maxRecDepth 100000 in
theorem mv_X5_mile : evMV yX5_mile M_X5_mile 2 := ⟨⟨⟨by decide +kernel, by decide +kernel, by decide +kernel⟩, ev_in (List.mem_of_getElem? (i := 571) rfl) rfl, ev_in (List.mem_of_getElem? (i := 58) rfl) rfl⟩, ev_in (List.mem_of_getElem? (i := 569) rfl) rfl, ev_in (List.mem_of_getElem? (i := 570) rfl) rfl⟩
abbrev M_X5_mostAlike : evM := (RX5, cX5_mostAlike, 7, (some FieldType.int))
set_option maxRecDepth 100000 in
theorem mv_X5_mostAlike : evMV yX5_mostAlike M_X5_mostAlike 2 := ⟨⟨⟨by decide +kernel, by decide +kernel, by decide +kernel⟩, ev_in (List.mem_of_getElem? (i := 618) rfl) rfl, ev_in (List.mem_of_getElem? (i := 58) rfl) rfl⟩, ev_in (List.mem_of_getElem? (i := 617) rfl) rfl, ev_in (List.mem_of_getElem? (i := 24) rfl) rfl⟩
abbrev M_X5_moves : evM := (RX5, cX5_moves, 7, (some FieldType.int))
set_option maxRecDepth 100000 in
theorem mv_X5_moves : evMV yX5_moves M_X5_moves 4 := ⟨⟨⟨by decide +kernel, by decide +kernel, by decide +kernel⟩, ev_in (List.mem_of_getElem? (i := 468) rfl) rfl, ev_in (List.mem_of_getElem? (i := 58) rfl) rfl⟩, ev_in (List.mem_of_getElem? (i := 466) rfl) rfl, ev_in (List.mem_of_getElem? (i := 467) rfl) rfl⟩
abbrev M_X5_needs : evM := (RX5, cX5_needs, 3, (some FieldType.int))
set_option maxRecDepth 100000 in
theorem mv_X5_needs : evMV yX5_needs M_X5_needs 1 := ⟨⟨⟨by decide +kernel, by decide +kernel, by decide +kernel⟩, ev_in (List.mem_of_getElem? (i := 555) rfl) rfl, ev_in (List.mem_of_getElem? (i := 58) rfl) rfl⟩, ev_in (List.mem_of_getElem? (i := 553) rfl) rfl, ev_in (List.mem_of_getElem? (i := 554) rfl) rfl⟩
abbrev M_X5_partOf : evM := (RX5, cX5_partOf, 5, (some FieldType.int))
set_option maxRecDepth 100000 in
theorem mv_X5_partOf : evMS yX5_partOf M_X5_partOf 3 := ⟨⟨⟨by decide +kernel, by decide +kernel, by decide +kernel⟩, ev_in (List.mem_of_getElem? (i := 521) rfl) rfl, ev_in (List.mem_of_getElem? (i := 58) rfl) rfl⟩, ev_in (List.mem_of_getElem? (i := 520) rfl) rfl⟩
abbrev M_X5_plan : evM := (RX5, cX5_plan, 4, (some FieldType.int))
set_option maxRecDepth 100000 in
theorem mv_X5_plan : evMV yX5_plan M_X5_plan 2 := ⟨⟨⟨by decide +kernel, by decide +kernel, by decide +kernel⟩, ev_in (List.mem_of_getElem? (i := 501) rfl) rfl, ev_in (List.mem_of_getElem? (i := 58) rfl) rfl⟩, ev_in (List.mem_of_getElem? (i := 499) rfl) rfl, ev_in (List.mem_of_getElem? (i := 500) rfl) rfl⟩
abbrev M_X5_sails : evM := (RX5, cX5_sails, 8, (some FieldType.int))
set_option maxRecDepth 100000 in
theorem mv_X5_sails : evMV yX5_sails M_X5_sails 1 := ⟨⟨⟨by decide +kernel, by decide +kernel, by decide +kernel⟩, ev_in (List.mem_of_getElem? (i := 365) rfl) rfl, ev_in (List.mem_of_getElem? (i := 58) rfl) rfl⟩, ev_in (List.mem_of_getElem? (i := 363) rfl) rfl, ev_in (List.mem_of_getElem? (i := 364) rfl) rfl⟩
abbrev M_X5_sees : evM := (RX5, cX5_sees, 3, (some FieldType.int))
set_option maxRecDepth 100000 in
theorem mv_X5_sees : evMV yX5_sees M_X5_sees 2 := ⟨⟨⟨by decide +kernel, by decide +kernel, by decide +kernel⟩, ev_in (List.mem_of_getElem? (i := 584) rfl) rfl, ev_in (List.mem_of_getElem? (i := 58) rfl) rfl⟩, ev_in (List.mem_of_getElem? (i := 582) rfl) rfl, ev_in (List.mem_of_getElem? (i := 583) rfl) rfl⟩
abbrev M_X5_ship : evM := (RX5, cX5_ship, 3, (some FieldType.int))
set_option maxRecDepth 100000 in
theorem mv_X5_ship : evMV yX5_ship M_X5_ship 2 := ⟨⟨⟨by decide +kernel, by decide +kernel, by decide +kernel⟩, ev_in (List.mem_of_getElem? (i := 493) rfl) rfl, ev_in (List.mem_of_getElem? (i := 58) rfl) rfl⟩, ev_in (List.mem_of_getElem? (i := 491) rfl) rfl, ev_in (List.mem_of_getElem? (i := 492) rfl) rfl⟩
abbrev M_X5_slack : evM := (RX5, cX5_slack, 4, (some FieldType.int))
set_option maxRecDepth 100000 in
theorem mv_X5_slack : evMV yX5_slack M_X5_slack 1 := ⟨⟨⟨by decide +kernel, by decide +kernel, by decide +kernel⟩, ev_in (List.mem_of_getElem? (i := 551) rfl) rfl, ev_in (List.mem_of_getElem? (i := 58) rfl) rfl⟩, ev_in (List.mem_of_getElem? (i := 549) rfl) rfl, ev_in (List.mem_of_getElem? (i := 550) rfl) rfl⟩
abbrev M_X5_speed : evM := (RX5, cX5_speed, 5, (some FieldType.int))
set_option maxRecDepth 100000 in
theorem mv_X5_speed : evMV yX5_speed M_X5_speed 3 := ⟨⟨⟨by decide +kernel, by decide +kernel, by decide +kernel⟩, ev_in (List.mem_of_getElem? (i := 529) rfl) rfl, ev_in (List.mem_of_getElem? (i := 58) rfl) rfl⟩, ev_in (List.mem_of_getElem? (i := 527) rfl) rfl, ev_in (List.mem_of_getElem? (i := 528) rfl) rfl⟩
abbrev M_X5_suspects : evM := (RX5, cX5_suspects, 3, (some FieldType.int))
set_option maxRecDepth 100000 in
theorem mv_X5_suspects : evMV yX5_suspects M_X5_suspects 0 := ⟨⟨⟨by decide +kernel, by decide +kernel, by decide +kernel⟩, ev_in (List.mem_of_getElem? (i := 600) rfl) rfl, ev_in (List.mem_of_getElem? (i := 58) rfl) rfl⟩, ev_in (List.mem_of_getElem? (i := 599) rfl) rfl, ev_in (List.mem_of_getElem? (i := 22) rfl) rfl⟩
abbrev M_X5_tells : evM := (RX5, cX5_tells, 3, (some FieldType.int))
set_option maxRecDepth 100000 in
theorem mv_X5_tells : evMV yX5_tells M_X5_tells 1 := ⟨⟨⟨by decide +kernel, by decide +kernel, by decide +kernel⟩, ev_in (List.mem_of_getElem? (i := 278) rfl) rfl, ev_in (List.mem_of_getElem? (i := 58) rfl) rfl⟩, ev_in (List.mem_of_getElem? (i := 276) rfl) rfl, ev_in (List.mem_of_getElem? (i := 277) rfl) rfl⟩
abbrev M_X5_time : evM := (RX5, cX5_time, 5, (some FieldType.int))
set_option maxRecDepth 100000 in
theorem mv_X5_time : evMV yX5_time M_X5_time 3 := ⟨⟨⟨by decide +kernel, by decide +kernel, by decide +kernel⟩, ev_in (List.mem_of_getElem? (i := 514) rfl) rfl, ev_in (List.mem_of_getElem? (i := 58) rfl) rfl⟩, ev_in (List.mem_of_getElem? (i := 512) rfl) rfl, ev_in (List.mem_of_getElem? (i := 513) rfl) rfl⟩
abbrev M_X5_type : evM := (RX5, cX5_type, 2, (some FieldType.int))
set_option maxRecDepth 100000 in
theorem mv_X5_type : evMV yX5_type M_X5_type 1 := ⟨⟨⟨by decide +kernel, by decide +kernel, by decide +kernel⟩, ev_in (List.mem_of_getElem? (i := 258) rfl) rfl, ev_in (List.mem_of_getElem? (i := 58) rfl) rfl⟩, ev_in (List.mem_of_getElem? (i := 256) rfl) rfl, ev_in (List.mem_of_getElem? (i := 257) rfl) rfl⟩
abbrev M_X5_undo : evM := (RX5, cX5_undo, 1, (some FieldType.int))
set_option maxRecDepth 100000 in
theorem mv_X5_undo : evMV yX5_undo M_X5_undo 0 := ⟨⟨⟨by decide +kernel, by decide +kernel, by decide +kernel⟩, ev_in (List.mem_of_getElem? (i := 481) rfl) rfl, ev_in (List.mem_of_getElem? (i := 58) rfl) rfl⟩, ev_in (List.mem_of_getElem? (i := 479) rfl) rfl, ev_in (List.mem_of_getElem? (i := 480) rfl) rfl⟩
abbrev M_X5_which : evM := (RX5, cX5_which, 1, (some FieldType.int))
set_option maxRecDepth 100000 in
theorem mv_X5_which : evMV yX5_which M_X5_which 0 := ⟨⟨⟨by decide +kernel, by decide +kernel, by decide +kernel⟩, ev_in (List.mem_of_getElem? (i := 592) rfl) rfl, ev_in (List.mem_of_getElem? (i := 58) rfl) rfl⟩, ev_in (List.mem_of_getElem? (i := 590) rfl) rfl, ev_in (List.mem_of_getElem? (i := 591) rfl) rfl⟩
abbrev M_X6_alikeAt : evM := (RX6, cX6_alikeAt, 7, (some FieldType.int))
set_option maxRecDepth 100000 in
theorem mv_X6_alikeAt : evMV yX6_alikeAt M_X6_alikeAt 2 := ⟨⟨⟨by decide +kernel, by decide +kernel, by decide +kernel⟩, ev_in (List.mem_of_getElem? (i := 962) rfl) rfl, ev_in (List.mem_of_getElem? (i := 66) rfl) rfl⟩, ev_in (List.mem_of_getElem? (i := 961) rfl) rfl, ev_in (List.mem_of_getElem? (i := 55) rfl) rfl⟩
abbrev M_X6_back : evM := (RX6, cX6_back, 3, (some FieldType.int))
set_option maxRecDepth 100000 in
theorem mv_X6_back : evMV yX6_back M_X6_back 1 := ⟨⟨⟨by decide +kernel, by decide +kernel, by decide +kernel⟩, ev_in (List.mem_of_getElem? (i := 974) rfl) rfl, ev_in (List.mem_of_getElem? (i := 66) rfl) rfl⟩, ev_in (List.mem_of_getElem? (i := 972) rfl) rfl, ev_in (List.mem_of_getElem? (i := 973) rfl) rfl⟩
abbrev M_X6_begins : evM := (RX6, cX6_begins, 3, none)
set_option maxRecDepth 100000 in
theorem mv_X6_begins : evMS yX6_begins M_X6_begins 2 := ⟨⟨⟨by decide +kernel, by decide +kernel, by decide +kernel⟩, ev_in (List.mem_of_getElem? (i := 650) rfl) rfl, ev_in (List.mem_of_getElem? (i := 66) rfl) rfl⟩, ev_in (List.mem_of_getElem? (i := 649) rfl) rfl⟩
abbrev M_X6_blanks : evM := (RX6, cX6_blanks, 1, none)
set_option maxRecDepth 100000 in
theorem mv_X6_blanks : evMV yX6_blanks M_X6_blanks 0 := ⟨⟨⟨by decide +kernel, by decide +kernel, by decide +kernel⟩, ev_in (List.mem_of_getElem? (i := 757) rfl) rfl, ev_in (List.mem_of_getElem? (i := 66) rfl) rfl⟩, ev_in (List.mem_of_getElem? (i := 756) rfl) rfl, ev_in (List.mem_of_getElem? (i := 26) rfl) rfl⟩
abbrev M_X6_clear : evM := (RX6, cX6_clear, 2, (some FieldType.int))
set_option maxRecDepth 100000 in
theorem mv_X6_clear : evMV yX6_clear M_X6_clear 0 := ⟨⟨⟨by decide +kernel, by decide +kernel, by decide +kernel⟩, ev_in (List.mem_of_getElem? (i := 742) rfl) rfl, ev_in (List.mem_of_getElem? (i := 66) rfl) rfl⟩, ev_in (List.mem_of_getElem? (i := 740) rfl) rfl, ev_in (List.mem_of_getElem? (i := 741) rfl) rfl⟩
abbrev M_X6_closed : evM := (RX6, cX6_closed, 3, (some FieldType.int))
set_option maxRecDepth 100000 in
theorem mv_X6_closed : evMV yX6_closed M_X6_closed 2 := ⟨⟨⟨by decide +kernel, by decide +kernel, by decide +kernel⟩, ev_in (List.mem_of_getElem? (i := 910) rfl) rfl, ev_in (List.mem_of_getElem? (i := 66) rfl) rfl⟩, ev_in (List.mem_of_getElem? (i := 908) rfl) rfl, ev_in (List.mem_of_getElem? (i := 909) rfl) rfl⟩
abbrev M_X6_common : evM := (RX6, cX6_common, 10, (some FieldType.long))
set_option maxRecDepth 100000 in
theorem mv_X6_common : evMS yX6_common M_X6_common 2 := ⟨⟨⟨by decide +kernel, by decide +kernel, by decide +kernel⟩, ev_in (List.mem_of_getElem? (i := 901) rfl) rfl, ev_in (List.mem_of_getElem? (i := 66) rfl) rfl⟩, ev_in (List.mem_of_getElem? (i := 900) rfl) rfl⟩
abbrev M_X6_cost : evM := (RX6, cX6_cost, 3, (some FieldType.int))
set_option maxRecDepth 100000 in
theorem mv_X6_cost : evMV yX6_cost M_X6_cost 2 := ⟨⟨⟨by decide +kernel, by decide +kernel, by decide +kernel⟩, ev_in (List.mem_of_getElem? (i := 914) rfl) rfl, ev_in (List.mem_of_getElem? (i := 66) rfl) rfl⟩, ev_in (List.mem_of_getElem? (i := 912) rfl) rfl, ev_in (List.mem_of_getElem? (i := 913) rfl) rfl⟩
abbrev M_X6_costOf : evM := (RX6, cX6_costOf, 17, (some FieldType.int))
set_option maxRecDepth 100000 in
theorem mv_X6_costOf : evMV yX6_costOf M_X6_costOf 1 := ⟨⟨⟨by decide +kernel, by decide +kernel, by decide +kernel⟩, ev_in (List.mem_of_getElem? (i := 852) rfl) rfl, ev_in (List.mem_of_getElem? (i := 66) rfl) rfl⟩, ev_in (List.mem_of_getElem? (i := 851) rfl) rfl, ev_in (List.mem_of_getElem? (i := 48) rfl) rfl⟩
abbrev M_X6_costsAhead : evM := (RX6, cX6_costsAhead, 3, (some FieldType.int))
set_option maxRecDepth 100000 in
theorem mv_X6_costsAhead : evMV yX6_costsAhead M_X6_costsAhead 0 := ⟨⟨⟨by decide +kernel, by decide +kernel, by decide +kernel⟩, ev_in (List.mem_of_getElem? (i := 890) rfl) rfl, ev_in (List.mem_of_getElem? (i := 66) rfl) rfl⟩, ev_in (List.mem_of_getElem? (i := 889) rfl) rfl, ev_in (List.mem_of_getElem? (i := 51) rfl) rfl⟩
abbrev M_X6_count : evM := (RX6, cX6_count, 2, (some FieldType.int))
set_option maxRecDepth 100000 in
theorem mv_X6_count : evMV yX6_count M_X6_count 1 := ⟨⟨⟨by decide +kernel, by decide +kernel, by decide +kernel⟩, ev_in (List.mem_of_getElem? (i := 978) rfl) rfl, ev_in (List.mem_of_getElem? (i := 66) rfl) rfl⟩, ev_in (List.mem_of_getElem? (i := 976) rfl) rfl, ev_in (List.mem_of_getElem? (i := 977) rfl) rfl⟩
abbrev M_X6_eased : evM := (RX6, cX6_eased, 8, (some FieldType.int))
set_option maxRecDepth 100000 in
theorem mv_X6_eased : evMV yX6_eased M_X6_eased 1 := ⟨⟨⟨by decide +kernel, by decide +kernel, by decide +kernel⟩, ev_in (List.mem_of_getElem? (i := 926) rfl) rfl, ev_in (List.mem_of_getElem? (i := 66) rfl) rfl⟩, ev_in (List.mem_of_getElem? (i := 924) rfl) rfl, ev_in (List.mem_of_getElem? (i := 925) rfl) rfl⟩
abbrev M_X6_evenTimes : evM := (RX6, cX6_evenTimes, 4, (some FieldType.long))
set_option maxRecDepth 100000 in
theorem mv_X6_evenTimes : evMV yX6_evenTimes M_X6_evenTimes 3 := ⟨⟨⟨by decide +kernel, by decide +kernel, by decide +kernel⟩, ev_in (List.mem_of_getElem? (i := 828) rfl) rfl, ev_in (List.mem_of_getElem? (i := 66) rfl) rfl⟩, ev_in (List.mem_of_getElem? (i := 827) rfl) rfl, ev_in (List.mem_of_getElem? (i := 42) rfl) rfl⟩
abbrev M_X6_fastNeeded : evM := (RX6, cX6_fastNeeded, 9, (some FieldType.int))
set_option maxRecDepth 100000 in
theorem mv_X6_fastNeeded : evMV yX6_fastNeeded M_X6_fastNeeded 0 := ⟨⟨⟨by decide +kernel, by decide +kernel, by decide +kernel⟩, ev_in (List.mem_of_getElem? (i := 836) rfl) rfl, ev_in (List.mem_of_getElem? (i := 66) rfl) rfl⟩, ev_in (List.mem_of_getElem? (i := 835) rfl) rfl, ev_in (List.mem_of_getElem? (i := 44) rfl) rfl⟩
abbrev M_X6_fastens : evM := (RX6, cX6_fastens, 4, (some FieldType.int))
set_option maxRecDepth 100000 in
theorem mv_X6_fastens : evMV yX6_fastens M_X6_fastens 2 := ⟨⟨⟨by decide +kernel, by decide +kernel, by decide +kernel⟩, ev_in (List.mem_of_getElem? (i := 870) rfl) rfl, ev_in (List.mem_of_getElem? (i := 66) rfl) rfl⟩, ev_in (List.mem_of_getElem? (i := 868) rfl) rfl, ev_in (List.mem_of_getElem? (i := 869) rfl) rfl⟩
abbrev M_X6_forget : evM := (RX6, cX6_forget, 2, (some FieldType.int))
set_option maxRecDepth 100000 in
theorem mv_X6_forget : evMV yX6_forget M_X6_forget 0 := ⟨⟨⟨by decide +kernel, by decide +kernel, by decide +kernel⟩, ev_in (List.mem_of_getElem? (i := 946) rfl) rfl, ev_in (List.mem_of_getElem? (i := 66) rfl) rfl⟩, ev_in (List.mem_of_getElem? (i := 944) rfl) rfl, ev_in (List.mem_of_getElem? (i := 945) rfl) rfl⟩
abbrev M_X6_hasPlan : evM := (RX6, cX6_hasPlan, 2, (some FieldType.boolean))
set_option maxRecDepth 100000 in
theorem mv_X6_hasPlan : evMV yX6_hasPlan M_X6_hasPlan 0 := ⟨⟨⟨by decide +kernel, by decide +kernel, by decide +kernel⟩, ev_in (List.mem_of_getElem? (i := 832) rfl) rfl, ev_in (List.mem_of_getElem? (i := 66) rfl) rfl⟩, ev_in (List.mem_of_getElem? (i := 831) rfl) rfl, ev_in (List.mem_of_getElem? (i := 43) rfl) rfl⟩
abbrev M_X6_holds : evM := (RX6, cX6_holds, 3, (some FieldType.int))
set_option maxRecDepth 100000 in
theorem mv_X6_holds : evMV yX6_holds M_X6_holds 2 := ⟨⟨⟨by decide +kernel, by decide +kernel, by decide +kernel⟩, ev_in (List.mem_of_getElem? (i := 858) rfl) rfl, ev_in (List.mem_of_getElem? (i := 66) rfl) rfl⟩, ev_in (List.mem_of_getElem? (i := 856) rfl) rfl, ev_in (List.mem_of_getElem? (i := 857) rfl) rfl⟩
abbrev M_X6_in : evM := (RX6, cX6_in, 3, (some FieldType.boolean))
set_option maxRecDepth 100000 in
theorem mv_X6_in : evMS yX6_in M_X6_in 3 := ⟨⟨⟨by decide +kernel, by decide +kernel, by decide +kernel⟩, ev_in (List.mem_of_getElem? (i := 738) rfl) rfl, ev_in (List.mem_of_getElem? (i := 66) rfl) rfl⟩, ev_in (List.mem_of_getElem? (i := 737) rfl) rfl⟩
abbrev M_X6_init : evM := (RX6, cX6_init, 2, none)
abbrev M_X6_isAhead : evM := (RX6, cX6_isAhead, 3, (some FieldType.boolean))
set_option maxRecDepth 100000 in
theorem mv_X6_isAhead : evMV yX6_isAhead M_X6_isAhead 2 := ⟨⟨⟨by decide +kernel, by decide +kernel, by decide +kernel⟩, ev_in (List.mem_of_getElem? (i := 866) rfl) rfl, ev_in (List.mem_of_getElem? (i := 66) rfl) rfl⟩, ev_in (List.mem_of_getElem? (i := 865) rfl) rfl, ev_in (List.mem_of_getElem? (i := 49) rfl) rfl⟩
abbrev M_X6_isAt : evM := (RX6, cX6_isAt, 3, (some FieldType.boolean))
set_option maxRecDepth 100000 in
theorem mv_X6_isAt : evMV yX6_isAt M_X6_isAt 2 := ⟨⟨⟨by decide +kernel, by decide +kernel, by decide +kernel⟩, ev_in (List.mem_of_getElem? (i := 772) rfl) rfl, ev_in (List.mem_of_getElem? (i := 66) rfl) rfl⟩, ev_in (List.mem_of_getElem? (i := 771) rfl) rfl, ev_in (List.mem_of_getElem? (i := 29) rfl) rfl⟩
abbrev M_X6_isShip : evM := (RX6, cX6_isShip, 1, (some FieldType.boolean))
set_option maxRecDepth 100000 in
theorem mv_X6_isShip : evMS yX6_isShip M_X6_isShip 1 := ⟨⟨⟨by decide +kernel, by decide +kernel, by decide +kernel⟩, ev_in (List.mem_of_getElem? (i := 749) rfl) rfl, ev_in (List.mem_of_getElem? (i := 66) rfl) rfl⟩, ev_in (List.mem_of_getElem? (i := 748) rfl) rfl⟩
abbrev M_X6_keep : evM := (RX6, cX6_keep, 3, (some FieldType.int))
set_option maxRecDepth 100000 in
theorem mv_X6_keep : evMV yX6_keep M_X6_keep 1 := ⟨⟨⟨by decide +kernel, by decide +kernel, by decide +kernel⟩, ev_in (List.mem_of_getElem? (i := 966) rfl) rfl, ev_in (List.mem_of_getElem? (i := 66) rfl) rfl⟩, ev_in (List.mem_of_getElem? (i := 964) rfl) rfl, ev_in (List.mem_of_getElem? (i := 965) rfl) rfl⟩
abbrev M_X6_lays : evM := (RX6, cX6_lays, 8, none)
set_option maxRecDepth 100000 in
theorem mv_X6_lays : evMV yX6_lays M_X6_lays 4 := ⟨⟨⟨by decide +kernel, by decide +kernel, by decide +kernel⟩, ev_in (List.mem_of_getElem? (i := 800) rfl) rfl, ev_in (List.mem_of_getElem? (i := 66) rfl) rfl⟩, ev_in (List.mem_of_getElem? (i := 799) rfl) rfl, ev_in (List.mem_of_getElem? (i := 35) rfl) rfl⟩
abbrev M_X6_leg : evM := (RX6, cX6_leg, 4, (some FieldType.int))
set_option maxRecDepth 100000 in
theorem mv_X6_leg : evMV yX6_leg M_X6_leg 3 := ⟨⟨⟨by decide +kernel, by decide +kernel, by decide +kernel⟩, ev_in (List.mem_of_getElem? (i := 878) rfl) rfl, ev_in (List.mem_of_getElem? (i := 66) rfl) rfl⟩, ev_in (List.mem_of_getElem? (i := 876) rfl) rfl, ev_in (List.mem_of_getElem? (i := 877) rfl) rfl⟩
abbrev M_X6_legPlace : evM := (RX6, cX6_legPlace, 2, (some FieldType.int))
set_option maxRecDepth 100000 in
theorem mv_X6_legPlace : evMS yX6_legPlace M_X6_legPlace 2 := ⟨⟨⟨by decide +kernel, by decide +kernel, by decide +kernel⟩, ev_in (List.mem_of_getElem? (i := 764) rfl) rfl, ev_in (List.mem_of_getElem? (i := 66) rfl) rfl⟩, ev_in (List.mem_of_getElem? (i := 763) rfl) rfl⟩
abbrev M_X6_legsOfAll : evM := (RX6, cX6_legsOfAll, 3, (some FieldType.int))
set_option maxRecDepth 100000 in
theorem mv_X6_legsOfAll : evMV yX6_legsOfAll M_X6_legsOfAll 0 := ⟨⟨⟨by decide +kernel, by decide +kernel, by decide +kernel⟩, ev_in (List.mem_of_getElem? (i := 970) rfl) rfl, ev_in (List.mem_of_getElem? (i := 66) rfl) rfl⟩, ev_in (List.mem_of_getElem? (i := 969) rfl) rfl, ev_in (List.mem_of_getElem? (i := 56) rfl) rfl⟩
abbrev M_X6_look : evM := (RX6, cX6_look, 6, (some FieldType.int))
set_option maxRecDepth 100000 in
theorem mv_X6_look : evMV yX6_look M_X6_look 0 := ⟨⟨⟨by decide +kernel, by decide +kernel, by decide +kernel⟩, ev_in (List.mem_of_getElem? (i := 958) rfl) rfl, ev_in (List.mem_of_getElem? (i := 66) rfl) rfl⟩, ev_in (List.mem_of_getElem? (i := 956) rfl) rfl, ev_in (List.mem_of_getElem? (i := 957) rfl) rfl⟩
abbrev M_X6_lowest : evM := (RX6, cX6_lowest, 7, (some FieldType.int))
set_option maxRecDepth 100000 in
theorem mv_X6_lowest : evMS yX6_lowest M_X6_lowest 3 := ⟨⟨⟨by decide +kernel, by decide +kernel, by decide +kernel⟩, ev_in (List.mem_of_getElem? (i := 898) rfl) rfl, ev_in (List.mem_of_getElem? (i := 66) rfl) rfl⟩, ev_in (List.mem_of_getElem? (i := 897) rfl) rfl⟩
abbrev M_X6_markAhead : evM := (RX6, cX6_markAhead, 3, (some FieldType.int))
set_option maxRecDepth 100000 in
theorem mv_X6_markAhead : evMV yX6_markAhead M_X6_markAhead 1 := ⟨⟨⟨by decide +kernel, by decide +kernel, by decide +kernel⟩, ev_in (List.mem_of_getElem? (i := 844) rfl) rfl, ev_in (List.mem_of_getElem? (i := 66) rfl) rfl⟩, ev_in (List.mem_of_getElem? (i := 843) rfl) rfl, ev_in (List.mem_of_getElem? (i := 46) rfl) rfl⟩
abbrev M_X6_markBehind : evM := (RX6, cX6_markBehind, 3, (some FieldType.int))
set_option maxRecDepth 100000 in
theorem mv_X6_markBehind : evMV yX6_markBehind M_X6_markBehind 1 := ⟨⟨⟨by decide +kernel, by decide +kernel, by decide +kernel⟩, ev_in (List.mem_of_getElem? (i := 816) rfl) rfl, ev_in (List.mem_of_getElem? (i := 66) rfl) rfl⟩, ev_in (List.mem_of_getElem? (i := 815) rfl) rfl, ev_in (List.mem_of_getElem? (i := 39) rfl) rfl⟩
abbrev M_X6_marksAll : evM := (RX6, cX6_marksAll, 3, none)
set_option maxRecDepth 100000 in
theorem mv_X6_marksAll : evMV yX6_marksAll M_X6_marksAll 0 := ⟨⟨⟨by decide +kernel, by decide +kernel, by decide +kernel⟩, ev_in (List.mem_of_getElem? (i := 812) rfl) rfl, ev_in (List.mem_of_getElem? (i := 66) rfl) rfl⟩, ev_in (List.mem_of_getElem? (i := 811) rfl) rfl, ev_in (List.mem_of_getElem? (i := 38) rfl) rfl⟩
abbrev M_X6_marksOne : evM := (RX6, cX6_marksOne, 7, (some FieldType.boolean))
set_option maxRecDepth 100000 in
theorem mv_X6_marksOne : evMV yX6_marksOne M_X6_marksOne 2 := ⟨⟨⟨by decide +kernel, by decide +kernel, by decide +kernel⟩, ev_in (List.mem_of_getElem? (i := 820) rfl) rfl, ev_in (List.mem_of_getElem? (i := 66) rfl) rfl⟩, ev_in (List.mem_of_getElem? (i := 819) rfl) rfl, ev_in (List.mem_of_getElem? (i := 40) rfl) rfl⟩
abbrev M_X6_mile : evM := (RX6, cX6_mile, 3, (some FieldType.int))
set_option maxRecDepth 100000 in
theorem mv_X6_mile : evMV yX6_mile M_X6_mile 2 := ⟨⟨⟨by decide +kernel, by decide +kernel, by decide +kernel⟩, ev_in (List.mem_of_getElem? (i := 930) rfl) rfl, ev_in (List.mem_of_getElem? (i := 66) rfl) rfl⟩, ev_in (List.mem_of_getElem? (i := 928) rfl) rfl, ev_in (List.mem_of_getElem? (i := 929) rfl) rfl⟩
abbrev M_X6_mileAt : evM := (RX6, cX6_mileAt, 9, (some FieldType.int))
set_option maxRecDepth 100000 in
theorem mv_X6_mileAt : evMV yX6_mileAt M_X6_mileAt 1 := ⟨⟨⟨by decide +kernel, by decide +kernel, by decide +kernel⟩, ev_in (List.mem_of_getElem? (i := 938) rfl) rfl, ev_in (List.mem_of_getElem? (i := 66) rfl) rfl⟩, ev_in (List.mem_of_getElem? (i := 937) rfl) rfl, ev_in (List.mem_of_getElem? (i := 53) rfl) rfl⟩
abbrev M_X6_mileOf : evM := (RX6, cX6_mileOf, 3, (some FieldType.int))
set_option maxRecDepth 100000 in
theorem mv_X6_mileOf : evMV yX6_mileOf M_X6_mileOf 2 := ⟨⟨⟨by decide +kernel, by decide +kernel, by decide +kernel⟩, ev_in (List.mem_of_getElem? (i := 934) rfl) rfl, ev_in (List.mem_of_getElem? (i := 66) rfl) rfl⟩, ev_in (List.mem_of_getElem? (i := 933) rfl) rfl, ev_in (List.mem_of_getElem? (i := 52) rfl) rfl⟩
abbrev M_X6_milesAt : evM := (RX6, cX6_milesAt, 3, (some FieldType.long))
set_option maxRecDepth 100000 in
theorem mv_X6_milesAt : evMV yX6_milesAt M_X6_milesAt 1 := ⟨⟨⟨by decide +kernel, by decide +kernel, by decide +kernel⟩, ev_in (List.mem_of_getElem? (i := 840) rfl) rfl, ev_in (List.mem_of_getElem? (i := 66) rfl) rfl⟩, ev_in (List.mem_of_getElem? (i := 839) rfl) rfl, ev_in (List.mem_of_getElem? (i := 45) rfl) rfl⟩
abbrev M_X6_missedTimes : evM := (RX6, cX6_missedTimes, 12, (some FieldType.long))
set_option maxRecDepth 100000 in
theorem mv_X6_missedTimes : evMV yX6_missedTimes M_X6_missedTimes 3 := ⟨⟨⟨by decide +kernel, by decide +kernel, by decide +kernel⟩, ev_in (List.mem_of_getElem? (i := 824) rfl) rfl, ev_in (List.mem_of_getElem? (i := 66) rfl) rfl⟩, ev_in (List.mem_of_getElem? (i := 823) rfl) rfl, ev_in (List.mem_of_getElem? (i := 41) rfl) rfl⟩
abbrev M_X6_moves : evM := (RX6, cX6_moves, 6, (some FieldType.int))
set_option maxRecDepth 100000 in
theorem mv_X6_moves : evMV yX6_moves M_X6_moves 4 := ⟨⟨⟨by decide +kernel, by decide +kernel, by decide +kernel⟩, ev_in (List.mem_of_getElem? (i := 862) rfl) rfl, ev_in (List.mem_of_getElem? (i := 66) rfl) rfl⟩, ev_in (List.mem_of_getElem? (i := 860) rfl) rfl, ev_in (List.mem_of_getElem? (i := 861) rfl) rfl⟩
abbrev M_X6_needs : evM := (RX6, cX6_needs, 2, (some FieldType.int))
set_option maxRecDepth 100000 in
theorem mv_X6_needs : evMV yX6_needs M_X6_needs 1 := ⟨⟨⟨by decide +kernel, by decide +kernel, by decide +kernel⟩, ev_in (List.mem_of_getElem? (i := 922) rfl) rfl, ev_in (List.mem_of_getElem? (i := 66) rfl) rfl⟩, ev_in (List.mem_of_getElem? (i := 920) rfl) rfl, ev_in (List.mem_of_getElem? (i := 921) rfl) rfl⟩
abbrev M_X6_of : evM := (RX6, cX6_of, 3, (some FieldType.int))
set_option maxRecDepth 100000 in
theorem mv_X6_of : evMV yX6_of M_X6_of 2 := ⟨⟨⟨by decide +kernel, by decide +kernel, by decide +kernel⟩, ev_in (List.mem_of_getElem? (i := 804) rfl) rfl, ev_in (List.mem_of_getElem? (i := 66) rfl) rfl⟩, ev_in (List.mem_of_getElem? (i := 803) rfl) rfl, ev_in (List.mem_of_getElem? (i := 36) rfl) rfl⟩
abbrev M_X6_ofLeg : evM := (RX6, cX6_ofLeg, 4, (some FieldType.int))
set_option maxRecDepth 100000 in
theorem mv_X6_ofLeg : evMV yX6_ofLeg M_X6_ofLeg 3 := ⟨⟨⟨by decide +kernel, by decide +kernel, by decide +kernel⟩, ev_in (List.mem_of_getElem? (i := 808) rfl) rfl, ev_in (List.mem_of_getElem? (i := 66) rfl) rfl⟩, ev_in (List.mem_of_getElem? (i := 807) rfl) rfl, ev_in (List.mem_of_getElem? (i := 37) rfl) rfl⟩
abbrev M_X6_plan : evM := (RX6, cX6_plan, 3, (some FieldType.int))
set_option maxRecDepth 100000 in
theorem mv_X6_plan : evMV yX6_plan M_X6_plan 2 := ⟨⟨⟨by decide +kernel, by decide +kernel, by decide +kernel⟩, ev_in (List.mem_of_getElem? (i := 882) rfl) rfl, ev_in (List.mem_of_getElem? (i := 66) rfl) rfl⟩, ev_in (List.mem_of_getElem? (i := 880) rfl) rfl, ev_in (List.mem_of_getElem? (i := 881) rfl) rfl⟩
abbrev M_X6_plans : evM := (RX6, cX6_plans, 2, (some FieldType.boolean))
set_option maxRecDepth 100000 in
theorem mv_X6_plans : evMV yX6_plans M_X6_plans 1 := ⟨⟨⟨by decide +kernel, by decide +kernel, by decide +kernel⟩, ev_in (List.mem_of_getElem? (i := 796) rfl) rfl, ev_in (List.mem_of_getElem? (i := 66) rfl) rfl⟩, ev_in (List.mem_of_getElem? (i := 795) rfl) rfl, ev_in (List.mem_of_getElem? (i := 34) rfl) rfl⟩
abbrev M_X6_reads : evM := (RX6, cX6_reads, 4, (some FieldType.int))
set_option maxRecDepth 100000 in
theorem mv_X6_reads : evMV yX6_reads M_X6_reads 0 := ⟨⟨⟨by decide +kernel, by decide +kernel, by decide +kernel⟩, ev_in (List.mem_of_getElem? (i := 753) rfl) rfl, ev_in (List.mem_of_getElem? (i := 66) rfl) rfl⟩, ev_in (List.mem_of_getElem? (i := 752) rfl) rfl, ev_in (List.mem_of_getElem? (i := 25) rfl) rfl⟩
abbrev M_X6_remembers : evM := (RX6, cX6_remembers, 2, none)
set_option maxRecDepth 100000 in
theorem mv_X6_remembers : evMV yX6_remembers M_X6_remembers 0 := ⟨⟨⟨by decide +kernel, by decide +kernel, by decide +kernel⟩, ev_in (List.mem_of_getElem? (i := 788) rfl) rfl, ev_in (List.mem_of_getElem? (i := 66) rfl) rfl⟩, ev_in (List.mem_of_getElem? (i := 787) rfl) rfl, ev_in (List.mem_of_getElem? (i := 33) rfl) rfl⟩
abbrev M_X6_sails : evM := (RX6, cX6_sails, 9, (some FieldType.int))
set_option maxRecDepth 100000 in
theorem mv_X6_sails : evMV yX6_sails M_X6_sails 1 := ⟨⟨⟨by decide +kernel, by decide +kernel, by decide +kernel⟩, ev_in (List.mem_of_getElem? (i := 792) rfl) rfl, ev_in (List.mem_of_getElem? (i := 66) rfl) rfl⟩, ev_in (List.mem_of_getElem? (i := 790) rfl) rfl, ev_in (List.mem_of_getElem? (i := 791) rfl) rfl⟩
abbrev M_X6_sees : evM := (RX6, cX6_sees, 3, (some FieldType.int))
set_option maxRecDepth 100000 in
theorem mv_X6_sees : evMV yX6_sees M_X6_sees 2 := ⟨⟨⟨by decide +kernel, by decide +kernel, by decide +kernel⟩, ev_in (List.mem_of_getElem? (i := 942) rfl) rfl, ev_in (List.mem_of_getElem? (i := 66) rfl) rfl⟩, ev_in (List.mem_of_getElem? (i := 940) rfl) rfl, ev_in (List.mem_of_getElem? (i := 941) rfl) rfl⟩
abbrev M_X6_ship : evM := (RX6, cX6_ship, 3, (some FieldType.int))
set_option maxRecDepth 100000 in
theorem mv_X6_ship : evMV yX6_ship M_X6_ship 2 := ⟨⟨⟨by decide +kernel, by decide +kernel, by decide +kernel⟩, ev_in (List.mem_of_getElem? (i := 874) rfl) rfl, ev_in (List.mem_of_getElem? (i := 66) rfl) rfl⟩, ev_in (List.mem_of_getElem? (i := 872) rfl) rfl, ev_in (List.mem_of_getElem? (i := 873) rfl) rfl⟩
abbrev M_X6_slack : evM := (RX6, cX6_slack, 3, (some FieldType.int))
set_option maxRecDepth 100000 in
theorem mv_X6_slack : evMV yX6_slack M_X6_slack 1 := ⟨⟨⟨by decide +kernel, by decide +kernel, by decide +kernel⟩, ev_in (List.mem_of_getElem? (i := 918) rfl) rfl, ev_in (List.mem_of_getElem? (i := 66) rfl) rfl⟩, ev_in (List.mem_of_getElem? (i := 916) rfl) rfl, ev_in (List.mem_of_getElem? (i := 917) rfl) rfl⟩
abbrev M_X6_speed : evM := (RX6, cX6_speed, 6, (some FieldType.int))
set_option maxRecDepth 100000 in
theorem mv_X6_speed : evMV yX6_speed M_X6_speed 3 := ⟨⟨⟨by decide +kernel, by decide +kernel, by decide +kernel⟩, ev_in (List.mem_of_getElem? (i := 906) rfl) rfl, ev_in (List.mem_of_getElem? (i := 66) rfl) rfl⟩, ev_in (List.mem_of_getElem? (i := 904) rfl) rfl, ev_in (List.mem_of_getElem? (i := 905) rfl) rfl⟩
abbrev M_X6_stretches : evM := (RX6, cX6_stretches, 3, (some FieldType.int))
set_option maxRecDepth 100000 in
theorem mv_X6_stretches : evMV yX6_stretches M_X6_stretches 0 := ⟨⟨⟨by decide +kernel, by decide +kernel, by decide +kernel⟩, ev_in (List.mem_of_getElem? (i := 886) rfl) rfl, ev_in (List.mem_of_getElem? (i := 66) rfl) rfl⟩, ev_in (List.mem_of_getElem? (i := 885) rfl) rfl, ev_in (List.mem_of_getElem? (i := 50) rfl) rfl⟩
abbrev M_X6_takesFastest : evM := (RX6, cX6_takesFastest, 1, (some FieldType.boolean))
set_option maxRecDepth 100000 in
theorem mv_X6_takesFastest : evMV yX6_takesFastest M_X6_takesFastest 0 := ⟨⟨⟨by decide +kernel, by decide +kernel, by decide +kernel⟩, ev_in (List.mem_of_getElem? (i := 780) rfl) rfl, ev_in (List.mem_of_getElem? (i := 66) rfl) rfl⟩, ev_in (List.mem_of_getElem? (i := 779) rfl) rfl, ev_in (List.mem_of_getElem? (i := 31) rfl) rfl⟩
abbrev M_X6_takesLeg : evM := (RX6, cX6_takesLeg, 4, (some FieldType.boolean))
set_option maxRecDepth 100000 in
theorem mv_X6_takesLeg : evMV yX6_takesLeg M_X6_takesLeg 0 := ⟨⟨⟨by decide +kernel, by decide +kernel, by decide +kernel⟩, ev_in (List.mem_of_getElem? (i := 761) rfl) rfl, ev_in (List.mem_of_getElem? (i := 66) rfl) rfl⟩, ev_in (List.mem_of_getElem? (i := 760) rfl) rfl, ev_in (List.mem_of_getElem? (i := 27) rfl) rfl⟩
abbrev M_X6_takesNumber : evM := (RX6, cX6_takesNumber, 4, (some FieldType.boolean))
set_option maxRecDepth 100000 in
theorem mv_X6_takesNumber : evMV yX6_takesNumber M_X6_takesNumber 2 := ⟨⟨⟨by decide +kernel, by decide +kernel, by decide +kernel⟩, ev_in (List.mem_of_getElem? (i := 768) rfl) rfl, ev_in (List.mem_of_getElem? (i := 66) rfl) rfl⟩, ev_in (List.mem_of_getElem? (i := 767) rfl) rfl, ev_in (List.mem_of_getElem? (i := 28) rfl) rfl⟩
abbrev M_X6_takesStop : evM := (RX6, cX6_takesStop, 2, (some FieldType.boolean))
set_option maxRecDepth 100000 in
theorem mv_X6_takesStop : evMV yX6_takesStop M_X6_takesStop 0 := ⟨⟨⟨by decide +kernel, by decide +kernel, by decide +kernel⟩, ev_in (List.mem_of_getElem? (i := 776) rfl) rfl, ev_in (List.mem_of_getElem? (i := 66) rfl) rfl⟩, ev_in (List.mem_of_getElem? (i := 775) rfl) rfl, ev_in (List.mem_of_getElem? (i := 30) rfl) rfl⟩
abbrev M_X6_takesTable : evM := (RX6, cX6_takesTable, 4, (some FieldType.boolean))
set_option maxRecDepth 100000 in
theorem mv_X6_takesTable : evMV yX6_takesTable M_X6_takesTable 0 := ⟨⟨⟨by decide +kernel, by decide +kernel, by decide +kernel⟩, ev_in (List.mem_of_getElem? (i := 784) rfl) rfl, ev_in (List.mem_of_getElem? (i := 66) rfl) rfl⟩, ev_in (List.mem_of_getElem? (i := 783) rfl) rfl, ev_in (List.mem_of_getElem? (i := 32) rfl) rfl⟩
abbrev M_X6_tells : evM := (RX6, cX6_tells, 4, (some FieldType.int))
set_option maxRecDepth 100000 in
theorem mv_X6_tells : evMV yX6_tells M_X6_tells 1 := ⟨⟨⟨by decide +kernel, by decide +kernel, by decide +kernel⟩, ev_in (List.mem_of_getElem? (i := 746) rfl) rfl, ev_in (List.mem_of_getElem? (i := 66) rfl) rfl⟩, ev_in (List.mem_of_getElem? (i := 744) rfl) rfl, ev_in (List.mem_of_getElem? (i := 745) rfl) rfl⟩
abbrev M_X6_time : evM := (RX6, cX6_time, 4, (some FieldType.int))
set_option maxRecDepth 100000 in
theorem mv_X6_time : evMV yX6_time M_X6_time 3 := ⟨⟨⟨by decide +kernel, by decide +kernel, by decide +kernel⟩, ev_in (List.mem_of_getElem? (i := 894) rfl) rfl, ev_in (List.mem_of_getElem? (i := 66) rfl) rfl⟩, ev_in (List.mem_of_getElem? (i := 892) rfl) rfl, ev_in (List.mem_of_getElem? (i := 893) rfl) rfl⟩
abbrev M_X6_timeTimes : evM := (RX6, cX6_timeTimes, 4, (some FieldType.long))
set_option maxRecDepth 100000 in
theorem mv_X6_timeTimes : evMV yX6_timeTimes M_X6_timeTimes 1 := ⟨⟨⟨by decide +kernel, by decide +kernel, by decide +kernel⟩, ev_in (List.mem_of_getElem? (i := 848) rfl) rfl, ev_in (List.mem_of_getElem? (i := 66) rfl) rfl⟩, ev_in (List.mem_of_getElem? (i := 847) rfl) rfl, ev_in (List.mem_of_getElem? (i := 47) rfl) rfl⟩
abbrev M_X6_type : evM := (RX6, cX6_type, 2, (some FieldType.int))
set_option maxRecDepth 100000 in
theorem mv_X6_type : evMV yX6_type M_X6_type 1 := ⟨⟨⟨by decide +kernel, by decide +kernel, by decide +kernel⟩, ev_in (List.mem_of_getElem? (i := 735) rfl) rfl, ev_in (List.mem_of_getElem? (i := 66) rfl) rfl⟩, ev_in (List.mem_of_getElem? (i := 733) rfl) rfl, ev_in (List.mem_of_getElem? (i := 734) rfl) rfl⟩
abbrev M_X6_undo : evM := (RX6, cX6_undo, 2, (some FieldType.int))
set_option maxRecDepth 100000 in
theorem mv_X6_undo : evMV yX6_undo M_X6_undo 0 := ⟨⟨⟨by decide +kernel, by decide +kernel, by decide +kernel⟩, ev_in (List.mem_of_getElem? (i := 731) rfl) rfl, ev_in (List.mem_of_getElem? (i := 66) rfl) rfl⟩, ev_in (List.mem_of_getElem? (i := 729) rfl) rfl, ev_in (List.mem_of_getElem? (i := 730) rfl) rfl⟩
abbrev M_X6_which : evM := (RX6, cX6_which, 1, (some FieldType.int))
set_option maxRecDepth 100000 in
theorem mv_X6_which : evMV yX6_which M_X6_which 0 := ⟨⟨⟨by decide +kernel, by decide +kernel, by decide +kernel⟩, ev_in (List.mem_of_getElem? (i := 950) rfl) rfl, ev_in (List.mem_of_getElem? (i := 66) rfl) rfl⟩, ev_in (List.mem_of_getElem? (i := 948) rfl) rfl, ev_in (List.mem_of_getElem? (i := 949) rfl) rfl⟩
abbrev M_X6_whichNow : evM := (RX6, cX6_whichNow, 5, (some FieldType.int))
set_option maxRecDepth 100000 in
theorem mv_X6_whichNow : evMV yX6_whichNow M_X6_whichNow 0 := ⟨⟨⟨by decide +kernel, by decide +kernel, by decide +kernel⟩, ev_in (List.mem_of_getElem? (i := 954) rfl) rfl, ev_in (List.mem_of_getElem? (i := 66) rfl) rfl⟩, ev_in (List.mem_of_getElem? (i := 953) rfl) rfl, ev_in (List.mem_of_getElem? (i := 54) rfl) rfl⟩
set_option maxRecDepth 100000 in
theorem fl_X5_10 : evFL RX5 10 0 0 := ev_in (List.mem_of_getElem? (i := 218) rfl) rfl
set_option maxRecDepth 100000 in
theorem fl_X5_19 : evFL RX5 19 0 1 := ev_in (List.mem_of_getElem? (i := 219) rfl) rfl
set_option maxRecDepth 100000 in
theorem fl_X5_23 : evFL RX5 23 0 2 := ev_in (List.mem_of_getElem? (i := 220) rfl) rfl
set_option maxRecDepth 100000 in
theorem fl_X5_27 : evFL RX5 27 0 3 := ev_in (List.mem_of_getElem? (i := 221) rfl) rfl
set_option maxRecDepth 100000 in
theorem fl_X5_34 : evFL RX5 34 0 4 := ev_in (List.mem_of_getElem? (i := 222) rfl) rfl
set_option maxRecDepth 100000 in
theorem fl_X5_41 : evFL RX5 41 0 5 := ev_in (List.mem_of_getElem? (i := 223) rfl) rfl
set_option maxRecDepth 100000 in
theorem fl_X5_48 : evFL RX5 48 0 6 := ev_in (List.mem_of_getElem? (i := 224) rfl) rfl
set_option maxRecDepth 100000 in
theorem fl_X5_52 : evFL RX5 52 0 7 := ev_in (List.mem_of_getElem? (i := 225) rfl) rfl
set_option maxRecDepth 100000 in
theorem fl_X5_56 : evFL RX5 56 0 8 := ev_in (List.mem_of_getElem? (i := 226) rfl) rfl
set_option maxRecDepth 100000 in
theorem fl_X5_60 : evFL RX5 60 0 9 := ev_in (List.mem_of_getElem? (i := 227) rfl) rfl
set_option maxRecDepth 100000 in
theorem fl_X5_63 : evFL RX5 63 0 10 := ev_in (List.mem_of_getElem? (i := 228) rfl) rfl
set_option maxRecDepth 100000 in
theorem fl_X5_67 : evFL RX5 67 0 11 := ev_in (List.mem_of_getElem? (i := 229) rfl) rfl
set_option maxRecDepth 100000 in
theorem fl_X0_11 : evFL RX0 11 1 0 := ev_in (List.mem_of_getElem? (i := 110) rfl) rfl
set_option maxRecDepth 100000 in
theorem fl_X1_11 : evFL RX1 11 16 0 := ev_in (List.mem_of_getElem? (i := 124) rfl) rfl
set_option maxRecDepth 100000 in
theorem fl_X1_15 : evFL RX1 15 16 1 := ev_in (List.mem_of_getElem? (i := 125) rfl) rfl
set_option maxRecDepth 100000 in
theorem fl_X1_19 : evFL RX1 19 16 2 := ev_in (List.mem_of_getElem? (i := 126) rfl) rfl
set_option maxRecDepth 100000 in
theorem fl_X2_11 : evFL RX2 11 6 0 := ev_in (List.mem_of_getElem? (i := 174) rfl) rfl
set_option maxRecDepth 100000 in
theorem fl_X2_17 : evFL RX2 17 6 1 := ev_in (List.mem_of_getElem? (i := 175) rfl) rfl
set_option maxRecDepth 100000 in
theorem fl_X2_20 : evFL RX2 20 6 2 := ev_in (List.mem_of_getElem? (i := 176) rfl) rfl
set_option maxRecDepth 100000 in
theorem fl_X2_24 : evFL RX2 24 6 3 := ev_in (List.mem_of_getElem? (i := 177) rfl) rfl
set_option maxRecDepth 100000 in
theorem fl_X2_27 : evFL RX2 27 6 4 := ev_in (List.mem_of_getElem? (i := 178) rfl) rfl
set_option maxRecDepth 100000 in
theorem fl_X2_30 : evFL RX2 30 6 5 := ev_in (List.mem_of_getElem? (i := 179) rfl) rfl
set_option maxRecDepth 100000 in
theorem fl_X2_33 : evFL RX2 33 6 6 := ev_in (List.mem_of_getElem? (i := 180) rfl) rfl
set_option maxRecDepth 100000 in
theorem fl_X2_36 : evFL RX2 36 6 7 := ev_in (List.mem_of_getElem? (i := 181) rfl) rfl
set_option maxRecDepth 100000 in
theorem fl_X2_39 : evFL RX2 39 6 8 := ev_in (List.mem_of_getElem? (i := 182) rfl) rfl
set_option maxRecDepth 100000 in
theorem fl_X2_42 : evFL RX2 42 6 9 := ev_in (List.mem_of_getElem? (i := 183) rfl) rfl
set_option maxRecDepth 100000 in
theorem fl_X2_45 : evFL RX2 45 6 10 := ev_in (List.mem_of_getElem? (i := 184) rfl) rfl
set_option maxRecDepth 100000 in
theorem fl_X2_48 : evFL RX2 48 6 11 := ev_in (List.mem_of_getElem? (i := 185) rfl) rfl
set_option maxRecDepth 100000 in
theorem fl_X2_51 : evFL RX2 51 6 12 := ev_in (List.mem_of_getElem? (i := 186) rfl) rfl
set_option maxRecDepth 100000 in
theorem fl_X2_54 : evFL RX2 54 6 13 := ev_in (List.mem_of_getElem? (i := 187) rfl) rfl
set_option maxRecDepth 100000 in
theorem fl_X3_9 : evFL RX3 9 3 0 := ev_in (List.mem_of_getElem? (i := 102) rfl) rfl
set_option maxRecDepth 100000 in
theorem fl_X3_13 : evFL RX3 13 3 1 := ev_in (List.mem_of_getElem? (i := 103) rfl) rfl
set_option maxRecDepth 100000 in
theorem fs_X3_19 : Cond.fieldLink RX3 19 RX3 "AT_FIRST" "[I" ∈ evtb := ev_in (List.mem_of_getElem? (i := 94) rfl) rfl
set_option maxRecDepth 100000 in
theorem fl_X4_9 : evFL RX4 9 18 0 := ev_in (List.mem_of_getElem? (i := 140) rfl) rfl
set_option maxRecDepth 100000 in
theorem fl_X4_13 : evFL RX4 13 18 1 := ev_in (List.mem_of_getElem? (i := 141) rfl) rfl
set_option maxRecDepth 100000 in
theorem fl_X4_17 : evFL RX4 17 18 2 := ev_in (List.mem_of_getElem? (i := 142) rfl) rfl
set_option maxRecDepth 100000 in
theorem fl_X4_20 : evFL RX4 20 18 3 := ev_in (List.mem_of_getElem? (i := 143) rfl) rfl
set_option maxRecDepth 100000 in
theorem fl_X4_23 : evFL RX4 23 18 4 := ev_in (List.mem_of_getElem? (i := 144) rfl) rfl
set_option maxRecDepth 100000 in
theorem fl_X4_26 : evFL RX4 26 18 5 := ev_in (List.mem_of_getElem? (i := 145) rfl) rfl
set_option maxRecDepth 100000 in
theorem fl_X4_29 : evFL RX4 29 18 6 := ev_in (List.mem_of_getElem? (i := 146) rfl) rfl
set_option maxRecDepth 100000 in
theorem fl_X4_33 : evFL RX4 33 18 7 := ev_in (List.mem_of_getElem? (i := 147) rfl) rfl
set_option maxRecDepth 100000 in
theorem fs_X4_79 : Cond.fieldLink RX4 79 RX4 "LEAST_OF_LEG" "[I" ∈ evtb := ev_in (List.mem_of_getElem? (i := 325) rfl) rfl
set_option maxRecDepth 100000 in
theorem fs_X4_82 : Cond.fieldLink RX4 82 RX4 "MOST_OF_LEG" "[I" ∈ evtb := ev_in (List.mem_of_getElem? (i := 331) rfl) rfl
set_option maxRecDepth 100000 in
theorem fl_X6_7 : evFL RX6 7 30 0 := ev_in (List.mem_of_getElem? (i := 651) rfl) rfl
set_option maxRecDepth 100000 in
theorem fl_X6_13 : evFL RX6 13 30 1 := ev_in (List.mem_of_getElem? (i := 652) rfl) rfl
set_option maxRecDepth 100000 in
theorem fl_X6_16 : evFL RX6 16 30 3 := ev_in (List.mem_of_getElem? (i := 654) rfl) rfl
set_option maxRecDepth 100000 in
theorem fl_X6_19 : evFL RX6 19 30 4 := ev_in (List.mem_of_getElem? (i := 655) rfl) rfl
set_option maxRecDepth 100000 in
theorem fl_X6_23 : evFL RX6 23 30 5 := ev_in (List.mem_of_getElem? (i := 656) rfl) rfl
set_option maxRecDepth 100000 in
theorem fl_X6_26 : evFL RX6 26 30 7 := ev_in (List.mem_of_getElem? (i := 658) rfl) rfl
set_option maxRecDepth 100000 in
theorem fl_X6_29 : evFL RX6 29 30 9 := ev_in (List.mem_of_getElem? (i := 660) rfl) rfl
set_option maxRecDepth 100000 in
theorem fl_X6_32 : evFL RX6 32 30 18 := ev_in (List.mem_of_getElem? (i := 669) rfl) rfl
set_option maxRecDepth 100000 in
theorem fl_X6_35 : evFL RX6 35 30 19 := ev_in (List.mem_of_getElem? (i := 670) rfl) rfl
set_option maxRecDepth 100000 in
theorem fl_X6_38 : evFL RX6 38 30 20 := ev_in (List.mem_of_getElem? (i := 671) rfl) rfl
set_option maxRecDepth 100000 in
theorem fl_X6_41 : evFL RX6 41 30 21 := ev_in (List.mem_of_getElem? (i := 672) rfl) rfl
set_option maxRecDepth 100000 in
theorem fl_X6_44 : evFL RX6 44 30 22 := ev_in (List.mem_of_getElem? (i := 673) rfl) rfl
set_option maxRecDepth 100000 in
theorem fl_X6_47 : evFL RX6 47 30 23 := ev_in (List.mem_of_getElem? (i := 674) rfl) rfl
set_option maxRecDepth 100000 in
theorem fl_X6_51 : evFL RX6 51 30 24 := ev_in (List.mem_of_getElem? (i := 675) rfl) rfl
set_option maxRecDepth 100000 in
theorem fl_X6_58 : evFL RX6 58 30 2 := ev_in (List.mem_of_getElem? (i := 653) rfl) rfl
set_option maxRecDepth 100000 in
theorem fl_X6_73 : evFL RX6 73 30 6 := ev_in (List.mem_of_getElem? (i := 657) rfl) rfl
set_option maxRecDepth 100000 in
theorem fl_X6_76 : evFL RX6 76 30 10 := ev_in (List.mem_of_getElem? (i := 661) rfl) rfl
set_option maxRecDepth 100000 in
theorem fl_X6_79 : evFL RX6 79 30 11 := ev_in (List.mem_of_getElem? (i := 662) rfl) rfl
set_option maxRecDepth 100000 in
theorem fl_X6_85 : evFL RX6 85 30 12 := ev_in (List.mem_of_getElem? (i := 663) rfl) rfl
set_option maxRecDepth 100000 in
theorem fl_X6_99 : evFL RX6 99 30 13 := ev_in (List.mem_of_getElem? (i := 664) rfl) rfl
set_option maxRecDepth 100000 in
theorem fl_X6_103 : evFL RX6 103 30 14 := ev_in (List.mem_of_getElem? (i := 665) rfl) rfl
set_option maxRecDepth 100000 in
theorem fl_X6_126 : evFL RX6 126 30 15 := ev_in (List.mem_of_getElem? (i := 666) rfl) rfl
set_option maxRecDepth 100000 in
theorem fl_X6_129 : evFL RX6 129 30 16 := ev_in (List.mem_of_getElem? (i := 667) rfl) rfl
set_option maxRecDepth 100000 in
theorem fl_X6_132 : evFL RX6 132 30 17 := ev_in (List.mem_of_getElem? (i := 668) rfl) rfl
set_option maxRecDepth 100000 in
theorem fl_X6_211 : evFL RX6 211 30 8 := ev_in (List.mem_of_getElem? (i := 659) rfl) rfl
set_option maxRecDepth 100000 in
theorem ml_X5_9 : evML RX5 9 yX0_init := ev_in (List.mem_of_getElem? (i := 79) rfl) rfl
set_option maxRecDepth 100000 in
theorem ml_X5_18 : evML RX5 18 yX1_init := ev_in (List.mem_of_getElem? (i := 117) rfl) rfl
set_option maxRecDepth 100000 in
theorem ml_X5_40 : evML RX5 40 yX3_init := ev_in (List.mem_of_getElem? (i := 167) rfl) rfl
set_option maxRecDepth 100000 in
theorem ml_X5_70 : evML RX5 70 yX4_takesLetter := ev_in (List.mem_of_getElem? (i := 259) rfl) rfl
set_option maxRecDepth 100000 in
theorem ml_X5_74 : evML RX5 74 yX4_length := ev_in (List.mem_of_getElem? (i := 263) rfl) rfl
set_option maxRecDepth 100000 in
theorem ml_X5_78 : evML RX5 78 yX4_becomeEmpty := ev_in (List.mem_of_getElem? (i := 271) rfl) rfl
set_option maxRecDepth 100000 in
theorem ml_X5_81 : evML RX5 81 yX5_isNoShip := ev_in (List.mem_of_getElem? (i := 279) rfl) rfl
set_option maxRecDepth 100000 in
theorem ml_X5_84 : evML RX5 84 yX4_tellShip := ev_in (List.mem_of_getElem? (i := 282) rfl) rfl
set_option maxRecDepth 100000 in
theorem ml_X5_88 : evML RX5 88 yX1_remember := ev_in (List.mem_of_getElem? (i := 348) rfl) rfl
set_option maxRecDepth 100000 in
theorem ml_X5_96 : evML RX5 96 yX3_becomeLike := ev_in (List.mem_of_getElem? (i := 361) rfl) rfl
set_option maxRecDepth 100000 in
theorem ml_X5_100 : evML RX5 100 yX5_drawnPlan := ev_in (List.mem_of_getElem? (i := 366) rfl) rfl
set_option maxRecDepth 100000 in
theorem ml_X5_104 : evML RX5 104 yX2_stands := ev_in (List.mem_of_getElem? (i := 414) rfl) rfl
set_option maxRecDepth 100000 in
theorem ml_X5_108 : evML RX5 108 yX3_trait := ev_in (List.mem_of_getElem? (i := 418) rfl) rfl
set_option maxRecDepth 100000 in
theorem ml_X5_112 : evML RX5 112 yX2_hourRoundedUp := ev_in (List.mem_of_getElem? (i := 419) rfl) rfl
set_option maxRecDepth 100000 in
theorem ml_X5_115 : evML RX5 115 yX3_ofLeg := ev_in (List.mem_of_getElem? (i := 442) rfl) rfl
set_option maxRecDepth 100000 in
theorem ml_X5_119 : evML RX5 119 yX2_burntOnLeg := ev_in (List.mem_of_getElem? (i := 443) rfl) rfl
set_option maxRecDepth 100000 in
theorem ml_X5_122 : evML RX5 122 yX3_setTrait := ev_in (List.mem_of_getElem? (i := 460) rfl) rfl
set_option maxRecDepth 100000 in
theorem ml_X5_126 : evML RX5 126 yX3_isPortAhead := ev_in (List.mem_of_getElem? (i := 469) rfl) rfl
set_option maxRecDepth 100000 in
theorem ml_X5_129 : evML RX5 129 yX3_setOfLeg := ev_in (List.mem_of_getElem? (i := 473) rfl) rfl
set_option maxRecDepth 100000 in
theorem ml_X5_133 : evML RX5 133 yX1_known := ev_in (List.mem_of_getElem? (i := 482) rfl) rfl
set_option maxRecDepth 100000 in
theorem ml_X5_136 : evML RX5 136 yX1_restore := ev_in (List.mem_of_getElem? (i := 486) rfl) rfl
set_option maxRecDepth 100000 in
theorem ml_X5_139 : evML RX5 139 yX2_stretchCount := ev_in (List.mem_of_getElem? (i := 502) rfl) rfl
set_option maxRecDepth 100000 in
theorem ml_X5_142 : evML RX5 142 yX2_burntInAll := ev_in (List.mem_of_getElem? (i := 506) rfl) rfl
set_option maxRecDepth 100000 in
theorem ml_X5_147 : evML RX5 147 yX2_hourUpper := ev_in (List.mem_of_getElem? (i := 517) rfl) rfl
set_option maxRecDepth 100000 in
theorem ml_X5_150 : evML RX5 150 yX2_hourLower := ev_in (List.mem_of_getElem? (i := 518) rfl) rfl
set_option maxRecDepth 100000 in
theorem ml_X5_153 : evML RX5 153 yX5_partOf := ev_in (List.mem_of_getElem? (i := 519) rfl) rfl
set_option maxRecDepth 100000 in
theorem ml_X5_157 : evML RX5 157 yX3_isLegAhead := ev_in (List.mem_of_getElem? (i := 530) rfl) rfl
set_option maxRecDepth 100000 in
theorem ml_X5_160 : evML RX5 160 yX2_milesAround := ev_in (List.mem_of_getElem? (i := 534) rfl) rfl
set_option maxRecDepth 100000 in
theorem ml_X5_163 : evML RX5 163 yX2_hoursAround := ev_in (List.mem_of_getElem? (i := 535) rfl) rfl
set_option maxRecDepth 100000 in
theorem ml_X5_166 : evML RX5 166 yX2_meetingAt := ev_in (List.mem_of_getElem? (i := 540) rfl) rfl
set_option maxRecDepth 100000 in
theorem ml_X5_169 : evML RX5 169 yX2_draw := ev_in (List.mem_of_getElem? (i := 370) rfl) rfl
set_option maxRecDepth 100000 in
theorem ml_X5_172 : evML RX5 172 yX2_neededSpeed := ev_in (List.mem_of_getElem? (i := 556) rfl) rfl
set_option maxRecDepth 100000 in
theorem ml_X5_175 : evML RX5 175 yX5_drawEased := ev_in (List.mem_of_getElem? (i := 564) rfl) rfl
set_option maxRecDepth 100000 in
theorem ml_X5_179 : evML RX5 179 yX2_mileAt := ev_in (List.mem_of_getElem? (i := 572) rfl) rfl
set_option maxRecDepth 100000 in
theorem ml_X5_182 : evML RX5 182 yX5_drawAllPlans := ev_in (List.mem_of_getElem? (i := 593) rfl) rfl
set_option maxRecDepth 100000 in
theorem ml_X5_185 : evML RX5 185 yX5_suspects := ev_in (List.mem_of_getElem? (i := 597) rfl) rfl
set_option maxRecDepth 100000 in
theorem ml_X5_188 : evML RX5 188 yJ6_bitCount_0f7a4 := ev_in (List.mem_of_getElem? (i := 609) rfl) rfl
set_option maxRecDepth 100000 in
theorem ml_X5_193 : evML RX5 193 yX5_mostAlike := ev_in (List.mem_of_getElem? (i := 615) rfl) rfl
set_option maxRecDepth 100000 in
theorem ml_X5_196 : evML RX5 196 yX0_becomeLike := ev_in (List.mem_of_getElem? (i := 624) rfl) rfl
set_option maxRecDepth 100000 in
theorem ml_X5_198 : evML RX5 198 yX0_legsInAll := ev_in (List.mem_of_getElem? (i := 625) rfl) rfl
set_option maxRecDepth 100000 in
theorem ml_X5_201 : evML RX5 201 yX1_lose := ev_in (List.mem_of_getElem? (i := 634) rfl) rfl
set_option maxRecDepth 100000 in
theorem ml_X5_204 : evML RX5 204 yX5_agrees := ev_in (List.mem_of_getElem? (i := 601) rfl) rfl
set_option maxRecDepth 100000 in
theorem ml_X5_208 : evML RX5 208 yJ9_max_7cf53 := ev_in (List.mem_of_getElem? (i := 619) rfl) rfl
set_option maxRecDepth 100000 in
theorem ml_X5_213 : evML RX5 213 yX5_commonMeasure := ev_in (List.mem_of_getElem? (i := 522) rfl) rfl
set_option maxRecDepth 100000 in
theorem ml_X5_216 : evML RX5 216 yJ9_abs_0f7a4 := ev_in (List.mem_of_getElem? (i := 525) rfl) rfl
set_option maxRecDepth 100000 in
theorem ml_X0_17 : evML RX0 17 yX3_init := ev_in (List.mem_of_getElem? (i := 86) rfl) rfl
set_option maxRecDepth 100000 in
theorem ml_X0_18 : evML RX0 18 yX3_becomeLike := ev_in (List.mem_of_getElem? (i := 356) rfl) rfl
set_option maxRecDepth 100000 in
theorem ml_X0_22 : evML RX0 22 yX3_trait := ev_in (List.mem_of_getElem? (i := 629) rfl) rfl
set_option maxRecDepth 100000 in
theorem ml_X1_22 : evML RX1 22 yX0_init := ev_in (List.mem_of_getElem? (i := 123) rfl) rfl
set_option maxRecDepth 100000 in
theorem ml_X1_23 : evML RX1 23 yX0_becomeLike := ev_in (List.mem_of_getElem? (i := 352) rfl) rfl
set_option maxRecDepth 100000 in
theorem ml_X1_27 : evML RX1 27 yJ9_min_7cf53 := ev_in (List.mem_of_getElem? (i := 360) rfl) rfl
set_option maxRecDepth 100000 in
theorem ml_X2_57 : evML RX2 57 yX3_trait := ev_in (List.mem_of_getElem? (i := 374) rfl) rfl
set_option maxRecDepth 100000 in
theorem ml_X2_61 : evML RX2 61 yJ9_max_7cf53 := ev_in (List.mem_of_getElem? (i := 375) rfl) rfl
set_option maxRecDepth 100000 in
theorem ml_X2_67 : evML RX2 67 yJ9_min_7cf53 := ev_in (List.mem_of_getElem? (i := 378) rfl) rfl
set_option maxRecDepth 100000 in
theorem ml_X2_70 : evML RX2 70 yX2_layPorts := ev_in (List.mem_of_getElem? (i := 379) rfl) rfl
set_option maxRecDepth 100000 in
theorem ml_X2_74 : evML RX2 74 yX2_splitStretches := ev_in (List.mem_of_getElem? (i := 387) rfl) rfl
set_option maxRecDepth 100000 in
theorem ml_X2_77 : evML RX2 77 yX2_measureStretches := ev_in (List.mem_of_getElem? (i := 410) rfl) rfl
set_option maxRecDepth 100000 in
theorem ml_X2_80 : evML RX2 80 yX2_isNoLeg := ev_in (List.mem_of_getElem? (i := 431) rfl) rfl
set_option maxRecDepth 100000 in
theorem ml_X2_84 : evML RX2 84 yX2_evenHour := ev_in (List.mem_of_getElem? (i := 403) rfl) rfl
set_option maxRecDepth 100000 in
theorem ml_X2_88 : evML RX2 88 yX2_milesAround := ev_in (List.mem_of_getElem? (i := 427) rfl) rfl
set_option maxRecDepth 100000 in
theorem ml_X2_91 : evML RX2 91 yX2_hourLower := ev_in (List.mem_of_getElem? (i := 423) rfl) rfl
set_option maxRecDepth 100000 in
theorem ml_X2_94 : evML RX2 94 yX2_hourUpper := ev_in (List.mem_of_getElem? (i := 435) rfl) rfl
set_option maxRecDepth 100000 in
theorem ml_X2_97 : evML RX2 97 yJ9_floorDiv_7cf53 := ev_in (List.mem_of_getElem? (i := 439) rfl) rfl
set_option maxRecDepth 100000 in
theorem ml_X2_100 : evML RX2 100 yX2_hoursAround := ev_in (List.mem_of_getElem? (i := 447) rfl) rfl
set_option maxRecDepth 100000 in
theorem ml_X2_107 : evML RX2 107 yJ9_min_f86c9 := ev_in (List.mem_of_getElem? (i := 453) rfl) rfl
set_option maxRecDepth 100000 in
theorem ml_X2_110 : evML RX2 110 yX2_milesOfLeg := ev_in (List.mem_of_getElem? (i := 456) rfl) rfl
set_option maxRecDepth 100000 in
theorem ml_X2_113 : evML RX2 113 yX2_burntOnLeg := ev_in (List.mem_of_getElem? (i := 510) rfl) rfl
set_option maxRecDepth 100000 in
theorem ml_X2_116 : evML RX2 116 yX2_stands := ev_in (List.mem_of_getElem? (i := 576) rfl) rfl
set_option maxRecDepth 100000 in
theorem ml_X2_120 : evML RX2 120 yX2_sailedOnLeg := ev_in (List.mem_of_getElem? (i := 577) rfl) rfl
set_option maxRecDepth 100000 in
theorem ml_X2_123 : evML RX2 123 yX3_ofLeg := ev_in (List.mem_of_getElem? (i := 383) rfl) rfl
set_option maxRecDepth 100000 in
theorem ml_X2_126 : evML RX2 126 yX2_nextEnd := ev_in (List.mem_of_getElem? (i := 391) rfl) rfl
set_option maxRecDepth 100000 in
theorem ml_X2_129 : evML RX2 129 yX2_mostMissed := ev_in (List.mem_of_getElem? (i := 395) rfl) rfl
set_option maxRecDepth 100000 in
theorem ml_X2_132 : evML RX2 132 yX2_missAt := ev_in (List.mem_of_getElem? (i := 399) rfl) rfl
set_option maxRecDepth 100000 in
theorem ml_X2_135 : evML RX2 135 yJ9_abs_0f7a4 := ev_in (List.mem_of_getElem? (i := 407) rfl) rfl
set_option maxRecDepth 100000 in
theorem ml_X3_16 : evML RX3 16 yX3_becomeNew := ev_in (List.mem_of_getElem? (i := 90) rfl) rfl
set_option maxRecDepth 100000 in
theorem ac_X3_22 : evAC RX3 22 := ev_in (List.mem_of_getElem? (i := 96) rfl) rfl
set_option maxRecDepth 100000 in
theorem ml_X3_28 : evML RX3 28 yJ7_fill_53178 := ev_in (List.mem_of_getElem? (i := 99) rfl) rfl
set_option maxRecDepth 100000 in
theorem ml_X3_34 : evML RX3 34 yX3_placeOf := ev_in (List.mem_of_getElem? (i := 341) rfl) rfl
set_option maxRecDepth 100000 in
theorem ml_X4_36 : evML RX4 36 yX3_becomeNew := ev_in (List.mem_of_getElem? (i := 286) rfl) rfl
set_option maxRecDepth 100000 in
theorem ml_X4_41 : evML RX4 41 yX4_takesToken := ev_in (List.mem_of_getElem? (i := 287) rfl) rfl
set_option maxRecDepth 100000 in
theorem ml_X4_45 : evML RX4 45 yX4_tokenEnd := ev_in (List.mem_of_getElem? (i := 310) rfl) rfl
set_option maxRecDepth 100000 in
theorem ml_X4_49 : evML RX4 49 yX4_beginsItem := ev_in (List.mem_of_getElem? (i := 291) rfl) rfl
set_option maxRecDepth 100000 in
theorem ml_X4_52 : evML RX4 52 yX4_numbersOfItem := ev_in (List.mem_of_getElem? (i := 299) rfl) rfl
set_option maxRecDepth 100000 in
theorem ml_X4_56 : evML RX4 56 yX4_isFigure := ev_in (List.mem_of_getElem? (i := 303) rfl) rfl
set_option maxRecDepth 100000 in
theorem ml_X4_60 : evML RX4 60 yX4_numberAt := ev_in (List.mem_of_getElem? (i := 306) rfl) rfl
set_option maxRecDepth 100000 in
theorem ml_X4_63 : evML RX4 63 yX4_takesNumber := ev_in (List.mem_of_getElem? (i := 317) rfl) rfl
set_option maxRecDepth 100000 in
theorem ml_X4_66 : evML RX4 66 yX4_endItem := ev_in (List.mem_of_getElem? (i := 333) rfl) rfl
set_option maxRecDepth 100000 in
theorem ml_X4_70 : evML RX4 70 yX3_trait := ev_in (List.mem_of_getElem? (i := 295) rfl) rfl
set_option maxRecDepth 100000 in
theorem ml_X4_73 : evML RX4 73 yX4_least := ev_in (List.mem_of_getElem? (i := 321) rfl) rfl
set_option maxRecDepth 100000 in
theorem ml_X4_76 : evML RX4 76 yX4_greatest := ev_in (List.mem_of_getElem? (i := 327) rfl) rfl
set_option maxRecDepth 100000 in
theorem ml_X4_85 : evML RX4 85 yX3_setOfLeg := ev_in (List.mem_of_getElem? (i := 337) rfl) rfl
set_option maxRecDepth 100000 in
theorem ml_X4_89 : evML RX4 89 yX3_setTrait := ev_in (List.mem_of_getElem? (i := 344) rfl) rfl
set_option maxRecDepth 100000 in
theorem ml_X4_93 : evML RX4 93 yJ9_min_7cf53 := ev_in (List.mem_of_getElem? (i := 314) rfl) rfl
set_option maxRecDepth 100000 in
theorem ml_L_9 : evML RL 9 yX5_init := ev_in (List.mem_of_getElem? (i := 71) rfl) rfl
set_option maxRecDepth 100000 in
theorem ml_L_12 : evML RL 12 yX6_init := ev_in (List.mem_of_getElem? (i := 644) rfl) rfl
set_option maxRecDepth 100000 in
theorem ml_L_13 : evML RL 13 yX5_type := ev_in (List.mem_of_getElem? (i := 255) rfl) rfl
set_option maxRecDepth 100000 in
theorem ml_L_17 : evML RL 17 yX6_type := ev_in (List.mem_of_getElem? (i := 732) rfl) rfl
set_option maxRecDepth 100000 in
theorem ml_L_18 : evML RL 18 yX5_clear := ev_in (List.mem_of_getElem? (i := 267) rfl) rfl
set_option maxRecDepth 100000 in
theorem ml_L_22 : evML RL 22 yX6_clear := ev_in (List.mem_of_getElem? (i := 739) rfl) rfl
set_option maxRecDepth 100000 in
theorem ml_L_23 : evML RL 23 yX5_tells := ev_in (List.mem_of_getElem? (i := 275) rfl) rfl
set_option maxRecDepth 100000 in
theorem ml_L_26 : evML RL 26 yX6_tells := ev_in (List.mem_of_getElem? (i := 743) rfl) rfl
set_option maxRecDepth 100000 in
theorem ml_L_27 : evML RL 27 yX5_sails := ev_in (List.mem_of_getElem? (i := 362) rfl) rfl
set_option maxRecDepth 100000 in
theorem ml_L_30 : evML RL 30 yX6_sails := ev_in (List.mem_of_getElem? (i := 789) rfl) rfl
set_option maxRecDepth 100000 in
theorem ml_L_31 : evML RL 31 yX5_holds := ev_in (List.mem_of_getElem? (i := 461) rfl) rfl
set_option maxRecDepth 100000 in
theorem ml_L_35 : evML RL 35 yX6_holds := ev_in (List.mem_of_getElem? (i := 855) rfl) rfl
set_option maxRecDepth 100000 in
theorem ml_L_36 : evML RL 36 yX5_moves := ev_in (List.mem_of_getElem? (i := 465) rfl) rfl
set_option maxRecDepth 100000 in
theorem ml_L_40 : evML RL 40 yX6_moves := ev_in (List.mem_of_getElem? (i := 859) rfl) rfl
set_option maxRecDepth 100000 in
theorem ml_L_41 : evML RL 41 yX5_fastens := ev_in (List.mem_of_getElem? (i := 474) rfl) rfl
set_option maxRecDepth 100000 in
theorem ml_L_44 : evML RL 44 yX6_fastens := ev_in (List.mem_of_getElem? (i := 867) rfl) rfl
set_option maxRecDepth 100000 in
theorem ml_L_45 : evML RL 45 yX5_undo := ev_in (List.mem_of_getElem? (i := 478) rfl) rfl
set_option maxRecDepth 100000 in
theorem ml_L_48 : evML RL 48 yX6_undo := ev_in (List.mem_of_getElem? (i := 728) rfl) rfl
set_option maxRecDepth 100000 in
theorem ml_L_49 : evML RL 49 yX5_ship := ev_in (List.mem_of_getElem? (i := 490) rfl) rfl
set_option maxRecDepth 100000 in
theorem ml_L_52 : evML RL 52 yX6_ship := ev_in (List.mem_of_getElem? (i := 871) rfl) rfl
set_option maxRecDepth 100000 in
theorem ml_L_53 : evML RL 53 yX5_leg := ev_in (List.mem_of_getElem? (i := 494) rfl) rfl
set_option maxRecDepth 100000 in
theorem ml_L_57 : evML RL 57 yX6_leg := ev_in (List.mem_of_getElem? (i := 875) rfl) rfl
set_option maxRecDepth 100000 in
theorem ml_L_58 : evML RL 58 yX5_plan := ev_in (List.mem_of_getElem? (i := 498) rfl) rfl
set_option maxRecDepth 100000 in
theorem ml_L_61 : evML RL 61 yX6_plan := ev_in (List.mem_of_getElem? (i := 879) rfl) rfl
set_option maxRecDepth 100000 in
theorem ml_L_62 : evML RL 62 yX5_time := ev_in (List.mem_of_getElem? (i := 511) rfl) rfl
set_option maxRecDepth 100000 in
theorem ml_L_65 : evML RL 65 yX6_time := ev_in (List.mem_of_getElem? (i := 891) rfl) rfl
set_option maxRecDepth 100000 in
theorem ml_L_66 : evML RL 66 yX5_speed := ev_in (List.mem_of_getElem? (i := 526) rfl) rfl
set_option maxRecDepth 100000 in
theorem ml_L_69 : evML RL 69 yX6_speed := ev_in (List.mem_of_getElem? (i := 903) rfl) rfl
set_option maxRecDepth 100000 in
theorem ml_L_70 : evML RL 70 yX5_closed := ev_in (List.mem_of_getElem? (i := 536) rfl) rfl
set_option maxRecDepth 100000 in
theorem ml_L_73 : evML RL 73 yX6_closed := ev_in (List.mem_of_getElem? (i := 907) rfl) rfl
set_option maxRecDepth 100000 in
theorem ml_L_74 : evML RL 74 yX5_cost := ev_in (List.mem_of_getElem? (i := 544) rfl) rfl
set_option maxRecDepth 100000 in
theorem ml_L_77 : evML RL 77 yX6_cost := ev_in (List.mem_of_getElem? (i := 911) rfl) rfl
set_option maxRecDepth 100000 in
theorem ml_L_78 : evML RL 78 yX5_slack := ev_in (List.mem_of_getElem? (i := 548) rfl) rfl
set_option maxRecDepth 100000 in
theorem ml_L_81 : evML RL 81 yX6_slack := ev_in (List.mem_of_getElem? (i := 915) rfl) rfl
set_option maxRecDepth 100000 in
theorem ml_L_82 : evML RL 82 yX5_needs := ev_in (List.mem_of_getElem? (i := 552) rfl) rfl
set_option maxRecDepth 100000 in
theorem ml_L_85 : evML RL 85 yX6_needs := ev_in (List.mem_of_getElem? (i := 919) rfl) rfl
set_option maxRecDepth 100000 in
theorem ml_L_86 : evML RL 86 yX5_eased := ev_in (List.mem_of_getElem? (i := 560) rfl) rfl
set_option maxRecDepth 100000 in
theorem ml_L_89 : evML RL 89 yX6_eased := ev_in (List.mem_of_getElem? (i := 923) rfl) rfl
set_option maxRecDepth 100000 in
theorem ml_L_90 : evML RL 90 yX5_mile := ev_in (List.mem_of_getElem? (i := 568) rfl) rfl
set_option maxRecDepth 100000 in
theorem ml_L_93 : evML RL 93 yX6_mile := ev_in (List.mem_of_getElem? (i := 927) rfl) rfl
set_option maxRecDepth 100000 in
theorem ml_L_94 : evML RL 94 yX5_sees := ev_in (List.mem_of_getElem? (i := 581) rfl) rfl
set_option maxRecDepth 100000 in
theorem ml_L_97 : evML RL 97 yX6_sees := ev_in (List.mem_of_getElem? (i := 939) rfl) rfl
set_option maxRecDepth 100000 in
theorem ml_L_98 : evML RL 98 yX5_forget := ev_in (List.mem_of_getElem? (i := 585) rfl) rfl
set_option maxRecDepth 100000 in
theorem ml_L_101 : evML RL 101 yX6_forget := ev_in (List.mem_of_getElem? (i := 943) rfl) rfl
set_option maxRecDepth 100000 in
theorem ml_L_102 : evML RL 102 yX5_which := ev_in (List.mem_of_getElem? (i := 589) rfl) rfl
set_option maxRecDepth 100000 in
theorem ml_L_105 : evML RL 105 yX6_which := ev_in (List.mem_of_getElem? (i := 947) rfl) rfl
set_option maxRecDepth 100000 in
theorem ml_L_106 : evML RL 106 yX5_look := ev_in (List.mem_of_getElem? (i := 605) rfl) rfl
set_option maxRecDepth 100000 in
theorem ml_L_109 : evML RL 109 yX6_look := ev_in (List.mem_of_getElem? (i := 955) rfl) rfl
set_option maxRecDepth 100000 in
theorem ml_L_110 : evML RL 110 yX5_keep := ev_in (List.mem_of_getElem? (i := 620) rfl) rfl
set_option maxRecDepth 100000 in
theorem ml_L_113 : evML RL 113 yX6_keep := ev_in (List.mem_of_getElem? (i := 963) rfl) rfl
set_option maxRecDepth 100000 in
theorem ml_L_114 : evML RL 114 yX5_back := ev_in (List.mem_of_getElem? (i := 630) rfl) rfl
set_option maxRecDepth 100000 in
theorem ml_L_117 : evML RL 117 yX6_back := ev_in (List.mem_of_getElem? (i := 971) rfl) rfl
set_option maxRecDepth 100000 in
theorem ml_L_118 : evML RL 118 yX5_count := ev_in (List.mem_of_getElem? (i := 638) rfl) rfl
set_option maxRecDepth 100000 in
theorem ml_L_121 : evML RL 121 yX6_count := ev_in (List.mem_of_getElem? (i := 975) rfl) rfl
set_option maxRecDepth 100000 in
theorem ml_X6_54 : evML RX6 54 yX6_begins := ev_in (List.mem_of_getElem? (i := 648) rfl) rfl
set_option maxRecDepth 100000 in
theorem ml_X6_62 : evML RX6 62 yX6_in := ev_in (List.mem_of_getElem? (i := 736) rfl) rfl
set_option maxRecDepth 100000 in
theorem ml_X6_66 : evML RX6 66 yX6_legPlace := ev_in (List.mem_of_getElem? (i := 762) rfl) rfl
set_option maxRecDepth 100000 in
theorem ml_X6_70 : evML RX6 70 yX6_of := ev_in (List.mem_of_getElem? (i := 801) rfl) rfl
set_option maxRecDepth 100000 in
theorem ml_X6_82 : evML RX6 82 yX6_blanks := ev_in (List.mem_of_getElem? (i := 754) rfl) rfl
set_option maxRecDepth 100000 in
theorem ml_X6_88 : evML RX6 88 yX6_isAt := ev_in (List.mem_of_getElem? (i := 769) rfl) rfl
set_option maxRecDepth 100000 in
theorem ml_X6_92 : evML RX6 92 yX6_takesNumber := ev_in (List.mem_of_getElem? (i := 765) rfl) rfl
set_option maxRecDepth 100000 in
theorem ml_X6_95 : evML RX6 95 yX6_takesStop := ev_in (List.mem_of_getElem? (i := 773) rfl) rfl
set_option maxRecDepth 100000 in
theorem ml_X6_106 : evML RX6 106 yX6_takesLeg := ev_in (List.mem_of_getElem? (i := 758) rfl) rfl
set_option maxRecDepth 100000 in
theorem ml_X6_109 : evML RX6 109 yX6_takesFastest := ev_in (List.mem_of_getElem? (i := 777) rfl) rfl
set_option maxRecDepth 100000 in
theorem ml_X6_112 : evML RX6 112 yX6_takesTable := ev_in (List.mem_of_getElem? (i := 781) rfl) rfl
set_option maxRecDepth 100000 in
theorem ml_X6_115 : evML RX6 115 yX6_isShip := ev_in (List.mem_of_getElem? (i := 747) rfl) rfl
set_option maxRecDepth 100000 in
theorem ml_X6_119 : evML RX6 119 yX6_reads := ev_in (List.mem_of_getElem? (i := 750) rfl) rfl
set_option maxRecDepth 100000 in
theorem ml_X6_123 : evML RX6 123 yX6_remembers := ev_in (List.mem_of_getElem? (i := 785) rfl) rfl
set_option maxRecDepth 100000 in
theorem ml_X6_135 : evML RX6 135 yX6_ofLeg := ev_in (List.mem_of_getElem? (i := 805) rfl) rfl
set_option maxRecDepth 100000 in
theorem ml_X6_139 : evML RX6 139 yX6_marksAll := ev_in (List.mem_of_getElem? (i := 809) rfl) rfl
set_option maxRecDepth 100000 in
theorem ml_X6_142 : evML RX6 142 yX6_evenTimes := ev_in (List.mem_of_getElem? (i := 825) rfl) rfl
set_option maxRecDepth 100000 in
theorem ml_X6_146 : evML RX6 146 yX6_missedTimes := ev_in (List.mem_of_getElem? (i := 821) rfl) rfl
set_option maxRecDepth 100000 in
theorem ml_X6_149 : evML RX6 149 yX6_markBehind := ev_in (List.mem_of_getElem? (i := 813) rfl) rfl
set_option maxRecDepth 100000 in
theorem ml_X6_153 : evML RX6 153 yX6_marksOne := ev_in (List.mem_of_getElem? (i := 817) rfl) rfl
set_option maxRecDepth 100000 in
theorem ml_X6_156 : evML RX6 156 yX6_fastNeeded := ev_in (List.mem_of_getElem? (i := 833) rfl) rfl
set_option maxRecDepth 100000 in
theorem ml_X6_159 : evML RX6 159 yX6_lays := ev_in (List.mem_of_getElem? (i := 797) rfl) rfl
set_option maxRecDepth 100000 in
theorem ml_X6_163 : evML RX6 163 yX6_hasPlan := ev_in (List.mem_of_getElem? (i := 829) rfl) rfl
set_option maxRecDepth 100000 in
theorem ml_X6_166 : evML RX6 166 yX6_common := ev_in (List.mem_of_getElem? (i := 899) rfl) rfl
set_option maxRecDepth 100000 in
theorem ml_X6_170 : evML RX6 170 yX6_markAhead := ev_in (List.mem_of_getElem? (i := 841) rfl) rfl
set_option maxRecDepth 100000 in
theorem ml_X6_177 : evML RX6 177 yX6_costOf := ev_in (List.mem_of_getElem? (i := 849) rfl) rfl
set_option maxRecDepth 100000 in
theorem ml_X6_180 : evML RX6 180 yX6_plans := ev_in (List.mem_of_getElem? (i := 793) rfl) rfl
set_option maxRecDepth 100000 in
theorem ml_X6_183 : evML RX6 183 yX6_milesAt := ev_in (List.mem_of_getElem? (i := 837) rfl) rfl
set_option maxRecDepth 100000 in
theorem ml_X6_187 : evML RX6 187 yX6_timeTimes := ev_in (List.mem_of_getElem? (i := 845) rfl) rfl
set_option maxRecDepth 100000 in
theorem ml_X6_190 : evML RX6 190 yX6_isAhead := ev_in (List.mem_of_getElem? (i := 863) rfl) rfl
set_option maxRecDepth 100000 in
theorem ml_X6_193 : evML RX6 193 yX6_stretches := ev_in (List.mem_of_getElem? (i := 883) rfl) rfl
set_option maxRecDepth 100000 in
theorem ml_X6_196 : evML RX6 196 yX6_costsAhead := ev_in (List.mem_of_getElem? (i := 887) rfl) rfl
set_option maxRecDepth 100000 in
theorem ml_X6_200 : evML RX6 200 yX6_lowest := ev_in (List.mem_of_getElem? (i := 896) rfl) rfl
set_option maxRecDepth 100000 in
theorem ml_X6_205 : evML RX6 205 yX6_mileAt := ev_in (List.mem_of_getElem? (i := 935) rfl) rfl
set_option maxRecDepth 100000 in
theorem ml_X6_208 : evML RX6 208 yX6_mileOf := ev_in (List.mem_of_getElem? (i := 931) rfl) rfl
set_option maxRecDepth 100000 in
theorem ml_X6_214 : evML RX6 214 yX6_whichNow := ev_in (List.mem_of_getElem? (i := 951) rfl) rfl
set_option maxRecDepth 100000 in
theorem ml_X6_217 : evML RX6 217 yX6_alikeAt := ev_in (List.mem_of_getElem? (i := 959) rfl) rfl
set_option maxRecDepth 100000 in
theorem ml_X6_220 : evML RX6 220 yX6_legsOfAll := ev_in (List.mem_of_getElem? (i := 967) rfl) rfl
set_option maxRecDepth 100000 in
theorem kc_X5_145 : Cond.constant RX5 145 (-1000000) ∈ evtb := ev_in (List.mem_of_getElem? (i := 515) rfl) rfl
set_option maxRecDepth 100000 in
theorem kc_X5_146 : Cond.constant RX5 146 (-2000000) ∈ evtb := ev_in (List.mem_of_getElem? (i := 516) rfl) rfl
set_option maxRecDepth 100000 in
theorem kc_X6_199 : Cond.constant RX6 199 (-1000000) ∈ evtb := ev_in (List.mem_of_getElem? (i := 895) rfl) rfl
set_option maxRecDepth 100000 in
theorem kc_X6_204 : Cond.constant RX6 204 (-2000000) ∈ evtb := ev_in (List.mem_of_getElem? (i := 902) rfl) rfl
set_option maxRecDepth 100000 in
theorem kc_J6_265 : Cond.constant RJ6 265 (1431655765) ∈ evtb := ev_in (List.mem_of_getElem? (i := 612) rfl) rfl
set_option maxRecDepth 100000 in
theorem kc_J6_266 : Cond.constant RJ6 266 (858993459) ∈ evtb := ev_in (List.mem_of_getElem? (i := 613) rfl) rfl
set_option maxRecDepth 100000 in
theorem kc_J6_267 : Cond.constant RJ6 267 (252645135) ∈ evtb := ev_in (List.mem_of_getElem? (i := 614) rfl) rfl
set_option maxRecDepth 100000 in
theorem kc_X2_103 : Cond.constantLong RX2 103 (2) ∈ evtb := ev_in (List.mem_of_getElem? (i := 451) rfl) rfl
set_option maxRecDepth 100000 in
theorem kc_X2_105 : Cond.constantLong RX2 105 (10) ∈ evtb := ev_in (List.mem_of_getElem? (i := 452) rfl) rfl
set_option maxRecDepth 100000 in
theorem kc_X6_173 : Cond.constantLong RX6 173 (10) ∈ evtb := ev_in (List.mem_of_getElem? (i := 853) rfl) rfl
set_option maxRecDepth 100000 in
theorem kc_X6_175 : Cond.constantLong RX6 175 (2) ∈ evtb := ev_in (List.mem_of_getElem? (i := 854) rfl) rfl
set_option maxRecDepth 100000 in
theorem ev_acr (d : Nat) : (([] : List Value).map fun v => v.category).sum + (nativeFrameWords "java/lang/System" "arraycopy" 5 + 11) ≤ (evrm (d + 1)).locals := by
  have h : nativeFrameWords "java/lang/System" "arraycopy" 5 + 11 ≤ 40 := by decide +kernel
  show 0 + (nativeFrameWords "java/lang/System" "arraycopy" 5 + 11) ≤ 40 * (d + 1)
  omega
