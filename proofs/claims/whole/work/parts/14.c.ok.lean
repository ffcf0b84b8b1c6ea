theorem bX10_undo : zMb MX10_undo = true := by decide +kernel
theorem cX10_undo : Cond.code MX10_undo.1 MX10_undo.2.2.1 MX10_undo.2.2.2.1 MX10_undo.2.2.2.2.1 ∈ zT := z_T_in (i := 771) (by decide +kernel) rfl
theorem bX10_orders : zMb MX10_orders = true := by decide +kernel
theorem cX10_orders : Cond.code MX10_orders.1 MX10_orders.2.2.1 MX10_orders.2.2.2.1 MX10_orders.2.2.2.2.1 ∈ zT := z_T_in (i := 786) (by decide +kernel) rfl
theorem bX10_first : zMb MX10_first = true := by decide +kernel
theorem cX10_first : Cond.code MX10_first.1 MX10_first.2.2.1 MX10_first.2.2.2.1 MX10_first.2.2.2.2.1 ∈ zT := z_T_in (i := 813) (by decide +kernel) rfl
theorem bX10_before : zMb MX10_before = true := by decide +kernel
theorem cX10_before : Cond.code MX10_before.1 MX10_before.2.2.1 MX10_before.2.2.2.1 MX10_before.2.2.2.2.1 ∈ zT := z_T_in (i := 830) (by decide +kernel) rfl
theorem bX10_met : zMb MX10_met = true := by decide +kernel
theorem cX10_met : Cond.code MX10_met.1 MX10_met.2.2.1 MX10_met.2.2.2.1 MX10_met.2.2.2.2.1 ∈ zT := z_T_in (i := 862) (by decide +kernel) rfl
theorem bX10_sure : zMb MX10_sure = true := by decide +kernel
theorem cX10_sure : Cond.code MX10_sure.1 MX10_sure.2.2.1 MX10_sure.2.2.2.1 MX10_sure.2.2.2.2.1 ∈ zT := z_T_in (i := 870) (by decide +kernel) rfl
theorem bX10_known : zMb MX10_known = true := by decide +kernel
theorem cX10_known : Cond.code MX10_known.1 MX10_known.2.2.1 MX10_known.2.2.2.1 MX10_known.2.2.2.2.1 ∈ zT := z_T_in (i := 874) (by decide +kernel) rfl
theorem bX10_place : zMb MX10_place = true := by decide +kernel
theorem cX10_place : Cond.code MX10_place.1 MX10_place.2.2.1 MX10_place.2.2.2.1 MX10_place.2.2.2.2.1 ∈ zT := z_T_in (i := 879) (by decide +kernel) rfl
theorem bX10_beds : zMb MX10_beds = true := by decide +kernel
theorem cX10_beds : Cond.code MX10_beds.1 MX10_beds.2.2.1 MX10_beds.2.2.2.1 MX10_beds.2.2.2.2.1 ∈ zT := z_T_in (i := 889) (by decide +kernel) rfl
theorem bX10_most : zMb MX10_most = true := by decide +kernel
theorem cX10_most : Cond.code MX10_most.1 MX10_most.2.2.1 MX10_most.2.2.2.1 MX10_most.2.2.2.2.1 ∈ zT := z_T_in (i := 901) (by decide +kernel) rfl
theorem bX10_evening : zMb MX10_evening = true := by decide +kernel
theorem cX10_evening : Cond.code MX10_evening.1 MX10_evening.2.2.1 MX10_evening.2.2.2.1 MX10_evening.2.2.2.2.1 ∈ zT := z_T_in (i := 909) (by decide +kernel) rfl
theorem bX10_longest : zMb MX10_longest = true := by decide +kernel
theorem cX10_longest : Cond.code MX10_longest.1 MX10_longest.2.2.1 MX10_longest.2.2.2.1 MX10_longest.2.2.2.2.1 ∈ zT := z_T_in (i := 914) (by decide +kernel) rfl
theorem bX10_cheapest : zMb MX10_cheapest = true := by decide +kernel
theorem cX10_cheapest : Cond.code MX10_cheapest.1 MX10_cheapest.2.2.1 MX10_cheapest.2.2.2.1 MX10_cheapest.2.2.2.2.1 ∈ zT := z_T_in (i := 940) (by decide +kernel) rfl
theorem bX10_dearest : zMb MX10_dearest = true := by decide +kernel
theorem cX10_dearest : Cond.code MX10_dearest.1 MX10_dearest.2.2.1 MX10_dearest.2.2.2.1 MX10_dearest.2.2.2.2.1 ∈ zT := z_T_in (i := 990) (by decide +kernel) rfl
theorem bX10_lies : zMb MX10_lies = true := by decide +kernel
theorem cX10_lies : Cond.code MX10_lies.1 MX10_lies.2.2.1 MX10_lies.2.2.2.1 MX10_lies.2.2.2.2.1 ∈ zT := z_T_in (i := 1002) (by decide +kernel) rfl
theorem bX10_alone : zMb MX10_alone = true := by decide +kernel
theorem cX10_alone : Cond.code MX10_alone.1 MX10_alone.2.2.1 MX10_alone.2.2.2.1 MX10_alone.2.2.2.2.1 ∈ zT := z_T_in (i := 1011) (by decide +kernel) rfl
theorem bX10_clash : zMb MX10_clash = true := by decide +kernel
theorem cX10_clash : Cond.code MX10_clash.1 MX10_clash.2.2.1 MX10_clash.2.2.2.1 MX10_clash.2.2.2.2.1 ∈ zT := z_T_in (i := 1036) (by decide +kernel) rfl
theorem bX10_ring : zMb MX10_ring = true := by decide +kernel
theorem cX10_ring : Cond.code MX10_ring.1 MX10_ring.2.2.1 MX10_ring.2.2.2.1 MX10_ring.2.2.2.2.1 ∈ zT := z_T_in (i := 1044) (by decide +kernel) rfl
theorem bX10_threes : zMb MX10_threes = true := by decide +kernel
theorem cX10_threes : Cond.code MX10_threes.1 MX10_threes.2.2.1 MX10_threes.2.2.2.1 MX10_threes.2.2.2.2.1 ∈ zT := z_T_in (i := 1074) (by decide +kernel) rfl
theorem bX10_rooms : zMb MX10_rooms = true := by decide +kernel
theorem cX10_rooms : Cond.code MX10_rooms.1 MX10_rooms.2.2.1 MX10_rooms.2.2.2.1 MX10_rooms.2.2.2.2.1 ∈ zT := z_T_in (i := 1092) (by decide +kernel) rfl
theorem bX10_circle : zMb MX10_circle = true := by decide +kernel
theorem cX10_circle : Cond.code MX10_circle.1 MX10_circle.2.2.1 MX10_circle.2.2.2.1 MX10_circle.2.2.2.2.1 ∈ zT := z_T_in (i := 1107) (by decide +kernel) rfl
theorem bX10_hears : zMb MX10_hears = true := by decide +kernel
theorem cX10_hears : Cond.code MX10_hears.1 MX10_hears.2.2.1 MX10_hears.2.2.2.1 MX10_hears.2.2.2.2.1 ∈ zT := z_T_in (i := 1118) (by decide +kernel) rfl
theorem bX10_asks : zMb MX10_asks = true := by decide +kernel
theorem cX10_asks : Cond.code MX10_asks.1 MX10_asks.2.2.1 MX10_asks.2.2.2.1 MX10_asks.2.2.2.2.1 ∈ zT := z_T_in (i := 1130) (by decide +kernel) rfl
theorem bX10_likely : zMb MX10_likely = true := by decide +kernel
theorem cX10_likely : Cond.code MX10_likely.1 MX10_likely.2.2.1 MX10_likely.2.2.2.1 MX10_likely.2.2.2.2.1 ∈ zT := z_T_in (i := 1138) (by decide +kernel) rfl
theorem bX10_game : zMb MX10_game = true := by decide +kernel
theorem cX10_game : Cond.code MX10_game.1 MX10_game.2.2.1 MX10_game.2.2.2.1 MX10_game.2.2.2.2.1 ∈ zT := z_T_in (i := 1163) (by decide +kernel) rfl
theorem bX10_law : zMb MX10_law = true := by decide +kernel
theorem cX10_law : Cond.code MX10_law.1 MX10_law.2.2.1 MX10_law.2.2.2.1 MX10_law.2.2.2.2.1 ∈ zT := z_T_in (i := 1172) (by decide +kernel) rfl
theorem bX10_rests : zMb MX10_rests = true := by decide +kernel
theorem cX10_rests : Cond.code MX10_rests.1 MX10_rests.2.2.1 MX10_rests.2.2.2.1 MX10_rests.2.2.2.2.1 ∈ zT := z_T_in (i := 1177) (by decide +kernel) rfl
theorem bX10_years : zMb MX10_years = true := by decide +kernel
theorem cX10_years : Cond.code MX10_years.1 MX10_years.2.2.1 MX10_years.2.2.2.1 MX10_years.2.2.2.2.1 ∈ zT := z_T_in (i := 1192) (by decide +kernel) rfl
theorem bX10_keep : zMb MX10_keep = true := by decide +kernel
theorem cX10_keep : Cond.code MX10_keep.1 MX10_keep.2.2.1 MX10_keep.2.2.2.1 MX10_keep.2.2.2.2.1 ∈ zT := z_T_in (i := 1209) (by decide +kernel) rfl
theorem bX10_again : zMb MX10_again = true := by decide +kernel
theorem cX10_again : Cond.code MX10_again.1 MX10_again.2.2.1 MX10_again.2.2.2.1 MX10_again.2.2.2.2.1 ∈ zT := z_T_in (i := 1217) (by decide +kernel) rfl
theorem bX10_count : zMb MX10_count = true := by decide +kernel
theorem cX10_count : Cond.code MX10_count.1 MX10_count.2.2.1 MX10_count.2.2.2.1 MX10_count.2.2.2.2.1 ∈ zT := z_T_in (i := 1226) (by decide +kernel) rfl
theorem bX10_row : zMb MX10_row = true := by decide +kernel
theorem cX10_row : Cond.code MX10_row.1 MX10_row.2.2.1 MX10_row.2.2.2.1 MX10_row.2.2.2.2.1 ∈ zT := z_T_in (i := 1310) (by decide +kernel) rfl
theorem bX10_settled : zMb MX10_settled = true := by decide +kernel
theorem cX10_settled : Cond.code MX10_settled.1 MX10_settled.2.2.1 MX10_settled.2.2.2.1 MX10_settled.2.2.2.2.1 ∈ zT := z_T_in (i := 688) (by decide +kernel) rfl
theorem bX10_leastOf : zMb MX10_leastOf = true := by decide +kernel
theorem cX10_leastOf : Cond.code MX10_leastOf.1 MX10_leastOf.2.2.1 MX10_leastOf.2.2.2.1 MX10_leastOf.2.2.2.2.1 ∈ zT := z_T_in (i := 820) (by decide +kernel) rfl
theorem bX10_share : zMb MX10_share = true := by decide +kernel
theorem cX10_share : Cond.code MX10_share.1 MX10_share.2.2.1 MX10_share.2.2.2.1 MX10_share.2.2.2.2.1 ∈ zT := z_T_in (i := 850) (by decide +kernel) rfl
theorem bX10_act : zMb MX10_act = true := by decide +kernel
theorem cX10_act : Cond.code MX10_act.1 MX10_act.2.2.1 MX10_act.2.2.2.1 MX10_act.2.2.2.2.1 ∈ zT := z_T_in (i := 745) (by decide +kernel) rfl
theorem bX11_thrown : zMb MX11_thrown = true := by decide +kernel
theorem cX11_thrown : Cond.code MX11_thrown.1 MX11_thrown.2.2.1 MX11_thrown.2.2.2.1 MX11_thrown.2.2.2.2.1 ∈ zT := z_T_in (i := 1314) (by decide +kernel) rfl
theorem bX11_refuse : zMb MX11_refuse = true := by decide +kernel
theorem cX11_refuse : Cond.code MX11_refuse.1 MX11_refuse.2.2.1 MX11_refuse.2.2.2.1 MX11_refuse.2.2.2.2.1 ∈ zT := z_T_in (i := 1445) (by decide +kernel) rfl
theorem bX11_in : zMb MX11_in = true := by decide +kernel
theorem cX11_in : Cond.code MX11_in.1 MX11_in.2.2.1 MX11_in.2.2.2.1 MX11_in.2.2.2.2.1 ∈ zT := z_T_in (i := 1325) (by decide +kernel) rfl
theorem bX11_has : zMb MX11_has = true := by decide +kernel
theorem cX11_has : Cond.code MX11_has.1 MX11_has.2.2.1 MX11_has.2.2.2.1 MX11_has.2.2.2.2.1 ∈ zT := z_T_in (i := 1719) (by decide +kernel) rfl
theorem bX11_flag : zMb MX11_flag = true := by decide +kernel
theorem cX11_flag : Cond.code MX11_flag.1 MX11_flag.2.2.1 MX11_flag.2.2.2.1 MX11_flag.2.2.2.2.1 ∈ zT := z_T_in (i := 1348) (by decide +kernel) rfl
theorem bX11_common : zMb MX11_common = true := by decide +kernel
theorem cX11_common : Cond.code MX11_common.1 MX11_common.2.2.1 MX11_common.2.2.2.1 MX11_common.2.2.2.2.1 ∈ zT := z_T_in (i := 1746) (by decide +kernel) rfl
theorem bX11_enters : zMb MX11_enters = true := by decide +kernel
theorem cX11_enters : Cond.code MX11_enters.1 MX11_enters.2.2.1 MX11_enters.2.2.2.1 MX11_enters.2.2.2.2.1 ∈ zT := z_T_in (i := 1534) (by decide +kernel) rfl
theorem bX11_entersFraction : zMb MX11_entersFraction = true := by decide +kernel
theorem cX11_entersFraction : Cond.code MX11_entersFraction.1 MX11_entersFraction.2.2.1 MX11_entersFraction.2.2.2.1 MX11_entersFraction.2.2.2.2.1 ∈ zT := z_T_in (i := 1743) (by decide +kernel) rfl
theorem bX11_at : zMb MX11_at = true := by decide +kernel
theorem cX11_at : Cond.code MX11_at.1 MX11_at.2.2.1 MX11_at.2.2.2.1 MX11_at.2.2.2.2.1 ∈ zT := z_T_in (i := 1362) (by decide +kernel) rfl
theorem bX11_isGuest : zMb MX11_isGuest = true := by decide +kernel
theorem cX11_isGuest : Cond.code MX11_isGuest.1 MX11_isGuest.2.2.1 MX11_isGuest.2.2.2.1 MX11_isGuest.2.2.2.2.1 ∈ zT := z_T_in (i := 1440) (by decide +kernel) rfl
theorem bX11_areTwo : zMb MX11_areTwo = true := by decide +kernel
theorem cX11_areTwo : Cond.code MX11_areTwo.1 MX11_areTwo.2.2.1 MX11_areTwo.2.2.2.1 MX11_areTwo.2.2.2.2.1 ∈ zT := z_T_in (i := 1457) (by decide +kernel) rfl
theorem bX11_lays : zMb MX11_lays = true := by decide +kernel
theorem cX11_lays : Cond.code MX11_lays.1 MX11_lays.2.2.1 MX11_lays.2.2.2.1 MX11_lays.2.2.2.2.1 ∈ zT := z_T_in (i := 1359) (by decide +kernel) rfl
theorem bX11_those : zMb MX11_those = true := by decide +kernel
theorem cX11_those : Cond.code MX11_those.1 MX11_those.2.2.1 MX11_those.2.2.2.1 MX11_those.2.2.2.2.1 ∈ zT := z_T_in (i := 1449) (by decide +kernel) rfl
theorem bX11_pairsThat : zMb MX11_pairsThat = true := by decide +kernel
theorem cX11_pairsThat : Cond.code MX11_pairsThat.1 MX11_pairsThat.2.2.1 MX11_pairsThat.2.2.2.1 MX11_pairsThat.2.2.2.2.1 ∈ zT := z_T_in (i := 1538) (by decide +kernel) rfl
theorem bX11_all : zMb MX11_all = true := by decide +kernel
theorem cX11_all : Cond.code MX11_all.1 MX11_all.2.2.1 MX11_all.2.2.2.1 MX11_all.2.2.2.2.1 ∈ zT := z_T_in (i := 1782) (by decide +kernel) rfl
theorem bX11_sign : zMb MX11_sign = true := by decide +kernel
theorem cX11_sign : Cond.code MX11_sign.1 MX11_sign.2.2.1 MX11_sign.2.2.2.1 MX11_sign.2.2.2.2.1 ∈ zT := z_T_in (i := 1318) (by decide +kernel) rfl
theorem bX11_end : zMb MX11_end = true := by decide +kernel
theorem cX11_end : Cond.code MX11_end.1 MX11_end.2.2.1 MX11_end.2.2.2.1 MX11_end.2.2.2.2.1 ∈ zT := z_T_in (i := 1322) (by decide +kernel) rfl
theorem bX11_begins : zMb MX11_begins = true := by decide +kernel
theorem cX11_begins : Cond.code MX11_begins.1 MX11_begins.2.2.1 MX11_begins.2.2.2.1 MX11_begins.2.2.2.2.1 ∈ zT := z_T_in (i := 1334) (by decide +kernel) rfl
theorem bX11_takes : zMb MX11_takes = true := by decide +kernel
theorem cX11_takes : Cond.code MX11_takes.1 MX11_takes.2.2.1 MX11_takes.2.2.2.1 MX11_takes.2.2.2.2.1 ∈ zT := z_T_in (i := 1352) (by decide +kernel) rfl
theorem bX11_isDigit : zMb MX11_isDigit = true := by decide +kernel
theorem cX11_isDigit : Cond.code MX11_isDigit.1 MX11_isDigit.2.2.1 MX11_isDigit.2.2.2.1 MX11_isDigit.2.2.2.2.1 ∈ zT := z_T_in (i := 1343) (by decide +kernel) rfl
theorem bX11_takesOf : zMb MX11_takesOf = true := by decide +kernel
theorem cX11_takesOf : Cond.code MX11_takesOf.1 MX11_takesOf.2.2.1 MX11_takesOf.2.2.2.1 MX11_takesOf.2.2.2.2.1 ∈ zT := z_T_in (i := 1375) (by decide +kernel) rfl
theorem bX11_number : zMb MX11_number = true := by decide +kernel
theorem cX11_number : Cond.code MX11_number.1 MX11_number.2.2.1 MX11_number.2.2.2.1 MX11_number.2.2.2.2.1 ∈ zT := z_T_in (i := 1339) (by decide +kernel) rfl
theorem bX11_digitIn : zMb MX11_digitIn = true := by decide +kernel
theorem cX11_digitIn : Cond.code MX11_digitIn.1 MX11_digitIn.2.2.1 MX11_digitIn.2.2.2.1 MX11_digitIn.2.2.2.2.1 ∈ zT := z_T_in (i := 1370) (by decide +kernel) rfl
theorem bX11_faultOf : zMb MX11_faultOf = true := by decide +kernel
theorem cX11_faultOf : Cond.code MX11_faultOf.1 MX11_faultOf.2.2.1 MX11_faultOf.2.2.2.1 MX11_faultOf.2.2.2.2.1 ∈ zT := z_T_in (i := 1356) (by decide +kernel) rfl
theorem bX11_guests : zMb MX11_guests = true := by decide +kernel
theorem cX11_guests : Cond.code MX11_guests.1 MX11_guests.2.2.1 MX11_guests.2.2.2.1 MX11_guests.2.2.2.2.1 ∈ zT := z_T_in (i := 1329) (by decide +kernel) rfl
theorem bX11_meetings : zMb MX11_meetings = true := by decide +kernel
theorem cX11_meetings : Cond.code MX11_meetings.1 MX11_meetings.2.2.1 MX11_meetings.2.2.2.1 MX11_meetings.2.2.2.2.1 ∈ zT := z_T_in (i := 1366) (by decide +kernel) rfl
theorem bX11_codes : zMb MX11_codes = true := by decide +kernel
theorem cX11_codes : Cond.code MX11_codes.1 MX11_codes.2.2.1 MX11_codes.2.2.2.1 MX11_codes.2.2.2.2.1 ∈ zT := z_T_in (i := 1424) (by decide +kernel) rfl
theorem bX11_readsThing : zMb MX11_readsThing = true := by decide +kernel
theorem cX11_readsThing : Cond.code MX11_readsThing.1 MX11_readsThing.2.2.1 MX11_readsThing.2.2.2.1 MX11_readsThing.2.2.2.2.1 ∈ zT := z_T_in (i := 1420) (by decide +kernel) rfl
theorem bX11_readsRank : zMb MX11_readsRank = true := by decide +kernel
theorem cX11_readsRank : Cond.code MX11_readsRank.1 MX11_readsRank.2.2.1 MX11_readsRank.2.2.2.1 MX11_readsRank.2.2.2.2.1 ∈ zT := z_T_in (i := 1416) (by decide +kernel) rfl
theorem bX11_readsRule : zMb MX11_readsRule = true := by decide +kernel
theorem cX11_readsRule : Cond.code MX11_readsRule.1 MX11_readsRule.2.2.1 MX11_readsRule.2.2.2.1 MX11_readsRule.2.2.2.2.1 ∈ zT := z_T_in (i := 1412) (by decide +kernel) rfl
theorem bX11_laysCode : zMb MX11_laysCode = true := by decide +kernel
theorem cX11_laysCode : Cond.code MX11_laysCode.1 MX11_laysCode.2.2.1 MX11_laysCode.2.2.2.1 MX11_laysCode.2.2.2.2.1 ∈ zT := z_T_in (i := 1432) (by decide +kernel) rfl
theorem bX11_rule : zMb MX11_rule = true := by decide +kernel
theorem cX11_rule : Cond.code MX11_rule.1 MX11_rule.2.2.1 MX11_rule.2.2.2.1 MX11_rule.2.2.2.2.1 ∈ zT := z_T_in (i := 1408) (by decide +kernel) rfl
theorem bX11_worked : zMb MX11_worked = true := by decide +kernel
theorem cX11_worked : Cond.code MX11_worked.1 MX11_worked.2.2.1 MX11_worked.2.2.2.1 MX11_worked.2.2.2.2.1 ∈ zT := z_T_in (i := 1811) (by decide +kernel) rfl
theorem bX11_ruled : zMb MX11_ruled = true := by decide +kernel
theorem cX11_ruled : Cond.code MX11_ruled.1 MX11_ruled.2.2.1 MX11_ruled.2.2.2.1 MX11_ruled.2.2.2.2.1 ∈ zT := z_T_in (i := 1808) (by decide +kernel) rfl
theorem bX11_guest : zMb MX11_guest = true := by decide +kernel
theorem cX11_guest : Cond.code MX11_guest.1 MX11_guest.2.2.1 MX11_guest.2.2.2.1 MX11_guest.2.2.2.2.1 ∈ zT := z_T_in (i := 1436) (by decide +kernel) rfl
theorem bX11_pair : zMb MX11_pair = true := by decide +kernel
theorem cX11_pair : Cond.code MX11_pair.1 MX11_pair.2.2.1 MX11_pair.2.2.2.1 MX11_pair.2.2.2.2.1 ∈ zT := z_T_in (i := 1453) (by decide +kernel) rfl
theorem bX11_sumOfRooms : zMb MX11_sumOfRooms = true := by decide +kernel
theorem cX11_sumOfRooms : Cond.code MX11_sumOfRooms.1 MX11_sumOfRooms.2.2.1 MX11_sumOfRooms.2.2.2.1 MX11_sumOfRooms.2.2.2.2.1 ∈ zT := z_T_in (i := 1466) (by decide +kernel) rfl
theorem bX11_sheet : zMb MX11_sheet = true := by decide +kernel
theorem cX11_sheet : Cond.code MX11_sheet.1 MX11_sheet.2.2.1 MX11_sheet.2.2.2.1 MX11_sheet.2.2.2.2.1 ∈ zT := z_T_in (i := 1461) (by decide +kernel) rfl
theorem bX11_putsBy : zMb MX11_putsBy = true := by decide +kernel
theorem cX11_putsBy : Cond.code MX11_putsBy.1 MX11_putsBy.2.2.1 MX11_putsBy.2.2.2.1 MX11_putsBy.2.2.2.2.1 ∈ zT := z_T_in (i := 1400) (by decide +kernel) rfl
theorem bX11_adds : zMb MX11_adds = true := by decide +kernel
theorem cX11_adds : Cond.code MX11_adds.1 MX11_adds.2.2.1 MX11_adds.2.2.2.1 MX11_adds.2.2.2.2.1 ∈ zT := z_T_in (i := 1404) (by decide +kernel) rfl
theorem bX11_counted : zMb MX11_counted = true := by decide +kernel
theorem cX11_counted : Cond.code MX11_counted.1 MX11_counted.2.2.1 MX11_counted.2.2.2.1 MX11_counted.2.2.2.2.1 ∈ zT := z_T_in (i := 1483) (by decide +kernel) rfl
theorem bX11_undo : zMb MX11_undo = true := by decide +kernel
theorem cX11_undo : Cond.code MX11_undo.1 MX11_undo.2.2.1 MX11_undo.2.2.2.1 MX11_undo.2.2.2.2.1 ∈ zT := z_T_in (i := 1470) (by decide +kernel) rfl
