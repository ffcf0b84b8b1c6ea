theorem bX0_init : zMb MX0_init = true := by decide +kernel
theorem cX0_init : Cond.code MX0_init.1 MX0_init.2.2.1 MX0_init.2.2.2.1 MX0_init.2.2.2.2.1 ∈ zT := z_T_in (i := 338) (by decide +kernel) rfl
theorem bX0_shortestRing : zMb MX0_shortestRing = true := by decide +kernel
theorem cX0_shortestRing : Cond.code MX0_shortestRing.1 MX0_shortestRing.2.2.1 MX0_shortestRing.2.2.2.1 MX0_shortestRing.2.2.2.2.1 ∈ zT := z_T_in (i := 1048) (by decide +kernel) rfl
theorem bX0_tell : zMb MX0_tell = true := by decide +kernel
theorem cX0_tell : Cond.code MX0_tell.1 MX0_tell.2.2.1 MX0_tell.2.2.2.1 MX0_tell.2.2.2.2.1 ∈ zT := z_T_in (i := 1068) (by decide +kernel) rfl
theorem bX0_turnIsLess : zMb MX0_turnIsLess = true := by decide +kernel
theorem cX0_turnIsLess : Cond.code MX0_turnIsLess.1 MX0_turnIsLess.2.2.1 MX0_turnIsLess.2.2.2.1 MX0_turnIsLess.2.2.2.2.1 ∈ zT := z_T_in (i := 1064) (by decide +kernel) rfl
theorem bX0_isRing : zMb MX0_isRing = true := by decide +kernel
theorem cX0_isRing : Cond.code MX0_isRing.1 MX0_isRing.2.2.1 MX0_isRing.2.2.2.1 MX0_isRing.2.2.2.2.1 ∈ zT := z_T_in (i := 1054) (by decide +kernel) rfl
theorem bX0_walkRound : zMb MX0_walkRound = true := by decide +kernel
theorem cX0_walkRound : Cond.code MX0_walkRound.1 MX0_walkRound.2.2.1 MX0_walkRound.2.2.2.1 MX0_walkRound.2.2.2.2.1 ∈ zT := z_T_in (i := 1059) (by decide +kernel) rfl
theorem bX0_farThrees : zMb MX0_farThrees = true := by decide +kernel
theorem cX0_farThrees : Cond.code MX0_farThrees.1 MX0_farThrees.2.2.1 MX0_farThrees.2.2.2.1 MX0_farThrees.2.2.2.2.1 ∈ zT := z_T_in (i := 1078) (by decide +kernel) rfl
theorem bX0_areFar : zMb MX0_areFar = true := by decide +kernel
theorem cX0_areFar : Cond.code MX0_areFar.1 MX0_areFar.2.2.1 MX0_areFar.2.2.2.1 MX0_areFar.2.2.2.2.1 ∈ zT := z_T_in (i := 1081) (by decide +kernel) rfl
theorem bX0_isWay : zMb MX0_isWay = true := by decide +kernel
theorem cX0_isWay : Cond.code MX0_isWay.1 MX0_isWay.2.2.1 MX0_isWay.2.2.2.1 MX0_isWay.2.2.2.2.1 ∈ zT := z_T_in (i := 1085) (by decide +kernel) rfl
theorem bX0_metByAny : zMb MX0_metByAny = true := by decide +kernel
theorem cX0_metByAny : Cond.code MX0_metByAny.1 MX0_metByAny.2.2.1 MX0_metByAny.2.2.2.1 MX0_metByAny.2.2.2.2.1 ∈ zT := z_T_in (i := 1088) (by decide +kernel) rfl
theorem bX0_fewestRooms : zMb MX0_fewestRooms = true := by decide +kernel
theorem cX0_fewestRooms : Cond.code MX0_fewestRooms.1 MX0_fewestRooms.2.2.1 MX0_fewestRooms.2.2.2.1 MX0_fewestRooms.2.2.2.2.1 ∈ zT := z_T_in (i := 1096) (by decide +kernel) rfl
theorem bX0_canLodge : zMb MX0_canLodge = true := by decide +kernel
theorem cX0_canLodge : Cond.code MX0_canLodge.1 MX0_canLodge.2.2.1 MX0_canLodge.2.2.2.1 MX0_canLodge.2.2.2.2.1 ∈ zT := z_T_in (i := 1099) (by decide +kernel) rfl
theorem bX0_isFree : zMb MX0_isFree = true := by decide +kernel
theorem cX0_isFree : Cond.code MX0_isFree.1 MX0_isFree.2.2.1 MX0_isFree.2.2.2.1 MX0_isFree.2.2.2.2.1 ∈ zT := z_T_in (i := 1102) (by decide +kernel) rfl
theorem bX0_greatestCircle : zMb MX0_greatestCircle = true := by decide +kernel
theorem cX0_greatestCircle : Cond.code MX0_greatestCircle.1 MX0_greatestCircle.2.2.1 MX0_greatestCircle.2.2.2.1 MX0_greatestCircle.2.2.2.2.1 ∈ zT := z_T_in (i := 1111) (by decide +kernel) rfl
theorem bX0_isCircle : zMb MX0_isCircle = true := by decide +kernel
theorem cX0_isCircle : Cond.code MX0_isCircle.1 MX0_isCircle.2.2.1 MX0_isCircle.2.2.2.1 MX0_isCircle.2.2.2.2.1 ∈ zT := z_T_in (i := 1114) (by decide +kernel) rfl
theorem bX0_shortestWay : zMb MX0_shortestWay = true := by decide +kernel
theorem cX0_shortestWay : Cond.code MX0_shortestWay.1 MX0_shortestWay.2.2.1 MX0_shortestWay.2.2.2.1 MX0_shortestWay.2.2.2.2.1 ∈ zT := z_T_in (i := 1122) (by decide +kernel) rfl
theorem bX0_reachBack : zMb MX0_reachBack = true := by decide +kernel
theorem cX0_reachBack : Cond.code MX0_reachBack.1 MX0_reachBack.2.2.1 MX0_reachBack.2.2.2.1 MX0_reachBack.2.2.2.2.1 ∈ zT := z_T_in (i := 1126) (by decide +kernel) rfl
theorem bX1_init : zMb MX1_init = true := by decide +kernel
theorem cX1_init : Cond.code MX1_init.1 MX1_init.2.2.1 MX1_init.2.2.2.1 MX1_init.2.2.2.2.1 ∈ zT := z_T_in (i := 310) (by decide +kernel) rfl
theorem bX1_makeRoom : zMb MX1_makeRoom = true := by decide +kernel
theorem cX1_makeRoom : Cond.code MX1_makeRoom.1 MX1_makeRoom.2.2.1 MX1_makeRoom.2.2.2.1 MX1_makeRoom.2.2.2.2.1 ∈ zT := z_T_in (i := 927) (by decide +kernel) rfl
theorem bX1_leastWorth : zMb MX1_leastWorth = true := by decide +kernel
theorem cX1_leastWorth : Cond.code MX1_leastWorth.1 MX1_leastWorth.2.2.1 MX1_leastWorth.2.2.2.1 MX1_leastWorth.2.2.2.2.1 ∈ zT := z_T_in (i := 944) (by decide +kernel) rfl
theorem bX1_fewestLies : zMb MX1_fewestLies = true := by decide +kernel
theorem cX1_fewestLies : Cond.code MX1_fewestLies.1 MX1_fewestLies.2.2.1 MX1_fewestLies.2.2.2.1 MX1_fewestLies.2.2.2.2.1 ∈ zT := z_T_in (i := 1006) (by decide +kernel) rfl
theorem bX1_findWorths : zMb MX1_findWorths = true := by decide +kernel
theorem cX1_findWorths : Cond.code MX1_findWorths.1 MX1_findWorths.2.2.1 MX1_findWorths.2.2.2.1 MX1_findWorths.2.2.2.2.1 ∈ zT := z_T_in (i := 948) (by decide +kernel) rfl
theorem bX1_worthOf : zMb MX1_worthOf = true := by decide +kernel
theorem cX1_worthOf : Cond.code MX1_worthOf.1 MX1_worthOf.2.2.1 MX1_worthOf.2.2.2.1 MX1_worthOf.2.2.2.2.1 ∈ zT := z_T_in (i := 956) (by decide +kernel) rfl
theorem bX1_worthAt : zMb MX1_worthAt = true := by decide +kernel
theorem cX1_worthAt : Cond.code MX1_worthAt.1 MX1_worthAt.2.2.1 MX1_worthAt.2.2.2.1 MX1_worthAt.2.2.2.2.1 ∈ zT := z_T_in (i := 952) (by decide +kernel) rfl
theorem bX1_eventsAt : zMb MX1_eventsAt = true := by decide +kernel
theorem cX1_eventsAt : Cond.code MX1_eventsAt.1 MX1_eventsAt.2.2.1 MX1_eventsAt.2.2.2.1 MX1_eventsAt.2.2.2.2.1 ∈ zT := z_T_in (i := 972) (by decide +kernel) rfl
theorem bX1_price : zMb MX1_price = true := by decide +kernel
theorem cX1_price : Cond.code MX1_price.1 MX1_price.2.2.1 MX1_price.2.2.2.1 MX1_price.2.2.2.2.1 ∈ zT := z_T_in (i := 976) (by decide +kernel) rfl
theorem bX1_findLeast : zMb MX1_findLeast = true := by decide +kernel
theorem cX1_findLeast : Cond.code MX1_findLeast.1 MX1_findLeast.2.2.1 MX1_findLeast.2.2.2.1 MX1_findLeast.2.2.2.2.1 ∈ zT := z_T_in (i := 968) (by decide +kernel) rfl
theorem bX1_tellOrder : zMb MX1_tellOrder = true := by decide +kernel
theorem cX1_tellOrder : Cond.code MX1_tellOrder.1 MX1_tellOrder.2.2.1 MX1_tellOrder.2.2.2.1 MX1_tellOrder.2.2.2.2.1 ∈ zT := z_T_in (i := 980) (by decide +kernel) rfl
theorem bX1_cheapestGuest : zMb MX1_cheapestGuest = true := by decide +kernel
theorem cX1_cheapestGuest : Cond.code MX1_cheapestGuest.1 MX1_cheapestGuest.2.2.1 MX1_cheapestGuest.2.2.2.1 MX1_cheapestGuest.2.2.2.2.1 ∈ zT := z_T_in (i := 984) (by decide +kernel) rfl
theorem bX1_greatestWorth : zMb MX1_greatestWorth = true := by decide +kernel
theorem cX1_greatestWorth : Cond.code MX1_greatestWorth.1 MX1_greatestWorth.2.2.1 MX1_greatestWorth.2.2.2.1 MX1_greatestWorth.2.2.2.2.1 ∈ zT := z_T_in (i := 994) (by decide +kernel) rfl
theorem bX1_findGreatest : zMb MX1_findGreatest = true := by decide +kernel
theorem cX1_findGreatest : Cond.code MX1_findGreatest.1 MX1_findGreatest.2.2.1 MX1_findGreatest.2.2.2.1 MX1_findGreatest.2.2.2.2.1 ∈ zT := z_T_in (i := 998) (by decide +kernel) rfl
theorem bX1_longestStay : zMb MX1_longestStay = true := by decide +kernel
theorem cX1_longestStay : Cond.code MX1_longestStay.1 MX1_longestStay.2.2.1 MX1_longestStay.2.2.2.1 MX1_longestStay.2.2.2.2.1 ∈ zT := z_T_in (i := 936) (by decide +kernel) rfl
theorem bX1_shortestStay : zMb MX1_shortestStay = true := by decide +kernel
theorem cX1_shortestStay : Cond.code MX1_shortestStay.1 MX1_shortestStay.2.2.1 MX1_shortestStay.2.2.2.1 MX1_shortestStay.2.2.2.2.1 ∈ zT := z_T_in (i := 918) (by decide +kernel) rfl
theorem bX1_leastStay : zMb MX1_leastStay = true := by decide +kernel
theorem cX1_leastStay : Cond.code MX1_leastStay.1 MX1_leastStay.2.2.1 MX1_leastStay.2.2.2.1 MX1_leastStay.2.2.2.2.1 ∈ zT := z_T_in (i := 922) (by decide +kernel) rfl
theorem bX1_leastRest : zMb MX1_leastRest = true := by decide +kernel
theorem cX1_leastRest : Cond.code MX1_leastRest.1 MX1_leastRest.2.2.1 MX1_leastRest.2.2.2.1 MX1_leastRest.2.2.2.2.1 ∈ zT := z_T_in (i := 932) (by decide +kernel) rfl
theorem bX2_init : zMb MX2_init = true := by decide +kernel
theorem cX2_init : Cond.code MX2_init.1 MX2_init.2.2.1 MX2_init.2.2.2.1 MX2_init.2.2.2.2.1 ∈ zT := z_T_in (i := 233) (by decide +kernel) rfl
theorem bX2_among : zMb MX2_among = true := by decide +kernel
theorem cX2_among : Cond.code MX2_among.1 MX2_among.2.2.1 MX2_among.2.2.2.1 MX2_among.2.2.2.2.1 ∈ zT := z_T_in (i := 1040) (by decide +kernel) rfl
theorem bX2_without : zMb MX2_without = true := by decide +kernel
theorem cX2_without : Cond.code MX2_without.1 MX2_without.2.2.1 MX2_without.2.2.2.1 MX2_without.2.2.2.2.1 ∈ zT := z_T_in (i := 1015) (by decide +kernel) rfl
theorem bX2_allCanCome : zMb MX2_allCanCome = true := by decide +kernel
theorem cX2_allCanCome : Cond.code MX2_allCanCome.1 MX2_allCanCome.2.2.1 MX2_allCanCome.2.2.2.1 MX2_allCanCome.2.2.2.2.1 ∈ zT := z_T_in (i := 1021) (by decide +kernel) rfl
theorem bX2_stillIn : zMb MX2_stillIn = true := by decide +kernel
theorem cX2_stillIn : Cond.code MX2_stillIn.1 MX2_stillIn.2.2.1 MX2_stillIn.2.2.2.1 MX2_stillIn.2.2.2.2.1 ∈ zT := z_T_in (i := 1028) (by decide +kernel) rfl
theorem bX2_comeNext : zMb MX2_comeNext = true := by decide +kernel
theorem cX2_comeNext : Cond.code MX2_comeNext.1 MX2_comeNext.2.2.1 MX2_comeNext.2.2.2.1 MX2_comeNext.2.2.2.2.1 ∈ zT := z_T_in (i := 1032) (by decide +kernel) rfl
theorem bX3_init : zMb MX3_init = true := by decide +kernel
theorem cX3_init : Cond.code MX3_init.1 MX3_init.2.2.1 MX3_init.2.2.2.1 MX3_init.2.2.2.2.1 ∈ zT := z_T_in (i := 351) (by decide +kernel) rfl
theorem bX3_winningAsk : zMb MX3_winningAsk = true := by decide +kernel
theorem cX3_winningAsk : Cond.code MX3_winningAsk.1 MX3_winningAsk.2.2.1 MX3_winningAsk.2.2.2.1 MX3_winningAsk.2.2.2.2.1 ∈ zT := z_T_in (i := 1167) (by decide +kernel) rfl
theorem bX3_bargainsAtRest : zMb MX3_bargainsAtRest = true := by decide +kernel
theorem cX3_bargainsAtRest : Cond.code MX3_bargainsAtRest.1 MX3_bargainsAtRest.2.2.1 MX3_bargainsAtRest.2.2.2.1 MX3_bargainsAtRest.2.2.2.2.1 ∈ zT := z_T_in (i := 1180) (by decide +kernel) rfl
theorem bX3_isBestAgainst : zMb MX3_isBestAgainst = true := by decide +kernel
theorem cX3_isBestAgainst : Cond.code MX3_isBestAgainst.1 MX3_isBestAgainst.2.2.1 MX3_isBestAgainst.2.2.2.1 MX3_isBestAgainst.2.2.2.2.1 ∈ zT := z_T_in (i := 1184) (by decide +kernel) rfl
theorem bX3_gain : zMb MX3_gain = true := by decide +kernel
theorem cX3_gain : Cond.code MX3_gain.1 MX3_gain.2.2.1 MX3_gain.2.2.2.1 MX3_gain.2.2.2.2.1 ∈ zT := z_T_in (i := 1187) (by decide +kernel) rfl
theorem bX3_power : zMb MX3_power = true := by decide +kernel
theorem cX3_power : Cond.code MX3_power.1 MX3_power.2.2.1 MX3_power.2.2.2.1 MX3_power.2.2.2.2.1 ∈ zT := z_T_in (i := 1158) (by decide +kernel) rfl
theorem bX3_chance : zMb MX3_chance = true := by decide +kernel
theorem cX3_chance : Cond.code MX3_chance.1 MX3_chance.2.2.1 MX3_chance.2.2.2.1 MX3_chance.2.2.2.2.1 ∈ zT := z_T_in (i := 1154) (by decide +kernel) rfl
theorem bX3_sow : zMb MX3_sow = true := by decide +kernel
theorem cX3_sow : Cond.code MX3_sow.1 MX3_sow.2.2.1 MX3_sow.2.2.2.1 MX3_sow.2.2.2.2.1 ∈ zT := z_T_in (i := 1200) (by decide +kernel) rfl
theorem bX3_draw : zMb MX3_draw = true := by decide +kernel
theorem cX3_draw : Cond.code MX3_draw.1 MX3_draw.2.2.1 MX3_draw.2.2.2.1 MX3_draw.2.2.2.2.1 ∈ zT := z_T_in (i := 1204) (by decide +kernel) rfl
theorem bX4_init : zMb MX4_init = true := by decide +kernel
theorem cX4_init : Cond.code MX4_init.1 MX4_init.2.2.1 MX4_init.2.2.2.1 MX4_init.2.2.2.2.1 ∈ zT := z_T_in (i := 250) (by decide +kernel) rfl
theorem bX4_total : zMb MX4_total = true := by decide +kernel
theorem cX4_total : Cond.code MX4_total.1 MX4_total.2.2.1 MX4_total.2.2.2.1 MX4_total.2.2.2.2.1 ∈ zT := z_T_in (i := 790) (by decide +kernel) rfl
theorem bX4_makeRoom : zMb MX4_makeRoom = true := by decide +kernel
theorem cX4_makeRoom : Cond.code MX4_makeRoom.1 MX4_makeRoom.2.2.1 MX4_makeRoom.2.2.2.1 MX4_makeRoom.2.2.2.2.1 ∈ zT := z_T_in (i := 796) (by decide +kernel) rfl
theorem bX4_readTold : zMb MX4_readTold = true := by decide +kernel
theorem cX4_readTold : Cond.code MX4_readTold.1 MX4_readTold.2.2.1 MX4_readTold.2.2.2.1 MX4_readTold.2.2.2.2.1 ∈ zT := z_T_in (i := 800) (by decide +kernel) rfl
theorem bX4_lookBehind : zMb MX4_lookBehind = true := by decide +kernel
theorem cX4_lookBehind : Cond.code MX4_lookBehind.1 MX4_lookBehind.2.2.1 MX4_lookBehind.2.2.2.1 MX4_lookBehind.2.2.2.2.1 ∈ zT := z_T_in (i := 809) (by decide +kernel) rfl
theorem bX4_tally : zMb MX4_tally = true := by decide +kernel
theorem cX4_tally : Cond.code MX4_tally.1 MX4_tally.2.2.1 MX4_tally.2.2.2.1 MX4_tally.2.2.2.2.1 ∈ zT := z_T_in (i := 839) (by decide +kernel) rfl
theorem bX4_tallyState : zMb MX4_tallyState = true := by decide +kernel
theorem cX4_tallyState : Cond.code MX4_tallyState.1 MX4_tallyState.2.2.1 MX4_tallyState.2.2.2.1 MX4_tallyState.2.2.2.2.1 ∈ zT := z_T_in (i := 846) (by decide +kernel) rfl
theorem bX4_eventOf : zMb MX4_eventOf = true := by decide +kernel
theorem cX4_eventOf : Cond.code MX4_eventOf.1 MX4_eventOf.2.2.1 MX4_eventOf.2.2.2.1 MX4_eventOf.2.2.2.2.1 ∈ zT := z_T_in (i := 825) (by decide +kernel) rfl
theorem bX4_leastRow : zMb MX4_leastRow = true := by decide +kernel
theorem cX4_leastRow : Cond.code MX4_leastRow.1 MX4_leastRow.2.2.1 MX4_leastRow.2.2.2.1 MX4_leastRow.2.2.2.2.1 ∈ zT := z_T_in (i := 817) (by decide +kernel) rfl
theorem bX4_waysAhead : zMb MX4_waysAhead = true := by decide +kernel
theorem cX4_waysAhead : Cond.code MX4_waysAhead.1 MX4_waysAhead.2.2.1 MX4_waysAhead.2.2.2.1 MX4_waysAhead.2.2.2.2.1 ∈ zT := z_T_in (i := 835) (by decide +kernel) rfl
theorem bX4_waysMeeting : zMb MX4_waysMeeting = true := by decide +kernel
theorem cX4_waysMeeting : Cond.code MX4_waysMeeting.1 MX4_waysMeeting.2.2.1 MX4_waysMeeting.2.2.2.1 MX4_waysMeeting.2.2.2.2.1 ∈ zT := z_T_in (i := 866) (by decide +kernel) rfl
