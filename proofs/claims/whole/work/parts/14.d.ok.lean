theorem bX11_tellsOf : zMb MX11_tellsOf = true := by decide +kernel
theorem cX11_tellsOf : Cond.code MX11_tellsOf.1 MX11_tellsOf.2.2.1 MX11_tellsOf.2.2.2.1 MX11_tellsOf.2.2.2.2.1 ∈ zT := z_T_in (i := 1478) (by decide +kernel) rfl
theorem bX11_hidesOne : zMb MX11_hidesOne = true := by decide +kernel
theorem cX11_hidesOne : Cond.code MX11_hidesOne.1 MX11_hidesOne.2.2.1 MX11_hidesOne.2.2.2.1 MX11_hidesOne.2.2.2.2.1 ∈ zT := z_T_in (i := 1491) (by decide +kernel) rfl
theorem bX11_copiesTo : zMb MX11_copiesTo = true := by decide +kernel
theorem cX11_copiesTo : Cond.code MX11_copiesTo.1 MX11_copiesTo.2.2.1 MX11_copiesTo.2.2.2.1 MX11_copiesTo.2.2.2.2.1 ∈ zT := z_T_in (i := 1500) (by decide +kernel) rfl
theorem bX11_movesTo : zMb MX11_movesTo = true := by decide +kernel
theorem cX11_movesTo : Cond.code MX11_movesTo.1 MX11_movesTo.2.2.1 MX11_movesTo.2.2.2.1 MX11_movesTo.2.2.2.2.1 ∈ zT := z_T_in (i := 1508) (by decide +kernel) rfl
theorem bX11_makesStrict : zMb MX11_makesStrict = true := by decide +kernel
theorem cX11_makesStrict : Cond.code MX11_makesStrict.1 MX11_makesStrict.2.2.1 MX11_makesStrict.2.2.2.1 MX11_makesStrict.2.2.2.2.1 ∈ zT := z_T_in (i := 1517) (by decide +kernel) rfl
theorem bX11_tells : zMb MX11_tells = true := by decide +kernel
theorem cX11_tells : Cond.code MX11_tells.1 MX11_tells.2.2.1 MX11_tells.2.2.2.1 MX11_tells.2.2.2.2.1 ∈ zT := z_T_in (i := 1474) (by decide +kernel) rfl
theorem bX11_hides : zMb MX11_hides = true := by decide +kernel
theorem cX11_hides : Cond.code MX11_hides.1 MX11_hides.2.2.1 MX11_hides.2.2.2.1 MX11_hides.2.2.2.2.1 ∈ zT := z_T_in (i := 1487) (by decide +kernel) rfl
theorem bX11_copies : zMb MX11_copies = true := by decide +kernel
theorem cX11_copies : Cond.code MX11_copies.1 MX11_copies.2.2.1 MX11_copies.2.2.2.1 MX11_copies.2.2.2.2.1 ∈ zT := z_T_in (i := 1496) (by decide +kernel) rfl
theorem bX11_moves : zMb MX11_moves = true := by decide +kernel
theorem cX11_moves : Cond.code MX11_moves.1 MX11_moves.2.2.1 MX11_moves.2.2.2.1 MX11_moves.2.2.2.2.1 ∈ zT := z_T_in (i := 1504) (by decide +kernel) rfl
theorem bX11_strict : zMb MX11_strict = true := by decide +kernel
theorem cX11_strict : Cond.code MX11_strict.1 MX11_strict.2.2.1 MX11_strict.2.2.2.1 MX11_strict.2.2.2.2.1 ∈ zT := z_T_in (i := 1513) (by decide +kernel) rfl
theorem bX11_readsAct : zMb MX11_readsAct = true := by decide +kernel
theorem cX11_readsAct : Cond.code MX11_readsAct.1 MX11_readsAct.2.2.1 MX11_readsAct.2.2.2.1 MX11_readsAct.2.2.2.2.1 ∈ zT := z_T_in (i := 1525) (by decide +kernel) rfl
theorem bX11_does : zMb MX11_does = true := by decide +kernel
theorem cX11_does : Cond.code MX11_does.1 MX11_does.2.2.1 MX11_does.2.2.2.1 MX11_does.2.2.2.2.1 ∈ zT := z_T_in (i := 1530) (by decide +kernel) rfl
theorem bX11_story : zMb MX11_story = true := by decide +kernel
theorem cX11_story : Cond.code MX11_story.1 MX11_story.2.2.1 MX11_story.2.2.2.1 MX11_story.2.2.2.2.1 ∈ zT := z_T_in (i := 1521) (by decide +kernel) rfl
theorem bX11_init : zMb MX11_init = true := by decide +kernel
theorem cX11_init : Cond.code MX11_init.1 MX11_init.2.2.1 MX11_init.2.2.2.1 MX11_init.2.2.2.2.1 ∈ zT := z_T_in (i := 1542) (by decide +kernel) rfl
theorem bX11_last : zMb MX11_last = true := by decide +kernel
theorem cX11_last : Cond.code MX11_last.1 MX11_last.2.2.1 MX11_last.2.2.2.1 MX11_last.2.2.2.2.1 ∈ zT := z_T_in (i := 1712) (by decide +kernel) rfl
theorem bX11_eventsTo : zMb MX11_eventsTo = true := by decide +kernel
theorem cX11_eventsTo : Cond.code MX11_eventsTo.1 MX11_eventsTo.2.2.1 MX11_eventsTo.2.2.2.1 MX11_eventsTo.2.2.2.2.1 ∈ zT := z_T_in (i := 1792) (by decide +kernel) rfl
theorem bX11_laysRules : zMb MX11_laysRules = true := by decide +kernel
theorem cX11_laysRules : Cond.code MX11_laysRules.1 MX11_laysRules.2.2.1 MX11_laysRules.2.2.2.1 MX11_laysRules.2.2.2.2.1 ∈ zT := z_T_in (i := 1704) (by decide +kernel) rfl
theorem bX11_mayCome : zMb MX11_mayCome = true := by decide +kernel
theorem cX11_mayCome : Cond.code MX11_mayCome.1 MX11_mayCome.2.2.1 MX11_mayCome.2.2.2.1 MX11_mayCome.2.2.2.2.1 ∈ zT := z_T_in (i := 1723) (by decide +kernel) rfl
theorem bX11_leads : zMb MX11_leads = true := by decide +kernel
theorem cX11_leads : Cond.code MX11_leads.1 MX11_leads.2.2.1 MX11_leads.2.2.2.1 MX11_leads.2.2.2.2.1 ∈ zT := z_T_in (i := 1716) (by decide +kernel) rfl
theorem bX11_laysWays : zMb MX11_laysWays = true := by decide +kernel
theorem cX11_laysWays : Cond.code MX11_laysWays.1 MX11_laysWays.2.2.1 MX11_laysWays.2.2.2.1 MX11_laysWays.2.2.2.2.1 ∈ zT := z_T_in (i := 1708) (by decide +kernel) rfl
theorem bX11_laysAll : zMb MX11_laysAll = true := by decide +kernel
theorem cX11_laysAll : Cond.code MX11_laysAll.1 MX11_laysAll.2.2.1 MX11_laysAll.2.2.2.1 MX11_laysAll.2.2.2.2.1 ∈ zT := z_T_in (i := 1700) (by decide +kernel) rfl
theorem bX11_laysAhead : zMb MX11_laysAhead = true := by decide +kernel
theorem cX11_laysAhead : Cond.code MX11_laysAhead.1 MX11_laysAhead.2.2.1 MX11_laysAhead.2.2.2.1 MX11_laysAhead.2.2.2.2.1 ∈ zT := z_T_in (i := 1735) (by decide +kernel) rfl
theorem bX11_orders : zMb MX11_orders = true := by decide +kernel
theorem cX11_orders : Cond.code MX11_orders.1 MX11_orders.2.2.1 MX11_orders.2.2.2.1 MX11_orders.2.2.2.2.1 ∈ zT := z_T_in (i := 1696) (by decide +kernel) rfl
theorem bX11_first : zMb MX11_first = true := by decide +kernel
theorem cX11_first : Cond.code MX11_first.1 MX11_first.2.2.1 MX11_first.2.2.2.1 MX11_first.2.2.2.2.1 ∈ zT := z_T_in (i := 1727) (by decide +kernel) rfl
theorem bX11_comesWhen : zMb MX11_comesWhen = true := by decide +kernel
theorem cX11_comesWhen : Cond.code MX11_comesWhen.1 MX11_comesWhen.2.2.1 MX11_comesWhen.2.2.2.1 MX11_comesWhen.2.2.2.2.1 ∈ zT := z_T_in (i := 1739) (by decide +kernel) rfl
theorem bX11_metWays : zMb MX11_metWays = true := by decide +kernel
theorem cX11_metWays : Cond.code MX11_metWays.1 MX11_metWays.2.2.1 MX11_metWays.2.2.2.1 MX11_metWays.2.2.2.2.1 ∈ zT := z_T_in (i := 1754) (by decide +kernel) rfl
theorem bX11_before : zMb MX11_before = true := by decide +kernel
theorem cX11_before : Cond.code MX11_before.1 MX11_before.2.2.1 MX11_before.2.2.2.1 MX11_before.2.2.2.2.1 ∈ zT := z_T_in (i := 1731) (by decide +kernel) rfl
theorem bX11_met : zMb MX11_met = true := by decide +kernel
theorem cX11_met : Cond.code MX11_met.1 MX11_met.2.2.1 MX11_met.2.2.2.1 MX11_met.2.2.2.2.1 ∈ zT := z_T_in (i := 1750) (by decide +kernel) rfl
theorem bX11_sure : zMb MX11_sure = true := by decide +kernel
theorem cX11_sure : Cond.code MX11_sure.1 MX11_sure.2.2.1 MX11_sure.2.2.2.1 MX11_sure.2.2.2.2.1 ∈ zT := z_T_in (i := 1758) (by decide +kernel) rfl
theorem bX11_known : zMb MX11_known = true := by decide +kernel
theorem cX11_known : Cond.code MX11_known.1 MX11_known.2.2.1 MX11_known.2.2.2.1 MX11_known.2.2.2.2.1 ∈ zT := z_T_in (i := 1762) (by decide +kernel) rfl
theorem bX11_place : zMb MX11_place = true := by decide +kernel
theorem cX11_place : Cond.code MX11_place.1 MX11_place.2.2.1 MX11_place.2.2.2.1 MX11_place.2.2.2.2.1 ∈ zT := z_T_in (i := 1766) (by decide +kernel) rfl
theorem bX11_beds : zMb MX11_beds = true := by decide +kernel
theorem cX11_beds : Cond.code MX11_beds.1 MX11_beds.2.2.1 MX11_beds.2.2.2.1 MX11_beds.2.2.2.2.1 ∈ zT := z_T_in (i := 1770) (by decide +kernel) rfl
theorem bX11_most : zMb MX11_most = true := by decide +kernel
theorem cX11_most : Cond.code MX11_most.1 MX11_most.2.2.1 MX11_most.2.2.2.1 MX11_most.2.2.2.2.1 ∈ zT := z_T_in (i := 1774) (by decide +kernel) rfl
theorem bX11_evening : zMb MX11_evening = true := by decide +kernel
theorem cX11_evening : Cond.code MX11_evening.1 MX11_evening.2.2.1 MX11_evening.2.2.2.1 MX11_evening.2.2.2.2.1 ∈ zT := z_T_in (i := 1778) (by decide +kernel) rfl
theorem bX11_longest : zMb MX11_longest = true := by decide +kernel
theorem cX11_longest : Cond.code MX11_longest.1 MX11_longest.2.2.1 MX11_longest.2.2.2.1 MX11_longest.2.2.2.2.1 ∈ zT := z_T_in (i := 1786) (by decide +kernel) rfl
theorem bX11_worth : zMb MX11_worth = true := by decide +kernel
theorem cX11_worth : Cond.code MX11_worth.1 MX11_worth.2.2.1 MX11_worth.2.2.2.1 MX11_worth.2.2.2.2.1 ∈ zT := z_T_in (i := 1804) (by decide +kernel) rfl
theorem bX11_laysLeast : zMb MX11_laysLeast = true := by decide +kernel
theorem cX11_laysLeast : Cond.code MX11_laysLeast.1 MX11_laysLeast.2.2.1 MX11_laysLeast.2.2.2.1 MX11_laysLeast.2.2.2.2.1 ∈ zT := z_T_in (i := 1800) (by decide +kernel) rfl
theorem bX11_cheapest : zMb MX11_cheapest = true := by decide +kernel
theorem cX11_cheapest : Cond.code MX11_cheapest.1 MX11_cheapest.2.2.1 MX11_cheapest.2.2.2.1 MX11_cheapest.2.2.2.2.1 ∈ zT := z_T_in (i := 1796) (by decide +kernel) rfl
theorem bX11_dearest : zMb MX11_dearest = true := by decide +kernel
theorem cX11_dearest : Cond.code MX11_dearest.1 MX11_dearest.2.2.1 MX11_dearest.2.2.2.1 MX11_dearest.2.2.2.2.1 ∈ zT := z_T_in (i := 1815) (by decide +kernel) rfl
theorem bX11_wrongly : zMb MX11_wrongly = true := by decide +kernel
theorem cX11_wrongly : Cond.code MX11_wrongly.1 MX11_wrongly.2.2.1 MX11_wrongly.2.2.2.1 MX11_wrongly.2.2.2.2.1 ∈ zT := z_T_in (i := 1823) (by decide +kernel) rfl
theorem bX11_lies : zMb MX11_lies = true := by decide +kernel
theorem cX11_lies : Cond.code MX11_lies.1 MX11_lies.2.2.1 MX11_lies.2.2.2.1 MX11_lies.2.2.2.2.1 ∈ zT := z_T_in (i := 1819) (by decide +kernel) rfl
theorem bX11_alone : zMb MX11_alone = true := by decide +kernel
theorem cX11_alone : Cond.code MX11_alone.1 MX11_alone.2.2.1 MX11_alone.2.2.2.1 MX11_alone.2.2.2.2.1 ∈ zT := z_T_in (i := 1827) (by decide +kernel) rfl
theorem bX11_isFewer : zMb MX11_isFewer = true := by decide +kernel
theorem cX11_isFewer : Cond.code MX11_isFewer.1 MX11_isFewer.2.2.1 MX11_isFewer.2.2.2.1 MX11_isFewer.2.2.2.2.1 ∈ zT := z_T_in (i := 1834) (by decide +kernel) rfl
theorem bX11_canBe : zMb MX11_canBe = true := by decide +kernel
theorem cX11_canBe : Cond.code MX11_canBe.1 MX11_canBe.2.2.1 MX11_canBe.2.2.2.1 MX11_canBe.2.2.2.2.1 ∈ zT := z_T_in (i := 1838) (by decide +kernel) rfl
theorem bX11_clash : zMb MX11_clash = true := by decide +kernel
theorem cX11_clash : Cond.code MX11_clash.1 MX11_clash.2.2.1 MX11_clash.2.2.2.1 MX11_clash.2.2.2.2.1 ∈ zT := z_T_in (i := 1831) (by decide +kernel) rfl
