theorem bX4_waysBehind : zMb MX4_waysBehind = true := by decide +kernel
theorem cX4_waysBehind : Cond.code MX4_waysBehind.1 MX4_waysBehind.2.2.1 MX4_waysBehind.2.2.2.1 MX4_waysBehind.2.2.2.2.1 ∈ zT := z_T_in (i := 884) (by decide +kernel) rfl
theorem bX4_waysWithin : zMb MX4_waysWithin = true := by decide +kernel
theorem cX4_waysWithin : Cond.code MX4_waysWithin.1 MX4_waysWithin.2.2.1 MX4_waysWithin.2.2.2.1 MX4_waysWithin.2.2.2.2.1 ∈ zT := z_T_in (i := 893) (by decide +kernel) rfl
theorem bX4_sumOfNext : zMb MX4_sumOfNext = true := by decide +kernel
theorem cX4_sumOfNext : Cond.code MX4_sumOfNext.1 MX4_sumOfNext.2.2.1 MX4_sumOfNext.2.2.2.1 MX4_sumOfNext.2.2.2.2.1 ∈ zT := z_T_in (i := 897) (by decide +kernel) rfl
theorem bX4_fullestSet : zMb MX4_fullestSet = true := by decide +kernel
theorem cX4_fullestSet : Cond.code MX4_fullestSet.1 MX4_fullestSet.2.2.1 MX4_fullestSet.2.2.2.1 MX4_fullestSet.2.2.2.2.1 ∈ zT := z_T_in (i := 905) (by decide +kernel) rfl
theorem bX4_openOutcomes : zMb MX4_openOutcomes = true := by decide +kernel
theorem cX4_openOutcomes : Cond.code MX4_openOutcomes.1 MX4_openOutcomes.2.2.1 MX4_openOutcomes.2.2.2.1 MX4_openOutcomes.2.2.2.2.1 ∈ zT := z_T_in (i := 1142) (by decide +kernel) rfl
theorem bX4_numberOpenPairs : zMb MX4_numberOpenPairs = true := by decide +kernel
theorem cX4_numberOpenPairs : Cond.code MX4_numberOpenPairs.1 MX4_numberOpenPairs.2.2.1 MX4_numberOpenPairs.2.2.2.1 MX4_numberOpenPairs.2.2.2.2.1 ∈ zT := z_T_in (i := 1146) (by decide +kernel) rfl
theorem bX4_outcomesThen : zMb MX4_outcomesThen = true := by decide +kernel
theorem cX4_outcomesThen : Cond.code MX4_outcomesThen.1 MX4_outcomesThen.2.2.1 MX4_outcomesThen.2.2.2.1 MX4_outcomesThen.2.2.2.2.1 ∈ zT := z_T_in (i := 1151) (by decide +kernel) rfl
theorem bX5_init : zMb MX5_init = true := by decide +kernel
theorem cX5_init : Cond.code MX5_init.1 MX5_init.2.2.1 MX5_init.2.2.2.1 MX5_init.2.2.2.2.1 ∈ zT := z_T_in (i := 194) (by decide +kernel) rfl
theorem bX5_stage : zMb MX5_stage = true := by decide +kernel
theorem cX5_stage : Cond.code MX5_stage.1 MX5_stage.2.2.1 MX5_stage.2.2.2.1 MX5_stage.2.2.2.2.1 ∈ zT := z_T_in (i := 493) (by decide +kernel) rfl
theorem bX5_push : zMb MX5_push = true := by decide +kernel
theorem cX5_push : Cond.code MX5_push.1 MX5_push.2.2.1 MX5_push.2.2.2.1 MX5_push.2.2.2.2.1 ∈ zT := z_T_in (i := 540) (by decide +kernel) rfl
theorem bX5_pop : zMb MX5_pop = true := by decide +kernel
theorem cX5_pop : Cond.code MX5_pop.1 MX5_pop.2.2.1 MX5_pop.2.2.2.1 MX5_pop.2.2.2.2.1 ∈ zT := z_T_in (i := 775) (by decide +kernel) rfl
theorem bX5_pairsChanged : zMb MX5_pairsChanged = true := by decide +kernel
theorem cX5_pairsChanged : Cond.code MX5_pairsChanged.1 MX5_pairsChanged.2.2.1 MX5_pairsChanged.2.2.2.1 MX5_pairsChanged.2.2.2.2.1 ∈ zT := z_T_in (i := 529) (by decide +kernel) rfl
theorem bX5_forgetSteps : zMb MX5_forgetSteps = true := by decide +kernel
theorem cX5_forgetSteps : Cond.code MX5_forgetSteps.1 MX5_forgetSteps.2.2.1 MX5_forgetSteps.2.2.2.1 MX5_forgetSteps.2.2.2.2.1 ∈ zT := z_T_in (i := 465) (by decide +kernel) rfl
theorem bX5_forgetKept : zMb MX5_forgetKept = true := by decide +kernel
theorem cX5_forgetKept : Cond.code MX5_forgetKept.1 MX5_forgetKept.2.2.1 MX5_forgetKept.2.2.2.1 MX5_forgetKept.2.2.2.2.1 ∈ zT := z_T_in (i := 469) (by decide +kernel) rfl
theorem bX5_hold : zMb MX5_hold = true := by decide +kernel
theorem cX5_hold : Cond.code MX5_hold.1 MX5_hold.2.2.1 MX5_hold.2.2.2.1 MX5_hold.2.2.2.2.1 ∈ zT := z_T_in (i := 1213) (by decide +kernel) rfl
theorem bX5_bringBack : zMb MX5_bringBack = true := by decide +kernel
theorem cX5_bringBack : Cond.code MX5_bringBack.1 MX5_bringBack.2.2.1 MX5_bringBack.2.2.2.1 MX5_bringBack.2.2.2.2.1 ∈ zT := z_T_in (i := 1221) (by decide +kernel) rfl
theorem bX6_init : zMb MX6_init = true := by decide +kernel
theorem cX6_init : Cond.code MX6_init.1 MX6_init.2.2.1 MX6_init.2.2.2.1 MX6_init.2.2.2.2.1 ∈ zT := z_T_in (i := 218) (by decide +kernel) rfl
theorem bX6_clear : zMb MX6_clear = true := by decide +kernel
theorem cX6_clear : Cond.code MX6_clear.1 MX6_clear.2.2.1 MX6_clear.2.2.2.1 MX6_clear.2.2.2.2.1 ∈ zT := z_T_in (i := 751) (by decide +kernel) rfl
theorem bX6_add : zMb MX6_add = true := by decide +kernel
theorem cX6_add : Cond.code MX6_add.1 MX6_add.2.2.1 MX6_add.2.2.2.1 MX6_add.2.2.2.2.1 ∈ zT := z_T_in (i := 755) (by decide +kernel) rfl
theorem bX6_addFraction : zMb MX6_addFraction = true := by decide +kernel
theorem cX6_addFraction : Cond.code MX6_addFraction.1 MX6_addFraction.2.2.1 MX6_addFraction.2.2.2.1 MX6_addFraction.2.2.2.2.1 ∈ zT := z_T_in (i := 854) (by decide +kernel) rfl
theorem bX6_commonDivisor : zMb MX6_commonDivisor = true := by decide +kernel
theorem cX6_commonDivisor : Cond.code MX6_commonDivisor.1 MX6_commonDivisor.2.2.1 MX6_commonDivisor.2.2.2.1 MX6_commonDivisor.2.2.2.2.1 ∈ zT := z_T_in (i := 857) (by decide +kernel) rfl
theorem bX7_init : zMb MX7_init = true := by decide +kernel
theorem cX7_init : Cond.code MX7_init.1 MX7_init.2.2.1 MX7_init.2.2.2.1 MX7_init.2.2.2.2.1 ∈ zT := z_T_in (i := 364) (by decide +kernel) rfl
theorem bX7_read : zMb MX7_read = true := by decide +kernel
theorem cX7_read : Cond.code MX7_read.1 MX7_read.2.2.1 MX7_read.2.2.2.1 MX7_read.2.2.2.2.1 ∈ zT := z_T_in (i := 551) (by decide +kernel) rfl
theorem bX7_emit : zMb MX7_emit = true := by decide +kernel
theorem cX7_emit : Cond.code MX7_emit.1 MX7_emit.2.2.1 MX7_emit.2.2.2.1 MX7_emit.2.2.2.2.1 ∈ zT := z_T_in (i := 558) (by decide +kernel) rfl
theorem bX7_here : zMb MX7_here = true := by decide +kernel
theorem cX7_here : Cond.code MX7_here.1 MX7_here.2.2.1 MX7_here.2.2.2.1 MX7_here.2.2.2.2.1 ∈ zT := z_T_in (i := 570) (by decide +kernel) rfl
theorem bX7_readLevel : zMb MX7_readLevel = true := by decide +kernel
theorem cX7_readLevel : Cond.code MX7_readLevel.1 MX7_readLevel.2.2.1 MX7_readLevel.2.2.2.1 MX7_readLevel.2.2.2.2.1 ∈ zT := z_T_in (i := 562) (by decide +kernel) rfl
theorem bX7_levelOf : zMb MX7_levelOf = true := by decide +kernel
theorem cX7_levelOf : Cond.code MX7_levelOf.1 MX7_levelOf.2.2.1 MX7_levelOf.2.2.2.1 MX7_levelOf.2.2.2.2.1 ∈ zT := z_T_in (i := 666) (by decide +kernel) rfl
theorem bX7_readWithin : zMb MX7_readWithin = true := by decide +kernel
theorem cX7_readWithin : Cond.code MX7_readWithin.1 MX7_readWithin.2.2.1 MX7_readWithin.2.2.2.1 MX7_readWithin.2.2.2.2.1 ∈ zT := z_T_in (i := 566) (by decide +kernel) rfl
theorem bX7_readThing : zMb MX7_readThing = true := by decide +kernel
theorem cX7_readThing : Cond.code MX7_readThing.1 MX7_readThing.2.2.1 MX7_readThing.2.2.2.1 MX7_readThing.2.2.2.2.1 ∈ zT := z_T_in (i := 574) (by decide +kernel) rfl
theorem bX7_readNumber : zMb MX7_readNumber = true := by decide +kernel
theorem cX7_readNumber : Cond.code MX7_readNumber.1 MX7_readNumber.2.2.1 MX7_readNumber.2.2.2.1 MX7_readNumber.2.2.2.2.1 ∈ zT := z_T_in (i := 578) (by decide +kernel) rfl
theorem bX7_worth : zMb MX7_worth = true := by decide +kernel
theorem cX7_worth : Cond.code MX7_worth.1 MX7_worth.2.2.1 MX7_worth.2.2.2.1 MX7_worth.2.2.2.2.1 ∈ zT := z_T_in (i := 960) (by decide +kernel) rfl
theorem bX7_done : zMb MX7_done = true := by decide +kernel
theorem cX7_done : Cond.code MX7_done.1 MX7_done.2.2.1 MX7_done.2.2.2.1 MX7_done.2.2.2.2.1 ∈ zT := z_T_in (i := 963) (by decide +kernel) rfl
theorem bX8_init : zMb MX8_init = true := by decide +kernel
theorem cX8_init : Cond.code MX8_init.1 MX8_init.2.2.1 MX8_init.2.2.2.1 MX8_init.2.2.2.2.1 ∈ zT := z_T_in (i := 132) (by decide +kernel) rfl
theorem bX8_add : zMb MX8_add = true := by decide +kernel
theorem cX8_add : Cond.code MX8_add.1 MX8_add.2.2.1 MX8_add.2.2.2.1 MX8_add.2.2.2.2.1 ∈ zT := z_T_in (i := 429) (by decide +kernel) rfl
theorem bX8_cut : zMb MX8_cut = true := by decide +kernel
theorem cX8_cut : Cond.code MX8_cut.1 MX8_cut.2.2.1 MX8_cut.2.2.2.1 MX8_cut.2.2.2.2.1 ∈ zT := z_T_in (i := 437) (by decide +kernel) rfl
theorem bX8_clear : zMb MX8_clear = true := by decide +kernel
theorem cX8_clear : Cond.code MX8_clear.1 MX8_clear.2.2.1 MX8_clear.2.2.2.1 MX8_clear.2.2.2.2.1 ∈ zT := z_T_in (i := 473) (by decide +kernel) rfl
theorem bX8_at : zMb MX8_at = true := by decide +kernel
theorem cX8_at : Cond.code MX8_at.1 MX8_at.2.2.1 MX8_at.2.2.2.1 MX8_at.2.2.2.2.1 ∈ zT := z_T_in (i := 452) (by decide +kernel) rfl
theorem bX8_digit : zMb MX8_digit = true := by decide +kernel
theorem cX8_digit : Cond.code MX8_digit.1 MX8_digit.2.2.1 MX8_digit.2.2.2.1 MX8_digit.2.2.2.2.1 ∈ zT := z_T_in (i := 456) (by decide +kernel) rfl
theorem bX8_toldBy : zMb MX8_toldBy = true := by decide +kernel
theorem cX8_toldBy : Cond.code MX8_toldBy.1 MX8_toldBy.2.2.1 MX8_toldBy.2.2.2.1 MX8_toldBy.2.2.2.2.1 ∈ zT := z_T_in (i := 489) (by decide +kernel) rfl
theorem bX8_faultInGuests : zMb MX8_faultInGuests = true := by decide +kernel
theorem cX8_faultInGuests : Cond.code MX8_faultInGuests.1 MX8_faultInGuests.2.2.1 MX8_faultInGuests.2.2.2.1 MX8_faultInGuests.2.2.2.2.1 ∈ zT := z_T_in (i := 445) (by decide +kernel) rfl
theorem bX8_faultInMeetings : zMb MX8_faultInMeetings = true := by decide +kernel
theorem cX8_faultInMeetings : Cond.code MX8_faultInMeetings.1 MX8_faultInMeetings.2.2.1 MX8_faultInMeetings.2.2.2.1 MX8_faultInMeetings.2.2.2.2.1 ∈ zT := z_T_in (i := 481) (by decide +kernel) rfl
theorem bX8_goodInMeetings : zMb MX8_goodInMeetings = true := by decide +kernel
theorem cX8_goodInMeetings : Cond.code MX8_goodInMeetings.1 MX8_goodInMeetings.2.2.1 MX8_goodInMeetings.2.2.2.1 MX8_goodInMeetings.2.2.2.2.1 ∈ zT := z_T_in (i := 485) (by decide +kernel) rfl
theorem bX8_faultInStory : zMb MX8_faultInStory = true := by decide +kernel
theorem cX8_faultInStory : Cond.code MX8_faultInStory.1 MX8_faultInStory.2.2.1 MX8_faultInStory.2.2.2.1 MX8_faultInStory.2.2.2.2.1 ∈ zT := z_T_in (i := 734) (by decide +kernel) rfl
theorem bX8_goodInStory : zMb MX8_goodInStory = true := by decide +kernel
theorem cX8_goodInStory : Cond.code MX8_goodInStory.1 MX8_goodInStory.2.2.1 MX8_goodInStory.2.2.2.1 MX8_goodInStory.2.2.2.2.1 ∈ zT := z_T_in (i := 738) (by decide +kernel) rfl
theorem bX8_actLength : zMb MX8_actLength = true := by decide +kernel
theorem cX8_actLength : Cond.code MX8_actLength.1 MX8_actLength.2.2.1 MX8_actLength.2.2.2.1 MX8_actLength.2.2.2.2.1 ∈ zT := z_T_in (i := 741) (by decide +kernel) rfl
theorem bX9_init : zMb MX9_init = true := by decide +kernel
theorem cX9_init : Cond.code MX9_init.1 MX9_init.2.2.1 MX9_init.2.2.2.1 MX9_init.2.2.2.2.1 ∈ zT := z_T_in (i := 148) (by decide +kernel) rfl
theorem bX9_has : zMb MX9_has = true := by decide +kernel
theorem cX9_has : Cond.code MX9_has.1 MX9_has.2.2.1 MX9_has.2.2.2.1 MX9_has.2.2.2.2.1 ∈ zT := z_T_in (i := 513) (by decide +kernel) rfl
theorem bX9_areTwo : zMb MX9_areTwo = true := by decide +kernel
theorem cX9_areTwo : Cond.code MX9_areTwo.1 MX9_areTwo.2.2.1 MX9_areTwo.2.2.2.1 MX9_areTwo.2.2.2.2.1 ∈ zT := z_T_in (i := 509) (by decide +kernel) rfl
theorem bX9_all : zMb MX9_all = true := by decide +kernel
theorem cX9_all : Cond.code MX9_all.1 MX9_all.2.2.1 MX9_all.2.2.2.1 MX9_all.2.2.2.2.1 ∈ zT := z_T_in (i := 767) (by decide +kernel) rfl
theorem bX9_add : zMb MX9_add = true := by decide +kernel
theorem cX9_add : Cond.code MX9_add.1 MX9_add.2.2.1 MX9_add.2.2.2.1 MX9_add.2.2.2.2.1 ∈ zT := z_T_in (i := 461) (by decide +kernel) rfl
theorem bX9_openOf : zMb MX9_openOf = true := by decide +kernel
theorem cX9_openOf : Cond.code MX9_openOf.1 MX9_openOf.2.2.1 MX9_openOf.2.2.2.1 MX9_openOf.2.2.2.2.1 ∈ zT := z_T_in (i := 763) (by decide +kernel) rfl
theorem bX9_about : zMb MX9_about = true := by decide +kernel
theorem cX9_about : Cond.code MX9_about.1 MX9_about.2.2.1 MX9_about.2.2.2.1 MX9_about.2.2.2.2.1 ∈ zT := z_T_in (i := 517) (by decide +kernel) rfl
theorem bX9_put : zMb MX9_put = true := by decide +kernel
theorem cX9_put : Cond.code MX9_put.1 MX9_put.2.2.1 MX9_put.2.2.2.1 MX9_put.2.2.2.2.1 ∈ zT := z_T_in (i := 521) (by decide +kernel) rfl
theorem bX9_putHalf : zMb MX9_putHalf = true := by decide +kernel
theorem cX9_putHalf : Cond.code MX9_putHalf.1 MX9_putHalf.2.2.1 MX9_putHalf.2.2.2.1 MX9_putHalf.2.2.2.2.1 ∈ zT := z_T_in (i := 525) (by decide +kernel) rfl
theorem bX9_tell : zMb MX9_tell = true := by decide +kernel
theorem cX9_tell : Cond.code MX9_tell.1 MX9_tell.2.2.1 MX9_tell.2.2.2.1 MX9_tell.2.2.2.2.1 ∈ zT := z_T_in (i := 505) (by decide +kernel) rfl
theorem bX9_hide : zMb MX9_hide = true := by decide +kernel
theorem cX9_hide : Cond.code MX9_hide.1 MX9_hide.2.2.1 MX9_hide.2.2.2.1 MX9_hide.2.2.2.2.1 ∈ zT := z_T_in (i := 696) (by decide +kernel) rfl
theorem bX9_copy : zMb MX9_copy = true := by decide +kernel
theorem cX9_copy : Cond.code MX9_copy.1 MX9_copy.2.2.1 MX9_copy.2.2.2.1 MX9_copy.2.2.2.2.1 ∈ zT := z_T_in (i := 710) (by decide +kernel) rfl
theorem bX9_move : zMb MX9_move = true := by decide +kernel
theorem cX9_move : Cond.code MX9_move.1 MX9_move.2.2.1 MX9_move.2.2.2.1 MX9_move.2.2.2.2.1 ∈ zT := z_T_in (i := 718) (by decide +kernel) rfl
theorem bX9_makeFirm : zMb MX9_makeFirm = true := by decide +kernel
theorem cX9_makeFirm : Cond.code MX9_makeFirm.1 MX9_makeFirm.2.2.1 MX9_makeFirm.2.2.2.1 MX9_makeFirm.2.2.2.2.1 ∈ zT := z_T_in (i := 726) (by decide +kernel) rfl
theorem bX9_readSheet : zMb MX9_readSheet = true := by decide +kernel
theorem cX9_readSheet : Cond.code MX9_readSheet.1 MX9_readSheet.2.2.1 MX9_readSheet.2.2.2.1 MX9_readSheet.2.2.2.2.1 ∈ zT := z_T_in (i := 674) (by decide +kernel) rfl
theorem bX9_roomsTogether : zMb MX9_roomsTogether = true := by decide +kernel
theorem cX9_roomsTogether : Cond.code MX9_roomsTogether.1 MX9_roomsTogether.2.2.1 MX9_roomsTogether.2.2.2.1 MX9_roomsTogether.2.2.2.2.1 ∈ zT := z_T_in (i := 680) (by decide +kernel) rfl
theorem bX9_pairsTold : zMb MX9_pairsTold = true := by decide +kernel
theorem cX9_pairsTold : Cond.code MX9_pairsTold.1 MX9_pairsTold.2.2.1 MX9_pairsTold.2.2.2.1 MX9_pairsTold.2.2.2.2.1 ∈ zT := z_T_in (i := 759) (by decide +kernel) rfl
theorem bX9_mates : zMb MX9_mates = true := by decide +kernel
theorem cX9_mates : Cond.code MX9_mates.1 MX9_mates.2.2.1 MX9_mates.2.2.2.1 MX9_mates.2.2.2.2.1 ∈ zT := z_T_in (i := 805) (by decide +kernel) rfl
theorem bX9_likeThat : zMb MX9_likeThat = true := by decide +kernel
theorem cX9_likeThat : Cond.code MX9_likeThat.1 MX9_likeThat.2.2.1 MX9_likeThat.2.2.2.1 MX9_likeThat.2.2.2.2.1 ∈ zT := z_T_in (i := 1196) (by decide +kernel) rfl
theorem bX9_packed : zMb MX9_packed = true := by decide +kernel
theorem cX9_packed : Cond.code MX9_packed.1 MX9_packed.2.2.1 MX9_packed.2.2.2.1 MX9_packed.2.2.2.2.1 ∈ zT := z_T_in (i := 500) (by decide +kernel) rfl
theorem bX9_unpack : zMb MX9_unpack = true := by decide +kernel
theorem cX9_unpack : Cond.code MX9_unpack.1 MX9_unpack.2.2.1 MX9_unpack.2.2.2.1 MX9_unpack.2.2.2.2.1 ∈ zT := z_T_in (i := 782) (by decide +kernel) rfl
theorem bX9_save : zMb MX9_save = true := by decide +kernel
theorem cX9_save : Cond.code MX9_save.1 MX9_save.2.2.1 MX9_save.2.2.2.1 MX9_save.2.2.2.2.1 ∈ zT := z_T_in (i := 497) (by decide +kernel) rfl
theorem bX9_load : zMb MX9_load = true := by decide +kernel
theorem cX9_load : Cond.code MX9_load.1 MX9_load.2.2.1 MX9_load.2.2.2.1 MX9_load.2.2.2.2.1 ∈ zT := z_T_in (i := 779) (by decide +kernel) rfl
theorem bX10_init : zMb MX10_init = true := by decide +kernel
theorem cX10_init : Cond.code MX10_init.1 MX10_init.2.2.1 MX10_init.2.2.2.1 MX10_init.2.2.2.2.1 ∈ zT := z_T_in (i := 124) (by decide +kernel) rfl
theorem bX10_sign : zMb MX10_sign = true := by decide +kernel
theorem cX10_sign : Cond.code MX10_sign.1 MX10_sign.2.2.1 MX10_sign.2.2.2.1 MX10_sign.2.2.2.2.1 ∈ zT := z_T_in (i := 425) (by decide +kernel) rfl
theorem bX10_end : zMb MX10_end = true := by decide +kernel
theorem cX10_end : Cond.code MX10_end.1 MX10_end.2.2.1 MX10_end.2.2.2.1 MX10_end.2.2.2.2.1 ∈ zT := z_T_in (i := 433) (by decide +kernel) rfl
theorem bX10_guests : zMb MX10_guests = true := by decide +kernel
theorem cX10_guests : Cond.code MX10_guests.1 MX10_guests.2.2.1 MX10_guests.2.2.2.1 MX10_guests.2.2.2.2.1 ∈ zT := z_T_in (i := 441) (by decide +kernel) rfl
theorem bX10_meetings : zMb MX10_meetings = true := by decide +kernel
theorem cX10_meetings : Cond.code MX10_meetings.1 MX10_meetings.2.2.1 MX10_meetings.2.2.2.1 MX10_meetings.2.2.2.2.1 ∈ zT := z_T_in (i := 477) (by decide +kernel) rfl
theorem bX10_rule : zMb MX10_rule = true := by decide +kernel
theorem cX10_rule : Cond.code MX10_rule.1 MX10_rule.2.2.1 MX10_rule.2.2.2.1 MX10_rule.2.2.2.2.1 ∈ zT := z_T_in (i := 547) (by decide +kernel) rfl
theorem bX10_guest : zMb MX10_guest = true := by decide +kernel
theorem cX10_guest : Cond.code MX10_guest.1 MX10_guest.2.2.1 MX10_guest.2.2.2.1 MX10_guest.2.2.2.2.1 ∈ zT := z_T_in (i := 1234) (by decide +kernel) rfl
theorem bX10_pair : zMb MX10_pair = true := by decide +kernel
theorem cX10_pair : Cond.code MX10_pair.1 MX10_pair.2.2.1 MX10_pair.2.2.2.1 MX10_pair.2.2.2.2.1 ∈ zT := z_T_in (i := 1303) (by decide +kernel) rfl
theorem bX10_sheet : zMb MX10_sheet = true := by decide +kernel
theorem cX10_sheet : Cond.code MX10_sheet.1 MX10_sheet.2.2.1 MX10_sheet.2.2.2.1 MX10_sheet.2.2.2.2.1 ∈ zT := z_T_in (i := 670) (by decide +kernel) rfl
theorem bX10_tells : zMb MX10_tells = true := by decide +kernel
theorem cX10_tells : Cond.code MX10_tells.1 MX10_tells.2.2.1 MX10_tells.2.2.2.1 MX10_tells.2.2.2.2.1 ∈ zT := z_T_in (i := 684) (by decide +kernel) rfl
theorem bX10_hides : zMb MX10_hides = true := by decide +kernel
theorem cX10_hides : Cond.code MX10_hides.1 MX10_hides.2.2.1 MX10_hides.2.2.2.1 MX10_hides.2.2.2.2.1 ∈ zT := z_T_in (i := 692) (by decide +kernel) rfl
theorem bX10_copies : zMb MX10_copies = true := by decide +kernel
theorem cX10_copies : Cond.code MX10_copies.1 MX10_copies.2.2.1 MX10_copies.2.2.2.1 MX10_copies.2.2.2.2.1 ∈ zT := z_T_in (i := 706) (by decide +kernel) rfl
theorem bX10_moves : zMb MX10_moves = true := by decide +kernel
theorem cX10_moves : Cond.code MX10_moves.1 MX10_moves.2.2.1 MX10_moves.2.2.2.1 MX10_moves.2.2.2.2.1 ∈ zT := z_T_in (i := 714) (by decide +kernel) rfl
theorem bX10_strict : zMb MX10_strict = true := by decide +kernel
theorem cX10_strict : Cond.code MX10_strict.1 MX10_strict.2.2.1 MX10_strict.2.2.2.1 MX10_strict.2.2.2.2.1 ∈ zT := z_T_in (i := 722) (by decide +kernel) rfl
theorem bX10_story : zMb MX10_story = true := by decide +kernel
theorem cX10_story : Cond.code MX10_story.1 MX10_story.2.2.1 MX10_story.2.2.2.1 MX10_story.2.2.2.2.1 ∈ zT := z_T_in (i := 730) (by decide +kernel) rfl
