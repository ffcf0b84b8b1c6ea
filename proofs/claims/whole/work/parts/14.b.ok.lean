theorem bX4_waysBehind : zMb MX4_waysBehind = true := by decide +kernel
theorem cX4_waysBehind : Cond.code MX4_waysBehind.1 MX4_waysBehind.2.2.1 MX4_waysBehind.2.2.2.1 MX4_waysBehind.2.2.2.2.1 ∈ zT := z_T_in (i := 886) (by decide +kernel) rfl
theorem bX4_waysWithin : zMb MX4_waysWithin = true := by decide +kernel
theorem cX4_waysWithin : Cond.code MX4_waysWithin.1 MX4_waysWithin.2.2.1 MX4_waysWithin.2.2.2.1 MX4_waysWithin.2.2.2.2.1 ∈ zT := z_T_in (i := 895) (by decide +kernel) rfl
theorem bX4_sumOfNext : zMb MX4_sumOfNext = true := by decide +kernel
theorem cX4_sumOfNext : Cond.code MX4_sumOfNext.1 MX4_sumOfNext.2.2.1 MX4_sumOfNext.2.2.2.1 MX4_sumOfNext.2.2.2.2.1 ∈ zT := z_T_in (i := 899) (by decide +kernel) rfl
theorem bX4_fullestSet : zMb MX4_fullestSet = true := by decide +kernel
theorem cX4_fullestSet : Cond.code MX4_fullestSet.1 MX4_fullestSet.2.2.1 MX4_fullestSet.2.2.2.1 MX4_fullestSet.2.2.2.2.1 ∈ zT := z_T_in (i := 907) (by decide +kernel) rfl
theorem bX4_openOutcomes : zMb MX4_openOutcomes = true := by decide +kernel
theorem cX4_openOutcomes : Cond.code MX4_openOutcomes.1 MX4_openOutcomes.2.2.1 MX4_openOutcomes.2.2.2.1 MX4_openOutcomes.2.2.2.2.1 ∈ zT := z_T_in (i := 1146) (by decide +kernel) rfl
theorem bX4_numberOpenPairs : zMb MX4_numberOpenPairs = true := by decide +kernel
theorem cX4_numberOpenPairs : Cond.code MX4_numberOpenPairs.1 MX4_numberOpenPairs.2.2.1 MX4_numberOpenPairs.2.2.2.1 MX4_numberOpenPairs.2.2.2.2.1 ∈ zT := z_T_in (i := 1150) (by decide +kernel) rfl
theorem bX4_outcomesThen : zMb MX4_outcomesThen = true := by decide +kernel
theorem cX4_outcomesThen : Cond.code MX4_outcomesThen.1 MX4_outcomesThen.2.2.1 MX4_outcomesThen.2.2.2.1 MX4_outcomesThen.2.2.2.2.1 ∈ zT := z_T_in (i := 1155) (by decide +kernel) rfl
theorem bX5_init : zMb MX5_init = true := by decide +kernel
theorem cX5_init : Cond.code MX5_init.1 MX5_init.2.2.1 MX5_init.2.2.2.1 MX5_init.2.2.2.2.1 ∈ zT := z_T_in (i := 196) (by decide +kernel) rfl
theorem bX5_stage : zMb MX5_stage = true := by decide +kernel
theorem cX5_stage : Cond.code MX5_stage.1 MX5_stage.2.2.1 MX5_stage.2.2.2.1 MX5_stage.2.2.2.2.1 ∈ zT := z_T_in (i := 495) (by decide +kernel) rfl
theorem bX5_push : zMb MX5_push = true := by decide +kernel
theorem cX5_push : Cond.code MX5_push.1 MX5_push.2.2.1 MX5_push.2.2.2.1 MX5_push.2.2.2.2.1 ∈ zT := z_T_in (i := 542) (by decide +kernel) rfl
theorem bX5_pop : zMb MX5_pop = true := by decide +kernel
theorem cX5_pop : Cond.code MX5_pop.1 MX5_pop.2.2.1 MX5_pop.2.2.2.1 MX5_pop.2.2.2.2.1 ∈ zT := z_T_in (i := 777) (by decide +kernel) rfl
theorem bX5_pairsChanged : zMb MX5_pairsChanged = true := by decide +kernel
theorem cX5_pairsChanged : Cond.code MX5_pairsChanged.1 MX5_pairsChanged.2.2.1 MX5_pairsChanged.2.2.2.1 MX5_pairsChanged.2.2.2.2.1 ∈ zT := z_T_in (i := 531) (by decide +kernel) rfl
theorem bX5_forgetSteps : zMb MX5_forgetSteps = true := by decide +kernel
theorem cX5_forgetSteps : Cond.code MX5_forgetSteps.1 MX5_forgetSteps.2.2.1 MX5_forgetSteps.2.2.2.1 MX5_forgetSteps.2.2.2.2.1 ∈ zT := z_T_in (i := 467) (by decide +kernel) rfl
theorem bX5_forgetKept : zMb MX5_forgetKept = true := by decide +kernel
theorem cX5_forgetKept : Cond.code MX5_forgetKept.1 MX5_forgetKept.2.2.1 MX5_forgetKept.2.2.2.1 MX5_forgetKept.2.2.2.2.1 ∈ zT := z_T_in (i := 471) (by decide +kernel) rfl
theorem bX5_hold : zMb MX5_hold = true := by decide +kernel
theorem cX5_hold : Cond.code MX5_hold.1 MX5_hold.2.2.1 MX5_hold.2.2.2.1 MX5_hold.2.2.2.2.1 ∈ zT := z_T_in (i := 1217) (by decide +kernel) rfl
theorem bX5_bringBack : zMb MX5_bringBack = true := by decide +kernel
theorem cX5_bringBack : Cond.code MX5_bringBack.1 MX5_bringBack.2.2.1 MX5_bringBack.2.2.2.1 MX5_bringBack.2.2.2.2.1 ∈ zT := z_T_in (i := 1225) (by decide +kernel) rfl
theorem bX6_init : zMb MX6_init = true := by decide +kernel
theorem cX6_init : Cond.code MX6_init.1 MX6_init.2.2.1 MX6_init.2.2.2.1 MX6_init.2.2.2.2.1 ∈ zT := z_T_in (i := 220) (by decide +kernel) rfl
theorem bX6_clear : zMb MX6_clear = true := by decide +kernel
theorem cX6_clear : Cond.code MX6_clear.1 MX6_clear.2.2.1 MX6_clear.2.2.2.1 MX6_clear.2.2.2.2.1 ∈ zT := z_T_in (i := 753) (by decide +kernel) rfl
theorem bX6_add : zMb MX6_add = true := by decide +kernel
theorem cX6_add : Cond.code MX6_add.1 MX6_add.2.2.1 MX6_add.2.2.2.1 MX6_add.2.2.2.2.1 ∈ zT := z_T_in (i := 757) (by decide +kernel) rfl
theorem bX6_addFraction : zMb MX6_addFraction = true := by decide +kernel
theorem cX6_addFraction : Cond.code MX6_addFraction.1 MX6_addFraction.2.2.1 MX6_addFraction.2.2.2.1 MX6_addFraction.2.2.2.2.1 ∈ zT := z_T_in (i := 856) (by decide +kernel) rfl
theorem bX6_commonDivisor : zMb MX6_commonDivisor = true := by decide +kernel
theorem cX6_commonDivisor : Cond.code MX6_commonDivisor.1 MX6_commonDivisor.2.2.1 MX6_commonDivisor.2.2.2.1 MX6_commonDivisor.2.2.2.2.1 ∈ zT := z_T_in (i := 859) (by decide +kernel) rfl
theorem bX7_init : zMb MX7_init = true := by decide +kernel
theorem cX7_init : Cond.code MX7_init.1 MX7_init.2.2.1 MX7_init.2.2.2.1 MX7_init.2.2.2.2.1 ∈ zT := z_T_in (i := 366) (by decide +kernel) rfl
theorem bX7_read : zMb MX7_read = true := by decide +kernel
theorem cX7_read : Cond.code MX7_read.1 MX7_read.2.2.1 MX7_read.2.2.2.1 MX7_read.2.2.2.2.1 ∈ zT := z_T_in (i := 553) (by decide +kernel) rfl
theorem bX7_emit : zMb MX7_emit = true := by decide +kernel
theorem cX7_emit : Cond.code MX7_emit.1 MX7_emit.2.2.1 MX7_emit.2.2.2.1 MX7_emit.2.2.2.2.1 ∈ zT := z_T_in (i := 560) (by decide +kernel) rfl
theorem bX7_here : zMb MX7_here = true := by decide +kernel
theorem cX7_here : Cond.code MX7_here.1 MX7_here.2.2.1 MX7_here.2.2.2.1 MX7_here.2.2.2.2.1 ∈ zT := z_T_in (i := 572) (by decide +kernel) rfl
theorem bX7_readLevel : zMb MX7_readLevel = true := by decide +kernel
theorem cX7_readLevel : Cond.code MX7_readLevel.1 MX7_readLevel.2.2.1 MX7_readLevel.2.2.2.1 MX7_readLevel.2.2.2.2.1 ∈ zT := z_T_in (i := 564) (by decide +kernel) rfl
theorem bX7_levelOf : zMb MX7_levelOf = true := by decide +kernel
theorem cX7_levelOf : Cond.code MX7_levelOf.1 MX7_levelOf.2.2.1 MX7_levelOf.2.2.2.1 MX7_levelOf.2.2.2.2.1 ∈ zT := z_T_in (i := 668) (by decide +kernel) rfl
theorem bX7_readSigned : zMb MX7_readSigned = true := by decide +kernel
theorem cX7_readSigned : Cond.code MX7_readSigned.1 MX7_readSigned.2.2.1 MX7_readSigned.2.2.2.1 MX7_readSigned.2.2.2.2.1 ∈ zT := z_T_in (i := 568) (by decide +kernel) rfl
theorem bX7_readThing : zMb MX7_readThing = true := by decide +kernel
theorem cX7_readThing : Cond.code MX7_readThing.1 MX7_readThing.2.2.1 MX7_readThing.2.2.2.1 MX7_readThing.2.2.2.2.1 ∈ zT := z_T_in (i := 576) (by decide +kernel) rfl
theorem bX7_readNumber : zMb MX7_readNumber = true := by decide +kernel
theorem cX7_readNumber : Cond.code MX7_readNumber.1 MX7_readNumber.2.2.1 MX7_readNumber.2.2.2.1 MX7_readNumber.2.2.2.2.1 ∈ zT := z_T_in (i := 580) (by decide +kernel) rfl
theorem bX7_worth : zMb MX7_worth = true := by decide +kernel
theorem cX7_worth : Cond.code MX7_worth.1 MX7_worth.2.2.1 MX7_worth.2.2.2.1 MX7_worth.2.2.2.2.1 ∈ zT := z_T_in (i := 962) (by decide +kernel) rfl
theorem bX7_done : zMb MX7_done = true := by decide +kernel
theorem cX7_done : Cond.code MX7_done.1 MX7_done.2.2.1 MX7_done.2.2.2.1 MX7_done.2.2.2.2.1 ∈ zT := z_T_in (i := 965) (by decide +kernel) rfl
theorem bX8_init : zMb MX8_init = true := by decide +kernel
theorem cX8_init : Cond.code MX8_init.1 MX8_init.2.2.1 MX8_init.2.2.2.1 MX8_init.2.2.2.2.1 ∈ zT := z_T_in (i := 134) (by decide +kernel) rfl
theorem bX8_add : zMb MX8_add = true := by decide +kernel
theorem cX8_add : Cond.code MX8_add.1 MX8_add.2.2.1 MX8_add.2.2.2.1 MX8_add.2.2.2.2.1 ∈ zT := z_T_in (i := 431) (by decide +kernel) rfl
theorem bX8_cut : zMb MX8_cut = true := by decide +kernel
theorem cX8_cut : Cond.code MX8_cut.1 MX8_cut.2.2.1 MX8_cut.2.2.2.1 MX8_cut.2.2.2.2.1 ∈ zT := z_T_in (i := 439) (by decide +kernel) rfl
theorem bX8_clear : zMb MX8_clear = true := by decide +kernel
theorem cX8_clear : Cond.code MX8_clear.1 MX8_clear.2.2.1 MX8_clear.2.2.2.1 MX8_clear.2.2.2.2.1 ∈ zT := z_T_in (i := 475) (by decide +kernel) rfl
theorem bX8_at : zMb MX8_at = true := by decide +kernel
theorem cX8_at : Cond.code MX8_at.1 MX8_at.2.2.1 MX8_at.2.2.2.1 MX8_at.2.2.2.2.1 ∈ zT := z_T_in (i := 454) (by decide +kernel) rfl
theorem bX8_digit : zMb MX8_digit = true := by decide +kernel
theorem cX8_digit : Cond.code MX8_digit.1 MX8_digit.2.2.1 MX8_digit.2.2.2.1 MX8_digit.2.2.2.2.1 ∈ zT := z_T_in (i := 458) (by decide +kernel) rfl
theorem bX8_toldBy : zMb MX8_toldBy = true := by decide +kernel
theorem cX8_toldBy : Cond.code MX8_toldBy.1 MX8_toldBy.2.2.1 MX8_toldBy.2.2.2.1 MX8_toldBy.2.2.2.2.1 ∈ zT := z_T_in (i := 491) (by decide +kernel) rfl
theorem bX8_faultInGuests : zMb MX8_faultInGuests = true := by decide +kernel
theorem cX8_faultInGuests : Cond.code MX8_faultInGuests.1 MX8_faultInGuests.2.2.1 MX8_faultInGuests.2.2.2.1 MX8_faultInGuests.2.2.2.2.1 ∈ zT := z_T_in (i := 447) (by decide +kernel) rfl
theorem bX8_faultInMeetings : zMb MX8_faultInMeetings = true := by decide +kernel
theorem cX8_faultInMeetings : Cond.code MX8_faultInMeetings.1 MX8_faultInMeetings.2.2.1 MX8_faultInMeetings.2.2.2.1 MX8_faultInMeetings.2.2.2.2.1 ∈ zT := z_T_in (i := 483) (by decide +kernel) rfl
theorem bX8_goodInMeetings : zMb MX8_goodInMeetings = true := by decide +kernel
theorem cX8_goodInMeetings : Cond.code MX8_goodInMeetings.1 MX8_goodInMeetings.2.2.1 MX8_goodInMeetings.2.2.2.1 MX8_goodInMeetings.2.2.2.2.1 ∈ zT := z_T_in (i := 487) (by decide +kernel) rfl
theorem bX8_faultInStory : zMb MX8_faultInStory = true := by decide +kernel
theorem cX8_faultInStory : Cond.code MX8_faultInStory.1 MX8_faultInStory.2.2.1 MX8_faultInStory.2.2.2.1 MX8_faultInStory.2.2.2.2.1 ∈ zT := z_T_in (i := 736) (by decide +kernel) rfl
theorem bX8_goodInStory : zMb MX8_goodInStory = true := by decide +kernel
theorem cX8_goodInStory : Cond.code MX8_goodInStory.1 MX8_goodInStory.2.2.1 MX8_goodInStory.2.2.2.1 MX8_goodInStory.2.2.2.2.1 ∈ zT := z_T_in (i := 740) (by decide +kernel) rfl
theorem bX8_actLength : zMb MX8_actLength = true := by decide +kernel
theorem cX8_actLength : Cond.code MX8_actLength.1 MX8_actLength.2.2.1 MX8_actLength.2.2.2.1 MX8_actLength.2.2.2.2.1 ∈ zT := z_T_in (i := 743) (by decide +kernel) rfl
theorem bX9_init : zMb MX9_init = true := by decide +kernel
theorem cX9_init : Cond.code MX9_init.1 MX9_init.2.2.1 MX9_init.2.2.2.1 MX9_init.2.2.2.2.1 ∈ zT := z_T_in (i := 150) (by decide +kernel) rfl
theorem bX9_has : zMb MX9_has = true := by decide +kernel
theorem cX9_has : Cond.code MX9_has.1 MX9_has.2.2.1 MX9_has.2.2.2.1 MX9_has.2.2.2.2.1 ∈ zT := z_T_in (i := 515) (by decide +kernel) rfl
theorem bX9_areTwo : zMb MX9_areTwo = true := by decide +kernel
theorem cX9_areTwo : Cond.code MX9_areTwo.1 MX9_areTwo.2.2.1 MX9_areTwo.2.2.2.1 MX9_areTwo.2.2.2.2.1 ∈ zT := z_T_in (i := 511) (by decide +kernel) rfl
theorem bX9_all : zMb MX9_all = true := by decide +kernel
theorem cX9_all : Cond.code MX9_all.1 MX9_all.2.2.1 MX9_all.2.2.2.1 MX9_all.2.2.2.2.1 ∈ zT := z_T_in (i := 769) (by decide +kernel) rfl
theorem bX9_add : zMb MX9_add = true := by decide +kernel
theorem cX9_add : Cond.code MX9_add.1 MX9_add.2.2.1 MX9_add.2.2.2.1 MX9_add.2.2.2.2.1 ∈ zT := z_T_in (i := 463) (by decide +kernel) rfl
theorem bX9_openOf : zMb MX9_openOf = true := by decide +kernel
theorem cX9_openOf : Cond.code MX9_openOf.1 MX9_openOf.2.2.1 MX9_openOf.2.2.2.1 MX9_openOf.2.2.2.2.1 ∈ zT := z_T_in (i := 765) (by decide +kernel) rfl
theorem bX9_about : zMb MX9_about = true := by decide +kernel
theorem cX9_about : Cond.code MX9_about.1 MX9_about.2.2.1 MX9_about.2.2.2.1 MX9_about.2.2.2.2.1 ∈ zT := z_T_in (i := 519) (by decide +kernel) rfl
theorem bX9_put : zMb MX9_put = true := by decide +kernel
theorem cX9_put : Cond.code MX9_put.1 MX9_put.2.2.1 MX9_put.2.2.2.1 MX9_put.2.2.2.2.1 ∈ zT := z_T_in (i := 523) (by decide +kernel) rfl
theorem bX9_putHalf : zMb MX9_putHalf = true := by decide +kernel
theorem cX9_putHalf : Cond.code MX9_putHalf.1 MX9_putHalf.2.2.1 MX9_putHalf.2.2.2.1 MX9_putHalf.2.2.2.2.1 ∈ zT := z_T_in (i := 527) (by decide +kernel) rfl
theorem bX9_tell : zMb MX9_tell = true := by decide +kernel
theorem cX9_tell : Cond.code MX9_tell.1 MX9_tell.2.2.1 MX9_tell.2.2.2.1 MX9_tell.2.2.2.2.1 ∈ zT := z_T_in (i := 507) (by decide +kernel) rfl
theorem bX9_hide : zMb MX9_hide = true := by decide +kernel
theorem cX9_hide : Cond.code MX9_hide.1 MX9_hide.2.2.1 MX9_hide.2.2.2.1 MX9_hide.2.2.2.2.1 ∈ zT := z_T_in (i := 698) (by decide +kernel) rfl
theorem bX9_copy : zMb MX9_copy = true := by decide +kernel
theorem cX9_copy : Cond.code MX9_copy.1 MX9_copy.2.2.1 MX9_copy.2.2.2.1 MX9_copy.2.2.2.2.1 ∈ zT := z_T_in (i := 712) (by decide +kernel) rfl
theorem bX9_move : zMb MX9_move = true := by decide +kernel
theorem cX9_move : Cond.code MX9_move.1 MX9_move.2.2.1 MX9_move.2.2.2.1 MX9_move.2.2.2.2.1 ∈ zT := z_T_in (i := 720) (by decide +kernel) rfl
theorem bX9_makeFirm : zMb MX9_makeFirm = true := by decide +kernel
theorem cX9_makeFirm : Cond.code MX9_makeFirm.1 MX9_makeFirm.2.2.1 MX9_makeFirm.2.2.2.1 MX9_makeFirm.2.2.2.2.1 ∈ zT := z_T_in (i := 728) (by decide +kernel) rfl
theorem bX9_readSheet : zMb MX9_readSheet = true := by decide +kernel
theorem cX9_readSheet : Cond.code MX9_readSheet.1 MX9_readSheet.2.2.1 MX9_readSheet.2.2.2.1 MX9_readSheet.2.2.2.2.1 ∈ zT := z_T_in (i := 676) (by decide +kernel) rfl
theorem bX9_roomsTogether : zMb MX9_roomsTogether = true := by decide +kernel
theorem cX9_roomsTogether : Cond.code MX9_roomsTogether.1 MX9_roomsTogether.2.2.1 MX9_roomsTogether.2.2.2.1 MX9_roomsTogether.2.2.2.2.1 ∈ zT := z_T_in (i := 682) (by decide +kernel) rfl
theorem bX9_pairsTold : zMb MX9_pairsTold = true := by decide +kernel
theorem cX9_pairsTold : Cond.code MX9_pairsTold.1 MX9_pairsTold.2.2.1 MX9_pairsTold.2.2.2.1 MX9_pairsTold.2.2.2.2.1 ∈ zT := z_T_in (i := 761) (by decide +kernel) rfl
theorem bX9_mates : zMb MX9_mates = true := by decide +kernel
theorem cX9_mates : Cond.code MX9_mates.1 MX9_mates.2.2.1 MX9_mates.2.2.2.1 MX9_mates.2.2.2.2.1 ∈ zT := z_T_in (i := 807) (by decide +kernel) rfl
theorem bX9_likeThat : zMb MX9_likeThat = true := by decide +kernel
theorem cX9_likeThat : Cond.code MX9_likeThat.1 MX9_likeThat.2.2.1 MX9_likeThat.2.2.2.1 MX9_likeThat.2.2.2.2.1 ∈ zT := z_T_in (i := 1200) (by decide +kernel) rfl
theorem bX9_packed : zMb MX9_packed = true := by decide +kernel
theorem cX9_packed : Cond.code MX9_packed.1 MX9_packed.2.2.1 MX9_packed.2.2.2.1 MX9_packed.2.2.2.2.1 ∈ zT := z_T_in (i := 502) (by decide +kernel) rfl
theorem bX9_unpack : zMb MX9_unpack = true := by decide +kernel
theorem cX9_unpack : Cond.code MX9_unpack.1 MX9_unpack.2.2.1 MX9_unpack.2.2.2.1 MX9_unpack.2.2.2.2.1 ∈ zT := z_T_in (i := 784) (by decide +kernel) rfl
theorem bX9_save : zMb MX9_save = true := by decide +kernel
theorem cX9_save : Cond.code MX9_save.1 MX9_save.2.2.1 MX9_save.2.2.2.1 MX9_save.2.2.2.2.1 ∈ zT := z_T_in (i := 499) (by decide +kernel) rfl
theorem bX9_load : zMb MX9_load = true := by decide +kernel
theorem cX9_load : Cond.code MX9_load.1 MX9_load.2.2.1 MX9_load.2.2.2.1 MX9_load.2.2.2.2.1 ∈ zT := z_T_in (i := 781) (by decide +kernel) rfl
theorem bX10_init : zMb MX10_init = true := by decide +kernel
theorem cX10_init : Cond.code MX10_init.1 MX10_init.2.2.1 MX10_init.2.2.2.1 MX10_init.2.2.2.2.1 ∈ zT := z_T_in (i := 126) (by decide +kernel) rfl
theorem bX10_sign : zMb MX10_sign = true := by decide +kernel
theorem cX10_sign : Cond.code MX10_sign.1 MX10_sign.2.2.1 MX10_sign.2.2.2.1 MX10_sign.2.2.2.2.1 ∈ zT := z_T_in (i := 427) (by decide +kernel) rfl
theorem bX10_end : zMb MX10_end = true := by decide +kernel
theorem cX10_end : Cond.code MX10_end.1 MX10_end.2.2.1 MX10_end.2.2.2.1 MX10_end.2.2.2.2.1 ∈ zT := z_T_in (i := 435) (by decide +kernel) rfl
theorem bX10_guests : zMb MX10_guests = true := by decide +kernel
theorem cX10_guests : Cond.code MX10_guests.1 MX10_guests.2.2.1 MX10_guests.2.2.2.1 MX10_guests.2.2.2.2.1 ∈ zT := z_T_in (i := 443) (by decide +kernel) rfl
theorem bX10_meetings : zMb MX10_meetings = true := by decide +kernel
theorem cX10_meetings : Cond.code MX10_meetings.1 MX10_meetings.2.2.1 MX10_meetings.2.2.2.1 MX10_meetings.2.2.2.2.1 ∈ zT := z_T_in (i := 479) (by decide +kernel) rfl
theorem bX10_rule : zMb MX10_rule = true := by decide +kernel
theorem cX10_rule : Cond.code MX10_rule.1 MX10_rule.2.2.1 MX10_rule.2.2.2.1 MX10_rule.2.2.2.2.1 ∈ zT := z_T_in (i := 549) (by decide +kernel) rfl
theorem bX10_guest : zMb MX10_guest = true := by decide +kernel
theorem cX10_guest : Cond.code MX10_guest.1 MX10_guest.2.2.1 MX10_guest.2.2.2.1 MX10_guest.2.2.2.2.1 ∈ zT := z_T_in (i := 1238) (by decide +kernel) rfl
theorem bX10_pair : zMb MX10_pair = true := by decide +kernel
theorem cX10_pair : Cond.code MX10_pair.1 MX10_pair.2.2.1 MX10_pair.2.2.2.1 MX10_pair.2.2.2.2.1 ∈ zT := z_T_in (i := 1307) (by decide +kernel) rfl
theorem bX10_sheet : zMb MX10_sheet = true := by decide +kernel
theorem cX10_sheet : Cond.code MX10_sheet.1 MX10_sheet.2.2.1 MX10_sheet.2.2.2.1 MX10_sheet.2.2.2.2.1 ∈ zT := z_T_in (i := 672) (by decide +kernel) rfl
theorem bX10_tells : zMb MX10_tells = true := by decide +kernel
theorem cX10_tells : Cond.code MX10_tells.1 MX10_tells.2.2.1 MX10_tells.2.2.2.1 MX10_tells.2.2.2.2.1 ∈ zT := z_T_in (i := 686) (by decide +kernel) rfl
theorem bX10_hides : zMb MX10_hides = true := by decide +kernel
theorem cX10_hides : Cond.code MX10_hides.1 MX10_hides.2.2.1 MX10_hides.2.2.2.1 MX10_hides.2.2.2.2.1 ∈ zT := z_T_in (i := 694) (by decide +kernel) rfl
theorem bX10_copies : zMb MX10_copies = true := by decide +kernel
theorem cX10_copies : Cond.code MX10_copies.1 MX10_copies.2.2.1 MX10_copies.2.2.2.1 MX10_copies.2.2.2.2.1 ∈ zT := z_T_in (i := 708) (by decide +kernel) rfl
theorem bX10_moves : zMb MX10_moves = true := by decide +kernel
theorem cX10_moves : Cond.code MX10_moves.1 MX10_moves.2.2.1 MX10_moves.2.2.2.1 MX10_moves.2.2.2.2.1 ∈ zT := z_T_in (i := 716) (by decide +kernel) rfl
theorem bX10_strict : zMb MX10_strict = true := by decide +kernel
theorem cX10_strict : Cond.code MX10_strict.1 MX10_strict.2.2.1 MX10_strict.2.2.2.1 MX10_strict.2.2.2.2.1 ∈ zT := z_T_in (i := 724) (by decide +kernel) rfl
theorem bX10_story : zMb MX10_story = true := by decide +kernel
theorem cX10_story : Cond.code MX10_story.1 MX10_story.2.2.1 MX10_story.2.2.2.1 MX10_story.2.2.2.2.1 ∈ zT := z_T_in (i := 732) (by decide +kernel) rfl
