theorem bX11_isMet : zMb MX11_isMet = true := by decide +kernel
theorem cX11_isMet : Cond.code MX11_isMet.1 MX11_isMet.2.2.1 MX11_isMet.2.2.2.1 MX11_isMet.2.2.2.2.1 ∈ zT := z_T_in (i := 1854) (by decide +kernel) rfl
theorem bX11_isNot : zMb MX11_isNot = true := by decide +kernel
theorem cX11_isNot : Cond.code MX11_isNot.1 MX11_isNot.2.2.1 MX11_isNot.2.2.2.1 MX11_isNot.2.2.2.2.1 ∈ zT := z_T_in (i := 1858) (by decide +kernel) rfl
theorem bX11_fitsRing : zMb MX11_fitsRing = true := by decide +kernel
theorem cX11_fitsRing : Cond.code MX11_fitsRing.1 MX11_fitsRing.2.2.1 MX11_fitsRing.2.2.2.1 MX11_fitsRing.2.2.2.2.1 ∈ zT := z_T_in (i := 1850) (by decide +kernel) rfl
theorem bX11_ringsFrom : zMb MX11_ringsFrom = true := by decide +kernel
theorem cX11_ringsFrom : Cond.code MX11_ringsFrom.1 MX11_ringsFrom.2.2.1 MX11_ringsFrom.2.2.2.1 MX11_ringsFrom.2.2.2.2.1 ∈ zT := z_T_in (i := 1846) (by decide +kernel) rfl
theorem bX11_ring : zMb MX11_ring = true := by decide +kernel
theorem cX11_ring : Cond.code MX11_ring.1 MX11_ring.2.2.1 MX11_ring.2.2.2.1 MX11_ring.2.2.2.2.1 ∈ zT := z_T_in (i := 1842) (by decide +kernel) rfl
theorem bX11_hanging : zMb MX11_hanging = true := by decide +kernel
theorem cX11_hanging : Cond.code MX11_hanging.1 MX11_hanging.2.2.1 MX11_hanging.2.2.2.1 MX11_hanging.2.2.2.2.1 ∈ zT := z_T_in (i := 1870) (by decide +kernel) rfl
theorem bX11_hangTogether : zMb MX11_hangTogether = true := by decide +kernel
theorem cX11_hangTogether : Cond.code MX11_hangTogether.1 MX11_hangTogether.2.2.1 MX11_hangTogether.2.2.2.1 MX11_hangTogether.2.2.2.2.1 ∈ zT := z_T_in (i := 1866) (by decide +kernel) rfl
theorem bX11_threes : zMb MX11_threes = true := by decide +kernel
theorem cX11_threes : Cond.code MX11_threes.1 MX11_threes.2.2.1 MX11_threes.2.2.2.1 MX11_threes.2.2.2.2.1 ∈ zT := z_T_in (i := 1862) (by decide +kernel) rfl
theorem bX11_roomsFrom : zMb MX11_roomsFrom = true := by decide +kernel
theorem cX11_roomsFrom : Cond.code MX11_roomsFrom.1 MX11_roomsFrom.2.2.1 MX11_roomsFrom.2.2.2.1 MX11_roomsFrom.2.2.2.2.1 ∈ zT := z_T_in (i := 1878) (by decide +kernel) rfl
theorem bX11_rooms : zMb MX11_rooms = true := by decide +kernel
theorem cX11_rooms : Cond.code MX11_rooms.1 MX11_rooms.2.2.1 MX11_rooms.2.2.2.1 MX11_rooms.2.2.2.2.1 ∈ zT := z_T_in (i := 1874) (by decide +kernel) rfl
theorem bX11_circle : zMb MX11_circle = true := by decide +kernel
theorem cX11_circle : Cond.code MX11_circle.1 MX11_circle.2.2.1 MX11_circle.2.2.2.1 MX11_circle.2.2.2.2.1 ∈ zT := z_T_in (i := 1882) (by decide +kernel) rfl
theorem bX11_hears : zMb MX11_hears = true := by decide +kernel
theorem cX11_hears : Cond.code MX11_hears.1 MX11_hears.2.2.1 MX11_hears.2.2.2.1 MX11_hears.2.2.2.2.1 ∈ zT := z_T_in (i := 1886) (by decide +kernel) rfl
theorem bX11_asks : zMb MX11_asks = true := by decide +kernel
theorem cX11_asks : Cond.code MX11_asks.1 MX11_asks.2.2.1 MX11_asks.2.2.2.1 MX11_asks.2.2.2.2.1 ∈ zT := z_T_in (i := 1890) (by decide +kernel) rfl
theorem bX11_likely : zMb MX11_likely = true := by decide +kernel
theorem cX11_likely : Cond.code MX11_likely.1 MX11_likely.2.2.1 MX11_likely.2.2.2.1 MX11_likely.2.2.2.2.1 ∈ zT := z_T_in (i := 1896) (by decide +kernel) rfl
theorem bX11_game : zMb MX11_game = true := by decide +kernel
theorem cX11_game : Cond.code MX11_game.1 MX11_game.2.2.1 MX11_game.2.2.2.1 MX11_game.2.2.2.2.1 ∈ zT := z_T_in (i := 1901) (by decide +kernel) rfl
theorem bX11_law : zMb MX11_law = true := by decide +kernel
theorem cX11_law : Cond.code MX11_law.1 MX11_law.2.2.1 MX11_law.2.2.2.1 MX11_law.2.2.2.2.1 ∈ zT := z_T_in (i := 1906) (by decide +kernel) rfl
theorem bX11_gets : zMb MX11_gets = true := by decide +kernel
theorem cX11_gets : Cond.code MX11_gets.1 MX11_gets.2.2.1 MX11_gets.2.2.2.1 MX11_gets.2.2.2.2.1 ∈ zT := z_T_in (i := 1918) (by decide +kernel) rfl
theorem bX11_isRest : zMb MX11_isRest = true := by decide +kernel
theorem cX11_isRest : Cond.code MX11_isRest.1 MX11_isRest.2.2.1 MX11_isRest.2.2.2.1 MX11_isRest.2.2.2.2.1 ∈ zT := z_T_in (i := 1915) (by decide +kernel) rfl
theorem bX11_rests : zMb MX11_rests = true := by decide +kernel
theorem cX11_rests : Cond.code MX11_rests.1 MX11_rests.2.2.1 MX11_rests.2.2.2.1 MX11_rests.2.2.2.2.1 ∈ zT := z_T_in (i := 1911) (by decide +kernel) rfl
theorem bX11_draws : zMb MX11_draws = true := by decide +kernel
theorem cX11_draws : Cond.code MX11_draws.1 MX11_draws.2.2.1 MX11_draws.2.2.2.1 MX11_draws.2.2.2.2.1 ∈ zT := z_T_in (i := 1926) (by decide +kernel) rfl
theorem bX11_years : zMb MX11_years = true := by decide +kernel
theorem cX11_years : Cond.code MX11_years.1 MX11_years.2.2.1 MX11_years.2.2.2.1 MX11_years.2.2.2.2.1 ∈ zT := z_T_in (i := 1922) (by decide +kernel) rfl
theorem bX11_keep : zMb MX11_keep = true := by decide +kernel
theorem cX11_keep : Cond.code MX11_keep.1 MX11_keep.2.2.1 MX11_keep.2.2.2.1 MX11_keep.2.2.2.2.1 ∈ zT := z_T_in (i := 1931) (by decide +kernel) rfl
theorem bX11_again : zMb MX11_again = true := by decide +kernel
theorem cX11_again : Cond.code MX11_again.1 MX11_again.2.2.1 MX11_again.2.2.2.1 MX11_again.2.2.2.2.1 ∈ zT := z_T_in (i := 1935) (by decide +kernel) rfl
theorem bX11_count : zMb MX11_count = true := by decide +kernel
theorem cX11_count : Cond.code MX11_count.1 MX11_count.2.2.1 MX11_count.2.2.2.1 MX11_count.2.2.2.2.1 ∈ zT := z_T_in (i := 1939) (by decide +kernel) rfl
theorem bX11_row : zMb MX11_row = true := by decide +kernel
theorem cX11_row : Cond.code MX11_row.1 MX11_row.2.2.1 MX11_row.2.2.2.1 MX11_row.2.2.2.2.1 ∈ zT := z_T_in (i := 1943) (by decide +kernel) rfl
theorem bJ6_bitCount_0f7a4 : zMb MJ6_bitCount_0f7a4 = true := by decide +kernel
theorem cJ6_bitCount_0f7a4 : Cond.code MJ6_bitCount_0f7a4.1 MJ6_bitCount_0f7a4.2.2.1 MJ6_bitCount_0f7a4.2.2.2.1 MJ6_bitCount_0f7a4.2.2.2.2.1 ∈ zT := z_T_in (i := 699) (by decide +kernel) rfl
theorem bJ13_bitCount_95d88 : zMb MJ13_bitCount_95d88 = true := by decide +kernel
theorem cJ13_bitCount_95d88 : Cond.code MJ13_bitCount_95d88.1 MJ13_bitCount_95d88.2.2.1 MJ13_bitCount_95d88.2.2.2.1 MJ13_bitCount_95d88.2.2.2.2.1 ∈ zT := z_T_in (i := 533) (by decide +kernel) rfl
theorem bJ0_length_8abf5 : zMb MJ0_length_8abf5 = true := by decide +kernel
theorem cJ0_length_8abf5 : Cond.code MJ0_length_8abf5.1 MJ0_length_8abf5.2.2.1 MJ0_length_8abf5.2.2.2.1 MJ0_length_8abf5.2.2.2.2.1 ∈ zT := z_T_in (i := 597) (by decide +kernel) rfl
theorem bJ0_charAt_5068e : zMb MJ0_charAt_5068e = true := by decide +kernel
theorem cJ0_charAt_5068e : Cond.code MJ0_charAt_5068e.1 MJ0_charAt_5068e.2.2.1 MJ0_charAt_5068e.2.2.2.1 MJ0_charAt_5068e.2.2.2.2.1 ∈ zT := z_T_in (i := 1380) (by decide +kernel) rfl
theorem bJ0_indexOf_0f7a4 : zMb MJ0_indexOf_0f7a4 = true := by decide +kernel
theorem cJ0_indexOf_0f7a4 : Cond.code MJ0_indexOf_0f7a4.1 MJ0_indexOf_0f7a4.2.2.1 MJ0_indexOf_0f7a4.2.2.2.1 MJ0_indexOf_0f7a4.2.2.2.2.1 ∈ zT := z_T_in (i := 583) (by decide +kernel) rfl
theorem bJ0_indexOf_7cf53 : zMb MJ0_indexOf_7cf53 = true := by decide +kernel
theorem cJ0_indexOf_7cf53 : Cond.code MJ0_indexOf_7cf53.1 MJ0_indexOf_7cf53.2.2.1 MJ0_indexOf_7cf53.2.2.2.1 MJ0_indexOf_7cf53.2.2.2.2.1 ∈ zT := z_T_in (i := 587) (by decide +kernel) rfl
theorem bJ0_coder_7d493 : zMb MJ0_coder_7d493 = true := by decide +kernel
theorem cJ0_coder_7d493 : Cond.code MJ0_coder_7d493.1 MJ0_coder_7d493.2.2.1 MJ0_coder_7d493.2.2.2.1 MJ0_coder_7d493.2.2.2.2.1 ∈ zT := z_T_in (i := 601) (by decide +kernel) rfl
theorem bJ0_isLatin1_aae02 : zMb MJ0_isLatin1_aae02 = true := by decide +kernel
theorem cJ0_isLatin1_aae02 : Cond.code MJ0_isLatin1_aae02.1 MJ0_isLatin1_aae02.2.2.1 MJ0_isLatin1_aae02.2.2.2.1 MJ0_isLatin1_aae02.2.2.2.2.1 ∈ zT := z_T_in (i := 591) (by decide +kernel) rfl
theorem bJ1_charAt_3b067 : zMb MJ1_charAt_3b067 = true := by decide +kernel
theorem cJ1_charAt_3b067 : Cond.code MJ1_charAt_3b067.1 MJ1_charAt_3b067.2.2.1 MJ1_charAt_3b067.2.2.2.1 MJ1_charAt_3b067.2.2.2.2.1 ∈ zT := z_T_in (i := 1383) (by decide +kernel) rfl
theorem bJ1_canEncode_9a6ad : zMb MJ1_canEncode_9a6ad = true := by decide +kernel
theorem cJ1_canEncode_9a6ad : Cond.code MJ1_canEncode_9a6ad.1 MJ1_canEncode_9a6ad.2.2.1 MJ1_canEncode_9a6ad.2.2.2.1 MJ1_canEncode_9a6ad.2.2.2.2.1 ∈ zT := z_T_in (i := 607) (by decide +kernel) rfl
theorem bJ1_indexOf_4cfef : zMb MJ1_indexOf_4cfef = true := by decide +kernel
theorem cJ1_indexOf_4cfef : Cond.code MJ1_indexOf_4cfef.1 MJ1_indexOf_4cfef.2.2.1 MJ1_indexOf_4cfef.2.2.2.1 MJ1_indexOf_4cfef.2.2.2.2.1 ∈ zT := z_T_in (i := 604) (by decide +kernel) rfl
theorem bJ1_indexOfChar_4cfef : zMb MJ1_indexOfChar_4cfef = true := by decide +kernel
theorem cJ1_indexOfChar_4cfef : Cond.code MJ1_indexOfChar_4cfef.1 MJ1_indexOfChar_4cfef.2.2.1 MJ1_indexOfChar_4cfef.2.2.2.1 MJ1_indexOfChar_4cfef.2.2.2.2.1 ∈ zT := z_T_in (i := 614) (by decide +kernel) rfl
theorem bJ7_fill_d0a16 : zMb MJ7_fill_d0a16 = true := by decide +kernel
theorem cJ7_fill_d0a16 : Cond.code MJ7_fill_d0a16.1 MJ7_fill_d0a16.2.2.1 MJ7_fill_d0a16.2.2.2.1 MJ7_fill_d0a16.2.2.2.2.1 ∈ zT := z_T_in (i := 842) (by decide +kernel) rfl
theorem bJ7_fill_031fb : zMb MJ7_fill_031fb = true := by decide +kernel
theorem cJ7_fill_031fb : Cond.code MJ7_fill_031fb.1 MJ7_fill_031fb.2.2.1 MJ7_fill_031fb.2.2.2.1 MJ7_fill_031fb.2.2.2.2.1 ∈ zT := z_T_in (i := 1024) (by decide +kernel) rfl
