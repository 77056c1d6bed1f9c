theorem wt_tC1 {w : Cond} (h : w ∈ tables_1_1) (g : goodWord w = true) : w ∈ wt_tbl := List.mem_filter.mpr ⟨List.mem_append_right _ (List.mem_append_left _ h), g⟩
theorem wt_tC2 {w : Cond} (h : w ∈ tables_1_2) (g : goodWord w = true) : w ∈ wt_tbl := List.mem_filter.mpr ⟨List.mem_append_right _ (List.mem_append_right _ (List.mem_append_left _ h)), g⟩
theorem wt_tC3 {w : Cond} (h : w ∈ tables_1_3) (g : goodWord w = true) : w ∈ wt_tbl := List.mem_filter.mpr ⟨List.mem_append_right _ (List.mem_append_right _ (List.mem_append_right _ (List.mem_append_left _ h))), g⟩
theorem wt_tC4 {w : Cond} (h : w ∈ tables_1_4) (g : goodWord w = true) : w ∈ wt_tbl := List.mem_filter.mpr ⟨List.mem_append_right _ (List.mem_append_right _ (List.mem_append_right _ (List.mem_append_right _ (List.mem_append_left _ h)))), g⟩
theorem wt_tC5 {w : Cond} (h : w ∈ tables_1_5) (g : goodWord w = true) : w ∈ wt_tbl := List.mem_filter.mpr ⟨List.mem_append_right _ (List.mem_append_right _ (List.mem_append_right _ (List.mem_append_right _ (List.mem_append_right _ (List.mem_append_left _ h))))), g⟩
theorem wt_tC6 {w : Cond} (h : w ∈ tables_1_6) (g : goodWord w = true) : w ∈ wt_tbl := List.mem_filter.mpr ⟨List.mem_append_right _ (List.mem_append_right _ (List.mem_append_right _ (List.mem_append_right _ (List.mem_append_right _ (List.mem_append_right _ (h)))))), g⟩
theorem tw_204 : Cond.code yX0_addLooker cX0_addLooker 4 (some .boolean) ∈ wt_tbl := wt_tC1 (List.mem_of_getElem? (i := 204) rfl) rfl
theorem tw_200 : Cond.code yX0_addPane cX0_addPane 2 (some .boolean) ∈ wt_tbl := wt_tC1 (List.mem_of_getElem? (i := 200) rfl) rfl
theorem tw_246 : Cond.code yX0_allShown cX0_allShown 1 (some .int) ∈ wt_tbl := wt_tC2 (List.mem_of_getElem? (i := 6) rfl) rfl
theorem tw_269 : Cond.code yX0_behind cX0_behind 4 (some .int) ∈ wt_tbl := wt_tC2 (List.mem_of_getElem? (i := 29) rfl) rfl
theorem tw_644 : Cond.code yX0_firstHolding cX0_firstHolding 4 (some .int) ∈ wt_tbl := wt_tC3 (List.mem_of_getElem? (i := 164) rfl) rfl
theorem tw_230 : Cond.code yX0_flip cX0_flip 3 (some .boolean) ∈ wt_tbl := wt_tC1 (List.mem_of_getElem? (i := 230) rfl) rfl
theorem tw_265 : Cond.code yX0_gain cX0_gain 5 none ∈ wt_tbl := wt_tC2 (List.mem_of_getElem? (i := 25) rfl) rfl
theorem tw_652 : Cond.code yX0_gainOfAll cX0_gainOfAll 4 (some .int) ∈ wt_tbl := wt_tC3 (List.mem_of_getElem? (i := 172) rfl) rfl
theorem tw_392 : Cond.code yX0_held cX0_held 2 (some .int) ∈ wt_tbl := wt_tC2 (List.mem_of_getElem? (i := 152) rfl) rfl
theorem tw_325 : Cond.code yX0_holder cX0_holder 9 (some .int) ∈ wt_tbl := wt_tC2 (List.mem_of_getElem? (i := 85) rfl) rfl
theorem tw_321 : Cond.code yX0_holdings cX0_holdings 5 (some .int) ∈ wt_tbl := wt_tC2 (List.mem_of_getElem? (i := 81) rfl) rfl
theorem tw_303 : Cond.code yX0_hoursAt cX0_hoursAt 5 (some .int) ∈ wt_tbl := wt_tC2 (List.mem_of_getElem? (i := 63) rfl) rfl
theorem tw_316 : Cond.code yX0_hoursOf cX0_hoursOf 4 (some .int) ∈ wt_tbl := wt_tC2 (List.mem_of_getElem? (i := 76) rfl) rfl
theorem tw_702 : Cond.code yX0_hoursOfAll cX0_hoursOfAll 3 (some .int) ∈ wt_tbl := wt_tC3 (List.mem_of_getElem? (i := 222) rfl) rfl
theorem tw_257 : Cond.code yX0_invalidsPull cX0_invalidsPull 1 (some .int) ∈ wt_tbl := wt_tC2 (List.mem_of_getElem? (i := 17) rfl) rfl
theorem tw_215 : Cond.code yX0_isHour cX0_isHour 1 (some .boolean) ∈ wt_tbl := wt_tC1 (List.mem_of_getElem? (i := 215) rfl) rfl
theorem tw_212 : Cond.code yX0_isLooker cX0_isLooker 2 (some .boolean) ∈ wt_tbl := wt_tC1 (List.mem_of_getElem? (i := 212) rfl) rfl
theorem tw_219 : Cond.code yX0_isPane cX0_isPane 2 (some .boolean) ∈ wt_tbl := wt_tC1 (List.mem_of_getElem? (i := 219) rfl) rfl
theorem tw_226 : Cond.code yX0_isView cX0_isView 1 (some .boolean) ∈ wt_tbl := wt_tC1 (List.mem_of_getElem? (i := 226) rfl) rfl
theorem tw_600 : Cond.code yX0_lead cX0_lead 7 (some .int) ∈ wt_tbl := wt_tC3 (List.mem_of_getElem? (i := 120) rfl) rfl
theorem tw_612 : Cond.code yX0_outdo cX0_outdo 7 (some .boolean) ∈ wt_tbl := wt_tC3 (List.mem_of_getElem? (i := 132) rfl) rfl
theorem tw_238 : Cond.code yX0_pass cX0_pass 4 (some .boolean) ∈ wt_tbl := wt_tC1 (List.mem_of_getElem? (i := 238) rfl) rfl
theorem tw_620 : Cond.code yX0_placeOf cX0_placeOf 7 (some .int) ∈ wt_tbl := wt_tC3 (List.mem_of_getElem? (i := 140) rfl) rfl
theorem tw_208 : Cond.code yX0_post cX0_post 6 (some .boolean) ∈ wt_tbl := wt_tC1 (List.mem_of_getElem? (i := 208) rfl) rfl
theorem tw_223 : Cond.code yX0_price cX0_price 3 (some .boolean) ∈ wt_tbl := wt_tC1 (List.mem_of_getElem? (i := 223) rfl) rfl
theorem tw_254 : Cond.code yX0_pull cX0_pull 4 (some .int) ∈ wt_tbl := wt_tC2 (List.mem_of_getElem? (i := 14) rfl) rfl
theorem tw_242 : Cond.code yX0_reckon cX0_reckon 5 none ∈ wt_tbl := wt_tC2 (List.mem_of_getElem? (i := 2) rfl) rfl
theorem tw_234 : Cond.code yX0_rule cX0_rule 2 (some .boolean) ∈ wt_tbl := wt_tC1 (List.mem_of_getElem? (i := 234) rfl) rfl
theorem tw_250 : Cond.code yX0_shownBy cX0_shownBy 4 (some .int) ∈ wt_tbl := wt_tC2 (List.mem_of_getElem? (i := 10) rfl) rfl
theorem tw_373 : Cond.code yX0_shows cX0_shows 3 (some .boolean) ∈ wt_tbl := wt_tC2 (List.mem_of_getElem? (i := 133) rfl) rfl
theorem tw_261 : Cond.code yX0_sight cX0_sight 5 (some .int) ∈ wt_tbl := wt_tC2 (List.mem_of_getElem? (i := 21) rfl) rfl
theorem tw_572 : Cond.code yX0_standingIn cX0_standingIn 4 (some .int) ∈ wt_tbl := wt_tC3 (List.mem_of_getElem? (i := 92) rfl) rfl
theorem tw_185 : Cond.code yX0_takeFrom cX0_takeFrom 3 none ∈ wt_tbl := wt_tC1 (List.mem_of_getElem? (i := 185) rfl) rfl
theorem tw_473 : Cond.code yX0_timesShown cX0_timesShown 4 (some .int) ∈ wt_tbl := wt_tC2 (List.mem_of_getElem? (i := 233) rfl) rfl
theorem tw_588 : Cond.code yX0_tradeRosters cX0_tradeRosters 5 none ∈ wt_tbl := wt_tC3 (List.mem_of_getElem? (i := 108) rfl) rfl
theorem tw_432 : Cond.code yX0_wealth cX0_wealth 5 (some .int) ∈ wt_tbl := wt_tC2 (List.mem_of_getElem? (i := 192) rfl) rfl
theorem tw_452 : Cond.code yX0_wealthiest cX0_wealthiest 6 (some .int) ∈ wt_tbl := wt_tC2 (List.mem_of_getElem? (i := 212) rfl) rfl
theorem tw_162 : Cond.code yX1_add cX1_add 2 none ∈ wt_tbl := wt_tC1 (List.mem_of_getElem? (i := 162) rfl) rfl
theorem tw_277 : Cond.code yX1_behind cX1_behind 2 (some .int) ∈ wt_tbl := wt_tC2 (List.mem_of_getElem? (i := 37) rfl) rfl
theorem tw_177 : Cond.code yX1_digitsOf cX1_digitsOf 1 (some .int) ∈ wt_tbl := wt_tC1 (List.mem_of_getElem? (i := 177) rfl) rfl
theorem tw_174 : Cond.code yX1_faultOfForm cX1_faultOfForm 4 (some .int) ∈ wt_tbl := wt_tC1 (List.mem_of_getElem? (i := 174) rfl) rfl
theorem tw_181 : Cond.code yX1_isDigit cX1_isDigit 2 (some .boolean) ∈ wt_tbl := wt_tC1 (List.mem_of_getElem? (i := 181) rfl) rfl
theorem tw_196 : Cond.code yX1_number cX1_number 5 (some .int) ∈ wt_tbl := wt_tC1 (List.mem_of_getElem? (i := 196) rfl) rfl
theorem tw_192 : Cond.code yX1_tell cX1_tell 4 (some .boolean) ∈ wt_tbl := wt_tC1 (List.mem_of_getElem? (i := 192) rfl) rfl
theorem tw_284 : Cond.code yX2_forget cX2_forget 1 none ∈ wt_tbl := wt_tC2 (List.mem_of_getElem? (i := 44) rfl) rfl
theorem tw_368 : Cond.code yX2_keep cX2_keep 5 none ∈ wt_tbl := wt_tC2 (List.mem_of_getElem? (i := 128) rfl) rfl
theorem tw_347 : Cond.code yX2_keepRoster cX2_keepRoster 5 none ∈ wt_tbl := wt_tC2 (List.mem_of_getElem? (i := 107) rfl) rfl
theorem tw_351 : Cond.code yX2_nextSlot cX2_nextSlot 2 (some .int) ∈ wt_tbl := wt_tC2 (List.mem_of_getElem? (i := 111) rfl) rfl
theorem tw_407 : Cond.code yX2_undoLatest cX2_undoLatest 5 none ∈ wt_tbl := wt_tC2 (List.mem_of_getElem? (i := 167) rfl) rfl
theorem tw_536 : Cond.code yX3_bothContent cX3_bothContent 4 (some .boolean) ∈ wt_tbl := wt_tC3 (List.mem_of_getElem? (i := 56) rfl) rfl
theorem tw_676 : Cond.code yX3_castRosters cX3_castRosters 7 (some .int) ∈ wt_tbl := wt_tC3 (List.mem_of_getElem? (i := 196) rfl) rfl
theorem tw_524 : Cond.code yX3_commonDivisor cX3_commonDivisor 11 (some .long) ∈ wt_tbl := wt_tC3 (List.mem_of_getElem? (i := 44) rfl) rfl
theorem tw_683 : Cond.code yX3_drawBelow cX3_drawBelow 2 (some .int) ∈ wt_tbl := wt_tC3 (List.mem_of_getElem? (i := 203) rfl) rfl
theorem tw_532 : Cond.code yX3_fillPays cX3_fillPays 7 none ∈ wt_tbl := wt_tC3 (List.mem_of_getElem? (i := 52) rfl) rfl
theorem tw_299 : Cond.code yX3_firstOf cX3_firstOf 2 (some .int) ∈ wt_tbl := wt_tC2 (List.mem_of_getElem? (i := 59) rfl) rfl
theorem tw_521 : Cond.code yX3_fraction cX3_fraction 7 (some .long) ∈ wt_tbl := wt_tC3 (List.mem_of_getElem? (i := 41) rfl) rfl
theorem tw_478 : Cond.code yX3_hoursUntilOwned cX3_hoursUntilOwned 7 (some .int) ∈ wt_tbl := wt_tC2 (List.mem_of_getElem? (i := 238) rfl) rfl
theorem tw_551 : Cond.code yX3_inRow cX3_inRow 1 (some .int) ∈ wt_tbl := wt_tC3 (List.mem_of_getElem? (i := 71) rfl) rfl
theorem tw_544 : Cond.code yX3_longRow cX3_longRow 1 (some .int) ∈ wt_tbl := wt_tC3 (List.mem_of_getElem? (i := 64) rfl) rfl
theorem tw_679 : Cond.code yX3_nextSeed cX3_nextSeed 1 (some .int) ∈ wt_tbl := wt_tC3 (List.mem_of_getElem? (i := 199) rfl) rfl
theorem tw_342 : Cond.code yX3_noHour cX3_noHour 1 (some .int) ∈ wt_tbl := wt_tC2 (List.mem_of_getElem? (i := 102) rfl) rfl
theorem tw_311 : Cond.code yX3_noLooker cX3_noLooker 2 (some .int) ∈ wt_tbl := wt_tC2 (List.mem_of_getElem? (i := 71) rfl) rfl
theorem tw_428 : Cond.code yX3_noLookerFar cX3_noLookerFar 3 (some .int) ∈ wt_tbl := wt_tC2 (List.mem_of_getElem? (i := 188) rfl) rfl
theorem tw_465 : Cond.code yX3_noPair cX3_noPair 3 (some .int) ∈ wt_tbl := wt_tC2 (List.mem_of_getElem? (i := 225) rfl) rfl
theorem tw_461 : Cond.code yX3_noPairFar cX3_noPairFar 4 (some .int) ∈ wt_tbl := wt_tC2 (List.mem_of_getElem? (i := 221) rfl) rfl
theorem tw_292 : Cond.code yX3_noPane cX3_noPane 2 (some .int) ∈ wt_tbl := wt_tC2 (List.mem_of_getElem? (i := 52) rfl) rfl
theorem tw_363 : Cond.code yX3_noView cX3_noView 1 (some .int) ∈ wt_tbl := wt_tC2 (List.mem_of_getElem? (i := 123) rfl) rfl
theorem tw_296 : Cond.code yX3_notBelow cX3_notBelow 2 (some .int) ∈ wt_tbl := wt_tC2 (List.mem_of_getElem? (i := 56) rfl) rfl
theorem tw_154 : Cond.code yX3_outside cX3_outside 3 (some .int) ∈ wt_tbl := wt_tC1 (List.mem_of_getElem? (i := 154) rfl) rfl
theorem tw_563 : Cond.code yX3_ownsWell cX3_ownsWell 5 (some .boolean) ∈ wt_tbl := wt_tC3 (List.mem_of_getElem? (i := 83) rfl) rfl
theorem tw_158 : Cond.code yX3_refuse cX3_refuse 3 (some .int) ∈ wt_tbl := wt_tC1 (List.mem_of_getElem? (i := 158) rfl) rfl
theorem tw_517 : Cond.code yX3_refuseLong cX3_refuseLong 2 (some .long) ∈ wt_tbl := wt_tC3 (List.mem_of_getElem? (i := 37) rfl) rfl
theorem tw_548 : Cond.code yX3_rowTells cX3_rowTells 3 (some .boolean) ∈ wt_tbl := wt_tC3 (List.mem_of_getElem? (i := 68) rfl) rfl
theorem tw_170 : Cond.code yX3_tellTerrace cX3_tellTerrace 4 (some .int) ∈ wt_tbl := wt_tC1 (List.mem_of_getElem? (i := 170) rfl) rfl
theorem tw_487 : Cond.code yX3_wealthAt cX3_wealthAt 5 (some .int) ∈ wt_tbl := wt_tC3 (List.mem_of_getElem? (i := 7) rfl) rfl
theorem tw_584 : Cond.code yX3_wealthSwapped cX3_wealthSwapped 5 (some .int) ∈ wt_tbl := wt_tC3 (List.mem_of_getElem? (i := 104) rfl) rfl
theorem tw_509 : Cond.code yX3_wealthWalled cX3_wealthWalled 6 (some .int) ∈ wt_tbl := wt_tC3 (List.mem_of_getElem? (i := 29) rfl) rfl
theorem tw_924 : Cond.code yX4_again cX4_again 1 none ∈ wt_tbl := wt_tC4 (List.mem_of_getElem? (i := 204) rfl) rfl
theorem tw_907 : Cond.code yX4_allShown cX4_allShown 3 (some .int) ∈ wt_tbl := wt_tC4 (List.mem_of_getElem? (i := 187) rfl) rfl
theorem tw_1115 : Cond.code yX4_areResting cX4_areResting 6 (some .boolean) ∈ wt_tbl := wt_tC5 (List.mem_of_getElem? (i := 155) rfl) rfl
theorem tw_1065 : Cond.code yX4_areTwo cX4_areTwo 3 (some .boolean) ∈ wt_tbl := wt_tC5 (List.mem_of_getElem? (i := 105) rfl) rfl
theorem tw_899 : Cond.code yX4_bringsOf cX4_bringsOf 5 (some .int) ∈ wt_tbl := wt_tC4 (List.mem_of_getElem? (i := 179) rfl) rfl
theorem tw_1203 : Cond.code yX4_broughtToAll cX4_broughtToAll 4 (some .int) ∈ wt_tbl := wt_tC6 (List.mem_of_getElem? (i := 3) rfl) rfl
theorem tw_866 : Cond.code yX4_carry cX4_carry 2 (some .int) ∈ wt_tbl := wt_tC4 (List.mem_of_getElem? (i := 146) rfl) rfl
theorem tw_862 : Cond.code yX4_carryAll cX4_carryAll 4 none ∈ wt_tbl := wt_tC4 (List.mem_of_getElem? (i := 142) rfl) rfl
theorem tw_870 : Cond.code yX4_comesTold cX4_comesTold 7 (some .boolean) ∈ wt_tbl := wt_tC4 (List.mem_of_getElem? (i := 150) rfl) rfl
theorem tw_1171 : Cond.code yX4_countIn cX4_countIn 4 (some .int) ∈ wt_tbl := wt_tC5 (List.mem_of_getElem? (i := 211) rfl) rfl
theorem tw_1107 : Cond.code yX4_divisor cX4_divisor 10 (some .long) ∈ wt_tbl := wt_tC5 (List.mem_of_getElem? (i := 147) rfl) rfl
theorem tw_1227 : Cond.code yX4_drawBelow cX4_drawBelow 2 (some .int) ∈ wt_tbl := wt_tC6 (List.mem_of_getElem? (i := 27) rfl) rfl
theorem tw_891 : Cond.code yX4_goDays cX4_goDays 3 none ∈ wt_tbl := wt_tC4 (List.mem_of_getElem? (i := 171) rfl) rfl
theorem tw_910 : Cond.code yX4_hasBit cX4_hasBit 2 (some .boolean) ∈ wt_tbl := wt_tC4 (List.mem_of_getElem? (i := 190) rfl) rfl
theorem tw_919 : Cond.code yX4_held cX4_held 1 (some .int) ∈ wt_tbl := wt_tC4 (List.mem_of_getElem? (i := 199) rfl) rfl
theorem tw_838 : Cond.code yX4_here cX4_here 1 (some .int) ∈ wt_tbl := wt_tC4 (List.mem_of_getElem? (i := 118) rfl) rfl
theorem tw_949 : Cond.code yX4_hoursOf cX4_hoursOf 4 (some .int) ∈ wt_tbl := wt_tC4 (List.mem_of_getElem? (i := 229) rfl) rfl
theorem tw_854 : Cond.code yX4_in cX4_in 6 (some .boolean) ∈ wt_tbl := wt_tC4 (List.mem_of_getElem? (i := 134) rfl) rfl
theorem tw_980 : Cond.code yX4_isHour cX4_isHour 1 (some .boolean) ∈ wt_tbl := wt_tC5 (List.mem_of_getElem? (i := 20) rfl) rfl
theorem tw_841 : Cond.code yX4_isLetter cX4_isLetter 1 (some .boolean) ∈ wt_tbl := wt_tC4 (List.mem_of_getElem? (i := 121) rfl) rfl
theorem tw_878 : Cond.code yX4_isLooker cX4_isLooker 2 (some .boolean) ∈ wt_tbl := wt_tC4 (List.mem_of_getElem? (i := 158) rfl) rfl
theorem tw_882 : Cond.code yX4_isPane cX4_isPane 2 (some .boolean) ∈ wt_tbl := wt_tC4 (List.mem_of_getElem? (i := 162) rfl) rfl
theorem tw_1123 : Cond.code yX4_isRow cX4_isRow 5 (some .boolean) ∈ wt_tbl := wt_tC5 (List.mem_of_getElem? (i := 163) rfl) rfl
theorem tw_996 : Cond.code yX4_isView cX4_isView 1 (some .boolean) ∈ wt_tbl := wt_tC5 (List.mem_of_getElem? (i := 36) rfl) rfl
theorem tw_985 : Cond.code yX4_keepTurn cX4_keepTurn 2 none ∈ wt_tbl := wt_tC5 (List.mem_of_getElem? (i := 25) rfl) rfl
theorem tw_895 : Cond.code yX4_layBrings cX4_layBrings 3 none ∈ wt_tbl := wt_tC4 (List.mem_of_getElem? (i := 175) rfl) rfl
theorem tw_874 : Cond.code yX4_lookerComes cX4_lookerComes 4 none ∈ wt_tbl := wt_tC4 (List.mem_of_getElem? (i := 154) rfl) rfl
theorem tw_1088 : Cond.code yX4_onesOf cX4_onesOf 3 (some .int) ∈ wt_tbl := wt_tC5 (List.mem_of_getElem? (i := 128) rfl) rfl
theorem tw_1014 : Cond.code yX4_owned cX4_owned 3 (some .int) ∈ wt_tbl := wt_tC5 (List.mem_of_getElem? (i := 54) rfl) rfl
theorem tw_957 : Cond.code yX4_ownerIn cX4_ownerIn 4 (some .int) ∈ wt_tbl := wt_tC4 (List.mem_of_getElem? (i := 237) rfl) rfl
theorem tw_961 : Cond.code yX4_ownerLooked cX4_ownerLooked 6 (some .int) ∈ wt_tbl := wt_tC5 (List.mem_of_getElem? (i := 1) rfl) rfl
theorem tw_1104 : Cond.code yX4_partOf cX4_partOf 7 (some .long) ∈ wt_tbl := wt_tC5 (List.mem_of_getElem? (i := 144) rfl) rfl
theorem tw_914 : Cond.code yX4_pullOf cX4_pullOf 5 (some .int) ∈ wt_tbl := wt_tC4 (List.mem_of_getElem? (i := 194) rfl) rfl
theorem tw_849 : Cond.code yX4_readDigits cX4_readDigits 4 (some .int) ∈ wt_tbl := wt_tC4 (List.mem_of_getElem? (i := 129) rfl) rfl
theorem tw_845 : Cond.code yX4_readNumbers cX4_readNumbers 3 none ∈ wt_tbl := wt_tC4 (List.mem_of_getElem? (i := 125) rfl) rfl
theorem tw_834 : Cond.code yX4_readStatement cX4_readStatement 3 none ∈ wt_tbl := wt_tC4 (List.mem_of_getElem? (i := 114) rfl) rfl
theorem tw_826 : Cond.code yX4_refuse cX4_refuse 2 (some .int) ∈ wt_tbl := wt_tC4 (List.mem_of_getElem? (i := 106) rfl) rfl
theorem tw_1057 : Cond.code yX4_richestIn cX4_richestIn 4 (some .int) ∈ wt_tbl := wt_tC5 (List.mem_of_getElem? (i := 97) rfl) rfl
theorem tw_903 : Cond.code yX4_seesIn cX4_seesIn 4 (some .int) ∈ wt_tbl := wt_tC4 (List.mem_of_getElem? (i := 183) rfl) rfl
theorem tw_886 : Cond.code yX4_stand cX4_stand 6 none ∈ wt_tbl := wt_tC4 (List.mem_of_getElem? (i := 166) rfl) rfl
theorem tw_1139 : Cond.code yX4_standing cX4_standing 4 (some .int) ∈ wt_tbl := wt_tC5 (List.mem_of_getElem? (i := 179) rfl) rfl
theorem tw_1151 : Cond.code yX4_swapRosters cX4_swapRosters 5 none ∈ wt_tbl := wt_tC5 (List.mem_of_getElem? (i := 191) rfl) rfl
theorem tw_858 : Cond.code yX4_think cX4_think 1 none ∈ wt_tbl := wt_tC4 (List.mem_of_getElem? (i := 138) rfl) rfl
theorem tw_953 : Cond.code yX4_viewsIn cX4_viewsIn 5 (some .int) ∈ wt_tbl := wt_tC4 (List.mem_of_getElem? (i := 233) rfl) rfl
theorem tw_1077 : Cond.code yX4_worthAnew cX4_worthAnew 3 (some .int) ∈ wt_tbl := wt_tC5 (List.mem_of_getElem? (i := 117) rfl) rfl
theorem tw_1037 : Cond.code yX4_worthBy cX4_worthBy 4 (some .int) ∈ wt_tbl := wt_tC5 (List.mem_of_getElem? (i := 77) rfl) rfl
theorem tw_1033 : Cond.code yX4_worthIn cX4_worthIn 3 (some .int) ∈ wt_tbl := wt_tC5 (List.mem_of_getElem? (i := 73) rfl) rfl
theorem tw_1021 : Cond.code yX4_wrongBit cX4_wrongBit 3 (some .int) ∈ wt_tbl := wt_tC5 (List.mem_of_getElem? (i := 61) rfl) rfl
theorem tw_968 : Cond.code yX4_wrongNumber cX4_wrongNumber 3 (some .int) ∈ wt_tbl := wt_tC5 (List.mem_of_getElem? (i := 8) rfl) rfl
theorem tw_396 : Cond.code yJ6_bitCount_0f7a4 cJ6_bitCount_0f7a4 1 (some .int) ∈ wt_tbl := wt_tC2 (List.mem_of_getElem? (i := 156) rfl) rfl
theorem tw_280 : Cond.code Lib.Math.max.name Lib.Math.max.code 2 (some .int) ∈ wt_tbl := wt_tC2 (List.mem_of_getElem? (i := 40) rfl) rfl
theorem tw_273 : Cond.code Lib.Math.min.name Lib.Math.min.code 2 (some .int) ∈ wt_tbl := wt_tC2 (List.mem_of_getElem? (i := 33) rfl) rfl
theorem tw_270 : Cond.constant RX0 103 (99999 : Int32) ∈ wt_tbl := wt_tC2 (List.mem_of_getElem? (i := 30) rfl) rfl
theorem tw_680 : Cond.constant RX3 332 (1103515245 : Int32) ∈ wt_tbl := wt_tC3 (List.mem_of_getElem? (i := 200) rfl) rfl
theorem tw_684 : Cond.constant RX3 333 (2147483647 : Int32) ∈ wt_tbl := wt_tC3 (List.mem_of_getElem? (i := 204) rfl) rfl
theorem tw_685 : Cond.constant RX3 334 (65536 : Int32) ∈ wt_tbl := wt_tC3 (List.mem_of_getElem? (i := 205) rfl) rfl
theorem tw_920 : Cond.constant RX4 114 (99999 : Int32) ∈ wt_tbl := wt_tC4 (List.mem_of_getElem? (i := 200) rfl) rfl
theorem tw_1228 : Cond.constant RX4 300 (1103515245 : Int32) ∈ wt_tbl := wt_tC6 (List.mem_of_getElem? (i := 28) rfl) rfl
theorem tw_1229 : Cond.constant RX4 301 (2147483647 : Int32) ∈ wt_tbl := wt_tC6 (List.mem_of_getElem? (i := 29) rfl) rfl
theorem tw_1230 : Cond.constant RX4 302 (65536 : Int32) ∈ wt_tbl := wt_tC6 (List.mem_of_getElem? (i := 30) rfl) rfl
theorem tw_397 : Cond.constant RJ6 265 (1431655765 : Int32) ∈ wt_tbl := wt_tC2 (List.mem_of_getElem? (i := 157) rfl) rfl
theorem tw_398 : Cond.constant RJ6 266 (858993459 : Int32) ∈ wt_tbl := wt_tC2 (List.mem_of_getElem? (i := 158) rfl) rfl
theorem tw_399 : Cond.constant RJ6 267 (252645135 : Int32) ∈ wt_tbl := wt_tC2 (List.mem_of_getElem? (i := 159) rfl) rfl
theorem tw_518 : Cond.constantLong RX3 59 (4000000000000000000 : Int64) ∈ wt_tbl := wt_tC3 (List.mem_of_getElem? (i := 38) rfl) rfl
theorem tw_850 : Cond.constantLong RX4 159 (48 : Int64) ∈ wt_tbl := wt_tC4 (List.mem_of_getElem? (i := 130) rfl) rfl
theorem tw_851 : Cond.constantLong RX4 161 (57 : Int64) ∈ wt_tbl := wt_tC4 (List.mem_of_getElem? (i := 131) rfl) rfl
theorem tw_887 : Cond.constantLong RX4 186 (60 : Int64) ∈ wt_tbl := wt_tC4 (List.mem_of_getElem? (i := 167) rfl) rfl
theorem tw_945 : Cond.constantLong RX4 226 (3 : Int64) ∈ wt_tbl := wt_tC4 (List.mem_of_getElem? (i := 225) rfl) rfl
theorem tw_973 : Cond.constantLong RX4 235 (5 : Int64) ∈ wt_tbl := wt_tC5 (List.mem_of_getElem? (i := 13) rfl) rfl
theorem tw_1006 : Cond.constantLong RX4 246 (2 : Int64) ∈ wt_tbl := wt_tC5 (List.mem_of_getElem? (i := 46) rfl) rfl
theorem tw_1101 : Cond.constantLong RX4 270 (4000000000000000000 : Int64) ∈ wt_tbl := wt_tC5 (List.mem_of_getElem? (i := 141) rfl) rfl
theorem tw_1235 : Cond.constantLong RX4 306 (11 : Int64) ∈ wt_tbl := wt_tC6 (List.mem_of_getElem? (i := 35) rfl) rfl
theorem tw_1236 : Cond.constantLong RX4 308 (16 : Int64) ∈ wt_tbl := wt_tC6 (List.mem_of_getElem? (i := 36) rfl) rfl
theorem tw_997 : Cond.constantLong RX4 84 (7 : Int64) ∈ wt_tbl := wt_tC5 (List.mem_of_getElem? (i := 37) rfl) rfl
theorem tw_981 : Cond.constantLong RX4 86 (23 : Int64) ∈ wt_tbl := wt_tC5 (List.mem_of_getElem? (i := 21) rfl) rfl
theorem tw_915 : Cond.constantLong RX4 92 (6 : Int64) ∈ wt_tbl := wt_tC4 (List.mem_of_getElem? (i := 195) rfl) rfl
theorem tw_916 : Cond.constantLong RX4 94 (17 : Int64) ∈ wt_tbl := wt_tC4 (List.mem_of_getElem? (i := 196) rfl) rfl
theorem tw_27 : Cond.fieldLink RX0 15 "WindowTaken$House" "paneViews" "[I" ∈ wt_tbl := wt_tC1 (List.mem_of_getElem? (i := 27) rfl) rfl
theorem tw_30 : Cond.fieldLink RX0 19 "WindowTaken$House" "lookerCount" "I" ∈ wt_tbl := wt_tC1 (List.mem_of_getElem? (i := 30) rfl) rfl
theorem tw_32 : Cond.fieldLink RX0 22 "WindowTaken$House" "kinds" "[I" ∈ wt_tbl := wt_tC1 (List.mem_of_getElem? (i := 32) rfl) rfl
theorem tw_34 : Cond.fieldLink RX0 25 "WindowTaken$House" "figures" "[I" ∈ wt_tbl := wt_tC1 (List.mem_of_getElem? (i := 34) rfl) rfl
theorem tw_36 : Cond.fieldLink RX0 30 "WindowTaken$House" "rosters" "[[I" ∈ wt_tbl := wt_tC1 (List.mem_of_getElem? (i := 36) rfl) rfl
theorem tw_38 : Cond.fieldLink RX0 33 "WindowTaken$House" "counts" "[[I" ∈ wt_tbl := wt_tC1 (List.mem_of_getElem? (i := 38) rfl) rfl
theorem tw_40 : Cond.fieldLink RX0 36 "WindowTaken$House" "worths" "[I" ∈ wt_tbl := wt_tC1 (List.mem_of_getElem? (i := 40) rfl) rfl
theorem tw_42 : Cond.fieldLink RX0 39 "WindowTaken$House" "law" "I" ∈ wt_tbl := wt_tC1 (List.mem_of_getElem? (i := 42) rfl) rfl
theorem tw_44 : Cond.fieldLink RX0 42 "WindowTaken$House" "day" "I" ∈ wt_tbl := wt_tC1 (List.mem_of_getElem? (i := 44) rfl) rfl
theorem tw_46 : Cond.fieldLink RX0 45 "WindowTaken$House" "gains" "[[I" ∈ wt_tbl := wt_tC1 (List.mem_of_getElem? (i := 46) rfl) rfl
theorem tw_25 : Cond.fieldLink RX0 9 "WindowTaken$House" "paneCount" "I" ∈ wt_tbl := wt_tC1 (List.mem_of_getElem? (i := 25) rfl) rfl
theorem tw_106 : Cond.fieldLink RX1 15 "WindowTaken$Letters" "size" "I" ∈ wt_tbl := wt_tC1 (List.mem_of_getElem? (i := 106) rfl) rfl
theorem tw_105 : Cond.fieldLink RX1 9 "WindowTaken$Letters" "signs" "[I" ∈ wt_tbl := wt_tC1 (List.mem_of_getElem? (i := 105) rfl) rfl
theorem tw_80 : Cond.fieldLink RX2 15 "WindowTaken$Steps" "places" "[I" ∈ wt_tbl := wt_tC1 (List.mem_of_getElem? (i := 80) rfl) rfl
theorem tw_81 : Cond.fieldLink RX2 18 "WindowTaken$Steps" "olds" "[I" ∈ wt_tbl := wt_tC1 (List.mem_of_getElem? (i := 81) rfl) rfl
theorem tw_82 : Cond.fieldLink RX2 23 "WindowTaken$Steps" "oldRosters" "[[I" ∈ wt_tbl := wt_tC1 (List.mem_of_getElem? (i := 82) rfl) rfl
theorem tw_83 : Cond.fieldLink RX2 26 "WindowTaken$Steps" "first" "I" ∈ wt_tbl := wt_tC1 (List.mem_of_getElem? (i := 83) rfl) rfl
theorem tw_84 : Cond.fieldLink RX2 30 "WindowTaken$Steps" "size" "I" ∈ wt_tbl := wt_tC1 (List.mem_of_getElem? (i := 84) rfl) rfl
theorem tw_28 : Cond.fieldLink RX2 47 "WindowTaken$House" "paneViews" "[I" ∈ wt_tbl := wt_tC1 (List.mem_of_getElem? (i := 28) rfl) rfl
theorem tw_79 : Cond.fieldLink RX2 9 "WindowTaken$Steps" "whats" "[I" ∈ wt_tbl := wt_tC1 (List.mem_of_getElem? (i := 79) rfl) rfl
theorem tw_114 : Cond.fieldLink RX3 10 "WindowTaken" "house" "LWindowTaken$House;" ∈ wt_tbl := wt_tC1 (List.mem_of_getElem? (i := 114) rfl) rfl
theorem tw_29 : Cond.fieldLink RX3 126 "WindowTaken$House" "paneViews" "[I" ∈ wt_tbl := wt_tC1 (List.mem_of_getElem? (i := 29) rfl) rfl
theorem tw_33 : Cond.fieldLink RX3 132 "WindowTaken$House" "kinds" "[I" ∈ wt_tbl := wt_tC1 (List.mem_of_getElem? (i := 33) rfl) rfl
theorem tw_35 : Cond.fieldLink RX3 135 "WindowTaken$House" "figures" "[I" ∈ wt_tbl := wt_tC1 (List.mem_of_getElem? (i := 35) rfl) rfl
theorem tw_26 : Cond.fieldLink RX3 147 "WindowTaken$House" "paneCount" "I" ∈ wt_tbl := wt_tC1 (List.mem_of_getElem? (i := 26) rfl) rfl
theorem tw_31 : Cond.fieldLink RX3 153 "WindowTaken$House" "lookerCount" "I" ∈ wt_tbl := wt_tC1 (List.mem_of_getElem? (i := 31) rfl) rfl
theorem tw_115 : Cond.fieldLink RX3 16 "WindowTaken" "mind" "LWindowTaken$House;" ∈ wt_tbl := wt_tC1 (List.mem_of_getElem? (i := 115) rfl) rfl
theorem tw_37 : Cond.fieldLink RX3 163 "WindowTaken$House" "rosters" "[[I" ∈ wt_tbl := wt_tC1 (List.mem_of_getElem? (i := 37) rfl) rfl
theorem tw_41 : Cond.fieldLink RX3 187 "WindowTaken$House" "worths" "[I" ∈ wt_tbl := wt_tC1 (List.mem_of_getElem? (i := 41) rfl) rfl
theorem tw_116 : Cond.fieldLink RX3 19 "WindowTaken" "kept" "LWindowTaken$House;" ∈ wt_tbl := wt_tC1 (List.mem_of_getElem? (i := 116) rfl) rfl
theorem tw_43 : Cond.fieldLink RX3 193 "WindowTaken$House" "law" "I" ∈ wt_tbl := wt_tC1 (List.mem_of_getElem? (i := 43) rfl) rfl
theorem tw_45 : Cond.fieldLink RX3 199 "WindowTaken$House" "day" "I" ∈ wt_tbl := wt_tC1 (List.mem_of_getElem? (i := 45) rfl) rfl
theorem tw_85 : Cond.fieldLink RX3 213 "WindowTaken$Steps" "size" "I" ∈ wt_tbl := wt_tC1 (List.mem_of_getElem? (i := 85) rfl) rfl
theorem tw_39 : Cond.fieldLink RX3 217 "WindowTaken$House" "counts" "[[I" ∈ wt_tbl := wt_tC1 (List.mem_of_getElem? (i := 39) rfl) rfl
theorem tw_117 : Cond.fieldLink RX3 22 "WindowTaken" "imageTaken" "Z" ∈ wt_tbl := wt_tC1 (List.mem_of_getElem? (i := 117) rfl) rfl
theorem tw_47 : Cond.fieldLink RX3 220 "WindowTaken$House" "gains" "[[I" ∈ wt_tbl := wt_tC1 (List.mem_of_getElem? (i := 47) rfl) rfl
theorem tw_118 : Cond.fieldLink RX3 29 "WindowTaken" "steps" "LWindowTaken$Steps;" ∈ wt_tbl := wt_tC1 (List.mem_of_getElem? (i := 118) rfl) rfl
theorem tw_119 : Cond.fieldLink RX3 36 "WindowTaken" "letters" "LWindowTaken$Letters;" ∈ wt_tbl := wt_tC1 (List.mem_of_getElem? (i := 119) rfl) rfl
theorem tw_120 : Cond.fieldLink RX3 40 "WindowTaken" "rowNumbers" "[I" ∈ wt_tbl := wt_tC1 (List.mem_of_getElem? (i := 120) rfl) rfl
theorem tw_121 : Cond.fieldLink RX3 44 "WindowTaken" "rowSize" "I" ∈ wt_tbl := wt_tC1 (List.mem_of_getElem? (i := 121) rfl) rfl
theorem tw_122 : Cond.fieldLink RX3 48 "WindowTaken" "refusals" "[I" ∈ wt_tbl := wt_tC1 (List.mem_of_getElem? (i := 122) rfl) rfl
theorem tw_123 : Cond.fieldLink RX3 53 "WindowTaken" "firstPays" "[[I" ∈ wt_tbl := wt_tC1 (List.mem_of_getElem? (i := 123) rfl) rfl
theorem tw_124 : Cond.fieldLink RX3 56 "WindowTaken" "otherPays" "[[I" ∈ wt_tbl := wt_tC1 (List.mem_of_getElem? (i := 124) rfl) rfl
theorem tw_107 : Cond.fieldLink RX3 92 "WindowTaken$Letters" "size" "I" ∈ wt_tbl := wt_tC1 (List.mem_of_getElem? (i := 107) rfl) rfl
theorem tw_718 : Cond.fieldLink RX4 115 "WindowTakenModel" "law0" "I" ∈ wt_tbl := wt_tC3 (List.mem_of_getElem? (i := 238) rfl) rfl
theorem tw_712 : Cond.fieldLink RX4 13 "WindowTakenModel" "shows" "[I" ∈ wt_tbl := wt_tC3 (List.mem_of_getElem? (i := 232) rfl) rfl
theorem tw_719 : Cond.fieldLink RX4 140 "WindowTakenModel" "today" "I" ∈ wt_tbl := wt_tC3 (List.mem_of_getElem? (i := 239) rfl) rfl
theorem tw_725 : Cond.fieldLink RX4 146 "WindowTakenModel" "letterMany" "I" ∈ wt_tbl := wt_tC4 (List.mem_of_getElem? (i := 5) rfl) rfl
theorem tw_726 : Cond.fieldLink RX4 149 "WindowTakenModel" "at" "I" ∈ wt_tbl := wt_tC4 (List.mem_of_getElem? (i := 6) rfl) rfl
theorem tw_727 : Cond.fieldLink RX4 152 "WindowTakenModel" "isBad" "Z" ∈ wt_tbl := wt_tC4 (List.mem_of_getElem? (i := 7) rfl) rfl
theorem tw_714 : Cond.fieldLink RX4 16 "WindowTakenModel" "kinds" "[I" ∈ wt_tbl := wt_tC3 (List.mem_of_getElem? (i := 234) rfl) rfl
theorem tw_728 : Cond.fieldLink RX4 166 "WindowTakenModel" "statements" "I" ∈ wt_tbl := wt_tC4 (List.mem_of_getElem? (i := 8) rfl) rfl
theorem tw_715 : Cond.fieldLink RX4 19 "WindowTakenModel" "figures" "[I" ∈ wt_tbl := wt_tC3 (List.mem_of_getElem? (i := 235) rfl) rfl
theorem tw_740 : Cond.fieldLink RX4 204 "WindowTakenModel" "turned" "I" ∈ wt_tbl := wt_tC4 (List.mem_of_getElem? (i := 20) rfl) rfl
theorem tw_736 : Cond.fieldLink RX4 207 "WindowTakenModel" "isTaking" "Z" ∈ wt_tbl := wt_tC4 (List.mem_of_getElem? (i := 16) rfl) rfl
theorem tw_737 : Cond.fieldLink RX4 210 "WindowTakenModel" "keptIn" "[I" ∈ wt_tbl := wt_tC4 (List.mem_of_getElem? (i := 17) rfl) rfl
theorem tw_735 : Cond.fieldLink RX4 213 "WindowTakenModel" "place0" "I" ∈ wt_tbl := wt_tC4 (List.mem_of_getElem? (i := 15) rfl) rfl
theorem tw_716 : Cond.fieldLink RX4 22 "WindowTakenModel" "rosters" "[I" ∈ wt_tbl := wt_tC3 (List.mem_of_getElem? (i := 236) rfl) rfl
theorem tw_734 : Cond.fieldLink RX4 223 "WindowTakenModel" "hasImage" "Z" ∈ wt_tbl := wt_tC4 (List.mem_of_getElem? (i := 14) rfl) rfl
theorem tw_717 : Cond.fieldLink RX4 25 "WindowTakenModel" "counted" "[I" ∈ wt_tbl := wt_tC3 (List.mem_of_getElem? (i := 237) rfl) rfl
theorem tw_744 : Cond.fieldLink RX4 279 "WindowTakenModel" "rowMany" "I" ∈ wt_tbl := wt_tC4 (List.mem_of_getElem? (i := 24) rfl) rfl
theorem tw_721 : Cond.fieldLink RX4 28 "WindowTakenModel" "refusals" "[I" ∈ wt_tbl := wt_tC4 (List.mem_of_getElem? (i := 1) rfl) rfl
theorem tw_745 : Cond.fieldLink RX4 297 "WindowTakenModel" "seed" "I" ∈ wt_tbl := wt_tC4 (List.mem_of_getElem? (i := 25) rfl) rfl
theorem tw_722 : Cond.fieldLink RX4 31 "WindowTakenModel" "brings" "[I" ∈ wt_tbl := wt_tC4 (List.mem_of_getElem? (i := 2) rfl) rfl
theorem tw_723 : Cond.fieldLink RX4 34 "WindowTakenModel" "looked" "[I" ∈ wt_tbl := wt_tC4 (List.mem_of_getElem? (i := 3) rfl) rfl
theorem tw_724 : Cond.fieldLink RX4 37 "WindowTakenModel" "letters" "[I" ∈ wt_tbl := wt_tC4 (List.mem_of_getElem? (i := 4) rfl) rfl
theorem tw_729 : Cond.fieldLink RX4 40 "WindowTakenModel" "placeIn" "[I" ∈ wt_tbl := wt_tC4 (List.mem_of_getElem? (i := 9) rfl) rfl
theorem tw_730 : Cond.fieldLink RX4 43 "WindowTakenModel" "letterOf" "[I" ∈ wt_tbl := wt_tC4 (List.mem_of_getElem? (i := 10) rfl) rfl
theorem tw_731 : Cond.fieldLink RX4 46 "WindowTakenModel" "told" "[I" ∈ wt_tbl := wt_tC4 (List.mem_of_getElem? (i := 11) rfl) rfl
theorem tw_732 : Cond.fieldLink RX4 49 "WindowTakenModel" "kept" "[I" ∈ wt_tbl := wt_tC4 (List.mem_of_getElem? (i := 12) rfl) rfl
theorem tw_733 : Cond.fieldLink RX4 52 "WindowTakenModel" "imaged" "[I" ∈ wt_tbl := wt_tC4 (List.mem_of_getElem? (i := 13) rfl) rfl
theorem tw_738 : Cond.fieldLink RX4 55 "WindowTakenModel" "turns" "[I" ∈ wt_tbl := wt_tC4 (List.mem_of_getElem? (i := 18) rfl) rfl
theorem tw_739 : Cond.fieldLink RX4 58 "WindowTakenModel" "turnOf" "[I" ∈ wt_tbl := wt_tC4 (List.mem_of_getElem? (i := 19) rfl) rfl
theorem tw_741 : Cond.fieldLink RX4 61 "WindowTakenModel" "oneHas" "[I" ∈ wt_tbl := wt_tC4 (List.mem_of_getElem? (i := 21) rfl) rfl
theorem tw_742 : Cond.fieldLink RX4 64 "WindowTakenModel" "otherHas" "[I" ∈ wt_tbl := wt_tC4 (List.mem_of_getElem? (i := 22) rfl) rfl
theorem tw_743 : Cond.fieldLink RX4 67 "WindowTakenModel" "row" "[I" ∈ wt_tbl := wt_tC4 (List.mem_of_getElem? (i := 23) rfl) rfl
theorem tw_710 : Cond.fieldLink RX4 7 "WindowTakenModel" "worths" "[I" ∈ wt_tbl := wt_tC3 (List.mem_of_getElem? (i := 230) rfl) rfl
theorem tw_720 : Cond.fieldLink RX4 70 "WindowTakenModel" "thrown" "I" ∈ wt_tbl := wt_tC4 (List.mem_of_getElem? (i := 0) rfl) rfl
theorem tw_713 : Cond.fieldLink RX4 74 "WindowTakenModel" "lookers" "I" ∈ wt_tbl := wt_tC3 (List.mem_of_getElem? (i := 233) rfl) rfl
theorem tw_711 : Cond.fieldLink RX4 81 "WindowTakenModel" "panes" "I" ∈ wt_tbl := wt_tC3 (List.mem_of_getElem? (i := 231) rfl) rfl
theorem tw_2 : Cond.initialized RX0 ∈ wt_tbl := wt_tC1 (List.mem_of_getElem? (i := 2) rfl) rfl
theorem tw_4 : Cond.initialized RX1 ∈ wt_tbl := wt_tC1 (List.mem_of_getElem? (i := 4) rfl) rfl
theorem tw_3 : Cond.initialized RX2 ∈ wt_tbl := wt_tC1 (List.mem_of_getElem? (i := 3) rfl) rfl
theorem tw_1 : Cond.initialized RX3 ∈ wt_tbl := wt_tC1 (List.mem_of_getElem? (i := 1) rfl) rfl
theorem tw_5 : Cond.initialized RX4 ∈ wt_tbl := wt_tC1 (List.mem_of_getElem? (i := 5) rfl) rfl
theorem tw_8 : Cond.initialized RJ6 ∈ wt_tbl := wt_tC1 (List.mem_of_getElem? (i := 8) rfl) rfl
theorem tw_7 : Cond.initialized "java/lang/Math" ∈ wt_tbl := wt_tC1 (List.mem_of_getElem? (i := 7) rfl) rfl
theorem tw_6 : Cond.initialized "java/lang/System" ∈ wt_tbl := wt_tC1 (List.mem_of_getElem? (i := 6) rfl) rfl
theorem tw_202 : Cond.instanceMethod yX0_addLooker ∈ wt_tbl := wt_tC1 (List.mem_of_getElem? (i := 202) rfl) rfl
theorem tw_198 : Cond.instanceMethod yX0_addPane ∈ wt_tbl := wt_tC1 (List.mem_of_getElem? (i := 198) rfl) rfl
theorem tw_244 : Cond.instanceMethod yX0_allShown ∈ wt_tbl := wt_tC2 (List.mem_of_getElem? (i := 4) rfl) rfl
theorem tw_267 : Cond.instanceMethod yX0_behind ∈ wt_tbl := wt_tC2 (List.mem_of_getElem? (i := 27) rfl) rfl
theorem tw_642 : Cond.instanceMethod yX0_firstHolding ∈ wt_tbl := wt_tC3 (List.mem_of_getElem? (i := 162) rfl) rfl
theorem tw_228 : Cond.instanceMethod yX0_flip ∈ wt_tbl := wt_tC1 (List.mem_of_getElem? (i := 228) rfl) rfl
theorem tw_264 : Cond.instanceMethod yX0_gain ∈ wt_tbl := wt_tC2 (List.mem_of_getElem? (i := 24) rfl) rfl
theorem tw_650 : Cond.instanceMethod yX0_gainOfAll ∈ wt_tbl := wt_tC3 (List.mem_of_getElem? (i := 170) rfl) rfl
theorem tw_390 : Cond.instanceMethod yX0_held ∈ wt_tbl := wt_tC2 (List.mem_of_getElem? (i := 150) rfl) rfl
theorem tw_323 : Cond.instanceMethod yX0_holder ∈ wt_tbl := wt_tC2 (List.mem_of_getElem? (i := 83) rfl) rfl
theorem tw_319 : Cond.instanceMethod yX0_holdings ∈ wt_tbl := wt_tC2 (List.mem_of_getElem? (i := 79) rfl) rfl
theorem tw_301 : Cond.instanceMethod yX0_hoursAt ∈ wt_tbl := wt_tC2 (List.mem_of_getElem? (i := 61) rfl) rfl
theorem tw_314 : Cond.instanceMethod yX0_hoursOf ∈ wt_tbl := wt_tC2 (List.mem_of_getElem? (i := 74) rfl) rfl
theorem tw_700 : Cond.instanceMethod yX0_hoursOfAll ∈ wt_tbl := wt_tC3 (List.mem_of_getElem? (i := 220) rfl) rfl
theorem tw_210 : Cond.instanceMethod yX0_isLooker ∈ wt_tbl := wt_tC1 (List.mem_of_getElem? (i := 210) rfl) rfl
theorem tw_217 : Cond.instanceMethod yX0_isPane ∈ wt_tbl := wt_tC1 (List.mem_of_getElem? (i := 217) rfl) rfl
theorem tw_598 : Cond.instanceMethod yX0_lead ∈ wt_tbl := wt_tC3 (List.mem_of_getElem? (i := 118) rfl) rfl
theorem tw_610 : Cond.instanceMethod yX0_outdo ∈ wt_tbl := wt_tC3 (List.mem_of_getElem? (i := 130) rfl) rfl
theorem tw_236 : Cond.instanceMethod yX0_pass ∈ wt_tbl := wt_tC1 (List.mem_of_getElem? (i := 236) rfl) rfl
theorem tw_618 : Cond.instanceMethod yX0_placeOf ∈ wt_tbl := wt_tC3 (List.mem_of_getElem? (i := 138) rfl) rfl
theorem tw_206 : Cond.instanceMethod yX0_post ∈ wt_tbl := wt_tC1 (List.mem_of_getElem? (i := 206) rfl) rfl
theorem tw_221 : Cond.instanceMethod yX0_price ∈ wt_tbl := wt_tC1 (List.mem_of_getElem? (i := 221) rfl) rfl
theorem tw_252 : Cond.instanceMethod yX0_pull ∈ wt_tbl := wt_tC2 (List.mem_of_getElem? (i := 12) rfl) rfl
theorem tw_240 : Cond.instanceMethod yX0_reckon ∈ wt_tbl := wt_tC2 (List.mem_of_getElem? (i := 0) rfl) rfl
theorem tw_232 : Cond.instanceMethod yX0_rule ∈ wt_tbl := wt_tC1 (List.mem_of_getElem? (i := 232) rfl) rfl
theorem tw_248 : Cond.instanceMethod yX0_shownBy ∈ wt_tbl := wt_tC2 (List.mem_of_getElem? (i := 8) rfl) rfl
theorem tw_371 : Cond.instanceMethod yX0_shows ∈ wt_tbl := wt_tC2 (List.mem_of_getElem? (i := 131) rfl) rfl
theorem tw_260 : Cond.instanceMethod yX0_sight ∈ wt_tbl := wt_tC2 (List.mem_of_getElem? (i := 20) rfl) rfl
theorem tw_570 : Cond.instanceMethod yX0_standingIn ∈ wt_tbl := wt_tC3 (List.mem_of_getElem? (i := 90) rfl) rfl
theorem tw_183 : Cond.instanceMethod yX0_takeFrom ∈ wt_tbl := wt_tC1 (List.mem_of_getElem? (i := 183) rfl) rfl
theorem tw_471 : Cond.instanceMethod yX0_timesShown ∈ wt_tbl := wt_tC2 (List.mem_of_getElem? (i := 231) rfl) rfl
theorem tw_586 : Cond.instanceMethod yX0_tradeRosters ∈ wt_tbl := wt_tC3 (List.mem_of_getElem? (i := 106) rfl) rfl
theorem tw_430 : Cond.instanceMethod yX0_wealth ∈ wt_tbl := wt_tC2 (List.mem_of_getElem? (i := 190) rfl) rfl
theorem tw_450 : Cond.instanceMethod yX0_wealthiest ∈ wt_tbl := wt_tC2 (List.mem_of_getElem? (i := 210) rfl) rfl
theorem tw_160 : Cond.instanceMethod yX1_add ∈ wt_tbl := wt_tC1 (List.mem_of_getElem? (i := 160) rfl) rfl
theorem tw_275 : Cond.instanceMethod yX1_behind ∈ wt_tbl := wt_tC2 (List.mem_of_getElem? (i := 35) rfl) rfl
theorem tw_172 : Cond.instanceMethod yX1_faultOfForm ∈ wt_tbl := wt_tC1 (List.mem_of_getElem? (i := 172) rfl) rfl
theorem tw_180 : Cond.instanceMethod yX1_isDigit ∈ wt_tbl := wt_tC1 (List.mem_of_getElem? (i := 180) rfl) rfl
theorem tw_195 : Cond.instanceMethod yX1_number ∈ wt_tbl := wt_tC1 (List.mem_of_getElem? (i := 195) rfl) rfl
theorem tw_190 : Cond.instanceMethod yX1_tell ∈ wt_tbl := wt_tC1 (List.mem_of_getElem? (i := 190) rfl) rfl
theorem tw_282 : Cond.instanceMethod yX2_forget ∈ wt_tbl := wt_tC2 (List.mem_of_getElem? (i := 42) rfl) rfl
theorem tw_366 : Cond.instanceMethod yX2_keep ∈ wt_tbl := wt_tC2 (List.mem_of_getElem? (i := 126) rfl) rfl
theorem tw_345 : Cond.instanceMethod yX2_keepRoster ∈ wt_tbl := wt_tC2 (List.mem_of_getElem? (i := 105) rfl) rfl
theorem tw_350 : Cond.instanceMethod yX2_nextSlot ∈ wt_tbl := wt_tC2 (List.mem_of_getElem? (i := 110) rfl) rfl
theorem tw_405 : Cond.instanceMethod yX2_undoLatest ∈ wt_tbl := wt_tC2 (List.mem_of_getElem? (i := 165) rfl) rfl
theorem tw_535 : Cond.instanceMethod yX3_bothContent ∈ wt_tbl := wt_tC3 (List.mem_of_getElem? (i := 55) rfl) rfl
theorem tw_675 : Cond.instanceMethod yX3_castRosters ∈ wt_tbl := wt_tC3 (List.mem_of_getElem? (i := 195) rfl) rfl
theorem tw_531 : Cond.instanceMethod yX3_fillPays ∈ wt_tbl := wt_tC3 (List.mem_of_getElem? (i := 51) rfl) rfl
theorem tw_477 : Cond.instanceMethod yX3_hoursUntilOwned ∈ wt_tbl := wt_tC2 (List.mem_of_getElem? (i := 237) rfl) rfl
theorem tw_543 : Cond.instanceMethod yX3_longRow ∈ wt_tbl := wt_tC3 (List.mem_of_getElem? (i := 63) rfl) rfl
theorem tw_310 : Cond.instanceMethod yX3_noLooker ∈ wt_tbl := wt_tC2 (List.mem_of_getElem? (i := 70) rfl) rfl
theorem tw_427 : Cond.instanceMethod yX3_noLookerFar ∈ wt_tbl := wt_tC2 (List.mem_of_getElem? (i := 187) rfl) rfl
theorem tw_464 : Cond.instanceMethod yX3_noPair ∈ wt_tbl := wt_tC2 (List.mem_of_getElem? (i := 224) rfl) rfl
theorem tw_460 : Cond.instanceMethod yX3_noPairFar ∈ wt_tbl := wt_tC2 (List.mem_of_getElem? (i := 220) rfl) rfl
theorem tw_291 : Cond.instanceMethod yX3_noPane ∈ wt_tbl := wt_tC2 (List.mem_of_getElem? (i := 51) rfl) rfl
theorem tw_562 : Cond.instanceMethod yX3_ownsWell ∈ wt_tbl := wt_tC3 (List.mem_of_getElem? (i := 82) rfl) rfl
theorem tw_157 : Cond.instanceMethod yX3_refuse ∈ wt_tbl := wt_tC1 (List.mem_of_getElem? (i := 157) rfl) rfl
theorem tw_516 : Cond.instanceMethod yX3_refuseLong ∈ wt_tbl := wt_tC3 (List.mem_of_getElem? (i := 36) rfl) rfl
theorem tw_547 : Cond.instanceMethod yX3_rowTells ∈ wt_tbl := wt_tC3 (List.mem_of_getElem? (i := 67) rfl) rfl
theorem tw_169 : Cond.instanceMethod yX3_tellTerrace ∈ wt_tbl := wt_tC1 (List.mem_of_getElem? (i := 169) rfl) rfl
theorem tw_486 : Cond.instanceMethod yX3_wealthAt ∈ wt_tbl := wt_tC3 (List.mem_of_getElem? (i := 6) rfl) rfl
theorem tw_583 : Cond.instanceMethod yX3_wealthSwapped ∈ wt_tbl := wt_tC3 (List.mem_of_getElem? (i := 103) rfl) rfl
theorem tw_508 : Cond.instanceMethod yX3_wealthWalled ∈ wt_tbl := wt_tC3 (List.mem_of_getElem? (i := 28) rfl) rfl
theorem tw_923 : Cond.instanceMethod yX4_again ∈ wt_tbl := wt_tC4 (List.mem_of_getElem? (i := 203) rfl) rfl
theorem tw_906 : Cond.instanceMethod yX4_allShown ∈ wt_tbl := wt_tC4 (List.mem_of_getElem? (i := 186) rfl) rfl
theorem tw_1114 : Cond.instanceMethod yX4_areResting ∈ wt_tbl := wt_tC5 (List.mem_of_getElem? (i := 154) rfl) rfl
theorem tw_1064 : Cond.instanceMethod yX4_areTwo ∈ wt_tbl := wt_tC5 (List.mem_of_getElem? (i := 104) rfl) rfl
theorem tw_898 : Cond.instanceMethod yX4_bringsOf ∈ wt_tbl := wt_tC4 (List.mem_of_getElem? (i := 178) rfl) rfl
theorem tw_1202 : Cond.instanceMethod yX4_broughtToAll ∈ wt_tbl := wt_tC6 (List.mem_of_getElem? (i := 2) rfl) rfl
theorem tw_865 : Cond.instanceMethod yX4_carry ∈ wt_tbl := wt_tC4 (List.mem_of_getElem? (i := 145) rfl) rfl
theorem tw_861 : Cond.instanceMethod yX4_carryAll ∈ wt_tbl := wt_tC4 (List.mem_of_getElem? (i := 141) rfl) rfl
theorem tw_869 : Cond.instanceMethod yX4_comesTold ∈ wt_tbl := wt_tC4 (List.mem_of_getElem? (i := 149) rfl) rfl
theorem tw_1170 : Cond.instanceMethod yX4_countIn ∈ wt_tbl := wt_tC5 (List.mem_of_getElem? (i := 210) rfl) rfl
theorem tw_1226 : Cond.instanceMethod yX4_drawBelow ∈ wt_tbl := wt_tC6 (List.mem_of_getElem? (i := 26) rfl) rfl
theorem tw_890 : Cond.instanceMethod yX4_goDays ∈ wt_tbl := wt_tC4 (List.mem_of_getElem? (i := 170) rfl) rfl
theorem tw_837 : Cond.instanceMethod yX4_here ∈ wt_tbl := wt_tC4 (List.mem_of_getElem? (i := 117) rfl) rfl
theorem tw_948 : Cond.instanceMethod yX4_hoursOf ∈ wt_tbl := wt_tC4 (List.mem_of_getElem? (i := 228) rfl) rfl
theorem tw_877 : Cond.instanceMethod yX4_isLooker ∈ wt_tbl := wt_tC4 (List.mem_of_getElem? (i := 157) rfl) rfl
theorem tw_881 : Cond.instanceMethod yX4_isPane ∈ wt_tbl := wt_tC4 (List.mem_of_getElem? (i := 161) rfl) rfl
theorem tw_1122 : Cond.instanceMethod yX4_isRow ∈ wt_tbl := wt_tC5 (List.mem_of_getElem? (i := 162) rfl) rfl
theorem tw_984 : Cond.instanceMethod yX4_keepTurn ∈ wt_tbl := wt_tC5 (List.mem_of_getElem? (i := 24) rfl) rfl
theorem tw_894 : Cond.instanceMethod yX4_layBrings ∈ wt_tbl := wt_tC4 (List.mem_of_getElem? (i := 174) rfl) rfl
theorem tw_873 : Cond.instanceMethod yX4_lookerComes ∈ wt_tbl := wt_tC4 (List.mem_of_getElem? (i := 153) rfl) rfl
theorem tw_1013 : Cond.instanceMethod yX4_owned ∈ wt_tbl := wt_tC5 (List.mem_of_getElem? (i := 53) rfl) rfl
theorem tw_956 : Cond.instanceMethod yX4_ownerIn ∈ wt_tbl := wt_tC4 (List.mem_of_getElem? (i := 236) rfl) rfl
theorem tw_960 : Cond.instanceMethod yX4_ownerLooked ∈ wt_tbl := wt_tC5 (List.mem_of_getElem? (i := 0) rfl) rfl
theorem tw_913 : Cond.instanceMethod yX4_pullOf ∈ wt_tbl := wt_tC4 (List.mem_of_getElem? (i := 193) rfl) rfl
theorem tw_848 : Cond.instanceMethod yX4_readDigits ∈ wt_tbl := wt_tC4 (List.mem_of_getElem? (i := 128) rfl) rfl
theorem tw_844 : Cond.instanceMethod yX4_readNumbers ∈ wt_tbl := wt_tC4 (List.mem_of_getElem? (i := 124) rfl) rfl
theorem tw_833 : Cond.instanceMethod yX4_readStatement ∈ wt_tbl := wt_tC4 (List.mem_of_getElem? (i := 113) rfl) rfl
theorem tw_825 : Cond.instanceMethod yX4_refuse ∈ wt_tbl := wt_tC4 (List.mem_of_getElem? (i := 105) rfl) rfl
theorem tw_1056 : Cond.instanceMethod yX4_richestIn ∈ wt_tbl := wt_tC5 (List.mem_of_getElem? (i := 96) rfl) rfl
theorem tw_902 : Cond.instanceMethod yX4_seesIn ∈ wt_tbl := wt_tC4 (List.mem_of_getElem? (i := 182) rfl) rfl
theorem tw_885 : Cond.instanceMethod yX4_stand ∈ wt_tbl := wt_tC4 (List.mem_of_getElem? (i := 165) rfl) rfl
theorem tw_1138 : Cond.instanceMethod yX4_standing ∈ wt_tbl := wt_tC5 (List.mem_of_getElem? (i := 178) rfl) rfl
theorem tw_1150 : Cond.instanceMethod yX4_swapRosters ∈ wt_tbl := wt_tC5 (List.mem_of_getElem? (i := 190) rfl) rfl
theorem tw_857 : Cond.instanceMethod yX4_think ∈ wt_tbl := wt_tC4 (List.mem_of_getElem? (i := 137) rfl) rfl
theorem tw_952 : Cond.instanceMethod yX4_viewsIn ∈ wt_tbl := wt_tC4 (List.mem_of_getElem? (i := 232) rfl) rfl
theorem tw_1076 : Cond.instanceMethod yX4_worthAnew ∈ wt_tbl := wt_tC5 (List.mem_of_getElem? (i := 116) rfl) rfl
theorem tw_1036 : Cond.instanceMethod yX4_worthBy ∈ wt_tbl := wt_tC5 (List.mem_of_getElem? (i := 76) rfl) rfl
theorem tw_1032 : Cond.instanceMethod yX4_worthIn ∈ wt_tbl := wt_tC5 (List.mem_of_getElem? (i := 72) rfl) rfl
theorem tw_271 : Cond.methodLink RX0 104 Lib.Math.min.name ∈ wt_tbl := wt_tC2 (List.mem_of_getElem? (i := 31) rfl) rfl
theorem tw_322 : Cond.methodLink RX0 109 yX0_holder ∈ wt_tbl := wt_tC2 (List.mem_of_getElem? (i := 82) rfl) rfl
theorem tw_393 : Cond.methodLink RX0 112 yX0_holdings ∈ wt_tbl := wt_tC2 (List.mem_of_getElem? (i := 153) rfl) rfl
theorem tw_453 : Cond.methodLink RX0 115 yX0_wealth ∈ wt_tbl := wt_tC2 (List.mem_of_getElem? (i := 213) rfl) rfl
theorem tw_186 : Cond.methodLink RX0 48 arraycopyName ∈ wt_tbl := wt_tC1 (List.mem_of_getElem? (i := 186) rfl) rfl
theorem tw_209 : Cond.methodLink RX0 54 yX0_isLooker ∈ wt_tbl := wt_tC1 (List.mem_of_getElem? (i := 209) rfl) rfl
theorem tw_213 : Cond.methodLink RX0 58 yX0_isHour ∈ wt_tbl := wt_tC1 (List.mem_of_getElem? (i := 213) rfl) rfl
theorem tw_216 : Cond.methodLink RX0 61 yX0_isPane ∈ wt_tbl := wt_tC1 (List.mem_of_getElem? (i := 216) rfl) rfl
theorem tw_224 : Cond.methodLink RX0 64 yX0_isView ∈ wt_tbl := wt_tC1 (List.mem_of_getElem? (i := 224) rfl) rfl
theorem tw_239 : Cond.methodLink RX0 67 yX0_reckon ∈ wt_tbl := wt_tC1 (List.mem_of_getElem? (i := 239) rfl) rfl
theorem tw_266 : Cond.methodLink RX0 70 yX0_behind ∈ wt_tbl := wt_tC2 (List.mem_of_getElem? (i := 26) rfl) rfl
theorem tw_247 : Cond.methodLink RX0 74 yX0_shownBy ∈ wt_tbl := wt_tC2 (List.mem_of_getElem? (i := 7) rfl) rfl
theorem tw_474 : Cond.methodLink RX0 78 yX0_shows ∈ wt_tbl := wt_tC2 (List.mem_of_getElem? (i := 234) rfl) rfl
theorem tw_703 : Cond.methodLink RX0 82 yX0_hoursOf ∈ wt_tbl := wt_tC3 (List.mem_of_getElem? (i := 223) rfl) rfl
theorem tw_255 : Cond.methodLink RX0 85 yX0_invalidsPull ∈ wt_tbl := wt_tC2 (List.mem_of_getElem? (i := 15) rfl) rfl
theorem tw_243 : Cond.methodLink RX0 88 yX0_allShown ∈ wt_tbl := wt_tC2 (List.mem_of_getElem? (i := 3) rfl) rfl
theorem tw_251 : Cond.methodLink RX0 92 yX0_pull ∈ wt_tbl := wt_tC2 (List.mem_of_getElem? (i := 11) rfl) rfl
theorem tw_258 : Cond.methodLink RX0 96 yX0_sight ∈ wt_tbl := wt_tC2 (List.mem_of_getElem? (i := 18) rfl) rfl
theorem tw_262 : Cond.methodLink RX0 99 yX0_gain ∈ wt_tbl := wt_tC2 (List.mem_of_getElem? (i := 22) rfl) rfl
theorem tw_175 : Cond.methodLink RX1 19 yX1_digitsOf ∈ wt_tbl := wt_tC1 (List.mem_of_getElem? (i := 175) rfl) rfl
theorem tw_278 : Cond.methodLink RX1 23 Lib.Math.max.name ∈ wt_tbl := wt_tC2 (List.mem_of_getElem? (i := 38) rfl) rfl
theorem tw_178 : Cond.methodLink RX1 29 yX1_isDigit ∈ wt_tbl := wt_tC1 (List.mem_of_getElem? (i := 178) rfl) rfl
theorem tw_193 : Cond.methodLink RX1 33 yX1_number ∈ wt_tbl := wt_tC1 (List.mem_of_getElem? (i := 193) rfl) rfl
theorem tw_197 : Cond.methodLink RX1 36 yX0_addPane ∈ wt_tbl := wt_tC1 (List.mem_of_getElem? (i := 197) rfl) rfl
theorem tw_201 : Cond.methodLink RX1 41 yX0_addLooker ∈ wt_tbl := wt_tC1 (List.mem_of_getElem? (i := 201) rfl) rfl
theorem tw_205 : Cond.methodLink RX1 45 yX0_post ∈ wt_tbl := wt_tC1 (List.mem_of_getElem? (i := 205) rfl) rfl
theorem tw_220 : Cond.methodLink RX1 49 yX0_price ∈ wt_tbl := wt_tC1 (List.mem_of_getElem? (i := 220) rfl) rfl
theorem tw_227 : Cond.methodLink RX1 52 yX0_flip ∈ wt_tbl := wt_tC1 (List.mem_of_getElem? (i := 227) rfl) rfl
theorem tw_231 : Cond.methodLink RX1 55 yX0_rule ∈ wt_tbl := wt_tC1 (List.mem_of_getElem? (i := 231) rfl) rfl
theorem tw_235 : Cond.methodLink RX1 58 yX0_pass ∈ wt_tbl := wt_tC1 (List.mem_of_getElem? (i := 235) rfl) rfl
theorem tw_348 : Cond.methodLink RX2 33 yX2_nextSlot ∈ wt_tbl := wt_tC2 (List.mem_of_getElem? (i := 108) rfl) rfl
theorem tw_408 : Cond.methodLink RX2 37 yX0_post ∈ wt_tbl := wt_tC2 (List.mem_of_getElem? (i := 168) rfl) rfl
theorem tw_409 : Cond.methodLink RX2 43 yX0_isPane ∈ wt_tbl := wt_tC2 (List.mem_of_getElem? (i := 169) rfl) rfl
theorem tw_410 : Cond.methodLink RX2 50 yX0_price ∈ wt_tbl := wt_tC2 (List.mem_of_getElem? (i := 170) rfl) rfl
theorem tw_411 : Cond.methodLink RX2 54 yX0_rule ∈ wt_tbl := wt_tC2 (List.mem_of_getElem? (i := 171) rfl) rfl
theorem tw_171 : Cond.methodLink RX3 103 yX1_faultOfForm ∈ wt_tbl := wt_tC1 (List.mem_of_getElem? (i := 171) rfl) rfl
theorem tw_182 : Cond.methodLink RX3 106 yX0_takeFrom ∈ wt_tbl := wt_tC1 (List.mem_of_getElem? (i := 182) rfl) rfl
theorem tw_189 : Cond.methodLink RX3 110 yX1_tell ∈ wt_tbl := wt_tC1 (List.mem_of_getElem? (i := 189) rfl) rfl
theorem tw_274 : Cond.methodLink RX3 114 yX1_behind ∈ wt_tbl := wt_tC2 (List.mem_of_getElem? (i := 34) rfl) rfl
theorem tw_281 : Cond.methodLink RX3 117 yX2_forget ∈ wt_tbl := wt_tC2 (List.mem_of_getElem? (i := 41) rfl) rfl
theorem tw_289 : Cond.methodLink RX3 120 yX3_noPane ∈ wt_tbl := wt_tC2 (List.mem_of_getElem? (i := 49) rfl) rfl
theorem tw_294 : Cond.methodLink RX3 123 yX3_notBelow ∈ wt_tbl := wt_tC2 (List.mem_of_getElem? (i := 54) rfl) rfl
theorem tw_300 : Cond.methodLink RX3 129 yX0_hoursAt ∈ wt_tbl := wt_tC2 (List.mem_of_getElem? (i := 60) rfl) rfl
theorem tw_313 : Cond.methodLink RX3 138 yX0_hoursOf ∈ wt_tbl := wt_tC2 (List.mem_of_getElem? (i := 73) rfl) rfl
theorem tw_317 : Cond.methodLink RX3 141 yX0_reckon ∈ wt_tbl := wt_tC2 (List.mem_of_getElem? (i := 77) rfl) rfl
theorem tw_318 : Cond.methodLink RX3 144 yX0_holdings ∈ wt_tbl := wt_tC2 (List.mem_of_getElem? (i := 78) rfl) rfl
theorem tw_330 : Cond.methodLink RX3 150 yX0_addPane ∈ wt_tbl := wt_tC2 (List.mem_of_getElem? (i := 90) rfl) rfl
theorem tw_335 : Cond.methodLink RX3 156 yX0_addLooker ∈ wt_tbl := wt_tC2 (List.mem_of_getElem? (i := 95) rfl) rfl
theorem tw_340 : Cond.methodLink RX3 160 yX3_noHour ∈ wt_tbl := wt_tC2 (List.mem_of_getElem? (i := 100) rfl) rfl
theorem tw_344 : Cond.methodLink RX3 166 yX2_keepRoster ∈ wt_tbl := wt_tC2 (List.mem_of_getElem? (i := 104) rfl) rfl
theorem tw_352 : Cond.methodLink RX3 170 yX0_post ∈ wt_tbl := wt_tC2 (List.mem_of_getElem? (i := 112) rfl) rfl
theorem tw_361 : Cond.methodLink RX3 174 yX3_noView ∈ wt_tbl := wt_tC2 (List.mem_of_getElem? (i := 121) rfl) rfl
theorem tw_365 : Cond.methodLink RX3 177 yX2_keep ∈ wt_tbl := wt_tC2 (List.mem_of_getElem? (i := 125) rfl) rfl
theorem tw_369 : Cond.methodLink RX3 181 yX0_flip ∈ wt_tbl := wt_tC2 (List.mem_of_getElem? (i := 129) rfl) rfl
theorem tw_370 : Cond.methodLink RX3 184 yX0_shows ∈ wt_tbl := wt_tC2 (List.mem_of_getElem? (i := 130) rfl) rfl
theorem tw_378 : Cond.methodLink RX3 190 yX0_price ∈ wt_tbl := wt_tC2 (List.mem_of_getElem? (i := 138) rfl) rfl
theorem tw_383 : Cond.methodLink RX3 196 yX0_rule ∈ wt_tbl := wt_tC2 (List.mem_of_getElem? (i := 143) rfl) rfl
theorem tw_388 : Cond.methodLink RX3 202 yX0_pass ∈ wt_tbl := wt_tC2 (List.mem_of_getElem? (i := 148) rfl) rfl
theorem tw_389 : Cond.methodLink RX3 205 yX0_held ∈ wt_tbl := wt_tC2 (List.mem_of_getElem? (i := 149) rfl) rfl
theorem tw_394 : Cond.methodLink RX3 208 yJ6_bitCount_0f7a4 ∈ wt_tbl := wt_tC2 (List.mem_of_getElem? (i := 154) rfl) rfl
theorem tw_404 : Cond.methodLink RX3 214 yX2_undoLatest ∈ wt_tbl := wt_tC2 (List.mem_of_getElem? (i := 164) rfl) rfl
theorem tw_420 : Cond.methodLink RX3 223 yX0_holder ∈ wt_tbl := wt_tC2 (List.mem_of_getElem? (i := 180) rfl) rfl
theorem tw_425 : Cond.methodLink RX3 226 yX3_noLookerFar ∈ wt_tbl := wt_tC2 (List.mem_of_getElem? (i := 185) rfl) rfl
theorem tw_429 : Cond.methodLink RX3 229 yX0_wealth ∈ wt_tbl := wt_tC2 (List.mem_of_getElem? (i := 189) rfl) rfl
theorem tw_449 : Cond.methodLink RX3 232 yX0_wealthiest ∈ wt_tbl := wt_tC2 (List.mem_of_getElem? (i := 209) rfl) rfl
theorem tw_458 : Cond.methodLink RX3 235 yX3_noPairFar ∈ wt_tbl := wt_tC2 (List.mem_of_getElem? (i := 218) rfl) rfl
theorem tw_470 : Cond.methodLink RX3 238 yX0_timesShown ∈ wt_tbl := wt_tC2 (List.mem_of_getElem? (i := 230) rfl) rfl
theorem tw_475 : Cond.methodLink RX3 241 yX3_hoursUntilOwned ∈ wt_tbl := wt_tC2 (List.mem_of_getElem? (i := 235) rfl) rfl
theorem tw_479 : Cond.methodLink RX3 244 yX0_pull ∈ wt_tbl := wt_tC2 (List.mem_of_getElem? (i := 239) rfl) rfl
theorem tw_484 : Cond.methodLink RX3 247 yX3_wealthAt ∈ wt_tbl := wt_tC3 (List.mem_of_getElem? (i := 4) rfl) rfl
theorem tw_496 : Cond.methodLink RX3 251 yX0_allShown ∈ wt_tbl := wt_tC3 (List.mem_of_getElem? (i := 16) rfl) rfl
theorem tw_497 : Cond.methodLink RX3 254 yX0_shownBy ∈ wt_tbl := wt_tC3 (List.mem_of_getElem? (i := 17) rfl) rfl
theorem tw_506 : Cond.methodLink RX3 257 yX3_wealthWalled ∈ wt_tbl := wt_tC3 (List.mem_of_getElem? (i := 26) rfl) rfl
theorem tw_514 : Cond.methodLink RX3 260 yX3_refuseLong ∈ wt_tbl := wt_tC3 (List.mem_of_getElem? (i := 34) rfl) rfl
theorem tw_519 : Cond.methodLink RX3 264 yX3_fraction ∈ wt_tbl := wt_tC3 (List.mem_of_getElem? (i := 39) rfl) rfl
theorem tw_529 : Cond.methodLink RX3 268 yX3_fillPays ∈ wt_tbl := wt_tC3 (List.mem_of_getElem? (i := 49) rfl) rfl
theorem tw_533 : Cond.methodLink RX3 272 yX3_bothContent ∈ wt_tbl := wt_tC3 (List.mem_of_getElem? (i := 53) rfl) rfl
theorem tw_541 : Cond.methodLink RX3 275 yX3_longRow ∈ wt_tbl := wt_tC3 (List.mem_of_getElem? (i := 61) rfl) rfl
theorem tw_545 : Cond.methodLink RX3 278 yX3_rowTells ∈ wt_tbl := wt_tC3 (List.mem_of_getElem? (i := 65) rfl) rfl
theorem tw_549 : Cond.methodLink RX3 281 yX3_inRow ∈ wt_tbl := wt_tC3 (List.mem_of_getElem? (i := 69) rfl) rfl
theorem tw_560 : Cond.methodLink RX3 284 yX3_ownsWell ∈ wt_tbl := wt_tC3 (List.mem_of_getElem? (i := 80) rfl) rfl
theorem tw_564 : Cond.methodLink RX3 287 yX0_behind ∈ wt_tbl := wt_tC3 (List.mem_of_getElem? (i := 84) rfl) rfl
theorem tw_522 : Cond.methodLink RX3 289 yX3_commonDivisor ∈ wt_tbl := wt_tC3 (List.mem_of_getElem? (i := 42) rfl) rfl
theorem tw_569 : Cond.methodLink RX3 293 yX0_standingIn ∈ wt_tbl := wt_tC3 (List.mem_of_getElem? (i := 89) rfl) rfl
theorem tw_581 : Cond.methodLink RX3 296 yX3_wealthSwapped ∈ wt_tbl := wt_tC3 (List.mem_of_getElem? (i := 101) rfl) rfl
theorem tw_585 : Cond.methodLink RX3 299 yX0_tradeRosters ∈ wt_tbl := wt_tC3 (List.mem_of_getElem? (i := 105) rfl) rfl
theorem tw_597 : Cond.methodLink RX3 303 yX0_lead ∈ wt_tbl := wt_tC3 (List.mem_of_getElem? (i := 117) rfl) rfl
theorem tw_609 : Cond.methodLink RX3 306 yX0_outdo ∈ wt_tbl := wt_tC3 (List.mem_of_getElem? (i := 129) rfl) rfl
theorem tw_617 : Cond.methodLink RX3 309 yX0_placeOf ∈ wt_tbl := wt_tC3 (List.mem_of_getElem? (i := 137) rfl) rfl
theorem tw_641 : Cond.methodLink RX3 312 yX0_firstHolding ∈ wt_tbl := wt_tC3 (List.mem_of_getElem? (i := 161) rfl) rfl
theorem tw_649 : Cond.methodLink RX3 315 yX0_gainOfAll ∈ wt_tbl := wt_tC3 (List.mem_of_getElem? (i := 169) rfl) rfl
theorem tw_673 : Cond.methodLink RX3 318 yX3_castRosters ∈ wt_tbl := wt_tC3 (List.mem_of_getElem? (i := 193) rfl) rfl
theorem tw_677 : Cond.methodLink RX3 321 yX3_nextSeed ∈ wt_tbl := wt_tC3 (List.mem_of_getElem? (i := 197) rfl) rfl
theorem tw_681 : Cond.methodLink RX3 324 yX3_drawBelow ∈ wt_tbl := wt_tC3 (List.mem_of_getElem? (i := 201) rfl) rfl
theorem tw_686 : Cond.methodLink RX3 327 Lib.Math.min.name ∈ wt_tbl := wt_tC3 (List.mem_of_getElem? (i := 206) rfl) rfl
theorem tw_699 : Cond.methodLink RX3 335 yX0_hoursOfAll ∈ wt_tbl := wt_tC3 (List.mem_of_getElem? (i := 219) rfl) rfl
theorem tw_155 : Cond.methodLink RX3 61 yX3_refuse ∈ wt_tbl := wt_tC1 (List.mem_of_getElem? (i := 155) rfl) rfl
theorem tw_364 : Cond.methodLink RX3 65 yX0_isView ∈ wt_tbl := wt_tC2 (List.mem_of_getElem? (i := 124) rfl) rfl
theorem tw_343 : Cond.methodLink RX3 69 yX0_isHour ∈ wt_tbl := wt_tC2 (List.mem_of_getElem? (i := 103) rfl) rfl
theorem tw_293 : Cond.methodLink RX3 72 yX0_isPane ∈ wt_tbl := wt_tC2 (List.mem_of_getElem? (i := 53) rfl) rfl
theorem tw_312 : Cond.methodLink RX3 75 yX0_isLooker ∈ wt_tbl := wt_tC2 (List.mem_of_getElem? (i := 72) rfl) rfl
theorem tw_308 : Cond.methodLink RX3 78 yX3_noLooker ∈ wt_tbl := wt_tC2 (List.mem_of_getElem? (i := 68) rfl) rfl
theorem tw_152 : Cond.methodLink RX3 81 yX3_outside ∈ wt_tbl := wt_tC1 (List.mem_of_getElem? (i := 152) rfl) rfl
theorem tw_297 : Cond.methodLink RX3 85 yX3_firstOf ∈ wt_tbl := wt_tC2 (List.mem_of_getElem? (i := 57) rfl) rfl
theorem tw_462 : Cond.methodLink RX3 89 yX3_noPair ∈ wt_tbl := wt_tC2 (List.mem_of_getElem? (i := 222) rfl) rfl
theorem tw_159 : Cond.methodLink RX3 95 yX1_add ∈ wt_tbl := wt_tC1 (List.mem_of_getElem? (i := 159) rfl) rfl
theorem tw_167 : Cond.methodLink RX3 99 yX3_tellTerrace ∈ wt_tbl := wt_tC1 (List.mem_of_getElem? (i := 167) rfl) rfl
theorem tw_900 : Cond.methodLink RX4 100 yX4_seesIn ∈ wt_tbl := wt_tC4 (List.mem_of_getElem? (i := 180) rfl) rfl
theorem tw_908 : Cond.methodLink RX4 104 yX4_hasBit ∈ wt_tbl := wt_tC4 (List.mem_of_getElem? (i := 188) rfl) rfl
theorem tw_911 : Cond.methodLink RX4 108 yX4_pullOf ∈ wt_tbl := wt_tC4 (List.mem_of_getElem? (i := 191) rfl) rfl
theorem tw_896 : Cond.methodLink RX4 111 yX4_bringsOf ∈ wt_tbl := wt_tC4 (List.mem_of_getElem? (i := 176) rfl) rfl
theorem tw_917 : Cond.methodLink RX4 118 yX4_held ∈ wt_tbl := wt_tC4 (List.mem_of_getElem? (i := 197) rfl) rfl
theorem tw_958 : Cond.methodLink RX4 122 yX4_ownerLooked ∈ wt_tbl := wt_tC4 (List.mem_of_getElem? (i := 238) rfl) rfl
theorem tw_954 : Cond.methodLink RX4 125 yX4_ownerIn ∈ wt_tbl := wt_tC4 (List.mem_of_getElem? (i := 234) rfl) rfl
theorem tw_950 : Cond.methodLink RX4 128 yX4_viewsIn ∈ wt_tbl := wt_tC4 (List.mem_of_getElem? (i := 230) rfl) rfl
theorem tw_1034 : Cond.methodLink RX4 131 yX4_worthBy ∈ wt_tbl := wt_tC5 (List.mem_of_getElem? (i := 74) rfl) rfl
theorem tw_892 : Cond.methodLink RX4 134 yX4_layBrings ∈ wt_tbl := wt_tC4 (List.mem_of_getElem? (i := 172) rfl) rfl
theorem tw_1030 : Cond.methodLink RX4 137 yX4_worthIn ∈ wt_tbl := wt_tC5 (List.mem_of_getElem? (i := 70) rfl) rfl
theorem tw_823 : Cond.methodLink RX4 143 yX4_refuse ∈ wt_tbl := wt_tC4 (List.mem_of_getElem? (i := 103) rfl) rfl
theorem tw_835 : Cond.methodLink RX4 156 yX4_here ∈ wt_tbl := wt_tC4 (List.mem_of_getElem? (i := 115) rfl) rfl
theorem tw_846 : Cond.methodLink RX4 163 yX4_readDigits ∈ wt_tbl := wt_tC4 (List.mem_of_getElem? (i := 126) rfl) rfl
theorem tw_839 : Cond.methodLink RX4 169 yX4_isLetter ∈ wt_tbl := wt_tC4 (List.mem_of_getElem? (i := 119) rfl) rfl
theorem tw_842 : Cond.methodLink RX4 172 yX4_readNumbers ∈ wt_tbl := wt_tC4 (List.mem_of_getElem? (i := 122) rfl) rfl
theorem tw_871 : Cond.methodLink RX4 176 yX4_lookerComes ∈ wt_tbl := wt_tC4 (List.mem_of_getElem? (i := 151) rfl) rfl
theorem tw_879 : Cond.methodLink RX4 179 yX4_isPane ∈ wt_tbl := wt_tC4 (List.mem_of_getElem? (i := 159) rfl) rfl
theorem tw_883 : Cond.methodLink RX4 182 yX4_stand ∈ wt_tbl := wt_tC4 (List.mem_of_getElem? (i := 163) rfl) rfl
theorem tw_888 : Cond.methodLink RX4 188 yX4_goDays ∈ wt_tbl := wt_tC4 (List.mem_of_getElem? (i := 168) rfl) rfl
theorem tw_831 : Cond.methodLink RX4 192 yX4_readStatement ∈ wt_tbl := wt_tC4 (List.mem_of_getElem? (i := 111) rfl) rfl
theorem tw_855 : Cond.methodLink RX4 195 yX4_think ∈ wt_tbl := wt_tC4 (List.mem_of_getElem? (i := 135) rfl) rfl
theorem tw_867 : Cond.methodLink RX4 198 yX4_comesTold ∈ wt_tbl := wt_tC4 (List.mem_of_getElem? (i := 147) rfl) rfl
theorem tw_921 : Cond.methodLink RX4 201 yX4_again ∈ wt_tbl := wt_tC4 (List.mem_of_getElem? (i := 201) rfl) rfl
theorem tw_863 : Cond.methodLink RX4 216 yX4_carry ∈ wt_tbl := wt_tC4 (List.mem_of_getElem? (i := 143) rfl) rfl
theorem tw_859 : Cond.methodLink RX4 219 yX4_carryAll ∈ wt_tbl := wt_tC4 (List.mem_of_getElem? (i := 139) rfl) rfl
theorem tw_946 : Cond.methodLink RX4 228 yX4_hoursOf ∈ wt_tbl := wt_tC4 (List.mem_of_getElem? (i := 226) rfl) rfl
theorem tw_966 : Cond.methodLink RX4 231 yX4_wrongNumber ∈ wt_tbl := wt_tC5 (List.mem_of_getElem? (i := 6) rfl) rfl
theorem tw_978 : Cond.methodLink RX4 237 yX4_isHour ∈ wt_tbl := wt_tC5 (List.mem_of_getElem? (i := 18) rfl) rfl
theorem tw_982 : Cond.methodLink RX4 240 yX4_keepTurn ∈ wt_tbl := wt_tC5 (List.mem_of_getElem? (i := 22) rfl) rfl
theorem tw_994 : Cond.methodLink RX4 243 yX4_isView ∈ wt_tbl := wt_tC5 (List.mem_of_getElem? (i := 34) rfl) rfl
theorem tw_1011 : Cond.methodLink RX4 248 yX4_owned ∈ wt_tbl := wt_tC5 (List.mem_of_getElem? (i := 51) rfl) rfl
theorem tw_1019 : Cond.methodLink RX4 251 yX4_wrongBit ∈ wt_tbl := wt_tC5 (List.mem_of_getElem? (i := 59) rfl) rfl
theorem tw_1054 : Cond.methodLink RX4 254 yX4_richestIn ∈ wt_tbl := wt_tC5 (List.mem_of_getElem? (i := 94) rfl) rfl
theorem tw_1062 : Cond.methodLink RX4 257 yX4_areTwo ∈ wt_tbl := wt_tC5 (List.mem_of_getElem? (i := 102) rfl) rfl
theorem tw_1074 : Cond.methodLink RX4 260 yX4_worthAnew ∈ wt_tbl := wt_tC5 (List.mem_of_getElem? (i := 114) rfl) rfl
theorem tw_1086 : Cond.methodLink RX4 263 yX4_onesOf ∈ wt_tbl := wt_tC5 (List.mem_of_getElem? (i := 126) rfl) rfl
theorem tw_1105 : Cond.methodLink RX4 266 yX4_divisor ∈ wt_tbl := wt_tC5 (List.mem_of_getElem? (i := 145) rfl) rfl
theorem tw_1102 : Cond.methodLink RX4 272 yX4_partOf ∈ wt_tbl := wt_tC5 (List.mem_of_getElem? (i := 142) rfl) rfl
theorem tw_1112 : Cond.methodLink RX4 276 yX4_areResting ∈ wt_tbl := wt_tC5 (List.mem_of_getElem? (i := 152) rfl) rfl
theorem tw_1120 : Cond.methodLink RX4 282 yX4_isRow ∈ wt_tbl := wt_tC5 (List.mem_of_getElem? (i := 160) rfl) rfl
theorem tw_1136 : Cond.methodLink RX4 285 yX4_standing ∈ wt_tbl := wt_tC5 (List.mem_of_getElem? (i := 176) rfl) rfl
theorem tw_1148 : Cond.methodLink RX4 288 yX4_swapRosters ∈ wt_tbl := wt_tC5 (List.mem_of_getElem? (i := 188) rfl) rfl
theorem tw_1168 : Cond.methodLink RX4 291 yX4_countIn ∈ wt_tbl := wt_tC5 (List.mem_of_getElem? (i := 208) rfl) rfl
theorem tw_1200 : Cond.methodLink RX4 294 yX4_broughtToAll ∈ wt_tbl := wt_tC6 (List.mem_of_getElem? (i := 0) rfl) rfl
theorem tw_1224 : Cond.methodLink RX4 303 yX4_drawBelow ∈ wt_tbl := wt_tC6 (List.mem_of_getElem? (i := 24) rfl) rfl
theorem tw_852 : Cond.methodLink RX4 77 yX4_in ∈ wt_tbl := wt_tC4 (List.mem_of_getElem? (i := 132) rfl) rfl
theorem tw_875 : Cond.methodLink RX4 88 yX4_isLooker ∈ wt_tbl := wt_tC4 (List.mem_of_getElem? (i := 155) rfl) rfl
theorem tw_904 : Cond.methodLink RX4 96 yX4_allShown ∈ wt_tbl := wt_tC4 (List.mem_of_getElem? (i := 184) rfl) rfl
theorem tw_188 : Cond.native arraycopyName ∈ wt_tbl := wt_tC1 (List.mem_of_getElem? (i := 188) rfl) rfl
theorem tw_203 : Cond.selects RX0 yX0_addLooker yX0_addLooker ∈ wt_tbl := wt_tC1 (List.mem_of_getElem? (i := 203) rfl) rfl
theorem tw_199 : Cond.selects RX0 yX0_addPane yX0_addPane ∈ wt_tbl := wt_tC1 (List.mem_of_getElem? (i := 199) rfl) rfl
theorem tw_245 : Cond.selects RX0 yX0_allShown yX0_allShown ∈ wt_tbl := wt_tC2 (List.mem_of_getElem? (i := 5) rfl) rfl
theorem tw_268 : Cond.selects RX0 yX0_behind yX0_behind ∈ wt_tbl := wt_tC2 (List.mem_of_getElem? (i := 28) rfl) rfl
theorem tw_643 : Cond.selects RX0 yX0_firstHolding yX0_firstHolding ∈ wt_tbl := wt_tC3 (List.mem_of_getElem? (i := 163) rfl) rfl
theorem tw_229 : Cond.selects RX0 yX0_flip yX0_flip ∈ wt_tbl := wt_tC1 (List.mem_of_getElem? (i := 229) rfl) rfl
theorem twp_5 : Cond.selects RX0 yX0_gain yX0_gain ∈ wt_tbl := wt_tP 5 (by decide +kernel) rfl
theorem tw_651 : Cond.selects RX0 yX0_gainOfAll yX0_gainOfAll ∈ wt_tbl := wt_tC3 (List.mem_of_getElem? (i := 171) rfl) rfl
theorem tw_391 : Cond.selects RX0 yX0_held yX0_held ∈ wt_tbl := wt_tC2 (List.mem_of_getElem? (i := 151) rfl) rfl
theorem tw_324 : Cond.selects RX0 yX0_holder yX0_holder ∈ wt_tbl := wt_tC2 (List.mem_of_getElem? (i := 84) rfl) rfl
theorem tw_320 : Cond.selects RX0 yX0_holdings yX0_holdings ∈ wt_tbl := wt_tC2 (List.mem_of_getElem? (i := 80) rfl) rfl
theorem tw_302 : Cond.selects RX0 yX0_hoursAt yX0_hoursAt ∈ wt_tbl := wt_tC2 (List.mem_of_getElem? (i := 62) rfl) rfl
theorem tw_315 : Cond.selects RX0 yX0_hoursOf yX0_hoursOf ∈ wt_tbl := wt_tC2 (List.mem_of_getElem? (i := 75) rfl) rfl
theorem tw_701 : Cond.selects RX0 yX0_hoursOfAll yX0_hoursOfAll ∈ wt_tbl := wt_tC3 (List.mem_of_getElem? (i := 221) rfl) rfl
theorem tw_211 : Cond.selects RX0 yX0_isLooker yX0_isLooker ∈ wt_tbl := wt_tC1 (List.mem_of_getElem? (i := 211) rfl) rfl
theorem tw_218 : Cond.selects RX0 yX0_isPane yX0_isPane ∈ wt_tbl := wt_tC1 (List.mem_of_getElem? (i := 218) rfl) rfl
theorem tw_599 : Cond.selects RX0 yX0_lead yX0_lead ∈ wt_tbl := wt_tC3 (List.mem_of_getElem? (i := 119) rfl) rfl
theorem tw_611 : Cond.selects RX0 yX0_outdo yX0_outdo ∈ wt_tbl := wt_tC3 (List.mem_of_getElem? (i := 131) rfl) rfl
theorem tw_237 : Cond.selects RX0 yX0_pass yX0_pass ∈ wt_tbl := wt_tC1 (List.mem_of_getElem? (i := 237) rfl) rfl
theorem tw_619 : Cond.selects RX0 yX0_placeOf yX0_placeOf ∈ wt_tbl := wt_tC3 (List.mem_of_getElem? (i := 139) rfl) rfl
theorem tw_207 : Cond.selects RX0 yX0_post yX0_post ∈ wt_tbl := wt_tC1 (List.mem_of_getElem? (i := 207) rfl) rfl
theorem tw_222 : Cond.selects RX0 yX0_price yX0_price ∈ wt_tbl := wt_tC1 (List.mem_of_getElem? (i := 222) rfl) rfl
theorem tw_253 : Cond.selects RX0 yX0_pull yX0_pull ∈ wt_tbl := wt_tC2 (List.mem_of_getElem? (i := 13) rfl) rfl
theorem tw_241 : Cond.selects RX0 yX0_reckon yX0_reckon ∈ wt_tbl := wt_tC2 (List.mem_of_getElem? (i := 1) rfl) rfl
theorem tw_233 : Cond.selects RX0 yX0_rule yX0_rule ∈ wt_tbl := wt_tC1 (List.mem_of_getElem? (i := 233) rfl) rfl
theorem tw_249 : Cond.selects RX0 yX0_shownBy yX0_shownBy ∈ wt_tbl := wt_tC2 (List.mem_of_getElem? (i := 9) rfl) rfl
theorem tw_372 : Cond.selects RX0 yX0_shows yX0_shows ∈ wt_tbl := wt_tC2 (List.mem_of_getElem? (i := 132) rfl) rfl
theorem twp_4 : Cond.selects RX0 yX0_sight yX0_sight ∈ wt_tbl := wt_tP 4 (by decide +kernel) rfl
theorem tw_571 : Cond.selects RX0 yX0_standingIn yX0_standingIn ∈ wt_tbl := wt_tC3 (List.mem_of_getElem? (i := 91) rfl) rfl
theorem tw_184 : Cond.selects RX0 yX0_takeFrom yX0_takeFrom ∈ wt_tbl := wt_tC1 (List.mem_of_getElem? (i := 184) rfl) rfl
theorem tw_472 : Cond.selects RX0 yX0_timesShown yX0_timesShown ∈ wt_tbl := wt_tC2 (List.mem_of_getElem? (i := 232) rfl) rfl
theorem tw_587 : Cond.selects RX0 yX0_tradeRosters yX0_tradeRosters ∈ wt_tbl := wt_tC3 (List.mem_of_getElem? (i := 107) rfl) rfl
theorem tw_431 : Cond.selects RX0 yX0_wealth yX0_wealth ∈ wt_tbl := wt_tC2 (List.mem_of_getElem? (i := 191) rfl) rfl
theorem tw_451 : Cond.selects RX0 yX0_wealthiest yX0_wealthiest ∈ wt_tbl := wt_tC2 (List.mem_of_getElem? (i := 211) rfl) rfl
theorem tw_161 : Cond.selects RX1 yX1_add yX1_add ∈ wt_tbl := wt_tC1 (List.mem_of_getElem? (i := 161) rfl) rfl
theorem tw_276 : Cond.selects RX1 yX1_behind yX1_behind ∈ wt_tbl := wt_tC2 (List.mem_of_getElem? (i := 36) rfl) rfl
theorem tw_173 : Cond.selects RX1 yX1_faultOfForm yX1_faultOfForm ∈ wt_tbl := wt_tC1 (List.mem_of_getElem? (i := 173) rfl) rfl
theorem twp_2 : Cond.selects RX1 yX1_isDigit yX1_isDigit ∈ wt_tbl := wt_tP 2 (by decide +kernel) rfl
theorem twp_3 : Cond.selects RX1 yX1_number yX1_number ∈ wt_tbl := wt_tP 3 (by decide +kernel) rfl
theorem tw_191 : Cond.selects RX1 yX1_tell yX1_tell ∈ wt_tbl := wt_tC1 (List.mem_of_getElem? (i := 191) rfl) rfl
theorem tw_283 : Cond.selects RX2 yX2_forget yX2_forget ∈ wt_tbl := wt_tC2 (List.mem_of_getElem? (i := 43) rfl) rfl
theorem tw_367 : Cond.selects RX2 yX2_keep yX2_keep ∈ wt_tbl := wt_tC2 (List.mem_of_getElem? (i := 127) rfl) rfl
theorem tw_346 : Cond.selects RX2 yX2_keepRoster yX2_keepRoster ∈ wt_tbl := wt_tC2 (List.mem_of_getElem? (i := 106) rfl) rfl
theorem twp_8 : Cond.selects RX2 yX2_nextSlot yX2_nextSlot ∈ wt_tbl := wt_tP 8 (by decide +kernel) rfl
theorem tw_406 : Cond.selects RX2 yX2_undoLatest yX2_undoLatest ∈ wt_tbl := wt_tC2 (List.mem_of_getElem? (i := 166) rfl) rfl
theorem twp_17 : Cond.selects RX3 yX3_bothContent yX3_bothContent ∈ wt_tbl := wt_tP 17 (by decide +kernel) rfl
theorem twp_22 : Cond.selects RX3 yX3_castRosters yX3_castRosters ∈ wt_tbl := wt_tP 22 (by decide +kernel) rfl
theorem twp_16 : Cond.selects RX3 yX3_fillPays yX3_fillPays ∈ wt_tbl := wt_tP 16 (by decide +kernel) rfl
theorem twp_12 : Cond.selects RX3 yX3_hoursUntilOwned yX3_hoursUntilOwned ∈ wt_tbl := wt_tP 12 (by decide +kernel) rfl
theorem twp_18 : Cond.selects RX3 yX3_longRow yX3_longRow ∈ wt_tbl := wt_tP 18 (by decide +kernel) rfl
theorem twp_7 : Cond.selects RX3 yX3_noLooker yX3_noLooker ∈ wt_tbl := wt_tP 7 (by decide +kernel) rfl
theorem twp_9 : Cond.selects RX3 yX3_noLookerFar yX3_noLookerFar ∈ wt_tbl := wt_tP 9 (by decide +kernel) rfl
theorem twp_11 : Cond.selects RX3 yX3_noPair yX3_noPair ∈ wt_tbl := wt_tP 11 (by decide +kernel) rfl
theorem twp_10 : Cond.selects RX3 yX3_noPairFar yX3_noPairFar ∈ wt_tbl := wt_tP 10 (by decide +kernel) rfl
theorem twp_6 : Cond.selects RX3 yX3_noPane yX3_noPane ∈ wt_tbl := wt_tP 6 (by decide +kernel) rfl
theorem twp_20 : Cond.selects RX3 yX3_ownsWell yX3_ownsWell ∈ wt_tbl := wt_tP 20 (by decide +kernel) rfl
theorem twp_0 : Cond.selects RX3 yX3_refuse yX3_refuse ∈ wt_tbl := wt_tP 0 (by decide +kernel) rfl
theorem twp_15 : Cond.selects RX3 yX3_refuseLong yX3_refuseLong ∈ wt_tbl := wt_tP 15 (by decide +kernel) rfl
theorem twp_19 : Cond.selects RX3 yX3_rowTells yX3_rowTells ∈ wt_tbl := wt_tP 19 (by decide +kernel) rfl
theorem twp_1 : Cond.selects RX3 yX3_tellTerrace yX3_tellTerrace ∈ wt_tbl := wt_tP 1 (by decide +kernel) rfl
theorem twp_13 : Cond.selects RX3 yX3_wealthAt yX3_wealthAt ∈ wt_tbl := wt_tP 13 (by decide +kernel) rfl
theorem twp_21 : Cond.selects RX3 yX3_wealthSwapped yX3_wealthSwapped ∈ wt_tbl := wt_tP 21 (by decide +kernel) rfl
theorem twp_14 : Cond.selects RX3 yX3_wealthWalled yX3_wealthWalled ∈ wt_tbl := wt_tP 14 (by decide +kernel) rfl
theorem twp_42 : Cond.selects RX4 yX4_again yX4_again ∈ wt_tbl := wt_tP 42 (by decide +kernel) rfl
theorem twp_40 : Cond.selects RX4 yX4_allShown yX4_allShown ∈ wt_tbl := wt_tP 40 (by decide +kernel) rfl
theorem twp_54 : Cond.selects RX4 yX4_areResting yX4_areResting ∈ wt_tbl := wt_tP 54 (by decide +kernel) rfl
theorem twp_52 : Cond.selects RX4 yX4_areTwo yX4_areTwo ∈ wt_tbl := wt_tP 52 (by decide +kernel) rfl
theorem twp_38 : Cond.selects RX4 yX4_bringsOf yX4_bringsOf ∈ wt_tbl := wt_tP 38 (by decide +kernel) rfl
theorem twp_59 : Cond.selects RX4 yX4_broughtToAll yX4_broughtToAll ∈ wt_tbl := wt_tP 59 (by decide +kernel) rfl
theorem twp_30 : Cond.selects RX4 yX4_carry yX4_carry ∈ wt_tbl := wt_tP 30 (by decide +kernel) rfl
theorem twp_29 : Cond.selects RX4 yX4_carryAll yX4_carryAll ∈ wt_tbl := wt_tP 29 (by decide +kernel) rfl
theorem twp_31 : Cond.selects RX4 yX4_comesTold yX4_comesTold ∈ wt_tbl := wt_tP 31 (by decide +kernel) rfl
theorem twp_58 : Cond.selects RX4 yX4_countIn yX4_countIn ∈ wt_tbl := wt_tP 58 (by decide +kernel) rfl
theorem twp_60 : Cond.selects RX4 yX4_drawBelow yX4_drawBelow ∈ wt_tbl := wt_tP 60 (by decide +kernel) rfl
theorem twp_36 : Cond.selects RX4 yX4_goDays yX4_goDays ∈ wt_tbl := wt_tP 36 (by decide +kernel) rfl
theorem twp_25 : Cond.selects RX4 yX4_here yX4_here ∈ wt_tbl := wt_tP 25 (by decide +kernel) rfl
theorem twp_43 : Cond.selects RX4 yX4_hoursOf yX4_hoursOf ∈ wt_tbl := wt_tP 43 (by decide +kernel) rfl
theorem twp_33 : Cond.selects RX4 yX4_isLooker yX4_isLooker ∈ wt_tbl := wt_tP 33 (by decide +kernel) rfl
theorem twp_34 : Cond.selects RX4 yX4_isPane yX4_isPane ∈ wt_tbl := wt_tP 34 (by decide +kernel) rfl
theorem twp_55 : Cond.selects RX4 yX4_isRow yX4_isRow ∈ wt_tbl := wt_tP 55 (by decide +kernel) rfl
theorem twp_47 : Cond.selects RX4 yX4_keepTurn yX4_keepTurn ∈ wt_tbl := wt_tP 47 (by decide +kernel) rfl
theorem twp_37 : Cond.selects RX4 yX4_layBrings yX4_layBrings ∈ wt_tbl := wt_tP 37 (by decide +kernel) rfl
theorem twp_32 : Cond.selects RX4 yX4_lookerComes yX4_lookerComes ∈ wt_tbl := wt_tP 32 (by decide +kernel) rfl
theorem twp_48 : Cond.selects RX4 yX4_owned yX4_owned ∈ wt_tbl := wt_tP 48 (by decide +kernel) rfl
theorem twp_45 : Cond.selects RX4 yX4_ownerIn yX4_ownerIn ∈ wt_tbl := wt_tP 45 (by decide +kernel) rfl
theorem twp_46 : Cond.selects RX4 yX4_ownerLooked yX4_ownerLooked ∈ wt_tbl := wt_tP 46 (by decide +kernel) rfl
theorem twp_41 : Cond.selects RX4 yX4_pullOf yX4_pullOf ∈ wt_tbl := wt_tP 41 (by decide +kernel) rfl
theorem twp_27 : Cond.selects RX4 yX4_readDigits yX4_readDigits ∈ wt_tbl := wt_tP 27 (by decide +kernel) rfl
theorem twp_26 : Cond.selects RX4 yX4_readNumbers yX4_readNumbers ∈ wt_tbl := wt_tP 26 (by decide +kernel) rfl
theorem twp_24 : Cond.selects RX4 yX4_readStatement yX4_readStatement ∈ wt_tbl := wt_tP 24 (by decide +kernel) rfl
theorem twp_23 : Cond.selects RX4 yX4_refuse yX4_refuse ∈ wt_tbl := wt_tP 23 (by decide +kernel) rfl
theorem twp_51 : Cond.selects RX4 yX4_richestIn yX4_richestIn ∈ wt_tbl := wt_tP 51 (by decide +kernel) rfl
theorem twp_39 : Cond.selects RX4 yX4_seesIn yX4_seesIn ∈ wt_tbl := wt_tP 39 (by decide +kernel) rfl
theorem twp_35 : Cond.selects RX4 yX4_stand yX4_stand ∈ wt_tbl := wt_tP 35 (by decide +kernel) rfl
theorem twp_56 : Cond.selects RX4 yX4_standing yX4_standing ∈ wt_tbl := wt_tP 56 (by decide +kernel) rfl
theorem twp_57 : Cond.selects RX4 yX4_swapRosters yX4_swapRosters ∈ wt_tbl := wt_tP 57 (by decide +kernel) rfl
theorem twp_28 : Cond.selects RX4 yX4_think yX4_think ∈ wt_tbl := wt_tP 28 (by decide +kernel) rfl
theorem twp_44 : Cond.selects RX4 yX4_viewsIn yX4_viewsIn ∈ wt_tbl := wt_tP 44 (by decide +kernel) rfl
theorem twp_53 : Cond.selects RX4 yX4_worthAnew yX4_worthAnew ∈ wt_tbl := wt_tP 53 (by decide +kernel) rfl
theorem twp_50 : Cond.selects RX4 yX4_worthBy yX4_worthBy ∈ wt_tbl := wt_tP 50 (by decide +kernel) rfl
theorem twp_49 : Cond.selects RX4 yX4_worthIn yX4_worthIn ∈ wt_tbl := wt_tP 49 (by decide +kernel) rfl
theorem tw_256 : Cond.static yX0_invalidsPull ∈ wt_tbl := wt_tC2 (List.mem_of_getElem? (i := 16) rfl) rfl
theorem tw_214 : Cond.static yX0_isHour ∈ wt_tbl := wt_tC1 (List.mem_of_getElem? (i := 214) rfl) rfl
theorem tw_225 : Cond.static yX0_isView ∈ wt_tbl := wt_tC1 (List.mem_of_getElem? (i := 225) rfl) rfl
theorem tw_176 : Cond.static yX1_digitsOf ∈ wt_tbl := wt_tC1 (List.mem_of_getElem? (i := 176) rfl) rfl
theorem tw_523 : Cond.static yX3_commonDivisor ∈ wt_tbl := wt_tC3 (List.mem_of_getElem? (i := 43) rfl) rfl
theorem tw_682 : Cond.static yX3_drawBelow ∈ wt_tbl := wt_tC3 (List.mem_of_getElem? (i := 202) rfl) rfl
theorem tw_298 : Cond.static yX3_firstOf ∈ wt_tbl := wt_tC2 (List.mem_of_getElem? (i := 58) rfl) rfl
theorem tw_520 : Cond.static yX3_fraction ∈ wt_tbl := wt_tC3 (List.mem_of_getElem? (i := 40) rfl) rfl
theorem tw_550 : Cond.static yX3_inRow ∈ wt_tbl := wt_tC3 (List.mem_of_getElem? (i := 70) rfl) rfl
theorem tw_678 : Cond.static yX3_nextSeed ∈ wt_tbl := wt_tC3 (List.mem_of_getElem? (i := 198) rfl) rfl
theorem tw_341 : Cond.static yX3_noHour ∈ wt_tbl := wt_tC2 (List.mem_of_getElem? (i := 101) rfl) rfl
theorem tw_362 : Cond.static yX3_noView ∈ wt_tbl := wt_tC2 (List.mem_of_getElem? (i := 122) rfl) rfl
theorem tw_295 : Cond.static yX3_notBelow ∈ wt_tbl := wt_tC2 (List.mem_of_getElem? (i := 55) rfl) rfl
theorem tw_153 : Cond.static yX3_outside ∈ wt_tbl := wt_tC1 (List.mem_of_getElem? (i := 153) rfl) rfl
theorem tw_1106 : Cond.static yX4_divisor ∈ wt_tbl := wt_tC5 (List.mem_of_getElem? (i := 146) rfl) rfl
theorem tw_909 : Cond.static yX4_hasBit ∈ wt_tbl := wt_tC4 (List.mem_of_getElem? (i := 189) rfl) rfl
theorem tw_918 : Cond.static yX4_held ∈ wt_tbl := wt_tC4 (List.mem_of_getElem? (i := 198) rfl) rfl
theorem tw_853 : Cond.static yX4_in ∈ wt_tbl := wt_tC4 (List.mem_of_getElem? (i := 133) rfl) rfl
theorem tw_979 : Cond.static yX4_isHour ∈ wt_tbl := wt_tC5 (List.mem_of_getElem? (i := 19) rfl) rfl
theorem tw_840 : Cond.static yX4_isLetter ∈ wt_tbl := wt_tC4 (List.mem_of_getElem? (i := 120) rfl) rfl
theorem tw_995 : Cond.static yX4_isView ∈ wt_tbl := wt_tC5 (List.mem_of_getElem? (i := 35) rfl) rfl
theorem tw_1087 : Cond.static yX4_onesOf ∈ wt_tbl := wt_tC5 (List.mem_of_getElem? (i := 127) rfl) rfl
theorem tw_1103 : Cond.static yX4_partOf ∈ wt_tbl := wt_tC5 (List.mem_of_getElem? (i := 143) rfl) rfl
theorem tw_1020 : Cond.static yX4_wrongBit ∈ wt_tbl := wt_tC5 (List.mem_of_getElem? (i := 60) rfl) rfl
theorem tw_967 : Cond.static yX4_wrongNumber ∈ wt_tbl := wt_tC5 (List.mem_of_getElem? (i := 7) rfl) rfl
theorem tw_395 : Cond.static yJ6_bitCount_0f7a4 ∈ wt_tbl := wt_tC2 (List.mem_of_getElem? (i := 155) rfl) rfl
theorem tw_279 : Cond.static Lib.Math.max.name ∈ wt_tbl := wt_tC2 (List.mem_of_getElem? (i := 39) rfl) rfl
theorem tw_272 : Cond.static Lib.Math.min.name ∈ wt_tbl := wt_tC2 (List.mem_of_getElem? (i := 32) rfl) rfl
theorem tw_187 : Cond.static arraycopyName ∈ wt_tbl := wt_tC1 (List.mem_of_getElem? (i := 187) rfl) rfl
theorem cw_X0_109 : GoodIn wt_tbl (wsV RX0 109 RX0 yX0_holder (.code yX0_holder cX0_holder 9 (some .int) :: wt_tbl)) := wt_gV tw_322 tw_323 tw_324 tw_2 tw_325
theorem cw_X0_112 : GoodIn wt_tbl (wsV RX0 112 RX0 yX0_holdings (.code yX0_holdings cX0_holdings 5 (some .int) :: wt_tbl)) := wt_gV tw_393 tw_319 tw_320 tw_2 tw_321
theorem cw_X0_115 : GoodIn wt_tbl (wsV RX0 115 RX0 yX0_wealth (.code yX0_wealth cX0_wealth 5 (some .int) :: wt_tbl)) := wt_gV tw_453 tw_430 tw_431 tw_2 tw_432
theorem cw_X0_54 : GoodIn wt_tbl (wsV RX0 54 RX0 yX0_isLooker (.code yX0_isLooker cX0_isLooker 2 (some .boolean) :: wt_tbl)) := wt_gV tw_209 tw_210 tw_211 tw_2 tw_212
theorem cw_X0_58 : GoodIn wt_tbl (va_wsS RX0 58 yX0_isHour (.code yX0_isHour cX0_isHour 1 (some .boolean) :: wt_tbl)) := wt_gS tw_213 tw_214 tw_2 tw_215
theorem cw_X0_61 : GoodIn wt_tbl (wsV RX0 61 RX0 yX0_isPane (.code yX0_isPane cX0_isPane 2 (some .boolean) :: wt_tbl)) := wt_gV tw_216 tw_217 tw_218 tw_2 tw_219
theorem cw_X0_64 : GoodIn wt_tbl (va_wsS RX0 64 yX0_isView (.code yX0_isView cX0_isView 1 (some .boolean) :: wt_tbl)) := wt_gS tw_224 tw_225 tw_2 tw_226
theorem cw_X0_67 : GoodIn wt_tbl (wsV RX0 67 RX0 yX0_reckon (.code yX0_reckon cX0_reckon 5 none :: wt_tbl)) := wt_gV tw_239 tw_240 tw_241 tw_2 tw_242
theorem cw_X0_70 : GoodIn wt_tbl (wsV RX0 70 RX0 yX0_behind (.code yX0_behind cX0_behind 4 (some .int) :: wt_tbl)) := wt_gV tw_266 tw_267 tw_268 tw_2 tw_269
theorem cw_X0_74 : GoodIn wt_tbl (wsV RX0 74 RX0 yX0_shownBy (.code yX0_shownBy cX0_shownBy 4 (some .int) :: wt_tbl)) := wt_gV tw_247 tw_248 tw_249 tw_2 tw_250
theorem cw_X0_78 : GoodIn wt_tbl (wsV RX0 78 RX0 yX0_shows (.code yX0_shows cX0_shows 3 (some .boolean) :: wt_tbl)) := wt_gV tw_474 tw_371 tw_372 tw_2 tw_373
theorem cw_X0_82 : GoodIn wt_tbl (wsV RX0 82 RX0 yX0_hoursOf (.code yX0_hoursOf cX0_hoursOf 4 (some .int) :: wt_tbl)) := wt_gV tw_703 tw_314 tw_315 tw_2 tw_316
theorem cw_X0_85 : GoodIn wt_tbl (va_wsS RX0 85 yX0_invalidsPull (.code yX0_invalidsPull cX0_invalidsPull 1 (some .int) :: wt_tbl)) := wt_gS tw_255 tw_256 tw_2 tw_257
theorem cw_X0_88 : GoodIn wt_tbl (wsV RX0 88 RX0 yX0_allShown (.code yX0_allShown cX0_allShown 1 (some .int) :: wt_tbl)) := wt_gV tw_243 tw_244 tw_245 tw_2 tw_246
theorem cw_X0_92 : GoodIn wt_tbl (wsV RX0 92 RX0 yX0_pull (.code yX0_pull cX0_pull 4 (some .int) :: wt_tbl)) := wt_gV tw_251 tw_252 tw_253 tw_2 tw_254
theorem cw_X0_96 : GoodIn wt_tbl (wsV RX0 96 RX0 yX0_sight (.code yX0_sight cX0_sight 5 (some .int) :: wt_tbl)) := wt_gV tw_258 tw_260 twp_4 tw_2 tw_261
theorem cw_X0_99 : GoodIn wt_tbl (wsV RX0 99 RX0 yX0_gain (.code yX0_gain cX0_gain 5 none :: wt_tbl)) := wt_gV tw_262 tw_264 twp_5 tw_2 tw_265
theorem cw_X1_19 : GoodIn wt_tbl (va_wsS RX1 19 yX1_digitsOf (.code yX1_digitsOf cX1_digitsOf 1 (some .int) :: wt_tbl)) := wt_gS tw_175 tw_176 tw_4 tw_177
theorem cw_X1_29 : GoodIn wt_tbl (wsV RX1 29 RX1 yX1_isDigit (.code yX1_isDigit cX1_isDigit 2 (some .boolean) :: wt_tbl)) := wt_gV tw_178 tw_180 twp_2 tw_4 tw_181
theorem cw_X1_33 : GoodIn wt_tbl (wsV RX1 33 RX1 yX1_number (.code yX1_number cX1_number 5 (some .int) :: wt_tbl)) := wt_gV tw_193 tw_195 twp_3 tw_4 tw_196
theorem cw_X1_36 : GoodIn wt_tbl (wsV RX1 36 RX0 yX0_addPane (.code yX0_addPane cX0_addPane 2 (some .boolean) :: wt_tbl)) := wt_gV tw_197 tw_198 tw_199 tw_2 tw_200
theorem cw_X1_41 : GoodIn wt_tbl (wsV RX1 41 RX0 yX0_addLooker (.code yX0_addLooker cX0_addLooker 4 (some .boolean) :: wt_tbl)) := wt_gV tw_201 tw_202 tw_203 tw_2 tw_204
theorem cw_X1_45 : GoodIn wt_tbl (wsV RX1 45 RX0 yX0_post (.code yX0_post cX0_post 6 (some .boolean) :: wt_tbl)) := wt_gV tw_205 tw_206 tw_207 tw_2 tw_208
theorem cw_X1_49 : GoodIn wt_tbl (wsV RX1 49 RX0 yX0_price (.code yX0_price cX0_price 3 (some .boolean) :: wt_tbl)) := wt_gV tw_220 tw_221 tw_222 tw_2 tw_223
theorem cw_X1_52 : GoodIn wt_tbl (wsV RX1 52 RX0 yX0_flip (.code yX0_flip cX0_flip 3 (some .boolean) :: wt_tbl)) := wt_gV tw_227 tw_228 tw_229 tw_2 tw_230
theorem cw_X1_55 : GoodIn wt_tbl (wsV RX1 55 RX0 yX0_rule (.code yX0_rule cX0_rule 2 (some .boolean) :: wt_tbl)) := wt_gV tw_231 tw_232 tw_233 tw_2 tw_234
theorem cw_X1_58 : GoodIn wt_tbl (wsV RX1 58 RX0 yX0_pass (.code yX0_pass cX0_pass 4 (some .boolean) :: wt_tbl)) := wt_gV tw_235 tw_236 tw_237 tw_2 tw_238
theorem cw_X2_33 : GoodIn wt_tbl (wsV RX2 33 RX2 yX2_nextSlot (.code yX2_nextSlot cX2_nextSlot 2 (some .int) :: wt_tbl)) := wt_gV tw_348 tw_350 twp_8 tw_3 tw_351
theorem cw_X2_37 : GoodIn wt_tbl (wsV RX2 37 RX0 yX0_post (.code yX0_post cX0_post 6 (some .boolean) :: wt_tbl)) := wt_gV tw_408 tw_206 tw_207 tw_2 tw_208
theorem cw_X2_43 : GoodIn wt_tbl (wsV RX2 43 RX0 yX0_isPane (.code yX0_isPane cX0_isPane 2 (some .boolean) :: wt_tbl)) := wt_gV tw_409 tw_217 tw_218 tw_2 tw_219
theorem cw_X2_50 : GoodIn wt_tbl (wsV RX2 50 RX0 yX0_price (.code yX0_price cX0_price 3 (some .boolean) :: wt_tbl)) := wt_gV tw_410 tw_221 tw_222 tw_2 tw_223
theorem cw_X2_54 : GoodIn wt_tbl (wsV RX2 54 RX0 yX0_rule (.code yX0_rule cX0_rule 2 (some .boolean) :: wt_tbl)) := wt_gV tw_411 tw_232 tw_233 tw_2 tw_234
theorem cw_X3_103 : GoodIn wt_tbl (wsV RX3 103 RX1 yX1_faultOfForm (.code yX1_faultOfForm cX1_faultOfForm 4 (some .int) :: wt_tbl)) := wt_gV tw_171 tw_172 tw_173 tw_4 tw_174
theorem cw_X3_106 : GoodIn wt_tbl (wsV RX3 106 RX0 yX0_takeFrom (.code yX0_takeFrom cX0_takeFrom 3 none :: wt_tbl)) := wt_gV tw_182 tw_183 tw_184 tw_2 tw_185
theorem cw_X3_110 : GoodIn wt_tbl (wsV RX3 110 RX1 yX1_tell (.code yX1_tell cX1_tell 4 (some .boolean) :: wt_tbl)) := wt_gV tw_189 tw_190 tw_191 tw_4 tw_192
theorem cw_X3_114 : GoodIn wt_tbl (wsV RX3 114 RX1 yX1_behind (.code yX1_behind cX1_behind 2 (some .int) :: wt_tbl)) := wt_gV tw_274 tw_275 tw_276 tw_4 tw_277
theorem cw_X3_117 : GoodIn wt_tbl (wsV RX3 117 RX2 yX2_forget (.code yX2_forget cX2_forget 1 none :: wt_tbl)) := wt_gV tw_281 tw_282 tw_283 tw_3 tw_284
theorem cw_X3_120 : GoodIn wt_tbl (wsV RX3 120 RX3 yX3_noPane (.code yX3_noPane cX3_noPane 2 (some .int) :: wt_tbl)) := wt_gV tw_289 tw_291 twp_6 tw_1 tw_292
theorem cw_X3_123 : GoodIn wt_tbl (va_wsS RX3 123 yX3_notBelow (.code yX3_notBelow cX3_notBelow 2 (some .int) :: wt_tbl)) := wt_gS tw_294 tw_295 tw_1 tw_296
theorem cw_X3_129 : GoodIn wt_tbl (wsV RX3 129 RX0 yX0_hoursAt (.code yX0_hoursAt cX0_hoursAt 5 (some .int) :: wt_tbl)) := wt_gV tw_300 tw_301 tw_302 tw_2 tw_303
theorem cw_X3_138 : GoodIn wt_tbl (wsV RX3 138 RX0 yX0_hoursOf (.code yX0_hoursOf cX0_hoursOf 4 (some .int) :: wt_tbl)) := wt_gV tw_313 tw_314 tw_315 tw_2 tw_316
theorem cw_X3_141 : GoodIn wt_tbl (wsV RX3 141 RX0 yX0_reckon (.code yX0_reckon cX0_reckon 5 none :: wt_tbl)) := wt_gV tw_317 tw_240 tw_241 tw_2 tw_242
theorem cw_X3_144 : GoodIn wt_tbl (wsV RX3 144 RX0 yX0_holdings (.code yX0_holdings cX0_holdings 5 (some .int) :: wt_tbl)) := wt_gV tw_318 tw_319 tw_320 tw_2 tw_321
theorem cw_X3_150 : GoodIn wt_tbl (wsV RX3 150 RX0 yX0_addPane (.code yX0_addPane cX0_addPane 2 (some .boolean) :: wt_tbl)) := wt_gV tw_330 tw_198 tw_199 tw_2 tw_200
theorem cw_X3_156 : GoodIn wt_tbl (wsV RX3 156 RX0 yX0_addLooker (.code yX0_addLooker cX0_addLooker 4 (some .boolean) :: wt_tbl)) := wt_gV tw_335 tw_202 tw_203 tw_2 tw_204
theorem cw_X3_160 : GoodIn wt_tbl (va_wsS RX3 160 yX3_noHour (.code yX3_noHour cX3_noHour 1 (some .int) :: wt_tbl)) := wt_gS tw_340 tw_341 tw_1 tw_342
theorem cw_X3_166 : GoodIn wt_tbl (wsV RX3 166 RX2 yX2_keepRoster (.code yX2_keepRoster cX2_keepRoster 5 none :: wt_tbl)) := wt_gV tw_344 tw_345 tw_346 tw_3 tw_347
theorem cw_X3_170 : GoodIn wt_tbl (wsV RX3 170 RX0 yX0_post (.code yX0_post cX0_post 6 (some .boolean) :: wt_tbl)) := wt_gV tw_352 tw_206 tw_207 tw_2 tw_208
theorem cw_X3_174 : GoodIn wt_tbl (va_wsS RX3 174 yX3_noView (.code yX3_noView cX3_noView 1 (some .int) :: wt_tbl)) := wt_gS tw_361 tw_362 tw_1 tw_363
theorem cw_X3_177 : GoodIn wt_tbl (wsV RX3 177 RX2 yX2_keep (.code yX2_keep cX2_keep 5 none :: wt_tbl)) := wt_gV tw_365 tw_366 tw_367 tw_3 tw_368
theorem cw_X3_181 : GoodIn wt_tbl (wsV RX3 181 RX0 yX0_flip (.code yX0_flip cX0_flip 3 (some .boolean) :: wt_tbl)) := wt_gV tw_369 tw_228 tw_229 tw_2 tw_230
theorem cw_X3_184 : GoodIn wt_tbl (wsV RX3 184 RX0 yX0_shows (.code yX0_shows cX0_shows 3 (some .boolean) :: wt_tbl)) := wt_gV tw_370 tw_371 tw_372 tw_2 tw_373
theorem cw_X3_190 : GoodIn wt_tbl (wsV RX3 190 RX0 yX0_price (.code yX0_price cX0_price 3 (some .boolean) :: wt_tbl)) := wt_gV tw_378 tw_221 tw_222 tw_2 tw_223
theorem cw_X3_196 : GoodIn wt_tbl (wsV RX3 196 RX0 yX0_rule (.code yX0_rule cX0_rule 2 (some .boolean) :: wt_tbl)) := wt_gV tw_383 tw_232 tw_233 tw_2 tw_234
theorem cw_X3_202 : GoodIn wt_tbl (wsV RX3 202 RX0 yX0_pass (.code yX0_pass cX0_pass 4 (some .boolean) :: wt_tbl)) := wt_gV tw_388 tw_236 tw_237 tw_2 tw_238
theorem cw_X3_205 : GoodIn wt_tbl (wsV RX3 205 RX0 yX0_held (.code yX0_held cX0_held 2 (some .int) :: wt_tbl)) := wt_gV tw_389 tw_390 tw_391 tw_2 tw_392
theorem cw_X3_208 : GoodIn wt_tbl (va_wsS RX3 208 yJ6_bitCount_0f7a4 (.code yJ6_bitCount_0f7a4 cJ6_bitCount_0f7a4 1 (some .int) :: wt_tbl)) := wt_gS tw_394 tw_395 tw_8 tw_396
theorem cw_X3_214 : GoodIn wt_tbl (wsV RX3 214 RX2 yX2_undoLatest (.code yX2_undoLatest cX2_undoLatest 5 none :: wt_tbl)) := wt_gV tw_404 tw_405 tw_406 tw_3 tw_407
theorem cw_X3_223 : GoodIn wt_tbl (wsV RX3 223 RX0 yX0_holder (.code yX0_holder cX0_holder 9 (some .int) :: wt_tbl)) := wt_gV tw_420 tw_323 tw_324 tw_2 tw_325
theorem cw_X3_226 : GoodIn wt_tbl (wsV RX3 226 RX3 yX3_noLookerFar (.code yX3_noLookerFar cX3_noLookerFar 3 (some .int) :: wt_tbl)) := wt_gV tw_425 tw_427 twp_9 tw_1 tw_428
theorem cw_X3_229 : GoodIn wt_tbl (wsV RX3 229 RX0 yX0_wealth (.code yX0_wealth cX0_wealth 5 (some .int) :: wt_tbl)) := wt_gV tw_429 tw_430 tw_431 tw_2 tw_432
theorem cw_X3_232 : GoodIn wt_tbl (wsV RX3 232 RX0 yX0_wealthiest (.code yX0_wealthiest cX0_wealthiest 6 (some .int) :: wt_tbl)) := wt_gV tw_449 tw_450 tw_451 tw_2 tw_452
theorem cw_X3_235 : GoodIn wt_tbl (wsV RX3 235 RX3 yX3_noPairFar (.code yX3_noPairFar cX3_noPairFar 4 (some .int) :: wt_tbl)) := wt_gV tw_458 tw_460 twp_10 tw_1 tw_461
theorem cw_X3_238 : GoodIn wt_tbl (wsV RX3 238 RX0 yX0_timesShown (.code yX0_timesShown cX0_timesShown 4 (some .int) :: wt_tbl)) := wt_gV tw_470 tw_471 tw_472 tw_2 tw_473
theorem cw_X3_241 : GoodIn wt_tbl (wsV RX3 241 RX3 yX3_hoursUntilOwned (.code yX3_hoursUntilOwned cX3_hoursUntilOwned 7 (some .int) :: wt_tbl)) := wt_gV tw_475 tw_477 twp_12 tw_1 tw_478
theorem cw_X3_244 : GoodIn wt_tbl (wsV RX3 244 RX0 yX0_pull (.code yX0_pull cX0_pull 4 (some .int) :: wt_tbl)) := wt_gV tw_479 tw_252 tw_253 tw_2 tw_254
theorem cw_X3_247 : GoodIn wt_tbl (wsV RX3 247 RX3 yX3_wealthAt (.code yX3_wealthAt cX3_wealthAt 5 (some .int) :: wt_tbl)) := wt_gV tw_484 tw_486 twp_13 tw_1 tw_487
theorem cw_X3_251 : GoodIn wt_tbl (wsV RX3 251 RX0 yX0_allShown (.code yX0_allShown cX0_allShown 1 (some .int) :: wt_tbl)) := wt_gV tw_496 tw_244 tw_245 tw_2 tw_246
theorem cw_X3_254 : GoodIn wt_tbl (wsV RX3 254 RX0 yX0_shownBy (.code yX0_shownBy cX0_shownBy 4 (some .int) :: wt_tbl)) := wt_gV tw_497 tw_248 tw_249 tw_2 tw_250
theorem cw_X3_257 : GoodIn wt_tbl (wsV RX3 257 RX3 yX3_wealthWalled (.code yX3_wealthWalled cX3_wealthWalled 6 (some .int) :: wt_tbl)) := wt_gV tw_506 tw_508 twp_14 tw_1 tw_509
theorem cw_X3_260 : GoodIn wt_tbl (wsV RX3 260 RX3 yX3_refuseLong (.code yX3_refuseLong cX3_refuseLong 2 (some .long) :: wt_tbl)) := wt_gV tw_514 tw_516 twp_15 tw_1 tw_517
theorem cw_X3_264 : GoodIn wt_tbl (va_wsS RX3 264 yX3_fraction (.code yX3_fraction cX3_fraction 7 (some .long) :: wt_tbl)) := wt_gS tw_519 tw_520 tw_1 tw_521
theorem cw_X3_268 : GoodIn wt_tbl (wsV RX3 268 RX3 yX3_fillPays (.code yX3_fillPays cX3_fillPays 7 none :: wt_tbl)) := wt_gV tw_529 tw_531 twp_16 tw_1 tw_532
theorem cw_X3_272 : GoodIn wt_tbl (wsV RX3 272 RX3 yX3_bothContent (.code yX3_bothContent cX3_bothContent 4 (some .boolean) :: wt_tbl)) := wt_gV tw_533 tw_535 twp_17 tw_1 tw_536
theorem cw_X3_275 : GoodIn wt_tbl (wsV RX3 275 RX3 yX3_longRow (.code yX3_longRow cX3_longRow 1 (some .int) :: wt_tbl)) := wt_gV tw_541 tw_543 twp_18 tw_1 tw_544
theorem cw_X3_278 : GoodIn wt_tbl (wsV RX3 278 RX3 yX3_rowTells (.code yX3_rowTells cX3_rowTells 3 (some .boolean) :: wt_tbl)) := wt_gV tw_545 tw_547 twp_19 tw_1 tw_548
theorem cw_X3_281 : GoodIn wt_tbl (va_wsS RX3 281 yX3_inRow (.code yX3_inRow cX3_inRow 1 (some .int) :: wt_tbl)) := wt_gS tw_549 tw_550 tw_1 tw_551
theorem cw_X3_284 : GoodIn wt_tbl (wsV RX3 284 RX3 yX3_ownsWell (.code yX3_ownsWell cX3_ownsWell 5 (some .boolean) :: wt_tbl)) := wt_gV tw_560 tw_562 twp_20 tw_1 tw_563
theorem cw_X3_287 : GoodIn wt_tbl (wsV RX3 287 RX0 yX0_behind (.code yX0_behind cX0_behind 4 (some .int) :: wt_tbl)) := wt_gV tw_564 tw_267 tw_268 tw_2 tw_269
theorem cw_X3_289 : GoodIn wt_tbl (va_wsS RX3 289 yX3_commonDivisor (.code yX3_commonDivisor cX3_commonDivisor 11 (some .long) :: wt_tbl)) := wt_gS tw_522 tw_523 tw_1 tw_524
theorem cw_X3_293 : GoodIn wt_tbl (wsV RX3 293 RX0 yX0_standingIn (.code yX0_standingIn cX0_standingIn 4 (some .int) :: wt_tbl)) := wt_gV tw_569 tw_570 tw_571 tw_2 tw_572
theorem cw_X3_296 : GoodIn wt_tbl (wsV RX3 296 RX3 yX3_wealthSwapped (.code yX3_wealthSwapped cX3_wealthSwapped 5 (some .int) :: wt_tbl)) := wt_gV tw_581 tw_583 twp_21 tw_1 tw_584
theorem cw_X3_299 : GoodIn wt_tbl (wsV RX3 299 RX0 yX0_tradeRosters (.code yX0_tradeRosters cX0_tradeRosters 5 none :: wt_tbl)) := wt_gV tw_585 tw_586 tw_587 tw_2 tw_588
theorem cw_X3_303 : GoodIn wt_tbl (wsV RX3 303 RX0 yX0_lead (.code yX0_lead cX0_lead 7 (some .int) :: wt_tbl)) := wt_gV tw_597 tw_598 tw_599 tw_2 tw_600
theorem cw_X3_306 : GoodIn wt_tbl (wsV RX3 306 RX0 yX0_outdo (.code yX0_outdo cX0_outdo 7 (some .boolean) :: wt_tbl)) := wt_gV tw_609 tw_610 tw_611 tw_2 tw_612
theorem cw_X3_309 : GoodIn wt_tbl (wsV RX3 309 RX0 yX0_placeOf (.code yX0_placeOf cX0_placeOf 7 (some .int) :: wt_tbl)) := wt_gV tw_617 tw_618 tw_619 tw_2 tw_620
theorem cw_X3_312 : GoodIn wt_tbl (wsV RX3 312 RX0 yX0_firstHolding (.code yX0_firstHolding cX0_firstHolding 4 (some .int) :: wt_tbl)) := wt_gV tw_641 tw_642 tw_643 tw_2 tw_644
theorem cw_X3_315 : GoodIn wt_tbl (wsV RX3 315 RX0 yX0_gainOfAll (.code yX0_gainOfAll cX0_gainOfAll 4 (some .int) :: wt_tbl)) := wt_gV tw_649 tw_650 tw_651 tw_2 tw_652
theorem cw_X3_318 : GoodIn wt_tbl (wsV RX3 318 RX3 yX3_castRosters (.code yX3_castRosters cX3_castRosters 7 (some .int) :: wt_tbl)) := wt_gV tw_673 tw_675 twp_22 tw_1 tw_676
theorem cw_X3_321 : GoodIn wt_tbl (va_wsS RX3 321 yX3_nextSeed (.code yX3_nextSeed cX3_nextSeed 1 (some .int) :: wt_tbl)) := wt_gS tw_677 tw_678 tw_1 tw_679
theorem cw_X3_324 : GoodIn wt_tbl (va_wsS RX3 324 yX3_drawBelow (.code yX3_drawBelow cX3_drawBelow 2 (some .int) :: wt_tbl)) := wt_gS tw_681 tw_682 tw_1 tw_683
theorem cw_X3_335 : GoodIn wt_tbl (wsV RX3 335 RX0 yX0_hoursOfAll (.code yX0_hoursOfAll cX0_hoursOfAll 3 (some .int) :: wt_tbl)) := wt_gV tw_699 tw_700 tw_701 tw_2 tw_702
theorem cw_X3_61 : GoodIn wt_tbl (wsV RX3 61 RX3 yX3_refuse (.code yX3_refuse cX3_refuse 3 (some .int) :: wt_tbl)) := wt_gV tw_155 tw_157 twp_0 tw_1 tw_158
theorem cw_X3_65 : GoodIn wt_tbl (va_wsS RX3 65 yX0_isView (.code yX0_isView cX0_isView 1 (some .boolean) :: wt_tbl)) := wt_gS tw_364 tw_225 tw_2 tw_226
theorem cw_X3_69 : GoodIn wt_tbl (va_wsS RX3 69 yX0_isHour (.code yX0_isHour cX0_isHour 1 (some .boolean) :: wt_tbl)) := wt_gS tw_343 tw_214 tw_2 tw_215
theorem cw_X3_72 : GoodIn wt_tbl (wsV RX3 72 RX0 yX0_isPane (.code yX0_isPane cX0_isPane 2 (some .boolean) :: wt_tbl)) := wt_gV tw_293 tw_217 tw_218 tw_2 tw_219
theorem cw_X3_75 : GoodIn wt_tbl (wsV RX3 75 RX0 yX0_isLooker (.code yX0_isLooker cX0_isLooker 2 (some .boolean) :: wt_tbl)) := wt_gV tw_312 tw_210 tw_211 tw_2 tw_212
theorem cw_X3_78 : GoodIn wt_tbl (wsV RX3 78 RX3 yX3_noLooker (.code yX3_noLooker cX3_noLooker 2 (some .int) :: wt_tbl)) := wt_gV tw_308 tw_310 twp_7 tw_1 tw_311
theorem cw_X3_81 : GoodIn wt_tbl (va_wsS RX3 81 yX3_outside (.code yX3_outside cX3_outside 3 (some .int) :: wt_tbl)) := wt_gS tw_152 tw_153 tw_1 tw_154
theorem cw_X3_85 : GoodIn wt_tbl (va_wsS RX3 85 yX3_firstOf (.code yX3_firstOf cX3_firstOf 2 (some .int) :: wt_tbl)) := wt_gS tw_297 tw_298 tw_1 tw_299
theorem cw_X3_89 : GoodIn wt_tbl (wsV RX3 89 RX3 yX3_noPair (.code yX3_noPair cX3_noPair 3 (some .int) :: wt_tbl)) := wt_gV tw_462 tw_464 twp_11 tw_1 tw_465
theorem cw_X3_95 : GoodIn wt_tbl (wsV RX3 95 RX1 yX1_add (.code yX1_add cX1_add 2 none :: wt_tbl)) := wt_gV tw_159 tw_160 tw_161 tw_4 tw_162
theorem cw_X3_99 : GoodIn wt_tbl (wsV RX3 99 RX3 yX3_tellTerrace (.code yX3_tellTerrace cX3_tellTerrace 4 (some .int) :: wt_tbl)) := wt_gV tw_167 tw_169 twp_1 tw_1 tw_170
theorem cw_X4_100 : GoodIn wt_tbl (wsV RX4 100 RX4 yX4_seesIn (.code yX4_seesIn cX4_seesIn 4 (some .int) :: wt_tbl)) := wt_gV tw_900 tw_902 twp_39 tw_5 tw_903
theorem cw_X4_104 : GoodIn wt_tbl (va_wsS RX4 104 yX4_hasBit (.code yX4_hasBit cX4_hasBit 2 (some .boolean) :: wt_tbl)) := wt_gS tw_908 tw_909 tw_5 tw_910
theorem cw_X4_108 : GoodIn wt_tbl (wsV RX4 108 RX4 yX4_pullOf (.code yX4_pullOf cX4_pullOf 5 (some .int) :: wt_tbl)) := wt_gV tw_911 tw_913 twp_41 tw_5 tw_914
theorem cw_X4_111 : GoodIn wt_tbl (wsV RX4 111 RX4 yX4_bringsOf (.code yX4_bringsOf cX4_bringsOf 5 (some .int) :: wt_tbl)) := wt_gV tw_896 tw_898 twp_38 tw_5 tw_899
theorem cw_X4_118 : GoodIn wt_tbl (va_wsS RX4 118 yX4_held (.code yX4_held cX4_held 1 (some .int) :: wt_tbl)) := wt_gS tw_917 tw_918 tw_5 tw_919
theorem cw_X4_122 : GoodIn wt_tbl (wsV RX4 122 RX4 yX4_ownerLooked (.code yX4_ownerLooked cX4_ownerLooked 6 (some .int) :: wt_tbl)) := wt_gV tw_958 tw_960 twp_46 tw_5 tw_961
theorem cw_X4_125 : GoodIn wt_tbl (wsV RX4 125 RX4 yX4_ownerIn (.code yX4_ownerIn cX4_ownerIn 4 (some .int) :: wt_tbl)) := wt_gV tw_954 tw_956 twp_45 tw_5 tw_957
theorem cw_X4_128 : GoodIn wt_tbl (wsV RX4 128 RX4 yX4_viewsIn (.code yX4_viewsIn cX4_viewsIn 5 (some .int) :: wt_tbl)) := wt_gV tw_950 tw_952 twp_44 tw_5 tw_953
theorem cw_X4_131 : GoodIn wt_tbl (wsV RX4 131 RX4 yX4_worthBy (.code yX4_worthBy cX4_worthBy 4 (some .int) :: wt_tbl)) := wt_gV tw_1034 tw_1036 twp_50 tw_5 tw_1037
theorem cw_X4_134 : GoodIn wt_tbl (wsV RX4 134 RX4 yX4_layBrings (.code yX4_layBrings cX4_layBrings 3 none :: wt_tbl)) := wt_gV tw_892 tw_894 twp_37 tw_5 tw_895
theorem cw_X4_137 : GoodIn wt_tbl (wsV RX4 137 RX4 yX4_worthIn (.code yX4_worthIn cX4_worthIn 3 (some .int) :: wt_tbl)) := wt_gV tw_1030 tw_1032 twp_49 tw_5 tw_1033
theorem cw_X4_143 : GoodIn wt_tbl (wsV RX4 143 RX4 yX4_refuse (.code yX4_refuse cX4_refuse 2 (some .int) :: wt_tbl)) := wt_gV tw_823 tw_825 twp_23 tw_5 tw_826
theorem cw_X4_156 : GoodIn wt_tbl (wsV RX4 156 RX4 yX4_here (.code yX4_here cX4_here 1 (some .int) :: wt_tbl)) := wt_gV tw_835 tw_837 twp_25 tw_5 tw_838
theorem cw_X4_163 : GoodIn wt_tbl (wsV RX4 163 RX4 yX4_readDigits (.code yX4_readDigits cX4_readDigits 4 (some .int) :: wt_tbl)) := wt_gV tw_846 tw_848 twp_27 tw_5 tw_849
theorem cw_X4_169 : GoodIn wt_tbl (va_wsS RX4 169 yX4_isLetter (.code yX4_isLetter cX4_isLetter 1 (some .boolean) :: wt_tbl)) := wt_gS tw_839 tw_840 tw_5 tw_841
theorem cw_X4_172 : GoodIn wt_tbl (wsV RX4 172 RX4 yX4_readNumbers (.code yX4_readNumbers cX4_readNumbers 3 none :: wt_tbl)) := wt_gV tw_842 tw_844 twp_26 tw_5 tw_845
theorem cw_X4_176 : GoodIn wt_tbl (wsV RX4 176 RX4 yX4_lookerComes (.code yX4_lookerComes cX4_lookerComes 4 none :: wt_tbl)) := wt_gV tw_871 tw_873 twp_32 tw_5 tw_874
theorem cw_X4_179 : GoodIn wt_tbl (wsV RX4 179 RX4 yX4_isPane (.code yX4_isPane cX4_isPane 2 (some .boolean) :: wt_tbl)) := wt_gV tw_879 tw_881 twp_34 tw_5 tw_882
theorem cw_X4_182 : GoodIn wt_tbl (wsV RX4 182 RX4 yX4_stand (.code yX4_stand cX4_stand 6 none :: wt_tbl)) := wt_gV tw_883 tw_885 twp_35 tw_5 tw_886
theorem cw_X4_188 : GoodIn wt_tbl (wsV RX4 188 RX4 yX4_goDays (.code yX4_goDays cX4_goDays 3 none :: wt_tbl)) := wt_gV tw_888 tw_890 twp_36 tw_5 tw_891
theorem cw_X4_192 : GoodIn wt_tbl (wsV RX4 192 RX4 yX4_readStatement (.code yX4_readStatement cX4_readStatement 3 none :: wt_tbl)) := wt_gV tw_831 tw_833 twp_24 tw_5 tw_834
theorem cw_X4_195 : GoodIn wt_tbl (wsV RX4 195 RX4 yX4_think (.code yX4_think cX4_think 1 none :: wt_tbl)) := wt_gV tw_855 tw_857 twp_28 tw_5 tw_858
theorem cw_X4_198 : GoodIn wt_tbl (wsV RX4 198 RX4 yX4_comesTold (.code yX4_comesTold cX4_comesTold 7 (some .boolean) :: wt_tbl)) := wt_gV tw_867 tw_869 twp_31 tw_5 tw_870
theorem cw_X4_201 : GoodIn wt_tbl (wsV RX4 201 RX4 yX4_again (.code yX4_again cX4_again 1 none :: wt_tbl)) := wt_gV tw_921 tw_923 twp_42 tw_5 tw_924
theorem cw_X4_216 : GoodIn wt_tbl (wsV RX4 216 RX4 yX4_carry (.code yX4_carry cX4_carry 2 (some .int) :: wt_tbl)) := wt_gV tw_863 tw_865 twp_30 tw_5 tw_866
theorem cw_X4_219 : GoodIn wt_tbl (wsV RX4 219 RX4 yX4_carryAll (.code yX4_carryAll cX4_carryAll 4 none :: wt_tbl)) := wt_gV tw_859 tw_861 twp_29 tw_5 tw_862
theorem cw_X4_228 : GoodIn wt_tbl (wsV RX4 228 RX4 yX4_hoursOf (.code yX4_hoursOf cX4_hoursOf 4 (some .int) :: wt_tbl)) := wt_gV tw_946 tw_948 twp_43 tw_5 tw_949
theorem cw_X4_231 : GoodIn wt_tbl (va_wsS RX4 231 yX4_wrongNumber (.code yX4_wrongNumber cX4_wrongNumber 3 (some .int) :: wt_tbl)) := wt_gS tw_966 tw_967 tw_5 tw_968
theorem cw_X4_237 : GoodIn wt_tbl (va_wsS RX4 237 yX4_isHour (.code yX4_isHour cX4_isHour 1 (some .boolean) :: wt_tbl)) := wt_gS tw_978 tw_979 tw_5 tw_980
theorem cw_X4_240 : GoodIn wt_tbl (wsV RX4 240 RX4 yX4_keepTurn (.code yX4_keepTurn cX4_keepTurn 2 none :: wt_tbl)) := wt_gV tw_982 tw_984 twp_47 tw_5 tw_985
theorem cw_X4_243 : GoodIn wt_tbl (va_wsS RX4 243 yX4_isView (.code yX4_isView cX4_isView 1 (some .boolean) :: wt_tbl)) := wt_gS tw_994 tw_995 tw_5 tw_996
theorem cw_X4_248 : GoodIn wt_tbl (wsV RX4 248 RX4 yX4_owned (.code yX4_owned cX4_owned 3 (some .int) :: wt_tbl)) := wt_gV tw_1011 tw_1013 twp_48 tw_5 tw_1014
theorem cw_X4_251 : GoodIn wt_tbl (va_wsS RX4 251 yX4_wrongBit (.code yX4_wrongBit cX4_wrongBit 3 (some .int) :: wt_tbl)) := wt_gS tw_1019 tw_1020 tw_5 tw_1021
theorem cw_X4_254 : GoodIn wt_tbl (wsV RX4 254 RX4 yX4_richestIn (.code yX4_richestIn cX4_richestIn 4 (some .int) :: wt_tbl)) := wt_gV tw_1054 tw_1056 twp_51 tw_5 tw_1057
theorem cw_X4_257 : GoodIn wt_tbl (wsV RX4 257 RX4 yX4_areTwo (.code yX4_areTwo cX4_areTwo 3 (some .boolean) :: wt_tbl)) := wt_gV tw_1062 tw_1064 twp_52 tw_5 tw_1065
theorem cw_X4_260 : GoodIn wt_tbl (wsV RX4 260 RX4 yX4_worthAnew (.code yX4_worthAnew cX4_worthAnew 3 (some .int) :: wt_tbl)) := wt_gV tw_1074 tw_1076 twp_53 tw_5 tw_1077
theorem cw_X4_263 : GoodIn wt_tbl (va_wsS RX4 263 yX4_onesOf (.code yX4_onesOf cX4_onesOf 3 (some .int) :: wt_tbl)) := wt_gS tw_1086 tw_1087 tw_5 tw_1088
theorem cw_X4_266 : GoodIn wt_tbl (va_wsS RX4 266 yX4_divisor (.code yX4_divisor cX4_divisor 10 (some .long) :: wt_tbl)) := wt_gS tw_1105 tw_1106 tw_5 tw_1107
theorem cw_X4_272 : GoodIn wt_tbl (va_wsS RX4 272 yX4_partOf (.code yX4_partOf cX4_partOf 7 (some .long) :: wt_tbl)) := wt_gS tw_1102 tw_1103 tw_5 tw_1104
theorem cw_X4_276 : GoodIn wt_tbl (wsV RX4 276 RX4 yX4_areResting (.code yX4_areResting cX4_areResting 6 (some .boolean) :: wt_tbl)) := wt_gV tw_1112 tw_1114 twp_54 tw_5 tw_1115
theorem cw_X4_282 : GoodIn wt_tbl (wsV RX4 282 RX4 yX4_isRow (.code yX4_isRow cX4_isRow 5 (some .boolean) :: wt_tbl)) := wt_gV tw_1120 tw_1122 twp_55 tw_5 tw_1123
theorem cw_X4_285 : GoodIn wt_tbl (wsV RX4 285 RX4 yX4_standing (.code yX4_standing cX4_standing 4 (some .int) :: wt_tbl)) := wt_gV tw_1136 tw_1138 twp_56 tw_5 tw_1139
theorem cw_X4_288 : GoodIn wt_tbl (wsV RX4 288 RX4 yX4_swapRosters (.code yX4_swapRosters cX4_swapRosters 5 none :: wt_tbl)) := wt_gV tw_1148 tw_1150 twp_57 tw_5 tw_1151
theorem cw_X4_291 : GoodIn wt_tbl (wsV RX4 291 RX4 yX4_countIn (.code yX4_countIn cX4_countIn 4 (some .int) :: wt_tbl)) := wt_gV tw_1168 tw_1170 twp_58 tw_5 tw_1171
theorem cw_X4_294 : GoodIn wt_tbl (wsV RX4 294 RX4 yX4_broughtToAll (.code yX4_broughtToAll cX4_broughtToAll 4 (some .int) :: wt_tbl)) := wt_gV tw_1200 tw_1202 twp_59 tw_5 tw_1203
theorem cw_X4_303 : GoodIn wt_tbl (wsV RX4 303 RX4 yX4_drawBelow (.code yX4_drawBelow cX4_drawBelow 2 (some .int) :: wt_tbl)) := wt_gV tw_1224 tw_1226 twp_60 tw_5 tw_1227
theorem cw_X4_77 : GoodIn wt_tbl (va_wsS RX4 77 yX4_in (.code yX4_in cX4_in 6 (some .boolean) :: wt_tbl)) := wt_gS tw_852 tw_853 tw_5 tw_854
theorem cw_X4_88 : GoodIn wt_tbl (wsV RX4 88 RX4 yX4_isLooker (.code yX4_isLooker cX4_isLooker 2 (some .boolean) :: wt_tbl)) := wt_gV tw_875 tw_877 twp_33 tw_5 tw_878
theorem cw_X4_96 : GoodIn wt_tbl (wsV RX4 96 RX4 yX4_allShown (.code yX4_allShown cX4_allShown 3 (some .int) :: wt_tbl)) := wt_gV tw_904 tw_906 twp_40 tw_5 tw_907
theorem hd_J6_bitCount_0f7a4 : yJ6_bitCount_0f7a4.cls ≠ "java/lang/invoke/MethodHandle" ∧ yJ6_bitCount_0f7a4.cls ≠ "java/lang/invoke/VarHandle" ∧ (parseMethodDescriptor yJ6_bitCount_0f7a4.desc).map (fun d => d.parameters.length) = some 1 := by decide +kernel
theorem hd_X0_addLooker : yX0_addLooker.cls = RX0 ∧ yX0_addLooker.cls ≠ "java/lang/invoke/MethodHandle" ∧ yX0_addLooker.cls ≠ "java/lang/invoke/VarHandle" ∧ (parseMethodDescriptor yX0_addLooker.desc).map (fun d => d.parameters.length) = some 2 := by decide +kernel
theorem hd_X0_addPane : yX0_addPane.cls = RX0 ∧ yX0_addPane.cls ≠ "java/lang/invoke/MethodHandle" ∧ yX0_addPane.cls ≠ "java/lang/invoke/VarHandle" ∧ (parseMethodDescriptor yX0_addPane.desc).map (fun d => d.parameters.length) = some 1 := by decide +kernel
theorem hd_X0_allShown : yX0_allShown.cls = RX0 ∧ yX0_allShown.cls ≠ "java/lang/invoke/MethodHandle" ∧ yX0_allShown.cls ≠ "java/lang/invoke/VarHandle" ∧ (parseMethodDescriptor yX0_allShown.desc).map (fun d => d.parameters.length) = some 0 := by decide +kernel
theorem hd_X0_behind : yX0_behind.cls = RX0 ∧ yX0_behind.cls ≠ "java/lang/invoke/MethodHandle" ∧ yX0_behind.cls ≠ "java/lang/invoke/VarHandle" ∧ (parseMethodDescriptor yX0_behind.desc).map (fun d => d.parameters.length) = some 3 := by decide +kernel
theorem hd_X0_firstHolding : yX0_firstHolding.cls = RX0 ∧ yX0_firstHolding.cls ≠ "java/lang/invoke/MethodHandle" ∧ yX0_firstHolding.cls ≠ "java/lang/invoke/VarHandle" ∧ (parseMethodDescriptor yX0_firstHolding.desc).map (fun d => d.parameters.length) = some 2 := by decide +kernel
theorem hd_X0_flip : yX0_flip.cls = RX0 ∧ yX0_flip.cls ≠ "java/lang/invoke/MethodHandle" ∧ yX0_flip.cls ≠ "java/lang/invoke/VarHandle" ∧ (parseMethodDescriptor yX0_flip.desc).map (fun d => d.parameters.length) = some 2 := by decide +kernel
theorem hd_X0_gain : yX0_gain.cls = RX0 ∧ yX0_gain.cls ≠ "java/lang/invoke/MethodHandle" ∧ yX0_gain.cls ≠ "java/lang/invoke/VarHandle" ∧ (parseMethodDescriptor yX0_gain.desc).map (fun d => d.parameters.length) = some 3 := by decide +kernel
theorem hd_X0_gainOfAll : yX0_gainOfAll.cls = RX0 ∧ yX0_gainOfAll.cls ≠ "java/lang/invoke/MethodHandle" ∧ yX0_gainOfAll.cls ≠ "java/lang/invoke/VarHandle" ∧ (parseMethodDescriptor yX0_gainOfAll.desc).map (fun d => d.parameters.length) = some 1 := by decide +kernel
theorem hd_X0_held : yX0_held.cls = RX0 ∧ yX0_held.cls ≠ "java/lang/invoke/MethodHandle" ∧ yX0_held.cls ≠ "java/lang/invoke/VarHandle" ∧ (parseMethodDescriptor yX0_held.desc).map (fun d => d.parameters.length) = some 1 := by decide +kernel
theorem hd_X0_holder : yX0_holder.cls = RX0 ∧ yX0_holder.cls ≠ "java/lang/invoke/MethodHandle" ∧ yX0_holder.cls ≠ "java/lang/invoke/VarHandle" ∧ (parseMethodDescriptor yX0_holder.desc).map (fun d => d.parameters.length) = some 2 := by decide +kernel
theorem hd_X0_holdings : yX0_holdings.cls = RX0 ∧ yX0_holdings.cls ≠ "java/lang/invoke/MethodHandle" ∧ yX0_holdings.cls ≠ "java/lang/invoke/VarHandle" ∧ (parseMethodDescriptor yX0_holdings.desc).map (fun d => d.parameters.length) = some 2 := by decide +kernel
theorem hd_X0_hoursAt : yX0_hoursAt.cls = RX0 ∧ yX0_hoursAt.cls ≠ "java/lang/invoke/MethodHandle" ∧ yX0_hoursAt.cls ≠ "java/lang/invoke/VarHandle" ∧ (parseMethodDescriptor yX0_hoursAt.desc).map (fun d => d.parameters.length) = some 1 := by decide +kernel
theorem hd_X0_hoursOf : yX0_hoursOf.cls = RX0 ∧ yX0_hoursOf.cls ≠ "java/lang/invoke/MethodHandle" ∧ yX0_hoursOf.cls ≠ "java/lang/invoke/VarHandle" ∧ (parseMethodDescriptor yX0_hoursOf.desc).map (fun d => d.parameters.length) = some 1 := by decide +kernel
theorem hd_X0_hoursOfAll : yX0_hoursOfAll.cls = RX0 ∧ yX0_hoursOfAll.cls ≠ "java/lang/invoke/MethodHandle" ∧ yX0_hoursOfAll.cls ≠ "java/lang/invoke/VarHandle" ∧ (parseMethodDescriptor yX0_hoursOfAll.desc).map (fun d => d.parameters.length) = some 0 := by decide +kernel
theorem hd_X0_invalidsPull : yX0_invalidsPull.cls ≠ "java/lang/invoke/MethodHandle" ∧ yX0_invalidsPull.cls ≠ "java/lang/invoke/VarHandle" ∧ (parseMethodDescriptor yX0_invalidsPull.desc).map (fun d => d.parameters.length) = some 1 := by decide +kernel
theorem hd_X0_isHour : yX0_isHour.cls ≠ "java/lang/invoke/MethodHandle" ∧ yX0_isHour.cls ≠ "java/lang/invoke/VarHandle" ∧ (parseMethodDescriptor yX0_isHour.desc).map (fun d => d.parameters.length) = some 1 := by decide +kernel
theorem hd_X0_isLooker : yX0_isLooker.cls = RX0 ∧ yX0_isLooker.cls ≠ "java/lang/invoke/MethodHandle" ∧ yX0_isLooker.cls ≠ "java/lang/invoke/VarHandle" ∧ (parseMethodDescriptor yX0_isLooker.desc).map (fun d => d.parameters.length) = some 1 := by decide +kernel
theorem hd_X0_isPane : yX0_isPane.cls = RX0 ∧ yX0_isPane.cls ≠ "java/lang/invoke/MethodHandle" ∧ yX0_isPane.cls ≠ "java/lang/invoke/VarHandle" ∧ (parseMethodDescriptor yX0_isPane.desc).map (fun d => d.parameters.length) = some 1 := by decide +kernel
theorem hd_X0_isView : yX0_isView.cls ≠ "java/lang/invoke/MethodHandle" ∧ yX0_isView.cls ≠ "java/lang/invoke/VarHandle" ∧ (parseMethodDescriptor yX0_isView.desc).map (fun d => d.parameters.length) = some 1 := by decide +kernel
theorem hd_X0_lead : yX0_lead.cls = RX0 ∧ yX0_lead.cls ≠ "java/lang/invoke/MethodHandle" ∧ yX0_lead.cls ≠ "java/lang/invoke/VarHandle" ∧ (parseMethodDescriptor yX0_lead.desc).map (fun d => d.parameters.length) = some 3 := by decide +kernel
theorem hd_X0_outdo : yX0_outdo.cls = RX0 ∧ yX0_outdo.cls ≠ "java/lang/invoke/MethodHandle" ∧ yX0_outdo.cls ≠ "java/lang/invoke/VarHandle" ∧ (parseMethodDescriptor yX0_outdo.desc).map (fun d => d.parameters.length) = some 4 := by decide +kernel
theorem hd_X0_pass : yX0_pass.cls = RX0 ∧ yX0_pass.cls ≠ "java/lang/invoke/MethodHandle" ∧ yX0_pass.cls ≠ "java/lang/invoke/VarHandle" ∧ (parseMethodDescriptor yX0_pass.desc).map (fun d => d.parameters.length) = some 1 := by decide +kernel
theorem hd_X0_placeOf : yX0_placeOf.cls = RX0 ∧ yX0_placeOf.cls ≠ "java/lang/invoke/MethodHandle" ∧ yX0_placeOf.cls ≠ "java/lang/invoke/VarHandle" ∧ (parseMethodDescriptor yX0_placeOf.desc).map (fun d => d.parameters.length) = some 2 := by decide +kernel
theorem hd_X0_post : yX0_post.cls = RX0 ∧ yX0_post.cls ≠ "java/lang/invoke/MethodHandle" ∧ yX0_post.cls ≠ "java/lang/invoke/VarHandle" ∧ (parseMethodDescriptor yX0_post.desc).map (fun d => d.parameters.length) = some 4 := by decide +kernel
theorem hd_X0_price : yX0_price.cls = RX0 ∧ yX0_price.cls ≠ "java/lang/invoke/MethodHandle" ∧ yX0_price.cls ≠ "java/lang/invoke/VarHandle" ∧ (parseMethodDescriptor yX0_price.desc).map (fun d => d.parameters.length) = some 2 := by decide +kernel
theorem hd_X0_pull : yX0_pull.cls = RX0 ∧ yX0_pull.cls ≠ "java/lang/invoke/MethodHandle" ∧ yX0_pull.cls ≠ "java/lang/invoke/VarHandle" ∧ (parseMethodDescriptor yX0_pull.desc).map (fun d => d.parameters.length) = some 2 := by decide +kernel
theorem hd_X0_reckon : yX0_reckon.cls = RX0 ∧ yX0_reckon.cls ≠ "java/lang/invoke/MethodHandle" ∧ yX0_reckon.cls ≠ "java/lang/invoke/VarHandle" ∧ (parseMethodDescriptor yX0_reckon.desc).map (fun d => d.parameters.length) = some 0 := by decide +kernel
theorem hd_X0_rule : yX0_rule.cls = RX0 ∧ yX0_rule.cls ≠ "java/lang/invoke/MethodHandle" ∧ yX0_rule.cls ≠ "java/lang/invoke/VarHandle" ∧ (parseMethodDescriptor yX0_rule.desc).map (fun d => d.parameters.length) = some 1 := by decide +kernel
theorem hd_X0_shownBy : yX0_shownBy.cls = RX0 ∧ yX0_shownBy.cls ≠ "java/lang/invoke/MethodHandle" ∧ yX0_shownBy.cls ≠ "java/lang/invoke/VarHandle" ∧ (parseMethodDescriptor yX0_shownBy.desc).map (fun d => d.parameters.length) = some 1 := by decide +kernel
theorem hd_X0_shows : yX0_shows.cls = RX0 ∧ yX0_shows.cls ≠ "java/lang/invoke/MethodHandle" ∧ yX0_shows.cls ≠ "java/lang/invoke/VarHandle" ∧ (parseMethodDescriptor yX0_shows.desc).map (fun d => d.parameters.length) = some 2 := by decide +kernel
theorem hd_X0_sight : yX0_sight.cls = RX0 ∧ yX0_sight.cls ≠ "java/lang/invoke/MethodHandle" ∧ yX0_sight.cls ≠ "java/lang/invoke/VarHandle" ∧ (parseMethodDescriptor yX0_sight.desc).map (fun d => d.parameters.length) = some 3 := by decide +kernel
theorem hd_X0_standingIn : yX0_standingIn.cls = RX0 ∧ yX0_standingIn.cls ≠ "java/lang/invoke/MethodHandle" ∧ yX0_standingIn.cls ≠ "java/lang/invoke/VarHandle" ∧ (parseMethodDescriptor yX0_standingIn.desc).map (fun d => d.parameters.length) = some 1 := by decide +kernel
theorem hd_X0_takeFrom : yX0_takeFrom.cls = RX0 ∧ yX0_takeFrom.cls ≠ "java/lang/invoke/MethodHandle" ∧ yX0_takeFrom.cls ≠ "java/lang/invoke/VarHandle" ∧ (parseMethodDescriptor yX0_takeFrom.desc).map (fun d => d.parameters.length) = some 1 := by decide +kernel
theorem hd_X0_timesShown : yX0_timesShown.cls = RX0 ∧ yX0_timesShown.cls ≠ "java/lang/invoke/MethodHandle" ∧ yX0_timesShown.cls ≠ "java/lang/invoke/VarHandle" ∧ (parseMethodDescriptor yX0_timesShown.desc).map (fun d => d.parameters.length) = some 1 := by decide +kernel
theorem hd_X0_tradeRosters : yX0_tradeRosters.cls = RX0 ∧ yX0_tradeRosters.cls ≠ "java/lang/invoke/MethodHandle" ∧ yX0_tradeRosters.cls ≠ "java/lang/invoke/VarHandle" ∧ (parseMethodDescriptor yX0_tradeRosters.desc).map (fun d => d.parameters.length) = some 2 := by decide +kernel
theorem hd_X0_wealth : yX0_wealth.cls = RX0 ∧ yX0_wealth.cls ≠ "java/lang/invoke/MethodHandle" ∧ yX0_wealth.cls ≠ "java/lang/invoke/VarHandle" ∧ (parseMethodDescriptor yX0_wealth.desc).map (fun d => d.parameters.length) = some 2 := by decide +kernel
theorem hd_X0_wealthiest : yX0_wealthiest.cls = RX0 ∧ yX0_wealthiest.cls ≠ "java/lang/invoke/MethodHandle" ∧ yX0_wealthiest.cls ≠ "java/lang/invoke/VarHandle" ∧ (parseMethodDescriptor yX0_wealthiest.desc).map (fun d => d.parameters.length) = some 1 := by decide +kernel
theorem hd_X1_add : yX1_add.cls = RX1 ∧ yX1_add.cls ≠ "java/lang/invoke/MethodHandle" ∧ yX1_add.cls ≠ "java/lang/invoke/VarHandle" ∧ (parseMethodDescriptor yX1_add.desc).map (fun d => d.parameters.length) = some 1 := by decide +kernel
theorem hd_X1_behind : yX1_behind.cls = RX1 ∧ yX1_behind.cls ≠ "java/lang/invoke/MethodHandle" ∧ yX1_behind.cls ≠ "java/lang/invoke/VarHandle" ∧ (parseMethodDescriptor yX1_behind.desc).map (fun d => d.parameters.length) = some 1 := by decide +kernel
theorem hd_X1_digitsOf : yX1_digitsOf.cls ≠ "java/lang/invoke/MethodHandle" ∧ yX1_digitsOf.cls ≠ "java/lang/invoke/VarHandle" ∧ (parseMethodDescriptor yX1_digitsOf.desc).map (fun d => d.parameters.length) = some 1 := by decide +kernel
theorem hd_X1_faultOfForm : yX1_faultOfForm.cls = RX1 ∧ yX1_faultOfForm.cls ≠ "java/lang/invoke/MethodHandle" ∧ yX1_faultOfForm.cls ≠ "java/lang/invoke/VarHandle" ∧ (parseMethodDescriptor yX1_faultOfForm.desc).map (fun d => d.parameters.length) = some 0 := by decide +kernel
theorem hd_X1_isDigit : yX1_isDigit.cls = RX1 ∧ yX1_isDigit.cls ≠ "java/lang/invoke/MethodHandle" ∧ yX1_isDigit.cls ≠ "java/lang/invoke/VarHandle" ∧ (parseMethodDescriptor yX1_isDigit.desc).map (fun d => d.parameters.length) = some 1 := by decide +kernel
theorem hd_X1_number : yX1_number.cls = RX1 ∧ yX1_number.cls ≠ "java/lang/invoke/MethodHandle" ∧ yX1_number.cls ≠ "java/lang/invoke/VarHandle" ∧ (parseMethodDescriptor yX1_number.desc).map (fun d => d.parameters.length) = some 2 := by decide +kernel
theorem hd_X1_tell : yX1_tell.cls = RX1 ∧ yX1_tell.cls ≠ "java/lang/invoke/MethodHandle" ∧ yX1_tell.cls ≠ "java/lang/invoke/VarHandle" ∧ (parseMethodDescriptor yX1_tell.desc).map (fun d => d.parameters.length) = some 2 := by decide +kernel
theorem hd_X2_forget : yX2_forget.cls = RX2 ∧ yX2_forget.cls ≠ "java/lang/invoke/MethodHandle" ∧ yX2_forget.cls ≠ "java/lang/invoke/VarHandle" ∧ (parseMethodDescriptor yX2_forget.desc).map (fun d => d.parameters.length) = some 0 := by decide +kernel
theorem hd_X2_keep : yX2_keep.cls = RX2 ∧ yX2_keep.cls ≠ "java/lang/invoke/MethodHandle" ∧ yX2_keep.cls ≠ "java/lang/invoke/VarHandle" ∧ (parseMethodDescriptor yX2_keep.desc).map (fun d => d.parameters.length) = some 3 := by decide +kernel
theorem hd_X2_keepRoster : yX2_keepRoster.cls = RX2 ∧ yX2_keepRoster.cls ≠ "java/lang/invoke/MethodHandle" ∧ yX2_keepRoster.cls ≠ "java/lang/invoke/VarHandle" ∧ (parseMethodDescriptor yX2_keepRoster.desc).map (fun d => d.parameters.length) = some 2 := by decide +kernel
theorem hd_X2_nextSlot : yX2_nextSlot.cls = RX2 ∧ yX2_nextSlot.cls ≠ "java/lang/invoke/MethodHandle" ∧ yX2_nextSlot.cls ≠ "java/lang/invoke/VarHandle" ∧ (parseMethodDescriptor yX2_nextSlot.desc).map (fun d => d.parameters.length) = some 0 := by decide +kernel
theorem hd_X2_undoLatest : yX2_undoLatest.cls = RX2 ∧ yX2_undoLatest.cls ≠ "java/lang/invoke/MethodHandle" ∧ yX2_undoLatest.cls ≠ "java/lang/invoke/VarHandle" ∧ (parseMethodDescriptor yX2_undoLatest.desc).map (fun d => d.parameters.length) = some 1 := by decide +kernel
theorem hd_X3_bothContent : yX3_bothContent.cls = RX3 ∧ yX3_bothContent.cls ≠ "java/lang/invoke/MethodHandle" ∧ yX3_bothContent.cls ≠ "java/lang/invoke/VarHandle" ∧ (parseMethodDescriptor yX3_bothContent.desc).map (fun d => d.parameters.length) = some 2 := by decide +kernel
theorem hd_X3_castRosters : yX3_castRosters.cls = RX3 ∧ yX3_castRosters.cls ≠ "java/lang/invoke/MethodHandle" ∧ yX3_castRosters.cls ≠ "java/lang/invoke/VarHandle" ∧ (parseMethodDescriptor yX3_castRosters.desc).map (fun d => d.parameters.length) = some 1 := by decide +kernel
theorem hd_X3_commonDivisor : yX3_commonDivisor.cls ≠ "java/lang/invoke/MethodHandle" ∧ yX3_commonDivisor.cls ≠ "java/lang/invoke/VarHandle" ∧ (parseMethodDescriptor yX3_commonDivisor.desc).map (fun d => d.parameters.length) = some 2 := by decide +kernel
theorem hd_X3_drawBelow : yX3_drawBelow.cls ≠ "java/lang/invoke/MethodHandle" ∧ yX3_drawBelow.cls ≠ "java/lang/invoke/VarHandle" ∧ (parseMethodDescriptor yX3_drawBelow.desc).map (fun d => d.parameters.length) = some 2 := by decide +kernel
theorem hd_X3_fillPays : yX3_fillPays.cls = RX3 ∧ yX3_fillPays.cls ≠ "java/lang/invoke/MethodHandle" ∧ yX3_fillPays.cls ≠ "java/lang/invoke/VarHandle" ∧ (parseMethodDescriptor yX3_fillPays.desc).map (fun d => d.parameters.length) = some 4 := by decide +kernel
theorem hd_X3_firstOf : yX3_firstOf.cls ≠ "java/lang/invoke/MethodHandle" ∧ yX3_firstOf.cls ≠ "java/lang/invoke/VarHandle" ∧ (parseMethodDescriptor yX3_firstOf.desc).map (fun d => d.parameters.length) = some 2 := by decide +kernel
theorem hd_X3_fraction : yX3_fraction.cls ≠ "java/lang/invoke/MethodHandle" ∧ yX3_fraction.cls ≠ "java/lang/invoke/VarHandle" ∧ (parseMethodDescriptor yX3_fraction.desc).map (fun d => d.parameters.length) = some 3 := by decide +kernel
theorem hd_X3_hoursUntilOwned : yX3_hoursUntilOwned.cls = RX3 ∧ yX3_hoursUntilOwned.cls ≠ "java/lang/invoke/MethodHandle" ∧ yX3_hoursUntilOwned.cls ≠ "java/lang/invoke/VarHandle" ∧ (parseMethodDescriptor yX3_hoursUntilOwned.desc).map (fun d => d.parameters.length) = some 3 := by decide +kernel
theorem hd_X3_inRow : yX3_inRow.cls ≠ "java/lang/invoke/MethodHandle" ∧ yX3_inRow.cls ≠ "java/lang/invoke/VarHandle" ∧ (parseMethodDescriptor yX3_inRow.desc).map (fun d => d.parameters.length) = some 1 := by decide +kernel
theorem hd_X3_longRow : yX3_longRow.cls = RX3 ∧ yX3_longRow.cls ≠ "java/lang/invoke/MethodHandle" ∧ yX3_longRow.cls ≠ "java/lang/invoke/VarHandle" ∧ (parseMethodDescriptor yX3_longRow.desc).map (fun d => d.parameters.length) = some 0 := by decide +kernel
theorem hd_X3_nextSeed : yX3_nextSeed.cls ≠ "java/lang/invoke/MethodHandle" ∧ yX3_nextSeed.cls ≠ "java/lang/invoke/VarHandle" ∧ (parseMethodDescriptor yX3_nextSeed.desc).map (fun d => d.parameters.length) = some 1 := by decide +kernel
theorem hd_X3_noHour : yX3_noHour.cls ≠ "java/lang/invoke/MethodHandle" ∧ yX3_noHour.cls ≠ "java/lang/invoke/VarHandle" ∧ (parseMethodDescriptor yX3_noHour.desc).map (fun d => d.parameters.length) = some 1 := by decide +kernel
theorem hd_X3_noLooker : yX3_noLooker.cls = RX3 ∧ yX3_noLooker.cls ≠ "java/lang/invoke/MethodHandle" ∧ yX3_noLooker.cls ≠ "java/lang/invoke/VarHandle" ∧ (parseMethodDescriptor yX3_noLooker.desc).map (fun d => d.parameters.length) = some 1 := by decide +kernel
theorem hd_X3_noLookerFar : yX3_noLookerFar.cls = RX3 ∧ yX3_noLookerFar.cls ≠ "java/lang/invoke/MethodHandle" ∧ yX3_noLookerFar.cls ≠ "java/lang/invoke/VarHandle" ∧ (parseMethodDescriptor yX3_noLookerFar.desc).map (fun d => d.parameters.length) = some 2 := by decide +kernel
theorem hd_X3_noPair : yX3_noPair.cls = RX3 ∧ yX3_noPair.cls ≠ "java/lang/invoke/MethodHandle" ∧ yX3_noPair.cls ≠ "java/lang/invoke/VarHandle" ∧ (parseMethodDescriptor yX3_noPair.desc).map (fun d => d.parameters.length) = some 2 := by decide +kernel
theorem hd_X3_noPairFar : yX3_noPairFar.cls = RX3 ∧ yX3_noPairFar.cls ≠ "java/lang/invoke/MethodHandle" ∧ yX3_noPairFar.cls ≠ "java/lang/invoke/VarHandle" ∧ (parseMethodDescriptor yX3_noPairFar.desc).map (fun d => d.parameters.length) = some 3 := by decide +kernel
theorem hd_X3_noPane : yX3_noPane.cls = RX3 ∧ yX3_noPane.cls ≠ "java/lang/invoke/MethodHandle" ∧ yX3_noPane.cls ≠ "java/lang/invoke/VarHandle" ∧ (parseMethodDescriptor yX3_noPane.desc).map (fun d => d.parameters.length) = some 1 := by decide +kernel
theorem hd_X3_noView : yX3_noView.cls ≠ "java/lang/invoke/MethodHandle" ∧ yX3_noView.cls ≠ "java/lang/invoke/VarHandle" ∧ (parseMethodDescriptor yX3_noView.desc).map (fun d => d.parameters.length) = some 1 := by decide +kernel
theorem hd_X3_notBelow : yX3_notBelow.cls ≠ "java/lang/invoke/MethodHandle" ∧ yX3_notBelow.cls ≠ "java/lang/invoke/VarHandle" ∧ (parseMethodDescriptor yX3_notBelow.desc).map (fun d => d.parameters.length) = some 2 := by decide +kernel
theorem hd_X3_outside : yX3_outside.cls ≠ "java/lang/invoke/MethodHandle" ∧ yX3_outside.cls ≠ "java/lang/invoke/VarHandle" ∧ (parseMethodDescriptor yX3_outside.desc).map (fun d => d.parameters.length) = some 3 := by decide +kernel
theorem hd_X3_ownsWell : yX3_ownsWell.cls = RX3 ∧ yX3_ownsWell.cls ≠ "java/lang/invoke/MethodHandle" ∧ yX3_ownsWell.cls ≠ "java/lang/invoke/VarHandle" ∧ (parseMethodDescriptor yX3_ownsWell.desc).map (fun d => d.parameters.length) = some 4 := by decide +kernel
theorem hd_X3_refuse : yX3_refuse.cls = RX3 ∧ yX3_refuse.cls ≠ "java/lang/invoke/MethodHandle" ∧ yX3_refuse.cls ≠ "java/lang/invoke/VarHandle" ∧ (parseMethodDescriptor yX3_refuse.desc).map (fun d => d.parameters.length) = some 1 := by decide +kernel
theorem hd_X3_refuseLong : yX3_refuseLong.cls = RX3 ∧ yX3_refuseLong.cls ≠ "java/lang/invoke/MethodHandle" ∧ yX3_refuseLong.cls ≠ "java/lang/invoke/VarHandle" ∧ (parseMethodDescriptor yX3_refuseLong.desc).map (fun d => d.parameters.length) = some 1 := by decide +kernel
theorem hd_X3_rowTells : yX3_rowTells.cls = RX3 ∧ yX3_rowTells.cls ≠ "java/lang/invoke/MethodHandle" ∧ yX3_rowTells.cls ≠ "java/lang/invoke/VarHandle" ∧ (parseMethodDescriptor yX3_rowTells.desc).map (fun d => d.parameters.length) = some 1 := by decide +kernel
theorem hd_X3_tellTerrace : yX3_tellTerrace.cls = RX3 ∧ yX3_tellTerrace.cls ≠ "java/lang/invoke/MethodHandle" ∧ yX3_tellTerrace.cls ≠ "java/lang/invoke/VarHandle" ∧ (parseMethodDescriptor yX3_tellTerrace.desc).map (fun d => d.parameters.length) = some 0 := by decide +kernel
theorem hd_X3_wealthAt : yX3_wealthAt.cls = RX3 ∧ yX3_wealthAt.cls ≠ "java/lang/invoke/MethodHandle" ∧ yX3_wealthAt.cls ≠ "java/lang/invoke/VarHandle" ∧ (parseMethodDescriptor yX3_wealthAt.desc).map (fun d => d.parameters.length) = some 4 := by decide +kernel
theorem hd_X3_wealthSwapped : yX3_wealthSwapped.cls = RX3 ∧ yX3_wealthSwapped.cls ≠ "java/lang/invoke/MethodHandle" ∧ yX3_wealthSwapped.cls ≠ "java/lang/invoke/VarHandle" ∧ (parseMethodDescriptor yX3_wealthSwapped.desc).map (fun d => d.parameters.length) = some 3 := by decide +kernel
theorem hd_X3_wealthWalled : yX3_wealthWalled.cls = RX3 ∧ yX3_wealthWalled.cls ≠ "java/lang/invoke/MethodHandle" ∧ yX3_wealthWalled.cls ≠ "java/lang/invoke/VarHandle" ∧ (parseMethodDescriptor yX3_wealthWalled.desc).map (fun d => d.parameters.length) = some 4 := by decide +kernel
theorem hd_X4_again : yX4_again.cls = RX4 ∧ yX4_again.cls ≠ "java/lang/invoke/MethodHandle" ∧ yX4_again.cls ≠ "java/lang/invoke/VarHandle" ∧ (parseMethodDescriptor yX4_again.desc).map (fun d => d.parameters.length) = some 0 := by decide +kernel
theorem hd_X4_allShown : yX4_allShown.cls = RX4 ∧ yX4_allShown.cls ≠ "java/lang/invoke/MethodHandle" ∧ yX4_allShown.cls ≠ "java/lang/invoke/VarHandle" ∧ (parseMethodDescriptor yX4_allShown.desc).map (fun d => d.parameters.length) = some 0 := by decide +kernel
theorem hd_X4_areResting : yX4_areResting.cls = RX4 ∧ yX4_areResting.cls ≠ "java/lang/invoke/MethodHandle" ∧ yX4_areResting.cls ≠ "java/lang/invoke/VarHandle" ∧ (parseMethodDescriptor yX4_areResting.desc).map (fun d => d.parameters.length) = some 1 := by decide +kernel
theorem hd_X4_areTwo : yX4_areTwo.cls = RX4 ∧ yX4_areTwo.cls ≠ "java/lang/invoke/MethodHandle" ∧ yX4_areTwo.cls ≠ "java/lang/invoke/VarHandle" ∧ (parseMethodDescriptor yX4_areTwo.desc).map (fun d => d.parameters.length) = some 2 := by decide +kernel
theorem hd_X4_bringsOf : yX4_bringsOf.cls = RX4 ∧ yX4_bringsOf.cls ≠ "java/lang/invoke/MethodHandle" ∧ yX4_bringsOf.cls ≠ "java/lang/invoke/VarHandle" ∧ (parseMethodDescriptor yX4_bringsOf.desc).map (fun d => d.parameters.length) = some 2 := by decide +kernel
theorem hd_X4_broughtToAll : yX4_broughtToAll.cls = RX4 ∧ yX4_broughtToAll.cls ≠ "java/lang/invoke/MethodHandle" ∧ yX4_broughtToAll.cls ≠ "java/lang/invoke/VarHandle" ∧ (parseMethodDescriptor yX4_broughtToAll.desc).map (fun d => d.parameters.length) = some 1 := by decide +kernel
theorem hd_X4_carry : yX4_carry.cls = RX4 ∧ yX4_carry.cls ≠ "java/lang/invoke/MethodHandle" ∧ yX4_carry.cls ≠ "java/lang/invoke/VarHandle" ∧ (parseMethodDescriptor yX4_carry.desc).map (fun d => d.parameters.length) = some 1 := by decide +kernel
theorem hd_X4_carryAll : yX4_carryAll.cls = RX4 ∧ yX4_carryAll.cls ≠ "java/lang/invoke/MethodHandle" ∧ yX4_carryAll.cls ≠ "java/lang/invoke/VarHandle" ∧ (parseMethodDescriptor yX4_carryAll.desc).map (fun d => d.parameters.length) = some 2 := by decide +kernel
theorem hd_X4_comesTold : yX4_comesTold.cls = RX4 ∧ yX4_comesTold.cls ≠ "java/lang/invoke/MethodHandle" ∧ yX4_comesTold.cls ≠ "java/lang/invoke/VarHandle" ∧ (parseMethodDescriptor yX4_comesTold.desc).map (fun d => d.parameters.length) = some 1 := by decide +kernel
theorem hd_X4_countIn : yX4_countIn.cls = RX4 ∧ yX4_countIn.cls ≠ "java/lang/invoke/MethodHandle" ∧ yX4_countIn.cls ≠ "java/lang/invoke/VarHandle" ∧ (parseMethodDescriptor yX4_countIn.desc).map (fun d => d.parameters.length) = some 3 := by decide +kernel
theorem hd_X4_divisor : yX4_divisor.cls ≠ "java/lang/invoke/MethodHandle" ∧ yX4_divisor.cls ≠ "java/lang/invoke/VarHandle" ∧ (parseMethodDescriptor yX4_divisor.desc).map (fun d => d.parameters.length) = some 2 := by decide +kernel
theorem hd_X4_drawBelow : yX4_drawBelow.cls = RX4 ∧ yX4_drawBelow.cls ≠ "java/lang/invoke/MethodHandle" ∧ yX4_drawBelow.cls ≠ "java/lang/invoke/VarHandle" ∧ (parseMethodDescriptor yX4_drawBelow.desc).map (fun d => d.parameters.length) = some 1 := by decide +kernel
theorem hd_X4_goDays : yX4_goDays.cls = RX4 ∧ yX4_goDays.cls ≠ "java/lang/invoke/MethodHandle" ∧ yX4_goDays.cls ≠ "java/lang/invoke/VarHandle" ∧ (parseMethodDescriptor yX4_goDays.desc).map (fun d => d.parameters.length) = some 1 := by decide +kernel
theorem hd_X4_hasBit : yX4_hasBit.cls ≠ "java/lang/invoke/MethodHandle" ∧ yX4_hasBit.cls ≠ "java/lang/invoke/VarHandle" ∧ (parseMethodDescriptor yX4_hasBit.desc).map (fun d => d.parameters.length) = some 2 := by decide +kernel
theorem hd_X4_held : yX4_held.cls ≠ "java/lang/invoke/MethodHandle" ∧ yX4_held.cls ≠ "java/lang/invoke/VarHandle" ∧ (parseMethodDescriptor yX4_held.desc).map (fun d => d.parameters.length) = some 1 := by decide +kernel
theorem hd_X4_here : yX4_here.cls = RX4 ∧ yX4_here.cls ≠ "java/lang/invoke/MethodHandle" ∧ yX4_here.cls ≠ "java/lang/invoke/VarHandle" ∧ (parseMethodDescriptor yX4_here.desc).map (fun d => d.parameters.length) = some 0 := by decide +kernel
theorem hd_X4_hoursOf : yX4_hoursOf.cls = RX4 ∧ yX4_hoursOf.cls ≠ "java/lang/invoke/MethodHandle" ∧ yX4_hoursOf.cls ≠ "java/lang/invoke/VarHandle" ∧ (parseMethodDescriptor yX4_hoursOf.desc).map (fun d => d.parameters.length) = some 1 := by decide +kernel
theorem hd_X4_in : yX4_in.cls ≠ "java/lang/invoke/MethodHandle" ∧ yX4_in.cls ≠ "java/lang/invoke/VarHandle" ∧ (parseMethodDescriptor yX4_in.desc).map (fun d => d.parameters.length) = some 3 := by decide +kernel
theorem hd_X4_isHour : yX4_isHour.cls ≠ "java/lang/invoke/MethodHandle" ∧ yX4_isHour.cls ≠ "java/lang/invoke/VarHandle" ∧ (parseMethodDescriptor yX4_isHour.desc).map (fun d => d.parameters.length) = some 1 := by decide +kernel
theorem hd_X4_isLetter : yX4_isLetter.cls ≠ "java/lang/invoke/MethodHandle" ∧ yX4_isLetter.cls ≠ "java/lang/invoke/VarHandle" ∧ (parseMethodDescriptor yX4_isLetter.desc).map (fun d => d.parameters.length) = some 1 := by decide +kernel
theorem hd_X4_isLooker : yX4_isLooker.cls = RX4 ∧ yX4_isLooker.cls ≠ "java/lang/invoke/MethodHandle" ∧ yX4_isLooker.cls ≠ "java/lang/invoke/VarHandle" ∧ (parseMethodDescriptor yX4_isLooker.desc).map (fun d => d.parameters.length) = some 1 := by decide +kernel
theorem hd_X4_isPane : yX4_isPane.cls = RX4 ∧ yX4_isPane.cls ≠ "java/lang/invoke/MethodHandle" ∧ yX4_isPane.cls ≠ "java/lang/invoke/VarHandle" ∧ (parseMethodDescriptor yX4_isPane.desc).map (fun d => d.parameters.length) = some 1 := by decide +kernel
theorem hd_X4_isRow : yX4_isRow.cls = RX4 ∧ yX4_isRow.cls ≠ "java/lang/invoke/MethodHandle" ∧ yX4_isRow.cls ≠ "java/lang/invoke/VarHandle" ∧ (parseMethodDescriptor yX4_isRow.desc).map (fun d => d.parameters.length) = some 1 := by decide +kernel
theorem hd_X4_isView : yX4_isView.cls ≠ "java/lang/invoke/MethodHandle" ∧ yX4_isView.cls ≠ "java/lang/invoke/VarHandle" ∧ (parseMethodDescriptor yX4_isView.desc).map (fun d => d.parameters.length) = some 1 := by decide +kernel
theorem hd_X4_keepTurn : yX4_keepTurn.cls = RX4 ∧ yX4_keepTurn.cls ≠ "java/lang/invoke/MethodHandle" ∧ yX4_keepTurn.cls ≠ "java/lang/invoke/VarHandle" ∧ (parseMethodDescriptor yX4_keepTurn.desc).map (fun d => d.parameters.length) = some 0 := by decide +kernel
theorem hd_X4_layBrings : yX4_layBrings.cls = RX4 ∧ yX4_layBrings.cls ≠ "java/lang/invoke/MethodHandle" ∧ yX4_layBrings.cls ≠ "java/lang/invoke/VarHandle" ∧ (parseMethodDescriptor yX4_layBrings.desc).map (fun d => d.parameters.length) = some 0 := by decide +kernel
theorem hd_X4_lookerComes : yX4_lookerComes.cls = RX4 ∧ yX4_lookerComes.cls ≠ "java/lang/invoke/MethodHandle" ∧ yX4_lookerComes.cls ≠ "java/lang/invoke/VarHandle" ∧ (parseMethodDescriptor yX4_lookerComes.desc).map (fun d => d.parameters.length) = some 2 := by decide +kernel
theorem hd_X4_onesOf : yX4_onesOf.cls ≠ "java/lang/invoke/MethodHandle" ∧ yX4_onesOf.cls ≠ "java/lang/invoke/VarHandle" ∧ (parseMethodDescriptor yX4_onesOf.desc).map (fun d => d.parameters.length) = some 1 := by decide +kernel
theorem hd_X4_owned : yX4_owned.cls = RX4 ∧ yX4_owned.cls ≠ "java/lang/invoke/MethodHandle" ∧ yX4_owned.cls ≠ "java/lang/invoke/VarHandle" ∧ (parseMethodDescriptor yX4_owned.desc).map (fun d => d.parameters.length) = some 0 := by decide +kernel
theorem hd_X4_ownerIn : yX4_ownerIn.cls = RX4 ∧ yX4_ownerIn.cls ≠ "java/lang/invoke/MethodHandle" ∧ yX4_ownerIn.cls ≠ "java/lang/invoke/VarHandle" ∧ (parseMethodDescriptor yX4_ownerIn.desc).map (fun d => d.parameters.length) = some 2 := by decide +kernel
theorem hd_X4_ownerLooked : yX4_ownerLooked.cls = RX4 ∧ yX4_ownerLooked.cls ≠ "java/lang/invoke/MethodHandle" ∧ yX4_ownerLooked.cls ≠ "java/lang/invoke/VarHandle" ∧ (parseMethodDescriptor yX4_ownerLooked.desc).map (fun d => d.parameters.length) = some 0 := by decide +kernel
theorem hd_X4_partOf : yX4_partOf.cls ≠ "java/lang/invoke/MethodHandle" ∧ yX4_partOf.cls ≠ "java/lang/invoke/VarHandle" ∧ (parseMethodDescriptor yX4_partOf.desc).map (fun d => d.parameters.length) = some 3 := by decide +kernel
theorem hd_X4_pullOf : yX4_pullOf.cls = RX4 ∧ yX4_pullOf.cls ≠ "java/lang/invoke/MethodHandle" ∧ yX4_pullOf.cls ≠ "java/lang/invoke/VarHandle" ∧ (parseMethodDescriptor yX4_pullOf.desc).map (fun d => d.parameters.length) = some 2 := by decide +kernel
theorem hd_X4_readDigits : yX4_readDigits.cls = RX4 ∧ yX4_readDigits.cls ≠ "java/lang/invoke/MethodHandle" ∧ yX4_readDigits.cls ≠ "java/lang/invoke/VarHandle" ∧ (parseMethodDescriptor yX4_readDigits.desc).map (fun d => d.parameters.length) = some 1 := by decide +kernel
theorem hd_X4_readNumbers : yX4_readNumbers.cls = RX4 ∧ yX4_readNumbers.cls ≠ "java/lang/invoke/MethodHandle" ∧ yX4_readNumbers.cls ≠ "java/lang/invoke/VarHandle" ∧ (parseMethodDescriptor yX4_readNumbers.desc).map (fun d => d.parameters.length) = some 2 := by decide +kernel
theorem hd_X4_readStatement : yX4_readStatement.cls = RX4 ∧ yX4_readStatement.cls ≠ "java/lang/invoke/MethodHandle" ∧ yX4_readStatement.cls ≠ "java/lang/invoke/VarHandle" ∧ (parseMethodDescriptor yX4_readStatement.desc).map (fun d => d.parameters.length) = some 0 := by decide +kernel
theorem hd_X4_refuse : yX4_refuse.cls = RX4 ∧ yX4_refuse.cls ≠ "java/lang/invoke/MethodHandle" ∧ yX4_refuse.cls ≠ "java/lang/invoke/VarHandle" ∧ (parseMethodDescriptor yX4_refuse.desc).map (fun d => d.parameters.length) = some 1 := by decide +kernel
theorem hd_X4_richestIn : yX4_richestIn.cls = RX4 ∧ yX4_richestIn.cls ≠ "java/lang/invoke/MethodHandle" ∧ yX4_richestIn.cls ≠ "java/lang/invoke/VarHandle" ∧ (parseMethodDescriptor yX4_richestIn.desc).map (fun d => d.parameters.length) = some 1 := by decide +kernel
theorem hd_X4_seesIn : yX4_seesIn.cls = RX4 ∧ yX4_seesIn.cls ≠ "java/lang/invoke/MethodHandle" ∧ yX4_seesIn.cls ≠ "java/lang/invoke/VarHandle" ∧ (parseMethodDescriptor yX4_seesIn.desc).map (fun d => d.parameters.length) = some 2 := by decide +kernel
theorem hd_X4_stand : yX4_stand.cls = RX4 ∧ yX4_stand.cls ≠ "java/lang/invoke/MethodHandle" ∧ yX4_stand.cls ≠ "java/lang/invoke/VarHandle" ∧ (parseMethodDescriptor yX4_stand.desc).map (fun d => d.parameters.length) = some 4 := by decide +kernel
theorem hd_X4_standing : yX4_standing.cls = RX4 ∧ yX4_standing.cls ≠ "java/lang/invoke/MethodHandle" ∧ yX4_standing.cls ≠ "java/lang/invoke/VarHandle" ∧ (parseMethodDescriptor yX4_standing.desc).map (fun d => d.parameters.length) = some 1 := by decide +kernel
theorem hd_X4_swapRosters : yX4_swapRosters.cls = RX4 ∧ yX4_swapRosters.cls ≠ "java/lang/invoke/MethodHandle" ∧ yX4_swapRosters.cls ≠ "java/lang/invoke/VarHandle" ∧ (parseMethodDescriptor yX4_swapRosters.desc).map (fun d => d.parameters.length) = some 2 := by decide +kernel
theorem hd_X4_think : yX4_think.cls = RX4 ∧ yX4_think.cls ≠ "java/lang/invoke/MethodHandle" ∧ yX4_think.cls ≠ "java/lang/invoke/VarHandle" ∧ (parseMethodDescriptor yX4_think.desc).map (fun d => d.parameters.length) = some 0 := by decide +kernel
theorem hd_X4_viewsIn : yX4_viewsIn.cls = RX4 ∧ yX4_viewsIn.cls ≠ "java/lang/invoke/MethodHandle" ∧ yX4_viewsIn.cls ≠ "java/lang/invoke/VarHandle" ∧ (parseMethodDescriptor yX4_viewsIn.desc).map (fun d => d.parameters.length) = some 2 := by decide +kernel
theorem hd_X4_worthAnew : yX4_worthAnew.cls = RX4 ∧ yX4_worthAnew.cls ≠ "java/lang/invoke/MethodHandle" ∧ yX4_worthAnew.cls ≠ "java/lang/invoke/VarHandle" ∧ (parseMethodDescriptor yX4_worthAnew.desc).map (fun d => d.parameters.length) = some 2 := by decide +kernel
theorem hd_X4_worthBy : yX4_worthBy.cls = RX4 ∧ yX4_worthBy.cls ≠ "java/lang/invoke/MethodHandle" ∧ yX4_worthBy.cls ≠ "java/lang/invoke/VarHandle" ∧ (parseMethodDescriptor yX4_worthBy.desc).map (fun d => d.parameters.length) = some 1 := by decide +kernel
theorem hd_X4_worthIn : yX4_worthIn.cls = RX4 ∧ yX4_worthIn.cls ≠ "java/lang/invoke/MethodHandle" ∧ yX4_worthIn.cls ≠ "java/lang/invoke/VarHandle" ∧ (parseMethodDescriptor yX4_worthIn.desc).map (fun d => d.parameters.length) = some 2 := by decide +kernel
theorem hd_X4_wrongBit : yX4_wrongBit.cls ≠ "java/lang/invoke/MethodHandle" ∧ yX4_wrongBit.cls ≠ "java/lang/invoke/VarHandle" ∧ (parseMethodDescriptor yX4_wrongBit.desc).map (fun d => d.parameters.length) = some 3 := by decide +kernel
theorem hd_X4_wrongNumber : yX4_wrongNumber.cls ≠ "java/lang/invoke/MethodHandle" ∧ yX4_wrongNumber.cls ≠ "java/lang/invoke/VarHandle" ∧ (parseMethodDescriptor yX4_wrongNumber.desc).map (fun d => d.parameters.length) = some 3 := by decide +kernel
abbrev rm_X0_takeFrom : Room := { frames := 1, cells := 0, slots := 0, locals := 60 }
abbrev rm_X0_isView : Room := { frames := 0, cells := 0, slots := 0, locals := 0 }
abbrev rm_X0_isHour : Room := { frames := 0, cells := 0, slots := 0, locals := 0 }
abbrev rm_X0_isPane : Room := { frames := 0, cells := 0, slots := 0, locals := 0 }
abbrev rm_X0_isLooker : Room := { frames := 0, cells := 0, slots := 0, locals := 0 }
abbrev rm_X0_addPane : Room := { frames := 0, cells := 0, slots := 0, locals := 0 }
abbrev rm_X0_addLooker : Room := { frames := 0, cells := 0, slots := 0, locals := 0 }
abbrev rm_X0_post : Room := { frames := 1, cells := 0, slots := 0, locals := 21 }
abbrev rm_X0_flip : Room := { frames := 1, cells := 0, slots := 0, locals := 21 }
abbrev rm_X0_price : Room := { frames := 1, cells := 0, slots := 0, locals := 20 }
abbrev rm_X0_rule : Room := { frames := 0, cells := 0, slots := 0, locals := 0 }
abbrev rm_X0_shownBy : Room := { frames := 0, cells := 0, slots := 0, locals := 0 }
abbrev rm_X0_allShown : Room := { frames := 1, cells := 0, slots := 0, locals := 23 }
abbrev rm_X0_invalidsPull : Room := { frames := 0, cells := 0, slots := 0, locals := 0 }
abbrev rm_X0_pull : Room := { frames := 1, cells := 0, slots := 0, locals := 20 }
abbrev rm_X0_sight : Room := { frames := 1, cells := 0, slots := 0, locals := 21 }
abbrev rm_X0_gain : Room := { frames := 0, cells := 0, slots := 0, locals := 0 }
abbrev rm_X0_reckon : Room := { frames := 2, cells := 0, slots := 0, locals := 45 }
abbrev rm_X0_behind : Room := { frames := 1, cells := 0, slots := 0, locals := 21 }
abbrev rm_X0_pass : Room := { frames := 3, cells := 0, slots := 0, locals := 69 }
abbrev rm_X0_tradeRosters : Room := { frames := 1, cells := 0, slots := 0, locals := 21 }
abbrev rm_X0_shows : Room := { frames := 1, cells := 0, slots := 0, locals := 21 }
abbrev rm_X0_timesShown : Room := { frames := 2, cells := 0, slots := 0, locals := 43 }
abbrev rm_X0_hoursAt : Room := { frames := 0, cells := 0, slots := 0, locals := 0 }
abbrev rm_X0_hoursOf : Room := { frames := 0, cells := 0, slots := 0, locals := 0 }
abbrev rm_X0_hoursOfAll : Room := { frames := 1, cells := 0, slots := 0, locals := 23 }
abbrev rm_X0_standingIn : Room := { frames := 0, cells := 0, slots := 0, locals := 0 }
abbrev rm_X0_gainOfAll : Room := { frames := 0, cells := 0, slots := 0, locals := 0 }
abbrev rm_X0_holder : Room := { frames := 2, cells := 0, slots := 0, locals := 44 }
abbrev rm_X0_holdings : Room := { frames := 3, cells := 0, slots := 0, locals := 72 }
abbrev rm_X0_firstHolding : Room := { frames := 3, cells := 0, slots := 0, locals := 72 }
abbrev rm_X0_held : Room := { frames := 4, cells := 0, slots := 0, locals := 96 }
abbrev rm_X0_wealth : Room := { frames := 3, cells := 0, slots := 0, locals := 72 }
abbrev rm_X0_wealthiest : Room := { frames := 4, cells := 0, slots := 0, locals := 96 }
abbrev rm_X0_lead : Room := { frames := 3, cells := 0, slots := 0, locals := 72 }
abbrev rm_X0_outdo : Room := { frames := 2, cells := 0, slots := 0, locals := 44 }
abbrev rm_X0_placeOf : Room := { frames := 0, cells := 0, slots := 0, locals := 0 }
abbrev rm_X1_add : Room := { frames := 0, cells := 0, slots := 0, locals := 0 }
abbrev rm_X1_digitsOf : Room := { frames := 0, cells := 0, slots := 0, locals := 0 }
abbrev rm_X1_isDigit : Room := { frames := 0, cells := 0, slots := 0, locals := 0 }
abbrev rm_X1_behind : Room := { frames := 1, cells := 0, slots := 0, locals := 21 }
abbrev rm_X1_faultOfForm : Room := { frames := 1, cells := 0, slots := 0, locals := 21 }
abbrev rm_X1_number : Room := { frames := 1, cells := 0, slots := 0, locals := 21 }
abbrev rm_X1_tell : Room := { frames := 4, cells := 0, slots := 0, locals := 92 }
abbrev rm_X2_forget : Room := { frames := 0, cells := 0, slots := 0, locals := 0 }
abbrev rm_X2_nextSlot : Room := { frames := 0, cells := 0, slots := 0, locals := 0 }
abbrev rm_X2_keep : Room := { frames := 1, cells := 0, slots := 0, locals := 21 }
abbrev rm_X2_keepRoster : Room := { frames := 1, cells := 0, slots := 0, locals := 21 }
abbrev rm_X2_undoLatest : Room := { frames := 2, cells := 0, slots := 0, locals := 46 }
abbrev rm_X3_refuse : Room := { frames := 0, cells := 0, slots := 0, locals := 0 }
abbrev rm_X3_refuseLong : Room := { frames := 1, cells := 0, slots := 0, locals := 22 }
abbrev rm_X3_firstOf : Room := { frames := 0, cells := 0, slots := 0, locals := 0 }
abbrev rm_X3_noView : Room := { frames := 1, cells := 0, slots := 0, locals := 20 }
abbrev rm_X3_noHour : Room := { frames := 1, cells := 0, slots := 0, locals := 20 }
abbrev rm_X3_noPane : Room := { frames := 1, cells := 0, slots := 0, locals := 21 }
abbrev rm_X3_noLooker : Room := { frames := 1, cells := 0, slots := 0, locals := 21 }
abbrev rm_X3_noPair : Room := { frames := 1, cells := 0, slots := 0, locals := 21 }
abbrev rm_X3_notBelow : Room := { frames := 0, cells := 0, slots := 0, locals := 0 }
abbrev rm_X3_outside : Room := { frames := 0, cells := 0, slots := 0, locals := 0 }
abbrev rm_X3_noLookerFar : Room := { frames := 2, cells := 0, slots := 0, locals := 42 }
abbrev rm_X3_noPairFar : Room := { frames := 2, cells := 0, slots := 0, locals := 43 }
abbrev rm_X3_longRow : Room := { frames := 0, cells := 0, slots := 0, locals := 0 }
abbrev rm_X3_feed : Room := { frames := 1, cells := 0, slots := 0, locals := 22 }
abbrev rm_X3_tellTerrace : Room := { frames := 5, cells := 0, slots := 0, locals := 115 }
abbrev rm_X3_terrace : Room := { frames := 6, cells := 0, slots := 0, locals := 138 }
abbrev rm_X3_paneOf : Room := { frames := 2, cells := 0, slots := 0, locals := 42 }
abbrev rm_X3_lookerOf : Room := { frames := 4, cells := 0, slots := 0, locals := 96 }
abbrev rm_X3_pane : Room := { frames := 1, cells := 0, slots := 0, locals := 22 }
abbrev rm_X3_looker : Room := { frames := 1, cells := 0, slots := 0, locals := 23 }
abbrev rm_X3_stands : Room := { frames := 2, cells := 0, slots := 0, locals := 46 }
abbrev rm_X3_roster : Room := { frames := 2, cells := 0, slots := 0, locals := 42 }
abbrev rm_X3_wall : Room := { frames := 2, cells := 0, slots := 0, locals := 45 }
abbrev rm_X3_worth : Room := { frames := 2, cells := 0, slots := 0, locals := 45 }
abbrev rm_X3_law : Room := { frames := 2, cells := 0, slots := 0, locals := 45 }
abbrev rm_J6_bitCount_0f7a4 : Room := { frames := 0, cells := 0, slots := 0, locals := 0 }
abbrev rm_X3_days : Room := { frames := 5, cells := 0, slots := 0, locals := 117 }
abbrev rm_X3_back : Room := { frames := 3, cells := 0, slots := 0, locals := 70 }
abbrev rm_X3_counts : Room := { frames := 3, cells := 0, slots := 0, locals := 69 }
abbrev rm_X3_owner : Room := { frames := 3, cells := 0, slots := 0, locals := 72 }
abbrev rm_X3_owns : Room := { frames := 4, cells := 0, slots := 0, locals := 96 }
abbrev rm_X3_nobodys : Room := { frames := 5, cells := 0, slots := 0, locals := 117 }
abbrev rm_X3_from : Room := { frames := 3, cells := 0, slots := 0, locals := 72 }
abbrev rm_X3_lost : Room := { frames := 3, cells := 0, slots := 0, locals := 72 }
abbrev rm_X3_richest : Room := { frames := 5, cells := 0, slots := 0, locals := 121 }
abbrev rm_X3_staredOut : Room := { frames := 4, cells := 0, slots := 0, locals := 96 }
abbrev rm_X3_hoursUntilOwned : Room := { frames := 3, cells := 0, slots := 0, locals := 82 }
abbrev rm_X3_moreHours : Room := { frames := 4, cells := 0, slots := 0, locals := 108 }
abbrev rm_X3_wealthAt : Room := { frames := 4, cells := 0, slots := 0, locals := 96 }
abbrev rm_X3_bestPane : Room := { frames := 5, cells := 0, slots := 0, locals := 120 }
abbrev rm_X3_freeHours : Room := { frames := 4, cells := 0, slots := 0, locals := 96 }
abbrev rm_X3_cover : Room := { frames := 2, cells := 0, slots := 0, locals := 43 }
abbrev rm_X3_shown : Room := { frames := 3, cells := 0, slots := 0, locals := 66 }
abbrev rm_X3_wealthWalled : Room := { frames := 4, cells := 0, slots := 0, locals := 96 }
abbrev rm_X3_walls : Room := { frames := 5, cells := 0, slots := 0, locals := 121 }
abbrev rm_X3_commonDivisor : Room := { frames := 0, cells := 0, slots := 0, locals := 0 }
abbrev rm_X3_fraction : Room := { frames := 1, cells := 0, slots := 0, locals := 30 }
abbrev rm_X3_share : Room := { frames := 2, cells := 0, slots := 0, locals := 56 }
abbrev rm_X3_fillPays : Room := { frames := 4, cells := 0, slots := 0, locals := 96 }
abbrev rm_X3_bothContent : Room := { frames := 0, cells := 0, slots := 0, locals := 0 }
abbrev rm_X3_two : Room := { frames := 5, cells := 0, slots := 0, locals := 122 }
abbrev rm_X3_inRow : Room := { frames := 0, cells := 0, slots := 0, locals := 0 }
abbrev rm_X3_rowTells : Room := { frames := 3, cells := 0, slots := 0, locals := 72 }
abbrev rm_X3_whichLaw : Room := { frames := 4, cells := 0, slots := 0, locals := 94 }
abbrev rm_X3_whichKind : Room := { frames := 4, cells := 0, slots := 0, locals := 94 }
abbrev rm_X3_ownsWell : Room := { frames := 3, cells := 0, slots := 0, locals := 72 }
abbrev rm_X3_ill : Room := { frames := 4, cells := 0, slots := 0, locals := 96 }
abbrev rm_X3_busy : Room := { frames := 1, cells := 0, slots := 0, locals := 23 }
abbrev rm_X3_together : Room := { frames := 2, cells := 0, slots := 0, locals := 43 }
abbrev rm_X3_wealthSwapped : Room := { frames := 4, cells := 0, slots := 0, locals := 96 }
abbrev rm_X3_swap : Room := { frames := 5, cells := 0, slots := 0, locals := 120 }
abbrev rm_X3_heir : Room := { frames := 3, cells := 0, slots := 0, locals := 82 }
abbrev rm_X3_even : Room := { frames := 4, cells := 0, slots := 0, locals := 98 }
abbrev rm_X3_last : Room := { frames := 3, cells := 0, slots := 0, locals := 72 }
abbrev rm_X3_joint : Room := { frames := 3, cells := 0, slots := 0, locals := 70 }
abbrev rm_X3_rank : Room := { frames := 2, cells := 0, slots := 0, locals := 40 }
abbrev rm_X3_gap : Room := { frames := 3, cells := 0, slots := 0, locals := 69 }
abbrev rm_X3_wasted : Room := { frames := 2, cells := 0, slots := 0, locals := 43 }
abbrev rm_X3_ahead : Room := { frames := 4, cells := 0, slots := 0, locals := 98 }
abbrev rm_X3_bestLaw : Room := { frames := 4, cells := 0, slots := 0, locals := 96 }
abbrev rm_X3_newcomer : Room := { frames := 4, cells := 0, slots := 0, locals := 95 }
abbrev rm_X3_mostSeen : Room := { frames := 3, cells := 0, slots := 0, locals := 69 }
abbrev rm_X3_duels : Room := { frames := 3, cells := 0, slots := 0, locals := 69 }
abbrev rm_X3_row : Room := { frames := 1, cells := 0, slots := 0, locals := 22 }
abbrev rm_X3_judge : Room := { frames := 3, cells := 0, slots := 0, locals := 72 }
abbrev rm_X3_clear : Room := { frames := 0, cells := 0, slots := 0, locals := 0 }
abbrev rm_X3_nextSeed : Room := { frames := 0, cells := 0, slots := 0, locals := 0 }
abbrev rm_X3_drawBelow : Room := { frames := 0, cells := 0, slots := 0, locals := 0 }
abbrev rm_X3_castRosters : Room := { frames := 2, cells := 0, slots := 0, locals := 46 }
abbrev rm_X3_lots : Room := { frames := 5, cells := 0, slots := 0, locals := 121 }
abbrev rm_X3_image : Room := { frames := 2, cells := 0, slots := 0, locals := 82 }
abbrev rm_X3_restore : Room := { frames := 2, cells := 0, slots := 0, locals := 82 }
abbrev rm_X3_count : Room := { frames := 5, cells := 0, slots := 0, locals := 117 }
abbrev rm_X4_in : Room := { frames := 0, cells := 0, slots := 0, locals := 0 }
abbrev rm_X4_refuse : Room := { frames := 0, cells := 0, slots := 0, locals := 0 }
abbrev rm_X4_isLooker : Room := { frames := 1, cells := 0, slots := 0, locals := 25 }
abbrev rm_X4_isPane : Room := { frames := 1, cells := 0, slots := 0, locals := 25 }
abbrev rm_X4_isView : Room := { frames := 1, cells := 0, slots := 0, locals := 25 }
abbrev rm_X4_isHour : Room := { frames := 1, cells := 0, slots := 0, locals := 25 }
abbrev rm_X4_areTwo : Room := { frames := 2, cells := 0, slots := 0, locals := 46 }
abbrev rm_X4_wrongNumber : Room := { frames := 0, cells := 0, slots := 0, locals := 0 }
abbrev rm_X4_wrongBit : Room := { frames := 1, cells := 0, slots := 0, locals := 25 }
abbrev rm_X4_hasBit : Room := { frames := 0, cells := 0, slots := 0, locals := 0 }
abbrev rm_X4_onesOf : Room := { frames := 0, cells := 0, slots := 0, locals := 0 }
abbrev rm_X4_pullOf : Room := { frames := 1, cells := 0, slots := 0, locals := 25 }
abbrev rm_X4_allShown : Room := { frames := 0, cells := 0, slots := 0, locals := 0 }
abbrev rm_X4_seesIn : Room := { frames := 1, cells := 0, slots := 0, locals := 22 }
abbrev rm_X4_bringsOf : Room := { frames := 2, cells := 0, slots := 0, locals := 49 }
abbrev rm_X4_layBrings : Room := { frames := 3, cells := 0, slots := 0, locals := 73 }
abbrev rm_X4_held : Room := { frames := 0, cells := 0, slots := 0, locals := 0 }
abbrev rm_X4_ownerLooked : Room := { frames := 0, cells := 0, slots := 0, locals := 0 }
abbrev rm_X4_ownerIn : Room := { frames := 1, cells := 0, slots := 0, locals := 25 }
abbrev rm_X4_viewsIn : Room := { frames := 2, cells := 0, slots := 0, locals := 48 }
abbrev rm_X4_worthBy : Room := { frames := 1, cells := 0, slots := 0, locals := 21 }
abbrev rm_X4_worthIn : Room := { frames := 3, cells := 0, slots := 0, locals := 72 }
abbrev rm_X4_worthAnew : Room := { frames := 4, cells := 0, slots := 0, locals := 95 }
abbrev rm_X4_hoursOf : Room := { frames := 0, cells := 0, slots := 0, locals := 0 }
abbrev rm_X4_goDays : Room := { frames := 4, cells := 0, slots := 0, locals := 95 }
abbrev rm_X4_owned : Room := { frames := 4, cells := 0, slots := 0, locals := 95 }
abbrev rm_X4_feed : Room := { frames := 1, cells := 0, slots := 0, locals := 21 }
abbrev rm_X4_here : Room := { frames := 0, cells := 0, slots := 0, locals := 0 }
abbrev rm_X4_readDigits : Room := { frames := 1, cells := 0, slots := 0, locals := 25 }
abbrev rm_X4_isLetter : Room := { frames := 0, cells := 0, slots := 0, locals := 0 }
abbrev rm_X4_readNumbers : Room := { frames := 2, cells := 0, slots := 0, locals := 48 }
abbrev rm_X4_readStatement : Room := { frames := 3, cells := 0, slots := 0, locals := 70 }
abbrev rm_X4_lookerComes : Room := { frames := 0, cells := 0, slots := 0, locals := 0 }
abbrev rm_X4_stand : Room := { frames := 0, cells := 0, slots := 0, locals := 0 }
abbrev rm_X4_comesTold : Room := { frames := 5, cells := 0, slots := 0, locals := 117 }
abbrev rm_X4_carry : Room := { frames := 0, cells := 0, slots := 0, locals := 0 }
abbrev rm_X4_carryAll : Room := { frames := 1, cells := 0, slots := 0, locals := 21 }
abbrev rm_X4_think : Room := { frames := 2, cells := 0, slots := 0, locals := 44 }
abbrev rm_X4_again : Room := { frames := 2, cells := 0, slots := 0, locals := 44 }
abbrev rm_X4_terrace : Room := { frames := 6, cells := 0, slots := 0, locals := 143 }
abbrev rm_X4_image : Room := { frames := 2, cells := 0, slots := 0, locals := 44 }
abbrev rm_X4_restore : Room := { frames := 2, cells := 0, slots := 0, locals := 44 }
abbrev rm_X4_keepTurn : Room := { frames := 2, cells := 0, slots := 0, locals := 44 }
abbrev rm_X4_back : Room := { frames := 2, cells := 0, slots := 0, locals := 44 }
abbrev rm_X4_paneOf : Room := { frames := 2, cells := 0, slots := 0, locals := 46 }
abbrev rm_X4_lookerOf : Room := { frames := 4, cells := 0, slots := 0, locals := 95 }
abbrev rm_X4_pane : Room := { frames := 1, cells := 0, slots := 0, locals := 22 }
abbrev rm_X4_looker : Room := { frames := 1, cells := 0, slots := 0, locals := 25 }
abbrev rm_X4_stands : Room := { frames := 3, cells := 0, slots := 0, locals := 65 }
abbrev rm_X4_roster : Room := { frames := 2, cells := 0, slots := 0, locals := 46 }
abbrev rm_X4_wall : Room := { frames := 3, cells := 0, slots := 0, locals := 65 }
abbrev rm_X4_worth : Room := { frames := 3, cells := 0, slots := 0, locals := 65 }
abbrev rm_X4_law : Room := { frames := 3, cells := 0, slots := 0, locals := 65 }
abbrev rm_X4_days : Room := { frames := 5, cells := 0, slots := 0, locals := 117 }
abbrev rm_X4_counts : Room := { frames := 3, cells := 0, slots := 0, locals := 73 }
abbrev rm_X4_owner : Room := { frames := 4, cells := 0, slots := 0, locals := 95 }
abbrev rm_X4_owns : Room := { frames := 4, cells := 0, slots := 0, locals := 95 }
abbrev rm_X4_nobodys : Room := { frames := 4, cells := 0, slots := 0, locals := 95 }
abbrev rm_X4_from : Room := { frames := 4, cells := 0, slots := 0, locals := 95 }
abbrev rm_X4_lost : Room := { frames := 4, cells := 0, slots := 0, locals := 95 }
abbrev rm_X4_richestIn : Room := { frames := 4, cells := 0, slots := 0, locals := 94 }
abbrev rm_X4_richest : Room := { frames := 5, cells := 0, slots := 0, locals := 117 }
abbrev rm_X4_staredOut : Room := { frames := 4, cells := 0, slots := 0, locals := 95 }
abbrev rm_X4_moreHours : Room := { frames := 4, cells := 0, slots := 0, locals := 95 }
abbrev rm_X4_bestPane : Room := { frames := 5, cells := 0, slots := 0, locals := 117 }
abbrev rm_X4_freeHours : Room := { frames := 4, cells := 0, slots := 0, locals := 95 }
abbrev rm_X4_cover : Room := { frames := 1, cells := 0, slots := 0, locals := 22 }
abbrev rm_X4_shown : Room := { frames := 2, cells := 0, slots := 0, locals := 45 }
abbrev rm_X4_walls : Room := { frames := 5, cells := 0, slots := 0, locals := 117 }
abbrev rm_X4_divisor : Room := { frames := 0, cells := 0, slots := 0, locals := 0 }
abbrev rm_X4_partOf : Room := { frames := 1, cells := 0, slots := 0, locals := 29 }
abbrev rm_X4_share : Room := { frames := 2, cells := 0, slots := 0, locals := 55 }
abbrev rm_X4_areResting : Room := { frames := 0, cells := 0, slots := 0, locals := 0 }
abbrev rm_X4_two : Room := { frames := 5, cells := 0, slots := 0, locals := 117 }
abbrev rm_X4_isRow : Room := { frames := 4, cells := 0, slots := 0, locals := 95 }
abbrev rm_X4_whichLaw : Room := { frames := 5, cells := 0, slots := 0, locals := 119 }
abbrev rm_X4_whichKind : Room := { frames := 5, cells := 0, slots := 0, locals := 119 }
abbrev rm_X4_ill : Room := { frames := 4, cells := 0, slots := 0, locals := 95 }
abbrev rm_X4_standing : Room := { frames := 0, cells := 0, slots := 0, locals := 0 }
abbrev rm_X4_busy : Room := { frames := 1, cells := 0, slots := 0, locals := 25 }
abbrev rm_X4_together : Room := { frames := 3, cells := 0, slots := 0, locals := 68 }
abbrev rm_X4_swapRosters : Room := { frames := 0, cells := 0, slots := 0, locals := 0 }
abbrev rm_X4_swap : Room := { frames := 5, cells := 0, slots := 0, locals := 117 }
abbrev rm_X4_heir : Room := { frames := 4, cells := 0, slots := 0, locals := 95 }
abbrev rm_X4_even : Room := { frames := 4, cells := 0, slots := 0, locals := 95 }
abbrev rm_X4_last : Room := { frames := 4, cells := 0, slots := 0, locals := 95 }
abbrev rm_X4_countIn : Room := { frames := 1, cells := 0, slots := 0, locals := 20 }
abbrev rm_X4_joint : Room := { frames := 4, cells := 0, slots := 0, locals := 95 }
abbrev rm_X4_rank : Room := { frames := 2, cells := 0, slots := 0, locals := 45 }
abbrev rm_X4_gap : Room := { frames := 4, cells := 0, slots := 0, locals := 95 }
abbrev rm_X4_wasted : Room := { frames := 2, cells := 0, slots := 0, locals := 49 }
abbrev rm_X4_ahead : Room := { frames := 4, cells := 0, slots := 0, locals := 95 }
abbrev rm_X4_bestLaw : Room := { frames := 4, cells := 0, slots := 0, locals := 95 }
abbrev rm_X4_newcomer : Room := { frames := 4, cells := 0, slots := 0, locals := 95 }
abbrev rm_X4_broughtToAll : Room := { frames := 0, cells := 0, slots := 0, locals := 0 }
abbrev rm_X4_mostSeen : Room := { frames := 4, cells := 0, slots := 0, locals := 95 }
abbrev rm_X4_duels : Room := { frames := 3, cells := 0, slots := 0, locals := 73 }
abbrev rm_X4_row : Room := { frames := 1, cells := 0, slots := 0, locals := 21 }
abbrev rm_X4_judge : Room := { frames := 4, cells := 0, slots := 0, locals := 95 }
abbrev rm_X4_clear : Room := { frames := 0, cells := 0, slots := 0, locals := 0 }
abbrev rm_X4_drawBelow : Room := { frames := 0, cells := 0, slots := 0, locals := 0 }
abbrev rm_X4_lots : Room := { frames := 5, cells := 0, slots := 0, locals := 117 }
abbrev rm_X4_count : Room := { frames := 5, cells := 0, slots := 0, locals := 117 }
