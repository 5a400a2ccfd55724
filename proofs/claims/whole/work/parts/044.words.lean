set_option maxRecDepth 100000 in
theorem kc_J6_265 : Cond.constant RJ6 265 (1431655765) ∈ a_tbl := a_tbl_of (List.mem_of_getElem? (i := 633) rfl) rfl
set_option maxRecDepth 100000 in
theorem kc_J6_266 : Cond.constant RJ6 266 (858993459) ∈ a_tbl := a_tbl_of (List.mem_of_getElem? (i := 634) rfl) rfl
set_option maxRecDepth 100000 in
theorem kc_J6_267 : Cond.constant RJ6 267 (252645135) ∈ a_tbl := a_tbl_of (List.mem_of_getElem? (i := 635) rfl) rfl
set_option maxRecDepth 100000 in
theorem kc_X7_118 : Cond.constant RX7 118 (-100004) ∈ a_tbl := a_tbl_of (List.mem_of_getElem? (i := 459) rfl) rfl
set_option maxRecDepth 100000 in
theorem kc_X7_160 : Cond.constant RX7 160 (-100003) ∈ a_tbl := a_tbl_of (List.mem_of_getElem? (i := 496) rfl) rfl
set_option maxRecDepth 100000 in
theorem kc_X7_184 : Cond.constant RX7 184 (-100006) ∈ a_tbl := a_tbl_of (List.mem_of_getElem? (i := 553) rfl) rfl
set_option maxRecDepth 100000 in
theorem kc_X7_199 : Cond.constant RX7 199 (-100002) ∈ a_tbl := a_tbl_of (List.mem_of_getElem? (i := 569) rfl) rfl
set_option maxRecDepth 100000 in
theorem kc_X7_343 : Cond.constant RX7 343 (65535) ∈ a_tbl := a_tbl_of (List.mem_of_getElem? (i := 601) rfl) rfl
set_option maxRecDepth 100000 in
theorem kc_X7_68 : Cond.constant RX7 68 (-100001) ∈ a_tbl := a_tbl_of (List.mem_of_getElem? (i := 357) rfl) rfl
set_option maxRecDepth 100000 in
theorem kc_X7_77 : Cond.constant RX7 77 (-100005) ∈ a_tbl := a_tbl_of (List.mem_of_getElem? (i := 362) rfl) rfl
set_option maxRecDepth 100000 in
theorem kc_X8_123 : Cond.constant RX8 123 (-100004) ∈ a_tbl := a_tbl_of (List.mem_of_getElem? (i := 921) rfl) rfl
set_option maxRecDepth 100000 in
theorem kc_X8_147 : Cond.constant RX8 147 (-100003) ∈ a_tbl := a_tbl_of (List.mem_of_getElem? (i := 952) rfl) rfl
set_option maxRecDepth 100000 in
theorem kc_X8_180 : Cond.constant RX8 180 (-100002) ∈ a_tbl := a_tbl_of (List.mem_of_getElem? (i := 1027) rfl) rfl
set_option maxRecDepth 100000 in
theorem kc_X8_52 : Cond.constant RX8 52 (-100006) ∈ a_tbl := a_tbl_of (List.mem_of_getElem? (i := 852) rfl) rfl
set_option maxRecDepth 100000 in
theorem kc_X8_57 : Cond.constant RX8 57 (-100001) ∈ a_tbl := a_tbl_of (List.mem_of_getElem? (i := 864) rfl) rfl
set_option maxRecDepth 100000 in
theorem kc_X8_61 : Cond.constant RX8 61 (-100005) ∈ a_tbl := a_tbl_of (List.mem_of_getElem? (i := 865) rfl) rfl
set_option maxRecDepth 100000 in
theorem kcd_Math_max : Cond.code Lib.Math.max.name Lib.Math.max.code 2 (some .int) ∈ a_tbl := a_tbl_of (List.mem_of_getElem? (i := 440) rfl) rfl
set_option maxRecDepth 100000 in
theorem kcd_Math_min : Cond.code Lib.Math.min.name Lib.Math.min.code 2 (some .int) ∈ a_tbl := a_tbl_of (List.mem_of_getElem? (i := 428) rfl) rfl
set_option maxRecDepth 100000 in
theorem kd_J13_bitCount_95d88 : Cond.code yJ13_bitCount_95d88 cJ13_bitCount_95d88 2 (some .int) ∈ a_tbl := a_tbl_of (List.mem_of_getElem? (i := 466) rfl) rfl
set_option maxRecDepth 100000 in
theorem kd_J6_bitCount_0f7a4 : Cond.code yJ6_bitCount_0f7a4 cJ6_bitCount_0f7a4 1 (some .int) ∈ a_tbl := a_tbl_of (List.mem_of_getElem? (i := 632) rfl) rfl
set_option maxRecDepth 100000 in
theorem kd_X0_endCosts : Cond.code yX0_endCosts cX0_endCosts 5 none ∈ a_tbl := a_tbl_of (List.mem_of_getElem? (i := 710) rfl) rfl
set_option maxRecDepth 100000 in
theorem kd_X0_find : Cond.code yX0_find cX0_find 7 none ∈ a_tbl := a_tbl_of (List.mem_of_getElem? (i := 686) rfl) rfl
set_option maxRecDepth 100000 in
theorem kd_X0_follow : Cond.code yX0_follow cX0_follow 5 none ∈ a_tbl := a_tbl_of (List.mem_of_getElem? (i := 722) rfl) rfl
set_option maxRecDepth 100000 in
theorem kd_X0_landsFrom : Cond.code yX0_landsFrom cX0_landsFrom 4 (some .boolean) ∈ a_tbl := a_tbl_of (List.mem_of_getElem? (i := 698) rfl) rfl
set_option maxRecDepth 100000 in
theorem kd_X0_lookAt : Cond.code yX0_lookAt cX0_lookAt 6 none ∈ a_tbl := a_tbl_of (List.mem_of_getElem? (i := 714) rfl) rfl
set_option maxRecDepth 100000 in
theorem kd_X0_makeRoom : Cond.code yX0_makeRoom cX0_makeRoom 1 none ∈ a_tbl := a_tbl_of (List.mem_of_getElem? (i := 706) rfl) rfl
set_option maxRecDepth 100000 in
theorem kd_X0_pickRocks : Cond.code yX0_pickRocks cX0_pickRocks 7 (some .int) ∈ a_tbl := a_tbl_of (List.mem_of_getElem? (i := 690) rfl) rfl
set_option maxRecDepth 100000 in
theorem kd_X0_workBack : Cond.code yX0_workBack cX0_workBack 7 none ∈ a_tbl := a_tbl_of (List.mem_of_getElem? (i := 718) rfl) rfl
set_option maxRecDepth 100000 in
theorem kd_X1_become : Cond.code yX1_become cX1_become 4 none ∈ a_tbl := a_tbl_of (List.mem_of_getElem? (i := 432) rfl) rfl
set_option maxRecDepth 100000 in
theorem kd_X1_colourTowards : Cond.code yX1_colourTowards cX1_colourTowards 3 (some .int) ∈ a_tbl := a_tbl_of (List.mem_of_getElem? (i := 514) rfl) rfl
set_option maxRecDepth 100000 in
theorem kd_X1_hasRow : Cond.code yX1_hasRow cX1_hasRow 7 (some .boolean) ∈ a_tbl := a_tbl_of (List.mem_of_getElem? (i := 577) rfl) rfl
set_option maxRecDepth 100000 in
theorem kd_X1_isLitAt : Cond.code yX1_isLitAt cX1_isLitAt 2 (some .boolean) ∈ a_tbl := a_tbl_of (List.mem_of_getElem? (i := 477) rfl) rfl
set_option maxRecDepth 100000 in
theorem kd_X1_isRock : Cond.code yX1_isRock cX1_isRock 1 (some .boolean) ∈ a_tbl := a_tbl_of (List.mem_of_getElem? (i := 666) rfl) rfl
set_option maxRecDepth 100000 in
theorem kd_X1_landsIn : Cond.code yX1_landsIn cX1_landsIn 2 (some .boolean) ∈ a_tbl := a_tbl_of (List.mem_of_getElem? (i := 702) rfl) rfl
set_option maxRecDepth 100000 in
theorem kd_X1_overdueOn : Cond.code yX1_overdueOn cX1_overdueOn 2 (some .int) ∈ a_tbl := a_tbl_of (List.mem_of_getElem? (i := 695) rfl) rfl
set_option maxRecDepth 100000 in
theorem kd_X1_take : Cond.code yX1_take cX1_take 6 none ∈ a_tbl := a_tbl_of (List.mem_of_getElem? (i := 436) rfl) rfl
set_option maxRecDepth 100000 in
theorem kd_X2_next : Cond.code yX2_next cX2_next 2 (some (.object "CoastLights$Step")) ∈ a_tbl := a_tbl_of (List.mem_of_getElem? (i := 425) rfl) rfl
set_option maxRecDepth 100000 in
theorem kd_X2_takeLatest : Cond.code yX2_takeLatest cX2_takeLatest 1 (some (.object "CoastLights$Step")) ∈ a_tbl := a_tbl_of (List.mem_of_getElem? (i := 768) rfl) rfl
set_option maxRecDepth 100000 in
theorem kd_X3_asSeconds : Cond.code yX3_asSeconds cX3_asSeconds 4 (some .long) ∈ a_tbl := a_tbl_of (List.mem_of_getElem? (i := 573) rfl) rfl
set_option maxRecDepth 100000 in
theorem kd_X3_hasNumbers : Cond.code yX3_hasNumbers cX3_hasNumbers 3 (some .boolean) ∈ a_tbl := a_tbl_of (List.mem_of_getElem? (i := 760) rfl) rfl
set_option maxRecDepth 100000 in
theorem kd_X3_lowest : Cond.code yX3_lowest cX3_lowest 2 (some .int) ∈ a_tbl := a_tbl_of (List.mem_of_getElem? (i := 752) rfl) rfl
set_option maxRecDepth 100000 in
theorem kd_X3_renew : Cond.code yX3_renew cX3_renew 4 none ∈ a_tbl := a_tbl_of (List.mem_of_getElem? (i := 744) rfl) rfl
set_option maxRecDepth 100000 in
theorem kd_X5_append : Cond.code yX5_append cX5_append 5 none ∈ a_tbl := a_tbl_of (List.mem_of_getElem? (i := 366) rfl) rfl
set_option maxRecDepth 100000 in
theorem kd_X5_findFault : Cond.code yX5_findFault cX5_findFault 1 (some .int) ∈ a_tbl := a_tbl_of (List.mem_of_getElem? (i := 381) rfl) rfl
set_option maxRecDepth 100000 in
theorem kd_X5_goesIn : Cond.code yX5_goesIn cX5_goesIn 1 (some .boolean) ∈ a_tbl := a_tbl_of (List.mem_of_getElem? (i := 413) rfl) rfl
set_option maxRecDepth 100000 in
theorem kd_X5_isDigit : Cond.code yX5_isDigit cX5_isDigit 1 (some .boolean) ∈ a_tbl := a_tbl_of (List.mem_of_getElem? (i := 401) rfl) rfl
set_option maxRecDepth 100000 in
theorem kd_X5_litSeconds : Cond.code yX5_litSeconds cX5_litSeconds 6 (some .long) ∈ a_tbl := a_tbl_of (List.mem_of_getElem? (i := 444) rfl) rfl
set_option maxRecDepth 100000 in
theorem kd_X5_readColour : Cond.code yX5_readColour cX5_readColour 1 (some .boolean) ∈ a_tbl := a_tbl_of (List.mem_of_getElem? (i := 405) rfl) rfl
set_option maxRecDepth 100000 in
theorem kd_X5_readNumber : Cond.code yX5_readNumber cX5_readNumber 2 (some .boolean) ∈ a_tbl := a_tbl_of (List.mem_of_getElem? (i := 397) rfl) rfl
set_option maxRecDepth 100000 in
theorem kd_X5_readPeriod : Cond.code yX5_readPeriod cX5_readPeriod 1 (some .boolean) ∈ a_tbl := a_tbl_of (List.mem_of_getElem? (i := 409) rfl) rfl
set_option maxRecDepth 100000 in
theorem kd_X5_readRhythm : Cond.code yX5_readRhythm cX5_readRhythm 1 (some .boolean) ∈ a_tbl := a_tbl_of (List.mem_of_getElem? (i := 385) rfl) rfl
set_option maxRecDepth 100000 in
theorem kd_X5_readTimes : Cond.code yX5_readTimes cX5_readTimes 1 (some .boolean) ∈ a_tbl := a_tbl_of (List.mem_of_getElem? (i := 393) rfl) rfl
set_option maxRecDepth 100000 in
theorem kd_X5_takes : Cond.code yX5_takes cX5_takes 2 (some .boolean) ∈ a_tbl := a_tbl_of (List.mem_of_getElem? (i := 389) rfl) rfl
set_option maxRecDepth 100000 in
theorem kd_X6_append : Cond.code yX6_append cX6_append 6 none ∈ a_tbl := a_tbl_of (List.mem_of_getElem? (i := 654) rfl) rfl
set_option maxRecDepth 100000 in
theorem kd_X6_latestHour : Cond.code yX6_latestHour cX6_latestHour 1 (some .int) ∈ a_tbl := a_tbl_of (List.mem_of_getElem? (i := 650) rfl) rfl
set_option maxRecDepth 100000 in
theorem kd_X6_tellOut : Cond.code yX6_tellOut cX6_tellOut 5 (some .boolean) ∈ a_tbl := a_tbl_of (List.mem_of_getElem? (i := 534) rfl) rfl
set_option maxRecDepth 100000 in
theorem kd_X7_allLights : Cond.code yX7_allLights cX7_allLights 1 (some .int) ∈ a_tbl := a_tbl_of (List.mem_of_getElem? (i := 561) rfl) rfl
set_option maxRecDepth 100000 in
theorem kd_X7_colourIn : Cond.code yX7_colourIn cX7_colourIn 2 (some .int) ∈ a_tbl := a_tbl_of (List.mem_of_getElem? (i := 510) rfl) rfl
set_option maxRecDepth 100000 in
theorem kd_X7_countRocks : Cond.code yX7_countRocks cX7_countRocks 3 (some .int) ∈ a_tbl := a_tbl_of (List.mem_of_getElem? (i := 783) rfl) rfl
set_option maxRecDepth 100000 in
theorem kd_X7_directionOf : Cond.code yX7_directionOf cX7_directionOf 7 (some .int) ∈ a_tbl := a_tbl_of (List.mem_of_getElem? (i := 499) rfl) rfl
set_option maxRecDepth 100000 in
theorem kd_X7_findFix : Cond.code yX7_findFix cX7_findFix 2 none ∈ a_tbl := a_tbl_of (List.mem_of_getElem? (i := 596) rfl) rfl
set_option maxRecDepth 100000 in
theorem kd_X7_findLandings : Cond.code yX7_findLandings cX7_findLandings 1 none ∈ a_tbl := a_tbl_of (List.mem_of_getElem? (i := 682) rfl) rfl
set_option maxRecDepth 100000 in
theorem kd_X7_firstWrong : Cond.code yX7_firstWrong cX7_firstWrong 7 (some .int) ∈ a_tbl := a_tbl_of (List.mem_of_getElem? (i := 734) rfl) rfl
set_option maxRecDepth 100000 in
theorem kd_X7_forgetFound : Cond.code yX7_forgetFound cX7_forgetFound 1 none ∈ a_tbl := a_tbl_of (List.mem_of_getElem? (i := 421) rfl) rfl
set_option maxRecDepth 100000 in
theorem kd_X7_holdsFor : Cond.code yX7_holdsFor cX7_holdsFor 12 (some .boolean) ∈ a_tbl := a_tbl_of (List.mem_of_getElem? (i := 605) rfl) rfl
set_option maxRecDepth 100000 in
theorem kd_X7_holdsForAll : Cond.code yX7_holdsForAll cX7_holdsForAll 3 (some .boolean) ∈ a_tbl := a_tbl_of (List.mem_of_getElem? (i := 600) rfl) rfl
set_option maxRecDepth 100000 in
theorem kd_X7_isCell : Cond.code yX7_isCell cX7_isCell 1 (some .boolean) ∈ a_tbl := a_tbl_of (List.mem_of_getElem? (i := 377) rfl) rfl
set_option maxRecDepth 100000 in
theorem kd_X7_isDay : Cond.code yX7_isDay cX7_isDay 1 (some .boolean) ∈ a_tbl := a_tbl_of (List.mem_of_getElem? (i := 545) rfl) rfl
set_option maxRecDepth 100000 in
theorem kd_X7_isDirection : Cond.code yX7_isDirection cX7_isDirection 1 (some .boolean) ∈ a_tbl := a_tbl_of (List.mem_of_getElem? (i := 484) rfl) rfl
set_option maxRecDepth 100000 in
theorem kd_X7_isHour : Cond.code yX7_isHour cX7_isHour 1 (some .boolean) ∈ a_tbl := a_tbl_of (List.mem_of_getElem? (i := 646) rfl) rfl
set_option maxRecDepth 100000 in
theorem kd_X7_isKind : Cond.code yX7_isKind cX7_isKind 1 (some .boolean) ∈ a_tbl := a_tbl_of (List.mem_of_getElem? (i := 374) rfl) rfl
set_option maxRecDepth 100000 in
theorem kd_X7_isLight : Cond.code yX7_isLight cX7_isLight 2 (some .boolean) ∈ a_tbl := a_tbl_of (List.mem_of_getElem? (i := 453) rfl) rfl
set_option maxRecDepth 100000 in
theorem kd_X7_isSheet : Cond.code yX7_isSheet cX7_isSheet 1 (some .boolean) ∈ a_tbl := a_tbl_of (List.mem_of_getElem? (i := 568) rfl) rfl
set_option maxRecDepth 100000 in
theorem kd_X7_isUnder : Cond.code yX7_isUnder cX7_isUnder 4 (some .boolean) ∈ a_tbl := a_tbl_of (List.mem_of_getElem? (i := 456) rfl) rfl
set_option maxRecDepth 100000 in
theorem kd_X7_isWithin : Cond.code yX7_isWithin cX7_isWithin 5 (some .boolean) ∈ a_tbl := a_tbl_of (List.mem_of_getElem? (i := 530) rfl) rfl
set_option maxRecDepth 100000 in
theorem kd_X7_liesIn : Cond.code yX7_liesIn cX7_liesIn 3 (some .boolean) ∈ a_tbl := a_tbl_of (List.mem_of_getElem? (i := 609) rfl) rfl
set_option maxRecDepth 100000 in
theorem kd_X7_lightsFairway : Cond.code yX7_lightsFairway cX7_lightsFairway 3 (some .boolean) ∈ a_tbl := a_tbl_of (List.mem_of_getElem? (i := 639) rfl) rfl
set_option maxRecDepth 100000 in
theorem kd_X7_mostAlike : Cond.code yX7_mostAlike cX7_mostAlike 7 (some .int) ∈ a_tbl := a_tbl_of (List.mem_of_getElem? (i := 552) rfl) rfl
set_option maxRecDepth 100000 in
theorem kd_X7_oneLess : Cond.code yX7_oneLess cX7_oneLess 1 (some .int) ∈ a_tbl := a_tbl_of (List.mem_of_getElem? (i := 775) rfl) rfl
set_option maxRecDepth 100000 in
theorem kd_X7_placeInFairway : Cond.code yX7_placeInFairway cX7_placeInFairway 3 (some .int) ∈ a_tbl := a_tbl_of (List.mem_of_getElem? (i := 621) rfl) rfl
set_option maxRecDepth 100000 in
theorem kd_X7_reachOf : Cond.code yX7_reachOf cX7_reachOf 2 (some .int) ∈ a_tbl := a_tbl_of (List.mem_of_getElem? (i := 526) rfl) rfl
set_option maxRecDepth 100000 in
theorem kd_X7_refuse : Cond.code yX7_refuse cX7_refuse 2 (some .int) ∈ a_tbl := a_tbl_of (List.mem_of_getElem? (i := 361) rfl) rfl
set_option maxRecDepth 100000 in
theorem kd_X7_remember : Cond.code yX7_remember cX7_remember 5 (some (.object "CoastLights$Step")) ∈ a_tbl := a_tbl_of (List.mem_of_getElem? (i := 417) rfl) rfl
set_option maxRecDepth 100000 in
theorem kd_X7_seenFrom : Cond.code yX7_seenFrom cX7_seenFrom 5 (some .int) ∈ a_tbl := a_tbl_of (List.mem_of_getElem? (i := 522) rfl) rfl
set_option maxRecDepth 100000 in
theorem kd_X7_setFairway : Cond.code yX7_setFairway cX7_setFairway 4 none ∈ a_tbl := a_tbl_of (List.mem_of_getElem? (i := 625) rfl) rfl
set_option maxRecDepth 100000 in
theorem kd_X7_takeBack : Cond.code yX7_takeBack cX7_takeBack 2 none ∈ a_tbl := a_tbl_of (List.mem_of_getElem? (i := 772) rfl) rfl
set_option maxRecDepth 100000 in
theorem kd_X7_turnedOver : Cond.code yX7_turnedOver cX7_turnedOver 5 (some .int) ∈ a_tbl := a_tbl_of (List.mem_of_getElem? (i := 487) rfl) rfl
set_option maxRecDepth 100000 in
theorem kd_X8_alike : Cond.code yX8_alike cX8_alike 7 (some .int) ∈ a_tbl := a_tbl_of (List.mem_of_getElem? (i := 1015) rfl) rfl
set_option maxRecDepth 100000 in
theorem kd_X8_becomes : Cond.code yX8_becomes cX8_becomes 4 (some .int) ∈ a_tbl := a_tbl_of (List.mem_of_getElem? (i := 1003) rfl) rfl
set_option maxRecDepth 100000 in
theorem kd_X8_behind : Cond.code yX8_behind cX8_behind 3 (some .int) ∈ a_tbl := a_tbl_of (List.mem_of_getElem? (i := 961) rfl) rfl
set_option maxRecDepth 100000 in
theorem kd_X8_byLanding : Cond.code yX8_byLanding cX8_byLanding 4 (some .int) ∈ a_tbl := a_tbl_of (List.mem_of_getElem? (i := 1116) rfl) rfl
set_option maxRecDepth 100000 in
theorem kd_X8_colourOf : Cond.code yX8_colourOf cX8_colourOf 9 (some .int) ∈ a_tbl := a_tbl_of (List.mem_of_getElem? (i := 975) rfl) rfl
set_option maxRecDepth 100000 in
theorem kd_X8_eastOf : Cond.code yX8_eastOf cX8_eastOf 3 (some .int) ∈ a_tbl := a_tbl_of (List.mem_of_getElem? (i := 967) rfl) rfl
set_option maxRecDepth 100000 in
theorem kd_X8_faultOf : Cond.code yX8_faultOf cX8_faultOf 1 (some .int) ∈ a_tbl := a_tbl_of (List.mem_of_getElem? (i := 877) rfl) rfl
set_option maxRecDepth 100000 in
theorem kd_X8_findLandings : Cond.code yX8_findLandings cX8_findLandings 6 none ∈ a_tbl := a_tbl_of (List.mem_of_getElem? (i := 1100) rfl) rfl
set_option maxRecDepth 100000 in
theorem kd_X8_finding : Cond.code yX8_finding cX8_finding 2 (some .int) ∈ a_tbl := a_tbl_of (List.mem_of_getElem? (i := 856) rfl) rfl
set_option maxRecDepth 100000 in
theorem kd_X8_firstOn : Cond.code yX8_firstOn cX8_firstOn 5 (some .int) ∈ a_tbl := a_tbl_of (List.mem_of_getElem? (i := 1124) rfl) rfl
set_option maxRecDepth 100000 in
theorem kd_X8_fitsFrom : Cond.code yX8_fitsFrom cX8_fitsFrom 5 (some .boolean) ∈ a_tbl := a_tbl_of (List.mem_of_getElem? (i := 1031) rfl) rfl
set_option maxRecDepth 100000 in
theorem kd_X8_goesIn : Cond.code yX8_goesIn cX8_goesIn 1 (some .boolean) ∈ a_tbl := a_tbl_of (List.mem_of_getElem? (i := 901) rfl) rfl
set_option maxRecDepth 100000 in
theorem kd_X8_hasLight : Cond.code yX8_hasLight cX8_hasLight 3 (some .boolean) ∈ a_tbl := a_tbl_of (List.mem_of_getElem? (i := 936) rfl) rfl
set_option maxRecDepth 100000 in
theorem kd_X8_holds : Cond.code yX8_holds cX8_holds 10 (some .boolean) ∈ a_tbl := a_tbl_of (List.mem_of_getElem? (i := 1051) rfl) rfl
set_option maxRecDepth 100000 in
theorem kd_X8_isCell : Cond.code yX8_isCell cX8_isCell 1 (some .boolean) ∈ a_tbl := a_tbl_of (List.mem_of_getElem? (i := 873) rfl) rfl
set_option maxRecDepth 100000 in
theorem kd_X8_isDigit : Cond.code yX8_isDigit cX8_isDigit 1 (some .boolean) ∈ a_tbl := a_tbl_of (List.mem_of_getElem? (i := 897) rfl) rfl
set_option maxRecDepth 100000 in
theorem kd_X8_isFrom : Cond.code yX8_isFrom cX8_isFrom 3 (some .boolean) ∈ a_tbl := a_tbl_of (List.mem_of_getElem? (i := 978) rfl) rfl
set_option maxRecDepth 100000 in
theorem kd_X8_isHere : Cond.code yX8_isHere cX8_isHere 2 (some .boolean) ∈ a_tbl := a_tbl_of (List.mem_of_getElem? (i := 885) rfl) rfl
set_option maxRecDepth 100000 in
theorem kd_X8_isInFix : Cond.code yX8_isInFix cX8_isInFix 4 (some .boolean) ∈ a_tbl := a_tbl_of (List.mem_of_getElem? (i := 1047) rfl) rfl
set_option maxRecDepth 100000 in
theorem kd_X8_isLandable : Cond.code yX8_isLandable cX8_isLandable 3 (some .boolean) ∈ a_tbl := a_tbl_of (List.mem_of_getElem? (i := 1112) rfl) rfl
set_option maxRecDepth 100000 in
theorem kd_X8_isLight : Cond.code yX8_isLight cX8_isLight 2 (some .boolean) ∈ a_tbl := a_tbl_of (List.mem_of_getElem? (i := 920) rfl) rfl
set_option maxRecDepth 100000 in
theorem kd_X8_isLit : Cond.code yX8_isLit cX8_isLit 2 (some .boolean) ∈ a_tbl := a_tbl_of (List.mem_of_getElem? (i := 912) rfl) rfl
set_option maxRecDepth 100000 in
theorem kd_X8_isNear : Cond.code yX8_isNear cX8_isNear 7 (some .boolean) ∈ a_tbl := a_tbl_of (List.mem_of_getElem? (i := 990) rfl) rfl
set_option maxRecDepth 100000 in
theorem kd_X8_isOut : Cond.code yX8_isOut cX8_isOut 8 (some .boolean) ∈ a_tbl := a_tbl_of (List.mem_of_getElem? (i := 995) rfl) rfl
set_option maxRecDepth 100000 in
theorem kd_X8_isRock : Cond.code yX8_isRock cX8_isRock 3 (some .boolean) ∈ a_tbl := a_tbl_of (List.mem_of_getElem? (i := 1084) rfl) rfl
set_option maxRecDepth 100000 in
theorem kd_X8_isSheet : Cond.code yX8_isSheet cX8_isSheet 1 (some .boolean) ∈ a_tbl := a_tbl_of (List.mem_of_getElem? (i := 1026) rfl) rfl
set_option maxRecDepth 100000 in
theorem kd_X8_isWay : Cond.code yX8_isWay cX8_isWay 1 (some .boolean) ∈ a_tbl := a_tbl_of (List.mem_of_getElem? (i := 943) rfl) rfl
set_option maxRecDepth 100000 in
theorem kd_X8_keep : Cond.code yX8_keep cX8_keep 2 none ∈ a_tbl := a_tbl_of (List.mem_of_getElem? (i := 905) rfl) rfl
set_option maxRecDepth 100000 in
theorem kd_X8_need : Cond.code yX8_need cX8_need 2 none ∈ a_tbl := a_tbl_of (List.mem_of_getElem? (i := 889) rfl) rfl
set_option maxRecDepth 100000 in
theorem kd_X8_northOf : Cond.code yX8_northOf cX8_northOf 3 (some .int) ∈ a_tbl := a_tbl_of (List.mem_of_getElem? (i := 964) rfl) rfl
set_option maxRecDepth 100000 in
theorem kd_X8_number : Cond.code yX8_number cX8_number 3 (some .int) ∈ a_tbl := a_tbl_of (List.mem_of_getElem? (i := 893) rfl) rfl
set_option maxRecDepth 100000 in
theorem kd_X8_of : Cond.code yX8_of cX8_of 2 (some .int) ∈ a_tbl := a_tbl_of (List.mem_of_getElem? (i := 908) rfl) rfl
set_option maxRecDepth 100000 in
theorem kd_X8_ofRock : Cond.code yX8_ofRock cX8_ofRock 5 (some .int) ∈ a_tbl := a_tbl_of (List.mem_of_getElem? (i := 1080) rfl) rfl
set_option maxRecDepth 100000 in
theorem kd_X8_ones : Cond.code yX8_ones cX8_ones 3 (some .int) ∈ a_tbl := a_tbl_of (List.mem_of_getElem? (i := 928) rfl) rfl
set_option maxRecDepth 100000 in
theorem kd_X8_overdueOf : Cond.code yX8_overdueOf cX8_overdueOf 3 (some .int) ∈ a_tbl := a_tbl_of (List.mem_of_getElem? (i := 1108) rfl) rfl
set_option maxRecDepth 100000 in
theorem kd_X8_readSort : Cond.code yX8_readSort cX8_readSort 1 none ∈ a_tbl := a_tbl_of (List.mem_of_getElem? (i := 881) rfl) rfl
set_option maxRecDepth 100000 in
theorem kd_X8_restOf : Cond.code yX8_restOf cX8_restOf 4 (some .int) ∈ a_tbl := a_tbl_of (List.mem_of_getElem? (i := 1104) rfl) rfl
set_option maxRecDepth 100000 in
theorem kd_X8_seenFrom : Cond.code yX8_seenFrom cX8_seenFrom 5 (some .int) ∈ a_tbl := a_tbl_of (List.mem_of_getElem? (i := 986) rfl) rfl
set_option maxRecDepth 100000 in
theorem kd_X8_wayBetween : Cond.code yX8_wayBetween cX8_wayBetween 2 (some .int) ∈ a_tbl := a_tbl_of (List.mem_of_getElem? (i := 955) rfl) rfl
set_option maxRecDepth 100000 in
theorem kd_X8_wayOf : Cond.code yX8_wayOf cX8_wayOf 3 (some .int) ∈ a_tbl := a_tbl_of (List.mem_of_getElem? (i := 958) rfl) rfl
set_option maxRecDepth 100000 in
theorem kd_X8_within : Cond.code yX8_within cX8_within 3 (some .boolean) ∈ a_tbl := a_tbl_of (List.mem_of_getElem? (i := 863) rfl) rfl
set_option maxRecDepth 100000 in
theorem kf_X0_15 : Cond.fieldLink RX0 15 "CoastLights$Landings" "rocks" "[I" ∈ a_tbl := a_tbl_of (List.mem_of_getElem? (i := 159) rfl) rfl
set_option maxRecDepth 100000 in
theorem kf_X0_18 : Cond.fieldLink RX0 18 "CoastLights$Landings" "today" "[I" ∈ a_tbl := a_tbl_of (List.mem_of_getElem? (i := 161) rfl) rfl
set_option maxRecDepth 100000 in
theorem kf_X0_21 : Cond.fieldLink RX0 21 "CoastLights$Landings" "costs" "[I" ∈ a_tbl := a_tbl_of (List.mem_of_getElem? (i := 163) rfl) rfl
set_option maxRecDepth 100000 in
theorem kf_X0_24 : Cond.fieldLink RX0 24 "CoastLights$Landings" "choices" "[I" ∈ a_tbl := a_tbl_of (List.mem_of_getElem? (i := 164) rfl) rfl
set_option maxRecDepth 100000 in
theorem kf_X0_49 : Cond.fieldLink RX0 49 "CoastLights$Landings" "least" "I" ∈ a_tbl := a_tbl_of (List.mem_of_getElem? (i := 155) rfl) rfl
set_option maxRecDepth 100000 in
theorem kf_X0_53 : Cond.fieldLink RX0 53 "CoastLights$Landings" "rockCount" "I" ∈ a_tbl := a_tbl_of (List.mem_of_getElem? (i := 160) rfl) rfl
set_option maxRecDepth 100000 in
theorem kf_X0_74 : Cond.fieldLink RX0 74 "CoastLights$Landings" "sets" "I" ∈ a_tbl := a_tbl_of (List.mem_of_getElem? (i := 162) rfl) rfl
set_option maxRecDepth 100000 in
theorem kf_X0_9 : Cond.fieldLink RX0 9 "CoastLights$Landings" "plan" "[I" ∈ a_tbl := a_tbl_of (List.mem_of_getElem? (i := 157) rfl) rfl
set_option maxRecDepth 100000 in
theorem kf_X1_11 : Cond.fieldLink RX1 11 "CoastLights$Light" "phases" "[J" ∈ a_tbl := a_tbl_of (List.mem_of_getElem? (i := 239) rfl) rfl
set_option maxRecDepth 100000 in
theorem kf_X1_15 : Cond.fieldLink RX1 15 "CoastLights$Light" "sectors" "[I" ∈ a_tbl := a_tbl_of (List.mem_of_getElem? (i := 241) rfl) rfl
set_option maxRecDepth 100000 in
theorem kf_X1_19 : Cond.fieldLink RX1 19 "CoastLights$Light" "kind" "I" ∈ a_tbl := a_tbl_of (List.mem_of_getElem? (i := 227) rfl) rfl
set_option maxRecDepth 100000 in
theorem kf_X1_23 : Cond.fieldLink RX1 23 "CoastLights$Light" "cell" "I" ∈ a_tbl := a_tbl_of (List.mem_of_getElem? (i := 229) rfl) rfl
set_option maxRecDepth 100000 in
theorem kf_X1_26 : Cond.fieldLink RX1 26 "CoastLights$Light" "range" "I" ∈ a_tbl := a_tbl_of (List.mem_of_getElem? (i := 231) rfl) rfl
set_option maxRecDepth 100000 in
theorem kf_X1_29 : Cond.fieldLink RX1 29 "CoastLights$Light" "sectorCount" "I" ∈ a_tbl := a_tbl_of (List.mem_of_getElem? (i := 243) rfl) rfl
set_option maxRecDepth 100000 in
theorem kf_X1_32 : Cond.fieldLink RX1 32 "CoastLights$Light" "doubt" "I" ∈ a_tbl := a_tbl_of (List.mem_of_getElem? (i := 245) rfl) rfl
set_option maxRecDepth 100000 in
theorem kf_X1_35 : Cond.fieldLink RX1 35 "CoastLights$Light" "since" "I" ∈ a_tbl := a_tbl_of (List.mem_of_getElem? (i := 247) rfl) rfl
set_option maxRecDepth 100000 in
theorem kf_X1_38 : Cond.fieldLink RX1 38 "CoastLights$Light" "limit" "I" ∈ a_tbl := a_tbl_of (List.mem_of_getElem? (i := 249) rfl) rfl
set_option maxRecDepth 100000 in
theorem kf_X1_41 : Cond.fieldLink RX1 41 "CoastLights$Text" "colour" "I" ∈ a_tbl := a_tbl_of (List.mem_of_getElem? (i := 95) rfl) rfl
set_option maxRecDepth 100000 in
theorem kf_X1_46 : Cond.fieldLink RX1 46 "CoastLights$Light" "colour" "I" ∈ a_tbl := a_tbl_of (List.mem_of_getElem? (i := 233) rfl) rfl
set_option maxRecDepth 100000 in
theorem kf_X1_47 : Cond.fieldLink RX1 47 "CoastLights$Text" "period" "I" ∈ a_tbl := a_tbl_of (List.mem_of_getElem? (i := 98) rfl) rfl
set_option maxRecDepth 100000 in
theorem kf_X1_59 : Cond.fieldLink RX1 59 "CoastLights$Light" "seconds" "I" ∈ a_tbl := a_tbl_of (List.mem_of_getElem? (i := 235) rfl) rfl
set_option maxRecDepth 100000 in
theorem kf_X1_66 : Cond.fieldLink RX1 66 "CoastLights$Light" "lit" "J" ∈ a_tbl := a_tbl_of (List.mem_of_getElem? (i := 237) rfl) rfl
set_option maxRecDepth 100000 in
theorem kf_X2_11 : Cond.fieldLink RX2 11 "CoastLights$Past" "steps" "[LCoastLights$Step;" ∈ a_tbl := a_tbl_of (List.mem_of_getElem? (i := 211) rfl) rfl
set_option maxRecDepth 100000 in
theorem kf_X2_16 : Cond.fieldLink RX2 16 "CoastLights$Past" "top" "I" ∈ a_tbl := a_tbl_of (List.mem_of_getElem? (i := 212) rfl) rfl
set_option maxRecDepth 100000 in
theorem kf_X2_20 : Cond.fieldLink RX2 20 "CoastLights$Past" "count" "I" ∈ a_tbl := a_tbl_of (List.mem_of_getElem? (i := 213) rfl) rfl
set_option maxRecDepth 100000 in
theorem kf_X3_13 : Cond.fieldLink RX3 13 "CoastLights$Sheet" "bits" "I" ∈ a_tbl := a_tbl_of (List.mem_of_getElem? (i := 282) rfl) rfl
set_option maxRecDepth 100000 in
theorem kf_X3_17 : Cond.fieldLink RX3 17 "CoastLights$Sheet" "count" "I" ∈ a_tbl := a_tbl_of (List.mem_of_getElem? (i := 284) rfl) rfl
set_option maxRecDepth 100000 in
theorem kf_X3_9 : Cond.fieldLink RX3 9 "CoastLights$Sheet" "numbers" "[I" ∈ a_tbl := a_tbl_of (List.mem_of_getElem? (i := 286) rfl) rfl
set_option maxRecDepth 100000 in
theorem kf_X5_13 : Cond.fieldLink RX5 13 "CoastLights$Text" "length" "I" ∈ a_tbl := a_tbl_of (List.mem_of_getElem? (i := 89) rfl) rfl
set_option maxRecDepth 100000 in
theorem kf_X5_19 : Cond.fieldLink RX5 19 "CoastLights$Text" "place" "I" ∈ a_tbl := a_tbl_of (List.mem_of_getElem? (i := 91) rfl) rfl
set_option maxRecDepth 100000 in
theorem kf_X5_22 : Cond.fieldLink RX5 22 "CoastLights$Text" "times" "I" ∈ a_tbl := a_tbl_of (List.mem_of_getElem? (i := 94) rfl) rfl
set_option maxRecDepth 100000 in
theorem kf_X5_25 : Cond.fieldLink RX5 25 "CoastLights$Text" "period" "I" ∈ a_tbl := a_tbl_of (List.mem_of_getElem? (i := 97) rfl) rfl
set_option maxRecDepth 100000 in
theorem kf_X5_35 : Cond.fieldLink RX5 35 "CoastLights$Text" "rhythm" "I" ∈ a_tbl := a_tbl_of (List.mem_of_getElem? (i := 93) rfl) rfl
set_option maxRecDepth 100000 in
theorem kf_X5_44 : Cond.fieldLink RX5 44 "CoastLights$Text" "periodPlace" "I" ∈ a_tbl := a_tbl_of (List.mem_of_getElem? (i := 99) rfl) rfl
set_option maxRecDepth 100000 in
theorem kf_X5_57 : Cond.fieldLink RX5 57 "CoastLights$Text" "number" "I" ∈ a_tbl := a_tbl_of (List.mem_of_getElem? (i := 92) rfl) rfl
set_option maxRecDepth 100000 in
theorem kf_X5_60 : Cond.fieldLink RX5 60 "CoastLights$Text" "colour" "I" ∈ a_tbl := a_tbl_of (List.mem_of_getElem? (i := 96) rfl) rfl
set_option maxRecDepth 100000 in
theorem kf_X5_9 : Cond.fieldLink RX5 9 "CoastLights$Text" "signs" "[I" ∈ a_tbl := a_tbl_of (List.mem_of_getElem? (i := 88) rfl) rfl
set_option maxRecDepth 100000 in
theorem kf_X6_13 : Cond.fieldLink RX6 13 "CoastLights$Words" "firstDay" "[I" ∈ a_tbl := a_tbl_of (List.mem_of_getElem? (i := 131) rfl) rfl
set_option maxRecDepth 100000 in
theorem kf_X6_16 : Cond.fieldLink RX6 16 "CoastLights$Words" "lastDay" "[I" ∈ a_tbl := a_tbl_of (List.mem_of_getElem? (i := 132) rfl) rfl
set_option maxRecDepth 100000 in
theorem kf_X6_19 : Cond.fieldLink RX6 19 "CoastLights$Words" "toldAt" "[I" ∈ a_tbl := a_tbl_of (List.mem_of_getElem? (i := 133) rfl) rfl
set_option maxRecDepth 100000 in
theorem kf_X6_22 : Cond.fieldLink RX6 22 "CoastLights$Words" "isOut" "[Z" ∈ a_tbl := a_tbl_of (List.mem_of_getElem? (i := 134) rfl) rfl
set_option maxRecDepth 100000 in
theorem kf_X6_26 : Cond.fieldLink RX6 26 "CoastLights$Words" "count" "I" ∈ a_tbl := a_tbl_of (List.mem_of_getElem? (i := 128) rfl) rfl
set_option maxRecDepth 100000 in
theorem kf_X6_9 : Cond.fieldLink RX6 9 "CoastLights$Words" "ofLight" "[I" ∈ a_tbl := a_tbl_of (List.mem_of_getElem? (i := 130) rfl) rfl
set_option maxRecDepth 100000 in
theorem kf_X7_10 : Cond.fieldLink RX7 10 "CoastLights" "tape" "LCoastLights$Text;" ∈ a_tbl := a_tbl_of (List.mem_of_getElem? (i := 295) rfl) rfl
set_option maxRecDepth 100000 in
theorem kf_X7_111 : Cond.fieldLink RX7 111 "CoastLights$Light" "kind" "I" ∈ a_tbl := a_tbl_of (List.mem_of_getElem? (i := 228) rfl) rfl
set_option maxRecDepth 100000 in
theorem kf_X7_119 : Cond.fieldLink RX7 119 "CoastLights$Light" "cell" "I" ∈ a_tbl := a_tbl_of (List.mem_of_getElem? (i := 230) rfl) rfl
set_option maxRecDepth 100000 in
theorem kf_X7_122 : Cond.fieldLink RX7 122 "CoastLights$Light" "range" "I" ∈ a_tbl := a_tbl_of (List.mem_of_getElem? (i := 232) rfl) rfl
set_option maxRecDepth 100000 in
theorem kf_X7_125 : Cond.fieldLink RX7 125 "CoastLights$Light" "colour" "I" ∈ a_tbl := a_tbl_of (List.mem_of_getElem? (i := 234) rfl) rfl
set_option maxRecDepth 100000 in
theorem kf_X7_128 : Cond.fieldLink RX7 128 "CoastLights$Light" "seconds" "I" ∈ a_tbl := a_tbl_of (List.mem_of_getElem? (i := 236) rfl) rfl
set_option maxRecDepth 100000 in
theorem kf_X7_131 : Cond.fieldLink RX7 131 "CoastLights$Light" "lit" "J" ∈ a_tbl := a_tbl_of (List.mem_of_getElem? (i := 238) rfl) rfl
set_option maxRecDepth 100000 in
theorem kf_X7_141 : Cond.fieldLink RX7 141 "CoastLights$Light" "sectorCount" "I" ∈ a_tbl := a_tbl_of (List.mem_of_getElem? (i := 244) rfl) rfl
set_option maxRecDepth 100000 in
theorem kf_X7_144 : Cond.fieldLink RX7 144 "CoastLights$Light" "doubt" "I" ∈ a_tbl := a_tbl_of (List.mem_of_getElem? (i := 246) rfl) rfl
set_option maxRecDepth 100000 in
theorem kf_X7_153 : Cond.fieldLink RX7 153 "CoastLights$Light" "sectors" "[I" ∈ a_tbl := a_tbl_of (List.mem_of_getElem? (i := 242) rfl) rfl
set_option maxRecDepth 100000 in
theorem kf_X7_171 : Cond.fieldLink RX7 171 "CoastLights" "hazeNow" "I" ∈ a_tbl := a_tbl_of (List.mem_of_getElem? (i := 298) rfl) rfl
set_option maxRecDepth 100000 in
theorem kf_X7_177 : Cond.fieldLink RX7 177 "CoastLights" "dayNow" "I" ∈ a_tbl := a_tbl_of (List.mem_of_getElem? (i := 299) rfl) rfl
set_option maxRecDepth 100000 in
theorem kf_X7_18 : Cond.fieldLink RX7 18 "CoastLights" "lights" "[LCoastLights$Light;" ∈ a_tbl := a_tbl_of (List.mem_of_getElem? (i := 296) rfl) rfl
set_option maxRecDepth 100000 in
theorem kf_X7_196 : Cond.fieldLink RX7 196 "CoastLights$Sheet" "bits" "I" ∈ a_tbl := a_tbl_of (List.mem_of_getElem? (i := 283) rfl) rfl
set_option maxRecDepth 100000 in
theorem kf_X7_204 : Cond.fieldLink RX7 204 "CoastLights$Sheet" "count" "I" ∈ a_tbl := a_tbl_of (List.mem_of_getElem? (i := 285) rfl) rfl
set_option maxRecDepth 100000 in
theorem kf_X7_211 : Cond.fieldLink RX7 211 "CoastLights" "bearingCount" "I" ∈ a_tbl := a_tbl_of (List.mem_of_getElem? (i := 301) rfl) rfl
set_option maxRecDepth 100000 in
theorem kf_X7_214 : Cond.fieldLink RX7 214 "CoastLights$Step" "row" "[I" ∈ a_tbl := a_tbl_of (List.mem_of_getElem? (i := 201) rfl) rfl
set_option maxRecDepth 100000 in
theorem kf_X7_22 : Cond.fieldLink RX7 22 "CoastLights" "bearings" "[I" ∈ a_tbl := a_tbl_of (List.mem_of_getElem? (i := 300) rfl) rfl
set_option maxRecDepth 100000 in
theorem kf_X7_231 : Cond.fieldLink RX7 231 "CoastLights" "fairwayCount" "I" ∈ a_tbl := a_tbl_of (List.mem_of_getElem? (i := 303) rfl) rfl
set_option maxRecDepth 100000 in
theorem kf_X7_251 : Cond.fieldLink RX7 251 "CoastLights$Words" "count" "I" ∈ a_tbl := a_tbl_of (List.mem_of_getElem? (i := 129) rfl) rfl
set_option maxRecDepth 100000 in
theorem kf_X7_26 : Cond.fieldLink RX7 26 "CoastLights" "fairwayCells" "[I" ∈ a_tbl := a_tbl_of (List.mem_of_getElem? (i := 302) rfl) rfl
set_option maxRecDepth 100000 in
theorem kf_X7_263 : Cond.fieldLink RX7 263 "CoastLights$Light" "since" "I" ∈ a_tbl := a_tbl_of (List.mem_of_getElem? (i := 248) rfl) rfl
set_option maxRecDepth 100000 in
theorem kf_X7_266 : Cond.fieldLink RX7 266 "CoastLights$Light" "limit" "I" ∈ a_tbl := a_tbl_of (List.mem_of_getElem? (i := 250) rfl) rfl
set_option maxRecDepth 100000 in
theorem kf_X7_269 : Cond.fieldLink RX7 269 "CoastLights$Sheet" "numbers" "[I" ∈ a_tbl := a_tbl_of (List.mem_of_getElem? (i := 287) rfl) rfl
set_option maxRecDepth 100000 in
theorem kf_X7_275 : Cond.fieldLink RX7 275 "CoastLights$Landings" "least" "I" ∈ a_tbl := a_tbl_of (List.mem_of_getElem? (i := 156) rfl) rfl
set_option maxRecDepth 100000 in
theorem kf_X7_278 : Cond.fieldLink RX7 278 "CoastLights$Landings" "plan" "[I" ∈ a_tbl := a_tbl_of (List.mem_of_getElem? (i := 158) rfl) rfl
set_option maxRecDepth 100000 in
theorem kf_X7_29 : Cond.fieldLink RX7 29 "CoastLights" "fairwaySights" "[I" ∈ a_tbl := a_tbl_of (List.mem_of_getElem? (i := 304) rfl) rfl
set_option maxRecDepth 100000 in
theorem kf_X7_306 : Cond.fieldLink RX7 306 "CoastLights$Past" "count" "I" ∈ a_tbl := a_tbl_of (List.mem_of_getElem? (i := 214) rfl) rfl
set_option maxRecDepth 100000 in
theorem kf_X7_310 : Cond.fieldLink RX7 310 "CoastLights" "findings" "I" ∈ a_tbl := a_tbl_of (List.mem_of_getElem? (i := 313) rfl) rfl
set_option maxRecDepth 100000 in
theorem kf_X7_313 : Cond.fieldLink RX7 313 "CoastLights" "KIND_OVER" "[I" ∈ a_tbl := a_tbl_of (List.mem_of_getElem? (i := 457) rfl) rfl
set_option maxRecDepth 100000 in
theorem kf_X7_316 : Cond.fieldLink RX7 316 "CoastLights" "STEP_X" "[I" ∈ a_tbl := a_tbl_of (List.mem_of_getElem? (i := 500) rfl) rfl
set_option maxRecDepth 100000 in
theorem kf_X7_319 : Cond.fieldLink RX7 319 "CoastLights" "STEP_Y" "[I" ∈ a_tbl := a_tbl_of (List.mem_of_getElem? (i := 502) rfl) rfl
set_option maxRecDepth 100000 in
theorem kf_X7_332 : Cond.fieldLink RX7 332 "CoastLights$Light" "phases" "[J" ∈ a_tbl := a_tbl_of (List.mem_of_getElem? (i := 240) rfl) rfl
set_option maxRecDepth 100000 in
theorem kf_X7_336 : Cond.fieldLink RX7 336 "CoastLights" "fixKnown" "Z" ∈ a_tbl := a_tbl_of (List.mem_of_getElem? (i := 310) rfl) rfl
set_option maxRecDepth 100000 in
theorem kf_X7_35 : Cond.fieldLink RX7 35 "CoastLights" "words" "LCoastLights$Words;" ∈ a_tbl := a_tbl_of (List.mem_of_getElem? (i := 305) rfl) rfl
set_option maxRecDepth 100000 in
theorem kf_X7_354 : Cond.fieldLink RX7 354 "CoastLights" "landingsKnown" "Z" ∈ a_tbl := a_tbl_of (List.mem_of_getElem? (i := 308) rfl) rfl
set_option maxRecDepth 100000 in
theorem kf_X7_370 : Cond.fieldLink RX7 370 "CoastLights$Step" "act" "I" ∈ a_tbl := a_tbl_of (List.mem_of_getElem? (i := 197) rfl) rfl
set_option maxRecDepth 100000 in
theorem kf_X7_373 : Cond.fieldLink RX7 373 "CoastLights$Step" "of" "I" ∈ a_tbl := a_tbl_of (List.mem_of_getElem? (i := 198) rfl) rfl
set_option maxRecDepth 100000 in
theorem kf_X7_376 : Cond.fieldLink RX7 376 "CoastLights$Step" "was" "I" ∈ a_tbl := a_tbl_of (List.mem_of_getElem? (i := 199) rfl) rfl
set_option maxRecDepth 100000 in
theorem kf_X7_39 : Cond.fieldLink RX7 39 "CoastLights" "heights" "[I" ∈ a_tbl := a_tbl_of (List.mem_of_getElem? (i := 306) rfl) rfl
set_option maxRecDepth 100000 in
theorem kf_X7_45 : Cond.fieldLink RX7 45 "CoastLights" "landings" "LCoastLights$Landings;" ∈ a_tbl := a_tbl_of (List.mem_of_getElem? (i := 307) rfl) rfl
set_option maxRecDepth 100000 in
theorem kf_X7_49 : Cond.fieldLink RX7 49 "CoastLights" "inFix" "[Z" ∈ a_tbl := a_tbl_of (List.mem_of_getElem? (i := 309) rfl) rfl
set_option maxRecDepth 100000 in
theorem kf_X7_55 : Cond.fieldLink RX7 55 "CoastLights" "sheets" "[LCoastLights$Sheet;" ∈ a_tbl := a_tbl_of (List.mem_of_getElem? (i := 311) rfl) rfl
set_option maxRecDepth 100000 in
theorem kf_X7_62 : Cond.fieldLink RX7 62 "CoastLights" "past" "LCoastLights$Past;" ∈ a_tbl := a_tbl_of (List.mem_of_getElem? (i := 312) rfl) rfl
set_option maxRecDepth 100000 in
theorem kf_X7_73 : Cond.fieldLink RX7 73 "CoastLights$Text" "length" "I" ∈ a_tbl := a_tbl_of (List.mem_of_getElem? (i := 90) rfl) rfl
set_option maxRecDepth 100000 in
theorem kf_X7_89 : Cond.fieldLink RX7 89 "CoastLights" "lightCount" "I" ∈ a_tbl := a_tbl_of (List.mem_of_getElem? (i := 297) rfl) rfl
set_option maxRecDepth 100000 in
theorem kf_X8_102 : Cond.fieldLink RX8 102 "CoastLightsModel" "periodAt" "I" ∈ a_tbl := a_tbl_of (List.mem_of_getElem? (i := 805) rfl) rfl
set_option maxRecDepth 100000 in
theorem kf_X8_13 : Cond.fieldLink RX8 13 "CoastLightsModel" "past" "[I" ∈ a_tbl := a_tbl_of (List.mem_of_getElem? (i := 791) rfl) rfl
set_option maxRecDepth 100000 in
theorem kf_X8_16 : Cond.fieldLink RX8 16 "CoastLightsModel" "tape" "[I" ∈ a_tbl := a_tbl_of (List.mem_of_getElem? (i := 794) rfl) rfl
set_option maxRecDepth 100000 in
theorem kf_X8_19 : Cond.fieldLink RX8 19 "CoastLightsModel" "widths" "[I" ∈ a_tbl := a_tbl_of (List.mem_of_getElem? (i := 796) rfl) rfl
set_option maxRecDepth 100000 in
theorem kf_X8_22 : Cond.fieldLink RX8 22 "CoastLightsModel" "sizes" "[I" ∈ a_tbl := a_tbl_of (List.mem_of_getElem? (i := 797) rfl) rfl
set_option maxRecDepth 100000 in
theorem kf_X8_25 : Cond.fieldLink RX8 25 "CoastLightsModel" "sheets" "[I" ∈ a_tbl := a_tbl_of (List.mem_of_getElem? (i := 798) rfl) rfl
set_option maxRecDepth 100000 in
theorem kf_X8_28 : Cond.fieldLink RX8 28 "CoastLightsModel" "sights" "[I" ∈ a_tbl := a_tbl_of (List.mem_of_getElem? (i := 806) rfl) rfl
set_option maxRecDepth 100000 in
theorem kf_X8_31 : Cond.fieldLink RX8 31 "CoastLightsModel" "least" "[I" ∈ a_tbl := a_tbl_of (List.mem_of_getElem? (i := 807) rfl) rfl
set_option maxRecDepth 100000 in
theorem kf_X8_34 : Cond.fieldLink RX8 34 "CoastLightsModel" "carried" "[I" ∈ a_tbl := a_tbl_of (List.mem_of_getElem? (i := 808) rfl) rfl
set_option maxRecDepth 100000 in
theorem kf_X8_37 : Cond.fieldLink RX8 37 "CoastLightsModel" "findings" "I" ∈ a_tbl := a_tbl_of (List.mem_of_getElem? (i := 793) rfl) rfl
set_option maxRecDepth 100000 in
theorem kf_X8_49 : Cond.fieldLink RX8 49 "CoastLightsModel" "kept" "I" ∈ a_tbl := a_tbl_of (List.mem_of_getElem? (i := 792) rfl) rfl
set_option maxRecDepth 100000 in
theorem kf_X8_58 : Cond.fieldLink RX8 58 "CoastLightsModel" "taped" "I" ∈ a_tbl := a_tbl_of (List.mem_of_getElem? (i := 795) rfl) rfl
set_option maxRecDepth 100000 in
theorem kf_X8_64 : Cond.fieldLink RX8 64 "CoastLightsModel" "isFault" "Z" ∈ a_tbl := a_tbl_of (List.mem_of_getElem? (i := 800) rfl) rfl
set_option maxRecDepth 100000 in
theorem kf_X8_68 : Cond.fieldLink RX8 68 "CoastLightsModel" "read" "I" ∈ a_tbl := a_tbl_of (List.mem_of_getElem? (i := 799) rfl) rfl
set_option maxRecDepth 100000 in
theorem kf_X8_79 : Cond.fieldLink RX8 79 "CoastLightsModel" "sort" "I" ∈ a_tbl := a_tbl_of (List.mem_of_getElem? (i := 801) rfl) rfl
set_option maxRecDepth 100000 in
theorem kf_X8_86 : Cond.fieldLink RX8 86 "CoastLightsModel" "many" "I" ∈ a_tbl := a_tbl_of (List.mem_of_getElem? (i := 802) rfl) rfl
set_option maxRecDepth 100000 in
theorem kf_X8_9 : Cond.fieldLink RX8 9 "CoastLightsModel" "now" "[I" ∈ a_tbl := a_tbl_of (List.mem_of_getElem? (i := 790) rfl) rfl
set_option maxRecDepth 100000 in
theorem kf_X8_93 : Cond.fieldLink RX8 93 "CoastLightsModel" "period" "I" ∈ a_tbl := a_tbl_of (List.mem_of_getElem? (i := 804) rfl) rfl
set_option maxRecDepth 100000 in
theorem kf_X8_99 : Cond.fieldLink RX8 99 "CoastLightsModel" "colour" "I" ∈ a_tbl := a_tbl_of (List.mem_of_getElem? (i := 803) rfl) rfl
set_option maxRecDepth 100000 in
theorem ki_J13 : Cond.initialized RJ13 ∈ a_tbl := a_tbl_of (List.mem_of_getElem? (i := 71) rfl) rfl
set_option maxRecDepth 100000 in
theorem ki_J6 : Cond.initialized RJ6 ∈ a_tbl := a_tbl_of (List.mem_of_getElem? (i := 73) rfl) rfl
set_option maxRecDepth 100000 in
theorem ki_Math : Cond.initialized "java/lang/Math" ∈ a_tbl := a_tbl_of (List.mem_of_getElem? (i := 70) rfl) rfl
set_option maxRecDepth 100000 in
theorem ki_System : Cond.initialized "java/lang/System" ∈ a_tbl := a_tbl_of (List.mem_of_getElem? (i := 72) rfl) rfl
set_option maxRecDepth 100000 in
theorem ki_X0 : Cond.initialized RX0 ∈ a_tbl := a_tbl_of (List.mem_of_getElem? (i := 64) rfl) rfl
set_option maxRecDepth 100000 in
theorem ki_X1 : Cond.initialized RX1 ∈ a_tbl := a_tbl_of (List.mem_of_getElem? (i := 67) rfl) rfl
set_option maxRecDepth 100000 in
theorem ki_X2 : Cond.initialized RX2 ∈ a_tbl := a_tbl_of (List.mem_of_getElem? (i := 65) rfl) rfl
set_option maxRecDepth 100000 in
theorem ki_X3 : Cond.initialized RX3 ∈ a_tbl := a_tbl_of (List.mem_of_getElem? (i := 68) rfl) rfl
set_option maxRecDepth 100000 in
theorem ki_X5 : Cond.initialized RX5 ∈ a_tbl := a_tbl_of (List.mem_of_getElem? (i := 62) rfl) rfl
set_option maxRecDepth 100000 in
theorem ki_X6 : Cond.initialized RX6 ∈ a_tbl := a_tbl_of (List.mem_of_getElem? (i := 63) rfl) rfl
set_option maxRecDepth 100000 in
theorem ki_X7 : Cond.initialized RX7 ∈ a_tbl := a_tbl_of (List.mem_of_getElem? (i := 61) rfl) rfl
set_option maxRecDepth 100000 in
theorem ki_X8 : Cond.initialized RX8 ∈ a_tbl := a_tbl_of (List.mem_of_getElem? (i := 69) rfl) rfl
set_option maxRecDepth 100000 in
theorem kin_X0_endCosts : Cond.instanceMethod yX0_endCosts ∈ a_tbl := a_tbl_of (List.mem_of_getElem? (i := 709) rfl) rfl
set_option maxRecDepth 100000 in
theorem kin_X0_find : Cond.instanceMethod yX0_find ∈ a_tbl := a_tbl_of (List.mem_of_getElem? (i := 684) rfl) rfl
set_option maxRecDepth 100000 in
theorem kin_X0_follow : Cond.instanceMethod yX0_follow ∈ a_tbl := a_tbl_of (List.mem_of_getElem? (i := 721) rfl) rfl
set_option maxRecDepth 100000 in
theorem kin_X0_lookAt : Cond.instanceMethod yX0_lookAt ∈ a_tbl := a_tbl_of (List.mem_of_getElem? (i := 713) rfl) rfl
set_option maxRecDepth 100000 in
theorem kin_X0_makeRoom : Cond.instanceMethod yX0_makeRoom ∈ a_tbl := a_tbl_of (List.mem_of_getElem? (i := 705) rfl) rfl
set_option maxRecDepth 100000 in
theorem kin_X0_pickRocks : Cond.instanceMethod yX0_pickRocks ∈ a_tbl := a_tbl_of (List.mem_of_getElem? (i := 689) rfl) rfl
set_option maxRecDepth 100000 in
theorem kin_X0_workBack : Cond.instanceMethod yX0_workBack ∈ a_tbl := a_tbl_of (List.mem_of_getElem? (i := 717) rfl) rfl
set_option maxRecDepth 100000 in
theorem kin_X1_become : Cond.instanceMethod yX1_become ∈ a_tbl := a_tbl_of (List.mem_of_getElem? (i := 430) rfl) rfl
set_option maxRecDepth 100000 in
theorem kin_X1_colourTowards : Cond.instanceMethod yX1_colourTowards ∈ a_tbl := a_tbl_of (List.mem_of_getElem? (i := 512) rfl) rfl
set_option maxRecDepth 100000 in
theorem kin_X1_hasRow : Cond.instanceMethod yX1_hasRow ∈ a_tbl := a_tbl_of (List.mem_of_getElem? (i := 575) rfl) rfl
set_option maxRecDepth 100000 in
theorem kin_X1_isLitAt : Cond.instanceMethod yX1_isLitAt ∈ a_tbl := a_tbl_of (List.mem_of_getElem? (i := 475) rfl) rfl
set_option maxRecDepth 100000 in
theorem kin_X1_isRock : Cond.instanceMethod yX1_isRock ∈ a_tbl := a_tbl_of (List.mem_of_getElem? (i := 664) rfl) rfl
set_option maxRecDepth 100000 in
theorem kin_X1_landsIn : Cond.instanceMethod yX1_landsIn ∈ a_tbl := a_tbl_of (List.mem_of_getElem? (i := 700) rfl) rfl
set_option maxRecDepth 100000 in
theorem kin_X1_overdueOn : Cond.instanceMethod yX1_overdueOn ∈ a_tbl := a_tbl_of (List.mem_of_getElem? (i := 693) rfl) rfl
set_option maxRecDepth 100000 in
theorem kin_X1_take : Cond.instanceMethod yX1_take ∈ a_tbl := a_tbl_of (List.mem_of_getElem? (i := 434) rfl) rfl
set_option maxRecDepth 100000 in
theorem kin_X2_next : Cond.instanceMethod yX2_next ∈ a_tbl := a_tbl_of (List.mem_of_getElem? (i := 423) rfl) rfl
set_option maxRecDepth 100000 in
theorem kin_X2_takeLatest : Cond.instanceMethod yX2_takeLatest ∈ a_tbl := a_tbl_of (List.mem_of_getElem? (i := 766) rfl) rfl
set_option maxRecDepth 100000 in
theorem kin_X3_asSeconds : Cond.instanceMethod yX3_asSeconds ∈ a_tbl := a_tbl_of (List.mem_of_getElem? (i := 571) rfl) rfl
set_option maxRecDepth 100000 in
theorem kin_X3_hasNumbers : Cond.instanceMethod yX3_hasNumbers ∈ a_tbl := a_tbl_of (List.mem_of_getElem? (i := 758) rfl) rfl
set_option maxRecDepth 100000 in
theorem kin_X3_lowest : Cond.instanceMethod yX3_lowest ∈ a_tbl := a_tbl_of (List.mem_of_getElem? (i := 750) rfl) rfl
set_option maxRecDepth 100000 in
theorem kin_X3_renew : Cond.instanceMethod yX3_renew ∈ a_tbl := a_tbl_of (List.mem_of_getElem? (i := 742) rfl) rfl
set_option maxRecDepth 100000 in
theorem kin_X5_append : Cond.instanceMethod yX5_append ∈ a_tbl := a_tbl_of (List.mem_of_getElem? (i := 364) rfl) rfl
set_option maxRecDepth 100000 in
theorem kin_X5_findFault : Cond.instanceMethod yX5_findFault ∈ a_tbl := a_tbl_of (List.mem_of_getElem? (i := 379) rfl) rfl
set_option maxRecDepth 100000 in
theorem kin_X5_goesIn : Cond.instanceMethod yX5_goesIn ∈ a_tbl := a_tbl_of (List.mem_of_getElem? (i := 412) rfl) rfl
set_option maxRecDepth 100000 in
theorem kin_X5_isDigit : Cond.instanceMethod yX5_isDigit ∈ a_tbl := a_tbl_of (List.mem_of_getElem? (i := 400) rfl) rfl
set_option maxRecDepth 100000 in
theorem kin_X5_litSeconds : Cond.instanceMethod yX5_litSeconds ∈ a_tbl := a_tbl_of (List.mem_of_getElem? (i := 442) rfl) rfl
set_option maxRecDepth 100000 in
theorem kin_X5_readColour : Cond.instanceMethod yX5_readColour ∈ a_tbl := a_tbl_of (List.mem_of_getElem? (i := 404) rfl) rfl
set_option maxRecDepth 100000 in
theorem kin_X5_readNumber : Cond.instanceMethod yX5_readNumber ∈ a_tbl := a_tbl_of (List.mem_of_getElem? (i := 396) rfl) rfl
set_option maxRecDepth 100000 in
theorem kin_X5_readPeriod : Cond.instanceMethod yX5_readPeriod ∈ a_tbl := a_tbl_of (List.mem_of_getElem? (i := 408) rfl) rfl
set_option maxRecDepth 100000 in
theorem kin_X5_readRhythm : Cond.instanceMethod yX5_readRhythm ∈ a_tbl := a_tbl_of (List.mem_of_getElem? (i := 384) rfl) rfl
set_option maxRecDepth 100000 in
theorem kin_X5_readTimes : Cond.instanceMethod yX5_readTimes ∈ a_tbl := a_tbl_of (List.mem_of_getElem? (i := 392) rfl) rfl
set_option maxRecDepth 100000 in
theorem kin_X5_takes : Cond.instanceMethod yX5_takes ∈ a_tbl := a_tbl_of (List.mem_of_getElem? (i := 388) rfl) rfl
set_option maxRecDepth 100000 in
theorem kin_X6_append : Cond.instanceMethod yX6_append ∈ a_tbl := a_tbl_of (List.mem_of_getElem? (i := 652) rfl) rfl
set_option maxRecDepth 100000 in
theorem kin_X6_latestHour : Cond.instanceMethod yX6_latestHour ∈ a_tbl := a_tbl_of (List.mem_of_getElem? (i := 648) rfl) rfl
set_option maxRecDepth 100000 in
theorem kin_X6_tellOut : Cond.instanceMethod yX6_tellOut ∈ a_tbl := a_tbl_of (List.mem_of_getElem? (i := 532) rfl) rfl
set_option maxRecDepth 100000 in
theorem kin_X7_allLights : Cond.instanceMethod yX7_allLights ∈ a_tbl := a_tbl_of (List.mem_of_getElem? (i := 560) rfl) rfl
set_option maxRecDepth 100000 in
theorem kin_X7_countRocks : Cond.instanceMethod yX7_countRocks ∈ a_tbl := a_tbl_of (List.mem_of_getElem? (i := 782) rfl) rfl
set_option maxRecDepth 100000 in
theorem kin_X7_findFix : Cond.instanceMethod yX7_findFix ∈ a_tbl := a_tbl_of (List.mem_of_getElem? (i := 595) rfl) rfl
set_option maxRecDepth 100000 in
theorem kin_X7_findLandings : Cond.instanceMethod yX7_findLandings ∈ a_tbl := a_tbl_of (List.mem_of_getElem? (i := 681) rfl) rfl
set_option maxRecDepth 100000 in
theorem kin_X7_firstWrong : Cond.instanceMethod yX7_firstWrong ∈ a_tbl := a_tbl_of (List.mem_of_getElem? (i := 733) rfl) rfl
set_option maxRecDepth 100000 in
theorem kin_X7_forgetFound : Cond.instanceMethod yX7_forgetFound ∈ a_tbl := a_tbl_of (List.mem_of_getElem? (i := 420) rfl) rfl
set_option maxRecDepth 100000 in
theorem kin_X7_holdsFor : Cond.instanceMethod yX7_holdsFor ∈ a_tbl := a_tbl_of (List.mem_of_getElem? (i := 604) rfl) rfl
set_option maxRecDepth 100000 in
theorem kin_X7_holdsForAll : Cond.instanceMethod yX7_holdsForAll ∈ a_tbl := a_tbl_of (List.mem_of_getElem? (i := 599) rfl) rfl
set_option maxRecDepth 100000 in
theorem kin_X7_isLight : Cond.instanceMethod yX7_isLight ∈ a_tbl := a_tbl_of (List.mem_of_getElem? (i := 452) rfl) rfl
set_option maxRecDepth 100000 in
theorem kin_X7_lightsFairway : Cond.instanceMethod yX7_lightsFairway ∈ a_tbl := a_tbl_of (List.mem_of_getElem? (i := 638) rfl) rfl
set_option maxRecDepth 100000 in
theorem kin_X7_placeInFairway : Cond.instanceMethod yX7_placeInFairway ∈ a_tbl := a_tbl_of (List.mem_of_getElem? (i := 620) rfl) rfl
set_option maxRecDepth 100000 in
theorem kin_X7_reachOf : Cond.instanceMethod yX7_reachOf ∈ a_tbl := a_tbl_of (List.mem_of_getElem? (i := 525) rfl) rfl
set_option maxRecDepth 100000 in
theorem kin_X7_refuse : Cond.instanceMethod yX7_refuse ∈ a_tbl := a_tbl_of (List.mem_of_getElem? (i := 360) rfl) rfl
set_option maxRecDepth 100000 in
theorem kin_X7_remember : Cond.instanceMethod yX7_remember ∈ a_tbl := a_tbl_of (List.mem_of_getElem? (i := 416) rfl) rfl
set_option maxRecDepth 100000 in
theorem kin_X7_seenFrom : Cond.instanceMethod yX7_seenFrom ∈ a_tbl := a_tbl_of (List.mem_of_getElem? (i := 521) rfl) rfl
set_option maxRecDepth 100000 in
theorem kin_X7_setFairway : Cond.instanceMethod yX7_setFairway ∈ a_tbl := a_tbl_of (List.mem_of_getElem? (i := 624) rfl) rfl
set_option maxRecDepth 100000 in
theorem kin_X7_takeBack : Cond.instanceMethod yX7_takeBack ∈ a_tbl := a_tbl_of (List.mem_of_getElem? (i := 771) rfl) rfl
set_option maxRecDepth 100000 in
theorem kin_X8_alike : Cond.instanceMethod yX8_alike ∈ a_tbl := a_tbl_of (List.mem_of_getElem? (i := 1014) rfl) rfl
set_option maxRecDepth 100000 in
theorem kin_X8_becomes : Cond.instanceMethod yX8_becomes ∈ a_tbl := a_tbl_of (List.mem_of_getElem? (i := 1002) rfl) rfl
set_option maxRecDepth 100000 in
theorem kin_X8_byLanding : Cond.instanceMethod yX8_byLanding ∈ a_tbl := a_tbl_of (List.mem_of_getElem? (i := 1115) rfl) rfl
set_option maxRecDepth 100000 in
theorem kin_X8_colourOf : Cond.instanceMethod yX8_colourOf ∈ a_tbl := a_tbl_of (List.mem_of_getElem? (i := 974) rfl) rfl
set_option maxRecDepth 100000 in
theorem kin_X8_faultOf : Cond.instanceMethod yX8_faultOf ∈ a_tbl := a_tbl_of (List.mem_of_getElem? (i := 876) rfl) rfl
set_option maxRecDepth 100000 in
theorem kin_X8_findLandings : Cond.instanceMethod yX8_findLandings ∈ a_tbl := a_tbl_of (List.mem_of_getElem? (i := 1099) rfl) rfl
set_option maxRecDepth 100000 in
theorem kin_X8_finding : Cond.instanceMethod yX8_finding ∈ a_tbl := a_tbl_of (List.mem_of_getElem? (i := 855) rfl) rfl
set_option maxRecDepth 100000 in
theorem kin_X8_firstOn : Cond.instanceMethod yX8_firstOn ∈ a_tbl := a_tbl_of (List.mem_of_getElem? (i := 1123) rfl) rfl
set_option maxRecDepth 100000 in
theorem kin_X8_fitsFrom : Cond.instanceMethod yX8_fitsFrom ∈ a_tbl := a_tbl_of (List.mem_of_getElem? (i := 1030) rfl) rfl
set_option maxRecDepth 100000 in
theorem kin_X8_goesIn : Cond.instanceMethod yX8_goesIn ∈ a_tbl := a_tbl_of (List.mem_of_getElem? (i := 900) rfl) rfl
set_option maxRecDepth 100000 in
theorem kin_X8_hasLight : Cond.instanceMethod yX8_hasLight ∈ a_tbl := a_tbl_of (List.mem_of_getElem? (i := 935) rfl) rfl
set_option maxRecDepth 100000 in
theorem kin_X8_holds : Cond.instanceMethod yX8_holds ∈ a_tbl := a_tbl_of (List.mem_of_getElem? (i := 1050) rfl) rfl
set_option maxRecDepth 100000 in
theorem kin_X8_isDigit : Cond.instanceMethod yX8_isDigit ∈ a_tbl := a_tbl_of (List.mem_of_getElem? (i := 896) rfl) rfl
set_option maxRecDepth 100000 in
theorem kin_X8_isHere : Cond.instanceMethod yX8_isHere ∈ a_tbl := a_tbl_of (List.mem_of_getElem? (i := 884) rfl) rfl
set_option maxRecDepth 100000 in
theorem kin_X8_isInFix : Cond.instanceMethod yX8_isInFix ∈ a_tbl := a_tbl_of (List.mem_of_getElem? (i := 1046) rfl) rfl
set_option maxRecDepth 100000 in
theorem kin_X8_isLandable : Cond.instanceMethod yX8_isLandable ∈ a_tbl := a_tbl_of (List.mem_of_getElem? (i := 1111) rfl) rfl
set_option maxRecDepth 100000 in
theorem kin_X8_isLight : Cond.instanceMethod yX8_isLight ∈ a_tbl := a_tbl_of (List.mem_of_getElem? (i := 919) rfl) rfl
set_option maxRecDepth 100000 in
theorem kin_X8_isLit : Cond.instanceMethod yX8_isLit ∈ a_tbl := a_tbl_of (List.mem_of_getElem? (i := 911) rfl) rfl
set_option maxRecDepth 100000 in
theorem kin_X8_isNear : Cond.instanceMethod yX8_isNear ∈ a_tbl := a_tbl_of (List.mem_of_getElem? (i := 989) rfl) rfl
set_option maxRecDepth 100000 in
theorem kin_X8_isOut : Cond.instanceMethod yX8_isOut ∈ a_tbl := a_tbl_of (List.mem_of_getElem? (i := 994) rfl) rfl
set_option maxRecDepth 100000 in
theorem kin_X8_isRock : Cond.instanceMethod yX8_isRock ∈ a_tbl := a_tbl_of (List.mem_of_getElem? (i := 1083) rfl) rfl
set_option maxRecDepth 100000 in
theorem kin_X8_keep : Cond.instanceMethod yX8_keep ∈ a_tbl := a_tbl_of (List.mem_of_getElem? (i := 904) rfl) rfl
set_option maxRecDepth 100000 in
theorem kin_X8_need : Cond.instanceMethod yX8_need ∈ a_tbl := a_tbl_of (List.mem_of_getElem? (i := 888) rfl) rfl
set_option maxRecDepth 100000 in
theorem kin_X8_number : Cond.instanceMethod yX8_number ∈ a_tbl := a_tbl_of (List.mem_of_getElem? (i := 892) rfl) rfl
set_option maxRecDepth 100000 in
theorem kin_X8_ofRock : Cond.instanceMethod yX8_ofRock ∈ a_tbl := a_tbl_of (List.mem_of_getElem? (i := 1079) rfl) rfl
set_option maxRecDepth 100000 in
theorem kin_X8_overdueOf : Cond.instanceMethod yX8_overdueOf ∈ a_tbl := a_tbl_of (List.mem_of_getElem? (i := 1107) rfl) rfl
set_option maxRecDepth 100000 in
theorem kin_X8_readSort : Cond.instanceMethod yX8_readSort ∈ a_tbl := a_tbl_of (List.mem_of_getElem? (i := 880) rfl) rfl
set_option maxRecDepth 100000 in
theorem kin_X8_restOf : Cond.instanceMethod yX8_restOf ∈ a_tbl := a_tbl_of (List.mem_of_getElem? (i := 1103) rfl) rfl
set_option maxRecDepth 100000 in
theorem kin_X8_seenFrom : Cond.instanceMethod yX8_seenFrom ∈ a_tbl := a_tbl_of (List.mem_of_getElem? (i := 985) rfl) rfl
set_option maxRecDepth 100000 in
theorem kl_J13_314 : Cond.constantLong RJ13 314 (6148914691236517205) ∈ a_tbl := a_tbl_of (List.mem_of_getElem? (i := 467) rfl) rfl
set_option maxRecDepth 100000 in
theorem kl_J13_316 : Cond.constantLong RJ13 316 (3689348814741910323) ∈ a_tbl := a_tbl_of (List.mem_of_getElem? (i := 468) rfl) rfl
set_option maxRecDepth 100000 in
theorem kl_J13_318 : Cond.constantLong RJ13 318 (1085102592571150095) ∈ a_tbl := a_tbl_of (List.mem_of_getElem? (i := 469) rfl) rfl
set_option maxRecDepth 100000 in
theorem kl_X5_17 : Cond.constantLong RX5 17 (255) ∈ a_tbl := a_tbl_of (List.mem_of_getElem? (i := 367) rfl) rfl
set_option maxRecDepth 100000 in
theorem kl_X5_68 : Cond.constantLong RX5 68 (-1) ∈ a_tbl := a_tbl_of (List.mem_of_getElem? (i := 445) rfl) rfl
set_option maxRecDepth 100000 in
theorem kl_X8_62 : Cond.constantLong RX8 62 (255) ∈ a_tbl := a_tbl_of (List.mem_of_getElem? (i := 866) rfl) rfl
set_option maxRecDepth 100000 in
theorem km_X0_27 : Cond.methodLink RX0 27 yX0_pickRocks ∈ a_tbl := a_tbl_of (List.mem_of_getElem? (i := 687) rfl) rfl
set_option maxRecDepth 100000 in
theorem km_X0_31 : Cond.methodLink RX0 31 yX0_makeRoom ∈ a_tbl := a_tbl_of (List.mem_of_getElem? (i := 703) rfl) rfl
set_option maxRecDepth 100000 in
theorem km_X0_34 : Cond.methodLink RX0 34 yX0_endCosts ∈ a_tbl := a_tbl_of (List.mem_of_getElem? (i := 707) rfl) rfl
set_option maxRecDepth 100000 in
theorem km_X0_38 : Cond.methodLink RX0 38 yX0_lookAt ∈ a_tbl := a_tbl_of (List.mem_of_getElem? (i := 711) rfl) rfl
set_option maxRecDepth 100000 in
theorem km_X0_42 : Cond.methodLink RX0 42 yX0_workBack ∈ a_tbl := a_tbl_of (List.mem_of_getElem? (i := 715) rfl) rfl
set_option maxRecDepth 100000 in
theorem km_X0_46 : Cond.methodLink RX0 46 yX0_follow ∈ a_tbl := a_tbl_of (List.mem_of_getElem? (i := 719) rfl) rfl
set_option maxRecDepth 100000 in
theorem km_X0_56 : Cond.methodLink RX0 56 yX1_isRock ∈ a_tbl := a_tbl_of (List.mem_of_getElem? (i := 691) rfl) rfl
set_option maxRecDepth 100000 in
theorem km_X0_62 : Cond.methodLink RX0 62 yX1_overdueOn ∈ a_tbl := a_tbl_of (List.mem_of_getElem? (i := 692) rfl) rfl
set_option maxRecDepth 100000 in
theorem km_X0_66 : Cond.methodLink RX0 66 yX0_landsFrom ∈ a_tbl := a_tbl_of (List.mem_of_getElem? (i := 696) rfl) rfl
set_option maxRecDepth 100000 in
theorem km_X0_70 : Cond.methodLink RX0 70 yX1_landsIn ∈ a_tbl := a_tbl_of (List.mem_of_getElem? (i := 699) rfl) rfl
set_option maxRecDepth 100000 in
theorem km_X1_50 : Cond.methodLink RX1 50 Lib.Math.min.name ∈ a_tbl := a_tbl_of (List.mem_of_getElem? (i := 437) rfl) rfl
set_option maxRecDepth 100000 in
theorem km_X1_56 : Cond.methodLink RX1 56 Lib.Math.max.name ∈ a_tbl := a_tbl_of (List.mem_of_getElem? (i := 438) rfl) rfl
set_option maxRecDepth 100000 in
theorem km_X1_62 : Cond.methodLink RX1 62 yX5_litSeconds ∈ a_tbl := a_tbl_of (List.mem_of_getElem? (i := 441) rfl) rfl
set_option maxRecDepth 100000 in
theorem km_X2_23 : Cond.methodLink RX2 23 Lib.Math.min.name ∈ a_tbl := a_tbl_of (List.mem_of_getElem? (i := 426) rfl) rfl
set_option maxRecDepth 100000 in
theorem km_X5_28 : Cond.methodLink RX5 28 yX5_readRhythm ∈ a_tbl := a_tbl_of (List.mem_of_getElem? (i := 382) rfl) rfl
set_option maxRecDepth 100000 in
theorem km_X5_32 : Cond.methodLink RX5 32 yX5_readColour ∈ a_tbl := a_tbl_of (List.mem_of_getElem? (i := 402) rfl) rfl
set_option maxRecDepth 100000 in
theorem km_X5_38 : Cond.methodLink RX5 38 yX5_readPeriod ∈ a_tbl := a_tbl_of (List.mem_of_getElem? (i := 406) rfl) rfl
set_option maxRecDepth 100000 in
theorem km_X5_41 : Cond.methodLink RX5 41 yX5_goesIn ∈ a_tbl := a_tbl_of (List.mem_of_getElem? (i := 410) rfl) rfl
set_option maxRecDepth 100000 in
theorem km_X5_47 : Cond.methodLink RX5 47 yX5_takes ∈ a_tbl := a_tbl_of (List.mem_of_getElem? (i := 386) rfl) rfl
set_option maxRecDepth 100000 in
theorem km_X5_51 : Cond.methodLink RX5 51 yX5_readTimes ∈ a_tbl := a_tbl_of (List.mem_of_getElem? (i := 390) rfl) rfl
set_option maxRecDepth 100000 in
theorem km_X5_54 : Cond.methodLink RX5 54 yX5_readNumber ∈ a_tbl := a_tbl_of (List.mem_of_getElem? (i := 394) rfl) rfl
set_option maxRecDepth 100000 in
theorem km_X5_63 : Cond.methodLink RX5 63 yX5_isDigit ∈ a_tbl := a_tbl_of (List.mem_of_getElem? (i := 398) rfl) rfl
set_option maxRecDepth 100000 in
theorem km_X7_100 : Cond.methodLink RX7 100 yX1_become ∈ a_tbl := a_tbl_of (List.mem_of_getElem? (i := 429) rfl) rfl
set_option maxRecDepth 100000 in
theorem km_X7_104 : Cond.methodLink RX7 104 yX1_take ∈ a_tbl := a_tbl_of (List.mem_of_getElem? (i := 433) rfl) rfl
set_option maxRecDepth 100000 in
theorem km_X7_108 : Cond.methodLink RX7 108 yX7_isLight ∈ a_tbl := a_tbl_of (List.mem_of_getElem? (i := 450) rfl) rfl
set_option maxRecDepth 100000 in
theorem km_X7_114 : Cond.methodLink RX7 114 yX7_isUnder ∈ a_tbl := a_tbl_of (List.mem_of_getElem? (i := 454) rfl) rfl
set_option maxRecDepth 100000 in
theorem km_X7_135 : Cond.methodLink RX7 135 yJ13_bitCount_95d88 ∈ a_tbl := a_tbl_of (List.mem_of_getElem? (i := 464) rfl) rfl
set_option maxRecDepth 100000 in
theorem km_X7_147 : Cond.methodLink RX7 147 yX1_isLitAt ∈ a_tbl := a_tbl_of (List.mem_of_getElem? (i := 474) rfl) rfl
set_option maxRecDepth 100000 in
theorem km_X7_150 : Cond.methodLink RX7 150 yX7_isDirection ∈ a_tbl := a_tbl_of (List.mem_of_getElem? (i := 482) rfl) rfl
set_option maxRecDepth 100000 in
theorem km_X7_156 : Cond.methodLink RX7 156 yX7_turnedOver ∈ a_tbl := a_tbl_of (List.mem_of_getElem? (i := 485) rfl) rfl
set_option maxRecDepth 100000 in
theorem km_X7_161 : Cond.methodLink RX7 161 yX7_directionOf ∈ a_tbl := a_tbl_of (List.mem_of_getElem? (i := 497) rfl) rfl
set_option maxRecDepth 100000 in
theorem km_X7_164 : Cond.methodLink RX7 164 yX7_colourIn ∈ a_tbl := a_tbl_of (List.mem_of_getElem? (i := 508) rfl) rfl
set_option maxRecDepth 100000 in
theorem km_X7_168 : Cond.methodLink RX7 168 yX7_seenFrom ∈ a_tbl := a_tbl_of (List.mem_of_getElem? (i := 519) rfl) rfl
set_option maxRecDepth 100000 in
theorem km_X7_174 : Cond.methodLink RX7 174 yX7_isDay ∈ a_tbl := a_tbl_of (List.mem_of_getElem? (i := 543) rfl) rfl
set_option maxRecDepth 100000 in
theorem km_X7_180 : Cond.methodLink RX7 180 yX7_mostAlike ∈ a_tbl := a_tbl_of (List.mem_of_getElem? (i := 550) rfl) rfl
set_option maxRecDepth 100000 in
theorem km_X7_185 : Cond.methodLink RX7 185 yX7_allLights ∈ a_tbl := a_tbl_of (List.mem_of_getElem? (i := 558) rfl) rfl
set_option maxRecDepth 100000 in
theorem km_X7_188 : Cond.methodLink RX7 188 Lib.Math.max.name ∈ a_tbl := a_tbl_of (List.mem_of_getElem? (i := 527) rfl) rfl
set_option maxRecDepth 100000 in
theorem km_X7_193 : Cond.methodLink RX7 193 yX7_isSheet ∈ a_tbl := a_tbl_of (List.mem_of_getElem? (i := 566) rfl) rfl
set_option maxRecDepth 100000 in
theorem km_X7_200 : Cond.methodLink RX7 200 yX3_asSeconds ∈ a_tbl := a_tbl_of (List.mem_of_getElem? (i := 570) rfl) rfl
set_option maxRecDepth 100000 in
theorem km_X7_207 : Cond.methodLink RX7 207 yX1_hasRow ∈ a_tbl := a_tbl_of (List.mem_of_getElem? (i := 574) rfl) rfl
set_option maxRecDepth 100000 in
theorem km_X7_219 : Cond.methodLink RX7 219 arraycopyName ∈ a_tbl := a_tbl_of (List.mem_of_getElem? (i := 586) rfl) rfl
set_option maxRecDepth 100000 in
theorem km_X7_225 : Cond.methodLink RX7 225 yX7_findFix ∈ a_tbl := a_tbl_of (List.mem_of_getElem? (i := 593) rfl) rfl
set_option maxRecDepth 100000 in
theorem km_X7_228 : Cond.methodLink RX7 228 yX7_placeInFairway ∈ a_tbl := a_tbl_of (List.mem_of_getElem? (i := 618) rfl) rfl
set_option maxRecDepth 100000 in
theorem km_X7_234 : Cond.methodLink RX7 234 yX7_setFairway ∈ a_tbl := a_tbl_of (List.mem_of_getElem? (i := 622) rfl) rfl
set_option maxRecDepth 100000 in
theorem km_X7_238 : Cond.methodLink RX7 238 yJ6_bitCount_0f7a4 ∈ a_tbl := a_tbl_of (List.mem_of_getElem? (i := 630) rfl) rfl
set_option maxRecDepth 100000 in
theorem km_X7_242 : Cond.methodLink RX7 242 yX7_lightsFairway ∈ a_tbl := a_tbl_of (List.mem_of_getElem? (i := 636) rfl) rfl
set_option maxRecDepth 100000 in
theorem km_X7_245 : Cond.methodLink RX7 245 yX7_isHour ∈ a_tbl := a_tbl_of (List.mem_of_getElem? (i := 644) rfl) rfl
set_option maxRecDepth 100000 in
theorem km_X7_248 : Cond.methodLink RX7 248 yX6_latestHour ∈ a_tbl := a_tbl_of (List.mem_of_getElem? (i := 647) rfl) rfl
set_option maxRecDepth 100000 in
theorem km_X7_252 : Cond.methodLink RX7 252 yX6_append ∈ a_tbl := a_tbl_of (List.mem_of_getElem? (i := 651) rfl) rfl
set_option maxRecDepth 100000 in
theorem km_X7_255 : Cond.methodLink RX7 255 yX6_tellOut ∈ a_tbl := a_tbl_of (List.mem_of_getElem? (i := 531) rfl) rfl
set_option maxRecDepth 100000 in
theorem km_X7_259 : Cond.methodLink RX7 259 yX1_isRock ∈ a_tbl := a_tbl_of (List.mem_of_getElem? (i := 663) rfl) rfl
set_option maxRecDepth 100000 in
theorem km_X7_272 : Cond.methodLink RX7 272 yX7_findLandings ∈ a_tbl := a_tbl_of (List.mem_of_getElem? (i := 679) rfl) rfl
set_option maxRecDepth 100000 in
theorem km_X7_281 : Cond.methodLink RX7 281 yX7_firstWrong ∈ a_tbl := a_tbl_of (List.mem_of_getElem? (i := 731) rfl) rfl
set_option maxRecDepth 100000 in
theorem km_X7_285 : Cond.methodLink RX7 285 yX3_renew ∈ a_tbl := a_tbl_of (List.mem_of_getElem? (i := 741) rfl) rfl
set_option maxRecDepth 100000 in
theorem km_X7_289 : Cond.methodLink RX7 289 yX3_lowest ∈ a_tbl := a_tbl_of (List.mem_of_getElem? (i := 749) rfl) rfl
set_option maxRecDepth 100000 in
theorem km_X7_292 : Cond.methodLink RX7 292 yX3_hasNumbers ∈ a_tbl := a_tbl_of (List.mem_of_getElem? (i := 757) rfl) rfl
set_option maxRecDepth 100000 in
theorem km_X7_295 : Cond.methodLink RX7 295 yX2_takeLatest ∈ a_tbl := a_tbl_of (List.mem_of_getElem? (i := 765) rfl) rfl
set_option maxRecDepth 100000 in
theorem km_X7_299 : Cond.methodLink RX7 299 yX7_takeBack ∈ a_tbl := a_tbl_of (List.mem_of_getElem? (i := 769) rfl) rfl
set_option maxRecDepth 100000 in
theorem km_X7_303 : Cond.methodLink RX7 303 yX7_forgetFound ∈ a_tbl := a_tbl_of (List.mem_of_getElem? (i := 418) rfl) rfl
set_option maxRecDepth 100000 in
theorem km_X7_307 : Cond.methodLink RX7 307 yX7_countRocks ∈ a_tbl := a_tbl_of (List.mem_of_getElem? (i := 780) rfl) rfl
set_option maxRecDepth 100000 in
theorem km_X7_322 : Cond.methodLink RX7 322 yX1_colourTowards ∈ a_tbl := a_tbl_of (List.mem_of_getElem? (i := 511) rfl) rfl
set_option maxRecDepth 100000 in
theorem km_X7_325 : Cond.methodLink RX7 325 yX7_reachOf ∈ a_tbl := a_tbl_of (List.mem_of_getElem? (i := 523) rfl) rfl
set_option maxRecDepth 100000 in
theorem km_X7_329 : Cond.methodLink RX7 329 yX7_isWithin ∈ a_tbl := a_tbl_of (List.mem_of_getElem? (i := 528) rfl) rfl
set_option maxRecDepth 100000 in
theorem km_X7_340 : Cond.methodLink RX7 340 yX7_holdsForAll ∈ a_tbl := a_tbl_of (List.mem_of_getElem? (i := 597) rfl) rfl
set_option maxRecDepth 100000 in
theorem km_X7_344 : Cond.methodLink RX7 344 yX7_holdsFor ∈ a_tbl := a_tbl_of (List.mem_of_getElem? (i := 602) rfl) rfl
set_option maxRecDepth 100000 in
theorem km_X7_348 : Cond.methodLink RX7 348 Lib.Math.min.name ∈ a_tbl := a_tbl_of (List.mem_of_getElem? (i := 606) rfl) rfl
set_option maxRecDepth 100000 in
theorem km_X7_351 : Cond.methodLink RX7 351 yX7_liesIn ∈ a_tbl := a_tbl_of (List.mem_of_getElem? (i := 607) rfl) rfl
set_option maxRecDepth 100000 in
theorem km_X7_357 : Cond.methodLink RX7 357 yX0_find ∈ a_tbl := a_tbl_of (List.mem_of_getElem? (i := 683) rfl) rfl
set_option maxRecDepth 100000 in
theorem km_X7_361 : Cond.methodLink RX7 361 yX1_landsIn ∈ a_tbl := a_tbl_of (List.mem_of_getElem? (i := 735) rfl) rfl
set_option maxRecDepth 100000 in
theorem km_X7_364 : Cond.methodLink RX7 364 yX1_overdueOn ∈ a_tbl := a_tbl_of (List.mem_of_getElem? (i := 736) rfl) rfl
set_option maxRecDepth 100000 in
theorem km_X7_367 : Cond.methodLink RX7 367 yX2_next ∈ a_tbl := a_tbl_of (List.mem_of_getElem? (i := 422) rfl) rfl
set_option maxRecDepth 100000 in
theorem km_X7_379 : Cond.methodLink RX7 379 yX7_oneLess ∈ a_tbl := a_tbl_of (List.mem_of_getElem? (i := 773) rfl) rfl
set_option maxRecDepth 100000 in
theorem km_X7_69 : Cond.methodLink RX7 69 yX7_refuse ∈ a_tbl := a_tbl_of (List.mem_of_getElem? (i := 358) rfl) rfl
set_option maxRecDepth 100000 in
theorem km_X7_78 : Cond.methodLink RX7 78 yX5_append ∈ a_tbl := a_tbl_of (List.mem_of_getElem? (i := 363) rfl) rfl
set_option maxRecDepth 100000 in
theorem km_X7_82 : Cond.methodLink RX7 82 yX7_isKind ∈ a_tbl := a_tbl_of (List.mem_of_getElem? (i := 372) rfl) rfl
set_option maxRecDepth 100000 in
theorem km_X7_86 : Cond.methodLink RX7 86 yX7_isCell ∈ a_tbl := a_tbl_of (List.mem_of_getElem? (i := 375) rfl) rfl
set_option maxRecDepth 100000 in
theorem km_X7_92 : Cond.methodLink RX7 92 yX5_findFault ∈ a_tbl := a_tbl_of (List.mem_of_getElem? (i := 378) rfl) rfl
set_option maxRecDepth 100000 in
theorem km_X7_96 : Cond.methodLink RX7 96 yX7_remember ∈ a_tbl := a_tbl_of (List.mem_of_getElem? (i := 414) rfl) rfl
set_option maxRecDepth 100000 in
theorem km_X8_105 : Cond.methodLink RX8 105 yX8_goesIn ∈ a_tbl := a_tbl_of (List.mem_of_getElem? (i := 898) rfl) rfl
set_option maxRecDepth 100000 in
theorem km_X8_108 : Cond.methodLink RX8 108 yX8_isCell ∈ a_tbl := a_tbl_of (List.mem_of_getElem? (i := 871) rfl) rfl
set_option maxRecDepth 100000 in
theorem km_X8_111 : Cond.methodLink RX8 111 yX8_faultOf ∈ a_tbl := a_tbl_of (List.mem_of_getElem? (i := 874) rfl) rfl
set_option maxRecDepth 100000 in
theorem km_X8_114 : Cond.methodLink RX8 114 yX8_keep ∈ a_tbl := a_tbl_of (List.mem_of_getElem? (i := 902) rfl) rfl
set_option maxRecDepth 100000 in
theorem km_X8_117 : Cond.methodLink RX8 117 yX8_isLit ∈ a_tbl := a_tbl_of (List.mem_of_getElem? (i := 909) rfl) rfl
set_option maxRecDepth 100000 in
theorem km_X8_120 : Cond.methodLink RX8 120 yX8_isLight ∈ a_tbl := a_tbl_of (List.mem_of_getElem? (i := 917) rfl) rfl
set_option maxRecDepth 100000 in
theorem km_X8_124 : Cond.methodLink RX8 124 yX8_ones ∈ a_tbl := a_tbl_of (List.mem_of_getElem? (i := 926) rfl) rfl
set_option maxRecDepth 100000 in
theorem km_X8_127 : Cond.methodLink RX8 127 yX8_hasLight ∈ a_tbl := a_tbl_of (List.mem_of_getElem? (i := 933) rfl) rfl
set_option maxRecDepth 100000 in
theorem km_X8_131 : Cond.methodLink RX8 131 yX8_isWay ∈ a_tbl := a_tbl_of (List.mem_of_getElem? (i := 941) rfl) rfl
set_option maxRecDepth 100000 in
theorem km_X8_134 : Cond.methodLink RX8 134 yX8_northOf ∈ a_tbl := a_tbl_of (List.mem_of_getElem? (i := 962) rfl) rfl
set_option maxRecDepth 100000 in
theorem km_X8_137 : Cond.methodLink RX8 137 yX8_eastOf ∈ a_tbl := a_tbl_of (List.mem_of_getElem? (i := 965) rfl) rfl
set_option maxRecDepth 100000 in
theorem km_X8_140 : Cond.methodLink RX8 140 yX8_behind ∈ a_tbl := a_tbl_of (List.mem_of_getElem? (i := 959) rfl) rfl
set_option maxRecDepth 100000 in
theorem km_X8_144 : Cond.methodLink RX8 144 yX8_wayOf ∈ a_tbl := a_tbl_of (List.mem_of_getElem? (i := 956) rfl) rfl
set_option maxRecDepth 100000 in
theorem km_X8_148 : Cond.methodLink RX8 148 yX8_wayBetween ∈ a_tbl := a_tbl_of (List.mem_of_getElem? (i := 953) rfl) rfl
set_option maxRecDepth 100000 in
theorem km_X8_151 : Cond.methodLink RX8 151 yX8_isFrom ∈ a_tbl := a_tbl_of (List.mem_of_getElem? (i := 976) rfl) rfl
set_option maxRecDepth 100000 in
theorem km_X8_154 : Cond.methodLink RX8 154 yX8_colourOf ∈ a_tbl := a_tbl_of (List.mem_of_getElem? (i := 972) rfl) rfl
set_option maxRecDepth 100000 in
theorem km_X8_157 : Cond.methodLink RX8 157 Lib.Math.max.name ∈ a_tbl := a_tbl_of (List.mem_of_getElem? (i := 991) rfl) rfl
set_option maxRecDepth 100000 in
theorem km_X8_162 : Cond.methodLink RX8 162 yX8_isNear ∈ a_tbl := a_tbl_of (List.mem_of_getElem? (i := 987) rfl) rfl
set_option maxRecDepth 100000 in
theorem km_X8_165 : Cond.methodLink RX8 165 yX8_isOut ∈ a_tbl := a_tbl_of (List.mem_of_getElem? (i := 992) rfl) rfl
set_option maxRecDepth 100000 in
theorem km_X8_168 : Cond.methodLink RX8 168 yX8_seenFrom ∈ a_tbl := a_tbl_of (List.mem_of_getElem? (i := 983) rfl) rfl
set_option maxRecDepth 100000 in
theorem km_X8_171 : Cond.methodLink RX8 171 yX8_becomes ∈ a_tbl := a_tbl_of (List.mem_of_getElem? (i := 1000) rfl) rfl
set_option maxRecDepth 100000 in
theorem km_X8_174 : Cond.methodLink RX8 174 yX8_alike ∈ a_tbl := a_tbl_of (List.mem_of_getElem? (i := 1012) rfl) rfl
set_option maxRecDepth 100000 in
theorem km_X8_177 : Cond.methodLink RX8 177 yX8_isSheet ∈ a_tbl := a_tbl_of (List.mem_of_getElem? (i := 1024) rfl) rfl
set_option maxRecDepth 100000 in
theorem km_X8_181 : Cond.methodLink RX8 181 yX8_fitsFrom ∈ a_tbl := a_tbl_of (List.mem_of_getElem? (i := 1028) rfl) rfl
set_option maxRecDepth 100000 in
theorem km_X8_184 : Cond.methodLink RX8 184 Lib.Math.min.name ∈ a_tbl := a_tbl_of (List.mem_of_getElem? (i := 1052) rfl) rfl
set_option maxRecDepth 100000 in
theorem km_X8_187 : Cond.methodLink RX8 187 yX8_holds ∈ a_tbl := a_tbl_of (List.mem_of_getElem? (i := 1048) rfl) rfl
set_option maxRecDepth 100000 in
theorem km_X8_190 : Cond.methodLink RX8 190 yX8_isInFix ∈ a_tbl := a_tbl_of (List.mem_of_getElem? (i := 1044) rfl) rfl
set_option maxRecDepth 100000 in
theorem km_X8_193 : Cond.methodLink RX8 193 yX8_isRock ∈ a_tbl := a_tbl_of (List.mem_of_getElem? (i := 1081) rfl) rfl
set_option maxRecDepth 100000 in
theorem km_X8_196 : Cond.methodLink RX8 196 yX8_ofRock ∈ a_tbl := a_tbl_of (List.mem_of_getElem? (i := 1077) rfl) rfl
set_option maxRecDepth 100000 in
theorem km_X8_200 : Cond.methodLink RX8 200 yX8_overdueOf ∈ a_tbl := a_tbl_of (List.mem_of_getElem? (i := 1105) rfl) rfl
set_option maxRecDepth 100000 in
theorem km_X8_203 : Cond.methodLink RX8 203 yX8_restOf ∈ a_tbl := a_tbl_of (List.mem_of_getElem? (i := 1101) rfl) rfl
set_option maxRecDepth 100000 in
theorem km_X8_206 : Cond.methodLink RX8 206 yX8_isLandable ∈ a_tbl := a_tbl_of (List.mem_of_getElem? (i := 1109) rfl) rfl
set_option maxRecDepth 100000 in
theorem km_X8_209 : Cond.methodLink RX8 209 yX8_byLanding ∈ a_tbl := a_tbl_of (List.mem_of_getElem? (i := 1113) rfl) rfl
set_option maxRecDepth 100000 in
theorem km_X8_212 : Cond.methodLink RX8 212 yX8_findLandings ∈ a_tbl := a_tbl_of (List.mem_of_getElem? (i := 1097) rfl) rfl
set_option maxRecDepth 100000 in
theorem km_X8_215 : Cond.methodLink RX8 215 yX8_firstOn ∈ a_tbl := a_tbl_of (List.mem_of_getElem? (i := 1121) rfl) rfl
set_option maxRecDepth 100000 in
theorem km_X8_41 : Cond.methodLink RX8 41 yX8_within ∈ a_tbl := a_tbl_of (List.mem_of_getElem? (i := 861) rfl) rfl
set_option maxRecDepth 100000 in
theorem km_X8_45 : Cond.methodLink RX8 45 yX8_of ∈ a_tbl := a_tbl_of (List.mem_of_getElem? (i := 906) rfl) rfl
set_option maxRecDepth 100000 in
theorem km_X8_53 : Cond.methodLink RX8 53 yX8_finding ∈ a_tbl := a_tbl_of (List.mem_of_getElem? (i := 853) rfl) rfl
set_option maxRecDepth 100000 in
theorem km_X8_71 : Cond.methodLink RX8 71 yX8_isHere ∈ a_tbl := a_tbl_of (List.mem_of_getElem? (i := 882) rfl) rfl
set_option maxRecDepth 100000 in
theorem km_X8_75 : Cond.methodLink RX8 75 yX8_isDigit ∈ a_tbl := a_tbl_of (List.mem_of_getElem? (i := 894) rfl) rfl
set_option maxRecDepth 100000 in
theorem km_X8_82 : Cond.methodLink RX8 82 yX8_need ∈ a_tbl := a_tbl_of (List.mem_of_getElem? (i := 886) rfl) rfl
set_option maxRecDepth 100000 in
theorem km_X8_89 : Cond.methodLink RX8 89 yX8_number ∈ a_tbl := a_tbl_of (List.mem_of_getElem? (i := 890) rfl) rfl
set_option maxRecDepth 100000 in
theorem km_X8_96 : Cond.methodLink RX8 96 yX8_readSort ∈ a_tbl := a_tbl_of (List.mem_of_getElem? (i := 878) rfl) rfl
set_option maxRecDepth 100000 in
theorem kna_cpy : Cond.native arraycopyName ∈ a_tbl := a_tbl_of (List.mem_of_getElem? (i := 588) rfl) rfl
set_option maxRecDepth 100000 in
theorem ks_X0_endCosts : Cond.selects RX0 yX0_endCosts yX0_endCosts ∈ a_tbl := a_tbl_of (List.mem_of_getElem? (i := 24) rfl) rfl
set_option maxRecDepth 100000 in
theorem ks_X0_find : Cond.selects RX0 yX0_find yX0_find ∈ a_tbl := a_tbl_of (List.mem_of_getElem? (i := 685) rfl) rfl
set_option maxRecDepth 100000 in
theorem ks_X0_follow : Cond.selects RX0 yX0_follow yX0_follow ∈ a_tbl := a_tbl_of (List.mem_of_getElem? (i := 27) rfl) rfl
set_option maxRecDepth 100000 in
theorem ks_X0_lookAt : Cond.selects RX0 yX0_lookAt yX0_lookAt ∈ a_tbl := a_tbl_of (List.mem_of_getElem? (i := 25) rfl) rfl
set_option maxRecDepth 100000 in
theorem ks_X0_makeRoom : Cond.selects RX0 yX0_makeRoom yX0_makeRoom ∈ a_tbl := a_tbl_of (List.mem_of_getElem? (i := 23) rfl) rfl
set_option maxRecDepth 100000 in
theorem ks_X0_pickRocks : Cond.selects RX0 yX0_pickRocks yX0_pickRocks ∈ a_tbl := a_tbl_of (List.mem_of_getElem? (i := 22) rfl) rfl
set_option maxRecDepth 100000 in
theorem ks_X0_workBack : Cond.selects RX0 yX0_workBack yX0_workBack ∈ a_tbl := a_tbl_of (List.mem_of_getElem? (i := 26) rfl) rfl
set_option maxRecDepth 100000 in
theorem ks_X1_become : Cond.selects RX1 yX1_become yX1_become ∈ a_tbl := a_tbl_of (List.mem_of_getElem? (i := 431) rfl) rfl
set_option maxRecDepth 100000 in
theorem ks_X1_colourTowards : Cond.selects RX1 yX1_colourTowards yX1_colourTowards ∈ a_tbl := a_tbl_of (List.mem_of_getElem? (i := 513) rfl) rfl
set_option maxRecDepth 100000 in
theorem ks_X1_hasRow : Cond.selects RX1 yX1_hasRow yX1_hasRow ∈ a_tbl := a_tbl_of (List.mem_of_getElem? (i := 576) rfl) rfl
set_option maxRecDepth 100000 in
theorem ks_X1_isLitAt : Cond.selects RX1 yX1_isLitAt yX1_isLitAt ∈ a_tbl := a_tbl_of (List.mem_of_getElem? (i := 476) rfl) rfl
set_option maxRecDepth 100000 in
theorem ks_X1_isRock : Cond.selects RX1 yX1_isRock yX1_isRock ∈ a_tbl := a_tbl_of (List.mem_of_getElem? (i := 665) rfl) rfl
set_option maxRecDepth 100000 in
theorem ks_X1_landsIn : Cond.selects RX1 yX1_landsIn yX1_landsIn ∈ a_tbl := a_tbl_of (List.mem_of_getElem? (i := 701) rfl) rfl
set_option maxRecDepth 100000 in
theorem ks_X1_overdueOn : Cond.selects RX1 yX1_overdueOn yX1_overdueOn ∈ a_tbl := a_tbl_of (List.mem_of_getElem? (i := 694) rfl) rfl
set_option maxRecDepth 100000 in
theorem ks_X1_take : Cond.selects RX1 yX1_take yX1_take ∈ a_tbl := a_tbl_of (List.mem_of_getElem? (i := 435) rfl) rfl
set_option maxRecDepth 100000 in
theorem ks_X2_next : Cond.selects RX2 yX2_next yX2_next ∈ a_tbl := a_tbl_of (List.mem_of_getElem? (i := 424) rfl) rfl
set_option maxRecDepth 100000 in
theorem ks_X2_takeLatest : Cond.selects RX2 yX2_takeLatest yX2_takeLatest ∈ a_tbl := a_tbl_of (List.mem_of_getElem? (i := 767) rfl) rfl
set_option maxRecDepth 100000 in
theorem ks_X3_asSeconds : Cond.selects RX3 yX3_asSeconds yX3_asSeconds ∈ a_tbl := a_tbl_of (List.mem_of_getElem? (i := 572) rfl) rfl
set_option maxRecDepth 100000 in
theorem ks_X3_hasNumbers : Cond.selects RX3 yX3_hasNumbers yX3_hasNumbers ∈ a_tbl := a_tbl_of (List.mem_of_getElem? (i := 759) rfl) rfl
set_option maxRecDepth 100000 in
theorem ks_X3_lowest : Cond.selects RX3 yX3_lowest yX3_lowest ∈ a_tbl := a_tbl_of (List.mem_of_getElem? (i := 751) rfl) rfl
set_option maxRecDepth 100000 in
theorem ks_X3_renew : Cond.selects RX3 yX3_renew yX3_renew ∈ a_tbl := a_tbl_of (List.mem_of_getElem? (i := 743) rfl) rfl
set_option maxRecDepth 100000 in
theorem ks_X5_append : Cond.selects RX5 yX5_append yX5_append ∈ a_tbl := a_tbl_of (List.mem_of_getElem? (i := 365) rfl) rfl
set_option maxRecDepth 100000 in
theorem ks_X5_findFault : Cond.selects RX5 yX5_findFault yX5_findFault ∈ a_tbl := a_tbl_of (List.mem_of_getElem? (i := 380) rfl) rfl
set_option maxRecDepth 100000 in
theorem ks_X5_goesIn : Cond.selects RX5 yX5_goesIn yX5_goesIn ∈ a_tbl := a_tbl_of (List.mem_of_getElem? (i := 8) rfl) rfl
set_option maxRecDepth 100000 in
theorem ks_X5_isDigit : Cond.selects RX5 yX5_isDigit yX5_isDigit ∈ a_tbl := a_tbl_of (List.mem_of_getElem? (i := 5) rfl) rfl
set_option maxRecDepth 100000 in
theorem ks_X5_litSeconds : Cond.selects RX5 yX5_litSeconds yX5_litSeconds ∈ a_tbl := a_tbl_of (List.mem_of_getElem? (i := 443) rfl) rfl
set_option maxRecDepth 100000 in
theorem ks_X5_readColour : Cond.selects RX5 yX5_readColour yX5_readColour ∈ a_tbl := a_tbl_of (List.mem_of_getElem? (i := 6) rfl) rfl
set_option maxRecDepth 100000 in
theorem ks_X5_readNumber : Cond.selects RX5 yX5_readNumber yX5_readNumber ∈ a_tbl := a_tbl_of (List.mem_of_getElem? (i := 4) rfl) rfl
set_option maxRecDepth 100000 in
theorem ks_X5_readPeriod : Cond.selects RX5 yX5_readPeriod yX5_readPeriod ∈ a_tbl := a_tbl_of (List.mem_of_getElem? (i := 7) rfl) rfl
set_option maxRecDepth 100000 in
theorem ks_X5_readRhythm : Cond.selects RX5 yX5_readRhythm yX5_readRhythm ∈ a_tbl := a_tbl_of (List.mem_of_getElem? (i := 1) rfl) rfl
set_option maxRecDepth 100000 in
theorem ks_X5_readTimes : Cond.selects RX5 yX5_readTimes yX5_readTimes ∈ a_tbl := a_tbl_of (List.mem_of_getElem? (i := 3) rfl) rfl
set_option maxRecDepth 100000 in
theorem ks_X5_takes : Cond.selects RX5 yX5_takes yX5_takes ∈ a_tbl := a_tbl_of (List.mem_of_getElem? (i := 2) rfl) rfl
set_option maxRecDepth 100000 in
theorem ks_X6_append : Cond.selects RX6 yX6_append yX6_append ∈ a_tbl := a_tbl_of (List.mem_of_getElem? (i := 653) rfl) rfl
set_option maxRecDepth 100000 in
theorem ks_X6_latestHour : Cond.selects RX6 yX6_latestHour yX6_latestHour ∈ a_tbl := a_tbl_of (List.mem_of_getElem? (i := 649) rfl) rfl
set_option maxRecDepth 100000 in
theorem ks_X6_tellOut : Cond.selects RX6 yX6_tellOut yX6_tellOut ∈ a_tbl := a_tbl_of (List.mem_of_getElem? (i := 533) rfl) rfl
set_option maxRecDepth 100000 in
theorem ks_X7_allLights : Cond.selects RX7 yX7_allLights yX7_allLights ∈ a_tbl := a_tbl_of (List.mem_of_getElem? (i := 14) rfl) rfl
set_option maxRecDepth 100000 in
theorem ks_X7_countRocks : Cond.selects RX7 yX7_countRocks yX7_countRocks ∈ a_tbl := a_tbl_of (List.mem_of_getElem? (i := 30) rfl) rfl
set_option maxRecDepth 100000 in
theorem ks_X7_findFix : Cond.selects RX7 yX7_findFix yX7_findFix ∈ a_tbl := a_tbl_of (List.mem_of_getElem? (i := 15) rfl) rfl
set_option maxRecDepth 100000 in
theorem ks_X7_findLandings : Cond.selects RX7 yX7_findLandings yX7_findLandings ∈ a_tbl := a_tbl_of (List.mem_of_getElem? (i := 21) rfl) rfl
set_option maxRecDepth 100000 in
theorem ks_X7_firstWrong : Cond.selects RX7 yX7_firstWrong yX7_firstWrong ∈ a_tbl := a_tbl_of (List.mem_of_getElem? (i := 28) rfl) rfl
set_option maxRecDepth 100000 in
theorem ks_X7_forgetFound : Cond.selects RX7 yX7_forgetFound yX7_forgetFound ∈ a_tbl := a_tbl_of (List.mem_of_getElem? (i := 10) rfl) rfl
set_option maxRecDepth 100000 in
theorem ks_X7_holdsFor : Cond.selects RX7 yX7_holdsFor yX7_holdsFor ∈ a_tbl := a_tbl_of (List.mem_of_getElem? (i := 17) rfl) rfl
set_option maxRecDepth 100000 in
theorem ks_X7_holdsForAll : Cond.selects RX7 yX7_holdsForAll yX7_holdsForAll ∈ a_tbl := a_tbl_of (List.mem_of_getElem? (i := 16) rfl) rfl
set_option maxRecDepth 100000 in
theorem ks_X7_isLight : Cond.selects RX7 yX7_isLight yX7_isLight ∈ a_tbl := a_tbl_of (List.mem_of_getElem? (i := 11) rfl) rfl
set_option maxRecDepth 100000 in
theorem ks_X7_lightsFairway : Cond.selects RX7 yX7_lightsFairway yX7_lightsFairway ∈ a_tbl := a_tbl_of (List.mem_of_getElem? (i := 20) rfl) rfl
set_option maxRecDepth 100000 in
theorem ks_X7_placeInFairway : Cond.selects RX7 yX7_placeInFairway yX7_placeInFairway ∈ a_tbl := a_tbl_of (List.mem_of_getElem? (i := 18) rfl) rfl
set_option maxRecDepth 100000 in
theorem ks_X7_reachOf : Cond.selects RX7 yX7_reachOf yX7_reachOf ∈ a_tbl := a_tbl_of (List.mem_of_getElem? (i := 13) rfl) rfl
set_option maxRecDepth 100000 in
theorem ks_X7_refuse : Cond.selects RX7 yX7_refuse yX7_refuse ∈ a_tbl := a_tbl_of (List.mem_of_getElem? (i := 0) rfl) rfl
set_option maxRecDepth 100000 in
theorem ks_X7_remember : Cond.selects RX7 yX7_remember yX7_remember ∈ a_tbl := a_tbl_of (List.mem_of_getElem? (i := 9) rfl) rfl
set_option maxRecDepth 100000 in
theorem ks_X7_seenFrom : Cond.selects RX7 yX7_seenFrom yX7_seenFrom ∈ a_tbl := a_tbl_of (List.mem_of_getElem? (i := 12) rfl) rfl
set_option maxRecDepth 100000 in
theorem ks_X7_setFairway : Cond.selects RX7 yX7_setFairway yX7_setFairway ∈ a_tbl := a_tbl_of (List.mem_of_getElem? (i := 19) rfl) rfl
set_option maxRecDepth 100000 in
theorem ks_X7_takeBack : Cond.selects RX7 yX7_takeBack yX7_takeBack ∈ a_tbl := a_tbl_of (List.mem_of_getElem? (i := 29) rfl) rfl
set_option maxRecDepth 100000 in
theorem ks_X8_alike : Cond.selects RX8 yX8_alike yX8_alike ∈ a_tbl := a_tbl_of (List.mem_of_getElem? (i := 48) rfl) rfl
set_option maxRecDepth 100000 in
theorem ks_X8_becomes : Cond.selects RX8 yX8_becomes yX8_becomes ∈ a_tbl := a_tbl_of (List.mem_of_getElem? (i := 47) rfl) rfl
set_option maxRecDepth 100000 in
theorem ks_X8_byLanding : Cond.selects RX8 yX8_byLanding yX8_byLanding ∈ a_tbl := a_tbl_of (List.mem_of_getElem? (i := 58) rfl) rfl
set_option maxRecDepth 100000 in
theorem ks_X8_colourOf : Cond.selects RX8 yX8_colourOf yX8_colourOf ∈ a_tbl := a_tbl_of (List.mem_of_getElem? (i := 43) rfl) rfl
set_option maxRecDepth 100000 in
theorem ks_X8_faultOf : Cond.selects RX8 yX8_faultOf yX8_faultOf ∈ a_tbl := a_tbl_of (List.mem_of_getElem? (i := 32) rfl) rfl
set_option maxRecDepth 100000 in
theorem ks_X8_findLandings : Cond.selects RX8 yX8_findLandings yX8_findLandings ∈ a_tbl := a_tbl_of (List.mem_of_getElem? (i := 54) rfl) rfl
set_option maxRecDepth 100000 in
theorem ks_X8_finding : Cond.selects RX8 yX8_finding yX8_finding ∈ a_tbl := a_tbl_of (List.mem_of_getElem? (i := 31) rfl) rfl
set_option maxRecDepth 100000 in
theorem ks_X8_firstOn : Cond.selects RX8 yX8_firstOn yX8_firstOn ∈ a_tbl := a_tbl_of (List.mem_of_getElem? (i := 59) rfl) rfl
set_option maxRecDepth 100000 in
theorem ks_X8_fitsFrom : Cond.selects RX8 yX8_fitsFrom yX8_fitsFrom ∈ a_tbl := a_tbl_of (List.mem_of_getElem? (i := 49) rfl) rfl
set_option maxRecDepth 100000 in
theorem ks_X8_goesIn : Cond.selects RX8 yX8_goesIn yX8_goesIn ∈ a_tbl := a_tbl_of (List.mem_of_getElem? (i := 38) rfl) rfl
set_option maxRecDepth 100000 in
theorem ks_X8_hasLight : Cond.selects RX8 yX8_hasLight yX8_hasLight ∈ a_tbl := a_tbl_of (List.mem_of_getElem? (i := 42) rfl) rfl
set_option maxRecDepth 100000 in
theorem ks_X8_holds : Cond.selects RX8 yX8_holds yX8_holds ∈ a_tbl := a_tbl_of (List.mem_of_getElem? (i := 51) rfl) rfl
set_option maxRecDepth 100000 in
theorem ks_X8_isDigit : Cond.selects RX8 yX8_isDigit yX8_isDigit ∈ a_tbl := a_tbl_of (List.mem_of_getElem? (i := 37) rfl) rfl
set_option maxRecDepth 100000 in
theorem ks_X8_isHere : Cond.selects RX8 yX8_isHere yX8_isHere ∈ a_tbl := a_tbl_of (List.mem_of_getElem? (i := 34) rfl) rfl
set_option maxRecDepth 100000 in
theorem ks_X8_isInFix : Cond.selects RX8 yX8_isInFix yX8_isInFix ∈ a_tbl := a_tbl_of (List.mem_of_getElem? (i := 50) rfl) rfl
set_option maxRecDepth 100000 in
theorem ks_X8_isLandable : Cond.selects RX8 yX8_isLandable yX8_isLandable ∈ a_tbl := a_tbl_of (List.mem_of_getElem? (i := 57) rfl) rfl
set_option maxRecDepth 100000 in
theorem ks_X8_isLight : Cond.selects RX8 yX8_isLight yX8_isLight ∈ a_tbl := a_tbl_of (List.mem_of_getElem? (i := 41) rfl) rfl
set_option maxRecDepth 100000 in
theorem ks_X8_isLit : Cond.selects RX8 yX8_isLit yX8_isLit ∈ a_tbl := a_tbl_of (List.mem_of_getElem? (i := 40) rfl) rfl
set_option maxRecDepth 100000 in
theorem ks_X8_isNear : Cond.selects RX8 yX8_isNear yX8_isNear ∈ a_tbl := a_tbl_of (List.mem_of_getElem? (i := 45) rfl) rfl
set_option maxRecDepth 100000 in
theorem ks_X8_isOut : Cond.selects RX8 yX8_isOut yX8_isOut ∈ a_tbl := a_tbl_of (List.mem_of_getElem? (i := 46) rfl) rfl
set_option maxRecDepth 100000 in
theorem ks_X8_isRock : Cond.selects RX8 yX8_isRock yX8_isRock ∈ a_tbl := a_tbl_of (List.mem_of_getElem? (i := 53) rfl) rfl
set_option maxRecDepth 100000 in
theorem ks_X8_keep : Cond.selects RX8 yX8_keep yX8_keep ∈ a_tbl := a_tbl_of (List.mem_of_getElem? (i := 39) rfl) rfl
set_option maxRecDepth 100000 in
theorem ks_X8_need : Cond.selects RX8 yX8_need yX8_need ∈ a_tbl := a_tbl_of (List.mem_of_getElem? (i := 35) rfl) rfl
set_option maxRecDepth 100000 in
theorem ks_X8_number : Cond.selects RX8 yX8_number yX8_number ∈ a_tbl := a_tbl_of (List.mem_of_getElem? (i := 36) rfl) rfl
set_option maxRecDepth 100000 in
theorem ks_X8_ofRock : Cond.selects RX8 yX8_ofRock yX8_ofRock ∈ a_tbl := a_tbl_of (List.mem_of_getElem? (i := 52) rfl) rfl
set_option maxRecDepth 100000 in
theorem ks_X8_overdueOf : Cond.selects RX8 yX8_overdueOf yX8_overdueOf ∈ a_tbl := a_tbl_of (List.mem_of_getElem? (i := 56) rfl) rfl
set_option maxRecDepth 100000 in
theorem ks_X8_readSort : Cond.selects RX8 yX8_readSort yX8_readSort ∈ a_tbl := a_tbl_of (List.mem_of_getElem? (i := 33) rfl) rfl
set_option maxRecDepth 100000 in
theorem ks_X8_restOf : Cond.selects RX8 yX8_restOf yX8_restOf ∈ a_tbl := a_tbl_of (List.mem_of_getElem? (i := 55) rfl) rfl
set_option maxRecDepth 100000 in
theorem ks_X8_seenFrom : Cond.selects RX8 yX8_seenFrom yX8_seenFrom ∈ a_tbl := a_tbl_of (List.mem_of_getElem? (i := 44) rfl) rfl
set_option maxRecDepth 100000 in
theorem kst_J13_bitCount_95d88 : Cond.static yJ13_bitCount_95d88 ∈ a_tbl := a_tbl_of (List.mem_of_getElem? (i := 465) rfl) rfl
set_option maxRecDepth 100000 in
theorem kst_J6_bitCount_0f7a4 : Cond.static yJ6_bitCount_0f7a4 ∈ a_tbl := a_tbl_of (List.mem_of_getElem? (i := 631) rfl) rfl
set_option maxRecDepth 100000 in
theorem kst_Math_max : Cond.static Lib.Math.max.name ∈ a_tbl := a_tbl_of (List.mem_of_getElem? (i := 439) rfl) rfl
set_option maxRecDepth 100000 in
theorem kst_Math_min : Cond.static Lib.Math.min.name ∈ a_tbl := a_tbl_of (List.mem_of_getElem? (i := 427) rfl) rfl
set_option maxRecDepth 100000 in
theorem kst_X0_landsFrom : Cond.static yX0_landsFrom ∈ a_tbl := a_tbl_of (List.mem_of_getElem? (i := 697) rfl) rfl
set_option maxRecDepth 100000 in
theorem kst_X7_colourIn : Cond.static yX7_colourIn ∈ a_tbl := a_tbl_of (List.mem_of_getElem? (i := 509) rfl) rfl
set_option maxRecDepth 100000 in
theorem kst_X7_directionOf : Cond.static yX7_directionOf ∈ a_tbl := a_tbl_of (List.mem_of_getElem? (i := 498) rfl) rfl
set_option maxRecDepth 100000 in
theorem kst_X7_isCell : Cond.static yX7_isCell ∈ a_tbl := a_tbl_of (List.mem_of_getElem? (i := 376) rfl) rfl
set_option maxRecDepth 100000 in
theorem kst_X7_isDay : Cond.static yX7_isDay ∈ a_tbl := a_tbl_of (List.mem_of_getElem? (i := 544) rfl) rfl
set_option maxRecDepth 100000 in
theorem kst_X7_isDirection : Cond.static yX7_isDirection ∈ a_tbl := a_tbl_of (List.mem_of_getElem? (i := 483) rfl) rfl
set_option maxRecDepth 100000 in
theorem kst_X7_isHour : Cond.static yX7_isHour ∈ a_tbl := a_tbl_of (List.mem_of_getElem? (i := 645) rfl) rfl
set_option maxRecDepth 100000 in
theorem kst_X7_isKind : Cond.static yX7_isKind ∈ a_tbl := a_tbl_of (List.mem_of_getElem? (i := 373) rfl) rfl
set_option maxRecDepth 100000 in
theorem kst_X7_isSheet : Cond.static yX7_isSheet ∈ a_tbl := a_tbl_of (List.mem_of_getElem? (i := 567) rfl) rfl
set_option maxRecDepth 100000 in
theorem kst_X7_isUnder : Cond.static yX7_isUnder ∈ a_tbl := a_tbl_of (List.mem_of_getElem? (i := 455) rfl) rfl
set_option maxRecDepth 100000 in
theorem kst_X7_isWithin : Cond.static yX7_isWithin ∈ a_tbl := a_tbl_of (List.mem_of_getElem? (i := 529) rfl) rfl
set_option maxRecDepth 100000 in
theorem kst_X7_liesIn : Cond.static yX7_liesIn ∈ a_tbl := a_tbl_of (List.mem_of_getElem? (i := 608) rfl) rfl
set_option maxRecDepth 100000 in
theorem kst_X7_mostAlike : Cond.static yX7_mostAlike ∈ a_tbl := a_tbl_of (List.mem_of_getElem? (i := 551) rfl) rfl
set_option maxRecDepth 100000 in
theorem kst_X7_oneLess : Cond.static yX7_oneLess ∈ a_tbl := a_tbl_of (List.mem_of_getElem? (i := 774) rfl) rfl
set_option maxRecDepth 100000 in
theorem kst_X7_turnedOver : Cond.static yX7_turnedOver ∈ a_tbl := a_tbl_of (List.mem_of_getElem? (i := 486) rfl) rfl
set_option maxRecDepth 100000 in
theorem kst_X8_behind : Cond.static yX8_behind ∈ a_tbl := a_tbl_of (List.mem_of_getElem? (i := 960) rfl) rfl
set_option maxRecDepth 100000 in
theorem kst_X8_eastOf : Cond.static yX8_eastOf ∈ a_tbl := a_tbl_of (List.mem_of_getElem? (i := 966) rfl) rfl
set_option maxRecDepth 100000 in
theorem kst_X8_isCell : Cond.static yX8_isCell ∈ a_tbl := a_tbl_of (List.mem_of_getElem? (i := 872) rfl) rfl
set_option maxRecDepth 100000 in
theorem kst_X8_isFrom : Cond.static yX8_isFrom ∈ a_tbl := a_tbl_of (List.mem_of_getElem? (i := 977) rfl) rfl
set_option maxRecDepth 100000 in
theorem kst_X8_isSheet : Cond.static yX8_isSheet ∈ a_tbl := a_tbl_of (List.mem_of_getElem? (i := 1025) rfl) rfl
set_option maxRecDepth 100000 in
theorem kst_X8_isWay : Cond.static yX8_isWay ∈ a_tbl := a_tbl_of (List.mem_of_getElem? (i := 942) rfl) rfl
set_option maxRecDepth 100000 in
theorem kst_X8_northOf : Cond.static yX8_northOf ∈ a_tbl := a_tbl_of (List.mem_of_getElem? (i := 963) rfl) rfl
set_option maxRecDepth 100000 in
theorem kst_X8_of : Cond.static yX8_of ∈ a_tbl := a_tbl_of (List.mem_of_getElem? (i := 907) rfl) rfl
set_option maxRecDepth 100000 in
theorem kst_X8_ones : Cond.static yX8_ones ∈ a_tbl := a_tbl_of (List.mem_of_getElem? (i := 927) rfl) rfl
set_option maxRecDepth 100000 in
theorem kst_X8_wayBetween : Cond.static yX8_wayBetween ∈ a_tbl := a_tbl_of (List.mem_of_getElem? (i := 954) rfl) rfl
set_option maxRecDepth 100000 in
theorem kst_X8_wayOf : Cond.static yX8_wayOf ∈ a_tbl := a_tbl_of (List.mem_of_getElem? (i := 957) rfl) rfl
set_option maxRecDepth 100000 in
theorem kst_X8_within : Cond.static yX8_within ∈ a_tbl := a_tbl_of (List.mem_of_getElem? (i := 862) rfl) rfl
set_option maxRecDepth 100000 in
theorem kst_cpy : Cond.static arraycopyName ∈ a_tbl := a_tbl_of (List.mem_of_getElem? (i := 587) rfl) rfl
theorem cg_X0_27 : GoodIn a_tbl (wsV RX0 27 RX0 yX0_pickRocks (Cond.code yX0_pickRocks cX0_pickRocks 7 (some .int) :: a_tbl)) := a_goodV km_X0_27 kin_X0_pickRocks ks_X0_pickRocks ki_X0 kd_X0_pickRocks
theorem cg_X0_31 : GoodIn a_tbl (wsV RX0 31 RX0 yX0_makeRoom (Cond.code yX0_makeRoom cX0_makeRoom 1 none :: a_tbl)) := a_goodV km_X0_31 kin_X0_makeRoom ks_X0_makeRoom ki_X0 kd_X0_makeRoom
theorem cg_X0_34 : GoodIn a_tbl (wsV RX0 34 RX0 yX0_endCosts (Cond.code yX0_endCosts cX0_endCosts 5 none :: a_tbl)) := a_goodV km_X0_34 kin_X0_endCosts ks_X0_endCosts ki_X0 kd_X0_endCosts
theorem cg_X0_38 : GoodIn a_tbl (wsV RX0 38 RX0 yX0_lookAt (Cond.code yX0_lookAt cX0_lookAt 6 none :: a_tbl)) := a_goodV km_X0_38 kin_X0_lookAt ks_X0_lookAt ki_X0 kd_X0_lookAt
theorem cg_X0_42 : GoodIn a_tbl (wsV RX0 42 RX0 yX0_workBack (Cond.code yX0_workBack cX0_workBack 7 none :: a_tbl)) := a_goodV km_X0_42 kin_X0_workBack ks_X0_workBack ki_X0 kd_X0_workBack
theorem cg_X0_46 : GoodIn a_tbl (wsV RX0 46 RX0 yX0_follow (Cond.code yX0_follow cX0_follow 5 none :: a_tbl)) := a_goodV km_X0_46 kin_X0_follow ks_X0_follow ki_X0 kd_X0_follow
theorem cg_X0_56 : GoodIn a_tbl (wsV RX0 56 RX1 yX1_isRock (Cond.code yX1_isRock cX1_isRock 1 (some .boolean) :: a_tbl)) := a_goodV km_X0_56 kin_X1_isRock ks_X1_isRock ki_X1 kd_X1_isRock
theorem cg_X0_62 : GoodIn a_tbl (wsV RX0 62 RX1 yX1_overdueOn (Cond.code yX1_overdueOn cX1_overdueOn 2 (some .int) :: a_tbl)) := a_goodV km_X0_62 kin_X1_overdueOn ks_X1_overdueOn ki_X1 kd_X1_overdueOn
theorem cg_X0_66 : GoodIn a_tbl (va_wsS RX0 66 yX0_landsFrom (Cond.code yX0_landsFrom cX0_landsFrom 4 (some .boolean) :: a_tbl)) := a_goodT km_X0_66 kst_X0_landsFrom ki_X0 kd_X0_landsFrom
theorem cg_X0_70 : GoodIn a_tbl (wsV RX0 70 RX1 yX1_landsIn (Cond.code yX1_landsIn cX1_landsIn 2 (some .boolean) :: a_tbl)) := a_goodV km_X0_70 kin_X1_landsIn ks_X1_landsIn ki_X1 kd_X1_landsIn
theorem cg_X1_62 : GoodIn a_tbl (wsV RX1 62 RX5 yX5_litSeconds (Cond.code yX5_litSeconds cX5_litSeconds 6 (some .long) :: a_tbl)) := a_goodV km_X1_62 kin_X5_litSeconds ks_X5_litSeconds ki_X5 kd_X5_litSeconds
theorem cg_X5_28 : GoodIn a_tbl (wsV RX5 28 RX5 yX5_readRhythm (Cond.code yX5_readRhythm cX5_readRhythm 1 (some .boolean) :: a_tbl)) := a_goodV km_X5_28 kin_X5_readRhythm ks_X5_readRhythm ki_X5 kd_X5_readRhythm
theorem cg_X5_32 : GoodIn a_tbl (wsV RX5 32 RX5 yX5_readColour (Cond.code yX5_readColour cX5_readColour 1 (some .boolean) :: a_tbl)) := a_goodV km_X5_32 kin_X5_readColour ks_X5_readColour ki_X5 kd_X5_readColour
theorem cg_X5_38 : GoodIn a_tbl (wsV RX5 38 RX5 yX5_readPeriod (Cond.code yX5_readPeriod cX5_readPeriod 1 (some .boolean) :: a_tbl)) := a_goodV km_X5_38 kin_X5_readPeriod ks_X5_readPeriod ki_X5 kd_X5_readPeriod
theorem cg_X5_41 : GoodIn a_tbl (wsV RX5 41 RX5 yX5_goesIn (Cond.code yX5_goesIn cX5_goesIn 1 (some .boolean) :: a_tbl)) := a_goodV km_X5_41 kin_X5_goesIn ks_X5_goesIn ki_X5 kd_X5_goesIn
theorem cg_X5_47 : GoodIn a_tbl (wsV RX5 47 RX5 yX5_takes (Cond.code yX5_takes cX5_takes 2 (some .boolean) :: a_tbl)) := a_goodV km_X5_47 kin_X5_takes ks_X5_takes ki_X5 kd_X5_takes
theorem cg_X5_51 : GoodIn a_tbl (wsV RX5 51 RX5 yX5_readTimes (Cond.code yX5_readTimes cX5_readTimes 1 (some .boolean) :: a_tbl)) := a_goodV km_X5_51 kin_X5_readTimes ks_X5_readTimes ki_X5 kd_X5_readTimes
theorem cg_X5_54 : GoodIn a_tbl (wsV RX5 54 RX5 yX5_readNumber (Cond.code yX5_readNumber cX5_readNumber 2 (some .boolean) :: a_tbl)) := a_goodV km_X5_54 kin_X5_readNumber ks_X5_readNumber ki_X5 kd_X5_readNumber
theorem cg_X5_63 : GoodIn a_tbl (wsV RX5 63 RX5 yX5_isDigit (Cond.code yX5_isDigit cX5_isDigit 1 (some .boolean) :: a_tbl)) := a_goodV km_X5_63 kin_X5_isDigit ks_X5_isDigit ki_X5 kd_X5_isDigit
theorem cg_X7_100 : GoodIn a_tbl (wsV RX7 100 RX1 yX1_become (Cond.code yX1_become cX1_become 4 none :: a_tbl)) := a_goodV km_X7_100 kin_X1_become ks_X1_become ki_X1 kd_X1_become
theorem cg_X7_104 : GoodIn a_tbl (wsV RX7 104 RX1 yX1_take (Cond.code yX1_take cX1_take 6 none :: a_tbl)) := a_goodV km_X7_104 kin_X1_take ks_X1_take ki_X1 kd_X1_take
theorem cg_X7_108 : GoodIn a_tbl (wsV RX7 108 RX7 yX7_isLight (Cond.code yX7_isLight cX7_isLight 2 (some .boolean) :: a_tbl)) := a_goodV km_X7_108 kin_X7_isLight ks_X7_isLight ki_X7 kd_X7_isLight
theorem cg_X7_114 : GoodIn a_tbl (va_wsS RX7 114 yX7_isUnder (Cond.code yX7_isUnder cX7_isUnder 4 (some .boolean) :: a_tbl)) := a_goodT km_X7_114 kst_X7_isUnder ki_X7 kd_X7_isUnder
theorem cg_X7_135 : GoodIn a_tbl (va_wsS RX7 135 yJ13_bitCount_95d88 (Cond.code yJ13_bitCount_95d88 cJ13_bitCount_95d88 2 (some .int) :: a_tbl)) := a_goodT km_X7_135 kst_J13_bitCount_95d88 ki_J13 kd_J13_bitCount_95d88
theorem cg_X7_147 : GoodIn a_tbl (wsV RX7 147 RX1 yX1_isLitAt (Cond.code yX1_isLitAt cX1_isLitAt 2 (some .boolean) :: a_tbl)) := a_goodV km_X7_147 kin_X1_isLitAt ks_X1_isLitAt ki_X1 kd_X1_isLitAt
theorem cg_X7_150 : GoodIn a_tbl (va_wsS RX7 150 yX7_isDirection (Cond.code yX7_isDirection cX7_isDirection 1 (some .boolean) :: a_tbl)) := a_goodT km_X7_150 kst_X7_isDirection ki_X7 kd_X7_isDirection
theorem cg_X7_156 : GoodIn a_tbl (va_wsS RX7 156 yX7_turnedOver (Cond.code yX7_turnedOver cX7_turnedOver 5 (some .int) :: a_tbl)) := a_goodT km_X7_156 kst_X7_turnedOver ki_X7 kd_X7_turnedOver
theorem cg_X7_161 : GoodIn a_tbl (va_wsS RX7 161 yX7_directionOf (Cond.code yX7_directionOf cX7_directionOf 7 (some .int) :: a_tbl)) := a_goodT km_X7_161 kst_X7_directionOf ki_X7 kd_X7_directionOf
theorem cg_X7_164 : GoodIn a_tbl (va_wsS RX7 164 yX7_colourIn (Cond.code yX7_colourIn cX7_colourIn 2 (some .int) :: a_tbl)) := a_goodT km_X7_164 kst_X7_colourIn ki_X7 kd_X7_colourIn
theorem cg_X7_168 : GoodIn a_tbl (wsV RX7 168 RX7 yX7_seenFrom (Cond.code yX7_seenFrom cX7_seenFrom 5 (some .int) :: a_tbl)) := a_goodV km_X7_168 kin_X7_seenFrom ks_X7_seenFrom ki_X7 kd_X7_seenFrom
theorem cg_X7_174 : GoodIn a_tbl (va_wsS RX7 174 yX7_isDay (Cond.code yX7_isDay cX7_isDay 1 (some .boolean) :: a_tbl)) := a_goodT km_X7_174 kst_X7_isDay ki_X7 kd_X7_isDay
theorem cg_X7_180 : GoodIn a_tbl (va_wsS RX7 180 yX7_mostAlike (Cond.code yX7_mostAlike cX7_mostAlike 7 (some .int) :: a_tbl)) := a_goodT km_X7_180 kst_X7_mostAlike ki_X7 kd_X7_mostAlike
theorem cg_X7_185 : GoodIn a_tbl (wsV RX7 185 RX7 yX7_allLights (Cond.code yX7_allLights cX7_allLights 1 (some .int) :: a_tbl)) := a_goodV km_X7_185 kin_X7_allLights ks_X7_allLights ki_X7 kd_X7_allLights
theorem cg_X7_193 : GoodIn a_tbl (va_wsS RX7 193 yX7_isSheet (Cond.code yX7_isSheet cX7_isSheet 1 (some .boolean) :: a_tbl)) := a_goodT km_X7_193 kst_X7_isSheet ki_X7 kd_X7_isSheet
theorem cg_X7_200 : GoodIn a_tbl (wsV RX7 200 RX3 yX3_asSeconds (Cond.code yX3_asSeconds cX3_asSeconds 4 (some .long) :: a_tbl)) := a_goodV km_X7_200 kin_X3_asSeconds ks_X3_asSeconds ki_X3 kd_X3_asSeconds
theorem cg_X7_207 : GoodIn a_tbl (wsV RX7 207 RX1 yX1_hasRow (Cond.code yX1_hasRow cX1_hasRow 7 (some .boolean) :: a_tbl)) := a_goodV km_X7_207 kin_X1_hasRow ks_X1_hasRow ki_X1 kd_X1_hasRow
theorem cg_X7_225 : GoodIn a_tbl (wsV RX7 225 RX7 yX7_findFix (Cond.code yX7_findFix cX7_findFix 2 none :: a_tbl)) := a_goodV km_X7_225 kin_X7_findFix ks_X7_findFix ki_X7 kd_X7_findFix
theorem cg_X7_228 : GoodIn a_tbl (wsV RX7 228 RX7 yX7_placeInFairway (Cond.code yX7_placeInFairway cX7_placeInFairway 3 (some .int) :: a_tbl)) := a_goodV km_X7_228 kin_X7_placeInFairway ks_X7_placeInFairway ki_X7 kd_X7_placeInFairway
theorem cg_X7_234 : GoodIn a_tbl (wsV RX7 234 RX7 yX7_setFairway (Cond.code yX7_setFairway cX7_setFairway 4 none :: a_tbl)) := a_goodV km_X7_234 kin_X7_setFairway ks_X7_setFairway ki_X7 kd_X7_setFairway
theorem cg_X7_238 : GoodIn a_tbl (va_wsS RX7 238 yJ6_bitCount_0f7a4 (Cond.code yJ6_bitCount_0f7a4 cJ6_bitCount_0f7a4 1 (some .int) :: a_tbl)) := a_goodT km_X7_238 kst_J6_bitCount_0f7a4 ki_J6 kd_J6_bitCount_0f7a4
theorem cg_X7_242 : GoodIn a_tbl (wsV RX7 242 RX7 yX7_lightsFairway (Cond.code yX7_lightsFairway cX7_lightsFairway 3 (some .boolean) :: a_tbl)) := a_goodV km_X7_242 kin_X7_lightsFairway ks_X7_lightsFairway ki_X7 kd_X7_lightsFairway
theorem cg_X7_245 : GoodIn a_tbl (va_wsS RX7 245 yX7_isHour (Cond.code yX7_isHour cX7_isHour 1 (some .boolean) :: a_tbl)) := a_goodT km_X7_245 kst_X7_isHour ki_X7 kd_X7_isHour
theorem cg_X7_248 : GoodIn a_tbl (wsV RX7 248 RX6 yX6_latestHour (Cond.code yX6_latestHour cX6_latestHour 1 (some .int) :: a_tbl)) := a_goodV km_X7_248 kin_X6_latestHour ks_X6_latestHour ki_X6 kd_X6_latestHour
theorem cg_X7_252 : GoodIn a_tbl (wsV RX7 252 RX6 yX6_append (Cond.code yX6_append cX6_append 6 none :: a_tbl)) := a_goodV km_X7_252 kin_X6_append ks_X6_append ki_X6 kd_X6_append
theorem cg_X7_255 : GoodIn a_tbl (wsV RX7 255 RX6 yX6_tellOut (Cond.code yX6_tellOut cX6_tellOut 5 (some .boolean) :: a_tbl)) := a_goodV km_X7_255 kin_X6_tellOut ks_X6_tellOut ki_X6 kd_X6_tellOut
theorem cg_X7_259 : GoodIn a_tbl (wsV RX7 259 RX1 yX1_isRock (Cond.code yX1_isRock cX1_isRock 1 (some .boolean) :: a_tbl)) := a_goodV km_X7_259 kin_X1_isRock ks_X1_isRock ki_X1 kd_X1_isRock
theorem cg_X7_272 : GoodIn a_tbl (wsV RX7 272 RX7 yX7_findLandings (Cond.code yX7_findLandings cX7_findLandings 1 none :: a_tbl)) := a_goodV km_X7_272 kin_X7_findLandings ks_X7_findLandings ki_X7 kd_X7_findLandings
theorem cg_X7_281 : GoodIn a_tbl (wsV RX7 281 RX7 yX7_firstWrong (Cond.code yX7_firstWrong cX7_firstWrong 7 (some .int) :: a_tbl)) := a_goodV km_X7_281 kin_X7_firstWrong ks_X7_firstWrong ki_X7 kd_X7_firstWrong
theorem cg_X7_285 : GoodIn a_tbl (wsV RX7 285 RX3 yX3_renew (Cond.code yX3_renew cX3_renew 4 none :: a_tbl)) := a_goodV km_X7_285 kin_X3_renew ks_X3_renew ki_X3 kd_X3_renew
theorem cg_X7_289 : GoodIn a_tbl (wsV RX7 289 RX3 yX3_lowest (Cond.code yX3_lowest cX3_lowest 2 (some .int) :: a_tbl)) := a_goodV km_X7_289 kin_X3_lowest ks_X3_lowest ki_X3 kd_X3_lowest
theorem cg_X7_292 : GoodIn a_tbl (wsV RX7 292 RX3 yX3_hasNumbers (Cond.code yX3_hasNumbers cX3_hasNumbers 3 (some .boolean) :: a_tbl)) := a_goodV km_X7_292 kin_X3_hasNumbers ks_X3_hasNumbers ki_X3 kd_X3_hasNumbers
theorem cg_X7_295 : GoodIn a_tbl (wsV RX7 295 RX2 yX2_takeLatest (Cond.code yX2_takeLatest cX2_takeLatest 1 (some (.object "CoastLights$Step")) :: a_tbl)) := a_goodV km_X7_295 kin_X2_takeLatest ks_X2_takeLatest ki_X2 kd_X2_takeLatest
theorem cg_X7_299 : GoodIn a_tbl (wsV RX7 299 RX7 yX7_takeBack (Cond.code yX7_takeBack cX7_takeBack 2 none :: a_tbl)) := a_goodV km_X7_299 kin_X7_takeBack ks_X7_takeBack ki_X7 kd_X7_takeBack
theorem cg_X7_303 : GoodIn a_tbl (wsV RX7 303 RX7 yX7_forgetFound (Cond.code yX7_forgetFound cX7_forgetFound 1 none :: a_tbl)) := a_goodV km_X7_303 kin_X7_forgetFound ks_X7_forgetFound ki_X7 kd_X7_forgetFound
theorem cg_X7_307 : GoodIn a_tbl (wsV RX7 307 RX7 yX7_countRocks (Cond.code yX7_countRocks cX7_countRocks 3 (some .int) :: a_tbl)) := a_goodV km_X7_307 kin_X7_countRocks ks_X7_countRocks ki_X7 kd_X7_countRocks
theorem cg_X7_322 : GoodIn a_tbl (wsV RX7 322 RX1 yX1_colourTowards (Cond.code yX1_colourTowards cX1_colourTowards 3 (some .int) :: a_tbl)) := a_goodV km_X7_322 kin_X1_colourTowards ks_X1_colourTowards ki_X1 kd_X1_colourTowards
theorem cg_X7_325 : GoodIn a_tbl (wsV RX7 325 RX7 yX7_reachOf (Cond.code yX7_reachOf cX7_reachOf 2 (some .int) :: a_tbl)) := a_goodV km_X7_325 kin_X7_reachOf ks_X7_reachOf ki_X7 kd_X7_reachOf
theorem cg_X7_329 : GoodIn a_tbl (va_wsS RX7 329 yX7_isWithin (Cond.code yX7_isWithin cX7_isWithin 5 (some .boolean) :: a_tbl)) := a_goodT km_X7_329 kst_X7_isWithin ki_X7 kd_X7_isWithin
theorem cg_X7_340 : GoodIn a_tbl (wsV RX7 340 RX7 yX7_holdsForAll (Cond.code yX7_holdsForAll cX7_holdsForAll 3 (some .boolean) :: a_tbl)) := a_goodV km_X7_340 kin_X7_holdsForAll ks_X7_holdsForAll ki_X7 kd_X7_holdsForAll
theorem cg_X7_344 : GoodIn a_tbl (wsV RX7 344 RX7 yX7_holdsFor (Cond.code yX7_holdsFor cX7_holdsFor 12 (some .boolean) :: a_tbl)) := a_goodV km_X7_344 kin_X7_holdsFor ks_X7_holdsFor ki_X7 kd_X7_holdsFor
theorem cg_X7_351 : GoodIn a_tbl (va_wsS RX7 351 yX7_liesIn (Cond.code yX7_liesIn cX7_liesIn 3 (some .boolean) :: a_tbl)) := a_goodT km_X7_351 kst_X7_liesIn ki_X7 kd_X7_liesIn
theorem cg_X7_357 : GoodIn a_tbl (wsV RX7 357 RX0 yX0_find (Cond.code yX0_find cX0_find 7 none :: a_tbl)) := a_goodV km_X7_357 kin_X0_find ks_X0_find ki_X0 kd_X0_find
theorem cg_X7_361 : GoodIn a_tbl (wsV RX7 361 RX1 yX1_landsIn (Cond.code yX1_landsIn cX1_landsIn 2 (some .boolean) :: a_tbl)) := a_goodV km_X7_361 kin_X1_landsIn ks_X1_landsIn ki_X1 kd_X1_landsIn
theorem cg_X7_364 : GoodIn a_tbl (wsV RX7 364 RX1 yX1_overdueOn (Cond.code yX1_overdueOn cX1_overdueOn 2 (some .int) :: a_tbl)) := a_goodV km_X7_364 kin_X1_overdueOn ks_X1_overdueOn ki_X1 kd_X1_overdueOn
theorem cg_X7_367 : GoodIn a_tbl (wsV RX7 367 RX2 yX2_next (Cond.code yX2_next cX2_next 2 (some (.object "CoastLights$Step")) :: a_tbl)) := a_goodV km_X7_367 kin_X2_next ks_X2_next ki_X2 kd_X2_next
theorem cg_X7_379 : GoodIn a_tbl (va_wsS RX7 379 yX7_oneLess (Cond.code yX7_oneLess cX7_oneLess 1 (some .int) :: a_tbl)) := a_goodT km_X7_379 kst_X7_oneLess ki_X7 kd_X7_oneLess
theorem cg_X7_69 : GoodIn a_tbl (wsV RX7 69 RX7 yX7_refuse (Cond.code yX7_refuse cX7_refuse 2 (some .int) :: a_tbl)) := a_goodV km_X7_69 kin_X7_refuse ks_X7_refuse ki_X7 kd_X7_refuse
theorem cg_X7_78 : GoodIn a_tbl (wsV RX7 78 RX5 yX5_append (Cond.code yX5_append cX5_append 5 none :: a_tbl)) := a_goodV km_X7_78 kin_X5_append ks_X5_append ki_X5 kd_X5_append
theorem cg_X7_82 : GoodIn a_tbl (va_wsS RX7 82 yX7_isKind (Cond.code yX7_isKind cX7_isKind 1 (some .boolean) :: a_tbl)) := a_goodT km_X7_82 kst_X7_isKind ki_X7 kd_X7_isKind
theorem cg_X7_86 : GoodIn a_tbl (va_wsS RX7 86 yX7_isCell (Cond.code yX7_isCell cX7_isCell 1 (some .boolean) :: a_tbl)) := a_goodT km_X7_86 kst_X7_isCell ki_X7 kd_X7_isCell
theorem cg_X7_92 : GoodIn a_tbl (wsV RX7 92 RX5 yX5_findFault (Cond.code yX5_findFault cX5_findFault 1 (some .int) :: a_tbl)) := a_goodV km_X7_92 kin_X5_findFault ks_X5_findFault ki_X5 kd_X5_findFault
theorem cg_X7_96 : GoodIn a_tbl (wsV RX7 96 RX7 yX7_remember (Cond.code yX7_remember cX7_remember 5 (some (.object "CoastLights$Step")) :: a_tbl)) := a_goodV km_X7_96 kin_X7_remember ks_X7_remember ki_X7 kd_X7_remember
theorem cg_X8_105 : GoodIn a_tbl (wsV RX8 105 RX8 yX8_goesIn (Cond.code yX8_goesIn cX8_goesIn 1 (some .boolean) :: a_tbl)) := a_goodV km_X8_105 kin_X8_goesIn ks_X8_goesIn ki_X8 kd_X8_goesIn
theorem cg_X8_108 : GoodIn a_tbl (va_wsS RX8 108 yX8_isCell (Cond.code yX8_isCell cX8_isCell 1 (some .boolean) :: a_tbl)) := a_goodT km_X8_108 kst_X8_isCell ki_X8 kd_X8_isCell
theorem cg_X8_111 : GoodIn a_tbl (wsV RX8 111 RX8 yX8_faultOf (Cond.code yX8_faultOf cX8_faultOf 1 (some .int) :: a_tbl)) := a_goodV km_X8_111 kin_X8_faultOf ks_X8_faultOf ki_X8 kd_X8_faultOf
theorem cg_X8_114 : GoodIn a_tbl (wsV RX8 114 RX8 yX8_keep (Cond.code yX8_keep cX8_keep 2 none :: a_tbl)) := a_goodV km_X8_114 kin_X8_keep ks_X8_keep ki_X8 kd_X8_keep
theorem cg_X8_117 : GoodIn a_tbl (wsV RX8 117 RX8 yX8_isLit (Cond.code yX8_isLit cX8_isLit 2 (some .boolean) :: a_tbl)) := a_goodV km_X8_117 kin_X8_isLit ks_X8_isLit ki_X8 kd_X8_isLit
theorem cg_X8_120 : GoodIn a_tbl (wsV RX8 120 RX8 yX8_isLight (Cond.code yX8_isLight cX8_isLight 2 (some .boolean) :: a_tbl)) := a_goodV km_X8_120 kin_X8_isLight ks_X8_isLight ki_X8 kd_X8_isLight
theorem cg_X8_124 : GoodIn a_tbl (va_wsS RX8 124 yX8_ones (Cond.code yX8_ones cX8_ones 3 (some .int) :: a_tbl)) := a_goodT km_X8_124 kst_X8_ones ki_X8 kd_X8_ones
theorem cg_X8_127 : GoodIn a_tbl (wsV RX8 127 RX8 yX8_hasLight (Cond.code yX8_hasLight cX8_hasLight 3 (some .boolean) :: a_tbl)) := a_goodV km_X8_127 kin_X8_hasLight ks_X8_hasLight ki_X8 kd_X8_hasLight
theorem cg_X8_131 : GoodIn a_tbl (va_wsS RX8 131 yX8_isWay (Cond.code yX8_isWay cX8_isWay 1 (some .boolean) :: a_tbl)) := a_goodT km_X8_131 kst_X8_isWay ki_X8 kd_X8_isWay
theorem cg_X8_134 : GoodIn a_tbl (va_wsS RX8 134 yX8_northOf (Cond.code yX8_northOf cX8_northOf 3 (some .int) :: a_tbl)) := a_goodT km_X8_134 kst_X8_northOf ki_X8 kd_X8_northOf
theorem cg_X8_137 : GoodIn a_tbl (va_wsS RX8 137 yX8_eastOf (Cond.code yX8_eastOf cX8_eastOf 3 (some .int) :: a_tbl)) := a_goodT km_X8_137 kst_X8_eastOf ki_X8 kd_X8_eastOf
theorem cg_X8_140 : GoodIn a_tbl (va_wsS RX8 140 yX8_behind (Cond.code yX8_behind cX8_behind 3 (some .int) :: a_tbl)) := a_goodT km_X8_140 kst_X8_behind ki_X8 kd_X8_behind
theorem cg_X8_144 : GoodIn a_tbl (va_wsS RX8 144 yX8_wayOf (Cond.code yX8_wayOf cX8_wayOf 3 (some .int) :: a_tbl)) := a_goodT km_X8_144 kst_X8_wayOf ki_X8 kd_X8_wayOf
theorem cg_X8_148 : GoodIn a_tbl (va_wsS RX8 148 yX8_wayBetween (Cond.code yX8_wayBetween cX8_wayBetween 2 (some .int) :: a_tbl)) := a_goodT km_X8_148 kst_X8_wayBetween ki_X8 kd_X8_wayBetween
theorem cg_X8_151 : GoodIn a_tbl (va_wsS RX8 151 yX8_isFrom (Cond.code yX8_isFrom cX8_isFrom 3 (some .boolean) :: a_tbl)) := a_goodT km_X8_151 kst_X8_isFrom ki_X8 kd_X8_isFrom
theorem cg_X8_154 : GoodIn a_tbl (wsV RX8 154 RX8 yX8_colourOf (Cond.code yX8_colourOf cX8_colourOf 9 (some .int) :: a_tbl)) := a_goodV km_X8_154 kin_X8_colourOf ks_X8_colourOf ki_X8 kd_X8_colourOf
theorem cg_X8_162 : GoodIn a_tbl (wsV RX8 162 RX8 yX8_isNear (Cond.code yX8_isNear cX8_isNear 7 (some .boolean) :: a_tbl)) := a_goodV km_X8_162 kin_X8_isNear ks_X8_isNear ki_X8 kd_X8_isNear
theorem cg_X8_165 : GoodIn a_tbl (wsV RX8 165 RX8 yX8_isOut (Cond.code yX8_isOut cX8_isOut 8 (some .boolean) :: a_tbl)) := a_goodV km_X8_165 kin_X8_isOut ks_X8_isOut ki_X8 kd_X8_isOut
theorem cg_X8_168 : GoodIn a_tbl (wsV RX8 168 RX8 yX8_seenFrom (Cond.code yX8_seenFrom cX8_seenFrom 5 (some .int) :: a_tbl)) := a_goodV km_X8_168 kin_X8_seenFrom ks_X8_seenFrom ki_X8 kd_X8_seenFrom
theorem cg_X8_171 : GoodIn a_tbl (wsV RX8 171 RX8 yX8_becomes (Cond.code yX8_becomes cX8_becomes 4 (some .int) :: a_tbl)) := a_goodV km_X8_171 kin_X8_becomes ks_X8_becomes ki_X8 kd_X8_becomes
theorem cg_X8_174 : GoodIn a_tbl (wsV RX8 174 RX8 yX8_alike (Cond.code yX8_alike cX8_alike 7 (some .int) :: a_tbl)) := a_goodV km_X8_174 kin_X8_alike ks_X8_alike ki_X8 kd_X8_alike
theorem cg_X8_177 : GoodIn a_tbl (va_wsS RX8 177 yX8_isSheet (Cond.code yX8_isSheet cX8_isSheet 1 (some .boolean) :: a_tbl)) := a_goodT km_X8_177 kst_X8_isSheet ki_X8 kd_X8_isSheet
theorem cg_X8_181 : GoodIn a_tbl (wsV RX8 181 RX8 yX8_fitsFrom (Cond.code yX8_fitsFrom cX8_fitsFrom 5 (some .boolean) :: a_tbl)) := a_goodV km_X8_181 kin_X8_fitsFrom ks_X8_fitsFrom ki_X8 kd_X8_fitsFrom
theorem cg_X8_187 : GoodIn a_tbl (wsV RX8 187 RX8 yX8_holds (Cond.code yX8_holds cX8_holds 10 (some .boolean) :: a_tbl)) := a_goodV km_X8_187 kin_X8_holds ks_X8_holds ki_X8 kd_X8_holds
theorem cg_X8_190 : GoodIn a_tbl (wsV RX8 190 RX8 yX8_isInFix (Cond.code yX8_isInFix cX8_isInFix 4 (some .boolean) :: a_tbl)) := a_goodV km_X8_190 kin_X8_isInFix ks_X8_isInFix ki_X8 kd_X8_isInFix
theorem cg_X8_193 : GoodIn a_tbl (wsV RX8 193 RX8 yX8_isRock (Cond.code yX8_isRock cX8_isRock 3 (some .boolean) :: a_tbl)) := a_goodV km_X8_193 kin_X8_isRock ks_X8_isRock ki_X8 kd_X8_isRock
theorem cg_X8_196 : GoodIn a_tbl (wsV RX8 196 RX8 yX8_ofRock (Cond.code yX8_ofRock cX8_ofRock 5 (some .int) :: a_tbl)) := a_goodV km_X8_196 kin_X8_ofRock ks_X8_ofRock ki_X8 kd_X8_ofRock
theorem cg_X8_200 : GoodIn a_tbl (wsV RX8 200 RX8 yX8_overdueOf (Cond.code yX8_overdueOf cX8_overdueOf 3 (some .int) :: a_tbl)) := a_goodV km_X8_200 kin_X8_overdueOf ks_X8_overdueOf ki_X8 kd_X8_overdueOf
theorem cg_X8_203 : GoodIn a_tbl (wsV RX8 203 RX8 yX8_restOf (Cond.code yX8_restOf cX8_restOf 4 (some .int) :: a_tbl)) := a_goodV km_X8_203 kin_X8_restOf ks_X8_restOf ki_X8 kd_X8_restOf
theorem cg_X8_206 : GoodIn a_tbl (wsV RX8 206 RX8 yX8_isLandable (Cond.code yX8_isLandable cX8_isLandable 3 (some .boolean) :: a_tbl)) := a_goodV km_X8_206 kin_X8_isLandable ks_X8_isLandable ki_X8 kd_X8_isLandable
theorem cg_X8_209 : GoodIn a_tbl (wsV RX8 209 RX8 yX8_byLanding (Cond.code yX8_byLanding cX8_byLanding 4 (some .int) :: a_tbl)) := a_goodV km_X8_209 kin_X8_byLanding ks_X8_byLanding ki_X8 kd_X8_byLanding
theorem cg_X8_212 : GoodIn a_tbl (wsV RX8 212 RX8 yX8_findLandings (Cond.code yX8_findLandings cX8_findLandings 6 none :: a_tbl)) := a_goodV km_X8_212 kin_X8_findLandings ks_X8_findLandings ki_X8 kd_X8_findLandings
theorem cg_X8_215 : GoodIn a_tbl (wsV RX8 215 RX8 yX8_firstOn (Cond.code yX8_firstOn cX8_firstOn 5 (some .int) :: a_tbl)) := a_goodV km_X8_215 kin_X8_firstOn ks_X8_firstOn ki_X8 kd_X8_firstOn
theorem cg_X8_41 : GoodIn a_tbl (va_wsS RX8 41 yX8_within (Cond.code yX8_within cX8_within 3 (some .boolean) :: a_tbl)) := a_goodT km_X8_41 kst_X8_within ki_X8 kd_X8_within
theorem cg_X8_45 : GoodIn a_tbl (va_wsS RX8 45 yX8_of (Cond.code yX8_of cX8_of 2 (some .int) :: a_tbl)) := a_goodT km_X8_45 kst_X8_of ki_X8 kd_X8_of
theorem cg_X8_53 : GoodIn a_tbl (wsV RX8 53 RX8 yX8_finding (Cond.code yX8_finding cX8_finding 2 (some .int) :: a_tbl)) := a_goodV km_X8_53 kin_X8_finding ks_X8_finding ki_X8 kd_X8_finding
theorem cg_X8_71 : GoodIn a_tbl (wsV RX8 71 RX8 yX8_isHere (Cond.code yX8_isHere cX8_isHere 2 (some .boolean) :: a_tbl)) := a_goodV km_X8_71 kin_X8_isHere ks_X8_isHere ki_X8 kd_X8_isHere
theorem cg_X8_75 : GoodIn a_tbl (wsV RX8 75 RX8 yX8_isDigit (Cond.code yX8_isDigit cX8_isDigit 1 (some .boolean) :: a_tbl)) := a_goodV km_X8_75 kin_X8_isDigit ks_X8_isDigit ki_X8 kd_X8_isDigit
theorem cg_X8_82 : GoodIn a_tbl (wsV RX8 82 RX8 yX8_need (Cond.code yX8_need cX8_need 2 none :: a_tbl)) := a_goodV km_X8_82 kin_X8_need ks_X8_need ki_X8 kd_X8_need
theorem cg_X8_89 : GoodIn a_tbl (wsV RX8 89 RX8 yX8_number (Cond.code yX8_number cX8_number 3 (some .int) :: a_tbl)) := a_goodV km_X8_89 kin_X8_number ks_X8_number ki_X8 kd_X8_number
theorem cg_X8_96 : GoodIn a_tbl (wsV RX8 96 RX8 yX8_readSort (Cond.code yX8_readSort cX8_readSort 1 none :: a_tbl)) := a_goodV km_X8_96 kin_X8_readSort ks_X8_readSort ki_X8 kd_X8_readSort
theorem hd_J13_bitCount_95d88 : yJ13_bitCount_95d88.cls ≠ "java/lang/invoke/MethodHandle" ∧ yJ13_bitCount_95d88.cls ≠ "java/lang/invoke/VarHandle" ∧ (parseMethodDescriptor yJ13_bitCount_95d88.desc).map (fun d => d.parameters.length) = some 1 := by decide +kernel
theorem hd_J6_bitCount_0f7a4 : yJ6_bitCount_0f7a4.cls ≠ "java/lang/invoke/MethodHandle" ∧ yJ6_bitCount_0f7a4.cls ≠ "java/lang/invoke/VarHandle" ∧ (parseMethodDescriptor yJ6_bitCount_0f7a4.desc).map (fun d => d.parameters.length) = some 1 := by decide +kernel
theorem hd_X0_endCosts : yX0_endCosts.cls = RX0 ∧ yX0_endCosts.cls ≠ "java/lang/invoke/MethodHandle" ∧ yX0_endCosts.cls ≠ "java/lang/invoke/VarHandle" ∧ (parseMethodDescriptor yX0_endCosts.desc).map (fun d => d.parameters.length) = some 1 := by decide +kernel
theorem hd_X0_find : yX0_find.cls = RX0 ∧ yX0_find.cls ≠ "java/lang/invoke/MethodHandle" ∧ yX0_find.cls ≠ "java/lang/invoke/VarHandle" ∧ (parseMethodDescriptor yX0_find.desc).map (fun d => d.parameters.length) = some 4 := by decide +kernel
theorem hd_X0_follow : yX0_follow.cls = RX0 ∧ yX0_follow.cls ≠ "java/lang/invoke/MethodHandle" ∧ yX0_follow.cls ≠ "java/lang/invoke/VarHandle" ∧ (parseMethodDescriptor yX0_follow.desc).map (fun d => d.parameters.length) = some 1 := by decide +kernel
theorem hd_X0_landsFrom : yX0_landsFrom.cls ≠ "java/lang/invoke/MethodHandle" ∧ yX0_landsFrom.cls ≠ "java/lang/invoke/VarHandle" ∧ (parseMethodDescriptor yX0_landsFrom.desc).map (fun d => d.parameters.length) = some 3 := by decide +kernel
theorem hd_X0_lookAt : yX0_lookAt.cls = RX0 ∧ yX0_lookAt.cls ≠ "java/lang/invoke/MethodHandle" ∧ yX0_lookAt.cls ≠ "java/lang/invoke/VarHandle" ∧ (parseMethodDescriptor yX0_lookAt.desc).map (fun d => d.parameters.length) = some 3 := by decide +kernel
theorem hd_X0_makeRoom : yX0_makeRoom.cls = RX0 ∧ yX0_makeRoom.cls ≠ "java/lang/invoke/MethodHandle" ∧ yX0_makeRoom.cls ≠ "java/lang/invoke/VarHandle" ∧ (parseMethodDescriptor yX0_makeRoom.desc).map (fun d => d.parameters.length) = some 0 := by decide +kernel
theorem hd_X0_pickRocks : yX0_pickRocks.cls = RX0 ∧ yX0_pickRocks.cls ≠ "java/lang/invoke/MethodHandle" ∧ yX0_pickRocks.cls ≠ "java/lang/invoke/VarHandle" ∧ (parseMethodDescriptor yX0_pickRocks.desc).map (fun d => d.parameters.length) = some 4 := by decide +kernel
theorem hd_X0_workBack : yX0_workBack.cls = RX0 ∧ yX0_workBack.cls ≠ "java/lang/invoke/MethodHandle" ∧ yX0_workBack.cls ≠ "java/lang/invoke/VarHandle" ∧ (parseMethodDescriptor yX0_workBack.desc).map (fun d => d.parameters.length) = some 1 := by decide +kernel
theorem hd_X1_become : yX1_become.cls = RX1 ∧ yX1_become.cls ≠ "java/lang/invoke/MethodHandle" ∧ yX1_become.cls ≠ "java/lang/invoke/VarHandle" ∧ (parseMethodDescriptor yX1_become.desc).map (fun d => d.parameters.length) = some 3 := by decide +kernel
theorem hd_X1_colourTowards : yX1_colourTowards.cls = RX1 ∧ yX1_colourTowards.cls ≠ "java/lang/invoke/MethodHandle" ∧ yX1_colourTowards.cls ≠ "java/lang/invoke/VarHandle" ∧ (parseMethodDescriptor yX1_colourTowards.desc).map (fun d => d.parameters.length) = some 1 := by decide +kernel
theorem hd_X1_hasRow : yX1_hasRow.cls = RX1 ∧ yX1_hasRow.cls ≠ "java/lang/invoke/MethodHandle" ∧ yX1_hasRow.cls ≠ "java/lang/invoke/VarHandle" ∧ (parseMethodDescriptor yX1_hasRow.desc).map (fun d => d.parameters.length) = some 2 := by decide +kernel
theorem hd_X1_isLitAt : yX1_isLitAt.cls = RX1 ∧ yX1_isLitAt.cls ≠ "java/lang/invoke/MethodHandle" ∧ yX1_isLitAt.cls ≠ "java/lang/invoke/VarHandle" ∧ (parseMethodDescriptor yX1_isLitAt.desc).map (fun d => d.parameters.length) = some 1 := by decide +kernel
theorem hd_X1_isRock : yX1_isRock.cls = RX1 ∧ yX1_isRock.cls ≠ "java/lang/invoke/MethodHandle" ∧ yX1_isRock.cls ≠ "java/lang/invoke/VarHandle" ∧ (parseMethodDescriptor yX1_isRock.desc).map (fun d => d.parameters.length) = some 0 := by decide +kernel
theorem hd_X1_landsIn : yX1_landsIn.cls = RX1 ∧ yX1_landsIn.cls ≠ "java/lang/invoke/MethodHandle" ∧ yX1_landsIn.cls ≠ "java/lang/invoke/VarHandle" ∧ (parseMethodDescriptor yX1_landsIn.desc).map (fun d => d.parameters.length) = some 1 := by decide +kernel
theorem hd_X1_overdueOn : yX1_overdueOn.cls = RX1 ∧ yX1_overdueOn.cls ≠ "java/lang/invoke/MethodHandle" ∧ yX1_overdueOn.cls ≠ "java/lang/invoke/VarHandle" ∧ (parseMethodDescriptor yX1_overdueOn.desc).map (fun d => d.parameters.length) = some 1 := by decide +kernel
theorem hd_X1_take : yX1_take.cls = RX1 ∧ yX1_take.cls ≠ "java/lang/invoke/MethodHandle" ∧ yX1_take.cls ≠ "java/lang/invoke/VarHandle" ∧ (parseMethodDescriptor yX1_take.desc).map (fun d => d.parameters.length) = some 1 := by decide +kernel
theorem hd_X2_next : yX2_next.cls = RX2 ∧ yX2_next.cls ≠ "java/lang/invoke/MethodHandle" ∧ yX2_next.cls ≠ "java/lang/invoke/VarHandle" ∧ (parseMethodDescriptor yX2_next.desc).map (fun d => d.parameters.length) = some 0 := by decide +kernel
theorem hd_X2_takeLatest : yX2_takeLatest.cls = RX2 ∧ yX2_takeLatest.cls ≠ "java/lang/invoke/MethodHandle" ∧ yX2_takeLatest.cls ≠ "java/lang/invoke/VarHandle" ∧ (parseMethodDescriptor yX2_takeLatest.desc).map (fun d => d.parameters.length) = some 0 := by decide +kernel
theorem hd_X3_asSeconds : yX3_asSeconds.cls = RX3 ∧ yX3_asSeconds.cls ≠ "java/lang/invoke/MethodHandle" ∧ yX3_asSeconds.cls ≠ "java/lang/invoke/VarHandle" ∧ (parseMethodDescriptor yX3_asSeconds.desc).map (fun d => d.parameters.length) = some 0 := by decide +kernel
theorem hd_X3_hasNumbers : yX3_hasNumbers.cls = RX3 ∧ yX3_hasNumbers.cls ≠ "java/lang/invoke/MethodHandle" ∧ yX3_hasNumbers.cls ≠ "java/lang/invoke/VarHandle" ∧ (parseMethodDescriptor yX3_hasNumbers.desc).map (fun d => d.parameters.length) = some 2 := by decide +kernel
theorem hd_X3_lowest : yX3_lowest.cls = RX3 ∧ yX3_lowest.cls ≠ "java/lang/invoke/MethodHandle" ∧ yX3_lowest.cls ≠ "java/lang/invoke/VarHandle" ∧ (parseMethodDescriptor yX3_lowest.desc).map (fun d => d.parameters.length) = some 1 := by decide +kernel
theorem hd_X3_renew : yX3_renew.cls = RX3 ∧ yX3_renew.cls ≠ "java/lang/invoke/MethodHandle" ∧ yX3_renew.cls ≠ "java/lang/invoke/VarHandle" ∧ (parseMethodDescriptor yX3_renew.desc).map (fun d => d.parameters.length) = some 2 := by decide +kernel
theorem hd_X5_append : yX5_append.cls = RX5 ∧ yX5_append.cls ≠ "java/lang/invoke/MethodHandle" ∧ yX5_append.cls ≠ "java/lang/invoke/VarHandle" ∧ (parseMethodDescriptor yX5_append.desc).map (fun d => d.parameters.length) = some 2 := by decide +kernel
theorem hd_X5_findFault : yX5_findFault.cls = RX5 ∧ yX5_findFault.cls ≠ "java/lang/invoke/MethodHandle" ∧ yX5_findFault.cls ≠ "java/lang/invoke/VarHandle" ∧ (parseMethodDescriptor yX5_findFault.desc).map (fun d => d.parameters.length) = some 0 := by decide +kernel
theorem hd_X5_goesIn : yX5_goesIn.cls = RX5 ∧ yX5_goesIn.cls ≠ "java/lang/invoke/MethodHandle" ∧ yX5_goesIn.cls ≠ "java/lang/invoke/VarHandle" ∧ (parseMethodDescriptor yX5_goesIn.desc).map (fun d => d.parameters.length) = some 0 := by decide +kernel
theorem hd_X5_isDigit : yX5_isDigit.cls = RX5 ∧ yX5_isDigit.cls ≠ "java/lang/invoke/MethodHandle" ∧ yX5_isDigit.cls ≠ "java/lang/invoke/VarHandle" ∧ (parseMethodDescriptor yX5_isDigit.desc).map (fun d => d.parameters.length) = some 0 := by decide +kernel
theorem hd_X5_litSeconds : yX5_litSeconds.cls = RX5 ∧ yX5_litSeconds.cls ≠ "java/lang/invoke/MethodHandle" ∧ yX5_litSeconds.cls ≠ "java/lang/invoke/VarHandle" ∧ (parseMethodDescriptor yX5_litSeconds.desc).map (fun d => d.parameters.length) = some 0 := by decide +kernel
theorem hd_X5_readColour : yX5_readColour.cls = RX5 ∧ yX5_readColour.cls ≠ "java/lang/invoke/MethodHandle" ∧ yX5_readColour.cls ≠ "java/lang/invoke/VarHandle" ∧ (parseMethodDescriptor yX5_readColour.desc).map (fun d => d.parameters.length) = some 0 := by decide +kernel
theorem hd_X5_readNumber : yX5_readNumber.cls = RX5 ∧ yX5_readNumber.cls ≠ "java/lang/invoke/MethodHandle" ∧ yX5_readNumber.cls ≠ "java/lang/invoke/VarHandle" ∧ (parseMethodDescriptor yX5_readNumber.desc).map (fun d => d.parameters.length) = some 0 := by decide +kernel
theorem hd_X5_readPeriod : yX5_readPeriod.cls = RX5 ∧ yX5_readPeriod.cls ≠ "java/lang/invoke/MethodHandle" ∧ yX5_readPeriod.cls ≠ "java/lang/invoke/VarHandle" ∧ (parseMethodDescriptor yX5_readPeriod.desc).map (fun d => d.parameters.length) = some 0 := by decide +kernel
theorem hd_X5_readRhythm : yX5_readRhythm.cls = RX5 ∧ yX5_readRhythm.cls ≠ "java/lang/invoke/MethodHandle" ∧ yX5_readRhythm.cls ≠ "java/lang/invoke/VarHandle" ∧ (parseMethodDescriptor yX5_readRhythm.desc).map (fun d => d.parameters.length) = some 0 := by decide +kernel
theorem hd_X5_readTimes : yX5_readTimes.cls = RX5 ∧ yX5_readTimes.cls ≠ "java/lang/invoke/MethodHandle" ∧ yX5_readTimes.cls ≠ "java/lang/invoke/VarHandle" ∧ (parseMethodDescriptor yX5_readTimes.desc).map (fun d => d.parameters.length) = some 0 := by decide +kernel
theorem hd_X5_takes : yX5_takes.cls = RX5 ∧ yX5_takes.cls ≠ "java/lang/invoke/MethodHandle" ∧ yX5_takes.cls ≠ "java/lang/invoke/VarHandle" ∧ (parseMethodDescriptor yX5_takes.desc).map (fun d => d.parameters.length) = some 1 := by decide +kernel
theorem hd_X6_append : yX6_append.cls = RX6 ∧ yX6_append.cls ≠ "java/lang/invoke/MethodHandle" ∧ yX6_append.cls ≠ "java/lang/invoke/VarHandle" ∧ (parseMethodDescriptor yX6_append.desc).map (fun d => d.parameters.length) = some 5 := by decide +kernel
theorem hd_X6_latestHour : yX6_latestHour.cls = RX6 ∧ yX6_latestHour.cls ≠ "java/lang/invoke/MethodHandle" ∧ yX6_latestHour.cls ≠ "java/lang/invoke/VarHandle" ∧ (parseMethodDescriptor yX6_latestHour.desc).map (fun d => d.parameters.length) = some 0 := by decide +kernel
theorem hd_X6_tellOut : yX6_tellOut.cls = RX6 ∧ yX6_tellOut.cls ≠ "java/lang/invoke/MethodHandle" ∧ yX6_tellOut.cls ≠ "java/lang/invoke/VarHandle" ∧ (parseMethodDescriptor yX6_tellOut.desc).map (fun d => d.parameters.length) = some 3 := by decide +kernel
theorem hd_X7_allLights : yX7_allLights.cls = RX7 ∧ yX7_allLights.cls ≠ "java/lang/invoke/MethodHandle" ∧ yX7_allLights.cls ≠ "java/lang/invoke/VarHandle" ∧ (parseMethodDescriptor yX7_allLights.desc).map (fun d => d.parameters.length) = some 0 := by decide +kernel
theorem hd_X7_colourIn : yX7_colourIn.cls ≠ "java/lang/invoke/MethodHandle" ∧ yX7_colourIn.cls ≠ "java/lang/invoke/VarHandle" ∧ (parseMethodDescriptor yX7_colourIn.desc).map (fun d => d.parameters.length) = some 2 := by decide +kernel
theorem hd_X7_countRocks : yX7_countRocks.cls = RX7 ∧ yX7_countRocks.cls ≠ "java/lang/invoke/MethodHandle" ∧ yX7_countRocks.cls ≠ "java/lang/invoke/VarHandle" ∧ (parseMethodDescriptor yX7_countRocks.desc).map (fun d => d.parameters.length) = some 0 := by decide +kernel
theorem hd_X7_directionOf : yX7_directionOf.cls ≠ "java/lang/invoke/MethodHandle" ∧ yX7_directionOf.cls ≠ "java/lang/invoke/VarHandle" ∧ (parseMethodDescriptor yX7_directionOf.desc).map (fun d => d.parameters.length) = some 2 := by decide +kernel
theorem hd_X7_findFix : yX7_findFix.cls = RX7 ∧ yX7_findFix.cls ≠ "java/lang/invoke/MethodHandle" ∧ yX7_findFix.cls ≠ "java/lang/invoke/VarHandle" ∧ (parseMethodDescriptor yX7_findFix.desc).map (fun d => d.parameters.length) = some 0 := by decide +kernel
theorem hd_X7_findLandings : yX7_findLandings.cls = RX7 ∧ yX7_findLandings.cls ≠ "java/lang/invoke/MethodHandle" ∧ yX7_findLandings.cls ≠ "java/lang/invoke/VarHandle" ∧ (parseMethodDescriptor yX7_findLandings.desc).map (fun d => d.parameters.length) = some 0 := by decide +kernel
theorem hd_X7_firstWrong : yX7_firstWrong.cls = RX7 ∧ yX7_firstWrong.cls ≠ "java/lang/invoke/MethodHandle" ∧ yX7_firstWrong.cls ≠ "java/lang/invoke/VarHandle" ∧ (parseMethodDescriptor yX7_firstWrong.desc).map (fun d => d.parameters.length) = some 1 := by decide +kernel
theorem hd_X7_forgetFound : yX7_forgetFound.cls = RX7 ∧ yX7_forgetFound.cls ≠ "java/lang/invoke/MethodHandle" ∧ yX7_forgetFound.cls ≠ "java/lang/invoke/VarHandle" ∧ (parseMethodDescriptor yX7_forgetFound.desc).map (fun d => d.parameters.length) = some 0 := by decide +kernel
theorem hd_X7_holdsFor : yX7_holdsFor.cls = RX7 ∧ yX7_holdsFor.cls ≠ "java/lang/invoke/MethodHandle" ∧ yX7_holdsFor.cls ≠ "java/lang/invoke/VarHandle" ∧ (parseMethodDescriptor yX7_holdsFor.desc).map (fun d => d.parameters.length) = some 3 := by decide +kernel
theorem hd_X7_holdsForAll : yX7_holdsForAll.cls = RX7 ∧ yX7_holdsForAll.cls ≠ "java/lang/invoke/MethodHandle" ∧ yX7_holdsForAll.cls ≠ "java/lang/invoke/VarHandle" ∧ (parseMethodDescriptor yX7_holdsForAll.desc).map (fun d => d.parameters.length) = some 1 := by decide +kernel
theorem hd_X7_isCell : yX7_isCell.cls ≠ "java/lang/invoke/MethodHandle" ∧ yX7_isCell.cls ≠ "java/lang/invoke/VarHandle" ∧ (parseMethodDescriptor yX7_isCell.desc).map (fun d => d.parameters.length) = some 1 := by decide +kernel
theorem hd_X7_isDay : yX7_isDay.cls ≠ "java/lang/invoke/MethodHandle" ∧ yX7_isDay.cls ≠ "java/lang/invoke/VarHandle" ∧ (parseMethodDescriptor yX7_isDay.desc).map (fun d => d.parameters.length) = some 1 := by decide +kernel
theorem hd_X7_isDirection : yX7_isDirection.cls ≠ "java/lang/invoke/MethodHandle" ∧ yX7_isDirection.cls ≠ "java/lang/invoke/VarHandle" ∧ (parseMethodDescriptor yX7_isDirection.desc).map (fun d => d.parameters.length) = some 1 := by decide +kernel
theorem hd_X7_isHour : yX7_isHour.cls ≠ "java/lang/invoke/MethodHandle" ∧ yX7_isHour.cls ≠ "java/lang/invoke/VarHandle" ∧ (parseMethodDescriptor yX7_isHour.desc).map (fun d => d.parameters.length) = some 1 := by decide +kernel
theorem hd_X7_isKind : yX7_isKind.cls ≠ "java/lang/invoke/MethodHandle" ∧ yX7_isKind.cls ≠ "java/lang/invoke/VarHandle" ∧ (parseMethodDescriptor yX7_isKind.desc).map (fun d => d.parameters.length) = some 1 := by decide +kernel
theorem hd_X7_isLight : yX7_isLight.cls = RX7 ∧ yX7_isLight.cls ≠ "java/lang/invoke/MethodHandle" ∧ yX7_isLight.cls ≠ "java/lang/invoke/VarHandle" ∧ (parseMethodDescriptor yX7_isLight.desc).map (fun d => d.parameters.length) = some 1 := by decide +kernel
theorem hd_X7_isSheet : yX7_isSheet.cls ≠ "java/lang/invoke/MethodHandle" ∧ yX7_isSheet.cls ≠ "java/lang/invoke/VarHandle" ∧ (parseMethodDescriptor yX7_isSheet.desc).map (fun d => d.parameters.length) = some 1 := by decide +kernel
theorem hd_X7_isUnder : yX7_isUnder.cls ≠ "java/lang/invoke/MethodHandle" ∧ yX7_isUnder.cls ≠ "java/lang/invoke/VarHandle" ∧ (parseMethodDescriptor yX7_isUnder.desc).map (fun d => d.parameters.length) = some 2 := by decide +kernel
theorem hd_X7_isWithin : yX7_isWithin.cls ≠ "java/lang/invoke/MethodHandle" ∧ yX7_isWithin.cls ≠ "java/lang/invoke/VarHandle" ∧ (parseMethodDescriptor yX7_isWithin.desc).map (fun d => d.parameters.length) = some 3 := by decide +kernel
theorem hd_X7_liesIn : yX7_liesIn.cls ≠ "java/lang/invoke/MethodHandle" ∧ yX7_liesIn.cls ≠ "java/lang/invoke/VarHandle" ∧ (parseMethodDescriptor yX7_liesIn.desc).map (fun d => d.parameters.length) = some 3 := by decide +kernel
theorem hd_X7_lightsFairway : yX7_lightsFairway.cls = RX7 ∧ yX7_lightsFairway.cls ≠ "java/lang/invoke/MethodHandle" ∧ yX7_lightsFairway.cls ≠ "java/lang/invoke/VarHandle" ∧ (parseMethodDescriptor yX7_lightsFairway.desc).map (fun d => d.parameters.length) = some 1 := by decide +kernel
theorem hd_X7_mostAlike : yX7_mostAlike.cls ≠ "java/lang/invoke/MethodHandle" ∧ yX7_mostAlike.cls ≠ "java/lang/invoke/VarHandle" ∧ (parseMethodDescriptor yX7_mostAlike.desc).map (fun d => d.parameters.length) = some 2 := by decide +kernel
theorem hd_X7_oneLess : yX7_oneLess.cls ≠ "java/lang/invoke/MethodHandle" ∧ yX7_oneLess.cls ≠ "java/lang/invoke/VarHandle" ∧ (parseMethodDescriptor yX7_oneLess.desc).map (fun d => d.parameters.length) = some 1 := by decide +kernel
theorem hd_X7_placeInFairway : yX7_placeInFairway.cls = RX7 ∧ yX7_placeInFairway.cls ≠ "java/lang/invoke/MethodHandle" ∧ yX7_placeInFairway.cls ≠ "java/lang/invoke/VarHandle" ∧ (parseMethodDescriptor yX7_placeInFairway.desc).map (fun d => d.parameters.length) = some 1 := by decide +kernel
theorem hd_X7_reachOf : yX7_reachOf.cls = RX7 ∧ yX7_reachOf.cls ≠ "java/lang/invoke/MethodHandle" ∧ yX7_reachOf.cls ≠ "java/lang/invoke/VarHandle" ∧ (parseMethodDescriptor yX7_reachOf.desc).map (fun d => d.parameters.length) = some 1 := by decide +kernel
theorem hd_X7_refuse : yX7_refuse.cls = RX7 ∧ yX7_refuse.cls ≠ "java/lang/invoke/MethodHandle" ∧ yX7_refuse.cls ≠ "java/lang/invoke/VarHandle" ∧ (parseMethodDescriptor yX7_refuse.desc).map (fun d => d.parameters.length) = some 1 := by decide +kernel
theorem hd_X7_remember : yX7_remember.cls = RX7 ∧ yX7_remember.cls ≠ "java/lang/invoke/MethodHandle" ∧ yX7_remember.cls ≠ "java/lang/invoke/VarHandle" ∧ (parseMethodDescriptor yX7_remember.desc).map (fun d => d.parameters.length) = some 3 := by decide +kernel
theorem hd_X7_seenFrom : yX7_seenFrom.cls = RX7 ∧ yX7_seenFrom.cls ≠ "java/lang/invoke/MethodHandle" ∧ yX7_seenFrom.cls ≠ "java/lang/invoke/VarHandle" ∧ (parseMethodDescriptor yX7_seenFrom.desc).map (fun d => d.parameters.length) = some 1 := by decide +kernel
theorem hd_X7_setFairway : yX7_setFairway.cls = RX7 ∧ yX7_setFairway.cls ≠ "java/lang/invoke/MethodHandle" ∧ yX7_setFairway.cls ≠ "java/lang/invoke/VarHandle" ∧ (parseMethodDescriptor yX7_setFairway.desc).map (fun d => d.parameters.length) = some 2 := by decide +kernel
theorem hd_X7_takeBack : yX7_takeBack.cls = RX7 ∧ yX7_takeBack.cls ≠ "java/lang/invoke/MethodHandle" ∧ yX7_takeBack.cls ≠ "java/lang/invoke/VarHandle" ∧ (parseMethodDescriptor yX7_takeBack.desc).map (fun d => d.parameters.length) = some 1 := by decide +kernel
theorem hd_X7_turnedOver : yX7_turnedOver.cls ≠ "java/lang/invoke/MethodHandle" ∧ yX7_turnedOver.cls ≠ "java/lang/invoke/VarHandle" ∧ (parseMethodDescriptor yX7_turnedOver.desc).map (fun d => d.parameters.length) = some 2 := by decide +kernel
theorem hd_X8_alike : yX8_alike.cls = RX8 ∧ yX8_alike.cls ≠ "java/lang/invoke/MethodHandle" ∧ yX8_alike.cls ≠ "java/lang/invoke/VarHandle" ∧ (parseMethodDescriptor yX8_alike.desc).map (fun d => d.parameters.length) = some 2 := by decide +kernel
theorem hd_X8_becomes : yX8_becomes.cls = RX8 ∧ yX8_becomes.cls ≠ "java/lang/invoke/MethodHandle" ∧ yX8_becomes.cls ≠ "java/lang/invoke/VarHandle" ∧ (parseMethodDescriptor yX8_becomes.desc).map (fun d => d.parameters.length) = some 2 := by decide +kernel
theorem hd_X8_behind : yX8_behind.cls ≠ "java/lang/invoke/MethodHandle" ∧ yX8_behind.cls ≠ "java/lang/invoke/VarHandle" ∧ (parseMethodDescriptor yX8_behind.desc).map (fun d => d.parameters.length) = some 3 := by decide +kernel
theorem hd_X8_byLanding : yX8_byLanding.cls = RX8 ∧ yX8_byLanding.cls ≠ "java/lang/invoke/MethodHandle" ∧ yX8_byLanding.cls ≠ "java/lang/invoke/VarHandle" ∧ (parseMethodDescriptor yX8_byLanding.desc).map (fun d => d.parameters.length) = some 3 := by decide +kernel
theorem hd_X8_colourOf : yX8_colourOf.cls = RX8 ∧ yX8_colourOf.cls ≠ "java/lang/invoke/MethodHandle" ∧ yX8_colourOf.cls ≠ "java/lang/invoke/VarHandle" ∧ (parseMethodDescriptor yX8_colourOf.desc).map (fun d => d.parameters.length) = some 2 := by decide +kernel
theorem hd_X8_eastOf : yX8_eastOf.cls ≠ "java/lang/invoke/MethodHandle" ∧ yX8_eastOf.cls ≠ "java/lang/invoke/VarHandle" ∧ (parseMethodDescriptor yX8_eastOf.desc).map (fun d => d.parameters.length) = some 1 := by decide +kernel
theorem hd_X8_faultOf : yX8_faultOf.cls = RX8 ∧ yX8_faultOf.cls ≠ "java/lang/invoke/MethodHandle" ∧ yX8_faultOf.cls ≠ "java/lang/invoke/VarHandle" ∧ (parseMethodDescriptor yX8_faultOf.desc).map (fun d => d.parameters.length) = some 0 := by decide +kernel
theorem hd_X8_findLandings : yX8_findLandings.cls = RX8 ∧ yX8_findLandings.cls ≠ "java/lang/invoke/MethodHandle" ∧ yX8_findLandings.cls ≠ "java/lang/invoke/VarHandle" ∧ (parseMethodDescriptor yX8_findLandings.desc).map (fun d => d.parameters.length) = some 0 := by decide +kernel
theorem hd_X8_finding : yX8_finding.cls = RX8 ∧ yX8_finding.cls ≠ "java/lang/invoke/MethodHandle" ∧ yX8_finding.cls ≠ "java/lang/invoke/VarHandle" ∧ (parseMethodDescriptor yX8_finding.desc).map (fun d => d.parameters.length) = some 1 := by decide +kernel
theorem hd_X8_firstOn : yX8_firstOn.cls = RX8 ∧ yX8_firstOn.cls ≠ "java/lang/invoke/MethodHandle" ∧ yX8_firstOn.cls ≠ "java/lang/invoke/VarHandle" ∧ (parseMethodDescriptor yX8_firstOn.desc).map (fun d => d.parameters.length) = some 2 := by decide +kernel
theorem hd_X8_fitsFrom : yX8_fitsFrom.cls = RX8 ∧ yX8_fitsFrom.cls ≠ "java/lang/invoke/MethodHandle" ∧ yX8_fitsFrom.cls ≠ "java/lang/invoke/VarHandle" ∧ (parseMethodDescriptor yX8_fitsFrom.desc).map (fun d => d.parameters.length) = some 3 := by decide +kernel
theorem hd_X8_goesIn : yX8_goesIn.cls = RX8 ∧ yX8_goesIn.cls ≠ "java/lang/invoke/MethodHandle" ∧ yX8_goesIn.cls ≠ "java/lang/invoke/VarHandle" ∧ (parseMethodDescriptor yX8_goesIn.desc).map (fun d => d.parameters.length) = some 0 := by decide +kernel
theorem hd_X8_hasLight : yX8_hasLight.cls = RX8 ∧ yX8_hasLight.cls ≠ "java/lang/invoke/MethodHandle" ∧ yX8_hasLight.cls ≠ "java/lang/invoke/VarHandle" ∧ (parseMethodDescriptor yX8_hasLight.desc).map (fun d => d.parameters.length) = some 2 := by decide +kernel
theorem hd_X8_holds : yX8_holds.cls = RX8 ∧ yX8_holds.cls ≠ "java/lang/invoke/MethodHandle" ∧ yX8_holds.cls ≠ "java/lang/invoke/VarHandle" ∧ (parseMethodDescriptor yX8_holds.desc).map (fun d => d.parameters.length) = some 2 := by decide +kernel
theorem hd_X8_isCell : yX8_isCell.cls ≠ "java/lang/invoke/MethodHandle" ∧ yX8_isCell.cls ≠ "java/lang/invoke/VarHandle" ∧ (parseMethodDescriptor yX8_isCell.desc).map (fun d => d.parameters.length) = some 1 := by decide +kernel
theorem hd_X8_isDigit : yX8_isDigit.cls = RX8 ∧ yX8_isDigit.cls ≠ "java/lang/invoke/MethodHandle" ∧ yX8_isDigit.cls ≠ "java/lang/invoke/VarHandle" ∧ (parseMethodDescriptor yX8_isDigit.desc).map (fun d => d.parameters.length) = some 0 := by decide +kernel
theorem hd_X8_isFrom : yX8_isFrom.cls ≠ "java/lang/invoke/MethodHandle" ∧ yX8_isFrom.cls ≠ "java/lang/invoke/VarHandle" ∧ (parseMethodDescriptor yX8_isFrom.desc).map (fun d => d.parameters.length) = some 3 := by decide +kernel
theorem hd_X8_isHere : yX8_isHere.cls = RX8 ∧ yX8_isHere.cls ≠ "java/lang/invoke/MethodHandle" ∧ yX8_isHere.cls ≠ "java/lang/invoke/VarHandle" ∧ (parseMethodDescriptor yX8_isHere.desc).map (fun d => d.parameters.length) = some 1 := by decide +kernel
theorem hd_X8_isInFix : yX8_isInFix.cls = RX8 ∧ yX8_isInFix.cls ≠ "java/lang/invoke/MethodHandle" ∧ yX8_isInFix.cls ≠ "java/lang/invoke/VarHandle" ∧ (parseMethodDescriptor yX8_isInFix.desc).map (fun d => d.parameters.length) = some 1 := by decide +kernel
theorem hd_X8_isLandable : yX8_isLandable.cls = RX8 ∧ yX8_isLandable.cls ≠ "java/lang/invoke/MethodHandle" ∧ yX8_isLandable.cls ≠ "java/lang/invoke/VarHandle" ∧ (parseMethodDescriptor yX8_isLandable.desc).map (fun d => d.parameters.length) = some 2 := by decide +kernel
theorem hd_X8_isLight : yX8_isLight.cls = RX8 ∧ yX8_isLight.cls ≠ "java/lang/invoke/MethodHandle" ∧ yX8_isLight.cls ≠ "java/lang/invoke/VarHandle" ∧ (parseMethodDescriptor yX8_isLight.desc).map (fun d => d.parameters.length) = some 1 := by decide +kernel
theorem hd_X8_isLit : yX8_isLit.cls = RX8 ∧ yX8_isLit.cls ≠ "java/lang/invoke/MethodHandle" ∧ yX8_isLit.cls ≠ "java/lang/invoke/VarHandle" ∧ (parseMethodDescriptor yX8_isLit.desc).map (fun d => d.parameters.length) = some 1 := by decide +kernel
theorem hd_X8_isNear : yX8_isNear.cls = RX8 ∧ yX8_isNear.cls ≠ "java/lang/invoke/MethodHandle" ∧ yX8_isNear.cls ≠ "java/lang/invoke/VarHandle" ∧ (parseMethodDescriptor yX8_isNear.desc).map (fun d => d.parameters.length) = some 3 := by decide +kernel
theorem hd_X8_isOut : yX8_isOut.cls = RX8 ∧ yX8_isOut.cls ≠ "java/lang/invoke/MethodHandle" ∧ yX8_isOut.cls ≠ "java/lang/invoke/VarHandle" ∧ (parseMethodDescriptor yX8_isOut.desc).map (fun d => d.parameters.length) = some 3 := by decide +kernel
theorem hd_X8_isRock : yX8_isRock.cls = RX8 ∧ yX8_isRock.cls ≠ "java/lang/invoke/MethodHandle" ∧ yX8_isRock.cls ≠ "java/lang/invoke/VarHandle" ∧ (parseMethodDescriptor yX8_isRock.desc).map (fun d => d.parameters.length) = some 1 := by decide +kernel
theorem hd_X8_isSheet : yX8_isSheet.cls ≠ "java/lang/invoke/MethodHandle" ∧ yX8_isSheet.cls ≠ "java/lang/invoke/VarHandle" ∧ (parseMethodDescriptor yX8_isSheet.desc).map (fun d => d.parameters.length) = some 1 := by decide +kernel
theorem hd_X8_isWay : yX8_isWay.cls ≠ "java/lang/invoke/MethodHandle" ∧ yX8_isWay.cls ≠ "java/lang/invoke/VarHandle" ∧ (parseMethodDescriptor yX8_isWay.desc).map (fun d => d.parameters.length) = some 1 := by decide +kernel
theorem hd_X8_keep : yX8_keep.cls = RX8 ∧ yX8_keep.cls ≠ "java/lang/invoke/MethodHandle" ∧ yX8_keep.cls ≠ "java/lang/invoke/VarHandle" ∧ (parseMethodDescriptor yX8_keep.desc).map (fun d => d.parameters.length) = some 0 := by decide +kernel
theorem hd_X8_need : yX8_need.cls = RX8 ∧ yX8_need.cls ≠ "java/lang/invoke/MethodHandle" ∧ yX8_need.cls ≠ "java/lang/invoke/VarHandle" ∧ (parseMethodDescriptor yX8_need.desc).map (fun d => d.parameters.length) = some 1 := by decide +kernel
theorem hd_X8_northOf : yX8_northOf.cls ≠ "java/lang/invoke/MethodHandle" ∧ yX8_northOf.cls ≠ "java/lang/invoke/VarHandle" ∧ (parseMethodDescriptor yX8_northOf.desc).map (fun d => d.parameters.length) = some 1 := by decide +kernel
theorem hd_X8_number : yX8_number.cls = RX8 ∧ yX8_number.cls ≠ "java/lang/invoke/MethodHandle" ∧ yX8_number.cls ≠ "java/lang/invoke/VarHandle" ∧ (parseMethodDescriptor yX8_number.desc).map (fun d => d.parameters.length) = some 0 := by decide +kernel
theorem hd_X8_of : yX8_of.cls ≠ "java/lang/invoke/MethodHandle" ∧ yX8_of.cls ≠ "java/lang/invoke/VarHandle" ∧ (parseMethodDescriptor yX8_of.desc).map (fun d => d.parameters.length) = some 2 := by decide +kernel
theorem hd_X8_ofRock : yX8_ofRock.cls = RX8 ∧ yX8_ofRock.cls ≠ "java/lang/invoke/MethodHandle" ∧ yX8_ofRock.cls ≠ "java/lang/invoke/VarHandle" ∧ (parseMethodDescriptor yX8_ofRock.desc).map (fun d => d.parameters.length) = some 4 := by decide +kernel
theorem hd_X8_ones : yX8_ones.cls ≠ "java/lang/invoke/MethodHandle" ∧ yX8_ones.cls ≠ "java/lang/invoke/VarHandle" ∧ (parseMethodDescriptor yX8_ones.desc).map (fun d => d.parameters.length) = some 1 := by decide +kernel
theorem hd_X8_overdueOf : yX8_overdueOf.cls = RX8 ∧ yX8_overdueOf.cls ≠ "java/lang/invoke/MethodHandle" ∧ yX8_overdueOf.cls ≠ "java/lang/invoke/VarHandle" ∧ (parseMethodDescriptor yX8_overdueOf.desc).map (fun d => d.parameters.length) = some 2 := by decide +kernel
theorem hd_X8_readSort : yX8_readSort.cls = RX8 ∧ yX8_readSort.cls ≠ "java/lang/invoke/MethodHandle" ∧ yX8_readSort.cls ≠ "java/lang/invoke/VarHandle" ∧ (parseMethodDescriptor yX8_readSort.desc).map (fun d => d.parameters.length) = some 0 := by decide +kernel
theorem hd_X8_restOf : yX8_restOf.cls = RX8 ∧ yX8_restOf.cls ≠ "java/lang/invoke/MethodHandle" ∧ yX8_restOf.cls ≠ "java/lang/invoke/VarHandle" ∧ (parseMethodDescriptor yX8_restOf.desc).map (fun d => d.parameters.length) = some 1 := by decide +kernel
theorem hd_X8_seenFrom : yX8_seenFrom.cls = RX8 ∧ yX8_seenFrom.cls ≠ "java/lang/invoke/MethodHandle" ∧ yX8_seenFrom.cls ≠ "java/lang/invoke/VarHandle" ∧ (parseMethodDescriptor yX8_seenFrom.desc).map (fun d => d.parameters.length) = some 1 := by decide +kernel
theorem hd_X8_wayBetween : yX8_wayBetween.cls ≠ "java/lang/invoke/MethodHandle" ∧ yX8_wayBetween.cls ≠ "java/lang/invoke/VarHandle" ∧ (parseMethodDescriptor yX8_wayBetween.desc).map (fun d => d.parameters.length) = some 2 := by decide +kernel
theorem hd_X8_wayOf : yX8_wayOf.cls ≠ "java/lang/invoke/MethodHandle" ∧ yX8_wayOf.cls ≠ "java/lang/invoke/VarHandle" ∧ (parseMethodDescriptor yX8_wayOf.desc).map (fun d => d.parameters.length) = some 2 := by decide +kernel
theorem hd_X8_within : yX8_within.cls ≠ "java/lang/invoke/MethodHandle" ∧ yX8_within.cls ≠ "java/lang/invoke/VarHandle" ∧ (parseMethodDescriptor yX8_within.desc).map (fun d => d.parameters.length) = some 3 := by decide +kernel
