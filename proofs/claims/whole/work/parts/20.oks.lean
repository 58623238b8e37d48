abbrev YX0_init : mf_Y := (yX0_init, cX0_init, 1, none)
set_option maxRecDepth 100000 in
theorem okX0_init : mf_ok YX0_init 0 := ⟨mf_m2 (i := 122) rfl rfl, mf_m1 (i := 14) rfl rfl, by decide +kernel, by decide⟩
abbrev YX0_liesOpen : mf_Y := (yX0_liesOpen, cX0_liesOpen, 2, (some .boolean))
set_option maxRecDepth 100000 in
theorem okX0_liesOpen : mf_ok YX0_liesOpen 2 := ⟨mf_m4 (i := 89) rfl rfl, mf_m1 (i := 14) rfl rfl, by decide +kernel, by decide⟩
abbrev YX0_liesOnNext : mf_Y := (yX0_liesOnNext, cX0_liesOnNext, 3, (some .boolean))
set_option maxRecDepth 100000 in
theorem okX0_liesOnNext : mf_ok YX0_liesOnNext 3 := ⟨mf_m4 (i := 106) rfl rfl, mf_m1 (i := 14) rfl rfl, by decide +kernel, by decide⟩
abbrev YX0_meet : mf_Y := (yX0_meet, cX0_meet, 7, (some .boolean))
set_option maxRecDepth 100000 in
theorem okX0_meet : mf_ok YX0_meet 5 := ⟨mf_m4 (i := 128) rfl rfl, mf_m1 (i := 14) rfl rfl, by decide +kernel, by decide⟩
abbrev YX0_countPairs : mf_Y := (yX0_countPairs, cX0_countPairs, 6, (some .int))
set_option maxRecDepth 100000 in
theorem okX0_countPairs : mf_ok YX0_countPairs 3 := ⟨mf_m4 (i := 139) rfl rfl, mf_m1 (i := 14) rfl rfl, by decide +kernel, by decide⟩
abbrev YX0_openingOf : mf_Y := (yX0_openingOf, cX0_openingOf, 4, (some .int))
set_option maxRecDepth 100000 in
theorem okX0_openingOf : mf_ok YX0_openingOf 2 := ⟨mf_m4 (i := 30) rfl rfl, mf_m1 (i := 14) rfl rfl, by decide +kernel, by decide⟩
abbrev YX0_passDay : mf_Y := (yX0_passDay, cX0_passDay, 7, (some .int))
set_option maxRecDepth 100000 in
theorem okX0_passDay : mf_ok YX0_passDay 3 := ⟨mf_m4 (i := 171) rfl rfl, mf_m1 (i := 14) rfl rfl, by decide +kernel, by decide⟩
abbrev YX0_meetUp : mf_Y := (yX0_meetUp, cX0_meetUp, 10, none)
set_option maxRecDepth 100000 in
theorem okX0_meetUp : mf_ok YX0_meetUp 5 := ⟨mf_m4 (i := 175) rfl rfl, mf_m1 (i := 14) rfl rfl, by decide +kernel, by decide⟩
abbrev YX0_reap : mf_Y := (yX0_reap, cX0_reap, 6, none)
set_option maxRecDepth 100000 in
theorem okX0_reap : mf_ok YX0_reap 4 := ⟨mf_m4 (i := 196) rfl rfl, mf_m1 (i := 14) rfl rfl, by decide +kernel, by decide⟩
abbrev YX0_stepOutward : mf_Y := (yX0_stepOutward, cX0_stepOutward, 6, none)
set_option maxRecDepth 100000 in
theorem okX0_stepOutward : mf_ok YX0_stepOutward 4 := ⟨mf_m4 (i := 200) rfl rfl, mf_m1 (i := 14) rfl rfl, by decide +kernel, by decide⟩
abbrev YX0_setParts : mf_Y := (yX0_setParts, cX0_setParts, 6, none)
set_option maxRecDepth 100000 in
theorem okX0_setParts : mf_ok YX0_setParts 4 := ⟨mf_m4 (i := 184) rfl rfl, mf_m1 (i := 14) rfl rfl, by decide +kernel, by decide⟩
abbrev YX0_reckonOf : mf_Y := (yX0_reckonOf, cX0_reckonOf, 7, (some .int))
set_option maxRecDepth 100000 in
theorem okX0_reckonOf : mf_ok YX0_reckonOf 5 := ⟨mf_m5 (i := 106) rfl rfl, mf_m1 (i := 14) rfl rfl, by decide +kernel, by decide⟩
abbrev YX1_init : mf_Y := (yX1_init, cX1_init, 1, none)
set_option maxRecDepth 100000 in
theorem okX1_init : mf_ok YX1_init 0 := ⟨mf_m1 (i := 208) rfl rfl, mf_m1 (i := 11) rfl rfl, by decide +kernel, by decide⟩
abbrev YX1_forget : mf_Y := (yX1_forget, cX1_forget, 1, none)
set_option maxRecDepth 100000 in
theorem okX1_forget : mf_ok YX1_forget 0 := ⟨mf_m3 (i := 43) rfl rfl, mf_m1 (i := 11) rfl rfl, by decide +kernel, by decide⟩
abbrev YX1_addWorm : mf_Y := (yX1_addWorm, cX1_addWorm, 4, none)
set_option maxRecDepth 100000 in
theorem okX1_addWorm : mf_ok YX1_addWorm 3 := ⟨mf_m3 (i := 139) rfl rfl, mf_m1 (i := 11) rfl rfl, by decide +kernel, by decide⟩
abbrev YX1_addBeing : mf_Y := (yX1_addBeing, cX1_addBeing, 5, none)
set_option maxRecDepth 100000 in
theorem okX1_addBeing : mf_ok YX1_addBeing 4 := ⟨mf_m3 (i := 159) rfl rfl, mf_m1 (i := 11) rfl rfl, by decide +kernel, by decide⟩
abbrev YX1_hasName : mf_Y := (yX1_hasName, cX1_hasName, 3, (some .boolean))
set_option maxRecDepth 100000 in
theorem okX1_hasName : mf_ok YX1_hasName 1 := ⟨mf_m3 (i := 155) rfl rfl, mf_m1 (i := 11) rfl rfl, by decide +kernel, by decide⟩
abbrev YX1_mirror : mf_Y := (yX1_mirror, cX1_mirror, 2, (some .int))
set_option maxRecDepth 100000 in
theorem okX1_mirror : mf_ok YX1_mirror 1 := ⟨mf_m4 (i := 111) rfl rfl, mf_m1 (i := 11) rfl rfl, by decide +kernel, by decide⟩
abbrev YX2_init : mf_Y := (yX2_init, cX2_init, 5, none)
set_option maxRecDepth 100000 in
theorem okX2_init : mf_ok YX2_init 4 := ⟨mf_m2 (i := 103) rfl rfl, mf_m1 (i := 13) rfl rfl, by decide +kernel, by decide⟩
abbrev YX2_read : mf_Y := (yX2_read, cX2_read, 3, none)
set_option maxRecDepth 100000 in
theorem okX2_read : mf_ok YX2_read 1 := ⟨mf_m3 (i := 39) rfl rfl, mf_m1 (i := 13) rfl rfl, by decide +kernel, by decide⟩
abbrev YX2_readStatement : mf_Y := (yX2_readStatement, cX2_readStatement, 3, none)
set_option maxRecDepth 100000 in
theorem okX2_readStatement : mf_ok YX2_readStatement 1 := ⟨mf_m3 (i := 77) rfl rfl, mf_m1 (i := 13) rfl rfl, by decide +kernel, by decide⟩
abbrev YX2_beginRule : mf_Y := (yX2_beginRule, cX2_beginRule, 3, (some .boolean))
set_option maxRecDepth 100000 in
theorem okX2_beginRule : mf_ok YX2_beginRule 2 := ⟨mf_m3 (i := 163) rfl rfl, mf_m1 (i := 13) rfl rfl, by decide +kernel, by decide⟩
abbrev YX2_mayBegin : mf_Y := (yX2_mayBegin, cX2_mayBegin, 3, (some .boolean))
set_option maxRecDepth 100000 in
theorem okX2_mayBegin : mf_ok YX2_mayBegin 2 := ⟨mf_m3 (i := 111) rfl rfl, mf_m1 (i := 13) rfl rfl, by decide +kernel, by decide⟩
abbrev YX2_readSize : mf_Y := (yX2_readSize, cX2_readSize, 3, none)
set_option maxRecDepth 100000 in
theorem okX2_readSize : mf_ok YX2_readSize 0 := ⟨mf_m3 (i := 85) rfl rfl, mf_m1 (i := 13) rfl rfl, by decide +kernel, by decide⟩
abbrev YX2_readGloss : mf_Y := (yX2_readGloss, cX2_readGloss, 3, none)
set_option maxRecDepth 100000 in
theorem okX2_readGloss : mf_ok YX2_readGloss 0 := ⟨mf_m3 (i := 107) rfl rfl, mf_m1 (i := 13) rfl rfl, by decide +kernel, by decide⟩
abbrev YX2_readFreeCell : mf_Y := (yX2_readFreeCell, cX2_readFreeCell, 3, (some .int))
set_option maxRecDepth 100000 in
theorem okX2_readFreeCell : mf_ok YX2_readFreeCell 1 := ⟨mf_m3 (i := 115) rfl rfl, mf_m1 (i := 13) rfl rfl, by decide +kernel, by decide⟩
abbrev YX2_readWorm : mf_Y := (yX2_readWorm, cX2_readWorm, 4, none)
set_option maxRecDepth 100000 in
theorem okX2_readWorm : mf_ok YX2_readWorm 0 := ⟨mf_m3 (i := 135) rfl rfl, mf_m1 (i := 13) rfl rfl, by decide +kernel, by decide⟩
abbrev YX2_readBeing : mf_Y := (yX2_readBeing, cX2_readBeing, 5, none)
set_option maxRecDepth 100000 in
theorem okX2_readBeing : mf_ok YX2_readBeing 0 := ⟨mf_m3 (i := 143) rfl rfl, mf_m1 (i := 13) rfl rfl, by decide +kernel, by decide⟩
abbrev YX2_readName : mf_Y := (yX2_readName, cX2_readName, 2, (some .int))
set_option maxRecDepth 100000 in
theorem okX2_readName : mf_ok YX2_readName 0 := ⟨mf_m3 (i := 147) rfl rfl, mf_m1 (i := 13) rfl rfl, by decide +kernel, by decide⟩
abbrev YX2_isOwnWord : mf_Y := (yX2_isOwnWord, cX2_isOwnWord, 3, (some .boolean))
set_option maxRecDepth 100000 in
theorem okX2_isOwnWord : mf_ok YX2_isOwnWord 1 := ⟨mf_m3 (i := 151) rfl rfl, mf_m1 (i := 13) rfl rfl, by decide +kernel, by decide⟩
abbrev YX3_init : mf_Y := (yX3_init, cX3_init, 1, none)
set_option maxRecDepth 100000 in
theorem okX3_init : mf_ok YX3_init 0 := ⟨mf_m2 (i := 128) rfl rfl, mf_m1 (i := 15) rfl rfl, by decide +kernel, by decide⟩
abbrev YX3_reckon : mf_Y := (yX3_reckon, cX3_reckon, 6, (some .int))
set_option maxRecDepth 100000 in
theorem okX3_reckon : mf_ok YX3_reckon 2 := ⟨mf_m4 (i := 34) rfl rfl, mf_m1 (i := 15) rfl rfl, by decide +kernel, by decide⟩
abbrev YX3_push : mf_Y := (yX3_push, cX3_push, 2, none)
set_option maxRecDepth 100000 in
theorem okX3_push : mf_ok YX3_push 1 := ⟨mf_m4 (i := 41) rfl rfl, mf_m1 (i := 15) rfl rfl, by decide +kernel, by decide⟩
abbrev YX3_changeTop : mf_Y := (yX3_changeTop, cX3_changeTop, 4, none)
set_option maxRecDepth 100000 in
theorem okX3_changeTop : mf_ok YX3_changeTop 1 := ⟨mf_m4 (i := 45) rfl rfl, mf_m1 (i := 15) rfl rfl, by decide +kernel, by decide⟩
abbrev YX3_join : mf_Y := (yX3_join, cX3_join, 3, (some .int))
set_option maxRecDepth 100000 in
theorem okX3_join : mf_ok YX3_join 3 := ⟨mf_m4 (i := 48) rfl rfl, mf_m1 (i := 15) rfl rfl, by decide +kernel, by decide⟩
abbrev YX4_init : mf_Y := (yX4_init, cX4_init, 1, none)
set_option maxRecDepth 100000 in
theorem okX4_init : mf_ok YX4_init 0 := ⟨mf_m1 (i := 164) rfl rfl, mf_m1 (i := 9) rfl rfl, by decide +kernel, by decide⟩
abbrev YX4_forget : mf_Y := (yX4_forget, cX4_forget, 2, none)
set_option maxRecDepth 100000 in
theorem okX4_forget : mf_ok YX4_forget 0 := ⟨mf_m3 (i := 47) rfl rfl, mf_m1 (i := 9) rfl rfl, by decide +kernel, by decide⟩
abbrev YX4_isTold : mf_Y := (yX4_isTold, cX4_isTold, 2, (some .boolean))
set_option maxRecDepth 100000 in
theorem okX4_isTold : mf_ok YX4_isTold 1 := ⟨mf_m3 (i := 167) rfl rfl, mf_m1 (i := 9) rfl rfl, by decide +kernel, by decide⟩
abbrev YX4_begin : mf_Y := (yX4_begin, cX4_begin, 2, none)
set_option maxRecDepth 100000 in
theorem okX4_begin : mf_ok YX4_begin 1 := ⟨mf_m3 (i := 171) rfl rfl, mf_m1 (i := 9) rfl rfl, by decide +kernel, by decide⟩
abbrev YX4_finish : mf_Y := (yX4_finish, cX4_finish, 1, none)
set_option maxRecDepth 100000 in
theorem okX4_finish : mf_ok YX4_finish 0 := ⟨mf_m3 (i := 232) rfl rfl, mf_m1 (i := 9) rfl rfl, by decide +kernel, by decide⟩
abbrev YX4_add : mf_Y := (yX4_add, cX4_add, 2, none)
set_option maxRecDepth 100000 in
theorem okX4_add : mf_ok YX4_add 1 := ⟨mf_m3 (i := 189) rfl rfl, mf_m1 (i := 9) rfl rfl, by decide +kernel, by decide⟩
abbrev YX5_init : mf_Y := (yX5_init, cX5_init, 3, none)
set_option maxRecDepth 100000 in
theorem okX5_init : mf_ok YX5_init 1 := ⟨mf_m2 (i := 154) rfl rfl, mf_m1 (i := 16) rfl rfl, by decide +kernel, by decide⟩
abbrev YX5_findApart : mf_Y := (yX5_findApart, cX5_findApart, 7, (some .int))
set_option maxRecDepth 100000 in
theorem okX5_findApart : mf_ok YX5_findApart 2 := ⟨mf_m4 (i := 148) rfl rfl, mf_m1 (i := 16) rfl rfl, by decide +kernel, by decide⟩
abbrev YX5_findReading : mf_Y := (yX5_findReading, cX5_findReading, 5, (some .int))
set_option maxRecDepth 100000 in
theorem okX5_findReading : mf_ok YX5_findReading 4 := ⟨mf_m4 (i := 161) rfl rfl, mf_m1 (i := 16) rfl rfl, by decide +kernel, by decide⟩
abbrev YX5_tryReadings : mf_Y := (yX5_tryReadings, cX5_tryReadings, 9, none)
set_option maxRecDepth 100000 in
theorem okX5_tryReadings : mf_ok YX5_tryReadings 5 := ⟨mf_m4 (i := 165) rfl rfl, mf_m1 (i := 16) rfl rfl, by decide +kernel, by decide⟩
abbrev YX5_lookAhead : mf_Y := (yX5_lookAhead, cX5_lookAhead, 5, (some (.object "MarginFolk$State")))
set_option maxRecDepth 100000 in
theorem okX5_lookAhead : mf_ok YX5_lookAhead 3 := ⟨mf_m4 (i := 209) rfl rfl, mf_m1 (i := 16) rfl rfl, by decide +kernel, by decide⟩
abbrev YX5_findWay : mf_Y := (yX5_findWay, cX5_findWay, 7, (some .int))
set_option maxRecDepth 100000 in
theorem okX5_findWay : mf_ok YX5_findWay 5 := ⟨mf_m4 (i := 222) rfl rfl, mf_m1 (i := 16) rfl rfl, by decide +kernel, by decide⟩
abbrev YX5_spread : mf_Y := (yX5_spread, cX5_spread, 8, none)
set_option maxRecDepth 100000 in
theorem okX5_spread : mf_ok YX5_spread 3 := ⟨mf_m4 (i := 226) rfl rfl, mf_m1 (i := 16) rfl rfl, by decide +kernel, by decide⟩
abbrev YX5_mirrorBits : mf_Y := (yX5_mirrorBits, cX5_mirrorBits, 4, (some .int))
set_option maxRecDepth 100000 in
theorem okX5_mirrorBits : mf_ok YX5_mirrorBits 2 := ⟨mf_m4 (i := 230) rfl rfl, mf_m1 (i := 16) rfl rfl, by decide +kernel, by decide⟩
abbrev YX5_takeSeen : mf_Y := (yX5_takeSeen, cX5_takeSeen, 4, (some .boolean))
set_option maxRecDepth 100000 in
theorem okX5_takeSeen : mf_ok YX5_takeSeen 2 := ⟨mf_m4 (i := 239) rfl rfl, mf_m1 (i := 16) rfl rfl, by decide +kernel, by decide⟩
abbrev YX5_findOpenings : mf_Y := (yX5_findOpenings, cX5_findOpenings, 5, (some .int))
set_option maxRecDepth 100000 in
theorem okX5_findOpenings : mf_ok YX5_findOpenings 2 := ⟨mf_m5 (i := 11) rfl rfl, mf_m1 (i := 16) rfl rfl, by decide +kernel, by decide⟩
abbrev YX5_isAsSeen : mf_Y := (yX5_isAsSeen, cX5_isAsSeen, 3, (some .boolean))
set_option maxRecDepth 100000 in
theorem okX5_isAsSeen : mf_ok YX5_isAsSeen 1 := ⟨mf_m5 (i := 15) rfl rfl, mf_m1 (i := 16) rfl rfl, by decide +kernel, by decide⟩
abbrev YX5_askAfter : mf_Y := (yX5_askAfter, cX5_askAfter, 9, (some .int))
set_option maxRecDepth 100000 in
theorem okX5_askAfter : mf_ok YX5_askAfter 3 := ⟨mf_m5 (i := 24) rfl rfl, mf_m1 (i := 16) rfl rfl, by decide +kernel, by decide⟩
abbrev YX5_mostLeft : mf_Y := (yX5_mostLeft, cX5_mostLeft, 8, (some .int))
set_option maxRecDepth 100000 in
theorem okX5_mostLeft : mf_ok YX5_mostLeft 3 := ⟨mf_m5 (i := 29) rfl rfl, mf_m1 (i := 16) rfl rfl, by decide +kernel, by decide⟩
abbrev YX5_findTrim : mf_Y := (yX5_findTrim, cX5_findTrim, 9, (some .int))
set_option maxRecDepth 100000 in
theorem okX5_findTrim : mf_ok YX5_findTrim 4 := ⟨mf_m5 (i := 38) rfl rfl, mf_m1 (i := 16) rfl rfl, by decide +kernel, by decide⟩
abbrev YX6_init : mf_Y := (yX6_init, cX6_init, 1, none)
set_option maxRecDepth 100000 in
theorem okX6_init : mf_ok YX6_init 0 := ⟨mf_m1 (i := 216) rfl rfl, mf_m1 (i := 12) rfl rfl, by decide +kernel, by decide⟩
abbrev YX6_forget : mf_Y := (yX6_forget, cX6_forget, 2, none)
set_option maxRecDepth 100000 in
theorem okX6_forget : mf_ok YX6_forget 0 := ⟨mf_m3 (i := 51) rfl rfl, mf_m1 (i := 12) rfl rfl, by decide +kernel, by decide⟩
abbrev YX6_copyAll : mf_Y := (yX6_copyAll, cX6_copyAll, 2, none)
set_option maxRecDepth 100000 in
theorem okX6_copyAll : mf_ok YX6_copyAll 1 := ⟨mf_m4 (i := 1) rfl rfl, mf_m1 (i := 12) rfl rfl, by decide +kernel, by decide⟩
abbrev YX6_copyFolk : mf_Y := (yX6_copyFolk, cX6_copyFolk, 2, none)
set_option maxRecDepth 100000 in
theorem okX6_copyFolk : mf_ok YX6_copyFolk 1 := ⟨mf_m4 (i := 5) rfl rfl, mf_m1 (i := 12) rfl rfl, by decide +kernel, by decide⟩
abbrev YX6_hasGloss : mf_Y := (yX6_hasGloss, cX6_hasGloss, 3, (some .boolean))
set_option maxRecDepth 100000 in
theorem okX6_hasGloss : mf_ok YX6_hasGloss 2 := ⟨mf_m3 (i := 123) rfl rfl, mf_m1 (i := 12) rfl rfl, by decide +kernel, by decide⟩
abbrev YX6_writeGloss : mf_Y := (yX6_writeGloss, cX6_writeGloss, 3, none)
set_option maxRecDepth 100000 in
theorem okX6_writeGloss : mf_ok YX6_writeGloss 2 := ⟨mf_m3 (i := 131) rfl rfl, mf_m1 (i := 12) rfl rfl, by decide +kernel, by decide⟩
abbrev YX6_countGlosses : mf_Y := (yX6_countGlosses, cX6_countGlosses, 3, (some .int))
set_option maxRecDepth 100000 in
theorem okX6_countGlosses : mf_ok YX6_countGlosses 0 := ⟨mf_m4 (i := 20) rfl rfl, mf_m1 (i := 12) rfl rfl, by decide +kernel, by decide⟩
abbrev YX6_whoStands : mf_Y := (yX6_whoStands, cX6_whoStands, 5, (some .int))
set_option maxRecDepth 100000 in
theorem okX6_whoStands : mf_ok YX6_whoStands 3 := ⟨mf_m3 (i := 127) rfl rfl, mf_m1 (i := 12) rfl rfl, by decide +kernel, by decide⟩
abbrev YX6_isFree : mf_Y := (yX6_isFree, cX6_isFree, 4, (some .boolean))
set_option maxRecDepth 100000 in
theorem okX6_isFree : mf_ok YX6_isFree 3 := ⟨mf_m3 (i := 119) rfl rfl, mf_m1 (i := 12) rfl rfl, by decide +kernel, by decide⟩
abbrev YX6_addPurse : mf_Y := (yX6_addPurse, cX6_addPurse, 3, none)
set_option maxRecDepth 100000 in
theorem okX6_addPurse : mf_ok YX6_addPurse 2 := ⟨mf_m4 (i := 191) rfl rfl, mf_m1 (i := 12) rfl rfl, by decide +kernel, by decide⟩
abbrev YX6_keep : mf_Y := (yX6_keep, cX6_keep, 3, none)
set_option maxRecDepth 100000 in
theorem okX6_keep : mf_ok YX6_keep 2 := ⟨mf_m4 (i := 179) rfl rfl, mf_m1 (i := 12) rfl rfl, by decide +kernel, by decide⟩
abbrev YX6_countKept : mf_Y := (yX6_countKept, cX6_countKept, 1, (some .int))
set_option maxRecDepth 100000 in
theorem okX6_countKept : mf_ok YX6_countKept 0 := ⟨mf_m4 (i := 70) rfl rfl, mf_m1 (i := 12) rfl rfl, by decide +kernel, by decide⟩
abbrev YX6_keptAt : mf_Y := (yX6_keptAt, cX6_keptAt, 2, (some .int))
set_option maxRecDepth 100000 in
theorem okX6_keptAt : mf_ok YX6_keptAt 1 := ⟨mf_m4 (i := 119) rfl rfl, mf_m1 (i := 12) rfl rfl, by decide +kernel, by decide⟩
abbrev YX6_takeImage : mf_Y := (yX6_takeImage, cX6_takeImage, 6, (some .boolean))
set_option maxRecDepth 100000 in
theorem okX6_takeImage : mf_ok YX6_takeImage 2 := ⟨mf_m5 (i := 135) rfl rfl, mf_m1 (i := 12) rfl rfl, by decide +kernel, by decide⟩
abbrev YX6_takeBeing : mf_Y := (yX6_takeBeing, cX6_takeBeing, 5, (some .boolean))
set_option maxRecDepth 100000 in
theorem okX6_takeBeing : mf_ok YX6_takeBeing 3 := ⟨mf_m5 (i := 147) rfl rfl, mf_m1 (i := 12) rfl rfl, by decide +kernel, by decide⟩
abbrev YX7_init : mf_Y := (yX7_init, cX7_init, 4, none)
set_option maxRecDepth 100000 in
theorem okX7_init : mf_ok YX7_init 3 := ⟨mf_m1 (i := 189) rfl rfl, mf_m1 (i := 10) rfl rfl, by decide +kernel, by decide⟩
abbrev YX7_writeTo : mf_Y := (yX7_writeTo, cX7_writeTo, 3, none)
set_option maxRecDepth 100000 in
theorem okX7_writeTo : mf_ok YX7_writeTo 2 := ⟨mf_m3 (i := 175) rfl rfl, mf_m1 (i := 10) rfl rfl, by decide +kernel, by decide⟩
abbrev YX7_readQuestion : mf_Y := (yX7_readQuestion, cX7_readQuestion, 3, (some .int))
set_option maxRecDepth 100000 in
theorem okX7_readQuestion : mf_ok YX7_readQuestion 1 := ⟨mf_m5 (i := 92) rfl rfl, mf_m1 (i := 10) rfl rfl, by decide +kernel, by decide⟩
abbrev YX7_readTest : mf_Y := (yX7_readTest, cX7_readTest, 5, none)
set_option maxRecDepth 100000 in
theorem okX7_readTest : mf_ok YX7_readTest 1 := ⟨mf_m3 (i := 218) rfl rfl, mf_m1 (i := 10) rfl rfl, by decide +kernel, by decide⟩
abbrev YX7_readFact : mf_Y := (yX7_readFact, cX7_readFact, 3, none)
set_option maxRecDepth 100000 in
theorem okX7_readFact : mf_ok YX7_readFact 1 := ⟨mf_m3 (i := 222) rfl rfl, mf_m1 (i := 10) rfl rfl, by decide +kernel, by decide⟩
abbrev YX7_readSum : mf_Y := (yX7_readSum, cX7_readSum, 5, none)
set_option maxRecDepth 100000 in
theorem okX7_readSum : mf_ok YX7_readSum 1 := ⟨mf_m3 (i := 179) rfl rfl, mf_m1 (i := 10) rfl rfl, by decide +kernel, by decide⟩
abbrev YX7_readPart : mf_Y := (yX7_readPart, cX7_readPart, 4, none)
set_option maxRecDepth 100000 in
theorem okX7_readPart : mf_ok YX7_readPart 1 := ⟨mf_m3 (i := 183) rfl rfl, mf_m1 (i := 10) rfl rfl, by decide +kernel, by decide⟩
abbrev YX7_compareSign : mf_Y := (yX7_compareSign, cX7_compareSign, 1, (some .int))
set_option maxRecDepth 100000 in
theorem okX7_compareSign : mf_ok YX7_compareSign 0 := ⟨mf_m3 (i := 228) rfl rfl, mf_m1 (i := 10) rfl rfl, by decide +kernel, by decide⟩
abbrev YX7_sumSign : mf_Y := (yX7_sumSign, cX7_sumSign, 1, (some .int))
set_option maxRecDepth 100000 in
theorem okX7_sumSign : mf_ok YX7_sumSign 0 := ⟨mf_m3 (i := 214) rfl rfl, mf_m1 (i := 10) rfl rfl, by decide +kernel, by decide⟩
abbrev YX7_productSign : mf_Y := (yX7_productSign, cX7_productSign, 1, (some .int))
set_option maxRecDepth 100000 in
theorem okX7_productSign : mf_ok YX7_productSign 0 := ⟨mf_m3 (i := 210) rfl rfl, mf_m1 (i := 10) rfl rfl, by decide +kernel, by decide⟩
abbrev YX8_init : mf_Y := (yX8_init, cX8_init, 1, none)
set_option maxRecDepth 100000 in
theorem okX8_init : mf_ok YX8_init 0 := ⟨mf_m1 (i := 97) rfl rfl, mf_m1 (i := 7) rfl rfl, by decide +kernel, by decide⟩
abbrev YX8_nextCheck : mf_Y := (yX8_nextCheck, cX8_nextCheck, 2, (some .int))
set_option maxRecDepth 100000 in
theorem okX8_nextCheck : mf_ok YX8_nextCheck 2 := ⟨mf_m5 (i := 123) rfl rfl, mf_m1 (i := 7) rfl rfl, by decide +kernel, by decide⟩
abbrev YX8_add : mf_Y := (yX8_add, cX8_add, 3, none)
set_option maxRecDepth 100000 in
theorem okX8_add : mf_ok YX8_add 1 := ⟨mf_m3 (i := 27) rfl rfl, mf_m1 (i := 7) rfl rfl, by decide +kernel, by decide⟩
abbrev YX8_byteAt : mf_Y := (yX8_byteAt, cX8_byteAt, 2, (some .int))
set_option maxRecDepth 100000 in
theorem okX8_byteAt : mf_ok YX8_byteAt 1 := ⟨mf_m5 (i := 3) rfl rfl, mf_m1 (i := 7) rfl rfl, by decide +kernel, by decide⟩
abbrev YX8_pairAt : mf_Y := (yX8_pairAt, cX8_pairAt, 2, (some .int))
set_option maxRecDepth 100000 in
theorem okX8_pairAt : mf_ok YX8_pairAt 1 := ⟨mf_m5 (i := 142) rfl rfl, mf_m1 (i := 7) rfl rfl, by decide +kernel, by decide⟩
abbrev YX9_init : mf_Y := (yX9_init, cX9_init, 3, none)
set_option maxRecDepth 100000 in
theorem okX9_init : mf_ok YX9_init 2 := ⟨mf_m1 (i := 115) rfl rfl, mf_m1 (i := 8) rfl rfl, by decide +kernel, by decide⟩
abbrev YX9_start : mf_Y := (yX9_start, cX9_start, 1, none)
set_option maxRecDepth 100000 in
theorem okX9_start : mf_ok YX9_start 0 := ⟨mf_m3 (i := 55) rfl rfl, mf_m1 (i := 8) rfl rfl, by decide +kernel, by decide⟩
abbrev YX9_step : mf_Y := (yX9_step, cX9_step, 5, none)
set_option maxRecDepth 100000 in
theorem okX9_step : mf_ok YX9_step 0 := ⟨mf_m3 (i := 59) rfl rfl, mf_m1 (i := 8) rfl rfl, by decide +kernel, by decide⟩
abbrev YX9_takeWhole : mf_Y := (yX9_takeWhole, cX9_takeWhole, 7, none)
set_option maxRecDepth 100000 in
theorem okX9_takeWhole : mf_ok YX9_takeWhole 1 := ⟨mf_m3 (i := 69) rfl rfl, mf_m1 (i := 8) rfl rfl, by decide +kernel, by decide⟩
abbrev YX9_isWord : mf_Y := (yX9_isWord, cX9_isWord, 2, (some .boolean))
set_option maxRecDepth 100000 in
theorem okX9_isWord : mf_ok YX9_isWord 1 := ⟨mf_m3 (i := 99) rfl rfl, mf_m1 (i := 8) rfl rfl, by decide +kernel, by decide⟩
abbrev YX9_isSign : mf_Y := (yX9_isSign, cX9_isSign, 2, (some .boolean))
set_option maxRecDepth 100000 in
theorem okX9_isSign : mf_ok YX9_isSign 1 := ⟨mf_m3 (i := 195) rfl rfl, mf_m1 (i := 8) rfl rfl, by decide +kernel, by decide⟩
abbrev YX9_fail : mf_Y := (yX9_fail, cX9_fail, 3, none)
set_option maxRecDepth 100000 in
theorem okX9_fail : mf_ok YX9_fail 2 := ⟨mf_m3 (i := 73) rfl rfl, mf_m1 (i := 8) rfl rfl, by decide +kernel, by decide⟩
abbrev YX9_passSign : mf_Y := (yX9_passSign, cX9_passSign, 2, none)
set_option maxRecDepth 100000 in
theorem okX9_passSign : mf_ok YX9_passSign 1 := ⟨mf_m3 (i := 204) rfl rfl, mf_m1 (i := 8) rfl rfl, by decide +kernel, by decide⟩
abbrev YX9_passWord : mf_Y := (yX9_passWord, cX9_passWord, 2, none)
set_option maxRecDepth 100000 in
theorem okX9_passWord : mf_ok YX9_passWord 1 := ⟨mf_m3 (i := 95) rfl rfl, mf_m1 (i := 8) rfl rfl, by decide +kernel, by decide⟩
abbrev YX9_passNumber : mf_Y := (yX9_passNumber, cX9_passNumber, 4, (some .int))
set_option maxRecDepth 100000 in
theorem okX9_passNumber : mf_ok YX9_passNumber 2 := ⟨mf_m3 (i := 90) rfl rfl, mf_m1 (i := 8) rfl rfl, by decide +kernel, by decide⟩
abbrev YX9_mayOpen : mf_Y := (yX9_mayOpen, cX9_mayOpen, 2, (some .boolean))
set_option maxRecDepth 100000 in
theorem okX9_mayOpen : mf_ok YX9_mayOpen 1 := ⟨mf_m3 (i := 199) rfl rfl, mf_m1 (i := 8) rfl rfl, by decide +kernel, by decide⟩
abbrev YX10_init : mf_Y := (yX10_init, cX10_init, 4, none)
set_option maxRecDepth 100000 in
theorem okX10_init : mf_ok YX10_init 0 := ⟨mf_m1 (i := 33) rfl rfl, mf_m1 (i := 2) rfl rfl, by decide +kernel, by decide⟩
abbrev YX10_packListed : mf_Y := (yX10_packListed, cX10_packListed, 4, (some .int))
set_option maxRecDepth 100000 in
theorem okX10_packListed : mf_ok YX10_packListed 2 := ⟨mf_m1 (i := 86) rfl rfl, mf_m1 (i := 2) rfl rfl, by decide +kernel, by decide⟩
abbrev YX10_letterOf : mf_Y := (yX10_letterOf, cX10_letterOf, 4, (some .int))
set_option maxRecDepth 100000 in
theorem okX10_letterOf : mf_ok YX10_letterOf 2 := ⟨mf_m4 (i := 82) rfl rfl, mf_m1 (i := 2) rfl rfl, by decide +kernel, by decide⟩
abbrev YX10_isThat : mf_Y := (yX10_isThat, cX10_isThat, 3, (some .boolean))
set_option maxRecDepth 100000 in
theorem okX10_isThat : mf_ok YX10_isThat 2 := ⟨mf_m3 (i := 103) rfl rfl, mf_m1 (i := 2) rfl rfl, by decide +kernel, by decide⟩
abbrev YX10_find : mf_Y := (yX10_find, cX10_find, 3, (some .int))
set_option maxRecDepth 100000 in
theorem okX10_find : mf_ok YX10_find 1 := ⟨mf_m3 (i := 81) rfl rfl, mf_m1 (i := 2) rfl rfl, by decide +kernel, by decide⟩
abbrev YX11_init : mf_Y := (yX11_init, cX11_init, 3, none)
set_option maxRecDepth 100000 in
theorem okX11_init : mf_ok YX11_init 0 := ⟨mf_m1 (i := 25) rfl rfl, mf_m1 (i := 1) rfl rfl, by decide +kernel, by decide⟩
abbrev YX11_feed : mf_Y := (yX11_feed, cX11_feed, 6, (some .int))
set_option maxRecDepth 100000 in
theorem okX11_feed : mf_ok YX11_feed 5 := ⟨mf_m3 (i := 23) rfl rfl, mf_m1 (i := 1) rfl rfl, by decide +kernel, by decide⟩
abbrev YX11_end : mf_Y := (yX11_end, cX11_end, 2, (some .boolean))
set_option maxRecDepth 100000 in
theorem okX11_end : mf_ok YX11_end 1 := ⟨mf_m3 (i := 31) rfl rfl, mf_m1 (i := 1) rfl rfl, by decide +kernel, by decide⟩
abbrev YX11_folio : mf_Y := (yX11_folio, cX11_folio, 2, (some .int))
set_option maxRecDepth 100000 in
theorem okX11_folio : mf_ok YX11_folio 0 := ⟨mf_m3 (i := 35) rfl rfl, mf_m1 (i := 1) rfl rfl, by decide +kernel, by decide⟩
abbrev YX11_fault : mf_Y := (yX11_fault, cX11_fault, 2, (some .int))
set_option maxRecDepth 100000 in
theorem okX11_fault : mf_ok YX11_fault 1 := ⟨mf_m4 (i := 12) rfl rfl, mf_m1 (i := 1) rfl rfl, by decide +kernel, by decide⟩
abbrev YX11_has : mf_Y := (yX11_has, cX11_has, 2, (some .int))
set_option maxRecDepth 100000 in
theorem okX11_has : mf_ok YX11_has 1 := ⟨mf_m4 (i := 16) rfl rfl, mf_m1 (i := 1) rfl rfl, by decide +kernel, by decide⟩
abbrev YX11_letter : mf_Y := (yX11_letter, cX11_letter, 3, (some .int))
set_option maxRecDepth 100000 in
theorem okX11_letter : mf_ok YX11_letter 2 := ⟨mf_m4 (i := 75) rfl rfl, mf_m1 (i := 1) rfl rfl, by decide +kernel, by decide⟩
abbrev YX11_being : mf_Y := (yX11_being, cX11_being, 3, (some .int))
set_option maxRecDepth 100000 in
theorem okX11_being : mf_ok YX11_being 2 := ⟨mf_m4 (i := 86) rfl rfl, mf_m1 (i := 1) rfl rfl, by decide +kernel, by decide⟩
abbrev YX11_cell : mf_Y := (yX11_cell, cX11_cell, 4, (some .int))
set_option maxRecDepth 100000 in
theorem okX11_cell : mf_ok YX11_cell 3 := ⟨mf_m4 (i := 93) rfl rfl, mf_m1 (i := 1) rfl rfl, by decide +kernel, by decide⟩
abbrev YX11_kept : mf_Y := (yX11_kept, cX11_kept, 4, (some .int))
set_option maxRecDepth 100000 in
theorem okX11_kept : mf_ok YX11_kept 2 := ⟨mf_m4 (i := 115) rfl rfl, mf_m1 (i := 1) rfl rfl, by decide +kernel, by decide⟩
abbrev YX11_meets : mf_Y := (yX11_meets, cX11_meets, 3, (some .int))
set_option maxRecDepth 100000 in
theorem okX11_meets : mf_ok YX11_meets 2 := ⟨mf_m4 (i := 125) rfl rfl, mf_m1 (i := 1) rfl rfl, by decide +kernel, by decide⟩
abbrev YX11_pairs : mf_Y := (yX11_pairs, cX11_pairs, 3, (some .int))
set_option maxRecDepth 100000 in
theorem okX11_pairs : mf_ok YX11_pairs 1 := ⟨mf_m4 (i := 136) rfl rfl, mf_m1 (i := 1) rfl rfl, by decide +kernel, by decide⟩
abbrev YX11_apart : mf_Y := (yX11_apart, cX11_apart, 1, (some .int))
set_option maxRecDepth 100000 in
theorem okX11_apart : mf_ok YX11_apart 0 := ⟨mf_m4 (i := 144) rfl rfl, mf_m1 (i := 1) rfl rfl, by decide +kernel, by decide⟩
abbrev YX11_reading : mf_Y := (yX11_reading, cX11_reading, 3, (some .int))
set_option maxRecDepth 100000 in
theorem okX11_reading : mf_ok YX11_reading 2 := ⟨mf_m4 (i := 153) rfl rfl, mf_m1 (i := 1) rfl rfl, by decide +kernel, by decide⟩
abbrev YX11_later : mf_Y := (yX11_later, cX11_later, 5, (some .int))
set_option maxRecDepth 100000 in
theorem okX11_later : mf_ok YX11_later 3 := ⟨mf_m4 (i := 205) rfl rfl, mf_m1 (i := 1) rfl rfl, by decide +kernel, by decide⟩
abbrev YX11_opening : mf_Y := (yX11_opening, cX11_opening, 2, (some .int))
set_option maxRecDepth 100000 in
theorem okX11_opening : mf_ok YX11_opening 1 := ⟨mf_m4 (i := 214) rfl rfl, mf_m1 (i := 1) rfl rfl, by decide +kernel, by decide⟩
abbrev YX11_way : mf_Y := (yX11_way, cX11_way, 4, (some .int))
set_option maxRecDepth 100000 in
theorem okX11_way : mf_ok YX11_way 3 := ⟨mf_m4 (i := 218) rfl rfl, mf_m1 (i := 1) rfl rfl, by decide +kernel, by decide⟩
abbrev YX11_see : mf_Y := (yX11_see, cX11_see, 2, (some .int))
set_option maxRecDepth 100000 in
theorem okX11_see : mf_ok YX11_see 0 := ⟨mf_m4 (i := 235) rfl rfl, mf_m1 (i := 1) rfl rfl, by decide +kernel, by decide⟩
abbrev YX11_lay : mf_Y := (yX11_lay, cX11_lay, 3, (some .int))
set_option maxRecDepth 100000 in
theorem okX11_lay : mf_ok YX11_lay 1 := ⟨mf_m5 (i := 7) rfl rfl, mf_m1 (i := 1) rfl rfl, by decide +kernel, by decide⟩
abbrev YX11_after : mf_Y := (yX11_after, cX11_after, 2, (some .int))
set_option maxRecDepth 100000 in
theorem okX11_after : mf_ok YX11_after 1 := ⟨mf_m5 (i := 20) rfl rfl, mf_m1 (i := 1) rfl rfl, by decide +kernel, by decide⟩
abbrev YX11_trim : mf_Y := (yX11_trim, cX11_trim, 3, (some .int))
set_option maxRecDepth 100000 in
theorem okX11_trim : mf_ok YX11_trim 2 := ⟨mf_m5 (i := 34) rfl rfl, mf_m1 (i := 1) rfl rfl, by decide +kernel, by decide⟩
abbrev YX11_go : mf_Y := (yX11_go, cX11_go, 4, (some .boolean))
set_option maxRecDepth 100000 in
theorem okX11_go : mf_ok YX11_go 3 := ⟨mf_m5 (i := 44) rfl rfl, mf_m1 (i := 1) rfl rfl, by decide +kernel, by decide⟩
abbrev YX11_gloss : mf_Y := (yX11_gloss, cX11_gloss, 5, (some .int))
set_option maxRecDepth 100000 in
theorem okX11_gloss : mf_ok YX11_gloss 2 := ⟨mf_m5 (i := 54) rfl rfl, mf_m1 (i := 1) rfl rfl, by decide +kernel, by decide⟩
abbrev YX11_days : mf_Y := (yX11_days, cX11_days, 4, (some .int))
set_option maxRecDepth 100000 in
theorem okX11_days : mf_ok YX11_days 1 := ⟨mf_m5 (i := 63) rfl rfl, mf_m1 (i := 1) rfl rfl, by decide +kernel, by decide⟩
abbrev YX11_chance : mf_Y := (yX11_chance, cX11_chance, 5, (some .int))
set_option maxRecDepth 100000 in
theorem okX11_chance : mf_ok YX11_chance 1 := ⟨mf_m5 (i := 68) rfl rfl, mf_m1 (i := 1) rfl rfl, by decide +kernel, by decide⟩
abbrev YX11_undo : mf_Y := (yX11_undo, cX11_undo, 1, (some .boolean))
set_option maxRecDepth 100000 in
theorem okX11_undo : mf_ok YX11_undo 0 := ⟨mf_m5 (i := 79) rfl rfl, mf_m1 (i := 1) rfl rfl, by decide +kernel, by decide⟩
abbrev YX11_seed : mf_Y := (yX11_seed, cX11_seed, 2, (some .boolean))
set_option maxRecDepth 100000 in
theorem okX11_seed : mf_ok YX11_seed 1 := ⟨mf_m5 (i := 83) rfl rfl, mf_m1 (i := 1) rfl rfl, by decide +kernel, by decide⟩
abbrev YX11_ask : mf_Y := (yX11_ask, cX11_ask, 2, (some .long))
set_option maxRecDepth 100000 in
theorem okX11_ask : mf_ok YX11_ask 0 := ⟨mf_m5 (i := 87) rfl rfl, mf_m1 (i := 1) rfl rfl, by decide +kernel, by decide⟩
abbrev YX11_image : mf_Y := (yX11_image, cX11_image, 3, (some .int))
set_option maxRecDepth 100000 in
theorem okX11_image : mf_ok YX11_image 0 := ⟨mf_m5 (i := 112) rfl rfl, mf_m1 (i := 1) rfl rfl, by decide +kernel, by decide⟩
abbrev YX11_octet : mf_Y := (yX11_octet, cX11_octet, 2, (some .int))
set_option maxRecDepth 100000 in
theorem okX11_octet : mf_ok YX11_octet 1 := ⟨mf_m5 (i := 127) rfl rfl, mf_m1 (i := 1) rfl rfl, by decide +kernel, by decide⟩
abbrev YX11_on : mf_Y := (yX11_on, cX11_on, 2, (some .boolean))
set_option maxRecDepth 100000 in
theorem okX11_on : mf_ok YX11_on 0 := ⟨mf_m5 (i := 131) rfl rfl, mf_m1 (i := 1) rfl rfl, by decide +kernel, by decide⟩
abbrev YX11_status : mf_Y := (yX11_status, cX11_status, 2, (some .int))
set_option maxRecDepth 100000 in
theorem okX11_status : mf_ok YX11_status 1 := ⟨mf_m5 (i := 152) rfl rfl, mf_m1 (i := 1) rfl rfl, by decide +kernel, by decide⟩
abbrev YX11_takeFault : mf_Y := (yX11_takeFault, cX11_takeFault, 1, none)
set_option maxRecDepth 100000 in
theorem okX11_takeFault : mf_ok YX11_takeFault 0 := ⟨mf_m3 (i := 237) rfl rfl, mf_m1 (i := 1) rfl rfl, by decide +kernel, by decide⟩
abbrev YX11_isBeing : mf_Y := (yX11_isBeing, cX11_isBeing, 2, (some .boolean))
set_option maxRecDepth 100000 in
theorem okX11_isBeing : mf_ok YX11_isBeing 1 := ⟨mf_m4 (i := 79) rfl rfl, mf_m1 (i := 1) rfl rfl, by decide +kernel, by decide⟩
abbrev YX11_isCell : mf_Y := (yX11_isCell, cX11_isCell, 3, (some .boolean))
set_option maxRecDepth 100000 in
theorem okX11_isCell : mf_ok YX11_isCell 2 := ⟨mf_m4 (i := 97) rfl rfl, mf_m1 (i := 1) rfl rfl, by decide +kernel, by decide⟩
abbrev YX11_canPass : mf_Y := (yX11_canPass, cX11_canPass, 2, (some .boolean))
set_option maxRecDepth 100000 in
theorem okX11_canPass : mf_ok YX11_canPass 1 := ⟨mf_m4 (i := 157) rfl rfl, mf_m1 (i := 1) rfl rfl, by decide +kernel, by decide⟩
abbrev YX11_allPurses : mf_Y := (yX11_allPurses, cX11_allPurses, 3, (some .int))
set_option maxRecDepth 100000 in
theorem okX11_allPurses : mf_ok YX11_allPurses 0 := ⟨mf_m4 (i := 66) rfl rfl, mf_m1 (i := 1) rfl rfl, by decide +kernel, by decide⟩
abbrev YX11_leafUpon : mf_Y := (yX11_leafUpon, cX11_leafUpon, 3, (some .int))
set_option maxRecDepth 100000 in
theorem okX11_leafUpon : mf_ok YX11_leafUpon 1 := ⟨mf_m4 (i := 103) rfl rfl, mf_m1 (i := 1) rfl rfl, by decide +kernel, by decide⟩
abbrev YX11_findRefuge : mf_Y := (yX11_findRefuge, cX11_findRefuge, 4, (some .int))
set_option maxRecDepth 100000 in
theorem okX11_findRefuge : mf_ok YX11_findRefuge 2 := ⟨mf_m5 (i := 58) rfl rfl, mf_m1 (i := 1) rfl rfl, by decide +kernel, by decide⟩
abbrev YX11_saveAct : mf_Y := (yX11_saveAct, cX11_saveAct, 1, none)
set_option maxRecDepth 100000 in
theorem okX11_saveAct : mf_ok YX11_saveAct 0 := ⟨mf_m5 (i := 49) rfl rfl, mf_m1 (i := 1) rfl rfl, by decide +kernel, by decide⟩
abbrev YX11_draw : mf_Y := (yX11_draw, cX11_draw, 2, (some .int))
set_option maxRecDepth 100000 in
theorem okX11_draw : mf_ok YX11_draw 1 := ⟨mf_m5 (i := 72) rfl rfl, mf_m1 (i := 1) rfl rfl, by decide +kernel, by decide⟩
abbrev YX11_answer : mf_Y := (yX11_answer, cX11_answer, 13, (some .long))
set_option maxRecDepth 100000 in
theorem okX11_answer : mf_ok YX11_answer 1 := ⟨mf_m5 (i := 101) rfl rfl, mf_m1 (i := 1) rfl rfl, by decide +kernel, by decide⟩
abbrev YX11_addOctets : mf_Y := (yX11_addOctets, cX11_addOctets, 2, none)
set_option maxRecDepth 100000 in
theorem okX11_addOctets : mf_ok YX11_addOctets 1 := ⟨mf_m5 (i := 116) rfl rfl, mf_m1 (i := 1) rfl rfl, by decide +kernel, by decide⟩
abbrev YX11_addOctet : mf_Y := (yX11_addOctet, cX11_addOctet, 2, none)
set_option maxRecDepth 100000 in
theorem okX11_addOctet : mf_ok YX11_addOctet 1 := ⟨mf_m5 (i := 120) rfl rfl, mf_m1 (i := 1) rfl rfl, by decide +kernel, by decide⟩
abbrev YX12_init : mf_Y := (yX12_init, cX12_init, 1, none)
set_option maxRecDepth 100000 in
theorem okX12_init : mf_ok YX12_init 0 := ⟨mf_m5 (i := 157) rfl rfl, mf_m1 (i := 17) rfl rfl, by decide +kernel, by decide⟩
abbrev YX12_isIn : mf_Y := (yX12_isIn, cX12_isIn, 6, (some .boolean))
set_option maxRecDepth 100000 in
theorem okX12_isIn : mf_ok YX12_isIn 3 := ⟨mf_m7 (i := 48) rfl rfl, mf_m1 (i := 17) rfl rfl, by decide +kernel, by decide⟩
abbrev YX12_feed : mf_Y := (yX12_feed, cX12_feed, 8, (some .int))
set_option maxRecDepth 100000 in
theorem okX12_feed : mf_ok YX12_feed 5 := ⟨mf_m7 (i := 3) rfl rfl, mf_m1 (i := 17) rfl rfl, by decide +kernel, by decide⟩
abbrev YX12_end : mf_Y := (yX12_end, cX12_end, 2, (some .boolean))
set_option maxRecDepth 100000 in
theorem okX12_end : mf_ok YX12_end 1 := ⟨mf_m7 (i := 7) rfl rfl, mf_m1 (i := 17) rfl rfl, by decide +kernel, by decide⟩
abbrev YX12_fail : mf_Y := (yX12_fail, cX12_fail, 3, none)
set_option maxRecDepth 100000 in
theorem okX12_fail : mf_ok YX12_fail 2 := ⟨mf_m7 (i := 38) rfl rfl, mf_m1 (i := 17) rfl rfl, by decide +kernel, by decide⟩
abbrev YX12_isLetter : mf_Y := (yX12_isLetter, cX12_isLetter, 1, (some .boolean))
set_option maxRecDepth 100000 in
theorem okX12_isLetter : mf_ok YX12_isLetter 1 := ⟨mf_m7 (i := 34) rfl rfl, mf_m1 (i := 17) rfl rfl, by decide +kernel, by decide⟩
abbrev YX12_isDigit : mf_Y := (yX12_isDigit, cX12_isDigit, 1, (some .boolean))
set_option maxRecDepth 100000 in
theorem okX12_isDigit : mf_ok YX12_isDigit 1 := ⟨mf_m7 (i := 45) rfl rfl, mf_m1 (i := 17) rfl rfl, by decide +kernel, by decide⟩
abbrev YX12_look : mf_Y := (yX12_look, cX12_look, 1, (some .int))
set_option maxRecDepth 100000 in
theorem okX12_look : mf_ok YX12_look 0 := ⟨mf_m7 (i := 31) rfl rfl, mf_m1 (i := 17) rfl rfl, by decide +kernel, by decide⟩
abbrev YX12_isHere : mf_Y := (yX12_isHere, cX12_isHere, 4, (some .boolean))
set_option maxRecDepth 100000 in
theorem okX12_isHere : mf_ok YX12_isHere 1 := ⟨mf_m7 (i := 27) rfl rfl, mf_m1 (i := 17) rfl rfl, by decide +kernel, by decide⟩
abbrev YX12_takes : mf_Y := (yX12_takes, cX12_takes, 2, (some .boolean))
set_option maxRecDepth 100000 in
theorem okX12_takes : mf_ok YX12_takes 1 := ⟨mf_m7 (i := 23) rfl rfl, mf_m1 (i := 17) rfl rfl, by decide +kernel, by decide⟩
abbrev YX12_asks : mf_Y := (yX12_asks, cX12_asks, 2, none)
set_option maxRecDepth 100000 in
theorem okX12_asks : mf_ok YX12_asks 1 := ⟨mf_m7 (i := 19) rfl rfl, mf_m1 (i := 17) rfl rfl, by decide +kernel, by decide⟩
abbrev YX12_takesSign : mf_Y := (yX12_takesSign, cX12_takesSign, 2, (some .boolean))
set_option maxRecDepth 100000 in
theorem okX12_takesSign : mf_ok YX12_takesSign 1 := ⟨mf_m7 (i := 56) rfl rfl, mf_m1 (i := 17) rfl rfl, by decide +kernel, by decide⟩
abbrev YX12_asksSign : mf_Y := (yX12_asksSign, cX12_asksSign, 2, none)
set_option maxRecDepth 100000 in
theorem okX12_asksSign : mf_ok YX12_asksSign 1 := ⟨mf_m7 (i := 52) rfl rfl, mf_m1 (i := 17) rfl rfl, by decide +kernel, by decide⟩
abbrev YX12_number : mf_Y := (yX12_number, cX12_number, 5, (some .int))
set_option maxRecDepth 100000 in
theorem okX12_number : mf_ok YX12_number 2 := ⟨mf_m7 (i := 42) rfl rfl, mf_m1 (i := 17) rfl rfl, by decide +kernel, by decide⟩
abbrev YX12_isOwnHere : mf_Y := (yX12_isOwnHere, cX12_isOwnHere, 2, (some .boolean))
set_option maxRecDepth 100000 in
theorem okX12_isOwnHere : mf_ok YX12_isOwnHere 0 := ⟨mf_m7 (i := 96) rfl rfl, mf_m1 (i := 17) rfl rfl, by decide +kernel, by decide⟩
abbrev YX12_name : mf_Y := (yX12_name, cX12_name, 3, (some .long))
set_option maxRecDepth 100000 in
theorem okX12_name : mf_ok YX12_name 0 := ⟨mf_m7 (i := 92) rfl rfl, mf_m1 (i := 17) rfl rfl, by decide +kernel, by decide⟩
abbrev YX12_kindBy : mf_Y := (yX12_kindBy, cX12_kindBy, 1, (some .int))
set_option maxRecDepth 100000 in
theorem okX12_kindBy : mf_ok YX12_kindBy 1 := ⟨mf_m7 (i := 105) rfl rfl, mf_m1 (i := 17) rfl rfl, by decide +kernel, by decide⟩
abbrev YX12_isAllowed : mf_Y := (yX12_isAllowed, cX12_isAllowed, 2, (some .boolean))
set_option maxRecDepth 100000 in
theorem okX12_isAllowed : mf_ok YX12_isAllowed 1 := ⟨mf_m7 (i := 141) rfl rfl, mf_m1 (i := 17) rfl rfl, by decide +kernel, by decide⟩
abbrev YX12_isFull : mf_Y := (yX12_isFull, cX12_isFull, 4, (some .boolean))
set_option maxRecDepth 100000 in
theorem okX12_isFull : mf_ok YX12_isFull 3 := ⟨mf_m7 (i := 68) rfl rfl, mf_m1 (i := 17) rfl rfl, by decide +kernel, by decide⟩
abbrev YX12_folioTold : mf_Y := (yX12_folioTold, cX12_folioTold, 1, none)
set_option maxRecDepth 100000 in
theorem okX12_folioTold : mf_ok YX12_folioTold 0 := ⟨mf_m7 (i := 15) rfl rfl, mf_m1 (i := 17) rfl rfl, by decide +kernel, by decide⟩
abbrev YX12_leafTold : mf_Y := (yX12_leafTold, cX12_leafTold, 2, (some .int))
set_option maxRecDepth 100000 in
theorem okX12_leafTold : mf_ok YX12_leafTold 0 := ⟨mf_m7 (i := 72) rfl rfl, mf_m1 (i := 17) rfl rfl, by decide +kernel, by decide⟩
abbrev YX12_standsTold : mf_Y := (yX12_standsTold, cX12_standsTold, 4, (some .boolean))
set_option maxRecDepth 100000 in
theorem okX12_standsTold : mf_ok YX12_standsTold 2 := ⟨mf_m7 (i := 80) rfl rfl, mf_m1 (i := 17) rfl rfl, by decide +kernel, by decide⟩
abbrev YX12_cellTold : mf_Y := (yX12_cellTold, cX12_cellTold, 3, (some .int))
set_option maxRecDepth 100000 in
theorem okX12_cellTold : mf_ok YX12_cellTold 1 := ⟨mf_m7 (i := 76) rfl rfl, mf_m1 (i := 17) rfl rfl, by decide +kernel, by decide⟩
abbrev YX12_glossTold : mf_Y := (yX12_glossTold, cX12_glossTold, 4, none)
set_option maxRecDepth 100000 in
theorem okX12_glossTold : mf_ok YX12_glossTold 1 := ⟨mf_m7 (i := 64) rfl rfl, mf_m1 (i := 17) rfl rfl, by decide +kernel, by decide⟩
abbrev YX12_wormTold : mf_Y := (yX12_wormTold, cX12_wormTold, 6, none)
set_option maxRecDepth 100000 in
theorem okX12_wormTold : mf_ok YX12_wormTold 1 := ⟨mf_m7 (i := 84) rfl rfl, mf_m1 (i := 17) rfl rfl, by decide +kernel, by decide⟩
abbrev YX12_beingTold : mf_Y := (yX12_beingTold, cX12_beingTold, 7, none)
set_option maxRecDepth 100000 in
theorem okX12_beingTold : mf_ok YX12_beingTold 1 := ⟨mf_m7 (i := 88) rfl rfl, mf_m1 (i := 17) rfl rfl, by decide +kernel, by decide⟩
abbrev YX12_codesTold : mf_Y := (yX12_codesTold, cX12_codesTold, 4, none)
set_option maxRecDepth 100000 in
theorem okX12_codesTold : mf_ok YX12_codesTold 2 := ⟨mf_m7 (i := 102) rfl rfl, mf_m1 (i := 17) rfl rfl, by decide +kernel, by decide⟩
abbrev YX12_statementTold : mf_Y := (yX12_statementTold, cX12_statementTold, 2, none)
set_option maxRecDepth 100000 in
theorem okX12_statementTold : mf_ok YX12_statementTold 0 := ⟨mf_m7 (i := 60) rfl rfl, mf_m1 (i := 17) rfl rfl, by decide +kernel, by decide⟩
abbrev YX12_folio : mf_Y := (yX12_folio, cX12_folio, 2, (some .int))
set_option maxRecDepth 100000 in
theorem okX12_folio : mf_ok YX12_folio 0 := ⟨mf_m7 (i := 11) rfl rfl, mf_m1 (i := 17) rfl rfl, by decide +kernel, by decide⟩
abbrev YX12_stands : mf_Y := (yX12_stands, cX12_stands, 2, none)
set_option maxRecDepth 100000 in
theorem okX12_stands : mf_ok YX12_stands 0 := ⟨mf_m7 (i := 188) rfl rfl, mf_m1 (i := 17) rfl rfl, by decide +kernel, by decide⟩
abbrev YX12_fault : mf_Y := (yX12_fault, cX12_fault, 2, (some .int))
set_option maxRecDepth 100000 in
theorem okX12_fault : mf_ok YX12_fault 1 := ⟨mf_m7 (i := 192) rfl rfl, mf_m1 (i := 17) rfl rfl, by decide +kernel, by decide⟩
abbrev YX12_leaves : mf_Y := (yX12_leaves, cX12_leaves, 1, (some .int))
set_option maxRecDepth 100000 in
theorem okX12_leaves : mf_ok YX12_leaves 0 := ⟨mf_m8 (i := 14) rfl rfl, mf_m1 (i := 17) rfl rfl, by decide +kernel, by decide⟩
abbrev YX12_beingMany : mf_Y := (yX12_beingMany, cX12_beingMany, 1, (some .int))
set_option maxRecDepth 100000 in
theorem okX12_beingMany : mf_ok YX12_beingMany 0 := ⟨mf_m7 (i := 207) rfl rfl, mf_m1 (i := 17) rfl rfl, by decide +kernel, by decide⟩
abbrev YX12_isBeing : mf_Y := (yX12_isBeing, cX12_isBeing, 2, (some .boolean))
set_option maxRecDepth 100000 in
theorem okX12_isBeing : mf_ok YX12_isBeing 1 := ⟨mf_m8 (i := 26) rfl rfl, mf_m1 (i := 17) rfl rfl, by decide +kernel, by decide⟩
abbrev YX12_isCell : mf_Y := (yX12_isCell, cX12_isCell, 3, (some .boolean))
set_option maxRecDepth 100000 in
theorem okX12_isCell : mf_ok YX12_isCell 2 := ⟨mf_m8 (i := 39) rfl rfl, mf_m1 (i := 17) rfl rfl, by decide +kernel, by decide⟩
abbrev YX12_leafOf : mf_Y := (yX12_leafOf, cX12_leafOf, 2, (some .int))
set_option maxRecDepth 100000 in
theorem okX12_leafOf : mf_ok YX12_leafOf 1 := ⟨mf_m7 (i := 227) rfl rfl, mf_m1 (i := 17) rfl rfl, by decide +kernel, by decide⟩
abbrev YX12_cellOf : mf_Y := (yX12_cellOf, cX12_cellOf, 2, (some .int))
set_option maxRecDepth 100000 in
theorem okX12_cellOf : mf_ok YX12_cellOf 1 := ⟨mf_m7 (i := 231) rfl rfl, mf_m1 (i := 17) rfl rfl, by decide +kernel, by decide⟩
abbrev YX12_purseOf : mf_Y := (yX12_purseOf, cX12_purseOf, 2, (some .int))
set_option maxRecDepth 100000 in
theorem okX12_purseOf : mf_ok YX12_purseOf 1 := ⟨mf_m7 (i := 235) rfl rfl, mf_m1 (i := 17) rfl rfl, by decide +kernel, by decide⟩
abbrev YX12_purseIs : mf_Y := (yX12_purseIs, cX12_purseIs, 4, none)
set_option maxRecDepth 100000 in
theorem okX12_purseIs : mf_ok YX12_purseIs 2 := ⟨mf_m8 (i := 121) rfl rfl, mf_m1 (i := 17) rfl rfl, by decide +kernel, by decide⟩
abbrev YX12_hasGloss : mf_Y := (yX12_hasGloss, cX12_hasGloss, 3, (some .boolean))
set_option maxRecDepth 100000 in
theorem okX12_hasGloss : mf_ok YX12_hasGloss 2 := ⟨mf_m8 (i := 47) rfl rfl, mf_m1 (i := 17) rfl rfl, by decide +kernel, by decide⟩
abbrev YX12_standsOn : mf_Y := (yX12_standsOn, cX12_standsOn, 4, (some .int))
set_option maxRecDepth 100000 in
theorem okX12_standsOn : mf_ok YX12_standsOn 2 := ⟨mf_m8 (i := 51) rfl rfl, mf_m1 (i := 17) rfl rfl, by decide +kernel, by decide⟩
abbrev YX12_isOpen : mf_Y := (yX12_isOpen, cX12_isOpen, 2, (some .boolean))
set_option maxRecDepth 100000 in
theorem okX12_isOpen : mf_ok YX12_isOpen 2 := ⟨mf_m7 (i := 238) rfl rfl, mf_m1 (i := 17) rfl rfl, by decide +kernel, by decide⟩
abbrev YX12_liesOnNext : mf_Y := (yX12_liesOnNext, cX12_liesOnNext, 3, (some .boolean))
set_option maxRecDepth 100000 in
theorem okX12_liesOnNext : mf_ok YX12_liesOnNext 2 := ⟨mf_m8 (i := 43) rfl rfl, mf_m1 (i := 17) rfl rfl, by decide +kernel, by decide⟩
abbrev YX12_doMeet : mf_Y := (yX12_doMeet, cX12_doMeet, 6, (some .boolean))
set_option maxRecDepth 100000 in
theorem okX12_doMeet : mf_ok YX12_doMeet 3 := ⟨mf_m8 (i := 64) rfl rfl, mf_m1 (i := 17) rfl rfl, by decide +kernel, by decide⟩
abbrev YX12_codesTell : mf_Y := (yX12_codesTell, cX12_codesTell, 5, (some .long))
set_option maxRecDepth 100000 in
theorem okX12_codesTell : mf_ok YX12_codesTell 2 := ⟨mf_m7 (i := 215) rfl rfl, mf_m1 (i := 17) rfl rfl, by decide +kernel, by decide⟩
abbrev YX12_openingOn : mf_Y := (yX12_openingOn, cX12_openingOn, 3, (some .int))
set_option maxRecDepth 100000 in
theorem okX12_openingOn : mf_ok YX12_openingOn 1 := ⟨mf_m7 (i := 211) rfl rfl, mf_m1 (i := 17) rfl rfl, by decide +kernel, by decide⟩
abbrev YX12_isMet : mf_Y := (yX12_isMet, cX12_isMet, 3, none)
set_option maxRecDepth 100000 in
theorem okX12_isMet : mf_ok YX12_isMet 1 := ⟨mf_m8 (i := 109) rfl rfl, mf_m1 (i := 17) rfl rfl, by decide +kernel, by decide⟩
abbrev YX12_isKept : mf_Y := (yX12_isKept, cX12_isKept, 4, none)
set_option maxRecDepth 100000 in
theorem okX12_isKept : mf_ok YX12_isKept 2 := ⟨mf_m8 (i := 113) rfl rfl, mf_m1 (i := 17) rfl rfl, by decide +kernel, by decide⟩
abbrev YX12_pays : mf_Y := (yX12_pays, cX12_pays, 7, none)
set_option maxRecDepth 100000 in
theorem okX12_pays : mf_ok YX12_pays 3 := ⟨mf_m8 (i := 117) rfl rfl, mf_m1 (i := 17) rfl rfl, by decide +kernel, by decide⟩
abbrev YX12_meet : mf_Y := (yX12_meet, cX12_meet, 5, none)
set_option maxRecDepth 100000 in
theorem okX12_meet : mf_ok YX12_meet 2 := ⟨mf_m8 (i := 105) rfl rfl, mf_m1 (i := 17) rfl rfl, by decide +kernel, by decide⟩
abbrev YX12_dayBy : mf_Y := (yX12_dayBy, cX12_dayBy, 5, none)
set_option maxRecDepth 100000 in
theorem okX12_dayBy : mf_ok YX12_dayBy 1 := ⟨mf_m8 (i := 101) rfl rfl, mf_m1 (i := 17) rfl rfl, by decide +kernel, by decide⟩
abbrev YX12_daysGo : mf_Y := (yX12_daysGo, cX12_daysGo, 3, none)
set_option maxRecDepth 100000 in
theorem okX12_daysGo : mf_ok YX12_daysGo 1 := ⟨mf_m8 (i := 140) rfl rfl, mf_m1 (i := 17) rfl rfl, by decide +kernel, by decide⟩
abbrev YX12_putsAside : mf_Y := (yX12_putsAside, cX12_putsAside, 2, none)
set_option maxRecDepth 100000 in
theorem okX12_putsAside : mf_ok YX12_putsAside 0 := ⟨mf_m8 (i := 93) rfl rfl, mf_m1 (i := 17) rfl rfl, by decide +kernel, by decide⟩
abbrev YX12_triesAnew : mf_Y := (yX12_triesAnew, cX12_triesAnew, 2, none)
set_option maxRecDepth 100000 in
theorem okX12_triesAnew : mf_ok YX12_triesAnew 0 := ⟨mf_m8 (i := 128) rfl rfl, mf_m1 (i := 17) rfl rfl, by decide +kernel, by decide⟩
abbrev YX12_takesBack : mf_Y := (yX12_takesBack, cX12_takesBack, 2, none)
set_option maxRecDepth 100000 in
theorem okX12_takesBack : mf_ok YX12_takesBack 0 := ⟨mf_m8 (i := 132) rfl rfl, mf_m1 (i := 17) rfl rfl, by decide +kernel, by decide⟩
abbrev YX12_isAhead : mf_Y := (yX12_isAhead, cX12_isAhead, 4, (some .boolean))
set_option maxRecDepth 100000 in
theorem okX12_isAhead : mf_ok YX12_isAhead 3 := ⟨mf_m8 (i := 85) rfl rfl, mf_m1 (i := 17) rfl rfl, by decide +kernel, by decide⟩
abbrev YX12_bits : mf_Y := (yX12_bits, cX12_bits, 3, (some .int))
set_option maxRecDepth 100000 in
theorem okX12_bits : mf_ok YX12_bits 1 := ⟨mf_m7 (i := 203) rfl rfl, mf_m1 (i := 17) rfl rfl, by decide +kernel, by decide⟩
abbrev YX12_glossMany : mf_Y := (yX12_glossMany, cX12_glossMany, 3, (some .int))
set_option maxRecDepth 100000 in
theorem okX12_glossMany : mf_ok YX12_glossMany 0 := ⟨mf_m7 (i := 200) rfl rfl, mf_m1 (i := 17) rfl rfl, by decide +kernel, by decide⟩
abbrev YX12_pursesAll : mf_Y := (yX12_pursesAll, cX12_pursesAll, 3, (some .int))
set_option maxRecDepth 100000 in
theorem okX12_pursesAll : mf_ok YX12_pursesAll 0 := ⟨mf_m8 (i := 18) rfl rfl, mf_m1 (i := 17) rfl rfl, by decide +kernel, by decide⟩
abbrev YX12_has : mf_Y := (yX12_has, cX12_has, 2, (some .int))
set_option maxRecDepth 100000 in
theorem okX12_has : mf_ok YX12_has 1 := ⟨mf_m7 (i := 196) rfl rfl, mf_m1 (i := 17) rfl rfl, by decide +kernel, by decide⟩
abbrev YX12_letter : mf_Y := (yX12_letter, cX12_letter, 8, (some .int))
set_option maxRecDepth 100000 in
theorem okX12_letter : mf_ok YX12_letter 2 := ⟨mf_m8 (i := 22) rfl rfl, mf_m1 (i := 17) rfl rfl, by decide +kernel, by decide⟩
abbrev YX12_being : mf_Y := (yX12_being, cX12_being, 3, (some .int))
set_option maxRecDepth 100000 in
theorem okX12_being : mf_ok YX12_being 2 := ⟨mf_m8 (i := 31) rfl rfl, mf_m1 (i := 17) rfl rfl, by decide +kernel, by decide⟩
abbrev YX12_cell : mf_Y := (yX12_cell, cX12_cell, 6, (some .int))
set_option maxRecDepth 100000 in
theorem okX12_cell : mf_ok YX12_cell 3 := ⟨mf_m8 (i := 35) rfl rfl, mf_m1 (i := 17) rfl rfl, by decide +kernel, by decide⟩
abbrev YX12_kept : mf_Y := (yX12_kept, cX12_kept, 3, (some .int))
set_option maxRecDepth 100000 in
theorem okX12_kept : mf_ok YX12_kept 2 := ⟨mf_m8 (i := 55) rfl rfl, mf_m1 (i := 17) rfl rfl, by decide +kernel, by decide⟩
abbrev YX12_meets : mf_Y := (yX12_meets, cX12_meets, 3, (some .int))
set_option maxRecDepth 100000 in
theorem okX12_meets : mf_ok YX12_meets 2 := ⟨mf_m8 (i := 60) rfl rfl, mf_m1 (i := 17) rfl rfl, by decide +kernel, by decide⟩
abbrev YX12_pairsBy : mf_Y := (yX12_pairsBy, cX12_pairsBy, 5, (some .int))
set_option maxRecDepth 100000 in
theorem okX12_pairsBy : mf_ok YX12_pairsBy 1 := ⟨mf_m8 (i := 73) rfl rfl, mf_m1 (i := 17) rfl rfl, by decide +kernel, by decide⟩
abbrev YX12_pairs : mf_Y := (yX12_pairs, cX12_pairs, 2, (some .int))
set_option maxRecDepth 100000 in
theorem okX12_pairs : mf_ok YX12_pairs 1 := ⟨mf_m8 (i := 68) rfl rfl, mf_m1 (i := 17) rfl rfl, by decide +kernel, by decide⟩
abbrev YX12_apart : mf_Y := (yX12_apart, cX12_apart, 3, (some .int))
set_option maxRecDepth 100000 in
theorem okX12_apart : mf_ok YX12_apart 0 := ⟨mf_m8 (i := 77) rfl rfl, mf_m1 (i := 17) rfl rfl, by decide +kernel, by decide⟩
abbrev YX12_rowsOf : mf_Y := (yX12_rowsOf, cX12_rowsOf, 4, (some .int))
set_option maxRecDepth 100000 in
theorem okX12_rowsOf : mf_ok YX12_rowsOf 1 := ⟨mf_m8 (i := 89) rfl rfl, mf_m1 (i := 17) rfl rfl, by decide +kernel, by decide⟩
abbrev YX12_openingAt : mf_Y := (yX12_openingAt, cX12_openingAt, 4, (some .int))
set_option maxRecDepth 100000 in
theorem okX12_openingAt : mf_ok YX12_openingAt 3 := ⟨mf_m8 (i := 97) rfl rfl, mf_m1 (i := 17) rfl rfl, by decide +kernel, by decide⟩
abbrev YX12_reading : mf_Y := (yX12_reading, cX12_reading, 8, (some .int))
set_option maxRecDepth 100000 in
theorem okX12_reading : mf_ok YX12_reading 2 := ⟨mf_m8 (i := 81) rfl rfl, mf_m1 (i := 17) rfl rfl, by decide +kernel, by decide⟩
abbrev YX12_later : mf_Y := (yX12_later, cX12_later, 5, (some .int))
set_option maxRecDepth 100000 in
theorem okX12_later : mf_ok YX12_later 3 := ⟨mf_m8 (i := 136) rfl rfl, mf_m1 (i := 17) rfl rfl, by decide +kernel, by decide⟩
abbrev YX12_opening : mf_Y := (yX12_opening, cX12_opening, 2, (some .int))
set_option maxRecDepth 100000 in
theorem okX12_opening : mf_ok YX12_opening 1 := ⟨mf_m8 (i := 144) rfl rfl, mf_m1 (i := 17) rfl rfl, by decide +kernel, by decide⟩
abbrev YX12_comes : mf_Y := (yX12_comes, cX12_comes, 4, none)
set_option maxRecDepth 100000 in
theorem okX12_comes : mf_ok YX12_comes 3 := ⟨mf_m8 (i := 156) rfl rfl, mf_m1 (i := 17) rfl rfl, by decide +kernel, by decide⟩
abbrev YX12_goesOn : mf_Y := (yX12_goesOn, cX12_goesOn, 9, none)
set_option maxRecDepth 100000 in
theorem okX12_goesOn : mf_ok YX12_goesOn 3 := ⟨mf_m8 (i := 152) rfl rfl, mf_m1 (i := 17) rfl rfl, by decide +kernel, by decide⟩
abbrev YX12_way : mf_Y := (yX12_way, cX12_way, 5, (some .int))
set_option maxRecDepth 100000 in
theorem okX12_way : mf_ok YX12_way 3 := ⟨mf_m8 (i := 148) rfl rfl, mf_m1 (i := 17) rfl rfl, by decide +kernel, by decide⟩
abbrev YX12_refuses : mf_Y := (yX12_refuses, cX12_refuses, 2, (some .int))
set_option maxRecDepth 100000 in
theorem okX12_refuses : mf_ok YX12_refuses 1 := ⟨mf_m8 (i := 164) rfl rfl, mf_m1 (i := 17) rfl rfl, by decide +kernel, by decide⟩
abbrev YX12_see : mf_Y := (yX12_see, cX12_see, 4, (some .int))
set_option maxRecDepth 100000 in
theorem okX12_see : mf_ok YX12_see 0 := ⟨mf_m8 (i := 160) rfl rfl, mf_m1 (i := 17) rfl rfl, by decide +kernel, by decide⟩
abbrev YX12_isAsSeen : mf_Y := (yX12_isAsSeen, cX12_isAsSeen, 3, (some .boolean))
set_option maxRecDepth 100000 in
theorem okX12_isAsSeen : mf_ok YX12_isAsSeen 1 := ⟨mf_m8 (i := 176) rfl rfl, mf_m1 (i := 17) rfl rfl, by decide +kernel, by decide⟩
abbrev YX12_openingsSeen : mf_Y := (yX12_openingsSeen, cX12_openingsSeen, 4, (some .int))
set_option maxRecDepth 100000 in
theorem okX12_openingsSeen : mf_ok YX12_openingsSeen 0 := ⟨mf_m8 (i := 172) rfl rfl, mf_m1 (i := 17) rfl rfl, by decide +kernel, by decide⟩
abbrev YX12_lay : mf_Y := (yX12_lay, cX12_lay, 3, (some .int))
set_option maxRecDepth 100000 in
theorem okX12_lay : mf_ok YX12_lay 1 := ⟨mf_m8 (i := 168) rfl rfl, mf_m1 (i := 17) rfl rfl, by decide +kernel, by decide⟩
abbrev YX12_after : mf_Y := (yX12_after, cX12_after, 10, (some .int))
set_option maxRecDepth 100000 in
theorem okX12_after : mf_ok YX12_after 1 := ⟨mf_m8 (i := 180) rfl rfl, mf_m1 (i := 17) rfl rfl, by decide +kernel, by decide⟩
abbrev YX12_trim : mf_Y := (yX12_trim, cX12_trim, 7, (some .int))
set_option maxRecDepth 100000 in
theorem okX12_trim : mf_ok YX12_trim 2 := ⟨mf_m8 (i := 184) rfl rfl, mf_m1 (i := 17) rfl rfl, by decide +kernel, by decide⟩
abbrev YX12_keeps : mf_Y := (yX12_keeps, cX12_keeps, 2, none)
set_option maxRecDepth 100000 in
theorem okX12_keeps : mf_ok YX12_keeps 0 := ⟨mf_m8 (i := 196) rfl rfl, mf_m1 (i := 17) rfl rfl, by decide +kernel, by decide⟩
abbrev YX12_undo : mf_Y := (yX12_undo, cX12_undo, 2, (some .boolean))
set_option maxRecDepth 100000 in
theorem okX12_undo : mf_ok YX12_undo 0 := ⟨mf_m8 (i := 188) rfl rfl, mf_m1 (i := 17) rfl rfl, by decide +kernel, by decide⟩
abbrev YX12_go : mf_Y := (yX12_go, cX12_go, 4, (some .boolean))
set_option maxRecDepth 100000 in
theorem okX12_go : mf_ok YX12_go 3 := ⟨mf_m8 (i := 192) rfl rfl, mf_m1 (i := 17) rfl rfl, by decide +kernel, by decide⟩
abbrev YX12_isFree : mf_Y := (yX12_isFree, cX12_isFree, 3, (some .boolean))
set_option maxRecDepth 100000 in
theorem okX12_isFree : mf_ok YX12_isFree 2 := ⟨mf_m8 (i := 208) rfl rfl, mf_m1 (i := 17) rfl rfl, by decide +kernel, by decide⟩
abbrev YX12_refuge : mf_Y := (yX12_refuge, cX12_refuge, 4, (some .int))
set_option maxRecDepth 100000 in
theorem okX12_refuge : mf_ok YX12_refuge 2 := ⟨mf_m8 (i := 204) rfl rfl, mf_m1 (i := 17) rfl rfl, by decide +kernel, by decide⟩
abbrev YX12_gloss : mf_Y := (yX12_gloss, cX12_gloss, 5, (some .int))
set_option maxRecDepth 100000 in
theorem okX12_gloss : mf_ok YX12_gloss 2 := ⟨mf_m8 (i := 200) rfl rfl, mf_m1 (i := 17) rfl rfl, by decide +kernel, by decide⟩
abbrev YX12_days : mf_Y := (yX12_days, cX12_days, 2, (some .int))
set_option maxRecDepth 100000 in
theorem okX12_days : mf_ok YX12_days 1 := ⟨mf_m8 (i := 212) rfl rfl, mf_m1 (i := 17) rfl rfl, by decide +kernel, by decide⟩
abbrev YX12_seed : mf_Y := (yX12_seed, cX12_seed, 2, (some .boolean))
set_option maxRecDepth 100000 in
theorem okX12_seed : mf_ok YX12_seed 1 := ⟨mf_m8 (i := 216) rfl rfl, mf_m1 (i := 17) rfl rfl, by decide +kernel, by decide⟩
abbrev YX12_drawOf : mf_Y := (yX12_drawOf, cX12_drawOf, 2, (some .int))
set_option maxRecDepth 100000 in
theorem okX12_drawOf : mf_ok YX12_drawOf 1 := ⟨mf_m8 (i := 224) rfl rfl, mf_m1 (i := 17) rfl rfl, by decide +kernel, by decide⟩
abbrev YX12_chance : mf_Y := (yX12_chance, cX12_chance, 5, (some .int))
set_option maxRecDepth 100000 in
theorem okX12_chance : mf_ok YX12_chance 1 := ⟨mf_m8 (i := 220) rfl rfl, mf_m1 (i := 17) rfl rfl, by decide +kernel, by decide⟩
abbrev YX12_qCode : mf_Y := (yX12_qCode, cX12_qCode, 2, none)
set_option maxRecDepth 100000 in
theorem okX12_qCode : mf_ok YX12_qCode 1 := ⟨mf_m7 (i := 121) rfl rfl, mf_m1 (i := 17) rfl rfl, by decide +kernel, by decide⟩
abbrev YX12_qOpens : mf_Y := (yX12_qOpens, cX12_qOpens, 3, none)
set_option maxRecDepth 100000 in
theorem okX12_qOpens : mf_ok YX12_qOpens 2 := ⟨mf_m7 (i := 113) rfl rfl, mf_m1 (i := 17) rfl rfl, by decide +kernel, by decide⟩
abbrev YX12_qIsOn : mf_Y := (yX12_qIsOn, cX12_qIsOn, 2, (some .boolean))
set_option maxRecDepth 100000 in
theorem okX12_qIsOn : mf_ok YX12_qIsOn 1 := ⟨mf_m7 (i := 172) rfl rfl, mf_m1 (i := 17) rfl rfl, by decide +kernel, by decide⟩
abbrev YX12_qDrops : mf_Y := (yX12_qDrops, cX12_qDrops, 1, none)
set_option maxRecDepth 100000 in
theorem okX12_qDrops : mf_ok YX12_qDrops 0 := ⟨mf_m7 (i := 153) rfl rfl, mf_m1 (i := 17) rfl rfl, by decide +kernel, by decide⟩
abbrev YX12_qIsBracket : mf_Y := (yX12_qIsBracket, cX12_qIsBracket, 1, (some .boolean))
set_option maxRecDepth 100000 in
theorem okX12_qIsBracket : mf_ok YX12_qIsBracket 1 := ⟨mf_m7 (i := 164) rfl rfl, mf_m1 (i := 17) rfl rfl, by decide +kernel, by decide⟩
abbrev YX12_qBracket : mf_Y := (yX12_qBracket, cX12_qBracket, 2, (some .int))
set_option maxRecDepth 100000 in
theorem okX12_qBracket : mf_ok YX12_qBracket 0 := ⟨mf_m7 (i := 161) rfl rfl, mf_m1 (i := 17) rfl rfl, by decide +kernel, by decide⟩
abbrev YX12_qDropsToBracket : mf_Y := (yX12_qDropsToBracket, cX12_qDropsToBracket, 1, none)
set_option maxRecDepth 100000 in
theorem okX12_qDropsToBracket : mf_ok YX12_qDropsToBracket 0 := ⟨mf_m7 (i := 168) rfl rfl, mf_m1 (i := 17) rfl rfl, by decide +kernel, by decide⟩
abbrev YX12_qWordHere : mf_Y := (yX12_qWordHere, cX12_qWordHere, 1, (some .int))
set_option maxRecDepth 100000 in
theorem okX12_qWordHere : mf_ok YX12_qWordHere 0 := ⟨mf_m7 (i := 137) rfl rfl, mf_m1 (i := 17) rfl rfl, by decide +kernel, by decide⟩
abbrev YX12_qWordOf : mf_Y := (yX12_qWordOf, cX12_qWordOf, 4, (some .int))
set_option maxRecDepth 100000 in
theorem okX12_qWordOf : mf_ok YX12_qWordOf 2 := ⟨mf_m7 (i := 133) rfl rfl, mf_m1 (i := 17) rfl rfl, by decide +kernel, by decide⟩
abbrev YX12_qAsksWord : mf_Y := (yX12_qAsksWord, cX12_qAsksWord, 2, none)
set_option maxRecDepth 100000 in
theorem okX12_qAsksWord : mf_ok YX12_qAsksWord 1 := ⟨mf_m7 (i := 145) rfl rfl, mf_m1 (i := 17) rfl rfl, by decide +kernel, by decide⟩
abbrev YX12_qEndsPart : mf_Y := (yX12_qEndsPart, cX12_qEndsPart, 1, none)
set_option maxRecDepth 100000 in
theorem okX12_qEndsPart : mf_ok YX12_qEndsPart 0 := ⟨mf_m7 (i := 149) rfl rfl, mf_m1 (i := 17) rfl rfl, by decide +kernel, by decide⟩
abbrev YX12_qPartTold : mf_Y := (yX12_qPartTold, cX12_qPartTold, 6, none)
set_option maxRecDepth 100000 in
theorem okX12_qPartTold : mf_ok YX12_qPartTold 0 := ⟨mf_m7 (i := 129) rfl rfl, mf_m1 (i := 17) rfl rfl, by decide +kernel, by decide⟩
abbrev YX12_qGoesOn : mf_Y := (yX12_qGoesOn, cX12_qGoesOn, 2, (some .boolean))
set_option maxRecDepth 100000 in
theorem okX12_qGoesOn : mf_ok YX12_qGoesOn 0 := ⟨mf_m7 (i := 157) rfl rfl, mf_m1 (i := 17) rfl rfl, by decide +kernel, by decide⟩
abbrev YX12_qSums : mf_Y := (yX12_qSums, cX12_qSums, 3, none)
set_option maxRecDepth 100000 in
theorem okX12_qSums : mf_ok YX12_qSums 0 := ⟨mf_m7 (i := 125) rfl rfl, mf_m1 (i := 17) rfl rfl, by decide +kernel, by decide⟩
abbrev YX12_qFact : mf_Y := (yX12_qFact, cX12_qFact, 2, none)
set_option maxRecDepth 100000 in
theorem okX12_qFact : mf_ok YX12_qFact 0 := ⟨mf_m7 (i := 117) rfl rfl, mf_m1 (i := 17) rfl rfl, by decide +kernel, by decide⟩
abbrev YX12_qHasSquare : mf_Y := (yX12_qHasSquare, cX12_qHasSquare, 2, (some .boolean))
set_option maxRecDepth 100000 in
theorem okX12_qHasSquare : mf_ok YX12_qHasSquare 0 := ⟨mf_m7 (i := 184) rfl rfl, mf_m1 (i := 17) rfl rfl, by decide +kernel, by decide⟩
abbrev YX12_qDropsNots : mf_Y := (yX12_qDropsNots, cX12_qDropsNots, 1, none)
set_option maxRecDepth 100000 in
theorem okX12_qDropsNots : mf_ok YX12_qDropsNots 0 := ⟨mf_m7 (i := 176) rfl rfl, mf_m1 (i := 17) rfl rfl, by decide +kernel, by decide⟩
abbrev YX12_qTest : mf_Y := (yX12_qTest, cX12_qTest, 3, none)
set_option maxRecDepth 100000 in
theorem okX12_qTest : mf_ok YX12_qTest 0 := ⟨mf_m7 (i := 109) rfl rfl, mf_m1 (i := 17) rfl rfl, by decide +kernel, by decide⟩
abbrev YX12_qGoesOnTest : mf_Y := (yX12_qGoesOnTest, cX12_qGoesOnTest, 1, (some .boolean))
set_option maxRecDepth 100000 in
theorem okX12_qGoesOnTest : mf_ok YX12_qGoesOnTest 0 := ⟨mf_m7 (i := 180) rfl rfl, mf_m1 (i := 17) rfl rfl, by decide +kernel, by decide⟩
abbrev YX12_qClip : mf_Y := (yX12_qClip, cX12_qClip, 2, (some .long))
set_option maxRecDepth 100000 in
theorem okX12_qClip : mf_ok YX12_qClip 1 := ⟨mf_m8 (i := 5) rfl rfl, mf_m1 (i := 17) rfl rfl, by decide +kernel, by decide⟩
abbrev YX12_qFloor : mf_Y := (yX12_qFloor, cX12_qFloor, 6, (some .long))
set_option maxRecDepth 100000 in
theorem okX12_qFloor : mf_ok YX12_qFloor 2 := ⟨mf_m8 (i := 10) rfl rfl, mf_m1 (i := 17) rfl rfl, by decide +kernel, by decide⟩
abbrev YX12_qPuts : mf_Y := (yX12_qPuts, cX12_qPuts, 3, none)
set_option maxRecDepth 100000 in
theorem okX12_qPuts : mf_ok YX12_qPuts 1 := ⟨mf_m7 (i := 219) rfl rfl, mf_m1 (i := 17) rfl rfl, by decide +kernel, by decide⟩
abbrev YX12_qJoins : mf_Y := (yX12_qJoins, cX12_qJoins, 6, none)
set_option maxRecDepth 100000 in
theorem okX12_qJoins : mf_ok YX12_qJoins 1 := ⟨mf_m8 (i := 2) rfl rfl, mf_m1 (i := 17) rfl rfl, by decide +kernel, by decide⟩
abbrev YX12_qPartOf : mf_Y := (yX12_qPartOf, cX12_qPartOf, 3, (some .long))
set_option maxRecDepth 100000 in
theorem okX12_qPartOf : mf_ok YX12_qPartOf 2 := ⟨mf_m7 (i := 223) rfl rfl, mf_m1 (i := 17) rfl rfl, by decide +kernel, by decide⟩
abbrev YX12_qOf : mf_Y := (yX12_qOf, cX12_qOf, 5, (some .long))
set_option maxRecDepth 100000 in
theorem okX12_qOf : mf_ok YX12_qOf 3 := ⟨mf_m9 (i := 5) rfl rfl, mf_m1 (i := 17) rfl rfl, by decide +kernel, by decide⟩
abbrev YX12_qTold : mf_Y := (yX12_qTold, cX12_qTold, 4, (some .long))
set_option maxRecDepth 100000 in
theorem okX12_qTold : mf_ok YX12_qTold 1 := ⟨mf_m9 (i := 1) rfl rfl, mf_m1 (i := 17) rfl rfl, by decide +kernel, by decide⟩
abbrev YX12_qKind : mf_Y := (yX12_qKind, cX12_qKind, 2, (some .int))
set_option maxRecDepth 100000 in
theorem okX12_qKind : mf_ok YX12_qKind 0 := ⟨mf_m8 (i := 237) rfl rfl, mf_m1 (i := 17) rfl rfl, by decide +kernel, by decide⟩
abbrev YX12_qTakes : mf_Y := (yX12_qTakes, cX12_qTakes, 6, none)
set_option maxRecDepth 100000 in
theorem okX12_qTakes : mf_ok YX12_qTakes 3 := ⟨mf_m9 (i := 9) rfl rfl, mf_m1 (i := 17) rfl rfl, by decide +kernel, by decide⟩
abbrev YX12_ask : mf_Y := (yX12_ask, cX12_ask, 3, (some .long))
set_option maxRecDepth 100000 in
theorem okX12_ask : mf_ok YX12_ask 0 := ⟨mf_m8 (i := 232) rfl rfl, mf_m1 (i := 17) rfl rfl, by decide +kernel, by decide⟩
abbrev YX12_checked : mf_Y := (yX12_checked, cX12_checked, 4, (some .int))
set_option maxRecDepth 100000 in
theorem okX12_checked : mf_ok YX12_checked 2 := ⟨mf_m9 (i := 24) rfl rfl, mf_m1 (i := 17) rfl rfl, by decide +kernel, by decide⟩
abbrev YX12_writes : mf_Y := (yX12_writes, cX12_writes, 2, none)
set_option maxRecDepth 100000 in
theorem okX12_writes : mf_ok YX12_writes 1 := ⟨mf_m9 (i := 21) rfl rfl, mf_m1 (i := 17) rfl rfl, by decide +kernel, by decide⟩
abbrev YX12_writesTwo : mf_Y := (yX12_writesTwo, cX12_writesTwo, 2, none)
set_option maxRecDepth 100000 in
theorem okX12_writesTwo : mf_ok YX12_writesTwo 1 := ⟨mf_m9 (i := 17) rfl rfl, mf_m1 (i := 17) rfl rfl, by decide +kernel, by decide⟩
abbrev YX12_image : mf_Y := (yX12_image, cX12_image, 2, (some .int))
set_option maxRecDepth 100000 in
theorem okX12_image : mf_ok YX12_image 0 := ⟨mf_m9 (i := 13) rfl rfl, mf_m1 (i := 17) rfl rfl, by decide +kernel, by decide⟩
abbrev YX12_octet : mf_Y := (yX12_octet, cX12_octet, 2, (some .int))
set_option maxRecDepth 100000 in
theorem okX12_octet : mf_ok YX12_octet 1 := ⟨mf_m9 (i := 28) rfl rfl, mf_m1 (i := 17) rfl rfl, by decide +kernel, by decide⟩
abbrev YX12_twoAt : mf_Y := (yX12_twoAt, cX12_twoAt, 2, (some .int))
set_option maxRecDepth 100000 in
theorem okX12_twoAt : mf_ok YX12_twoAt 1 := ⟨mf_m9 (i := 40) rfl rfl, mf_m1 (i := 17) rfl rfl, by decide +kernel, by decide⟩
abbrev YX12_isBeingTold : mf_Y := (yX12_isBeingTold, cX12_isBeingTold, 5, (some .boolean))
set_option maxRecDepth 100000 in
theorem okX12_isBeingTold : mf_ok YX12_isBeingTold 2 := ⟨mf_m9 (i := 44) rfl rfl, mf_m1 (i := 17) rfl rfl, by decide +kernel, by decide⟩
abbrev YX12_isImage : mf_Y := (yX12_isImage, cX12_isImage, 4, (some .boolean))
set_option maxRecDepth 100000 in
theorem okX12_isImage : mf_ok YX12_isImage 1 := ⟨mf_m9 (i := 36) rfl rfl, mf_m1 (i := 17) rfl rfl, by decide +kernel, by decide⟩
abbrev YX12_on : mf_Y := (yX12_on, cX12_on, 4, (some .boolean))
set_option maxRecDepth 100000 in
theorem okX12_on : mf_ok YX12_on 0 := ⟨mf_m9 (i := 32) rfl rfl, mf_m1 (i := 17) rfl rfl, by decide +kernel, by decide⟩
abbrev YX12_status : mf_Y := (yX12_status, cX12_status, 2, (some .int))
set_option maxRecDepth 100000 in
theorem okX12_status : mf_ok YX12_status 1 := ⟨mf_m9 (i := 48) rfl rfl, mf_m1 (i := 17) rfl rfl, by decide +kernel, by decide⟩
abbrev YJ6_bitCount_0f7a4 : mf_Y := (yJ6_bitCount_0f7a4, cJ6_bitCount_0f7a4, 1, (some .int))
set_option maxRecDepth 100000 in
theorem okJ6_bitCount_0f7a4 : mf_ok YJ6_bitCount_0f7a4 1 := ⟨mf_m4 (i := 23) rfl rfl, mf_m1 (i := 20) rfl rfl, by decide +kernel, by decide⟩
abbrev YJ9_floorDiv_7cf53 : mf_Y := (yJ9_floorDiv_7cf53, cJ9_floorDiv_7cf53, 3, (some .int))
set_option maxRecDepth 100000 in
theorem okJ9_floorDiv_7cf53 : mf_ok YJ9_floorDiv_7cf53 2 := ⟨mf_m4 (i := 59) rfl rfl, mf_m1 (i := 18) rfl rfl, by decide +kernel, by decide⟩
abbrev YJ9_floorMod_7cf53 : mf_Y := (yJ9_floorMod_7cf53, cJ9_floorMod_7cf53, 3, (some .int))
set_option maxRecDepth 100000 in
theorem okJ9_floorMod_7cf53 : mf_ok YJ9_floorMod_7cf53 2 := ⟨mf_m4 (i := 62) rfl rfl, mf_m1 (i := 18) rfl rfl, by decide +kernel, by decide⟩
abbrev YJ9_abs_0f7a4 : mf_Y := (yJ9_abs_0f7a4, cJ9_abs_0f7a4, 1, (some .int))
set_option maxRecDepth 100000 in
theorem okJ9_abs_0f7a4 : mf_ok YJ9_abs_0f7a4 1 := ⟨mf_m4 (i := 187) rfl rfl, mf_m1 (i := 18) rfl rfl, by decide +kernel, by decide⟩
abbrev YJ9_max_7cf53 : mf_Y := (yJ9_max_7cf53, cJ9_max_7cf53, 2, (some .int))
set_option maxRecDepth 100000 in
theorem okJ9_max_7cf53 : mf_ok YJ9_max_7cf53 2 := ⟨mf_m3 (i := 65) rfl rfl, mf_m1 (i := 18) rfl rfl, by decide +kernel, by decide⟩
abbrev YJ9_max_f86c9 : mf_Y := (yJ9_max_f86c9, cJ9_max_f86c9, 4, (some .long))
set_option maxRecDepth 100000 in
theorem okJ9_max_f86c9 : mf_ok YJ9_max_f86c9 2 := ⟨mf_m4 (i := 56) rfl rfl, mf_m1 (i := 18) rfl rfl, by decide +kernel, by decide⟩
abbrev YJ9_min_7cf53 : mf_Y := (yJ9_min_7cf53, cJ9_min_7cf53, 2, (some .int))
set_option maxRecDepth 100000 in
theorem okJ9_min_7cf53 : mf_ok YJ9_min_7cf53 2 := ⟨mf_m3 (i := 62) rfl rfl, mf_m1 (i := 18) rfl rfl, by decide +kernel, by decide⟩
abbrev YJ9_min_f86c9 : mf_Y := (yJ9_min_f86c9, cJ9_min_f86c9, 4, (some .long))
set_option maxRecDepth 100000 in
theorem okJ9_min_f86c9 : mf_ok YJ9_min_f86c9 2 := ⟨mf_m4 (i := 53) rfl rfl, mf_m1 (i := 18) rfl rfl, by decide +kernel, by decide⟩
abbrev YJ0_length_8abf5 : mf_Y := (yJ0_length_8abf5, cJ0_length_8abf5, 1, (some .int))
set_option maxRecDepth 100000 in
theorem okJ0_length_8abf5 : mf_ok YJ0_length_8abf5 0 := ⟨mf_m1 (i := 39) rfl rfl, mf_m1 (i := 3) rfl rfl, by decide +kernel, by decide⟩
abbrev YJ0_charAt_5068e : mf_Y := (yJ0_charAt_5068e, cJ0_charAt_5068e, 2, (some .char))
set_option maxRecDepth 100000 in
theorem okJ0_charAt_5068e : mf_ok YJ0_charAt_5068e 1 := ⟨mf_m1 (i := 49) rfl rfl, mf_m1 (i := 3) rfl rfl, by decide +kernel, by decide⟩
abbrev YJ0_coder_7d493 : mf_Y := (yJ0_coder_7d493, cJ0_coder_7d493, 1, (some .byte))
set_option maxRecDepth 100000 in
theorem okJ0_coder_7d493 : mf_ok YJ0_coder_7d493 0 := ⟨mf_m1 (i := 43) rfl rfl, mf_m1 (i := 3) rfl rfl, by decide +kernel, by decide⟩
abbrev YJ0_isLatin1_aae02 : mf_Y := (yJ0_isLatin1_aae02, cJ0_isLatin1_aae02, 1, (some .boolean))
set_option maxRecDepth 100000 in
theorem okJ0_isLatin1_aae02 : mf_ok YJ0_isLatin1_aae02 0 := ⟨mf_m1 (i := 53) rfl rfl, mf_m1 (i := 3) rfl rfl, by decide +kernel, by decide⟩
abbrev YJ0_checkIndex_df160 : mf_Y := (yJ0_checkIndex_df160, cJ0_checkIndex_df160, 2, none)
set_option maxRecDepth 100000 in
theorem okJ0_checkIndex_df160 : mf_ok YJ0_checkIndex_df160 2 := ⟨mf_m1 (i := 59) rfl rfl, mf_m1 (i := 3) rfl rfl, by decide +kernel, by decide⟩
abbrev YJ1_charAt_3b067 : mf_Y := (yJ1_charAt_3b067, cJ1_charAt_3b067, 2, (some .char))
set_option maxRecDepth 100000 in
theorem okJ1_charAt_3b067 : mf_ok YJ1_charAt_3b067 2 := ⟨mf_m1 (i := 56) rfl rfl, mf_m1 (i := 4) rfl rfl, by decide +kernel, by decide⟩
abbrev YJ2_getChar_3b067 : mf_Y := (yJ2_getChar_3b067, cJ2_getChar_3b067, 2, (some .char))
set_option maxRecDepth 100000 in
theorem okJ2_getChar_3b067 : mf_ok YJ2_getChar_3b067 2 := ⟨mf_m1 (i := 77) rfl rfl, mf_m1 (i := 6) rfl rfl, by decide +kernel, by decide⟩
abbrev YJ2_length_9d52b : mf_Y := (yJ2_length_9d52b, cJ2_length_9d52b, 1, (some .int))
set_option maxRecDepth 100000 in
theorem okJ2_length_9d52b : mf_ok YJ2_length_9d52b 1 := ⟨mf_m1 (i := 73) rfl rfl, mf_m1 (i := 6) rfl rfl, by decide +kernel, by decide⟩
abbrev YJ2_charAt_3b067 : mf_Y := (yJ2_charAt_3b067, cJ2_charAt_3b067, 2, (some .char))
set_option maxRecDepth 100000 in
theorem okJ2_charAt_3b067 : mf_ok YJ2_charAt_3b067 2 := ⟨mf_m1 (i := 67) rfl rfl, mf_m1 (i := 6) rfl rfl, by decide +kernel, by decide⟩
abbrev YJ2_checkIndex_2214a : mf_Y := (yJ2_checkIndex_2214a, cJ2_checkIndex_2214a, 2, none)
set_option maxRecDepth 100000 in
theorem okJ2_checkIndex_2214a : mf_ok YJ2_checkIndex_2214a 2 := ⟨mf_m1 (i := 70) rfl rfl, mf_m1 (i := 6) rfl rfl, by decide +kernel, by decide⟩
abbrev YJ3_checkIndex_8e157 : mf_Y := (yJ3_checkIndex_8e157, cJ3_checkIndex_8e157, 3, (some .int))
set_option maxRecDepth 100000 in
theorem okJ3_checkIndex_8e157 : mf_ok YJ3_checkIndex_8e157 3 := ⟨mf_m1 (i := 64) rfl rfl, mf_m1 (i := 5) rfl rfl, by decide +kernel, by decide⟩
