/-! The methods, laid by program (tools/mkmeth.py). -/
def mX0_init : zMI := (yX0_init, cX0_init, 3, none, 1, 1, 9, 0, true)
set_option maxRecDepth 20000 in
theorem zm_X0_init : zMok mX0_init 2 := ⟨List.mem_append_right _ (List.mem_append_right _ (List.mem_append_left _ (List.mem_of_getElem? (i := 188) rfl))), List.mem_of_getElem? (i := 70) (by decide +kernel), ⟨by decide, by decide⟩, by decide +kernel⟩
theorem zi_X0_init : Cond.instanceMethod (zy mX0_init) ∈ lw_tbl := List.mem_of_getElem? (i := 482) (by decide +kernel)
def mX0_tell : zMI := (yX0_tell, cX0_tell, 5, none, 2, 1, 4, 0, false)
set_option maxRecDepth 20000 in
theorem zm_X0_tell : zMok mX0_tell 4 := ⟨List.mem_append_right _ (List.mem_append_right _ (List.mem_append_left _ (List.mem_of_getElem? (i := 221) rfl))), List.mem_of_getElem? (i := 70) (by decide +kernel), ⟨by decide, by decide⟩, by decide +kernel⟩
theorem zi_X0_tell : Cond.instanceMethod (zy mX0_tell) ∈ lw_tbl := List.mem_of_getElem? (i := 514) (by decide +kernel)
theorem zse_X0_tell : Cond.selects (zRn (zcN mX0_tell)) (zy mX0_tell) (zy mX0_tell) ∈ lw_tbl := List.mem_of_getElem? (i := 515) (by decide +kernel)
def mX0_counted : zMI := (yX0_counted, cX0_counted, 7, (some .int), 0, 0, 0, 0, false)
set_option maxRecDepth 20000 in
theorem zm_X0_counted : zMok mX0_counted 3 := ⟨List.mem_append_right _ (List.mem_append_right _ (List.mem_append_right _ (List.mem_append_left _ (List.mem_of_getElem? (i := 15) rfl)))), List.mem_of_getElem? (i := 70) (by decide +kernel), ⟨by decide, by decide⟩, by decide +kernel⟩
theorem zi_X0_counted : Cond.instanceMethod (zy mX0_counted) ∈ lw_tbl := List.mem_of_getElem? (i := 548) (by decide +kernel)
theorem zse_X0_counted : Cond.selects (zRn (zcN mX0_counted)) (zy mX0_counted) (zy mX0_counted) ∈ lw_tbl := List.mem_of_getElem? (i := 549) (by decide +kernel)
def mX1_init : zMI := (yX1_init, cX1_init, 4, none, 1, 3, 27, 1, true)
set_option maxRecDepth 20000 in
theorem zm_X1_init : zMok mX1_init 3 := ⟨List.mem_append_right _ (List.mem_append_right _ (List.mem_append_right _ (List.mem_append_left _ (List.mem_of_getElem? (i := 41) rfl)))), List.mem_of_getElem? (i := 72) (by decide +kernel), ⟨by decide, by decide⟩, by decide +kernel⟩
theorem zi_X1_init : Cond.instanceMethod (zy mX1_init) ∈ lw_tbl := List.mem_of_getElem? (i := 575) (by decide +kernel)
def mX1_addJudge : zMI := (yX1_addJudge, cX1_addJudge, 2, none, 0, 0, 0, 1, false)
set_option maxRecDepth 20000 in
theorem zm_X1_addJudge : zMok mX1_addJudge 1 := ⟨List.mem_append_right _ (List.mem_append_right _ (List.mem_append_right _ (List.mem_append_left _ (List.mem_of_getElem? (i := 100) rfl)))), List.mem_of_getElem? (i := 72) (by decide +kernel), ⟨by decide, by decide⟩, by decide +kernel⟩
theorem zi_X1_addJudge : Cond.instanceMethod (zy mX1_addJudge) ∈ lw_tbl := List.mem_of_getElem? (i := 633) (by decide +kernel)
theorem zse_X1_addJudge : Cond.selects (zRn (zcN mX1_addJudge)) (zy mX1_addJudge) (zy mX1_addJudge) ∈ lw_tbl := List.mem_of_getElem? (i := 634) (by decide +kernel)
def mX1_hasJudge : zMI := (yX1_hasJudge, cX1_hasJudge, 2, (some .boolean), 0, 0, 0, 1, false)
set_option maxRecDepth 20000 in
theorem zm_X1_hasJudge : zMok mX1_hasJudge 1 := ⟨List.mem_append_right _ (List.mem_append_right _ (List.mem_append_right _ (List.mem_append_left _ (List.mem_of_getElem? (i := 112) rfl)))), List.mem_of_getElem? (i := 72) (by decide +kernel), ⟨by decide, by decide⟩, by decide +kernel⟩
theorem zi_X1_hasJudge : Cond.instanceMethod (zy mX1_hasJudge) ∈ lw_tbl := List.mem_of_getElem? (i := 645) (by decide +kernel)
theorem zse_X1_hasJudge : Cond.selects (zRn (zcN mX1_hasJudge)) (zy mX1_hasJudge) (zy mX1_hasJudge) ∈ lw_tbl := List.mem_of_getElem? (i := 646) (by decide +kernel)
def mX1_judgeAt : zMI := (yX1_judgeAt, cX1_judgeAt, 2, (some .int), 0, 0, 0, 1, false)
set_option maxRecDepth 20000 in
theorem zm_X1_judgeAt : zMok mX1_judgeAt 1 := ⟨List.mem_append_right _ (List.mem_append_right _ (List.mem_append_right _ (List.mem_append_left _ (List.mem_of_getElem? (i := 91) rfl)))), List.mem_of_getElem? (i := 72) (by decide +kernel), ⟨by decide, by decide⟩, by decide +kernel⟩
theorem zi_X1_judgeAt : Cond.instanceMethod (zy mX1_judgeAt) ∈ lw_tbl := List.mem_of_getElem? (i := 624) (by decide +kernel)
theorem zse_X1_judgeAt : Cond.selects (zRn (zcN mX1_judgeAt)) (zy mX1_judgeAt) (zy mX1_judgeAt) ∈ lw_tbl := List.mem_of_getElem? (i := 625) (by decide +kernel)
def mX1_isJudge : zMI := (yX1_isJudge, cX1_isJudge, 3, (some .boolean), 1, 0, 0, 1, false)
set_option maxRecDepth 20000 in
theorem zm_X1_isJudge : zMok mX1_isJudge 1 := ⟨List.mem_append_right _ (List.mem_append_right _ (List.mem_append_right _ (List.mem_append_left _ (List.mem_of_getElem? (i := 87) rfl)))), List.mem_of_getElem? (i := 72) (by decide +kernel), ⟨by decide, by decide⟩, by decide +kernel⟩
theorem zi_X1_isJudge : Cond.instanceMethod (zy mX1_isJudge) ∈ lw_tbl := List.mem_of_getElem? (i := 620) (by decide +kernel)
theorem zse_X1_isJudge : Cond.selects (zRn (zcN mX1_isJudge)) (zy mX1_isJudge) (zy mX1_isJudge) ∈ lw_tbl := List.mem_of_getElem? (i := 621) (by decide +kernel)
def mX1_hear : zMI := (yX1_hear, cX1_hear, 5, none, 0, 0, 0, 1, false)
set_option maxRecDepth 20000 in
theorem zm_X1_hear : zMok mX1_hear 3 := ⟨List.mem_append_right _ (List.mem_append_right _ (List.mem_append_right _ (List.mem_append_left _ (List.mem_of_getElem? (i := 119) rfl)))), List.mem_of_getElem? (i := 72) (by decide +kernel), ⟨by decide, by decide⟩, by decide +kernel⟩
theorem zi_X1_hear : Cond.instanceMethod (zy mX1_hear) ∈ lw_tbl := List.mem_of_getElem? (i := 652) (by decide +kernel)
theorem zse_X1_hear : Cond.selects (zRn (zcN mX1_hear)) (zy mX1_hear) (zy mX1_hear) ∈ lw_tbl := List.mem_of_getElem? (i := 653) (by decide +kernel)
def mX1_lost : zMI := (yX1_lost, cX1_lost, 5, (some .int), 1, 0, 0, 1, false)
set_option maxRecDepth 20000 in
theorem zm_X1_lost : zMok mX1_lost 1 := ⟨List.mem_append_right _ (List.mem_append_right _ (List.mem_append_right _ (List.mem_append_left _ (List.mem_of_getElem? (i := 148) rfl)))), List.mem_of_getElem? (i := 72) (by decide +kernel), ⟨by decide, by decide⟩, by decide +kernel⟩
theorem zi_X1_lost : Cond.instanceMethod (zy mX1_lost) ∈ lw_tbl := List.mem_of_getElem? (i := 681) (by decide +kernel)
theorem zse_X1_lost : Cond.selects (zRn (zcN mX1_lost)) (zy mX1_lost) (zy mX1_lost) ∈ lw_tbl := List.mem_of_getElem? (i := 682) (by decide +kernel)
def mX1_settledOf : zMI := (yX1_settledOf, cX1_settledOf, 2, (some .long), 0, 0, 0, 1, false)
set_option maxRecDepth 20000 in
theorem zm_X1_settledOf : zMok mX1_settledOf 1 := ⟨List.mem_append_right _ (List.mem_append_right _ (List.mem_append_right _ (List.mem_append_left _ (List.mem_of_getElem? (i := 225) rfl)))), List.mem_of_getElem? (i := 72) (by decide +kernel), ⟨by decide, by decide⟩, by decide +kernel⟩
theorem zi_X1_settledOf : Cond.instanceMethod (zy mX1_settledOf) ∈ lw_tbl := List.mem_of_getElem? (i := 758) (by decide +kernel)
theorem zse_X1_settledOf : Cond.selects (zRn (zcN mX1_settledOf)) (zy mX1_settledOf) (zy mX1_settledOf) ∈ lw_tbl := List.mem_of_getElem? (i := 759) (by decide +kernel)
def mX1_settle : zMI := (yX1_settle, cX1_settle, 4, none, 0, 0, 0, 1, false)
set_option maxRecDepth 20000 in
theorem zm_X1_settle : zMok mX1_settle 2 := ⟨List.mem_append_right _ (List.mem_append_right _ (List.mem_append_right _ (List.mem_append_left _ (List.mem_of_getElem? (i := 229) rfl)))), List.mem_of_getElem? (i := 72) (by decide +kernel), ⟨by decide, by decide⟩, by decide +kernel⟩
theorem zi_X1_settle : Cond.instanceMethod (zy mX1_settle) ∈ lw_tbl := List.mem_of_getElem? (i := 762) (by decide +kernel)
theorem zse_X1_settle : Cond.selects (zRn (zcN mX1_settle)) (zy mX1_settle) (zy mX1_settle) ∈ lw_tbl := List.mem_of_getElem? (i := 763) (by decide +kernel)
def mX1_heardAt : zMI := (yX1_heardAt, cX1_heardAt, 4, (some .int), 0, 0, 0, 1, false)
set_option maxRecDepth 20000 in
theorem zm_X1_heardAt : zMok mX1_heardAt 2 := ⟨List.mem_append_right _ (List.mem_append_right _ (List.mem_append_right _ (List.mem_append_left _ (List.mem_of_getElem? (i := 152) rfl)))), List.mem_of_getElem? (i := 72) (by decide +kernel), ⟨by decide, by decide⟩, by decide +kernel⟩
theorem zi_X1_heardAt : Cond.instanceMethod (zy mX1_heardAt) ∈ lw_tbl := List.mem_of_getElem? (i := 686) (by decide +kernel)
theorem zse_X1_heardAt : Cond.selects (zRn (zcN mX1_heardAt)) (zy mX1_heardAt) (zy mX1_heardAt) ∈ lw_tbl := List.mem_of_getElem? (i := 25) (by decide +kernel)
def mX2_init : zMI := (yX2_init, cX2_init, 1, none, 1, 3, 432, 2, true)
set_option maxRecDepth 20000 in
theorem zm_X2_init : zMok mX2_init 0 := ⟨List.mem_append_right _ (List.mem_append_left _ (List.mem_of_getElem? (i := 142) rfl)), List.mem_of_getElem? (i := 62) (by decide +kernel), ⟨by decide, by decide⟩, by decide +kernel⟩
theorem zi_X2_init : Cond.instanceMethod (zy mX2_init) ∈ lw_tbl := List.mem_of_getElem? (i := 196) (by decide +kernel)
def mX2_startPage : zMI := (yX2_startPage, cX2_startPage, 1, none, 0, 0, 0, 2, false)
set_option maxRecDepth 20000 in
theorem zm_X2_startPage : zMok mX2_startPage 0 := ⟨List.mem_append_right _ (List.mem_append_right _ (List.mem_append_right _ (List.mem_append_left _ (List.mem_of_getElem? (i := 213) rfl)))), List.mem_of_getElem? (i := 62) (by decide +kernel), ⟨by decide, by decide⟩, by decide +kernel⟩
theorem zi_X2_startPage : Cond.instanceMethod (zy mX2_startPage) ∈ lw_tbl := List.mem_of_getElem? (i := 746) (by decide +kernel)
theorem zse_X2_startPage : Cond.selects (zRn (zcN mX2_startPage)) (zy mX2_startPage) (zy mX2_startPage) ∈ lw_tbl := List.mem_of_getElem? (i := 747) (by decide +kernel)
def mX2_write : zMI := (yX2_write, cX2_write, 5, none, 0, 0, 0, 2, false)
set_option maxRecDepth 20000 in
theorem zm_X2_write : zMok mX2_write 3 := ⟨List.mem_append_right _ (List.mem_append_right _ (List.mem_append_right _ (List.mem_append_left _ (List.mem_of_getElem? (i := 233) rfl)))), List.mem_of_getElem? (i := 62) (by decide +kernel), ⟨by decide, by decide⟩, by decide +kernel⟩
theorem zi_X2_write : Cond.instanceMethod (zy mX2_write) ∈ lw_tbl := List.mem_of_getElem? (i := 766) (by decide +kernel)
theorem zse_X2_write : Cond.selects (zRn (zcN mX2_write)) (zy mX2_write) (zy mX2_write) ∈ lw_tbl := List.mem_of_getElem? (i := 767) (by decide +kernel)
def mX2_entry : zMI := (yX2_entry, cX2_entry, 3, (some .long), 0, 0, 0, 2, false)
set_option maxRecDepth 20000 in
theorem zm_X2_entry : zMok mX2_entry 2 := ⟨List.mem_append_right _ (List.mem_append_right _ (List.mem_append_right _ (List.mem_append_right _ (List.mem_append_left _ (List.mem_of_getElem? (i := 1) rfl))))), List.mem_of_getElem? (i := 62) (by decide +kernel), ⟨by decide, by decide⟩, by decide +kernel⟩
theorem zi_X2_entry : Cond.instanceMethod (zy mX2_entry) ∈ lw_tbl := List.mem_of_getElem? (i := 774) (by decide +kernel)
theorem zse_X2_entry : Cond.selects (zRn (zcN mX2_entry)) (zy mX2_entry) (zy mX2_entry) ∈ lw_tbl := List.mem_of_getElem? (i := 775) (by decide +kernel)
def mX3_init : zMI := (yX3_init, cX3_init, 5, none, 1, 0, 0, 3, true)
set_option maxRecDepth 20000 in
theorem zm_X3_init : zMok mX3_init 4 := ⟨List.mem_append_right _ (List.mem_append_right _ (List.mem_append_left _ (List.mem_of_getElem? (i := 225) rfl))), List.mem_of_getElem? (i := 71) (by decide +kernel), ⟨by decide, by decide⟩, by decide +kernel⟩
theorem zi_X3_init : Cond.instanceMethod (zy mX3_init) ∈ lw_tbl := List.mem_of_getElem? (i := 519) (by decide +kernel)
def mX4_init : zMI := (yX4_init, cX4_init, 1, none, 1, 1, 6, 4, true)
set_option maxRecDepth 20000 in
theorem zm_X4_init : zMok mX4_init 0 := ⟨List.mem_append_right _ (List.mem_append_left _ (List.mem_of_getElem? (i := 115) rfl)), List.mem_of_getElem? (i := 60) (by decide +kernel), ⟨by decide, by decide⟩, by decide +kernel⟩
theorem zi_X4_init : Cond.instanceMethod (zy mX4_init) ∈ lw_tbl := List.mem_of_getElem? (i := 169) (by decide +kernel)
def mX4_start : zMI := (yX4_start, cX4_start, 4, none, 0, 0, 0, 4, false)
set_option maxRecDepth 20000 in
theorem zm_X4_start : zMok mX4_start 1 := ⟨List.mem_append_right _ (List.mem_append_right _ (List.mem_append_right _ (List.mem_append_left _ (List.mem_of_getElem? (i := 165) rfl)))), List.mem_of_getElem? (i := 60) (by decide +kernel), ⟨by decide, by decide⟩, by decide +kernel⟩
theorem zi_X4_start : Cond.instanceMethod (zy mX4_start) ∈ lw_tbl := List.mem_of_getElem? (i := 698) (by decide +kernel)
theorem zse_X4_start : Cond.selects (zRn (zcN mX4_start)) (zy mX4_start) (zy mX4_start) ∈ lw_tbl := List.mem_of_getElem? (i := 699) (by decide +kernel)
def mX4_bear : zMI := (yX4_bear, cX4_bear, 6, none, 1, 0, 0, 4, false)
set_option maxRecDepth 20000 in
theorem zm_X4_bear : zMok mX4_bear 2 := ⟨List.mem_append_right _ (List.mem_append_right _ (List.mem_append_right _ (List.mem_append_left _ (List.mem_of_getElem? (i := 169) rfl)))), List.mem_of_getElem? (i := 60) (by decide +kernel), ⟨by decide, by decide⟩, by decide +kernel⟩
theorem zi_X4_bear : Cond.instanceMethod (zy mX4_bear) ∈ lw_tbl := List.mem_of_getElem? (i := 702) (by decide +kernel)
theorem zse_X4_bear : Cond.selects (zRn (zcN mX4_bear)) (zy mX4_bear) (zy mX4_bear) ∈ lw_tbl := List.mem_of_getElem? (i := 703) (by decide +kernel)
def mX4_coins : zMI := (yX4_coins, cX4_coins, 2, (some .long), 0, 0, 0, 4, false)
set_option maxRecDepth 20000 in
theorem zm_X4_coins : zMok mX4_coins 1 := ⟨List.mem_append_right _ (List.mem_append_right _ (List.mem_append_right _ (List.mem_append_left _ (List.mem_of_getElem? (i := 176) rfl)))), List.mem_of_getElem? (i := 60) (by decide +kernel), ⟨by decide, by decide⟩, by decide +kernel⟩
theorem zi_X4_coins : Cond.instanceMethod (zy mX4_coins) ∈ lw_tbl := List.mem_of_getElem? (i := 709) (by decide +kernel)
theorem zse_X4_coins : Cond.selects (zRn (zcN mX4_coins)) (zy mX4_coins) (zy mX4_coins) ∈ lw_tbl := List.mem_of_getElem? (i := 710) (by decide +kernel)
def mX5_init : zMI := (yX5_init, cX5_init, 1, none, 2, 3, 1019, 5, true)
set_option maxRecDepth 20000 in
theorem zm_X5_init : zMok mX5_init 0 := ⟨List.mem_append_right _ (List.mem_append_left _ (List.mem_of_getElem? (i := 35) rfl)), List.mem_of_getElem? (i := 57) (by decide +kernel), ⟨by decide, by decide⟩, by decide +kernel⟩
theorem zi_X5_init : Cond.instanceMethod (zy mX5_init) ∈ lw_tbl := List.mem_of_getElem? (i := 89) (by decide +kernel)
def mX5_readText : zMI := (yX5_readText, cX5_readText, 4, (some .boolean), 8, 0, 0, 5, false)
set_option maxRecDepth 20000 in
theorem zm_X5_readText : zMok mX5_readText 2 := ⟨List.mem_append_right _ (List.mem_append_right _ (List.mem_append_left _ (List.mem_of_getElem? (i := 7) rfl))), List.mem_of_getElem? (i := 57) (by decide +kernel), ⟨by decide, by decide⟩, by decide +kernel⟩
theorem zi_X5_readText : Cond.instanceMethod (zy mX5_readText) ∈ lw_tbl := List.mem_of_getElem? (i := 300) (by decide +kernel)
theorem zse_X5_readText : Cond.selects (zRn (zcN mX5_readText)) (zy mX5_readText) (zy mX5_readText) ∈ lw_tbl := List.mem_of_getElem? (i := 301) (by decide +kernel)
def mX5_readLine : zMI := (yX5_readLine, cX5_readLine, 3, (some .boolean), 7, 0, 0, 5, false)
set_option maxRecDepth 20000 in
theorem zm_X5_readLine : zMok mX5_readLine 1 := ⟨List.mem_append_right _ (List.mem_append_right _ (List.mem_append_left _ (List.mem_of_getElem? (i := 35) rfl))), List.mem_of_getElem? (i := 57) (by decide +kernel), ⟨by decide, by decide⟩, by decide +kernel⟩
theorem zi_X5_readLine : Cond.instanceMethod (zy mX5_readLine) ∈ lw_tbl := List.mem_of_getElem? (i := 329) (by decide +kernel)
theorem zse_X5_readLine : Cond.selects (zRn (zcN mX5_readLine)) (zy mX5_readLine) (zy mX5_readLine) ∈ lw_tbl := List.mem_of_getElem? (i := 1) (by decide +kernel)
def mX5_readRate : zMI := (yX5_readRate, cX5_readRate, 4, (some .boolean), 6, 0, 0, 5, false)
set_option maxRecDepth 20000 in
theorem zm_X5_readRate : zMok mX5_readRate 2 := ⟨List.mem_append_right _ (List.mem_append_right _ (List.mem_append_left _ (List.mem_of_getElem? (i := 97) rfl))), List.mem_of_getElem? (i := 57) (by decide +kernel), ⟨by decide, by decide⟩, by decide +kernel⟩
theorem zi_X5_readRate : Cond.instanceMethod (zy mX5_readRate) ∈ lw_tbl := List.mem_of_getElem? (i := 391) (by decide +kernel)
theorem zse_X5_readRate : Cond.selects (zRn (zcN mX5_readRate)) (zy mX5_readRate) (zy mX5_readRate) ∈ lw_tbl := List.mem_of_getElem? (i := 3) (by decide +kernel)
def mX5_readSeason : zMI := (yX5_readSeason, cX5_readSeason, 5, (some .boolean), 6, 0, 0, 5, false)
set_option maxRecDepth 20000 in
theorem zm_X5_readSeason : zMok mX5_readSeason 2 := ⟨List.mem_append_right _ (List.mem_append_right _ (List.mem_append_left _ (List.mem_of_getElem? (i := 130) rfl))), List.mem_of_getElem? (i := 57) (by decide +kernel), ⟨by decide, by decide⟩, by decide +kernel⟩
theorem zi_X5_readSeason : Cond.instanceMethod (zy mX5_readSeason) ∈ lw_tbl := List.mem_of_getElem? (i := 424) (by decide +kernel)
theorem zse_X5_readSeason : Cond.selects (zRn (zcN mX5_readSeason)) (zy mX5_readSeason) (zy mX5_readSeason) ∈ lw_tbl := List.mem_of_getElem? (i := 8) (by decide +kernel)
def mX5_readDuty : zMI := (yX5_readDuty, cX5_readDuty, 3, (some .boolean), 6, 0, 0, 5, false)
set_option maxRecDepth 20000 in
theorem zm_X5_readDuty : zMok mX5_readDuty 2 := ⟨List.mem_append_right _ (List.mem_append_right _ (List.mem_append_left _ (List.mem_of_getElem? (i := 143) rfl))), List.mem_of_getElem? (i := 57) (by decide +kernel), ⟨by decide, by decide⟩, by decide +kernel⟩
theorem zi_X5_readDuty : Cond.instanceMethod (zy mX5_readDuty) ∈ lw_tbl := List.mem_of_getElem? (i := 437) (by decide +kernel)
theorem zse_X5_readDuty : Cond.selects (zRn (zcN mX5_readDuty)) (zy mX5_readDuty) (zy mX5_readDuty) ∈ lw_tbl := List.mem_of_getElem? (i := 10) (by decide +kernel)
def mX5_readNone : zMI := (yX5_readNone, cX5_readNone, 4, (some .boolean), 6, 0, 0, 5, false)
set_option maxRecDepth 20000 in
theorem zm_X5_readNone : zMok mX5_readNone 2 := ⟨List.mem_append_right _ (List.mem_append_right _ (List.mem_append_left _ (List.mem_of_getElem? (i := 149) rfl))), List.mem_of_getElem? (i := 57) (by decide +kernel), ⟨by decide, by decide⟩, by decide +kernel⟩
theorem zi_X5_readNone : Cond.instanceMethod (zy mX5_readNone) ∈ lw_tbl := List.mem_of_getElem? (i := 443) (by decide +kernel)
theorem zse_X5_readNone : Cond.selects (zRn (zcN mX5_readNone)) (zy mX5_readNone) (zy mX5_readNone) ∈ lw_tbl := List.mem_of_getElem? (i := 11) (by decide +kernel)
def mX5_readOther : zMI := (yX5_readOther, cX5_readOther, 4, (some .boolean), 3, 0, 0, 5, false)
set_option maxRecDepth 20000 in
theorem zm_X5_readOther : zMok mX5_readOther 2 := ⟨List.mem_append_right _ (List.mem_append_right _ (List.mem_append_left _ (List.mem_of_getElem? (i := 156) rfl))), List.mem_of_getElem? (i := 57) (by decide +kernel), ⟨by decide, by decide⟩, by decide +kernel⟩
theorem zi_X5_readOther : Cond.instanceMethod (zy mX5_readOther) ∈ lw_tbl := List.mem_of_getElem? (i := 450) (by decide +kernel)
theorem zse_X5_readOther : Cond.selects (zRn (zcN mX5_readOther)) (zy mX5_readOther) (zy mX5_readOther) ∈ lw_tbl := List.mem_of_getElem? (i := 12) (by decide +kernel)
def mX5_takeClass : zMI := (yX5_takeClass, cX5_takeClass, 2, (some .int), 5, 0, 0, 5, false)
set_option maxRecDepth 20000 in
theorem zm_X5_takeClass : zMok mX5_takeClass 0 := ⟨List.mem_append_right _ (List.mem_append_right _ (List.mem_append_left _ (List.mem_of_getElem? (i := 101) rfl))), List.mem_of_getElem? (i := 57) (by decide +kernel), ⟨by decide, by decide⟩, by decide +kernel⟩
theorem zi_X5_takeClass : Cond.instanceMethod (zy mX5_takeClass) ∈ lw_tbl := List.mem_of_getElem? (i := 395) (by decide +kernel)
theorem zse_X5_takeClass : Cond.selects (zRn (zcN mX5_takeClass)) (zy mX5_takeClass) (zy mX5_takeClass) ∈ lw_tbl := List.mem_of_getElem? (i := 4) (by decide +kernel)
def mX5_takeWord : zMI := (yX5_takeWord, cX5_takeWord, 2, (some .boolean), 5, 0, 0, 5, false)
set_option maxRecDepth 20000 in
theorem zm_X5_takeWord : zMok mX5_takeWord 1 := ⟨List.mem_append_right _ (List.mem_append_right _ (List.mem_append_left _ (List.mem_of_getElem? (i := 40) rfl))), List.mem_of_getElem? (i := 57) (by decide +kernel), ⟨by decide, by decide⟩, by decide +kernel⟩
theorem zi_X5_takeWord : Cond.instanceMethod (zy mX5_takeWord) ∈ lw_tbl := List.mem_of_getElem? (i := 334) (by decide +kernel)
theorem zse_X5_takeWord : Cond.selects (zRn (zcN mX5_takeWord)) (zy mX5_takeWord) (zy mX5_takeWord) ∈ lw_tbl := List.mem_of_getElem? (i := 2) (by decide +kernel)
def mX5_takeMark : zMI := (yX5_takeMark, cX5_takeMark, 2, (some .boolean), 2, 0, 0, 5, false)
set_option maxRecDepth 20000 in
theorem zm_X5_takeMark : zMok mX5_takeMark 1 := ⟨List.mem_append_right _ (List.mem_append_right _ (List.mem_append_left _ (List.mem_of_getElem? (i := 134) rfl))), List.mem_of_getElem? (i := 57) (by decide +kernel), ⟨by decide, by decide⟩, by decide +kernel⟩
theorem zi_X5_takeMark : Cond.instanceMethod (zy mX5_takeMark) ∈ lw_tbl := List.mem_of_getElem? (i := 428) (by decide +kernel)
theorem zse_X5_takeMark : Cond.selects (zRn (zcN mX5_takeMark)) (zy mX5_takeMark) (zy mX5_takeMark) ∈ lw_tbl := List.mem_of_getElem? (i := 9) (by decide +kernel)
def mX5_takeNumber : zMI := (yX5_takeNumber, cX5_takeNumber, 3, (some .boolean), 2, 0, 0, 5, false)
set_option maxRecDepth 20000 in
theorem zm_X5_takeNumber : zMok mX5_takeNumber 2 := ⟨List.mem_append_right _ (List.mem_append_right _ (List.mem_append_left _ (List.mem_of_getElem? (i := 113) rfl))), List.mem_of_getElem? (i := 57) (by decide +kernel), ⟨by decide, by decide⟩, by decide +kernel⟩
theorem zi_X5_takeNumber : Cond.instanceMethod (zy mX5_takeNumber) ∈ lw_tbl := List.mem_of_getElem? (i := 407) (by decide +kernel)
theorem zse_X5_takeNumber : Cond.selects (zRn (zcN mX5_takeNumber)) (zy mX5_takeNumber) (zy mX5_takeNumber) ∈ lw_tbl := List.mem_of_getElem? (i := 6) (by decide +kernel)
def mX5_keep : zMI := (yX5_keep, cX5_keep, 6, (some .boolean), 1, 0, 0, 5, false)
set_option maxRecDepth 20000 in
theorem zm_X5_keep : zMok mX5_keep 4 := ⟨List.mem_append_right _ (List.mem_append_right _ (List.mem_append_left _ (List.mem_of_getElem? (i := 117) rfl))), List.mem_of_getElem? (i := 57) (by decide +kernel), ⟨by decide, by decide⟩, by decide +kernel⟩
theorem zi_X5_keep : Cond.instanceMethod (zy mX5_keep) ∈ lw_tbl := List.mem_of_getElem? (i := 411) (by decide +kernel)
theorem zse_X5_keep : Cond.selects (zRn (zcN mX5_keep)) (zy mX5_keep) (zy mX5_keep) ∈ lw_tbl := List.mem_of_getElem? (i := 7) (by decide +kernel)
def mX5_fail : zMI := (yX5_fail, cX5_fail, 3, (some .boolean), 0, 0, 0, 5, false)
set_option maxRecDepth 20000 in
theorem zm_X5_fail : zMok mX5_fail 2 := ⟨List.mem_append_right _ (List.mem_append_right _ (List.mem_append_left _ (List.mem_of_getElem? (i := 109) rfl))), List.mem_of_getElem? (i := 57) (by decide +kernel), ⟨by decide, by decide⟩, by decide +kernel⟩
theorem zi_X5_fail : Cond.instanceMethod (zy mX5_fail) ∈ lw_tbl := List.mem_of_getElem? (i := 403) (by decide +kernel)
theorem zse_X5_fail : Cond.selects (zRn (zcN mX5_fail)) (zy mX5_fail) (zy mX5_fail) ∈ lw_tbl := List.mem_of_getElem? (i := 5) (by decide +kernel)
def mX6_init : zMI := (yX6_init, cX6_init, 1, none, 1, 3, 36, 6, true)
set_option maxRecDepth 20000 in
theorem zm_X6_init : zMok mX6_init 0 := ⟨List.mem_append_right _ (List.mem_append_left _ (List.mem_of_getElem? (i := 126) rfl)), List.mem_of_getElem? (i := 61) (by decide +kernel), ⟨by decide, by decide⟩, by decide +kernel⟩
theorem zi_X6_init : Cond.instanceMethod (zy mX6_init) ∈ lw_tbl := List.mem_of_getElem? (i := 180) (by decide +kernel)
def mX6_start : zMI := (yX6_start, cX6_start, 2, none, 0, 0, 0, 6, false)
set_option maxRecDepth 20000 in
theorem zm_X6_start : zMok mX6_start 0 := ⟨List.mem_append_right _ (List.mem_append_right _ (List.mem_append_right _ (List.mem_append_left _ (List.mem_of_getElem? (i := 188) rfl)))), List.mem_of_getElem? (i := 61) (by decide +kernel), ⟨by decide, by decide⟩, by decide +kernel⟩
theorem zi_X6_start : Cond.instanceMethod (zy mX6_start) ∈ lw_tbl := List.mem_of_getElem? (i := 721) (by decide +kernel)
theorem zse_X6_start : Cond.selects (zRn (zcN mX6_start)) (zy mX6_start) (zy mX6_start) ∈ lw_tbl := List.mem_of_getElem? (i := 722) (by decide +kernel)
def mX6_weigh : zMI := (yX6_weigh, cX6_weigh, 4, none, 0, 0, 0, 6, false)
set_option maxRecDepth 20000 in
theorem zm_X6_weigh : zMok mX6_weigh 2 := ⟨List.mem_append_right _ (List.mem_append_right _ (List.mem_append_right _ (List.mem_append_left _ (List.mem_of_getElem? (i := 192) rfl)))), List.mem_of_getElem? (i := 61) (by decide +kernel), ⟨by decide, by decide⟩, by decide +kernel⟩
theorem zi_X6_weigh : Cond.instanceMethod (zy mX6_weigh) ∈ lw_tbl := List.mem_of_getElem? (i := 725) (by decide +kernel)
theorem zse_X6_weigh : Cond.selects (zRn (zcN mX6_weigh)) (zy mX6_weigh) (zy mX6_weigh) ∈ lw_tbl := List.mem_of_getElem? (i := 726) (by decide +kernel)
def mX6_spread : zMI := (yX6_spread, cX6_spread, 8, none, 1, 0, 0, 6, false)
set_option maxRecDepth 20000 in
theorem zm_X6_spread : zMok mX6_spread 1 := ⟨List.mem_append_right _ (List.mem_append_right _ (List.mem_append_right _ (List.mem_append_left _ (List.mem_of_getElem? (i := 196) rfl)))), List.mem_of_getElem? (i := 61) (by decide +kernel), ⟨by decide, by decide⟩, by decide +kernel⟩
theorem zi_X6_spread : Cond.instanceMethod (zy mX6_spread) ∈ lw_tbl := List.mem_of_getElem? (i := 729) (by decide +kernel)
theorem zse_X6_spread : Cond.selects (zRn (zcN mX6_spread)) (zy mX6_spread) (zy mX6_spread) ∈ lw_tbl := List.mem_of_getElem? (i := 730) (by decide +kernel)
def mX6_coins : zMI := (yX6_coins, cX6_coins, 2, (some .long), 0, 0, 0, 6, false)
set_option maxRecDepth 20000 in
theorem zm_X6_coins : zMok mX6_coins 1 := ⟨List.mem_append_right _ (List.mem_append_right _ (List.mem_append_right _ (List.mem_append_left _ (List.mem_of_getElem? (i := 205) rfl)))), List.mem_of_getElem? (i := 61) (by decide +kernel), ⟨by decide, by decide⟩, by decide +kernel⟩
theorem zi_X6_coins : Cond.instanceMethod (zy mX6_coins) ∈ lw_tbl := List.mem_of_getElem? (i := 738) (by decide +kernel)
theorem zse_X6_coins : Cond.selects (zRn (zcN mX6_coins)) (zy mX6_coins) (zy mX6_coins) ∈ lw_tbl := List.mem_of_getElem? (i := 739) (by decide +kernel)
def mX6_addCoin : zMI := (yX6_addCoin, cX6_addCoin, 3, none, 0, 0, 0, 6, false)
set_option maxRecDepth 20000 in
theorem zm_X6_addCoin : zMok mX6_addCoin 0 := ⟨List.mem_append_right _ (List.mem_append_right _ (List.mem_append_right _ (List.mem_append_left _ (List.mem_of_getElem? (i := 200) rfl)))), List.mem_of_getElem? (i := 61) (by decide +kernel), ⟨by decide, by decide⟩, by decide +kernel⟩
theorem zi_X6_addCoin : Cond.instanceMethod (zy mX6_addCoin) ∈ lw_tbl := List.mem_of_getElem? (i := 734) (by decide +kernel)
theorem zse_X6_addCoin : Cond.selects (zRn (zcN mX6_addCoin)) (zy mX6_addCoin) (zy mX6_addCoin) ∈ lw_tbl := List.mem_of_getElem? (i := 27) (by decide +kernel)
def mX7_init : zMI := (yX7_init, cX7_init, 4, none, 1, 1, 63, 7, true)
set_option maxRecDepth 20000 in
theorem zm_X7_init : zMok mX7_init 2 := ⟨List.mem_append_right _ (List.mem_append_left _ (List.mem_of_getElem? (i := 223) rfl)), List.mem_of_getElem? (i := 64) (by decide +kernel), ⟨by decide, by decide⟩, by decide +kernel⟩
theorem zi_X7_init : Cond.instanceMethod (zy mX7_init) ∈ lw_tbl := List.mem_of_getElem? (i := 277) (by decide +kernel)
def mX7_isInForce : zMI := (yX7_isInForce, cX7_isInForce, 3, (some .boolean), 0, 0, 0, 7, false)
set_option maxRecDepth 20000 in
theorem zm_X7_isInForce : zMok mX7_isInForce 2 := ⟨List.mem_append_right _ (List.mem_append_right _ (List.mem_append_right _ (List.mem_append_left _ (List.mem_of_getElem? (i := 32) rfl)))), List.mem_of_getElem? (i := 64) (by decide +kernel), ⟨by decide, by decide⟩, by decide +kernel⟩
theorem zi_X7_isInForce : Cond.instanceMethod (zy mX7_isInForce) ∈ lw_tbl := List.mem_of_getElem? (i := 565) (by decide +kernel)
theorem zse_X7_isInForce : Cond.selects (zRn (zcN mX7_isInForce)) (zy mX7_isInForce) (zy mX7_isInForce) ∈ lw_tbl := List.mem_of_getElem? (i := 566) (by decide +kernel)
def mX7_numberAt : zMI := (yX7_numberAt, cX7_numberAt, 2, (some .int), 0, 0, 0, 7, false)
set_option maxRecDepth 20000 in
theorem zm_X7_numberAt : zMok mX7_numberAt 1 := ⟨List.mem_append_right _ (List.mem_append_right _ (List.mem_append_left _ (List.mem_of_getElem? (i := 121) rfl))), List.mem_of_getElem? (i := 64) (by decide +kernel), ⟨by decide, by decide⟩, by decide +kernel⟩
theorem zi_X7_numberAt : Cond.instanceMethod (zy mX7_numberAt) ∈ lw_tbl := List.mem_of_getElem? (i := 414) (by decide +kernel)
theorem zse_X7_numberAt : Cond.selects (zRn (zcN mX7_numberAt)) (zy mX7_numberAt) (zy mX7_numberAt) ∈ lw_tbl := List.mem_of_getElem? (i := 415) (by decide +kernel)
def mX7_setNumber : zMI := (yX7_setNumber, cX7_setNumber, 3, none, 0, 0, 0, 7, false)
set_option maxRecDepth 20000 in
theorem zm_X7_setNumber : zMok mX7_setNumber 2 := ⟨List.mem_append_right _ (List.mem_append_right _ (List.mem_append_left _ (List.mem_of_getElem? (i := 125) rfl))), List.mem_of_getElem? (i := 64) (by decide +kernel), ⟨by decide, by decide⟩, by decide +kernel⟩
theorem zi_X7_setNumber : Cond.instanceMethod (zy mX7_setNumber) ∈ lw_tbl := List.mem_of_getElem? (i := 418) (by decide +kernel)
theorem zse_X7_setNumber : Cond.selects (zRn (zcN mX7_setNumber)) (zy mX7_setNumber) (zy mX7_setNumber) ∈ lw_tbl := List.mem_of_getElem? (i := 419) (by decide +kernel)
def mX8_init : zMI := (yX8_init, cX8_init, 1, none, 1, 1, 10, 8, true)
set_option maxRecDepth 20000 in
theorem zm_X8_init : zMok mX8_init 0 := ⟨List.mem_append_right _ (List.mem_append_left _ (List.mem_of_getElem? (i := 91) rfl)), List.mem_of_getElem? (i := 59) (by decide +kernel), ⟨by decide, by decide⟩, by decide +kernel⟩
theorem zi_X8_init : Cond.instanceMethod (zy mX8_init) ∈ lw_tbl := List.mem_of_getElem? (i := 145) (by decide +kernel)
def mX8_isFull : zMI := (yX8_isFull, cX8_isFull, 1, (some .boolean), 0, 0, 0, 8, false)
set_option maxRecDepth 20000 in
theorem zm_X8_isFull : zMok mX8_isFull 0 := ⟨List.mem_append_right _ (List.mem_append_left _ (List.mem_of_getElem? (i := 218) rfl)), List.mem_of_getElem? (i := 59) (by decide +kernel), ⟨by decide, by decide⟩, by decide +kernel⟩
theorem zi_X8_isFull : Cond.instanceMethod (zy mX8_isFull) ∈ lw_tbl := List.mem_of_getElem? (i := 271) (by decide +kernel)
theorem zse_X8_isFull : Cond.selects (zRn (zcN mX8_isFull)) (zy mX8_isFull) (zy mX8_isFull) ∈ lw_tbl := List.mem_of_getElem? (i := 272) (by decide +kernel)
def mX8_textAt : zMI := (yX8_textAt, cX8_textAt, 2, (some (.object "FireMutual$Statute")), 0, 0, 0, 8, false)
set_option maxRecDepth 20000 in
theorem zm_X8_textAt : zMok mX8_textAt 1 := ⟨List.mem_append_right _ (List.mem_append_right _ (List.mem_append_left _ (List.mem_of_getElem? (i := 176) rfl))), List.mem_of_getElem? (i := 59) (by decide +kernel), ⟨by decide, by decide⟩, by decide +kernel⟩
theorem zi_X8_textAt : Cond.instanceMethod (zy mX8_textAt) ∈ lw_tbl := List.mem_of_getElem? (i := 469) (by decide +kernel)
theorem zse_X8_textAt : Cond.selects (zRn (zcN mX8_textAt)) (zy mX8_textAt) (zy mX8_textAt) ∈ lw_tbl := List.mem_of_getElem? (i := 470) (by decide +kernel)
def mX8_enact : zMI := (yX8_enact, cX8_enact, 2, (some .int), 0, 0, 0, 8, false)
set_option maxRecDepth 20000 in
theorem zm_X8_enact : zMok mX8_enact 1 := ⟨List.mem_append_right _ (List.mem_append_right _ (List.mem_append_left _ (List.mem_of_getElem? (i := 164) rfl))), List.mem_of_getElem? (i := 59) (by decide +kernel), ⟨by decide, by decide⟩, by decide +kernel⟩
theorem zi_X8_enact : Cond.instanceMethod (zy mX8_enact) ∈ lw_tbl := List.mem_of_getElem? (i := 457) (by decide +kernel)
theorem zse_X8_enact : Cond.selects (zRn (zcN mX8_enact)) (zy mX8_enact) (zy mX8_enact) ∈ lw_tbl := List.mem_of_getElem? (i := 458) (by decide +kernel)
def mX8_says : zMI := (yX8_says, cX8_says, 6, (some .int), 2, 0, 0, 8, false)
set_option maxRecDepth 20000 in
theorem zm_X8_says : zMok mX8_says 3 := ⟨List.mem_append_right _ (List.mem_append_right _ (List.mem_append_right _ (List.mem_append_left _ (List.mem_of_getElem? (i := 23) rfl)))), List.mem_of_getElem? (i := 59) (by decide +kernel), ⟨by decide, by decide⟩, by decide +kernel⟩
theorem zi_X8_says : Cond.instanceMethod (zy mX8_says) ∈ lw_tbl := List.mem_of_getElem? (i := 556) (by decide +kernel)
theorem zse_X8_says : Cond.selects (zRn (zcN mX8_says)) (zy mX8_says) (zy mX8_says) ∈ lw_tbl := List.mem_of_getElem? (i := 557) (by decide +kernel)
def mX8_counted : zMI := (yX8_counted, cX8_counted, 9, (some .int), 1, 0, 0, 8, false)
set_option maxRecDepth 20000 in
theorem zm_X8_counted : zMok mX8_counted 4 := ⟨List.mem_append_right _ (List.mem_append_right _ (List.mem_append_right _ (List.mem_append_left _ (List.mem_of_getElem? (i := 27) rfl)))), List.mem_of_getElem? (i := 59) (by decide +kernel), ⟨by decide, by decide⟩, by decide +kernel⟩
theorem zi_X8_counted : Cond.instanceMethod (zy mX8_counted) ∈ lw_tbl := List.mem_of_getElem? (i := 561) (by decide +kernel)
theorem zse_X8_counted : Cond.selects (zRn (zcN mX8_counted)) (zy mX8_counted) (zy mX8_counted) ∈ lw_tbl := List.mem_of_getElem? (i := 15) (by decide +kernel)
def mX9_init : zMI := (yX9_init, cX9_init, 1, none, 1, 1, 1000, 9, true)
set_option maxRecDepth 20000 in
theorem zm_X9_init : zMok mX9_init 0 := ⟨List.mem_append_right _ (List.mem_append_left _ (List.mem_of_getElem? (i := 41) rfl)), List.mem_of_getElem? (i := 58) (by decide +kernel), ⟨by decide, by decide⟩, by decide +kernel⟩
theorem zi_X9_init : Cond.instanceMethod (zy mX9_init) ∈ lw_tbl := List.mem_of_getElem? (i := 95) (by decide +kernel)
def mX9_hasRoom : zMI := (yX9_hasRoom, cX9_hasRoom, 2, (some .boolean), 0, 0, 0, 9, false)
set_option maxRecDepth 20000 in
theorem zm_X9_hasRoom : zMok mX9_hasRoom 1 := ⟨List.mem_append_right _ (List.mem_append_left _ (List.mem_of_getElem? (i := 203) rfl)), List.mem_of_getElem? (i := 58) (by decide +kernel), ⟨by decide, by decide⟩, by decide +kernel⟩
theorem zi_X9_hasRoom : Cond.instanceMethod (zy mX9_hasRoom) ∈ lw_tbl := List.mem_of_getElem? (i := 256) (by decide +kernel)
theorem zse_X9_hasRoom : Cond.selects (zRn (zcN mX9_hasRoom)) (zy mX9_hasRoom) (zy mX9_hasRoom) ∈ lw_tbl := List.mem_of_getElem? (i := 257) (by decide +kernel)
def mX9_put : zMI := (yX9_put, cX9_put, 3, none, 0, 0, 0, 9, false)
set_option maxRecDepth 20000 in
theorem zm_X9_put : zMok mX9_put 1 := ⟨List.mem_append_right _ (List.mem_append_left _ (List.mem_of_getElem? (i := 207) rfl)), List.mem_of_getElem? (i := 58) (by decide +kernel), ⟨by decide, by decide⟩, by decide +kernel⟩
theorem zi_X9_put : Cond.instanceMethod (zy mX9_put) ∈ lw_tbl := List.mem_of_getElem? (i := 260) (by decide +kernel)
theorem zse_X9_put : Cond.selects (zRn (zcN mX9_put)) (zy mX9_put) (zy mX9_put) ∈ lw_tbl := List.mem_of_getElem? (i := 261) (by decide +kernel)
def mX9_clear : zMI := (yX9_clear, cX9_clear, 1, none, 0, 0, 0, 9, false)
set_option maxRecDepth 20000 in
theorem zm_X9_clear : zMok mX9_clear 0 := ⟨List.mem_append_right _ (List.mem_append_right _ (List.mem_append_left _ (List.mem_of_getElem? (i := 160) rfl))), List.mem_of_getElem? (i := 58) (by decide +kernel), ⟨by decide, by decide⟩, by decide +kernel⟩
theorem zi_X9_clear : Cond.instanceMethod (zy mX9_clear) ∈ lw_tbl := List.mem_of_getElem? (i := 453) (by decide +kernel)
theorem zse_X9_clear : Cond.selects (zRn (zcN mX9_clear)) (zy mX9_clear) (zy mX9_clear) ∈ lw_tbl := List.mem_of_getElem? (i := 454) (by decide +kernel)
def mX9_start : zMI := (yX9_start, cX9_start, 2, none, 2, 0, 0, 9, false)
set_option maxRecDepth 20000 in
theorem zm_X9_start : zMok mX9_start 1 := ⟨List.mem_append_right _ (List.mem_append_right _ (List.mem_append_left _ (List.mem_of_getElem? (i := 11) rfl))), List.mem_of_getElem? (i := 58) (by decide +kernel), ⟨by decide, by decide⟩, by decide +kernel⟩
theorem zi_X9_start : Cond.instanceMethod (zy mX9_start) ∈ lw_tbl := List.mem_of_getElem? (i := 304) (by decide +kernel)
theorem zse_X9_start : Cond.selects (zRn (zcN mX9_start)) (zy mX9_start) (zy mX9_start) ∈ lw_tbl := List.mem_of_getElem? (i := 305) (by decide +kernel)
def mX9_advance : zMI := (yX9_advance, cX9_advance, 2, none, 1, 0, 0, 9, false)
set_option maxRecDepth 20000 in
theorem zm_X9_advance : zMok mX9_advance 0 := ⟨List.mem_append_right _ (List.mem_append_right _ (List.mem_append_left _ (List.mem_of_getElem? (i := 15) rfl))), List.mem_of_getElem? (i := 58) (by decide +kernel), ⟨by decide, by decide⟩, by decide +kernel⟩
theorem zi_X9_advance : Cond.instanceMethod (zy mX9_advance) ∈ lw_tbl := List.mem_of_getElem? (i := 308) (by decide +kernel)
theorem zse_X9_advance : Cond.selects (zRn (zcN mX9_advance)) (zy mX9_advance) (zy mX9_advance) ∈ lw_tbl := List.mem_of_getElem? (i := 309) (by decide +kernel)
def mX9_isMark : zMI := (yX9_isMark, cX9_isMark, 2, (some .boolean), 0, 0, 0, 9, false)
set_option maxRecDepth 20000 in
theorem zm_X9_isMark : zMok mX9_isMark 1 := ⟨List.mem_append_right _ (List.mem_append_right _ (List.mem_append_left _ (List.mem_of_getElem? (i := 138) rfl))), List.mem_of_getElem? (i := 58) (by decide +kernel), ⟨by decide, by decide⟩, by decide +kernel⟩
theorem zi_X9_isMark : Cond.instanceMethod (zy mX9_isMark) ∈ lw_tbl := List.mem_of_getElem? (i := 431) (by decide +kernel)
theorem zse_X9_isMark : Cond.selects (zRn (zcN mX9_isMark)) (zy mX9_isMark) (zy mX9_isMark) ∈ lw_tbl := List.mem_of_getElem? (i := 432) (by decide +kernel)
def mX9_isWord : zMI := (yX9_isWord, cX9_isWord, 3, (some .boolean), 4, 0, 0, 9, false)
set_option maxRecDepth 20000 in
theorem zm_X9_isWord : zMok mX9_isWord 1 := ⟨List.mem_append_right _ (List.mem_append_right _ (List.mem_append_left _ (List.mem_of_getElem? (i := 44) rfl))), List.mem_of_getElem? (i := 58) (by decide +kernel), ⟨by decide, by decide⟩, by decide +kernel⟩
theorem zi_X9_isWord : Cond.instanceMethod (zy mX9_isWord) ∈ lw_tbl := List.mem_of_getElem? (i := 337) (by decide +kernel)
theorem zse_X9_isWord : Cond.selects (zRn (zcN mX9_isWord)) (zy mX9_isWord) (zy mX9_isWord) ∈ lw_tbl := List.mem_of_getElem? (i := 338) (by decide +kernel)
def mX9_signAt : zMI := (yX9_signAt, cX9_signAt, 2, (some .int), 0, 0, 0, 9, false)
set_option maxRecDepth 20000 in
theorem zm_X9_signAt : zMok mX9_signAt 1 := ⟨List.mem_append_right _ (List.mem_append_right _ (List.mem_append_left _ (List.mem_of_getElem? (i := 19) rfl))), List.mem_of_getElem? (i := 58) (by decide +kernel), ⟨by decide, by decide⟩, by decide +kernel⟩
theorem zi_X9_signAt : Cond.instanceMethod (zy mX9_signAt) ∈ lw_tbl := List.mem_of_getElem? (i := 313) (by decide +kernel)
theorem zse_X9_signAt : Cond.selects (zRn (zcN mX9_signAt)) (zy mX9_signAt) (zy mX9_signAt) ∈ lw_tbl := List.mem_of_getElem? (i := 0) (by decide +kernel)
def mX9_isBlank : zMI := (yX9_isBlank, cX9_isBlank, 1, (some .boolean), 0, 0, 0, 9, false)
set_option maxRecDepth 20000 in
theorem zm_X9_isBlank : zMok mX9_isBlank 1 := ⟨List.mem_append_right _ (List.mem_append_right _ (List.mem_append_left _ (List.mem_of_getElem? (i := 22) rfl))), List.mem_of_getElem? (i := 58) (by decide +kernel), ⟨by decide, by decide⟩, by decide +kernel⟩
theorem zs_X9_isBlank : Cond.static (zy mX9_isBlank) ∈ lw_tbl := List.mem_of_getElem? (i := 316) (by decide +kernel)
def mX9_isSmallLetter : zMI := (yX9_isSmallLetter, cX9_isSmallLetter, 1, (some .boolean), 0, 0, 0, 9, false)
set_option maxRecDepth 20000 in
theorem zm_X9_isSmallLetter : zMok mX9_isSmallLetter 1 := ⟨List.mem_append_right _ (List.mem_append_right _ (List.mem_append_left _ (List.mem_of_getElem? (i := 25) rfl))), List.mem_of_getElem? (i := 58) (by decide +kernel), ⟨by decide, by decide⟩, by decide +kernel⟩
theorem zs_X9_isSmallLetter : Cond.static (zy mX9_isSmallLetter) ∈ lw_tbl := List.mem_of_getElem? (i := 319) (by decide +kernel)
def mX9_isDigit : zMI := (yX9_isDigit, cX9_isDigit, 1, (some .boolean), 0, 0, 0, 9, false)
set_option maxRecDepth 20000 in
theorem zm_X9_isDigit : zMok mX9_isDigit 1 := ⟨List.mem_append_right _ (List.mem_append_right _ (List.mem_append_left _ (List.mem_of_getElem? (i := 28) rfl))), List.mem_of_getElem? (i := 58) (by decide +kernel), ⟨by decide, by decide⟩, by decide +kernel⟩
theorem zs_X9_isDigit : Cond.static (zy mX9_isDigit) ∈ lw_tbl := List.mem_of_getElem? (i := 322) (by decide +kernel)
def mX10_init : zMI := (yX10_init, cX10_init, 1, none, 3, 18, 1543, 10, true)
set_option maxRecDepth 20000 in
theorem zm_X10_init : zMok mX10_init 0 := ⟨List.mem_append_right _ (List.mem_append_left _ (List.mem_of_getElem? (i := 27) rfl)), List.mem_of_getElem? (i := 56) (by decide +kernel), ⟨by decide, by decide⟩, by decide +kernel⟩
theorem zi_X10_init : Cond.instanceMethod (zy mX10_init) ∈ lw_tbl := List.mem_of_getElem? (i := 81) (by decide +kernel)
def mX10_feed : zMI := (yX10_feed, cX10_feed, 7, (some .int), 1, 0, 0, 10, false)
set_option maxRecDepth 20000 in
theorem zm_X10_feed : zMok mX10_feed 5 := ⟨List.mem_append_right _ (List.mem_append_left _ (List.mem_of_getElem? (i := 199) rfl)), List.mem_of_getElem? (i := 56) (by decide +kernel), ⟨by decide, by decide⟩, by decide +kernel⟩
theorem zi_X10_feed : Cond.instanceMethod (zy mX10_feed) ∈ lw_tbl := List.mem_of_getElem? (i := 252) (by decide +kernel)
theorem zse_X10_feed : Cond.selects (zRn (zcN mX10_feed)) (zy mX10_feed) (zy mX10_feed) ∈ lw_tbl := List.mem_of_getElem? (i := 253) (by decide +kernel)
def mX10_vote : zMI := (yX10_vote, cX10_vote, 5, (some .int), 9, 2, 68, 10, false)
set_option maxRecDepth 20000 in
theorem zm_X10_vote : zMok mX10_vote 2 := ⟨List.mem_append_right _ (List.mem_append_left _ (List.mem_of_getElem? (i := 211) rfl)), List.mem_of_getElem? (i := 56) (by decide +kernel), ⟨by decide, by decide⟩, by decide +kernel⟩
theorem zi_X10_vote : Cond.instanceMethod (zy mX10_vote) ∈ lw_tbl := List.mem_of_getElem? (i := 264) (by decide +kernel)
theorem zse_X10_vote : Cond.selects (zRn (zcN mX10_vote)) (zy mX10_vote) (zy mX10_vote) ∈ lw_tbl := List.mem_of_getElem? (i := 265) (by decide +kernel)
def mX10_fault : zMI := (yX10_fault, cX10_fault, 2, (some .int), 0, 0, 0, 10, false)
set_option maxRecDepth 20000 in
theorem zm_X10_fault : zMok mX10_fault 1 := ⟨List.mem_append_right _ (List.mem_append_right _ (List.mem_append_left _ (List.mem_of_getElem? (i := 168) rfl))), List.mem_of_getElem? (i := 56) (by decide +kernel), ⟨by decide, by decide⟩, by decide +kernel⟩
theorem zi_X10_fault : Cond.instanceMethod (zy mX10_fault) ∈ lw_tbl := List.mem_of_getElem? (i := 461) (by decide +kernel)
theorem zse_X10_fault : Cond.selects (zRn (zcN mX10_fault)) (zy mX10_fault) (zy mX10_fault) ∈ lw_tbl := List.mem_of_getElem? (i := 462) (by decide +kernel)
def mX10_undo : zMI := (yX10_undo, cX10_undo, 3, (some .boolean), 1, 0, 0, 10, false)
set_option maxRecDepth 20000 in
theorem zm_X10_undo : zMok mX10_undo 1 := ⟨List.mem_append_right _ (List.mem_append_right _ (List.mem_append_left _ (List.mem_of_getElem? (i := 172) rfl))), List.mem_of_getElem? (i := 56) (by decide +kernel), ⟨by decide, by decide⟩, by decide +kernel⟩
theorem zi_X10_undo : Cond.instanceMethod (zy mX10_undo) ∈ lw_tbl := List.mem_of_getElem? (i := 465) (by decide +kernel)
theorem zse_X10_undo : Cond.selects (zRn (zcN mX10_undo)) (zy mX10_undo) (zy mX10_undo) ∈ lw_tbl := List.mem_of_getElem? (i := 466) (by decide +kernel)
def mX10_pass : zMI := (yX10_pass, cX10_pass, 2, (some .int), 1, 0, 0, 10, false)
set_option maxRecDepth 20000 in
theorem zm_X10_pass : zMok mX10_pass 1 := ⟨List.mem_append_right _ (List.mem_append_right _ (List.mem_append_left _ (List.mem_of_getElem? (i := 180) rfl))), List.mem_of_getElem? (i := 56) (by decide +kernel), ⟨by decide, by decide⟩, by decide +kernel⟩
theorem zi_X10_pass : Cond.instanceMethod (zy mX10_pass) ∈ lw_tbl := List.mem_of_getElem? (i := 473) (by decide +kernel)
theorem zse_X10_pass : Cond.selects (zRn (zcN mX10_pass)) (zy mX10_pass) (zy mX10_pass) ∈ lw_tbl := List.mem_of_getElem? (i := 474) (by decide +kernel)
def mX10_farm : zMI := (yX10_farm, cX10_farm, 2, (some .int), 2, 2, 13, 10, false)
set_option maxRecDepth 20000 in
theorem zm_X10_farm : zMok mX10_farm 1 := ⟨List.mem_append_right _ (List.mem_append_right _ (List.mem_append_left _ (List.mem_of_getElem? (i := 184) rfl))), List.mem_of_getElem? (i := 56) (by decide +kernel), ⟨by decide, by decide⟩, by decide +kernel⟩
theorem zi_X10_farm : Cond.instanceMethod (zy mX10_farm) ∈ lw_tbl := List.mem_of_getElem? (i := 477) (by decide +kernel)
theorem zse_X10_farm : Cond.selects (zRn (zcN mX10_farm)) (zy mX10_farm) (zy mX10_farm) ∈ lw_tbl := List.mem_of_getElem? (i := 478) (by decide +kernel)
def mX10_note : zMI := (yX10_note, cX10_note, 6, (some .int), 3, 1, 4, 10, false)
set_option maxRecDepth 20000 in
theorem zm_X10_note : zMok mX10_note 4 := ⟨List.mem_append_right _ (List.mem_append_right _ (List.mem_append_left _ (List.mem_of_getElem? (i := 210) rfl))), List.mem_of_getElem? (i := 56) (by decide +kernel), ⟨by decide, by decide⟩, by decide +kernel⟩
theorem zi_X10_note : Cond.instanceMethod (zy mX10_note) ∈ lw_tbl := List.mem_of_getElem? (i := 503) (by decide +kernel)
theorem zse_X10_note : Cond.selects (zRn (zcN mX10_note)) (zy mX10_note) (zy mX10_note) ∈ lw_tbl := List.mem_of_getElem? (i := 504) (by decide +kernel)
def mX10_worth : zMI := (yX10_worth, cX10_worth, 6, (some .int), 1, 0, 0, 10, false)
set_option maxRecDepth 20000 in
theorem zm_X10_worth : zMok mX10_worth 4 := ⟨List.mem_append_right _ (List.mem_append_right _ (List.mem_append_right _ (List.mem_append_left _ (List.mem_of_getElem? (i := 7) rfl)))), List.mem_of_getElem? (i := 56) (by decide +kernel), ⟨by decide, by decide⟩, by decide +kernel⟩
theorem zi_X10_worth : Cond.instanceMethod (zy mX10_worth) ∈ lw_tbl := List.mem_of_getElem? (i := 540) (by decide +kernel)
theorem zse_X10_worth : Cond.selects (zRn (zcN mX10_worth)) (zy mX10_worth) (zy mX10_worth) ∈ lw_tbl := List.mem_of_getElem? (i := 541) (by decide +kernel)
def mX10_law : zMI := (yX10_law, cX10_law, 4, (some .int), 3, 0, 0, 10, false)
set_option maxRecDepth 20000 in
theorem zm_X10_law : zMok mX10_law 3 := ⟨List.mem_append_right _ (List.mem_append_right _ (List.mem_append_right _ (List.mem_append_left _ (List.mem_of_getElem? (i := 19) rfl)))), List.mem_of_getElem? (i := 56) (by decide +kernel), ⟨by decide, by decide⟩, by decide +kernel⟩
theorem zi_X10_law : Cond.instanceMethod (zy mX10_law) ∈ lw_tbl := List.mem_of_getElem? (i := 552) (by decide +kernel)
theorem zse_X10_law : Cond.selects (zRn (zcN mX10_law)) (zy mX10_law) (zy mX10_law) ∈ lw_tbl := List.mem_of_getElem? (i := 553) (by decide +kernel)
def mX10_fire : zMI := (yX10_fire, cX10_fire, 5, (some .int), 5, 4, 35, 10, false)
set_option maxRecDepth 20000 in
theorem zm_X10_fire : zMok mX10_fire 2 := ⟨List.mem_append_right _ (List.mem_append_right _ (List.mem_append_right _ (List.mem_append_left _ (List.mem_of_getElem? (i := 37) rfl)))), List.mem_of_getElem? (i := 56) (by decide +kernel), ⟨by decide, by decide⟩, by decide +kernel⟩
theorem zi_X10_fire : Cond.instanceMethod (zy mX10_fire) ∈ lw_tbl := List.mem_of_getElem? (i := 570) (by decide +kernel)
theorem zse_X10_fire : Cond.selects (zRn (zcN mX10_fire)) (zy mX10_fire) (zy mX10_fire) ∈ lw_tbl := List.mem_of_getElem? (i := 571) (by decide +kernel)
def mX10_judge : zMI := (yX10_judge, cX10_judge, 4, (some .int), 6, 1, 6, 10, false)
set_option maxRecDepth 20000 in
theorem zm_X10_judge : zMok mX10_judge 2 := ⟨List.mem_append_right _ (List.mem_append_right _ (List.mem_append_right _ (List.mem_append_right _ (List.mem_append_left _ (List.mem_of_getElem? (i := 15) rfl))))), List.mem_of_getElem? (i := 56) (by decide +kernel), ⟨by decide, by decide⟩, by decide +kernel⟩
theorem zi_X10_judge : Cond.instanceMethod (zy mX10_judge) ∈ lw_tbl := List.mem_of_getElem? (i := 788) (by decide +kernel)
theorem zse_X10_judge : Cond.selects (zRn (zcN mX10_judge)) (zy mX10_judge) (zy mX10_judge) ∈ lw_tbl := List.mem_of_getElem? (i := 789) (by decide +kernel)
def mX10_say : zMI := (yX10_say, cX10_say, 6, (some .boolean), 1, 0, 0, 10, false)
set_option maxRecDepth 20000 in
theorem zm_X10_say : zMok mX10_say 4 := ⟨List.mem_append_right _ (List.mem_append_right _ (List.mem_append_right _ (List.mem_append_left _ (List.mem_of_getElem? (i := 104) rfl)))), List.mem_of_getElem? (i := 56) (by decide +kernel), ⟨by decide, by decide⟩, by decide +kernel⟩
theorem zi_X10_say : Cond.instanceMethod (zy mX10_say) ∈ lw_tbl := List.mem_of_getElem? (i := 637) (by decide +kernel)
theorem zse_X10_say : Cond.selects (zRn (zcN mX10_say)) (zy mX10_say) (zy mX10_say) ∈ lw_tbl := List.mem_of_getElem? (i := 638) (by decide +kernel)
def mX10_close : zMI := (yX10_close, cX10_close, 3, (some .boolean), 1, 0, 0, 10, false)
set_option maxRecDepth 20000 in
theorem zm_X10_close : zMok mX10_close 1 := ⟨List.mem_append_right _ (List.mem_append_right _ (List.mem_append_right _ (List.mem_append_left _ (List.mem_of_getElem? (i := 123) rfl)))), List.mem_of_getElem? (i := 56) (by decide +kernel), ⟨by decide, by decide⟩, by decide +kernel⟩
theorem zi_X10_close : Cond.instanceMethod (zy mX10_close) ∈ lw_tbl := List.mem_of_getElem? (i := 656) (by decide +kernel)
theorem zse_X10_close : Cond.selects (zRn (zcN mX10_close)) (zy mX10_close) (zy mX10_close) ∈ lw_tbl := List.mem_of_getElem? (i := 657) (by decide +kernel)
def mX10_look : zMI := (yX10_look, cX10_look, 4, (some .int), 6, 1, 6, 10, false)
set_option maxRecDepth 20000 in
theorem zm_X10_look : zMok mX10_look 2 := ⟨List.mem_append_right _ (List.mem_append_right _ (List.mem_append_right _ (List.mem_append_right _ (List.mem_append_left _ (List.mem_of_getElem? (i := 105) rfl))))), List.mem_of_getElem? (i := 56) (by decide +kernel), ⟨by decide, by decide⟩, by decide +kernel⟩
theorem zi_X10_look : Cond.instanceMethod (zy mX10_look) ∈ lw_tbl := List.mem_of_getElem? (i := 878) (by decide +kernel)
theorem zse_X10_look : Cond.selects (zRn (zcN mX10_look)) (zy mX10_look) (zy mX10_look) ∈ lw_tbl := List.mem_of_getElem? (i := 879) (by decide +kernel)
def mX10_award : zMI := (yX10_award, cX10_award, 5, (some .long), 6, 0, 0, 10, false)
set_option maxRecDepth 20000 in
theorem zm_X10_award : zMok mX10_award 3 := ⟨List.mem_append_right _ (List.mem_append_right _ (List.mem_append_right _ (List.mem_append_left _ (List.mem_of_getElem? (i := 127) rfl)))), List.mem_of_getElem? (i := 56) (by decide +kernel), ⟨by decide, by decide⟩, by decide +kernel⟩
theorem zi_X10_award : Cond.instanceMethod (zy mX10_award) ∈ lw_tbl := List.mem_of_getElem? (i := 660) (by decide +kernel)
theorem zse_X10_award : Cond.selects (zRn (zcN mX10_award)) (zy mX10_award) (zy mX10_award) ∈ lw_tbl := List.mem_of_getElem? (i := 661) (by decide +kernel)
def mX10_call : zMI := (yX10_call, cX10_call, 5, (some .long), 6, 0, 0, 10, false)
set_option maxRecDepth 20000 in
theorem zm_X10_call : zMok mX10_call 3 := ⟨List.mem_append_right _ (List.mem_append_right _ (List.mem_append_right _ (List.mem_append_left _ (List.mem_of_getElem? (i := 180) rfl)))), List.mem_of_getElem? (i := 56) (by decide +kernel), ⟨by decide, by decide⟩, by decide +kernel⟩
theorem zi_X10_call : Cond.instanceMethod (zy mX10_call) ∈ lw_tbl := List.mem_of_getElem? (i := 713) (by decide +kernel)
theorem zse_X10_call : Cond.selects (zRn (zcN mX10_call)) (zy mX10_call) (zy mX10_call) ∈ lw_tbl := List.mem_of_getElem? (i := 714) (by decide +kernel)
def mX10_book : zMI := (yX10_book, cX10_book, 3, (some .int), 6, 0, 0, 10, false)
set_option maxRecDepth 20000 in
theorem zm_X10_book : zMok mX10_book 0 := ⟨List.mem_append_right _ (List.mem_append_right _ (List.mem_append_right _ (List.mem_append_left _ (List.mem_of_getElem? (i := 209) rfl)))), List.mem_of_getElem? (i := 56) (by decide +kernel), ⟨by decide, by decide⟩, by decide +kernel⟩
theorem zi_X10_book : Cond.instanceMethod (zy mX10_book) ∈ lw_tbl := List.mem_of_getElem? (i := 742) (by decide +kernel)
theorem zse_X10_book : Cond.selects (zRn (zcN mX10_book)) (zy mX10_book) (zy mX10_book) ∈ lw_tbl := List.mem_of_getElem? (i := 743) (by decide +kernel)
def mX10_booked : zMI := (yX10_booked, cX10_booked, 3, (some .long), 1, 0, 0, 10, false)
set_option maxRecDepth 20000 in
theorem zm_X10_booked : zMok mX10_booked 2 := ⟨List.mem_append_right _ (List.mem_append_right _ (List.mem_append_right _ (List.mem_append_left _ (List.mem_of_getElem? (i := 237) rfl)))), List.mem_of_getElem? (i := 56) (by decide +kernel), ⟨by decide, by decide⟩, by decide +kernel⟩
theorem zi_X10_booked : Cond.instanceMethod (zy mX10_booked) ∈ lw_tbl := List.mem_of_getElem? (i := 770) (by decide +kernel)
theorem zse_X10_booked : Cond.selects (zRn (zcN mX10_booked)) (zy mX10_booked) (zy mX10_booked) ∈ lw_tbl := List.mem_of_getElem? (i := 771) (by decide +kernel)
def mX10_account : zMI := (yX10_account, cX10_account, 3, (some .long), 6, 1, 6, 10, false)
set_option maxRecDepth 20000 in
theorem zm_X10_account : zMok mX10_account 1 := ⟨List.mem_append_right _ (List.mem_append_right _ (List.mem_append_right _ (List.mem_append_right _ (List.mem_append_left _ (List.mem_of_getElem? (i := 113) rfl))))), List.mem_of_getElem? (i := 56) (by decide +kernel), ⟨by decide, by decide⟩, by decide +kernel⟩
theorem zi_X10_account : Cond.instanceMethod (zy mX10_account) ∈ lw_tbl := List.mem_of_getElem? (i := 886) (by decide +kernel)
theorem zse_X10_account : Cond.selects (zRn (zcN mX10_account)) (zy mX10_account) (zy mX10_account) ∈ lw_tbl := List.mem_of_getElem? (i := 887) (by decide +kernel)
def mX10_count : zMI := (yX10_count, cX10_count, 2, (some .int), 0, 0, 0, 10, false)
set_option maxRecDepth 20000 in
theorem zm_X10_count : zMok mX10_count 1 := ⟨List.mem_append_right _ (List.mem_append_right _ (List.mem_append_right _ (List.mem_append_right _ (List.mem_append_left _ (List.mem_of_getElem? (i := 6) rfl))))), List.mem_of_getElem? (i := 56) (by decide +kernel), ⟨by decide, by decide⟩, by decide +kernel⟩
theorem zi_X10_count : Cond.instanceMethod (zy mX10_count) ∈ lw_tbl := List.mem_of_getElem? (i := 779) (by decide +kernel)
theorem zse_X10_count : Cond.selects (zRn (zcN mX10_count)) (zy mX10_count) (zy mX10_count) ∈ lw_tbl := List.mem_of_getElem? (i := 780) (by decide +kernel)
def mX10_isDay : zMI := (yX10_isDay, cX10_isDay, 1, (some .boolean), 0, 0, 0, 10, false)
set_option maxRecDepth 20000 in
theorem zm_X10_isDay : zMok mX10_isDay 1 := ⟨List.mem_append_right _ (List.mem_append_left _ (List.mem_of_getElem? (i := 214) rfl)), List.mem_of_getElem? (i := 56) (by decide +kernel), ⟨by decide, by decide⟩, by decide +kernel⟩
theorem zs_X10_isDay : Cond.static (zy mX10_isDay) ∈ lw_tbl := List.mem_of_getElem? (i := 268) (by decide +kernel)
def mX10_isClass : zMI := (yX10_isClass, cX10_isClass, 1, (some .boolean), 0, 0, 0, 10, false)
set_option maxRecDepth 20000 in
theorem zm_X10_isClass : zMok mX10_isClass 1 := ⟨List.mem_append_right _ (List.mem_append_right _ (List.mem_append_right _ (List.mem_append_left _ (List.mem_of_getElem? (i := 115) rfl)))), List.mem_of_getElem? (i := 56) (by decide +kernel), ⟨by decide, by decide⟩, by decide +kernel⟩
theorem zs_X10_isClass : Cond.static (zy mX10_isClass) ∈ lw_tbl := List.mem_of_getElem? (i := 649) (by decide +kernel)
def mX10_isToldKind : zMI := (yX10_isToldKind, cX10_isToldKind, 1, (some .boolean), 0, 0, 0, 10, false)
set_option maxRecDepth 20000 in
theorem zm_X10_isToldKind : zMok mX10_isToldKind 1 := ⟨List.mem_append_right _ (List.mem_append_right _ (List.mem_append_left _ (List.mem_of_getElem? (i := 217) rfl))), List.mem_of_getElem? (i := 56) (by decide +kernel), ⟨by decide, by decide⟩, by decide +kernel⟩
theorem zs_X10_isToldKind : Cond.static (zy mX10_isToldKind) ∈ lw_tbl := List.mem_of_getElem? (i := 511) (by decide +kernel)
def mX10_isKnowable : zMI := (yX10_isKnowable, cX10_isKnowable, 2, (some .boolean), 0, 0, 0, 10, false)
set_option maxRecDepth 20000 in
theorem zm_X10_isKnowable : zMok mX10_isKnowable 1 := ⟨List.mem_append_right _ (List.mem_append_right _ (List.mem_append_right _ (List.mem_append_left _ (List.mem_of_getElem? (i := 11) rfl)))), List.mem_of_getElem? (i := 56) (by decide +kernel), ⟨by decide, by decide⟩, by decide +kernel⟩
theorem zi_X10_isKnowable : Cond.instanceMethod (zy mX10_isKnowable) ∈ lw_tbl := List.mem_of_getElem? (i := 545) (by decide +kernel)
theorem zse_X10_isKnowable : Cond.selects (zRn (zcN mX10_isKnowable)) (zy mX10_isKnowable) (zy mX10_isKnowable) ∈ lw_tbl := List.mem_of_getElem? (i := 14) (by decide +kernel)
def mX10_isKnowableOf : zMI := (yX10_isKnowableOf, cX10_isKnowableOf, 3, (some .boolean), 0, 0, 0, 10, false)
set_option maxRecDepth 20000 in
theorem zm_X10_isKnowableOf : zMok mX10_isKnowableOf 2 := ⟨List.mem_append_right _ (List.mem_append_right _ (List.mem_append_right _ (List.mem_append_left _ (List.mem_of_getElem? (i := 131) rfl)))), List.mem_of_getElem? (i := 56) (by decide +kernel), ⟨by decide, by decide⟩, by decide +kernel⟩
theorem zi_X10_isKnowableOf : Cond.instanceMethod (zy mX10_isKnowableOf) ∈ lw_tbl := List.mem_of_getElem? (i := 665) (by decide +kernel)
theorem zse_X10_isKnowableOf : Cond.selects (zRn (zcN mX10_isKnowableOf)) (zy mX10_isKnowableOf) (zy mX10_isKnowableOf) ∈ lw_tbl := List.mem_of_getElem? (i := 21) (by decide +kernel)
def mX10_farmAt : zMI := (yX10_farmAt, cX10_farmAt, 2, (some (.object "FireMutual$Farm")), 0, 0, 0, 10, false)
set_option maxRecDepth 20000 in
theorem zm_X10_farmAt : zMok mX10_farmAt 1 := ⟨List.mem_append_right _ (List.mem_append_right _ (List.mem_append_left _ (List.mem_of_getElem? (i := 214) rfl))), List.mem_of_getElem? (i := 56) (by decide +kernel), ⟨by decide, by decide⟩, by decide +kernel⟩
theorem zi_X10_farmAt : Cond.instanceMethod (zy mX10_farmAt) ∈ lw_tbl := List.mem_of_getElem? (i := 508) (by decide +kernel)
theorem zse_X10_farmAt : Cond.selects (zRn (zcN mX10_farmAt)) (zy mX10_farmAt) (zy mX10_farmAt) ∈ lw_tbl := List.mem_of_getElem? (i := 13) (by decide +kernel)
def mX10_fireAt : zMI := (yX10_fireAt, cX10_fireAt, 2, (some (.object "FireMutual$Fire")), 0, 0, 0, 10, false)
set_option maxRecDepth 20000 in
theorem zm_X10_fireAt : zMok mX10_fireAt 1 := ⟨List.mem_append_right _ (List.mem_append_right _ (List.mem_append_right _ (List.mem_append_left _ (List.mem_of_getElem? (i := 108) rfl)))), List.mem_of_getElem? (i := 56) (by decide +kernel), ⟨by decide, by decide⟩, by decide +kernel⟩
theorem zi_X10_fireAt : Cond.instanceMethod (zy mX10_fireAt) ∈ lw_tbl := List.mem_of_getElem? (i := 642) (by decide +kernel)
theorem zse_X10_fireAt : Cond.selects (zRn (zcN mX10_fireAt)) (zy mX10_fireAt) (zy mX10_fireAt) ∈ lw_tbl := List.mem_of_getElem? (i := 20) (by decide +kernel)
def mX10_drawJudges : zMI := (yX10_drawJudges, cX10_drawJudges, 7, none, 4, 0, 0, 10, false)
set_option maxRecDepth 20000 in
theorem zm_X10_drawJudges : zMok mX10_drawJudges 3 := ⟨List.mem_append_right _ (List.mem_append_right _ (List.mem_append_right _ (List.mem_append_left _ (List.mem_of_getElem? (i := 75) rfl)))), List.mem_of_getElem? (i := 56) (by decide +kernel), ⟨by decide, by decide⟩, by decide +kernel⟩
theorem zi_X10_drawJudges : Cond.instanceMethod (zy mX10_drawJudges) ∈ lw_tbl := List.mem_of_getElem? (i := 609) (by decide +kernel)
theorem zse_X10_drawJudges : Cond.selects (zRn (zcN mX10_drawJudges)) (zy mX10_drawJudges) (zy mX10_drawJudges) ∈ lw_tbl := List.mem_of_getElem? (i := 16) (by decide +kernel)
def mX10_eligibleCount : zMI := (yX10_eligibleCount, cX10_eligibleCount, 5, (some .int), 3, 0, 0, 10, false)
set_option maxRecDepth 20000 in
theorem zm_X10_eligibleCount : zMok mX10_eligibleCount 2 := ⟨List.mem_append_right _ (List.mem_append_right _ (List.mem_append_right _ (List.mem_append_left _ (List.mem_of_getElem? (i := 79) rfl)))), List.mem_of_getElem? (i := 56) (by decide +kernel), ⟨by decide, by decide⟩, by decide +kernel⟩
theorem zi_X10_eligibleCount : Cond.instanceMethod (zy mX10_eligibleCount) ∈ lw_tbl := List.mem_of_getElem? (i := 613) (by decide +kernel)
theorem zse_X10_eligibleCount : Cond.selects (zRn (zcN mX10_eligibleCount)) (zy mX10_eligibleCount) (zy mX10_eligibleCount) ∈ lw_tbl := List.mem_of_getElem? (i := 17) (by decide +kernel)
def mX10_eligibleAt : zMI := (yX10_eligibleAt, cX10_eligibleAt, 6, (some .int), 3, 0, 0, 10, false)
set_option maxRecDepth 20000 in
theorem zm_X10_eligibleAt : zMok mX10_eligibleAt 3 := ⟨List.mem_append_right _ (List.mem_append_right _ (List.mem_append_right _ (List.mem_append_left _ (List.mem_of_getElem? (i := 96) rfl)))), List.mem_of_getElem? (i := 56) (by decide +kernel), ⟨by decide, by decide⟩, by decide +kernel⟩
theorem zi_X10_eligibleAt : Cond.instanceMethod (zy mX10_eligibleAt) ∈ lw_tbl := List.mem_of_getElem? (i := 630) (by decide +kernel)
theorem zse_X10_eligibleAt : Cond.selects (zRn (zcN mX10_eligibleAt)) (zy mX10_eligibleAt) (zy mX10_eligibleAt) ∈ lw_tbl := List.mem_of_getElem? (i := 19) (by decide +kernel)
def mX10_isEligible : zMI := (yX10_isEligible, cX10_isEligible, 5, (some .boolean), 2, 0, 0, 10, false)
set_option maxRecDepth 20000 in
theorem zm_X10_isEligible : zMok mX10_isEligible 3 := ⟨List.mem_append_right _ (List.mem_append_right _ (List.mem_append_right _ (List.mem_append_left _ (List.mem_of_getElem? (i := 83) rfl)))), List.mem_of_getElem? (i := 56) (by decide +kernel), ⟨by decide, by decide⟩, by decide +kernel⟩
theorem zi_X10_isEligible : Cond.instanceMethod (zy mX10_isEligible) ∈ lw_tbl := List.mem_of_getElem? (i := 617) (by decide +kernel)
theorem zse_X10_isEligible : Cond.selects (zRn (zcN mX10_isEligible)) (zy mX10_isEligible) (zy mX10_isEligible) ∈ lw_tbl := List.mem_of_getElem? (i := 18) (by decide +kernel)
def mX10_reckonParts : zMI := (yX10_reckonParts, cX10_reckonParts, 5, none, 5, 0, 0, 10, false)
set_option maxRecDepth 20000 in
theorem zm_X10_reckonParts : zMok mX10_reckonParts 2 := ⟨List.mem_append_right _ (List.mem_append_right _ (List.mem_append_right _ (List.mem_append_left _ (List.mem_of_getElem? (i := 136) rfl)))), List.mem_of_getElem? (i := 56) (by decide +kernel), ⟨by decide, by decide⟩, by decide +kernel⟩
theorem zi_X10_reckonParts : Cond.instanceMethod (zy mX10_reckonParts) ∈ lw_tbl := List.mem_of_getElem? (i := 670) (by decide +kernel)
theorem zse_X10_reckonParts : Cond.selects (zRn (zcN mX10_reckonParts)) (zy mX10_reckonParts) (zy mX10_reckonParts) ∈ lw_tbl := List.mem_of_getElem? (i := 22) (by decide +kernel)
def mX10_reckonAward : zMI := (yX10_reckonAward, cX10_reckonAward, 7, (some .long), 4, 0, 0, 10, false)
set_option maxRecDepth 20000 in
theorem zm_X10_reckonAward : zMok mX10_reckonAward 2 := ⟨List.mem_append_right _ (List.mem_append_right _ (List.mem_append_right _ (List.mem_append_left _ (List.mem_of_getElem? (i := 140) rfl)))), List.mem_of_getElem? (i := 56) (by decide +kernel), ⟨by decide, by decide⟩, by decide +kernel⟩
theorem zi_X10_reckonAward : Cond.instanceMethod (zy mX10_reckonAward) ∈ lw_tbl := List.mem_of_getElem? (i := 674) (by decide +kernel)
theorem zse_X10_reckonAward : Cond.selects (zRn (zcN mX10_reckonAward)) (zy mX10_reckonAward) (zy mX10_reckonAward) ∈ lw_tbl := List.mem_of_getElem? (i := 23) (by decide +kernel)
def mX10_damage : zMI := (yX10_damage, cX10_damage, 13, (some .long), 3, 0, 0, 10, false)
set_option maxRecDepth 20000 in
theorem zm_X10_damage : zMok mX10_damage 4 := ⟨List.mem_append_right _ (List.mem_append_right _ (List.mem_append_right _ (List.mem_append_left _ (List.mem_of_getElem? (i := 144) rfl)))), List.mem_of_getElem? (i := 56) (by decide +kernel), ⟨by decide, by decide⟩, by decide +kernel⟩
theorem zi_X10_damage : Cond.instanceMethod (zy mX10_damage) ∈ lw_tbl := List.mem_of_getElem? (i := 678) (by decide +kernel)
theorem zse_X10_damage : Cond.selects (zRn (zcN mX10_damage)) (zy mX10_damage) (zy mX10_damage) ∈ lw_tbl := List.mem_of_getElem? (i := 24) (by decide +kernel)
def mX10_withoutHundredths : zMI := (yX10_withoutHundredths, cX10_withoutHundredths, 4, (some .long), 0, 0, 0, 10, false)
set_option maxRecDepth 20000 in
theorem zm_X10_withoutHundredths : zMok mX10_withoutHundredths 2 := ⟨List.mem_append_right _ (List.mem_append_right _ (List.mem_append_right _ (List.mem_append_left _ (List.mem_of_getElem? (i := 160) rfl)))), List.mem_of_getElem? (i := 56) (by decide +kernel), ⟨by decide, by decide⟩, by decide +kernel⟩
theorem zs_X10_withoutHundredths : Cond.static (zy mX10_withoutHundredths) ∈ lw_tbl := List.mem_of_getElem? (i := 694) (by decide +kernel)
def mX10_reckonCalls : zMI := (yX10_reckonCalls, cX10_reckonCalls, 8, none, 3, 0, 0, 10, false)
set_option maxRecDepth 20000 in
theorem zm_X10_reckonCalls : zMok mX10_reckonCalls 2 := ⟨List.mem_append_right _ (List.mem_append_right _ (List.mem_append_right _ (List.mem_append_left _ (List.mem_of_getElem? (i := 184) rfl)))), List.mem_of_getElem? (i := 56) (by decide +kernel), ⟨by decide, by decide⟩, by decide +kernel⟩
theorem zi_X10_reckonCalls : Cond.instanceMethod (zy mX10_reckonCalls) ∈ lw_tbl := List.mem_of_getElem? (i := 718) (by decide +kernel)
theorem zse_X10_reckonCalls : Cond.selects (zRn (zcN mX10_reckonCalls)) (zy mX10_reckonCalls) (zy mX10_reckonCalls) ∈ lw_tbl := List.mem_of_getElem? (i := 26) (by decide +kernel)
def mX10_bookFire : zMI := (yX10_bookFire, cX10_bookFire, 6, none, 2, 0, 0, 10, false)
set_option maxRecDepth 20000 in
theorem zm_X10_bookFire : zMok mX10_bookFire 1 := ⟨List.mem_append_right _ (List.mem_append_right _ (List.mem_append_right _ (List.mem_append_left _ (List.mem_of_getElem? (i := 217) rfl)))), List.mem_of_getElem? (i := 56) (by decide +kernel), ⟨by decide, by decide⟩, by decide +kernel⟩
theorem zi_X10_bookFire : Cond.instanceMethod (zy mX10_bookFire) ∈ lw_tbl := List.mem_of_getElem? (i := 751) (by decide +kernel)
theorem zse_X10_bookFire : Cond.selects (zRn (zcN mX10_bookFire)) (zy mX10_bookFire) (zy mX10_bookFire) ∈ lw_tbl := List.mem_of_getElem? (i := 28) (by decide +kernel)
def mX10_bookFarm : zMI := (yX10_bookFarm, cX10_bookFarm, 8, none, 1, 0, 0, 10, false)
set_option maxRecDepth 20000 in
theorem zm_X10_bookFarm : zMok mX10_bookFarm 4 := ⟨List.mem_append_right _ (List.mem_append_right _ (List.mem_append_right _ (List.mem_append_left _ (List.mem_of_getElem? (i := 221) rfl)))), List.mem_of_getElem? (i := 56) (by decide +kernel), ⟨by decide, by decide⟩, by decide +kernel⟩
theorem zi_X10_bookFarm : Cond.instanceMethod (zy mX10_bookFarm) ∈ lw_tbl := List.mem_of_getElem? (i := 755) (by decide +kernel)
theorem zse_X10_bookFarm : Cond.selects (zRn (zcN mX10_bookFarm)) (zy mX10_bookFarm) (zy mX10_bookFarm) ∈ lw_tbl := List.mem_of_getElem? (i := 29) (by decide +kernel)
def mX11_init : zMI := (yX11_init, cX11_init, 1, none, 1, 32, 3928, 11, true)
set_option maxRecDepth 20000 in
theorem zm_X11_init : zMok mX11_init 0 := ⟨List.mem_append_right _ (List.mem_append_right _ (List.mem_append_right _ (List.mem_append_right _ (List.mem_append_left _ (List.mem_of_getElem? (i := 119) rfl))))), List.mem_of_getElem? (i := 63) (by decide +kernel), ⟨by decide, by decide⟩, by decide +kernel⟩
theorem zi_X11_init : Cond.instanceMethod (zy mX11_init) ∈ lw_tbl := List.mem_of_getElem? (i := 893) (by decide +kernel)
def mX11_thrown : zMI := (yX11_thrown, cX11_thrown, 1, (some .int), 0, 0, 0, 11, false)
set_option maxRecDepth 20000 in
theorem zm_X11_thrown : zMok mX11_thrown 0 := ⟨List.mem_append_right _ (List.mem_append_right _ (List.mem_append_right _ (List.mem_append_right _ (List.mem_append_right _ (List.mem_append_left _ (List.mem_of_getElem? (i := 42) rfl)))))), List.mem_of_getElem? (i := 63) (by decide +kernel), ⟨by decide, by decide⟩, by decide +kernel⟩
theorem zi_X11_thrown : Cond.instanceMethod (zy mX11_thrown) ∈ lw_tbl := List.mem_of_getElem? (i := 1055) (by decide +kernel)
theorem zse_X11_thrown : Cond.selects (zRn (zcN mX11_thrown)) (zy mX11_thrown) (zy mX11_thrown) ∈ lw_tbl := List.mem_of_getElem? (i := 1056) (by decide +kernel)
def mX11_feed : zMI := (yX11_feed, cX11_feed, 8, (some .int), 0, 0, 0, 11, false)
set_option maxRecDepth 20000 in
theorem zm_X11_feed : zMok mX11_feed 5 := ⟨List.mem_append_right _ (List.mem_append_right _ (List.mem_append_right _ (List.mem_append_right _ (List.mem_append_right _ (List.mem_append_left _ (List.mem_of_getElem? (i := 46) rfl)))))), List.mem_of_getElem? (i := 63) (by decide +kernel), ⟨by decide, by decide⟩, by decide +kernel⟩
theorem zi_X11_feed : Cond.instanceMethod (zy mX11_feed) ∈ lw_tbl := List.mem_of_getElem? (i := 1059) (by decide +kernel)
theorem zse_X11_feed : Cond.selects (zRn (zcN mX11_feed)) (zy mX11_feed) (zy mX11_feed) ∈ lw_tbl := List.mem_of_getElem? (i := 1060) (by decide +kernel)
def mX11_wrong : zMI := (yX11_wrong, cX11_wrong, 3, (some .boolean), 0, 0, 0, 11, false)
set_option maxRecDepth 20000 in
theorem zm_X11_wrong : zMok mX11_wrong 2 := ⟨List.mem_append_right _ (List.mem_append_right _ (List.mem_append_right _ (List.mem_append_right _ (List.mem_append_right _ (List.mem_append_left _ (List.mem_of_getElem? (i := 77) rfl)))))), List.mem_of_getElem? (i := 63) (by decide +kernel), ⟨by decide, by decide⟩, by decide +kernel⟩
theorem zi_X11_wrong : Cond.instanceMethod (zy mX11_wrong) ∈ lw_tbl := List.mem_of_getElem? (i := 1091) (by decide +kernel)
theorem zse_X11_wrong : Cond.selects (zRn (zcN mX11_wrong)) (zy mX11_wrong) (zy mX11_wrong) ∈ lw_tbl := List.mem_of_getElem? (i := 36) (by decide +kernel)
def mX11_wordAt : zMI := (yX11_wordAt, cX11_wordAt, 8, (some .int), 0, 0, 0, 11, false)
set_option maxRecDepth 20000 in
theorem zm_X11_wordAt : zMok mX11_wordAt 2 := ⟨List.mem_append_right _ (List.mem_append_right _ (List.mem_append_right _ (List.mem_append_right _ (List.mem_append_right _ (List.mem_append_left _ (List.mem_of_getElem? (i := 69) rfl)))))), List.mem_of_getElem? (i := 63) (by decide +kernel), ⟨by decide, by decide⟩, by decide +kernel⟩
theorem zi_X11_wordAt : Cond.instanceMethod (zy mX11_wordAt) ∈ lw_tbl := List.mem_of_getElem? (i := 1083) (by decide +kernel)
theorem zse_X11_wordAt : Cond.selects (zRn (zcN mX11_wordAt)) (zy mX11_wordAt) (zy mX11_wordAt) ∈ lw_tbl := List.mem_of_getElem? (i := 34) (by decide +kernel)
def mX11_isSmall : zMI := (yX11_isSmall, cX11_isSmall, 2, (some .boolean), 0, 0, 0, 11, false)
set_option maxRecDepth 20000 in
theorem zm_X11_isSmall : zMok mX11_isSmall 1 := ⟨List.mem_append_right _ (List.mem_append_right _ (List.mem_append_right _ (List.mem_append_right _ (List.mem_append_right _ (List.mem_append_left _ (List.mem_of_getElem? (i := 65) rfl)))))), List.mem_of_getElem? (i := 63) (by decide +kernel), ⟨by decide, by decide⟩, by decide +kernel⟩
theorem zi_X11_isSmall : Cond.instanceMethod (zy mX11_isSmall) ∈ lw_tbl := List.mem_of_getElem? (i := 1079) (by decide +kernel)
theorem zse_X11_isSmall : Cond.selects (zRn (zcN mX11_isSmall)) (zy mX11_isSmall) (zy mX11_isSmall) ∈ lw_tbl := List.mem_of_getElem? (i := 33) (by decide +kernel)
def mX11_isDigit : zMI := (yX11_isDigit, cX11_isDigit, 2, (some .boolean), 0, 0, 0, 11, false)
set_option maxRecDepth 20000 in
theorem zm_X11_isDigit : zMok mX11_isDigit 1 := ⟨List.mem_append_right _ (List.mem_append_right _ (List.mem_append_right _ (List.mem_append_right _ (List.mem_append_right _ (List.mem_append_left _ (List.mem_of_getElem? (i := 73) rfl)))))), List.mem_of_getElem? (i := 63) (by decide +kernel), ⟨by decide, by decide⟩, by decide +kernel⟩
theorem zi_X11_isDigit : Cond.instanceMethod (zy mX11_isDigit) ∈ lw_tbl := List.mem_of_getElem? (i := 1087) (by decide +kernel)
theorem zse_X11_isDigit : Cond.selects (zRn (zcN mX11_isDigit)) (zy mX11_isDigit) (zy mX11_isDigit) ∈ lw_tbl := List.mem_of_getElem? (i := 35) (by decide +kernel)
def mX11_take : zMI := (yX11_take, cX11_take, 1, none, 1, 0, 0, 11, false)
set_option maxRecDepth 20000 in
theorem zm_X11_take : zMok mX11_take 0 := ⟨List.mem_append_right _ (List.mem_append_right _ (List.mem_append_right _ (List.mem_append_right _ (List.mem_append_right _ (List.mem_append_left _ (List.mem_of_getElem? (i := 61) rfl)))))), List.mem_of_getElem? (i := 63) (by decide +kernel), ⟨by decide, by decide⟩, by decide +kernel⟩
theorem zi_X11_take : Cond.instanceMethod (zy mX11_take) ∈ lw_tbl := List.mem_of_getElem? (i := 1075) (by decide +kernel)
theorem zse_X11_take : Cond.selects (zRn (zcN mX11_take)) (zy mX11_take) (zy mX11_take) ∈ lw_tbl := List.mem_of_getElem? (i := 32) (by decide +kernel)
def mX11_is : zMI := (yX11_is, cX11_is, 3, (some .boolean), 0, 0, 0, 11, false)
set_option maxRecDepth 20000 in
theorem zm_X11_is : zMok mX11_is 2 := ⟨List.mem_append_right _ (List.mem_append_right _ (List.mem_append_right _ (List.mem_append_right _ (List.mem_append_right _ (List.mem_append_left _ (List.mem_of_getElem? (i := 97) rfl)))))), List.mem_of_getElem? (i := 63) (by decide +kernel), ⟨by decide, by decide⟩, by decide +kernel⟩
theorem zi_X11_is : Cond.instanceMethod (zy mX11_is) ∈ lw_tbl := List.mem_of_getElem? (i := 1111) (by decide +kernel)
theorem zse_X11_is : Cond.selects (zRn (zcN mX11_is)) (zy mX11_is) (zy mX11_is) ∈ lw_tbl := List.mem_of_getElem? (i := 41) (by decide +kernel)
def mX11_number : zMI := (yX11_number, cX11_number, 2, (some .boolean), 2, 0, 0, 11, false)
set_option maxRecDepth 20000 in
theorem zm_X11_number : zMok mX11_number 1 := ⟨List.mem_append_right _ (List.mem_append_right _ (List.mem_append_right _ (List.mem_append_right _ (List.mem_append_right _ (List.mem_append_left _ (List.mem_of_getElem? (i := 89) rfl)))))), List.mem_of_getElem? (i := 63) (by decide +kernel), ⟨by decide, by decide⟩, by decide +kernel⟩
theorem zi_X11_number : Cond.instanceMethod (zy mX11_number) ∈ lw_tbl := List.mem_of_getElem? (i := 1103) (by decide +kernel)
theorem zse_X11_number : Cond.selects (zRn (zcN mX11_number)) (zy mX11_number) (zy mX11_number) ∈ lw_tbl := List.mem_of_getElem? (i := 39) (by decide +kernel)
def mX11_classWord : zMI := (yX11_classWord, cX11_classWord, 1, (some .boolean), 2, 0, 0, 11, false)
set_option maxRecDepth 20000 in
theorem zm_X11_classWord : zMok mX11_classWord 0 := ⟨List.mem_append_right _ (List.mem_append_right _ (List.mem_append_right _ (List.mem_append_right _ (List.mem_append_right _ (List.mem_append_left _ (List.mem_of_getElem? (i := 85) rfl)))))), List.mem_of_getElem? (i := 63) (by decide +kernel), ⟨by decide, by decide⟩, by decide +kernel⟩
theorem zi_X11_classWord : Cond.instanceMethod (zy mX11_classWord) ∈ lw_tbl := List.mem_of_getElem? (i := 1099) (by decide +kernel)
theorem zse_X11_classWord : Cond.selects (zRn (zcN mX11_classWord)) (zy mX11_classWord) (zy mX11_classWord) ∈ lw_tbl := List.mem_of_getElem? (i := 38) (by decide +kernel)
def mX11_seasons : zMI := (yX11_seasons, cX11_seasons, 3, (some .boolean), 3, 0, 0, 11, false)
set_option maxRecDepth 20000 in
theorem zm_X11_seasons : zMok mX11_seasons 1 := ⟨List.mem_append_right _ (List.mem_append_right _ (List.mem_append_right _ (List.mem_append_right _ (List.mem_append_right _ (List.mem_append_left _ (List.mem_of_getElem? (i := 93) rfl)))))), List.mem_of_getElem? (i := 63) (by decide +kernel), ⟨by decide, by decide⟩, by decide +kernel⟩
theorem zi_X11_seasons : Cond.instanceMethod (zy mX11_seasons) ∈ lw_tbl := List.mem_of_getElem? (i := 1107) (by decide +kernel)
theorem zse_X11_seasons : Cond.selects (zRn (zcN mX11_seasons)) (zy mX11_seasons) (zy mX11_seasons) ∈ lw_tbl := List.mem_of_getElem? (i := 40) (by decide +kernel)
def mX11_line : zMI := (yX11_line, cX11_line, 5, (some .boolean), 4, 0, 0, 11, false)
set_option maxRecDepth 20000 in
theorem zm_X11_line : zMok mX11_line 1 := ⟨List.mem_append_right _ (List.mem_append_right _ (List.mem_append_right _ (List.mem_append_right _ (List.mem_append_right _ (List.mem_append_left _ (List.mem_of_getElem? (i := 81) rfl)))))), List.mem_of_getElem? (i := 63) (by decide +kernel), ⟨by decide, by decide⟩, by decide +kernel⟩
theorem zi_X11_line : Cond.instanceMethod (zy mX11_line) ∈ lw_tbl := List.mem_of_getElem? (i := 1095) (by decide +kernel)
theorem zse_X11_line : Cond.selects (zRn (zcN mX11_line)) (zy mX11_line) (zy mX11_line) ∈ lw_tbl := List.mem_of_getElem? (i := 37) (by decide +kernel)
def mX11_text : zMI := (yX11_text, cX11_text, 4, (some .boolean), 5, 0, 0, 11, false)
set_option maxRecDepth 20000 in
theorem zm_X11_text : zMok mX11_text 0 := ⟨List.mem_append_right _ (List.mem_append_right _ (List.mem_append_right _ (List.mem_append_right _ (List.mem_append_right _ (List.mem_append_left _ (List.mem_of_getElem? (i := 57) rfl)))))), List.mem_of_getElem? (i := 63) (by decide +kernel), ⟨by decide, by decide⟩, by decide +kernel⟩
theorem zi_X11_text : Cond.instanceMethod (zy mX11_text) ∈ lw_tbl := List.mem_of_getElem? (i := 1071) (by decide +kernel)
theorem zse_X11_text : Cond.selects (zRn (zcN mX11_text)) (zy mX11_text) (zy mX11_text) ∈ lw_tbl := List.mem_of_getElem? (i := 31) (by decide +kernel)
def mX11_isDay : zMI := (yX11_isDay, cX11_isDay, 1, (some .boolean), 0, 0, 0, 11, false)
set_option maxRecDepth 20000 in
theorem zm_X11_isDay : zMok mX11_isDay 1 := ⟨List.mem_append_right _ (List.mem_append_right _ (List.mem_append_right _ (List.mem_append_right _ (List.mem_append_right _ (List.mem_append_left _ (List.mem_of_getElem? (i := 53) rfl)))))), List.mem_of_getElem? (i := 63) (by decide +kernel), ⟨by decide, by decide⟩, by decide +kernel⟩
theorem zs_X11_isDay : Cond.static (zy mX11_isDay) ∈ lw_tbl := List.mem_of_getElem? (i := 1067) (by decide +kernel)
def mX11_vote : zMI := (yX11_vote, cX11_vote, 4, (some .int), 6, 0, 0, 11, false)
set_option maxRecDepth 20000 in
theorem zm_X11_vote : zMok mX11_vote 2 := ⟨List.mem_append_right _ (List.mem_append_right _ (List.mem_append_right _ (List.mem_append_right _ (List.mem_append_right _ (List.mem_append_left _ (List.mem_of_getElem? (i := 50) rfl)))))), List.mem_of_getElem? (i := 63) (by decide +kernel), ⟨by decide, by decide⟩, by decide +kernel⟩
theorem zi_X11_vote : Cond.instanceMethod (zy mX11_vote) ∈ lw_tbl := List.mem_of_getElem? (i := 1063) (by decide +kernel)
theorem zse_X11_vote : Cond.selects (zRn (zcN mX11_vote)) (zy mX11_vote) (zy mX11_vote) ∈ lw_tbl := List.mem_of_getElem? (i := 1064) (by decide +kernel)
def mX11_fault : zMI := (yX11_fault, cX11_fault, 2, (some .int), 0, 0, 0, 11, false)
set_option maxRecDepth 20000 in
theorem zm_X11_fault : zMok mX11_fault 1 := ⟨List.mem_append_right _ (List.mem_append_right _ (List.mem_append_right _ (List.mem_append_right _ (List.mem_append_right _ (List.mem_append_left _ (List.mem_of_getElem? (i := 101) rfl)))))), List.mem_of_getElem? (i := 63) (by decide +kernel), ⟨by decide, by decide⟩, by decide +kernel⟩
theorem zi_X11_fault : Cond.instanceMethod (zy mX11_fault) ∈ lw_tbl := List.mem_of_getElem? (i := 1114) (by decide +kernel)
theorem zse_X11_fault : Cond.selects (zRn (zcN mX11_fault)) (zy mX11_fault) (zy mX11_fault) ∈ lw_tbl := List.mem_of_getElem? (i := 1115) (by decide +kernel)
def mX11_undo : zMI := (yX11_undo, cX11_undo, 2, (some .boolean), 0, 0, 0, 11, false)
set_option maxRecDepth 20000 in
theorem zm_X11_undo : zMok mX11_undo 1 := ⟨List.mem_append_right _ (List.mem_append_right _ (List.mem_append_right _ (List.mem_append_right _ (List.mem_append_right _ (List.mem_append_left _ (List.mem_of_getElem? (i := 105) rfl)))))), List.mem_of_getElem? (i := 63) (by decide +kernel), ⟨by decide, by decide⟩, by decide +kernel⟩
theorem zi_X11_undo : Cond.instanceMethod (zy mX11_undo) ∈ lw_tbl := List.mem_of_getElem? (i := 1118) (by decide +kernel)
theorem zse_X11_undo : Cond.selects (zRn (zcN mX11_undo)) (zy mX11_undo) (zy mX11_undo) ∈ lw_tbl := List.mem_of_getElem? (i := 1119) (by decide +kernel)
def mX11_pass : zMI := (yX11_pass, cX11_pass, 2, (some .int), 0, 0, 0, 11, false)
set_option maxRecDepth 20000 in
theorem zm_X11_pass : zMok mX11_pass 1 := ⟨List.mem_append_right _ (List.mem_append_right _ (List.mem_append_right _ (List.mem_append_right _ (List.mem_append_right _ (List.mem_append_left _ (List.mem_of_getElem? (i := 109) rfl)))))), List.mem_of_getElem? (i := 63) (by decide +kernel), ⟨by decide, by decide⟩, by decide +kernel⟩
theorem zi_X11_pass : Cond.instanceMethod (zy mX11_pass) ∈ lw_tbl := List.mem_of_getElem? (i := 1122) (by decide +kernel)
theorem zse_X11_pass : Cond.selects (zRn (zcN mX11_pass)) (zy mX11_pass) (zy mX11_pass) ∈ lw_tbl := List.mem_of_getElem? (i := 1123) (by decide +kernel)
def mX11_farm : zMI := (yX11_farm, cX11_farm, 2, (some .int), 0, 0, 0, 11, false)
set_option maxRecDepth 20000 in
theorem zm_X11_farm : zMok mX11_farm 1 := ⟨List.mem_append_right _ (List.mem_append_right _ (List.mem_append_right _ (List.mem_append_right _ (List.mem_append_right _ (List.mem_append_left _ (List.mem_of_getElem? (i := 113) rfl)))))), List.mem_of_getElem? (i := 63) (by decide +kernel), ⟨by decide, by decide⟩, by decide +kernel⟩
theorem zi_X11_farm : Cond.instanceMethod (zy mX11_farm) ∈ lw_tbl := List.mem_of_getElem? (i := 1126) (by decide +kernel)
theorem zse_X11_farm : Cond.selects (zRn (zcN mX11_farm)) (zy mX11_farm) (zy mX11_farm) ∈ lw_tbl := List.mem_of_getElem? (i := 1127) (by decide +kernel)
def mX11_isFarm : zMI := (yX11_isFarm, cX11_isFarm, 2, (some .boolean), 0, 0, 0, 11, false)
set_option maxRecDepth 20000 in
theorem zm_X11_isFarm : zMok mX11_isFarm 1 := ⟨List.mem_append_right _ (List.mem_append_right _ (List.mem_append_right _ (List.mem_append_right _ (List.mem_append_right _ (List.mem_append_left _ (List.mem_of_getElem? (i := 121) rfl)))))), List.mem_of_getElem? (i := 63) (by decide +kernel), ⟨by decide, by decide⟩, by decide +kernel⟩
theorem zi_X11_isFarm : Cond.instanceMethod (zy mX11_isFarm) ∈ lw_tbl := List.mem_of_getElem? (i := 1135) (by decide +kernel)
theorem zse_X11_isFarm : Cond.selects (zRn (zcN mX11_isFarm)) (zy mX11_isFarm) (zy mX11_isFarm) ∈ lw_tbl := List.mem_of_getElem? (i := 42) (by decide +kernel)
def mX11_note : zMI := (yX11_note, cX11_note, 5, (some .int), 1, 0, 0, 11, false)
set_option maxRecDepth 20000 in
theorem zm_X11_note : zMok mX11_note 4 := ⟨List.mem_append_right _ (List.mem_append_right _ (List.mem_append_right _ (List.mem_append_right _ (List.mem_append_right _ (List.mem_append_left _ (List.mem_of_getElem? (i := 117) rfl)))))), List.mem_of_getElem? (i := 63) (by decide +kernel), ⟨by decide, by decide⟩, by decide +kernel⟩
theorem zi_X11_note : Cond.instanceMethod (zy mX11_note) ∈ lw_tbl := List.mem_of_getElem? (i := 1130) (by decide +kernel)
theorem zse_X11_note : Cond.selects (zRn (zcN mX11_note)) (zy mX11_note) (zy mX11_note) ∈ lw_tbl := List.mem_of_getElem? (i := 1131) (by decide +kernel)
def mX11_counts : zMI := (yX11_counts, cX11_counts, 7, (some .int), 0, 0, 0, 11, false)
set_option maxRecDepth 20000 in
theorem zm_X11_counts : zMok mX11_counts 4 := ⟨List.mem_append_right _ (List.mem_append_right _ (List.mem_append_right _ (List.mem_append_right _ (List.mem_append_right _ (List.mem_append_left _ (List.mem_of_getElem? (i := 133) rfl)))))), List.mem_of_getElem? (i := 63) (by decide +kernel), ⟨by decide, by decide⟩, by decide +kernel⟩
theorem zi_X11_counts : Cond.instanceMethod (zy mX11_counts) ∈ lw_tbl := List.mem_of_getElem? (i := 1147) (by decide +kernel)
theorem zse_X11_counts : Cond.selects (zRn (zcN mX11_counts)) (zy mX11_counts) (zy mX11_counts) ∈ lw_tbl := List.mem_of_getElem? (i := 44) (by decide +kernel)
def mX11_areDays : zMI := (yX11_areDays, cX11_areDays, 3, (some .boolean), 1, 0, 0, 11, false)
set_option maxRecDepth 20000 in
theorem zm_X11_areDays : zMok mX11_areDays 2 := ⟨List.mem_append_right _ (List.mem_append_right _ (List.mem_append_right _ (List.mem_append_right _ (List.mem_append_right _ (List.mem_append_left _ (List.mem_of_getElem? (i := 129) rfl)))))), List.mem_of_getElem? (i := 63) (by decide +kernel), ⟨by decide, by decide⟩, by decide +kernel⟩
theorem zi_X11_areDays : Cond.instanceMethod (zy mX11_areDays) ∈ lw_tbl := List.mem_of_getElem? (i := 1143) (by decide +kernel)
theorem zse_X11_areDays : Cond.selects (zRn (zcN mX11_areDays)) (zy mX11_areDays) (zy mX11_areDays) ∈ lw_tbl := List.mem_of_getElem? (i := 43) (by decide +kernel)
def mX11_worth : zMI := (yX11_worth, cX11_worth, 5, (some .int), 2, 0, 0, 11, false)
set_option maxRecDepth 20000 in
theorem zm_X11_worth : zMok mX11_worth 4 := ⟨List.mem_append_right _ (List.mem_append_right _ (List.mem_append_right _ (List.mem_append_right _ (List.mem_append_right _ (List.mem_append_left _ (List.mem_of_getElem? (i := 125) rfl)))))), List.mem_of_getElem? (i := 63) (by decide +kernel), ⟨by decide, by decide⟩, by decide +kernel⟩
theorem zi_X11_worth : Cond.instanceMethod (zy mX11_worth) ∈ lw_tbl := List.mem_of_getElem? (i := 1138) (by decide +kernel)
theorem zse_X11_worth : Cond.selects (zRn (zcN mX11_worth)) (zy mX11_worth) (zy mX11_worth) ∈ lw_tbl := List.mem_of_getElem? (i := 1139) (by decide +kernel)
def mX11_winner : zMI := (yX11_winner, cX11_winner, 6, (some .int), 0, 0, 0, 11, false)
set_option maxRecDepth 20000 in
theorem zm_X11_winner : zMok mX11_winner 3 := ⟨List.mem_append_right _ (List.mem_append_right _ (List.mem_append_right _ (List.mem_append_right _ (List.mem_append_right _ (List.mem_append_left _ (List.mem_of_getElem? (i := 145) rfl)))))), List.mem_of_getElem? (i := 63) (by decide +kernel), ⟨by decide, by decide⟩, by decide +kernel⟩
theorem zi_X11_winner : Cond.instanceMethod (zy mX11_winner) ∈ lw_tbl := List.mem_of_getElem? (i := 1159) (by decide +kernel)
theorem zse_X11_winner : Cond.selects (zRn (zcN mX11_winner)) (zy mX11_winner) (zy mX11_winner) ∈ lw_tbl := List.mem_of_getElem? (i := 46) (by decide +kernel)
def mX11_says : zMI := (yX11_says, cX11_says, 6, (some .int), 1, 0, 0, 11, false)
set_option maxRecDepth 20000 in
theorem zm_X11_says : zMok mX11_says 3 := ⟨List.mem_append_right _ (List.mem_append_right _ (List.mem_append_right _ (List.mem_append_right _ (List.mem_append_right _ (List.mem_append_left _ (List.mem_of_getElem? (i := 141) rfl)))))), List.mem_of_getElem? (i := 63) (by decide +kernel), ⟨by decide, by decide⟩, by decide +kernel⟩
theorem zi_X11_says : Cond.instanceMethod (zy mX11_says) ∈ lw_tbl := List.mem_of_getElem? (i := 1155) (by decide +kernel)
theorem zse_X11_says : Cond.selects (zRn (zcN mX11_says)) (zy mX11_says) (zy mX11_says) ∈ lw_tbl := List.mem_of_getElem? (i := 45) (by decide +kernel)
def mX11_law : zMI := (yX11_law, cX11_law, 4, (some .int), 2, 0, 0, 11, false)
set_option maxRecDepth 20000 in
theorem zm_X11_law : zMok mX11_law 3 := ⟨List.mem_append_right _ (List.mem_append_right _ (List.mem_append_right _ (List.mem_append_right _ (List.mem_append_right _ (List.mem_append_left _ (List.mem_of_getElem? (i := 137) rfl)))))), List.mem_of_getElem? (i := 63) (by decide +kernel), ⟨by decide, by decide⟩, by decide +kernel⟩
theorem zi_X11_law : Cond.instanceMethod (zy mX11_law) ∈ lw_tbl := List.mem_of_getElem? (i := 1150) (by decide +kernel)
theorem zse_X11_law : Cond.selects (zRn (zcN mX11_law)) (zy mX11_law) (zy mX11_law) ∈ lw_tbl := List.mem_of_getElem? (i := 1151) (by decide +kernel)
def mX11_fire : zMI := (yX11_fire, cX11_fire, 9, (some .int), 1, 0, 0, 11, false)
set_option maxRecDepth 20000 in
theorem zm_X11_fire : zMok mX11_fire 2 := ⟨List.mem_append_right _ (List.mem_append_right _ (List.mem_append_right _ (List.mem_append_right _ (List.mem_append_right _ (List.mem_append_left _ (List.mem_of_getElem? (i := 149) rfl)))))), List.mem_of_getElem? (i := 63) (by decide +kernel), ⟨by decide, by decide⟩, by decide +kernel⟩
theorem zi_X11_fire : Cond.instanceMethod (zy mX11_fire) ∈ lw_tbl := List.mem_of_getElem? (i := 1162) (by decide +kernel)
theorem zse_X11_fire : Cond.selects (zRn (zcN mX11_fire)) (zy mX11_fire) (zy mX11_fire) ∈ lw_tbl := List.mem_of_getElem? (i := 1163) (by decide +kernel)
def mX11_can : zMI := (yX11_can, cX11_can, 5, (some .boolean), 0, 0, 0, 11, false)
set_option maxRecDepth 20000 in
theorem zm_X11_can : zMok mX11_can 2 := ⟨List.mem_append_right _ (List.mem_append_right _ (List.mem_append_right _ (List.mem_append_right _ (List.mem_append_right _ (List.mem_append_left _ (List.mem_of_getElem? (i := 153) rfl)))))), List.mem_of_getElem? (i := 63) (by decide +kernel), ⟨by decide, by decide⟩, by decide +kernel⟩
theorem zi_X11_can : Cond.instanceMethod (zy mX11_can) ∈ lw_tbl := List.mem_of_getElem? (i := 1167) (by decide +kernel)
theorem zse_X11_can : Cond.selects (zRn (zcN mX11_can)) (zy mX11_can) (zy mX11_can) ∈ lw_tbl := List.mem_of_getElem? (i := 47) (by decide +kernel)
def mX11_isFire : zMI := (yX11_isFire, cX11_isFire, 2, (some .boolean), 0, 0, 0, 11, false)
set_option maxRecDepth 20000 in
theorem zm_X11_isFire : zMok mX11_isFire 1 := ⟨List.mem_append_right _ (List.mem_append_right _ (List.mem_append_right _ (List.mem_append_right _ (List.mem_append_right _ (List.mem_append_left _ (List.mem_of_getElem? (i := 162) rfl)))))), List.mem_of_getElem? (i := 63) (by decide +kernel), ⟨by decide, by decide⟩, by decide +kernel⟩
theorem zi_X11_isFire : Cond.instanceMethod (zy mX11_isFire) ∈ lw_tbl := List.mem_of_getElem? (i := 1176) (by decide +kernel)
theorem zse_X11_isFire : Cond.selects (zRn (zcN mX11_isFire)) (zy mX11_isFire) (zy mX11_isFire) ∈ lw_tbl := List.mem_of_getElem? (i := 48) (by decide +kernel)
def mX11_fails : zMI := (yX11_fails, cX11_fails, 2, (some .int), 0, 0, 0, 11, false)
set_option maxRecDepth 20000 in
theorem zm_X11_fails : zMok mX11_fails 1 := ⟨List.mem_append_right _ (List.mem_append_right _ (List.mem_append_right _ (List.mem_append_right _ (List.mem_append_right _ (List.mem_append_left _ (List.mem_of_getElem? (i := 166) rfl)))))), List.mem_of_getElem? (i := 63) (by decide +kernel), ⟨by decide, by decide⟩, by decide +kernel⟩
theorem zi_X11_fails : Cond.instanceMethod (zy mX11_fails) ∈ lw_tbl := List.mem_of_getElem? (i := 1180) (by decide +kernel)
theorem zse_X11_fails : Cond.selects (zRn (zcN mX11_fails)) (zy mX11_fails) (zy mX11_fails) ∈ lw_tbl := List.mem_of_getElem? (i := 49) (by decide +kernel)
def mX11_judge : zMI := (yX11_judge, cX11_judge, 3, (some .int), 1, 0, 0, 11, false)
set_option maxRecDepth 20000 in
theorem zm_X11_judge : zMok mX11_judge 2 := ⟨List.mem_append_right _ (List.mem_append_right _ (List.mem_append_right _ (List.mem_append_right _ (List.mem_append_right _ (List.mem_append_left _ (List.mem_of_getElem? (i := 158) rfl)))))), List.mem_of_getElem? (i := 63) (by decide +kernel), ⟨by decide, by decide⟩, by decide +kernel⟩
theorem zi_X11_judge : Cond.instanceMethod (zy mX11_judge) ∈ lw_tbl := List.mem_of_getElem? (i := 1171) (by decide +kernel)
theorem zse_X11_judge : Cond.selects (zRn (zcN mX11_judge)) (zy mX11_judge) (zy mX11_judge) ∈ lw_tbl := List.mem_of_getElem? (i := 1172) (by decide +kernel)
def mX11_say : zMI := (yX11_say, cX11_say, 5, (some .boolean), 1, 0, 0, 11, false)
set_option maxRecDepth 20000 in
theorem zm_X11_say : zMok mX11_say 4 := ⟨List.mem_append_right _ (List.mem_append_right _ (List.mem_append_right _ (List.mem_append_right _ (List.mem_append_right _ (List.mem_append_left _ (List.mem_of_getElem? (i := 170) rfl)))))), List.mem_of_getElem? (i := 63) (by decide +kernel), ⟨by decide, by decide⟩, by decide +kernel⟩
theorem zi_X11_say : Cond.instanceMethod (zy mX11_say) ∈ lw_tbl := List.mem_of_getElem? (i := 1183) (by decide +kernel)
theorem zse_X11_say : Cond.selects (zRn (zcN mX11_say)) (zy mX11_say) (zy mX11_say) ∈ lw_tbl := List.mem_of_getElem? (i := 1184) (by decide +kernel)
def mX11_close : zMI := (yX11_close, cX11_close, 2, (some .boolean), 1, 0, 0, 11, false)
set_option maxRecDepth 20000 in
theorem zm_X11_close : zMok mX11_close 1 := ⟨List.mem_append_right _ (List.mem_append_right _ (List.mem_append_right _ (List.mem_append_right _ (List.mem_append_right _ (List.mem_append_left _ (List.mem_of_getElem? (i := 174) rfl)))))), List.mem_of_getElem? (i := 63) (by decide +kernel), ⟨by decide, by decide⟩, by decide +kernel⟩
theorem zi_X11_close : Cond.instanceMethod (zy mX11_close) ∈ lw_tbl := List.mem_of_getElem? (i := 1187) (by decide +kernel)
theorem zse_X11_close : Cond.selects (zRn (zcN mX11_close)) (zy mX11_close) (zy mX11_close) ∈ lw_tbl := List.mem_of_getElem? (i := 1188) (by decide +kernel)
def mX11_lost : zMI := (yX11_lost, cX11_lost, 8, (some .int), 0, 0, 0, 11, false)
set_option maxRecDepth 20000 in
theorem zm_X11_lost : zMok mX11_lost 2 := ⟨List.mem_append_right _ (List.mem_append_right _ (List.mem_append_right _ (List.mem_append_right _ (List.mem_append_right _ (List.mem_append_left _ (List.mem_of_getElem? (i := 182) rfl)))))), List.mem_of_getElem? (i := 63) (by decide +kernel), ⟨by decide, by decide⟩, by decide +kernel⟩
theorem zi_X11_lost : Cond.instanceMethod (zy mX11_lost) ∈ lw_tbl := List.mem_of_getElem? (i := 1196) (by decide +kernel)
theorem zse_X11_lost : Cond.selects (zRn (zcN mX11_lost)) (zy mX11_lost) (zy mX11_lost) ∈ lw_tbl := List.mem_of_getElem? (i := 50) (by decide +kernel)
def mX11_look : zMI := (yX11_look, cX11_look, 3, (some .int), 1, 0, 0, 11, false)
set_option maxRecDepth 20000 in
theorem zm_X11_look : zMok mX11_look 2 := ⟨List.mem_append_right _ (List.mem_append_right _ (List.mem_append_right _ (List.mem_append_right _ (List.mem_append_right _ (List.mem_append_left _ (List.mem_of_getElem? (i := 178) rfl)))))), List.mem_of_getElem? (i := 63) (by decide +kernel), ⟨by decide, by decide⟩, by decide +kernel⟩
theorem zi_X11_look : Cond.instanceMethod (zy mX11_look) ∈ lw_tbl := List.mem_of_getElem? (i := 1191) (by decide +kernel)
theorem zse_X11_look : Cond.selects (zRn (zcN mX11_look)) (zy mX11_look) (zy mX11_look) ∈ lw_tbl := List.mem_of_getElem? (i := 1192) (by decide +kernel)
def mX11_awarded : zMI := (yX11_awarded, cX11_awarded, 14, (some .long), 2, 0, 0, 11, false)
set_option maxRecDepth 20000 in
theorem zm_X11_awarded : zMok mX11_awarded 2 := ⟨List.mem_append_right _ (List.mem_append_right _ (List.mem_append_right _ (List.mem_append_right _ (List.mem_append_right _ (List.mem_append_left _ (List.mem_of_getElem? (i := 199) rfl)))))), List.mem_of_getElem? (i := 63) (by decide +kernel), ⟨by decide, by decide⟩, by decide +kernel⟩
theorem zi_X11_awarded : Cond.instanceMethod (zy mX11_awarded) ∈ lw_tbl := List.mem_of_getElem? (i := 1213) (by decide +kernel)
theorem zse_X11_awarded : Cond.selects (zRn (zcN mX11_awarded)) (zy mX11_awarded) (zy mX11_awarded) ∈ lw_tbl := List.mem_of_getElem? (i := 53) (by decide +kernel)
def mX11_share : zMI := (yX11_share, cX11_share, 9, none, 3, 0, 0, 11, false)
set_option maxRecDepth 20000 in
theorem zm_X11_share : zMok mX11_share 2 := ⟨List.mem_append_right _ (List.mem_append_right _ (List.mem_append_right _ (List.mem_append_right _ (List.mem_append_right _ (List.mem_append_left _ (List.mem_of_getElem? (i := 195) rfl)))))), List.mem_of_getElem? (i := 63) (by decide +kernel), ⟨by decide, by decide⟩, by decide +kernel⟩
theorem zi_X11_share : Cond.instanceMethod (zy mX11_share) ∈ lw_tbl := List.mem_of_getElem? (i := 1209) (by decide +kernel)
theorem zse_X11_share : Cond.selects (zRn (zcN mX11_share)) (zy mX11_share) (zy mX11_share) ∈ lw_tbl := List.mem_of_getElem? (i := 52) (by decide +kernel)
def mX11_isKnown : zMI := (yX11_isKnown, cX11_isKnown, 3, (some .boolean), 1, 0, 0, 11, false)
set_option maxRecDepth 20000 in
theorem zm_X11_isKnown : zMok mX11_isKnown 2 := ⟨List.mem_append_right _ (List.mem_append_right _ (List.mem_append_right _ (List.mem_append_right _ (List.mem_append_right _ (List.mem_append_left _ (List.mem_of_getElem? (i := 190) rfl)))))), List.mem_of_getElem? (i := 63) (by decide +kernel), ⟨by decide, by decide⟩, by decide +kernel⟩
theorem zi_X11_isKnown : Cond.instanceMethod (zy mX11_isKnown) ∈ lw_tbl := List.mem_of_getElem? (i := 1204) (by decide +kernel)
theorem zse_X11_isKnown : Cond.selects (zRn (zcN mX11_isKnown)) (zy mX11_isKnown) (zy mX11_isKnown) ∈ lw_tbl := List.mem_of_getElem? (i := 51) (by decide +kernel)
def mX11_award : zMI := (yX11_award, cX11_award, 4, (some .long), 4, 0, 0, 11, false)
set_option maxRecDepth 20000 in
theorem zm_X11_award : zMok mX11_award 3 := ⟨List.mem_append_right _ (List.mem_append_right _ (List.mem_append_right _ (List.mem_append_right _ (List.mem_append_right _ (List.mem_append_left _ (List.mem_of_getElem? (i := 186) rfl)))))), List.mem_of_getElem? (i := 63) (by decide +kernel), ⟨by decide, by decide⟩, by decide +kernel⟩
theorem zi_X11_award : Cond.instanceMethod (zy mX11_award) ∈ lw_tbl := List.mem_of_getElem? (i := 1199) (by decide +kernel)
theorem zse_X11_award : Cond.selects (zRn (zcN mX11_award)) (zy mX11_award) (zy mX11_award) ∈ lw_tbl := List.mem_of_getElem? (i := 1200) (by decide +kernel)
def mX11_callAll : zMI := (yX11_callAll, cX11_callAll, 9, none, 4, 0, 0, 11, false)
set_option maxRecDepth 20000 in
theorem zm_X11_callAll : zMok mX11_callAll 2 := ⟨List.mem_append_right _ (List.mem_append_right _ (List.mem_append_right _ (List.mem_append_right _ (List.mem_append_right _ (List.mem_append_left _ (List.mem_of_getElem? (i := 210) rfl)))))), List.mem_of_getElem? (i := 63) (by decide +kernel), ⟨by decide, by decide⟩, by decide +kernel⟩
theorem zi_X11_callAll : Cond.instanceMethod (zy mX11_callAll) ∈ lw_tbl := List.mem_of_getElem? (i := 1224) (by decide +kernel)
theorem zse_X11_callAll : Cond.selects (zRn (zcN mX11_callAll)) (zy mX11_callAll) (zy mX11_callAll) ∈ lw_tbl := List.mem_of_getElem? (i := 54) (by decide +kernel)
def mX11_call : zMI := (yX11_call, cX11_call, 4, (some .long), 5, 0, 0, 11, false)
set_option maxRecDepth 20000 in
theorem zm_X11_call : zMok mX11_call 3 := ⟨List.mem_append_right _ (List.mem_append_right _ (List.mem_append_right _ (List.mem_append_right _ (List.mem_append_right _ (List.mem_append_left _ (List.mem_of_getElem? (i := 206) rfl)))))), List.mem_of_getElem? (i := 63) (by decide +kernel), ⟨by decide, by decide⟩, by decide +kernel⟩
theorem zi_X11_call : Cond.instanceMethod (zy mX11_call) ∈ lw_tbl := List.mem_of_getElem? (i := 1219) (by decide +kernel)
theorem zse_X11_call : Cond.selects (zRn (zcN mX11_call)) (zy mX11_call) (zy mX11_call) ∈ lw_tbl := List.mem_of_getElem? (i := 1220) (by decide +kernel)
def mX11_book : zMI := (yX11_book, cX11_book, 7, (some .int), 5, 0, 0, 11, false)
set_option maxRecDepth 20000 in
theorem zm_X11_book : zMok mX11_book 0 := ⟨List.mem_append_right _ (List.mem_append_right _ (List.mem_append_right _ (List.mem_append_right _ (List.mem_append_right _ (List.mem_append_left _ (List.mem_of_getElem? (i := 214) rfl)))))), List.mem_of_getElem? (i := 63) (by decide +kernel), ⟨by decide, by decide⟩, by decide +kernel⟩
theorem zi_X11_book : Cond.instanceMethod (zy mX11_book) ∈ lw_tbl := List.mem_of_getElem? (i := 1227) (by decide +kernel)
theorem zse_X11_book : Cond.selects (zRn (zcN mX11_book)) (zy mX11_book) (zy mX11_book) ∈ lw_tbl := List.mem_of_getElem? (i := 1228) (by decide +kernel)
def mX11_booked : zMI := (yX11_booked, cX11_booked, 3, (some .long), 0, 0, 0, 11, false)
set_option maxRecDepth 20000 in
theorem zm_X11_booked : zMok mX11_booked 2 := ⟨List.mem_append_right _ (List.mem_append_right _ (List.mem_append_right _ (List.mem_append_right _ (List.mem_append_right _ (List.mem_append_left _ (List.mem_of_getElem? (i := 218) rfl)))))), List.mem_of_getElem? (i := 63) (by decide +kernel), ⟨by decide, by decide⟩, by decide +kernel⟩
theorem zi_X11_booked : Cond.instanceMethod (zy mX11_booked) ∈ lw_tbl := List.mem_of_getElem? (i := 1231) (by decide +kernel)
theorem zse_X11_booked : Cond.selects (zRn (zcN mX11_booked)) (zy mX11_booked) (zy mX11_booked) ∈ lw_tbl := List.mem_of_getElem? (i := 1232) (by decide +kernel)
def mX11_account : zMI := (yX11_account, cX11_account, 2, (some .long), 1, 0, 0, 11, false)
set_option maxRecDepth 20000 in
theorem zm_X11_account : zMok mX11_account 1 := ⟨List.mem_append_right _ (List.mem_append_right _ (List.mem_append_right _ (List.mem_append_right _ (List.mem_append_right _ (List.mem_append_left _ (List.mem_of_getElem? (i := 222) rfl)))))), List.mem_of_getElem? (i := 63) (by decide +kernel), ⟨by decide, by decide⟩, by decide +kernel⟩
theorem zi_X11_account : Cond.instanceMethod (zy mX11_account) ∈ lw_tbl := List.mem_of_getElem? (i := 1235) (by decide +kernel)
theorem zse_X11_account : Cond.selects (zRn (zcN mX11_account)) (zy mX11_account) (zy mX11_account) ∈ lw_tbl := List.mem_of_getElem? (i := 1236) (by decide +kernel)
def mX11_count : zMI := (yX11_count, cX11_count, 4, (some .int), 0, 0, 0, 11, false)
set_option maxRecDepth 20000 in
theorem zm_X11_count : zMok mX11_count 1 := ⟨List.mem_append_right _ (List.mem_append_right _ (List.mem_append_right _ (List.mem_append_right _ (List.mem_append_right _ (List.mem_append_left _ (List.mem_of_getElem? (i := 226) rfl)))))), List.mem_of_getElem? (i := 63) (by decide +kernel), ⟨by decide, by decide⟩, by decide +kernel⟩
theorem zi_X11_count : Cond.instanceMethod (zy mX11_count) ∈ lw_tbl := List.mem_of_getElem? (i := 1239) (by decide +kernel)
theorem zse_X11_count : Cond.selects (zRn (zcN mX11_count)) (zy mX11_count) (zy mX11_count) ∈ lw_tbl := List.mem_of_getElem? (i := 1240) (by decide +kernel)
def mL_judge : zMI := (yL_judge, cL_judge, 5, (some .int), 7, 1, 6, 12, false)
def mL_look : zMI := (yL_look, cL_look, 5, (some .int), 7, 1, 6, 12, false)
def mL_account : zMI := (yL_account, cL_account, 4, (some .int), 7, 1, 6, 12, false)
def mL_law : zMI := (yL_law, cL_law, 8, (some .boolean), 13, 601024, 7293034, 12, false)
def mJ9_max_7cf53 : zMI := (yJ9_max_7cf53, cJ9_max_7cf53, 2, (some .int), 0, 0, 0, 13, false)
set_option maxRecDepth 20000 in
theorem zm_J9_max_7cf53 : zMok mJ9_max_7cf53 2 := ⟨List.mem_append_right _ (List.mem_append_right _ (List.mem_append_right _ (List.mem_append_left _ (List.mem_of_getElem? (i := 156) rfl)))), List.mem_of_getElem? (i := 65) (by decide +kernel), ⟨by decide, by decide⟩, by decide +kernel⟩
theorem zs_J9_max_7cf53 : Cond.static (zy mJ9_max_7cf53) ∈ lw_tbl := List.mem_of_getElem? (i := 690) (by decide +kernel)
def mJ9_min_7cf53 : zMI := (yJ9_min_7cf53, cJ9_min_7cf53, 2, (some .int), 0, 0, 0, 13, false)
set_option maxRecDepth 20000 in
theorem zm_J9_min_7cf53 : zMok mJ9_min_7cf53 2 := ⟨List.mem_append_right _ (List.mem_append_right _ (List.mem_append_left _ (List.mem_of_getElem? (i := 31) rfl))), List.mem_of_getElem? (i := 65) (by decide +kernel), ⟨by decide, by decide⟩, by decide +kernel⟩
theorem zs_J9_min_7cf53 : Cond.static (zy mJ9_min_7cf53) ∈ lw_tbl := List.mem_of_getElem? (i := 325) (by decide +kernel)
def mJ9_min_f86c9 : zMI := (yJ9_min_f86c9, cJ9_min_f86c9, 4, (some .long), 0, 0, 0, 13, false)
set_option maxRecDepth 20000 in
theorem zm_J9_min_f86c9 : zMok mJ9_min_f86c9 2 := ⟨List.mem_append_right _ (List.mem_append_right _ (List.mem_append_right _ (List.mem_append_left _ (List.mem_of_getElem? (i := 172) rfl)))), List.mem_of_getElem? (i := 65) (by decide +kernel), ⟨by decide, by decide⟩, by decide +kernel⟩
theorem zs_J9_min_f86c9 : Cond.static (zy mJ9_min_f86c9) ∈ lw_tbl := List.mem_of_getElem? (i := 706) (by decide +kernel)
theorem ml_0_3 : Cond.methodLink (zRn 0) 3 objectInit ∈ lw_tbl := List.mem_of_getElem? (i := 484) (by decide +kernel)
theorem ml_0_24 : Cond.methodLink (zRn 0) 24 (zy mX3_init) ∈ lw_tbl := List.mem_of_getElem? (i := 518) (by decide +kernel)
theorem ml_1_3 : Cond.methodLink (zRn 1) 3 objectInit ∈ lw_tbl := List.mem_of_getElem? (i := 577) (by decide +kernel)
theorem ml_1_35 : Cond.methodLink (zRn 1) 35 (zy mX1_judgeAt) ∈ lw_tbl := List.mem_of_getElem? (i := 623) (by decide +kernel)
theorem ml_1_39 : Cond.methodLink (zRn 1) 39 (zy mX1_heardAt) ∈ lw_tbl := List.mem_of_getElem? (i := 684) (by decide +kernel)
theorem ml_1_43 : Cond.methodLink (zRn 1) 43 (zy mJ9_min_7cf53) ∈ lw_tbl := List.mem_of_getElem? (i := 688) (by decide +kernel)
theorem ml_1_48 : Cond.methodLink (zRn 1) 48 (zy mJ9_max_7cf53) ∈ lw_tbl := List.mem_of_getElem? (i := 689) (by decide +kernel)
theorem ml_2_3 : Cond.methodLink (zRn 2) 3 objectInit ∈ lw_tbl := List.mem_of_getElem? (i := 198) (by decide +kernel)
theorem ml_3_1 : Cond.methodLink (zRn 3) 1 objectInit ∈ lw_tbl := List.mem_of_getElem? (i := 521) (by decide +kernel)
theorem ml_4_3 : Cond.methodLink (zRn 4) 3 objectInit ∈ lw_tbl := List.mem_of_getElem? (i := 171) (by decide +kernel)
theorem ml_4_15 : Cond.methodLink (zRn 4) 15 (zy mJ9_min_f86c9) ∈ lw_tbl := List.mem_of_getElem? (i := 705) (by decide +kernel)
theorem ml_5_3 : Cond.methodLink (zRn 5) 3 objectInit ∈ lw_tbl := List.mem_of_getElem? (i := 91) (by decide +kernel)
theorem ml_5_11 : Cond.methodLinkNest (zRn 5) 11 (zy mX9_init) "FireMutual" ∈ lw_tbl := List.mem_of_getElem? (i := 94) (by decide +kernel)
theorem ml_5_29 : Cond.methodLink (zRn 5) 29 (zy mX9_start) ∈ lw_tbl := List.mem_of_getElem? (i := 303) (by decide +kernel)
theorem ml_5_36 : Cond.methodLink (zRn 5) 36 (zy mX5_readLine) ∈ lw_tbl := List.mem_of_getElem? (i := 327) (by decide +kernel)
theorem ml_5_40 : Cond.methodLink (zRn 5) 40 (zy mX5_takeMark) ∈ lw_tbl := List.mem_of_getElem? (i := 426) (by decide +kernel)
theorem ml_5_49 : Cond.methodLink (zRn 5) 49 (zy mX5_takeWord) ∈ lw_tbl := List.mem_of_getElem? (i := 332) (by decide +kernel)
theorem ml_5_53 : Cond.methodLink (zRn 5) 53 (zy mX5_readRate) ∈ lw_tbl := List.mem_of_getElem? (i := 389) (by decide +kernel)
theorem ml_5_59 : Cond.methodLink (zRn 5) 59 (zy mX5_readSeason) ∈ lw_tbl := List.mem_of_getElem? (i := 422) (by decide +kernel)
theorem ml_5_64 : Cond.methodLink (zRn 5) 64 (zy mX5_readDuty) ∈ lw_tbl := List.mem_of_getElem? (i := 435) (by decide +kernel)
theorem ml_5_69 : Cond.methodLink (zRn 5) 69 (zy mX5_readNone) ∈ lw_tbl := List.mem_of_getElem? (i := 441) (by decide +kernel)
theorem ml_5_74 : Cond.methodLink (zRn 5) 74 (zy mX5_takeNumber) ∈ lw_tbl := List.mem_of_getElem? (i := 405) (by decide +kernel)
theorem ml_5_78 : Cond.methodLink (zRn 5) 78 (zy mX5_keep) ∈ lw_tbl := List.mem_of_getElem? (i := 409) (by decide +kernel)
theorem ml_5_86 : Cond.methodLink (zRn 5) 86 (zy mX5_readOther) ∈ lw_tbl := List.mem_of_getElem? (i := 448) (by decide +kernel)
theorem ml_5_89 : Cond.methodLink (zRn 5) 89 (zy mX5_fail) ∈ lw_tbl := List.mem_of_getElem? (i := 401) (by decide +kernel)
theorem ml_5_92 : Cond.methodLink (zRn 5) 92 (zy mX5_takeClass) ∈ lw_tbl := List.mem_of_getElem? (i := 393) (by decide +kernel)
theorem ml_5_96 : Cond.methodLink (zRn 5) 96 (zy mX9_isMark) ∈ lw_tbl := List.mem_of_getElem? (i := 430) (by decide +kernel)
theorem ml_5_99 : Cond.methodLink (zRn 5) 99 (zy mX9_advance) ∈ lw_tbl := List.mem_of_getElem? (i := 388) (by decide +kernel)
theorem ml_5_106 : Cond.methodLink (zRn 5) 106 (zy mX9_isWord) ∈ lw_tbl := List.mem_of_getElem? (i := 336) (by decide +kernel)
theorem ml_5_118 : Cond.methodLink (zRn 5) 118 (zy mX7_numberAt) ∈ lw_tbl := List.mem_of_getElem? (i := 413) (by decide +kernel)
theorem ml_5_124 : Cond.methodLink (zRn 5) 124 (zy mX7_setNumber) ∈ lw_tbl := List.mem_of_getElem? (i := 417) (by decide +kernel)
theorem ml_6_3 : Cond.methodLink (zRn 6) 3 objectInit ∈ lw_tbl := List.mem_of_getElem? (i := 182) (by decide +kernel)
theorem ml_6_21 : Cond.methodLink (zRn 6) 21 (zy mX6_addCoin) ∈ lw_tbl := List.mem_of_getElem? (i := 732) (by decide +kernel)
theorem ml_7_3 : Cond.methodLink (zRn 7) 3 objectInit ∈ lw_tbl := List.mem_of_getElem? (i := 279) (by decide +kernel)
theorem ml_8_3 : Cond.methodLink (zRn 8) 3 objectInit ∈ lw_tbl := List.mem_of_getElem? (i := 147) (by decide +kernel)
theorem ml_8_25 : Cond.methodLink (zRn 8) 25 (zy mX8_counted) ∈ lw_tbl := List.mem_of_getElem? (i := 559) (by decide +kernel)
theorem ml_8_29 : Cond.methodLink (zRn 8) 29 (zy mX8_textAt) ∈ lw_tbl := List.mem_of_getElem? (i := 563) (by decide +kernel)
theorem ml_8_36 : Cond.methodLink (zRn 8) 36 (zy mX7_isInForce) ∈ lw_tbl := List.mem_of_getElem? (i := 564) (by decide +kernel)
theorem ml_8_40 : Cond.methodLink (zRn 8) 40 (zy mX7_numberAt) ∈ lw_tbl := List.mem_of_getElem? (i := 568) (by decide +kernel)
theorem ml_9_3 : Cond.methodLink (zRn 9) 3 objectInit ∈ lw_tbl := List.mem_of_getElem? (i := 97) (by decide +kernel)
theorem ml_9_25 : Cond.methodLink (zRn 9) 25 (zy mX9_advance) ∈ lw_tbl := List.mem_of_getElem? (i := 307) (by decide +kernel)
theorem ml_9_28 : Cond.methodLink (zRn 9) 28 (zy mX9_signAt) ∈ lw_tbl := List.mem_of_getElem? (i := 311) (by decide +kernel)
theorem ml_9_32 : Cond.methodLink (zRn 9) 32 (zy mX9_isBlank) ∈ lw_tbl := List.mem_of_getElem? (i := 315) (by decide +kernel)
theorem ml_9_42 : Cond.methodLink (zRn 9) 42 (zy mX9_isSmallLetter) ∈ lw_tbl := List.mem_of_getElem? (i := 318) (by decide +kernel)
theorem ml_9_45 : Cond.methodLink (zRn 9) 45 (zy mX9_isDigit) ∈ lw_tbl := List.mem_of_getElem? (i := 321) (by decide +kernel)
theorem ml_9_51 : Cond.methodLink (zRn 9) 51 (zy mJ9_min_7cf53) ∈ lw_tbl := List.mem_of_getElem? (i := 324) (by decide +kernel)
theorem ml_10_3 : Cond.methodLink (zRn 10) 3 objectInit ∈ lw_tbl := List.mem_of_getElem? (i := 83) (by decide +kernel)
theorem ml_10_11 : Cond.methodLinkNest (zRn 10) 11 (zy mX5_init) "FireMutual" ∈ lw_tbl := List.mem_of_getElem? (i := 88) (by decide +kernel)
theorem ml_10_18 : Cond.methodLinkNest (zRn 10) 18 (zy mX8_init) "FireMutual" ∈ lw_tbl := List.mem_of_getElem? (i := 144) (by decide +kernel)
theorem ml_10_37 : Cond.methodLinkNest (zRn 10) 37 (zy mX4_init) "FireMutual" ∈ lw_tbl := List.mem_of_getElem? (i := 168) (by decide +kernel)
theorem ml_10_44 : Cond.methodLinkNest (zRn 10) 44 (zy mX6_init) "FireMutual" ∈ lw_tbl := List.mem_of_getElem? (i := 179) (by decide +kernel)
theorem ml_10_51 : Cond.methodLinkNest (zRn 10) 51 (zy mX2_init) "FireMutual" ∈ lw_tbl := List.mem_of_getElem? (i := 195) (by decide +kernel)
theorem ml_10_60 : Cond.methodLink (zRn 10) 60 (zy mX9_hasRoom) ∈ lw_tbl := List.mem_of_getElem? (i := 255) (by decide +kernel)
theorem ml_10_66 : Cond.methodLink (zRn 10) 66 (zy mX9_put) ∈ lw_tbl := List.mem_of_getElem? (i := 259) (by decide +kernel)
theorem ml_10_74 : Cond.methodLink (zRn 10) 74 (zy mX10_isDay) ∈ lw_tbl := List.mem_of_getElem? (i := 267) (by decide +kernel)
theorem ml_10_77 : Cond.methodLink (zRn 10) 77 (zy mX8_isFull) ∈ lw_tbl := List.mem_of_getElem? (i := 270) (by decide +kernel)
theorem ml_10_86 : Cond.methodLink (zRn 10) 86 (zy mX7_init) ∈ lw_tbl := List.mem_of_getElem? (i := 276) (by decide +kernel)
theorem ml_10_89 : Cond.methodLink (zRn 10) 89 (zy mX5_readText) ∈ lw_tbl := List.mem_of_getElem? (i := 299) (by decide +kernel)
theorem ml_10_93 : Cond.methodLink (zRn 10) 93 (zy mX9_clear) ∈ lw_tbl := List.mem_of_getElem? (i := 452) (by decide +kernel)
theorem ml_10_96 : Cond.methodLink (zRn 10) 96 (zy mX8_enact) ∈ lw_tbl := List.mem_of_getElem? (i := 456) (by decide +kernel)
theorem ml_10_106 : Cond.methodLink (zRn 10) 106 (zy mX8_textAt) ∈ lw_tbl := List.mem_of_getElem? (i := 468) (by decide +kernel)
theorem ml_10_116 : Cond.methodLink (zRn 10) 116 (zy mX0_init) ∈ lw_tbl := List.mem_of_getElem? (i := 481) (by decide +kernel)
theorem ml_10_117 : Cond.methodLink (zRn 10) 117 (zy mX10_farmAt) ∈ lw_tbl := List.mem_of_getElem? (i := 506) (by decide +kernel)
theorem ml_10_121 : Cond.methodLink (zRn 10) 121 (zy mX10_isToldKind) ∈ lw_tbl := List.mem_of_getElem? (i := 510) (by decide +kernel)
theorem ml_10_127 : Cond.methodLink (zRn 10) 127 (zy mX0_tell) ∈ lw_tbl := List.mem_of_getElem? (i := 513) (by decide +kernel)
theorem ml_10_131 : Cond.methodLink (zRn 10) 131 (zy mX10_isKnowable) ∈ lw_tbl := List.mem_of_getElem? (i := 543) (by decide +kernel)
theorem ml_10_134 : Cond.methodLink (zRn 10) 134 (zy mX0_counted) ∈ lw_tbl := List.mem_of_getElem? (i := 547) (by decide +kernel)
theorem ml_10_138 : Cond.methodLink (zRn 10) 138 (zy mX8_says) ∈ lw_tbl := List.mem_of_getElem? (i := 555) (by decide +kernel)
theorem ml_10_144 : Cond.methodLink (zRn 10) 144 (zy mX1_init) ∈ lw_tbl := List.mem_of_getElem? (i := 574) (by decide +kernel)
theorem ml_10_150 : Cond.methodLink (zRn 10) 150 (zy mX10_drawJudges) ∈ lw_tbl := List.mem_of_getElem? (i := 607) (by decide +kernel)
theorem ml_10_157 : Cond.methodLink (zRn 10) 157 (zy mX10_fireAt) ∈ lw_tbl := List.mem_of_getElem? (i := 640) (by decide +kernel)
theorem ml_10_168 : Cond.methodLink (zRn 10) 168 (zy mX1_hasJudge) ∈ lw_tbl := List.mem_of_getElem? (i := 644) (by decide +kernel)
theorem ml_10_176 : Cond.methodLink (zRn 10) 176 (zy mX1_judgeAt) ∈ lw_tbl := List.mem_of_getElem? (i := 873) (by decide +kernel)
theorem ml_10_184 : Cond.methodLink (zRn 10) 184 (zy mX10_isClass) ∈ lw_tbl := List.mem_of_getElem? (i := 648) (by decide +kernel)
theorem ml_10_187 : Cond.methodLink (zRn 10) 187 (zy mX1_hear) ∈ lw_tbl := List.mem_of_getElem? (i := 651) (by decide +kernel)
theorem ml_10_199 : Cond.methodLink (zRn 10) 199 (zy mX1_lost) ∈ lw_tbl := List.mem_of_getElem? (i := 680) (by decide +kernel)
theorem ml_10_204 : Cond.methodLink (zRn 10) 204 (zy mX10_isKnowableOf) ∈ lw_tbl := List.mem_of_getElem? (i := 663) (by decide +kernel)
theorem ml_10_210 : Cond.methodLink (zRn 10) 210 (zy mX10_reckonParts) ∈ lw_tbl := List.mem_of_getElem? (i := 668) (by decide +kernel)
theorem ml_10_214 : Cond.methodLink (zRn 10) 214 (zy mX4_coins) ∈ lw_tbl := List.mem_of_getElem? (i := 708) (by decide +kernel)
theorem ml_10_218 : Cond.methodLink (zRn 10) 218 (zy mX10_reckonCalls) ∈ lw_tbl := List.mem_of_getElem? (i := 716) (by decide +kernel)
theorem ml_10_221 : Cond.methodLink (zRn 10) 221 (zy mX6_coins) ∈ lw_tbl := List.mem_of_getElem? (i := 737) (by decide +kernel)
theorem ml_10_222 : Cond.methodLink (zRn 10) 222 (zy mX2_startPage) ∈ lw_tbl := List.mem_of_getElem? (i := 745) (by decide +kernel)
theorem ml_10_225 : Cond.methodLink (zRn 10) 225 (zy mX10_bookFire) ∈ lw_tbl := List.mem_of_getElem? (i := 749) (by decide +kernel)
theorem ml_10_232 : Cond.methodLink (zRn 10) 232 (zy mX2_entry) ∈ lw_tbl := List.mem_of_getElem? (i := 773) (by decide +kernel)
theorem ml_10_251 : Cond.methodLink (zRn 10) 251 (zy mX10_eligibleCount) ∈ lw_tbl := List.mem_of_getElem? (i := 611) (by decide +kernel)
theorem ml_10_256 : Cond.methodLink (zRn 10) 256 (zy mX10_eligibleAt) ∈ lw_tbl := List.mem_of_getElem? (i := 628) (by decide +kernel)
theorem ml_10_260 : Cond.methodLink (zRn 10) 260 (zy mX1_addJudge) ∈ lw_tbl := List.mem_of_getElem? (i := 632) (by decide +kernel)
theorem ml_10_263 : Cond.methodLink (zRn 10) 263 (zy mX10_isEligible) ∈ lw_tbl := List.mem_of_getElem? (i := 615) (by decide +kernel)
theorem ml_10_267 : Cond.methodLink (zRn 10) 267 (zy mX1_isJudge) ∈ lw_tbl := List.mem_of_getElem? (i := 619) (by decide +kernel)
theorem ml_10_270 : Cond.methodLink (zRn 10) 270 (zy mX10_reckonAward) ∈ lw_tbl := List.mem_of_getElem? (i := 672) (by decide +kernel)
theorem ml_10_274 : Cond.methodLink (zRn 10) 274 (zy mX4_start) ∈ lw_tbl := List.mem_of_getElem? (i := 697) (by decide +kernel)
theorem ml_10_278 : Cond.methodLink (zRn 10) 278 (zy mX4_bear) ∈ lw_tbl := List.mem_of_getElem? (i := 701) (by decide +kernel)
theorem ml_10_282 : Cond.methodLink (zRn 10) 282 (zy mX10_damage) ∈ lw_tbl := List.mem_of_getElem? (i := 676) (by decide +kernel)
theorem ml_10_286 : Cond.methodLink (zRn 10) 286 (zy mX10_withoutHundredths) ∈ lw_tbl := List.mem_of_getElem? (i := 693) (by decide +kernel)
theorem ml_10_294 : Cond.methodLink (zRn 10) 294 (zy mX6_start) ∈ lw_tbl := List.mem_of_getElem? (i := 720) (by decide +kernel)
theorem ml_10_299 : Cond.methodLink (zRn 10) 299 (zy mX6_weigh) ∈ lw_tbl := List.mem_of_getElem? (i := 724) (by decide +kernel)
theorem ml_10_302 : Cond.methodLink (zRn 10) 302 (zy mX6_spread) ∈ lw_tbl := List.mem_of_getElem? (i := 728) (by decide +kernel)
theorem ml_10_305 : Cond.methodLink (zRn 10) 305 (zy mX10_bookFarm) ∈ lw_tbl := List.mem_of_getElem? (i := 753) (by decide +kernel)
theorem ml_10_309 : Cond.methodLink (zRn 10) 309 (zy mX1_settledOf) ∈ lw_tbl := List.mem_of_getElem? (i := 757) (by decide +kernel)
theorem ml_10_312 : Cond.methodLink (zRn 10) 312 (zy mX1_settle) ∈ lw_tbl := List.mem_of_getElem? (i := 761) (by decide +kernel)
theorem ml_10_315 : Cond.methodLink (zRn 10) 315 (zy mX2_write) ∈ lw_tbl := List.mem_of_getElem? (i := 765) (by decide +kernel)
theorem ml_11_1 : Cond.methodLink (zRn 11) 1 objectInit ∈ lw_tbl := List.mem_of_getElem? (i := 895) (by decide +kernel)
theorem ml_11_133 : Cond.methodLink (zRn 11) 133 (zy mX11_isSmall) ∈ lw_tbl := List.mem_of_getElem? (i := 1077) (by decide +kernel)
theorem ml_11_137 : Cond.methodLink (zRn 11) 137 (zy mX11_wordAt) ∈ lw_tbl := List.mem_of_getElem? (i := 1081) (by decide +kernel)
theorem ml_11_144 : Cond.methodLink (zRn 11) 144 (zy mX11_isDigit) ∈ lw_tbl := List.mem_of_getElem? (i := 1085) (by decide +kernel)
theorem ml_11_147 : Cond.methodLink (zRn 11) 147 (zy mX11_wrong) ∈ lw_tbl := List.mem_of_getElem? (i := 1089) (by decide +kernel)
theorem ml_11_154 : Cond.methodLink (zRn 11) 154 (zy mX11_take) ∈ lw_tbl := List.mem_of_getElem? (i := 1073) (by decide +kernel)
theorem ml_11_157 : Cond.methodLink (zRn 11) 157 (zy mX11_is) ∈ lw_tbl := List.mem_of_getElem? (i := 1109) (by decide +kernel)
theorem ml_11_160 : Cond.methodLink (zRn 11) 160 (zy mX11_number) ∈ lw_tbl := List.mem_of_getElem? (i := 1101) (by decide +kernel)
theorem ml_11_162 : Cond.methodLink (zRn 11) 162 (zy mX11_classWord) ∈ lw_tbl := List.mem_of_getElem? (i := 1097) (by decide +kernel)
theorem ml_11_166 : Cond.methodLink (zRn 11) 166 (zy mX11_seasons) ∈ lw_tbl := List.mem_of_getElem? (i := 1105) (by decide +kernel)
theorem ml_11_178 : Cond.methodLink (zRn 11) 178 (zy mX11_line) ∈ lw_tbl := List.mem_of_getElem? (i := 1093) (by decide +kernel)
theorem ml_11_181 : Cond.methodLink (zRn 11) 181 (zy mX11_isDay) ∈ lw_tbl := List.mem_of_getElem? (i := 1066) (by decide +kernel)
theorem ml_11_187 : Cond.methodLink (zRn 11) 187 (zy mX11_text) ∈ lw_tbl := List.mem_of_getElem? (i := 1069) (by decide +kernel)
theorem ml_11_196 : Cond.methodLink (zRn 11) 196 (zy mX11_isFarm) ∈ lw_tbl := List.mem_of_getElem? (i := 1133) (by decide +kernel)
theorem ml_11_202 : Cond.methodLink (zRn 11) 202 (zy mX11_areDays) ∈ lw_tbl := List.mem_of_getElem? (i := 1141) (by decide +kernel)
theorem ml_11_205 : Cond.methodLink (zRn 11) 205 (zy mX11_counts) ∈ lw_tbl := List.mem_of_getElem? (i := 1145) (by decide +kernel)
theorem ml_11_209 : Cond.methodLink (zRn 11) 209 (zy mX11_winner) ∈ lw_tbl := List.mem_of_getElem? (i := 1157) (by decide +kernel)
theorem ml_11_213 : Cond.methodLink (zRn 11) 213 (zy mX11_says) ∈ lw_tbl := List.mem_of_getElem? (i := 1153) (by decide +kernel)
theorem ml_11_219 : Cond.methodLink (zRn 11) 219 (zy mX11_can) ∈ lw_tbl := List.mem_of_getElem? (i := 1165) (by decide +kernel)
theorem ml_11_223 : Cond.methodLink (zRn 11) 223 (zy mX11_isFire) ∈ lw_tbl := List.mem_of_getElem? (i := 1174) (by decide +kernel)
theorem ml_11_226 : Cond.methodLink (zRn 11) 226 (zy mX11_fails) ∈ lw_tbl := List.mem_of_getElem? (i := 1178) (by decide +kernel)
theorem ml_11_230 : Cond.methodLink (zRn 11) 230 (zy mX11_lost) ∈ lw_tbl := List.mem_of_getElem? (i := 1194) (by decide +kernel)
theorem ml_11_239 : Cond.methodLink (zRn 11) 239 (zy mX11_awarded) ∈ lw_tbl := List.mem_of_getElem? (i := 1211) (by decide +kernel)
theorem ml_11_243 : Cond.methodLink (zRn 11) 243 (zy mX11_isKnown) ∈ lw_tbl := List.mem_of_getElem? (i := 1202) (by decide +kernel)
theorem ml_11_248 : Cond.methodLink (zRn 11) 248 (zy mX11_share) ∈ lw_tbl := List.mem_of_getElem? (i := 1207) (by decide +kernel)
theorem ml_11_252 : Cond.methodLink (zRn 11) 252 (zy mX11_callAll) ∈ lw_tbl := List.mem_of_getElem? (i := 1222) (by decide +kernel)
theorem ml_12_7 : Cond.methodLink (zRn 12) 7 (zy mX10_judge) ∈ lw_tbl := List.mem_of_getElem? (i := 787) (by decide +kernel)
theorem ml_12_17 : Cond.methodLink (zRn 12) 17 (zy mX10_look) ∈ lw_tbl := List.mem_of_getElem? (i := 877) (by decide +kernel)
theorem ml_12_20 : Cond.methodLink (zRn 12) 20 (zy mX10_account) ∈ lw_tbl := List.mem_of_getElem? (i := 885) (by decide +kernel)
theorem ml_12_24 : Cond.methodLink (zRn 12) 24 (zy mX10_init) ∈ lw_tbl := List.mem_of_getElem? (i := 80) (by decide +kernel)
theorem ml_12_27 : Cond.methodLink (zRn 12) 27 (zy mX11_init) ∈ lw_tbl := List.mem_of_getElem? (i := 892) (by decide +kernel)
theorem ml_12_28 : Cond.methodLink (zRn 12) 28 (zy mX10_feed) ∈ lw_tbl := List.mem_of_getElem? (i := 251) (by decide +kernel)
theorem ml_12_32 : Cond.methodLink (zRn 12) 32 (zy mX11_feed) ∈ lw_tbl := List.mem_of_getElem? (i := 1058) (by decide +kernel)
theorem ml_12_33 : Cond.methodLink (zRn 12) 33 (zy mX10_vote) ∈ lw_tbl := List.mem_of_getElem? (i := 263) (by decide +kernel)
theorem ml_12_36 : Cond.methodLink (zRn 12) 36 (zy mX11_vote) ∈ lw_tbl := List.mem_of_getElem? (i := 1062) (by decide +kernel)
theorem ml_12_37 : Cond.methodLink (zRn 12) 37 (zy mX10_fault) ∈ lw_tbl := List.mem_of_getElem? (i := 460) (by decide +kernel)
theorem ml_12_41 : Cond.methodLink (zRn 12) 41 (zy mX11_fault) ∈ lw_tbl := List.mem_of_getElem? (i := 1113) (by decide +kernel)
theorem ml_12_42 : Cond.methodLink (zRn 12) 42 (zy mX10_undo) ∈ lw_tbl := List.mem_of_getElem? (i := 464) (by decide +kernel)
theorem ml_12_46 : Cond.methodLink (zRn 12) 46 (zy mX11_undo) ∈ lw_tbl := List.mem_of_getElem? (i := 1117) (by decide +kernel)
theorem ml_12_47 : Cond.methodLink (zRn 12) 47 (zy mX10_pass) ∈ lw_tbl := List.mem_of_getElem? (i := 472) (by decide +kernel)
theorem ml_12_50 : Cond.methodLink (zRn 12) 50 (zy mX11_pass) ∈ lw_tbl := List.mem_of_getElem? (i := 1121) (by decide +kernel)
theorem ml_12_51 : Cond.methodLink (zRn 12) 51 (zy mX10_farm) ∈ lw_tbl := List.mem_of_getElem? (i := 476) (by decide +kernel)
theorem ml_12_54 : Cond.methodLink (zRn 12) 54 (zy mX11_farm) ∈ lw_tbl := List.mem_of_getElem? (i := 1125) (by decide +kernel)
theorem ml_12_55 : Cond.methodLink (zRn 12) 55 (zy mX10_note) ∈ lw_tbl := List.mem_of_getElem? (i := 502) (by decide +kernel)
theorem ml_12_59 : Cond.methodLink (zRn 12) 59 (zy mX11_note) ∈ lw_tbl := List.mem_of_getElem? (i := 1129) (by decide +kernel)
theorem ml_12_60 : Cond.methodLink (zRn 12) 60 (zy mX10_worth) ∈ lw_tbl := List.mem_of_getElem? (i := 539) (by decide +kernel)
theorem ml_12_63 : Cond.methodLink (zRn 12) 63 (zy mX11_worth) ∈ lw_tbl := List.mem_of_getElem? (i := 1137) (by decide +kernel)
theorem ml_12_64 : Cond.methodLink (zRn 12) 64 (zy mX10_law) ∈ lw_tbl := List.mem_of_getElem? (i := 551) (by decide +kernel)
theorem ml_12_68 : Cond.methodLink (zRn 12) 68 (zy mX11_law) ∈ lw_tbl := List.mem_of_getElem? (i := 1149) (by decide +kernel)
theorem ml_12_69 : Cond.methodLink (zRn 12) 69 (zy mX10_fire) ∈ lw_tbl := List.mem_of_getElem? (i := 569) (by decide +kernel)
theorem ml_12_72 : Cond.methodLink (zRn 12) 72 (zy mX11_fire) ∈ lw_tbl := List.mem_of_getElem? (i := 1161) (by decide +kernel)
theorem ml_12_78 : Cond.methodLink (zRn 12) 78 (zy mX11_judge) ∈ lw_tbl := List.mem_of_getElem? (i := 1170) (by decide +kernel)
theorem ml_12_79 : Cond.methodLink (zRn 12) 79 (zy mX11_thrown) ∈ lw_tbl := List.mem_of_getElem? (i := 1054) (by decide +kernel)
theorem ml_12_83 : Cond.methodLink (zRn 12) 83 (zy mX10_say) ∈ lw_tbl := List.mem_of_getElem? (i := 636) (by decide +kernel)
theorem ml_12_87 : Cond.methodLink (zRn 12) 87 (zy mX11_say) ∈ lw_tbl := List.mem_of_getElem? (i := 1182) (by decide +kernel)
theorem ml_12_88 : Cond.methodLink (zRn 12) 88 (zy mX10_close) ∈ lw_tbl := List.mem_of_getElem? (i := 655) (by decide +kernel)
theorem ml_12_91 : Cond.methodLink (zRn 12) 91 (zy mX11_close) ∈ lw_tbl := List.mem_of_getElem? (i := 1186) (by decide +kernel)
theorem ml_12_94 : Cond.methodLink (zRn 12) 94 (zy mX11_look) ∈ lw_tbl := List.mem_of_getElem? (i := 1190) (by decide +kernel)
theorem ml_12_95 : Cond.methodLink (zRn 12) 95 (zy mX10_award) ∈ lw_tbl := List.mem_of_getElem? (i := 659) (by decide +kernel)
theorem ml_12_99 : Cond.methodLink (zRn 12) 99 (zy mX11_award) ∈ lw_tbl := List.mem_of_getElem? (i := 1198) (by decide +kernel)
theorem ml_12_100 : Cond.methodLink (zRn 12) 100 (zy mX10_call) ∈ lw_tbl := List.mem_of_getElem? (i := 712) (by decide +kernel)
theorem ml_12_103 : Cond.methodLink (zRn 12) 103 (zy mX11_call) ∈ lw_tbl := List.mem_of_getElem? (i := 1218) (by decide +kernel)
theorem ml_12_104 : Cond.methodLink (zRn 12) 104 (zy mX10_book) ∈ lw_tbl := List.mem_of_getElem? (i := 741) (by decide +kernel)
theorem ml_12_107 : Cond.methodLink (zRn 12) 107 (zy mX11_book) ∈ lw_tbl := List.mem_of_getElem? (i := 1226) (by decide +kernel)
theorem ml_12_108 : Cond.methodLink (zRn 12) 108 (zy mX10_booked) ∈ lw_tbl := List.mem_of_getElem? (i := 769) (by decide +kernel)
theorem ml_12_112 : Cond.methodLink (zRn 12) 112 (zy mX11_booked) ∈ lw_tbl := List.mem_of_getElem? (i := 1230) (by decide +kernel)
theorem ml_12_116 : Cond.methodLink (zRn 12) 116 (zy mX11_account) ∈ lw_tbl := List.mem_of_getElem? (i := 1234) (by decide +kernel)
theorem ml_12_117 : Cond.methodLink (zRn 12) 117 (zy mX10_count) ∈ lw_tbl := List.mem_of_getElem? (i := 778) (by decide +kernel)
theorem ml_12_120 : Cond.methodLink (zRn 12) 120 (zy mX11_count) ∈ lw_tbl := List.mem_of_getElem? (i := 1238) (by decide +kernel)
theorem zo_in : Cond.instanceMethod objectInit ∈ lw_tbl := List.mem_of_getElem? (i := 84) (by decide +kernel)
theorem zo_co : Cond.code objectInit ⟨#[0xb1]⟩ 1 none ∈ lw_tbl := List.mem_of_getElem? (i := 85) (by decide +kernel)
theorem zac_int : Cond.arrayClass .int ∈ lw_tbl := List.mem_of_getElem? (i := 141) (by decide +kernel)
theorem zac_long : Cond.arrayClass .long ∈ lw_tbl := List.mem_of_getElem? (i := 176) (by decide +kernel)
theorem zac_boolean : Cond.arrayClass .boolean ∈ lw_tbl := List.mem_of_getElem? (i := 1053) (by decide +kernel)
theorem zac_byte : Cond.arrayClass .byte ∈ lw_tbl := List.mem_of_getElem? (i := 124) (by decide +kernel)
