section
variable {l : Launch} {G : zG} {mi : zMI} {Q : zPo} {tb : zTb}
def zMst (mi : zMI) : Bool := (zy mi).cls == zRn (zcN mi) && (!zini mi || (zy mi).name == "<init>") && plainName (zy mi).cls
/-- from the entry -/
theorem z_en (hG : zOK l G) (hw : zwf mi tb) (hq : zMst mi = true) (cuts : List Nat) (f : Nat) {As : List Value} {K N : Nat → Nat} {I : Nat → Nat → Int32} {J : Nat → Nat → Int64} {R : Nat → Nat → Option Nat} {nx0 : Nat} (hst : Nat.ble (lg_sl As).length (zmaxL mi) = true) (htb : (tb.head?.map (fun e => e.1)) = some 0) (h : zrn l G mi Q (fun _ _ => False) tb cuts f false tb (zpad (zmaxL mi) (zl0 As)) [] K N I J R nx0 0 0) : zRuns l G mi As (K, N, I, J, R, nx0) Q := by
  refine z_go hG hw cuts f ?_ h ?_
  · simp only [zMst, Bool.and_eq_true] at hq ⊢
    exact ⟨⟨⟨hst, hq.1.1⟩, hq.1.2⟩, hq.2⟩
  · rcases tb with _ | ⟨⟨p, i, n⟩, t⟩
    · cases htb
    · cases htb
      exact ⟨i, n, t, rfl⟩
end
theorem zk_math : Cond.initialized "java/lang/Math" ∈ lw_tbl := List.mem_append_right _ (List.mem_append_left _ (List.mem_of_getElem? (i := 10) (by decide +kernel)))
theorem qX0_init : zMst mX0_init = true := by decide +kernel
theorem qX0_tell : zMst mX0_tell = true := by decide +kernel
theorem qX0_counted : zMst mX0_counted = true := by decide +kernel
theorem qX1_init : zMst mX1_init = true := by decide +kernel
theorem qX1_addJudge : zMst mX1_addJudge = true := by decide +kernel
theorem qX1_hasJudge : zMst mX1_hasJudge = true := by decide +kernel
theorem qX1_judgeAt : zMst mX1_judgeAt = true := by decide +kernel
theorem qX1_isJudge : zMst mX1_isJudge = true := by decide +kernel
theorem qX1_hear : zMst mX1_hear = true := by decide +kernel
theorem qX1_lost : zMst mX1_lost = true := by decide +kernel
theorem qX1_settledOf : zMst mX1_settledOf = true := by decide +kernel
theorem qX1_settle : zMst mX1_settle = true := by decide +kernel
theorem qX1_heardAt : zMst mX1_heardAt = true := by decide +kernel
theorem qX2_init : zMst mX2_init = true := by decide +kernel
theorem qX2_startPage : zMst mX2_startPage = true := by decide +kernel
theorem qX2_write : zMst mX2_write = true := by decide +kernel
theorem qX2_entry : zMst mX2_entry = true := by decide +kernel
theorem qX3_init : zMst mX3_init = true := by decide +kernel
theorem qX4_init : zMst mX4_init = true := by decide +kernel
theorem qX4_start : zMst mX4_start = true := by decide +kernel
theorem qX4_bear : zMst mX4_bear = true := by decide +kernel
theorem qX4_coins : zMst mX4_coins = true := by decide +kernel
theorem qX5_init : zMst mX5_init = true := by decide +kernel
theorem qX5_readText : zMst mX5_readText = true := by decide +kernel
theorem qX5_readLine : zMst mX5_readLine = true := by decide +kernel
theorem qX5_readRate : zMst mX5_readRate = true := by decide +kernel
theorem qX5_readSeason : zMst mX5_readSeason = true := by decide +kernel
theorem qX5_readDuty : zMst mX5_readDuty = true := by decide +kernel
theorem qX5_readNone : zMst mX5_readNone = true := by decide +kernel
theorem qX5_readOther : zMst mX5_readOther = true := by decide +kernel
theorem qX5_takeClass : zMst mX5_takeClass = true := by decide +kernel
theorem qX5_takeWord : zMst mX5_takeWord = true := by decide +kernel
theorem qX5_takeMark : zMst mX5_takeMark = true := by decide +kernel
theorem qX5_takeNumber : zMst mX5_takeNumber = true := by decide +kernel
theorem qX5_keep : zMst mX5_keep = true := by decide +kernel
theorem qX5_fail : zMst mX5_fail = true := by decide +kernel
theorem qX6_init : zMst mX6_init = true := by decide +kernel
theorem qX6_start : zMst mX6_start = true := by decide +kernel
theorem qX6_weigh : zMst mX6_weigh = true := by decide +kernel
theorem qX6_spread : zMst mX6_spread = true := by decide +kernel
theorem qX6_coins : zMst mX6_coins = true := by decide +kernel
theorem qX6_addCoin : zMst mX6_addCoin = true := by decide +kernel
theorem qX7_init : zMst mX7_init = true := by decide +kernel
theorem qX7_isInForce : zMst mX7_isInForce = true := by decide +kernel
theorem qX7_numberAt : zMst mX7_numberAt = true := by decide +kernel
theorem qX7_setNumber : zMst mX7_setNumber = true := by decide +kernel
theorem qX8_init : zMst mX8_init = true := by decide +kernel
theorem qX8_isFull : zMst mX8_isFull = true := by decide +kernel
theorem qX8_textAt : zMst mX8_textAt = true := by decide +kernel
theorem qX8_enact : zMst mX8_enact = true := by decide +kernel
theorem qX8_says : zMst mX8_says = true := by decide +kernel
theorem qX8_counted : zMst mX8_counted = true := by decide +kernel
theorem qX9_init : zMst mX9_init = true := by decide +kernel
theorem qX9_hasRoom : zMst mX9_hasRoom = true := by decide +kernel
theorem qX9_put : zMst mX9_put = true := by decide +kernel
theorem qX9_clear : zMst mX9_clear = true := by decide +kernel
theorem qX9_start : zMst mX9_start = true := by decide +kernel
theorem qX9_advance : zMst mX9_advance = true := by decide +kernel
theorem qX9_isMark : zMst mX9_isMark = true := by decide +kernel
theorem qX9_isWord : zMst mX9_isWord = true := by decide +kernel
theorem qX9_signAt : zMst mX9_signAt = true := by decide +kernel
theorem qX9_isBlank : zMst mX9_isBlank = true := by decide +kernel
theorem qX9_isSmallLetter : zMst mX9_isSmallLetter = true := by decide +kernel
theorem qX9_isDigit : zMst mX9_isDigit = true := by decide +kernel
theorem qX10_init : zMst mX10_init = true := by decide +kernel
theorem qX10_feed : zMst mX10_feed = true := by decide +kernel
theorem qX10_vote : zMst mX10_vote = true := by decide +kernel
theorem qX10_fault : zMst mX10_fault = true := by decide +kernel
theorem qX10_undo : zMst mX10_undo = true := by decide +kernel
theorem qX10_pass : zMst mX10_pass = true := by decide +kernel
theorem qX10_farm : zMst mX10_farm = true := by decide +kernel
theorem qX10_note : zMst mX10_note = true := by decide +kernel
theorem qX10_worth : zMst mX10_worth = true := by decide +kernel
theorem qX10_law : zMst mX10_law = true := by decide +kernel
theorem qX10_fire : zMst mX10_fire = true := by decide +kernel
theorem qX10_judge : zMst mX10_judge = true := by decide +kernel
theorem qX10_say : zMst mX10_say = true := by decide +kernel
theorem qX10_close : zMst mX10_close = true := by decide +kernel
theorem qX10_look : zMst mX10_look = true := by decide +kernel
theorem qX10_award : zMst mX10_award = true := by decide +kernel
theorem qX10_call : zMst mX10_call = true := by decide +kernel
theorem qX10_book : zMst mX10_book = true := by decide +kernel
theorem qX10_booked : zMst mX10_booked = true := by decide +kernel
theorem qX10_account : zMst mX10_account = true := by decide +kernel
theorem qX10_count : zMst mX10_count = true := by decide +kernel
theorem qX10_isDay : zMst mX10_isDay = true := by decide +kernel
theorem qX10_isClass : zMst mX10_isClass = true := by decide +kernel
theorem qX10_isToldKind : zMst mX10_isToldKind = true := by decide +kernel
theorem qX10_isKnowable : zMst mX10_isKnowable = true := by decide +kernel
theorem qX10_isKnowableOf : zMst mX10_isKnowableOf = true := by decide +kernel
theorem qX10_farmAt : zMst mX10_farmAt = true := by decide +kernel
theorem qX10_fireAt : zMst mX10_fireAt = true := by decide +kernel
theorem qX10_drawJudges : zMst mX10_drawJudges = true := by decide +kernel
theorem qX10_eligibleCount : zMst mX10_eligibleCount = true := by decide +kernel
theorem qX10_eligibleAt : zMst mX10_eligibleAt = true := by decide +kernel
theorem qX10_isEligible : zMst mX10_isEligible = true := by decide +kernel
theorem qX10_reckonParts : zMst mX10_reckonParts = true := by decide +kernel
theorem qX10_reckonAward : zMst mX10_reckonAward = true := by decide +kernel
theorem qX10_damage : zMst mX10_damage = true := by decide +kernel
theorem qX10_withoutHundredths : zMst mX10_withoutHundredths = true := by decide +kernel
theorem qX10_reckonCalls : zMst mX10_reckonCalls = true := by decide +kernel
theorem qX10_bookFire : zMst mX10_bookFire = true := by decide +kernel
theorem qX10_bookFarm : zMst mX10_bookFarm = true := by decide +kernel
theorem qX11_init : zMst mX11_init = true := by decide +kernel
theorem qX11_thrown : zMst mX11_thrown = true := by decide +kernel
theorem qX11_feed : zMst mX11_feed = true := by decide +kernel
theorem qX11_wrong : zMst mX11_wrong = true := by decide +kernel
theorem qX11_wordAt : zMst mX11_wordAt = true := by decide +kernel
theorem qX11_isSmall : zMst mX11_isSmall = true := by decide +kernel
theorem qX11_isDigit : zMst mX11_isDigit = true := by decide +kernel
theorem qX11_take : zMst mX11_take = true := by decide +kernel
theorem qX11_is : zMst mX11_is = true := by decide +kernel
theorem qX11_number : zMst mX11_number = true := by decide +kernel
theorem qX11_classWord : zMst mX11_classWord = true := by decide +kernel
theorem qX11_seasons : zMst mX11_seasons = true := by decide +kernel
theorem qX11_line : zMst mX11_line = true := by decide +kernel
theorem qX11_text : zMst mX11_text = true := by decide +kernel
theorem qX11_isDay : zMst mX11_isDay = true := by decide +kernel
theorem qX11_vote : zMst mX11_vote = true := by decide +kernel
theorem qX11_fault : zMst mX11_fault = true := by decide +kernel
theorem qX11_undo : zMst mX11_undo = true := by decide +kernel
theorem qX11_pass : zMst mX11_pass = true := by decide +kernel
theorem qX11_farm : zMst mX11_farm = true := by decide +kernel
theorem qX11_isFarm : zMst mX11_isFarm = true := by decide +kernel
theorem qX11_note : zMst mX11_note = true := by decide +kernel
theorem qX11_counts : zMst mX11_counts = true := by decide +kernel
theorem qX11_areDays : zMst mX11_areDays = true := by decide +kernel
theorem qX11_worth : zMst mX11_worth = true := by decide +kernel
theorem qX11_winner : zMst mX11_winner = true := by decide +kernel
theorem qX11_says : zMst mX11_says = true := by decide +kernel
theorem qX11_law : zMst mX11_law = true := by decide +kernel
theorem qX11_fire : zMst mX11_fire = true := by decide +kernel
theorem qX11_can : zMst mX11_can = true := by decide +kernel
theorem qX11_isFire : zMst mX11_isFire = true := by decide +kernel
theorem qX11_fails : zMst mX11_fails = true := by decide +kernel
theorem qX11_judge : zMst mX11_judge = true := by decide +kernel
theorem qX11_say : zMst mX11_say = true := by decide +kernel
theorem qX11_close : zMst mX11_close = true := by decide +kernel
theorem qX11_lost : zMst mX11_lost = true := by decide +kernel
theorem qX11_look : zMst mX11_look = true := by decide +kernel
theorem qX11_awarded : zMst mX11_awarded = true := by decide +kernel
theorem qX11_share : zMst mX11_share = true := by decide +kernel
theorem qX11_isKnown : zMst mX11_isKnown = true := by decide +kernel
theorem qX11_award : zMst mX11_award = true := by decide +kernel
theorem qX11_callAll : zMst mX11_callAll = true := by decide +kernel
theorem qX11_call : zMst mX11_call = true := by decide +kernel
theorem qX11_book : zMst mX11_book = true := by decide +kernel
theorem qX11_booked : zMst mX11_booked = true := by decide +kernel
theorem qX11_account : zMst mX11_account = true := by decide +kernel
theorem qX11_count : zMst mX11_count = true := by decide +kernel
theorem qL_judge : zMst mL_judge = true := by decide +kernel
theorem qL_look : zMst mL_look = true := by decide +kernel
theorem qL_account : zMst mL_account = true := by decide +kernel
theorem qL_law : zMst mL_law = true := by decide +kernel
theorem zk_mmin_s : Cond.static Lib.Math.min.name ∈ lw_tbl := List.mem_append_right _ (List.mem_append_right _ (List.mem_append_left _ (List.mem_of_getElem? (i := 30) (by decide +kernel))))
theorem zk_mmin_c : Cond.code Lib.Math.min.name Lib.Math.min.code 2 (some .int) ∈ lw_tbl := List.mem_append_right _ (List.mem_append_right _ (List.mem_append_left _ (List.mem_of_getElem? (i := 31) (by decide +kernel))))
theorem mk_9_51 : Cond.methodLink (zRn 9) 51 Lib.Math.min.name ∈ lw_tbl := List.mem_append_right _ (List.mem_append_right _ (List.mem_append_left _ (List.mem_of_getElem? (i := 29) (by decide +kernel))))
theorem mk_1_43 : Cond.methodLink (zRn 1) 43 Lib.Math.min.name ∈ lw_tbl := List.mem_append_right _ (List.mem_append_right _ (List.mem_append_right _ (List.mem_append_left _ (List.mem_of_getElem? (i := 153) (by decide +kernel)))))
theorem z_mmin {l : Launch} {G : zG} {mi : zMI} {Q : zPo} {PX : String → zS → Prop} {pc idx : Nat} {L : Nat → Option Value} {S : List Value} {σ : zS} {kc ks : Nat} {x y : Int32} (d : decode (zcode mi) pc = .ok (.invokestatic idx, 3)) (hlk : Cond.methodLink (zRn (zcN mi)) idx Lib.Math.min.name ∈ lw_tbl) (hd : 1 ≤ zd mi) (hS : (S.map fun v => v.category).sum ≤ 8) (hc : kc ≤ zmc mi) (hs : ks ≤ zms mi) (k : Z l G mi Q PX (pc + 3) L (.int (if y < x then y else x) :: S) σ kc ks) : Z l G mi Q PX pc L (.int y :: .int x :: S) σ kc ks := by
  intro p e s m args below meth c C H locs ls hR hz hlo hL
  have e1 : ((S.map (zcv G)).map fun v => v.category) = S.map fun v => v.category := by
    rw [List.map_map]
    exact List.map_congr_left fun v _ => z_cat G v
  exact va_mmin C.1.1 C.1.2.1 (by rw [C.1.2.2.1]; exact hL.1.symm) C.1.2.2.2.2.1 (zw C.2.1 C.2.2.1 hlk rfl args) (zw C.2.1 C.2.2.1 zk_mmin_s rfl args) (zw C.2.1 C.2.2.1 zk_math rfl args) (zw C.2.1 C.2.2.1 zk_mmin_c rfl args) hd (by rw [e1]; show _ ≤ 36 * zd mi; omega) hc hs d (k p e s m args below meth c C H locs ls hR hz hlo hL)
theorem zk_mmax_s : Cond.static Lib.Math.max.name ∈ lw_tbl := List.mem_append_right _ (List.mem_append_right _ (List.mem_append_right _ (List.mem_append_left _ (List.mem_of_getElem? (i := 155) (by decide +kernel)))))
theorem zk_mmax_c : Cond.code Lib.Math.max.name Lib.Math.max.code 2 (some .int) ∈ lw_tbl := List.mem_append_right _ (List.mem_append_right _ (List.mem_append_right _ (List.mem_append_left _ (List.mem_of_getElem? (i := 156) (by decide +kernel)))))
theorem mk_1_48 : Cond.methodLink (zRn 1) 48 Lib.Math.max.name ∈ lw_tbl := List.mem_append_right _ (List.mem_append_right _ (List.mem_append_right _ (List.mem_append_left _ (List.mem_of_getElem? (i := 154) (by decide +kernel)))))
theorem z_mmax {l : Launch} {G : zG} {mi : zMI} {Q : zPo} {PX : String → zS → Prop} {pc idx : Nat} {L : Nat → Option Value} {S : List Value} {σ : zS} {kc ks : Nat} {x y : Int32} (d : decode (zcode mi) pc = .ok (.invokestatic idx, 3)) (hlk : Cond.methodLink (zRn (zcN mi)) idx Lib.Math.max.name ∈ lw_tbl) (hd : 1 ≤ zd mi) (hS : (S.map fun v => v.category).sum ≤ 8) (hc : kc ≤ zmc mi) (hs : ks ≤ zms mi) (k : Z l G mi Q PX (pc + 3) L (.int (if x < y then y else x) :: S) σ kc ks) : Z l G mi Q PX pc L (.int y :: .int x :: S) σ kc ks := by
  intro p e s m args below meth c C H locs ls hR hz hlo hL
  have e1 : ((S.map (zcv G)).map fun v => v.category) = S.map fun v => v.category := by
    rw [List.map_map]
    exact List.map_congr_left fun v _ => z_cat G v
  exact va_mmax C.1.1 C.1.2.1 (by rw [C.1.2.2.1]; exact hL.1.symm) C.1.2.2.2.2.1 (zw C.2.1 C.2.2.1 hlk rfl args) (zw C.2.1 C.2.2.1 zk_mmax_s rfl args) (zw C.2.1 C.2.2.1 zk_math rfl args) (zw C.2.1 C.2.2.1 zk_mmax_c rfl args) hd (by rw [e1]; show _ ≤ 36 * zd mi; omega) hc hs d (k p e s m args below meth c C H locs ls hR hz hlo hL)
theorem zk_mmin_long_s : Cond.static Lib.MathLoose.min_long.x ∈ lw_tbl := List.mem_append_right _ (List.mem_append_right _ (List.mem_append_right _ (List.mem_append_left _ (List.mem_of_getElem? (i := 171) (by decide +kernel)))))
theorem zk_mmin_long_c : Cond.code Lib.MathLoose.min_long.x Lib.MathLoose.min_long.code 4 (some .long) ∈ lw_tbl := List.mem_append_right _ (List.mem_append_right _ (List.mem_append_right _ (List.mem_append_left _ (List.mem_of_getElem? (i := 172) (by decide +kernel)))))
theorem mk_4_15 : Cond.methodLink (zRn 4) 15 Lib.MathLoose.min_long.x ∈ lw_tbl := List.mem_append_right _ (List.mem_append_right _ (List.mem_append_right _ (List.mem_append_left _ (List.mem_of_getElem? (i := 170) (by decide +kernel)))))
theorem z_mmin_long {l : Launch} {G : zG} {mi : zMI} {Q : zPo} {PX : String → zS → Prop} {pc idx : Nat} {L : Nat → Option Value} {S : List Value} {σ : zS} {kc ks : Nat} {x y : Int64} (d : decode (zcode mi) pc = .ok (.invokestatic idx, 3)) (hlk : Cond.methodLink (zRn (zcN mi)) idx Lib.MathLoose.min_long.x ∈ lw_tbl) (hd : 1 ≤ zd mi) (hS : (S.map fun v => v.category).sum ≤ 8) (hc : kc ≤ zmc mi) (hs : ks ≤ zms mi) (k : Z l G mi Q PX (pc + 3) L (.long (if y < x then y else x) :: S) σ kc ks) : Z l G mi Q PX pc L (.long y :: .long x :: S) σ kc ks := by
  intro p e s m args below meth c C H locs ls hR hz hlo hL
  have e1 : ((S.map (zcv G)).map fun v => v.category) = S.map fun v => v.category := by
    rw [List.map_map]
    exact List.map_congr_left fun v _ => z_cat G v
  exact va_mmin_long C.1.1 C.1.2.1 (by rw [C.1.2.2.1]; exact hL.1.symm) C.1.2.2.2.2.1 (zw C.2.1 C.2.2.1 hlk rfl args) (zw C.2.1 C.2.2.1 zk_mmin_long_s rfl args) (zw C.2.1 C.2.2.1 zk_math rfl args) (zw C.2.1 C.2.2.1 zk_mmin_long_c rfl args) hd (by rw [e1]; show _ ≤ 36 * zd mi; omega) hc hs d (k p e s m args below meth c C H locs ls hR hz hlo hL)
