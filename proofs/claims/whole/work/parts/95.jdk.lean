/-! The JDK methods behind Tape.isWord, laid by program (tools/mkjdk.py). -/
def mJ0_coder_7d493 : zMI := (yJ0_coder_7d493, cJ0_coder_7d493, 1, (some .byte), 0, 0, 0, 14, false)
set_option maxRecDepth 20000 in
theorem zm_J0_coder_7d493 : zMok mJ0_coder_7d493 0 := ⟨List.mem_append_right _ (List.mem_append_right _ (List.mem_append_left _ (List.mem_of_getElem? (i := 52) (by decide +kernel)))), List.mem_append_right _ (List.mem_append_left _ (List.mem_of_getElem? (i := 11) (by decide +kernel))), ⟨by decide, by decide⟩, by decide +kernel⟩
theorem zi_J0_coder_7d493 : Cond.instanceMethod (zy mJ0_coder_7d493) ∈ lw_tbl := List.mem_append_right _ (List.mem_append_right _ (List.mem_append_left _ (List.mem_of_getElem? (i := 50) (by decide +kernel))))
theorem zse_J0_coder_7d493 : Cond.selects "java/lang/String" (zy mJ0_coder_7d493) (zy mJ0_coder_7d493) ∈ lw_tbl := List.mem_append_right _ (List.mem_append_right _ (List.mem_append_left _ (List.mem_of_getElem? (i := 51) (by decide +kernel))))
theorem qJ0_coder_7d493 : zMst mJ0_coder_7d493 = true := by decide +kernel
theorem dJ0_coder_7d493_0 : decode (zcode mJ0_coder_7d493) 0 = .ok (.getstatic 38, 3) := by decide +kernel
theorem dJ0_coder_7d493_3 : decode (zcode mJ0_coder_7d493) 3 = .ok (.ifCond .eq 10, 3) := by decide +kernel
theorem dJ0_coder_7d493_6 : decode (zcode mJ0_coder_7d493) 6 = .ok (.aload_n 0, 1) := by decide +kernel
theorem dJ0_coder_7d493_7 : decode (zcode mJ0_coder_7d493) 7 = .ok (.getfield 15, 3) := by decide +kernel
theorem dJ0_coder_7d493_10 : decode (zcode mJ0_coder_7d493) 10 = .ok (.goto 4, 3) := by decide +kernel
theorem dJ0_coder_7d493_13 : decode (zcode mJ0_coder_7d493) 13 = .ok (.iconst 1, 1) := by decide +kernel
theorem dJ0_coder_7d493_14 : decode (zcode mJ0_coder_7d493) 14 = .ok (.ireturn, 1) := by decide +kernel
def mJ0_isLatin1_aae02 : zMI := (yJ0_isLatin1_aae02, cJ0_isLatin1_aae02, 1, (some .boolean), 0, 0, 0, 14, false)
set_option maxRecDepth 20000 in
theorem zm_J0_isLatin1_aae02 : zMok mJ0_isLatin1_aae02 0 := ⟨List.mem_append_right _ (List.mem_append_right _ (List.mem_append_left _ (List.mem_of_getElem? (i := 62) (by decide +kernel)))), List.mem_append_right _ (List.mem_append_left _ (List.mem_of_getElem? (i := 11) (by decide +kernel))), ⟨by decide, by decide⟩, by decide +kernel⟩
theorem zi_J0_isLatin1_aae02 : Cond.instanceMethod (zy mJ0_isLatin1_aae02) ∈ lw_tbl := List.mem_append_right _ (List.mem_append_right _ (List.mem_append_left _ (List.mem_of_getElem? (i := 60) (by decide +kernel))))
theorem zse_J0_isLatin1_aae02 : Cond.selects "java/lang/String" (zy mJ0_isLatin1_aae02) (zy mJ0_isLatin1_aae02) ∈ lw_tbl := List.mem_append_right _ (List.mem_append_right _ (List.mem_append_left _ (List.mem_of_getElem? (i := 61) (by decide +kernel))))
theorem qJ0_isLatin1_aae02 : zMst mJ0_isLatin1_aae02 = true := by decide +kernel
theorem dJ0_isLatin1_aae02_0 : decode (zcode mJ0_isLatin1_aae02) 0 = .ok (.getstatic 38, 3) := by decide +kernel
theorem dJ0_isLatin1_aae02_3 : decode (zcode mJ0_isLatin1_aae02) 3 = .ok (.ifCond .eq 14, 3) := by decide +kernel
theorem dJ0_isLatin1_aae02_6 : decode (zcode mJ0_isLatin1_aae02) 6 = .ok (.aload_n 0, 1) := by decide +kernel
theorem dJ0_isLatin1_aae02_7 : decode (zcode mJ0_isLatin1_aae02) 7 = .ok (.getfield 15, 3) := by decide +kernel
theorem dJ0_isLatin1_aae02_10 : decode (zcode mJ0_isLatin1_aae02) 10 = .ok (.ifCond .ne 7, 3) := by decide +kernel
theorem dJ0_isLatin1_aae02_13 : decode (zcode mJ0_isLatin1_aae02) 13 = .ok (.iconst 1, 1) := by decide +kernel
theorem dJ0_isLatin1_aae02_14 : decode (zcode mJ0_isLatin1_aae02) 14 = .ok (.goto 4, 3) := by decide +kernel
theorem dJ0_isLatin1_aae02_17 : decode (zcode mJ0_isLatin1_aae02) 17 = .ok (.iconst 0, 1) := by decide +kernel
theorem dJ0_isLatin1_aae02_18 : decode (zcode mJ0_isLatin1_aae02) 18 = .ok (.ireturn, 1) := by decide +kernel
def mJ0_length_8abf5 : zMI := (yJ0_length_8abf5, cJ0_length_8abf5, 1, (some .int), 1, 0, 0, 14, false)
set_option maxRecDepth 20000 in
theorem zm_J0_length_8abf5 : zMok mJ0_length_8abf5 0 := ⟨List.mem_append_right _ (List.mem_append_right _ (List.mem_append_left _ (List.mem_of_getElem? (i := 48) (by decide +kernel)))), List.mem_append_right _ (List.mem_append_left _ (List.mem_of_getElem? (i := 11) (by decide +kernel))), ⟨by decide, by decide⟩, by decide +kernel⟩
theorem zi_J0_length_8abf5 : Cond.instanceMethod (zy mJ0_length_8abf5) ∈ lw_tbl := List.mem_append_right _ (List.mem_append_right _ (List.mem_append_left _ (List.mem_of_getElem? (i := 46) (by decide +kernel))))
theorem zse_J0_length_8abf5 : Cond.selects "java/lang/String" (zy mJ0_length_8abf5) (zy mJ0_length_8abf5) ∈ lw_tbl := List.mem_append_right _ (List.mem_append_right _ (List.mem_append_left _ (List.mem_of_getElem? (i := 47) (by decide +kernel))))
theorem qJ0_length_8abf5 : zMst mJ0_length_8abf5 = true := by decide +kernel
theorem dJ0_length_8abf5_0 : decode (zcode mJ0_length_8abf5) 0 = .ok (.aload_n 0, 1) := by decide +kernel
theorem dJ0_length_8abf5_1 : decode (zcode mJ0_length_8abf5) 1 = .ok (.getfield 9, 3) := by decide +kernel
theorem dJ0_length_8abf5_4 : decode (zcode mJ0_length_8abf5) 4 = .ok (.arraylength, 1) := by decide +kernel
theorem dJ0_length_8abf5_5 : decode (zcode mJ0_length_8abf5) 5 = .ok (.aload_n 0, 1) := by decide +kernel
theorem dJ0_length_8abf5_6 : decode (zcode mJ0_length_8abf5) 6 = .ok (.invokevirtual 335, 3) := by decide +kernel
theorem dJ0_length_8abf5_9 : decode (zcode mJ0_length_8abf5) 9 = .ok (.ishr, 1) := by decide +kernel
theorem dJ0_length_8abf5_10 : decode (zcode mJ0_length_8abf5) 10 = .ok (.ireturn, 1) := by decide +kernel
def mJ3_checkIndex_8e157 : zMI := (yJ3_checkIndex_8e157, cJ3_checkIndex_8e157, 3, (some .int), 0, 0, 0, 16, false)
set_option maxRecDepth 20000 in
theorem zm_J3_checkIndex_8e157 : zMok mJ3_checkIndex_8e157 3 := ⟨List.mem_append_right _ (List.mem_append_right _ (List.mem_append_left _ (List.mem_of_getElem? (i := 73) (by decide +kernel)))), List.mem_append_right _ (List.mem_append_left _ (List.mem_of_getElem? (i := 13) (by decide +kernel))), ⟨by decide, by decide⟩, by decide +kernel⟩
theorem zs_J3_checkIndex_8e157 : Cond.static (zy mJ3_checkIndex_8e157) ∈ lw_tbl := List.mem_append_right _ (List.mem_append_right _ (List.mem_append_left _ (List.mem_of_getElem? (i := 72) (by decide +kernel))))
theorem qJ3_checkIndex_8e157 : zMst mJ3_checkIndex_8e157 = true := by decide +kernel
theorem dJ3_checkIndex_8e157_0 : decode (zcode mJ3_checkIndex_8e157) 0 = .ok (.iload_n 0, 1) := by decide +kernel
theorem dJ3_checkIndex_8e157_1 : decode (zcode mJ3_checkIndex_8e157) 1 = .ok (.ifCond .lt 8, 3) := by decide +kernel
theorem dJ3_checkIndex_8e157_4 : decode (zcode mJ3_checkIndex_8e157) 4 = .ok (.iload_n 0, 1) := by decide +kernel
theorem dJ3_checkIndex_8e157_5 : decode (zcode mJ3_checkIndex_8e157) 5 = .ok (.iload_n 1, 1) := by decide +kernel
theorem dJ3_checkIndex_8e157_6 : decode (zcode mJ3_checkIndex_8e157) 6 = .ok (.if_icmp .lt 10, 3) := by decide +kernel
theorem dJ3_checkIndex_8e157_9 : decode (zcode mJ3_checkIndex_8e157) 9 = .ok (.aload_n 2, 1) := by decide +kernel
theorem dJ3_checkIndex_8e157_10 : decode (zcode mJ3_checkIndex_8e157) 10 = .ok (.iload_n 0, 1) := by decide +kernel
theorem dJ3_checkIndex_8e157_11 : decode (zcode mJ3_checkIndex_8e157) 11 = .ok (.iload_n 1, 1) := by decide +kernel
theorem dJ3_checkIndex_8e157_12 : decode (zcode mJ3_checkIndex_8e157) 12 = .ok (.invokestatic 95, 3) := by decide +kernel
theorem dJ3_checkIndex_8e157_15 : decode (zcode mJ3_checkIndex_8e157) 15 = .ok (.athrow, 1) := by decide +kernel
theorem dJ3_checkIndex_8e157_16 : decode (zcode mJ3_checkIndex_8e157) 16 = .ok (.iload_n 0, 1) := by decide +kernel
theorem dJ3_checkIndex_8e157_17 : decode (zcode mJ3_checkIndex_8e157) 17 = .ok (.ireturn, 1) := by decide +kernel
def mJ0_checkIndex_df160 : zMI := (yJ0_checkIndex_df160, cJ0_checkIndex_df160, 2, none, 1, 0, 0, 14, false)
set_option maxRecDepth 20000 in
theorem zm_J0_checkIndex_df160 : zMok mJ0_checkIndex_df160 2 := ⟨List.mem_append_right _ (List.mem_append_right _ (List.mem_append_left _ (List.mem_of_getElem? (i := 68) (by decide +kernel)))), List.mem_append_right _ (List.mem_append_left _ (List.mem_of_getElem? (i := 11) (by decide +kernel))), ⟨by decide, by decide⟩, by decide +kernel⟩
theorem zs_J0_checkIndex_df160 : Cond.static (zy mJ0_checkIndex_df160) ∈ lw_tbl := List.mem_append_right _ (List.mem_append_right _ (List.mem_append_left _ (List.mem_of_getElem? (i := 67) (by decide +kernel))))
theorem qJ0_checkIndex_df160 : zMst mJ0_checkIndex_df160 = true := by decide +kernel
theorem dJ0_checkIndex_df160_0 : decode (zcode mJ0_checkIndex_df160) 0 = .ok (.iload_n 0, 1) := by decide +kernel
theorem dJ0_checkIndex_df160_1 : decode (zcode mJ0_checkIndex_df160) 1 = .ok (.iload_n 1, 1) := by decide +kernel
theorem dJ0_checkIndex_df160_2 : decode (zcode mJ0_checkIndex_df160) 2 = .ok (.getstatic 1053, 3) := by decide +kernel
theorem dJ0_checkIndex_df160_5 : decode (zcode mJ0_checkIndex_df160) 5 = .ok (.invokestatic 1059, 3) := by decide +kernel
theorem dJ0_checkIndex_df160_8 : decode (zcode mJ0_checkIndex_df160) 8 = .ok (.pop, 1) := by decide +kernel
theorem dJ0_checkIndex_df160_9 : decode (zcode mJ0_checkIndex_df160) 9 = .ok (.return_, 1) := by decide +kernel
def mJ1_charAt_3b067 : zMI := (yJ1_charAt_3b067, cJ1_charAt_3b067, 2, (some .char), 2, 0, 0, 15, false)
set_option maxRecDepth 20000 in
theorem zm_J1_charAt_3b067 : zMok mJ1_charAt_3b067 2 := ⟨List.mem_append_right _ (List.mem_append_right _ (List.mem_append_left _ (List.mem_of_getElem? (i := 65) (by decide +kernel)))), List.mem_append_right _ (List.mem_append_left _ (List.mem_of_getElem? (i := 12) (by decide +kernel))), ⟨by decide, by decide⟩, by decide +kernel⟩
theorem zs_J1_charAt_3b067 : Cond.static (zy mJ1_charAt_3b067) ∈ lw_tbl := List.mem_append_right _ (List.mem_append_right _ (List.mem_append_left _ (List.mem_of_getElem? (i := 64) (by decide +kernel))))
theorem qJ1_charAt_3b067 : zMst mJ1_charAt_3b067 = true := by decide +kernel
theorem dJ1_charAt_3b067_0 : decode (zcode mJ1_charAt_3b067) 0 = .ok (.iload_n 1, 1) := by decide +kernel
theorem dJ1_charAt_3b067_1 : decode (zcode mJ1_charAt_3b067) 1 = .ok (.aload_n 0, 1) := by decide +kernel
theorem dJ1_charAt_3b067_2 : decode (zcode mJ1_charAt_3b067) 2 = .ok (.arraylength, 1) := by decide +kernel
theorem dJ1_charAt_3b067_3 : decode (zcode mJ1_charAt_3b067) 3 = .ok (.invokestatic 9, 3) := by decide +kernel
theorem dJ1_charAt_3b067_6 : decode (zcode mJ1_charAt_3b067) 6 = .ok (.aload_n 0, 1) := by decide +kernel
theorem dJ1_charAt_3b067_7 : decode (zcode mJ1_charAt_3b067) 7 = .ok (.iload_n 1, 1) := by decide +kernel
theorem dJ1_charAt_3b067_8 : decode (zcode mJ1_charAt_3b067) 8 = .ok (.baload, 1) := by decide +kernel
theorem dJ1_charAt_3b067_9 : decode (zcode mJ1_charAt_3b067) 9 = .ok (.sipush 255, 3) := by decide +kernel
theorem dJ1_charAt_3b067_12 : decode (zcode mJ1_charAt_3b067) 12 = .ok (.iand, 1) := by decide +kernel
theorem dJ1_charAt_3b067_13 : decode (zcode mJ1_charAt_3b067) 13 = .ok (.i2c, 1) := by decide +kernel
theorem dJ1_charAt_3b067_14 : decode (zcode mJ1_charAt_3b067) 14 = .ok (.ireturn, 1) := by decide +kernel
def mJ0_charAt_5068e : zMI := (yJ0_charAt_5068e, cJ0_charAt_5068e, 2, (some .char), 3, 0, 0, 14, false)
set_option maxRecDepth 20000 in
theorem zm_J0_charAt_5068e : zMok mJ0_charAt_5068e 1 := ⟨List.mem_append_right _ (List.mem_append_right _ (List.mem_append_left _ (List.mem_of_getElem? (i := 58) (by decide +kernel)))), List.mem_append_right _ (List.mem_append_left _ (List.mem_of_getElem? (i := 11) (by decide +kernel))), ⟨by decide, by decide⟩, by decide +kernel⟩
theorem zi_J0_charAt_5068e : Cond.instanceMethod (zy mJ0_charAt_5068e) ∈ lw_tbl := List.mem_append_right _ (List.mem_append_right _ (List.mem_append_left _ (List.mem_of_getElem? (i := 56) (by decide +kernel))))
theorem zse_J0_charAt_5068e : Cond.selects "java/lang/String" (zy mJ0_charAt_5068e) (zy mJ0_charAt_5068e) ∈ lw_tbl := List.mem_append_right _ (List.mem_append_right _ (List.mem_append_left _ (List.mem_of_getElem? (i := 57) (by decide +kernel))))
theorem qJ0_charAt_5068e : zMst mJ0_charAt_5068e = true := by decide +kernel
theorem dJ0_charAt_5068e_0 : decode (zcode mJ0_charAt_5068e) 0 = .ok (.aload_n 0, 1) := by decide +kernel
theorem dJ0_charAt_5068e_1 : decode (zcode mJ0_charAt_5068e) 1 = .ok (.invokevirtual 492, 3) := by decide +kernel
theorem dJ0_charAt_5068e_4 : decode (zcode mJ0_charAt_5068e) 4 = .ok (.ifCond .eq 12, 3) := by decide +kernel
theorem dJ0_charAt_5068e_7 : decode (zcode mJ0_charAt_5068e) 7 = .ok (.aload_n 0, 1) := by decide +kernel
theorem dJ0_charAt_5068e_8 : decode (zcode mJ0_charAt_5068e) 8 = .ok (.getfield 9, 3) := by decide +kernel
theorem dJ0_charAt_5068e_11 : decode (zcode mJ0_charAt_5068e) 11 = .ok (.iload_n 1, 1) := by decide +kernel
theorem dJ0_charAt_5068e_12 : decode (zcode mJ0_charAt_5068e) 12 = .ok (.invokestatic 495, 3) := by decide +kernel
theorem dJ0_charAt_5068e_15 : decode (zcode mJ0_charAt_5068e) 15 = .ok (.ireturn, 1) := by decide +kernel
theorem dJ0_charAt_5068e_16 : decode (zcode mJ0_charAt_5068e) 16 = .ok (.aload_n 0, 1) := by decide +kernel
theorem dJ0_charAt_5068e_17 : decode (zcode mJ0_charAt_5068e) 17 = .ok (.getfield 9, 3) := by decide +kernel
theorem dJ0_charAt_5068e_20 : decode (zcode mJ0_charAt_5068e) 20 = .ok (.iload_n 1, 1) := by decide +kernel
theorem dJ0_charAt_5068e_21 : decode (zcode mJ0_charAt_5068e) 21 = .ok (.invokestatic 498, 3) := by decide +kernel
theorem dJ0_charAt_5068e_24 : decode (zcode mJ0_charAt_5068e) 24 = .ok (.ireturn, 1) := by decide +kernel
theorem mj_9_57 : Cond.methodLink (zRn 9) 57 (zy mJ0_length_8abf5) ∈ lw_tbl := List.mem_append_right _ (List.mem_append_right _ (List.mem_append_left _ (List.mem_of_getElem? (i := 45) (by decide +kernel))))
theorem mj_14_335 : Cond.methodLink (zRn 14) 335 (zy mJ0_coder_7d493) ∈ lw_tbl := List.mem_append_right _ (List.mem_append_right _ (List.mem_append_left _ (List.mem_of_getElem? (i := 49) (by decide +kernel))))
theorem fj_14_38 : Cond.fieldLink (zRn 14) 38 "java/lang/String" "COMPACT_STRINGS" "Z" ∈ lw_tbl := List.mem_append_right _ (List.mem_append_right _ (List.mem_append_left _ (List.mem_of_getElem? (i := 53) (by decide +kernel))))
theorem mj_9_62 : Cond.methodLink (zRn 9) 62 (zy mJ0_charAt_5068e) ∈ lw_tbl := List.mem_append_right _ (List.mem_append_right _ (List.mem_append_left _ (List.mem_of_getElem? (i := 55) (by decide +kernel))))
theorem mj_14_492 : Cond.methodLink (zRn 14) 492 (zy mJ0_isLatin1_aae02) ∈ lw_tbl := List.mem_append_right _ (List.mem_append_right _ (List.mem_append_left _ (List.mem_of_getElem? (i := 59) (by decide +kernel))))
theorem mj_14_495 : Cond.methodLink (zRn 14) 495 (zy mJ1_charAt_3b067) ∈ lw_tbl := List.mem_append_right _ (List.mem_append_right _ (List.mem_append_left _ (List.mem_of_getElem? (i := 63) (by decide +kernel))))
theorem mj_15_9 : Cond.methodLink (zRn 15) 9 (zy mJ0_checkIndex_df160) ∈ lw_tbl := List.mem_append_right _ (List.mem_append_right _ (List.mem_append_left _ (List.mem_of_getElem? (i := 66) (by decide +kernel))))
theorem fj_14_1053 : Cond.fieldLink (zRn 14) 1053 "jdk/internal/util/Preconditions" "SIOOBE_FORMATTER" "Ljava/util/function/BiFunction;" ∈ lw_tbl := List.mem_append_right _ (List.mem_append_right _ (List.mem_append_left _ (List.mem_of_getElem? (i := 69) (by decide +kernel))))
theorem mj_14_1059 : Cond.methodLink (zRn 14) 1059 (zy mJ3_checkIndex_8e157) ∈ lw_tbl := List.mem_append_right _ (List.mem_append_right _ (List.mem_append_left _ (List.mem_of_getElem? (i := 71) (by decide +kernel))))
theorem fj_14_9 : Cond.fieldLink (zRn 14) 9 "java/lang/String" "value" "[B" ∈ lw_tbl := List.mem_append_right _ (List.mem_append_right _ (List.mem_append_right _ (List.mem_append_right _ (List.mem_append_right _ (List.mem_append_right _ (List.mem_of_getElem? (i := 4) (by decide +kernel)))))))
theorem fj_14_15 : Cond.fieldLink (zRn 14) 15 "java/lang/String" "coder" "B" ∈ lw_tbl := List.mem_append_right _ (List.mem_append_right _ (List.mem_append_right _ (List.mem_append_right _ (List.mem_append_right _ (List.mem_append_right _ (List.mem_of_getElem? (i := 5) (by decide +kernel)))))))
