theorem sBy_c : ∀ j, j < 12 → ∀ k, k < wL j → ((sBy j k &&& 255).toUInt32 % 65536).toInt32 = sBy j k ∧ narrow .char (.int (sBy j k)) = .int (sBy j k) := by decide +kernel
theorem wL_sh : ∀ j, j < 12 → nI (wL j) >>> ((0 : Int32) &&& 31) = nI (wL j) := by decide +kernel
section
variable {l : Launch} {G : zG}
theorem c_coder (hG : zOK l G) (hS : zST G) (σ : zS) (j : Nat) (hj : j < 12) : zRuns l G mJ0_coder_7d493 [.ref j] σ (fun r σ' => r = some (.int 0) ∧ σ' = σ) := by
  obtain ⟨s1, s2, s3, s4⟩ := hS.2.1 j hj
  refine z_en0 hG qJ0_coder_7d493 rfl ?_
  refine z_jstat (v := .int 1) hS.1 fj_14_38 dJ0_coder_7d493_0 ?_
  refine z_if_eq (tgt := 13) dJ0_coder_7d493_3 rfl (fun h => absurd h (by decide)) (fun _ => ?_)
  refine z_aload_n (v := .ref j) rfl (Or.inr ⟨_, rfl⟩) dJ0_coder_7d493_6 ?_
  refine z_jget (v := .int 0) (by omega) s2 fj_14_15 dJ0_coder_7d493_7 ?_
  refine z_goto (tgt := 14) dJ0_coder_7d493_10 rfl ?_
  exact z_nret (ty := .byte) rfl (Or.inr rfl) (by decide) (Nat.zero_le _) (Nat.zero_le _) dJ0_coder_7d493_14 ⟨rfl, rfl⟩
theorem c_latin (hG : zOK l G) (hS : zST G) (σ : zS) (j : Nat) (hj : j < 12) : zRuns l G mJ0_isLatin1_aae02 [.ref j] σ (fun r σ' => r = some (.int 1) ∧ σ' = σ) := by
  obtain ⟨s1, s2, s3, s4⟩ := hS.2.1 j hj
  refine z_en0 hG qJ0_isLatin1_aae02 rfl ?_
  refine z_jstat (v := .int 1) hS.1 fj_14_38 dJ0_isLatin1_aae02_0 ?_
  refine z_if_eq (tgt := 17) dJ0_isLatin1_aae02_3 rfl (fun h => absurd h (by decide)) (fun _ => ?_)
  refine z_aload_n (v := .ref j) rfl (Or.inr ⟨_, rfl⟩) dJ0_isLatin1_aae02_6 ?_
  refine z_jget (v := .int 0) (by omega) s2 fj_14_15 dJ0_isLatin1_aae02_7 ?_
  refine z_if_ne (tgt := 17) dJ0_isLatin1_aae02_10 rfl (fun h => absurd rfl h) (fun _ => ?_)
  refine z_iconst dJ0_isLatin1_aae02_13 ?_
  refine z_goto (tgt := 18) dJ0_isLatin1_aae02_14 rfl ?_
  exact z_zret rfl (Or.inr rfl) (Nat.zero_le _) (Nat.zero_le _) dJ0_isLatin1_aae02_18 ⟨rfl, rfl⟩
theorem c_length (hG : zOK l G) (hS : zST G) (σ : zS) (j : Nat) (hj : j < 12) : zRuns l G mJ0_length_8abf5 [.ref j] σ (fun r σ' => r = some (.int (nI (wL j))) ∧ σ' = σ) := by
  obtain ⟨s1, s2, s3, s4⟩ := hS.2.1 j hj
  have e1 : zcv G (.ref (17 + j)) = .ref (zaS G (17 + j)) := congrArg Value.ref (zad_lo (by omega))
  refine z_en0 hG qJ0_length_8abf5 rfl ?_
  refine z_aload_n (v := .ref j) rfl (Or.inr ⟨_, rfl⟩) dJ0_length_8abf5_0 ?_
  refine z_jget (v := .ref (17 + j)) (by omega) (by rw [e1]; exact s3) fj_14_9 dJ0_length_8abf5_1 ?_
  refine z_jlen (by omega) s4 dJ0_length_8abf5_4 ?_
  refine z_aload_n (v := .ref j) rfl (Or.inr ⟨_, rfl⟩) dJ0_length_8abf5_5 ?_
  refine z_callT (As := []) (S := [.int (nI (wL j))]) (by omega) s1 (c_coder hG hS σ j hj) rfl dJ0_length_8abf5_6 mj_14_335 zm_J0_coder_7d493 zi_J0_coder_7d493 zse_J0_coder_7d493 rfl (Nat.le_of_ble_eq_true rfl) (Nat.le_of_ble_eq_true rfl) (Nat.le_of_ble_eq_true rfl) (Nat.le_of_ble_eq_true rfl) (Nat.le_of_ble_eq_true rfl) ?_
  rintro r σ' ⟨rfl, rfl⟩
  refine z_ishr dJ0_length_8abf5_9 ?_
  rw [wL_sh j hj]
  exact z_iret rfl (Nat.zero_le _) (Nat.zero_le _) dJ0_length_8abf5_10 ⟨rfl, rfl⟩
theorem c_chk3 (hG : zOK l G) (σ : zS) (a b : Int32) (v : Value) (hv : v = .null ∨ v = .ref 29) (h0 : ¬ a < 0) (h1 : a < b) : zRuns l G mJ3_checkIndex_8e157 [.int a, .int b, v] σ (fun r σ' => r = some (.int a) ∧ σ' = σ) := by
  refine z_en0 hG qJ3_checkIndex_8e157 (by rcases hv with rfl | rfl <;> rfl) ?_
  refine z_iload_n (x := a) rfl dJ3_checkIndex_8e157_0 ?_
  refine z_if_lt (tgt := 9) dJ3_checkIndex_8e157_1 rfl (fun h => absurd h h0) (fun _ => ?_)
  refine z_iload_n (x := a) rfl dJ3_checkIndex_8e157_4 ?_
  refine z_iload_n (x := b) rfl dJ3_checkIndex_8e157_5 ?_
  refine z_icmp_lt (tgt := 16) dJ3_checkIndex_8e157_6 rfl (fun _ => ?_) (fun h => absurd h1 h)
  refine z_iload_n (x := a) rfl dJ3_checkIndex_8e157_16 ?_
  exact z_iret rfl (Nat.zero_le _) (Nat.zero_le _) dJ3_checkIndex_8e157_17 ⟨rfl, rfl⟩
theorem c_chk0 (hG : zOK l G) (hS : zST G) (σ : zS) (a b : Int32) (h0 : ¬ a < 0) (h1 : a < b) : zRuns l G mJ0_checkIndex_df160 [.int a, .int b] σ (fun r σ' => r = none ∧ σ' = σ) := by
  have fin : ∀ v : Value, (v = .null ∨ v = .ref 29) → Z l G mJ0_checkIndex_df160 (fun r σ' => r = none ∧ σ' = σ) (fun _ _ => False) 5 (zLo (zl0 [.int a, .int b])) [v, .int b, .int a] σ 0 0 := by
    intro v hv
    refine z_callS (As := [.int a, .int b, v]) (S := []) (c_chk3 hG σ a b v hv h0 h1) rfl dJ0_checkIndex_df160_5 mj_14_1059 zm_J3_checkIndex_8e157 zs_J3_checkIndex_8e157 rfl (Nat.le_of_ble_eq_true rfl) (Nat.le_of_ble_eq_true rfl) (Nat.le_of_ble_eq_true rfl) (Nat.le_of_ble_eq_true rfl) (Nat.le_of_ble_eq_true rfl) ?_
    rintro r σ' ⟨rfl, rfl⟩
    refine z_pop (v := .int a) rfl dJ0_checkIndex_df160_8 ?_
    exact z_vret rfl (Nat.zero_le _) (Nat.zero_le _) dJ0_checkIndex_df160_9 ⟨rfl, rfl⟩
  refine z_en0 hG qJ0_checkIndex_df160 rfl ?_
  refine z_iload_n (x := a) rfl dJ0_checkIndex_df160_0 ?_
  refine z_iload_n (x := b) rfl dJ0_checkIndex_df160_1 ?_
  rcases hS.2.2.1 with h | h
  · exact z_jstat (v := .null) h fj_14_1053 dJ0_checkIndex_df160_2 (fin _ (Or.inl rfl))
  · have e1 : zcv G (.ref 29) = .ref (zaS G 29) := congrArg Value.ref (zad_lo (by omega))
    exact z_jstat (v := .ref 29) (by rw [e1]; exact h) fj_14_1053 dJ0_checkIndex_df160_2 (fin _ (Or.inr rfl))
theorem c_chr1 (hG : zOK l G) (hS : zST G) (σ : zS) (j k : Nat) (hj : j < 12) (hk : k < wL j) : zRuns l G mJ1_charAt_3b067 [.ref (17 + j), .int (nI k)] σ (fun r σ' => r = some (.int (sBy j k)) ∧ σ' = σ) := by
  obtain ⟨s1, s2, s3, s4⟩ := hS.2.1 j hj
  have hl := wL_b j hj
  obtain ⟨b1, b2⟩ := sBy_c j hj k hk
  refine z_en0 hG qJ1_charAt_3b067 rfl ?_
  refine z_iload_n (x := nI k) rfl dJ1_charAt_3b067_0 ?_
  refine z_aload_n (v := .ref (17 + j)) rfl (Or.inr ⟨_, rfl⟩) dJ1_charAt_3b067_1 ?_
  refine z_jlen (by omega) s4 dJ1_charAt_3b067_2 ?_
  refine z_callS (As := [.int (nI k), .int (nI (wL j))]) (S := []) (c_chk0 hG hS σ (nI k) (nI (wL j)) (nI_pos (by omega)) ((nI_ltI (by omega) (by omega)).mpr hk)) rfl dJ1_charAt_3b067_3 mj_15_9 zm_J0_checkIndex_df160 zs_J0_checkIndex_df160 rfl (Nat.le_of_ble_eq_true rfl) (Nat.le_of_ble_eq_true rfl) (Nat.le_of_ble_eq_true rfl) (Nat.le_of_ble_eq_true rfl) (Nat.le_of_ble_eq_true rfl) ?_
  rintro r σ' ⟨rfl, rfl⟩
  refine z_aload_n (v := .ref (17 + j)) rfl (Or.inr ⟨_, rfl⟩) dJ1_charAt_3b067_6 ?_
  refine z_iload_n (x := nI k) rfl dJ1_charAt_3b067_7 ?_
  refine z_jbyte (f := sBy j) (by omega) s4 (vp_in_nI hk (by omega)) dJ1_charAt_3b067_8 ?_
  rw [nI_clamp (by omega)]
  refine z_sipush dJ1_charAt_3b067_9 ?_
  refine z_iand dJ1_charAt_3b067_12 ?_
  refine z_i2c dJ1_charAt_3b067_13 ?_
  rw [show (Int16.ofInt 255).toInt32 = (255 : Int32) from rfl, b1]
  exact z_nret (ty := .char) rfl (Or.inl rfl) b2 (Nat.zero_le _) (Nat.zero_le _) dJ1_charAt_3b067_14 ⟨rfl, rfl⟩
theorem c_charAt (hG : zOK l G) (hS : zST G) (σ : zS) (j k : Nat) (hj : j < 12) (hk : k < wL j) : zRuns l G mJ0_charAt_5068e [.ref j, .int (nI k)] σ (fun r σ' => r = some (.int (sBy j k)) ∧ σ' = σ) := by
  obtain ⟨s1, s2, s3, s4⟩ := hS.2.1 j hj
  obtain ⟨b1, b2⟩ := sBy_c j hj k hk
  have e1 : zcv G (.ref (17 + j)) = .ref (zaS G (17 + j)) := congrArg Value.ref (zad_lo (by omega))
  refine z_en0 hG qJ0_charAt_5068e rfl ?_
  refine z_aload_n (v := .ref j) rfl (Or.inr ⟨_, rfl⟩) dJ0_charAt_5068e_0 ?_
  refine z_callT (As := []) (S := []) (by omega) s1 (c_latin hG hS σ j hj) rfl dJ0_charAt_5068e_1 mj_14_492 zm_J0_isLatin1_aae02 zi_J0_isLatin1_aae02 zse_J0_isLatin1_aae02 rfl (Nat.le_of_ble_eq_true rfl) (Nat.le_of_ble_eq_true rfl) (Nat.le_of_ble_eq_true rfl) (Nat.le_of_ble_eq_true rfl) (Nat.le_of_ble_eq_true rfl) ?_
  rintro r σ' ⟨rfl, rfl⟩
  refine z_if_eq (tgt := 16) dJ0_charAt_5068e_4 rfl (fun h => absurd h (by decide)) (fun _ => ?_)
  refine z_aload_n (v := .ref j) rfl (Or.inr ⟨_, rfl⟩) dJ0_charAt_5068e_7 ?_
  refine z_jget (v := .ref (17 + j)) (by omega) (by rw [e1]; exact s3) fj_14_9 dJ0_charAt_5068e_8 ?_
  refine z_iload_n (x := nI k) rfl dJ0_charAt_5068e_11 ?_
  refine z_callS (As := [.ref (17 + j), .int (nI k)]) (S := []) (c_chr1 hG hS σ' j k hj hk) rfl dJ0_charAt_5068e_12 mj_14_495 zm_J1_charAt_3b067 zs_J1_charAt_3b067 rfl (Nat.le_of_ble_eq_true rfl) (Nat.le_of_ble_eq_true rfl) (Nat.le_of_ble_eq_true rfl) (Nat.le_of_ble_eq_true rfl) (Nat.le_of_ble_eq_true rfl) ?_
  rintro r σ' ⟨rfl, rfl⟩
  exact z_nret (ty := .char) rfl (Or.inl rfl) b2 (Nat.zero_le _) (Nat.zero_le _) dJ0_charAt_5068e_15 ⟨rfl, rfl⟩
end
