section
variable {l : Launch} {G : zG}
set_option maxRecDepth 100000 in
set_option maxHeartbeats 4000000 in
theorem c_X9_isBlank (hG : zOK l G) (x : Int32) (σ : zS) : zRuns l G mX9_isBlank [.int x] σ (fun r σ' => r = some (.int (if x = 10 ∨ x = 32 then 1 else 0)) ∧ σ' = σ) := by
  refine z_en hG wX9_isBlank qX9_isBlank [] 20 rfl rfl ?_
  repeat' first | refine And.intro (by first | rfl | assumption | exact ⟨rfl, rfl⟩ | (refine vp_in_iff.mpr ?_; simp [zst, zu2, Int32.lt_iff_toInt_lt, Int32.le_iff_toInt_le, nF_35, nF_36, nF_38, nF_39, nF_40, nF_42, nF_44, nF_45, nF_46, nF_48, nF_49, nF_50, nF_52, nF_53, nF_54, nF_55, nF_56, nF_57, nF_58, nF_59, nF_60, nF_61, nF_62, nF_63, nF_64, nF_65, nF_66, nF_67, nF_68, nF_69, nF_70, nF_71, nF_72, nF_73, nF_74, nF_75, nF_76, nF_77, nF_78, nF_79, nF_80, nF_81, nF_82, nF_83, nF_84, nIl_1, nIl_3, nIl_6, nIl_9, nIl_10, nIl_11, nIl_12, nIl_36, nIl_63, nIl_67, nIl_144, nIl_198, nIl_200, nIl_528, nIl_1000] at *; omega)) ?_ | refine Exists.intro _ (And.intro (by first | assumption | rfl) ?_) | refine And.intro (fun h => absurd h (by decide)) (fun _ => ?_) | refine And.intro (fun _ => ?_) (fun h => absurd h (by decide)) | refine And.intro (fun _ => ?_) (fun _ => ?_) | refine And.intro (fun _ => (?_ : True → _) trivial) (by first | exact Or.inl rfl | exact Or.inr rfl) | fail
  all_goals refine fun _ => And.intro ?_ rfl
  all_goals simp_all
set_option maxRecDepth 100000 in
set_option maxHeartbeats 4000000 in
theorem c_X9_isSmallLetter (hG : zOK l G) (x : Int32) (σ : zS) : zRuns l G mX9_isSmallLetter [.int x] σ (fun r σ' => r = some (.int (if 97 ≤ x ∧ x ≤ 122 then 1 else 0)) ∧ σ' = σ) := by
  refine z_en hG wX9_isSmallLetter qX9_isSmallLetter [] 20 rfl rfl ?_
  repeat' first | refine And.intro (by first | rfl | assumption | exact ⟨rfl, rfl⟩ | (refine vp_in_iff.mpr ?_; simp [zst, zu2, Int32.lt_iff_toInt_lt, Int32.le_iff_toInt_le, nF_35, nF_36, nF_38, nF_39, nF_40, nF_42, nF_44, nF_45, nF_46, nF_48, nF_49, nF_50, nF_52, nF_53, nF_54, nF_55, nF_56, nF_57, nF_58, nF_59, nF_60, nF_61, nF_62, nF_63, nF_64, nF_65, nF_66, nF_67, nF_68, nF_69, nF_70, nF_71, nF_72, nF_73, nF_74, nF_75, nF_76, nF_77, nF_78, nF_79, nF_80, nF_81, nF_82, nF_83, nF_84, nIl_1, nIl_3, nIl_6, nIl_9, nIl_10, nIl_11, nIl_12, nIl_36, nIl_63, nIl_67, nIl_144, nIl_198, nIl_200, nIl_528, nIl_1000] at *; omega)) ?_ | refine Exists.intro _ (And.intro (by first | assumption | rfl) ?_) | refine And.intro (fun h => absurd h (by decide)) (fun _ => ?_) | refine And.intro (fun _ => ?_) (fun h => absurd h (by decide)) | refine And.intro (fun _ => ?_) (fun _ => ?_) | refine And.intro (fun _ => (?_ : True → _) trivial) (by first | exact Or.inl rfl | exact Or.inr rfl) | fail
  all_goals refine fun _ => And.intro ?_ rfl
  all_goals simp_all [Int32.lt_iff_toInt_lt, Int32.le_iff_toInt_le]
  all_goals omega
set_option maxRecDepth 100000 in
set_option maxHeartbeats 4000000 in
theorem c_X9_isDigit (hG : zOK l G) (x : Int32) (σ : zS) : zRuns l G mX9_isDigit [.int x] σ (fun r σ' => r = some (.int (if 48 ≤ x ∧ x ≤ 57 then 1 else 0)) ∧ σ' = σ) := by
  refine z_en hG wX9_isDigit qX9_isDigit [] 20 rfl rfl ?_
  repeat' first | refine And.intro (by first | rfl | assumption | exact ⟨rfl, rfl⟩ | (refine vp_in_iff.mpr ?_; simp [zst, zu2, Int32.lt_iff_toInt_lt, Int32.le_iff_toInt_le, nF_35, nF_36, nF_38, nF_39, nF_40, nF_42, nF_44, nF_45, nF_46, nF_48, nF_49, nF_50, nF_52, nF_53, nF_54, nF_55, nF_56, nF_57, nF_58, nF_59, nF_60, nF_61, nF_62, nF_63, nF_64, nF_65, nF_66, nF_67, nF_68, nF_69, nF_70, nF_71, nF_72, nF_73, nF_74, nF_75, nF_76, nF_77, nF_78, nF_79, nF_80, nF_81, nF_82, nF_83, nF_84, nIl_1, nIl_3, nIl_6, nIl_9, nIl_10, nIl_11, nIl_12, nIl_36, nIl_63, nIl_67, nIl_144, nIl_198, nIl_200, nIl_528, nIl_1000] at *; omega)) ?_ | refine Exists.intro _ (And.intro (by first | assumption | rfl) ?_) | refine And.intro (fun h => absurd h (by decide)) (fun _ => ?_) | refine And.intro (fun _ => ?_) (fun h => absurd h (by decide)) | refine And.intro (fun _ => ?_) (fun _ => ?_) | refine And.intro (fun _ => (?_ : True → _) trivial) (by first | exact Or.inl rfl | exact Or.inr rfl) | fail
  all_goals refine fun _ => And.intro ?_ rfl
  all_goals simp_all [Int32.lt_iff_toInt_lt, Int32.le_iff_toInt_le]
  all_goals omega
set_option maxRecDepth 100000 in
set_option maxHeartbeats 4000000 in
theorem c_X9_signAt (hG : zOK l G) (D : zD) (I : Nat → Nat → Int32) (J : Nat → Nat → Int64) (i : Int32) : zRuns l G mX9_signAt [.ref 34, .int i] (zst D I J) (fun r σ' => r = some (.int (if 0 ≤ i ∧ i < I 34 5 ∧ i < 1000 then I 35 i.toNatClampNeg &&& 255 else -1)) ∧ σ' = zst D I J) := by
  refine z_en hG wX9_signAt qX9_signAt [] 30 rfl rfl ?_
  repeat' first | refine And.intro (by first | rfl | assumption | exact ⟨rfl, rfl⟩ | (refine vp_in_iff.mpr ?_; simp [zst, zu2, Int32.lt_iff_toInt_lt, Int32.le_iff_toInt_le, nF_35, nF_36, nF_38, nF_39, nF_40, nF_42, nF_44, nF_45, nF_46, nF_48, nF_49, nF_50, nF_52, nF_53, nF_54, nF_55, nF_56, nF_57, nF_58, nF_59, nF_60, nF_61, nF_62, nF_63, nF_64, nF_65, nF_66, nF_67, nF_68, nF_69, nF_70, nF_71, nF_72, nF_73, nF_74, nF_75, nF_76, nF_77, nF_78, nF_79, nF_80, nF_81, nF_82, nF_83, nF_84, nIl_1, nIl_3, nIl_6, nIl_9, nIl_10, nIl_11, nIl_12, nIl_36, nIl_63, nIl_67, nIl_144, nIl_198, nIl_200, nIl_528, nIl_1000] at *; omega)) ?_ | refine Exists.intro _ (And.intro (by first | assumption | rfl) ?_) | refine And.intro (fun h => absurd h (by decide)) (fun _ => ?_) | refine And.intro (fun _ => ?_) (fun h => absurd h (by decide)) | refine And.intro (fun _ => ?_) (fun _ => ?_) | refine And.intro (fun _ => (?_ : True → _) trivial) (by first | exact Or.inl rfl | exact Or.inr rfl) | fail
  all_goals refine fun _ => And.intro ?_ rfl
  all_goals simp [zst, zu2, Int32.lt_iff_toInt_lt, Int32.le_iff_toInt_le, nF_35, nF_36, nF_38, nF_39, nF_40, nF_42, nF_44, nF_45, nF_46, nF_48, nF_49, nF_50, nF_52, nF_53, nF_54, nF_55, nF_56, nF_57, nF_58, nF_59, nF_60, nF_61, nF_62, nF_63, nF_64, nF_65, nF_66, nF_67, nF_68, nF_69, nF_70, nF_71, nF_72, nF_73, nF_74, nF_75, nF_76, nF_77, nF_78, nF_79, nF_80, nF_81, nF_82, nF_83, nF_84, nIl_1, nIl_3, nIl_6, nIl_9, nIl_10, nIl_11, nIl_12, nIl_36, nIl_63, nIl_67, nIl_144, nIl_198, nIl_200, nIl_528, nIl_1000] at *
  all_goals trace_state
  all_goals omega
set_option maxRecDepth 100000 in
set_option maxHeartbeats 4000000 in
theorem c_X9_hasRoom (hG : zOK l G) (D : zD) (I : Nat → Nat → Int32) (J : Nat → Nat → Int64) (i : Int32) : zRuns l G mX9_hasRoom [.ref 34, .int i] (zst D I J) (fun r σ' => r = some (.int (if I 34 0 + i ≤ 1000 then 1 else 0)) ∧ σ' = zst D I J) := by
  refine z_en hG wX9_hasRoom qX9_hasRoom [] 30 rfl rfl ?_
  repeat' first | refine And.intro (by first | rfl | assumption | exact ⟨rfl, rfl⟩ | (refine vp_in_iff.mpr ?_; simp [zst, zu2, Int32.lt_iff_toInt_lt, Int32.le_iff_toInt_le, nF_35, nF_36, nF_38, nF_39, nF_40, nF_42, nF_44, nF_45, nF_46, nF_48, nF_49, nF_50, nF_52, nF_53, nF_54, nF_55, nF_56, nF_57, nF_58, nF_59, nF_60, nF_61, nF_62, nF_63, nF_64, nF_65, nF_66, nF_67, nF_68, nF_69, nF_70, nF_71, nF_72, nF_73, nF_74, nF_75, nF_76, nF_77, nF_78, nF_79, nF_80, nF_81, nF_82, nF_83, nF_84, nIl_1, nIl_3, nIl_6, nIl_9, nIl_10, nIl_11, nIl_12, nIl_36, nIl_63, nIl_67, nIl_144, nIl_198, nIl_200, nIl_528, nIl_1000] at *; omega)) ?_ | refine Exists.intro _ (And.intro (by first | assumption | rfl) ?_) | refine And.intro (fun h => absurd h (by decide)) (fun _ => ?_) | refine And.intro (fun _ => ?_) (fun h => absurd h (by decide)) | refine And.intro (fun _ => ?_) (fun _ => ?_) | refine And.intro (fun _ => (?_ : True → _) trivial) (by first | exact Or.inl rfl | exact Or.inr rfl) | fail
  all_goals refine fun _ => And.intro ?_ rfl
  all_goals simp_all [zst, zu2, Int32.lt_iff_toInt_lt, Int32.le_iff_toInt_le, nF_35, nF_36, nF_38, nF_39, nF_40, nF_42, nF_44, nF_45, nF_46, nF_48, nF_49, nF_50, nF_52, nF_53, nF_54, nF_55, nF_56, nF_57, nF_58, nF_59, nF_60, nF_61, nF_62, nF_63, nF_64, nF_65, nF_66, nF_67, nF_68, nF_69, nF_70, nF_71, nF_72, nF_73, nF_74, nF_75, nF_76, nF_77, nF_78, nF_79, nF_80, nF_81, nF_82, nF_83, nF_84, nIl_1, nIl_3, nIl_6, nIl_9, nIl_10, nIl_11, nIl_12, nIl_36, nIl_63, nIl_67, nIl_144, nIl_198, nIl_200, nIl_528, nIl_1000]
set_option maxRecDepth 100000 in
set_option maxHeartbeats 4000000 in
theorem c_X9_clear (hG : zOK l G) (D : zD) (I : Nat → Nat → Int32) (J : Nat → Nat → Int64) : zRuns l G mX9_clear [.ref 34] (zst D I J) (fun r σ' => r = none ∧ σ' = zst D (zu2 I 34 0 0) J) := by
  refine z_en hG wX9_clear qX9_clear [] 30 rfl rfl ?_
  repeat' first | refine And.intro (by first | rfl | assumption | exact ⟨rfl, rfl⟩ | (refine vp_in_iff.mpr ?_; simp [zst, zu2, Int32.lt_iff_toInt_lt, Int32.le_iff_toInt_le, nF_35, nF_36, nF_38, nF_39, nF_40, nF_42, nF_44, nF_45, nF_46, nF_48, nF_49, nF_50, nF_52, nF_53, nF_54, nF_55, nF_56, nF_57, nF_58, nF_59, nF_60, nF_61, nF_62, nF_63, nF_64, nF_65, nF_66, nF_67, nF_68, nF_69, nF_70, nF_71, nF_72, nF_73, nF_74, nF_75, nF_76, nF_77, nF_78, nF_79, nF_80, nF_81, nF_82, nF_83, nF_84, nIl_1, nIl_3, nIl_6, nIl_9, nIl_10, nIl_11, nIl_12, nIl_36, nIl_63, nIl_67, nIl_144, nIl_198, nIl_200, nIl_528, nIl_1000] at *; omega)) ?_ | refine Exists.intro _ (And.intro (by first | assumption | rfl) ?_) | refine And.intro (fun h => absurd h (by decide)) (fun _ => ?_) | refine And.intro (fun _ => ?_) (fun h => absurd h (by decide)) | refine And.intro (fun _ => ?_) (fun _ => ?_) | refine And.intro (fun _ => (?_ : True → _) trivial) (by first | exact Or.inl rfl | exact Or.inr rfl) | fail
  all_goals exact fun _ => ⟨rfl, rfl⟩
set_option maxRecDepth 100000 in
set_option maxHeartbeats 4000000 in
theorem c_X9_isMark (hG : zOK l G) (D : zD) (I : Nat → Nat → Int32) (J : Nat → Nat → Int64) (x : Int32) : zRuns l G mX9_isMark [.ref 34, .int x] (zst D I J) (fun r σ' => r = some (.int (if I 34 1 = 3 ∧ I 34 3 = x then 1 else 0)) ∧ σ' = zst D I J) := by
  refine z_en hG wX9_isMark qX9_isMark [] 30 rfl rfl ?_
  repeat' first | refine And.intro (by first | rfl | assumption | exact ⟨rfl, rfl⟩ | (refine vp_in_iff.mpr ?_; simp [zst, zu2, Int32.lt_iff_toInt_lt, Int32.le_iff_toInt_le, nF_35, nF_36, nF_38, nF_39, nF_40, nF_42, nF_44, nF_45, nF_46, nF_48, nF_49, nF_50, nF_52, nF_53, nF_54, nF_55, nF_56, nF_57, nF_58, nF_59, nF_60, nF_61, nF_62, nF_63, nF_64, nF_65, nF_66, nF_67, nF_68, nF_69, nF_70, nF_71, nF_72, nF_73, nF_74, nF_75, nF_76, nF_77, nF_78, nF_79, nF_80, nF_81, nF_82, nF_83, nF_84, nIl_1, nIl_3, nIl_6, nIl_9, nIl_10, nIl_11, nIl_12, nIl_36, nIl_63, nIl_67, nIl_144, nIl_198, nIl_200, nIl_528, nIl_1000] at *; omega)) ?_ | refine Exists.intro _ (And.intro (by first | assumption | rfl) ?_) | refine And.intro (fun h => absurd h (by decide)) (fun _ => ?_) | refine And.intro (fun _ => ?_) (fun h => absurd h (by decide)) | refine And.intro (fun _ => ?_) (fun _ => ?_) | refine And.intro (fun _ => (?_ : True → _) trivial) (by first | exact Or.inl rfl | exact Or.inr rfl) | fail
  all_goals refine fun _ => And.intro ?_ rfl
  all_goals simp_all [zst]
end
