section
variable {l : Launch} {G : zG}
set_option maxRecDepth 100000 in
set_option maxHeartbeats 4000000 in
theorem c_X11_seasons (hG : zOK l G) (D : zD) (I : Nat → Nat → Int32) (J : Nat → Nat → Int64) {B : Nat → Int32} {n k : Nat} (hn : n ≤ 1000) (h : mSt B n k I) (c : Nat) (hc : c < 4) : zRuns l G mX11_seasons [.ref 51, .int (nI c)] (zst D I J) (mPo D I J B n (pSeas B n k) (fun s I' => mSea I c 12 s I')) := by
  refine z_en hG wX11_seasons qX11_seasons [2] 60 rfl rfl ?_
  repeat first | refine And.intro (by first | rfl | assumption | exact ⟨rfl, rfl⟩ | decide +kernel | (with_reducible first | (refine za12_13 ?_; assumption) | (refine za12_14 ?_; assumption) | (refine za12_16 ?_; assumption) | (refine za12_17 ?_; assumption) | (refine za12_18 ?_; assumption) | (refine za12_19 ?_; assumption) | (refine za16_16 ?_; assumption) | (refine za16_17 ?_; assumption) | (refine za16_18 ?_; assumption) | (refine za16_19 ?_; assumption)) | exact ⟨_, rfl⟩ | with_reducible exact zisr_rf _ | with_reducible exact zisr_null | (with_reducible refine zvn ?_; simp (disch := omega) only [nF_35, nF_36, nF_38, nF_39, nF_40, nF_42, nF_44, nF_45, nF_46, nF_48, nF_49, nF_50, nF_52, nF_53, nF_54, nF_55, nF_56, nF_57, nF_58, nF_59, nF_60, nF_61, nF_62, nF_63, nF_64, nF_65, nF_66, nF_67, nF_68, nF_69, nF_70, nF_71, nF_72, nF_73, nF_74, nF_75, nF_76, nF_77, nF_78, nF_79, nF_80, nF_81, nF_82, nF_83, nF_84, zk_i_0, zk_i_1, zk_i_2, zk_i_3, zk_i_4, zk_i_5, zk_i_6, zk_b_6, zk_b_7, zk_b_8, zk_b_9, zk_b_10, zk_b_11, zk_b_12, zk_b_13, zk_b_14, zk_b_15, zk_b_16, zk_b_17, zk_b_18, zk_b_19, zk_b_20, zk_b_21, zk_b_22, zk_b_23, zk_b_24, zk_b_25, zk_b_26, zk_b_27, zk_b_28, zk_b_29, zk_b_30, zk_b_31, zk_b_32, zk_b_33, zk_b_34, zk_b_35, zk_b_36, zk_b_37, zk_b_38, zk_b_39, zk_b_40, zk_b_41, zk_b_42, zk_b_43, zk_b_44, zk_b_45, zk_b_46, zk_b_47, zk_b_48, zk_b_49, zk_b_50, zk_b_51, zk_b_52, zk_b_53, zk_b_54, zk_b_55, zk_b_56, zk_b_57, zk_b_58, zk_b_59, zk_b_60, zk_b_61, zk_b_62, zk_b_63, zk_b_64, zk_b_65, zk_b_66, zk_b_67, zk_b_97, zk_b_98, zk_b_99, zk_b_100, zk_b_101, zk_b_104, zk_b_108, zk_b_110, zk_b_111, zk_b_114, zk_b_115, zk_b_116, zk_b_117, zk_b_118, zk_b_119, zk_b_121, zk_b_122, zk_s_144, zk_s_180, zk_s_198, zk_s_200, zk_s_255, zk_s_480, zk_s_528, zk_s_719, zk_s_720, zk_s_1000, zk_s_1001, zk_s_10000, zk_s_12345, zk_s_32767, nI_add, pk_mul, pk_sub, pk_div]; exact vp_in_nI (by omega) (by omega)) | (with_reducible refine vp_in_iff.mpr ?_; simp [zst, zu2, ← Int32.toInt_inj, Int32.lt_iff_toInt_lt, Int32.le_iff_toInt_le, nF_35, nF_36, nF_38, nF_39, nF_40, nF_42, nF_44, nF_45, nF_46, nF_48, nF_49, nF_50, nF_52, nF_53, nF_54, nF_55, nF_56, nF_57, nF_58, nF_59, nF_60, nF_61, nF_62, nF_63, nF_64, nF_65, nF_66, nF_67, nF_68, nF_69, nF_70, nF_71, nF_72, nF_73, nF_74, nF_75, nF_76, nF_77, nF_78, nF_79, nF_80, nF_81, nF_82, nF_83, nF_84, nIl_0, nIl_1, nIl_2, nIl_3, nIl_4, nIl_5, nIl_6, nIl_7, nIl_8, nIl_9, nIl_10, nIl_11, nIl_12, nIl_13, nIl_14, nIl_15, nIl_16, nIl_17, nIl_18, nIl_19, nIl_20, nIl_21, nIl_22, nIl_23, nIl_24, nIl_25, nIl_26, nIl_27, nIl_28, nIl_29, nIl_30, nIl_31, nIl_32, nIl_33, nIl_34, nIl_35, nIl_36, nIl_37, nIl_38, nIl_39, nIl_40, nIl_41, nIl_42, nIl_43, nIl_44, nIl_45, nIl_46, nIl_47, nIl_48, nIl_49, nIl_50, nIl_51, nIl_52, nIl_53, nIl_54, nIl_55, nIl_56, nIl_57, nIl_58, nIl_59, nIl_60, nIl_61, nIl_62, nIl_63, nIl_64, nIl_65, nIl_66, nIl_67, nIl_97, nIl_98, nIl_99, nIl_100, nIl_101, nIl_104, nIl_108, nIl_110, nIl_111, nIl_114, nIl_115, nIl_116, nIl_117, nIl_118, nIl_119, nIl_121, nIl_122, nIl_144, nIl_180, nIl_198, nIl_200, nIl_255, nIl_480, nIl_528, nIl_719, nIl_720, nIl_1000, nIl_1001, nIl_10000, nIl_12345, nIl_32767] at *; first | omega | (simp (disch := omega) only [zbm]; omega)) | (with_reducible refine zvn ?_; simp (disch := omega) only [zk_i_0, zk_i_1, zk_i_2, zk_i_3, zk_i_4, zk_i_5, zk_i_6, zk_b_6, zk_b_7, zk_b_8, zk_b_9, zk_b_10, zk_b_11, zk_b_12, zk_b_13, zk_b_14, zk_b_15, zk_b_16, zk_b_17, zk_b_18, zk_b_19, zk_b_20, zk_b_21, zk_b_22, zk_b_23, zk_b_24, zk_b_25, zk_b_26, zk_b_27, zk_b_28, zk_b_29, zk_b_30, zk_b_31, zk_b_32, zk_b_33, zk_b_34, zk_b_35, zk_b_36, zk_b_37, zk_b_38, zk_b_39, zk_b_40, zk_b_41, zk_b_42, zk_b_43, zk_b_44, zk_b_45, zk_b_46, zk_b_47, zk_b_48, zk_b_49, zk_b_50, zk_b_51, zk_b_52, zk_b_53, zk_b_54, zk_b_55, zk_b_56, zk_b_57, zk_b_58, zk_b_59, zk_b_60, zk_b_61, zk_b_62, zk_b_63, zk_b_64, zk_b_65, zk_b_66, zk_b_67, zk_b_97, zk_b_98, zk_b_99, zk_b_100, zk_b_101, zk_b_104, zk_b_108, zk_b_110, zk_b_111, zk_b_114, zk_b_115, zk_b_116, zk_b_117, zk_b_118, zk_b_119, zk_b_121, zk_b_122, zk_s_144, zk_s_180, zk_s_198, zk_s_200, zk_s_255, zk_s_480, zk_s_528, zk_s_719, zk_s_720, zk_s_1000, zk_s_1001, zk_s_10000, zk_s_12345, zk_s_32767, nI_leI, nI_ltI, nI_eq] at *; simp (disch := omega) only [nF_35, nF_36, nF_38, nF_39, nF_40, nF_42, nF_44, nF_45, nF_46, nF_48, nF_49, nF_50, nF_52, nF_53, nF_54, nF_55, nF_56, nF_57, nF_58, nF_59, nF_60, nF_61, nF_62, nF_63, nF_64, nF_65, nF_66, nF_67, nF_68, nF_69, nF_70, nF_71, nF_72, nF_73, nF_74, nF_75, nF_76, nF_77, nF_78, nF_79, nF_80, nF_81, nF_82, nF_83, nF_84, zk_i_0, zk_i_1, zk_i_2, zk_i_3, zk_i_4, zk_i_5, zk_i_6, zk_b_6, zk_b_7, zk_b_8, zk_b_9, zk_b_10, zk_b_11, zk_b_12, zk_b_13, zk_b_14, zk_b_15, zk_b_16, zk_b_17, zk_b_18, zk_b_19, zk_b_20, zk_b_21, zk_b_22, zk_b_23, zk_b_24, zk_b_25, zk_b_26, zk_b_27, zk_b_28, zk_b_29, zk_b_30, zk_b_31, zk_b_32, zk_b_33, zk_b_34, zk_b_35, zk_b_36, zk_b_37, zk_b_38, zk_b_39, zk_b_40, zk_b_41, zk_b_42, zk_b_43, zk_b_44, zk_b_45, zk_b_46, zk_b_47, zk_b_48, zk_b_49, zk_b_50, zk_b_51, zk_b_52, zk_b_53, zk_b_54, zk_b_55, zk_b_56, zk_b_57, zk_b_58, zk_b_59, zk_b_60, zk_b_61, zk_b_62, zk_b_63, zk_b_64, zk_b_65, zk_b_66, zk_b_67, zk_b_97, zk_b_98, zk_b_99, zk_b_100, zk_b_101, zk_b_104, zk_b_108, zk_b_110, zk_b_111, zk_b_114, zk_b_115, zk_b_116, zk_b_117, zk_b_118, zk_b_119, zk_b_121, zk_b_122, zk_s_144, zk_s_180, zk_s_198, zk_s_200, zk_s_255, zk_s_480, zk_s_528, zk_s_719, zk_s_720, zk_s_1000, zk_s_1001, zk_s_10000, zk_s_12345, zk_s_32767, nI_add, pk_mul, pk_sub, pk_div]; exact vp_in_nI (by omega) (by omega))) ?_ | refine Exists.intro _ (And.intro (by first | assumption | rfl) ?_) | refine Exists.intro true (And.intro (by rfl) ?_) | refine Exists.intro false (And.intro (by rfl) ?_) | fail
  exact lp_seasons hG D I J hn c hc 12 0 k (fun _ => 0) I rfl h (frQ_r I) ⟨fun i hi => absurd hi (Nat.not_lt_zero i), fun _ _ => rfl⟩ (fun _ _ h => h)
def pB {α β : Type} (x : Sum (Int32 × Nat) (α × Nat)) (f : α → Nat → Sum (Int32 × Nat) (β × Nat)) : Sum (Int32 × Nat) (β × Nat) := match x with
  | .inl e => .inl e
  | .inr (v, k) => f v k
abbrev pLn := Nat × Int32 × Int32 × (Nat → Int32)
/-- a line: its key, its numbers, its seasons -/
def pLine (B : Nat → Int32) (n : Nat) (w : Nat) (k : Nat) : Sum (Int32 × Nat) (pLn × Nat) :=
  if w = 4 then pB (pCls B n k) fun c k1 => pB (pNum B n 1000 k1) fun v k2 => .inr ((c.toNatClampNeg, v, v, fun _ => 0), k2)
  else if w = 5 then pB (pCls B n k) fun c k1 => pB (pSeas B n k1) fun s k2 => .inr ((4 + c.toNatClampNeg, 0, 0, s), k2)
  else if w = 6 then pB (pNum B n 1000 k) fun v k1 => if kd B n k1 = 1 ∧ kw B n k1 = 7 then pB (pNum B n 100 (kn B n k1)) fun u k2 => .inr ((12, v, u, fun _ => 0), k2) else .inl (1, kp B n k1)
  else if w = 8 then pB (pCls B n k) fun c k1 => .inr ((8 + c.toNatClampNeg, 0, 0, fun _ => 0), k1)
  else if w = 9 then pB (pNum B n 100 k) fun v k1 => .inr ((13, v, v, fun _ => 0), k1)
  else if w = 10 then pB (pNum B n 1000 k) fun v k1 => .inr ((14, v, v, fun _ => 0), k1)
  else pB (pNum B n 2 k) fun o k1 => pB (pNum B n 1000 k1) fun v k2 => .inr ((15 + o.toNatClampNeg, v, v, fun _ => 0), k2)
def mLF (I : Nat → Nat → Int32) (x : pLn) (I' : Nat → Nat → Int32) : Prop := I' 51 45 = nI x.1 ∧ (x.1 < 4 ∨ 12 ≤ x.1 → I' 51 46 = x.2.1) ∧ (x.1 = 12 → I' 51 47 = x.2.2.1) ∧ (4 ≤ x.1 ∧ x.1 < 8 → mSea I (x.1 - 4) 12 x.2.2.2 I') ∧ (¬ (4 ≤ x.1 ∧ x.1 < 8) → I' 59 = I 59)
theorem wF_r (B : Nat → Int32) (a b : Nat) : ∀ m k, wF B a b m k = -1 ∨ ∃ j, k ≤ j ∧ j < k + m ∧ wF B a b m k = nI j := by
  intro m
  induction m with
  | zero => exact fun k => Or.inl rfl
  | succ m ih =>
    intro k
    unfold wF
    split
    · exact Or.inr ⟨k, Nat.le_refl k, by omega, rfl⟩
    · rcases ih (k + 1) with h | ⟨j, h1, h2, h3⟩
      · exact Or.inl h
      · exact Or.inr ⟨j, by omega, by omega, h3⟩
theorem kw_1 {B : Nat → Int32} {n k : Nat} (h : kd B n k = 1) : ∃ j, j < 12 ∧ kw B n k = nI j := by
  unfold kd tK at h
  unfold kw tV
  split at h
  · exact absurd h (by decide)
  · split at h
    · next c1 c2 =>
      rw [if_pos c2]
      rcases wF_r B (tP B n k) (tSk (tSm B) (n - tP B n k) (tP B n k)) 12 0 with q | ⟨j, -, h2, h3⟩
      · rw [q] at h
        exact absurd h (by decide)
      · exact ⟨j, by omega, h3⟩
    · split at h
      · exact absurd h (by decide)
      · split at h <;> exact absurd h (by decide)
theorem pCls_r {B : Nat → Int32} {n k : Nat} {v : Int32} {k' : Nat} (h : pCls B n k = .inr (v, k')) : ∃ j, j < 4 ∧ v = nI j := by
  unfold pCls at h
  split at h
  · next c =>
    injection h with h
    injection h with h1 h2
    obtain ⟨j, hj, e⟩ := kw_1 c.1
    refine ⟨j, ?_, by rw [← h1, e]⟩
    have := c.2
    rw [e] at this
    have := (nI_leI (a := j) (b := 3) (by omega) (by omega)).mp this
    omega
  · cases h
theorem tNu_r (B : Nat → Int32) : ∀ m k (v : Int32), 0 ≤ v.toInt ∧ v.toInt ≤ 10009 → 0 ≤ (tNu B m k v).toInt ∧ (tNu B m k v).toInt ≤ 10009 := by
  intro m
  induction m with
  | zero => exact fun k v h => h
  | succ m ih =>
    intro k v h
    unfold tNu
    split
    · next c =>
      refine ih (k + 1) _ ?_
      unfold tDi at c
      rw [decide_eq_true_eq, Int32.le_iff_toInt_le, Int32.le_iff_toInt_le] at c
      have e1 : (48 : Int32).toInt = 48 := rfl
      have e2 : (57 : Int32).toInt = 57 := rfl
      have e3 : (1000 : Int32).toInt = 1000 := rfl
      have e4 : (10 : Int32).toInt = 10 := rfl
      rw [e1, e2] at c
      split
      · exact h
      · next d =>
        rw [Int32.lt_iff_toInt_lt, e3] at d
        rw [Int32.toInt_sub, Int32.toInt_add, Int32.toInt_mul, e1, e4]
        simp (disch := omega) only [Nat.reducePow, zbm]
        omega
    · exact h
theorem kw_2 {B : Nat → Int32} {n k : Nat} (h : kd B n k = 2) : 0 ≤ (kw B n k).toInt ∧ (kw B n k).toInt ≤ 10009 := by
  unfold kd tK at h
  unfold kw tV
  split at h
  · exact absurd h (by decide)
  · split at h
    · split at h <;> exact absurd h (by decide)
    · split at h
      · next c1 c2 c3 =>
        rw [if_neg c2, if_pos c3]
        exact tNu_r B _ _ 0 (by decide)
      · split at h <;> exact absurd h (by decide)
theorem pNum_r {B : Nat → Int32} {n k : Nat} {v most : Int32} {k' : Nat} (h : pNum B n most k = .inr (v, k')) : 0 ≤ v.toInt ∧ v ≤ most := by
  unfold pNum at h
  split at h
  · cases h
  · next c =>
    split at h
    · cases h
    · next d =>
      injection h with h
      injection h with h1 h2
      rw [← h1]
      exact ⟨(kw_2 (Classical.byContradiction c)).1, Int32.not_lt.mp d⟩
end
