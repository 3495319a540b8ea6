theorem lnU_i {row : Nat → Int32} {x : pLn} {i : Nat} (h : i < lnM x.1) : lnU row x (lnS x.1 + i) = lnV x i := by
  unfold lnU
  rw [if_pos (by omega), Nat.add_sub_cancel_left]
theorem lnU_o {row : Nat → Int32} {x : pLn} {i k : Nat} (hx : x.1 < 18) (hk : k < 18) (h : k ≠ x.1) (hi : i < lnM k) : lnU row x (lnS k + i) = row (lnS k + i) := by
  have := lnS_d k hk x.1 hx h
  unfold lnU
  rw [if_neg (by omega)]
theorem mRow_u {I I' : Nat → Nat → Int32} {row : Nat → Int32} {x : pLn} (h : mRow I 10 row) (hx : lnO x) (h56 : I' 56 (180 + x.1) = 1) (h56' : ∀ b, b ≠ 180 + x.1 → I' 56 b = I 56 b) (h57 : x.1 < 4 ∨ 12 ≤ x.1 → I' 57 (180 + x.1) = x.2.1) (h57' : ∀ b, b ≠ 180 + x.1 → I' 57 b = I 57 b) (h58 : x.1 = 12 → I' 58 10 = x.2.2.1) (h58' : x.1 ≠ 12 → I' 58 10 = I 58 10) (h59 : 4 ≤ x.1 ∧ x.1 < 8 → mSea I (x.1 - 4) 12 x.2.2.2 I') (h59' : ¬ (4 ≤ x.1 ∧ x.1 < 8) → I' 59 = I 59) : mRow I' 10 (lnU row x) := by
  intro k hk
  by_cases e : k = x.1
  · subst e
    refine Or.inr ⟨h56, fun i hi => ?_, fun q => ?_, fun q => ?_, fun q i hi => ?_, fun q => ?_⟩
    · rw [lnU_i hi]
      exact (hx.2 i hi).1
    · have := lnU_i (row := row) (x := x) (i := 0) (lnM_p _ hk)
      rw [Nat.add_zero] at this
      rw [this, h57 q]
      unfold lnV
      rw [if_neg (by omega), if_neg (by omega), if_neg (by omega)]
    · have hm : lnM x.1 = 2 := by rw [q]; rfl
      have hs : lnS x.1 = 56 := by rw [q]; rfl
      have := lnU_i (row := row) (x := x) (i := 1) (by omega)
      rw [hs] at this
      rw [this, h58 q]
      unfold lnV
      rw [if_neg (by omega), if_neg (by omega), if_pos ⟨q, rfl⟩]
    · have hm : lnM x.1 = 12 := by unfold lnM; rw [if_pos q]
      rw [lnU_i (by omega)]
      have := (h59 q).1 i hi
      rw [show 48 * 10 + 12 * (x.1 - 4) + i = 480 + 12 * (x.1 - 4) + i from by omega, this]
      unfold lnV
      rw [if_pos q]
    · have := lnU_i (row := row) (x := x) (i := 0) (lnM_p _ hk)
      rw [Nat.add_zero] at this
      rw [this]
      unfold lnV
      rw [if_neg (by omega), if_pos q]
  · have e0 : lnU row x (lnS k) = row (lnS k) := by
      have := lnU_o (row := row) (i := 0) hx.1 hk e (lnM_p _ hk)
      rwa [Nat.add_zero] at this
    rcases h k hk with ⟨g1, g2⟩ | ⟨g1, g2, g3, g4, g5, g6⟩
    · refine Or.inl ⟨by rw [h56' _ (by omega)]; exact g1, fun i hi => ?_⟩
      rw [lnU_o hx.1 hk e hi]
      exact g2 i hi
    · refine Or.inr ⟨by rw [h56' _ (by omega)]; exact g1, fun i hi => ?_, fun q => ?_, fun q => ?_, fun q i hi => ?_, fun q => ?_⟩
      · rw [lnU_o hx.1 hk e hi]
        exact g2 i hi
      · rw [h57' _ (by omega), e0]
        exact g3 q
      · have hm : lnM k = 2 := by rw [q]; rfl
        have hs : lnS k = 56 := by rw [q]; rfl
        have := lnU_o (row := row) (i := 1) hx.1 hk e (by omega)
        rw [hs] at this
        rw [this, h58' (by omega)]
        exact g4 q
      · have hm : lnM k = 12 := by unfold lnM; rw [if_pos q]
        rw [lnU_o hx.1 hk e (by omega), ← g5 q i hi]
        by_cases d : 4 ≤ x.1 ∧ x.1 < 8
        · exact (h59 d).2 _ (by omega)
        · rw [h59' d]
      · rw [e0]
        exact g6 q
def frX (I I' : Nat → Nat → Int32) : Prop := ∀ a b, ¬ (a = 51 ∧ (b = 13 ∨ b = 14 ∨ (40 ≤ b ∧ b ≤ 47))) → ¬ (a = 59 ∧ 480 ≤ b) → ¬ ((a = 56 ∨ a = 57) ∧ 180 ≤ b) → ¬ ((a = 58 ∨ a = 60) ∧ b = 10) → I' a b = I a b
theorem frX_r (I : Nat → Nat → Int32) : frX I I := fun _ _ _ _ _ _ => rfl
theorem frX_t {I I' I'' : Nat → Nat → Int32} (h : frX I I') (h' : frX I' I'') : frX I I'' := fun a b h1 h2 h3 h4 => (h' a b h1 h2 h3 h4).trans (h a b h1 h2 h3 h4)
theorem frP_X {I I' : Nat → Nat → Int32} (h : frP I I') : frX I I' := fun a b h1 h2 _ _ => h a b h1 h2
theorem frX_u {I I' : Nat → Nat → Int32} {a b : Nat} {v : Int32} (h : frX I I') (hab : ((a = 56 ∨ a = 57) ∧ 180 ≤ b) ∨ ((a = 58 ∨ a = 60) ∧ b = 10) ∨ (a = 51 ∧ (b = 13 ∨ b = 14 ∨ (40 ≤ b ∧ b ≤ 47)))) : frX I (zu2 I' a b v) := by
  intro c d h1 h2 h3 h4
  rw [zu2_n (by omega)]
  exact h c d h1 h2 h3 h4
