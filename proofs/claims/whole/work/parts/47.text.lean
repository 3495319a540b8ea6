theorem tE_ge {B : Nat → Int32} {n p : Nat} : p ≤ tE B n p := by
  unfold tE
  split
  · exact Nat.le_refl _
  · split
    · exact tSk_ge _ _ _
    · split
      · exact tSk_ge _ _ _
      · omega
theorem kn_ge {B : Nat → Int32} {n k : Nat} : k ≤ kn B n k := Nat.le_trans kp_ge tE_ge
theorem pNum_g {B : Nat → Int32} {n k : Nat} {v most : Int32} {k' : Nat} (h : pNum B n most k = .inr (v, k')) : k ≤ k' := by
  unfold pNum at h
  split at h
  · cases h
  · split at h
    · cases h
    · injection h with h
      injection h with h1 h2
      rw [← h2]
      exact kn_ge
theorem pCls_g {B : Nat → Int32} {n k : Nat} {v : Int32} {k' : Nat} (h : pCls B n k = .inr (v, k')) : k ≤ k' := by
  unfold pCls at h
  split at h
  · injection h with h
    injection h with h1 h2
    rw [← h2]
    exact kn_ge
  · cases h
theorem pSgn_g {B : Nat → Int32} {n k : Nat} {v c : Int32} {k' : Nat} (h : pSgn B n c k = .inr (v, k')) : k ≤ k' := by
  unfold pSgn at h
  split at h
  · injection h with h
    injection h with h1 h2
    rw [← h2]
    exact kn_ge
  · cases h
theorem pSea_g {B : Nat → Int32} {n : Nat} : ∀ (m j k : Nat) (s s' : Nat → Int32) (k' : Nat), pSea B n m j k s = .inr (s', k') → (∀ i, i < j → 0 ≤ (s i).toInt ∧ s i ≤ 1000) → k ≤ k' ∧ ∀ i, i < j + m → 0 ≤ (s' i).toInt ∧ s' i ≤ 1000 := by
  intro m
  induction m with
  | zero =>
    intro j k s s' k' h hs
    injection h with h
    injection h with h1 h2
    rw [← h1, ← h2]
    exact ⟨Nat.le_refl k, hs⟩
  | succ m ih =>
    intro j k s s' k' h hs
    unfold pSea at h
    rcases h1 : pSgn B n (if j = 0 then 58 else 44) k with e | ⟨v, k1⟩
    · rw [h1] at h; cases h
    · rw [h1] at h
      dsimp only at h
      rcases h2 : pNum B n 1000 k1 with e | ⟨w, k2⟩
      · rw [h2] at h; cases h
      · rw [h2] at h
        have g1 := pSgn_g h1
        have g2 := pNum_g h2
        have g3 := pNum_r h2
        have := ih (j + 1) k2 _ s' k' h (fun i hi => by
          by_cases d : i = j
          · rw [if_pos d]; exact g3
          · rw [if_neg d]; exact hs i (by omega))
        refine ⟨by omega, fun i hi => this.2 i (by omega)⟩
theorem pSeas_g {B : Nat → Int32} {n k : Nat} {s : Nat → Int32} {k' : Nat} (h : pSeas B n k = .inr (s, k')) : k ≤ k' ∧ ∀ i, i < 12 → 0 ≤ (s i).toInt ∧ s i ≤ 1000 := by
  unfold pSeas at h
  rcases h1 : pSea B n 12 0 k (fun _ => 0) with e | ⟨s', k1⟩
  · rw [h1] at h; cases h
  · rw [h1] at h
    unfold pSeb at h
    dsimp only at h
    split at h
    · cases h
    · injection h with h
      injection h with h2 h3
      subst h2 h3
      have := pSea_g 12 0 k _ s' k1 h1 (fun i hi => absurd hi (Nat.not_lt_zero i))
      exact ⟨this.1, fun i hi => this.2 i (by omega)⟩
/-- where the numbers of a key stand in a row, and how many -/
def lnS (key : Nat) : Nat := if key < 4 then key else if key < 8 then 4 + 12 * (key - 4) else if key < 12 then 52 + (key - 8) else if key = 12 then 56 else 58 + (key - 13)
def lnM (key : Nat) : Nat := if 4 ≤ key ∧ key < 8 then 12 else if key = 12 then 2 else 1
def lnV (x : pLn) (i : Nat) : Int32 := if 4 ≤ x.1 ∧ x.1 < 8 then x.2.2.2 i else if 8 ≤ x.1 ∧ x.1 < 12 then 0 else if x.1 = 12 ∧ i = 1 then x.2.2.1 else x.2.1
def lnU (row : Nat → Int32) (x : pLn) (s : Nat) : Int32 := if lnS x.1 ≤ s ∧ s < lnS x.1 + lnM x.1 then lnV x (s - lnS x.1) else row s
def lnO (x : pLn) : Prop := x.1 < 18 ∧ ∀ i, i < lnM x.1 → 0 ≤ (lnV x i).toInt ∧ lnV x i ≤ 1000 ∧ (x.1 = 12 ∧ i = 1 → lnV x i ≤ 100) ∧ (x.1 = 13 → lnV x i ≤ 100)
theorem i32_le {a b c : Int32} (h : a ≤ b) (h2 : b ≤ c) : a ≤ c := by rw [Int32.le_iff_toInt_le] at *; omega
theorem pLine_g {B : Nat → Int32} {n w k : Nat} {x : pLn} {k' : Nat} (h : pLine B n w k = .inr (x, k')) : k ≤ k' ∧ lnO x := by
  have h100 : (100 : Int32) ≤ 1000 := by decide
  have h2 : (2 : Int32) ≤ 1000 := by decide
  unfold pLine at h
  split at h
  · rcases h1 : pCls B n k with e | ⟨v, k1⟩
    · rw [h1] at h; cases h
    · rw [h1] at h
      unfold pB at h
      dsimp only at h
      rcases h3 : pNum B n 1000 k1 with e | ⟨u, k2⟩
      · rw [h3] at h; cases h
      · rw [h3] at h
        have g1 := pCls_g h1
        have g2 := pNum_g h3
        have g3 := pNum_r h3
        obtain ⟨c, hc, rfl⟩ := pCls_r h1
        dsimp only at h
        rw [nI_clamp (by omega)] at h
        injection h with h
        injection h with q1 q2
        subst q1 q2
        refine ⟨by omega, by show c < 18; omega, fun i hi => ?_⟩
        have e : lnV (c, u, u, fun _ => 0) i = u := by
          unfold lnV
          rw [if_neg (by show ¬ (4 ≤ c ∧ c < 8); omega), if_neg (by show ¬ (8 ≤ c ∧ c < 12); omega), if_neg (by show ¬ (c = 12 ∧ i = 1); omega)]
        rw [e]
        exact ⟨g3.1, g3.2, fun q => absurd q (by show ¬ (c = 12 ∧ i = 1); omega), fun q => absurd q (by show ¬ c = 13; omega)⟩
  · split at h
    · rcases h1 : pCls B n k with e | ⟨v, k1⟩
      · rw [h1] at h; cases h
      · rw [h1] at h
        unfold pB at h
        dsimp only at h
        rcases h3 : pSeas B n k1 with e | ⟨u, k2⟩
        · rw [h3] at h; cases h
        · rw [h3] at h
          have g1 := pCls_g h1
          have g2 := pSeas_g h3
          obtain ⟨c, hc, rfl⟩ := pCls_r h1
          dsimp only at h
          rw [nI_clamp (by omega)] at h
          injection h with h
          injection h with q1 q2
          subst q1 q2
          refine ⟨by omega, by show 4 + c < 18; omega, fun i hi => ?_⟩
          have hi : i < 12 := by
            unfold lnM at hi
            rw [if_pos (by show 4 ≤ 4 + c ∧ 4 + c < 8; omega)] at hi
            exact hi
          have e : lnV (4 + c, 0, 0, u) i = u i := by
            unfold lnV
            rw [if_pos (by show 4 ≤ 4 + c ∧ 4 + c < 8; omega)]
          rw [e]
          exact ⟨(g2.2 i hi).1, (g2.2 i hi).2, fun q => absurd q (by show ¬ (4 + c = 12 ∧ i = 1); omega), fun q => absurd q (by show ¬ 4 + c = 13; omega)⟩
    · split at h
      · rcases h1 : pNum B n 1000 k with e | ⟨v, k1⟩
        · rw [h1] at h; cases h
        · rw [h1] at h
          unfold pB at h
          dsimp only at h
          split at h
          · rcases h3 : pNum B n 100 (kn B n k1) with e | ⟨u, k2⟩
            · rw [h3] at h; cases h
            · rw [h3] at h
              have g1 := pNum_g h1
              have g2 := pNum_g h3
              have g3 := pNum_r h1
              have g4 := pNum_r h3
              have g5 := kn_ge (B := B) (n := n) (k := k1)
              dsimp only at h
              injection h with h
              injection h with q1 q2
              subst q1 q2
              refine ⟨by omega, by show 12 < 18; omega, fun i hi => ?_⟩
              have hi : i < 2 := hi
              by_cases d : i = 1
              · have e : lnV (12, v, u, fun _ => 0) i = u := by
                  unfold lnV
                  rw [if_neg (by show ¬ (4 ≤ 12 ∧ 12 < 8); omega), if_neg (by show ¬ (8 ≤ 12 ∧ 12 < 12); omega), if_pos ⟨rfl, d⟩]
                rw [e]
                exact ⟨g4.1, i32_le g4.2 h100, fun _ => g4.2, fun q => absurd q (by show ¬ 12 = 13; omega)⟩
              · have e : lnV (12, v, u, fun _ => 0) i = v := by
                  unfold lnV
                  rw [if_neg (by show ¬ (4 ≤ 12 ∧ 12 < 8); omega), if_neg (by show ¬ (8 ≤ 12 ∧ 12 < 12); omega), if_neg (fun q => d q.2)]
                rw [e]
                exact ⟨g3.1, g3.2, fun q => absurd q.2 d, fun q => absurd q (by show ¬ 12 = 13; omega)⟩
          · cases h
      · split at h
        · rcases h1 : pCls B n k with e | ⟨v, k1⟩
          · rw [h1] at h; cases h
          · rw [h1] at h
            unfold pB at h
            dsimp only at h
            have g1 := pCls_g h1
            obtain ⟨c, hc, rfl⟩ := pCls_r h1
            rw [nI_clamp (by omega)] at h
            injection h with h
            injection h with q1 q2
            subst q1 q2
            refine ⟨by omega, by show 8 + c < 18; omega, fun i hi => ?_⟩
            have e : lnV (8 + c, 0, 0, fun _ => 0) i = 0 := by
              unfold lnV
              rw [if_neg (by show ¬ (4 ≤ 8 + c ∧ 8 + c < 8); omega), if_pos (by show 8 ≤ 8 + c ∧ 8 + c < 12; omega)]
            rw [e]
            exact ⟨by decide, by decide, fun _ => by decide, fun _ => by decide⟩
        · split at h
          · rcases h1 : pNum B n 100 k with e | ⟨v, k1⟩
            · rw [h1] at h; cases h
            · rw [h1] at h
              unfold pB at h
              dsimp only at h
              have g1 := pNum_g h1
              have g3 := pNum_r h1
              injection h with h
              injection h with q1 q2
              subst q1 q2
              refine ⟨by omega, by show 13 < 18; omega, fun i hi => ?_⟩
              have e : lnV (13, v, v, fun _ => 0) i = v := by
                unfold lnV
                rw [if_neg (by show ¬ (4 ≤ 13 ∧ 13 < 8); omega), if_neg (by show ¬ (8 ≤ 13 ∧ 13 < 12); omega), if_neg (by show ¬ (13 = 12 ∧ i = 1); omega)]
              rw [e]
              exact ⟨g3.1, i32_le g3.2 h100, fun q => absurd q (by show ¬ (13 = 12 ∧ i = 1); omega), fun _ => g3.2⟩
          · split at h
            · rcases h1 : pNum B n 1000 k with e | ⟨v, k1⟩
              · rw [h1] at h; cases h
              · rw [h1] at h
                unfold pB at h
                dsimp only at h
                have g1 := pNum_g h1
                have g3 := pNum_r h1
                injection h with h
                injection h with q1 q2
                subst q1 q2
                refine ⟨by omega, by show 14 < 18; omega, fun i hi => ?_⟩
                have e : lnV (14, v, v, fun _ => 0) i = v := by
                  unfold lnV
                  rw [if_neg (by show ¬ (4 ≤ 14 ∧ 14 < 8); omega), if_neg (by show ¬ (8 ≤ 14 ∧ 14 < 12); omega), if_neg (by show ¬ (14 = 12 ∧ i = 1); omega)]
                rw [e]
                exact ⟨g3.1, g3.2, fun q => absurd q (by show ¬ (14 = 12 ∧ i = 1); omega), fun q => absurd q (by show ¬ 14 = 13; omega)⟩
            · rcases h1 : pNum B n 2 k with e | ⟨v, k1⟩
              · rw [h1] at h; cases h
              · rw [h1] at h
                unfold pB at h
                dsimp only at h
                rcases h3 : pNum B n 1000 k1 with e | ⟨u, k2⟩
                · rw [h3] at h; cases h
                · rw [h3] at h
                  have g1 := pNum_g h1
                  have g2 := pNum_g h3
                  have g3 := pNum_r h3
                  have g4 := pNum_r h1
                  have g5 : v.toNatClampNeg < 3 := by
                    have := g4.2
                    rw [Int32.le_iff_toInt_le] at this
                    have e : (2 : Int32).toInt = 2 := rfl
                    rw [Int32.toNatClampNeg]
                    omega
                  dsimp only at h
                  generalize v.toNatClampNeg = o at *
                  injection h with h
                  injection h with q1 q2
                  subst q1 q2
                  refine ⟨by omega, by show 15 + o < 18; omega, fun i hi => ?_⟩
                  have e : lnV (15 + o, u, u, fun _ => 0) i = u := by
                    unfold lnV
                    rw [if_neg (by show ¬ (4 ≤ 15 + o ∧ 15 + o < 8); omega), if_neg (by show ¬ (8 ≤ 15 + o ∧ 15 + o < 12); omega), if_neg (by show ¬ (15 + o = 12 ∧ i = 1); omega)]
                  rw [e]
                  exact ⟨g3.1, g3.2, fun q => absurd q (by show ¬ (15 + o = 12 ∧ i = 1); omega), fun q => absurd q (by show ¬ 15 + o = 13; omega)⟩
def pTxt (B : Nat → Int32) (n : Nat) : Nat → Nat → (Nat → Int32) → Nat → Sum (Int32 × Nat) ((Nat → Int32) × Nat)
  | 0, _, row, ln => .inr (row, ln)
  | m + 1, k, row, ln => if kd B n k = 0 then .inr (row, ln) else if kd B n k = 1 ∧ 4 ≤ kw B n k ∧ ¬ kw B n k = 7 then (match pLine B n (kw B n k).toNatClampNeg (kn B n k) with
    | .inl e => .inl e
    | .inr (x, k1) => if ¬ row (lnS x.1) = -1 then .inl (3, kp B n k) else (match pSgn B n 59 k1 with
      | .inl e => .inl e
      | .inr (_, k2) => pTxt B n m k2 (lnU row x) (ln + 1))) else .inl (1, kp B n k)
/-- the reference's row t tells the numbers of row -/
def mRw (I : Nat → Nat → Int32) (t : Nat) (row : Nat → Int32) (key : Nat) : Prop :=
  (I 56 (18 * t + key) = 0 ∧ ∀ i, i < lnM key → row (lnS key + i) = -1) ∨ (I 56 (18 * t + key) = 1 ∧ (∀ i, i < lnM key → 0 ≤ (row (lnS key + i)).toInt) ∧ (key < 4 ∨ 12 ≤ key → I 57 (18 * t + key) = row (lnS key)) ∧ (key = 12 → I 58 t = row 57) ∧ (4 ≤ key ∧ key < 8 → ∀ i, i < 12 → I 59 (48 * t + 12 * (key - 4) + i) = row (lnS key + i)) ∧ (8 ≤ key ∧ key < 12 → row (lnS key) = 0))
def mRow (I : Nat → Nat → Int32) (t : Nat) (row : Nat → Int32) : Prop := ∀ key, key < 18 → mRw I t row key
theorem lnS_d : ∀ a, a < 18 → ∀ b, b < 18 → a ≠ b → lnS a + lnM a ≤ lnS b ∨ lnS b + lnM b ≤ lnS a := by decide +kernel
theorem lnM_p : ∀ a, a < 18 → 0 < lnM a := by decide +kernel
theorem lnS_b : ∀ a, a < 18 → lnS a + lnM a ≤ 63 := by decide +kernel
