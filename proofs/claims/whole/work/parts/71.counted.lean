def nFa (D : zD) (i : Nat) : Nat := (rF D.2.2.1 39 i).getD 0
def nLa (D : zD) (i : Nat) : Nat := (rF D.2.2.1 (nFa D i) 3).getD 0
def kFa (D : zD) (i : Nat) : Prop := rF D.2.2.1 39 i = some (nFa D i) ∧ kF D.1 (nFa D i) = 0 ∧ rF D.2.2.1 (nFa D i) 3 = some (nLa D i) ∧ kF D.1 (nLa D i) = 18 ∧ nF D.2.1 (nLa D i) = 9 ∧ 85 ≤ nFa D i ∧ nFa D i < D.2.2.2 ∧ 85 ≤ nLa D i ∧ nLa D i < D.2.2.2
def vFa (D : zD) (I : Nat → Nat → Int32) (J : Nat → Nat → Int64) (i : Nat) : Prop := I (nFa D i) 0 = I 61 i ∧ I (nFa D i) 1 = I 62 i ∧ J (nFa D i) 2 = J 75 i
/-- the notes of a farm and kind among the first, the latest first -/
def nCh (I : Nat → Nat → Int32) (f w : Int32) : Nat → List Nat → Prop
  | 0, ps => ps = []
  | k + 1, ps => (I 63 k = f ∧ I 64 k = w → ∃ p ps', ps = p :: ps' ∧ I p 0 = I 66 k ∧ I p 1 = I 65 k ∧ I p 2 = I 67 k ∧ nCh I f w k ps') ∧ (¬ (I 63 k = f ∧ I 64 k = w) → nCh I f w k ps)
def kNo (D : zD) (I : Nat → Nat → Int32) (nn i w : Nat) : Prop := ∃ ps, sCh D ps (rF D.2.2.1 (nLa D i) w) ∧ nCh I (nI i) (nI w) nn ps ∧ ∀ p, p ∈ ps → 85 ≤ p ∧ p < D.2.2.2
def vNo (I : Nat → Nat → Int32) (nn : Nat) : Prop := ∀ k, k < nn → 0 ≤ (I 65 k).toInt ∧ 0 ≤ (I 67 k).toInt ∧ (I 67 k).toInt ≤ 10000
theorem sF_sB {I : Nat → Nat → Int32} {f w d kn : Int32} : ∀ (n : Nat) (ps : List Nat) (v fr : Int32), nCh I f w n ps → sF I d kn ps v fr = match sB (sP I f w d kn) (I 65) n with
    | none => v
    | some b => if fr < I 65 b then I 67 b else v
  | 0, ps, v, fr, h => by
    have h : ps = [] := h
    subst h
    rfl
  | n + 1, ps, v, fr, h => by
    obtain ⟨h1, h2⟩ := h
    unfold sB
    by_cases c : I 63 n = f ∧ I 64 n = w
    · obtain ⟨p, ps', rfl, q1, q2, q3, q4⟩ := h1 c
      have ih := fun v fr => sF_sB (d := d) (kn := kn) n ps' v fr q4
      unfold sF
      rw [q1, q2, q3]
      have hP : sP I f w d kn n = true ↔ I 66 n ≤ kn ∧ I 65 n ≤ d := by
        unfold sP
        simp only [decide_eq_true_eq]
        exact ⟨fun ⟨_, _, x, y⟩ => ⟨y, x⟩, fun ⟨y, x⟩ => ⟨c.1, c.2, x, y⟩⟩
      rw [ih, ih]
      by_cases cP : I 66 n ≤ kn ∧ I 65 n ≤ d
      · rcases hb : sB (sP I f w d kn) (I 65) n with _ | b
        · rw [if_pos (c := sP I f w d kn n = true ∧ _) ⟨hP.mpr cP, fun b hb => by cases hb⟩]
          dsimp only
          by_cases cf : fr < I 65 n
          · rw [if_pos ⟨cP.1, cP.2, cf⟩, if_pos cf]
          · rw [if_neg (fun q => cf q.2.2), if_neg cf]
        · dsimp only
          by_cases cb : I 65 b ≤ I 65 n
          · rw [if_pos (c := sP I f w d kn n = true ∧ _) ⟨hP.mpr cP, fun b' hb' => by cases hb'; exact cb⟩]
            dsimp only
            by_cases cf : fr < I 65 n
            · rw [if_pos ⟨cP.1, cP.2, cf⟩, if_pos cf, if_neg (Int32.not_lt.mpr cb)]
            · rw [if_neg (fun q => cf q.2.2), if_neg cf, if_neg (fun q => cf (by rw [Int32.lt_iff_toInt_lt] at *; rw [Int32.le_iff_toInt_le] at cb; omega))]
          · rw [if_neg (c := sP I f w d kn n = true ∧ ∀ b', some b = some b' → I 65 b' ≤ I 65 n) (fun q => cb (q.2 b rfl))]
            dsimp only
            by_cases cf : fr < I 65 n
            · rw [if_pos ⟨cP.1, cP.2, cf⟩, if_pos (Int32.not_le.mp cb), if_pos (by have := Int32.not_le.mp cb; rw [Int32.lt_iff_toInt_lt] at *; omega)]
            · rw [if_neg (fun q => cf q.2.2)]
      · rw [if_neg (fun q => cP ⟨q.1, q.2.1⟩), if_neg (fun q => cP (hP.mp q.1))]
    · have ih := sF_sB (d := d) (kn := kn) n ps v fr (h2 c)
      rw [if_neg (fun q => c (by have := q.1; unfold sP at this; have := of_decide_eq_true this; exact ⟨this.1, this.2.1⟩))]
      exact ih
theorem cnt_eq {I : Nat → Nat → Int32} {n : Nat} {f w d kn : Int32} {ps : List Nat} (h : nCh I f w n ps) (hv : vNo I n) : sF I d kn ps 0 (-1) = sCounts I n f w d kn := by
  rw [sF_sB n ps 0 (-1) h]
  unfold sCounts
  rcases hb : sB (sP I f w d kn) (I 65) n with _ | b
  · rfl
  · dsimp only
    have := (hv b (sB_lt hb)).1
    rw [if_pos (by rw [Int32.lt_iff_toInt_lt, show (-1 : Int32).toInt = -1 from rfl]; omega)]
section
variable {l : Launch} {G : zG}
theorem c_cnt (hG : zOK l G) (D : zD) (I : Nat → Nat → Int32) (J : Nat → Nat → Int64) (i w nn : Nat) (hw : w < 9) (hf : kFa D i) (hno : kNo D I nn i w) (hv : vNo I nn) (d kn : Int32) : zRuns l G mX0_counted [.ref (nFa D i), .int (nI w), .int d, .int kn] (zst D I J) (fun r σ' => r = some (.int (sCounts I nn (nI i) (nI w) d kn)) ∧ σ' = zst D I J) := by
  obtain ⟨ps, h1, h2, _⟩ := hno
  rw [← cnt_eq h2 hv]
  exact c_X0_counted hG D I J (nFa D i) (nLa D i) hf.2.1 hf.2.2.1 hf.2.2.2.1 hf.2.2.2.2.1 w hw d kn ps h1
end
