def zle : zLs → zLs → Prop
  | [], _ => True
  | x :: s, y :: t => (x = none ∨ x = y) ∧ zle s t
  | x :: s, [] => x = none ∧ zle s []
theorem zle_lo : ∀ (a b : zLs), zle a b → ∀ i v, zLo a i = some v → zLo b i = some v
  | [], b, _, i, v, h => by simp [zLo] at h
  | x :: s, y :: t, h, 0, v, hv => by
    have hx : x = some v := by simpa [zLo] using hv
    rcases h.1 with e | e
    · rw [e] at hx; cases hx
    · rw [← e, hx]; rfl
  | x :: s, y :: t, h, i + 1, v, hv => by
    have := zle_lo s t h.2 i v (by simpa [zLo] using hv)
    simpa [zLo] using this
  | x :: s, [], h, 0, v, hv => by
    have hx : x = some v := by simpa [zLo] using hv
    rw [h.1] at hx; cases hx
  | x :: s, [], h, i + 1, v, hv => by
    have := zle_lo s [] h.2 i v (by simpa [zLo] using hv)
    simp [zLo] at this
theorem Z_le {l : Launch} {G : zG} {mi : zMI} {Q : zPo} {PX : String → zS → Prop} {pc : Nat} {a b : zLs} {S : List Value} {σ : zS} {kc ks : Nat} (h : Z l G mi Q PX pc (zLo a) S σ kc ks) (hl : zle a b) : Z l G mi Q PX pc (zLo b) S σ kc ks := Z_mono (zle_lo a b hl) h
/-- what a class of a fire brings: worth, elsewhere, season, lost -/
def sDam (wo el se lo : Int32) : Int64 := if wo.toInt64 + el.toInt64 = 0 then 0 else wo.toInt64 * se.toInt64 * lo.toInt64 / 10000 * wo.toInt64 / (wo.toInt64 + el.toInt64)
def sSum (say cnt lost : Nat → Int32) : Nat → Int64
  | 0 => 0
  | c + 1 => if say (8 + c) = 0 then sSum say cnt lost c else sSum say cnt lost c + sDam (cnt c) (cnt (4 + c)) (say (4 + c)) (lost c)
def sOff (s : Int64) (h : Int32) : Int64 := s - (s * h.toInt64 + 99) / 100
def sAw (say cnt lost : Nat → Int32) : Int64 := sOff (if cnt 8 < say 12 then sOff (sSum say cnt lost 4) (say 13) else sSum say cnt lost 4) (say 14)
theorem lgc0 {x y : Int64} : lg_cmp x y = 0 ↔ x = y := by
  unfold lg_cmp
  by_cases h1 : x > y
  · rw [if_pos h1]
    refine ⟨fun h => absurd h (by decide), fun h => ?_⟩
    subst h
    exact absurd h1 (by simp [Int64.lt_irrefl])
  · rw [if_neg h1]
    by_cases h2 : x = y
    · rw [if_pos h2]; exact ⟨fun _ => h2, fun _ => rfl⟩
    · rw [if_neg h2]; exact ⟨fun h => absurd h (by decide), fun h => absurd h h2⟩
theorem lgc_lt {x y : Int64} : lg_cmp x y < 0 ↔ x < y := by
  unfold lg_cmp
  by_cases h1 : x > y
  · rw [if_pos h1]
    exact ⟨fun h => absurd h (by decide), fun h => absurd h1 (by simp only [gt_iff_lt, Int64.lt_iff_toInt_lt] at *; omega)⟩
  · rw [if_neg h1]
    by_cases h2 : x = y
    · rw [if_pos h2]
      subst h2
      exact ⟨fun h => absurd h (by decide), fun h => absurd h (by simp [Int64.lt_irrefl])⟩
    · rw [if_neg h2]
      refine ⟨fun _ => ?_, fun _ => by decide⟩
      have h3 : x.toInt ≠ y.toInt := fun h => h2 (Int64.toInt_inj.mp h)
      simp only [gt_iff_lt, Int64.lt_iff_toInt_lt] at *
      omega
theorem lgc_gt {x y : Int64} : 0 < lg_cmp x y ↔ y < x := by
  unfold lg_cmp
  by_cases h1 : x > y
  · rw [if_pos h1]
    exact ⟨fun _ => h1, fun _ => by decide⟩
  · rw [if_neg h1]
    by_cases h2 : x = y
    · rw [if_pos h2]
      exact ⟨fun h => absurd h (by decide), fun h => absurd h h1⟩
    · rw [if_neg h2]
      exact ⟨fun h => absurd h (by decide), fun h => absurd h h1⟩
