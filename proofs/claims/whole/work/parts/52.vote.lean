section
variable {l : Launch} {G : zG}
/-- only what a vote on text t may change -/
def frV (t : Nat) (I I' : Nat → Nat → Int32) : Prop := ∀ a b, ¬ (a = 51 ∧ (b = 1 ∨ b = 2 ∨ b = 4 ∨ b = 13 ∨ b = 14 ∨ (39 ≤ b ∧ b ≤ 47))) → ¬ (a = 59 ∧ (480 ≤ b ∨ (48 * t ≤ b ∧ b < 48 * t + 48))) → ¬ ((a = 56 ∨ a = 57) ∧ (180 ≤ b ∨ (18 * t ≤ b ∧ b < 18 * t + 18))) → ¬ ((a = 58 ∨ a = 60 ∨ a = 53 ∨ a = 54 ∨ a = 55) ∧ (b = 10 ∨ b = t)) → I' a b = I a b
theorem frX_V {t : Nat} {I I' : Nat → Nat → Int32} (h : frX I I') : frV t I I' := fun a b h1 h2 h3 h4 => h a b (by omega) (by omega) (by omega) (by omega)
theorem frV_t {t : Nat} {I I' I'' : Nat → Nat → Int32} (h : frV t I I') (h' : frV t I' I'') : frV t I I'' := fun a b h1 h2 h3 h4 => (h' a b h1 h2 h3 h4).trans (h a b h1 h2 h3 h4)
theorem frV_u {t : Nat} {I I' : Nat → Nat → Int32} {a b : Nat} {v : Int32} (h : frV t I I') (hab : (a = 51 ∧ (b = 1 ∨ b = 2 ∨ b = 4 ∨ b = 13 ∨ b = 14 ∨ (39 ≤ b ∧ b ≤ 47))) ∨ ((a = 58 ∨ a = 60 ∨ a = 53 ∨ a = 54 ∨ a = 55) ∧ (b = 10 ∨ b = t))) : frV t I (zu2 I' a b v) := by
  intro c d h1 h2 h3 h4
  rw [zu2_n (by omega)]
  exact h c d h1 h2 h3 h4
theorem mRow_c {t : Nat} {I I' : Nat → Nat → Int32} {row : Nat → Int32} (h : mRow I 10 row) (h56 : ∀ i, i < 18 → I' 56 (18 * t + i) = I 56 (180 + i)) (h57 : ∀ i, i < 18 → I' 57 (18 * t + i) = I 57 (180 + i)) (h58 : I' 58 t = I 58 10) (h59 : ∀ i, i < 48 → I' 59 (48 * t + i) = I 59 (480 + i)) : mRow I' t row := by
  intro key hk
  have := h key hk
  unfold mRw at this ⊢
  rw [show 18 * 10 + key = 180 + key from by omega] at this
  rw [h56 key hk, h57 key hk, h58]
  rcases this with g | ⟨g1, g2, g3, g4, g5, g6⟩
  · exact Or.inl g
  · refine Or.inr ⟨g1, g2, g3, g4, fun q i hi => ?_, g6⟩
    rw [Nat.add_assoc, h59 _ (by omega), ← g5 q i hi]
    congr 1
    omega
end
