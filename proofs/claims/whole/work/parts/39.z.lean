theorem za12_13 {k : Nat} (h : k = 13) : Nat.ble 12 k = true ∧ Nat.blt k 20 = true := by rw [h]; exact ⟨rfl, rfl⟩
theorem za12_14 {k : Nat} (h : k = 14) : Nat.ble 12 k = true ∧ Nat.blt k 20 = true := by rw [h]; exact ⟨rfl, rfl⟩
theorem za12_16 {k : Nat} (h : k = 16) : Nat.ble 12 k = true ∧ Nat.blt k 20 = true := by rw [h]; exact ⟨rfl, rfl⟩
theorem za12_17 {k : Nat} (h : k = 17) : Nat.ble 12 k = true ∧ Nat.blt k 20 = true := by rw [h]; exact ⟨rfl, rfl⟩
theorem za12_18 {k : Nat} (h : k = 18) : Nat.ble 12 k = true ∧ Nat.blt k 20 = true := by rw [h]; exact ⟨rfl, rfl⟩
theorem za12_19 {k : Nat} (h : k = 19) : Nat.ble 12 k = true ∧ Nat.blt k 20 = true := by rw [h]; exact ⟨rfl, rfl⟩
theorem za16_16 {k : Nat} (h : k = 16) : Nat.ble 16 k = true ∧ Nat.blt k 20 = true := by rw [h]; exact ⟨rfl, rfl⟩
theorem za16_17 {k : Nat} (h : k = 17) : Nat.ble 16 k = true ∧ Nat.blt k 20 = true := by rw [h]; exact ⟨rfl, rfl⟩
theorem za16_18 {k : Nat} (h : k = 18) : Nat.ble 16 k = true ∧ Nat.blt k 20 = true := by rw [h]; exact ⟨rfl, rfl⟩
theorem za16_19 {k : Nat} (h : k = 19) : Nat.ble 16 k = true ∧ Nat.blt k 20 = true := by rw [h]; exact ⟨rfl, rfl⟩
theorem zisr_null : zisr Value.null := Or.inl rfl
theorem z_en0 {l : Launch} {G : zG} {mi : zMI} {Q : zPo} (hG : zOK l G) (hq : zMst mi = true) {As : List Value} {σ : zS} (hst : Nat.ble (lg_sl As).length (zmaxL mi) = true) (h : Z l G mi Q (fun _ _ => False) 0 (zLo (zl0 As)) [] σ 0 0) : zRuns l G mi As σ Q := by
  simp only [zMst, Bool.and_eq_true, Bool.or_eq_true, Bool.not_eq_true', beq_iff_eq] at hq
  obtain ⟨⟨h2, h3⟩, h4⟩ := hq
  refine z_start hG h4 h2 (fun hi => ?_) (Nat.le_of_ble_eq_true hst) fun L hL => ?_
  · rcases h3 with h3 | h3
    · rw [hi] at h3; cases h3
    · exact h3
  · refine Z_mono (fun i v hi => ?_) h
    have := zl0_lo As 0 L hL i v hi
    rwa [Nat.zero_add] at this
theorem zsw_at {k : Int → Prop} : ∀ (offs : List Int) (x : Int32) (lo : Int) (j : Nat) (o : Int), offs[j]? = some o → x.toInt = lo + j → k o → zsw x lo offs k
  | [], _, _, _, _, h, _, _ => by cases h
  | a :: t, x, lo, 0, o, h, e, q => by
    injection h with h
    subst h
    refine And.intro (fun _ => q) ?_
    have : ∀ (t : List Int) (m : Int), x.toInt < m → zsw x m t k := by
      intro t
      induction t with
      | nil => exact fun _ _ => trivial
      | cons b t ih => exact fun m hm => And.intro (fun h => absurd h (by omega)) (ih (m + 1) (by omega))
    exact this t (lo + 1) (by omega)
  | a :: t, x, lo, j + 1, o, h, e, q => And.intro (fun h => absurd h (by omega)) (zsw_at t x (lo + 1) j o h (by omega) q)
theorem zsw_no {k : Int → Prop} : ∀ (offs : List Int) (x : Int32) (lo : Int), (x.toInt < lo ∨ lo + offs.length ≤ x.toInt) → zsw x lo offs k
  | [], _, _, _ => trivial
  | a :: t, x, lo, h => And.intro (fun e => absurd h (by simp only [List.length_cons]; omega)) (zsw_no t x (lo + 1) (by simp only [List.length_cons] at h; omega))
theorem zu2_a {α : Type} {f : Nat → Nat → α} {n k m j : Nat} {v : α} (h : m ≠ n) : zu2 f n k v m j = f m j := zu2_n (fun q => h q.1)
theorem zu2_b {α : Type} {f : Nat → Nat → α} {n k m j : Nat} {v : α} (h : j ≠ k) : zu2 f n k v m j = f m j := zu2_n (fun q => h q.2)
