theorem za12_13 {k : Nat} (h : k = 13) : Nat.ble 12 k = true ∧ Nat.blt k 20 = true := by rw [h]; exact ⟨rfl, rfl⟩
theorem za12_14 {k : Nat} (h : k = 14) : Nat.ble 12 k = true ∧ Nat.blt k 20 = true := by rw [h]; exact ⟨rfl, rfl⟩
theorem za12_16 {k : Nat} (h : k = 16) : Nat.ble 12 k = true ∧ Nat.blt k 20 = true := by rw [h]; exact ⟨rfl, rfl⟩
theorem za12_17 {k : Nat} (h : k = 17) : Nat.ble 12 k = true ∧ Nat.blt k 20 = true := by rw [h]; exact ⟨rfl, rfl⟩
theorem za12_18 {k : Nat} (h : k = 18) : Nat.ble 12 k = true ∧ Nat.blt k 20 = true := by rw [h]; exact ⟨rfl, rfl⟩
theorem za12_19 {k : Nat} (h : k = 19) : Nat.ble 12 k = true ∧ Nat.blt k 20 = true := by rw [h]; exact ⟨rfl, rfl⟩
theorem za16_16 {k : Nat} (h : k = 16) : Nat.ble 16 k = true ∧ Nat.blt k 20 = true := by rw [h]; exact ⟨rfl, rfl⟩
theorem za16_17 {k : Nat} (h : k = 17) : Nat.ble 16 k = true ∧ Nat.blt k 20 = true := by rw [h]; exact ⟨rfl, rfl⟩
theorem za16_18 {k : Nat} (h : k = 18) : Nat.ble 16 k = true ∧ Nat.blt k 20 = true := by rw [h]; exact ⟨rfl, rfl⟩
theorem za16_19 {k : Nat} (h : k = 19) : Nat.ble 16 k = true ∧ Nat.blt k 20 = true := by rw [h]; exact ⟨rfl, rfl⟩
theorem zisr_null : zisr Value.null := Or.inl rfl
