section
variable {l : Launch} {G : zG} {Q : zPo} {PX : String → zS → Prop} {len i kc ks : Nat} {f : Nat → Int32} {σ : zS}
set_option maxRecDepth 100000 in
set_option maxHeartbeats 4000000 in
theorem lw_feed (hG : zOK l G) (hS : zST G) (hH : zTH G) (hT : zSc G len f) (hi : i + 6 ≤ len) (hI : Inv σ) (hkc : kc + 4 ≤ 601024) (hks : ks + 68 ≤ 7293034) (k : ∀ σ' kc' ks', Inv σ' → kc' ≤ kc + 4 → ks' ≤ ks + 68 → Z l G mL_law Q PX 1007 (lwL i) [] σ' kc' ks') : Z l G mL_law Q PX 136 (lwL i) [] σ kc ks := by
  refine z_opI (m1 := mX10_feed) (m2 := mX11_feed) (n := 5) (idx1 := 28) (idx2 := 32) (len := len) (i := i) (f := f) (op_feed hG _ _ _ _ _) ⟨ml_12_28, zm_X10_feed, zi_X10_feed, zse_X10_feed, rfl, (Nat.le_of_ble_eq_true rfl), (Nat.le_of_ble_eq_true rfl), (Nat.le_of_ble_eq_true rfl)⟩ ⟨ml_12_32, zm_X11_feed, zi_X11_feed, zse_X11_feed, rfl, (Nat.le_of_ble_eq_true rfl), (Nat.le_of_ble_eq_true rfl), (Nat.le_of_ble_eq_true rfl)⟩ hT ⟨rfl, rfl, rfl, rfl⟩ hi (by decide) (zat wL_law rfl) (zAr_s (zat wL_law rfl) (zat wL_law rfl) (zat wL_law rfl) (zat wL_law rfl) (zat wL_law rfl) rfl (zAr_s (zat wL_law rfl) (zat wL_law rfl) (zat wL_law rfl) (zat wL_law rfl) (zat wL_law rfl) rfl (zAr_s (zat wL_law rfl) (zat wL_law rfl) (zat wL_law rfl) (zat wL_law rfl) (zat wL_law rfl) rfl (zAr_s (zat wL_law rfl) (zat wL_law rfl) (zat wL_law rfl) (zat wL_law rfl) (zat wL_law rfl) rfl (zAr_s (zat wL_law rfl) (zat wL_law rfl) (zat wL_law rfl) (zat wL_law rfl) (zat wL_law rfl) rfl zAr_0))))) (zat wL_law rfl) (zat wL_law rfl) (zAr_s (zat wL_law rfl) (zat wL_law rfl) (zat wL_law rfl) (zat wL_law rfl) (zat wL_law rfl) rfl (zAr_s (zat wL_law rfl) (zat wL_law rfl) (zat wL_law rfl) (zat wL_law rfl) (zat wL_law rfl) rfl (zAr_s (zat wL_law rfl) (zat wL_law rfl) (zat wL_law rfl) (zat wL_law rfl) (zat wL_law rfl) rfl (zAr_s (zat wL_law rfl) (zat wL_law rfl) (zat wL_law rfl) (zat wL_law rfl) (zat wL_law rfl) rfl (zAr_s (zat wL_law rfl) (zat wL_law rfl) (zat wL_law rfl) (zat wL_law rfl) (zat wL_law rfl) rfl zAr_0))))) (zat wL_law rfl) (zat wL_law rfl) rfl ?_ ?_ hI (fun σ' h => k σ' _ _ h ?_ ?_)
  · show kc + 0 + 0 ≤ 601024; omega
  · show ks + 0 + 0 ≤ 7293034; omega
  · show kc + 0 + 0 ≤ kc + 4; omega
  · show ks + 0 + 0 ≤ ks + 68; omega
set_option maxRecDepth 100000 in
set_option maxHeartbeats 4000000 in
theorem lw_vote (hG : zOK l G) (hS : zST G) (hH : zTH G) (hT : zSc G len f) (hi : i + 6 ≤ len) (hI : Inv σ) (hkc : kc + 4 ≤ 601024) (hks : ks + 68 ≤ 7293034) (k : ∀ σ' kc' ks', Inv σ' → kc' ≤ kc + 4 → ks' ≤ ks + 68 → Z l G mL_law Q PX 1007 (lwL i) [] σ' kc' ks') : Z l G mL_law Q PX 209 (lwL i) [] σ kc ks := by
  refine z_opI (m1 := mX10_vote) (m2 := mX11_vote) (n := 2) (idx1 := 33) (idx2 := 36) (len := len) (i := i) (f := f) (op_vote hG hS _ _) ⟨ml_12_33, zm_X10_vote, zi_X10_vote, zse_X10_vote, rfl, (Nat.le_of_ble_eq_true rfl), (Nat.le_of_ble_eq_true rfl), (Nat.le_of_ble_eq_true rfl)⟩ ⟨ml_12_36, zm_X11_vote, zi_X11_vote, zse_X11_vote, rfl, (Nat.le_of_ble_eq_true rfl), (Nat.le_of_ble_eq_true rfl), (Nat.le_of_ble_eq_true rfl)⟩ hT ⟨rfl, rfl, rfl, rfl⟩ hi (by decide) (zat wL_law rfl) (zAr_s (zat wL_law rfl) (zat wL_law rfl) (zat wL_law rfl) (zat wL_law rfl) (zat wL_law rfl) rfl (zAr_s (zat wL_law rfl) (zat wL_law rfl) (zat wL_law rfl) (zat wL_law rfl) (zat wL_law rfl) rfl zAr_0)) (zat wL_law rfl) (zat wL_law rfl) (zAr_s (zat wL_law rfl) (zat wL_law rfl) (zat wL_law rfl) (zat wL_law rfl) (zat wL_law rfl) rfl (zAr_s (zat wL_law rfl) (zat wL_law rfl) (zat wL_law rfl) (zat wL_law rfl) (zat wL_law rfl) rfl zAr_0)) (zat wL_law rfl) (zat wL_law rfl) rfl ?_ ?_ hI (fun σ' h => k σ' _ _ h ?_ ?_)
  · show kc + 2 + 0 ≤ 601024; omega
  · show ks + 68 + 0 ≤ 7293034; omega
  · show kc + 2 + 0 ≤ kc + 4; omega
  · show ks + 68 + 0 ≤ ks + 68; omega
set_option maxRecDepth 100000 in
set_option maxHeartbeats 4000000 in
theorem lw_fault (hG : zOK l G) (hS : zST G) (hH : zTH G) (hT : zSc G len f) (hi : i + 6 ≤ len) (hI : Inv σ) (hkc : kc + 4 ≤ 601024) (hks : ks + 68 ≤ 7293034) (k : ∀ σ' kc' ks', Inv σ' → kc' ≤ kc + 4 → ks' ≤ ks + 68 → Z l G mL_law Q PX 1007 (lwL i) [] σ' kc' ks') : Z l G mL_law Q PX 246 (lwL i) [] σ kc ks := by
  refine z_opI (m1 := mX10_fault) (m2 := mX11_fault) (n := 1) (idx1 := 37) (idx2 := 41) (len := len) (i := i) (f := f) (op_fault hG _) ⟨ml_12_37, zm_X10_fault, zi_X10_fault, zse_X10_fault, rfl, (Nat.le_of_ble_eq_true rfl), (Nat.le_of_ble_eq_true rfl), (Nat.le_of_ble_eq_true rfl)⟩ ⟨ml_12_41, zm_X11_fault, zi_X11_fault, zse_X11_fault, rfl, (Nat.le_of_ble_eq_true rfl), (Nat.le_of_ble_eq_true rfl), (Nat.le_of_ble_eq_true rfl)⟩ hT ⟨rfl, rfl, rfl, rfl⟩ hi (by decide) (zat wL_law rfl) (zAr_s (zat wL_law rfl) (zat wL_law rfl) (zat wL_law rfl) (zat wL_law rfl) (zat wL_law rfl) rfl zAr_0) (zat wL_law rfl) (zat wL_law rfl) (zAr_s (zat wL_law rfl) (zat wL_law rfl) (zat wL_law rfl) (zat wL_law rfl) (zat wL_law rfl) rfl zAr_0) (zat wL_law rfl) (zat wL_law rfl) rfl ?_ ?_ hI (fun σ' h => k σ' _ _ h ?_ ?_)
  · show kc + 0 + 0 ≤ 601024; omega
  · show ks + 0 + 0 ≤ 7293034; omega
  · show kc + 0 + 0 ≤ kc + 4; omega
  · show ks + 0 + 0 ≤ ks + 68; omega
set_option maxRecDepth 100000 in
set_option maxHeartbeats 4000000 in
theorem lw_undo (hG : zOK l G) (hS : zST G) (hH : zTH G) (hT : zSc G len f) (hi : i + 6 ≤ len) (hI : Inv σ) (hkc : kc + 4 ≤ 601024) (hks : ks + 68 ≤ 7293034) (k : ∀ σ' kc' ks', Inv σ' → kc' ≤ kc + 4 → ks' ≤ ks + 68 → Z l G mL_law Q PX 1007 (lwL i) [] σ' kc' ks') : Z l G mL_law Q PX 271 (lwL i) [] σ kc ks := by
  refine z_opI (m1 := mX10_undo) (m2 := mX11_undo) (n := 1) (idx1 := 42) (idx2 := 46) (len := len) (i := i) (f := f) (op_undo hG _) ⟨ml_12_42, zm_X10_undo, zi_X10_undo, zse_X10_undo, rfl, (Nat.le_of_ble_eq_true rfl), (Nat.le_of_ble_eq_true rfl), (Nat.le_of_ble_eq_true rfl)⟩ ⟨ml_12_46, zm_X11_undo, zi_X11_undo, zse_X11_undo, rfl, (Nat.le_of_ble_eq_true rfl), (Nat.le_of_ble_eq_true rfl), (Nat.le_of_ble_eq_true rfl)⟩ hT ⟨rfl, rfl, rfl, rfl⟩ hi (by decide) (zat wL_law rfl) (zAr_s (zat wL_law rfl) (zat wL_law rfl) (zat wL_law rfl) (zat wL_law rfl) (zat wL_law rfl) rfl zAr_0) (zat wL_law rfl) (zat wL_law rfl) (zAr_s (zat wL_law rfl) (zat wL_law rfl) (zat wL_law rfl) (zat wL_law rfl) (zat wL_law rfl) rfl zAr_0) (zat wL_law rfl) (zat wL_law rfl) rfl ?_ ?_ hI (fun σ' h => k σ' _ _ h ?_ ?_)
  · show kc + 0 + 0 ≤ 601024; omega
  · show ks + 0 + 0 ≤ 7293034; omega
  · show kc + 0 + 0 ≤ kc + 4; omega
  · show ks + 0 + 0 ≤ ks + 68; omega
set_option maxRecDepth 100000 in
set_option maxHeartbeats 4000000 in
theorem lw_pass (hG : zOK l G) (hS : zST G) (hH : zTH G) (hT : zSc G len f) (hi : i + 6 ≤ len) (hI : Inv σ) (hkc : kc + 4 ≤ 601024) (hks : ks + 68 ≤ 7293034) (k : ∀ σ' kc' ks', Inv σ' → kc' ≤ kc + 4 → ks' ≤ ks + 68 → Z l G mL_law Q PX 1007 (lwL i) [] σ' kc' ks') : Z l G mL_law Q PX 296 (lwL i) [] σ kc ks := by
  refine z_opI (m1 := mX10_pass) (m2 := mX11_pass) (n := 1) (idx1 := 47) (idx2 := 50) (len := len) (i := i) (f := f) (op_pass hG _) ⟨ml_12_47, zm_X10_pass, zi_X10_pass, zse_X10_pass, rfl, (Nat.le_of_ble_eq_true rfl), (Nat.le_of_ble_eq_true rfl), (Nat.le_of_ble_eq_true rfl)⟩ ⟨ml_12_50, zm_X11_pass, zi_X11_pass, zse_X11_pass, rfl, (Nat.le_of_ble_eq_true rfl), (Nat.le_of_ble_eq_true rfl), (Nat.le_of_ble_eq_true rfl)⟩ hT ⟨rfl, rfl, rfl, rfl⟩ hi (by decide) (zat wL_law rfl) (zAr_s (zat wL_law rfl) (zat wL_law rfl) (zat wL_law rfl) (zat wL_law rfl) (zat wL_law rfl) rfl zAr_0) (zat wL_law rfl) (zat wL_law rfl) (zAr_s (zat wL_law rfl) (zat wL_law rfl) (zat wL_law rfl) (zat wL_law rfl) (zat wL_law rfl) rfl zAr_0) (zat wL_law rfl) (zat wL_law rfl) rfl ?_ ?_ hI (fun σ' h => k σ' _ _ h ?_ ?_)
  · show kc + 0 + 0 ≤ 601024; omega
  · show ks + 0 + 0 ≤ 7293034; omega
  · show kc + 0 + 0 ≤ kc + 4; omega
  · show ks + 0 + 0 ≤ ks + 68; omega
set_option maxRecDepth 100000 in
set_option maxHeartbeats 4000000 in
theorem lw_farm (hG : zOK l G) (hS : zST G) (hH : zTH G) (hT : zSc G len f) (hi : i + 6 ≤ len) (hI : Inv σ) (hkc : kc + 4 ≤ 601024) (hks : ks + 68 ≤ 7293034) (k : ∀ σ' kc' ks', Inv σ' → kc' ≤ kc + 4 → ks' ≤ ks + 68 → Z l G mL_law Q PX 1007 (lwL i) [] σ' kc' ks') : Z l G mL_law Q PX 321 (lwL i) [] σ kc ks := by
  refine z_opI (m1 := mX10_farm) (m2 := mX11_farm) (n := 1) (idx1 := 51) (idx2 := 54) (len := len) (i := i) (f := f) (op_farm hG _) ⟨ml_12_51, zm_X10_farm, zi_X10_farm, zse_X10_farm, rfl, (Nat.le_of_ble_eq_true rfl), (Nat.le_of_ble_eq_true rfl), (Nat.le_of_ble_eq_true rfl)⟩ ⟨ml_12_54, zm_X11_farm, zi_X11_farm, zse_X11_farm, rfl, (Nat.le_of_ble_eq_true rfl), (Nat.le_of_ble_eq_true rfl), (Nat.le_of_ble_eq_true rfl)⟩ hT ⟨rfl, rfl, rfl, rfl⟩ hi (by decide) (zat wL_law rfl) (zAr_s (zat wL_law rfl) (zat wL_law rfl) (zat wL_law rfl) (zat wL_law rfl) (zat wL_law rfl) rfl zAr_0) (zat wL_law rfl) (zat wL_law rfl) (zAr_s (zat wL_law rfl) (zat wL_law rfl) (zat wL_law rfl) (zat wL_law rfl) (zat wL_law rfl) rfl zAr_0) (zat wL_law rfl) (zat wL_law rfl) rfl ?_ ?_ hI (fun σ' h => k σ' _ _ h ?_ ?_)
  · show kc + 2 + 0 ≤ 601024; omega
  · show ks + 13 + 0 ≤ 7293034; omega
  · show kc + 2 + 0 ≤ kc + 4; omega
  · show ks + 13 + 0 ≤ ks + 68; omega
set_option maxRecDepth 100000 in
set_option maxHeartbeats 4000000 in
theorem lw_note (hG : zOK l G) (hS : zST G) (hH : zTH G) (hT : zSc G len f) (hi : i + 6 ≤ len) (hI : Inv σ) (hkc : kc + 4 ≤ 601024) (hks : ks + 68 ≤ 7293034) (k : ∀ σ' kc' ks', Inv σ' → kc' ≤ kc + 4 → ks' ≤ ks + 68 → Z l G mL_law Q PX 1007 (lwL i) [] σ' kc' ks') : Z l G mL_law Q PX 346 (lwL i) [] σ kc ks := by
  refine z_opI (m1 := mX10_note) (m2 := mX11_note) (n := 4) (idx1 := 55) (idx2 := 59) (len := len) (i := i) (f := f) (op_note hG _ _ _ _) ⟨ml_12_55, zm_X10_note, zi_X10_note, zse_X10_note, rfl, (Nat.le_of_ble_eq_true rfl), (Nat.le_of_ble_eq_true rfl), (Nat.le_of_ble_eq_true rfl)⟩ ⟨ml_12_59, zm_X11_note, zi_X11_note, zse_X11_note, rfl, (Nat.le_of_ble_eq_true rfl), (Nat.le_of_ble_eq_true rfl), (Nat.le_of_ble_eq_true rfl)⟩ hT ⟨rfl, rfl, rfl, rfl⟩ hi (by decide) (zat wL_law rfl) (zAr_s (zat wL_law rfl) (zat wL_law rfl) (zat wL_law rfl) (zat wL_law rfl) (zat wL_law rfl) rfl (zAr_s (zat wL_law rfl) (zat wL_law rfl) (zat wL_law rfl) (zat wL_law rfl) (zat wL_law rfl) rfl (zAr_s (zat wL_law rfl) (zat wL_law rfl) (zat wL_law rfl) (zat wL_law rfl) (zat wL_law rfl) rfl (zAr_s (zat wL_law rfl) (zat wL_law rfl) (zat wL_law rfl) (zat wL_law rfl) (zat wL_law rfl) rfl zAr_0)))) (zat wL_law rfl) (zat wL_law rfl) (zAr_s (zat wL_law rfl) (zat wL_law rfl) (zat wL_law rfl) (zat wL_law rfl) (zat wL_law rfl) rfl (zAr_s (zat wL_law rfl) (zat wL_law rfl) (zat wL_law rfl) (zat wL_law rfl) (zat wL_law rfl) rfl (zAr_s (zat wL_law rfl) (zat wL_law rfl) (zat wL_law rfl) (zat wL_law rfl) (zat wL_law rfl) rfl (zAr_s (zat wL_law rfl) (zat wL_law rfl) (zat wL_law rfl) (zat wL_law rfl) (zat wL_law rfl) rfl zAr_0)))) (zat wL_law rfl) (zat wL_law rfl) rfl ?_ ?_ hI (fun σ' h => k σ' _ _ h ?_ ?_)
  · show kc + 1 + 0 ≤ 601024; omega
  · show ks + 4 + 0 ≤ 7293034; omega
  · show kc + 1 + 0 ≤ kc + 4; omega
  · show ks + 4 + 0 ≤ ks + 68; omega
set_option maxRecDepth 100000 in
set_option maxHeartbeats 4000000 in
theorem lw_worth (hG : zOK l G) (hS : zST G) (hH : zTH G) (hT : zSc G len f) (hi : i + 6 ≤ len) (hI : Inv σ) (hkc : kc + 4 ≤ 601024) (hks : ks + 68 ≤ 7293034) (k : ∀ σ' kc' ks', Inv σ' → kc' ≤ kc + 4 → ks' ≤ ks + 68 → Z l G mL_law Q PX 1007 (lwL i) [] σ' kc' ks') : Z l G mL_law Q PX 407 (lwL i) [] σ kc ks := by
  refine z_opI (m1 := mX10_worth) (m2 := mX11_worth) (n := 4) (idx1 := 60) (idx2 := 63) (len := len) (i := i) (f := f) (op_worth hG _ _ _ _) ⟨ml_12_60, zm_X10_worth, zi_X10_worth, zse_X10_worth, rfl, (Nat.le_of_ble_eq_true rfl), (Nat.le_of_ble_eq_true rfl), (Nat.le_of_ble_eq_true rfl)⟩ ⟨ml_12_63, zm_X11_worth, zi_X11_worth, zse_X11_worth, rfl, (Nat.le_of_ble_eq_true rfl), (Nat.le_of_ble_eq_true rfl), (Nat.le_of_ble_eq_true rfl)⟩ hT ⟨rfl, rfl, rfl, rfl⟩ hi (by decide) (zat wL_law rfl) (zAr_s (zat wL_law rfl) (zat wL_law rfl) (zat wL_law rfl) (zat wL_law rfl) (zat wL_law rfl) rfl (zAr_s (zat wL_law rfl) (zat wL_law rfl) (zat wL_law rfl) (zat wL_law rfl) (zat wL_law rfl) rfl (zAr_s (zat wL_law rfl) (zat wL_law rfl) (zat wL_law rfl) (zat wL_law rfl) (zat wL_law rfl) rfl (zAr_s (zat wL_law rfl) (zat wL_law rfl) (zat wL_law rfl) (zat wL_law rfl) (zat wL_law rfl) rfl zAr_0)))) (zat wL_law rfl) (zat wL_law rfl) (zAr_s (zat wL_law rfl) (zat wL_law rfl) (zat wL_law rfl) (zat wL_law rfl) (zat wL_law rfl) rfl (zAr_s (zat wL_law rfl) (zat wL_law rfl) (zat wL_law rfl) (zat wL_law rfl) (zat wL_law rfl) rfl (zAr_s (zat wL_law rfl) (zat wL_law rfl) (zat wL_law rfl) (zat wL_law rfl) (zat wL_law rfl) rfl (zAr_s (zat wL_law rfl) (zat wL_law rfl) (zat wL_law rfl) (zat wL_law rfl) (zat wL_law rfl) rfl zAr_0)))) (zat wL_law rfl) (zat wL_law rfl) rfl ?_ ?_ hI (fun σ' h => k σ' _ _ h ?_ ?_)
  · show kc + 0 + 0 ≤ 601024; omega
  · show ks + 0 + 0 ≤ 7293034; omega
  · show kc + 0 + 0 ≤ kc + 4; omega
  · show ks + 0 + 0 ≤ ks + 68; omega
set_option maxRecDepth 100000 in
set_option maxHeartbeats 4000000 in
theorem lw_law (hG : zOK l G) (hS : zST G) (hH : zTH G) (hT : zSc G len f) (hi : i + 6 ≤ len) (hI : Inv σ) (hkc : kc + 4 ≤ 601024) (hks : ks + 68 ≤ 7293034) (k : ∀ σ' kc' ks', Inv σ' → kc' ≤ kc + 4 → ks' ≤ ks + 68 → Z l G mL_law Q PX 1007 (lwL i) [] σ' kc' ks') : Z l G mL_law Q PX 468 (lwL i) [] σ kc ks := by
  refine z_opI (m1 := mX10_law) (m2 := mX11_law) (n := 3) (idx1 := 64) (idx2 := 68) (len := len) (i := i) (f := f) (op_law hG _ _ _) ⟨ml_12_64, zm_X10_law, zi_X10_law, zse_X10_law, rfl, (Nat.le_of_ble_eq_true rfl), (Nat.le_of_ble_eq_true rfl), (Nat.le_of_ble_eq_true rfl)⟩ ⟨ml_12_68, zm_X11_law, zi_X11_law, zse_X11_law, rfl, (Nat.le_of_ble_eq_true rfl), (Nat.le_of_ble_eq_true rfl), (Nat.le_of_ble_eq_true rfl)⟩ hT ⟨rfl, rfl, rfl, rfl⟩ hi (by decide) (zat wL_law rfl) (zAr_s (zat wL_law rfl) (zat wL_law rfl) (zat wL_law rfl) (zat wL_law rfl) (zat wL_law rfl) rfl (zAr_s (zat wL_law rfl) (zat wL_law rfl) (zat wL_law rfl) (zat wL_law rfl) (zat wL_law rfl) rfl (zAr_s (zat wL_law rfl) (zat wL_law rfl) (zat wL_law rfl) (zat wL_law rfl) (zat wL_law rfl) rfl zAr_0))) (zat wL_law rfl) (zat wL_law rfl) (zAr_s (zat wL_law rfl) (zat wL_law rfl) (zat wL_law rfl) (zat wL_law rfl) (zat wL_law rfl) rfl (zAr_s (zat wL_law rfl) (zat wL_law rfl) (zat wL_law rfl) (zat wL_law rfl) (zat wL_law rfl) rfl (zAr_s (zat wL_law rfl) (zat wL_law rfl) (zat wL_law rfl) (zat wL_law rfl) (zat wL_law rfl) rfl zAr_0))) (zat wL_law rfl) (zat wL_law rfl) rfl ?_ ?_ hI (fun σ' h => k σ' _ _ h ?_ ?_)
  · show kc + 0 + 0 ≤ 601024; omega
  · show ks + 0 + 0 ≤ 7293034; omega
  · show kc + 0 + 0 ≤ kc + 4; omega
  · show ks + 0 + 0 ≤ ks + 68; omega
set_option maxRecDepth 100000 in
set_option maxHeartbeats 4000000 in
theorem lw_fire (hG : zOK l G) (hS : zST G) (hH : zTH G) (hT : zSc G len f) (hi : i + 6 ≤ len) (hI : Inv σ) (hkc : kc + 4 ≤ 601024) (hks : ks + 68 ≤ 7293034) (k : ∀ σ' kc' ks', Inv σ' → kc' ≤ kc + 4 → ks' ≤ ks + 68 → Z l G mL_law Q PX 1007 (lwL i) [] σ' kc' ks') : Z l G mL_law Q PX 517 (lwL i) [] σ kc ks := by
  refine z_opI (m1 := mX10_fire) (m2 := mX11_fire) (n := 2) (idx1 := 69) (idx2 := 72) (len := len) (i := i) (f := f) (op_fire hG _ _) ⟨ml_12_69, zm_X10_fire, zi_X10_fire, zse_X10_fire, rfl, (Nat.le_of_ble_eq_true rfl), (Nat.le_of_ble_eq_true rfl), (Nat.le_of_ble_eq_true rfl)⟩ ⟨ml_12_72, zm_X11_fire, zi_X11_fire, zse_X11_fire, rfl, (Nat.le_of_ble_eq_true rfl), (Nat.le_of_ble_eq_true rfl), (Nat.le_of_ble_eq_true rfl)⟩ hT ⟨rfl, rfl, rfl, rfl⟩ hi (by decide) (zat wL_law rfl) (zAr_s (zat wL_law rfl) (zat wL_law rfl) (zat wL_law rfl) (zat wL_law rfl) (zat wL_law rfl) rfl (zAr_s (zat wL_law rfl) (zat wL_law rfl) (zat wL_law rfl) (zat wL_law rfl) (zat wL_law rfl) rfl zAr_0)) (zat wL_law rfl) (zat wL_law rfl) (zAr_s (zat wL_law rfl) (zat wL_law rfl) (zat wL_law rfl) (zat wL_law rfl) (zat wL_law rfl) rfl (zAr_s (zat wL_law rfl) (zat wL_law rfl) (zat wL_law rfl) (zat wL_law rfl) (zat wL_law rfl) rfl zAr_0)) (zat wL_law rfl) (zat wL_law rfl) rfl ?_ ?_ hI (fun σ' h => k σ' _ _ h ?_ ?_)
  · show kc + 4 + 0 ≤ 601024; omega
  · show ks + 35 + 0 ≤ 7293034; omega
  · show kc + 4 + 0 ≤ kc + 4; omega
  · show ks + 35 + 0 ≤ ks + 68; omega
set_option maxRecDepth 100000 in
set_option maxHeartbeats 4000000 in
theorem lw_say (hG : zOK l G) (hS : zST G) (hH : zTH G) (hT : zSc G len f) (hi : i + 6 ≤ len) (hI : Inv σ) (hkc : kc + 4 ≤ 601024) (hks : ks + 68 ≤ 7293034) (k : ∀ σ' kc' ks', Inv σ' → kc' ≤ kc + 4 → ks' ≤ ks + 68 → Z l G mL_law Q PX 1007 (lwL i) [] σ' kc' ks') : Z l G mL_law Q PX 622 (lwL i) [] σ kc ks := by
  refine z_opI (m1 := mX10_say) (m2 := mX11_say) (n := 4) (idx1 := 83) (idx2 := 87) (len := len) (i := i) (f := f) (op_say hG _ _ _ _) ⟨ml_12_83, zm_X10_say, zi_X10_say, zse_X10_say, rfl, (Nat.le_of_ble_eq_true rfl), (Nat.le_of_ble_eq_true rfl), (Nat.le_of_ble_eq_true rfl)⟩ ⟨ml_12_87, zm_X11_say, zi_X11_say, zse_X11_say, rfl, (Nat.le_of_ble_eq_true rfl), (Nat.le_of_ble_eq_true rfl), (Nat.le_of_ble_eq_true rfl)⟩ hT ⟨rfl, rfl, rfl, rfl⟩ hi (by decide) (zat wL_law rfl) (zAr_s (zat wL_law rfl) (zat wL_law rfl) (zat wL_law rfl) (zat wL_law rfl) (zat wL_law rfl) rfl (zAr_s (zat wL_law rfl) (zat wL_law rfl) (zat wL_law rfl) (zat wL_law rfl) (zat wL_law rfl) rfl (zAr_s (zat wL_law rfl) (zat wL_law rfl) (zat wL_law rfl) (zat wL_law rfl) (zat wL_law rfl) rfl (zAr_s (zat wL_law rfl) (zat wL_law rfl) (zat wL_law rfl) (zat wL_law rfl) (zat wL_law rfl) rfl zAr_0)))) (zat wL_law rfl) (zat wL_law rfl) (zAr_s (zat wL_law rfl) (zat wL_law rfl) (zat wL_law rfl) (zat wL_law rfl) (zat wL_law rfl) rfl (zAr_s (zat wL_law rfl) (zat wL_law rfl) (zat wL_law rfl) (zat wL_law rfl) (zat wL_law rfl) rfl (zAr_s (zat wL_law rfl) (zat wL_law rfl) (zat wL_law rfl) (zat wL_law rfl) (zat wL_law rfl) rfl (zAr_s (zat wL_law rfl) (zat wL_law rfl) (zat wL_law rfl) (zat wL_law rfl) (zat wL_law rfl) rfl zAr_0)))) (zat wL_law rfl) (zat wL_law rfl) rfl ?_ ?_ hI (fun σ' h => k σ' _ _ h ?_ ?_)
  · show kc + 0 + 0 ≤ 601024; omega
  · show ks + 0 + 0 ≤ 7293034; omega
  · show kc + 0 + 0 ≤ kc + 4; omega
  · show ks + 0 + 0 ≤ ks + 68; omega
set_option maxRecDepth 100000 in
set_option maxHeartbeats 4000000 in
theorem lw_close (hG : zOK l G) (hS : zST G) (hH : zTH G) (hT : zSc G len f) (hi : i + 6 ≤ len) (hI : Inv σ) (hkc : kc + 4 ≤ 601024) (hks : ks + 68 ≤ 7293034) (k : ∀ σ' kc' ks', Inv σ' → kc' ≤ kc + 4 → ks' ≤ ks + 68 → Z l G mL_law Q PX 1007 (lwL i) [] σ' kc' ks') : Z l G mL_law Q PX 683 (lwL i) [] σ kc ks := by
  refine z_opI (m1 := mX10_close) (m2 := mX11_close) (n := 1) (idx1 := 88) (idx2 := 91) (len := len) (i := i) (f := f) (op_close hG _) ⟨ml_12_88, zm_X10_close, zi_X10_close, zse_X10_close, rfl, (Nat.le_of_ble_eq_true rfl), (Nat.le_of_ble_eq_true rfl), (Nat.le_of_ble_eq_true rfl)⟩ ⟨ml_12_91, zm_X11_close, zi_X11_close, zse_X11_close, rfl, (Nat.le_of_ble_eq_true rfl), (Nat.le_of_ble_eq_true rfl), (Nat.le_of_ble_eq_true rfl)⟩ hT ⟨rfl, rfl, rfl, rfl⟩ hi (by decide) (zat wL_law rfl) (zAr_s (zat wL_law rfl) (zat wL_law rfl) (zat wL_law rfl) (zat wL_law rfl) (zat wL_law rfl) rfl zAr_0) (zat wL_law rfl) (zat wL_law rfl) (zAr_s (zat wL_law rfl) (zat wL_law rfl) (zat wL_law rfl) (zat wL_law rfl) (zat wL_law rfl) rfl zAr_0) (zat wL_law rfl) (zat wL_law rfl) rfl ?_ ?_ hI (fun σ' h => k σ' _ _ h ?_ ?_)
  · show kc + 0 + 0 ≤ 601024; omega
  · show ks + 0 + 0 ≤ 7293034; omega
  · show kc + 0 + 0 ≤ kc + 4; omega
  · show ks + 0 + 0 ≤ ks + 68; omega
set_option maxRecDepth 100000 in
set_option maxHeartbeats 4000000 in
theorem lw_award (hG : zOK l G) (hS : zST G) (hH : zTH G) (hT : zSc G len f) (hi : i + 6 ≤ len) (hI : Inv σ) (hkc : kc + 4 ≤ 601024) (hks : ks + 68 ≤ 7293034) (k : ∀ σ' kc' ks', Inv σ' → kc' ≤ kc + 4 → ks' ≤ ks + 68 → Z l G mL_law Q PX 1007 (lwL i) [] σ' kc' ks') : Z l G mL_law Q PX 776 (lwL i) [] σ kc ks := by
  refine z_opJ (m1 := mX10_award) (m2 := mX11_award) (n := 3) (idx1 := 95) (idx2 := 99) (len := len) (i := i) (f := f) (op_award hG _ _ _) ⟨ml_12_95, zm_X10_award, zi_X10_award, zse_X10_award, rfl, (Nat.le_of_ble_eq_true rfl), (Nat.le_of_ble_eq_true rfl), (Nat.le_of_ble_eq_true rfl)⟩ ⟨ml_12_99, zm_X11_award, zi_X11_award, zse_X11_award, rfl, (Nat.le_of_ble_eq_true rfl), (Nat.le_of_ble_eq_true rfl), (Nat.le_of_ble_eq_true rfl)⟩ hT ⟨rfl, rfl, rfl, rfl⟩ hi (by decide) (zat wL_law rfl) (zAr_s (zat wL_law rfl) (zat wL_law rfl) (zat wL_law rfl) (zat wL_law rfl) (zat wL_law rfl) rfl (zAr_s (zat wL_law rfl) (zat wL_law rfl) (zat wL_law rfl) (zat wL_law rfl) (zat wL_law rfl) rfl (zAr_s (zat wL_law rfl) (zat wL_law rfl) (zat wL_law rfl) (zat wL_law rfl) (zat wL_law rfl) rfl zAr_0))) (zat wL_law rfl) (zat wL_law rfl) (zAr_s (zat wL_law rfl) (zat wL_law rfl) (zat wL_law rfl) (zat wL_law rfl) (zat wL_law rfl) rfl (zAr_s (zat wL_law rfl) (zat wL_law rfl) (zat wL_law rfl) (zat wL_law rfl) (zat wL_law rfl) rfl (zAr_s (zat wL_law rfl) (zat wL_law rfl) (zat wL_law rfl) (zat wL_law rfl) (zat wL_law rfl) rfl zAr_0))) (zat wL_law rfl) (zat wL_law rfl) (zat wL_law rfl) rfl ?_ ?_ hI (fun σ' h => k σ' _ _ h ?_ ?_)
  · show kc + 0 + 0 ≤ 601024; omega
  · show ks + 0 + 0 ≤ 7293034; omega
  · show kc + 0 + 0 ≤ kc + 4; omega
  · show ks + 0 + 0 ≤ ks + 68; omega
set_option maxRecDepth 100000 in
set_option maxHeartbeats 4000000 in
theorem lw_call (hG : zOK l G) (hS : zST G) (hH : zTH G) (hT : zSc G len f) (hi : i + 6 ≤ len) (hI : Inv σ) (hkc : kc + 4 ≤ 601024) (hks : ks + 68 ≤ 7293034) (k : ∀ σ' kc' ks', Inv σ' → kc' ≤ kc + 4 → ks' ≤ ks + 68 → Z l G mL_law Q PX 1007 (lwL i) [] σ' kc' ks') : Z l G mL_law Q PX 826 (lwL i) [] σ kc ks := by
  refine z_opJ (m1 := mX10_call) (m2 := mX11_call) (n := 3) (idx1 := 100) (idx2 := 103) (len := len) (i := i) (f := f) (op_call hG _ _ _) ⟨ml_12_100, zm_X10_call, zi_X10_call, zse_X10_call, rfl, (Nat.le_of_ble_eq_true rfl), (Nat.le_of_ble_eq_true rfl), (Nat.le_of_ble_eq_true rfl)⟩ ⟨ml_12_103, zm_X11_call, zi_X11_call, zse_X11_call, rfl, (Nat.le_of_ble_eq_true rfl), (Nat.le_of_ble_eq_true rfl), (Nat.le_of_ble_eq_true rfl)⟩ hT ⟨rfl, rfl, rfl, rfl⟩ hi (by decide) (zat wL_law rfl) (zAr_s (zat wL_law rfl) (zat wL_law rfl) (zat wL_law rfl) (zat wL_law rfl) (zat wL_law rfl) rfl (zAr_s (zat wL_law rfl) (zat wL_law rfl) (zat wL_law rfl) (zat wL_law rfl) (zat wL_law rfl) rfl (zAr_s (zat wL_law rfl) (zat wL_law rfl) (zat wL_law rfl) (zat wL_law rfl) (zat wL_law rfl) rfl zAr_0))) (zat wL_law rfl) (zat wL_law rfl) (zAr_s (zat wL_law rfl) (zat wL_law rfl) (zat wL_law rfl) (zat wL_law rfl) (zat wL_law rfl) rfl (zAr_s (zat wL_law rfl) (zat wL_law rfl) (zat wL_law rfl) (zat wL_law rfl) (zat wL_law rfl) rfl (zAr_s (zat wL_law rfl) (zat wL_law rfl) (zat wL_law rfl) (zat wL_law rfl) (zat wL_law rfl) rfl zAr_0))) (zat wL_law rfl) (zat wL_law rfl) (zat wL_law rfl) rfl ?_ ?_ hI (fun σ' h => k σ' _ _ h ?_ ?_)
  · show kc + 0 + 0 ≤ 601024; omega
  · show ks + 0 + 0 ≤ 7293034; omega
  · show kc + 0 + 0 ≤ kc + 4; omega
  · show ks + 0 + 0 ≤ ks + 68; omega
set_option maxRecDepth 100000 in
set_option maxHeartbeats 4000000 in
theorem lw_book (hG : zOK l G) (hS : zST G) (hH : zTH G) (hT : zSc G len f) (hi : i + 6 ≤ len) (hI : Inv σ) (hkc : kc + 4 ≤ 601024) (hks : ks + 68 ≤ 7293034) (k : ∀ σ' kc' ks', Inv σ' → kc' ≤ kc + 4 → ks' ≤ ks + 68 → Z l G mL_law Q PX 1007 (lwL i) [] σ' kc' ks') : Z l G mL_law Q PX 876 (lwL i) [] σ kc ks := by
  refine z_opI (m1 := mX10_book) (m2 := mX11_book) (n := 0) (idx1 := 104) (idx2 := 107) (len := len) (i := i) (f := f) (op_book hG ) ⟨ml_12_104, zm_X10_book, zi_X10_book, zse_X10_book, rfl, (Nat.le_of_ble_eq_true rfl), (Nat.le_of_ble_eq_true rfl), (Nat.le_of_ble_eq_true rfl)⟩ ⟨ml_12_107, zm_X11_book, zi_X11_book, zse_X11_book, rfl, (Nat.le_of_ble_eq_true rfl), (Nat.le_of_ble_eq_true rfl), (Nat.le_of_ble_eq_true rfl)⟩ hT ⟨rfl, rfl, rfl, rfl⟩ hi (by decide) (zat wL_law rfl) zAr_0 (zat wL_law rfl) (zat wL_law rfl) zAr_0 (zat wL_law rfl) (zat wL_law rfl) rfl ?_ ?_ hI (fun σ' h => k σ' _ _ h ?_ ?_)
  · show kc + 0 + 0 ≤ 601024; omega
  · show ks + 0 + 0 ≤ 7293034; omega
  · show kc + 0 + 0 ≤ kc + 4; omega
  · show ks + 0 + 0 ≤ ks + 68; omega
set_option maxRecDepth 100000 in
set_option maxHeartbeats 4000000 in
theorem lw_booked (hG : zOK l G) (hS : zST G) (hH : zTH G) (hT : zSc G len f) (hi : i + 6 ≤ len) (hI : Inv σ) (hkc : kc + 4 ≤ 601024) (hks : ks + 68 ≤ 7293034) (k : ∀ σ' kc' ks', Inv σ' → kc' ≤ kc + 4 → ks' ≤ ks + 68 → Z l G mL_law Q PX 1007 (lwL i) [] σ' kc' ks') : Z l G mL_law Q PX 889 (lwL i) [] σ kc ks := by
  refine z_opJ (m1 := mX10_booked) (m2 := mX11_booked) (n := 2) (idx1 := 108) (idx2 := 112) (len := len) (i := i) (f := f) (op_booked hG _ _) ⟨ml_12_108, zm_X10_booked, zi_X10_booked, zse_X10_booked, rfl, (Nat.le_of_ble_eq_true rfl), (Nat.le_of_ble_eq_true rfl), (Nat.le_of_ble_eq_true rfl)⟩ ⟨ml_12_112, zm_X11_booked, zi_X11_booked, zse_X11_booked, rfl, (Nat.le_of_ble_eq_true rfl), (Nat.le_of_ble_eq_true rfl), (Nat.le_of_ble_eq_true rfl)⟩ hT ⟨rfl, rfl, rfl, rfl⟩ hi (by decide) (zat wL_law rfl) (zAr_s (zat wL_law rfl) (zat wL_law rfl) (zat wL_law rfl) (zat wL_law rfl) (zat wL_law rfl) rfl (zAr_s (zat wL_law rfl) (zat wL_law rfl) (zat wL_law rfl) (zat wL_law rfl) (zat wL_law rfl) rfl zAr_0)) (zat wL_law rfl) (zat wL_law rfl) (zAr_s (zat wL_law rfl) (zat wL_law rfl) (zat wL_law rfl) (zat wL_law rfl) (zat wL_law rfl) rfl (zAr_s (zat wL_law rfl) (zat wL_law rfl) (zat wL_law rfl) (zat wL_law rfl) (zat wL_law rfl) rfl zAr_0)) (zat wL_law rfl) (zat wL_law rfl) (zat wL_law rfl) rfl ?_ ?_ hI (fun σ' h => k σ' _ _ h ?_ ?_)
  · show kc + 0 + 0 ≤ 601024; omega
  · show ks + 0 + 0 ≤ 7293034; omega
  · show kc + 0 + 0 ≤ kc + 4; omega
  · show ks + 0 + 0 ≤ ks + 68; omega
set_option maxRecDepth 100000 in
set_option maxHeartbeats 4000000 in
theorem lw_count (hG : zOK l G) (hS : zST G) (hH : zTH G) (hT : zSc G len f) (hi : i + 6 ≤ len) (hI : Inv σ) (hkc : kc + 4 ≤ 601024) (hks : ks + 68 ≤ 7293034) (k : ∀ σ' kc' ks', Inv σ' → kc' ≤ kc + 4 → ks' ≤ ks + 68 → Z l G mL_law Q PX 1007 (lwL i) [] σ' kc' ks') : Z l G mL_law Q PX 982 (lwL i) [] σ kc ks := by
  refine z_opI (m1 := mX10_count) (m2 := mX11_count) (n := 1) (idx1 := 117) (idx2 := 120) (len := len) (i := i) (f := f) (op_count hG _) ⟨ml_12_117, zm_X10_count, zi_X10_count, zse_X10_count, rfl, (Nat.le_of_ble_eq_true rfl), (Nat.le_of_ble_eq_true rfl), (Nat.le_of_ble_eq_true rfl)⟩ ⟨ml_12_120, zm_X11_count, zi_X11_count, zse_X11_count, rfl, (Nat.le_of_ble_eq_true rfl), (Nat.le_of_ble_eq_true rfl), (Nat.le_of_ble_eq_true rfl)⟩ hT ⟨rfl, rfl, rfl, rfl⟩ hi (by decide) (zat wL_law rfl) (zAr_s (zat wL_law rfl) (zat wL_law rfl) (zat wL_law rfl) (zat wL_law rfl) (zat wL_law rfl) rfl zAr_0) (zat wL_law rfl) (zat wL_law rfl) (zAr_s (zat wL_law rfl) (zat wL_law rfl) (zat wL_law rfl) (zat wL_law rfl) (zat wL_law rfl) rfl zAr_0) (zat wL_law rfl) (zat wL_law rfl) rfl ?_ ?_ hI (fun σ' h => k σ' _ _ h ?_ ?_)
  · show kc + 0 + 0 ≤ 601024; omega
  · show ks + 0 + 0 ≤ 7293034; omega
  · show kc + 0 + 0 ≤ kc + 4; omega
  · show ks + 0 + 0 ≤ ks + 68; omega
end
