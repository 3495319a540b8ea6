set_option maxRecDepth 100000 in
theorem zhl_l : Cond.methodLink RL 73 yL_judge ∈ lw_tbl ∧ Cond.methodLink RL 92 yL_look ∈ lw_tbl ∧ Cond.methodLink RL 113 yL_account ∈ lw_tbl ∧ Cond.static yL_judge ∈ lw_tbl ∧ Cond.static yL_look ∈ lw_tbl ∧ Cond.static yL_account ∈ lw_tbl ∧ Cond.initialized RL ∈ lw_tbl := by decide +kernel
set_option maxRecDepth 100000 in
theorem zhl_j : Cond.codeWith (zy mL_judge) (zcode mL_judge) (zmaxL mL_judge) (zret mL_judge) hhJ ∈ lw_tbl := by decide +kernel
set_option maxRecDepth 100000 in
theorem zhl_k : Cond.codeWith (zy mL_look) (zcode mL_look) (zmaxL mL_look) (zret mL_look) hhJ ∈ lw_tbl := by decide +kernel
set_option maxRecDepth 100000 in
theorem zhl_a : Cond.codeWith (zy mL_account) (zcode mL_account) (zmaxL mL_account) (zret mL_account) hhA ∈ lw_tbl := by decide +kernel
theorem lwL_no (i j : Nat) : lwL i (j + 5) = none := by
  unfold lwL zLo
  rcases j with _ | _ | _ | j <;> simp
theorem lwL_1 {i : Nat} {a b : Int32} {j : Nat} {v : Value} (h : lwL i j = some v) : zs1 (zs1 (lwL i) 5 (.int a)) 6 (.int b) j = some v := by
  rcases j with _ | _ | _ | _ | _ | j
  · exact h
  · exact h
  · exact h
  · exact h
  · exact h
  · rw [lwL_no] at h; cases h
theorem lwL_2 {i : Nat} {a : Int32} {b : Int64} {j : Nat} {v : Value} (h : lwL i j = some v) : zs2 (zs1 (lwL i) 5 (.int a)) 6 (.long b) j = some v := by
  rcases j with _ | _ | _ | _ | _ | j
  · exact h
  · exact h
  · exact h
  · exact h
  · exact h
  · rw [lwL_no] at h; cases h
section
variable {l : Launch} {G : zG} {Q : zPo} {PX : String → zS → Prop} {len i kc ks : Nat} {f : Nat → Int32} {σ : zS}
set_option maxRecDepth 100000 in
set_option maxHeartbeats 4000000 in
theorem lw_judge (hG : zOK l G) (hS : zST G) (hH : zTH G) (hT : zSc G len f) (hi : i + 6 ≤ len) (hI : Inv σ) (hkc : kc + 4 ≤ 601024) (hks : ks + 68 ≤ 7293034) (k : ∀ σ' kc' ks', Inv σ' → kc' ≤ kc + 4 → ks' ≤ ks + 68 → Z l G mL_law Q PX 1007 (lwL i) [] σ' kc' ks') : Z l G mL_law Q PX 554 (lwL i) [] σ kc ks := by
  refine z_aload_n (i := 1) (v := .ref 32) rfl (Or.inr ⟨32, rfl⟩) (zat wL_law rfl) ?_
  refine z_args hT rfl rfl 2 _ 1 _ (zAr_s (zat wL_law rfl) (zat wL_law rfl) (zat wL_law rfl) (zat wL_law rfl) (zat wL_law rfl) rfl (zAr_s (zat wL_law rfl) (zat wL_law rfl) (zat wL_law rfl) (zat wL_law rfl) (zat wL_law rfl) rfl zAr_0)) (by omega) ?_
  refine z_aload_n (i := 3) (v := .ref 84) rfl (Or.inr ⟨84, rfl⟩) (zat wL_law rfl) ?_
  refine z_callSH (hh := hhJ) (mj := mL_judge) (np := 4) (idx := 73) (As := [.ref 32, .int (f (i + 1)), .int (f (i + 1 + 1)), .ref 84]) (S := []) (op_judge hG hS hH _ _ σ hI) rfl (zat wL_law rfl) zhl_l.1 zhl_j zhl_l.2.2.2.2.2.2 (by decide +kernel) (by decide +kernel) zhl_l.2.2.2.1 rfl (Nat.le_of_ble_eq_true rfl) (Nat.le_of_ble_eq_true rfl) (Nat.le_of_ble_eq_true rfl) (by show kc + 1 ≤ 601024; omega) (by show ks + 6 ≤ 7293034; omega) ?_
  rintro r σ1 ⟨c, rfl, hK1, hM1⟩
  refine z_istore (i := 5) (Nat.le_of_ble_eq_true rfl) (zat wL_law rfl) ?_
  refine z_aload_n (i := 2) (v := .ref 51) rfl (Or.inr ⟨51, rfl⟩) (zat wL_law rfl) ?_
  refine z_args hT rfl rfl 2 _ 1 _ (zAr_s (zat wL_law rfl) (zat wL_law rfl) (zat wL_law rfl) (zat wL_law rfl) (zat wL_law rfl) rfl (zAr_s (zat wL_law rfl) (zat wL_law rfl) (zat wL_law rfl) (zat wL_law rfl) (zat wL_law rfl) rfl zAr_0)) (by omega) ?_
  refine z_callV (n := 51) (As := zAv f (i + 1) 2) (S := []) hM1 rfl (zat wL_law rfl) ml_12_78 zm_X11_judge zi_X11_judge zse_X11_judge (by rw [hK1]; rfl) (Nat.le_of_ble_eq_true rfl) rfl (Nat.le_of_ble_eq_true rfl) (Nat.le_of_ble_eq_true rfl) (Nat.le_of_ble_eq_true rfl) (by show kc + 1 + 0 ≤ 601024; omega) (by show ks + 6 + 0 ≤ 7293034; omega) ?_
  rintro r2 σ2 ⟨x, rfl, hK2, hM2⟩
  refine z_istore (i := 6) (Nat.le_of_ble_eq_true rfl) (zat wL_law rfl) ?_
  refine z_aload_n (i := 2) (v := .ref 51) rfl (Or.inr ⟨51, rfl⟩) (zat wL_law rfl) ?_
  refine z_callV (n := 51) (As := []) (S := []) hM2 rfl (zat wL_law rfl) ml_12_79 zm_X11_thrown zi_X11_thrown zse_X11_thrown (by rw [hK2]; rfl) (Nat.le_of_ble_eq_true rfl) rfl (Nat.le_of_ble_eq_true rfl) (Nat.le_of_ble_eq_true rfl) (Nat.le_of_ble_eq_true rfl) (by show kc + 1 + 0 + 0 ≤ 601024; omega) (by show ks + 6 + 0 + 0 ≤ 7293034; omega) ?_
  rintro r3 ⟨K3, N3, I3, J3, R3, nx3⟩ ⟨rfl, hI3, hc⟩
  have hk3 := Inv_k hI3
  have hfin : Z l G mL_law Q PX 619 (zs1 (zs1 (lwL i) 5 (.int c)) 6 (.int x)) [] (K3, N3, I3, J3, R3, nx3) (kc + zmc mL_judge + zmc mX11_judge + zmc mX11_thrown) (ks + zms mL_judge + zms mX11_judge + zms mX11_thrown) := by
    refine z_goto (tgt := 1007) (zat wL_law rfl) rfl ?_
    exact Z_mono (fun _ _ h => lwL_1 h) (k _ _ _ hI3 (by show kc + 1 + 0 + 0 ≤ kc + 4; omega) (by show ks + 6 + 0 + 0 ≤ ks + 68; omega))
  refine z_iload (i := 5) (x := c) rfl (zat wL_law rfl) ?_
  refine z_icmp_eq (tgt := 602) (zat wL_law rfl) rfl (fun _ => ?_) (fun q => absurd rfl q)
  refine z_iload (i := 5) (x := c) rfl (zat wL_law rfl) ?_
  refine z_if_ne (tgt := 619) (zat wL_law rfl) rfl (fun _ => hfin) (fun h0 => ?_)
  refine z_aload_n (i := 3) (v := .ref 84) rfl (Or.inr ⟨84, rfl⟩) (zat wL_law rfl) ?_
  refine z_iconst (zat wL_law rfl) ?_
  refine z_laload (n := 84) hk3.2.2.1 (by rw [show N3 84 = 1 from hk3.2.2.2]; show vp_in 0 1; unfold vp_in; decide) (zat wL_law rfl) ?_
  rw [show J3 84 (Int32.ofInt 0).toNatClampNeg = x.toInt64 from hc h0]
  refine z_iload (i := 6) (x := x) rfl (zat wL_law rfl) ?_
  refine z_i2l (zat wL_law rfl) ?_
  refine z_lcmp (zat wL_law rfl) ?_
  rw [lg_cmp_s]
  exact z_if_eq (tgt := 619) (zat wL_law rfl) rfl (fun _ => hfin) (fun q => absurd rfl q)
set_option maxRecDepth 100000 in
set_option maxHeartbeats 4000000 in
theorem lw_look (hG : zOK l G) (hS : zST G) (hH : zTH G) (hT : zSc G len f) (hi : i + 6 ≤ len) (hI : Inv σ) (hkc : kc + 4 ≤ 601024) (hks : ks + 68 ≤ 7293034) (k : ∀ σ' kc' ks', Inv σ' → kc' ≤ kc + 4 → ks' ≤ ks + 68 → Z l G mL_law Q PX 1007 (lwL i) [] σ' kc' ks') : Z l G mL_law Q PX 708 (lwL i) [] σ kc ks := by
  refine z_aload_n (i := 1) (v := .ref 32) rfl (Or.inr ⟨32, rfl⟩) (zat wL_law rfl) ?_
  refine z_args hT rfl rfl 2 _ 1 _ (zAr_s (zat wL_law rfl) (zat wL_law rfl) (zat wL_law rfl) (zat wL_law rfl) (zat wL_law rfl) rfl (zAr_s (zat wL_law rfl) (zat wL_law rfl) (zat wL_law rfl) (zat wL_law rfl) (zat wL_law rfl) rfl zAr_0)) (by omega) ?_
  refine z_aload_n (i := 3) (v := .ref 84) rfl (Or.inr ⟨84, rfl⟩) (zat wL_law rfl) ?_
  refine z_callSH (hh := hhJ) (mj := mL_look) (np := 4) (idx := 92) (As := [.ref 32, .int (f (i + 1)), .int (f (i + 1 + 1)), .ref 84]) (S := []) (op_look hG hS hH _ _ σ hI) rfl (zat wL_law rfl) zhl_l.2.1 zhl_k zhl_l.2.2.2.2.2.2 (by decide +kernel) (by decide +kernel) zhl_l.2.2.2.2.1 rfl (Nat.le_of_ble_eq_true rfl) (Nat.le_of_ble_eq_true rfl) (Nat.le_of_ble_eq_true rfl) (by show kc + 1 ≤ 601024; omega) (by show ks + 6 ≤ 7293034; omega) ?_
  rintro r σ1 ⟨c, rfl, hK1, hM1⟩
  refine z_istore (i := 5) (Nat.le_of_ble_eq_true rfl) (zat wL_law rfl) ?_
  refine z_aload_n (i := 2) (v := .ref 51) rfl (Or.inr ⟨51, rfl⟩) (zat wL_law rfl) ?_
  refine z_args hT rfl rfl 2 _ 1 _ (zAr_s (zat wL_law rfl) (zat wL_law rfl) (zat wL_law rfl) (zat wL_law rfl) (zat wL_law rfl) rfl (zAr_s (zat wL_law rfl) (zat wL_law rfl) (zat wL_law rfl) (zat wL_law rfl) (zat wL_law rfl) rfl zAr_0)) (by omega) ?_
  refine z_callV (n := 51) (As := zAv f (i + 1) 2) (S := []) hM1 rfl (zat wL_law rfl) ml_12_94 zm_X11_look zi_X11_look zse_X11_look (by rw [hK1]; rfl) (Nat.le_of_ble_eq_true rfl) rfl (Nat.le_of_ble_eq_true rfl) (Nat.le_of_ble_eq_true rfl) (Nat.le_of_ble_eq_true rfl) (by show kc + 1 + 0 ≤ 601024; omega) (by show ks + 6 + 0 ≤ 7293034; omega) ?_
  rintro r2 σ2 ⟨x, rfl, hK2, hM2⟩
  refine z_istore (i := 6) (Nat.le_of_ble_eq_true rfl) (zat wL_law rfl) ?_
  refine z_aload_n (i := 2) (v := .ref 51) rfl (Or.inr ⟨51, rfl⟩) (zat wL_law rfl) ?_
  refine z_callV (n := 51) (As := []) (S := []) hM2 rfl (zat wL_law rfl) ml_12_79 zm_X11_thrown zi_X11_thrown zse_X11_thrown (by rw [hK2]; rfl) (Nat.le_of_ble_eq_true rfl) rfl (Nat.le_of_ble_eq_true rfl) (Nat.le_of_ble_eq_true rfl) (Nat.le_of_ble_eq_true rfl) (by show kc + 1 + 0 + 0 ≤ 601024; omega) (by show ks + 6 + 0 + 0 ≤ 7293034; omega) ?_
  rintro r3 ⟨K3, N3, I3, J3, R3, nx3⟩ ⟨rfl, hI3, hc⟩
  have hk3 := Inv_k hI3
  have hfin : Z l G mL_law Q PX 773 (zs1 (zs1 (lwL i) 5 (.int c)) 6 (.int x)) [] (K3, N3, I3, J3, R3, nx3) (kc + zmc mL_look + zmc mX11_look + zmc mX11_thrown) (ks + zms mL_look + zms mX11_look + zms mX11_thrown) := by
    refine z_goto (tgt := 1007) (zat wL_law rfl) rfl ?_
    exact Z_mono (fun _ _ h => lwL_1 h) (k _ _ _ hI3 (by show kc + 1 + 0 + 0 ≤ kc + 4; omega) (by show ks + 6 + 0 + 0 ≤ ks + 68; omega))
  refine z_iload (i := 5) (x := c) rfl (zat wL_law rfl) ?_
  refine z_icmp_eq (tgt := 756) (zat wL_law rfl) rfl (fun _ => ?_) (fun q => absurd rfl q)
  refine z_iload (i := 5) (x := c) rfl (zat wL_law rfl) ?_
  refine z_if_ne (tgt := 773) (zat wL_law rfl) rfl (fun _ => hfin) (fun h0 => ?_)
  refine z_aload_n (i := 3) (v := .ref 84) rfl (Or.inr ⟨84, rfl⟩) (zat wL_law rfl) ?_
  refine z_iconst (zat wL_law rfl) ?_
  refine z_laload (n := 84) hk3.2.2.1 (by rw [show N3 84 = 1 from hk3.2.2.2]; show vp_in 0 1; unfold vp_in; decide) (zat wL_law rfl) ?_
  rw [show J3 84 (Int32.ofInt 0).toNatClampNeg = x.toInt64 from hc h0]
  refine z_iload (i := 6) (x := x) rfl (zat wL_law rfl) ?_
  refine z_i2l (zat wL_law rfl) ?_
  refine z_lcmp (zat wL_law rfl) ?_
  rw [lg_cmp_s]
  exact z_if_eq (tgt := 773) (zat wL_law rfl) rfl (fun _ => hfin) (fun q => absurd rfl q)
set_option maxRecDepth 100000 in
set_option maxHeartbeats 4000000 in
theorem lw_account (hG : zOK l G) (hS : zST G) (hH : zTH G) (hT : zSc G len f) (hi : i + 6 ≤ len) (hI : Inv σ) (hkc : kc + 4 ≤ 601024) (hks : ks + 68 ≤ 7293034) (k : ∀ σ' kc' ks', Inv σ' → kc' ≤ kc + 4 → ks' ≤ ks + 68 → Z l G mL_law Q PX 1007 (lwL i) [] σ' kc' ks') : Z l G mL_law Q PX 927 (lwL i) [] σ kc ks := by
  refine z_aload_n (i := 1) (v := .ref 32) rfl (Or.inr ⟨32, rfl⟩) (zat wL_law rfl) ?_
  refine z_args hT rfl rfl 1 _ 1 _ (zAr_s (zat wL_law rfl) (zat wL_law rfl) (zat wL_law rfl) (zat wL_law rfl) (zat wL_law rfl) rfl zAr_0) (by omega) ?_
  refine z_aload_n (i := 3) (v := .ref 84) rfl (Or.inr ⟨84, rfl⟩) (zat wL_law rfl) ?_
  refine z_callSH (hh := hhA) (mj := mL_account) (np := 3) (idx := 113) (As := [.ref 32, .int (f (i + 1)), .ref 84]) (S := []) (op_account hG hS hH _ σ hI) rfl (zat wL_law rfl) zhl_l.2.2.1 zhl_a zhl_l.2.2.2.2.2.2 (by decide +kernel) (by decide +kernel) zhl_l.2.2.2.2.2.1 rfl (Nat.le_of_ble_eq_true rfl) (Nat.le_of_ble_eq_true rfl) (Nat.le_of_ble_eq_true rfl) (by show kc + 1 ≤ 601024; omega) (by show ks + 6 ≤ 7293034; omega) ?_
  rintro r σ1 ⟨c, rfl, hK1, hM1⟩
  refine z_istore (i := 5) (Nat.le_of_ble_eq_true rfl) (zat wL_law rfl) ?_
  refine z_aload_n (i := 2) (v := .ref 51) rfl (Or.inr ⟨51, rfl⟩) (zat wL_law rfl) ?_
  refine z_args hT rfl rfl 1 _ 1 _ (zAr_s (zat wL_law rfl) (zat wL_law rfl) (zat wL_law rfl) (zat wL_law rfl) (zat wL_law rfl) rfl zAr_0) (by omega) ?_
  refine z_callV (n := 51) (As := zAv f (i + 1) 1) (S := []) hM1 rfl (zat wL_law rfl) ml_12_116 zm_X11_account zi_X11_account zse_X11_account (by rw [hK1]; rfl) (Nat.le_of_ble_eq_true rfl) rfl (Nat.le_of_ble_eq_true rfl) (Nat.le_of_ble_eq_true rfl) (Nat.le_of_ble_eq_true rfl) (by show kc + 1 + 0 ≤ 601024; omega) (by show ks + 6 + 0 ≤ 7293034; omega) ?_
  rintro r2 σ2 ⟨x, rfl, hK2, hM2⟩
  refine z_lstore (i := 6) (Nat.le_of_ble_eq_true rfl) (zat wL_law rfl) ?_
  refine z_aload_n (i := 2) (v := .ref 51) rfl (Or.inr ⟨51, rfl⟩) (zat wL_law rfl) ?_
  refine z_callV (n := 51) (As := []) (S := []) hM2 rfl (zat wL_law rfl) ml_12_79 zm_X11_thrown zi_X11_thrown zse_X11_thrown (by rw [hK2]; rfl) (Nat.le_of_ble_eq_true rfl) rfl (Nat.le_of_ble_eq_true rfl) (Nat.le_of_ble_eq_true rfl) (Nat.le_of_ble_eq_true rfl) (by show kc + 1 + 0 + 0 ≤ 601024; omega) (by show ks + 6 + 0 + 0 ≤ 7293034; omega) ?_
  rintro r3 ⟨K3, N3, I3, J3, R3, nx3⟩ ⟨rfl, hI3, hc⟩
  have hk3 := Inv_k hI3
  have hfin : Z l G mL_law Q PX 979 (zs2 (zs1 (lwL i) 5 (.int c)) 6 (.long x)) [] (K3, N3, I3, J3, R3, nx3) (kc + zmc mL_account + zmc mX11_account + zmc mX11_thrown) (ks + zms mL_account + zms mX11_account + zms mX11_thrown) := by
    refine z_goto (tgt := 1007) (zat wL_law rfl) rfl ?_
    exact Z_mono (fun _ _ h => lwL_2 h) (k _ _ _ hI3 (by show kc + 1 + 0 + 0 ≤ kc + 4; omega) (by show ks + 6 + 0 + 0 ≤ ks + 68; omega))
  refine z_iload (i := 5) (x := c) rfl (zat wL_law rfl) ?_
  refine z_icmp_eq (tgt := 963) (zat wL_law rfl) rfl (fun _ => ?_) (fun q => absurd rfl q)
  refine z_iload (i := 5) (x := c) rfl (zat wL_law rfl) ?_
  refine z_if_ne (tgt := 979) (zat wL_law rfl) rfl (fun _ => hfin) (fun h0 => ?_)
  refine z_aload_n (i := 3) (v := .ref 84) rfl (Or.inr ⟨84, rfl⟩) (zat wL_law rfl) ?_
  refine z_iconst (zat wL_law rfl) ?_
  refine z_laload (n := 84) hk3.2.2.1 (by rw [show N3 84 = 1 from hk3.2.2.2]; show vp_in 0 1; unfold vp_in; decide) (zat wL_law rfl) ?_
  rw [show J3 84 (Int32.ofInt 0).toNatClampNeg = x from hc h0]
  refine z_lload (i := 6) (x := x) rfl (zat wL_law rfl) ?_
  refine z_lcmp (zat wL_law rfl) ?_
  rw [lg_cmp_s]
  exact z_if_eq (tgt := 979) (zat wL_law rfl) rfl (fun _ => hfin) (fun q => absurd rfl q)
end
