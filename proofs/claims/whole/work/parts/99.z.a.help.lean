section
variable {l : Launch} {G : zG}
set_option maxRecDepth 100000 in
theorem zht_l : Cond.classLink RL 13 zIo ∈ lw_tbl ∧ Cond.classLink RL 15 zNs ∈ lw_tbl ∧ Cond.castable zIo zIo ∈ lw_tbl ∧ Cond.castable zNs zNs ∈ lw_tbl := by decide +kernel
set_option maxRecDepth 100000 in
theorem zht_n (hG : zOK l G) : va_Nc zNs zIo (zs0 G) := va_Nc.of (flat_of_before _ hG.2.2.2 _ (by decide +kernel))
def hhJ : zHt := [(0, 10, 13, 13), (0, 10, 17, 15)]
def hhA : zHt := [(0, 8, 11, 15)]
theorem zK_st (D : zD) (I : Nat → Nat → Int32) (J : Nat → Nat → Int64) (k : Nat) : zK (zst D I J) k = zst (D.1, D.2.1, D.2.2.1, D.2.2.2 + k) I J := rfl
theorem h_judge (hG : zOK l G) (D : zD) (I : Nat → Nat → Int32) (J : Nat → Nat → Int64) (f k : Int32) {QQ : Int32 → Prop} {P1 P2 : Prop} (hX : zRunsX l G mX10_judge [.ref 32, .int f, .int k] (zst D I J) (fun r σ' => (∃ v, QQ v ∧ r = some (.int v)) ∧ σ' = zst D I J) (fun E σ' => ((P1 ∧ E = zIo) ∨ (P2 ∧ E = zNs)) ∧ ∃ j, σ' = zK (zst D I J) j)) :
    zRunsH hhJ l G mL_judge [.ref 32, .int f, .int k, .ref 84] (zst D I J) (fun r σ' => (∃ v, QQ v ∧ r = some (.int 0) ∧ σ' = zst D I (zu2 J 84 0 v.toInt64)) ∨ ((P1 ∧ r = some (.int 1) ∨ P2 ∧ r = some (.int 2)) ∧ ∃ j, σ' = zK (zst D I J) j)) := by
  refine zRunsH_of hG (by decide +kernel) rfl (Nat.le_of_ble_eq_true rfl) fun L hL => ?_
  obtain ⟨l0, l1, l2, l3, -⟩ := hL
  refine zh_aload_n (i := 3) (n := 84) l3 (zat wL_judge rfl) ?_
  refine zh_iconst (zat wL_judge rfl) ?_
  refine zh_aload_n (i := 0) (n := 32) l0 (zat wL_judge rfl) ?_
  refine zh_iload_n (i := 1) (x := f) l1 (zat wL_judge rfl) ?_
  refine zh_iload_n (i := 2) (x := k) l2 (zat wL_judge rfl) ?_
  refine zh_callX (S := [.int (Int32.ofInt 0), .ref 84]) (As := [.int f, .int k]) (n := 32) hX rfl (zat wL_judge rfl) ml_12_7 zm_X10_judge zi_X10_judge zse_X10_judge rfl (Nat.le_of_ble_eq_true rfl) rfl (Nat.le_of_ble_eq_true rfl) (Nat.le_of_ble_eq_true rfl) (Nat.le_of_ble_eq_true rfl) (Nat.le_of_ble_eq_true rfl) (Nat.le_of_ble_eq_true rfl) ?_ ?_
  · rintro r σ' ⟨⟨v, hv, rfl⟩, rfl⟩
    refine zh_i2l (zat wL_judge rfl) ?_
    refine zh_lastore (n := 84) rfl (by show vp_in 0 1; unfold vp_in; decide) (zat wL_judge rfl) ?_
    refine zh_goto (tgt := 21) (zat wL_judge rfl) rfl ?_
    refine zh_iconst (zat wL_judge rfl) ?_
    exact zh_iret rfl (Nat.le_of_ble_eq_true rfl) (Nat.le_of_ble_eq_true rfl) (zat wL_judge rfl) (Or.inl ⟨v, hv, rfl, rfl⟩)
  · rintro E σ' ⟨⟨h1, rfl⟩ | ⟨h2, rfl⟩, hj⟩
    · refine ⟨[], _, _, zIo, rfl, (fun z hz => nomatch hz), rfl, (by decide), zht_l.1, zht_l.2.2.1, Or.inl ⟨4, by decide, zat wL_judge rfl, ?_⟩⟩
      refine zh_iconst (zat wL_judge rfl) ?_
      exact zh_iret rfl (Nat.le_of_ble_eq_true rfl) (Nat.le_of_ble_eq_true rfl) (zat wL_judge rfl) (Or.inr ⟨Or.inl ⟨h1, rfl⟩, hj⟩)
    · refine ⟨[_], _, _, zNs, rfl, (fun z hz => ?_), rfl, (by decide), zht_l.2.1, zht_l.2.2.2, Or.inl ⟨4, by decide, zat wL_judge rfl, ?_⟩⟩
      · cases List.mem_singleton.mp hz
        exact ⟨by decide, zIo, zht_l.1, zht_n hG⟩
      refine zh_iconst (zat wL_judge rfl) ?_
      exact zh_iret rfl (Nat.le_of_ble_eq_true rfl) (Nat.le_of_ble_eq_true rfl) (zat wL_judge rfl) (Or.inr ⟨Or.inr ⟨h2, rfl⟩, hj⟩)
theorem h_look (hG : zOK l G) (D : zD) (I : Nat → Nat → Int32) (J : Nat → Nat → Int64) (f k : Int32) {QQ : Int32 → Prop} {P1 P2 : Prop} (hX : zRunsX l G mX10_look [.ref 32, .int f, .int k] (zst D I J) (fun r σ' => (∃ v, QQ v ∧ r = some (.int v)) ∧ σ' = zst D I J) (fun E σ' => ((P1 ∧ E = zIo) ∨ (P2 ∧ E = zNs)) ∧ ∃ j, σ' = zK (zst D I J) j)) :
    zRunsH hhJ l G mL_look [.ref 32, .int f, .int k, .ref 84] (zst D I J) (fun r σ' => (∃ v, QQ v ∧ r = some (.int 0) ∧ σ' = zst D I (zu2 J 84 0 v.toInt64)) ∨ ((P1 ∧ r = some (.int 1) ∨ P2 ∧ r = some (.int 2)) ∧ ∃ j, σ' = zK (zst D I J) j)) := by
  refine zRunsH_of hG (by decide +kernel) rfl (Nat.le_of_ble_eq_true rfl) fun L hL => ?_
  obtain ⟨l0, l1, l2, l3, -⟩ := hL
  refine zh_aload_n (i := 3) (n := 84) l3 (zat wL_look rfl) ?_
  refine zh_iconst (zat wL_look rfl) ?_
  refine zh_aload_n (i := 0) (n := 32) l0 (zat wL_look rfl) ?_
  refine zh_iload_n (i := 1) (x := f) l1 (zat wL_look rfl) ?_
  refine zh_iload_n (i := 2) (x := k) l2 (zat wL_look rfl) ?_
  refine zh_callX (S := [.int (Int32.ofInt 0), .ref 84]) (As := [.int f, .int k]) (n := 32) hX rfl (zat wL_look rfl) ml_12_17 zm_X10_look zi_X10_look zse_X10_look rfl (Nat.le_of_ble_eq_true rfl) rfl (Nat.le_of_ble_eq_true rfl) (Nat.le_of_ble_eq_true rfl) (Nat.le_of_ble_eq_true rfl) (Nat.le_of_ble_eq_true rfl) (Nat.le_of_ble_eq_true rfl) ?_ ?_
  · rintro r σ' ⟨⟨v, hv, rfl⟩, rfl⟩
    refine zh_i2l (zat wL_look rfl) ?_
    refine zh_lastore (n := 84) rfl (by show vp_in 0 1; unfold vp_in; decide) (zat wL_look rfl) ?_
    refine zh_goto (tgt := 21) (zat wL_look rfl) rfl ?_
    refine zh_iconst (zat wL_look rfl) ?_
    exact zh_iret rfl (Nat.le_of_ble_eq_true rfl) (Nat.le_of_ble_eq_true rfl) (zat wL_look rfl) (Or.inl ⟨v, hv, rfl, rfl⟩)
  · rintro E σ' ⟨⟨h1, rfl⟩ | ⟨h2, rfl⟩, hj⟩
    · refine ⟨[], _, _, zIo, rfl, (fun z hz => nomatch hz), rfl, (by decide), zht_l.1, zht_l.2.2.1, Or.inl ⟨4, by decide, zat wL_look rfl, ?_⟩⟩
      refine zh_iconst (zat wL_look rfl) ?_
      exact zh_iret rfl (Nat.le_of_ble_eq_true rfl) (Nat.le_of_ble_eq_true rfl) (zat wL_look rfl) (Or.inr ⟨Or.inl ⟨h1, rfl⟩, hj⟩)
    · refine ⟨[_], _, _, zNs, rfl, (fun z hz => ?_), rfl, (by decide), zht_l.2.1, zht_l.2.2.2, Or.inl ⟨4, by decide, zat wL_look rfl, ?_⟩⟩
      · cases List.mem_singleton.mp hz
        exact ⟨by decide, zIo, zht_l.1, zht_n hG⟩
      refine zh_iconst (zat wL_look rfl) ?_
      exact zh_iret rfl (Nat.le_of_ble_eq_true rfl) (Nat.le_of_ble_eq_true rfl) (zat wL_look rfl) (Or.inr ⟨Or.inr ⟨h2, rfl⟩, hj⟩)
theorem h_account (hG : zOK l G) (D : zD) (I : Nat → Nat → Int32) (J : Nat → Nat → Int64) (f : Int32) {QQ : Int64 → Prop} {P2 : Prop} (hX : zRunsX l G mX10_account [.ref 32, .int f] (zst D I J) (fun r σ' => (∃ v, QQ v ∧ r = some (.long v)) ∧ σ' = zst D I J) (fun E σ' => (P2 ∧ E = zNs) ∧ ∃ j, σ' = zK (zst D I J) j)) :
    zRunsH hhA l G mL_account [.ref 32, .int f, .ref 84] (zst D I J) (fun r σ' => (∃ v, QQ v ∧ r = some (.int 0) ∧ σ' = zst D I (zu2 J 84 0 v)) ∨ ((P2 ∧ r = some (.int 1)) ∧ ∃ j, σ' = zK (zst D I J) j)) := by
  refine zRunsH_of hG (by decide +kernel) rfl (Nat.le_of_ble_eq_true rfl) fun L hL => ?_
  obtain ⟨l0, l1, l2, -⟩ := hL
  refine zh_aload_n (i := 2) (n := 84) l2 (zat wL_account rfl) ?_
  refine zh_iconst (zat wL_account rfl) ?_
  refine zh_aload_n (i := 0) (n := 32) l0 (zat wL_account rfl) ?_
  refine zh_iload_n (i := 1) (x := f) l1 (zat wL_account rfl) ?_
  refine zh_callX (S := [.int (Int32.ofInt 0), .ref 84]) (As := [.int f]) (n := 32) hX rfl (zat wL_account rfl) ml_12_20 zm_X10_account zi_X10_account zse_X10_account rfl (Nat.le_of_ble_eq_true rfl) rfl (Nat.le_of_ble_eq_true rfl) (Nat.le_of_ble_eq_true rfl) (Nat.le_of_ble_eq_true rfl) (Nat.le_of_ble_eq_true rfl) (Nat.le_of_ble_eq_true rfl) ?_ ?_
  · rintro r σ' ⟨⟨v, hv, rfl⟩, rfl⟩
    refine zh_lastore (n := 84) rfl (by show vp_in 0 1; unfold vp_in; decide) (zat wL_account rfl) ?_
    refine zh_goto (tgt := 14) (zat wL_account rfl) rfl ?_
    refine zh_iconst (zat wL_account rfl) ?_
    exact zh_iret rfl (Nat.le_of_ble_eq_true rfl) (Nat.le_of_ble_eq_true rfl) (zat wL_account rfl) (Or.inl ⟨v, hv, rfl, rfl⟩)
  · rintro E σ' ⟨⟨h2, rfl⟩, hj⟩
    refine ⟨[], _, _, zNs, rfl, (fun z hz => nomatch hz), rfl, (by decide), zht_l.2.1, zht_l.2.2.2, Or.inr ⟨3, by decide, zat wL_account rfl, ?_⟩⟩
    refine zh_iconst (zat wL_account rfl) ?_
    exact zh_iret rfl (Nat.le_of_ble_eq_true rfl) (Nat.le_of_ble_eq_true rfl) (zat wL_account rfl) (Or.inr ⟨⟨h2, rfl⟩, hj⟩)
end
