theorem lw_cmp {n i : Nat} (hn : n ≤ 3072) (hi : i ≤ 3078) : (nI n - (Int8.ofInt 6).toInt32 < nI i) ↔ n < i + 6 := by
  rw [Int32.lt_iff_toInt_lt, nI_toInt (n := i) (by omega)]
  by_cases h : 6 ≤ n
  · rw [show (Int8.ofInt 6).toInt32 = nI 6 from rfl, pk_sub h, nI_toInt (by omega)]
    omega
  · rcases (show n = 0 ∨ n = 1 ∨ n = 2 ∨ n = 3 ∨ n = 4 ∨ n = 5 by omega) with rfl | rfl | rfl | rfl | rfl | rfl
    · rw [show (nI 0 - (Int8.ofInt 6).toInt32).toInt = -6 by decide]; omega
    · rw [show (nI 1 - (Int8.ofInt 6).toInt32).toInt = -5 by decide]; omega
    · rw [show (nI 2 - (Int8.ofInt 6).toInt32).toInt = -4 by decide]; omega
    · rw [show (nI 3 - (Int8.ofInt 6).toInt32).toInt = -3 by decide]; omega
    · rw [show (nI 4 - (Int8.ofInt 6).toInt32).toInt = -2 by decide]; omega
    · rw [show (nI 5 - (Int8.ofInt 6).toInt32).toInt = -1 by decide]; omega
theorem lwL_i {i : Nat} {j : Nat} {v : Value} (h : lwL (i + 6) j = some v) : zs1 (lwL i) 4 (.int (nI i + Int32.ofInt 6)) j = some v := by
  rw [show Int32.ofInt 6 = nI 6 from rfl, nI_add]
  rcases j with _ | _ | _ | _ | _ | j
  · exact h
  · exact h
  · exact h
  · exact h
  · exact h
  · rw [lwL_no] at h; cases h
section
variable {l : Launch} {G : zG} {len : Nat} {f : Nat → Int32}
def lwQ : zPo := fun r _ => r = some (.int 1)
def lwX : String → zS → Prop := fun _ _ => False
set_option maxRecDepth 100000 in
set_option maxHeartbeats 4000000 in
theorem lw_ex (i : Nat) (σ : zS) (kc ks : Nat) (h1 : kc ≤ 601024) (h2 : ks ≤ 7293034) : Z l G mL_law lwQ lwX 1013 (lwL i) [] σ kc ks := by
  refine z_iconst (zat wL_law rfl) ?_
  exact z_zret rfl (Or.inr rfl) h1 h2 (zat wL_law rfl) rfl
set_option maxRecDepth 100000 in
set_option maxHeartbeats 4000000 in
theorem lw_hd (hT : zSc G len f) (i : Nat) (σ : zS) (kc ks : Nat) (hi : i ≤ 3078) (h1 : len < i + 6 → Z l G mL_law lwQ lwX 1013 (lwL i) [] σ kc ks) (h2 : i + 6 ≤ len → Z l G mL_law lwQ lwX 33 (lwL i) [] σ kc ks) : Z l G mL_law lwQ lwX 23 (lwL i) [] σ kc ks := by
  refine z_iload (i := 4) (x := nI i) rfl (zat wL_law rfl) ?_
  refine z_aload_n (i := 0) (v := .ref 16) rfl (Or.inr ⟨16, rfl⟩) (zat wL_law rfl) ?_
  refine z_jlen (j := 16) (by decide) hT.2 (zat wL_law rfl) ?_
  refine z_bipush (zat wL_law rfl) ?_
  refine z_isub (zat wL_law rfl) ?_
  exact z_icmp_gt (tgt := 1013) (zat wL_law rfl) rfl (fun q => h1 ((lw_cmp hT.1 hi).mp q)) (fun q => h2 (Nat.le_of_not_lt fun x => q ((lw_cmp hT.1 hi).mpr x)))
set_option maxRecDepth 100000 in
set_option maxHeartbeats 4000000 in
theorem lw_bd (hG : zOK l G) (hS : zST G) (hH : zTH G) (hT : zSc G len f) (i : Nat) (σ : zS) (kc ks : Nat) (hi : i + 6 ≤ len) (hI : Inv σ) (hkc : kc + 4 ≤ 601024) (hks : ks + 68 ≤ 7293034) (k : ∀ σ' kc' ks', Inv σ' → kc' ≤ kc + 4 → ks' ≤ ks + 68 → Z l G mL_law lwQ lwX 1007 (lwL i) [] σ' kc' ks') : Z l G mL_law lwQ lwX 33 (lwL i) [] σ kc ks := by
  have hlen := hT.1
  refine z_aload_n (i := 0) (v := .ref 16) rfl (Or.inr ⟨16, rfl⟩) (zat wL_law rfl) ?_
  refine z_iload (i := 4) (x := nI i) rfl (zat wL_law rfl) ?_
  refine z_jint (j := 16) (n := len) (f := f) (by decide) hT.2 (vp_in_nI (by omega) (by omega)) (zat wL_law rfl) ?_
  refine z_bipush (zat wL_law rfl) ?_
  refine z_iand (zat wL_law rfl) ?_
  generalize f (nI i).toNatClampNeg &&& (Int8.ofInt 31).toInt32 = x
  by_cases hx : x.toInt < 0 ∨ 19 < x.toInt
  · exact z_swOut (tgt := 1007) (zat wL_law rfl) hx rfl (k σ kc ks hI (by omega) (by omega))
  · rcases (show x.toInt = 0 ∨ x.toInt = 1 ∨ x.toInt = 2 ∨ x.toInt = 3 ∨ x.toInt = 4 ∨ x.toInt = 5 ∨ x.toInt = 6 ∨ x.toInt = 7 ∨ x.toInt = 8 ∨ x.toInt = 9 ∨ x.toInt = 10 ∨ x.toInt = 11 ∨ x.toInt = 12 ∨ x.toInt = 13 ∨ x.toInt = 14 ∨ x.toInt = 15 ∨ x.toInt = 16 ∨ x.toInt = 17 ∨ x.toInt = 18 ∨ x.toInt = 19 by omega) with e | e | e | e | e | e | e | e | e | e | e | e | e | e | e | e | e | e | e | e
    · exact z_swIn (off := 96) (tgt := 136) (zat wL_law rfl) (by omega) (by omega) (by rw [e]; rfl) rfl (lw_feed hG hS hH hT hi hI hkc hks k)
    · exact z_swIn (off := 169) (tgt := 209) (zat wL_law rfl) (by omega) (by omega) (by rw [e]; rfl) rfl (lw_vote hG hS hH hT hi hI hkc hks k)
    · exact z_swIn (off := 206) (tgt := 246) (zat wL_law rfl) (by omega) (by omega) (by rw [e]; rfl) rfl (lw_fault hG hS hH hT hi hI hkc hks k)
    · exact z_swIn (off := 231) (tgt := 271) (zat wL_law rfl) (by omega) (by omega) (by rw [e]; rfl) rfl (lw_undo hG hS hH hT hi hI hkc hks k)
    · exact z_swIn (off := 256) (tgt := 296) (zat wL_law rfl) (by omega) (by omega) (by rw [e]; rfl) rfl (lw_pass hG hS hH hT hi hI hkc hks k)
    · exact z_swIn (off := 281) (tgt := 321) (zat wL_law rfl) (by omega) (by omega) (by rw [e]; rfl) rfl (lw_farm hG hS hH hT hi hI hkc hks k)
    · exact z_swIn (off := 306) (tgt := 346) (zat wL_law rfl) (by omega) (by omega) (by rw [e]; rfl) rfl (lw_note hG hS hH hT hi hI hkc hks k)
    · exact z_swIn (off := 367) (tgt := 407) (zat wL_law rfl) (by omega) (by omega) (by rw [e]; rfl) rfl (lw_worth hG hS hH hT hi hI hkc hks k)
    · exact z_swIn (off := 428) (tgt := 468) (zat wL_law rfl) (by omega) (by omega) (by rw [e]; rfl) rfl (lw_law hG hS hH hT hi hI hkc hks k)
    · exact z_swIn (off := 477) (tgt := 517) (zat wL_law rfl) (by omega) (by omega) (by rw [e]; rfl) rfl (lw_fire hG hS hH hT hi hI hkc hks k)
    · exact z_swIn (off := 514) (tgt := 554) (zat wL_law rfl) (by omega) (by omega) (by rw [e]; rfl) rfl (lw_judge hG hS hH hT hi hI hkc hks k)
    · exact z_swIn (off := 582) (tgt := 622) (zat wL_law rfl) (by omega) (by omega) (by rw [e]; rfl) rfl (lw_say hG hS hH hT hi hI hkc hks k)
    · exact z_swIn (off := 643) (tgt := 683) (zat wL_law rfl) (by omega) (by omega) (by rw [e]; rfl) rfl (lw_close hG hS hH hT hi hI hkc hks k)
    · exact z_swIn (off := 668) (tgt := 708) (zat wL_law rfl) (by omega) (by omega) (by rw [e]; rfl) rfl (lw_look hG hS hH hT hi hI hkc hks k)
    · exact z_swIn (off := 736) (tgt := 776) (zat wL_law rfl) (by omega) (by omega) (by rw [e]; rfl) rfl (lw_award hG hS hH hT hi hI hkc hks k)
    · exact z_swIn (off := 786) (tgt := 826) (zat wL_law rfl) (by omega) (by omega) (by rw [e]; rfl) rfl (lw_call hG hS hH hT hi hI hkc hks k)
    · exact z_swIn (off := 836) (tgt := 876) (zat wL_law rfl) (by omega) (by omega) (by rw [e]; rfl) rfl (lw_book hG hS hH hT hi hI hkc hks k)
    · exact z_swIn (off := 849) (tgt := 889) (zat wL_law rfl) (by omega) (by omega) (by rw [e]; rfl) rfl (lw_booked hG hS hH hT hi hI hkc hks k)
    · exact z_swIn (off := 887) (tgt := 927) (zat wL_law rfl) (by omega) (by omega) (by rw [e]; rfl) rfl (lw_account hG hS hH hT hi hI hkc hks k)
    · exact z_swIn (off := 942) (tgt := 982) (zat wL_law rfl) (by omega) (by omega) (by rw [e]; rfl) rfl (lw_count hG hS hH hT hi hI hkc hks k)
set_option maxRecDepth 100000 in
set_option maxHeartbeats 4000000 in
theorem lw_loop (hG : zOK l G) (hS : zST G) (hH : zTH G) (hT : zSc G len f) : ∀ (m i : Nat) (σ : zS) (kc ks : Nat), len < i + 6 * m + 6 → i ≤ 3078 → Inv σ → kc + 4 * m ≤ 601024 → ks + 68 * m ≤ 7293034 → Z l G mL_law lwQ lwX 23 (lwL i) [] σ kc ks
  | 0, i, σ, kc, ks, h1, h2, h3, h4, h5 => lw_hd hT i σ kc ks h2 (fun _ => lw_ex i σ kc ks (by omega) (by omega)) (fun q => by omega)
  | m + 1, i, σ, kc, ks, h1, h2, h3, h4, h5 => by
    have hlen := hT.1
    refine lw_hd hT i σ kc ks h2 (fun _ => lw_ex i σ kc ks (by omega) (by omega)) (fun q => ?_)
    refine lw_bd hG hS hH hT i σ kc ks q h3 (by omega) (by omega) fun σ' kc' ks' g1 g2 g3 => ?_
    refine z_iinc (i := 4) (x := nI i) rfl (zat wL_law rfl) ?_
    refine z_goto (tgt := 23) (zat wL_law rfl) rfl ?_
    exact Z_mono (fun _ _ h => lwL_i h) (lw_loop hG hS hH hT m (i + 6) σ' kc' ks' (by omega) (by omega) g1 (by omega) (by omega))
end
