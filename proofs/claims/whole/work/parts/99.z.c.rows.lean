def zAv (f : Nat → Int32) : Nat → Nat → List Value
  | _, 0 => []
  | j, n + 1 => .int (f j) :: zAv f (j + 1) n
/-- n numbers of the script are loaded, from the k-th of the group on -/
def zAr (c : ByteArray) : Nat → Nat → Nat → Prop
  | _, _, 0 => True
  | pc, k, n + 1 => decode c pc = .ok (.aload_n 0, 1) ∧ decode c (pc + 1) = .ok (.iload 4, 2) ∧ decode c (pc + 3) = .ok (.iconst (Int.ofNat k), 1) ∧ decode c (pc + 4) = .ok (.iadd, 1) ∧ decode c (pc + 5) = .ok (.iaload, 1) ∧ Int32.ofInt (Int.ofNat k) = nI k ∧ zAr c (pc + 6) (k + 1) n
theorem zAr_0 {c : ByteArray} {pc k : Nat} : zAr c pc k 0 := trivial
theorem zAr_s {c : ByteArray} {pc k n : Nat} (d1 : decode c pc = .ok (.aload_n 0, 1)) (d2 : decode c (pc + 1) = .ok (.iload 4, 2)) (d3 : decode c (pc + 3) = .ok (.iconst (Int.ofNat k), 1)) (d4 : decode c (pc + 4) = .ok (.iadd, 1)) (d5 : decode c (pc + 5) = .ok (.iaload, 1)) (d6 : Int32.ofInt (Int.ofNat k) = nI k) (d7 : zAr c (pc + 6) (k + 1) n) : zAr c pc k (n + 1) := ⟨d1, d2, d3, d4, d5, d6, d7⟩
theorem zAv_len (f : Nat → Int32) : ∀ (n j : Nat), (zAv f j n).length = n
  | 0, _ => rfl
  | n + 1, j => by unfold zAv; rw [List.length_cons, zAv_len f n]
def zSc (G : zG) (len : Nat) (f : Nat → Int32) : Prop := len ≤ 3072 ∧ va_T .int (zaS G 16) len (fun k => .int (f k)) (zfree G) (zs0 G) (zs0 G).heap
/-- what a call of the law needs of the method called -/
def zCf (mi mj : zMI) (np idx cl : Nat) : Prop := Cond.methodLink (zRn (zcN mi)) idx (zy mj) ∈ lw_tbl ∧ zMok mj np ∧ Cond.instanceMethod (zy mj) ∈ lw_tbl ∧ Cond.selects (zRn (zcN mj)) (zy mj) (zy mj) ∈ lw_tbl ∧ zcN mj = cl ∧ zcN mj < 12 ∧ zd mj + 1 ≤ zd mi ∧ zmaxL mj ≤ 17
def lwL (i : Nat) : Nat → Option Value := zLo [some (.ref 16), some (.ref 32), some (.ref 51), some (.ref 84), some (.int (nI i)), none, none, none]
theorem Inv_k {σ : zS} (h : Inv σ) : σ.1 32 = 10 ∧ σ.1 51 = 11 ∧ σ.1 84 = 14 ∧ σ.2.1 84 = 1 := by
  obtain ⟨D, I, J, _, _, _, _, _, _, rfl, _⟩ := h
  exact ⟨rfl, rfl, rfl, rfl⟩
theorem lg_cmp_s (x : Int64) : lg_cmp x x = 0 := by
  unfold lg_cmp
  simp
section
variable {l : Launch} {G : zG} {mi : zMI} {Q : zPo} {PX : String → zS → Prop} {pc kc ks : Nat} {L : Nat → Option Value} {S : List Value} {σ : zS}
theorem z_jint {j n : Nat} {f : Nat → Int32} (hj : j < 32) (hT : va_T .int (zaS G j) n (fun k => .int (f k)) (zfree G) (zs0 G) (zs0 G).heap) {i : Int32} (hin : vp_in i n) (d : decode (zcode mi) pc = .ok (.iaload, 1)) (k : Z l G mi Q PX (pc + 1) L (.int (f i.toNatClampNeg) :: S) σ kc ks) : Z l G mi Q PX pc L (.int i :: .ref j :: S) σ kc ks := by
  intro p e s m args below meth c C H locs ls hR hz hlo hL
  have h := va_ti (rest := S.map (zcv G)) C.1.1 C.1.2.1 ((hT.moved C.2.2.1.alike).kept (z_jK C)) (z_jS C hR hz hlo) hin rfl d (k p e s m args below meth c C H locs ls hR hz hlo hL)
  rw [← zad_lo hj] at h
  exact h
theorem z_args {len i : Nat} {f : Nat → Int32} (hT : zSc G len f) (h0 : L 0 = some (.ref 16)) (h4 : L 4 = some (.int (nI i))) : ∀ (n pc k : Nat) (S : List Value), zAr (zcode mi) pc k n → i + k + n ≤ len → Z l G mi Q PX (pc + 6 * n) L ((zAv f (i + k) n).reverse ++ S) σ kc ks → Z l G mi Q PX pc L S σ kc ks
  | 0, pc, k, S, _, _, h => h
  | n + 1, pc, k, S, ha, hl, h => by
    obtain ⟨d1, d2, d3, d4, d5, d6, d7⟩ := ha
    have hlen := hT.1
    refine z_aload_n (i := 0) h0 (Or.inr ⟨16, rfl⟩) d1 (z_iload h4 d2 (z_iconst d3 (z_iadd d4 ?_)))
    rw [d6, nI_add]
    refine z_jint (j := 16) (n := len) (f := f) (by decide) hT.2 (vp_in_nI (by omega) (by omega)) d5 ?_
    rw [nI_clamp (by omega)]
    refine z_args hT h0 h4 n (pc + 6) (k + 1) (.int (f (i + k)) :: S) d7 (by omega) ?_
    have e1 : pc + 6 + 6 * n = pc + 6 * (n + 1) := by omega
    have e2 : (zAv f (i + (k + 1)) n).reverse ++ (.int (f (i + k)) :: S) = (zAv f (i + k) (n + 1)).reverse ++ S := by
      show _ = (Value.int (f (i + k)) :: zAv f (i + k + 1) n).reverse ++ S
      rw [List.reverse_cons, List.append_assoc]
      rfl
    rw [e1, e2]
    exact h
theorem z_opI {m1 m2 : zMI} {n idx1 idx2 len i : Nat} {off : Int} {f : Nat → Int32} (hop : zOp l G m1 m2 (zAv f (i + 1) n)) (f1 : zCf mi m1 n idx1 10) (f2 : zCf mi m2 n idx2 11) (hT : zSc G len f) (hL : L 0 = some (.ref 16) ∧ L 1 = some (.ref 32) ∧ L 2 = some (.ref 51) ∧ L 4 = some (.int (nI i))) (hi : i + 6 ≤ len) (hn5 : n ≤ 5)
    (d0 : decode (zcode mi) pc = .ok (.aload_n 1, 1)) (a1 : zAr (zcode mi) (pc + 1) 1 n) (c1 : decode (zcode mi) (pc + 1 + 6 * n) = .ok (.invokevirtual idx1, 3)) (d1 : decode (zcode mi) (pc + 1 + 6 * n + 3) = .ok (.aload_n 2, 1)) (a2 : zAr (zcode mi) (pc + 1 + 6 * n + 3 + 1) 1 n) (c2 : decode (zcode mi) (pc + 1 + 6 * n + 3 + 1 + 6 * n) = .ok (.invokevirtual idx2, 3)) (d2 : decode (zcode mi) (pc + 1 + 6 * n + 3 + 1 + 6 * n + 3) = .ok (.if_icmp .eq off, 3)) (ht : ((pc + 1 + 6 * n + 3 + 1 + 6 * n + 3 : Nat) : Int) + off = ((1007 : Nat) : Int))
    (hkc : kc + zmc m1 + zmc m2 ≤ zmc mi) (hks : ks + zms m1 + zms m2 ≤ zms mi) (hI : Inv σ) (k : ∀ σ', Inv σ' → Z l G mi Q PX 1007 L [] σ' (kc + zmc m1 + zmc m2) (ks + zms m1 + zms m2)) : Z l G mi Q PX pc L [] σ kc ks := by
  refine z_aload_n (i := 1) hL.2.1 (Or.inr ⟨32, rfl⟩) d0 ?_
  refine z_args hT hL.1 hL.2.2.2 n _ 1 _ a1 (by omega) ?_
  refine z_callV (n := 32) (As := zAv f (i + 1) n) (S := []) (hop σ hI) rfl c1 f1.1 f1.2.1 f1.2.2.1 f1.2.2.2.1 (by rw [(Inv_k hI).1]; exact f1.2.2.2.2.1.symm) f1.2.2.2.2.2.1 (zAv_len f n _) f1.2.2.2.2.2.2.1 f1.2.2.2.2.2.2.2 (by decide) (by omega) (by omega) ?_
  rintro r σ1 ⟨⟨x, rfl⟩, hK2, hM2⟩
  refine z_aload_n (i := 2) hL.2.2.1 (Or.inr ⟨51, rfl⟩) d1 ?_
  refine z_args hT hL.1 hL.2.2.2 n _ 1 _ a2 (by omega) ?_
  refine z_callV (n := 51) (As := zAv f (i + 1) n) (S := [.int x]) hM2 rfl c2 f2.1 f2.2.1 f2.2.2.1 f2.2.2.2.1 (by rw [hK2]; exact f2.2.2.2.2.1.symm) f2.2.2.2.2.2.1 (zAv_len f n _) f2.2.2.2.2.2.2.1 f2.2.2.2.2.2.2.2 (Nat.le_of_ble_eq_true rfl) hkc hks ?_
  rintro r2 σ2 ⟨rfl, hI2⟩
  exact z_icmp_eq d2 ht (fun _ => k σ2 hI2) (fun q => absurd rfl q)
theorem z_opJ {m1 m2 : zMI} {n idx1 idx2 len i : Nat} {off : Int} {f : Nat → Int32} (hop : zOpJ l G m1 m2 (zAv f (i + 1) n)) (f1 : zCf mi m1 n idx1 10) (f2 : zCf mi m2 n idx2 11) (hT : zSc G len f) (hL : L 0 = some (.ref 16) ∧ L 1 = some (.ref 32) ∧ L 2 = some (.ref 51) ∧ L 4 = some (.int (nI i))) (hi : i + 6 ≤ len) (hn5 : n ≤ 5)
    (d0 : decode (zcode mi) pc = .ok (.aload_n 1, 1)) (a1 : zAr (zcode mi) (pc + 1) 1 n) (c1 : decode (zcode mi) (pc + 1 + 6 * n) = .ok (.invokevirtual idx1, 3)) (d1 : decode (zcode mi) (pc + 1 + 6 * n + 3) = .ok (.aload_n 2, 1)) (a2 : zAr (zcode mi) (pc + 1 + 6 * n + 3 + 1) 1 n) (c2 : decode (zcode mi) (pc + 1 + 6 * n + 3 + 1 + 6 * n) = .ok (.invokevirtual idx2, 3)) (d2 : decode (zcode mi) (pc + 1 + 6 * n + 3 + 1 + 6 * n + 3) = .ok (.lcmp, 1)) (d3 : decode (zcode mi) (pc + 1 + 6 * n + 3 + 1 + 6 * n + 3 + 1) = .ok (.ifCond .eq off, 3)) (ht : ((pc + 1 + 6 * n + 3 + 1 + 6 * n + 3 + 1 : Nat) : Int) + off = ((1007 : Nat) : Int))
    (hkc : kc + zmc m1 + zmc m2 ≤ zmc mi) (hks : ks + zms m1 + zms m2 ≤ zms mi) (hI : Inv σ) (k : ∀ σ', Inv σ' → Z l G mi Q PX 1007 L [] σ' (kc + zmc m1 + zmc m2) (ks + zms m1 + zms m2)) : Z l G mi Q PX pc L [] σ kc ks := by
  refine z_aload_n (i := 1) hL.2.1 (Or.inr ⟨32, rfl⟩) d0 ?_
  refine z_args hT hL.1 hL.2.2.2 n _ 1 _ a1 (by omega) ?_
  refine z_callV (n := 32) (As := zAv f (i + 1) n) (S := []) (hop σ hI) rfl c1 f1.1 f1.2.1 f1.2.2.1 f1.2.2.2.1 (by rw [(Inv_k hI).1]; exact f1.2.2.2.2.1.symm) f1.2.2.2.2.2.1 (zAv_len f n _) f1.2.2.2.2.2.2.1 f1.2.2.2.2.2.2.2 (by decide) (by omega) (by omega) ?_
  rintro r σ1 ⟨⟨x, rfl⟩, hK2, hM2⟩
  refine z_aload_n (i := 2) hL.2.2.1 (Or.inr ⟨51, rfl⟩) d1 ?_
  refine z_args hT hL.1 hL.2.2.2 n _ 1 _ a2 (by omega) ?_
  refine z_callV (n := 51) (As := zAv f (i + 1) n) (S := [.long x]) hM2 rfl c2 f2.1 f2.2.1 f2.2.2.1 f2.2.2.2.1 (by rw [hK2]; exact f2.2.2.2.2.1.symm) f2.2.2.2.2.2.1 (zAv_len f n _) f2.2.2.2.2.2.2.1 f2.2.2.2.2.2.2.2 (Nat.le_of_ble_eq_true rfl) hkc hks ?_
  rintro r2 σ2 ⟨rfl, hI2⟩
  refine z_lcmp d2 ?_
  rw [lg_cmp_s]
  exact z_if_eq d3 ht (fun _ => k σ2 hI2) (fun q => absurd rfl q)
end
