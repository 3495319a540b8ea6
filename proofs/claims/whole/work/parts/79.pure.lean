theorem sAl_ext {W : Nat → Int64} {n : Nat} (h : ∀ k, n ≤ k → k < 12 → W k = 0) : ∀ m, n + m ≤ 12 → sAl W (n + m) = sAl W n
  | 0, _ => rfl
  | m + 1, hm => by
    show sAl W (n + m) + W (n + m) = sAl W n
    rw [h (n + m) (by omega) (by omega), Int64.add_zero]
    exact sAl_ext h m (by omega)
theorem sLf_ext {p : Int64} {c : Nat → Int64} {n : Nat} (h : ∀ k, n ≤ k → k < 12 → c k = 0) : ∀ m, n + m ≤ 12 → sLf p c (n + m) = sLf p c n
  | 0, _ => rfl
  | m + 1, hm => by
    show sLf p c (n + m) - c (n + m) = sLf p c n
    rw [h (n + m) (by omega) (by omega), Int64.sub_zero]
    exact sLf_ext h m (by omega)
def nSum (w : Nat → Nat) : Nat → Nat
  | 0 => 0
  | k + 1 => nSum w k + w k
theorem sAl_n {W : Nat → Int64} {w : Nat → Nat} : ∀ n, (∀ k, k < n → W k = lN (w k)) → sAl W n = lN (nSum w n)
  | 0, _ => rfl
  | n + 1, h => by
    show sAl W n + W n = lN (nSum w n + w n)
    rw [sAl_n n (fun k hk => h k (by omega)), h n (by omega), lN_add]
theorem nSum_mono {w : Nat → Nat} {n m : Nat} (h : n ≤ m) : nSum w n ≤ nSum w m := by
  induction m with
  | zero => rw [show n = 0 by omega]; exact Nat.le_refl _
  | succ m ih =>
    by_cases q : n = m + 1
    · rw [q]; exact Nat.le_refl _
    · have := ih (by omega)
      show nSum w n ≤ nSum w m + w m
      omega
theorem sLf_n {p : Int64} {c : Nat → Int64} {pp : Nat} {q : Nat → Nat} (hp : p = lN pp) : ∀ n, (∀ k, k < n → c k = lN (q k)) → nSum q n ≤ pp → sLf p c n = lN (pp - nSum q n)
  | 0, _, _ => hp
  | n + 1, h, hb => by
    have hb' : nSum q n + q n ≤ pp := hb
    show sLf p c n - c n = lN (pp - (nSum q n + q n))
    rw [sLf_n hp n (fun k hk => h k (by omega)) (by omega), h n (by omega), lN_sub (by omega)]
    congr 1
    omega
theorem nDiv {w : Nat → Nat} {pp A : Nat} : ∀ n, nSum (fun k => pp * w k / A) n * A + nSum (fun k => pp * w k % A) n = pp * nSum w n
  | 0 => by simp [nSum]
  | n + 1 => by
    have ih := nDiv (w := w) (pp := pp) (A := A) n
    have hd := Nat.div_add_mod (pp * w n) A
    show (nSum (fun k => pp * w k / A) n + pp * w n / A) * A + (nSum (fun k => pp * w k % A) n + pp * w n % A) = pp * (nSum w n + w n)
    rw [Nat.add_mul, Nat.mul_add, ← ih]
    rw [Nat.mul_comm A] at hd
    omega
def nCnt (r : Nat → Nat) : Nat → Nat
  | 0 => 0
  | k + 1 => nCnt r k + if 0 < r k then 1 else 0
theorem nCnt_b {r : Nat → Nat} {A : Nat} (h : ∀ k, r k < A) : ∀ n, nSum r n + nCnt r n ≤ nCnt r n * A
  | 0 => by simp [nSum, nCnt]
  | n + 1 => by
    have ih := nCnt_b h n
    have hn := h n
    show nSum r n + r n + (nCnt r n + if 0 < r n then 1 else 0) ≤ (nCnt r n + if 0 < r n then 1 else 0) * A
    by_cases q : 0 < r n
    · rw [if_pos q, Nat.add_mul]; omega
    · rw [if_neg q]; show nSum r n + r n + nCnt r n ≤ nCnt r n * A; omega
def cP (v : Nat → Int64) : Nat → Nat
  | 0 => 0
  | k + 1 => cP v k + if 0 < v k then 1 else 0
theorem cP_le (v : Nat → Int64) : ∀ n, cP v n ≤ n
  | 0 => Nat.le_refl _
  | n + 1 => by
    have := cP_le v n
    show cP v n + (if 0 < v n then 1 else 0) ≤ n + 1
    split <;> omega
theorem l64_le {a b c : Int64} (h : a ≤ b) (h2 : b < c) : a ≤ c := by
  rw [Int64.le_iff_toInt_le] at *
  rw [Int64.lt_iff_toInt_lt] at h2
  omega
theorem sBst_max (v : Nat → Int64) : ∀ n k, k < n → v k ≤ v (sBst v n)
  | 0, k, h => absurd h (Nat.not_lt_zero k)
  | n + 1, k, h => by
    unfold sBst
    by_cases c : n = 0
    · rw [if_pos c, show k = 0 by omega]
      exact Int64.le_refl _
    · rw [if_neg c]
      by_cases q : v (sBst v n) < v n
      · rw [if_pos q]
        by_cases e : k = n
        · rw [e]; exact Int64.le_refl _
        · exact l64_le (sBst_max v n k (by omega)) q
      · rw [if_neg q]
        by_cases e : k = n
        · rw [e]; exact Int64.not_lt.mp q
        · exact sBst_max v n k (by omega)
theorem cP_ex {v : Nat → Int64} : ∀ n, 0 < cP v n → ∃ k, k < n ∧ 0 < v k
  | 0, h => absurd h (Nat.lt_irrefl 0)
  | n + 1, h => by
    by_cases q : 0 < v n
    · exact ⟨n, by omega, q⟩
    · have h : 0 < cP v n + (if 0 < v n then 1 else 0) := h
      rw [if_neg q] at h
      obtain ⟨k, h1, h2⟩ := cP_ex n h
      exact ⟨k, by omega, h2⟩
theorem sBst_pos {v : Nat → Int64} {n : Nat} (h : 0 < cP v n) : 0 < v (sBst v n) := by
  obtain ⟨k, h1, h2⟩ := cP_ex n h
  have h3 := sBst_max v n k h1
  rw [Int64.le_iff_toInt_le] at h3
  rw [Int64.lt_iff_toInt_lt] at *
  omega
theorem sBst_ext {v : Nat → Int64} {n : Nat} (hn : 0 < n) (h : 0 < v (sBst v n)) (hk : ∀ k, n ≤ k → k < 12 → ¬ 0 < v k) : ∀ m, n + m ≤ 12 → sBst v (n + m) = sBst v n
  | 0, _ => rfl
  | m + 1, hm => by
    have ih := sBst_ext hn h hk m (by omega)
    have hv := hk (n + m) (by omega) (by omega)
    show (if n + m = 0 then 0 else if v (sBst v (n + m)) < v (n + m) then n + m else sBst v (n + m)) = sBst v n
    rw [if_neg (by omega), ih, if_neg (fun q => hv (by rw [Int64.lt_iff_toInt_lt] at *; omega))]
theorem cP_c {v w : Nat → Int64} : ∀ n, (∀ k, k < n → v k = w k) → cP v n = cP w n
  | 0, _ => rfl
  | n + 1, h => by
    show cP v n + (if 0 < v n then 1 else 0) = cP w n + (if 0 < w n then 1 else 0)
    rw [cP_c n (fun k hk => h k (by omega)), h n (by omega)]
theorem cP_upd {v : Nat → Int64} {b : Nat} (hb : 0 < v b) : ∀ n, b < n → cP (vp_updL v b (-1)) n + 1 = cP v n
  | 0, h => absurd h (Nat.not_lt_zero b)
  | n + 1, h => by
    show cP (vp_updL v b (-1)) n + (if 0 < vp_updL v b (-1) n then 1 else 0) + 1 = cP v n + (if 0 < v n then 1 else 0)
    by_cases q : b = n
    · subst q
      rw [pk_uLs, if_pos hb, if_neg (by decide), cP_c b (fun k hk => pk_uLn (by omega))]
    · have ih := cP_upd hb n (by omega)
      rw [pk_uLn (Ne.symm q)]
      omega
theorem sSpr_ext {n : Nat} (hn : 0 < n) (h12 : n ≤ 12) : ∀ (L : Nat) (c v : Nat → Int64), L ≤ cP v n → (∀ k, n ≤ k → k < 12 → ¬ 0 < v k) → sSpr 12 L c v = sSpr n L c v
  | 0, _, _, _, _ => rfl
  | L + 1, c, v, hL, hk => by
    have hp := sBst_pos (v := v) (n := n) (by omega)
    have hb := sBst_lt v n hn
    have he : sBst v 12 = sBst v n := by
      have := sBst_ext hn hp hk (12 - n) (by omega)
      rwa [show n + (12 - n) = 12 by omega] at this
    have hu := cP_upd hp n hb
    unfold sSpr
    rw [he]
    exact sSpr_ext hn h12 L _ _ (by omega) (fun k h1 h2 => by rw [pk_uLn (by omega)]; exact hk k h1 h2)
theorem sCl_eq {n : Nat} (hn : 0 < n) (h12 : n ≤ 12) {p : Int64} {W : Nat → Int64} {pp : Nat} {w : Nat → Nat} (hp : p = lN pp) (hpp : pp ≤ 400000) (hW : ∀ k, k < 12 → W k = lN (w k)) (hz : ∀ k, n ≤ k → k < 12 → w k = 0) (hw : ∀ k, w k ≤ 40000000) : sClC p W = sCl p W n := by
  have hz' : ∀ k, n ≤ k → k < 12 → W k = 0 := fun k h1 h2 => by rw [hW k h2, hz k h1 h2]; rfl
  have hA12 : sAl W 12 = sAl W n := by
    have := sAl_ext hz' (12 - n) (by omega)
    rwa [show n + (12 - n) = 12 by omega] at this
  have hA : sAl W n = lN (nSum w n) := sAl_n n (fun k hk => hW k (by omega))
  have hAb : nSum w n ≤ n * 40000000 := by
    have : ∀ m, nSum w m ≤ m * 40000000 := by
      intro m
      induction m with
      | zero => exact Nat.le_refl _
      | succ m ih =>
        have := hw m
        show nSum w m + w m ≤ (m + 1) * 40000000
        omega
    exact this n
  have hAb : nSum w n ≤ 480000000 := by omega
  unfold sClC sCl
  rw [hA12]
  generalize hAA : nSum w n = A at *
  rw [hA]
  by_cases q : A = 0
  · subst q
    rw [if_neg (by decide), if_pos (show lN 0 = 0 from rfl)]
  · have h0 : 0 < lN A := (lN_lt (a := 0) (by omega) (by omega)).mpr (by omega)
    rw [if_pos h0, if_neg (show ¬ lN A = 0 from fun e => q ((lN_eq (b := 0) (by omega) (by omega)).mp e))]
    have hmul : ∀ k, pp * w k ≤ 400000 * 40000000 := fun k => Nat.mul_le_mul hpp (hw k)
    have hc : ∀ k, k < 12 → sCq p (lN A) W k = lN (pp * w k / A) := fun k hk => by
      unfold sCq
      rw [hp, hW k hk, lN_mul]
      have := hmul k
      exact pk_lDiv (by omega) (by omega) (by omega)
    have hv : ∀ k, k < 12 → sCm p (lN A) W k = lN (pp * w k % A) := fun k hk => by
      unfold sCm
      rw [hp, hW k hk, lN_mul]
      have := hmul k
      exact pk_lRem (by omega) (by omega) (by omega)
    have hdv := nDiv (w := w) (pp := pp) (A := A) n
    have hcb := nCnt_b (r := fun k => pp * w k % A) (A := A) (fun k => Nat.mod_lt _ (by omega)) n
    rw [hAA] at hdv
    have hq : nSum (fun k => pp * w k / A) n ≤ pp := by
      refine Decidable.byContradiction fun c => ?_
      have := Nat.mul_le_mul_right A (show pp + 1 ≤ nSum (fun k => pp * w k / A) n by omega)
      rw [Nat.succ_mul] at this
      omega
    have hleft : sLf p (sCq p (lN A) W) n = lN (pp - nSum (fun k => pp * w k / A) n) := sLf_n hp n (fun k hk => hc k (by omega)) hq
    have hleft12 : sLf p (sCq p (lN A) W) 12 = sLf p (sCq p (lN A) W) n := by
      have := sLf_ext (p := p) (c := sCq p (lN A) W) (n := n) (fun k h1 h2 => by rw [hc k h2, hz k h1 h2, Nat.mul_zero, Nat.zero_div]; rfl) (12 - n) (by omega)
      rwa [show n + (12 - n) = 12 by omega] at this
    rw [hleft12, hleft]
    have hcp : ∀ m, m ≤ 12 → cP (sCm p (lN A) W) m = nCnt (fun k => pp * w k % A) m := by
      intro m
      induction m with
      | zero => exact fun _ => rfl
      | succ m ih =>
        intro hm
        show cP (sCm p (lN A) W) m + (if 0 < sCm p (lN A) W m then 1 else 0) = nCnt (fun k => pp * w k % A) m + (if 0 < pp * w m % A then 1 else 0)
        have hlt : pp * w m % A < A := Nat.mod_lt _ (by omega)
        rw [ih (by omega), hv m (by omega)]
        by_cases e : 0 < pp * w m % A
        · rw [if_pos e, if_pos (show 0 < lN (pp * w m % A) from (lN_lt (a := 0) (by omega) (by omega)).mpr e)]
        · rw [if_neg e, if_neg (show ¬ 0 < lN (pp * w m % A) from fun x => e ((lN_lt (a := 0) (by omega) (by omega)).mp x))]
    have hLc : pp - nSum (fun k => pp * w k / A) n ≤ cP (sCm p (lN A) W) n := by
      rw [hcp n h12]
      refine Decidable.byContradiction fun c => ?_
      generalize nSum (fun k => pp * w k / A) n = X at *
      generalize nCnt (fun k => pp * w k % A) n = C at *
      generalize nSum (fun k => pp * w k % A) n = R at *
      have h1 := Nat.mul_le_mul_right A (show C + 1 ≤ pp - X by omega)
      rw [Nat.succ_mul, Nat.sub_mul] at h1
      omega
    have hL12 : (lN (pp - nSum (fun k => pp * w k / A) n)).toInt.toNat = pp - nSum (fun k => pp * w k / A) n := by rw [lN_toInt (by omega)]; omega
    rw [hL12, Nat.min_eq_right (by have := cP_le (sCm p (lN A) W) n; omega)]
    refine sSpr_ext hn h12 _ _ _ hLc (fun k h1 h2 => ?_)
    rw [hv k h2, hz k h1 h2, Nat.mul_zero, Nat.zero_mod]
    decide
