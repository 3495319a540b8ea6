theorem i32_nat {x : Int32} (h : 0 ≤ x.toInt) {m : Nat} (h2 : x.toInt ≤ m) (hm : m < 2147483648) : ∃ v, v ≤ m ∧ x = nI v := by
  refine ⟨x.toInt.toNat, by omega, ?_⟩
  apply Int32.toInt_inj.mp
  rw [nI_toInt (by omega)]
  omega
theorem sC_val {fr vo un nu : Nat → Int32} {oth d kn : Int32} : ∀ n, (sC fr vo un nu oth d kn n).1 = oth ∨ ∃ t, t < n ∧ ¬ nu t = -1 ∧ (sC fr vo un nu oth d kn n).1 = nu t
  | 0 => Or.inl rfl
  | k + 1 => by
    unfold sC
    split
    · rename_i h
      exact Or.inr ⟨k, by omega, h.2.2, rfl⟩
    · rcases sC_val (fr := fr) (vo := vo) (un := un) (nu := nu) (oth := oth) (d := d) (kn := kn) k with h | ⟨t, h1, h2, h3⟩
      · exact Or.inl h
      · exact Or.inr ⟨t, by omega, h2, h3⟩
theorem sSays_r {D : zD} {I : Nat → Nat → Int32} {nt : Nat} (h : ∀ t, t < nt → vSt D I t) {w : Nat} (hw : w < 19) {d : Nat} {kn : Int32} (hkn : kn < 720) : ∃ v, v ≤ 1000 ∧ (w = 13 ∨ w = 14 → v ≤ 100) ∧ sSays I nt w d kn = nI v := by
  have hs : sSlot w d < 63 := by
    have := Nat.mod_lt (d / 30) (y := 12) (by decide)
    unfold sSlot
    split
    · omega
    · split
      · omega
      · split <;> omega
  rw [← says_eq h hw hkn]
  rcases sC_val (fr := fun t => I (nSt D t) 1) (vo := fun t => I (nSt D t) 0) (un := fun t => I (nSt D t) 2) (nu := fun t => I (nRw D t) (sSlot w d)) (oth := sOth w) (d := nI d) (kn := kn) nt with e | ⟨t, h1, h2, e⟩
  · rw [e]
    unfold sOth
    split
    · exact ⟨1, by decide, by omega, rfl⟩
    · split
      · exact ⟨100, by decide, by omega, rfl⟩
      · split
        · exact ⟨1, by decide, by omega, rfl⟩
        · exact ⟨0, by decide, by omega, rfl⟩
  · rw [e]
    obtain ⟨⟨r1, r2⟩, r3⟩ := (h t h1).2.2.2.2.2 (sSlot w d) hs
    have r0 : 0 ≤ (I (nRw D t) (sSlot w d)).toInt := by
      have : ¬ (I (nRw D t) (sSlot w d)).toInt = -1 := fun q => h2 (Int32.toInt_inj.mp (q.trans (show (-1 : Int) = (-1 : Int32).toInt from rfl)))
      omega
    by_cases q : w = 13 ∨ w = 14
    · have hs' : sSlot w d = 57 ∨ sSlot w d = 58 := by
        unfold sSlot
        rw [if_neg (by omega), if_neg (by omega), if_neg (by omega)]
        omega
      obtain ⟨v, v1, v2⟩ := i32_nat r0 (m := 100) (r3 hs') (by decide)
      exact ⟨v, by omega, fun _ => v1, v2⟩
    · obtain ⟨v, v1, v2⟩ := i32_nat r0 (m := 1000) r2 (by decide)
      exact ⟨v, v1, fun q' => absurd q' q, v2⟩
theorem sLost_r {n a b d : Int32} (ha : 0 ≤ a.toInt ∧ a.toInt ≤ 100) (hb : 0 ≤ b.toInt ∧ b.toInt ≤ 100) (hd : 0 ≤ d.toInt ∧ d.toInt ≤ 100) : ∃ v, v ≤ 100 ∧ sLost n a b d = nI v := by
  have key : ∀ x : Int32, x = 0 ∨ x = a ∨ x = b ∨ x = d → ∃ v, v ≤ 100 ∧ x = nI v := by
    rintro x (rfl | rfl | rfl | rfl)
    · exact ⟨0, by decide, rfl⟩
    · exact i32_nat ha.1 (m := 100) ha.2 (by decide)
    · exact i32_nat hb.1 (m := 100) hb.2 (by decide)
    · exact i32_nat hd.1 (m := 100) hd.2 (by decide)
  apply key
  unfold sLost sMid
  repeat' split
  all_goals simp
theorem sDam_r {wo el se lo : Nat} (h1 : wo ≤ 10000) (h2 : el ≤ 10000) (h3 : se ≤ 1000) (h4 : lo ≤ 100) : ∃ v, v ≤ 100000 ∧ sDam (nI wo) (nI el) (nI se) (nI lo) = lN v := by
  unfold sDam
  rw [nI_l (by omega), nI_l (by omega), nI_l (by omega), nI_l (by omega), lN_add]
  by_cases q : wo + el = 0
  · rw [q, if_pos (show lN 0 = 0 from rfl)]
    exact ⟨0, by decide, rfl⟩
  · rw [if_neg (show ¬ lN (wo + el) = 0 from fun e => q ((lN_eq (b := 0) (by omega) (by omega)).mp e))]
    have m1 : wo * se ≤ 10000 * 1000 := Nat.mul_le_mul h1 h3
    have m2 : wo * se * lo ≤ 10000 * 1000 * 100 := Nat.mul_le_mul m1 h4
    have m3 : wo * se * lo / 10000 ≤ 100000 := by omega
    have m4 : wo * se * lo / 10000 * wo ≤ 100000 * 10000 := Nat.mul_le_mul m3 h1
    rw [lN_mul, lN_mul, show (10000 : Int64) = lN 10000 from rfl, pk_lDiv (by omega) (by decide) (by decide), lN_mul, pk_lDiv (by omega) (by omega) (by omega)]
    refine ⟨_, ?_, rfl⟩
    have m5 : wo * se * lo / 10000 * wo / (wo + el) ≤ wo * se * lo / 10000 := by
      refine Nat.div_le_of_le_mul ?_
      rw [Nat.mul_comm (wo + el)]
      exact Nat.mul_le_mul_left _ (by omega)
    omega
theorem sSum_r {say cnt lost : Nat → Int32} (hs : ∀ w, w < 19 → ∃ v, v ≤ 1000 ∧ say w = nI v) (hc : ∀ w, ∃ v, v ≤ 10000 ∧ cnt w = nI v) (hl : ∀ c, c < 4 → ∃ v, v ≤ 100 ∧ lost c = nI v) : ∀ c, c ≤ 4 → ∃ v, v ≤ c * 100000 ∧ sSum say cnt lost c = lN v
  | 0, _ => ⟨0, by decide, rfl⟩
  | c + 1, h => by
    obtain ⟨v, v1, v2⟩ := sSum_r hs hc hl c (by omega)
    unfold sSum
    split
    · exact ⟨v, Nat.le_trans v1 (Nat.mul_le_mul_right _ (Nat.le_succ c)), v2⟩
    · obtain ⟨a, a1, a2⟩ := hc c
      obtain ⟨b, b1, b2⟩ := hc (4 + c)
      obtain ⟨s, s1, s2⟩ := hs (4 + c) (by omega)
      obtain ⟨o, o1, o2⟩ := hl c (by omega)
      rw [a2, b2, s2, o2]
      obtain ⟨d, d1, d2⟩ := sDam_r a1 b1 s1 o1
      rw [v2, d2, lN_add]
      exact ⟨_, by omega, rfl⟩
theorem sOff_r {s h : Nat} (hs : s ≤ 400000) (hh : h ≤ 100) : ∃ v, v ≤ s ∧ sOff (lN s) (nI h) = lN v := by
  unfold sOff
  have m1 : s * h ≤ s * 100 := Nat.mul_le_mul_left _ hh
  rw [nI_l (by omega), lN_mul, show (99 : Int64) = lN 99 from rfl, show (100 : Int64) = lN 100 from rfl, lN_add, pk_lDiv (by omega) (by decide) (by decide), lN_sub (by omega)]
  exact ⟨_, Nat.sub_le _ _, rfl⟩
theorem sAw_r {say cnt lost : Nat → Int32} (hs : ∀ w, w < 19 → ∃ v, v ≤ 1000 ∧ (w = 13 ∨ w = 14 → v ≤ 100) ∧ say w = nI v) (hc : ∀ w, ∃ v, v ≤ 10000 ∧ cnt w = nI v) (hl : ∀ c, c < 4 → ∃ v, v ≤ 100 ∧ lost c = nI v) : ∃ v, v ≤ 400000 ∧ sAw say cnt lost = lN v := by
  obtain ⟨v, v1, v2⟩ := sSum_r (fun w hw => by obtain ⟨v, h1, _, h2⟩ := hs w hw; exact ⟨v, h1, h2⟩) hc hl 4 (by omega)
  obtain ⟨a, _, a1, a2⟩ := hs 13 (by omega)
  obtain ⟨b, _, b1, b2⟩ := hs 14 (by omega)
  have a1 := a1 (Or.inl rfl)
  have b1 := b1 (Or.inr rfl)
  unfold sAw
  rw [v2, a2, b2]
  split
  · obtain ⟨x, x1, x2⟩ := sOff_r (s := v) (h := a) (by omega) a1
    rw [x2]
    obtain ⟨y, y1, y2⟩ := sOff_r (s := x) (h := b) (by omega) b1
    exact ⟨y, by omega, y2⟩
  · obtain ⟨y, y1, y2⟩ := sOff_r (s := v) (h := b) (by omega) b1
    exact ⟨y, by omega, y2⟩
theorem sMin_r {a b : Nat} (ha : a ≤ 400000) (hb : b ≤ 1000) : lN a - sMin (lN a) (nI b).toInt64 = lN (a - min a b) := by
  unfold sMin
  rw [nI_l (by omega)]
  by_cases q : a < b
  · rw [if_pos ((lN_lt (by omega) (by omega)).mpr q), lN_sub (by omega), Nat.min_eq_left (by omega)]
  · rw [if_neg (fun e => q ((lN_lt (by omega) (by omega)).mp e)), lN_sub (by omega), Nat.min_eq_right (by omega)]
theorem sL_r {say : Nat → Int32} (hs : ∀ w, w < 19 → ∃ v, v ≤ 1000 ∧ say w = nI v) {A : Nat} (hA : A ≤ 400000) (f : Nat) : ∀ k, ∃ v, v ≤ 400000 ∧ sL (lN A) say f k = lN v
  | 0 => by
    obtain ⟨b, b1, b2⟩ := hs 15 (by omega)
    unfold sL
    rw [b2, sMin_r hA b1]
    exact ⟨_, by omega, rfl⟩
  | k + 1 => by
    obtain ⟨v, v1, v2⟩ := sL_r hs hA f k
    have := Nat.mod_lt (f + k) (y := 3) (by decide)
    obtain ⟨b, b1, b2⟩ := hs (16 + (f + k) % 3) (by omega)
    unfold sL
    rw [v2, b2, sMin_r v1 b1]
    exact ⟨_, by omega, rfl⟩
theorem sWt_r {cnt say : Nat → Int32} (hc : ∀ w, ∃ v, v ≤ 10000 ∧ cnt w = nI v) (hs : ∀ w, w < 19 → ∃ v, v ≤ 1000 ∧ say w = nI v) : ∀ c, c ≤ 4 → ∃ v, v ≤ c * 10000000 ∧ sWt cnt say c = lN v
  | 0, _ => ⟨0, by decide, rfl⟩
  | c + 1, h => by
    obtain ⟨v, v1, v2⟩ := sWt_r hc hs c (by omega)
    obtain ⟨a, a1, a2⟩ := hc c
    obtain ⟨s, s1, s2⟩ := hs c (by omega)
    unfold sWt
    rw [v2, a2, s2, nI_l (by omega), nI_l (by omega), lN_mul, lN_add]
    have := Nat.mul_le_mul a1 s1
    exact ⟨_, by omega, rfl⟩
theorem cp_sy {D : zD} {I : Nat → Nat → Int32} {n nf nn nt td : Nat} (hc : cpR D I n nf nn nt td) (f : Nat) {kn : Int32} (hkn : kn < 720) : ∀ w, w < 19 → ∃ v, v ≤ 1000 ∧ (w = 13 ∨ w = 14 → v ≤ 100) ∧ sSy I nt f kn w = nI v := fun w hw => sSays_r (D := D) (fun t ht => (hc.2.1 t ht).2) hw hkn
theorem cp_p5 {D : zD} {I : Nat → Nat → Int32} {n nf nn nt td : Nat} (hc : cpR D I n nf nn nt td) (f : Nat) (hf : f < nf) {kn : Int32} (hkn : kn < 720) : ∃ v, v ≤ 400000 ∧ sP5 I nn nt f kn = lN v := by
  have hs := cp_sy hc f hkn
  have hh := (hc.2.2.2.2.2 f hf).2.2.2.2.2.2.2.2.2
  obtain ⟨a, a1, a2⟩ := sAw_r (say := sSy I nt f kn) (cnt := sCn I nn f kn) (lost := sLo I f) hs (fun w => sCounts_r hc.2.2.2.2.1 _ _ _ _) (fun c hc4 => sLost_r (hh c (by omega)).2 (by rw [show 12 * f + 4 + c = 12 * f + (4 + c) by omega]; exact (hh (4 + c) (by omega)).2) (by rw [show 12 * f + 8 + c = 12 * f + (8 + c) by omega]; exact (hh (8 + c) (by omega)).2))
  unfold sP5 sA
  rw [a2]
  exact sL_r (fun w hw => by obtain ⟨v, h1, _, h2⟩ := hs w hw; exact ⟨v, h1, h2⟩) a1 f 3
theorem cp_wg {D : zD} {I : Nat → Nat → Int32} {n nf nn nt td : Nat} (hc : cpR D I n nf nn nt td) (f : Nat) {kn : Int32} (hkn : kn < 720) (k : Nat) : ∃ v, v ≤ 40000000 ∧ sWg I nn nt f kn k = lN v := by
  have hs := cp_sy hc f hkn
  unfold sWg
  split
  · exact sWt_r (fun w => sCounts_r hc.2.2.2.2.1 _ _ _ _) (fun w hw => by obtain ⟨v, h1, _, h2⟩ := hs w hw; exact ⟨v, h1, h2⟩) 4 (by omega)
  · exact ⟨0, by decide, rfl⟩
/-- the weights as the class has them: none beyond the farms -/
def sWc (I : Nat → Nat → Int32) (n nn nt f : Nat) (kn : Int32) : Nat → Int64 := fun k => if k < n then sWg I nn nt f kn k else 0
theorem sAl_c {V W : Nat → Int64} : ∀ n, (∀ k, k < n → V k = W k) → sAl V n = sAl W n
  | 0, _ => rfl
  | n + 1, h => by
    show sAl V n + V n = sAl W n + W n
    rw [sAl_c n (fun k hk => h k (by omega)), h n (by omega)]
theorem sLf_c {p : Int64} {V W : Nat → Int64} : ∀ n, (∀ k, k < n → V k = W k) → sLf p V n = sLf p W n
  | 0, _ => rfl
  | n + 1, h => by
    show sLf p V n - V n = sLf p W n - W n
    rw [sLf_c n (fun k hk => h k (by omega)), h n (by omega)]
theorem sSpr_c {n : Nat} (hn : 0 < n) : ∀ (L : Nat) (c c' v v' : Nat → Int64), (∀ k, k < n → c k = c' k ∧ v k = v' k) → ∀ k, k < n → sSpr n L c v k = sSpr n L c' v' k
  | 0, _, _, _, _, h, k, hk => (h k hk).1
  | L + 1, c, c', v, v', h, k, hk => by
    have hb := sBst_lt v' n hn
    have he : sBst v n = sBst v' n := sBst_c n (fun k hk => (h k hk).2)
    unfold sSpr
    rw [he]
    refine sSpr_c hn L _ _ _ _ (fun i hi => ?_) k hk
    by_cases q : i = sBst v' n
    · rw [q, pk_uLs, pk_uLs, pk_uLs, pk_uLs, (h _ hb).1]; exact ⟨rfl, rfl⟩
    · rw [pk_uLn q, pk_uLn q, pk_uLn q, pk_uLn q]; exact h i hi
theorem sCl_c {n : Nat} (hn : 0 < n) {p : Int64} {V W : Nat → Int64} (h : ∀ k, k < n → V k = W k) : ∀ k, k < n → sCl p V n k = sCl p W n k := by
  intro k hk
  have hA := sAl_c n h
  have hq : ∀ A k, k < n → sCq p A V k = sCq p A W k := fun A k hk => by unfold sCq; rw [h k hk]
  have hm : ∀ A k, k < n → sCm p A V k = sCm p A W k := fun A k hk => by unfold sCm; rw [h k hk]
  unfold sCl
  rw [hA]
  by_cases q : sAl W n = 0
  · rw [if_pos q, if_pos q]
  · rw [if_neg q, if_neg q, sLf_c n (hq _)]
    exact sSpr_c hn _ _ _ _ _ (fun k hk => ⟨hq _ k hk, hm _ k hk⟩) k hk
theorem cp_cl {D : zD} {I : Nat → Nat → Int32} {n nf nn nt td : Nat} (hc : cpR D I n nf nn nt td) (f : Nat) (hf : f < nf) {kn : Int32} (hkn : kn < 720) (k : Nat) (hk : k < n) : sClC (sP5 I nn nt f kn) (sWc I n nn nt f kn) k = sCl (sP5 I nn nt f kn) (sWg I nn nt f kn) n k := by
  obtain ⟨pp, p1, p2⟩ := cp_p5 hc f hf hkn
  have hn := hc.1.1.1
  have hex : ∀ k, ∃ v, v ≤ 40000000 ∧ (n ≤ k → v = 0) ∧ sWc I n nn nt f kn k = lN v := fun k => by
    unfold sWc
    by_cases q : k < n
    · obtain ⟨v, v1, v2⟩ := cp_wg hc f hkn k
      rw [if_pos q]
      exact ⟨v, v1, fun q' => absurd q (by omega), v2⟩
    · rw [if_neg q]
      exact ⟨0, by decide, fun _ => rfl, rfl⟩
  have hw : ∀ k, sWc I n nn nt f kn k = lN (sWc I n nn nt f kn k).toInt.toNat ∧ (sWc I n nn nt f kn k).toInt.toNat ≤ 40000000 ∧ (n ≤ k → (sWc I n nn nt f kn k).toInt.toNat = 0) := fun k => by
    obtain ⟨v, v1, v2, v3⟩ := hex k
    rw [v3, lN_toInt (by omega)]
    exact ⟨by rw [show ((v : Int)).toNat = v by omega], by omega, fun q => by have := v2 q; omega⟩
  rw [sCl_eq (n := n) (by omega) hn p2 p1 (w := fun k => (sWc I n nn nt f kn k).toInt.toNat) (fun k _ => (hw k).1) (fun k h1 _ => (hw k).2.2 h1) (fun k => (hw k).2.1)]
  exact sCl_c (by omega) (fun k hk => by unfold sWc; rw [if_pos hk]) k hk
