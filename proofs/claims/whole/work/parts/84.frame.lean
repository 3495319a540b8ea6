/-- what cpR looks at -/
def uR (a b : Nat) : Prop := (a = 32 ∧ (b = 7 ∨ b = 8 ∨ b = 9 ∨ b = 10)) ∨ (a = 37 ∧ b = 0) ∨ (a = 51 ∧ (b = 3 ∨ b = 4 ∨ b = 15 ∨ b = 18 ∨ b = 24)) ∨ (53 ≤ a ∧ a ≤ 55) ∨ ((a = 56 ∨ a = 57) ∧ b < 180) ∨ (a = 58 ∧ b < 10) ∨ (a = 59 ∧ b < 480) ∨ (61 ≤ a ∧ a ≤ 73) ∨ 85 ≤ a
theorem cS_fr {I I' : Nat → Nat → Int32} {n nf nn nt td : Nat} (h : ∀ a b, uR a b → I' a b = I a b) (hc : cS I n nf nn nt td) : cS I' n nf nn nt td := by
  unfold cS at *
  rw [h 51 15 (by unfold uR; omega), h 32 7 (by unfold uR; omega), h 51 24 (by unfold uR; omega), h 32 8 (by unfold uR; omega), h 51 18 (by unfold uR; omega), h 32 9 (by unfold uR; omega), h 51 4 (by unfold uR; omega), h 37 0 (by unfold uR; omega), h 51 3 (by unfold uR; omega), h 32 10 (by unfold uR; omega)]
  exact hc
theorem mRow_fr {I I' : Nat → Nat → Int32} {t : Nat} {row : Nat → Int32} (ht : t < 10) (h : ∀ a b, ((a = 56 ∨ a = 57) ∧ b < 180) ∨ (a = 58 ∧ b < 10) ∨ (a = 59 ∧ b < 480) → I' a b = I a b) (hm : mRow I t row) : mRow I' t row := by
  intro key hk
  have hk2 := hm key hk
  unfold mRw at *
  rw [h 56 (18 * t + key) (by omega), h 57 (18 * t + key) (by omega), h 58 t (by omega)]
  rcases hk2 with q | ⟨q1, q2, q3, q4, q5, q6⟩
  · exact Or.inl q
  · exact Or.inr ⟨q1, q2, q3, q4, fun c i hi => by rw [h 59 _ (by omega)]; exact q5 c i hi, q6⟩
theorem vSt_fr {D : zD} {I I' : Nat → Nat → Int32} {t : Nat} (ht : t < 10) (h : ∀ a b, uR a b → I' a b = I a b) (hk : kSt D t) (hv : vSt D I t) : vSt D I' t := by
  obtain ⟨_, _, _, _, _, k1, _, k2, _⟩ := hk
  obtain ⟨v1, v2, v3, v4, v5, v6⟩ := hv
  have e : I' (nRw D t) = I (nRw D t) := funext fun b => h _ _ (by unfold uR; omega)
  refine ⟨?_, ?_, ?_, ?_, ?_, ?_⟩
  · rw [h _ _ (by unfold uR; omega), h 54 t (by unfold uR; omega)]; exact v1
  · rw [h _ _ (by unfold uR; omega), h 53 t (by unfold uR; omega)]; exact v2
  · rw [h 53 t (by unfold uR; omega)]; exact v3
  · rw [h 55 t (by unfold uR; omega), h (nSt D t) 2 (by unfold uR; omega)]; exact v4
  · rw [e]; exact mRow_fr ht (fun a b c => h a b (by unfold uR; omega)) v5
  · rw [e]; exact v6
theorem nCh_c {I I' : Nat → Nat → Int32} {f w : Int32} (h : ∀ a b, uR a b → I' a b = I a b) : ∀ (n : Nat) (ps : List Nat), (∀ p, p ∈ ps → 85 ≤ p) → nCh I f w n ps → nCh I' f w n ps
  | 0, ps, _, hc => hc
  | n + 1, ps, hp, hc => by
    obtain ⟨h1, h2⟩ := hc
    unfold nCh
    rw [h 63 n (by unfold uR; omega), h 64 n (by unfold uR; omega), h 65 n (by unfold uR; omega), h 66 n (by unfold uR; omega), h 67 n (by unfold uR; omega)]
    refine ⟨fun c => ?_, fun c => nCh_c h n ps hp (h2 c)⟩
    obtain ⟨p, ps', rfl, q1, q2, q3, q4⟩ := h1 c
    have hp0 := hp p (List.mem_cons_self ..)
    refine ⟨p, ps', rfl, ?_, ?_, ?_, nCh_c h n ps' (fun q hq => hp q (List.mem_cons_of_mem _ hq)) q4⟩
    · rw [h p 0 (by unfold uR; omega)]; exact q1
    · rw [h p 1 (by unfold uR; omega)]; exact q2
    · rw [h p 2 (by unfold uR; omega)]; exact q3
theorem kNo_fr {D : zD} {I I' : Nat → Nat → Int32} {nn i w : Nat} (h : ∀ a b, uR a b → I' a b = I a b) (hk : kNo D I nn i w) : kNo D I' nn i w := by
  obtain ⟨ps, h1, h2, h3⟩ := hk
  exact ⟨ps, h1, nCh_c h nn ps (fun p hp => (h3 p hp).1) h2, h3⟩
theorem vNo_fr {I I' : Nat → Nat → Int32} {nn : Nat} (h : ∀ a b, uR a b → I' a b = I a b) (hk : vNo I nn) : vNo I' nn := fun k hk' => by
  rw [h 65 k (by unfold uR; omega), h 67 k (by unfold uR; omega)]
  exact hk k hk'
theorem vFi_fr {D : zD} {I I' : Nat → Nat → Int32} {n f : Nat} (h : ∀ a b, uR a b → I' a b = I a b) (hk : kFi D f) (hv : vFi D I n f) : vFi D I' n f := by
  have k1 := hk.1.2.2.1
  have k2 := hk.2.1.2.2.2.1
  have k3 := hk.2.2.1.2.2.2.1
  unfold vFi at *
  rw [h (nFi D f) 0 (by unfold uR; omega), h (nFi D f) 1 (by unfold uR; omega), h (nFi D f) 2 (by unfold uR; omega), h (nFi D f) 3 (by unfold uR; omega), h (nFi D f) 4 (by unfold uR; omega), h 68 f (by unfold uR; omega), h 69 f (by unfold uR; omega), h 70 f (by unfold uR; omega), h 71 f (by unfold uR; omega)]
  obtain ⟨v1, v2, v3, v4, v5, v6, ⟨j, j1, j2, j3, j4⟩, v8, v9⟩ := hv
  refine ⟨v1, v2, v3, v4, v5, v6, ⟨j, j1, j2, fun e i hi => ?_, fun i hi => ?_⟩, v8, fun i hi => ?_⟩
  · rw [h 73 _ (by unfold uR; omega)]; exact j3 e i hi
  · rw [h (nFj D f) i (by unfold uR; omega), h 72 _ (by unfold uR; omega)]; exact j4 i hi
  · rw [h (nFh D f) i (by unfold uR; omega), h 73 _ (by unfold uR; omega)]; exact v9 i hi
theorem cpR_fr {D : zD} {I I' : Nat → Nat → Int32} {n nf nn nt td : Nat} (h : ∀ a b, uR a b → I' a b = I a b) (hc : cpR D I n nf nn nt td) : cpR D I' n nf nn nt td := by
  obtain ⟨h1, h2, h3, h4, h5, h6⟩ := hc
  have hnt := h1.2.2.2.1.1
  refine ⟨cS_fr h h1, fun t ht => ⟨(h2 t ht).1, vSt_fr (by omega) h (h2 t ht).1 (h2 t ht).2⟩, fun i hi => ?_, fun i hi w hw => kNo_fr h (h4 i hi w hw), vNo_fr h h5, fun f hf => ⟨(h6 f hf).1, vFi_fr h (h6 f hf).1 (h6 f hf).2⟩⟩
  have k1 := (h3 i hi).1.2.2.2.2.2.1
  rw [h (nFa D i) 0 (by unfold uR; omega), h (nFa D i) 1 (by unfold uR; omega), h 61 i (by unfold uR; omega), h 62 i (by unfold uR; omega)]
  exact h3 i hi
/-- later made, greater name -/
def cI (D : zD) (n nf nt : Nat) : Prop := (∀ i j, i < j → j < nt → nSt D i < nSt D j) ∧ (∀ i j, i < j → j < n → nFa D i < nFa D j) ∧ (∀ i j, i < j → j < n → nLa D i < nLa D j) ∧ (∀ i j, i < j → j < nf → nFi D i < nFi D j) ∧ (∀ i j, i < j → j < nf → nFh D i < nFh D j) ∧ (∀ i j, i < j → j < nf → nFs D i < nFs D j)
theorem ne_of_mono {g : Nat → Nat} {n i j : Nat} (h : ∀ i j, i < j → j < n → g i < g j) (hi : i < n) (hj : j < n) (hij : i ≠ j) : g i ≠ g j := by
  rcases Nat.lt_or_ge i j with q | q
  · have := h i j q hj; omega
  · have := h j i (by omega) hi; omega
/-- the same computed from memories that tell the same -/
theorem sSy_c {I I' : Nat → Nat → Int32} (h : ∀ a b, 53 ≤ a → a ≤ 73 → I' a b = I a b) (nt f : Nat) (kn : Int32) : sSy I' nt f kn = sSy I nt f kn := by
  funext w
  unfold sSy
  rw [h 69 f (by decide) (by decide)]
  exact sSays_c (fun a b h1 h2 => h a b h1 (by omega)) _ _ _ _
theorem sCn_c {I I' : Nat → Nat → Int32} (h : ∀ a b, 53 ≤ a → a ≤ 73 → I' a b = I a b) (nn f : Nat) (kn : Int32) : sCn I' nn f kn = sCn I nn f kn := by
  funext w
  unfold sCn
  rw [h 69 f (by decide) (by decide), h 68 f (by decide) (by decide)]
  exact sCounts_c (fun a b h1 h2 => h a b (by omega) (by omega)) _ _ _ _ _
theorem sLo_c {I I' : Nat → Nat → Int32} (h : ∀ a b, 53 ≤ a → a ≤ 73 → I' a b = I a b) (f : Nat) : sLo I' f = sLo I f := by
  funext c
  unfold sLo
  rw [h 70 f (by decide) (by decide), h 73 _ (by decide) (by decide), h 73 _ (by decide) (by decide), h 73 _ (by decide) (by decide)]
theorem sWg_c {I I' : Nat → Nat → Int32} (h : ∀ a b, 53 ≤ a → a ≤ 73 → I' a b = I a b) (nn nt f : Nat) (kn : Int32) : sWg I' nn nt f kn = sWg I nn nt f kn := by
  funext k
  unfold sWg
  rw [sSy_c h, h 69 f (by decide) (by decide), h 62 k (by decide) (by decide)]
  have e : ∀ c, sCounts I' nn (nI k) (nI c) (I 69 f) kn = sCounts I nn (nI k) (nI c) (I 69 f) kn := fun c => sCounts_c (fun a b h1 h2 => h a b (by omega) (by omega)) _ _ _ _ _
  simp only [e]
theorem sA_c {I I' : Nat → Nat → Int32} (h : ∀ a b, 53 ≤ a → a ≤ 73 → I' a b = I a b) (nn nt f : Nat) (kn : Int32) : sA I' nn nt f kn = sA I nn nt f kn := by
  unfold sA
  rw [sSy_c h, sCn_c h, sLo_c h]
theorem sP5_c {I I' : Nat → Nat → Int32} (h : ∀ a b, 53 ≤ a → a ≤ 73 → I' a b = I a b) (nn nt f : Nat) (kn : Int32) : sP5 I' nn nt f kn = sP5 I nn nt f kn := by
  unfold sP5
  rw [sSy_c h, sA_c h]
theorem sDue_c {I I' : Nat → Nat → Int32} (h : ∀ a b, 53 ≤ a → a ≤ 73 → I' a b = I a b) (nn nt n f : Nat) (kn : Int32) : sDue I' nn nt n f kn = sDue I nn nt n f kn := by
  funext k
  unfold sDue
  rw [sP5_c h, sA_c h, sWg_c h, h 68 f (by decide) (by decide)]
