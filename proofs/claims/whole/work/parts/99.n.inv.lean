def cMo (D : zD) (J : Nat → Nat → Int64) (n nf : Nat) : Prop := (∀ i, i < n → J (nFa D i) 2 = J 75 i) ∧ (∀ f, f < nf → ∀ k, k < 12 → J (nFs D f) k = J 74 (12 * f + k)) ∧ (∀ i, n ≤ i → i < 12 → J 75 i = 0) ∧ (∀ i, 12 * nf ≤ i → i < 144 → J 74 i = 0)
def cLe (I : Nat → Nat → Int32) (J : Nat → Nat → Int64) : Prop := (∃ nb, nb ≤ 144 ∧ I 47 0 = nI nb ∧ I 51 36 = nI nb ∧ ∀ i, i < nb → I 48 i = I 76 i ∧ I 49 i = I 77 i ∧ J 50 i = J 78 i) ∧ I 47 1 = I 51 37
def cTa (I : Nat → Nat → Int32) (ts : Nat) : Prop := ts ≤ 1000 ∧ I 34 0 = nI ts ∧ I 51 1 = nI ts ∧ ∀ j, j < ts → I 35 j &&& 255 = I 52 j
def cTx (I : Nat → Nat → Int32) (nt : Nat) : Prop := I 33 1 = I 51 13 ∧ I 33 2 = I 51 14 ∧ I 37 1 = sLn I nt ∧ ∀ j, j < 67 → I 79 j = wC j
def cKn (I : Nat → Nat → Int32) (n nn : Nat) : Prop := ∀ k, k < nn → ∃ i, i < n ∧ I 63 k = nI i
theorem cKn_fr {I I' : Nat → Nat → Int32} {n nn : Nat} (h : ∀ b, I' 63 b = I 63 b) (hk : cKn I n nn) : cKn I' n nn := fun k q => by rw [h k]; exact hk k q
def cAll (D : zD) (I : Nat → Nat → Int32) (J : Nat → Nat → Int64) (n nf nn nt td ts : Nat) : Prop := cpR D I n nf nn nt td ∧ cI D n nf nt ∧ cMo D J n nf ∧ cLe I J ∧ cTa I ts ∧ cTx I nt ∧ 85 ≤ D.2.2.2 ∧ cKn I n nn
def Inv (σ : zS) : Prop := ∃ (D : zD) (I : Nat → Nat → Int32) (J : Nat → Nat → Int64) (n nf nn nt td ts : Nat), σ = zst D I J ∧ cAll D I J n nf nn nt td ts
def uA (a b : Nat) : Prop := uR a b ∨ (a = 33 ∧ (b = 1 ∨ b = 2)) ∨ (a = 34 ∧ b = 0) ∨ a = 35 ∨ (a = 37 ∧ b = 1) ∨ (a = 47 ∧ (b = 0 ∨ b = 1)) ∨ a = 48 ∨ a = 49 ∨ (a = 51 ∧ (b = 1 ∨ b = 13 ∨ b = 14 ∨ b = 36 ∨ b = 37)) ∨ a = 52 ∨ (a = 60 ∧ b < 10) ∨ a = 76 ∨ a = 77 ∨ a = 79
theorem sLn_c {I I' : Nat → Nat → Int32} : ∀ n, (∀ t, t < n → I' 60 t = I 60 t) → sLn I' n = sLn I n
  | 0, _ => rfl
  | n + 1, h => by
    unfold sLn
    rw [sLn_c n (fun t ht => h t (by omega)), h n (by omega)]
theorem cMo_fr {D : zD} {I : Nat → Nat → Int32} {J J' : Nat → Nat → Int64} {n nf nn nt td : Nat} (hc : cpR D I n nf nn nt td) (hJ : ∀ a b, a = 74 ∨ a = 75 ∨ 85 ≤ a → J' a b = J a b) (h : cMo D J n nf) : cMo D J' n nf := by
  have hn := hc.1.1.1
  have hnf := hc.1.2.1.1
  obtain ⟨h1, h2, h3, h4⟩ := h
  refine ⟨fun i hi => ?_, fun f hf k hk => ?_, fun i hi1 hi2 => ?_, fun i hi1 hi2 => ?_⟩
  · have := (hc.2.2.1 i hi).1.2.2.2.2.2.1
    rw [hJ _ _ (by omega), hJ 75 i (by omega)]; exact h1 i hi
  · have := (hc.2.2.2.2.2 f hf).1.2.2.2.2.2.2.1
    rw [hJ _ _ (by omega), hJ 74 _ (by omega)]; exact h2 f hf k hk
  · rw [hJ 75 i (by omega)]; exact h3 i hi1 hi2
  · rw [hJ 74 i (by omega)]; exact h4 i hi1 hi2
theorem cLe_fr {I I' : Nat → Nat → Int32} {J J' : Nat → Nat → Int64} (hI : ∀ a b, uA a b → I' a b = I a b) (hJ : ∀ a b, a = 50 ∨ a = 78 → J' a b = J a b) (h : cLe I J) : cLe I' J' := by
  obtain ⟨⟨nb, h1, h2, h3, h4⟩, h5⟩ := h
  refine ⟨⟨nb, h1, ?_, ?_, fun i hi => ?_⟩, ?_⟩
  · rw [hI 47 0 (by unfold uA; omega)]; exact h2
  · rw [hI 51 36 (by unfold uA; omega)]; exact h3
  · rw [hI 48 i (by unfold uA; omega), hI 49 i (by unfold uA; omega), hI 76 i (by unfold uA; omega), hI 77 i (by unfold uA; omega), hJ 50 i (by omega), hJ 78 i (by omega)]; exact h4 i hi
  · rw [hI 47 1 (by unfold uA; omega), hI 51 37 (by unfold uA; omega)]; exact h5
theorem cTa_fr {I I' : Nat → Nat → Int32} {ts : Nat} (hI : ∀ a b, uA a b → I' a b = I a b) (h : cTa I ts) : cTa I' ts := by
  obtain ⟨h1, h2, h3, h4⟩ := h
  refine ⟨h1, ?_, ?_, fun j hj => ?_⟩
  · rw [hI 34 0 (by unfold uA; omega)]; exact h2
  · rw [hI 51 1 (by unfold uA; omega)]; exact h3
  · rw [hI 35 j (by unfold uA; omega), hI 52 j (by unfold uA; omega)]; exact h4 j hj
theorem cTx_fr {I I' : Nat → Nat → Int32} {nt : Nat} (hnt : nt ≤ 10) (hI : ∀ a b, uA a b → I' a b = I a b) (h : cTx I nt) : cTx I' nt := by
  obtain ⟨h1, h2, h3, h4⟩ := h
  refine ⟨?_, ?_, ?_, fun j hj => ?_⟩
  · rw [hI 33 1 (by unfold uA; omega), hI 51 13 (by unfold uA; omega)]; exact h1
  · rw [hI 33 2 (by unfold uA; omega), hI 51 14 (by unfold uA; omega)]; exact h2
  · rw [hI 37 1 (by unfold uA; omega), sLn_c nt (fun t ht => hI 60 t (by unfold uA; omega))]; exact h3
  · rw [hI 79 j (by unfold uA; omega)]; exact h4 j hj
theorem cAll_fr {D : zD} {I I' : Nat → Nat → Int32} {J J' : Nat → Nat → Int64} {n nf nn nt td ts : Nat} (hI : ∀ a b, uA a b → I' a b = I a b) (hJ : ∀ a b, a = 50 ∨ a = 74 ∨ a = 75 ∨ a = 78 ∨ 85 ≤ a → J' a b = J a b) (h : cAll D I J n nf nn nt td ts) : cAll D I' J' n nf nn nt td ts := by
  obtain ⟨h1, h2, h3, h4, h5, h6, h7⟩ := h
  exact ⟨cpR_fr (fun a b q => hI a b (Or.inl q)) h1, h2, cMo_fr h1 (fun a b q => hJ a b (by omega)) h3, cLe_fr hI (fun a b q => hJ a b (by omega)) h4, cTa_fr hI h5, cTx_fr h1.1.2.2.2.1.1 hI h6, h7.1, cKn_fr (fun b => hI 63 b (Or.inl (by unfold uR; omega))) h7.2⟩
theorem cAll_th {D : zD} {I : Nat → Nat → Int32} {J : Nat → Nat → Int64} {n nf nn nt td ts : Nat} {v : Int32} (h : cAll D I J n nf nn nt td ts) : cAll D (zu2 I 51 2 v) J n nf nn nt td ts := cAll_fr (fun a b q => zu2_n (by unfold uA uR at q; omega)) (fun _ _ _ => rfl) h
/-- one call of the law: the class's answer is the reference's -/
def zOp (l : Launch) (G : zG) (m1 m2 : zMI) (As : List Value) : Prop := ∀ σ, Inv σ → zRuns l G m1 (.ref 32 :: As) σ (fun r σ1 => (∃ x : Int32, r = some (.int x)) ∧ σ1.1 51 = 11 ∧ zRuns l G m2 (.ref 51 :: As) σ1 (fun r2 σ2 => r2 = r ∧ Inv σ2))
def zOpJ (l : Launch) (G : zG) (m1 m2 : zMI) (As : List Value) : Prop := ∀ σ, Inv σ → zRuns l G m1 (.ref 32 :: As) σ (fun r σ1 => (∃ x : Int64, r = some (.long x)) ∧ σ1.1 51 = 11 ∧ zRuns l G m2 (.ref 51 :: As) σ1 (fun r2 σ2 => r2 = r ∧ Inv σ2))
section
variable {l : Launch} {G : zG}
theorem op_fault (hG : zOK l G) (w : Int32) : zOp l G mX10_fault mX11_fault [.int w] := by
  rintro σ ⟨D, I, J, n, nf, nn, nt, td, ts, rfl, h⟩
  refine zRuns_mono (c_X10_fault hG D I J w) ?_
  rintro r σ1 ⟨rfl, rfl⟩
  refine ⟨⟨_, rfl⟩, rfl, zRuns_mono (c_X11_fault hG D I J w) ?_⟩
  rintro r2 σ2 ⟨rfl, rfl⟩
  exact ⟨by rw [h.2.2.2.2.2.1.1, h.2.2.2.2.2.1.2.1], D, _, J, n, nf, nn, nt, td, ts, rfl, cAll_th h⟩
theorem op_worth (hG : zOK l G) (f w d kn : Int32) : zOp l G mX10_worth mX11_worth [.int f, .int w, .int d, .int kn] := by
  rintro σ ⟨D, I, J, n, nf, nn, nt, td, ts, rfl, h⟩
  have hc := h.1
  have hn := hc.1.1.1
  have e15 := hc.1.1.2.1
  have e3 : I 51 3 = I 32 10 := hc.1.2.2.2.2.2.1.trans hc.1.2.2.2.2.2.2.symm
  have hm := c_X11_worth (l := l) (G := G) hG D I J f w d kn nn hc.1.2.2.1.1 hc.1.2.2.1.2.1
  rw [e15, e3] at hm
  have h89 : (0 ≤ w ∧ w ≤ 8) ↔ (0 ≤ w ∧ w < 9) := by
    rw [Int32.le_iff_toInt_le, Int32.le_iff_toInt_le, Int32.lt_iff_toInt_lt, show (8 : Int32).toInt = 8 from rfl, show (9 : Int32).toInt = 9 from rfl]
    omega
  rw [h89] at hm
  by_cases c : (0 ≤ f ∧ f < nI n) ∧ (0 ≤ w ∧ w < 9) ∧ (0 ≤ d ∧ d < 720) ∧ 0 ≤ kn ∧ kn ≤ I 32 10
  · obtain ⟨k, hk, rfl⟩ := ix_ok (by omega) c.1
    obtain ⟨j, hj, rfl⟩ := ix_ok (n := 9) (by decide) c.2.1
    refine zRuns_mono (c_worth_ok hG J hc k hk j hj d kn c.2.2.1 c.2.2.2) ?_
    rintro r σ1 ⟨rfl, rfl⟩
    refine ⟨⟨_, rfl⟩, rfl, zRuns_mono hm ?_⟩
    intro r2 σ2 hp
    obtain ⟨rfl, rfl⟩ := hp.1 c
    exact ⟨rfl, D, _, J, n, nf, nn, nt, td, ts, rfl, cAll_th h⟩
  · refine zRuns_mono (c_worth_no hG J hc f w d kn c) ?_
    rintro r σ1 ⟨rfl, rfl⟩
    refine ⟨⟨_, rfl⟩, rfl, zRuns_mono hm ?_⟩
    intro r2 σ2 hp
    obtain ⟨rfl, rfl⟩ := hp.2 c
    exact ⟨rfl, D, _, J, n, nf, nn, nt, td, ts, rfl, cAll_th h⟩
theorem op_law (hG : zOK l G) (w d kn : Int32) : zOp l G mX10_law mX11_law [.int w, .int d, .int kn] := by
  rintro σ ⟨D, I, J, n, nf, nn, nt, td, ts, rfl, h⟩
  have hc := h.1
  have e3 : I 51 3 = I 32 10 := hc.1.2.2.2.2.2.1.trans hc.1.2.2.2.2.2.2.symm
  by_cases c : (0 ≤ w ∧ w ≤ 18) ∧ (0 ≤ d ∧ d < 720) ∧ 0 ≤ kn ∧ kn ≤ I 32 10
  · have h18 : 0 ≤ w ∧ w < nI 19 := ⟨c.1.1, by
      have := c.1.2
      rw [Int32.le_iff_toInt_le, show (18 : Int32).toInt = 18 from rfl] at this
      rw [Int32.lt_iff_toInt_lt, nI_toInt (by decide)]
      omega⟩
    obtain ⟨k, hk, rfl⟩ := ix_ok (by decide) h18
    obtain ⟨j, hj, rfl⟩ := ix_ok (n := 720) (by decide) c.2.1
    refine zRuns_mono (c_lawc_ok hG J hc k hk j hj kn c.2.2) ?_
    rintro r σ1 ⟨rfl, rfl⟩
    refine ⟨⟨_, rfl⟩, rfl, zRuns_mono (c_law_ok hG D I J k j kn hk hj (by rw [e3]; exact c.2.2) nt hc.1.2.2.2.1.1 hc.1.2.2.2.1.2.1) ?_⟩
    rintro r2 σ2 ⟨rfl, rfl⟩
    exact ⟨rfl, D, _, J, n, nf, nn, nt, td, ts, rfl, cAll_th h⟩
  · refine zRuns_mono (c_lawc_no hG D I J w d kn c) ?_
    rintro r σ1 ⟨rfl, rfl⟩
    refine ⟨⟨_, rfl⟩, rfl, zRuns_mono (c_law_no hG D I J w d kn (by rw [e3]; exact c)) ?_⟩
    rintro r2 σ2 ⟨rfl, rfl⟩
    exact ⟨rfl, D, _, J, n, nf, nn, nt, td, ts, rfl, cAll_th h⟩
end
