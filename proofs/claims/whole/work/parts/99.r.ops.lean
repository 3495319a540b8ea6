/-- what cAll looks at beside cpR -/
def uB (a b : Nat) : Prop := (a = 33 ∧ (b = 1 ∨ b = 2)) ∨ (a = 34 ∧ b = 0) ∨ a = 35 ∨ (a = 37 ∧ b = 1) ∨ (a = 47 ∧ (b = 0 ∨ b = 1)) ∨ a = 48 ∨ a = 49 ∨ (a = 51 ∧ (b = 1 ∨ b = 13 ∨ b = 14 ∨ b = 36 ∨ b = 37)) ∨ a = 52 ∨ (a = 60 ∧ b < 10) ∨ a = 76 ∨ a = 77 ∨ a = 79
theorem cLe_r {I I' : Nat → Nat → Int32} {J J' : Nat → Nat → Int64} (hI : ∀ a b, uB a b → I' a b = I a b) (hJ : ∀ b, J' 50 b = J 50 b ∧ J' 78 b = J 78 b) (h : cLe I J) : cLe I' J' := by
  obtain ⟨⟨nb, h1, h2, h3, h4⟩, h5⟩ := h
  refine ⟨⟨nb, h1, ?_, ?_, fun i hi => ?_⟩, ?_⟩
  · rw [hI 47 0 (by unfold uB; omega)]; exact h2
  · rw [hI 51 36 (by unfold uB; omega)]; exact h3
  · rw [hI 48 i (by unfold uB; omega), hI 49 i (by unfold uB; omega), hI 76 i (by unfold uB; omega), hI 77 i (by unfold uB; omega), (hJ i).1, (hJ i).2]; exact h4 i hi
  · rw [hI 47 1 (by unfold uB; omega), hI 51 37 (by unfold uB; omega)]; exact h5
theorem cTa_r {I I' : Nat → Nat → Int32} {ts : Nat} (hI : ∀ a b, uB a b → I' a b = I a b) (h : cTa I ts) : cTa I' ts := by
  obtain ⟨h1, h2, h3, h4⟩ := h
  refine ⟨h1, ?_, ?_, fun j hj => ?_⟩
  · rw [hI 34 0 (by unfold uB; omega)]; exact h2
  · rw [hI 51 1 (by unfold uB; omega)]; exact h3
  · rw [hI 35 j (by unfold uB; omega), hI 52 j (by unfold uB; omega)]; exact h4 j hj
theorem cTx_r {I I' : Nat → Nat → Int32} {nt : Nat} (hnt : nt ≤ 10) (hI : ∀ a b, uB a b → I' a b = I a b) (h : cTx I nt) : cTx I' nt := by
  obtain ⟨h1, h2, h3, h4⟩ := h
  refine ⟨?_, ?_, ?_, fun j hj => ?_⟩
  · rw [hI 33 1 (by unfold uB; omega), hI 51 13 (by unfold uB; omega)]; exact h1
  · rw [hI 33 2 (by unfold uB; omega), hI 51 14 (by unfold uB; omega)]; exact h2
  · rw [hI 37 1 (by unfold uB; omega), sLn_c nt (fun t ht => hI 60 t (by unfold uB; omega))]; exact h3
  · rw [hI 79 j (by unfold uB; omega)]; exact h4 j hj
theorem cAll_r {D D' : zD} {I I' : Nat → Nat → Int32} {J J' : Nat → Nat → Int64} {n nf nn nt td ts n' nf' nn' td' : Nat} (hr : cpR D' I' n' nf' nn' nt td') (hi : cI D' n' nf' nt) (hm : cMo D' J' n' nf') (hI : ∀ a b, uB a b → I' a b = I a b) (hJ : ∀ b, J' 50 b = J 50 b ∧ J' 78 b = J 78 b) (hx : 85 ≤ D'.2.2.2 ∧ cKn I' n' nn') (h : cAll D I J n nf nn nt td ts) : cAll D' I' J' n' nf' nn' nt td' ts := by
  obtain ⟨h1, h2, h3, h4, h5, h6, h7⟩ := h
  exact ⟨hr, hi, hm, cLe_r hI hJ h4, cTa_r hI h5, cTx_r h1.1.2.2.2.1.1 hI h6, hx⟩
theorem cS_r {I I' : Nat → Nat → Int32} {n nf nn nt td : Nat} (h : ∀ a b, (a = 32 ∧ (b = 7 ∨ b = 8 ∨ b = 9 ∨ b = 10)) ∨ (a = 37 ∧ b = 0) ∨ (a = 51 ∧ (b = 3 ∨ b = 4 ∨ b = 15 ∨ b = 18 ∨ b = 24)) → I' a b = I a b) (hc : cS I n nf nn nt td) : cS I' n nf nn nt td := by
  unfold cS at *
  rw [h 51 15 (by omega), h 32 7 (by omega), h 51 24 (by omega), h 32 8 (by omega), h 51 18 (by omega), h 32 9 (by omega), h 51 4 (by omega), h 37 0 (by omega), h 51 3 (by omega), h 32 10 (by omega)]
  exact hc
theorem kne {D : zD} {a b x y : Nat} (ha : kF D.1 a = x) (hb : kF D.1 b = y) (h : x ≠ y) : ¬ a = b := fun e => h (by rw [← ha, e, hb])
section
variable {l : Launch} {G : zG}
theorem op_undo (hG : zOK l G) (t : Int32) : zOp l G mX10_undo mX11_undo [.int t] := by
  rintro σ ⟨D, I, J, n, nf, nn, nt, td, ts, rfl, h⟩
  have hc := h.1
  have hnt := hc.1.2.2.2.1
  have htd := hc.1.2.2.2.2
  have t4 : (I 51 4).toInt = (nt : Int) := by rw [hnt.2.1]; exact nI_toInt (by omega)
  by_cases c : 0 ≤ t ∧ t < nI nt ∧ I 55 t.toNatClampNeg < 0
  · obtain ⟨k, hk, rfl⟩ := ix_ok (by omega) ⟨c.1, c.2.1⟩
    have hcl : (nI k).toNatClampNeg = k := nI_clamp (by omega)
    obtain ⟨hk1, hv⟩ := hc.2.1 k hk
    have hu : I (nSt D k) 2 = 720 := by
      rcases hv.2.2.2.1 with ⟨a, b⟩ | ⟨a, _, _⟩
      · exact b
      · rw [hcl] at c; exact absurd c.2.2 (Int32.not_lt.mpr a)
    have k85 := hk1.2.2.2.2.2.1
    have i1 : ∀ a b, a < 85 → zu2 I (nSt D k) 2 (I 32 10) a b = I a b := fun a b q => zu2_n (by omega)
    refine zRuns_mono (c_undo_ok hG D I J nt k hnt.1 hk hnt.2.2 hk1 hu) ?_
    rintro r σ1 ⟨rfl, rfl⟩
    refine ⟨⟨_, rfl⟩, rfl, zRuns_mono (c_X11_undo hG D _ J (nI k) (by rw [i1 51 4 (by decide)]; omega) (by rw [i1 51 4 (by decide)]; omega)) ?_⟩
    intro r2 σ2 hp
    rw [i1 51 4 (by decide), hcl, i1 55 k (by decide), i1 51 3 (by decide), hnt.2.1] at hp
    rw [hcl] at c
    obtain ⟨rfl, rfl⟩ := hp.1 c
    refine ⟨rfl, D, _, J, n, nf, nn, nt, td, ts, rfl, ?_⟩
    have ex : ∀ a b, ¬ (a = nSt D k ∧ b = 2) → ¬ (a = 51 ∧ b = 2) → ¬ (a = 55 ∧ b = k) → zu2 (zu2 (zu2 I (nSt D k) 2 (I 32 10)) 51 2 0) 55 k (I 51 3) a b = I a b := fun a b x y z => by rw [zu2_n z, zu2_n y, zu2_n x]
    have e1 : zu2 (zu2 (zu2 I (nSt D k) 2 (I 32 10)) 51 2 0) 55 k (I 51 3) 55 k = nI td := by rw [zu2_s]; exact htd.2.1
    have e2 : zu2 (zu2 (zu2 I (nSt D k) 2 (I 32 10)) 51 2 0) 55 k (I 51 3) (nSt D k) 2 = nI td := by rw [zu2_a (by omega), zu2_a (by omega), zu2_s]; exact htd.2.2
    generalize zu2 (zu2 (zu2 I (nSt D k) 2 (I 32 10)) 51 2 0) 55 k (I 51 3) = I' at *
    have hk7 := hk1.2.1
    have ek : ∀ a b x, kF D.1 a = x → x ≠ 7 → x ≠ 11 → x ≠ 13 → I' a b = I a b := fun a b x q1 q2 q3 q4 => ex a b (fun e => kne q1 hk7 q2 e.1) (fun e => kne (b := 51) q1 rfl q3 e.1) (fun e => kne (b := 55) q1 rfl q4 e.1)
    have er : ∀ a b, kF D.1 a = 13 → 85 ≤ a → I' a b = I a b := fun a b q1 q2 => ex a b (fun e => kne q1 hk7 (by decide) e.1) (by omega) (by omega)
    refine cAll_r ⟨cS_r (fun a b q => ex a b (by omega) (by omega) (by omega)) hc.1, fun j hj => ?_, fun i hi => ?_, fun i hi w hw => ?_, fun j hj => ?_, fun f hf => ?_⟩ h.2.1 h.2.2.1 (fun a b q => by unfold uB at q; exact ex a b (by omega) (by omega) (by omega)) (fun b => ⟨rfl, rfl⟩) ⟨h.2.2.2.2.2.2.1, cKn_fr (fun b => ex 63 b (by omega) (by omega) (by omega)) h.2.2.2.2.2.2.2⟩ h
    · obtain ⟨q1, q2⟩ := hc.2.1 j hj
      refine ⟨q1, ?_⟩
      have q85 := q1.2.2.2.2.2.1
      have qr := fun b => er (nRw D j) b q1.2.2.2.1 q1.2.2.2.2.2.2.2.1
      by_cases e : j = k
      · subst e
        obtain ⟨v1, v2, v3, v4, v5, v6⟩ := q2
        have er' : I' (nRw D j) = I (nRw D j) := funext qr
        refine ⟨?_, ?_, ?_, Or.inr ⟨?_, ?_, ?_⟩, ?_, ?_⟩
        · rw [ex _ 0 (by omega) (by omega) (by omega), ex 54 j (by omega) (by omega) (by omega)]; exact v1
        · rw [ex _ 1 (by omega) (by omega) (by omega), ex 53 j (by omega) (by omega) (by omega)]; exact v2
        · rw [ex 53 j (by omega) (by omega) (by omega)]; exact v3
        · rw [e1]; exact (nI_leI (a := 0) (by omega) (by omega)).mpr (by omega)
        · rw [e1, e2]
        · rw [e1]; exact (nI_ltI (b := 720) (by omega) (by omega)).mpr htd.1
        · rw [er']; exact mRow_fr (by omega) (fun a b q => ex a b (by omega) (by omega) (by omega)) v5
        · rw [er']; exact v6
      · have hne : nSt D j ≠ nSt D k := ne_of_mono h.2.1.1 hj hk e
        exact pT2 (fun b => ex _ b (by omega) (by omega) (by omega)) qr (fun a b q1 q2 => ex a b (by omega) (by omega) (by omega)) (ex 55 j (by omega) (by omega) (by omega)) (fun a b q1 q2 => ex a b (by omega) (by omega) (by omega)) (by omega) q2
    · obtain ⟨q1, q2, q3⟩ := hc.2.2.1 i hi
      rw [ek _ 0 0 q1.2.1 (by decide) (by decide) (by decide), ek _ 1 0 q1.2.1 (by decide) (by decide) (by decide), ex 61 i (by omega) (by omega) (by omega), ex 62 i (by omega) (by omega) (by omega)]
      exact ⟨q1, q2, q3⟩
    · exact pN2 (fun p q b => ek p b 3 q (by decide) (by decide) (by decide)) (fun a b q1 q2 => ex a b (by omega) (by omega) (by omega)) (hc.2.2.2.1 i hi w hw)
    · rw [ex 65 j (by omega) (by omega) (by omega), ex 67 j (by omega) (by omega) (by omega)]; exact hc.2.2.2.2.1 j hj
    · obtain ⟨q1, q2⟩ := hc.2.2.2.2.2 f hf
      exact ⟨q1, pFi2 (fun b => ek _ b 1 q1.1.2.1 (by decide) (by decide) (by decide)) (fun a x y => ex a f (by omega) (by omega) (by omega)) (fun i hi => ⟨er _ _ q1.2.1.2.1 q1.2.1.2.2.2.1, ex 72 _ (by omega) (by omega) (by omega)⟩) (fun i hi => ⟨er _ _ q1.2.2.1.2.1 q1.2.2.1.2.2.2.1, ex 73 _ (by omega) (by omega) (by omega)⟩) q2⟩
  · refine zRuns_mono (c_undo_no hG D I J nt hnt.1 t hnt.2.2 (fun t ht => (hc.2.1 t ht).1) (fun q => c ⟨q.1, q.2.1, ?_⟩)) ?_
    · obtain ⟨k, hk, rfl⟩ := ix_ok (by omega) ⟨q.1, q.2.1⟩
      have q2 := q.2.2
      rw [nI_clamp (by omega)] at q2 ⊢
      rcases (hc.2.1 k hk).2.2.2.2.1 with ⟨a, b⟩ | ⟨a, b, d⟩
      · rw [a]; decide
      · rw [← b, q2] at d; exact absurd d (by decide)
    rintro r σ1 ⟨rfl, rfl⟩
    refine ⟨⟨_, rfl⟩, rfl, zRuns_mono (c_X11_undo hG D I J t (by omega) (by omega)) ?_⟩
    intro r2 σ2 hp
    rw [hnt.2.1] at hp
    obtain ⟨rfl, rfl⟩ := hp.2 c
    exact ⟨rfl, D, _, J, n, nf, nn, nt, td, ts, rfl, cAll_th h⟩
theorem op_close (hG : zOK l G) (t : Int32) : zOp l G mX10_close mX11_close [.int t] := by
  rintro σ ⟨D, I, J, n, nf, nn, nt, td, ts, rfl, h⟩
  have hc := h.1
  have hnf := hc.1.2.1
  have t4 : (I 51 24).toInt = (nf : Int) := by rw [hnf.2.1]; exact nI_toInt (by omega)
  by_cases c : (0 ≤ t ∧ t < nI nf) ∧ I 71 t.toNatClampNeg = 0
  · obtain ⟨k, hk, rfl⟩ := ix_ok (by omega) c.1
    have hcl : (nI k).toNatClampNeg = k := nI_clamp (by omega)
    rw [hcl] at c
    obtain ⟨hk1, hv⟩ := hc.2.2.2.2.2 k hk
    have hv8 := hv.2.2.2.2.2.2.2.1
    have k85 := hk1.1.2.2.1
    have i1 : ∀ a b, a < 85 → zu2 I (nFi D k) 4 1 a b = I a b := fun a b q => zu2_n (by omega)
    refine zRuns_mono (c_close_ok hG J hc k hk (by rw [hv8]; exact c.2)) ?_
    rintro r σ1 ⟨rfl, rfl⟩
    refine ⟨⟨_, rfl⟩, rfl, zRuns_mono (c_X11_close hG D _ J (nI k) (by rw [i1 51 24 (by decide)]; omega) (by rw [i1 51 24 (by decide)]; omega)) ?_⟩
    intro r2 σ2 hp
    rw [i1 51 24 (by decide), hcl, i1 71 k (by decide), hnf.2.1] at hp
    obtain ⟨rfl, rfl⟩ := hp.1 c
    refine ⟨rfl, D, _, J, n, nf, nn, nt, td, ts, rfl, ?_⟩
    have ex : ∀ a b, ¬ (a = nFi D k ∧ b = 4) → ¬ (a = 51 ∧ b = 2) → ¬ (a = 71 ∧ b = k) → zu2 (zu2 (zu2 I (nFi D k) 4 1) 51 2 0) 71 k 1 a b = I a b := fun a b x y z => by rw [zu2_n z, zu2_n y, zu2_n x]
    have e1 : zu2 (zu2 (zu2 I (nFi D k) 4 1) 51 2 0) 71 k 1 71 k = 1 := zu2_s
    have e2 : zu2 (zu2 (zu2 I (nFi D k) 4 1) 51 2 0) 71 k 1 (nFi D k) 4 = 1 := by rw [zu2_a (by omega), zu2_a (by omega), zu2_s]
    generalize zu2 (zu2 (zu2 I (nFi D k) 4 1) 51 2 0) 71 k 1 = I' at *
    have hk7 := hk1.1.2.1
    have ek : ∀ a b x, kF D.1 a = x → x ≠ 1 → x ≠ 11 → x ≠ 15 → I' a b = I a b := fun a b x q1 q2 q3 q4 => ex a b (fun e => kne q1 hk7 q2 e.1) (fun e => kne (b := 51) q1 rfl q3 e.1) (fun e => kne (b := 71) q1 rfl q4 e.1)
    have er : ∀ a b, kF D.1 a = 13 → 85 ≤ a → I' a b = I a b := fun a b q1 q2 => ex a b (fun e => kne q1 hk7 (by decide) e.1) (by omega) (by omega)
    refine cAll_r ⟨cS_r (fun a b q => ex a b (by omega) (by omega) (by omega)) hc.1, fun j hj => ?_, fun i hi => ?_, fun i hi w hw => ?_, fun j hj => ?_, fun f hf => ?_⟩ h.2.1 h.2.2.1 (fun a b q => by unfold uB at q; exact ex a b (by omega) (by omega) (by omega)) (fun b => ⟨rfl, rfl⟩) ⟨h.2.2.2.2.2.2.1, cKn_fr (fun b => ex 63 b (by omega) (by omega) (by omega)) h.2.2.2.2.2.2.2⟩ h
    · obtain ⟨q1, q2⟩ := hc.2.1 j hj
      exact ⟨q1, pT2 (fun b => ek _ b 7 q1.2.1 (by decide) (by decide) (by decide)) (fun b => er (nRw D j) b q1.2.2.2.1 q1.2.2.2.2.2.2.2.1) (fun a b q1 q2 => ex a b (by omega) (by omega) (by omega)) (ex 55 j (by omega) (by omega) (by omega)) (fun a b q1 q2 => ex a b (by omega) (by omega) (by omega)) (by have := hc.1.2.2.2.1.1; omega) q2⟩
    · obtain ⟨q1, q2, q3⟩ := hc.2.2.1 i hi
      rw [ek _ 0 0 q1.2.1 (by decide) (by decide) (by decide), ek _ 1 0 q1.2.1 (by decide) (by decide) (by decide), ex 61 i (by omega) (by omega) (by omega), ex 62 i (by omega) (by omega) (by omega)]
      exact ⟨q1, q2, q3⟩
    · exact pN2 (fun p q b => ek p b 3 q (by decide) (by decide) (by decide)) (fun a b q1 q2 => ex a b (by omega) (by omega) (by omega)) (hc.2.2.2.1 i hi w hw)
    · rw [ex 65 j (by omega) (by omega) (by omega), ex 67 j (by omega) (by omega) (by omega)]; exact hc.2.2.2.2.1 j hj
    · obtain ⟨q1, q2⟩ := hc.2.2.2.2.2 f hf
      refine ⟨q1, ?_⟩
      have q85 := q1.1.2.2.1
      by_cases e : f = k
      · subst e
        obtain ⟨v1, v2, v3, v4, v5, v6, ⟨j, j1, j2, j3, j4⟩, v8, v9⟩ := q2
        unfold vFi
        rw [ex (nFi D f) 0 (by omega) (by omega) (by omega), ex (nFi D f) 1 (by omega) (by omega) (by omega), ex (nFi D f) 2 (by omega) (by omega) (by omega), ex (nFi D f) 3 (by omega) (by omega) (by omega), ex 68 f (by omega) (by omega) (by omega), ex 69 f (by omega) (by omega) (by omega), ex 70 f (by omega) (by omega) (by omega), e1, e2]
        refine ⟨v1, v2, v3, v4, v5, v6, ⟨j, j1, j2, fun e i hi => ?_, fun i hi => ?_⟩, rfl, fun i hi => ?_⟩
        · rw [ex 73 _ (by omega) (by omega) (by omega)]; exact j3 e i hi
        · rw [er _ _ q1.2.1.2.1 q1.2.1.2.2.2.1, ex 72 _ (by omega) (by omega) (by omega)]; exact j4 i hi
        · rw [er _ _ q1.2.2.1.2.1 q1.2.2.1.2.2.2.1, ex 73 _ (by omega) (by omega) (by omega)]; exact v9 i hi
      · have hne : nFi D f ≠ nFi D k := ne_of_mono h.2.1.2.2.2.1 hf hk e
        exact pFi2 (fun b => ex _ b (by omega) (by omega) (by omega)) (fun a x y => ex a f (by omega) (by omega) (by omega)) (fun i hi => ⟨er _ _ q1.2.1.2.1 q1.2.1.2.2.2.1, ex 72 _ (by omega) (by omega) (by omega)⟩) (fun i hi => ⟨er _ _ q1.2.2.1.2.1 q1.2.2.1.2.2.2.1, ex 73 _ (by omega) (by omega) (by omega)⟩) q2
  · refine zRuns_mono (c_close_no hG J hc t (fun q => c ⟨q.1, ?_⟩)) ?_
    · obtain ⟨k, hk, rfl⟩ := ix_ok (by omega) q.1
      have q2 := q.2
      rw [nI_clamp (by omega)] at q2 ⊢
      rw [← (hc.2.2.2.2.2 k hk).2.2.2.2.2.2.2.2.1]; exact q2
    rintro r σ1 ⟨rfl, rfl⟩
    refine ⟨⟨_, rfl⟩, rfl, zRuns_mono (c_X11_close hG D I J t (by omega) (by omega)) ?_⟩
    intro r2 σ2 hp
    rw [hnf.2.1] at hp
    obtain ⟨rfl, rfl⟩ := hp.2 c
    exact ⟨rfl, D, _, J, n, nf, nn, nt, td, ts, rfl, cAll_th h⟩
set_option maxRecDepth 100000 in
set_option maxHeartbeats 4000000 in
theorem m_say_ok (hG : zOK l G) (D : zD) (I : Nat → Nat → Int32) (J : Nat → Nat → Int64) (f k c h : Int32) (h1 : 0 ≤ (I 51 24).toInt) (h2 : (I 51 24).toInt ≤ 12) (h3' : (I 70 f.toNatClampNeg).toInt ≤ 3) : zRuns l G mX11_say [.ref 51, .int f, .int k, .int c, .int h] (zst D I J) (fun r σ' => (((0 ≤ f ∧ f < I 51 24) ∧ (0 ≤ k ∧ k < I 70 f.toNatClampNeg) ∧ (0 ≤ c ∧ c ≤ 3) ∧ (0 ≤ h ∧ h ≤ 100) ∧ I 71 f.toNatClampNeg = 0) → r = some (.int 1) ∧ σ' = zst D (zu2 (zu2 I 51 2 0) 73 (12 * f + 4 * k + c).toNatClampNeg h) J) ∧ (¬ ((0 ≤ f ∧ f < I 51 24) ∧ (0 ≤ k ∧ k < I 70 f.toNatClampNeg) ∧ (0 ≤ c ∧ c ≤ 3) ∧ (0 ≤ h ∧ h ≤ 100) ∧ I 71 f.toNatClampNeg = 0) → r = some (.int 0) ∧ σ' = zst D (zu2 I 51 2 0) J)) := by
  refine z_en hG wX11_say qX11_say [] 80 rfl rfl ?_
  repeat first | refine And.intro (by first | rfl | assumption | exact ⟨rfl, rfl⟩ | decide +kernel | (with_reducible first | (refine za12_13 ?_; assumption) | (refine za12_14 ?_; assumption) | (refine za12_16 ?_; assumption) | (refine za12_17 ?_; assumption) | (refine za12_18 ?_; assumption) | (refine za12_19 ?_; assumption) | (refine za16_16 ?_; assumption) | (refine za16_17 ?_; assumption) | (refine za16_18 ?_; assumption) | (refine za16_19 ?_; assumption)) | exact ⟨_, rfl⟩ | with_reducible exact zisr_rf _ | with_reducible exact zisr_null | (with_reducible refine zvn ?_; simp (disch := omega) only [nF_35, nF_36, nF_38, nF_39, nF_40, nF_42, nF_44, nF_45, nF_46, nF_48, nF_49, nF_50, nF_52, nF_53, nF_54, nF_55, nF_56, nF_57, nF_58, nF_59, nF_60, nF_61, nF_62, nF_63, nF_64, nF_65, nF_66, nF_67, nF_68, nF_69, nF_70, nF_71, nF_72, nF_73, nF_74, nF_75, nF_76, nF_77, nF_78, nF_79, nF_80, nF_81, nF_82, nF_83, nF_84, zk_i_0, zk_i_1, zk_i_2, zk_i_3, zk_i_4, zk_i_5, zk_i_6, zk_b_6, zk_b_7, zk_b_8, zk_b_9, zk_b_10, zk_b_11, zk_b_12, zk_b_13, zk_b_14, zk_b_15, zk_b_16, zk_b_17, zk_b_18, zk_b_19, zk_b_20, zk_b_21, zk_b_22, zk_b_23, zk_b_24, zk_b_25, zk_b_26, zk_b_27, zk_b_28, zk_b_29, zk_b_30, zk_b_31, zk_b_32, zk_b_33, zk_b_34, zk_b_35, zk_b_36, zk_b_37, zk_b_38, zk_b_39, zk_b_40, zk_b_41, zk_b_42, zk_b_43, zk_b_44, zk_b_45, zk_b_46, zk_b_47, zk_b_48, zk_b_49, zk_b_50, zk_b_51, zk_b_52, zk_b_53, zk_b_54, zk_b_55, zk_b_56, zk_b_57, zk_b_58, zk_b_59, zk_b_60, zk_b_61, zk_b_62, zk_b_63, zk_b_64, zk_b_65, zk_b_66, zk_b_67, zk_b_97, zk_b_98, zk_b_99, zk_b_100, zk_b_101, zk_b_104, zk_b_108, zk_b_110, zk_b_111, zk_b_114, zk_b_115, zk_b_116, zk_b_117, zk_b_118, zk_b_119, zk_b_121, zk_b_122, zk_s_144, zk_s_180, zk_s_198, zk_s_200, zk_s_255, zk_s_480, zk_s_528, zk_s_719, zk_s_720, zk_s_1000, zk_s_1001, zk_s_10000, zk_s_12345, zk_s_32767, nI_add, pk_mul, pk_sub, pk_div]; exact vp_in_nI (by omega) (by omega)) | (with_reducible refine vp_in_iff.mpr ?_; simp [zst, zu2, ← Int32.toInt_inj, Int32.lt_iff_toInt_lt, Int32.le_iff_toInt_le, nF_35, nF_36, nF_38, nF_39, nF_40, nF_42, nF_44, nF_45, nF_46, nF_48, nF_49, nF_50, nF_52, nF_53, nF_54, nF_55, nF_56, nF_57, nF_58, nF_59, nF_60, nF_61, nF_62, nF_63, nF_64, nF_65, nF_66, nF_67, nF_68, nF_69, nF_70, nF_71, nF_72, nF_73, nF_74, nF_75, nF_76, nF_77, nF_78, nF_79, nF_80, nF_81, nF_82, nF_83, nF_84, nIl_0, nIl_1, nIl_2, nIl_3, nIl_4, nIl_5, nIl_6, nIl_7, nIl_8, nIl_9, nIl_10, nIl_11, nIl_12, nIl_13, nIl_14, nIl_15, nIl_16, nIl_17, nIl_18, nIl_19, nIl_20, nIl_21, nIl_22, nIl_23, nIl_24, nIl_25, nIl_26, nIl_27, nIl_28, nIl_29, nIl_30, nIl_31, nIl_32, nIl_33, nIl_34, nIl_35, nIl_36, nIl_37, nIl_38, nIl_39, nIl_40, nIl_41, nIl_42, nIl_43, nIl_44, nIl_45, nIl_46, nIl_47, nIl_48, nIl_49, nIl_50, nIl_51, nIl_52, nIl_53, nIl_54, nIl_55, nIl_56, nIl_57, nIl_58, nIl_59, nIl_60, nIl_61, nIl_62, nIl_63, nIl_64, nIl_65, nIl_66, nIl_67, nIl_97, nIl_98, nIl_99, nIl_100, nIl_101, nIl_104, nIl_108, nIl_110, nIl_111, nIl_114, nIl_115, nIl_116, nIl_117, nIl_118, nIl_119, nIl_121, nIl_122, nIl_144, nIl_180, nIl_198, nIl_200, nIl_255, nIl_480, nIl_528, nIl_719, nIl_720, nIl_1000, nIl_1001, nIl_10000, nIl_12345, nIl_32767] at *; first | omega | (simp (disch := omega) only [zbm]; omega)) | (with_reducible refine zvn ?_; simp (disch := omega) only [zk_i_0, zk_i_1, zk_i_2, zk_i_3, zk_i_4, zk_i_5, zk_i_6, zk_b_6, zk_b_7, zk_b_8, zk_b_9, zk_b_10, zk_b_11, zk_b_12, zk_b_13, zk_b_14, zk_b_15, zk_b_16, zk_b_17, zk_b_18, zk_b_19, zk_b_20, zk_b_21, zk_b_22, zk_b_23, zk_b_24, zk_b_25, zk_b_26, zk_b_27, zk_b_28, zk_b_29, zk_b_30, zk_b_31, zk_b_32, zk_b_33, zk_b_34, zk_b_35, zk_b_36, zk_b_37, zk_b_38, zk_b_39, zk_b_40, zk_b_41, zk_b_42, zk_b_43, zk_b_44, zk_b_45, zk_b_46, zk_b_47, zk_b_48, zk_b_49, zk_b_50, zk_b_51, zk_b_52, zk_b_53, zk_b_54, zk_b_55, zk_b_56, zk_b_57, zk_b_58, zk_b_59, zk_b_60, zk_b_61, zk_b_62, zk_b_63, zk_b_64, zk_b_65, zk_b_66, zk_b_67, zk_b_97, zk_b_98, zk_b_99, zk_b_100, zk_b_101, zk_b_104, zk_b_108, zk_b_110, zk_b_111, zk_b_114, zk_b_115, zk_b_116, zk_b_117, zk_b_118, zk_b_119, zk_b_121, zk_b_122, zk_s_144, zk_s_180, zk_s_198, zk_s_200, zk_s_255, zk_s_480, zk_s_528, zk_s_719, zk_s_720, zk_s_1000, zk_s_1001, zk_s_10000, zk_s_12345, zk_s_32767, nI_leI, nI_ltI, nI_eq] at *; simp (disch := omega) only [nF_35, nF_36, nF_38, nF_39, nF_40, nF_42, nF_44, nF_45, nF_46, nF_48, nF_49, nF_50, nF_52, nF_53, nF_54, nF_55, nF_56, nF_57, nF_58, nF_59, nF_60, nF_61, nF_62, nF_63, nF_64, nF_65, nF_66, nF_67, nF_68, nF_69, nF_70, nF_71, nF_72, nF_73, nF_74, nF_75, nF_76, nF_77, nF_78, nF_79, nF_80, nF_81, nF_82, nF_83, nF_84, zk_i_0, zk_i_1, zk_i_2, zk_i_3, zk_i_4, zk_i_5, zk_i_6, zk_b_6, zk_b_7, zk_b_8, zk_b_9, zk_b_10, zk_b_11, zk_b_12, zk_b_13, zk_b_14, zk_b_15, zk_b_16, zk_b_17, zk_b_18, zk_b_19, zk_b_20, zk_b_21, zk_b_22, zk_b_23, zk_b_24, zk_b_25, zk_b_26, zk_b_27, zk_b_28, zk_b_29, zk_b_30, zk_b_31, zk_b_32, zk_b_33, zk_b_34, zk_b_35, zk_b_36, zk_b_37, zk_b_38, zk_b_39, zk_b_40, zk_b_41, zk_b_42, zk_b_43, zk_b_44, zk_b_45, zk_b_46, zk_b_47, zk_b_48, zk_b_49, zk_b_50, zk_b_51, zk_b_52, zk_b_53, zk_b_54, zk_b_55, zk_b_56, zk_b_57, zk_b_58, zk_b_59, zk_b_60, zk_b_61, zk_b_62, zk_b_63, zk_b_64, zk_b_65, zk_b_66, zk_b_67, zk_b_97, zk_b_98, zk_b_99, zk_b_100, zk_b_101, zk_b_104, zk_b_108, zk_b_110, zk_b_111, zk_b_114, zk_b_115, zk_b_116, zk_b_117, zk_b_118, zk_b_119, zk_b_121, zk_b_122, zk_s_144, zk_s_180, zk_s_198, zk_s_200, zk_s_255, zk_s_480, zk_s_528, zk_s_719, zk_s_720, zk_s_1000, zk_s_1001, zk_s_10000, zk_s_12345, zk_s_32767, nI_add, pk_mul, pk_sub, pk_div]; exact vp_in_nI (by omega) (by omega))) ?_ | refine Exists.intro _ (And.intro (by first | assumption | rfl) ?_) | refine Exists.intro true (And.intro (by rfl) ?_) | refine Exists.intro false (And.intro (by rfl) ?_) | fail
  refine z_callV (c_X11_isFire hG D _ J f) rfl (zat wX11_say rfl) ml_11_223 zm_X11_isFire zi_X11_isFire zse_X11_isFire (rfl) (Nat.le_of_ble_eq_true rfl) rfl (Nat.le_of_ble_eq_true rfl) (Nat.le_of_ble_eq_true rfl) (Nat.le_of_ble_eq_true rfl) (Nat.le_of_ble_eq_true rfl) (Nat.le_of_ble_eq_true rfl) ?_
  rintro r σ' ⟨rfl, rfl⟩
  refine z_run wX11_say [] 80 ?_
  repeat' first | refine And.intro (by first | rfl | assumption | exact ⟨rfl, rfl⟩ | decide +kernel | (with_reducible first | (refine za12_13 ?_; assumption) | (refine za12_14 ?_; assumption) | (refine za12_16 ?_; assumption) | (refine za12_17 ?_; assumption) | (refine za12_18 ?_; assumption) | (refine za12_19 ?_; assumption) | (refine za16_16 ?_; assumption) | (refine za16_17 ?_; assumption) | (refine za16_18 ?_; assumption) | (refine za16_19 ?_; assumption)) | exact ⟨_, rfl⟩ | with_reducible exact zisr_rf _ | with_reducible exact zisr_null | (with_reducible refine zvn ?_; simp (disch := omega) only [nF_35, nF_36, nF_38, nF_39, nF_40, nF_42, nF_44, nF_45, nF_46, nF_48, nF_49, nF_50, nF_52, nF_53, nF_54, nF_55, nF_56, nF_57, nF_58, nF_59, nF_60, nF_61, nF_62, nF_63, nF_64, nF_65, nF_66, nF_67, nF_68, nF_69, nF_70, nF_71, nF_72, nF_73, nF_74, nF_75, nF_76, nF_77, nF_78, nF_79, nF_80, nF_81, nF_82, nF_83, nF_84, zk_i_0, zk_i_1, zk_i_2, zk_i_3, zk_i_4, zk_i_5, zk_i_6, zk_b_6, zk_b_7, zk_b_8, zk_b_9, zk_b_10, zk_b_11, zk_b_12, zk_b_13, zk_b_14, zk_b_15, zk_b_16, zk_b_17, zk_b_18, zk_b_19, zk_b_20, zk_b_21, zk_b_22, zk_b_23, zk_b_24, zk_b_25, zk_b_26, zk_b_27, zk_b_28, zk_b_29, zk_b_30, zk_b_31, zk_b_32, zk_b_33, zk_b_34, zk_b_35, zk_b_36, zk_b_37, zk_b_38, zk_b_39, zk_b_40, zk_b_41, zk_b_42, zk_b_43, zk_b_44, zk_b_45, zk_b_46, zk_b_47, zk_b_48, zk_b_49, zk_b_50, zk_b_51, zk_b_52, zk_b_53, zk_b_54, zk_b_55, zk_b_56, zk_b_57, zk_b_58, zk_b_59, zk_b_60, zk_b_61, zk_b_62, zk_b_63, zk_b_64, zk_b_65, zk_b_66, zk_b_67, zk_b_97, zk_b_98, zk_b_99, zk_b_100, zk_b_101, zk_b_104, zk_b_108, zk_b_110, zk_b_111, zk_b_114, zk_b_115, zk_b_116, zk_b_117, zk_b_118, zk_b_119, zk_b_121, zk_b_122, zk_s_144, zk_s_180, zk_s_198, zk_s_200, zk_s_255, zk_s_480, zk_s_528, zk_s_719, zk_s_720, zk_s_1000, zk_s_1001, zk_s_10000, zk_s_12345, zk_s_32767, nI_add, pk_mul, pk_sub, pk_div]; exact vp_in_nI (by omega) (by omega)) | (with_reducible refine vp_in_iff.mpr ?_; simp [zst, zu2, ← Int32.toInt_inj, Int32.lt_iff_toInt_lt, Int32.le_iff_toInt_le, nF_35, nF_36, nF_38, nF_39, nF_40, nF_42, nF_44, nF_45, nF_46, nF_48, nF_49, nF_50, nF_52, nF_53, nF_54, nF_55, nF_56, nF_57, nF_58, nF_59, nF_60, nF_61, nF_62, nF_63, nF_64, nF_65, nF_66, nF_67, nF_68, nF_69, nF_70, nF_71, nF_72, nF_73, nF_74, nF_75, nF_76, nF_77, nF_78, nF_79, nF_80, nF_81, nF_82, nF_83, nF_84, nIl_0, nIl_1, nIl_2, nIl_3, nIl_4, nIl_5, nIl_6, nIl_7, nIl_8, nIl_9, nIl_10, nIl_11, nIl_12, nIl_13, nIl_14, nIl_15, nIl_16, nIl_17, nIl_18, nIl_19, nIl_20, nIl_21, nIl_22, nIl_23, nIl_24, nIl_25, nIl_26, nIl_27, nIl_28, nIl_29, nIl_30, nIl_31, nIl_32, nIl_33, nIl_34, nIl_35, nIl_36, nIl_37, nIl_38, nIl_39, nIl_40, nIl_41, nIl_42, nIl_43, nIl_44, nIl_45, nIl_46, nIl_47, nIl_48, nIl_49, nIl_50, nIl_51, nIl_52, nIl_53, nIl_54, nIl_55, nIl_56, nIl_57, nIl_58, nIl_59, nIl_60, nIl_61, nIl_62, nIl_63, nIl_64, nIl_65, nIl_66, nIl_67, nIl_97, nIl_98, nIl_99, nIl_100, nIl_101, nIl_104, nIl_108, nIl_110, nIl_111, nIl_114, nIl_115, nIl_116, nIl_117, nIl_118, nIl_119, nIl_121, nIl_122, nIl_144, nIl_180, nIl_198, nIl_200, nIl_255, nIl_480, nIl_528, nIl_719, nIl_720, nIl_1000, nIl_1001, nIl_10000, nIl_12345, nIl_32767] at *; first | omega | (simp (disch := omega) only [zbm]; omega)) | (with_reducible refine zvn ?_; simp (disch := omega) only [zk_i_0, zk_i_1, zk_i_2, zk_i_3, zk_i_4, zk_i_5, zk_i_6, zk_b_6, zk_b_7, zk_b_8, zk_b_9, zk_b_10, zk_b_11, zk_b_12, zk_b_13, zk_b_14, zk_b_15, zk_b_16, zk_b_17, zk_b_18, zk_b_19, zk_b_20, zk_b_21, zk_b_22, zk_b_23, zk_b_24, zk_b_25, zk_b_26, zk_b_27, zk_b_28, zk_b_29, zk_b_30, zk_b_31, zk_b_32, zk_b_33, zk_b_34, zk_b_35, zk_b_36, zk_b_37, zk_b_38, zk_b_39, zk_b_40, zk_b_41, zk_b_42, zk_b_43, zk_b_44, zk_b_45, zk_b_46, zk_b_47, zk_b_48, zk_b_49, zk_b_50, zk_b_51, zk_b_52, zk_b_53, zk_b_54, zk_b_55, zk_b_56, zk_b_57, zk_b_58, zk_b_59, zk_b_60, zk_b_61, zk_b_62, zk_b_63, zk_b_64, zk_b_65, zk_b_66, zk_b_67, zk_b_97, zk_b_98, zk_b_99, zk_b_100, zk_b_101, zk_b_104, zk_b_108, zk_b_110, zk_b_111, zk_b_114, zk_b_115, zk_b_116, zk_b_117, zk_b_118, zk_b_119, zk_b_121, zk_b_122, zk_s_144, zk_s_180, zk_s_198, zk_s_200, zk_s_255, zk_s_480, zk_s_528, zk_s_719, zk_s_720, zk_s_1000, zk_s_1001, zk_s_10000, zk_s_12345, zk_s_32767, nI_leI, nI_ltI, nI_eq] at *; simp (disch := omega) only [nF_35, nF_36, nF_38, nF_39, nF_40, nF_42, nF_44, nF_45, nF_46, nF_48, nF_49, nF_50, nF_52, nF_53, nF_54, nF_55, nF_56, nF_57, nF_58, nF_59, nF_60, nF_61, nF_62, nF_63, nF_64, nF_65, nF_66, nF_67, nF_68, nF_69, nF_70, nF_71, nF_72, nF_73, nF_74, nF_75, nF_76, nF_77, nF_78, nF_79, nF_80, nF_81, nF_82, nF_83, nF_84, zk_i_0, zk_i_1, zk_i_2, zk_i_3, zk_i_4, zk_i_5, zk_i_6, zk_b_6, zk_b_7, zk_b_8, zk_b_9, zk_b_10, zk_b_11, zk_b_12, zk_b_13, zk_b_14, zk_b_15, zk_b_16, zk_b_17, zk_b_18, zk_b_19, zk_b_20, zk_b_21, zk_b_22, zk_b_23, zk_b_24, zk_b_25, zk_b_26, zk_b_27, zk_b_28, zk_b_29, zk_b_30, zk_b_31, zk_b_32, zk_b_33, zk_b_34, zk_b_35, zk_b_36, zk_b_37, zk_b_38, zk_b_39, zk_b_40, zk_b_41, zk_b_42, zk_b_43, zk_b_44, zk_b_45, zk_b_46, zk_b_47, zk_b_48, zk_b_49, zk_b_50, zk_b_51, zk_b_52, zk_b_53, zk_b_54, zk_b_55, zk_b_56, zk_b_57, zk_b_58, zk_b_59, zk_b_60, zk_b_61, zk_b_62, zk_b_63, zk_b_64, zk_b_65, zk_b_66, zk_b_67, zk_b_97, zk_b_98, zk_b_99, zk_b_100, zk_b_101, zk_b_104, zk_b_108, zk_b_110, zk_b_111, zk_b_114, zk_b_115, zk_b_116, zk_b_117, zk_b_118, zk_b_119, zk_b_121, zk_b_122, zk_s_144, zk_s_180, zk_s_198, zk_s_200, zk_s_255, zk_s_480, zk_s_528, zk_s_719, zk_s_720, zk_s_1000, zk_s_1001, zk_s_10000, zk_s_12345, zk_s_32767, nI_add, pk_mul, pk_sub, pk_div]; exact vp_in_nI (by omega) (by omega))) ?_ | refine Exists.intro _ (And.intro (by first | assumption | rfl) ?_) | refine Exists.intro true (And.intro (by rfl) ?_) | refine Exists.intro false (And.intro (by rfl) ?_) | refine And.intro (fun h => absurd h (by decide +kernel)) (fun _ => ?_) | refine And.intro (fun _ => ?_) (fun h => absurd h (by decide +kernel)) | refine And.intro (fun _ => ?_) (fun _ => ?_) | refine And.intro (fun _ => (?_ : True → _) trivial) (by first | exact Or.inl rfl | exact Or.inr rfl) | fail
  any_goals (intro _; (refine And.intro (fun hc => ?_) (fun hc => ?_) <;> first | exact ⟨rfl, rfl⟩ | (exfalso; simp [zst, zu2, ← Int32.toInt_inj, Int32.lt_iff_toInt_lt, Int32.le_iff_toInt_le, nF_35, nF_36, nF_38, nF_39, nF_40, nF_42, nF_44, nF_45, nF_46, nF_48, nF_49, nF_50, nF_52, nF_53, nF_54, nF_55, nF_56, nF_57, nF_58, nF_59, nF_60, nF_61, nF_62, nF_63, nF_64, nF_65, nF_66, nF_67, nF_68, nF_69, nF_70, nF_71, nF_72, nF_73, nF_74, nF_75, nF_76, nF_77, nF_78, nF_79, nF_80, nF_81, nF_82, nF_83, nF_84, nIl_0, nIl_1, nIl_2, nIl_3, nIl_4, nIl_5, nIl_6, nIl_7, nIl_8, nIl_9, nIl_10, nIl_11, nIl_12, nIl_13, nIl_14, nIl_15, nIl_16, nIl_17, nIl_18, nIl_19, nIl_20, nIl_21, nIl_22, nIl_23, nIl_24, nIl_25, nIl_26, nIl_27, nIl_28, nIl_29, nIl_30, nIl_31, nIl_32, nIl_33, nIl_34, nIl_35, nIl_36, nIl_37, nIl_38, nIl_39, nIl_40, nIl_41, nIl_42, nIl_43, nIl_44, nIl_45, nIl_46, nIl_47, nIl_48, nIl_49, nIl_50, nIl_51, nIl_52, nIl_53, nIl_54, nIl_55, nIl_56, nIl_57, nIl_58, nIl_59, nIl_60, nIl_61, nIl_62, nIl_63, nIl_64, nIl_65, nIl_66, nIl_67, nIl_97, nIl_98, nIl_99, nIl_100, nIl_101, nIl_104, nIl_108, nIl_110, nIl_111, nIl_114, nIl_115, nIl_116, nIl_117, nIl_118, nIl_119, nIl_121, nIl_122, nIl_144, nIl_180, nIl_198, nIl_200, nIl_255, nIl_480, nIl_528, nIl_719, nIl_720, nIl_1000, nIl_1001, nIl_10000, nIl_12345, nIl_32767] at *; omega)))
set_option maxRecDepth 100000 in
set_option maxHeartbeats 4000000 in
theorem m_say_no (hG : zOK l G) (D : zD) (I : Nat → Nat → Int32) (J : Nat → Nat → Int64) (f k c h : Int32) (hno : ¬ (0 ≤ f ∧ f < I 51 24)) : zRuns l G mX11_say [.ref 51, .int f, .int k, .int c, .int h] (zst D I J) (fun r σ' => r = some (.int 0) ∧ σ' = zst D (zu2 I 51 2 0) J) := by
  refine z_en hG wX11_say qX11_say [] 80 rfl rfl ?_
  repeat first | refine And.intro (by first | rfl | assumption | exact ⟨rfl, rfl⟩ | decide +kernel | (with_reducible first | (refine za12_13 ?_; assumption) | (refine za12_14 ?_; assumption) | (refine za12_16 ?_; assumption) | (refine za12_17 ?_; assumption) | (refine za12_18 ?_; assumption) | (refine za12_19 ?_; assumption) | (refine za16_16 ?_; assumption) | (refine za16_17 ?_; assumption) | (refine za16_18 ?_; assumption) | (refine za16_19 ?_; assumption)) | exact ⟨_, rfl⟩ | with_reducible exact zisr_rf _ | with_reducible exact zisr_null | (with_reducible refine zvn ?_; simp (disch := omega) only [nF_35, nF_36, nF_38, nF_39, nF_40, nF_42, nF_44, nF_45, nF_46, nF_48, nF_49, nF_50, nF_52, nF_53, nF_54, nF_55, nF_56, nF_57, nF_58, nF_59, nF_60, nF_61, nF_62, nF_63, nF_64, nF_65, nF_66, nF_67, nF_68, nF_69, nF_70, nF_71, nF_72, nF_73, nF_74, nF_75, nF_76, nF_77, nF_78, nF_79, nF_80, nF_81, nF_82, nF_83, nF_84, zk_i_0, zk_i_1, zk_i_2, zk_i_3, zk_i_4, zk_i_5, zk_i_6, zk_b_6, zk_b_7, zk_b_8, zk_b_9, zk_b_10, zk_b_11, zk_b_12, zk_b_13, zk_b_14, zk_b_15, zk_b_16, zk_b_17, zk_b_18, zk_b_19, zk_b_20, zk_b_21, zk_b_22, zk_b_23, zk_b_24, zk_b_25, zk_b_26, zk_b_27, zk_b_28, zk_b_29, zk_b_30, zk_b_31, zk_b_32, zk_b_33, zk_b_34, zk_b_35, zk_b_36, zk_b_37, zk_b_38, zk_b_39, zk_b_40, zk_b_41, zk_b_42, zk_b_43, zk_b_44, zk_b_45, zk_b_46, zk_b_47, zk_b_48, zk_b_49, zk_b_50, zk_b_51, zk_b_52, zk_b_53, zk_b_54, zk_b_55, zk_b_56, zk_b_57, zk_b_58, zk_b_59, zk_b_60, zk_b_61, zk_b_62, zk_b_63, zk_b_64, zk_b_65, zk_b_66, zk_b_67, zk_b_97, zk_b_98, zk_b_99, zk_b_100, zk_b_101, zk_b_104, zk_b_108, zk_b_110, zk_b_111, zk_b_114, zk_b_115, zk_b_116, zk_b_117, zk_b_118, zk_b_119, zk_b_121, zk_b_122, zk_s_144, zk_s_180, zk_s_198, zk_s_200, zk_s_255, zk_s_480, zk_s_528, zk_s_719, zk_s_720, zk_s_1000, zk_s_1001, zk_s_10000, zk_s_12345, zk_s_32767, nI_add, pk_mul, pk_sub, pk_div]; exact vp_in_nI (by omega) (by omega)) | (with_reducible refine vp_in_iff.mpr ?_; simp [zst, zu2, ← Int32.toInt_inj, Int32.lt_iff_toInt_lt, Int32.le_iff_toInt_le, nF_35, nF_36, nF_38, nF_39, nF_40, nF_42, nF_44, nF_45, nF_46, nF_48, nF_49, nF_50, nF_52, nF_53, nF_54, nF_55, nF_56, nF_57, nF_58, nF_59, nF_60, nF_61, nF_62, nF_63, nF_64, nF_65, nF_66, nF_67, nF_68, nF_69, nF_70, nF_71, nF_72, nF_73, nF_74, nF_75, nF_76, nF_77, nF_78, nF_79, nF_80, nF_81, nF_82, nF_83, nF_84, nIl_0, nIl_1, nIl_2, nIl_3, nIl_4, nIl_5, nIl_6, nIl_7, nIl_8, nIl_9, nIl_10, nIl_11, nIl_12, nIl_13, nIl_14, nIl_15, nIl_16, nIl_17, nIl_18, nIl_19, nIl_20, nIl_21, nIl_22, nIl_23, nIl_24, nIl_25, nIl_26, nIl_27, nIl_28, nIl_29, nIl_30, nIl_31, nIl_32, nIl_33, nIl_34, nIl_35, nIl_36, nIl_37, nIl_38, nIl_39, nIl_40, nIl_41, nIl_42, nIl_43, nIl_44, nIl_45, nIl_46, nIl_47, nIl_48, nIl_49, nIl_50, nIl_51, nIl_52, nIl_53, nIl_54, nIl_55, nIl_56, nIl_57, nIl_58, nIl_59, nIl_60, nIl_61, nIl_62, nIl_63, nIl_64, nIl_65, nIl_66, nIl_67, nIl_97, nIl_98, nIl_99, nIl_100, nIl_101, nIl_104, nIl_108, nIl_110, nIl_111, nIl_114, nIl_115, nIl_116, nIl_117, nIl_118, nIl_119, nIl_121, nIl_122, nIl_144, nIl_180, nIl_198, nIl_200, nIl_255, nIl_480, nIl_528, nIl_719, nIl_720, nIl_1000, nIl_1001, nIl_10000, nIl_12345, nIl_32767] at *; first | omega | (simp (disch := omega) only [zbm]; omega)) | (with_reducible refine zvn ?_; simp (disch := omega) only [zk_i_0, zk_i_1, zk_i_2, zk_i_3, zk_i_4, zk_i_5, zk_i_6, zk_b_6, zk_b_7, zk_b_8, zk_b_9, zk_b_10, zk_b_11, zk_b_12, zk_b_13, zk_b_14, zk_b_15, zk_b_16, zk_b_17, zk_b_18, zk_b_19, zk_b_20, zk_b_21, zk_b_22, zk_b_23, zk_b_24, zk_b_25, zk_b_26, zk_b_27, zk_b_28, zk_b_29, zk_b_30, zk_b_31, zk_b_32, zk_b_33, zk_b_34, zk_b_35, zk_b_36, zk_b_37, zk_b_38, zk_b_39, zk_b_40, zk_b_41, zk_b_42, zk_b_43, zk_b_44, zk_b_45, zk_b_46, zk_b_47, zk_b_48, zk_b_49, zk_b_50, zk_b_51, zk_b_52, zk_b_53, zk_b_54, zk_b_55, zk_b_56, zk_b_57, zk_b_58, zk_b_59, zk_b_60, zk_b_61, zk_b_62, zk_b_63, zk_b_64, zk_b_65, zk_b_66, zk_b_67, zk_b_97, zk_b_98, zk_b_99, zk_b_100, zk_b_101, zk_b_104, zk_b_108, zk_b_110, zk_b_111, zk_b_114, zk_b_115, zk_b_116, zk_b_117, zk_b_118, zk_b_119, zk_b_121, zk_b_122, zk_s_144, zk_s_180, zk_s_198, zk_s_200, zk_s_255, zk_s_480, zk_s_528, zk_s_719, zk_s_720, zk_s_1000, zk_s_1001, zk_s_10000, zk_s_12345, zk_s_32767, nI_leI, nI_ltI, nI_eq] at *; simp (disch := omega) only [nF_35, nF_36, nF_38, nF_39, nF_40, nF_42, nF_44, nF_45, nF_46, nF_48, nF_49, nF_50, nF_52, nF_53, nF_54, nF_55, nF_56, nF_57, nF_58, nF_59, nF_60, nF_61, nF_62, nF_63, nF_64, nF_65, nF_66, nF_67, nF_68, nF_69, nF_70, nF_71, nF_72, nF_73, nF_74, nF_75, nF_76, nF_77, nF_78, nF_79, nF_80, nF_81, nF_82, nF_83, nF_84, zk_i_0, zk_i_1, zk_i_2, zk_i_3, zk_i_4, zk_i_5, zk_i_6, zk_b_6, zk_b_7, zk_b_8, zk_b_9, zk_b_10, zk_b_11, zk_b_12, zk_b_13, zk_b_14, zk_b_15, zk_b_16, zk_b_17, zk_b_18, zk_b_19, zk_b_20, zk_b_21, zk_b_22, zk_b_23, zk_b_24, zk_b_25, zk_b_26, zk_b_27, zk_b_28, zk_b_29, zk_b_30, zk_b_31, zk_b_32, zk_b_33, zk_b_34, zk_b_35, zk_b_36, zk_b_37, zk_b_38, zk_b_39, zk_b_40, zk_b_41, zk_b_42, zk_b_43, zk_b_44, zk_b_45, zk_b_46, zk_b_47, zk_b_48, zk_b_49, zk_b_50, zk_b_51, zk_b_52, zk_b_53, zk_b_54, zk_b_55, zk_b_56, zk_b_57, zk_b_58, zk_b_59, zk_b_60, zk_b_61, zk_b_62, zk_b_63, zk_b_64, zk_b_65, zk_b_66, zk_b_67, zk_b_97, zk_b_98, zk_b_99, zk_b_100, zk_b_101, zk_b_104, zk_b_108, zk_b_110, zk_b_111, zk_b_114, zk_b_115, zk_b_116, zk_b_117, zk_b_118, zk_b_119, zk_b_121, zk_b_122, zk_s_144, zk_s_180, zk_s_198, zk_s_200, zk_s_255, zk_s_480, zk_s_528, zk_s_719, zk_s_720, zk_s_1000, zk_s_1001, zk_s_10000, zk_s_12345, zk_s_32767, nI_add, pk_mul, pk_sub, pk_div]; exact vp_in_nI (by omega) (by omega))) ?_ | refine Exists.intro _ (And.intro (by first | assumption | rfl) ?_) | refine Exists.intro true (And.intro (by rfl) ?_) | refine Exists.intro false (And.intro (by rfl) ?_) | fail
  refine z_callV (c_X11_isFire hG D _ J f) rfl (zat wX11_say rfl) ml_11_223 zm_X11_isFire zi_X11_isFire zse_X11_isFire (rfl) (Nat.le_of_ble_eq_true rfl) rfl (Nat.le_of_ble_eq_true rfl) (Nat.le_of_ble_eq_true rfl) (Nat.le_of_ble_eq_true rfl) (Nat.le_of_ble_eq_true rfl) (Nat.le_of_ble_eq_true rfl) ?_
  rintro r σ' ⟨rfl, rfl⟩
  rw [zu2_b (by decide), if_neg hno]
  refine z_run wX11_say [] 80 ?_
  repeat' first | refine And.intro (by first | rfl | assumption | exact ⟨rfl, rfl⟩ | decide +kernel | (with_reducible first | (refine za12_13 ?_; assumption) | (refine za12_14 ?_; assumption) | (refine za12_16 ?_; assumption) | (refine za12_17 ?_; assumption) | (refine za12_18 ?_; assumption) | (refine za12_19 ?_; assumption) | (refine za16_16 ?_; assumption) | (refine za16_17 ?_; assumption) | (refine za16_18 ?_; assumption) | (refine za16_19 ?_; assumption)) | exact ⟨_, rfl⟩ | with_reducible exact zisr_rf _ | with_reducible exact zisr_null | (with_reducible refine zvn ?_; simp (disch := omega) only [nF_35, nF_36, nF_38, nF_39, nF_40, nF_42, nF_44, nF_45, nF_46, nF_48, nF_49, nF_50, nF_52, nF_53, nF_54, nF_55, nF_56, nF_57, nF_58, nF_59, nF_60, nF_61, nF_62, nF_63, nF_64, nF_65, nF_66, nF_67, nF_68, nF_69, nF_70, nF_71, nF_72, nF_73, nF_74, nF_75, nF_76, nF_77, nF_78, nF_79, nF_80, nF_81, nF_82, nF_83, nF_84, zk_i_0, zk_i_1, zk_i_2, zk_i_3, zk_i_4, zk_i_5, zk_i_6, zk_b_6, zk_b_7, zk_b_8, zk_b_9, zk_b_10, zk_b_11, zk_b_12, zk_b_13, zk_b_14, zk_b_15, zk_b_16, zk_b_17, zk_b_18, zk_b_19, zk_b_20, zk_b_21, zk_b_22, zk_b_23, zk_b_24, zk_b_25, zk_b_26, zk_b_27, zk_b_28, zk_b_29, zk_b_30, zk_b_31, zk_b_32, zk_b_33, zk_b_34, zk_b_35, zk_b_36, zk_b_37, zk_b_38, zk_b_39, zk_b_40, zk_b_41, zk_b_42, zk_b_43, zk_b_44, zk_b_45, zk_b_46, zk_b_47, zk_b_48, zk_b_49, zk_b_50, zk_b_51, zk_b_52, zk_b_53, zk_b_54, zk_b_55, zk_b_56, zk_b_57, zk_b_58, zk_b_59, zk_b_60, zk_b_61, zk_b_62, zk_b_63, zk_b_64, zk_b_65, zk_b_66, zk_b_67, zk_b_97, zk_b_98, zk_b_99, zk_b_100, zk_b_101, zk_b_104, zk_b_108, zk_b_110, zk_b_111, zk_b_114, zk_b_115, zk_b_116, zk_b_117, zk_b_118, zk_b_119, zk_b_121, zk_b_122, zk_s_144, zk_s_180, zk_s_198, zk_s_200, zk_s_255, zk_s_480, zk_s_528, zk_s_719, zk_s_720, zk_s_1000, zk_s_1001, zk_s_10000, zk_s_12345, zk_s_32767, nI_add, pk_mul, pk_sub, pk_div]; exact vp_in_nI (by omega) (by omega)) | (with_reducible refine vp_in_iff.mpr ?_; simp [zst, zu2, ← Int32.toInt_inj, Int32.lt_iff_toInt_lt, Int32.le_iff_toInt_le, nF_35, nF_36, nF_38, nF_39, nF_40, nF_42, nF_44, nF_45, nF_46, nF_48, nF_49, nF_50, nF_52, nF_53, nF_54, nF_55, nF_56, nF_57, nF_58, nF_59, nF_60, nF_61, nF_62, nF_63, nF_64, nF_65, nF_66, nF_67, nF_68, nF_69, nF_70, nF_71, nF_72, nF_73, nF_74, nF_75, nF_76, nF_77, nF_78, nF_79, nF_80, nF_81, nF_82, nF_83, nF_84, nIl_0, nIl_1, nIl_2, nIl_3, nIl_4, nIl_5, nIl_6, nIl_7, nIl_8, nIl_9, nIl_10, nIl_11, nIl_12, nIl_13, nIl_14, nIl_15, nIl_16, nIl_17, nIl_18, nIl_19, nIl_20, nIl_21, nIl_22, nIl_23, nIl_24, nIl_25, nIl_26, nIl_27, nIl_28, nIl_29, nIl_30, nIl_31, nIl_32, nIl_33, nIl_34, nIl_35, nIl_36, nIl_37, nIl_38, nIl_39, nIl_40, nIl_41, nIl_42, nIl_43, nIl_44, nIl_45, nIl_46, nIl_47, nIl_48, nIl_49, nIl_50, nIl_51, nIl_52, nIl_53, nIl_54, nIl_55, nIl_56, nIl_57, nIl_58, nIl_59, nIl_60, nIl_61, nIl_62, nIl_63, nIl_64, nIl_65, nIl_66, nIl_67, nIl_97, nIl_98, nIl_99, nIl_100, nIl_101, nIl_104, nIl_108, nIl_110, nIl_111, nIl_114, nIl_115, nIl_116, nIl_117, nIl_118, nIl_119, nIl_121, nIl_122, nIl_144, nIl_180, nIl_198, nIl_200, nIl_255, nIl_480, nIl_528, nIl_719, nIl_720, nIl_1000, nIl_1001, nIl_10000, nIl_12345, nIl_32767] at *; first | omega | (simp (disch := omega) only [zbm]; omega)) | (with_reducible refine zvn ?_; simp (disch := omega) only [zk_i_0, zk_i_1, zk_i_2, zk_i_3, zk_i_4, zk_i_5, zk_i_6, zk_b_6, zk_b_7, zk_b_8, zk_b_9, zk_b_10, zk_b_11, zk_b_12, zk_b_13, zk_b_14, zk_b_15, zk_b_16, zk_b_17, zk_b_18, zk_b_19, zk_b_20, zk_b_21, zk_b_22, zk_b_23, zk_b_24, zk_b_25, zk_b_26, zk_b_27, zk_b_28, zk_b_29, zk_b_30, zk_b_31, zk_b_32, zk_b_33, zk_b_34, zk_b_35, zk_b_36, zk_b_37, zk_b_38, zk_b_39, zk_b_40, zk_b_41, zk_b_42, zk_b_43, zk_b_44, zk_b_45, zk_b_46, zk_b_47, zk_b_48, zk_b_49, zk_b_50, zk_b_51, zk_b_52, zk_b_53, zk_b_54, zk_b_55, zk_b_56, zk_b_57, zk_b_58, zk_b_59, zk_b_60, zk_b_61, zk_b_62, zk_b_63, zk_b_64, zk_b_65, zk_b_66, zk_b_67, zk_b_97, zk_b_98, zk_b_99, zk_b_100, zk_b_101, zk_b_104, zk_b_108, zk_b_110, zk_b_111, zk_b_114, zk_b_115, zk_b_116, zk_b_117, zk_b_118, zk_b_119, zk_b_121, zk_b_122, zk_s_144, zk_s_180, zk_s_198, zk_s_200, zk_s_255, zk_s_480, zk_s_528, zk_s_719, zk_s_720, zk_s_1000, zk_s_1001, zk_s_10000, zk_s_12345, zk_s_32767, nI_leI, nI_ltI, nI_eq] at *; simp (disch := omega) only [nF_35, nF_36, nF_38, nF_39, nF_40, nF_42, nF_44, nF_45, nF_46, nF_48, nF_49, nF_50, nF_52, nF_53, nF_54, nF_55, nF_56, nF_57, nF_58, nF_59, nF_60, nF_61, nF_62, nF_63, nF_64, nF_65, nF_66, nF_67, nF_68, nF_69, nF_70, nF_71, nF_72, nF_73, nF_74, nF_75, nF_76, nF_77, nF_78, nF_79, nF_80, nF_81, nF_82, nF_83, nF_84, zk_i_0, zk_i_1, zk_i_2, zk_i_3, zk_i_4, zk_i_5, zk_i_6, zk_b_6, zk_b_7, zk_b_8, zk_b_9, zk_b_10, zk_b_11, zk_b_12, zk_b_13, zk_b_14, zk_b_15, zk_b_16, zk_b_17, zk_b_18, zk_b_19, zk_b_20, zk_b_21, zk_b_22, zk_b_23, zk_b_24, zk_b_25, zk_b_26, zk_b_27, zk_b_28, zk_b_29, zk_b_30, zk_b_31, zk_b_32, zk_b_33, zk_b_34, zk_b_35, zk_b_36, zk_b_37, zk_b_38, zk_b_39, zk_b_40, zk_b_41, zk_b_42, zk_b_43, zk_b_44, zk_b_45, zk_b_46, zk_b_47, zk_b_48, zk_b_49, zk_b_50, zk_b_51, zk_b_52, zk_b_53, zk_b_54, zk_b_55, zk_b_56, zk_b_57, zk_b_58, zk_b_59, zk_b_60, zk_b_61, zk_b_62, zk_b_63, zk_b_64, zk_b_65, zk_b_66, zk_b_67, zk_b_97, zk_b_98, zk_b_99, zk_b_100, zk_b_101, zk_b_104, zk_b_108, zk_b_110, zk_b_111, zk_b_114, zk_b_115, zk_b_116, zk_b_117, zk_b_118, zk_b_119, zk_b_121, zk_b_122, zk_s_144, zk_s_180, zk_s_198, zk_s_200, zk_s_255, zk_s_480, zk_s_528, zk_s_719, zk_s_720, zk_s_1000, zk_s_1001, zk_s_10000, zk_s_12345, zk_s_32767, nI_add, pk_mul, pk_sub, pk_div]; exact vp_in_nI (by omega) (by omega))) ?_ | refine Exists.intro _ (And.intro (by first | assumption | rfl) ?_) | refine Exists.intro true (And.intro (by rfl) ?_) | refine Exists.intro false (And.intro (by rfl) ?_) | refine And.intro (fun h => absurd h (by decide +kernel)) (fun _ => ?_) | refine And.intro (fun _ => ?_) (fun h => absurd h (by decide +kernel)) | refine And.intro (fun _ => ?_) (fun _ => ?_) | refine And.intro (fun _ => (?_ : True → _) trivial) (by first | exact Or.inl rfl | exact Or.inr rfl) | fail
  exact fun _ => ⟨rfl, rfl⟩
theorem op_say (hG : zOK l G) (f k c h0 : Int32) : zOp l G mX10_say mX11_say [.int f, .int k, .int c, .int h0] := by
  rintro σ ⟨D, I, J, n, nf, nn, nt, td, ts, rfl, h⟩
  have hc := h.1
  have hnf := hc.1.2.1
  have t4 : (I 51 24).toInt = (nf : Int) := by rw [hnf.2.1]; exact nI_toInt (by omega)
  have h43 : (0 ≤ c ∧ c ≤ 3) ↔ (0 ≤ c ∧ c < 4) := by
    rw [Int32.le_iff_toInt_le, Int32.le_iff_toInt_le, Int32.lt_iff_toInt_lt, show (3 : Int32).toInt = 3 from rfl, show (4 : Int32).toInt = 4 from rfl]
    omega
  by_cases c1 : 0 ≤ f ∧ f < nI nf
  · obtain ⟨p, hp, rfl⟩ := ix_ok (by omega) c1
    have hcl : (nI p).toNatClampNeg = p := nI_clamp (by omega)
    obtain ⟨hk1, hv⟩ := hc.2.2.2.2.2 p hp
    have hv3 := hv.2.2.2.2.2.1
    have hv8 := hv.2.2.2.2.2.2.2.1
    obtain ⟨jc, jc1, jc2, _⟩ := hv.2.2.2.2.2.2.1
    have t70 : (I 70 p).toInt ≤ 3 := by rw [jc2, nI_toInt (by omega)]; omega
    by_cases cc : (0 ≤ k ∧ k < I 70 p) ∧ (0 ≤ c ∧ c ≤ 3) ∧ (0 ≤ h0 ∧ h0 ≤ 100) ∧ I 71 p = 0
    · obtain ⟨q1, q2, q3, q4⟩ := cc
      rw [jc2] at q1
      obtain ⟨kk, hkk, rfl⟩ := ix_ok (by omega) q1
      obtain ⟨c', hc', rfl⟩ := ix_ok (n := 4) (by decide) (h43.mp q2)
      have k85 := hk1.2.2.1.2.2.2.1
      have i1 : ∀ a b, a < 85 → zu2 I (nFh D p) (4 * kk + c') h0 a b = I a b := fun a b q => zu2_n (by omega)
      refine zRuns_mono (c_say_ok hG J hc p hp kk c' (by rw [hv3, jc2]; exact q1.2) (by omega) hc' h0 q3 (by rw [hv8]; exact q4)) ?_
      rintro r σ1 ⟨rfl, rfl⟩
      refine ⟨⟨_, rfl⟩, rfl, zRuns_mono (m_say_ok hG D _ J (nI p) (nI kk) (nI c') h0 (by rw [i1 51 24 (by decide)]; omega) (by rw [i1 51 24 (by decide)]; omega) (by rw [hcl, i1 70 p (by decide)]; exact t70)) ?_⟩
      intro r2 σ2 hp'
      have eix : ((12 : Int32) * nI p + 4 * nI kk + nI c').toNatClampNeg = 12 * p + (4 * kk + c') := by
        show (nI 12 * nI p + nI 4 * nI kk + nI c').toNatClampNeg = _
        rw [pk_mul, pk_mul, nI_add, nI_add, nI_clamp (by omega)]; omega
      rw [i1 51 24 (by decide), hcl, i1 70 p (by decide), i1 71 p (by decide), hnf.2.1, eix] at hp'
      obtain ⟨rfl, rfl⟩ := hp'.1 ⟨c1, by rw [jc2]; exact q1, q2, q3, q4⟩
      refine ⟨rfl, D, _, J, n, nf, nn, nt, td, ts, rfl, ?_⟩
      have ex : ∀ a b, ¬ (a = nFh D p ∧ b = 4 * kk + c') → ¬ (a = 51 ∧ b = 2) → ¬ (a = 73 ∧ b = 12 * p + (4 * kk + c')) → zu2 (zu2 (zu2 I (nFh D p) (4 * kk + c') h0) 51 2 0) 73 (12 * p + (4 * kk + c')) h0 a b = I a b := fun a b x y z => by rw [zu2_n z, zu2_n y, zu2_n x]
      have e1 : zu2 (zu2 (zu2 I (nFh D p) (4 * kk + c') h0) 51 2 0) 73 (12 * p + (4 * kk + c')) h0 73 (12 * p + (4 * kk + c')) = h0 := zu2_s
      have e2 : zu2 (zu2 (zu2 I (nFh D p) (4 * kk + c') h0) 51 2 0) 73 (12 * p + (4 * kk + c')) h0 (nFh D p) (4 * kk + c') = h0 := by rw [zu2_a (by omega), zu2_a (by omega), zu2_s]
      generalize zu2 (zu2 (zu2 I (nFh D p) (4 * kk + c') h0) 51 2 0) 73 (12 * p + (4 * kk + c')) h0 = I' at *
      have hk7 := hk1.2.2.1.2.1
      have hl7 := hk1.2.2.1.2.2.1
      have ek : ∀ a b x, kF D.1 a = x → x ≠ 13 → x ≠ 11 → I' a b = I a b := fun a b x q1 q2 q3 => ex a b (fun e => kne q1 hk7 q2 e.1) (fun e => kne (b := 51) q1 rfl q3 e.1) (fun e => kne (b := 73) q1 rfl q2 e.1)
      have er : ∀ a b x, nF D.2.1 a = x → x ≠ 12 → 85 ≤ a → I' a b = I a b := fun a b x q1 q2 q3 => ex a b (fun e => q2 (by rw [← q1, e.1, hl7])) (by omega) (by omega)
      refine cAll_r ⟨cS_r (fun a b q => ex a b (by omega) (by omega) (by omega)) hc.1, fun j hj => ?_, fun i hi => ?_, fun i hi w hw => ?_, fun j hj => ?_, fun f hf => ?_⟩ h.2.1 h.2.2.1 (fun a b q => by unfold uB at q; exact ex a b (by omega) (by omega) (by omega)) (fun b => ⟨rfl, rfl⟩) ⟨h.2.2.2.2.2.2.1, cKn_fr (fun b => ex 63 b (by omega) (by omega) (by omega)) h.2.2.2.2.2.2.2⟩ h
      · obtain ⟨q1, q2⟩ := hc.2.1 j hj
        exact ⟨q1, pT2 (fun b => ek _ b 7 q1.2.1 (by decide) (by decide)) (fun b => er (nRw D j) b 63 q1.2.2.2.2.1 (by decide) q1.2.2.2.2.2.2.2.1) (fun a b q1 q2 => ex a b (by omega) (by omega) (by omega)) (ex 55 j (by omega) (by omega) (by omega)) (fun a b q1 q2 => ex a b (by omega) (by omega) (by omega)) (by have := hc.1.2.2.2.1.1; omega) q2⟩
      · obtain ⟨q1, q2, q3⟩ := hc.2.2.1 i hi
        rw [ek _ 0 0 q1.2.1 (by decide) (by decide), ek _ 1 0 q1.2.1 (by decide) (by decide), ex 61 i (by omega) (by omega) (by omega), ex 62 i (by omega) (by omega) (by omega)]
        exact ⟨q1, q2, q3⟩
      · exact pN2 (fun p q b => ek p b 3 q (by decide) (by decide)) (fun a b q1 q2 => ex a b (by omega) (by omega) (by omega)) (hc.2.2.2.1 i hi w hw)
      · rw [ex 65 j (by omega) (by omega) (by omega), ex 67 j (by omega) (by omega) (by omega)]; exact hc.2.2.2.2.1 j hj
      · obtain ⟨q1, q2⟩ := hc.2.2.2.2.2 f hf
        refine ⟨q1, ?_⟩
        have qj := fun i => er (nFj D f) i 3 q1.2.1.2.2.1 (by decide) q1.2.1.2.2.2.1
        by_cases e : f = p
        · subst e
          obtain ⟨v1, v2, v3, v4, v5, v6, ⟨j, j1, j2, j3, j4⟩, v8, v9⟩ := q2
          unfold vFi
          rw [ek (nFi D f) 0 1 q1.1.2.1 (by decide) (by decide), ek (nFi D f) 1 1 q1.1.2.1 (by decide) (by decide), ek (nFi D f) 2 1 q1.1.2.1 (by decide) (by decide), ek (nFi D f) 3 1 q1.1.2.1 (by decide) (by decide), ek (nFi D f) 4 1 q1.1.2.1 (by decide) (by decide), ex 68 f (by omega) (by omega) (by omega), ex 69 f (by omega) (by omega) (by omega), ex 70 f (by omega) (by omega) (by omega), ex 71 f (by omega) (by omega) (by omega)]
          have ej : j = jc := by
            rw [jc2] at j2
            have := congrArg Int32.toInt j2
            rw [nI_toInt (by omega), nI_toInt (by omega)] at this
            omega
          refine ⟨v1, v2, v3, v4, v5, v6, ⟨j, j1, j2, fun e i hi => by omega, fun i hi => ?_⟩, v8, fun i hi => ?_⟩
          · rw [qj, ex 72 _ (by omega) (by omega) (by omega)]; exact j4 i hi
          · by_cases ei : i = 4 * kk + c'
            · rw [ei, e1, e2]
              have := q3.1
              have := q3.2
              rw [Int32.le_iff_toInt_le] at *
              exact ⟨rfl, by assumption, by assumption⟩
            · rw [ex (nFh D f) i (by omega) (by omega) (by omega), ex 73 _ (by omega) (by omega) (by omega)]; exact v9 i hi
        · have hne : nFh D f ≠ nFh D p := ne_of_mono h.2.1.2.2.2.2.1 hf hp e
          exact pFi2 (fun b => ek _ b 1 q1.1.2.1 (by decide) (by decide)) (fun a x y => ex a f (by omega) (by omega) (by omega)) (fun i hi => ⟨qj i, ex 72 _ (by omega) (by omega) (by omega)⟩) (fun i hi => ⟨ex _ _ (by omega) (by have := q1.2.2.1.2.2.2.1; omega) (by have := q1.2.2.1.2.2.2.1; omega), ex 73 _ (by omega) (by omega) (by omega)⟩) q2
    · refine zRuns_mono (c_say_no hG J hc (nI p) k c h0 (fun q => cc ?_)) ?_
      · rw [hcl, hv3, hv8] at q
        exact ⟨q.2.1, h43.mpr q.2.2.1, q.2.2.2⟩
      rintro r σ1 ⟨rfl, rfl⟩
      refine ⟨⟨_, rfl⟩, rfl, zRuns_mono (m_say_ok hG D I J (nI p) k c h0 (by omega) (by omega) (by rw [hcl]; exact t70)) ?_⟩
      intro r2 σ2 hq
      rw [hcl] at hq
      obtain ⟨rfl, rfl⟩ := hq.2 (fun q => cc q.2)
      exact ⟨rfl, D, _, J, n, nf, nn, nt, td, ts, rfl, cAll_th h⟩
  · refine zRuns_mono (c_say_no hG J hc f k c h0 (fun q => c1 q.1)) ?_
    rintro r σ1 ⟨rfl, rfl⟩
    refine ⟨⟨_, rfl⟩, rfl, zRuns_mono (m_say_no hG D I J f k c h0 (by rw [hnf.2.1]; exact c1)) ?_⟩
    rintro r2 σ2 ⟨rfl, rfl⟩
    exact ⟨rfl, D, _, J, n, nf, nn, nt, td, ts, rfl, cAll_th h⟩
end
