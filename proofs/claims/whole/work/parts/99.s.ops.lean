theorem nI_i2 {a b : Nat} (ha : a < 2147483648) (hb : b < 2147483648) (h : nI a = nI b) : a = b := by
  have := congrArg Int32.toInt h
  rw [nI_toInt ha, nI_toInt hb] at this
  omega
theorem nCh_0 {I : Nat → Nat → Int32} {f w : Int32} : ∀ n, (∀ k, k < n → ¬ I 63 k = f) → nCh I f w n []
  | 0, _ => rfl
  | n + 1, h => ⟨fun c => absurd c.1 (h n (by omega)), fun _ => nCh_0 n (fun k hk => h k (by omega))⟩
theorem nCh_q {I I' : Nat → Nat → Int32} {f w : Int32} : ∀ (n : Nat) (ps : List Nat), (∀ a b, 63 ≤ a → a ≤ 67 → b < n → I' a b = I a b) → (∀ p, p ∈ ps → ∀ b, I' p b = I p b) → nCh I f w n ps → nCh I' f w n ps
  | 0, ps, _, _, hc => hc
  | n + 1, ps, h, hp, hc => by
    obtain ⟨h1, h2⟩ := hc
    unfold nCh
    rw [h 63 n (by decide) (by decide) (by omega), h 64 n (by decide) (by decide) (by omega), h 65 n (by decide) (by decide) (by omega), h 66 n (by decide) (by decide) (by omega), h 67 n (by decide) (by decide) (by omega)]
    refine ⟨fun c => ?_, fun c => nCh_q n ps (fun a b x y z => h a b x y (by omega)) hp (h2 c)⟩
    obtain ⟨p, ps', rfl, q1, q2, q3, q4⟩ := h1 c
    have hp0 := hp p (List.mem_cons_self ..)
    exact ⟨p, ps', rfl, by rw [hp0]; exact q1, by rw [hp0]; exact q2, by rw [hp0]; exact q3, nCh_q n ps' (fun a b x y z => h a b x y (by omega)) (fun q hq => hp q (List.mem_cons_of_mem _ hq)) q4⟩
/-- all that was made before is as it was, but for arrays of notes -/
def e18 (D D' : zD) : Prop := D.2.2.2 ≤ D'.2.2.2 ∧ (∀ p, 85 ≤ p → p < D.2.2.2 → kF D'.1 p = kF D.1 p ∧ nF D'.2.1 p = nF D.2.1 p ∧ (kF D.1 p ≠ 18 → ∀ k, rF D'.2.2.1 p k = rF D.2.2.1 p k)) ∧ ∀ p k, p < 85 → rF D'.2.2.1 p k = rF D.2.2.1 p k
theorem kFa_e {D D' : zD} (h : e18 D D') {i : Nat} (hk : kFa D i) : kFa D' i ∧ nFa D' i = nFa D i ∧ nLa D' i = nLa D i := by
  obtain ⟨k1, k2, k3, k4, k5, k6, k7, k8, k9⟩ := hk
  have h39 := h.2.2 39 i (by decide)
  have e1 : nFa D' i = nFa D i := by unfold nFa; rw [h39]
  obtain ⟨a1, a2, a3⟩ := h.2.1 _ k6 k7
  have a3 := a3 (by rw [k2]; decide)
  have e2 : nLa D' i = nLa D i := by unfold nLa; rw [e1, a3]
  obtain ⟨b1, b2, b3⟩ := h.2.1 _ k8 k9
  have := h.1
  refine ⟨⟨?_, ?_, ?_, ?_, ?_, ?_, ?_, ?_, ?_⟩, e1, e2⟩
  · rw [e1, h39]; exact k1
  · rw [e1, a1]; exact k2
  · rw [e1, e2, a3]; exact k3
  · rw [e2, b1]; exact k4
  · rw [e2, b2]; exact k5
  · omega
  · omega
  · omega
  · omega
theorem kSt_e {D D' : zD} (h : e18 D D') {i : Nat} (hk : kSt D i) : kSt D' i ∧ nSt D' i = nSt D i ∧ nRw D' i = nRw D i := by
  obtain ⟨k1, k2, k3, k4, k5, k6, k7, k8, k9⟩ := hk
  have h38 := h.2.2 38 i (by decide)
  have e1 : nSt D' i = nSt D i := by unfold nSt; rw [h38]
  obtain ⟨a1, a2, a3⟩ := h.2.1 _ k6 k7
  have a3 := a3 (by rw [k2]; decide)
  have e2 : nRw D' i = nRw D i := by unfold nRw; rw [e1, a3]
  obtain ⟨b1, b2, b3⟩ := h.2.1 _ k8 k9
  have := h.1
  refine ⟨⟨?_, ?_, ?_, ?_, ?_, ?_, ?_, ?_, ?_⟩, e1, e2⟩
  · rw [e1, h38]; exact k1
  · rw [e1, a1]; exact k2
  · rw [e1, e2, a3]; exact k3
  · rw [e2, b1]; exact k4
  · rw [e2, b2]; exact k5
  · omega
  · omega
  · omega
  · omega
theorem kFi_e {D D' : zD} (h : e18 D D') {f : Nat} (hk : kFi D f) : kFi D' f ∧ nFi D' f = nFi D f ∧ nFj D' f = nFj D f ∧ nFh D' f = nFh D f ∧ nFs D' f = nFs D f := by
  obtain ⟨⟨k1, k2, k3, k4⟩, ⟨j1, j2, j3, j4, j5⟩, ⟨h1, h2, h3, h4, h5⟩, ⟨s1, s2, s3, s4, s5⟩⟩ := hk
  have h40 := h.2.2 40 f (by decide)
  have e1 : nFi D' f = nFi D f := by unfold nFi; rw [h40]
  obtain ⟨a1, a2, a3⟩ := h.2.1 _ k3 k4
  have a3 := a3 (by rw [k2]; decide)
  have e2 : nFj D' f = nFj D f := by unfold nFj; rw [e1, a3]
  have e3 : nFh D' f = nFh D f := by unfold nFh; rw [e1, a3]
  have e4 : nFs D' f = nFs D f := by unfold nFs; rw [e1, a3]
  obtain ⟨b1, b2, b3⟩ := h.2.1 _ j4 j5
  obtain ⟨c1, c2, c3⟩ := h.2.1 _ h4 h5
  obtain ⟨d1, d2, d3⟩ := h.2.1 _ s4 s5
  have := h.1
  unfold kFi
  rw [e1, e2, e3, e4, h40, a1, a3, a3, a3, b1, b2, c1, c2, d1, d2]
  exact ⟨⟨⟨k1, k2, k3, by omega⟩, ⟨j1, j2, j3, j4, by omega⟩, ⟨h1, h2, h3, h4, by omega⟩, ⟨s1, s2, s3, s4, by omega⟩⟩, rfl, rfl, rfl, rfl⟩
theorem sCh_e {D D' : zD} (h : e18 D D') : ∀ (ps : List Nat) (o : Option Nat), (∀ p, p ∈ ps → 85 ≤ p ∧ p < D.2.2.2) → sCh D ps o → sCh D' ps o
  | [], _, _, hc => hc
  | p :: ps, o, hp, hc => by
    obtain ⟨c1, c2, c3⟩ := hc
    obtain ⟨p1, p2⟩ := hp p (List.mem_cons_self ..)
    obtain ⟨a1, a2, a3⟩ := h.2.1 p p1 p2
    refine ⟨c1, a1.trans c2, ?_⟩
    rw [a3 (by rw [c2]; decide)]
    exact sCh_e h ps _ (fun q hq => hp q (List.mem_cons_of_mem _ hq)) c3
theorem vSt_n {D D' : zD} {I : Nat → Nat → Int32} {t : Nat} (e1 : nSt D' t = nSt D t) (e2 : nRw D' t = nRw D t) (hv : vSt D I t) : vSt D' I t := by
  unfold vSt at *
  rw [e1, e2]; exact hv
theorem vFi_n {D D' : zD} {I : Nat → Nat → Int32} {n n' f : Nat} (hn : n ≤ n') (e1 : nFi D' f = nFi D f) (e2 : nFj D' f = nFj D f) (e3 : nFh D' f = nFh D f) (hv : vFi D I n f) : vFi D' I n' f := by
  unfold vFi at *
  rw [e1, e2, e3]
  obtain ⟨v1, v2, ⟨fm, f1, f2⟩, v4⟩ := hv
  exact ⟨v1, v2, ⟨fm, by omega, f2⟩, v4⟩
section
variable {l : Launch} {G : zG}
theorem op_farm (hG : zOK l G) (k : Int32) : zOp l G mX10_farm mX11_farm [.int k] := by
  rintro σ ⟨D, I, J, n, nf, nn, nt, td, ts, rfl, h⟩
  have hc := h.1
  have hn := hc.1.1
  have hnf := hc.1.2.1
  have hnn := hc.1.2.2.1
  have hnt := hc.1.2.2.2.1
  have htd := hc.1.2.2.2.2
  have h85 := h.2.2.2.2.2.2.1
  have t15 : (I 51 15).toInt = (n : Int) := by rw [hn.2.1]; exact nI_toInt (by omega)
  have c12 : (¬ nI n = 12) ↔ n < 12 := ⟨fun q => by
    rcases Nat.lt_or_ge n 12 with x | x
    · exact x
    · exact absurd (by rw [show n = 12 by omega]; rfl) q, fun q e => by have := nI_i2 (a := n) (b := 12) (by omega) (by omega) e; omega⟩
  by_cases c : (0 ≤ k ∧ k ≤ 9) ∧ n < 12
  · refine zRuns_mono (c_farmc_ok hG D I J n c.2 hn.2.2 h85 k c.1) ?_
    obtain ⟨N, hN⟩ : ∃ N, N = D.2.2.2 := ⟨_, rfl⟩
    obtain ⟨D1, hD1⟩ : ∃ D1, D1 = dR (dR (dN (dN D 0 0) 18 9) D.2.2.2 3 (some (D.2.2.2 + 1))) 39 n (some D.2.2.2) := ⟨_, rfl⟩
    obtain ⟨I1, hI1⟩ : ∃ I1, I1 = zu2 (zu2 (zu2 (iN (dN D 0 0) (iN D I)) D.2.2.2 0 k) D.2.2.2 1 (I 32 10)) 32 7 (nI (n + 1)) := ⟨_, rfl⟩
    obtain ⟨J1, hJ1⟩ : ∃ J1, J1 = jN (dN D 0 0) (jN D J) := ⟨_, rfl⟩
    rw [← hD1, ← hI1, ← hJ1]
    rintro r σ1 ⟨rfl, rfl⟩
    have hx : ext D D1 := by
      rw [hD1]
      exact ext_R (ext_R (ext_t (ext_N D 0 0) (ext_N _ 18 9)) (Or.inr (Nat.le_refl _))) (Or.inl (by decide))
    have nx1 : D1.2.2.2 = N + 2 := by rw [hD1, hN]; rfl
    have rlo : ∀ p j, p < 85 → ¬ (p = 39 ∧ j = n) → rF D1.2.2.1 p j = rF D.2.2.1 p j := fun p j q1 q2 => by
      rw [hD1]
      show rF (zu2 (zu2 (zu1 (zu1 D.2.2.1 D.2.2.2 (fun _ => none)) (D.2.2.2 + 1) (fun _ => none)) D.2.2.2 3 _) 39 n _) p j = _
      rw [rF_o2 q2, rF_o2 (by omega), rF_o1 (by omega), rF_o1 (by omega)]
    have r39 : rF D1.2.2.1 39 n = some N := by rw [hD1, hN]; exact rF_s2 (rT_39 n)
    have rN3 : rF D1.2.2.1 N 3 = some (N + 1) := by
      rw [hD1, hN]
      show rF (zu2 (zu2 (zu1 (zu1 D.2.2.1 D.2.2.2 (fun _ => none)) (D.2.2.2 + 1) (fun _ => none)) D.2.2.2 3 _) 39 n _) D.2.2.2 3 = _
      rw [rF_o2 (by omega), rF_s2 (rT_dyn h85)]
    have rL : ∀ w, rF D1.2.2.1 (N + 1) w = none := fun w => by
      rw [hD1, hN]
      show rF (zu2 (zu2 (zu1 (zu1 D.2.2.1 D.2.2.2 (fun _ => none)) (D.2.2.2 + 1) (fun _ => none)) D.2.2.2 3 _) 39 n _) (D.2.2.2 + 1) w = _
      rw [rF_o2 (by omega), rF_o2 (by omega), rF_s1 (by omega)]
    have kN : kF D1.1 N = 0 := by
      rw [hD1, hN]
      show kF (zu1 (zu1 D.1 D.2.2.2 0) (D.2.2.2 + 1) 18) D.2.2.2 = 0
      rw [kF_o (by omega), kF_s h85]
    have kL : kF D1.1 (N + 1) = 18 := by
      rw [hD1, hN]
      show kF (zu1 (zu1 D.1 D.2.2.2 0) (D.2.2.2 + 1) 18) (D.2.2.2 + 1) = 18
      rw [kF_s (by omega)]
    have nL : nF D1.2.1 (N + 1) = 9 := by
      rw [hD1, hN]
      show nF (zu1 (zu1 D.2.1 D.2.2.2 0) (D.2.2.2 + 1) 9) (D.2.2.2 + 1) = 9
      rw [nF_s (by omega)]
    have eFa : nFa D1 n = N := by unfold nFa; rw [r39]; rfl
    have eLa : nLa D1 n = N + 1 := by unfold nLa; rw [eFa, rN3]; rfl
    have ex1 : ∀ a b, ¬ a = N → ¬ a = N + 1 → ¬ (a = 32 ∧ b = 7) → I1 a b = I a b := fun a b x y z => by
      rw [hI1]
      rw [zu2_n z, zu2_a (by omega), zu2_a (by omega)]
      show zu1 (zu1 I D.2.2.2 _) (D.2.2.2 + 1) _ a b = _
      rw [zu1_n (by omega), zu1_n (by omega)]
    have eI0 : I1 N 0 = k := by rw [hI1, hN, zu2_a (by omega), zu2_b (by decide), zu2_s]
    have eI1 : I1 N 1 = I 32 10 := by rw [hI1, hN, zu2_a (by omega), zu2_s]
    have e327 : I1 32 7 = nI (n + 1) := by rw [hI1, zu2_s]
    have jx : ∀ a b, a < N → J1 a b = J a b := fun a b x => by
      rw [hJ1]
      show zu1 (zu1 J D.2.2.2 _) (D.2.2.2 + 1) _ a b = _
      rw [zu1_n (by omega), zu1_n (by omega)]
    have jN2 : J1 N 2 = 0 := by
      rw [hJ1, hN]
      show zu1 (zu1 J D.2.2.2 _) (D.2.2.2 + 1) _ D.2.2.2 2 = _
      rw [zu1_n (by omega), zu1_s]
    have hN85 : 85 ≤ N := by omega
    clear hI1 hJ1 hD1
    refine ⟨⟨_, rfl⟩, rfl, zRuns_mono (c_X11_farm hG D1 I1 J1 k (by rw [ex1 51 15 (by omega) (by omega) (by omega)]; omega) (by rw [ex1 51 15 (by omega) (by omega) (by omega)]; omega)) ?_⟩
    intro r2 σ2 hp
    rw [ex1 51 15 (by omega) (by omega) (by omega), ex1 51 3 (by omega) (by omega) (by omega), hn.2.1, nI_clamp (by omega)] at hp
    obtain ⟨rfl, rfl⟩ := hp.1 ⟨c.1.1, c.1.2, c12.mpr c.2⟩
    have en : nI n + 1 = nI (n + 1) := zi1 n
    have en2 : nI (n + 1) - 1 = nI n := pk_sub (a := n + 1) (b := 1) (by omega)
    rw [en, en2]
    refine ⟨rfl, D1, _, J1, n + 1, nf, nn, nt, td, ts, rfl, ?_⟩
    have ex : ∀ a b, ¬ a = N → ¬ a = N + 1 → ¬ (a = 32 ∧ b = 7) → ¬ (a = 51 ∧ (b = 2 ∨ b = 15)) → ¬ ((a = 61 ∨ a = 62) ∧ b = n) → zu2 (zu2 (zu2 (zu2 I1 51 2 0) 61 n k) 62 n (I 51 3)) 51 15 (nI (n + 1)) a b = I a b := fun a b x1 x2 x3 x4 x5 => by
      rw [zu2_n (by omega), zu2_n (by omega), zu2_n (by omega), zu2_n (by omega), ex1 a b x1 x2 x3]
    have f15 : zu2 (zu2 (zu2 (zu2 I1 51 2 0) 61 n k) 62 n (I 51 3)) 51 15 (nI (n + 1)) 51 15 = nI (n + 1) := zu2_s
    have f7 : zu2 (zu2 (zu2 (zu2 I1 51 2 0) 61 n k) 62 n (I 51 3)) 51 15 (nI (n + 1)) 32 7 = nI (n + 1) := by
      rw [zu2_n (by omega), zu2_n (by omega), zu2_n (by omega), zu2_n (by omega), e327]
    have f61 : zu2 (zu2 (zu2 (zu2 I1 51 2 0) 61 n k) 62 n (I 51 3)) 51 15 (nI (n + 1)) 61 n = k := by rw [zu2_n (by omega), zu2_n (by omega), zu2_s]
    have f62 : zu2 (zu2 (zu2 (zu2 I1 51 2 0) 61 n k) 62 n (I 51 3)) 51 15 (nI (n + 1)) 62 n = I 51 3 := by rw [zu2_n (by omega), zu2_s]
    have fN0 : zu2 (zu2 (zu2 (zu2 I1 51 2 0) 61 n k) 62 n (I 51 3)) 51 15 (nI (n + 1)) N 0 = k := by rw [zu2_n (by omega), zu2_n (by omega), zu2_n (by omega), zu2_n (by omega), eI0]
    have fN1 : zu2 (zu2 (zu2 (zu2 I1 51 2 0) 61 n k) 62 n (I 51 3)) 51 15 (nI (n + 1)) N 1 = I 32 10 := by rw [zu2_n (by omega), zu2_n (by omega), zu2_n (by omega), zu2_n (by omega), eI1]
    clear hp
    generalize zu2 (zu2 (zu2 (zu2 I1 51 2 0) 61 n k) 62 n (I 51 3)) 51 15 (nI (n + 1)) = I' at *
    have eT : ∀ t, t < nt → kSt D1 t ∧ nSt D1 t = nSt D t ∧ nRw D1 t = nRw D t := fun t ht => kSt_ext hx (rlo 38 t (by omega) (by omega)) (hc.2.1 t ht).1
    have eF : ∀ i, i < n → kFa D1 i ∧ nFa D1 i = nFa D i ∧ nLa D1 i = nLa D i := fun i hi => kFa_ext hx (rlo 39 i (by omega) (by omega)) (hc.2.2.1 i hi).1
    have eR : ∀ f, f < nf → kFi D1 f ∧ nFi D1 f = nFi D f ∧ nFj D1 f = nFj D f ∧ nFh D1 f = nFh D f ∧ nFs D1 f = nFs D f := fun f hf => kFi_ext hx (rlo 40 f (by omega) (by omega)) (hc.2.2.2.2.2 f hf).1
    have hcI := h.2.1
    have hMo := h.2.2.1
    refine cAll_r ⟨?_, fun t ht => ?_, fun i hi => ?_, fun i hi w hw => ?_, fun j hj => ?_, fun f hf => ?_⟩ ⟨fun i j x y => ?_, fun i j x y => ?_, fun i j x y => ?_, fun i j x y => ?_, fun i j x y => ?_, fun i j x y => ?_⟩ ⟨fun i hi => ?_, fun f hf k hk => ?_, fun i x y => ?_, fun i x y => ?_⟩ (fun a b q => by unfold uB at q; exact ex a b (by omega) (by omega) (by omega) (by omega) (by omega)) (fun b => ⟨jx 50 b (by omega), jx 78 b (by omega)⟩) ⟨by omega, fun j hj => ?_⟩ h
    · unfold cS
      rw [f15, f7, ex 51 24 (by omega) (by omega) (by omega) (by omega) (by omega), ex 32 8 (by omega) (by omega) (by omega) (by omega) (by omega), ex 51 18 (by omega) (by omega) (by omega) (by omega) (by omega), ex 32 9 (by omega) (by omega) (by omega) (by omega) (by omega), ex 51 4 (by omega) (by omega) (by omega) (by omega) (by omega), ex 37 0 (by omega) (by omega) (by omega) (by omega) (by omega), ex 51 3 (by omega) (by omega) (by omega) (by omega) (by omega), ex 32 10 (by omega) (by omega) (by omega) (by omega) (by omega)]
      exact ⟨⟨by omega, rfl, rfl⟩, hnf, hnn, hnt, htd⟩
    · obtain ⟨q1, q2, q3⟩ := eT t ht
      have w1 := (hc.2.1 t ht).1.2.2.2.2.2
      exact ⟨q1, pT2 (fun b => ex _ b (by omega) (by omega) (by omega) (by omega) (by omega)) (fun b => ex _ b (by omega) (by omega) (by omega) (by omega) (by omega)) (fun a b x y => ex a b (by omega) (by omega) (by omega) (by omega) (by omega)) (ex 55 t (by omega) (by omega) (by omega) (by omega) (by omega)) (fun a b x y => ex a b (by omega) (by omega) (by omega) (by omega) (by omega)) (by omega) (vSt_n q2 q3 (hc.2.1 t ht).2)⟩
    · by_cases e : i = n
      · subst e
        rw [eFa, f61, f62, fN0, fN1]
        refine ⟨?_, rfl, by rw [htd.2.1, htd.2.2]⟩
        unfold kFa
        rw [eFa, eLa, nx1]
        exact ⟨r39, kN, rN3, kL, nL, by omega, by omega, by omega, by omega⟩
      · have hi' : i < n := by omega
        obtain ⟨q1, q2, q3⟩ := eF i hi'
        have w1 := (hc.2.2.1 i hi').1.2.2.2.2.2
        rw [q2, ex _ 0 (by omega) (by omega) (by omega) (by omega) (by omega), ex _ 1 (by omega) (by omega) (by omega) (by omega) (by omega), ex 61 i (by omega) (by omega) (by omega) (by omega) (by omega), ex 62 i (by omega) (by omega) (by omega) (by omega) (by omega)]
        exact ⟨q1, (hc.2.2.1 i hi').2⟩
    · by_cases e : i = n
      · subst e
        refine ⟨[], ?_, nCh_0 nn (fun j hj => ?_), fun p hp => by cases hp⟩
        · rw [eLa]; exact rL w
        · rw [ex 63 j (by omega) (by omega) (by omega) (by omega) (by omega)]
          obtain ⟨q, q1, q2⟩ := h.2.2.2.2.2.2.2 j hj
          rw [q2]
          exact fun e => by have := nI_i2 (by omega) (by omega) e; omega
      · have hi' : i < n := by omega
        exact pN2 (fun p q b => ex p b (kne q kN (by decide)) (kne q kL (by decide)) (fun e => kne (b := 32) (y := 10) q rfl (by decide) e.1) (fun e => kne (b := 51) (y := 11) q rfl (by decide) e.1) (fun e => by
          rcases e.1 with e | e
          · exact kne (b := 61) (y := 13) q rfl (by decide) e
          · exact kne (b := 62) (y := 13) q rfl (by decide) e)) (fun a b x y => ex a b (by omega) (by omega) (by omega) (by omega) (by omega)) (pN hx (fun i hi => rlo 39 i (by omega) (by omega)) (fun _ _ _ => rfl) (fun i hi => (hc.2.2.1 i hi).1) hc.2.2.2.1 i hi' w hw)
    · rw [ex 65 j (by omega) (by omega) (by omega) (by omega) (by omega), ex 67 j (by omega) (by omega) (by omega) (by omega) (by omega)]
      exact hc.2.2.2.2.1 j hj
    · obtain ⟨q1, q2, q3, q4, q5⟩ := eR f hf
      have w1 := (hc.2.2.2.2.2 f hf).1.1
      have w2 := (hc.2.2.2.2.2 f hf).1.2.1
      have w3 := (hc.2.2.2.2.2 f hf).1.2.2.1
      exact ⟨q1, pFi2 (fun b => ex _ b (by omega) (by omega) (by omega) (by omega) (by omega)) (fun a x y => ex a f (by omega) (by omega) (by omega) (by omega) (by omega)) (fun i hi => ⟨ex _ _ (by omega) (by omega) (by omega) (by omega) (by omega), ex 72 _ (by omega) (by omega) (by omega) (by omega) (by omega)⟩) (fun i hi => ⟨ex _ _ (by omega) (by omega) (by omega) (by omega) (by omega), ex 73 _ (by omega) (by omega) (by omega) (by omega) (by omega)⟩) (vFi_n (by omega) q2 q3 q4 (hc.2.2.2.2.2 f hf).2)⟩
    · rw [(eT i (by omega)).2.1, (eT j y).2.1]; exact hcI.1 i j x y
    · rw [(eF i (by omega)).2.1]
      by_cases e : j = n
      · rw [e, eFa, hN]; exact (hc.2.2.1 i (by omega)).1.2.2.2.2.2.2.1
      · rw [(eF j (by omega)).2.1]; exact hcI.2.1 i j x (by omega)
    · rw [(eF i (by omega)).2.2]
      by_cases e : j = n
      · rw [e, eLa]; have := (hc.2.2.1 i (by omega)).1.2.2.2.2.2.2.2.2; omega
      · rw [(eF j (by omega)).2.2]; exact hcI.2.2.1 i j x (by omega)
    · rw [(eR i (by omega)).2.1, (eR j y).2.1]; exact hcI.2.2.2.1 i j x y
    · rw [(eR i (by omega)).2.2.2.1, (eR j y).2.2.2.1]; exact hcI.2.2.2.2.1 i j x y
    · rw [(eR i (by omega)).2.2.2.2, (eR j y).2.2.2.2]; exact hcI.2.2.2.2.2 i j x y
    · by_cases e : i = n
      · rw [e, eFa, jN2, jx 75 n (by omega)]; exact (hMo.2.2.1 n (Nat.le_refl _) c.2).symm
      · have hi' : i < n := by omega
        have w1 := (hc.2.2.1 i hi').1.2.2.2.2.2
        rw [(eF i hi').2.1, jx _ _ (by omega), jx 75 i (by omega)]; exact hMo.1 i hi'
    · have w1 := (hc.2.2.2.2.2 f hf).1.2.2.2
      rw [(eR f hf).2.2.2.2, jx _ _ (by omega), jx 74 _ (by omega)]; exact hMo.2.1 f hf k hk
    · rw [jx 75 i (by omega)]; exact hMo.2.2.1 i (by omega) y
    · rw [jx 74 i (by omega)]; exact hMo.2.2.2 i x y
    · rw [ex 63 j (by omega) (by omega) (by omega) (by omega) (by omega)]
      obtain ⟨q, q1, q2⟩ := h.2.2.2.2.2.2.2 j hj
      exact ⟨q, by omega, q2⟩
  · refine zRuns_mono (c_farmc_no hG D I J n hn.1 hn.2.2 k c) ?_
    rintro r σ1 ⟨rfl, rfl⟩
    refine ⟨⟨_, rfl⟩, rfl, zRuns_mono (c_X11_farm hG D I J k (by omega) (by omega)) ?_⟩
    intro r2 σ2 hp
    rw [hn.2.1] at hp
    obtain ⟨rfl, rfl⟩ := hp.2 (fun q => c ⟨⟨q.1, q.2.1⟩, c12.mp q.2.2⟩)
    exact ⟨rfl, D, _, J, n, nf, nn, nt, td, ts, rfl, cAll_th h⟩
end
