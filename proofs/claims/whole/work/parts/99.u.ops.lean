section
variable {l : Launch} {G : zG}
theorem op_fire (hG : zOK l G) (f s : Int32) : zOp l G mX10_fire mX11_fire [.int f, .int s] := by
  rintro σ ⟨D, I, J, n, nf, nn, nt, td, ts, rfl, h⟩
  have hc := h.1
  have hn := hc.1.1
  have hnf := hc.1.2.1
  have hnn := hc.1.2.2.1
  have hnt := hc.1.2.2.2.1
  have htd := hc.1.2.2.2.2
  have h85 := h.2.2.2.2.2.2.1
  have c12 : (¬ nI nf = 12) ↔ nf < 12 := ⟨fun q => by
    rcases Nat.lt_or_ge nf 12 with x | x
    · exact x
    · exact absurd (by rw [show nf = 12 by omega]; rfl) q, fun q e => by have := nI_i2 (a := nf) (b := 12) (by omega) (by omega) e; omega⟩
  by_cases c : (0 ≤ f ∧ f < nI n) ∧ nf < 12
  · obtain ⟨p, hp, rfl⟩ := ix_ok (by omega) c.1
    have c2 := c.2
    obtain ⟨js, hjs⟩ : ∃ js, js = sDr (fun k => decide (I 61 k ≠ I 61 p)) n 3 s [] := ⟨_, rfl⟩
    refine zRuns_mono (c_firec_ok hG J hc h85 p hp c2 s js hjs) ?_
    obtain ⟨N, hN⟩ : ∃ N, N = D.2.2.2 := ⟨_, rfl⟩
    obtain ⟨D0, hD0⟩ : ∃ D0, D0 = fD3 (dN D 1 0) D.2.2.2 := ⟨_, rfl⟩
    obtain ⟨D1, hD1⟩ : ∃ D1, D1 = dR (fD3 (dN D 1 0) D.2.2.2) 40 nf (some D.2.2.2) := ⟨_, rfl⟩
    obtain ⟨J1, hJ1⟩ : ∃ J1, J1 = fJ3 (dN D 1 0) D.2.2.2 (jN D J) := ⟨_, rfl⟩
    rw [← hD1, ← hJ1]
    rintro r σ1 ⟨rfl, I1, rfl, m1, m2, m3, m4, m5, m6, m7, m8⟩
    rw [← hN] at m1 m2 m3 m4 m5 m6 m8
    have hx0 : ext D D0 := by rw [hD0]; exact fE_ext D
    have hx : ext D D1 := by
      rw [hD1]
      exact ext_R (fE_ext D) (Or.inl (by decide))
    obtain ⟨x1, ⟨x2, x3, x4⟩, ⟨x5, x6, x7⟩, ⟨x8, x9, x10⟩, x11⟩ := fD3_x (dN D 1 0) D.2.2.2 h85 (Nat.lt_succ_self _)
    have e40 : rF D1.2.2.1 40 nf = some N := by rw [hD1, hN]; exact rF_s2 (rT_40 nf)
    have rlo : ∀ q j, q < 85 → ¬ (q = 40 ∧ j = nf) → rF D1.2.2.1 q j = rF D.2.2.1 q j := fun q j q1 q2 => by
      rw [hD1]
      show rF (zu2 (fD3 (dN D 1 0) D.2.2.2).2.2.1 40 nf _) q j = _
      rw [rF_o2 q2, fE_lo D h85 q j q1]
    have rhi : ∀ q j, 85 ≤ q → rF D1.2.2.1 q j = rF (fD3 (dN D 1 0) D.2.2.2).2.2.1 q j := fun q j q1 => by
      rw [hD1]
      exact rF_o2 (by omega)
    have kk : kF (fD3 (dN D 1 0) D.2.2.2).1 D.2.2.2 = 1 := by rw [x1]; exact kF_s h85
    have nxd : (dN D 1 0).2.2.2 = N + 1 := by rw [hN]; rfl
    rw [nxd, ← hN] at x2 x3 x4 x5 x6 x7 x8 x9 x10 x11
    rw [← hN] at kk rhi
    have nx1 : D1.2.2.2 = N + 4 := by rw [hD1, hN]; exact x11.trans (by omega)
    have kD : D1.1 = (fD3 (dN D 1 0) N).1 := by rw [hD1, hN]; rfl
    have nD : D1.2.1 = (fD3 (dN D 1 0) N).2.1 := by rw [hD1, hN]; rfl
    have eFi : nFi D1 nf = N := by unfold nFi; rw [e40]; rfl
    have hN85 : 85 ≤ N := by omega
    have eFj : nFj D1 nf = N + 1 := by unfold nFj; rw [eFi, rhi N 5 hN85, x2]; rfl
    have eFh : nFh D1 nf = N + 2 := by unfold nFh; rw [eFi, rhi N 6 hN85, x5]; rfl
    have eFs : nFs D1 nf = N + 3 := by unfold nFs; rw [eFi, rhi N 7 hN85, x8]; rfl
    have kNew : kFi D1 nf := by
      unfold kFi
      rw [eFi, eFj, eFh, eFs, nx1, rhi N 5 hN85, rhi N 6 hN85, rhi N 7 hN85, kD, nD]
      exact ⟨⟨e40, kk, by omega, by omega⟩, ⟨x2, x3, x4, by omega, by omega⟩, ⟨x5, x6, x7, by omega, by omega⟩, ⟨x8, x9, x10, by omega, by omega⟩⟩
    have jx : ∀ a b, a < N → J1 a b = J a b := fun a b x => by
      rw [hJ1, (fJ3_x (dN D 1 0) D.2.2.2 (jN D J)).1 a b (by rw [nxd]; omega)]
      show zu1 J D.2.2.2 _ a b = _
      rw [zu1_n (by omega)]
    have js3 : ∀ b, J1 (N + 3) b = 0 := fun b => by
      rw [hJ1, (fJ3_x (dN D 1 0) D.2.2.2 (jN D J)).2 (N + 3) b (by rw [nxd]; omega) (by rw [nxd]; omega)]
    clear x1 x2 x3 x4 x5 x6 x7 x8 x9 x10 x11 hJ1 hD1
    have q61 : js = sDr (fun k => decide (I1 61 k ≠ I1 61 p)) n 3 s [] := by
      have e : (fun k => decide (I1 61 k ≠ I1 61 p)) = (fun k => decide (I 61 k ≠ I 61 p)) := funext fun k => by rw [m8 61 k (by omega) (by omega), m8 61 p (by omega) (by omega)]
      rw [e]; exact hjs
    refine ⟨⟨_, rfl⟩, rfl, zRuns_mono (c_fire_ok hG D1 I1 J1 n nf p s hn.1 c2 hp (by rw [m8 51 15 (by omega) (by omega)]; exact hn.2.1) (by rw [m8 51 24 (by omega) (by omega)]; exact hnf.2.1) js q61) ?_⟩
    rintro r2 σ2 ⟨rfl, I', rfl, a1, a2, a3, a4, a5, a6, a7, a8⟩
    refine ⟨rfl, D1, I', J1, n, nf + 1, nn, nt, td, ts, rfl, ?_⟩
    have ex : ∀ a b, a < N → ¬ (a = 32 ∧ b = 8) → ¬ frF nf a b → I' a b = I a b := fun a b x1 x2 x3 => by rw [a8 a b x3, m8 a b x2 x1]
    have eN : ∀ a b, 85 ≤ a → I' a b = I1 a b := fun a b x => a8 a b (by unfold frF; omega)
    have eT : ∀ t, t < nt → kSt D1 t ∧ nSt D1 t = nSt D t ∧ nRw D1 t = nRw D t := fun t ht => kSt_ext hx (rlo 38 t (by omega) (by omega)) (hc.2.1 t ht).1
    have eF : ∀ i, i < n → kFa D1 i ∧ nFa D1 i = nFa D i ∧ nLa D1 i = nLa D i := fun i hi => kFa_ext hx (rlo 39 i (by omega) (by omega)) (hc.2.2.1 i hi).1
    have eR : ∀ f, f < nf → kFi D1 f ∧ nFi D1 f = nFi D f ∧ nFj D1 f = nFj D f ∧ nFh D1 f = nFh D f ∧ nFs D1 f = nFs D f := fun f hf => kFi_ext hx (rlo 40 f (by omega) (by omega)) (hc.2.2.2.2.2 f hf).1
    have hcI := h.2.1
    have hMo := h.2.2.1
    refine cAll_r ⟨?_, fun t ht => ?_, fun i hi => ?_, fun i hi x hx' => ?_, fun j hj => ?_, fun f hf => ?_⟩ ⟨fun i j x y => ?_, fun i j x y => ?_, fun i j x y => ?_, fun i j x y => ?_, fun i j x y => ?_, fun i j x y => ?_⟩ ⟨fun i hi => ?_, fun f hf k hk => ?_, fun i x y => ?_, fun i x y => ?_⟩ (fun a b q => by unfold uB at q; exact ex a b (by omega) (by omega) (by unfold frF; omega)) (fun b => ⟨jx 50 b (by omega), jx 78 b (by omega)⟩) ⟨by omega, fun j hj => ?_⟩ h
    · unfold cS
      rw [a1, a8 32 8 (by unfold frF; omega), m7, ex 51 15 (by omega) (by omega) (by unfold frF; omega), ex 32 7 (by omega) (by omega) (by unfold frF; omega), ex 51 18 (by omega) (by omega) (by unfold frF; omega), ex 32 9 (by omega) (by omega) (by unfold frF; omega), ex 51 4 (by omega) (by omega) (by unfold frF; omega), ex 37 0 (by omega) (by omega) (by unfold frF; omega), ex 51 3 (by omega) (by omega) (by unfold frF; omega), ex 32 10 (by omega) (by omega) (by unfold frF; omega)]
      exact ⟨hn, ⟨by omega, rfl, rfl⟩, hnn, hnt, htd⟩
    · obtain ⟨q1, q2, q3⟩ := eT t ht
      have w1 := (hc.2.1 t ht).1.2.2.2.2.2
      exact ⟨q1, pT2 (fun b => ex _ b (by omega) (by omega) (by unfold frF; omega)) (fun b => ex _ b (by omega) (by omega) (by unfold frF; omega)) (fun a b x y => ex a b (by omega) (by omega) (by unfold frF; omega)) (ex 55 t (by omega) (by omega) (by unfold frF; omega)) (fun a b x y => ex a b (by omega) (by omega) (by unfold frF; omega)) (by omega) (vSt_n q2 q3 (hc.2.1 t ht).2)⟩
    · obtain ⟨q1, q2, q3⟩ := eF i hi
      have w1 := (hc.2.2.1 i hi).1.2.2.2.2.2
      rw [q2, ex _ 0 (by omega) (by omega) (by unfold frF; omega), ex _ 1 (by omega) (by omega) (by unfold frF; omega), ex 61 i (by omega) (by omega) (by unfold frF; omega), ex 62 i (by omega) (by omega) (by unfold frF; omega)]
      exact ⟨q1, (hc.2.2.1 i hi).2⟩
    · obtain ⟨ps, p1, p2, p3⟩ := hc.2.2.2.1 i hi x hx'
      have w1 := (hc.2.2.1 i hi).1.2.2.2.2.2
      refine ⟨ps, ?_, nCh_q nn ps (fun a b y1 y2 y3 => ex a b (by omega) (by omega) (by unfold frF; omega)) (fun q hq b => by have := p3 q hq; exact ex q b (by omega) (by omega) (by unfold frF; omega)) p2, fun q hq => by have := p3 q hq; omega⟩
      rw [(eF i hi).2.2, (hx.2 (nLa D i) w1.2.2.1 w1.2.2.2).2.2 x]
      exact sCh_ext hx ps _ p3 p1
    · rw [ex 65 j (by omega) (by omega) (by unfold frF; omega), ex 67 j (by omega) (by omega) (by unfold frF; omega)]
      exact hc.2.2.2.2.1 j hj
    · by_cases e : f = nf
      · subst e
        refine ⟨kNew, ?_⟩
        unfold vFi
        rw [eFi, eFj, eFh, eN N 0 hN85, eN N 1 hN85, eN N 2 hN85, eN N 3 hN85, eN N 4 hN85, m1.1, m2, m3, m4, m5, a2, a3, a4, a5, m8 51 3 (by omega) (by omega), htd.2.1, htd.2.2]
        refine ⟨rfl, rfl, ⟨p, hp, rfl⟩, rfl, ⟨td, htd.1, rfl⟩, rfl, ⟨js.length, m1.2.1, rfl, fun _ i hi => a7 i hi, fun i hi => ?_⟩, rfl, fun i hi => ?_⟩
        · rw [eN _ _ (by omega), (m1.2.2 i hi).2, (a6.2 i hi).2]
        · rw [eN _ _ (by omega), m6 i, a7 i hi]
          exact ⟨rfl, by decide, by decide⟩
      · have hf' : f < nf := by omega
        obtain ⟨q1, q2, q3, q4, q5⟩ := eR f hf'
        have w1 := (hc.2.2.2.2.2 f hf').1.1
        have w2 := (hc.2.2.2.2.2 f hf').1.2.1
        have w3 := (hc.2.2.2.2.2 f hf').1.2.2.1
        exact ⟨q1, pFi2 (fun b => ex _ b (by omega) (by omega) (by unfold frF; omega)) (fun a x y => ex a f (by omega) (by omega) (by unfold frF; omega)) (fun i hi => ⟨ex _ _ (by omega) (by omega) (by unfold frF; omega), ex 72 _ (by omega) (by omega) (by unfold frF; omega)⟩) (fun i hi => ⟨ex _ _ (by omega) (by omega) (by unfold frF; omega), ex 73 _ (by omega) (by omega) (by unfold frF; omega)⟩) (vFi_n (Nat.le_refl _) q2 q3 q4 (hc.2.2.2.2.2 f hf').2)⟩
    · rw [(eT i (by omega)).2.1, (eT j y).2.1]; exact hcI.1 i j x y
    · rw [(eF i (by omega)).2.1, (eF j y).2.1]; exact hcI.2.1 i j x y
    · rw [(eF i (by omega)).2.2, (eF j y).2.2]; exact hcI.2.2.1 i j x y
    · rw [(eR i (by omega)).2.1]
      by_cases e : j = nf
      · rw [e, eFi, hN]; exact (hc.2.2.2.2.2 i (by omega)).1.1.2.2.2
      · rw [(eR j (by omega)).2.1]; exact hcI.2.2.2.1 i j x (by omega)
    · rw [(eR i (by omega)).2.2.2.1]
      by_cases e : j = nf
      · rw [e, eFh]; have := (hc.2.2.2.2.2 i (by omega)).1.2.2.1.2.2.2.2; omega
      · rw [(eR j (by omega)).2.2.2.1]; exact hcI.2.2.2.2.1 i j x (by omega)
    · rw [(eR i (by omega)).2.2.2.2]
      by_cases e : j = nf
      · rw [e, eFs]; have := (hc.2.2.2.2.2 i (by omega)).1.2.2.2.2.2.2.2; omega
      · rw [(eR j (by omega)).2.2.2.2]; exact hcI.2.2.2.2.2 i j x (by omega)
    · have w1 := (hc.2.2.1 i hi).1.2.2.2.2.2
      rw [(eF i hi).2.1, jx _ _ (by omega), jx 75 i (by omega)]; exact hMo.1 i hi
    · by_cases e : f = nf
      · rw [e, eFs, js3, jx 74 _ (by omega)]; exact (hMo.2.2.2 _ (by omega) (by omega)).symm
      · have w1 := (hc.2.2.2.2.2 f (by omega)).1.2.2.2
        rw [(eR f (by omega)).2.2.2.2, jx _ _ (by omega), jx 74 _ (by omega)]; exact hMo.2.1 f (by omega) k hk
    · rw [jx 75 i (by omega)]; exact hMo.2.2.1 i (by omega) y
    · rw [jx 74 i (by omega)]; exact hMo.2.2.2 i (by omega) y
    · rw [ex 63 j (by omega) (by omega) (by unfold frF; omega)]
      exact h.2.2.2.2.2.2.2 j hj
  · refine zRuns_mono (c_firec_no hG J hc f s c) ?_
    rintro r σ1 ⟨rfl, rfl⟩
    refine ⟨⟨_, rfl⟩, rfl, zRuns_mono (c_fire_no hG D I J f s (by rw [hn.2.1, hnf.2.1, c12]; exact c)) ?_⟩
    rintro r2 σ2 ⟨rfl, rfl⟩
    exact ⟨rfl, D, _, J, n, nf, nn, nt, td, ts, rfl, cAll_th h⟩
end
