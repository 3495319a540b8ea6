section
variable {l : Launch} {G : zG}
theorem op_note (hG : zOK l G) (f w d v : Int32) : zOp l G mX10_note mX11_note [.int f, .int w, .int d, .int v] := by
  rintro σ ⟨D, I, J, n, nf, nn, nt, td, ts, rfl, h⟩
  have hc := h.1
  have hn := hc.1.1
  have hnf := hc.1.2.1
  have hnn := hc.1.2.2.1
  have hnt := hc.1.2.2.2.1
  have htd := hc.1.2.2.2.2
  have h85 := h.2.2.2.2.2.2.1
  have t18 : (I 51 18).toInt = (nn : Int) := by rw [hnn.2.1]; exact nI_toInt (by omega)
  have c200 : (¬ nI nn = 200) ↔ nn < 200 := ⟨fun q => by
    rcases Nat.lt_or_ge nn 200 with x | x
    · exact x
    · exact absurd (by rw [show nn = 200 by omega]; rfl) q, fun q e => by have := nI_i2 (a := nn) (b := 200) (by omega) (by omega) e; omega⟩
  have h89 : (0 ≤ w ∧ w ≤ 8) ↔ (0 ≤ w ∧ w < 9) := by
    rw [Int32.le_iff_toInt_le, Int32.le_iff_toInt_le, Int32.lt_iff_toInt_lt, show (8 : Int32).toInt = 8 from rfl, show (9 : Int32).toInt = 9 from rfl]
    omega
  have hvv : (v ≤ 10000 ∧ (w = 8 → v ≤ 99)) ↔ v ≤ (if w = 8 then 99 else 10000) := by
    by_cases c8 : w = 8
    · rw [if_pos c8]
      refine ⟨fun q => q.2 c8, fun q => ⟨?_, fun _ => q⟩⟩
      rw [Int32.le_iff_toInt_le, show (99 : Int32).toInt = 99 from rfl] at q
      rw [Int32.le_iff_toInt_le, show (10000 : Int32).toInt = 10000 from rfl]
      omega
    · rw [if_neg c8]
      exact ⟨fun q => q.1, fun q => ⟨q, fun e => absurd e c8⟩⟩
  have hcc : ((0 ≤ f ∧ f < nI n) ∧ (0 ≤ w ∧ w ≤ 8) ∧ (0 ≤ d ∧ d < 720) ∧ 0 ≤ v ∧ v ≤ 10000 ∧ (w = 8 → v ≤ 99) ∧ ¬ nI nn = 200) ↔ ((0 ≤ f ∧ f < nI n) ∧ (0 ≤ w ∧ w < 9) ∧ (0 ≤ d ∧ d < 720) ∧ nn < 200 ∧ 0 ≤ v ∧ v ≤ (if w = 8 then 99 else 10000)) := by
    rw [← h89, ← hvv, ← c200]
    exact ⟨fun ⟨a, b, c, d, e, g, i⟩ => ⟨a, b, c, i, d, e, g⟩, fun ⟨a, b, c, i, d, e, g⟩ => ⟨a, b, c, d, e, g, i⟩⟩
  by_cases c : (0 ≤ f ∧ f < nI n) ∧ (0 ≤ w ∧ w < 9) ∧ (0 ≤ d ∧ d < 720) ∧ nn < 200 ∧ 0 ≤ v ∧ v ≤ (if w = 8 then 99 else 10000)
  · have cm := hcc.mpr c
    obtain ⟨p, hp, rfl⟩ := ix_ok (by omega) c.1
    obtain ⟨u, hu, rfl⟩ := ix_ok (n := 9) (by decide) c.2.1
    obtain ⟨c1, c2, c3, c4, c5⟩ := c
    have hv2 := hvv.mpr c5.2
    have hfp := (hc.2.2.1 p hp).1
    refine zRuns_mono (c_notec_ok hG J hc p u hp hu d v c3 c4 c5) ?_
    obtain ⟨N, hN⟩ : ∃ N, N = D.2.2.2 := ⟨_, rfl⟩
    obtain ⟨D1, hD1⟩ : ∃ D1, D1 = dR (dR (dN D 3 0) D.2.2.2 3 (rF D.2.2.1 (nLa D p) u)) (nLa D p) u (some D.2.2.2) := ⟨_, rfl⟩
    obtain ⟨I1, hI1⟩ : ∃ I1, I1 = zu2 (zu2 (zu2 (zu2 (iN D I) D.2.2.2 0 (I 32 10)) D.2.2.2 1 d) D.2.2.2 2 v) 32 9 (nI (nn + 1)) := ⟨_, rfl⟩
    obtain ⟨J1, hJ1⟩ : ∃ J1, J1 = jN D J := ⟨_, rfl⟩
    rw [← hD1, ← hI1, ← hJ1]
    rintro r σ1 ⟨rfl, rfl⟩
    have l1 := hfp.2.2.2.2.2
    have lk := hfp.2.2.2.1
    have rall : ∀ q j, ¬ q = N → ¬ (q = nLa D p ∧ j = u) → rF D1.2.2.1 q j = rF D.2.2.1 q j := fun q j q1 q2 => by
      rw [hD1]
      show rF (zu2 (zu2 (zu1 D.2.2.1 D.2.2.2 (fun _ => none)) D.2.2.2 3 _) (nLa D p) u _) q j = _
      rw [rF_o2 q2, rF_o2 (by omega), rF_o1 (by omega)]
    have hx : e18 D D1 := ⟨by rw [hD1]; exact Nat.le_succ _, fun q q1 q2 => ⟨by
        rw [hD1]
        show kF (zu1 D.1 D.2.2.2 3) q = _
        rw [kF_o (by omega)], by
        rw [hD1]
        show nF (zu1 D.2.1 D.2.2.2 0) q = _
        rw [nF_o (by omega)], fun q3 j => rall q j (by omega) (fun e => q3 (by rw [e.1]; exact lk))⟩, fun q j q1 => rall q j (by omega) (by omega)⟩
    have nx1 : D1.2.2.2 = N + 1 := by rw [hD1, hN]; rfl
    have rN3 : rF D1.2.2.1 N 3 = rF D.2.2.1 (nLa D p) u := by
      rw [hD1, hN]
      show rF (zu2 (zu2 (zu1 D.2.2.1 D.2.2.2 (fun _ => none)) D.2.2.2 3 _) (nLa D p) u _) D.2.2.2 3 = _
      rw [rF_o2 (by omega), rF_s2 (rT_dyn h85)]
    have rL : rF D1.2.2.1 (nLa D p) u = some N := by
      rw [hD1, hN]
      exact rF_s2 (rT_dyn (by omega))
    have kN : kF D1.1 N = 3 := by
      rw [hD1, hN]
      exact kF_s h85
    have ex1 : ∀ a b, ¬ a = N → ¬ (a = 32 ∧ b = 9) → I1 a b = I a b := fun a b x z => by
      rw [hI1, zu2_n z, zu2_a (by omega), zu2_a (by omega), zu2_a (by omega)]
      show zu1 I D.2.2.2 _ a b = _
      rw [zu1_n (by omega)]
    have eI0 : I1 N 0 = I 32 10 := by rw [hI1, hN, zu2_a (by omega), zu2_b (by decide), zu2_b (by decide), zu2_s]
    have eI1 : I1 N 1 = d := by rw [hI1, hN, zu2_a (by omega), zu2_b (by decide), zu2_s]
    have eI2 : I1 N 2 = v := by rw [hI1, hN, zu2_a (by omega), zu2_s]
    have e329 : I1 32 9 = nI (nn + 1) := by rw [hI1, zu2_s]
    have jx : ∀ a b, a < N → J1 a b = J a b := fun a b x => by
      rw [hJ1]
      show zu1 J D.2.2.2 _ a b = _
      rw [zu1_n (by omega)]
    have hN85 : 85 ≤ N := by omega
    clear hI1 hJ1 hD1
    refine ⟨⟨_, rfl⟩, rfl, zRuns_mono (c_X11_note hG D1 I1 J1 (nI p) (nI u) d v (by rw [ex1 51 18 (by omega) (by omega)]; omega) (by rw [ex1 51 18 (by omega) (by omega)]; omega)) ?_⟩
    intro r2 σ2 hq
    rw [ex1 51 18 (by omega) (by omega), ex1 51 3 (by omega) (by omega), ex1 51 15 (by omega) (by omega), hn.2.1, hnn.2.1, nI_clamp (by omega)] at hq
    obtain ⟨rfl, rfl⟩ := hq.1 cm
    have en : nI nn + 1 = nI (nn + 1) := zi1 nn
    rw [en]
    refine ⟨rfl, D1, _, J1, n, nf, nn + 1, nt, td, ts, rfl, ?_⟩
    have ex : ∀ a b, ¬ a = N → ¬ (a = 32 ∧ b = 9) → ¬ (a = 51 ∧ (b = 2 ∨ b = 18)) → ¬ ((63 ≤ a ∧ a ≤ 67) ∧ b = nn) → zu2 (zu2 (zu2 (zu2 (zu2 (zu2 (zu2 I1 51 2 0) 63 nn (nI p)) 64 nn (nI u)) 65 nn d) 66 nn (I 51 3)) 67 nn v) 51 18 (nI (nn + 1)) a b = I a b := fun a b x1 x3 x4 x5 => by
      rw [zu2_n (by omega), zu2_n (by omega), zu2_n (by omega), zu2_n (by omega), zu2_n (by omega), zu2_n (by omega), zu2_n (by omega), ex1 a b x1 x3]
    have f18 : zu2 (zu2 (zu2 (zu2 (zu2 (zu2 (zu2 I1 51 2 0) 63 nn (nI p)) 64 nn (nI u)) 65 nn d) 66 nn (I 51 3)) 67 nn v) 51 18 (nI (nn + 1)) 51 18 = nI (nn + 1) := zu2_s
    have f9 : zu2 (zu2 (zu2 (zu2 (zu2 (zu2 (zu2 I1 51 2 0) 63 nn (nI p)) 64 nn (nI u)) 65 nn d) 66 nn (I 51 3)) 67 nn v) 51 18 (nI (nn + 1)) 32 9 = nI (nn + 1) := by
      rw [zu2_n (by omega), zu2_n (by omega), zu2_n (by omega), zu2_n (by omega), zu2_n (by omega), zu2_n (by omega), zu2_n (by omega), e329]
    have f63 : zu2 (zu2 (zu2 (zu2 (zu2 (zu2 (zu2 I1 51 2 0) 63 nn (nI p)) 64 nn (nI u)) 65 nn d) 66 nn (I 51 3)) 67 nn v) 51 18 (nI (nn + 1)) 63 nn = nI p := by rw [zu2_n (by omega), zu2_n (by omega), zu2_n (by omega), zu2_n (by omega), zu2_n (by omega), zu2_s]
    have f64 : zu2 (zu2 (zu2 (zu2 (zu2 (zu2 (zu2 I1 51 2 0) 63 nn (nI p)) 64 nn (nI u)) 65 nn d) 66 nn (I 51 3)) 67 nn v) 51 18 (nI (nn + 1)) 64 nn = nI u := by rw [zu2_n (by omega), zu2_n (by omega), zu2_n (by omega), zu2_n (by omega), zu2_s]
    have f65 : zu2 (zu2 (zu2 (zu2 (zu2 (zu2 (zu2 I1 51 2 0) 63 nn (nI p)) 64 nn (nI u)) 65 nn d) 66 nn (I 51 3)) 67 nn v) 51 18 (nI (nn + 1)) 65 nn = d := by rw [zu2_n (by omega), zu2_n (by omega), zu2_n (by omega), zu2_s]
    have f66 : zu2 (zu2 (zu2 (zu2 (zu2 (zu2 (zu2 I1 51 2 0) 63 nn (nI p)) 64 nn (nI u)) 65 nn d) 66 nn (I 51 3)) 67 nn v) 51 18 (nI (nn + 1)) 66 nn = I 51 3 := by rw [zu2_n (by omega), zu2_n (by omega), zu2_s]
    have f67 : zu2 (zu2 (zu2 (zu2 (zu2 (zu2 (zu2 I1 51 2 0) 63 nn (nI p)) 64 nn (nI u)) 65 nn d) 66 nn (I 51 3)) 67 nn v) 51 18 (nI (nn + 1)) 67 nn = v := by rw [zu2_n (by omega), zu2_s]
    have fN : ∀ b, zu2 (zu2 (zu2 (zu2 (zu2 (zu2 (zu2 I1 51 2 0) 63 nn (nI p)) 64 nn (nI u)) 65 nn d) 66 nn (I 51 3)) 67 nn v) 51 18 (nI (nn + 1)) N b = I1 N b := fun b => by
      rw [zu2_n (by omega), zu2_n (by omega), zu2_n (by omega), zu2_n (by omega), zu2_n (by omega), zu2_n (by omega), zu2_n (by omega)]
    clear hq
    generalize zu2 (zu2 (zu2 (zu2 (zu2 (zu2 (zu2 I1 51 2 0) 63 nn (nI p)) 64 nn (nI u)) 65 nn d) 66 nn (I 51 3)) 67 nn v) 51 18 (nI (nn + 1)) = I' at *
    have eT : ∀ t, t < nt → kSt D1 t ∧ nSt D1 t = nSt D t ∧ nRw D1 t = nRw D t := fun t ht => kSt_e hx (hc.2.1 t ht).1
    have eF : ∀ i, i < n → kFa D1 i ∧ nFa D1 i = nFa D i ∧ nLa D1 i = nLa D i := fun i hi => kFa_e hx (hc.2.2.1 i hi).1
    have eR : ∀ f, f < nf → kFi D1 f ∧ nFi D1 f = nFi D f ∧ nFj D1 f = nFj D f ∧ nFh D1 f = nFh D f ∧ nFs D1 f = nFs D f := fun f hf => kFi_e hx (hc.2.2.2.2.2 f hf).1
    have hcI := h.2.1
    have hMo := h.2.2.1
    refine cAll_r ⟨?_, fun t ht => ?_, fun i hi => ?_, fun i hi x hx' => ?_, fun j hj => ?_, fun f hf => ?_⟩ ⟨fun i j x y => ?_, fun i j x y => ?_, fun i j x y => ?_, fun i j x y => ?_, fun i j x y => ?_, fun i j x y => ?_⟩ ⟨fun i hi => ?_, fun f hf k hk => ?_, fun i x y => ?_, fun i x y => ?_⟩ (fun a b q => by unfold uB at q; exact ex a b (by omega) (by omega) (by omega) (by omega)) (fun b => ⟨jx 50 b (by omega), jx 78 b (by omega)⟩) ⟨by omega, fun j hj => ?_⟩ h
    · unfold cS
      rw [f18, f9, ex 51 24 (by omega) (by omega) (by omega) (by omega), ex 32 8 (by omega) (by omega) (by omega) (by omega), ex 51 15 (by omega) (by omega) (by omega) (by omega), ex 32 7 (by omega) (by omega) (by omega) (by omega), ex 51 4 (by omega) (by omega) (by omega) (by omega), ex 37 0 (by omega) (by omega) (by omega) (by omega), ex 51 3 (by omega) (by omega) (by omega) (by omega), ex 32 10 (by omega) (by omega) (by omega) (by omega)]
      exact ⟨hn, hnf, ⟨by omega, rfl, rfl⟩, hnt, htd⟩
    · obtain ⟨q1, q2, q3⟩ := eT t ht
      have w1 := (hc.2.1 t ht).1.2.2.2.2.2
      exact ⟨q1, pT2 (fun b => ex _ b (by omega) (by omega) (by omega) (by omega)) (fun b => ex _ b (by omega) (by omega) (by omega) (by omega)) (fun a b x y => ex a b (by omega) (by omega) (by omega) (by omega)) (ex 55 t (by omega) (by omega) (by omega) (by omega)) (fun a b x y => ex a b (by omega) (by omega) (by omega) (by omega)) (by omega) (vSt_n q2 q3 (hc.2.1 t ht).2)⟩
    · obtain ⟨q1, q2, q3⟩ := eF i hi
      have w1 := (hc.2.2.1 i hi).1.2.2.2.2.2
      rw [q2, ex _ 0 (by omega) (by omega) (by omega) (by omega), ex _ 1 (by omega) (by omega) (by omega) (by omega), ex 61 i (by omega) (by omega) (by omega) (by omega), ex 62 i (by omega) (by omega) (by omega) (by omega)]
      exact ⟨q1, (hc.2.2.1 i hi).2⟩
    · obtain ⟨ps, p1, p2, p3⟩ := hc.2.2.2.1 i hi x hx'
      have w1 := (hc.2.2.1 i hi).1.2.2.2.2.2
      have p4 : nCh I' (nI i) (nI x) nn ps := nCh_q nn ps (fun a b y1 y2 y3 => ex a b (by omega) (by omega) (by omega) (by omega)) (fun q hq b => by have := p3 q hq; exact ex q b (by omega) (by omega) (by omega) (by omega)) p2
      have p5 : ∀ o, sCh D ps o → sCh D1 ps o := fun o q => sCh_e hx ps o p3 q
      by_cases e : i = p ∧ x = u
      · obtain ⟨rfl, rfl⟩ := e
        refine ⟨N :: ps, ?_, ⟨fun _ => ⟨N, ps, rfl, ?_, ?_, ?_, p4⟩, fun q => absurd ⟨f63, f64⟩ q⟩, fun q hq => ?_⟩
        · rw [(eF i hi).2.2, rL]
          exact ⟨rfl, kN, by rw [rN3]; exact p5 _ p1⟩
        · rw [fN, eI0, f66, htd.2.1, htd.2.2]
        · rw [fN, eI1, f65]
        · rw [fN, eI2, f67]
        · rcases List.mem_cons.mp hq with e | e
          · omega
          · have := p3 q e; omega
      · refine ⟨ps, ?_, ⟨fun q => ?_, fun _ => p4⟩, fun q hq => by have := p3 q hq; omega⟩
        · rw [(eF i hi).2.2, rall _ _ (by omega) (fun q => ?_)]
          · exact p5 _ p1
          · refine e ⟨?_, q.2⟩
            rcases Nat.decEq i p with z | z
            · exact absurd q.1 (ne_of_mono hcI.2.2.1 hi hp z)
            · exact z
        · rw [f63, f64] at q
          exact absurd ⟨(nI_i2 (by omega) (by omega) q.1).symm, (nI_i2 (by omega) (by omega) q.2).symm⟩ e
    · by_cases e : j = nn
      · rw [e, f65, f67]
        have q1 := c3.1
        have q2 := c5.1
        have q3 := hv2.1
        rw [Int32.le_iff_toInt_le] at q1 q2 q3
        exact ⟨q1, q2, q3⟩
      · rw [ex 65 j (by omega) (by omega) (by omega) (by omega), ex 67 j (by omega) (by omega) (by omega) (by omega)]
        exact hc.2.2.2.2.1 j (by omega)
    · obtain ⟨q1, q2, q3, q4, q5⟩ := eR f hf
      have w1 := (hc.2.2.2.2.2 f hf).1.1
      have w2 := (hc.2.2.2.2.2 f hf).1.2.1
      have w3 := (hc.2.2.2.2.2 f hf).1.2.2.1
      exact ⟨q1, pFi2 (fun b => ex _ b (by omega) (by omega) (by omega) (by omega)) (fun a x y => ex a f (by omega) (by omega) (by omega) (by omega)) (fun i hi => ⟨ex _ _ (by omega) (by omega) (by omega) (by omega), ex 72 _ (by omega) (by omega) (by omega) (by omega)⟩) (fun i hi => ⟨ex _ _ (by omega) (by omega) (by omega) (by omega), ex 73 _ (by omega) (by omega) (by omega) (by omega)⟩) (vFi_n (Nat.le_refl _) q2 q3 q4 (hc.2.2.2.2.2 f hf).2)⟩
    · rw [(eT i (by omega)).2.1, (eT j y).2.1]; exact hcI.1 i j x y
    · rw [(eF i (by omega)).2.1, (eF j y).2.1]; exact hcI.2.1 i j x y
    · rw [(eF i (by omega)).2.2, (eF j y).2.2]; exact hcI.2.2.1 i j x y
    · rw [(eR i (by omega)).2.1, (eR j y).2.1]; exact hcI.2.2.2.1 i j x y
    · rw [(eR i (by omega)).2.2.2.1, (eR j y).2.2.2.1]; exact hcI.2.2.2.2.1 i j x y
    · rw [(eR i (by omega)).2.2.2.2, (eR j y).2.2.2.2]; exact hcI.2.2.2.2.2 i j x y
    · have w1 := (hc.2.2.1 i hi).1.2.2.2.2.2
      rw [(eF i hi).2.1, jx _ _ (by omega), jx 75 i (by omega)]; exact hMo.1 i hi
    · have w1 := (hc.2.2.2.2.2 f hf).1.2.2.2
      rw [(eR f hf).2.2.2.2, jx _ _ (by omega), jx 74 _ (by omega)]; exact hMo.2.1 f hf k hk
    · rw [jx 75 i (by omega)]; exact hMo.2.2.1 i (by omega) y
    · rw [jx 74 i (by omega)]; exact hMo.2.2.2 i x y
    · by_cases e : j = nn
      · rw [e, f63]; exact ⟨p, hp, rfl⟩
      · rw [ex 63 j (by omega) (by omega) (by omega) (by omega)]
        exact h.2.2.2.2.2.2.2 j (by omega)
  · refine zRuns_mono (c_notec_no hG J hc f w d v c) ?_
    rintro r σ1 ⟨rfl, rfl⟩
    refine ⟨⟨_, rfl⟩, rfl, zRuns_mono (c_X11_note hG D I J f w d v (by omega) (by omega)) ?_⟩
    intro r2 σ2 hp
    rw [hn.2.1, hnn.2.1] at hp
    obtain ⟨rfl, rfl⟩ := hp.2 (fun q => c (hcc.mp q))
    exact ⟨rfl, D, _, J, n, nf, nn, nt, td, ts, rfl, cAll_th h⟩
end
