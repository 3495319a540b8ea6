theorem sPs_u {A : Int64} {say : Nat → Int32} {f : Nat} {P P' : Nat → Int64} (h : sPs A say f P) (h' : sPs A say f P') : ∀ w, w < 6 → P w = P' w := fun w hw => by
  obtain ⟨a1, a2, a3, a4⟩ := h
  obtain ⟨b1, b2, b3, b4⟩ := h'
  by_cases c0 : w = 0
  · rw [c0, a1, b1]
  · by_cases c1 : w = 1
    · rw [c1, a2, b2]
    · by_cases c5 : w = 5
      · rw [c5, a4, b4]
      · have : ∃ k, k < 3 ∧ 2 + (f + k) % 3 = w := by
          rcases (by omega : (f % 3 = 0) ∨ (f % 3 = 1) ∨ (f % 3 = 2)) with e | e | e
          · exact ⟨w - 2, by omega, by omega⟩
          · rcases (by omega : w = 2 ∨ w = 3 ∨ w = 4) with x | x | x
            · exact ⟨2, by omega, by omega⟩
            · exact ⟨0, by omega, by omega⟩
            · exact ⟨1, by omega, by omega⟩
          · rcases (by omega : w = 2 ∨ w = 3 ∨ w = 4) with x | x | x
            · exact ⟨1, by omega, by omega⟩
            · exact ⟨2, by omega, by omega⟩
            · exact ⟨0, by omega, by omega⟩
        obtain ⟨k, k1, k2⟩ := this
        rw [← k2, a3 k k1, b3 k k1]
theorem kn_lt {td : Nat} (h : td < 720) {kn : Int32} (hk : kn ≤ nI td) : kn < 720 := by
  rw [Int32.le_iff_toInt_le, nI_toInt (by omega)] at hk
  rw [Int32.lt_iff_toInt_lt, show (720 : Int32).toInt = 720 from rfl]
  omega
section
variable {l : Launch} {G : zG}
theorem op_award (hG : zOK l G) (f kn w : Int32) : zOpJ l G mX10_award mX11_award [.int f, .int kn, .int w] := by
  rintro σ ⟨D, I, J, n, nf, nn, nt, td, ts, rfl, h⟩
  have hc := h.1
  have htd := hc.1.2.2.2.2
  have hnf := hc.1.2.1
  have e3 : I 51 3 = I 32 10 := htd.2.1.trans htd.2.2.symm
  have t24 : (I 51 24).toInt = (nf : Int) := by rw [hnf.2.1]; exact nI_toInt (by omega)
  have h65 : (0 ≤ w ∧ w ≤ 5) ↔ (0 ≤ w ∧ w < 6) := by
    rw [Int32.le_iff_toInt_le, Int32.le_iff_toInt_le, Int32.lt_iff_toInt_lt, show (5 : Int32).toInt = 5 from rfl, show (6 : Int32).toInt = 6 from rfl]
    omega
  by_cases c : ((0 ≤ f ∧ f < nI nf) ∧ I 69 f.toNatClampNeg ≤ kn ∧ kn ≤ I 32 10) ∧ 0 ≤ w ∧ w < 6
  · obtain ⟨k, hk, rfl⟩ := ix_ok (by omega) c.1.1
    obtain ⟨j, hj, rfl⟩ := ix_ok (n := 6) (by decide) c.2
    have hcl : (nI k).toNatClampNeg = k := nI_clamp (by omega)
    have c1 := c.1.2
    rw [hcl] at c1
    obtain ⟨dd, d1, d2⟩ := (hc.2.2.2.2.2 k hk).2.2.2.2.2.1
    have cdd : (nI dd).toNatClampNeg = dd := nI_clamp (by omega)
    have hkn : kn < 720 := kn_lt htd.1 (by rw [← htd.2.2]; exact c1.2)
    refine zRuns_mono (c_award_ok hG J hc k hk kn c1 hkn j hj) ?_
    rintro r σ1 ⟨P, J1, rfl, hP, rfl, hJ1⟩
    refine ⟨⟨_, rfl⟩, rfl, zRuns_mono (c_X11_award_ok hG D I J1 k (by omega) (by rw [hnf.2.1]; exact (nI_ltI (by omega) (by omega)).mpr hk) (by omega) (by omega) kn c1.1 (by rw [e3]; exact c1.2) j hj dd d1 d2 nn hc.1.2.2.1.1 hc.1.2.2.1.2.1 nt hc.1.2.2.2.1.1 hc.1.2.2.2.1.2.1 (sSy I nt k kn) (sCn I nn k kn) (sLo I k) (fun w => by unfold sSy; rw [d2, cdd]) (fun w => by unfold sCn; rw [d2]) (fun c => rfl)) ?_⟩
    rintro r2 σ2 ⟨P2, J2, rfl, hP2, rfl, hJ2⟩
    refine ⟨by rw [sPs_u hP2 hP j hj], D, _, J2, n, nf, nn, nt, td, ts, rfl, cAll_th (cAll_fr (fun _ _ _ => rfl) (fun a b q => by rw [hJ2 a b (by omega), hJ1 a b (by omega)]) h)⟩
  · refine zRuns_mono (c_award_no hG J hc f kn w c) ?_
    rintro r σ1 ⟨rfl, rfl⟩
    refine ⟨⟨_, rfl⟩, rfl, zRuns_mono (c_X11_award_no hG D I J f kn w (by omega) (by omega) (by rw [hnf.2.1, e3, h65]; exact c)) ?_⟩
    rintro r2 σ2 ⟨rfl, rfl⟩
    exact ⟨rfl, D, _, J, n, nf, nn, nt, td, ts, rfl, cAll_th h⟩
theorem op_call (hG : zOK l G) (f k kn : Int32) : zOpJ l G mX10_call mX11_call [.int f, .int k, .int kn] := by
  rintro σ ⟨D, I, J, n, nf, nn, nt, td, ts, rfl, h⟩
  have hc := h.1
  have htd := hc.1.2.2.2.2
  have hnf := hc.1.2.1
  have hn := hc.1.1
  have e3 : I 51 3 = I 32 10 := htd.2.1.trans htd.2.2.symm
  have t24 : (I 51 24).toInt = (nf : Int) := by rw [hnf.2.1]; exact nI_toInt (by omega)
  by_cases c : ((0 ≤ f ∧ f < nI nf) ∧ I 69 f.toNatClampNeg ≤ kn ∧ kn ≤ I 32 10) ∧ 0 ≤ k ∧ k < nI n
  · obtain ⟨p, hp, rfl⟩ := ix_ok (by omega) c.1.1
    obtain ⟨j, hj, rfl⟩ := ix_ok (by omega) c.2
    have hcl : (nI p).toNatClampNeg = p := nI_clamp (by omega)
    have c1 := c.1.2
    rw [hcl] at c1
    obtain ⟨dd, d1, d2⟩ := (hc.2.2.2.2.2 p hp).2.2.2.2.2.1
    have cdd : (nI dd).toNatClampNeg = dd := nI_clamp (by omega)
    have hkn : kn < 720 := kn_lt htd.1 (by rw [← htd.2.2]; exact c1.2)
    refine zRuns_mono (c_callc_ok hG J hc p hp j hj kn c1 hkn) ?_
    rintro r σ1 ⟨rfl, J1, rfl, hJ1⟩
    refine ⟨⟨_, rfl⟩, rfl, zRuns_mono (c_call_ok hG D I J1 n p j hn.1 hj hn.2.1 (by omega) (by rw [hnf.2.1]; exact (nI_ltI (by omega) (by omega)).mpr hp) (by omega) (by omega) kn c1.1 (by rw [e3]; exact c1.2) dd d1 d2 nn hc.1.2.2.1.1 hc.1.2.2.1.2.1 nt hc.1.2.2.2.1.1 hc.1.2.2.2.1.2.1 (sSy I nt p kn) (sCn I nn p kn) (sLo I p) (fun w => by unfold sSy; rw [d2, cdd]) (fun w => by unfold sCn; rw [d2]) (fun c => rfl) (sWg I nn nt p kn) (fun k => by unfold sWg; rw [d2])) ?_⟩
    rintro r2 σ2 ⟨P2, J2, rfl, hP2, rfl, hJ2⟩
    refine ⟨by rw [hP2.2.2.2]; rfl, D, _, J2, n, nf, nn, nt, td, ts, rfl, cAll_th (cAll_fr (fun _ _ _ => rfl) (fun a b q => by rw [hJ2 a b (by omega) (by omega) (by omega) (by omega), hJ1 a b (by omega) (by omega) (by omega) (by omega)]) h)⟩
  · refine zRuns_mono (c_callc_no hG J hc f k kn c) ?_
    rintro r σ1 ⟨rfl, rfl⟩
    refine ⟨⟨_, rfl⟩, rfl, zRuns_mono (c_call_no hG D I J f k kn (by omega) (by omega) (by rw [hnf.2.1, e3, hn.2.1]; exact c)) ?_⟩
    rintro r2 σ2 ⟨rfl, rfl⟩
    exact ⟨rfl, D, _, J, n, nf, nn, nt, td, ts, rfl, cAll_th h⟩
theorem op_feed (hG : zOK l G) (a b c d e : Int32) : zOp l G mX10_feed mX11_feed [.int a, .int b, .int c, .int d, .int e] := by
  rintro σ ⟨D, I, J, n, nf, nn, nt, td, ts, rfl, h⟩
  have hT := h.2.2.2.2.1
  by_cases q : ts + 20 ≤ 1000
  · refine zRuns_mono (c_feedc_ok hG D I J a b c d e ts hT.2.1 q) ?_
    rintro r σ1 ⟨rfl, I1, rfl, a1, a2, a3⟩
    refine ⟨⟨_, rfl⟩, rfl, zRuns_mono (c_feed_ok hG D I1 J a b c d e ts (by rw [a3 51 1 (by omega) (by omega)]; exact hT.2.2.1) q) ?_⟩
    rintro r2 σ2 ⟨rfl, I2, rfl, b1, b2, b3⟩
    refine ⟨rfl, D, I2, J, n, nf, nn, nt, td, ts + 20, rfl, ?_⟩
    have ex : ∀ x y, ¬ (x = 34 ∧ y = 0) → ¬ x = 35 → ¬ x = 52 → ¬ (x = 51 ∧ (y = 1 ∨ y = 2)) → I2 x y = I x y := fun x y x1 x2 x3 x4 => by rw [b3 x y (by omega) x4, a3 x y x1 (by omega)]
    obtain ⟨h1, h2, h3, h4, h5, h6, h7⟩ := h
    obtain ⟨⟨nb, n1, n2, n3, n4⟩, n5⟩ := h4
    refine ⟨cpR_fr (fun x y u => ex x y (by unfold uR at u; omega) (by unfold uR at u; omega) (by unfold uR at u; omega) (by unfold uR at u; omega)) h1, h2, h3, ⟨⟨nb, n1, ?_, ?_, fun i hi => ?_⟩, ?_⟩, ⟨q, ?_, b1, fun j hj => ?_⟩, ⟨?_, ?_, ?_, fun j hj => ?_⟩, h7.1, cKn_fr (fun b => ex 63 b (by omega) (by omega) (by omega) (by omega)) h7.2⟩
    · rw [ex 47 0 (by omega) (by omega) (by omega) (by omega)]; exact n2
    · rw [ex 51 36 (by omega) (by omega) (by omega) (by omega)]; exact n3
    · rw [ex 48 i (by omega) (by omega) (by omega) (by omega), ex 49 i (by omega) (by omega) (by omega) (by omega), ex 76 i (by omega) (by omega) (by omega) (by omega), ex 77 i (by omega) (by omega) (by omega) (by omega)]; exact n4 i hi
    · rw [ex 47 1 (by omega) (by omega) (by omega) (by omega), ex 51 37 (by omega) (by omega) (by omega) (by omega)]; exact n5
    · rw [b3 34 0 (by omega) (by omega)]; exact a1
    · by_cases e1 : j < ts
      · rw [b3 35 j (by omega) (by omega), b3 52 j (by omega) (by omega), a3 35 j (by omega) (by omega), a3 52 j (by omega) (by omega)]
        exact h5.2.2.2 j e1
      · have e2 : j = ts + (j - ts) := by omega
        rw [e2, b3 35 _ (by omega) (by omega), a2 _ (by omega), b2 _ (by omega)]
    · rw [ex 33 1 (by omega) (by omega) (by omega) (by omega), ex 51 13 (by omega) (by omega) (by omega) (by omega)]; exact h6.1
    · rw [ex 33 2 (by omega) (by omega) (by omega) (by omega), ex 51 14 (by omega) (by omega) (by omega) (by omega)]; exact h6.2.1
    · rw [ex 37 1 (by omega) (by omega) (by omega) (by omega), sLn_c nt (fun t ht => ex 60 t (by omega) (by omega) (by omega) (by omega))]; exact h6.2.2.1
    · rw [ex 79 j (by omega) (by omega) (by omega) (by omega)]; exact h6.2.2.2 j hj
  · refine zRuns_mono (c_feedc_no hG D I J a b c d e ts hT.1 hT.2.1 q) ?_
    rintro r σ1 ⟨rfl, rfl⟩
    refine ⟨⟨_, rfl⟩, rfl, zRuns_mono (c_feed_no hG D I J a b c d e ts hT.1 hT.2.2.1 q) ?_⟩
    rintro r2 σ2 ⟨rfl, rfl⟩
    exact ⟨rfl, D, _, J, n, nf, nn, nt, td, ts, rfl, cAll_th h⟩
end
