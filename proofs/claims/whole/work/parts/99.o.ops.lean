section
variable {l : Launch} {G : zG}
theorem op_count (hG : zOK l G) (w : Int32) : zOp l G mX10_count mX11_count [.int w] := by
  rintro σ ⟨D, I, J, n, nf, nn, nt, td, ts, rfl, h⟩
  have hc := h.1
  refine zRuns_mono (c_X10_count hG D I J w) ?_
  rintro r σ1 ⟨rfl, rfl⟩
  refine ⟨⟨_, rfl⟩, rfl, zRuns_mono (c_X11_count hG D I J nt hc.1.2.2.2.1.1 hc.1.2.2.2.1.2.1 w) ?_⟩
  rintro r2 σ2 ⟨rfl, rfl⟩
  refine ⟨?_, D, _, J, n, nf, nn, nt, td, ts, rfl, cAll_th h⟩
  unfold sCnt sCntC
  rw [hc.1.2.2.2.2.2.1, hc.1.2.2.2.2.2.2, hc.1.1.2.1, hc.1.1.2.2, hc.1.2.2.2.1.2.1, hc.1.2.2.2.1.2.2, hc.1.2.2.1.2.1, hc.1.2.2.1.2.2, hc.1.2.1.2.1, hc.1.2.1.2.2, h.2.2.2.2.2.1.2.2.1, h.2.2.2.1.2]
theorem op_booked (hG : zOK l G) (k w : Int32) : zOpJ l G mX10_booked mX11_booked [.int k, .int w] := by
  rintro σ ⟨D, I, J, n, nf, nn, nt, td, ts, rfl, h⟩
  obtain ⟨⟨nb, b1, b2, b3, b4⟩, b5⟩ := h.2.2.2.1
  refine zRuns_mono (c_X10_booked hG D I J k w (by rw [b2, nI_toInt (by omega)]; omega)) ?_
  rintro r σ1 ⟨rfl, rfl⟩
  refine ⟨⟨_, rfl⟩, rfl, zRuns_mono (c_X11_booked hG D I J k w (by rw [b3, nI_toInt (by omega)]; omega)) ?_⟩
  rintro r2 σ2 ⟨rfl, rfl⟩
  refine ⟨?_, D, _, J, n, nf, nn, nt, td, ts, rfl, cAll_th h⟩
  rw [b2, b3]
  by_cases c : 0 ≤ k ∧ k < nI nb
  · obtain ⟨j, hj, rfl⟩ := ix_ok (by omega) c
    rw [if_pos c, if_pos c, nI_clamp (by omega), (b4 j hj).1, (b4 j hj).2.1, (b4 j hj).2.2]
  · rw [if_neg c, if_neg c]
theorem op_pass (hG : zOK l G) (d : Int32) : zOp l G mX10_pass mX11_pass [.int d] := by
  rintro σ ⟨D, I, J, n, nf, nn, nt, td, ts, rfl, h⟩
  have hc := h.1
  have htd := hc.1.2.2.2.2
  have e3 : I 51 3 = I 32 10 := htd.2.1.trans htd.2.2.symm
  have ht : (I 32 10).toInt = (td : Int) := by rw [htd.2.2]; exact nI_toInt (by omega)
  refine zRuns_mono (c_X10_pass hG D I J d (by omega) (by omega)) ?_
  intro r σ1 hp
  by_cases c : 0 ≤ d ∧ d ≤ 720 ∧ I 32 10 + d ≤ 719
  · obtain ⟨rfl, rfl⟩ := hp.1 c
    refine ⟨⟨_, rfl⟩, rfl, zRuns_mono (c_X11_pass hG D (zu2 I 32 10 (I 32 10 + d)) J d) ?_⟩
    intro r2 σ2 hq
    rw [zu2_a (by decide), e3] at hq
    obtain ⟨rfl, rfl⟩ := hq.1 c
    obtain ⟨c1, c2, c3⟩ := c
    rw [Int32.le_iff_toInt_le] at c1 c2 c3
    have e0 : (0 : Int32).toInt = 0 := rfl
    have e7 : (720 : Int32).toInt = 720 := rfl
    have e9 : (719 : Int32).toInt = 719 := rfl
    have hb : (I 32 10 + d).toInt = (I 32 10).toInt + d.toInt := by
      rw [Int32.toInt_add, Int.bmod_eq_of_le (by omega) (by omega)]
    obtain ⟨v, v1, v2⟩ := i32_nat (x := I 32 10 + d) (by omega) (m := 719) (by omega) (by decide)
    rw [v2]
    refine ⟨rfl, D, _, J, n, nf, nn, nt, v, ts, rfl, ?_⟩
    obtain ⟨h1, h2, h3, h4, h5, h6, h7⟩ := h
    have e51 : ∀ b, ¬ b = 2 → ¬ b = 3 → zu2 (zu2 (zu2 I 32 10 (nI v)) 51 2 0) 51 3 (nI v) 51 b = I 51 b := fun b x y => by rw [zu2_b y, zu2_b x, zu2_a (by decide)]
    have e32 : ∀ b, ¬ b = 10 → zu2 (zu2 (zu2 I 32 10 (nI v)) 51 2 0) 51 3 (nI v) 32 b = I 32 b := fun b x => by rw [zu2_a (by decide), zu2_a (by decide), zu2_b x]
    have ex : ∀ a b, ¬ a = 51 → ¬ a = 32 → zu2 (zu2 (zu2 I 32 10 (nI v)) 51 2 0) 51 3 (nI v) a b = I a b := fun a b x y => by rw [zu2_a x, zu2_a x, zu2_a y]
    have x3 : zu2 (zu2 (zu2 I 32 10 (nI v)) 51 2 0) 51 3 (nI v) 51 3 = nI v := zu2_s
    have x10 : zu2 (zu2 (zu2 I 32 10 (nI v)) 51 2 0) 51 3 (nI v) 32 10 = nI v := by rw [zu2_a (by decide), zu2_a (by decide), zu2_s]
    generalize zu2 (zu2 (zu2 I 32 10 (nI v)) 51 2 0) 51 3 (nI v) = I' at *
    have hs : cS I' n nf nn nt v := by
      have p1 := h1.1
      unfold cS at *
      rw [e51 15 (by decide) (by decide), e51 24 (by decide) (by decide), e51 18 (by decide) (by decide), e51 4 (by decide) (by decide), e32 7 (by decide), e32 8 (by decide), e32 9 (by decide), ex 37 0 (by decide) (by decide), x3, x10]
      exact ⟨p1.1, p1.2.1, p1.2.2.1, p1.2.2.2.1, by omega, rfl, rfl⟩
    obtain ⟨⟨nb, b1, b2, b3, b4⟩, b5⟩ := h4
    refine ⟨cpR_sc hs (fun a b q => ex a b (by unfold uH at q; omega) (by unfold uH at q; omega)) h1, h2, h3, ⟨⟨nb, b1, ?_, ?_, fun i hi => ?_⟩, ?_⟩, ⟨h5.1, ?_, ?_, fun j hj => ?_⟩, ⟨?_, ?_, ?_, fun j hj => ?_⟩, h7.1, cKn_fr (fun b => ex 63 b (by decide) (by decide)) h7.2⟩
    · rw [ex 47 0 (by decide) (by decide)]; exact b2
    · rw [e51 36 (by decide) (by decide)]; exact b3
    · rw [ex 48 i (by decide) (by decide), ex 49 i (by decide) (by decide), ex 76 i (by decide) (by decide), ex 77 i (by decide) (by decide)]; exact b4 i hi
    · rw [ex 47 1 (by decide) (by decide), e51 37 (by decide) (by decide)]; exact b5
    · rw [ex 34 0 (by decide) (by decide)]; exact h5.2.1
    · rw [e51 1 (by decide) (by decide)]; exact h5.2.2.1
    · rw [ex 35 j (by decide) (by decide), ex 52 j (by decide) (by decide)]; exact h5.2.2.2 j hj
    · rw [ex 33 1 (by decide) (by decide), e51 13 (by decide) (by decide)]; exact h6.1
    · rw [ex 33 2 (by decide) (by decide), e51 14 (by decide) (by decide)]; exact h6.2.1
    · rw [ex 37 1 (by decide) (by decide), sLn_c nt (fun t ht => ex 60 t (by decide) (by decide))]; exact h6.2.2.1
    · rw [ex 79 j (by decide) (by decide)]; exact h6.2.2.2 j hj
  · obtain ⟨rfl, rfl⟩ := hp.2 c
    refine ⟨⟨_, rfl⟩, rfl, zRuns_mono (c_X11_pass hG D I J d) ?_⟩
    intro r2 σ2 hq
    rw [e3] at hq
    obtain ⟨rfl, rfl⟩ := hq.2 c
    exact ⟨rfl, D, _, J, n, nf, nn, nt, td, ts, rfl, cAll_th h⟩
end
