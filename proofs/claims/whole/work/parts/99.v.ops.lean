theorem lnS57 : ∀ a, a < 18 → lnS a ≤ 57 → 57 < lnS a + lnM a → a = 12 ∧ 57 - lnS a = 1 := by decide +kernel
theorem lnS58 : ∀ a, a < 18 → lnS a ≤ 58 → 58 < lnS a + lnM a → a = 13 := by decide +kernel
theorem rOk_U {row : Nat → Int32} {x : pLn} (h : rOk row) (hx : lnO x) : rOk (lnU row x) := fun s hs => by
  unfold lnU
  by_cases c : lnS x.1 ≤ s ∧ s < lnS x.1 + lnM x.1
  · rw [if_pos c]
    obtain ⟨q1, q2, q3, q4⟩ := hx.2 (s - lnS x.1) (by omega)
    rw [Int32.le_iff_toInt_le, show (1000 : Int32).toInt = 1000 from rfl] at q2
    refine ⟨⟨by omega, q2⟩, fun e => ?_⟩
    rcases e with rfl | rfl
    · have := q3 (lnS57 x.1 hx.1 c.1 c.2)
      rw [Int32.le_iff_toInt_le, show (100 : Int32).toInt = 100 from rfl] at this
      exact this
    · have := q4 (lnS58 x.1 hx.1 c.1 c.2)
      rw [Int32.le_iff_toInt_le, show (100 : Int32).toInt = 100 from rfl] at this
      exact this
  · rw [if_neg c]
    exact h s hs
theorem rOk_c {row row' : Nat → Int32} (e : ∀ s, s < 63 → row' s = row s) (h : rOk row) : rOk row' := fun s hs => by rw [e s hs]; exact h s hs
theorem pTxt_o {B : Nat → Int32} {n : Nat} : ∀ (m k : Nat) (row : Nat → Int32) (ln : Nat) (row' : Nat → Int32) (ln' : Nat), rOk row → pTxt B n m k row ln = .inr (row', ln') → rOk row'
  | 0, _, row, ln, row', ln', h, e => by
    injection e with e
    injection e with e1 e2
    rw [← e1]; exact h
  | m + 1, k, row, ln, row', ln', h, e => by
    by_cases c : kd B n k = 0
    · rw [pTxt_0 c] at e
      injection e with e
      injection e with e1 e2
      rw [← e1]; exact h
    · rw [pTxt_s c] at e
      rcases hx : pRl B n k with y | ⟨x, k1⟩
      · rw [hx] at e; cases e
      · rw [hx] at e
        dsimp only at e
        have hO : lnO x := by
          unfold pRl at hx
          split at hx
          · exact (pLine_g hx).2
          · cases hx
        by_cases c2 : ¬ row (lnS x.1) = -1
        · rw [if_pos c2] at e; cases e
        · rw [if_neg c2] at e
          rcases hy : pSgn B n 59 k1 with y | ⟨w, k2⟩
          · rw [hy] at e; cases e
          · rw [hy] at e
            exact pTxt_o m k2 (lnU row x) (ln + 1) row' ln' (rOk_U h hO) e
theorem mRow_p {I I' : Nat → Nat → Int32} {t : Nat} {row : Nat → Int32} (h56 : ∀ b, 18 * t ≤ b → b < 18 * t + 18 → I' 56 b = I 56 b ∧ I' 57 b = I 57 b) (h58 : I' 58 t = I 58 t) (h59 : ∀ b, 48 * t ≤ b → b < 48 * t + 48 → I' 59 b = I 59 b) (hm : mRow I t row) : mRow I' t row := by
  intro key hk
  have hk2 := hm key hk
  unfold mRw at *
  rw [(h56 (18 * t + key) (by omega) (by omega)).1, (h56 (18 * t + key) (by omega) (by omega)).2, h58]
  rcases hk2 with q | ⟨q1, q2, q3, q4, q5, q6⟩
  · exact Or.inl q
  · exact Or.inr ⟨q1, q2, q3, q4, fun c i hi => by rw [h59 _ (by omega) (by omega)]; exact q5 c i hi, q6⟩
theorem mRow_e {I : Nat → Nat → Int32} {t : Nat} {row row' : Nat → Int32} (e : ∀ s, s < 63 → row' s = row s) (hm : mRow I t row) : mRow I t row' := by
  intro key hk
  have hk2 := hm key hk
  have hb := lnS_b key hk
  have hp := lnM_p key hk
  unfold mRw at *
  rcases hk2 with ⟨q1, q2⟩ | ⟨q1, q2, q3, q4, q5, q6⟩
  · exact Or.inl ⟨q1, fun i hi => by rw [e _ (by omega)]; exact q2 i hi⟩
  · refine Or.inr ⟨q1, fun i hi => by rw [e _ (by omega)]; exact q2 i hi, fun c => by rw [e _ (by omega)]; exact q3 c, fun c => by rw [e _ (by omega)]; exact q4 c, fun c i hi => ?_, fun c => by rw [e _ (by omega)]; exact q6 c⟩
    have hM : lnM key = 12 := by unfold lnM; rw [if_pos c]
    rw [e _ (by omega)]; exact q5 c i hi
def vCh (t a b : Nat) : Prop := (a = 34 ∧ b ≤ 5) ∨ (a = 33 ∧ (b = 1 ∨ b = 2)) ∨ a = 36 ∨ (a = 37 ∧ (b = 0 ∨ b = 1)) ∨ (a = 51 ∧ (b = 1 ∨ b = 2 ∨ b = 4 ∨ b = 13 ∨ b = 14 ∨ (39 ≤ b ∧ b ≤ 47))) ∨ (a = 59 ∧ (480 ≤ b ∨ (48 * t ≤ b ∧ b < 48 * t + 48))) ∨ ((a = 56 ∨ a = 57) ∧ (180 ≤ b ∨ (18 * t ≤ b ∧ b < 18 * t + 18))) ∨ ((a = 58 ∨ a = 60 ∨ a = 53 ∨ a = 54 ∨ a = 55) ∧ (b = 10 ∨ b = t))
theorem vote_c {D D1 : zD} {I I' : Nat → Nat → Int32} {J J1 : Nat → Nat → Int64} {n nf nn nt td ts nt' : Nat} (h : cAll D I J n nf nn nt td ts) (ht : nt < 10) (ht' : nt' = nt ∨ nt' = nt + 1) (hx : ext D D1) (rlo : ∀ q j, q < 85 → ¬ (q = 38 ∧ j = nt) → rF D1.2.2.1 q j = rF D.2.2.1 q j) (ex : ∀ a b, a < D.2.2.2 → ¬ vCh nt a b → I' a b = I a b) (jx : ∀ a b, a < D.2.2.2 → J1 a b = J a b) (f4 : I' 51 4 = nI nt') (f37 : I' 37 0 = nI nt') (f1 : I' 33 1 = I' 51 13) (f2 : I' 33 2 = I' 51 14) (fl : I' 37 1 = sLn I' nt') (g1 : I' 34 0 = 0) (g2 : I' 51 1 = 0) (hnew : nt' = nt + 1 → kSt D1 nt ∧ vSt D1 I' nt ∧ D.2.2.2 ≤ nSt D1 nt) : cAll D1 I' J1 n nf nn nt' td 0 := by
  have hc := h.1
  have hn := hc.1.1
  have hnf := hc.1.2.1
  have hnn := hc.1.2.2.1
  have hnt := hc.1.2.2.2.1
  have htd := hc.1.2.2.2.2
  have h85 := h.2.2.2.2.2.2.1
  have hx1 := hx.1
  have eT : ∀ t, t < nt → kSt D1 t ∧ nSt D1 t = nSt D t ∧ nRw D1 t = nRw D t := fun t ht => kSt_ext hx (rlo 38 t (by omega) (by omega)) (hc.2.1 t ht).1
  have eF : ∀ i, i < n → kFa D1 i ∧ nFa D1 i = nFa D i ∧ nLa D1 i = nLa D i := fun i hi => kFa_ext hx (rlo 39 i (by omega) (by omega)) (hc.2.2.1 i hi).1
  have eR : ∀ f, f < nf → kFi D1 f ∧ nFi D1 f = nFi D f ∧ nFj D1 f = nFj D f ∧ nFh D1 f = nFh D f ∧ nFs D1 f = nFs D f := fun f hf => kFi_ext hx (rlo 40 f (by omega) (by omega)) (hc.2.2.2.2.2 f hf).1
  have hcI := h.2.1
  have hMo := h.2.2.1
  obtain ⟨⟨nb, n1, n2, n3, n4⟩, n5⟩ := h.2.2.2.1
  refine ⟨⟨?_, fun t ht => ?_, fun i hi => ?_, fun i hi x hx' => ?_, fun j hj => ?_, fun f hf => ?_⟩, ⟨fun i j x y => ?_, fun i j x y => ?_, fun i j x y => ?_, fun i j x y => ?_, fun i j x y => ?_, fun i j x y => ?_⟩, ⟨fun i hi => ?_, fun f hf k hk => ?_, fun i x y => ?_, fun i x y => ?_⟩, ⟨⟨nb, n1, ?_, ?_, fun i hi => ?_⟩, ?_⟩, ⟨by omega, g1, g2, fun j hj => by omega⟩, ⟨f1, f2, fl, fun j hj => ?_⟩, by omega, fun j hj => ?_⟩
  · unfold cS
    rw [f4, f37, ex 51 15 (by omega) (by unfold vCh; omega), ex 32 7 (by omega) (by unfold vCh; omega), ex 51 18 (by omega) (by unfold vCh; omega), ex 32 9 (by omega) (by unfold vCh; omega), ex 51 24 (by omega) (by unfold vCh; omega), ex 32 8 (by omega) (by unfold vCh; omega), ex 51 3 (by omega) (by unfold vCh; omega), ex 32 10 (by omega) (by unfold vCh; omega)]
    exact ⟨hn, hnf, hnn, ⟨by omega, rfl, rfl⟩, htd⟩
  · by_cases e : t < nt
    · obtain ⟨q1, q2, q3⟩ := eT t e
      have w1 := (hc.2.1 t e).1.2.2.2.2.2
      obtain ⟨v1, v2, v3, v4, v5, v6⟩ := (hc.2.1 t e).2
      refine ⟨q1, ?_⟩
      have er : I' (nRw D t) = I (nRw D t) := funext fun b => ex _ b (by omega) (by unfold vCh; omega)
      unfold vSt
      rw [q2, q3, er, ex _ 0 (by omega) (by unfold vCh; omega), ex _ 1 (by omega) (by unfold vCh; omega), ex _ 2 (by omega) (by unfold vCh; omega), ex 53 t (by omega) (by unfold vCh; omega), ex 54 t (by omega) (by unfold vCh; omega), ex 55 t (by omega) (by unfold vCh; omega)]
      exact ⟨v1, v2, v3, v4, mRow_p (fun b y1 y2 => ⟨ex 56 b (by omega) (by unfold vCh; omega), ex 57 b (by omega) (by unfold vCh; omega)⟩) (ex 58 t (by omega) (by unfold vCh; omega)) (fun b y1 y2 => ex 59 b (by omega) (by unfold vCh; omega)) v5, v6⟩
    · have e1 : nt' = nt + 1 := by omega
      have e2 : t = nt := by omega
      rw [e2]
      exact ⟨(hnew e1).1, (hnew e1).2.1⟩
  · obtain ⟨q1, q2, q3⟩ := eF i hi
    have w1 := (hc.2.2.1 i hi).1.2.2.2.2.2
    rw [q2, ex _ 0 (by omega) (by unfold vCh; omega), ex _ 1 (by omega) (by unfold vCh; omega), ex 61 i (by omega) (by unfold vCh; omega), ex 62 i (by omega) (by unfold vCh; omega)]
    exact ⟨q1, (hc.2.2.1 i hi).2⟩
  · obtain ⟨ps, p1, p2, p3⟩ := hc.2.2.2.1 i hi x hx'
    have w1 := (hc.2.2.1 i hi).1.2.2.2.2.2
    refine ⟨ps, ?_, nCh_q nn ps (fun a b y1 y2 y3 => ex a b (by omega) (by unfold vCh; omega)) (fun q hq b => by have := p3 q hq; exact ex q b (by omega) (by unfold vCh; omega)) p2, fun q hq => by have := p3 q hq; omega⟩
    rw [(eF i hi).2.2, (hx.2 (nLa D i) w1.2.2.1 w1.2.2.2).2.2 x]
    exact sCh_ext hx ps _ p3 p1
  · rw [ex 65 j (by omega) (by unfold vCh; omega), ex 67 j (by omega) (by unfold vCh; omega)]
    exact hc.2.2.2.2.1 j hj
  · obtain ⟨q1, q2, q3, q4, q5⟩ := eR f hf
    have w1 := (hc.2.2.2.2.2 f hf).1.1
    have w2 := (hc.2.2.2.2.2 f hf).1.2.1
    have w3 := (hc.2.2.2.2.2 f hf).1.2.2.1
    exact ⟨q1, pFi2 (fun b => ex _ b (by omega) (by unfold vCh; omega)) (fun a x y => ex a f (by omega) (by unfold vCh; omega)) (fun i hi => ⟨ex _ _ (by omega) (by unfold vCh; omega), ex 72 _ (by omega) (by unfold vCh; omega)⟩) (fun i hi => ⟨ex _ _ (by omega) (by unfold vCh; omega), ex 73 _ (by omega) (by unfold vCh; omega)⟩) (vFi_n (Nat.le_refl _) q2 q3 q4 (hc.2.2.2.2.2 f hf).2)⟩
  · rw [(eT i (by omega)).2.1]
    by_cases e : j < nt
    · rw [(eT j e).2.1]; exact hcI.1 i j x e
    · have e1 : nt' = nt + 1 := by omega
      have e2 : j = nt := by omega
      rw [e2]
      have := (hnew e1).2.2
      have := (hc.2.1 i (by omega)).1.2.2.2.2.2.2.1
      omega
  · rw [(eF i (by omega)).2.1, (eF j y).2.1]; exact hcI.2.1 i j x y
  · rw [(eF i (by omega)).2.2, (eF j y).2.2]; exact hcI.2.2.1 i j x y
  · rw [(eR i (by omega)).2.1, (eR j y).2.1]; exact hcI.2.2.2.1 i j x y
  · rw [(eR i (by omega)).2.2.2.1, (eR j y).2.2.2.1]; exact hcI.2.2.2.2.1 i j x y
  · rw [(eR i (by omega)).2.2.2.2, (eR j y).2.2.2.2]; exact hcI.2.2.2.2.2 i j x y
  · have w1 := (hc.2.2.1 i hi).1.2.2.2.2.2
    rw [(eF i hi).2.1, jx _ _ (by omega), jx 75 i (by omega)]; exact hMo.1 i hi
  · have w1 := (hc.2.2.2.2.2 f hf).1.2.2.2
    rw [(eR f hf).2.2.2.2, jx _ _ (by omega), jx 74 _ (by omega)]; exact hMo.2.1 f hf k hk
  · rw [jx 75 i (by omega)]; exact hMo.2.2.1 i (by omega) y
  · rw [jx 74 i (by omega)]; exact hMo.2.2.2 i x y
  · rw [ex 47 0 (by omega) (by unfold vCh; omega)]; exact n2
  · rw [ex 51 36 (by omega) (by unfold vCh; omega)]; exact n3
  · rw [ex 48 i (by omega) (by unfold vCh; omega), ex 49 i (by omega) (by unfold vCh; omega), ex 76 i (by omega) (by unfold vCh; omega), ex 77 i (by omega) (by unfold vCh; omega), jx 50 i (by omega), jx 78 i (by omega)]; exact n4 i hi
  · rw [ex 47 1 (by omega) (by unfold vCh; omega), ex 51 37 (by omega) (by unfold vCh; omega)]; exact n5
  · rw [ex 79 j (by omega) (by unfold vCh; omega)]; exact h.2.2.2.2.2.1.2.2.2 j hj
  · rw [ex 63 j (by omega) (by unfold vCh; omega)]; exact h.2.2.2.2.2.2.2 j hj
section
variable {l : Launch} {G : zG}
theorem op_vote (hG : zOK l G) (hS : zST G) (x d : Int32) : zOp l G mX10_vote mX11_vote [.int x, .int d] := by
  rintro σ ⟨D, I, J, n, nf, nn, nt, td, ts, rfl, h⟩
  have hc := h.1
  have hnt := hc.1.2.2.2.1
  have htd := hc.1.2.2.2.2
  have hT := h.2.2.2.2.1
  have hX := h.2.2.2.2.2.1
  have h85 := h.2.2.2.2.2.2.1
  by_cases c : (0 ≤ x ∧ x < nI (ts + 1)) ∧ (0 ≤ d ∧ d < 720) ∧ nt < 10
  · have hts := hT.1
    obtain ⟨m, hm, rfl⟩ := ix_ok (by omega) c.1
    obtain ⟨_, c2, c3⟩ := c
    refine zRuns_mono (c_votec_ok hG hS D I J (I 52) m ts nt (by omega) hT.1 hT.2.1 (fun j hj => hT.2.2.2 j (by omega)) c3 hnt.2.2 h85 d c2) ?_
    intro r σ1 hv
    obtain ⟨N, hN⟩ : ∃ N, N = D.2.2.2 := ⟨_, rfl⟩
    have hxE : ext D (vE D) := ext_R (ext_t (ext_N D 7 0) (ext_N _ 13 63)) (Or.inr (Nat.le_refl _))
    have nx1 : (vE D).2.2.2 = N + 2 := by rw [hN]; rfl
    have rloE : ∀ q j, q < 85 → rF (vE D).2.2.1 q j = rF D.2.2.1 q j := fun q j q1 => by
      show rF (zu2 (zu1 (zu1 D.2.2.1 D.2.2.2 (fun _ => none)) (D.2.2.2 + 1) (fun _ => none)) D.2.2.2 4 _) q j = _
      rw [rF_o2 (by omega), rF_o1 (by omega), rF_o1 (by omega)]
    have rN4 : rF (vE D).2.2.1 N 4 = some (N + 1) := by
      rw [hN]
      exact rF_s2 (rT_dyn h85)
    have kN : kF (vE D).1 N = 7 := by
      rw [hN]
      show kF (zu1 (zu1 D.1 D.2.2.2 7) (D.2.2.2 + 1) 13) D.2.2.2 = 7
      rw [kF_o (by omega), kF_s h85]
    have kL : kF (vE D).1 (N + 1) = 13 := by
      rw [hN]
      show kF (zu1 (zu1 D.1 D.2.2.2 7) (D.2.2.2 + 1) 13) (D.2.2.2 + 1) = 13
      rw [kF_s (by omega)]
    have nL : nF (vE D).2.1 (N + 1) = 63 := by
      rw [hN]
      show nF (zu1 (zu1 D.2.1 D.2.2.2 0) (D.2.2.2 + 1) 63) (D.2.2.2 + 1) = 63
      rw [nF_s (by omega)]
    obtain ⟨J1, hJ1⟩ : ∃ J1, J1 = jN (dN D 7 0) (jN D J) := ⟨_, rfl⟩
    have jx : ∀ a b, a < N → J1 a b = J a b := fun a b q => by
      rw [hJ1]
      show zu1 (zu1 J D.2.2.2 _) (D.2.2.2 + 1) _ a b = _
      rw [zu1_n (by omega), zu1_n (by omega)]
    obtain ⟨y, hy⟩ : ∃ y, y = pTxt (I 52) m (m + 1) 0 (fun _ => -1) 0 := ⟨_, rfl⟩
    rw [← hy] at hv
    rcases y with ⟨cc, pp⟩ | ⟨row, ln⟩
    · obtain ⟨rfl, I1, b1, b2, b3, b4, rfl⟩ := hv
      rw [← hN] at b4
      rw [← hJ1]
      have i1 : ∀ a b, 38 ≤ a → a < N → I1 a b = I a b := fun a b q1 q2 => b4 a b (by omega) (by omega) (by omega) (by omega)
      have e52 : I1 52 = I 52 := funext fun b => i1 52 b (by omega) (by omega)
      refine ⟨⟨_, rfl⟩, rfl, zRuns_mono (c_vote_ok hG (vE D) I1 J1 (fun j hj => by rw [i1 79 j (by omega) (by omega)]; exact hX.2.2.2 j hj) m ts nt d hT.1 (by rw [i1 51 1 (by omega) (by omega)]; exact hT.2.2.1) (by omega) c3 (by rw [i1 51 4 (by omega) (by omega)]; exact hnt.2.1) c2) ?_⟩
      intro r2 σ2 hq
      rw [e52, ← hy] at hq
      obtain ⟨rfl, I', d1, d2, d3, d4, d5, d6, rfl⟩ := hq
      have k1 : ∀ a b, a < 51 → I' a b = I1 a b := fun a b q => d6 a b (by omega) (by omega) (by omega) (by omega)
      have ex : ∀ a b, a < D.2.2.2 → ¬ vCh nt a b → I' a b = I a b := fun a b q1 q2 => by
        unfold vCh at q2
        rw [d6 a b (by omega) (by omega) (by omega) (by omega), b4 a b (by omega) (by omega) (by omega) (by omega)]
      refine ⟨rfl, vE D, I', J1, n, nf, nn, nt, td, 0, rfl, vote_c h c3 (Or.inl rfl) hxE (fun q j q1 _ => rloE q j q1) ex (by rw [← hN]; exact jx) ?_ ?_ ?_ ?_ ?_ ?_ d3 (fun e => by omega)⟩
      · rw [d5, i1 51 4 (by omega) (by omega)]; exact hnt.2.1
      · rw [k1 37 0 (by omega), b4 37 0 (by omega) (by omega) (by omega) (by omega)]; exact hnt.2.2
      · rw [k1 33 1 (by omega), b1, d1]
      · rw [k1 33 2 (by omega), b2, d2]
      · rw [k1 37 1 (by omega), b4 37 1 (by omega) (by omega) (by omega) (by omega), hX.2.2.1]
        exact (sLn_c nt (fun t ht => ex 60 t (by omega) (by unfold vCh; omega))).symm
      · rw [k1 34 0 (by omega), b3]
    · obtain ⟨rfl, I1, b1, b2, b3, b5, b6, b7, b8, b9, b10, b4, rfl⟩ := hv
      rw [← hN] at b4 b1 b2 b3 b5
      rw [← hJ1, ← hN]
      have i1 : ∀ a b, 38 ≤ a → a < N → I1 a b = I a b := fun a b q1 q2 => b4 a b (by omega) (by omega) (by omega) (by omega) (by omega)
      have e52 : I1 52 = I 52 := funext fun b => i1 52 b (by omega) (by omega)
      refine ⟨⟨_, rfl⟩, rfl, zRuns_mono (c_vote_ok hG (dR (vE D) 38 nt (some N)) I1 J1 (fun j hj => by rw [i1 79 j (by omega) (by omega)]; exact hX.2.2.2 j hj) m ts nt d hT.1 (by rw [i1 51 1 (by omega) (by omega)]; exact hT.2.2.1) (by omega) c3 (by rw [i1 51 4 (by omega) (by omega)]; exact hnt.2.1) c2) ?_⟩
      intro r2 σ2 hq
      rw [e52, ← hy] at hq
      obtain ⟨rfl, I', d1, d2, d3, d4, d5, d7, d8, d9, d10, d11, d6, rfl⟩ := hq
      have k1 : ∀ a b, a < 51 → I' a b = I1 a b := fun a b q => d6 a b (by omega) (by omega) (by omega) (by omega)
      have k2 : ∀ a b, 85 ≤ a → I' a b = I1 a b := fun a b q => d6 a b (by omega) (by omega) (by omega) (by omega)
      have ex : ∀ a b, a < D.2.2.2 → ¬ vCh nt a b → I' a b = I a b := fun a b q1 q2 => by
        unfold vCh at q2
        rw [d6 a b (by omega) (by omega) (by omega) (by omega), b4 a b (by omega) (by omega) (by omega) (by omega) (by omega)]
      have r38 : rF (dR (vE D) 38 nt (some N)).2.2.1 38 nt = some N := rF_s2 (rT_38 nt)
      have rN4' : rF (dR (vE D) 38 nt (some N)).2.2.1 N 4 = some (N + 1) := (rF_o2 (by omega)).trans rN4
      have eSt : nSt (dR (vE D) 38 nt (some N)) nt = N := by unfold nSt; rw [r38]; rfl
      have eRw : nRw (dR (vE D) 38 nt (some N)) nt = N + 1 := by unfold nRw; rw [eSt, rN4']; rfl
      have ero : ∀ s, s < 63 → I' (N + 1) s = row s := fun s hs => by rw [k2 _ _ (by omega)]; exact b1 s hs
      refine ⟨rfl, dR (vE D) 38 nt (some N), I', J1, n, nf, nn, nt + 1, td, 0, rfl, vote_c h c3 (Or.inr rfl) (ext_R hxE (Or.inl (by decide))) (fun q j q1 q2 => (rF_o2 q2).trans (rloE q j q1)) ex (by rw [← hN]; exact jx) d7 ?_ ?_ ?_ ?_ ?_ d10 (fun _ => ⟨?_, ?_, ?_⟩)⟩
      · rw [k1 37 0 (by omega), b6]
      · rw [k1 33 1 (by omega), b8, d8]
      · rw [k1 33 2 (by omega), b9, d9]
      · rw [k1 37 1 (by omega), b7, hX.2.2.1]
        show _ = sLn I' nt + I' 60 nt
        rw [d2, sLn_c nt (fun t ht => ex 60 t (by omega) (by unfold vCh; omega))]
      · rw [k1 34 0 (by omega), b10]
      · unfold kSt
        rw [eSt, eRw]
        exact ⟨r38, kN, rN4', kL, nL, by omega, by show N < (vE D).2.2.2; omega, by omega, by show N + 1 < (vE D).2.2.2; omega⟩
      · unfold vSt
        rw [eSt, eRw, k2 N 0 (by omega), k2 N 1 (by omega), k2 N 2 (by omega), b2, b3, b5, d3, d4, d5, i1 51 3 (by omega) (by omega), htd.2.1, htd.2.2]
        have q0 := c2.1
        rw [Int32.le_iff_toInt_le] at q0
        refine ⟨rfl, rfl, q0, Or.inl ⟨rfl, rfl⟩, mRow_e ero d1, rOk_c ero (pTxt_o _ _ _ _ _ _ ?_ hy.symm)⟩
        intro s hs
        show (-1 ≤ (-1 : Int32).toInt ∧ (-1 : Int32).toInt ≤ 1000) ∧ (s = 57 ∨ s = 58 → (-1 : Int32).toInt ≤ 100)
        exact ⟨⟨by decide, by decide⟩, fun _ => by decide⟩
      · rw [eSt, hN]; exact Nat.le_refl _
  · have hts := hT.1
    have hno : ¬ (0 ≤ x ∧ x < nI (ts + 1)) → x < 0 ∨ nI ts < x := fun q => by
      rcases Int32.lt_or_le x 0 with e | e
      · exact Or.inl e
      · refine Or.inr ?_
        rcases Int32.lt_or_le x (nI (ts + 1)) with e2 | e2
        · exact absurd ⟨e, e2⟩ q
        · rw [Int32.le_iff_toInt_le, nI_toInt (by omega)] at e2
          rw [Int32.lt_iff_toInt_lt, nI_toInt (by omega)]
          omega
    have h10 : ¬ nt < 10 → nI nt = 10 := fun q => by rw [show nt = 10 by omega]; rfl
    have hor : x < 0 ∨ nI ts < x ∨ ¬ (0 ≤ d ∧ d < 720) ∨ nI nt = 10 := by
      by_cases a : 0 ≤ x ∧ x < nI (ts + 1)
      · by_cases b : 0 ≤ d ∧ d < 720
        · exact Or.inr (Or.inr (Or.inr (h10 (fun q => c ⟨a, b, q⟩))))
        · exact Or.inr (Or.inr (Or.inl b))
      · rcases hno a with e | e
        · exact Or.inl e
        · exact Or.inr (Or.inl e)
    refine zRuns_mono (c_votec_no hG D I J x d ?_) ?_
    · rw [hT.2.1, hnt.2.2]
      rcases hor with a | a | a | a
      · exact Or.inl a
      · exact Or.inr (Or.inl a)
      · exact Or.inr (Or.inr (Or.inl a))
      · exact Or.inr (Or.inr (Or.inr (by rw [a]; decide)))
    rintro r σ1 ⟨rfl, rfl⟩
    refine ⟨⟨_, rfl⟩, rfl, zRuns_mono (c_vote_no hG D I J x d (by rw [hT.2.2.1, hnt.2.1]; exact hor)) ?_⟩
    rintro r2 σ2 ⟨rfl, rfl⟩
    exact ⟨rfl, D, _, J, n, nf, nn, nt, td, ts, rfl, cAll_th h⟩
end
