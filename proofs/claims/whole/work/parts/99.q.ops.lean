theorem bK_ac (f : Nat) (due : Nat → Int64) : ∀ (k : Nat) (S : bS) (i : Nat), k ≤ i → (bK f due k S).2.1 i = S.2.1 i
  | 0, _, _, _ => rfl
  | k + 1, S, i, h => by
    unfold bK bStep
    split
    · exact bK_ac f due k S i (by omega)
    · show vp_updL (bK f due k S).2.1 k _ i = _
      rw [pk_uLn (by omega)]
      exact bK_ac f due k S i (by omega)
theorem bK_dn (f : Nat) (due : Nat → Int64) : ∀ (k : Nat) (S : bS) (i : Nat), 12 * f + k ≤ i → (bK f due k S).1 i = S.1 i
  | 0, _, _, _ => rfl
  | k + 1, S, i, h => by
    unfold bK bStep
    split
    · exact bK_dn f due k S i (by omega)
    · show vp_updL (bK f due k S).1 (12 * f + k) _ i = _
      rw [pk_uLn (by omega)]
      exact bK_dn f due k S i (by omega)
theorem bF_ac (cl : Nat → Bool) (due : Nat → Nat → Int64) (n : Nat) : ∀ (f : Nat) (S : bS) (i : Nat), n ≤ i → (bF cl due n f S).2.1 i = S.2.1 i
  | 0, _, _, _ => rfl
  | f + 1, S, i, h => by
    unfold bF
    split
    · rw [bK_ac f (due f) n _ i h]; exact bF_ac cl due n f S i h
    · exact bF_ac cl due n f S i h
theorem bF_dn (cl : Nat → Bool) (due : Nat → Nat → Int64) (n : Nat) (hn : n ≤ 12) : ∀ (f : Nat) (S : bS) (i : Nat), 12 * f ≤ i → (bF cl due n f S).1 i = S.1 i
  | 0, _, _, _ => rfl
  | f + 1, S, i, h => by
    unfold bF
    split
    · rw [bK_dn f (due f) n _ i (by omega)]; exact bF_dn cl due n hn f S i (by omega)
    · exact bF_dn cl due n hn f S i (by omega)
section
variable {l : Launch} {G : zG}
theorem op_book (hG : zOK l G) : zOp l G mX10_book mX11_book [] := by
  rintro σ ⟨D, I, J, n, nf, nn, nt, td, ts, rfl, h⟩
  obtain ⟨h1, h2, h3, h4, h5, h6, h7⟩ := h
  have hn := h1.1.1
  have hnf := h1.1.2.1
  have hnn := h1.1.2.2.1
  have hnt := h1.1.2.2.2.1
  have htd := h1.1.2.2.2.2
  obtain ⟨S, hS⟩ : ∃ S, S = bF (fun f => decide (¬ I 71 f = 0)) (fun f => sDue I nn nt n f (nI td)) n nf (J 74, J 75, []) := ⟨_, rfl⟩
  refine zRuns_mono (c_X10_book hG h1 h2 h3.1 h3.2.1 S hS) ?_
  rintro r σ1 ⟨rfl, I1, J1, rfl, a1, a2, a3⟩
  have i1 : ∀ a b, 50 ≤ a → I1 a b = I a b := fun a b q => a2 a b (by omega) (by omega) (by omega)
  have j1 : ∀ a b, 51 ≤ a → a < 85 → J1 a b = J a b := fun a b q1 q2 => a3 a b q2 (by omega) (by omega) (by omega) (by omega) (by omega)
  have hS1 : S = bF (fun f => decide (¬ I1 71 f = 0)) (fun f => sDue I1 nn nt n f (nI td)) n nf (J1 74, J1 75, []) := by
    have x1 : (fun f => decide (¬ I1 71 f = 0)) = (fun f => decide (¬ I 71 f = 0)) := funext fun f => by rw [i1 71 f (by decide)]
    have x2 : (fun f => sDue I1 nn nt n f (nI td)) = (fun f => sDue I nn nt n f (nI td)) := funext fun f => sDue_c (fun a b q1 q2 => i1 a b (by omega)) _ _ _ _ _
    have x3 : J1 74 = J 74 := funext fun b => j1 74 b (by decide) (by decide)
    have x4 : J1 75 = J 75 := funext fun b => j1 75 b (by decide) (by decide)
    rw [x1, x2, x3, x4]; exact hS
  refine ⟨⟨_, rfl⟩, rfl, zRuns_mono (c_X11_book hG D I1 J1 n nf nn nt td hn.1 hnf.1 (fun q => by obtain ⟨fm, q1, _⟩ := (h1.2.2.2.2.2 0 q).2.2.2.1; omega) (by rw [i1 51 15 (by decide)]; exact hn.2.1) (by rw [i1 51 24 (by decide)]; exact hnf.2.1) hnn.1 (by rw [i1 51 18 (by decide)]; exact hnn.2.1) hnt.1 (by rw [i1 51 4 (by decide)]; exact hnt.2.1) (by rw [i1 51 3 (by decide)]; exact htd.2.1) (fun f hf => by rw [i1 69 f (by decide)]; exact (h1.2.2.2.2.2 f hf).2.2.2.2.2.1) S hS1) ?_⟩
  rintro r2 σ2 ⟨rfl, I2, J2, rfl, b1, b2, b3⟩
  refine ⟨rfl, D, I2, J2, n, nf, nn, nt, td, ts, rfl, ?_⟩
  have ex : ∀ a b, ¬ a = 47 → ¬ a = 48 → ¬ a = 49 → ¬ (a = 51 ∧ (b = 2 ∨ b = 36 ∨ b = 37)) → ¬ a = 76 → ¬ a = 77 → I2 a b = I a b := fun a b x1 x2 x3 x4 x5 x6 => by
    rw [b2 a b (by unfold frBI; omega), a2 a b x1 x2 x3]
  have ei : ∀ a b, ¬ a = 51 → ¬ a = 76 → ¬ a = 77 → I2 a b = I1 a b := fun a b x1 x2 x3 => b2 a b (by unfold frBI; omega)
  have ej : ∀ a b, 85 ≤ a ∨ a = 50 → J2 a b = J1 a b := fun a b q => b3 a b (by omega)
  have hlen : S.2.2.length ≤ 144 := by
    have := bF_len (fun f => decide (¬ I 71 f = 0)) (fun f => sDue I nn nt n f (nI td)) n hn.1 nf (J 74, J 75, [])
    rw [← hS] at this
    have e : ((J 74, J 75, []) : bS).2.2.length = 0 := rfl
    omega
  have b5 := b1.2.2.2.1
  rw [i1 51 37 (by decide)] at b5
  refine ⟨cpR_fr (fun a b u => ex a b (by unfold uR at u; omega) (by unfold uR at u; omega) (by unfold uR at u; omega) (by unfold uR at u; omega) (by unfold uR at u; omega) (by unfold uR at u; omega)) h1, h2, ⟨fun i hi => ?_, fun f hf k hk => ?_, fun i q1 q2 => ?_, fun i q1 q2 => ?_⟩, ⟨⟨S.2.2.length, hlen, ?_, b1.2.2.1, fun i hi => ?_⟩, ?_⟩, ⟨h5.1, ?_, ?_, fun j hj => ?_⟩, ⟨?_, ?_, ?_, fun j hj => ?_⟩, h7.1, cKn_fr (fun b => ex 63 b (by decide) (by decide) (by decide) (by omega) (by decide) (by decide)) h7.2⟩
  · have := (h1.2.2.1 i hi).1.2.2.2.2.2.1
    rw [ej _ _ (by omega), a1.2.1 i hi, b1.2.1 i (by omega)]
  · have := (h1.2.2.2.2.2 f hf).1.2.2.2.2.2.2.1
    rw [ej _ _ (by omega), a1.1 f hf k hk, b1.1 _ (by omega)]
  · rw [b1.2.1 i q2, hS, bF_ac _ _ n nf _ i q1]
    exact h3.2.2.1 i q1 q2
  · rw [b1.1 i q2, hS, bF_dn _ _ n hn.1 nf _ i q1]
    exact h3.2.2.2 i q1 q2
  · rw [ei 47 0 (by decide) (by decide) (by decide)]; exact a1.2.2.1
  · obtain ⟨x1, x2, x3⟩ := a1.2.2.2.2 i hi
    obtain ⟨y1, y2, y3⟩ := b1.2.2.2.2 i hi
    rw [ei 48 i (by decide) (by decide) (by decide), ei 49 i (by decide) (by decide) (by decide), ej 50 i (by omega), x1, x2, x3, y1, y2, y3]
    exact ⟨rfl, rfl, rfl⟩
  · rw [ei 47 1 (by decide) (by decide) (by decide), a1.2.2.2.1, b5, h4.2]
  · rw [ex 34 0 (by decide) (by decide) (by decide) (by decide) (by decide) (by decide)]; exact h5.2.1
  · rw [ex 51 1 (by decide) (by decide) (by decide) (by decide) (by decide) (by decide)]; exact h5.2.2.1
  · rw [ex 35 j (by decide) (by decide) (by decide) (by omega) (by decide) (by decide), ex 52 j (by decide) (by decide) (by decide) (by omega) (by decide) (by decide)]; exact h5.2.2.2 j hj
  · rw [ex 33 1 (by decide) (by decide) (by decide) (by decide) (by decide) (by decide), ex 51 13 (by decide) (by decide) (by decide) (by decide) (by decide) (by decide)]; exact h6.1
  · rw [ex 33 2 (by decide) (by decide) (by decide) (by decide) (by decide) (by decide), ex 51 14 (by decide) (by decide) (by decide) (by decide) (by decide) (by decide)]; exact h6.2.1
  · rw [ex 37 1 (by decide) (by decide) (by decide) (by decide) (by decide) (by decide), sLn_c nt (fun t ht => ex 60 t (by decide) (by decide) (by decide) (by omega) (by decide) (by decide))]; exact h6.2.2.1
  · rw [ex 79 j (by decide) (by decide) (by decide) (by omega) (by decide) (by decide)]; exact h6.2.2.2 j hj
end
theorem sCh_k {D : zD} : ∀ (ps : List Nat) (o : Option Nat), sCh D ps o → ∀ p, p ∈ ps → kF D.1 p = 3
  | [], _, _, p, hp => by cases hp
  | q :: ps, o, h, p, hp => by
    rcases List.mem_cons.mp hp with e | e
    · rw [e]; exact h.2.1
    · exact sCh_k ps _ h.2.2 p e
theorem nCh_p {I I' : Nat → Nat → Int32} {f w : Int32} (h : ∀ a b, 63 ≤ a → a ≤ 67 → I' a b = I a b) : ∀ (n : Nat) (ps : List Nat), (∀ p, p ∈ ps → ∀ b, I' p b = I p b) → nCh I f w n ps → nCh I' f w n ps
  | 0, ps, _, hc => hc
  | n + 1, ps, hp, hc => by
    obtain ⟨h1, h2⟩ := hc
    unfold nCh
    rw [h 63 n (by decide) (by decide), h 64 n (by decide) (by decide), h 65 n (by decide) (by decide), h 66 n (by decide) (by decide), h 67 n (by decide) (by decide)]
    refine ⟨fun c => ?_, fun c => nCh_p h n ps hp (h2 c)⟩
    obtain ⟨p, ps', rfl, q1, q2, q3, q4⟩ := h1 c
    have hp0 := hp p (List.mem_cons_self ..)
    exact ⟨p, ps', rfl, by rw [hp0]; exact q1, by rw [hp0]; exact q2, by rw [hp0]; exact q3, nCh_p h n ps' (fun q hq => hp q (List.mem_cons_of_mem _ hq)) q4⟩
/-- the pieces of cpR, each by what it looks at -/
theorem pT2 {D : zD} {I I' : Nat → Nat → Int32} {t : Nat} (hs : ∀ b, I' (nSt D t) b = I (nSt D t) b) (hr : ∀ b, I' (nRw D t) b = I (nRw D t) b) (h5 : ∀ a b, 53 ≤ a → a ≤ 54 → I' a b = I a b) (h55 : I' 55 t = I 55 t) (h6 : ∀ a b, 56 ≤ a → a ≤ 59 → I' a b = I a b) (ht : t < 10) (h : vSt D I t) : vSt D I' t := by
  obtain ⟨v1, v2, v3, v4, v5, v6⟩ := h
  have e : I' (nRw D t) = I (nRw D t) := funext hr
  refine ⟨by rw [hs, h5 54 t (by decide) (by decide)]; exact v1, by rw [hs, h5 53 t (by decide) (by decide)]; exact v2, by rw [h5 53 t (by decide) (by decide)]; exact v3, by rw [h55, hs]; exact v4, ?_, by rw [e]; exact v6⟩
  rw [e]
  exact mRow_fr ht (fun a b c => h6 a b (by omega) (by omega)) v5
theorem pN2 {D : zD} {I I' : Nat → Nat → Int32} {nn i w : Nat} (h3 : ∀ p, kF D.1 p = 3 → ∀ b, I' p b = I p b) (h : ∀ a b, 63 ≤ a → a ≤ 67 → I' a b = I a b) (hk : kNo D I nn i w) : kNo D I' nn i w := by
  obtain ⟨ps, p1, p2, p3⟩ := hk
  exact ⟨ps, p1, nCh_p h nn ps (fun p hp b => h3 p (sCh_k ps _ p1 p hp) b) p2, p3⟩
theorem pFi2 {D : zD} {I I' : Nat → Nat → Int32} {n f : Nat} (h1 : ∀ b, I' (nFi D f) b = I (nFi D f) b) (h2 : ∀ a, 68 ≤ a → a ≤ 71 → I' a f = I a f) (h3 : ∀ i, i < 3 → I' (nFj D f) i = I (nFj D f) i ∧ I' 72 (3 * f + i) = I 72 (3 * f + i)) (h4 : ∀ i, i < 12 → I' (nFh D f) i = I (nFh D f) i ∧ I' 73 (12 * f + i) = I 73 (12 * f + i)) (h : vFi D I n f) : vFi D I' n f := by
  unfold vFi at *
  rw [h1, h1, h1, h1, h1, h2 68 (by decide) (by decide), h2 69 (by decide) (by decide), h2 70 (by decide) (by decide), h2 71 (by decide) (by decide)]
  obtain ⟨v1, v2, v3, v4, v5, v6, ⟨j, j1, j2, j3, j4⟩, v8, v9⟩ := h
  refine ⟨v1, v2, v3, v4, v5, v6, ⟨j, j1, j2, fun e i hi => ?_, fun i hi => ?_⟩, v8, fun i hi => ?_⟩
  · rw [(h4 i hi).2]; exact j3 e i hi
  · rw [(h3 i (by omega)).1, (h3 i (by omega)).2]; exact j4 i hi
  · rw [(h4 i hi).1, (h4 i hi).2]; exact v9 i hi
