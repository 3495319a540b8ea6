/-- what cpR looks at, but for the numbers of things -/
def uH (nx a b : Nat) : Prop := (53 ≤ a ∧ a ≤ 55) ∨ ((a = 56 ∨ a = 57) ∧ b < 180) ∨ (a = 58 ∧ b < 10) ∨ (a = 59 ∧ b < 480) ∨ (61 ≤ a ∧ a ≤ 73) ∨ (85 ≤ a ∧ a < nx)
theorem nCh_h {nx : Nat} {I I' : Nat → Nat → Int32} {f w : Int32} (h : ∀ a b, uH nx a b → I' a b = I a b) : ∀ (n : Nat) (ps : List Nat), (∀ p, p ∈ ps → 85 ≤ p ∧ p < nx) → nCh I f w n ps → nCh I' f w n ps
  | 0, ps, _, hc => hc
  | n + 1, ps, hp, hc => by
    obtain ⟨h1, h2⟩ := hc
    unfold nCh
    rw [h 63 n (by unfold uH; omega), h 64 n (by unfold uH; omega), h 65 n (by unfold uH; omega), h 66 n (by unfold uH; omega), h 67 n (by unfold uH; omega)]
    refine ⟨fun c => ?_, fun c => nCh_h h n ps hp (h2 c)⟩
    obtain ⟨p, ps', rfl, q1, q2, q3, q4⟩ := h1 c
    have hp0 := hp p (List.mem_cons_self ..)
    refine ⟨p, ps', rfl, ?_, ?_, ?_, nCh_h h n ps' (fun q hq => hp q (List.mem_cons_of_mem _ hq)) q4⟩
    · rw [h p 0 (by unfold uH; omega)]; exact q1
    · rw [h p 1 (by unfold uH; omega)]; exact q2
    · rw [h p 2 (by unfold uH; omega)]; exact q3
theorem vSt_h {D D' : zD} {I I' : Nat → Nat → Int32} {t : Nat} (ht : t < 10) (h : ∀ a b, uH D.2.2.2 a b → I' a b = I a b) (hk : kSt D t) (e1 : nSt D' t = nSt D t) (e2 : nRw D' t = nRw D t) (hv : vSt D I t) : vSt D' I' t := by
  obtain ⟨_, _, _, _, _, k1, k1', k2, k2'⟩ := hk
  obtain ⟨v1, v2, v3, v4, v5, v6⟩ := hv
  have e : I' (nRw D t) = I (nRw D t) := funext fun b => h _ _ (by unfold uH; omega)
  unfold vSt
  rw [e1, e2]
  refine ⟨?_, ?_, ?_, ?_, ?_, ?_⟩
  · rw [h _ _ (by unfold uH; omega), h 54 t (by unfold uH; omega)]; exact v1
  · rw [h _ _ (by unfold uH; omega), h 53 t (by unfold uH; omega)]; exact v2
  · rw [h 53 t (by unfold uH; omega)]; exact v3
  · rw [h 55 t (by unfold uH; omega), h (nSt D t) 2 (by unfold uH; omega)]; exact v4
  · rw [e]; exact mRow_fr ht (fun a b c => h a b (by unfold uH; omega)) v5
  · rw [e]; exact v6
theorem vFi_h {D D' : zD} {I I' : Nat → Nat → Int32} {n n' f : Nat} (hn : n ≤ n') (h : ∀ a b, uH D.2.2.2 a b → I' a b = I a b) (hk : kFi D f) (e1 : nFi D' f = nFi D f) (e2 : nFj D' f = nFj D f) (e3 : nFh D' f = nFh D f) (hv : vFi D I n f) : vFi D' I' n' f := by
  have k1 := hk.1.2.2
  have k2 := hk.2.1.2.2.2
  have k3 := hk.2.2.1.2.2.2
  unfold vFi at *
  rw [e1, e2, e3, h (nFi D f) 0 (by unfold uH; omega), h (nFi D f) 1 (by unfold uH; omega), h (nFi D f) 2 (by unfold uH; omega), h (nFi D f) 3 (by unfold uH; omega), h (nFi D f) 4 (by unfold uH; omega), h 68 f (by unfold uH; omega), h 69 f (by unfold uH; omega), h 70 f (by unfold uH; omega), h 71 f (by unfold uH; omega)]
  obtain ⟨v1, v2, ⟨fm, f1, f2⟩, v4, v5, v6, ⟨j, j1, j2, j3, j4⟩, v8, v9⟩ := hv
  refine ⟨v1, v2, ⟨fm, by omega, f2⟩, v4, v5, v6, ⟨j, j1, j2, fun e i hi => ?_, fun i hi => ?_⟩, v8, fun i hi => ?_⟩
  · rw [h 73 _ (by unfold uH; omega)]; exact j3 e i hi
  · rw [h (nFj D f) i (by unfold uH; omega), h 72 _ (by unfold uH; omega)]; exact j4 i hi
  · rw [h (nFh D f) i (by unfold uH; omega), h 73 _ (by unfold uH; omega)]; exact v9 i hi
theorem pT {D D' : zD} {I I' : Nat → Nat → Int32} {nt : Nat} (hnt : nt ≤ 10) (hx : ext D D') (h38 : ∀ t, t < nt → rF D'.2.2.1 38 t = rF D.2.2.1 38 t) (h : ∀ a b, uH D.2.2.2 a b → I' a b = I a b) (h2 : ∀ t, t < nt → kSt D t ∧ vSt D I t) : ∀ t, t < nt → kSt D' t ∧ vSt D' I' t := fun t ht => by
  obtain ⟨k1, e1, e2⟩ := kSt_ext hx (h38 t ht) (h2 t ht).1
  exact ⟨k1, vSt_h (by omega) h (h2 t ht).1 e1 e2 (h2 t ht).2⟩
theorem pF {D D' : zD} {I I' : Nat → Nat → Int32} {n : Nat} (hx : ext D D') (h39 : ∀ i, i < n → rF D'.2.2.1 39 i = rF D.2.2.1 39 i) (h : ∀ a b, uH D.2.2.2 a b → I' a b = I a b) (h3 : ∀ i, i < n → kFa D i ∧ I (nFa D i) 0 = I 61 i ∧ I (nFa D i) 1 = I 62 i) : ∀ i, i < n → kFa D' i ∧ I' (nFa D' i) 0 = I' 61 i ∧ I' (nFa D' i) 1 = I' 62 i := fun i hi => by
  obtain ⟨k1, e1, e2⟩ := kFa_ext hx (h39 i hi) (h3 i hi).1
  have q := (h3 i hi).1.2.2.2.2.2
  rw [e1, h (nFa D i) 0 (by unfold uH; omega), h (nFa D i) 1 (by unfold uH; omega), h 61 i (by unfold uH; omega), h 62 i (by unfold uH; omega)]
  exact ⟨k1, (h3 i hi).2⟩
theorem pN {D D' : zD} {I I' : Nat → Nat → Int32} {n nn : Nat} (hx : ext D D') (h39 : ∀ i, i < n → rF D'.2.2.1 39 i = rF D.2.2.1 39 i) (h : ∀ a b, uH D.2.2.2 a b → I' a b = I a b) (h3 : ∀ i, i < n → kFa D i) (h4 : ∀ i, i < n → ∀ w, w < 9 → kNo D I nn i w) : ∀ i, i < n → ∀ w, w < 9 → kNo D' I' nn i w := fun i hi w hw => by
  obtain ⟨k1, e1, e2⟩ := kFa_ext hx (h39 i hi) (h3 i hi)
  obtain ⟨ps, p1, p2, p3⟩ := h4 i hi w hw
  have q := (h3 i hi).2.2.2.2.2
  have hx1 := hx.1
  refine ⟨ps, ?_, nCh_h h nn ps p3 p2, fun p hp => ⟨(p3 p hp).1, by have := (p3 p hp).2; omega⟩⟩
  rw [e2, (hx.2 (nLa D i) q.2.2.1 q.2.2.2).2.2 w]
  exact sCh_ext hx ps _ p3 p1
theorem pV {nx : Nat} {I I' : Nat → Nat → Int32} {nn : Nat} (h : ∀ a b, uH nx a b → I' a b = I a b) (h5 : vNo I nn) : vNo I' nn := fun k hk => by
  rw [h 65 k (by unfold uH; omega), h 67 k (by unfold uH; omega)]
  exact h5 k hk
theorem pFi {D D' : zD} {I I' : Nat → Nat → Int32} {n n' nf : Nat} (hn : n ≤ n') (hx : ext D D') (h40 : ∀ f, f < nf → rF D'.2.2.1 40 f = rF D.2.2.1 40 f) (h : ∀ a b, uH D.2.2.2 a b → I' a b = I a b) (h6 : ∀ f, f < nf → kFi D f ∧ vFi D I n f) : ∀ f, f < nf → kFi D' f ∧ vFi D' I' n' f := fun f hf => by
  obtain ⟨k1, e1, e2, e3, e4⟩ := kFi_ext hx (h40 f hf) (h6 f hf).1
  exact ⟨k1, vFi_h hn h (h6 f hf).1 e1 e2 e3 (h6 f hf).2⟩
/-- only numbers of things have changed -/
theorem cpR_sc {D : zD} {I I' : Nat → Nat → Int32} {n nf nn nt td td' : Nat} (hs : cS I' n nf nn nt td') (h : ∀ a b, uH D.2.2.2 a b → I' a b = I a b) (hc : cpR D I n nf nn nt td) : cpR D I' n nf nn nt td' := by
  obtain ⟨h1, h2, h3, h4, h5, h6⟩ := hc
  exact ⟨hs, pT h1.2.2.2.1.1 (ext_r D) (fun _ _ => rfl) h h2, pF (ext_r D) (fun _ _ => rfl) h h3, pN (ext_r D) (fun _ _ => rfl) h (fun i hi => (h3 i hi).1) h4, pV h h5, pFi (Nat.le_refl _) (ext_r D) (fun _ _ => rfl) h h6⟩
