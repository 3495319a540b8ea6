def uX (nx a b : Nat) : Prop := (a = 32 ∧ (b = 7 ∨ b = 8 ∨ b = 9 ∨ b = 10)) ∨ (a = 37 ∧ b = 0) ∨ (a = 51 ∧ (b = 3 ∨ b = 4 ∨ b = 15 ∨ b = 18 ∨ b = 24)) ∨ (53 ≤ a ∧ a ≤ 55) ∨ ((a = 56 ∨ a = 57) ∧ b < 180) ∨ (a = 58 ∧ b < 10) ∨ (a = 59 ∧ b < 480) ∨ (61 ≤ a ∧ a ≤ 73) ∨ (85 ≤ a ∧ a < nx)
/-- all that was made before is as it was -/
def ext (D D' : zD) : Prop := D.2.2.2 ≤ D'.2.2.2 ∧ ∀ p, 85 ≤ p → p < D.2.2.2 → kF D'.1 p = kF D.1 p ∧ nF D'.2.1 p = nF D.2.1 p ∧ ∀ k, rF D'.2.2.1 p k = rF D.2.2.1 p k
theorem ext_r (D : zD) : ext D D := ⟨Nat.le_refl _, fun _ _ _ => ⟨rfl, rfl, fun _ => rfl⟩⟩
theorem ext_t {D D' D'' : zD} (h : ext D D') (h' : ext D' D'') : ext D D'' := ⟨Nat.le_trans h.1 h'.1, fun p h1 h2 => by
  obtain ⟨a1, a2, a3⟩ := h.2 p h1 h2
  obtain ⟨b1, b2, b3⟩ := h'.2 p h1 (Nat.lt_of_lt_of_le h2 h.1)
  exact ⟨b1.trans a1, b2.trans a2, fun k => (b3 k).trans (a3 k)⟩⟩
theorem ext_N (D : zD) (kd len : Nat) : ext D (dN D kd len) := ⟨Nat.le_succ _, fun p h1 h2 => ⟨kF_o (by omega), nF_o (by omega), fun k => rF_o1 (by omega)⟩⟩
theorem ext_R {D D' : zD} (h : ext D D') {p k : Nat} {o : Option Nat} (hp : p < 85 ∨ D.2.2.2 ≤ p) : ext D (dR D' p k o) := ⟨h.1, fun q h1 h2 => ⟨(h.2 q h1 h2).1, (h.2 q h1 h2).2.1, fun j => (rF_o2 (by omega)).trans ((h.2 q h1 h2).2.2 j)⟩⟩
theorem kFa_ext {D D' : zD} (h : ext D D') {i : Nat} (h39 : rF D'.2.2.1 39 i = rF D.2.2.1 39 i) (hk : kFa D i) : kFa D' i ∧ nFa D' i = nFa D i ∧ nLa D' i = nLa D i := by
  obtain ⟨k1, k2, k3, k4, k5, k6, k7, k8, k9⟩ := hk
  have e1 : nFa D' i = nFa D i := by unfold nFa; rw [h39]
  obtain ⟨a1, a2, a3⟩ := h.2 _ k6 k7
  have e2 : nLa D' i = nLa D i := by unfold nLa; rw [e1, a3]
  obtain ⟨b1, b2, b3⟩ := h.2 _ k8 k9
  have := h.1
  refine ⟨⟨?_, ?_, ?_, ?_, ?_, ?_, ?_, ?_, ?_⟩, e1, e2⟩
  · rw [e1, h39]; exact k1
  · rw [e1, a1]; exact k2
  · rw [e1, e2, a3]; exact k3
  · rw [e2, b1]; exact k4
  · rw [e2, b2]; exact k5
  · omega
  · omega
  · omega
  · omega
theorem kSt_ext {D D' : zD} (h : ext D D') {i : Nat} (h38 : rF D'.2.2.1 38 i = rF D.2.2.1 38 i) (hk : kSt D i) : kSt D' i ∧ nSt D' i = nSt D i ∧ nRw D' i = nRw D i := by
  obtain ⟨k1, k2, k3, k4, k5, k6, k7, k8, k9⟩ := hk
  have e1 : nSt D' i = nSt D i := by unfold nSt; rw [h38]
  obtain ⟨a1, a2, a3⟩ := h.2 _ k6 k7
  have e2 : nRw D' i = nRw D i := by unfold nRw; rw [e1, a3]
  obtain ⟨b1, b2, b3⟩ := h.2 _ k8 k9
  have := h.1
  refine ⟨⟨?_, ?_, ?_, ?_, ?_, ?_, ?_, ?_, ?_⟩, e1, e2⟩
  · rw [e1, h38]; exact k1
  · rw [e1, a1]; exact k2
  · rw [e1, e2, a3]; exact k3
  · rw [e2, b1]; exact k4
  · rw [e2, b2]; exact k5
  · omega
  · omega
  · omega
  · omega
theorem kFi_ext {D D' : zD} (h : ext D D') {f : Nat} (h40 : rF D'.2.2.1 40 f = rF D.2.2.1 40 f) (hk : kFi D f) : kFi D' f ∧ nFi D' f = nFi D f ∧ nFj D' f = nFj D f ∧ nFh D' f = nFh D f ∧ nFs D' f = nFs D f := by
  obtain ⟨⟨k1, k2, k3, k4⟩, ⟨j1, j2, j3, j4, j5⟩, ⟨h1, h2, h3, h4, h5⟩, ⟨s1, s2, s3, s4, s5⟩⟩ := hk
  have e1 : nFi D' f = nFi D f := by unfold nFi; rw [h40]
  obtain ⟨a1, a2, a3⟩ := h.2 _ k3 k4
  have e2 : nFj D' f = nFj D f := by unfold nFj; rw [e1, a3]
  have e3 : nFh D' f = nFh D f := by unfold nFh; rw [e1, a3]
  have e4 : nFs D' f = nFs D f := by unfold nFs; rw [e1, a3]
  obtain ⟨b1, b2, b3⟩ := h.2 _ j4 j5
  obtain ⟨c1, c2, c3⟩ := h.2 _ h4 h5
  obtain ⟨d1, d2, d3⟩ := h.2 _ s4 s5
  have := h.1
  unfold kFi
  rw [e1, e2, e3, e4, h40, a1, a3, a3, a3, b1, b2, c1, c2, d1, d2]
  exact ⟨⟨⟨k1, k2, k3, by omega⟩, ⟨j1, j2, j3, j4, by omega⟩, ⟨h1, h2, h3, h4, by omega⟩, ⟨s1, s2, s3, s4, by omega⟩⟩, rfl, rfl, rfl, rfl⟩
theorem sCh_ext {D D' : zD} (h : ext D D') : ∀ (ps : List Nat) (o : Option Nat), (∀ p, p ∈ ps → 85 ≤ p ∧ p < D.2.2.2) → sCh D ps o → sCh D' ps o
  | [], _, _, hc => hc
  | p :: ps, o, hp, hc => by
    obtain ⟨c1, c2, c3⟩ := hc
    obtain ⟨p1, p2⟩ := hp p (List.mem_cons_self ..)
    obtain ⟨a1, a2, a3⟩ := h.2 p p1 p2
    refine ⟨c1, a1.trans c2, ?_⟩
    rw [a3]
    exact sCh_ext h ps _ (fun q hq => hp q (List.mem_cons_of_mem _ hq)) c3
theorem nCh_ext {nx : Nat} {I I' : Nat → Nat → Int32} {f w : Int32} (h : ∀ a b, uX nx a b → I' a b = I a b) : ∀ (n : Nat) (ps : List Nat), (∀ p, p ∈ ps → 85 ≤ p ∧ p < nx) → nCh I f w n ps → nCh I' f w n ps
  | 0, ps, _, hc => hc
  | n + 1, ps, hp, hc => by
    obtain ⟨h1, h2⟩ := hc
    unfold nCh
    rw [h 63 n (by unfold uX; omega), h 64 n (by unfold uX; omega), h 65 n (by unfold uX; omega), h 66 n (by unfold uX; omega), h 67 n (by unfold uX; omega)]
    refine ⟨fun c => ?_, fun c => nCh_ext h n ps hp (h2 c)⟩
    obtain ⟨p, ps', rfl, q1, q2, q3, q4⟩ := h1 c
    have hp0 := hp p (List.mem_cons_self ..)
    refine ⟨p, ps', rfl, ?_, ?_, ?_, nCh_ext h n ps' (fun q hq => hp q (List.mem_cons_of_mem _ hq)) q4⟩
    · rw [h p 0 (by unfold uX; omega)]; exact q1
    · rw [h p 1 (by unfold uX; omega)]; exact q2
    · rw [h p 2 (by unfold uX; omega)]; exact q3
theorem vSt_ext {D D' : zD} {I I' : Nat → Nat → Int32} {t : Nat} (ht : t < 10) (h : ∀ a b, uX D.2.2.2 a b → I' a b = I a b) (hk : kSt D t) (e1 : nSt D' t = nSt D t) (e2 : nRw D' t = nRw D t) (hv : vSt D I t) : vSt D' I' t := by
  obtain ⟨_, _, _, _, _, k1, k1', k2, k2'⟩ := hk
  obtain ⟨v1, v2, v3, v4, v5, v6⟩ := hv
  have e : I' (nRw D t) = I (nRw D t) := funext fun b => h _ _ (by unfold uX; omega)
  unfold vSt
  rw [e1, e2]
  refine ⟨?_, ?_, ?_, ?_, ?_, ?_⟩
  · rw [h _ _ (by unfold uX; omega), h 54 t (by unfold uX; omega)]; exact v1
  · rw [h _ _ (by unfold uX; omega), h 53 t (by unfold uX; omega)]; exact v2
  · rw [h 53 t (by unfold uX; omega)]; exact v3
  · rw [h 55 t (by unfold uX; omega), h (nSt D t) 2 (by unfold uX; omega)]; exact v4
  · rw [e]; exact mRow_fr ht (fun a b c => h a b (by unfold uX; omega)) v5
  · rw [e]; exact v6
theorem vFi_ext {D D' : zD} {I I' : Nat → Nat → Int32} {n n' f : Nat} (hn : n ≤ n') (h : ∀ a b, uX D.2.2.2 a b → I' a b = I a b) (hk : kFi D f) (e1 : nFi D' f = nFi D f) (e2 : nFj D' f = nFj D f) (e3 : nFh D' f = nFh D f) (hv : vFi D I n f) : vFi D' I' n' f := by
  have k1 := hk.1.2.2
  have k2 := hk.2.1.2.2.2
  have k3 := hk.2.2.1.2.2.2
  unfold vFi at *
  rw [e1, e2, e3, h (nFi D f) 0 (by unfold uX; omega), h (nFi D f) 1 (by unfold uX; omega), h (nFi D f) 2 (by unfold uX; omega), h (nFi D f) 3 (by unfold uX; omega), h (nFi D f) 4 (by unfold uX; omega), h 68 f (by unfold uX; omega), h 69 f (by unfold uX; omega), h 70 f (by unfold uX; omega), h 71 f (by unfold uX; omega)]
  obtain ⟨v1, v2, ⟨fm, f1, f2⟩, v4, v5, v6, ⟨j, j1, j2, j3, j4⟩, v8, v9⟩ := hv
  refine ⟨v1, v2, ⟨fm, by omega, f2⟩, v4, v5, v6, ⟨j, j1, j2, fun e i hi => ?_, fun i hi => ?_⟩, v8, fun i hi => ?_⟩
  · rw [h 73 _ (by unfold uX; omega)]; exact j3 e i hi
  · rw [h (nFj D f) i (by unfold uX; omega), h 72 _ (by unfold uX; omega)]; exact j4 i hi
  · rw [h (nFh D f) i (by unfold uX; omega), h 73 _ (by unfold uX; omega)]; exact v9 i hi
theorem cS_ext {nx : Nat} {I I' : Nat → Nat → Int32} {n nf nn nt td : Nat} (h : ∀ a b, uX nx a b → I' a b = I a b) (hc : cS I n nf nn nt td) : cS I' n nf nn nt td := by
  unfold cS at *
  rw [h 51 15 (by unfold uX; omega), h 32 7 (by unfold uX; omega), h 51 24 (by unfold uX; omega), h 32 8 (by unfold uX; omega), h 51 18 (by unfold uX; omega), h 32 9 (by unfold uX; omega), h 51 4 (by unfold uX; omega), h 37 0 (by unfold uX; omega), h 51 3 (by unfold uX; omega), h 32 10 (by unfold uX; omega)]
  exact hc
theorem cpR_ext {D D' : zD} {I I' : Nat → Nat → Int32} {n nf nn nt td : Nat} (hx : ext D D') (h38 : ∀ t, t < nt → rF D'.2.2.1 38 t = rF D.2.2.1 38 t) (h39 : ∀ i, i < n → rF D'.2.2.1 39 i = rF D.2.2.1 39 i) (h40 : ∀ f, f < nf → rF D'.2.2.1 40 f = rF D.2.2.1 40 f) (h : ∀ a b, uX D.2.2.2 a b → I' a b = I a b) (hc : cpR D I n nf nn nt td) : cpR D' I' n nf nn nt td := by
  obtain ⟨h1, h2, h3, h4, h5, h6⟩ := hc
  have hnt := h1.2.2.2.1.1
  refine ⟨cS_ext h h1, fun t ht => ?_, fun i hi => ?_, fun i hi w hw => ?_, fun k hk => ?_, fun f hf => ?_⟩
  · obtain ⟨k1, e1, e2⟩ := kSt_ext hx (h38 t ht) (h2 t ht).1
    exact ⟨k1, vSt_ext (by omega) h (h2 t ht).1 e1 e2 (h2 t ht).2⟩
  · obtain ⟨k1, e1, e2⟩ := kFa_ext hx (h39 i hi) (h3 i hi).1
    have q := (h3 i hi).1.2.2.2.2.2
    rw [e1, h (nFa D i) 0 (by unfold uX; omega), h (nFa D i) 1 (by unfold uX; omega), h 61 i (by unfold uX; omega), h 62 i (by unfold uX; omega)]
    exact ⟨k1, (h3 i hi).2⟩
  · obtain ⟨k1, e1, e2⟩ := kFa_ext hx (h39 i hi) (h3 i hi).1
    obtain ⟨ps, p1, p2, p3⟩ := h4 i hi w hw
    have q := (h3 i hi).1.2.2.2.2.2
    have hx1 := hx.1
    refine ⟨ps, ?_, nCh_ext h nn ps p3 p2, fun p hp => ⟨(p3 p hp).1, by have := (p3 p hp).2; omega⟩⟩
    rw [e2, (hx.2 (nLa D i) q.2.2.1 q.2.2.2).2.2 w]
    exact sCh_ext hx ps _ p3 p1
  · rw [h 65 k (by unfold uX; omega), h 67 k (by unfold uX; omega)]
    exact h5 k hk
  · obtain ⟨k1, e1, e2, e3, e4⟩ := kFi_ext hx (h40 f hf) (h6 f hf).1
    exact ⟨k1, vFi_ext (Nat.le_refl _) h (h6 f hf).1 e1 e2 e3 (h6 f hf).2⟩
