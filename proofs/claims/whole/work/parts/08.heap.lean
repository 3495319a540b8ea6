section
theorem zad_big {G : zG} {n : Nat} (h : 32 ≤ n) : zad G n = zbase G + (n - 32) := by unfold zad; rw [if_neg (by omega)]
theorem zR_ge {G : zG} {σ : zS} {H : Heap} (hR : zR G σ H) {n : Nat} (h : σ.1 n < 20) : 32 ≤ n ∧ n < σ.2.2.2.2.2 := by
  refine ⟨?_, ?_⟩
  · rcases Nat.lt_or_ge n 32 with q | q
    · exact absurd (hR.1.2.2.2 n q) (by omega)
    · exact q
  · rcases Nat.lt_or_ge n σ.2.2.2.2.2 with q | q
    · exact q
    · exact absurd (hR.1.2.2.1 n q) (by omega)
theorem zad_inj {G : zG} {n m : Nat} (hn : 32 ≤ n) (hm : 32 ≤ m) (h : zad G n = zad G m) : n = m := by
  rw [zad_big hn, zad_big hm] at h
  omega
theorem zR_put {G : zG} {σ σ' : zS} {H H' : Heap} (hR : zR G σ H) {n k : Nat} {v : Value} (hn : σ.1 n < 20) (e1 : σ'.1 = σ.1) (e2 : σ'.2.1 = σ.2.1) (e3 : σ'.2.2.2.2.2 = σ.2.2.2.2.2)
    (hv : ∀ m j, zval σ' m j = if m = n ∧ j = k then v else zval σ m j)
    (hob : σ.1 n < 12 → t_OB (zad G n) (zdC G (σ.1 n)) (zNf (σ.1 n)) (zdI G (σ.1 n)) H' (updV (fun j => zcv G (zval σ n j)) k (zcv G v)))
    (har : 12 ≤ σ.1 n → H'[zad G n]? = some (arrV (zaC G (σ.1 n)) (σ.2.1 n) (updV (fun j => zcv G (zval σ n j)) k (zcv G v))))
    (hsz : H'.size = H.size) (hoth : ∀ q, q ≠ zad G n → H'[q]? = H[q]?) : zR G σ' H' := by
  have hup : ∀ j, updV (fun j => zcv G (zval σ n j)) k (zcv G v) j = zcv G (zval σ' n j) := fun j => by
    rw [hv]
    unfold updV
    by_cases h : j = k
    · simp [h]
    · simp [h]
  have hge := zR_ge hR hn
  have hne : ∀ m, σ.1 m < 20 → m ≠ n → zad G m ≠ zad G n := fun m hm h1 h2 => h1 (zad_inj (zR_ge hR hm).1 hge.1 h2)
  have hbase : ∀ q, q < zbase G → q ≠ zad G n := fun q hq h => by rw [zad_big hge.1] at h; omega
  refine ⟨?_, ?_, ?_, ?_⟩
  · rw [e1, e3, hsz]; exact hR.1
  · intro m hm
    rw [e1] at hm ⊢
    by_cases h : m = n
    · subst h
      exact (hob hm).to (fun j _ => hup j)
    · obtain ⟨cell, h1, h2, h3, h4⟩ := hR.2.1 m hm
      refine ⟨cell, by rw [hoth _ (hne m (by omega) h)]; exact h1, h2, h3, fun j hj => ?_⟩
      rw [h4 j hj]
      show some (zcv G (zval σ m j)) = some (zcv G (zval σ' m j))
      rw [hv, if_neg (fun q => h q.1)]
  · intro m h1 h2
    rw [e1] at h1 h2 ⊢
    rw [e2]
    by_cases h : m = n
    · subst h
      rw [har h1, show updV (fun j => zcv G (zval σ m j)) k (zcv G v) = fun j => zcv G (zval σ' m j) from funext hup]
    · rw [hoth _ (hne m (by omega) h), hR.2.2.1 m h1 h2]
      congr 2
      funext j
      rw [hv, if_neg (fun q => h q.1)]
  · intro q hq
    rw [hoth q (hbase q hq)]
    exact hR.2.2.2 q hq
theorem zval_uI {K N : Nat → Nat} {I : Nat → Nat → Int32} {J : Nat → Nat → Int64} {R : Nat → Nat → Option Nat} {nx n k : Nat} (x : Int32) (h : zvt (K n) k = 0) (m j : Nat) : zval (K, N, zu2 I n k x, J, R, nx) m j = if m = n ∧ j = k then .int x else zval (K, N, I, J, R, nx) m j := by
  by_cases h1 : m = n ∧ j = k
  · obtain ⟨rfl, rfl⟩ := h1
    simp [zval, zvx, zu2, h]
  · rw [if_neg h1]
    simp only [zval, zvx, zu2, if_neg h1]
theorem zval_uJ {K N : Nat → Nat} {I : Nat → Nat → Int32} {J : Nat → Nat → Int64} {R : Nat → Nat → Option Nat} {nx n k : Nat} (x : Int64) (h : zvt (K n) k = 1) (m j : Nat) : zval (K, N, I, zu2 J n k x, R, nx) m j = if m = n ∧ j = k then .long x else zval (K, N, I, J, R, nx) m j := by
  by_cases h1 : m = n ∧ j = k
  · obtain ⟨rfl, rfl⟩ := h1
    simp [zval, zvx, zu2, h]
  · rw [if_neg h1]
    simp only [zval, zvx, zu2, if_neg h1]
theorem zval_uR {K N : Nat → Nat} {I : Nat → Nat → Int32} {J : Nat → Nat → Int64} {R : Nat → Nat → Option Nat} {nx n k : Nat} (x : Option Nat) (h : zvt (K n) k = 2) (m j : Nat) : zval (K, N, I, J, zu2 R n k x, nx) m j = if m = n ∧ j = k then va_rf x else zval (K, N, I, J, R, nx) m j := by
  by_cases h1 : m = n ∧ j = k
  · obtain ⟨rfl, rfl⟩ := h1
    simp [zval, zvx, zu2, h]
  · rw [if_neg h1]
    simp only [zval, zvx, zu2, if_neg h1]
theorem zt_int {ci k : Nat} (h : ztk (zty ci k) = 0 ∨ ztk (zty ci k) = 3) : zvt ci k = 0 := by
  unfold zvt
  generalize zty ci k = ty at *
  cases ty <;> simp_all [ztk, zft]
theorem zt_long {ci k : Nat} (h : ztk (zty ci k) = 1) : zvt ci k = 1 := by
  unfold zvt
  generalize zty ci k = ty at *
  cases ty <;> simp_all [ztk, zft]
theorem zt_ref {ci k : Nat} (h : ztk (zty ci k) = 2) : zvt ci k = 2 := by
  unfold zvt
  generalize zty ci k = ty at *
  cases ty <;> simp_all [ztk, zft]
theorem zfit_int {ty : FieldType} {x : Int32} (h : ztk ty = 0 ∨ (ztk ty = 3 ∧ (x = 0 ∨ x = 1))) : narrow ty (.int x) = .int x ∧ fits ty (.int x) = true := by
  cases ty <;> simp_all [ztk, narrow, fits] <;> rcases h with rfl | rfl <;> decide
theorem zfit_long {ty : FieldType} {x : Int64} (h : ztk ty = 1) : narrow ty (.long x) = .long x ∧ fits ty (.long x) = true := by
  cases ty <;> simp_all [ztk, narrow, fits]
theorem zfit_ref {G : zG} {ty : FieldType} {r : Option Nat} (h : ztk ty = 2) : narrow ty (zcv G (va_rf r)) = zcv G (va_rf r) ∧ fits ty (zcv G (va_rf r)) = true := by
  cases r <;> cases ty <;> simp_all [ztk, narrow, fits, va_rf, zcv]
end
section
variable {l : Launch} {G : zG} {mi : zMI} {Q : zPo} {PX : String → zS → Prop} {pc : Nat} {L : Nat → Option Value} {S : List Value} {σ : zS} {kc ks : Nat}
theorem z_getf {i n ci k t : Nat} {fin : Bool} (hf : zfr (zcN mi) i = some (ci, k, t, fin)) (hK : σ.1 n = ci) (d : decode (zcode mi) pc = .ok (.getfield i, 3)) (kk : Z l G mi Q PX (pc + 3) L (zval σ n k :: S) σ kc ks) : Z l G mi Q PX pc L (.ref n :: S) σ kc ks := by
  intro p e s m args below meth c C H locs ls hR hz hlo hL
  obtain ⟨q, hq, hk, hw, -, -⟩ := z_fr hf
  obtain ⟨hci, hN, -, -, -, -⟩ := z_nf ci q hq
  subst hK
  have ho := hR.2.1 n hci
  rw [← hN] at ho
  have hts : ∀ w ∈ u_ws q.1 q.2.1 q.2.2, w.before args s = true := fun w h => zw C.2.1 C.2.2.1 (z_lay _ q hq w h) (z_goodlay h) args
  have hP : va_P (zdC G, zdI G) vwCl [(zad G n, .inr (σ.1 n, (List.range q.2.2).map (fun j => zcv G (zval σ n j))))] H := by
    intro a x hx
    have ha : a < 1 := (List.getElem?_eq_some_iff.mp hx).1
    rw [show a = 0 by omega] at hx
    cases hx
    exact ⟨q, hq, ho.to fun j hj => by simp [vp_V, List.getD, hj]⟩
  exact va_get C.1.1 C.1.2.1 hts (fun _ h => h) C.1.2.2.2.2.1 (zKs C.2.1 C.2.2.1) hP 0 rfl hq k hk (zw C.2.1 C.2.2.1 hw rfl args) (fun _ h => h) (v := zcv G (zval σ n k)) (by simp [hk]) d (kk p e s m args below meth c C H locs ls hR hz hlo hL)
theorem z_putf {i n ci k t : Nat} {fin : Bool} {v : Value} {σ' : zS} (hf : zfr (zcN mi) i = some (ci, k, t, fin)) (hK : σ.1 n = ci) (hfin : fin = false ∨ (zini mi = true ∧ zcN mi = ci)) (hfit : narrow (zty ci k) (zcv G v) = zcv G v ∧ fits (zty ci k) (zcv G v) = true)
    (e1 : σ'.1 = σ.1) (e2 : σ'.2.1 = σ.2.1) (e3 : σ'.2.2.2.2.2 = σ.2.2.2.2.2) (hv : ∀ m j, zval σ' m j = if m = n ∧ j = k then v else zval σ m j)
    (d : decode (zcode mi) pc = .ok (.putfield i, 3)) (kk : Z l G mi Q PX (pc + 3) L S σ' kc ks) : Z l G mi Q PX pc L (v :: .ref n :: S) σ kc ks := by
  intro p e s m args below meth c C H locs ls hR hz hlo hL
  obtain ⟨q, hq, hk, hw, -, hfe⟩ := z_fr hf
  obtain ⟨hci, hN, hty, hnm, hdec, hnam⟩ := z_nf ci q hq
  subst hK
  have hge := zR_ge hR (n := n) (by omega)
  have ho := hR.2.1 n hci
  rw [← hN] at ho
  have hts : ∀ w ∈ u_ws q.1 q.2.1 q.2.2, w.before args s = true := fun w h => zw C.2.1 C.2.2.1 (z_lay _ q hq w h) (z_goodlay h) args
  have hKs := zKs C.2.1 C.2.2.1
  have hap := va_apart (own := zRn (zcN mi)) hts (fun _ h => h) (zty (σ.1 n)) hty hnm hKs hq
  obtain ⟨cell, q1, q2, q3, q4⟩ := ho
  obtain ⟨hS, hfc, kC, hkC, hkind⟩ := hKs.1 _ q hq
  obtain ⟨cf, kf, fi, f, hi, hsl⟩ := hS k hk
  have hlk : (Cond.fieldLink (zRn (zcN mi)) i (q.2.1 k).1 (q.2.1 k).2.1 (q.2.1 k).2.2.1).before args s = true := zw C.2.1 C.2.2.1 hw rfl args
  have hst := (u_facts hfc hkC (u_lays hts (fun _ h => h) hk) hi).1
  have hlay := hts _ (u_in_lay hk)
  have fin1 : ∀ H' : Heap, H'[zad G n]? = some (cell.setSlot (zdI G (σ.1 n) k) (zcv G v)) → H'.size = H.size → (∀ q, q ≠ zad G n → H'[q]? = H[q]?) → zR G σ' H' := fun H' h1 h2 h3 =>
    zR_put hR (by omega) e1 e2 e3 hv (fun _ => by
      rw [← hN]
      exact ⟨_, h1, q2, q3, t_set q4 hap hk (zcv G v)⟩) (fun h => absurd h (by omega)) h2 h3
  have fin2 : ∀ H' : Heap, H'.size = H.size → s.heap.size ≤ H'.size := fun H' h => by rw [h]; exact hz
  have fin3 : ∀ z ∈ locs ++ [(⟨zad G n, f.slot⟩ : Loc)], zfree G z.base := fun z hzz => by
    rcases List.mem_append.mp hzz with h | h
    · exact hlo z h
    · simp only [List.mem_singleton] at h
      rw [h]
      show zbase G ≤ zad G n
      rw [zad_big hge.1]
      omega
  have hslot : f.slot < cell.slots.size := by rw [hsl]; exact k2_hasslot (q4 k hk)
  rcases hfin with hfin | ⟨hin, hcN⟩
  · rw [hfin] at hfe
    unfold u_lay at hlay
    rw [if_neg (by rw [← hfe]; decide)] at hlay
    have h6 := u_store hfc hkC hkind hlay hi (hty k hk) hfit.1 hfit.2
    refine W.putK C.1.1 C.1.2.1 (f := f) ⟨C.1.2.2.2.2.1, hlk, ⟨_, _, _, hi⟩, hst⟩ (by rw [q2]; exact h6) q1 q3 hslot rfl rfl d fun H' x1 x2 x3 => ?_
    rw [hsl] at x1
    exact kk p e s m args below meth c C H' _ ls (fin1 H' x1 x2 x3) (fin2 H' x2) fin3 hL
  · have h6 := u_fits hfc hkC hkind (u_lays hts (fun _ h => h) hk) hi (hty k hk) hfit.1 hfit.2
    by_cases hfx : (q.2.1 k).2.2.2 = true
    · unfold u_lay at hlay
      rw [if_pos hfx] at hlay
      have hcf : m.cls = cf := by
        obtain ⟨_, _, c', _, _, _, -, -, hf', -, -, -, hown2, -⟩ := Cond.laysFinal_spec hlay
        have e1 : c' = cf := by have := hi.symm.trans hf'; simp at this; exact this.1.symm
        rw [hdec k hk, hnam, ← hcN] at hown2
        rw [← e1]; exact Option.some.inj (C.1.2.2.2.2.1.symm.trans hown2)
      refine W.putFinK C.1.1 C.1.2.1 C.1.2.2.2.2.1 hlk hi hst hcf (C.2.2.2.1 hin) (by rw [q2]; exact h6) q1 q3 hslot rfl rfl d fun H' x1 x2 x3 => ?_
      rw [hsl] at x1
      exact kk p e s m args below meth c C H' _ ls (fin1 H' x1 x2 x3) (fin2 H' x2) fin3 hL
    · unfold u_lay at hlay
      rw [if_neg hfx] at hlay
      have h6 := u_store hfc hkC hkind hlay hi (hty k hk) hfit.1 hfit.2
      refine W.putK C.1.1 C.1.2.1 (f := f) ⟨C.1.2.2.2.2.1, hlk, ⟨_, _, _, hi⟩, hst⟩ (by rw [q2]; exact h6) q1 q3 hslot rfl rfl d fun H' x1 x2 x3 => ?_
      rw [hsl] at x1
      exact kk p e s m args below meth c C H' _ ls (fin1 H' x1 x2 x3) (fin2 H' x2) fin3 hL
end
section
variable {l : Launch} {G : zG} {mi : zMI} {Q : zPo} {PX : String → zS → Prop} {pc : Nat} {L : Nat → Option Value} {S : List Value} {K N : Nat → Nat} {I : Nat → Nat → Int32} {J : Nat → Nat → Int64} {R : Nat → Nat → Option Nat} {nx : Nat} {kc ks : Nat}
theorem z_getI {i n ci k t : Nat} {fin : Bool} (hf : zfr (zcN mi) i = some (ci, k, t, fin)) (ht : t = 0 ∨ t = 3) (hK : K n = ci) (d : decode (zcode mi) pc = .ok (.getfield i, 3)) (kk : Z l G mi Q PX (pc + 3) L (.int (I n k) :: S) (K, N, I, J, R, nx) kc ks) : Z l G mi Q PX pc L (.ref n :: S) (K, N, I, J, R, nx) kc ks := by
  refine z_getf hf hK d ?_
  obtain ⟨-, -, -, -, rfl, -⟩ := z_fr hf
  subst hK
  simpa [zval, zvx, zt_int ht] using kk
theorem z_getJ {i n ci k t : Nat} {fin : Bool} (hf : zfr (zcN mi) i = some (ci, k, t, fin)) (ht : t = 1) (hK : K n = ci) (d : decode (zcode mi) pc = .ok (.getfield i, 3)) (kk : Z l G mi Q PX (pc + 3) L (.long (J n k) :: S) (K, N, I, J, R, nx) kc ks) : Z l G mi Q PX pc L (.ref n :: S) (K, N, I, J, R, nx) kc ks := by
  refine z_getf hf hK d ?_
  obtain ⟨-, -, -, -, rfl, -⟩ := z_fr hf
  subst hK
  simpa [zval, zvx, zt_long ht] using kk
theorem z_getR {i n ci k t : Nat} {fin : Bool} (hf : zfr (zcN mi) i = some (ci, k, t, fin)) (ht : t = 2) (hK : K n = ci) (d : decode (zcode mi) pc = .ok (.getfield i, 3)) (kk : Z l G mi Q PX (pc + 3) L (va_rf (R n k) :: S) (K, N, I, J, R, nx) kc ks) : Z l G mi Q PX pc L (.ref n :: S) (K, N, I, J, R, nx) kc ks := by
  refine z_getf hf hK d ?_
  obtain ⟨-, -, -, -, rfl, -⟩ := z_fr hf
  subst hK
  simpa [zval, zvx, zt_ref ht] using kk
theorem z_putI {i n ci k t : Nat} {fin : Bool} {x : Int32} (hf : zfr (zcN mi) i = some (ci, k, t, fin)) (ht : t = 0 ∨ (t = 3 ∧ (x = 0 ∨ x = 1))) (hK : K n = ci) (hfin : fin = false ∨ (zini mi = true ∧ zcN mi = ci)) (d : decode (zcode mi) pc = .ok (.putfield i, 3)) (kk : Z l G mi Q PX (pc + 3) L S (K, N, zu2 I n k x, J, R, nx) kc ks) : Z l G mi Q PX pc L (.int x :: .ref n :: S) (K, N, I, J, R, nx) kc ks := by
  have hq := z_fr hf
  obtain ⟨-, -, -, -, rfl, -⟩ := hq
  exact z_putf (σ' := (K, N, zu2 I n k x, J, R, nx)) hf hK hfin (zfit_int ht) rfl rfl rfl (zval_uI x (by rw [hK]; exact zt_int (ht.imp id And.left))) d kk
theorem z_putJ {i n ci k t : Nat} {fin : Bool} {x : Int64} (hf : zfr (zcN mi) i = some (ci, k, t, fin)) (ht : t = 1) (hK : K n = ci) (hfin : fin = false ∨ (zini mi = true ∧ zcN mi = ci)) (d : decode (zcode mi) pc = .ok (.putfield i, 3)) (kk : Z l G mi Q PX (pc + 3) L S (K, N, I, zu2 J n k x, R, nx) kc ks) : Z l G mi Q PX pc L (.long x :: .ref n :: S) (K, N, I, J, R, nx) kc ks := by
  have hq := z_fr hf
  obtain ⟨-, -, -, -, rfl, -⟩ := hq
  exact z_putf (σ' := (K, N, I, zu2 J n k x, R, nx)) hf hK hfin (zfit_long ht) rfl rfl rfl (zval_uJ x (by rw [hK]; exact zt_long ht)) d kk
theorem z_putR {i n ci k t : Nat} {fin : Bool} {r : Option Nat} (hf : zfr (zcN mi) i = some (ci, k, t, fin)) (ht : t = 2) (hK : K n = ci) (hfin : fin = false ∨ (zini mi = true ∧ zcN mi = ci)) (d : decode (zcode mi) pc = .ok (.putfield i, 3)) (kk : Z l G mi Q PX (pc + 3) L S (K, N, I, J, zu2 R n k r, nx) kc ks) : Z l G mi Q PX pc L (va_rf r :: .ref n :: S) (K, N, I, J, R, nx) kc ks := by
  have hq := z_fr hf
  obtain ⟨-, -, -, -, rfl, -⟩ := hq
  exact z_putf (σ' := (K, N, I, J, zu2 R n k r, nx)) hf hK hfin (zfit_ref ht) rfl rfl rfl (zval_uR r (by rw [hK]; exact zt_ref ht)) d kk
end
