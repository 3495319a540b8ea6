section
theorem z_aty : ∀ kd, 12 ≤ kd → kd < 20 → ∀ k, zty kd k = zty kd 0 := by
  intro kd h1 h2 k
  match kd, h1, h2 with
  | 12, _, _ => rfl
  | 13, _, _ => rfl
  | 14, _, _ => rfl
  | 15, _, _ => rfl
  | 16, _, _ => rfl
  | 17, _, _ => rfl
  | 18, _, _ => rfl
  | 19, _, _ => rfl
  | n + 20, _, h => exact absurd h (by omega)
theorem z_arr {l : Launch} {G : zG} (hG : zOK l G) {s : State} (hW : (zs0 G).WarmedH s.vm) {kd : Nat} (h1 : 12 ≤ kd) (h2 : kd < 20) : ArrOfT s (zaC G kd) (zty kd 0) ∧ va_RA s (zaC G kd) (zty kd 0) := by
  have hK := (zKs hG hW).2
  match kd, h1, h2 with
  | 12, _, _ => exact hK 0 _ rfl
  | 13, _, _ => exact hK 1 _ rfl
  | 14, _, _ => exact hK 2 _ rfl
  | 15, _, _ => exact hK 3 _ rfl
  | 16, _, _ => exact hK 4 _ rfl
  | 17, _, _ => exact hK 5 _ rfl
  | 18, _, _ => exact hK 6 _ rfl
  | 19, _, _ => exact hK 7 _ rfl
  | n + 20, _, h => exact absurd h (by omega)
end
section
variable {l : Launch} {G : zG} {mi : zMI} {Q : zPo} {PX : String → zS → Prop} {pc : Nat} {L : Nat → Option Value} {S : List Value} {K N : Nat → Nat} {I : Nat → Nat → Int32} {J : Nat → Nat → Int64} {R : Nat → Nat → Option Nat} {nx : Nat} {kc ks : Nat}
theorem z_alen {n : Nat} (h1 : 12 ≤ K n) (h2 : K n < 20) (d : decode (zcode mi) pc = .ok (.arraylength, 1)) (k : Z l G mi Q PX (pc + 1) L (.int (nI (N n)) :: S) (K, N, I, J, R, nx) kc ks) : Z l G mi Q PX pc L (.ref n :: S) (K, N, I, J, R, nx) kc ks := by
  intro p e s m args below meth c C H locs ls hR hz hlo hL
  have hc := hR.2.2.1 n h1 h2
  exact W.alen C.1.1 C.1.2.1 hc ((z_arr C.2.1 C.2.2.1 h1 h2).1 _ _) (n := nI (N n)) (by rw [arrV_size]; rfl) rfl rfl d (k p e s m args below meth c C H locs ls hR hz hlo hL)
theorem z_iaload {n : Nat} {i : Int32} (h1 : K n = 13) (hi : vp_in i (N n)) (d : decode (zcode mi) pc = .ok (.iaload, 1)) (k : Z l G mi Q PX (pc + 1) L (.int (I n i.toNatClampNeg) :: S) (K, N, I, J, R, nx) kc ks) : Z l G mi Q PX pc L (.int i :: .ref n :: S) (K, N, I, J, R, nx) kc ks := by
  intro p e s m args below meth c C H locs ls hR hz hlo hL
  have hc := hR.2.2.1 n (by show 12 ≤ K n; omega) (by show K n < 20; omega)
  have hlt : i.toNatClampNeg < N n := Nat.not_le.mp fun q => hi (Or.inr q)
  have ha := (z_arr C.2.1 C.2.2.1 (kd := K n) (by omega) (by omega)).1
  rw [h1] at ha
  simp only [h1] at hc
  exact W.iald (v := .int (I n i.toNatClampNeg)) C.1.1 C.1.2.1 hc (ha _ _) (fun q => by cases q) (by rw [arrV_size]; exact hi) (by rw [arrV_read _ _ hlt]; simp [zval, zvx, h1, zvt, zty, zft, zcv]) rfl rfl d (k p e s m args below meth c C H locs ls hR hz hlo hL)
theorem z_laload {n : Nat} {i : Int32} (h1 : K n = 14) (hi : vp_in i (N n)) (d : decode (zcode mi) pc = .ok (.laload, 1)) (k : Z l G mi Q PX (pc + 1) L (.long (J n i.toNatClampNeg) :: S) (K, N, I, J, R, nx) kc ks) : Z l G mi Q PX pc L (.int i :: .ref n :: S) (K, N, I, J, R, nx) kc ks := by
  intro p e s m args below meth c C H locs ls hR hz hlo hL
  have hc := hR.2.2.1 n (by show 12 ≤ K n; omega) (by show K n < 20; omega)
  have hlt : i.toNatClampNeg < N n := Nat.not_le.mp fun q => hi (Or.inr q)
  have ha := (z_arr C.2.1 C.2.2.1 (kd := K n) (by omega) (by omega)).1
  rw [h1] at ha
  simp only [h1] at hc
  exact W.lald (v := .long (J n i.toNatClampNeg)) C.1.1 C.1.2.1 hc (ha _ _) (fun q => by cases q) (by rw [arrV_size]; exact hi) (by rw [arrV_read _ _ hlt]; simp [zval, zvx, h1, zvt, zty, zft, zcv]) rfl rfl d (k p e s m args below meth c C H locs ls hR hz hlo hL)
theorem z_baload {n : Nat} {i : Int32} (h1 : K n = 12) (hi : vp_in i (N n)) (d : decode (zcode mi) pc = .ok (.baload, 1)) (k : Z l G mi Q PX (pc + 1) L (.int (I n i.toNatClampNeg) :: S) (K, N, I, J, R, nx) kc ks) : Z l G mi Q PX pc L (.int i :: .ref n :: S) (K, N, I, J, R, nx) kc ks := by
  intro p e s m args below meth c C H locs ls hR hz hlo hL
  have hc := hR.2.2.1 n (by show 12 ≤ K n; omega) (by show K n < 20; omega)
  have hlt : i.toNatClampNeg < N n := Nat.not_le.mp fun q => hi (Or.inr q)
  have ha := (z_arr C.2.1 C.2.2.1 (kd := K n) (by omega) (by omega)).1
  rw [h1] at ha
  simp only [h1] at hc
  exact W.bald (v := .int (I n i.toNatClampNeg)) C.1.1 C.1.2.1 hc (ha _ _) (fun q => by cases q) (by rw [arrV_size]; exact hi) (by rw [arrV_read _ _ hlt]; simp [zval, zvx, h1, zvt, zty, zft, zcv]) rfl rfl d (k p e s m args below meth c C H locs ls hR hz hlo hL)
theorem z_zaload {n : Nat} {i : Int32} (h1 : K n = 15) (hi : vp_in i (N n)) (d : decode (zcode mi) pc = .ok (.baload, 1)) (k : Z l G mi Q PX (pc + 1) L (.int (I n i.toNatClampNeg) :: S) (K, N, I, J, R, nx) kc ks) : Z l G mi Q PX pc L (.int i :: .ref n :: S) (K, N, I, J, R, nx) kc ks := by
  intro p e s m args below meth c C H locs ls hR hz hlo hL
  have hc := hR.2.2.1 n (by show 12 ≤ K n; omega) (by show K n < 20; omega)
  have hlt : i.toNatClampNeg < N n := Nat.not_le.mp fun q => hi (Or.inr q)
  have ha := (z_arr C.2.1 C.2.2.1 (kd := K n) (by omega) (by omega)).1
  rw [h1] at ha
  simp only [h1] at hc
  exact W.zald (v := .int (I n i.toNatClampNeg)) C.1.1 C.1.2.1 hc (ha _ _) (fun q => by cases q) (by rw [arrV_size]; exact hi) (by rw [arrV_read _ _ hlt]; simp [zval, zvx, h1, zvt, zty, zft, zcv]) rfl rfl d (k p e s m args below meth c C H locs ls hR hz hlo hL)
theorem z_aaload {n : Nat} {i : Int32} (h1 : 16 ≤ K n) (h2 : K n < 20) (hi : vp_in i (N n)) (d : decode (zcode mi) pc = .ok (.aaload, 1)) (k : Z l G mi Q PX (pc + 1) L (va_rf (R n i.toNatClampNeg) :: S) (K, N, I, J, R, nx) kc ks) : Z l G mi Q PX pc L (.int i :: .ref n :: S) (K, N, I, J, R, nx) kc ks := by
  intro p e s m args below meth c C H locs ls hR hz hlo hL
  have hc := hR.2.2.1 n (by show 12 ≤ K n; omega) (by show K n < 20; omega)
  have hlt : i.toNatClampNeg < N n := Nat.not_le.mp fun q => hi (Or.inr q)
  have ha := (z_arr C.2.1 C.2.2.1 (kd := K n) (by omega) (by omega)).1
  have hk : ∃ C, zty (K n) 0 = .object C ∧ ∀ j, zvt (K n) j = 2 := by
    rcases (show K n = 16 ∨ K n = 17 ∨ K n = 18 ∨ K n = 19 by omega) with h | h | h | h <;> rw [h] <;> exact ⟨_, rfl, fun _ => rfl⟩
  obtain ⟨C0, hC0, hv⟩ := hk
  rw [hC0] at ha
  exact W.aald (v := zcv G (va_rf (R n i.toNatClampNeg))) (ty := .object C0) C.1.1 C.1.2.1 hc (ha _ _) rfl (fun q => by cases q) (by rw [arrV_size]; exact hi) (by rw [arrV_read _ _ hlt]; simp [zval, zvx, hv]) rfl rfl d (k p e s m args below meth c C H locs ls hR hz hlo hL)
theorem z_ast {n : Nat} {i : Int32} {v : Value} {σ' : zS} (h1 : 12 ≤ K n) (h2 : K n < 20) (e1 : σ'.1 = K) (e2 : σ'.2.1 = N) (e3 : σ'.2.2.2.2.2 = nx) (hv : ∀ m j, zval σ' m j = if m = n ∧ j = i.toNatClampNeg then v else zval (K, N, I, J, R, nx) m j) {s : State} {H : Heap} {locs : List Loc} (hR : zR G (K, N, I, J, R, nx) H) (hz : s.heap.size ≤ H.size) (hlo : ∀ z ∈ locs, zfree G z.base)
    {H' : Heap} (x1 : H'[zad G n]? = some ((arrV (zaC G (K n)) (N n) (fun k => zcv G (zval (K, N, I, J, R, nx) n k))).setSlot i.toNatClampNeg (zcv G v))) (x2 : H'.size = H.size) (x3 : ∀ q, q ≠ zad G n → H'[q]? = H[q]?) : zR G σ' H' ∧ s.heap.size ≤ H'.size ∧ ∀ z ∈ locs ++ [(⟨zad G n, i.toNatClampNeg⟩ : Loc)], zfree G z.base := by
  have hge := zR_ge hR (n := n) h2
  refine ⟨zR_put (k := i.toNatClampNeg) (v := v) hR (n := n) h2 e1 e2 e3 hv (fun h => absurd h (by show ¬ K n < 12; omega)) (fun _ => by rw [x1, arrV_store]) x2 x3, by rw [x2]; exact hz, fun z hzz => ?_⟩
  rcases List.mem_append.mp hzz with h | h
  · exact hlo z h
  · simp only [List.mem_singleton] at h
    rw [h]
    show zbase G ≤ zad G n
    rw [zad_big hge.1]
    omega
theorem z_iastore {n : Nat} {i x : Int32} (h1 : K n = 13) (hi : vp_in i (N n)) (d : decode (zcode mi) pc = .ok (.iastore, 1)) (k : Z l G mi Q PX (pc + 1) L S (K, N, zu2 I n i.toNatClampNeg x, J, R, nx) kc ks) : Z l G mi Q PX pc L (.int x :: .int i :: .ref n :: S) (K, N, I, J, R, nx) kc ks := by
  intro p e s m args below meth c C H locs ls hR hz hlo hL
  have hc := hR.2.2.1 n (by show 12 ≤ K n; omega) (by show K n < 20; omega)
  have ha := (z_arr C.2.1 C.2.2.1 (kd := K n) (by omega) (by omega)).1
  rw [show zty (K n) 0 = .int by rw [h1]; rfl] at ha
  refine W.iast C.1.1 C.1.2.1 hc (ha _ _) (fun q => by cases q) (by rw [arrV_size]; exact hi) rfl rfl d fun H' x1 x2 x3 => ?_
  obtain ⟨y1, y2, y3⟩ := z_ast (v := .int x) (σ' := (K, N, zu2 I n i.toNatClampNeg x, J, R, nx)) (show 12 ≤ K n by omega) (show K n < 20 by omega) rfl rfl rfl (zval_uI x (by rw [h1]; rfl)) hR hz hlo x1 x2 x3
  exact k p e s m args below meth c C H' _ ls y1 y2 y3 hL
theorem z_lastore {n : Nat} {i : Int32} {x : Int64} (h1 : K n = 14) (hi : vp_in i (N n)) (d : decode (zcode mi) pc = .ok (.lastore, 1)) (k : Z l G mi Q PX (pc + 1) L S (K, N, I, zu2 J n i.toNatClampNeg x, R, nx) kc ks) : Z l G mi Q PX pc L (.long x :: .int i :: .ref n :: S) (K, N, I, J, R, nx) kc ks := by
  intro p e s m args below meth c C H locs ls hR hz hlo hL
  have hc := hR.2.2.1 n (by show 12 ≤ K n; omega) (by show K n < 20; omega)
  have ha := (z_arr C.2.1 C.2.2.1 (kd := K n) (by omega) (by omega)).1
  rw [show zty (K n) 0 = .long by rw [h1]; rfl] at ha
  refine W.last C.1.1 C.1.2.1 hc (ha _ _) (fun q => by cases q) (by rw [arrV_size]; exact hi) rfl rfl d fun H' x1 x2 x3 => ?_
  obtain ⟨y1, y2, y3⟩ := z_ast (v := .long x) (σ' := (K, N, I, zu2 J n i.toNatClampNeg x, R, nx)) (show 12 ≤ K n by omega) (show K n < 20 by omega) rfl rfl rfl (zval_uJ x (by rw [h1]; rfl)) hR hz hlo x1 x2 x3
  exact k p e s m args below meth c C H' _ ls y1 y2 y3 hL
theorem z_bastore {n : Nat} {i x : Int32} (h1 : K n = 12) (hi : vp_in i (N n)) (d : decode (zcode mi) pc = .ok (.bastore, 1)) (k : Z l G mi Q PX (pc + 1) L S (K, N, zu2 I n i.toNatClampNeg x.toInt8.toInt32, J, R, nx) kc ks) : Z l G mi Q PX pc L (.int x :: .int i :: .ref n :: S) (K, N, I, J, R, nx) kc ks := by
  intro p e s m args below meth c C H locs ls hR hz hlo hL
  have hc := hR.2.2.1 n (by show 12 ≤ K n; omega) (by show K n < 20; omega)
  have ha := (z_arr C.2.1 C.2.2.1 (kd := K n) (by omega) (by omega)).1
  rw [show zty (K n) 0 = .byte by rw [h1]; rfl] at ha
  refine W.bast C.1.1 C.1.2.1 hc (ha _ _) (fun q => by cases q) (by rw [arrV_size]; exact hi) rfl rfl d fun H' x1 x2 x3 => ?_
  obtain ⟨y1, y2, y3⟩ := z_ast (v := .int x.toInt8.toInt32) (σ' := (K, N, zu2 I n i.toNatClampNeg x.toInt8.toInt32, J, R, nx)) (show 12 ≤ K n by omega) (show K n < 20 by omega) rfl rfl rfl (zval_uI _ (by rw [h1]; rfl)) hR hz hlo x1 x2 x3
  exact k p e s m args below meth c C H' _ ls y1 y2 y3 hL
theorem z_zastore {n : Nat} {i x : Int32} (h1 : K n = 15) (hi : vp_in i (N n)) (d : decode (zcode mi) pc = .ok (.bastore, 1)) (k : Z l G mi Q PX (pc + 1) L S (K, N, zu2 I n i.toNatClampNeg (x &&& 1), J, R, nx) kc ks) : Z l G mi Q PX pc L (.int x :: .int i :: .ref n :: S) (K, N, I, J, R, nx) kc ks := by
  intro p e s m args below meth c C H locs ls hR hz hlo hL
  have hc := hR.2.2.1 n (by show 12 ≤ K n; omega) (by show K n < 20; omega)
  have ha := (z_arr C.2.1 C.2.2.1 (kd := K n) (by omega) (by omega)).1
  rw [show zty (K n) 0 = .boolean by rw [h1]; rfl] at ha
  refine W.zast C.1.1 C.1.2.1 hc (ha _ _) (fun q => by cases q) (by rw [arrV_size]; exact hi) rfl rfl d fun H' x1 x2 x3 => ?_
  obtain ⟨y1, y2, y3⟩ := z_ast (v := .int (x &&& 1)) (σ' := (K, N, zu2 I n i.toNatClampNeg (x &&& 1), J, R, nx)) (show 12 ≤ K n by omega) (show K n < 20 by omega) rfl rfl rfl (zval_uI _ (by rw [h1]; rfl)) hR hz hlo x1 x2 x3
  exact k p e s m args below meth c C H' _ ls y1 y2 y3 hL
def zel (kd : Nat) : Nat := if kd = 16 then 0 else if kd = 17 then 1 else if kd = 18 then 3 else 7
theorem z_aastore {n v : Nat} {i : Int32} (h1 : 16 ≤ K n) (h2 : K n < 20) (hv : K v = zel (K n)) (hi : vp_in i (N n)) (d : decode (zcode mi) pc = .ok (.aastore, 1)) (k : Z l G mi Q PX (pc + 1) L S (K, N, I, J, zu2 R n i.toNatClampNeg (some v), nx) kc ks) : Z l G mi Q PX pc L (.ref v :: .int i :: .ref n :: S) (K, N, I, J, R, nx) kc ks := by
  intro p e s m args below meth c C H locs ls hR hz hlo hL
  have hc := hR.2.2.1 n (by show 12 ≤ K n; omega) (by show K n < 20; omega)
  have ha := z_arr C.2.1 C.2.2.1 (kd := K n) (by omega) (by omega)
  have hlt : i.toNatClampNeg < N n := Nat.not_le.mp fun q => hi (Or.inr q)
  have h0 : ¬ i < 0 := fun q => hi (Or.inl q)
  have hk : ∃ q : vw_C, vwCl[K v]? = some q ∧ zty (K n) 0 = .object q.1 ∧ ∀ j, zvt (K n) j = 2 := by
    rcases (show K n = 16 ∨ K n = 17 ∨ K n = 18 ∨ K n = 19 by omega) with h | h | h | h <;> rw [hv, h] <;> exact ⟨_, rfl, rfl, fun _ => rfl⟩
  obtain ⟨q, hq, hty, hvt⟩ := hk
  have hci := (z_nf _ q hq).1
  rw [hty] at ha
  obtain ⟨cellV, g1, g2, g3, -⟩ := hR.2.1 v hci
  have hcls := ((zKs C.2.1 C.2.2.1).1 _ q hq).2
  obtain ⟨kA, comp, k1, k2, k3, -⟩ := ha.2
  have hcomp : comp = zdC G (K v) := Option.some.inj (k3.symm.trans hcls.1)
  subst hcomp
  obtain ⟨kC, hkC, -⟩ := hcls.2
  refine W.aast C.1.1 C.1.2.1 hc (fun q h => by cases h) (fun h => by cases h) k1 k2 rfl hkC ⟨h0, by rw [arrV_size]; exact hlt⟩ g1 (fun q h => by rw [g3] at h; cases h) (by rw [g2]; exact hkC) (by rw [g2]; exact va_assign hcls) rfl rfl d fun H' x1 x2 x3 => ?_
  obtain ⟨y1, y2, y3⟩ := z_ast (v := va_rf (some v)) (σ' := (K, N, I, J, zu2 R n i.toNatClampNeg (some v), nx)) (show 12 ≤ K n by omega) (show K n < 20 by omega) rfl rfl rfl (zval_uR _ (hvt _)) hR hz hlo x1 x2 x3
  exact k p e s m args below meth c C H' _ ls y1 y2 y3 hL
end
