section
def zdv (kd k : Nat) : Value := if zvt kd k = 0 then .int 0 else if zvt kd k = 1 then .long 0 else .null
theorem z_dvt {ty : FieldType} (h1 : ty ≠ .float) (h2 : ty ≠ .double) : defaultValue ty = (if zft ty = 0 then .int 0 else if zft ty = 1 then .long 0 else .null) := by
  cases ty <;> simp_all [zft, defaultValue]
theorem z_nofl : ∀ (ci : Nat) (q : vw_C), vwCl[ci]? = some q → ∀ k, k < q.2.2 → zty ci k ≠ .float ∧ zty ci k ≠ .double := by
  intro ci q h
  match ci, h with
  | 0, h => cases h; decide +kernel
  | 1, h => cases h; decide +kernel
  | 2, h => cases h; decide +kernel
  | 3, h => cases h; decide +kernel
  | 4, h => cases h; decide +kernel
  | 5, h => cases h; decide +kernel
  | 6, h => cases h; decide +kernel
  | 7, h => cases h; decide +kernel
  | 8, h => cases h; decide +kernel
  | 9, h => cases h; decide +kernel
  | 10, h => cases h; decide +kernel
  | 11, h => cases h; decide +kernel
  | n + 12, h => simp [vwCl] at h
def znew (σ : zS) (kd len : Nat) : zS := (zu1 σ.1 σ.2.2.2.2.2 kd, zu1 σ.2.1 σ.2.2.2.2.2 len, zu1 σ.2.2.1 σ.2.2.2.2.2 (fun _ => 0), zu1 σ.2.2.2.1 σ.2.2.2.2.2 (fun _ => 0), zu1 σ.2.2.2.2.1 σ.2.2.2.2.2 (fun _ => none), σ.2.2.2.2.2 + 1)
theorem zval_new (σ : zS) (kd len : Nat) (m j : Nat) : zval (znew σ kd len) m j = if m = σ.2.2.2.2.2 then zdv kd j else zval σ m j := by
  by_cases h : m = σ.2.2.2.2.2
  · subst h
    simp only [zval, znew, zvx, zu1, if_true, zdv]
    rfl
  · simp only [zval, znew, zvx, zu1, if_neg h]
theorem zR_new {G : zG} {σ : zS} {H H' : Heap} (hR : zR G σ H) (kd len : Nat) (hkd : kd < 20)
    (hob : kd < 12 → t_OB H.size (zdC G kd) (zNf kd) (zdI G kd) H' (fun k => zdv kd k)) (har : 12 ≤ kd → H'[H.size]? = some (arrV (zaC G kd) len (fun k => zdv kd k)))
    (hsz : H'.size = H.size + 1) (hoth : ∀ q, q < H.size → H'[q]? = H[q]?) : zR G (znew σ kd len) H' ∧ zad G σ.2.2.2.2.2 = H.size := by
  have h32 := hR.1.1
  have hs := hR.1.2.1
  have had : zad G σ.2.2.2.2.2 = H.size := by rw [zad_big h32, hs]
  have hcv : ∀ j, zcv G (zdv kd j) = zdv kd j := fun j => by
    unfold zdv
    split
    · rfl
    · split <;> rfl
  have hold : ∀ m, σ.1 m < 20 → m ≠ σ.2.2.2.2.2 ∧ zad G m < H.size := fun m hm => by
    have h := zR_ge hR hm
    refine ⟨by omega, ?_⟩
    rw [zad_big h.1, hs]
    omega
  refine ⟨⟨⟨?_, ?_, ?_, ?_⟩, ?_, ?_, ?_⟩, had⟩
  · show 32 ≤ σ.2.2.2.2.2 + 1
    omega
  · show H'.size = zbase G + (σ.2.2.2.2.2 + 1 - 32)
    rw [hsz, hs]
    omega
  · intro n hn
    have hn' : σ.2.2.2.2.2 + 1 ≤ n := hn
    show 20 ≤ zu1 σ.1 σ.2.2.2.2.2 kd n
    unfold zu1
    rw [if_neg (by omega)]
    exact hR.1.2.2.1 n (by omega)
  · intro n hn
    show 20 ≤ zu1 σ.1 σ.2.2.2.2.2 kd n
    unfold zu1
    rw [if_neg (by omega)]
    exact hR.1.2.2.2 n hn
  · intro m hm
    by_cases h : m = σ.2.2.2.2.2
    · subst h
      have e : (znew σ kd len).1 σ.2.2.2.2.2 = kd := by simp [znew, zu1]
      rw [e] at hm ⊢
      rw [had]
      exact (hob hm).to fun j _ => by rw [zval_new, if_pos rfl, hcv]
    · have e : (znew σ kd len).1 m = σ.1 m := by simp [znew, zu1, h]
      rw [e] at hm ⊢
      obtain ⟨cell, h1, h2, h3, h4⟩ := hR.2.1 m hm
      refine ⟨cell, by rw [hoth _ (hold m (by omega)).2]; exact h1, h2, h3, fun j hj => ?_⟩
      rw [h4 j hj]
      show some (zcv G (zval σ m j)) = some (zcv G (zval (znew σ kd len) m j))
      rw [zval_new, if_neg h]
  · intro m h1 h2
    by_cases h : m = σ.2.2.2.2.2
    · subst h
      have e : (znew σ kd len).1 σ.2.2.2.2.2 = kd := by simp [znew, zu1]
      have e' : (znew σ kd len).2.1 σ.2.2.2.2.2 = len := by simp [znew, zu1]
      rw [e] at h1 h2 ⊢
      rw [had, e', har h1]
      congr 2
      funext j
      rw [zval_new, if_pos rfl, hcv]
    · have e : (znew σ kd len).1 m = σ.1 m := by simp [znew, zu1, h]
      have e' : (znew σ kd len).2.1 m = σ.2.1 m := by simp [znew, zu1, h]
      rw [e] at h1 h2 ⊢
      rw [e', hoth _ (hold m h2).2, hR.2.2.1 m h1 h2]
      congr 2
      funext j
      rw [zval_new, if_neg h]
  · intro q hq
    rw [hoth q (by omega)]
    exact hR.2.2.2 q hq
theorem z_ncl {c i ci : Nat} (h : zcl c i = some ci) : ∃ q : vw_C, vwCl[ci]? = some q ∧ Cond.classLink (zRn c) i q.1 ∈ lw_tbl ∧ Cond.instantiable q.1 q.2.2 ∈ lw_tbl ∧ Cond.initialized q.1 ∈ lw_tbl := by
  unfold zcl at h
  rcases hf : zNL.find? (fun e => Nat.beq e.1 c && Nat.beq e.2.1 i) with _ | e
  · rw [hf] at h; cases h
  · rw [hf] at h
    have hm := List.mem_of_find?_eq_some hf
    have hp := List.find?_some hf
    have hk := List.all_eq_true.mp zNL_ok e hm
    obtain ⟨e1, e2, e3, e4, e5, e6⟩ := e
    simp only [Bool.and_eq_true] at hp
    have h1 : e1 = c := Nat.eq_of_beq_eq_true hp.1
    have h2 : e2 = i := Nat.eq_of_beq_eq_true hp.2
    simp only [Option.map_some, Option.some.injEq] at h
    subst h h1 h2
    unfold znOk at hk
    rcases hq : vwCl[e3]? with _ | q
    · rw [hq] at hk; cases hk
    · rw [hq] at hk
      simp only [Bool.and_eq_true, decide_eq_true_eq] at hk
      exact ⟨q, rfl, List.mem_of_getElem? hk.1.1, List.mem_of_getElem? hk.1.2, List.mem_of_getElem? hk.2⟩
theorem z_nal {c i kd : Nat} (h : zal c i = some kd) : 16 ≤ kd ∧ kd < 20 ∧ ∃ C : String, zty kd 0 = .object C ∧ Cond.classLink (zRn c) i C ∈ lw_tbl ∧ Cond.arrayOver (.object C) ∈ lw_tbl := by
  unfold zal at h
  rcases hf : zAL.find? (fun e => Nat.beq e.1 c && Nat.beq e.2.1 i) with _ | e
  · rw [hf] at h; cases h
  · rw [hf] at h
    have hm := List.mem_of_find?_eq_some hf
    have hp := List.find?_some hf
    have hk := List.all_eq_true.mp zAL_ok e hm
    obtain ⟨e1, e2, e3, e4, e5, e6⟩ := e
    simp only [Bool.and_eq_true] at hp
    have h1 : e1 = c := Nat.eq_of_beq_eq_true hp.1
    have h2 : e2 = i := Nat.eq_of_beq_eq_true hp.2
    simp only [Option.map_some, Option.some.injEq] at h
    subst h h1 h2
    unfold zaOk at hk
    rcases hq : vwCl[e4]? with _ | q
    · simp only [hq] at hk; cases hk
    · simp only [hq, Bool.and_eq_true, decide_eq_true_eq] at hk
      exact ⟨hk.1.2, hk.2, q.1, hk.1.1.2, List.mem_of_getElem? hk.1.1.1.1, List.mem_of_getElem? hk.1.1.1.2⟩
end
section
variable {l : Launch} {G : zG} {mi : zMI} {Q : zPo} {PX : String → zS → Prop} {pc : Nat} {L : Nat → Option Value} {S : List Value} {σ : zS} {kc ks : Nat}
theorem z_new {i ci : Nat} (hf : zcl (zcN mi) i = some ci) (hc : kc + 1 ≤ zmc mi) (hs : ks + zNf ci ≤ zms mi) (d : decode (zcode mi) pc = .ok (.new i, 3)) (k : Z l G mi Q PX (pc + 3) L (.ref σ.2.2.2.2.2 :: S) (znew σ ci 0) (kc + 1) (ks + zNf ci)) : Z l G mi Q PX pc L S σ kc ks := by
  intro p e s m args below meth c C H locs ls hR hz hlo hL
  obtain ⟨q, hq, w1, w2, w3⟩ := z_ncl hf
  obtain ⟨hci, hN, hty, -, -, -⟩ := z_nf ci q hq
  have hKn := (zKs C.2.1 C.2.2.1).1 ci q hq
  have hts : ∀ w ∈ u_ws q.1 q.2.1 q.2.2, w.before args s = true := fun w h => zw C.2.1 C.2.2.1 (z_lay _ q hq w h) (z_goodlay h) args
  rw [← hN] at hs k
  refine W.newcK C.1.1 C.1.2.1 C.1.2.2.2.2.1 (zw C.2.1 C.2.2.1 w1 rfl args) (zw C.2.1 C.2.2.1 w2 rfl args) (zw C.2.1 C.2.2.1 w3 rfl args) rfl d hc hs hKn.2.1 rfl fun H1 kC hkC e1 z1 o1 => ?_
  obtain ⟨r1, r2⟩ := zR_new hR ci 0 (by omega) (fun _ => by
    rw [← hN]
    exact (u_born (zty ci) hts (fun _ h => h) hKn hkC e1 hty).to fun j hj => (z_dvt (z_nofl ci q hq j hj).1 (z_nofl ci q hq j hj).2)) (fun h => absurd h (by omega)) z1 o1
  have := k p e s m args below meth c C H1 locs ls r1 (by omega) hlo hL
  rw [List.map_cons, show zcv G (.ref σ.2.2.2.2.2) = .ref H.size from congrArg Value.ref r2] at this
  exact this
theorem z_anew {i kd : Nat} {n : Int32} (hf : zal (zcN mi) i = some kd) (hn : ¬ n < 0) (hb : n.toNatClampNeg * 4 ≤ 536870912) (hc : kc + 1 ≤ zmc mi) (hs : ks + n.toNatClampNeg ≤ zms mi) (d : decode (zcode mi) pc = .ok (.anewarray i, 3)) (k : Z l G mi Q PX (pc + 3) L (.ref σ.2.2.2.2.2 :: S) (znew σ kd n.toNatClampNeg) (kc + 1) (ks + n.toNatClampNeg)) : Z l G mi Q PX pc L (.int n :: S) σ kc ks := by
  intro p e s m args below meth c C H locs ls hR hz hlo hL
  obtain ⟨h16, h20, Cn, hty, w1, w2⟩ := z_nal hf
  refine W.anew C.1.1 C.1.2.1 C.1.2.2.2.2.1 (zw C.2.1 C.2.2.1 w1 rfl args) (va_AO.use (va_AO.moved C.2.2.1.alike (va_AO.of (C.2.1.1 _ w2)))) rfl d rfl hn hb hc hs fun cA kA comp f1 f2 f3 f4 => ?_
  generalize hH1 : H.push ({ cls := cA, slots := Array.replicate n.toNatClampNeg .null, vm := .none } : Cell) = H1
  have z1 : H1.size = H.size + 1 := by rw [← hH1, Array.size_push]
  have e1 : H1[H.size]? = some (arrV cA n.toNatClampNeg (fun _ => .null)) := by rw [← hH1, Array.getElem?_push_size, ← arrV_new]
  have o1 : ∀ q : Nat, q < H.size → H1[q]? = H[q]? := fun q hq => by rw [← hH1, Array.getElem?_push, if_neg (Nat.ne_of_lt hq)]
  have hra := (z_arr C.2.1 C.2.2.1 (kd := kd) (by omega) h20).2
  rw [hty] at hra
  obtain ⟨_, _, -, -, -, hra4⟩ := hra
  have hcA : cA = zaC G kd := Option.some.inj (f1.symm.trans hra4)
  have hdv : (fun k => zdv kd k) = fun _ => Value.null := by
    funext j
    have h2 : zvt kd j = 2 := by
      unfold zvt
      rw [z_aty kd (by omega) h20 j, hty]
      rfl
    simp [zdv, h2]
  obtain ⟨r1, r2⟩ := zR_new hR kd n.toNatClampNeg h20 (fun h => absurd h (by omega)) (fun _ => by rw [e1, hcA, hdv]) z1 o1
  have := k p e s m args below meth c C H1 locs ls r1 (by omega) hlo hL
  rw [List.map_cons, show zcv G (.ref σ.2.2.2.2.2) = .ref H.size from congrArg Value.ref r2] at this
  exact this
def zak (t : ArrayType) : Option Nat := match newarray.typeOf t with
  | .byte => some 12
  | .int => some 13
  | .long => some 14
  | .boolean => some 15
  | _ => none
theorem z_newa {t : ArrayType} {kd : Nat} {n : Int32} (hf : zak t = some kd) (hn : ¬ n < 0) (hb : n.toNatClampNeg * 8 ≤ 536870912) (hc : kc + 1 ≤ zmc mi) (hs : ks + n.toNatClampNeg ≤ zms mi) (ha : Cond.arrayClass (newarray.typeOf t) ∈ lw_tbl) (d : decode (zcode mi) pc = .ok (.newarray t, 2)) (k : Z l G mi Q PX (pc + 2) L (.ref σ.2.2.2.2.2 :: S) (znew σ kd n.toNatClampNeg) (kc + 1) (ks + n.toNatClampNeg)) : Z l G mi Q PX pc L (.int n :: S) σ kc ks := by
  intro p e s m args below meth c C H locs ls hR hz hlo hL
  have hkd : newarray.typeOf t = zty kd 0 ∧ 12 ≤ kd ∧ kd < 16 ∧ componentBytes (newarray.typeOf t) ≤ 8 ∧ (∀ j, zdv kd j = defaultValue (newarray.typeOf t)) := by
    unfold zak at hf
    generalize newarray.typeOf t = ty at hf ⊢
    cases ty <;> first | (cases hf; done) | (cases hf; exact ⟨rfl, by decide, by decide, by decide, fun _ => rfl⟩)
  obtain ⟨k1, k2, k3, k4, k5⟩ := hkd
  refine va_newaK C.1.1 C.1.2.1 (zw C.2.1 C.2.2.1 ha rfl args) rfl d rfl hn rfl (Nat.le_trans (Nat.mul_le_mul_left _ k4) hb) hc hs rfl fun H1 cA e1 z1 o1 hAr hNm => ?_
  have hra := (z_arr C.2.1 C.2.2.1 (kd := kd) k2 (by omega)).2
  have hcA : cA = zaC G kd := by
    rw [k1] at hNm
    rcases (show kd = 12 ∨ kd = 13 ∨ kd = 14 ∨ kd = 15 by omega) with h | h | h | h <;> subst h <;> exact Option.some.inj (hNm.symm.trans hra)
  obtain ⟨r1, r2⟩ := zR_new hR kd n.toNatClampNeg (by omega) (fun h => absurd h (by omega)) (fun _ => by rw [e1, hcA, show (fun k => zdv kd k) = fun _ => defaultValue (newarray.typeOf t) from funext k5]) z1 o1
  have := k p e s m args below meth c C H1 locs ls r1 (by omega) hlo hL
  rw [List.map_cons, show zcv G (.ref σ.2.2.2.2.2) = .ref H.size from congrArg Value.ref r2] at this
  exact this
theorem z_iret {x : Int32} (hr : zret mi = some .int) (hk : kc ≤ zmc mi) (hs : ks ≤ zms mi) (d : decode (zcode mi) pc = .ok (.ireturn, 1)) (hq : Q (some (.int x)) σ) : Z l G mi Q PX pc L [.int x] σ kc ks := by
  intro p e s m args below meth c C H locs ls hR hz hlo hL
  exact W.widen hk hs (vx_ret (W.iret (v := x) C.1.1 C.1.2.1 (C.1.2.2.2.1.trans hr) (fun t ht hW => ⟨by rw [ht]; exact hz, some (.int x), σ, rfl, by rw [ht]; exact hR, hq⟩) hlo d C.1.2.2.2.2.2.1))
theorem z_zret {x : Int32} (hr : zret mi = some .boolean) (hx : x = 0 ∨ x = 1) (hk : kc ≤ zmc mi) (hs : ks ≤ zms mi) (d : decode (zcode mi) pc = .ok (.ireturn, 1)) (hq : Q (some (.int x)) σ) : Z l G mi Q PX pc L [.int x] σ kc ks := by
  intro p e s m args below meth c C H locs ls hR hz hlo hL
  exact W.widen hk hs (vx_ret (W.zret (v := x) (ty := .boolean) C.1.1 C.1.2.1 (C.1.2.2.2.1.trans hr) (by rcases hx with rfl | rfl <;> decide) (fun t ht hW => ⟨by rw [ht]; exact hz, some (.int x), σ, rfl, by rw [ht]; exact hR, hq⟩) hlo d C.1.2.2.2.2.2.1))
theorem z_lret {x : Int64} (hr : zret mi = some .long) (hk : kc ≤ zmc mi) (hs : ks ≤ zms mi) (d : decode (zcode mi) pc = .ok (.lreturn, 1)) (hq : Q (some (.long x)) σ) : Z l G mi Q PX pc L [.long x] σ kc ks := by
  intro p e s m args below meth c C H locs ls hR hz hlo hL
  exact W.widen hk hs (vx_ret (W.lret (v := x) C.1.1 C.1.2.1 (C.1.2.2.2.1.trans hr) (fun t ht hW => ⟨by rw [ht]; exact hz, some (.long x), σ, rfl, by rw [ht]; exact hR, hq⟩) hlo d C.1.2.2.2.2.2.1))
theorem z_vret (hr : zret mi = none) (hk : kc ≤ zmc mi) (hs : ks ≤ zms mi) (d : decode (zcode mi) pc = .ok (.return_, 1)) (hq : Q none σ) : Z l G mi Q PX pc L [] σ kc ks := by
  intro p e s m args below meth c C H locs ls hR hz hlo hL
  exact W.widen hk hs (vx_ret (W.vret C.1.1 C.1.2.1 (C.1.2.2.2.1.trans hr) (fun t ht hW => ⟨by rw [ht]; exact hz, none, σ, rfl, by rw [ht]; exact hR, hq⟩) hlo d C.1.2.2.2.2.2.1))
theorem z_aret {v : Value} {Cn : String} (hv : zisr v) (hr : zret mi = some (.object Cn)) (hk : kc ≤ zmc mi) (hs : ks ≤ zms mi) (d : decode (zcode mi) pc = .ok (.areturn, 1)) (hq : Q (some v) σ) : Z l G mi Q PX pc L [v] σ kc ks := by
  intro p e s m args below meth c C H locs ls hR hz hlo hL
  exact W.widen hk hs (vx_ret (W.aret (v := zcv G v) C.1.1 C.1.2.1 (C.1.2.2.2.1.trans hr) (Or.inl ⟨_, rfl⟩) (by
    rcases hv with rfl | ⟨n, rfl⟩
    · exact Or.inl rfl
    · exact Or.inr ⟨_, rfl⟩) (fun t ht hW => ⟨by rw [ht]; exact hz, some v, σ, rfl, by rw [ht]; exact hR, hq⟩) hlo d C.1.2.2.2.2.2.1))
theorem z_ldc {i : Nat} {v : Int32} (hf : zic (zcN mi) i = some v) (d : decode (zcode mi) pc = .ok (.ldc i, 2)) (k : Z l G mi Q PX (pc + 2) L (.int v :: S) σ kc ks) : Z l G mi Q PX pc L S σ kc ks := by
  intro p e s m args below meth c C H locs ls hR hz hlo hL
  have hw : Cond.constant (zRn (zcN mi)) i v ∈ lw_tbl := by
    unfold zic at hf
    rcases hh : zIL.find? (fun e => Nat.beq e.1 (zcN mi) && Nat.beq e.2.1 i) with _ | e
    · rw [hh] at hf; cases hf
    · rw [hh] at hf
      have hm := List.mem_of_find?_eq_some hh
      have hp := List.find?_some hh
      have hk := List.all_eq_true.mp zIL_ok e hm
      simp only [Bool.and_eq_true] at hp
      have h1 : e.1 = zcN mi := Nat.eq_of_beq_eq_true hp.1
      have h2 : e.2.1 = i := Nat.eq_of_beq_eq_true hp.2
      simp only [Option.map_some, Option.some.injEq] at hf
      simp only [decide_eq_true_eq, h1, h2, hf] at hk
      exact List.mem_of_getElem? hk
  exact lv_ldc C.1.1 C.1.2.1 C.1.2.2.2.2.1 (zw C.2.1 C.2.2.1 hw rfl args) d (k p e s m args below meth c C H locs ls hR hz hlo hL)
theorem z_ldc2 {i : Nat} {v : Int64} (hf : zjc (zcN mi) i = some v) (d : decode (zcode mi) pc = .ok (.ldc2_w i, 3)) (k : Z l G mi Q PX (pc + 3) L (.long v :: S) σ kc ks) : Z l G mi Q PX pc L S σ kc ks := by
  intro p e s m args below meth c C H locs ls hR hz hlo hL
  have hw : Cond.constantLong (zRn (zcN mi)) i v ∈ lw_tbl := by
    unfold zjc at hf
    rcases hh : zJL.find? (fun e => Nat.beq e.1 (zcN mi) && Nat.beq e.2.1 i) with _ | e
    · rw [hh] at hf; cases hf
    · rw [hh] at hf
      have hm := List.mem_of_find?_eq_some hh
      have hp := List.find?_some hh
      have hk := List.all_eq_true.mp zJL_ok e hm
      simp only [Bool.and_eq_true] at hp
      have h1 : e.1 = zcN mi := Nat.eq_of_beq_eq_true hp.1
      have h2 : e.2.1 = i := Nat.eq_of_beq_eq_true hp.2
      simp only [Option.map_some, Option.some.injEq] at hf
      simp only [decide_eq_true_eq, h1, h2, hf] at hk
      exact List.mem_of_getElem? hk
  exact lv_ldc2 C.1.1 C.1.2.1 C.1.2.2.2.2.1 (zw C.2.1 C.2.2.1 hw rfl args) d (k p e s m args below meth c C H locs ls hR hz hlo hL)
end
