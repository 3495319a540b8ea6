section
def zLf : Nat → List Value → Nat → Option Value
  | _, [], _ => none
  | i, v :: vs, j => if j = i then some v else zLf (if v.category = 2 then i + 2 else i + 1) vs j
def zlv (L : Nat → Option Value) : Nat → List Value → Prop
  | _, [] => True
  | i, v :: vs => L i = some v ∧ zlv L (if v.category = 2 then i + 2 else i + 1) vs
theorem zLf_mem : ∀ (vs : List Value) (i j : Nat) (v : Value), zLf i vs j = some v → (j, v) ∈ lv_args i vs
  | [], _, _, _, h => by cases h
  | w :: vs, i, j, v, h => by
    unfold zLf at h
    unfold lv_args
    by_cases hj : j = i
    · rw [if_pos hj] at h
      cases h
      subst hj
      exact List.mem_cons_self
    · rw [if_neg hj] at h
      exact List.mem_cons_of_mem _ (zLf_mem vs _ j v h)
theorem zlv_of : ∀ (vs : List Value) (i : Nat) (L : Nat → Option Value), (∀ j, i ≤ j → L j = zLf i vs j) → zlv L i vs
  | [], _, _, _ => trivial
  | w :: vs, i, L, h => by
    refine ⟨by rw [h i (Nat.le_refl i)]; unfold zLf; rw [if_pos rfl], zlv_of vs _ L fun j hj => ?_⟩
    have hij : i + 1 ≤ j := by split at hj <;> omega
    rw [h j (by omega)]
    conv => lhs; unfold zLf
    rw [if_neg (by omega)]
theorem lv_args_map (G : zG) : ∀ (vs : List Value) (i j : Nat) (v : Value), (j, v) ∈ lv_args i vs → (j, zcv G v) ∈ lv_args i (vs.map (zcv G))
  | [], _, _, _, h => by cases h
  | w :: vs, i, j, v, h => by
    unfold lv_args at h
    rw [List.map_cons]
    unfold lv_args
    rw [z_cat]
    rcases List.mem_cons.mp h with h | h
    · cases h
      exact List.mem_cons_self
    · exact List.mem_cons_of_mem _ (lv_args_map G vs _ j v h)
theorem lg_sl_map (G : zG) : ∀ vs : List Value, (lg_sl (vs.map (zcv G))).length = (lg_sl vs).length := by
  intro vs
  unfold lg_sl
  induction vs with
  | nil => rfl
  | cons w vs ih =>
    simp only [List.map_cons, List.flatMap_cons, List.length_append]
    rw [ih]
    congr 1
    cases w <;> rfl
end
section
variable {l : Launch} {G : zG} {mi : zMI} {Q : zPo} {PX : String → zS → Prop} {As : List Value} {σ : zS}
/-- a contract out of the walk from the entry -/
theorem zRunsX_of (hG : zOK l G) (hy : plainName (zy mi).cls = true) (hown : (zy mi).cls = zRn (zcN mi)) (hini : zini mi = true → (zy mi).name = "<init>") (hargs : (lg_sl As).length ≤ zmaxL mi) (h : ∀ L, zlv L 0 As → Z l G mi Q PX 0 L [] σ 0 0) : zRunsX l G mi As σ Q PX := by
  refine vx_ofW (cc := zcode mi) (maxL := zmaxL mi) (ret := zret mi) hy rfl ?_
  intro p e s m args below meth c s₁ B hml hex hv
  obtain ⟨rfl, hR, hW⟩ := hv
  have hl := lv_entry (As.map (zcv G)) (n := zmaxL mi) (by rw [lg_sl_map]; exact hargs)
  rw [lg_entry_eq]
  generalize (lg_sl (As.map (zcv G)) ++ List.replicate (zmaxL mi - (lg_sl (As.map (zcv G))).length) Slot.unset).toArray = ls at hl ⊢
  refine h (zLf 0 As) (zlv_of As 0 _ fun _ _ => rfl) p e s m _ below meth c ⟨⟨B.exec, B.bytes, hml, B.returns, ?_, B.notSynchronized, hex⟩, hG, hW, fun hi => ?_, hR.2.2.2, ?_⟩ s.heap [] ls hR (Nat.le_refl _) (fun z hz => nomatch hz) ⟨hl.1, hl.2.1, fun i v hi => hl.2.2 (i, zcv G v) (lv_args_map G As 0 i v (zLf_mem As 0 i v hi))⟩
  · rw [← hown]; exact findClass_of_methodNamed B.named
  · rw [(name_of_methodNamed B.named B.method).1]; exact hini hi
  · have := hR.1.2.1
    omega
theorem zRuns_of (h : zRunsX l G mi As σ Q (fun _ _ => False)) : zRuns l G mi As σ Q := by
  unfold zRuns Met
  refine MetFree.mono (show MetFree _ _ _ _ _ _ from h) (fun _ _ h => h) (fun _ _ _ _ _ h => h) fun a s o t _ hq => ?_
  rcases hq with hq | ⟨q, rfl, E, ce, L, hx, -⟩
  · exact hq
  · exact hx.2.elim fun _ h => h.2.elim
theorem z_start (hG : zOK l G) (hy : plainName (zy mi).cls = true) (hown : (zy mi).cls = zRn (zcN mi)) (hini : zini mi = true → (zy mi).name = "<init>") (hargs : (lg_sl As).length ≤ zmaxL mi) (h : ∀ L, zlv L 0 As → Z l G mi Q (fun _ _ => False) 0 L [] σ 0 0) : zRuns l G mi As σ Q := zRuns_of (zRunsX_of hG hy hown hini hargs h)
theorem zRuns_mono {Q' : zPo} (h : zRuns l G mi As σ Q) (hQ : ∀ r σ', Q r σ' → Q' r σ') : zRuns l G mi As σ Q' := by
  unfold zRuns Met at h ⊢
  refine MetFree.mono h (fun _ _ h => h) (fun _ _ _ _ _ h => h) fun a s o t _ hq => ?_
  obtain ⟨⟨h0, r, σ', h1, h2, h3⟩, h4⟩ := hq
  exact ⟨⟨h0, r, σ', h1, h2, hQ r σ' h3⟩, h4⟩
/-- what a call needs of the method called: np parameters -/
def zMok (mj : zMI) (np : Nat) : Prop := Cond.code (zy mj) (zcode mj) (zmaxL mj) (zret mj) ∈ lw_tbl ∧ Cond.initialized (zy mj).cls ∈ lw_tbl ∧ ((zy mj).cls ≠ "java/lang/invoke/MethodHandle" ∧ (zy mj).cls ≠ "java/lang/invoke/VarHandle") ∧ (parseMethodDescriptor (zy mj).desc).map (fun d => d.parameters.length) = some np
theorem zPc_blind : FrameBlind (zPc G As σ) := fun _ _ _ _ h => h
theorem zcallB {mj : zMI} {np idx : Nat} (hm : zMok mj np) (hlk : Cond.methodLink (zRn (zcN mi)) idx (zy mj) ∈ lw_tbl) (hd : zd mj + 1 ≤ zd mi) (hloc : zmaxL mj ≤ 17) {s : State} {args : Array Value} (hG : zOK l G) (hW : (zs0 G).WarmedH s.vm) :
    CallB (zrm mi) s args (zRn (zcN mi)) idx (zy mj) (zcode mj) (zmaxL mj) (zret mj) [.code (zy mj) (zcode mj) (zmaxL mj) (zret mj)] (zrm mj) (zmc mj) (zms mj) np := by
  refine ⟨rfl, rfl, hd, ?_, ?_, List.mem_cons_self, zw hG hW hm.1 rfl args, zw hG hW hm.2.1 rfl args, hm.2.2.1, fun sig h => ?_, zw hG hW hlk rfl args⟩
  · show 8 + (zmaxL mj + 11) + 36 * zd mj ≤ 36 * zd mi
    omega
  · intro w hw a' U hWU
    simp only [List.mem_singleton] at hw
    subst hw
    exact zw hG (State.WarmedH.trans hW hWU) hm.1 rfl a'
  · have h2 := hm.2.2.2
    rw [h] at h2
    exact (Option.some.inj h2).symm
theorem z_after {Q' : zPo} {mj : zMI} {pc : Nat} {L : Nat → Option Value} {S : List Value} {kc ks : Nat} {p : Program} {e : Env} {s : State} {m : MethodId} {args a : Array Value} {below : List Frame} {meth : Method} {c : Code} (C : zCx l G mi p s m meth c) {H : Heap} {locs : List Loc} {ls : Array Slot} {st : List Value} (hz : s.heap.size ≤ H.size) (hlo : ∀ z ∈ locs, zfree G z.base) (hL : zL G (zmaxL mi) ls L)
    (hrun : va_Run p l e (zrm mi) s m args below meth c H locs kc ks (zmc mj) (zms mj) (F0 m pc ls st) (S.map (zcv G)) (zQc G Q' a) (zfree G))
    (k : ∀ r σ', Q' r σ' → Z l G mi Q PX (pc + 3) L (r.toList ++ S) σ' (kc + zmc mj) (ks + zms mj)) :
    W p l e (zrm mi) s m args below meth c H locs kc ks (vx_MQ below (zQc G Q) (zXC G PX) args s (zmc mi) (zms mi) (zfree G)) (F0 m pc ls st) := by
  intro T hT X
  obtain ⟨v, st₀, t, T', L', h0, X', hL', hh, -, ⟨hsz, r, σ', ho, hR', hq⟩, go⟩ := hrun T hT X
  have hv : v = r.map (zcv G) := by cases ho; rfl
  subst hv
  obtain ⟨t1, a1, b1⟩ := k r σ' hq p e s m args below meth c C T'.heap (locs ++ L') ls (by rw [hh]; exact hR') (by rw [hh]; rw [h0] at hsz; omega) (fun z hz => (List.mem_append.mp hz).elim (hlo z) (hL' z)) hL T' rfl X'
  refine ⟨t1, go t1 ?_, b1⟩
  have e1 : (Option.map (zcv G) r).toList ++ S.map (zcv G) = (r.toList ++ S).map (zcv G) := by cases r <;> rfl
  show Steps p.tables e below (T'.setTop (F0 m (pc + 3) ls ((Option.map (zcv G) r).toList ++ S.map (zcv G)))) t1
  rw [e1]
  exact a1
theorem z_stk {G : zG} {m : MethodId} {pc : Nat} {ls : Array Slot} {st : List Value} {S : List Value} (h : (S.map fun v => v.category).sum ≤ 8) : 2 * (F0 m pc ls st).monitorRoom + ((S.map (zcv G)).map fun v => v.category).sum ≤ 8 := by
  have e1 : ((S.map (zcv G)).map fun v => v.category) = S.map fun v => v.category := by
    rw [List.map_map]
    exact List.map_congr_left fun v _ => z_cat G v
  refine lv_room ?_
  rw [e1]
  exact h
theorem z_callV {Q' : zPo} {mj : zMI} {np n idx pc : Nat} {As S st : List Value} {L : Nat → Option Value} {kc ks : Nat} (hM : zRuns l G mj (.ref n :: As) σ Q') (hst : st = As.reverse ++ .ref n :: S) (d : decode (zcode mi) pc = .ok (.invokevirtual idx, 3)) (hlk : Cond.methodLink (zRn (zcN mi)) idx (zy mj) ∈ lw_tbl) (hm : zMok mj np) (hin : Cond.instanceMethod (zy mj) ∈ lw_tbl) (hse : Cond.selects (zRn (zcN mj)) (zy mj) (zy mj) ∈ lw_tbl) (hK : σ.1 n = zcN mj) (hc12 : zcN mj < 12) (hnp : As.length = np)
    (hd : zd mj + 1 ≤ zd mi) (hloc : zmaxL mj ≤ 17) (hS : (S.map fun v => v.category).sum ≤ 8) (hkc : kc + zmc mj ≤ zmc mi) (hks : ks + zms mj ≤ zms mi)
    (k : ∀ r σ', Q' r σ' → Z l G mi Q PX (pc + 3) L (r.toList ++ S) σ' (kc + zmc mj) (ks + zms mj)) : Z l G mi Q PX pc L st σ kc ks := by
  subst hst
  intro p e s m args below meth c C H locs ls hR hz hlo hL
  have hvw : ∃ q, vwCl[zcN mj]? = some q := by
    rcases hx : vwCl[zcN mj]? with _ | q
    · rw [List.getElem?_eq_none_iff] at hx
      simp [vwCl] at hx
      omega
    · exact ⟨q, rfl⟩
  obtain ⟨q, hq⟩ := hvw
  have hnm := (z_nf _ q hq).2.2.2.2.2
  have hKn := (zKs C.2.1 C.2.2.1).1 _ q hq
  have hob := hR.2.1 n (by rw [hK]; exact hc12)
  rw [hK] at hob
  obtain ⟨cell, g1, g2, g3, -⟩ := hob
  refine z_after C hz hlo hL (va_runV (Ts := []) (own := zRn (zcN mi)) (C := zRn (zcN mj)) (As := As.map (zcv G)) (b := zad G n) ⟨C.1.1, C.1.2.1, C.1.2.2.1, C.1.2.2.2.2.1, fun w h => nomatch h⟩ hM ⟨zcallB hm hlk hd hloc C.2.1 C.2.2.1, zw C.2.1 C.2.2.1 hin rfl args, zw C.2.1 C.2.2.1 hse rfl args⟩
    ⟨zPc_blind, ⟨cell, g1, by rw [g3]; rfl, ?_⟩, fun U hU hWU => ⟨rfl, by rw [hU]; exact hR, State.WarmedH.trans C.2.2.1 hWU⟩⟩ rfl (by rw [List.length_map]; exact hnp) hL.1 ?_ (z_stk hS) d ⟨hkc, hks⟩) k
  · rw [g2, ← hnm]; exact hKn.2.1
  · show (As.reverse ++ .ref n :: S).map (zcv G) = _
    rw [List.map_append, List.map_reverse, List.map_cons]
    rfl
theorem z_callS {Q' : zPo} {mj : zMI} {np idx pc : Nat} {As S st : List Value} {L : Nat → Option Value} {kc ks : Nat} (hM : zRuns l G mj As σ Q') (hst : st = As.reverse ++ S) (d : decode (zcode mi) pc = .ok (.invokestatic idx, 3)) (hlk : Cond.methodLink (zRn (zcN mi)) idx (zy mj) ∈ lw_tbl) (hm : zMok mj np) (hsta : Cond.static (zy mj) ∈ lw_tbl) (hnp : As.length = np)
    (hd : zd mj + 1 ≤ zd mi) (hloc : zmaxL mj ≤ 17) (hS : (S.map fun v => v.category).sum ≤ 8) (hkc : kc + zmc mj ≤ zmc mi) (hks : ks + zms mj ≤ zms mi)
    (k : ∀ r σ', Q' r σ' → Z l G mi Q PX (pc + 3) L (r.toList ++ S) σ' (kc + zmc mj) (ks + zms mj)) : Z l G mi Q PX pc L st σ kc ks := by
  subst hst
  intro p e s m args below meth c C H locs ls hR hz hlo hL
  refine z_after C hz hlo hL (va_runS (Ts := []) (own := zRn (zcN mi)) (As := As.map (zcv G)) ⟨C.1.1, C.1.2.1, C.1.2.2.1, C.1.2.2.2.2.1, fun w h => nomatch h⟩ hM ⟨zcallB hm hlk hd hloc C.2.1 C.2.2.1, zw C.2.1 C.2.2.1 hsta rfl args⟩
    ⟨zPc_blind, fun U hU hWU => ⟨rfl, by rw [hU]; exact hR, State.WarmedH.trans C.2.2.1 hWU⟩⟩ rfl (by rw [List.length_map]; exact hnp) hL.1 ?_ (z_stk hS) d ⟨hkc, hks⟩) k
  show (As.reverse ++ S).map (zcv G) = _
  rw [List.map_append, List.map_reverse]
theorem z_callI {Q' : zPo} {mj : zMI} {np n idx pc : Nat} {As S st : List Value} {L : Nat → Option Value} {kc ks : Nat} (hM : zRuns l G mj (.ref n :: As) σ Q') (hst : st = As.reverse ++ .ref n :: S) (d : decode (zcode mi) pc = .ok (.invokespecial idx, 3)) (hlk : Cond.methodLink (zRn (zcN mi)) idx (zy mj) ∈ lw_tbl) (hm : zMok mj np) (hin : Cond.instanceMethod (zy mj) ∈ lw_tbl) (hret : zret mj = none) (hnam : (zy mj).name = "<init>") (hnp : As.length = np)
    (hd : zd mj + 1 ≤ zd mi) (hloc : zmaxL mj ≤ 17) (hS : (S.map fun v => v.category).sum ≤ 8) (hkc : kc + zmc mj ≤ zmc mi) (hks : ks + zms mj ≤ zms mi)
    (k : ∀ r σ', Q' r σ' → Z l G mi Q PX (pc + 3) L (r.toList ++ S) σ' (kc + zmc mj) (ks + zms mj)) : Z l G mi Q PX pc L st σ kc ks := by
  subst hst
  intro p e s m args below meth c C H locs ls hR hz hlo hL
  have hB := zcallB (mi := mi) (idx := idx) (args := args) (s := s) hm hlk hd hloc C.2.1 C.2.2.1
  unfold zRuns at hM
  rw [hret] at hB hM
  refine z_after C hz hlo hL (va_runI (Ts := []) (own := zRn (zcN mi)) (As := As.map (zcv G)) (b := zad G n) ⟨C.1.1, C.1.2.1, C.1.2.2.1, C.1.2.2.2.2.1, fun w h => nomatch h⟩ hM ⟨hB, hnam, zw C.2.1 C.2.2.1 hin rfl args⟩
    ⟨zPc_blind, fun U hU hWU => ⟨rfl, by rw [hU]; exact hR, State.WarmedH.trans C.2.2.1 hWU⟩⟩ rfl (by rw [List.length_map]; exact hnp) hL.1 ?_ (z_stk hS) d ⟨hkc, hks⟩) k
  show (As.reverse ++ .ref n :: S).map (zcv G) = _
  rw [List.map_append, List.map_reverse, List.map_cons]
  rfl
theorem z_callIN {Q' : zPo} {mj : zMI} {np n idx pc : Nat} {host : String} {As S st : List Value} {L : Nat → Option Value} {kc ks : Nat} (hM : zRuns l G mj (.ref n :: As) σ Q') (hst : st = As.reverse ++ .ref n :: S) (d : decode (zcode mi) pc = .ok (.invokespecial idx, 3)) (hlk : Cond.methodLinkNest (zRn (zcN mi)) idx (zy mj) host ∈ lw_tbl) (hm : zMok mj np) (hin : Cond.instanceMethod (zy mj) ∈ lw_tbl) (hret : zret mj = none) (hnam : (zy mj).name = "<init>") (hnp : As.length = np)
    (hd : zd mj + 1 ≤ zd mi) (hloc : zmaxL mj ≤ 17) (hS : (S.map fun v => v.category).sum ≤ 8) (hkc : kc + zmc mj ≤ zmc mi) (hks : ks + zms mj ≤ zms mi)
    (k : ∀ r σ', Q' r σ' → Z l G mi Q PX (pc + 3) L (r.toList ++ S) σ' (kc + zmc mj) (ks + zms mj)) : Z l G mi Q PX pc L st σ kc ks := by
  subst hst
  intro p e s m args below meth c C H locs ls hR hz hlo hL
  unfold zRuns at hM
  rw [hret] at hM
  have hcd : Cond.code (zy mj) (zcode mj) (zmaxL mj) none ∈ lw_tbl := by rw [← hret]; exact hm.1
  have hB : va_CN (zrm mi) s args (zRn (zcN mi)) idx (zy mj) host (zcode mj) (zmaxL mj) none [.code (zy mj) (zcode mj) (zmaxL mj) none] (zrm mj) (zmc mj) (zms mj) np := by
    refine ⟨⟨rfl, rfl, hd, ?_, ?_, List.mem_cons_self⟩, zw C.2.1 C.2.2.1 hcd rfl args, zw C.2.1 C.2.2.1 hm.2.1 rfl args, hm.2.2.1, fun sig h => ?_, ?_⟩
    · show 8 + (zmaxL mj + 11) + 36 * zd mj ≤ 36 * zd mi
      omega
    · intro w hw a' U hWU
      simp only [List.mem_singleton] at hw
      subst hw
      exact zw C.2.1 (State.WarmedH.trans C.2.2.1 hWU) hcd rfl a'
    · have h2 := hm.2.2.2
      rw [h] at h2
      exact (Option.some.inj h2).symm
    · exact va_Nw.use rfl (va_Nw.warmM C.2.2.1 (va_Nw.of rfl (C.2.1.1 _ hlk)))
  refine z_after C hz hlo hL (va_runIN (Ts := []) (own := zRn (zcN mi)) (As := As.map (zcv G)) (b := zad G n) ⟨C.1.1, C.1.2.1, C.1.2.2.1, C.1.2.2.2.2.1, fun w h => nomatch h⟩ hM ⟨hB, hnam, zw C.2.1 C.2.2.1 hin rfl args⟩
    ⟨zPc_blind, fun U hU hWU => ⟨rfl, by rw [hU]; exact hR, State.WarmedH.trans C.2.2.1 hWU⟩⟩ rfl (by rw [List.length_map]; exact hnp) hL.1 ?_ (z_stk hS) d ⟨hkc, hks⟩) k
  show (As.reverse ++ .ref n :: S).map (zcv G) = _
  rw [List.map_append, List.map_reverse, List.map_cons]
  rfl
theorem z_objInit {n idx pc : Nat} {S : List Value} {L : Nat → Option Value} {kc ks : Nat} (hlk : Cond.methodLink (zRn (zcN mi)) idx objectInit ∈ lw_tbl) (hin : Cond.instanceMethod objectInit ∈ lw_tbl) (hco : Cond.code objectInit ⟨#[0xb1]⟩ 1 none ∈ lw_tbl) (hd : 1 ≤ zd mi) (hS : (S.map fun v => v.category).sum ≤ 8) (d : decode (zcode mi) pc = .ok (.invokespecial idx, 3)) (k : Z l G mi Q PX (pc + 3) L S σ kc ks) : Z l G mi Q PX pc L (.ref n :: S) σ kc ks := by
  intro p e s m args below meth c C H locs ls hR hz hlo hL
  refine W.objInit C.1.1 C.1.2.1 C.1.2.2.2.2.1 (zw C.2.1 C.2.2.1 hlk rfl args) (zw C.2.1 C.2.2.1 hin rfl args) (zw C.2.1 C.2.2.1 hco rfl args) rfl (by rw [C.1.2.2.1]; exact hL.1) rfl d hd ?_ (k p e s m args below meth c C H locs ls hR hz hlo hL)
  have := z_stk (G := G) (m := m) (pc := pc) (ls := ls) (st := [zcv G (.ref n)]) hS
  show _ ≤ 36 * zd mi
  have h2 : 2 * (F0 m pc ls ((Value.ref n :: S).map (zcv G))).monitorRoom = 2 * (F0 m pc ls [zcv G (.ref n)]).monitorRoom := rfl
  omega
end
