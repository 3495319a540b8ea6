abbrev zHt : Type := List (Nat × Nat × Nat × Nat)
/-- a method with a table of handlers -/
def zCxH (hh : zHt) (l : Launch) (G : zG) (mi : zMI) (p : Program) (s : State) (m : MethodId) (meth : Method) (c : Code) : Prop :=
  (p.tables.exec = Jvm.exec ∧ c.code = zcode mi ∧ c.maxLocals = zmaxL mi ∧ meth.sig.returnType = zret mi ∧ s.vm.findClass (zRn (zcN mi)) = some m.cls ∧ meth.locks = false ∧ c.exceptionTable.toList = tableOf hh) ∧
  (zOK l G ∧ (zs0 G).WarmedH s.vm ∧ (∀ q : Nat, q < zbase G → s.heap[q]? = (zs0 G).heap[q]?) ∧ zbase G ≤ s.heap.size)
def ZH (hh : zHt) (l : Launch) (G : zG) (mi : zMI) (Q : zPo) (pc : Nat) (L : Nat → Option Value) (S : List Value) (σ : zS) (kc ks : Nat) : Prop :=
  ∀ (p : Program) (e : Env) (s : State) (m : MethodId) (args : Array Value) (below : List Frame) (meth : Method) (c : Code), zCxH hh l G mi p s m meth c →
  ∀ (H : Heap) (locs : List Loc) (ls : Array Slot), zR G σ H → s.heap.size ≤ H.size → (∀ z ∈ locs, zfree G z.base) → zL G (zmaxL mi) ls L →
  W p l e (zrm mi) s m args below meth c H locs kc ks (vx_MQ below (zQc G Q) (zXC G (fun _ _ => False)) args s (zmc mi) (zms mi) (zfree G)) (F0 m pc ls (S.map (zcv G)))
def zRunsH (hh : zHt) (l : Launch) (G : zG) (mi : zMI) (As : List Value) (σ : zS) (Q : zPo) : Prop :=
  Met l (zy mi) [.codeWith (zy mi) (zcode mi) (zmaxL mi) (zret mi) hh] (zrm mi) (zPc G As σ) (zQc G Q) (zmc mi) (zms mi) (zfree G)
section
variable {l : Launch} {G : zG} {mi : zMI} {hh : zHt} {Q : zPo} {pc kc ks : Nat} {L : Nat → Option Value} {S : List Value} {σ : zS}
theorem zRunsH_of {As : List Value} (hG : zOK l G) (hy : plainName (zy mi).cls = true) (hown : (zy mi).cls = zRn (zcN mi)) (hargs : (lg_sl As).length ≤ zmaxL mi) (h : ∀ L, zlv L 0 As → ZH hh l G mi Q 0 L [] σ 0 0) : zRunsH hh l G mi As σ Q := by
  have hX : vx_Met l (zy mi) [.codeWith (zy mi) (zcode mi) (zmaxL mi) (zret mi) hh] (zrm mi) (zPc G As σ) (zQc G Q) (zXC G (fun _ _ => False)) (zmc mi) (zms mi) (zfree G) := by
    refine vx_ofWH (cc := zcode mi) (maxL := zmaxL mi) (ret := zret mi) (hh := hh) hy rfl ?_
    intro p e s m args below meth c s₁ B hml hv
    have htab := vx_table (x := zy mi) B (atoms_spec (ws := [.codeWith (zy mi) (zcode mi) (zmaxL mi) (zret mi) hh]) B.pre _ List.mem_cons_self)
    obtain ⟨rfl, hR, hW⟩ := hv
    have hl := lv_entry (As.map (zcv G)) (n := zmaxL mi) (by rw [lg_sl_map]; exact hargs)
    rw [lg_entry_eq]
    generalize (lg_sl (As.map (zcv G)) ++ List.replicate (zmaxL mi - (lg_sl (As.map (zcv G))).length) Slot.unset).toArray = ls at hl ⊢
    refine h (zLf 0 As) (zlv_of As 0 _ fun _ _ => rfl) p e s m _ below meth c ⟨⟨B.exec, B.bytes, hml, B.returns, ?_, B.notSynchronized, htab⟩, hG, hW, hR.2.2.2, ?_⟩ s.heap [] ls hR (Nat.le_refl _) (fun z hz => nomatch hz) ⟨hl.1, hl.2.1, fun i v hi => hl.2.2 (i, zcv G v) (lv_args_map G As 0 i v (zLf_mem As 0 i v hi))⟩
    · rw [← hown]; exact findClass_of_methodNamed B.named
    · have := hR.1.2.1
      omega
  unfold zRunsH Met
  refine MetFree.mono (show MetFree _ _ _ _ _ _ from hX) (fun _ _ h => h) (fun _ _ _ _ _ h => h) fun a s o t _ hq => ?_
  rcases hq with hq | ⟨q, rfl, E, ce, L, hx, -⟩
  · exact hq
  · exact hx.2.elim fun _ h => h.2.elim
theorem zh_aload_n {i : Fin 4} {n : Nat} (h : L i.val = some (.ref n)) (d : decode (zcode mi) pc = .ok (.aload_n i, 1)) (k : ZH hh l G mi Q (pc + 1) L (.ref n :: S) σ kc ks) : ZH hh l G mi Q pc L S σ kc ks :=
  fun p e s m args below meth c C H locs ls hR hz hlo hL => lv_aload_n C.1.1 C.1.2.1 d rfl (hL.2.2 _ _ h) (k p e s m args below meth c C H locs ls hR hz hlo hL)
theorem zh_iload_n {i : Fin 4} {x : Int32} (h : L i.val = some (.int x)) (d : decode (zcode mi) pc = .ok (.iload_n i, 1)) (k : ZH hh l G mi Q (pc + 1) L (.int x :: S) σ kc ks) : ZH hh l G mi Q pc L S σ kc ks :=
  fun p e s m args below meth c C H locs ls hR hz hlo hL => lv_iload_n C.1.1 C.1.2.1 d rfl (hL.2.2 _ _ h) (k p e s m args below meth c C H locs ls hR hz hlo hL)
theorem zh_iconst {i : Int} (d : decode (zcode mi) pc = .ok (.iconst i, 1)) (k : ZH hh l G mi Q (pc + 1) L (.int (Int32.ofInt i) :: S) σ kc ks) : ZH hh l G mi Q pc L S σ kc ks :=
  fun p e s m args below meth c C H locs ls hR hz hlo hL => lv_iconst C.1.1 C.1.2.1 d rfl (k p e s m args below meth c C H locs ls hR hz hlo hL)
theorem zh_i2l {x : Int32} (d : decode (zcode mi) pc = .ok (.i2l, 1)) (k : ZH hh l G mi Q (pc + 1) L (.long x.toInt64 :: S) σ kc ks) : ZH hh l G mi Q pc L (.int x :: S) σ kc ks :=
  fun p e s m args below meth c C H locs ls hR hz hlo hL => lv_i2l C.1.1 C.1.2.1 d rfl (k p e s m args below meth c C H locs ls hR hz hlo hL)
theorem zh_goto {off : Int} {tgt : Nat} (d : decode (zcode mi) pc = .ok (.goto off, 3)) (ht : (pc : Int) + off = (tgt : Int)) (k : ZH hh l G mi Q tgt L S σ kc ks) : ZH hh l G mi Q pc L S σ kc ks :=
  fun p e s m args below meth c C H locs ls hR hz hlo hL => lv_goto C.1.1 C.1.2.1 d ht (k p e s m args below meth c C H locs ls hR hz hlo hL)
theorem zh_iret {x : Int32} (hr : zret mi = some .int) (hk : kc ≤ zmc mi) (hs : ks ≤ zms mi) (d : decode (zcode mi) pc = .ok (.ireturn, 1)) (hq : Q (some (.int x)) σ) : ZH hh l G mi Q pc L [.int x] σ kc ks := by
  intro p e s m args below meth c C H locs ls hR hz hlo hL
  exact W.widen hk hs (vx_ret (W.iret (v := x) C.1.1 C.1.2.1 (C.1.2.2.2.1.trans hr) (fun t ht hW => ⟨by rw [ht]; exact hz, some (.int x), σ, rfl, by rw [ht]; exact hR, hq⟩) hlo d C.1.2.2.2.2.2.1))
theorem zh_lastore {n : Nat} {i : Int32} {x : Int64} {K N : Nat → Nat} {I : Nat → Nat → Int32} {J : Nat → Nat → Int64} {R : Nat → Nat → Option Nat} {nx : Nat} (h1 : K n = 14) (hi : vp_in i (N n)) (d : decode (zcode mi) pc = .ok (.lastore, 1)) (k : ZH hh l G mi Q (pc + 1) L S (K, N, I, zu2 J n i.toNatClampNeg x, R, nx) kc ks) : ZH hh l G mi Q pc L (.long x :: .int i :: .ref n :: S) (K, N, I, J, R, nx) kc ks := by
  intro p e s m args below meth c C H locs ls hR hz hlo hL
  have hc := hR.2.2.1 n (by show 12 ≤ K n; omega) (by show K n < 20; omega)
  have ha := (z_arr C.2.1 C.2.2.1 (kd := K n) (by omega) (by omega)).1
  rw [show zty (K n) 0 = .long by rw [h1]; rfl] at ha
  refine W.last C.1.1 C.1.2.1 hc (ha _ _) (fun q => by cases q) (by rw [arrV_size]; exact hi) rfl rfl d fun H' x1 x2 x3 => ?_
  obtain ⟨y1, y2, y3⟩ := z_ast (v := .long x) (σ' := (K, N, I, zu2 J n i.toNatClampNeg x, R, nx)) (show 12 ≤ K n by omega) (show K n < 20 by omega) rfl rfl rfl (zval_uJ x (by rw [h1]; rfl)) hR hz hlo x1 x2 x3
  exact k p e s m args below meth c C H' _ ls y1 y2 y3 hL
/-- a handler puts what was thrown away -/
def zAst (mi : zMI) (hpc : Nat) (K : Nat → Prop) : Prop := (∃ i, i < zmaxL mi ∧ decode (zcode mi) hpc = .ok (.astore i, 2) ∧ K (hpc + 2)) ∨ (∃ i : Fin 4, i.val < zmaxL mi ∧ decode (zcode mi) hpc = .ok (.astore_n i, 1) ∧ K (hpc + 1))
theorem zh_callX {Q' : zPo} {PX' : String → zS → Prop} {mj : zMI} {np n idx : Nat} {As st : List Value} (hM : zRunsX l G mj (.ref n :: As) σ Q' PX') (hst : st = As.reverse ++ .ref n :: S) (d : decode (zcode mi) pc = .ok (.invokevirtual idx, 3)) (hlk : Cond.methodLink (zRn (zcN mi)) idx (zy mj) ∈ lw_tbl) (hm : zMok mj np) (hin : Cond.instanceMethod (zy mj) ∈ lw_tbl) (hse : Cond.selects (zRn (zcN mj)) (zy mj) (zy mj) ∈ lw_tbl) (hK : σ.1 n = zcN mj) (hc12 : zcN mj < 12) (hnp : As.length = np)
    (hd : zd mj + 1 ≤ zd mi) (hloc : zmaxL mj ≤ 17) (hS : (S.map fun v => v.category).sum ≤ 8) (hkc : kc + zmc mj ≤ zmc mi) (hks : ks + zms mj ≤ zms mi)
    (k : ∀ r σ', Q' r σ' → ZH hh l G mi Q (pc + 3) L (r.toList ++ S) σ' (kc + zmc mj) (ks + zms mj))
    (kx : ∀ E σ', PX' E σ' → ∃ (pre : List ExceptionTableEntry) (x : ExceptionTableEntry) (suf : List ExceptionTableEntry) (nm : String), tableOf hh = pre ++ x :: suf ∧ (∀ z ∈ pre, z.catchType ≠ 0 ∧ ∃ nm' : String, Cond.classLink (zRn (zcN mi)) z.catchType nm' ∈ lw_tbl ∧ va_Nc E nm' (zs0 G)) ∧ covers x pc = true ∧ x.catchType ≠ 0 ∧ Cond.classLink (zRn (zcN mi)) x.catchType nm ∈ lw_tbl ∧ Cond.castable E nm ∈ lw_tbl ∧ zAst mi x.handlerPc (fun pc' => ZH hh l G mi Q pc' (fun _ => none) [] σ' (kc + zmc mj) (ks + zms mj))) : ZH hh l G mi Q pc L st σ kc ks := by
  subst hst
  intro p e s m args below meth c C H locs ls hR hz hlo hL
  have hvw : ∃ q, vwCl[zcN mj]? = some q := by
    rcases hx : vwCl[zcN mj]? with _ | q
    · rw [List.getElem?_eq_none_iff] at hx
      simp [vwCl] at hx
      omega
    · exact ⟨q, rfl⟩
  obtain ⟨q0, hq0⟩ := hvw
  have hnm := (z_nf _ q0 hq0).2.2.2.2.2
  have hKn := (zKs C.2.1 C.2.2.1).1 _ q0 hq0
  have hob := hR.2.1 n (by rw [hK]; exact hc12)
  rw [hK] at hob
  obtain ⟨cell, g1, g2, g3, -⟩ := hob
  have hrun := vx_runV (e := e) (below := below) (meth := meth) (locs := locs) (cells := kc) (slots := ks) (rest := S.map (zcv G)) (g := F0 m pc ls ((As.reverse ++ .ref n :: S).map (zcv G))) (Ts := []) (own := zRn (zcN mi)) (C := zRn (zcN mj)) (As := As.map (zcv G)) (b := zad G n) ⟨C.1.1, C.1.2.1, C.1.2.2.1, C.1.2.2.2.2.1, fun w h => nomatch h⟩ hM ⟨zcallB (mi := mi) (args := args) hm hlk hd hloc C.2.1 C.2.2.1, zw C.2.1 C.2.2.1 hin rfl args, zw C.2.1 C.2.2.1 hse rfl args⟩
    ⟨zPc_blind, ⟨cell, g1, by rw [g3]; rfl, by rw [g2, ← hnm]; exact hKn.2.1⟩, fun U hU hWU => ⟨rfl, by rw [hU]; exact hR, State.WarmedH.trans C.2.2.1 hWU⟩⟩ rfl (by rw [List.length_map]; exact hnp) hL.1 (by
      show (As.reverse ++ .ref n :: S).map (zcv G) = _
      rw [List.map_append, List.map_reverse, List.map_cons]
      rfl) (z_stk hS) d ⟨hkc, hks⟩
  intro T hT X
  rcases hrun T hT X with ⟨v, st₀, t, T', L', h0, X', hL', e1, -, ⟨hsz, r, σ', ho, hR', hq⟩, go⟩ | ⟨q, st₀, t, T', L', E, ce, h0, X', hL', e1, -, ⟨hsz, σ', hR', hpx⟩, hce, hcv, hcl, hst⟩
  · have hv : v = r.map (zcv G) := by cases ho; rfl
    subst hv
    obtain ⟨t1, a1, b1⟩ := k r σ' hq p e s m args below meth c C T'.heap (locs ++ L') ls (by rw [e1]; exact hR') (by rw [e1]; rw [h0] at hsz; omega) (fun z hz => (List.mem_append.mp hz).elim (hlo z) (hL' z)) hL T' rfl X'
    refine ⟨t1, go t1 ?_, b1⟩
    have e2 : (Option.map (zcv G) r).toList ++ S.map (zcv G) = (r.toList ++ S).map (zcv G) := by cases r <;> rfl
    show Steps p.tables e below (T'.setTop (F0 m (pc + 3) ls ((Option.map (zcv G) r).toList ++ S.map (zcv G)))) t1
    rw [e2]
    exact a1
  · obtain ⟨pre, x, suf, nm, hsp, hpre, hcov, hx0, hlk2, hcast, hast⟩ := kx E σ' hpx
    have hk : W p l e (zrm mi) s m args below meth c T'.heap (locs ++ L') (kc + zmc mj) (ks + zms mj) (vx_MQ below (zQc G Q) (zXC G (fun _ _ => False)) args s (zmc mi) (zms mi) (zfree G)) (F0 m x.handlerPc ls [.ref q]) := by
      have hlo' : ∀ z ∈ locs ++ L', zfree G z.base := fun z hz => (List.mem_append.mp hz).elim (hlo z) (hL' z)
      have hR2 : zR G σ' T'.heap := by rw [e1]; exact hR'
      have hz2 : s.heap.size ≤ T'.heap.size := by rw [e1]; rw [h0] at hsz; omega
      rcases hast with ⟨i, hi, di, hk⟩ | ⟨i, hi, di, hk⟩
      · exact lv_astore C.1.1 C.1.2.1 di (z_Lh hL) hi rfl (fun ls' h => hk p e s m args below meth c C T'.heap (locs ++ L') ls' hR2 hz2 hlo' ⟨h.1, h.2.1, fun i v hv => nomatch hv⟩)
      · exact lv_astore_n C.1.1 C.1.2.1 di rfl (z_Lh hL) hi rfl (fun ls' h => hk p e s m args below meth c C T'.heap (locs ++ L') ls' hR2 hz2 hlo' ⟨h.1, h.2.1, fun i v hv => nomatch hv⟩)
    obtain ⟨t2, a1, b1⟩ := vx_catch (own := zRn (zcN mi)) (name := nm) C.1.2.2.2.2.1 pre x suf (by rw [C.1.2.2.2.2.2.2]; exact hsp) (fun z hz => Or.inr ⟨(hpre z hz).1, by
      obtain ⟨nm', w1, w2⟩ := (hpre z hz).2
      exact ⟨nm', zw C.2.1 C.2.2.1 w1 rfl args, w2.moved C.2.2.1.alike⟩⟩) hcov hx0 (zw C.2.1 C.2.2.1 hlk2 rfl args) (zgw_at C.2.1 C.2.2.1 hcast (by simp [zgw]) args) (by rw [e1]; exact hce) hcv hcl hk T' rfl X'
    exact ⟨t2, hst.trans a1, b1⟩
/-- a static call of such a method -/
theorem z_callSH {PX : String → zS → Prop} {Q' : zPo} {mj : zMI} {np idx : Nat} {As st : List Value} (hM : zRunsH hh l G mj As σ Q') (hst : st = As.reverse ++ S) (d : decode (zcode mi) pc = .ok (.invokestatic idx, 3)) (hlk : Cond.methodLink (zRn (zcN mi)) idx (zy mj) ∈ lw_tbl) (hc : Cond.codeWith (zy mj) (zcode mj) (zmaxL mj) (zret mj) hh ∈ lw_tbl) (hini : Cond.initialized (zy mj).cls ∈ lw_tbl) (hy : (zy mj).cls ≠ "java/lang/invoke/MethodHandle" ∧ (zy mj).cls ≠ "java/lang/invoke/VarHandle") (hdes : (parseMethodDescriptor (zy mj).desc).map (fun d => d.parameters.length) = some np) (hsta : Cond.static (zy mj) ∈ lw_tbl) (hnp : As.length = np)
    (hd : zd mj + 1 ≤ zd mi) (hloc : zmaxL mj ≤ 17) (hS : (S.map fun v => v.category).sum ≤ 8) (hkc : kc + zmc mj ≤ zmc mi) (hks : ks + zms mj ≤ zms mi)
    (k : ∀ r σ', Q' r σ' → Z l G mi Q PX (pc + 3) L (r.toList ++ S) σ' (kc + zmc mj) (ks + zms mj)) : Z l G mi Q PX pc L st σ kc ks := by
  subst hst
  intro p e s m args below meth c C H locs ls hR hz hlo hL
  refine z_after C hz hlo hL (vx_runSW (n := np) (hh := hh) (bytes := zcode mj) (maxL := zmaxL mj) (ret := zret mj) (Ts := []) (own := zRn (zcN mi)) (As := As.map (zcv G)) ⟨C.1.1, C.1.2.1, C.1.2.2.1, C.1.2.2.2.2.1, fun w h => nomatch h⟩ hM ⟨⟨rfl, rfl, hd, ?_, ?_, List.mem_cons_self⟩, zw C.2.1 C.2.2.1 hc rfl args, zw C.2.1 C.2.2.1 hini rfl args, hy, fun sig h => ?_, zw C.2.1 C.2.2.1 hlk rfl args, zw C.2.1 C.2.2.1 hsta rfl args⟩
    ⟨zPc_blind, fun U hU hWU => ⟨rfl, by rw [hU]; exact hR, State.WarmedH.trans C.2.2.1 hWU⟩⟩ rfl (by rw [List.length_map]; exact hnp) hL.1 ?_ (z_stk hS) d ⟨hkc, hks⟩) k
  · show 8 + (zmaxL mj + 11) + 36 * zd mj ≤ 36 * zd mi
    omega
  · intro w hw a' U hWU
    simp only [List.mem_singleton] at hw
    subst hw
    exact zw C.2.1 (State.WarmedH.trans C.2.2.1 hWU) hc rfl a'
  · rw [h] at hdes
    exact (Option.some.inj hdes).symm
  · show (As.reverse ++ S).map (zcv G) = _
    rw [List.map_append, List.map_reverse]
end
