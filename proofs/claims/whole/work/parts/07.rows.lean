section
theorem z_goodlay {C : String} {T : u_T} {N : Nat} {w : Cond} (h : w ∈ u_ws C T N) : goodWord w = true := by
  simp only [u_ws, List.mem_map] at h
  obtain ⟨k, -, rfl⟩ := h
  unfold u_lay
  split <;> rfl
theorem z_lay : ∀ (ci : Nat) (q : vw_C), vwCl[ci]? = some q → ∀ w ∈ u_ws q.1 q.2.1 q.2.2, w ∈ lw_tbl := by
  have key : ∀ (ps : List Nat) (w : Cond), w ∈ ps.filterMap (fun i => lw_tbl[i]?) → w ∈ lw_tbl := fun ps w h => by
    obtain ⟨i, -, hi⟩ := List.mem_filterMap.mp h
    exact List.mem_of_getElem? hi
  intro ci q h w hw
  match ci, h with
  | 0, h => cases h; rw [show u_ws (RX0, TX0, 4).1 (RX0, TX0, 4).2.1 (RX0, TX0, 4).2.2 = _ from zlay_0] at hw; exact key _ w hw
  | 1, h => cases h; rw [show u_ws (RX1, TX1, 8).1 (RX1, TX1, 8).2.1 (RX1, TX1, 8).2.2 = _ from zlay_1] at hw; exact key _ w hw
  | 2, h => cases h; rw [show u_ws (RX2, TX2, 5).1 (RX2, TX2, 5).2.1 (RX2, TX2, 5).2.2 = _ from zlay_2] at hw; exact key _ w hw
  | 3, h => cases h; rw [show u_ws (RX3, TX3, 4).1 (RX3, TX3, 4).2.1 (RX3, TX3, 4).2.2 = _ from zlay_3] at hw; exact key _ w hw
  | 4, h => cases h; rw [show u_ws (RX4, TX4, 1).1 (RX4, TX4, 1).2.1 (RX4, TX4, 1).2.2 = _ from zlay_4] at hw; exact key _ w hw
  | 5, h => cases h; rw [show u_ws (RX5, TX5, 4).1 (RX5, TX5, 4).2.1 (RX5, TX5, 4).2.2 = _ from zlay_5] at hw; exact key _ w hw
  | 6, h => cases h; rw [show u_ws (RX6, TX6, 3).1 (RX6, TX6, 3).2.1 (RX6, TX6, 3).2.2 = _ from zlay_6] at hw; exact key _ w hw
  | 7, h => cases h; rw [show u_ws (RX7, TX7, 5).1 (RX7, TX7, 5).2.1 (RX7, TX7, 5).2.2 = _ from zlay_7] at hw; exact key _ w hw
  | 8, h => cases h; rw [show u_ws (RX8, TX8, 3).1 (RX8, TX8, 3).2.1 (RX8, TX8, 3).2.2 = _ from zlay_8] at hw; exact key _ w hw
  | 9, h => cases h; rw [show u_ws (RX9, TX9, 7).1 (RX9, TX9, 7).2.1 (RX9, TX9, 7).2.2 = _ from zlay_9] at hw; exact key _ w hw
  | 10, h => cases h; rw [show u_ws (RX10, TX10, 11).1 (RX10, TX10, 11).2.1 (RX10, TX10, 11).2.2 = _ from zlay_10] at hw; exact key _ w hw
  | 11, h => cases h; rw [show u_ws (RX11, TX11, 52).1 (RX11, TX11, 52).2.1 (RX11, TX11, 52).2.2 = _ from zlay_11] at hw; exact key _ w hw
  | n + 12, h => simp [vwCl] at h
theorem z_frl {c i ci k t : Nat} {fin : Bool} : ∀ (L : List (Nat × Nat × Nat × Nat × Nat)), zfrl L c i = some (ci, k, t, fin) → ∃ p : Nat, (c, i, ci, k, p) ∈ L ∧ t = ztk (zty ci k) ∧ fin = zfin ci k
  | [], h => by cases h
  | (c1, i1, ci1, k1, p1) :: L, h => by
    unfold zfrl at h
    cases hb : (Nat.beq c1 c && Nat.beq i1 i)
    · rw [hb] at h
      obtain ⟨p, h1, h2⟩ := z_frl L h
      exact ⟨p, List.mem_cons_of_mem _ h1, h2⟩
    · rw [hb] at h
      simp only [Bool.and_eq_true] at hb
      have h1 : c1 = c := Nat.eq_of_beq_eq_true hb.1
      have h2 : i1 = i := Nat.eq_of_beq_eq_true hb.2
      simp only [cond_true, Option.some.injEq, Prod.mk.injEq] at h
      obtain ⟨rfl, rfl, rfl, rfl⟩ := h
      subst h1 h2
      exact ⟨p1, List.mem_cons_self, rfl, rfl⟩
theorem z_fr {c i ci k t : Nat} {fin : Bool} (h : zfr c i = some (ci, k, t, fin)) : ∃ q : vw_C, vwCl[ci]? = some q ∧ k < q.2.2 ∧ Cond.fieldLink (zRn c) i (q.2.1 k).1 (q.2.1 k).2.1 (q.2.1 k).2.2.1 ∈ lw_tbl ∧ t = ztk (zty ci k) ∧ fin = (q.2.1 k).2.2.2 := by
  obtain ⟨p, hm, h1, h2⟩ := z_frl zFL h
  have hk := List.all_eq_true.mp zFL_ok _ hm
  unfold zfOk at hk
  rcases hq : vwCl[ci]? with _ | q
  · simp only [hq] at hk; cases hk
  · simp only [hq, Bool.and_eq_true, decide_eq_true_eq] at hk
    refine ⟨q, rfl, hk.1, List.mem_of_getElem? hk.2, h1, ?_⟩
    rw [h2]; simp [zfin, hq]
theorem z_nf : ∀ (ci : Nat) (q : vw_C), vwCl[ci]? = some q → ci < 12 ∧ q.2.2 = zNf ci ∧ (∀ k, k < q.2.2 → parseFieldDescriptor (q.2.1 k).2.2.1 = some (zty ci k)) ∧ (∀ a, a < q.2.2 → ∀ b, b < q.2.2 → a ≠ b → (q.2.1 a).2.1 ≠ (q.2.1 b).2.1) ∧ (∀ k, k < q.2.2 → (q.2.1 k).1 = q.1) ∧ q.1 = zRn ci := by
  intro ci q h
  match ci, h with
  | 0, h => cases h; exact ⟨by decide, rfl, tyX0_ok, nmX0, by decide +kernel, rfl⟩
  | 1, h => cases h; exact ⟨by decide, rfl, tyX1_ok, nmX1, by decide +kernel, rfl⟩
  | 2, h => cases h; exact ⟨by decide, rfl, tyX2_ok, nmX2, by decide +kernel, rfl⟩
  | 3, h => cases h; exact ⟨by decide, rfl, tyX3_ok, nmX3, by decide +kernel, rfl⟩
  | 4, h => cases h; exact ⟨by decide, rfl, tyX4_ok, nmX4, by decide +kernel, rfl⟩
  | 5, h => cases h; exact ⟨by decide, rfl, tyX5_ok, nmX5, by decide +kernel, rfl⟩
  | 6, h => cases h; exact ⟨by decide, rfl, tyX6_ok, nmX6, by decide +kernel, rfl⟩
  | 7, h => cases h; exact ⟨by decide, rfl, tyX7_ok, nmX7, by decide +kernel, rfl⟩
  | 8, h => cases h; exact ⟨by decide, rfl, tyX8_ok, nmX8, by decide +kernel, rfl⟩
  | 9, h => cases h; exact ⟨by decide, rfl, tyX9_ok, nmX9, by decide +kernel, rfl⟩
  | 10, h => cases h; exact ⟨by decide, rfl, tyX10_ok, nmX10, by decide +kernel, rfl⟩
  | 11, h => cases h; exact ⟨by decide, rfl, tyX11_ok, nmX11, by decide +kernel, rfl⟩
  | n + 12, h => simp [vwCl] at h
theorem z_cat (G : zG) (v : Value) : (zcv G v).category = v.category := by cases v <;> rfl
theorem z_L1 {G : zG} {n : Nat} {ls ls' : Array Slot} {L : Nat → Option Value} {i : Nat} {v : Value} (hL : zL G n ls L) (h : lv_has ls' n ((i, zcv G v) :: ((List.range n).filterMap (fun j => (L j).map (fun w => (j, zcv G w)))).filter (fun q => !(q.1 == i) && !(q.1 + 1 == i && q.2.category == 2)))) : zL G n ls' (zs1 L i v) := by
  refine ⟨h.1, h.2.1, fun j w hj => ?_⟩
  have hin : ∀ w', L j = some w' → j < n := fun w' h' => by
    have := hL.2.2 j w' h'
    rw [← hL.1]
    exact (Array.getElem?_eq_some_iff.mp this).1
  refine h.2.2 (j, zcv G w) ?_
  unfold zs1 at hj
  by_cases h1 : j = i
  · subst h1
    simp at hj
    subst hj
    exact List.mem_cons_self
  · rw [if_neg h1] at hj
    have hLj : L j = some w ∧ ¬ (j + 1 = i ∧ w.category = 2) := by
      by_cases h2 : j + 1 = i
      · rw [if_pos h2] at hj
        rcases hx : L j with _ | x
        · rw [hx] at hj; cases hj
        · rw [hx] at hj
          cases x <;> first | (cases hj; exact ⟨rfl, fun h => by cases h.2⟩) | cases hj
      · rw [if_neg h2] at hj
        exact ⟨hj, fun h => h2 h.1⟩
    refine List.mem_cons_of_mem _ (List.mem_filter.mpr ⟨List.mem_filterMap.mpr ⟨j, List.mem_range.mpr (hin w hLj.1), by rw [hLj.1]; rfl⟩, ?_⟩)
    simp only [z_cat]
    simp only [Bool.and_eq_true, Bool.not_eq_true', beq_eq_false_iff_ne, ne_eq, Bool.and_eq_false_iff, beq_eq_false_iff_ne]
    refine ⟨h1, ?_⟩
    by_cases h2 : j + 1 = i
    · exact Or.inr fun h => hLj.2 ⟨h2, h⟩
    · exact Or.inl h2
theorem z_L2 {G : zG} {n : Nat} {ls ls' : Array Slot} {L : Nat → Option Value} {i : Nat} {v : Value} (hL : zL G n ls L) (h : lv_has ls' n ((i, zcv G v) :: ((List.range n).filterMap (fun j => (L j).map (fun w => (j, zcv G w)))).filter (fun q => !(q.1 == i) && (!(q.1 == i + 1) && !(q.1 + 1 == i && q.2.category == 2))))) : zL G n ls' (zs2 L i v) := by
  refine ⟨h.1, h.2.1, fun j w hj => ?_⟩
  have hin : ∀ w', L j = some w' → j < n := fun w' h' => by
    have := hL.2.2 j w' h'
    rw [← hL.1]
    exact (Array.getElem?_eq_some_iff.mp this).1
  refine h.2.2 (j, zcv G w) ?_
  unfold zs2 at hj
  by_cases h1 : j = i
  · subst h1
    simp at hj
    subst hj
    exact List.mem_cons_self
  · rw [if_neg h1] at hj
    by_cases h3 : j = i + 1
    · rw [if_pos h3] at hj; cases hj
    rw [if_neg h3] at hj
    have hLj : L j = some w ∧ ¬ (j + 1 = i ∧ w.category = 2) := by
      by_cases h2 : j + 1 = i
      · rw [if_pos h2] at hj
        rcases hx : L j with _ | x
        · rw [hx] at hj; cases hj
        · rw [hx] at hj
          cases x <;> first | (cases hj; exact ⟨rfl, fun h => by cases h.2⟩) | cases hj
      · rw [if_neg h2] at hj
        exact ⟨hj, fun h => h2 h.1⟩
    refine List.mem_cons_of_mem _ (List.mem_filter.mpr ⟨List.mem_filterMap.mpr ⟨j, List.mem_range.mpr (hin w hLj.1), by rw [hLj.1]; rfl⟩, ?_⟩)
    simp only [z_cat]
    simp only [Bool.and_eq_true, Bool.not_eq_true', beq_eq_false_iff_ne, ne_eq, Bool.and_eq_false_iff, beq_eq_false_iff_ne]
    refine ⟨h1, h3, ?_⟩
    by_cases h2 : j + 1 = i
    · exact Or.inr fun h => hLj.2 ⟨h2, h⟩
    · exact Or.inl h2
theorem z_Lh {G : zG} {n : Nat} {ls : Array Slot} {L : Nat → Option Value} (hL : zL G n ls L) : lv_has ls n ((List.range n).filterMap (fun j => (L j).map (fun w => (j, zcv G w)))) := by
  refine ⟨hL.1, hL.2.1, fun q hq => ?_⟩
  obtain ⟨j, -, hj⟩ := List.mem_filterMap.mp hq
  rcases hx : L j with _ | x
  · rw [hx] at hj; cases hj
  · rw [hx] at hj
    cases hj
    exact hL.2.2 j x hx
end
section
variable {l : Launch} {G : zG} {mi : zMI} {Q : zPo} {PX : String → zS → Prop} {pc : Nat} {L : Nat → Option Value} {S : List Value} {σ : zS} {kc ks : Nat}
def zisr (v : Value) : Prop := v = .null ∨ ∃ n, v = .ref n
theorem zisr_rf (r : Option Nat) : zisr (va_rf r) := by cases r <;> simp [zisr, va_rf]
theorem z_iadd {x y : Int32} (d : decode (zcode mi) pc = .ok (.iadd, 1)) (k : Z l G mi Q PX (pc + 1) L (.int (x + y) :: S) σ kc ks) : Z l G mi Q PX pc L (.int y :: .int x :: S) σ kc ks :=
  fun p e s m args below meth c C H locs ls hR hz hlo hL => lv_iadd C.1.1 C.1.2.1 d (k p e s m args below meth c C H locs ls hR hz hlo hL)
theorem z_isub {x y : Int32} (d : decode (zcode mi) pc = .ok (.isub, 1)) (k : Z l G mi Q PX (pc + 1) L (.int (x - y) :: S) σ kc ks) : Z l G mi Q PX pc L (.int y :: .int x :: S) σ kc ks :=
  fun p e s m args below meth c C H locs ls hR hz hlo hL => lv_isub C.1.1 C.1.2.1 d (k p e s m args below meth c C H locs ls hR hz hlo hL)
theorem z_imul {x y : Int32} (d : decode (zcode mi) pc = .ok (.imul, 1)) (k : Z l G mi Q PX (pc + 1) L (.int (x * y) :: S) σ kc ks) : Z l G mi Q PX pc L (.int y :: .int x :: S) σ kc ks :=
  fun p e s m args below meth c C H locs ls hR hz hlo hL => lv_imul C.1.1 C.1.2.1 d (k p e s m args below meth c C H locs ls hR hz hlo hL)
theorem z_iand {x y : Int32} (d : decode (zcode mi) pc = .ok (.iand, 1)) (k : Z l G mi Q PX (pc + 1) L (.int (x &&& y) :: S) σ kc ks) : Z l G mi Q PX pc L (.int y :: .int x :: S) σ kc ks :=
  fun p e s m args below meth c C H locs ls hR hz hlo hL => lv_iand C.1.1 C.1.2.1 d (k p e s m args below meth c C H locs ls hR hz hlo hL)
theorem z_ishr {x y : Int32} (d : decode (zcode mi) pc = .ok (.ishr, 1)) (k : Z l G mi Q PX (pc + 1) L (.int (x >>> (y &&& 31)) :: S) σ kc ks) : Z l G mi Q PX pc L (.int y :: .int x :: S) σ kc ks :=
  fun p e s m args below meth c C H locs ls hR hz hlo hL => lv_ishr C.1.1 C.1.2.1 d (k p e s m args below meth c C H locs ls hR hz hlo hL)
theorem z_idiv {x y : Int32} (hy : ¬ y = 0) (d : decode (zcode mi) pc = .ok (.idiv, 1)) (k : Z l G mi Q PX (pc + 1) L (.int (x / y) :: S) σ kc ks) : Z l G mi Q PX pc L (.int y :: .int x :: S) σ kc ks :=
  fun p e s m args below meth c C H locs ls hR hz hlo hL => lv_idiv C.1.1 C.1.2.1 d hy (k p e s m args below meth c C H locs ls hR hz hlo hL)
theorem z_irem {x y : Int32} (hy : ¬ y = 0) (d : decode (zcode mi) pc = .ok (.irem, 1)) (k : Z l G mi Q PX (pc + 1) L (.int (x - x / y * y) :: S) σ kc ks) : Z l G mi Q PX pc L (.int y :: .int x :: S) σ kc ks :=
  fun p e s m args below meth c C H locs ls hR hz hlo hL => lv_irem C.1.1 C.1.2.1 d hy (k p e s m args below meth c C H locs ls hR hz hlo hL)
theorem z_ladd {x y : Int64} (d : decode (zcode mi) pc = .ok (.ladd, 1)) (k : Z l G mi Q PX (pc + 1) L (.long (x + y) :: S) σ kc ks) : Z l G mi Q PX pc L (.long y :: .long x :: S) σ kc ks :=
  fun p e s m args below meth c C H locs ls hR hz hlo hL => lv_ladd C.1.1 C.1.2.1 d (k p e s m args below meth c C H locs ls hR hz hlo hL)
theorem z_lsub {x y : Int64} (d : decode (zcode mi) pc = .ok (.lsub, 1)) (k : Z l G mi Q PX (pc + 1) L (.long (x - y) :: S) σ kc ks) : Z l G mi Q PX pc L (.long y :: .long x :: S) σ kc ks :=
  fun p e s m args below meth c C H locs ls hR hz hlo hL => lv_lsub C.1.1 C.1.2.1 d (k p e s m args below meth c C H locs ls hR hz hlo hL)
theorem z_lmul {x y : Int64} (d : decode (zcode mi) pc = .ok (.lmul, 1)) (k : Z l G mi Q PX (pc + 1) L (.long (x * y) :: S) σ kc ks) : Z l G mi Q PX pc L (.long y :: .long x :: S) σ kc ks :=
  fun p e s m args below meth c C H locs ls hR hz hlo hL => lv_lmul C.1.1 C.1.2.1 d (k p e s m args below meth c C H locs ls hR hz hlo hL)
theorem z_ldiv {x y : Int64} (hy : ¬ y = 0) (d : decode (zcode mi) pc = .ok (.ldiv, 1)) (k : Z l G mi Q PX (pc + 1) L (.long (x / y) :: S) σ kc ks) : Z l G mi Q PX pc L (.long y :: .long x :: S) σ kc ks :=
  fun p e s m args below meth c C H locs ls hR hz hlo hL => lv_ldiv C.1.1 C.1.2.1 d hy (k p e s m args below meth c C H locs ls hR hz hlo hL)
theorem z_lrem {x y : Int64} (hy : ¬ y = 0) (d : decode (zcode mi) pc = .ok (.lrem, 1)) (k : Z l G mi Q PX (pc + 1) L (.long (x - x / y * y) :: S) σ kc ks) : Z l G mi Q PX pc L (.long y :: .long x :: S) σ kc ks :=
  fun p e s m args below meth c C H locs ls hR hz hlo hL => lv_lrem C.1.1 C.1.2.1 d hy (k p e s m args below meth c C H locs ls hR hz hlo hL)
theorem z_lcmp {x y : Int64} (d : decode (zcode mi) pc = .ok (.lcmp, 1)) (k : Z l G mi Q PX (pc + 1) L (.int (lg_cmp x y) :: S) σ kc ks) : Z l G mi Q PX pc L (.long y :: .long x :: S) σ kc ks :=
  fun p e s m args below meth c C H locs ls hR hz hlo hL => W.lcmp C.1.1 C.1.2.1 d (k p e s m args below meth c C H locs ls hR hz hlo hL)
theorem z_i2l {x : Int32} (d : decode (zcode mi) pc = .ok (.i2l, 1)) (k : Z l G mi Q PX (pc + 1) L (.long x.toInt64 :: S) σ kc ks) : Z l G mi Q PX pc L (.int x :: S) σ kc ks :=
  fun p e s m args below meth c C H locs ls hR hz hlo hL => lv_i2l C.1.1 C.1.2.1 d rfl (k p e s m args below meth c C H locs ls hR hz hlo hL)
theorem z_i2b {x : Int32} (d : decode (zcode mi) pc = .ok (.i2b, 1)) (k : Z l G mi Q PX (pc + 1) L (.int x.toInt8.toInt32 :: S) σ kc ks) : Z l G mi Q PX pc L (.int x :: S) σ kc ks :=
  fun p e s m args below meth c C H locs ls hR hz hlo hL => lv_i2b C.1.1 C.1.2.1 d rfl (k p e s m args below meth c C H locs ls hR hz hlo hL)
theorem z_iconst {i : Int} (d : decode (zcode mi) pc = .ok (.iconst i, 1)) (k : Z l G mi Q PX (pc + 1) L (.int (Int32.ofInt i) :: S) σ kc ks) : Z l G mi Q PX pc L S σ kc ks :=
  fun p e s m args below meth c C H locs ls hR hz hlo hL => lv_iconst C.1.1 C.1.2.1 d rfl (k p e s m args below meth c C H locs ls hR hz hlo hL)
theorem z_bipush {i : Int} (d : decode (zcode mi) pc = .ok (.bipush i, 2)) (k : Z l G mi Q PX (pc + 2) L (.int (Int8.ofInt i).toInt32 :: S) σ kc ks) : Z l G mi Q PX pc L S σ kc ks :=
  fun p e s m args below meth c C H locs ls hR hz hlo hL => lv_bipush C.1.1 C.1.2.1 d rfl (k p e s m args below meth c C H locs ls hR hz hlo hL)
theorem z_sipush {i : Int} (d : decode (zcode mi) pc = .ok (.sipush i, 3)) (k : Z l G mi Q PX (pc + 3) L (.int (Int16.ofInt i).toInt32 :: S) σ kc ks) : Z l G mi Q PX pc L S σ kc ks :=
  fun p e s m args below meth c C H locs ls hR hz hlo hL => lv_sipush C.1.1 C.1.2.1 d rfl (k p e s m args below meth c C H locs ls hR hz hlo hL)
theorem z_lconst {i : Fin 2} (d : decode (zcode mi) pc = .ok (.lconst i, 1)) (k : Z l G mi Q PX (pc + 1) L (.long (Int64.ofNat i.val) :: S) σ kc ks) : Z l G mi Q PX pc L S σ kc ks :=
  fun p e s m args below meth c C H locs ls hR hz hlo hL => lv_lconst C.1.1 C.1.2.1 d rfl (k p e s m args below meth c C H locs ls hR hz hlo hL)
theorem z_null  (d : decode (zcode mi) pc = .ok (.aconst_null, 1)) (k : Z l G mi Q PX (pc + 1) L (.null :: S) σ kc ks) : Z l G mi Q PX pc L S σ kc ks :=
  fun p e s m args below meth c C H locs ls hR hz hlo hL => lv_null C.1.1 C.1.2.1 d (k p e s m args below meth c C H locs ls hR hz hlo hL)
theorem z_iload_n {i : Fin 4} {x : Int32} (h : L i.val = some (.int x)) (d : decode (zcode mi) pc = .ok (.iload_n i, 1)) (k : Z l G mi Q PX (pc + 1) L (.int x :: S) σ kc ks) : Z l G mi Q PX pc L S σ kc ks :=
  fun p e s m args below meth c C H locs ls hR hz hlo hL => lv_iload_n C.1.1 C.1.2.1 d rfl (hL.2.2 _ _ h) (k p e s m args below meth c C H locs ls hR hz hlo hL)
theorem z_iload {i : Nat} {x : Int32} (h : L i = some (.int x)) (d : decode (zcode mi) pc = .ok (.iload i, 2)) (k : Z l G mi Q PX (pc + 2) L (.int x :: S) σ kc ks) : Z l G mi Q PX pc L S σ kc ks :=
  fun p e s m args below meth c C H locs ls hR hz hlo hL => lv_iload C.1.1 C.1.2.1 d (hL.2.2 _ _ h) (k p e s m args below meth c C H locs ls hR hz hlo hL)
theorem z_lload_n {i : Fin 4} {x : Int64} (h : L i.val = some (.long x)) (d : decode (zcode mi) pc = .ok (.lload_n i, 1)) (k : Z l G mi Q PX (pc + 1) L (.long x :: S) σ kc ks) : Z l G mi Q PX pc L S σ kc ks :=
  fun p e s m args below meth c C H locs ls hR hz hlo hL => lv_lload_n C.1.1 C.1.2.1 d rfl (hL.2.2 _ _ h) (k p e s m args below meth c C H locs ls hR hz hlo hL)
theorem z_lload {i : Nat} {x : Int64} (h : L i = some (.long x)) (d : decode (zcode mi) pc = .ok (.lload i, 2)) (k : Z l G mi Q PX (pc + 2) L (.long x :: S) σ kc ks) : Z l G mi Q PX pc L S σ kc ks :=
  fun p e s m args below meth c C H locs ls hR hz hlo hL => lv_lload C.1.1 C.1.2.1 d (hL.2.2 _ _ h) (k p e s m args below meth c C H locs ls hR hz hlo hL)
theorem z_aload_n {i : Fin 4} {v : Value} (h : L i.val = some v) (hv : zisr v) (d : decode (zcode mi) pc = .ok (.aload_n i, 1)) (k : Z l G mi Q PX (pc + 1) L (v :: S) σ kc ks) : Z l G mi Q PX pc L S σ kc ks := by
  rcases hv with rfl | ⟨n, rfl⟩
  · exact fun p e s m args below meth c C H locs ls hR hz hlo hL => lv_aload_nN C.1.1 C.1.2.1 d rfl (hL.2.2 _ _ h) (k p e s m args below meth c C H locs ls hR hz hlo hL)
  · exact fun p e s m args below meth c C H locs ls hR hz hlo hL => lv_aload_n C.1.1 C.1.2.1 d rfl (hL.2.2 _ _ h) (k p e s m args below meth c C H locs ls hR hz hlo hL)
theorem z_aload {i : Nat} {v : Value} (h : L i = some v) (hv : zisr v) (d : decode (zcode mi) pc = .ok (.aload i, 2)) (k : Z l G mi Q PX (pc + 2) L (v :: S) σ kc ks) : Z l G mi Q PX pc L S σ kc ks := by
  rcases hv with rfl | ⟨n, rfl⟩
  · exact fun p e s m args below meth c C H locs ls hR hz hlo hL => lv_aloadN C.1.1 C.1.2.1 d (hL.2.2 _ _ h) (k p e s m args below meth c C H locs ls hR hz hlo hL)
  · exact fun p e s m args below meth c C H locs ls hR hz hlo hL => lv_aload C.1.1 C.1.2.1 d (hL.2.2 _ _ h) (k p e s m args below meth c C H locs ls hR hz hlo hL)
theorem z_istore_n {i : Fin 4} {x : Int32} (hi : i.val < zmaxL mi) (d : decode (zcode mi) pc = .ok (.istore_n i, 1)) (k : Z l G mi Q PX (pc + 1) (zs1 L i.val (.int x)) S σ kc ks) : Z l G mi Q PX pc L (.int x :: S) σ kc ks :=
  fun p e s m args below meth c C H locs ls hR hz hlo hL => lv_istore_n C.1.1 C.1.2.1 d rfl (z_Lh hL) hi rfl (fun ls' h => k p e s m args below meth c C H locs ls' hR hz hlo (z_L1 (v := .int x) hL h))
theorem z_istore {i : Nat} {x : Int32} (hi : i < zmaxL mi) (d : decode (zcode mi) pc = .ok (.istore i, 2)) (k : Z l G mi Q PX (pc + 2) (zs1 L i (.int x)) S σ kc ks) : Z l G mi Q PX pc L (.int x :: S) σ kc ks :=
  fun p e s m args below meth c C H locs ls hR hz hlo hL => lv_istore C.1.1 C.1.2.1 d (z_Lh hL) hi rfl (fun ls' h => k p e s m args below meth c C H locs ls' hR hz hlo (z_L1 (v := .int x) hL h))
theorem z_lstore_n {i : Fin 4} {x : Int64} (hi : i.val + 1 < zmaxL mi) (d : decode (zcode mi) pc = .ok (.lstore_n i, 1)) (k : Z l G mi Q PX (pc + 1) (zs2 L i.val (.long x)) S σ kc ks) : Z l G mi Q PX pc L (.long x :: S) σ kc ks :=
  fun p e s m args below meth c C H locs ls hR hz hlo hL => lv_lstore_n C.1.1 C.1.2.1 d rfl (z_Lh hL) hi rfl (fun ls' h => k p e s m args below meth c C H locs ls' hR hz hlo (z_L2 (v := .long x) hL h))
theorem z_lstore {i : Nat} {x : Int64} (hi : i + 1 < zmaxL mi) (d : decode (zcode mi) pc = .ok (.lstore i, 2)) (k : Z l G mi Q PX (pc + 2) (zs2 L i (.long x)) S σ kc ks) : Z l G mi Q PX pc L (.long x :: S) σ kc ks :=
  fun p e s m args below meth c C H locs ls hR hz hlo hL => lv_lstore C.1.1 C.1.2.1 d (z_Lh hL) hi rfl (fun ls' h => k p e s m args below meth c C H locs ls' hR hz hlo (z_L2 (v := .long x) hL h))
theorem z_astore_n {i : Fin 4} {v : Value} (hv : zisr v) (hi : i.val < zmaxL mi) (d : decode (zcode mi) pc = .ok (.astore_n i, 1)) (k : Z l G mi Q PX (pc + 1) (zs1 L i.val v) S σ kc ks) : Z l G mi Q PX pc L (v :: S) σ kc ks := by
  rcases hv with rfl | ⟨n, rfl⟩
  · exact fun p e s m args below meth c C H locs ls hR hz hlo hL => lv_astore_nN C.1.1 C.1.2.1 d rfl (z_Lh hL) hi rfl (fun ls' h => k p e s m args below meth c C H locs ls' hR hz hlo (z_L1 (v := .null) hL h))
  · exact fun p e s m args below meth c C H locs ls hR hz hlo hL => lv_astore_n C.1.1 C.1.2.1 d rfl (z_Lh hL) hi rfl (fun ls' h => k p e s m args below meth c C H locs ls' hR hz hlo (z_L1 (v := .ref n) hL h))
theorem z_astore {i : Nat} {v : Value} (hv : zisr v) (hi : i < zmaxL mi) (d : decode (zcode mi) pc = .ok (.astore i, 2)) (k : Z l G mi Q PX (pc + 2) (zs1 L i v) S σ kc ks) : Z l G mi Q PX pc L (v :: S) σ kc ks := by
  rcases hv with rfl | ⟨n, rfl⟩
  · exact fun p e s m args below meth c C H locs ls hR hz hlo hL => lv_astoreN C.1.1 C.1.2.1 d (z_Lh hL) hi rfl (fun ls' h => k p e s m args below meth c C H locs ls' hR hz hlo (z_L1 (v := .null) hL h))
  · exact fun p e s m args below meth c C H locs ls hR hz hlo hL => lv_astore C.1.1 C.1.2.1 d (z_Lh hL) hi rfl (fun ls' h => k p e s m args below meth c C H locs ls' hR hz hlo (z_L1 (v := .ref n) hL h))
theorem z_iinc {i : Nat} {n : Int} {x : Int32} (h : L i = some (.int x)) (d : decode (zcode mi) pc = .ok (.iinc i n, 3)) (k : Z l G mi Q PX (pc + 3) (zs1 L i (.int (x + Int32.ofInt n))) S σ kc ks) : Z l G mi Q PX pc L S σ kc ks := by
  intro p e s m args below meth c C H locs ls hR hz hlo hL
  have h1 := hL.2.2 i _ h
  have hi : i < zmaxL mi := by rw [← hL.1]; exact (Array.getElem?_eq_some_iff.mp h1).1
  have hm : (i, Value.int x) ∈ (List.range (zmaxL mi)).filterMap (fun j => (L j).map (fun w => (j, zcv G w))) := List.mem_filterMap.mpr ⟨i, List.mem_range.mpr hi, by rw [h]; rfl⟩
  obtain ⟨q, hq⟩ := List.getElem?_of_mem hm
  exact lv_iinc C.1.1 C.1.2.1 d (z_Lh hL) (k := q) hq rfl hi rfl (fun ls' h => k p e s m args below meth c C H locs ls' hR hz hlo (z_L1 (v := .int (x + Int32.ofInt n)) hL h))
theorem z_dup {v : Value} (hv : v.category = 1) (d : decode (zcode mi) pc = .ok (.dup, 1)) (k : Z l G mi Q PX (pc + 1) L (v :: v :: S) σ kc ks) : Z l G mi Q PX pc L (v :: S) σ kc ks :=
  fun p e s m args below meth c C H locs ls hR hz hlo hL => lv_dup C.1.1 C.1.2.1 d (by rw [z_cat]; exact hv) (k p e s m args below meth c C H locs ls hR hz hlo hL)
theorem z_pop {v : Value} (hv : v.category = 1) (d : decode (zcode mi) pc = .ok (.pop, 1)) (k : Z l G mi Q PX (pc + 1) L S σ kc ks) : Z l G mi Q PX pc L (v :: S) σ kc ks :=
  fun p e s m args below meth c C H locs ls hR hz hlo hL => lv_pop C.1.1 C.1.2.1 d (by rw [z_cat]; exact hv) (k p e s m args below meth c C H locs ls hR hz hlo hL)
theorem z_dup2 {v w : Value} (hv : v.category = 1) (hw : w.category = 1) (d : decode (zcode mi) pc = .ok (.dup2, 1)) (k : Z l G mi Q PX (pc + 1) L (v :: w :: v :: w :: S) σ kc ks) : Z l G mi Q PX pc L (v :: w :: S) σ kc ks :=
  fun p e s m args below meth c C H locs ls hR hz hlo hL => lv_dup2_11 C.1.1 C.1.2.1 d (by rw [z_cat]; exact hv) (by rw [z_cat]; exact hw) (k p e s m args below meth c C H locs ls hR hz hlo hL)
theorem z_icmp_eq {x y : Int32} {off : Int} {tgt : Nat} (d : decode (zcode mi) pc = .ok (.if_icmp .eq off, 3)) (ht : (pc : Int) + off = (tgt : Int)) (kt : x = y → Z l G mi Q PX tgt L S σ kc ks) (kf : ¬ x = y → Z l G mi Q PX (pc + 3) L S σ kc ks) : Z l G mi Q PX pc L (.int y :: .int x :: S) σ kc ks :=
  fun p e s m args below meth c C H locs ls hR hz hlo hL => lv_icmp_eq C.1.1 C.1.2.1 d ht (fun q => kt q p e s m args below meth c C H locs ls hR hz hlo hL) (fun q => kf q p e s m args below meth c C H locs ls hR hz hlo hL)
theorem z_if_eq {x : Int32} {off : Int} {tgt : Nat} (d : decode (zcode mi) pc = .ok (.ifCond .eq off, 3)) (ht : (pc : Int) + off = (tgt : Int)) (kt : x = 0 → Z l G mi Q PX tgt L S σ kc ks) (kf : ¬ x = 0 → Z l G mi Q PX (pc + 3) L S σ kc ks) : Z l G mi Q PX pc L (.int x :: S) σ kc ks :=
  fun p e s m args below meth c C H locs ls hR hz hlo hL => lv_if_eq C.1.1 C.1.2.1 d ht (fun q => kt q p e s m args below meth c C H locs ls hR hz hlo hL) (fun q => kf q p e s m args below meth c C H locs ls hR hz hlo hL)
theorem z_icmp_ne {x y : Int32} {off : Int} {tgt : Nat} (d : decode (zcode mi) pc = .ok (.if_icmp .ne off, 3)) (ht : (pc : Int) + off = (tgt : Int)) (kt : ¬ x = y → Z l G mi Q PX tgt L S σ kc ks) (kf : x = y → Z l G mi Q PX (pc + 3) L S σ kc ks) : Z l G mi Q PX pc L (.int y :: .int x :: S) σ kc ks :=
  fun p e s m args below meth c C H locs ls hR hz hlo hL => lv_icmp_ne C.1.1 C.1.2.1 d ht (fun q => kt q p e s m args below meth c C H locs ls hR hz hlo hL) (fun q => kf q p e s m args below meth c C H locs ls hR hz hlo hL)
theorem z_if_ne {x : Int32} {off : Int} {tgt : Nat} (d : decode (zcode mi) pc = .ok (.ifCond .ne off, 3)) (ht : (pc : Int) + off = (tgt : Int)) (kt : ¬ x = 0 → Z l G mi Q PX tgt L S σ kc ks) (kf : x = 0 → Z l G mi Q PX (pc + 3) L S σ kc ks) : Z l G mi Q PX pc L (.int x :: S) σ kc ks :=
  fun p e s m args below meth c C H locs ls hR hz hlo hL => lv_if_ne C.1.1 C.1.2.1 d ht (fun q => kt q p e s m args below meth c C H locs ls hR hz hlo hL) (fun q => kf q p e s m args below meth c C H locs ls hR hz hlo hL)
theorem z_icmp_lt {x y : Int32} {off : Int} {tgt : Nat} (d : decode (zcode mi) pc = .ok (.if_icmp .lt off, 3)) (ht : (pc : Int) + off = (tgt : Int)) (kt : x < y → Z l G mi Q PX tgt L S σ kc ks) (kf : ¬ x < y → Z l G mi Q PX (pc + 3) L S σ kc ks) : Z l G mi Q PX pc L (.int y :: .int x :: S) σ kc ks :=
  fun p e s m args below meth c C H locs ls hR hz hlo hL => lv_icmp_lt C.1.1 C.1.2.1 d ht (fun q => kt q p e s m args below meth c C H locs ls hR hz hlo hL) (fun q => kf q p e s m args below meth c C H locs ls hR hz hlo hL)
theorem z_if_lt {x : Int32} {off : Int} {tgt : Nat} (d : decode (zcode mi) pc = .ok (.ifCond .lt off, 3)) (ht : (pc : Int) + off = (tgt : Int)) (kt : x < 0 → Z l G mi Q PX tgt L S σ kc ks) (kf : ¬ x < 0 → Z l G mi Q PX (pc + 3) L S σ kc ks) : Z l G mi Q PX pc L (.int x :: S) σ kc ks :=
  fun p e s m args below meth c C H locs ls hR hz hlo hL => lv_if_lt C.1.1 C.1.2.1 d ht (fun q => kt q p e s m args below meth c C H locs ls hR hz hlo hL) (fun q => kf q p e s m args below meth c C H locs ls hR hz hlo hL)
theorem z_icmp_ge {x y : Int32} {off : Int} {tgt : Nat} (d : decode (zcode mi) pc = .ok (.if_icmp .ge off, 3)) (ht : (pc : Int) + off = (tgt : Int)) (kt : y ≤ x → Z l G mi Q PX tgt L S σ kc ks) (kf : ¬ y ≤ x → Z l G mi Q PX (pc + 3) L S σ kc ks) : Z l G mi Q PX pc L (.int y :: .int x :: S) σ kc ks :=
  fun p e s m args below meth c C H locs ls hR hz hlo hL => lv_icmp_ge C.1.1 C.1.2.1 d ht (fun q => kt q p e s m args below meth c C H locs ls hR hz hlo hL) (fun q => kf q p e s m args below meth c C H locs ls hR hz hlo hL)
theorem z_if_ge {x : Int32} {off : Int} {tgt : Nat} (d : decode (zcode mi) pc = .ok (.ifCond .ge off, 3)) (ht : (pc : Int) + off = (tgt : Int)) (kt : 0 ≤ x → Z l G mi Q PX tgt L S σ kc ks) (kf : ¬ 0 ≤ x → Z l G mi Q PX (pc + 3) L S σ kc ks) : Z l G mi Q PX pc L (.int x :: S) σ kc ks :=
  fun p e s m args below meth c C H locs ls hR hz hlo hL => lv_if_ge C.1.1 C.1.2.1 d ht (fun q => kt q p e s m args below meth c C H locs ls hR hz hlo hL) (fun q => kf q p e s m args below meth c C H locs ls hR hz hlo hL)
theorem z_icmp_gt {x y : Int32} {off : Int} {tgt : Nat} (d : decode (zcode mi) pc = .ok (.if_icmp .gt off, 3)) (ht : (pc : Int) + off = (tgt : Int)) (kt : y < x → Z l G mi Q PX tgt L S σ kc ks) (kf : ¬ y < x → Z l G mi Q PX (pc + 3) L S σ kc ks) : Z l G mi Q PX pc L (.int y :: .int x :: S) σ kc ks :=
  fun p e s m args below meth c C H locs ls hR hz hlo hL => lv_icmp_gt C.1.1 C.1.2.1 d ht (fun q => kt q p e s m args below meth c C H locs ls hR hz hlo hL) (fun q => kf q p e s m args below meth c C H locs ls hR hz hlo hL)
theorem z_if_gt {x : Int32} {off : Int} {tgt : Nat} (d : decode (zcode mi) pc = .ok (.ifCond .gt off, 3)) (ht : (pc : Int) + off = (tgt : Int)) (kt : 0 < x → Z l G mi Q PX tgt L S σ kc ks) (kf : ¬ 0 < x → Z l G mi Q PX (pc + 3) L S σ kc ks) : Z l G mi Q PX pc L (.int x :: S) σ kc ks :=
  fun p e s m args below meth c C H locs ls hR hz hlo hL => lv_if_gt C.1.1 C.1.2.1 d ht (fun q => kt q p e s m args below meth c C H locs ls hR hz hlo hL) (fun q => kf q p e s m args below meth c C H locs ls hR hz hlo hL)
theorem z_icmp_le {x y : Int32} {off : Int} {tgt : Nat} (d : decode (zcode mi) pc = .ok (.if_icmp .le off, 3)) (ht : (pc : Int) + off = (tgt : Int)) (kt : x ≤ y → Z l G mi Q PX tgt L S σ kc ks) (kf : ¬ x ≤ y → Z l G mi Q PX (pc + 3) L S σ kc ks) : Z l G mi Q PX pc L (.int y :: .int x :: S) σ kc ks :=
  fun p e s m args below meth c C H locs ls hR hz hlo hL => lv_icmp_le C.1.1 C.1.2.1 d ht (fun q => kt q p e s m args below meth c C H locs ls hR hz hlo hL) (fun q => kf q p e s m args below meth c C H locs ls hR hz hlo hL)
theorem z_if_le {x : Int32} {off : Int} {tgt : Nat} (d : decode (zcode mi) pc = .ok (.ifCond .le off, 3)) (ht : (pc : Int) + off = (tgt : Int)) (kt : x ≤ 0 → Z l G mi Q PX tgt L S σ kc ks) (kf : ¬ x ≤ 0 → Z l G mi Q PX (pc + 3) L S σ kc ks) : Z l G mi Q PX pc L (.int x :: S) σ kc ks :=
  fun p e s m args below meth c C H locs ls hR hz hlo hL => lv_if_le C.1.1 C.1.2.1 d ht (fun q => kt q p e s m args below meth c C H locs ls hR hz hlo hL) (fun q => kf q p e s m args below meth c C H locs ls hR hz hlo hL)
theorem z_goto {off : Int} {tgt : Nat} (d : decode (zcode mi) pc = .ok (.goto off, 3)) (ht : (pc : Int) + off = (tgt : Int)) (k : Z l G mi Q PX tgt L S σ kc ks) : Z l G mi Q PX pc L S σ kc ks :=
  fun p e s m args below meth c C H locs ls hR hz hlo hL => lv_goto C.1.1 C.1.2.1 d ht (k p e s m args below meth c C H locs ls hR hz hlo hL)
theorem z_ifnull {r : Option Nat} {off : Int} {tgt : Nat} (d : decode (zcode mi) pc = .ok (.ifnull off, 3)) (ht : (pc : Int) + off = (tgt : Int)) (kt : r = none → Z l G mi Q PX tgt L S σ kc ks) (kf : ¬ r = none → Z l G mi Q PX (pc + 3) L S σ kc ks) : Z l G mi Q PX pc L (va_rf r :: S) σ kc ks := by
  rcases r with _ | n
  · exact fun p e s m args below meth c C H locs ls hR hz hlo hL => lv_ifnullN C.1.1 C.1.2.1 d ht (kt rfl p e s m args below meth c C H locs ls hR hz hlo hL)
  · exact fun p e s m args below meth c C H locs ls hR hz hlo hL => lv_ifnull C.1.1 C.1.2.1 d (kf (fun h => by cases h) p e s m args below meth c C H locs ls hR hz hlo hL)
theorem z_ifnonnull {r : Option Nat} {off : Int} {tgt : Nat} (d : decode (zcode mi) pc = .ok (.ifnonnull off, 3)) (ht : (pc : Int) + off = (tgt : Int)) (kt : ¬ r = none → Z l G mi Q PX tgt L S σ kc ks) (kf : r = none → Z l G mi Q PX (pc + 3) L S σ kc ks) : Z l G mi Q PX pc L (va_rf r :: S) σ kc ks := by
  rcases r with _ | n
  · exact fun p e s m args below meth c C H locs ls hR hz hlo hL => lv_ifnonnullN C.1.1 C.1.2.1 d (kf rfl p e s m args below meth c C H locs ls hR hz hlo hL)
  · exact fun p e s m args below meth c C H locs ls hR hz hlo hL => lv_ifnonnull C.1.1 C.1.2.1 d ht (kt (fun h => by cases h) p e s m args below meth c C H locs ls hR hz hlo hL)
theorem z_swOut {dflt lo hi : Int} {offs : Array Int} {len : Nat} {x : Int32} {tgt : Nat} (d : decode (zcode mi) pc = .ok (.tableswitch dflt lo hi offs, len)) (h : x.toInt < lo ∨ hi < x.toInt) (ht : (pc : Int) + dflt = (tgt : Int)) (k : Z l G mi Q PX tgt L S σ kc ks) : Z l G mi Q PX pc L (.int x :: S) σ kc ks :=
  fun p e s m args below meth c C H locs ls hR hz hlo hL => lv_tableOut C.1.1 C.1.2.1 d h ht (k p e s m args below meth c C H locs ls hR hz hlo hL)
theorem z_swIn {dflt lo hi : Int} {offs : Array Int} {len : Nat} {x : Int32} {off : Int} {tgt : Nat} (d : decode (zcode mi) pc = .ok (.tableswitch dflt lo hi offs, len)) (h1 : ¬ x.toInt < lo) (h2 : ¬ hi < x.toInt) (ho : offs[(x.toInt - lo).toNat]? = some off) (ht : (pc : Int) + off = (tgt : Int)) (k : Z l G mi Q PX tgt L S σ kc ks) : Z l G mi Q PX pc L (.int x :: S) σ kc ks :=
  fun p e s m args below meth c C H locs ls hR hz hlo hL => lv_tableIn C.1.1 C.1.2.1 d h1 h2 ho ht (k p e s m args below meth c C H locs ls hR hz hlo hL)
end
