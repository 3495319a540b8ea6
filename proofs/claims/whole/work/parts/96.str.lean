/-- what the launch gives of the words' Strings: names 0 to 11 the words, 12 to 15 the texts of throws, 17 to 28 the words' bytes, 29 the formatter -/
def zOw (j : Nat) : String := if j < 12 then RX5 else RX10
def zEn (j : Nat) : Nat := [104, 109, 111, 113, 47, 57, 62, 102, 67, 72, 82, 84, 163, 173, 202, 236].getD j 0
def zTx (j : Nat) : String := ["house", "barn", "beasts", "hay", "rate", "season", "duty", "less", "none", "own", "reserve", "other", "no such fire", "no such judge", "no such what", "no such farm"].getD j ""
def sBy (j k : Nat) : Int32 := wC (wO j + k)
def zST (G : zG) : Prop := va_Z "java/lang/String" "COMPACT_STRINGS" "Z" (.int 1) (zfree G) (zs0 G) (zs0 G).heap ∧ (∀ j, j < 12 → va_O "java/lang/String" (zaS G j) (zfree G) (zs0 G) (zs0 G).heap ∧ va_OF "java/lang/String" "coder" "B" (.int 0) (zaS G j) (zfree G) (zs0 G) (zs0 G).heap ∧ va_OF "java/lang/String" "value" "[B" (.ref (zaS G (17 + j))) (zaS G j) (zfree G) (zs0 G) (zs0 G).heap ∧ va_T .byte (zaS G (17 + j)) (wL j) (fun k => .int (sBy j k)) (zfree G) (zs0 G) (zs0 G).heap) ∧ (va_Z "jdk/internal/util/Preconditions" "SIOOBE_FORMATTER" "Ljava/util/function/BiFunction;" .null (zfree G) (zs0 G) (zs0 G).heap ∨ va_Z "jdk/internal/util/Preconditions" "SIOOBE_FORMATTER" "Ljava/util/function/BiFunction;" (.ref (zaS G 29)) (zfree G) (zs0 G) (zs0 G).heap) ∧ ∀ j, j < 16 → vk_R (zOw j) (zEn j) (zTx j) (zaS G j) (zs0 G)
theorem zad_lo {G : zG} {n : Nat} (h : n < 32) : zad G n = zaS G n := if_pos h
section
variable {l : Launch} {G : zG} {mi : zMI} {Q : zPo} {PX : String → zS → Prop} {pc kc ks : Nat} {L : Nat → Option Value} {S : List Value} {σ : zS}
theorem z_jS {p : Program} {s : State} {m : MethodId} {meth : Method} {c : Code} {H : Heap} {locs : List Loc} (C : zCx l G mi p s m meth c) (hR : zR G σ H) (hz : s.heap.size ≤ H.size) (hlo : ∀ z ∈ locs, zfree G z.base) : va_S (zfree G) s.heap H locs :=
  ⟨hz, fun q _ hA => by
    have hq : q < zbase G := Nat.lt_of_not_le hA
    rw [hR.2.2.2 q hq, C.2.2.2.2.1 q hq], hlo⟩
theorem z_jK {p : Program} {s : State} {m : MethodId} {meth : Method} {c : Code} (C : zCx l G mi p s m meth c) : ∀ a : Nat, a < (zs0 G).heap.size → ¬ zfree G a → s.heap[a]? = (zs0 G).heap[a]? := fun a ha _ => C.2.2.2.2.1 a ha
theorem z_jstat {i : Nat} {Cn nm ds : String} {v : Value} (hZ : va_Z Cn nm ds (zcv G v) (zfree G) (zs0 G) (zs0 G).heap) (hlk : Cond.fieldLink (zRn (zcN mi)) i Cn nm ds ∈ lw_tbl) (d : decode (zcode mi) pc = .ok (.getstatic i, 3)) (k : Z l G mi Q PX (pc + 3) L (v :: S) σ kc ks) : Z l G mi Q PX pc L S σ kc ks := by
  intro p e s m args below meth c C H locs ls hR hz hlo hL
  exact va_gets C.1.1 C.1.2.1 ((hZ.moved C.2.2.1.alike).kept (z_jK C)) (z_jS C hR hz hlo) C.1.2.2.2.2.1 (zw C.2.1 C.2.2.1 hlk rfl args) (fun _ h => h) d (k p e s m args below meth c C H locs ls hR hz hlo hL)
theorem z_jget {i j : Nat} {Cn nm ds : String} {v : Value} (hj : j < 32) (hF : va_OF Cn nm ds (zcv G v) (zaS G j) (zfree G) (zs0 G) (zs0 G).heap) (hlk : Cond.fieldLink (zRn (zcN mi)) i Cn nm ds ∈ lw_tbl) (d : decode (zcode mi) pc = .ok (.getfield i, 3)) (k : Z l G mi Q PX (pc + 3) L (v :: S) σ kc ks) : Z l G mi Q PX pc L (.ref j :: S) σ kc ks := by
  intro p e s m args below meth c C H locs ls hR hz hlo hL
  have h := vk_getf (rest := S.map (zcv G)) C.1.1 C.1.2.1 ((hF.moved C.2.2.1.alike).kept (z_jK C)) (z_jS C hR hz hlo) C.1.2.2.2.2.1 (zw C.2.1 C.2.2.1 hlk rfl args) (fun _ h => h) d (k p e s m args below meth c C H locs ls hR hz hlo hL)
  rw [← zad_lo hj] at h
  exact h
theorem z_jlen {j n : Nat} {f : Nat → Value} {ty : FieldType} (hj : j < 32) (hT : va_T ty (zaS G j) n f (zfree G) (zs0 G) (zs0 G).heap) (d : decode (zcode mi) pc = .ok (.arraylength, 1)) (k : Z l G mi Q PX (pc + 1) L (.int (nI n) :: S) σ kc ks) : Z l G mi Q PX pc L (.ref j :: S) σ kc ks := by
  intro p e s m args below meth c C H locs ls hR hz hlo hL
  have h := va_tlen (rest := S.map (zcv G)) C.1.1 C.1.2.1 ((hT.moved C.2.2.1.alike).kept (z_jK C)) (z_jS C hR hz hlo) rfl d (k p e s m args below meth c C H locs ls hR hz hlo hL)
  rw [← zad_lo hj] at h
  exact h
theorem z_jbyte {j n : Nat} {f : Nat → Int32} (hj : j < 32) (hT : va_T .byte (zaS G j) n (fun k => .int (f k)) (zfree G) (zs0 G) (zs0 G).heap) {i : Int32} (hin : vp_in i n) (d : decode (zcode mi) pc = .ok (.baload, 1)) (k : Z l G mi Q PX (pc + 1) L (.int (f i.toNatClampNeg) :: S) σ kc ks) : Z l G mi Q PX pc L (.int i :: .ref j :: S) σ kc ks := by
  intro p e s m args below meth c C H locs ls hR hz hlo hL
  have h := va_tb (rest := S.map (zcv G)) C.1.1 C.1.2.1 ((hT.moved C.2.2.1.alike).kept (z_jK C)) (z_jS C hR hz hlo) hin rfl d (k p e s m args below meth c C H locs ls hR hz hlo hL)
  rw [← zad_lo hj] at h
  exact h
theorem z_i2c {x : Int32} (d : decode (zcode mi) pc = .ok (.i2c, 1)) (k : Z l G mi Q PX (pc + 1) L (.int (x.toUInt32 % 65536).toInt32 :: S) σ kc ks) : Z l G mi Q PX pc L (.int x :: S) σ kc ks := by
  intro p e s m args below meth c C H locs ls hR hz hlo hL
  exact lv_i2c C.1.1 C.1.2.1 d rfl (k p e s m args below meth c C H locs ls hR hz hlo hL)
theorem z_nret {x : Int32} {ty : FieldType} (hr : zret mi = some ty) (hty : ty = .char ∨ ty = .byte) (hx : narrow ty (.int x) = .int x) (hk : kc ≤ zmc mi) (hs : ks ≤ zms mi) (d : decode (zcode mi) pc = .ok (.ireturn, 1)) (hq : Q (some (.int x)) σ) : Z l G mi Q PX pc L [.int x] σ kc ks := by
  intro p e s m args below meth c C H locs ls hR hz hlo hL
  rcases hty with rfl | rfl
  · exact W.widen hk hs (vx_ret (W.zret (v := x) (ty := .char) C.1.1 C.1.2.1 (C.1.2.2.2.1.trans hr) hx (fun t ht hW => ⟨by rw [ht]; exact hz, some (.int x), σ, rfl, by rw [ht]; exact hR, hq⟩) hlo d C.1.2.2.2.2.2.1))
  · exact W.widen hk hs (vx_ret (W.zret (v := x) (ty := .byte) C.1.1 C.1.2.1 (C.1.2.2.2.1.trans hr) hx (fun t ht hW => ⟨by rw [ht]; exact hz, some (.int x), σ, rfl, by rw [ht]; exact hR, hq⟩) hlo d C.1.2.2.2.2.2.1))
theorem z_callT {Q' : zPo} {mj : zMI} {np j idx : Nat} {As st : List Value} (hj : j < 32) (hO : va_O "java/lang/String" (zaS G j) (zfree G) (zs0 G) (zs0 G).heap) (hM : zRuns l G mj (.ref j :: As) σ Q') (hst : st = As.reverse ++ .ref j :: S) (d : decode (zcode mi) pc = .ok (.invokevirtual idx, 3)) (hlk : Cond.methodLink (zRn (zcN mi)) idx (zy mj) ∈ lw_tbl) (hm : zMok mj np) (hin : Cond.instanceMethod (zy mj) ∈ lw_tbl) (hse : Cond.selects "java/lang/String" (zy mj) (zy mj) ∈ lw_tbl) (hnp : As.length = np)
    (hd : zd mj + 1 ≤ zd mi) (hloc : zmaxL mj ≤ 17) (hS : (S.map fun v => v.category).sum ≤ 8) (hkc : kc + zmc mj ≤ zmc mi) (hks : ks + zms mj ≤ zms mi)
    (k : ∀ r σ', Q' r σ' → Z l G mi Q PX (pc + 3) L (r.toList ++ S) σ' (kc + zmc mj) (ks + zms mj)) : Z l G mi Q PX pc L st σ kc ks := by
  subst hst
  intro p e s m args below meth c C H locs ls hR hz hlo hL
  obtain ⟨cell, g1, g2, g3, -⟩ := ((hO.moved C.2.2.1.alike).kept (z_jK C)).kept (z_jS C hR hz hlo).2.1
  refine z_after C hz hlo hL (va_runV (Ts := []) (own := zRn (zcN mi)) (C := "java/lang/String") (As := As.map (zcv G)) (b := zad G j) ⟨C.1.1, C.1.2.1, C.1.2.2.1, C.1.2.2.2.2.1, fun w h => nomatch h⟩ hM ⟨zcallB hm hlk hd hloc C.2.1 C.2.2.1, zw C.2.1 C.2.2.1 hin rfl args, zw C.2.1 C.2.2.1 hse rfl args⟩
    ⟨zPc_blind, ⟨cell, by rw [zad_lo hj]; exact g1, g2, g3⟩, fun U hU hWU => ⟨rfl, by rw [hU]; exact hR, State.WarmedH.trans C.2.2.1 hWU⟩⟩ rfl (by rw [List.length_map]; exact hnp) hL.1 ?_ (z_stk hS) d ⟨hkc, hks⟩) k
  show (As.reverse ++ .ref j :: S).map (zcv G) = _
  rw [List.map_append, List.map_reverse, List.map_cons]
  rfl
theorem z_ldcS {j : Nat} (hj : j < 16) (hS : zST G) (hc : zRn (zcN mi) = zOw j) (d : decode (zcode mi) pc = .ok (.ldc (zEn j), 2)) (k : Z l G mi Q PX (pc + 2) L (.ref j :: S) σ kc ks) : Z l G mi Q PX pc L S σ kc ks := by
  intro p e s m args below meth c C H locs ls hR hz hlo hL
  have h := k p e s m args below meth c C H locs ls hR hz hlo hL
  have e1 : zcv G (.ref j) = .ref (zaS G j) := congrArg Value.ref (zad_lo (by omega))
  rw [List.map_cons, e1] at h
  exact va_ldcS C.1.1 C.1.2.1 (by rw [← hc]; exact C.1.2.2.2.2.1) ((hS.2.2.2 j hj).warm C.2.2.1) d h
end
