section
def zlen (i : Instr) : Nat := match i with
  | .bipush _ => 2
  | .iload _ => 2
  | .lload _ => 2
  | .aload _ => 2
  | .istore _ => 2
  | .lstore _ => 2
  | .astore _ => 2
  | .newarray _ => 2
  | .ldc _ => 2
  | .sipush _ => 3
  | .iinc _ _ => 3
  | .if_icmp _ _ => 3
  | .ifCond _ _ => 3
  | .goto _ => 3
  | .ifnull _ => 3
  | .ifnonnull _ => 3
  | .getfield _ => 3
  | .putfield _ => 3
  | .new _ => 3
  | .anewarray _ => 3
  | .ldc2_w _ => 3
  | .invokevirtual _ => 3
  | .invokespecial _ => 3
  | .invokestatic _ => 3
  | .tableswitch _ _ _ _ => 0
  | _ => 1
def zcons : zTb → Bool
  | [] => true
  | a :: t => (match t with
    | [] => true
    | b :: _ => Nat.beq (zlen a.2.1) 0 || Nat.beq b.1 (a.1 + a.2.2)) && zcons t
def zwf (mi : zMI) (tb : zTb) : Prop := (∀ e ∈ tb, decode (zcode mi) e.1 = .ok e.2 ∧ (zlen e.2.1 = 0 ∨ zlen e.2.1 = e.2.2)) ∧ zcons tb = true
theorem zwf_of {mi : zMI} {tb : zTb} (h : (tb.all (fun e => decide (decode (zcode mi) e.1 = .ok e.2) && (Nat.beq (zlen e.2.1) 0 || Nat.beq (zlen e.2.1) e.2.2)) && zcons tb) = true) : zwf mi tb := by
  simp only [Bool.and_eq_true] at h
  refine ⟨fun e he => ?_, h.2⟩
  have := List.all_eq_true.mp h.1 e he
  simp only [Bool.and_eq_true, decide_eq_true_eq, Bool.or_eq_true] at this
  exact ⟨this.1, this.2.imp Nat.eq_of_beq_eq_true Nat.eq_of_beq_eq_true⟩
theorem zcons_at : ∀ (pre : zTb) (a b : Nat × Instr × Nat) (t : zTb), zcons (pre ++ a :: b :: t) = true → zlen a.2.1 = 0 ∨ b.1 = a.1 + a.2.2
  | [], a, b, t, h => by
    simp only [List.nil_append, zcons, Bool.and_eq_true, Bool.or_eq_true] at h
    exact h.1.imp Nat.eq_of_beq_eq_true Nat.eq_of_beq_eq_true
  | x :: pre, a, b, t, h => by
    simp only [List.cons_append, zcons, Bool.and_eq_true] at h
    exact zcons_at pre a b t h.2
theorem zfrom_suf : ∀ (tb : zTb) (pc : Nat), ∃ pre, tb = pre ++ zfrom tb pc
  | [], _ => ⟨[], rfl⟩
  | x :: t, pc => by
    unfold zfrom
    cases h : Nat.beq x.1 pc
    · obtain ⟨pre, hp⟩ := zfrom_suf t pc
      exact ⟨x :: pre, by simp only [cond_false, List.cons_append]; rw [← hp]⟩
    · exact ⟨[], rfl⟩
theorem zfrom_head : ∀ (tb : zTb) (pc : Nat) (x : Nat × Instr × Nat) (t : zTb), zfrom tb pc = x :: t → x.1 = pc
  | [], _, _, _, h => by cases h
  | y :: s, pc, x, t, h => by
    unfold zfrom at h
    cases hb : Nat.beq y.1 pc
    · rw [hb] at h
      exact zfrom_head s pc x t h
    · rw [hb] at h
      cases h
      exact Nat.eq_of_beq_eq_true hb
theorem zat {mi : zMI} {tb : zTb} (hw : zwf mi tb) {pc len : Nat} {ins : Instr} {rest : zTb} (h : zfrom tb pc = (pc, ins, len) :: rest) : decode (zcode mi) pc = .ok (ins, len) := by
  obtain ⟨pre, hp⟩ := zfrom_suf tb pc
  rw [h] at hp
  exact (hw.1 (pc, ins, len) (by rw [hp]; simp)).1
end
section
variable {l : Launch} {G : zG} {mi : zMI} {Q : zPo} {PX : String → zS → Prop} {tb : zTb} {cuts : List Nat}
theorem zpi_e {S : List Value} {k : Int32 → List Value → Prop} (h : zpi S k) : ∃ x S', S = .int x :: S' ∧ k x S' := by
  unfold zpi at h
  split at h
  · exact ⟨_, _, rfl, h⟩
  · exact h.elim
theorem zpl_e {S : List Value} {k : Int64 → List Value → Prop} (h : zpl S k) : ∃ x S', S = .long x :: S' ∧ k x S' := by
  unfold zpl at h
  split at h
  · exact ⟨_, _, rfl, h⟩
  · exact h.elim
theorem zpn_e {S : List Value} {k : Nat → List Value → Prop} (h : zpn S k) : ∃ x S', S = .ref x :: S' ∧ k x S' := by
  unfold zpn at h
  split at h
  · exact ⟨_, _, rfl, h⟩
  · exact h.elim
theorem zpr_e {S : List Value} {k : Option Nat → List Value → Prop} (h : zpr S k) : ∃ r S', S = va_rf r :: S' ∧ k r S' := by
  unfold zpr at h
  split at h
  · exact ⟨some _, _, rfl, h⟩
  · exact ⟨none, _, rfl, h⟩
  · exact h.elim
theorem zp1_e {S : List Value} {k : Value → List Value → Prop} (h : zp1 S k) : ∃ v S', S = v :: S' ∧ v.category = 1 ∧ k v S' := by
  unfold zp1 at h
  split at h
  · exact ⟨_, _, rfl, Nat.eq_of_beq_eq_true h.1, h.2⟩
  · exact h.elim
theorem zgi_e {x : Option Value} {k : Int32 → Prop} (h : zgi x k) : ∃ y, x = some (.int y) ∧ k y := by
  unfold zgi at h
  split at h
  · exact ⟨_, rfl, h⟩
  · exact h.elim
theorem zgl_e {x : Option Value} {k : Int64 → Prop} (h : zgl x k) : ∃ y, x = some (.long y) ∧ k y := by
  unfold zgl at h
  split at h
  · exact ⟨_, rfl, h⟩
  · exact h.elim
theorem zgr_e {x : Option Value} {k : Value → Prop} (h : zgr x k) : ∃ v, x = some v ∧ zisr v ∧ k v := by
  unfold zgr at h
  split at h
  · exact ⟨_, rfl, Or.inr ⟨_, rfl⟩, h⟩
  · exact ⟨_, rfl, Or.inl rfl, h⟩
  · exact h.elim
theorem zsw_e {k : Int → Prop} : ∀ (offs : List Int) (x : Int32) (lo : Int), zsw x lo offs k → ∀ (j : Nat) (o : Int), offs[j]? = some o → x.toInt = lo + j → k o
  | [], _, _, _, j, o, h, _ => by simp at h
  | a :: t, x, lo, h, 0, o, ho, hx => by
    simp only [List.getElem?_cons_zero, Option.some.injEq] at ho
    subst ho
    exact h.1 (by simpa using hx)
  | a :: t, x, lo, h, j + 1, o, ho, hx => zsw_e t x (lo + 1) h.2 j o (by simpa using ho) (by omega)
theorem zblt {a b : Nat} (h : Nat.blt a b = true) : a < b := Nat.le_of_ble_eq_true h
theorem zcmp_e {cc : ClassFile.Cond} {x y : Int32} {a b : Prop} {pc tgt : Nat} {off : Int} {L : Nat → Option Value} {S : List Value} {σ : zS} {kc ks : Nat} (h : zcmp cc x y a b) (ha : a → Z l G mi Q PX tgt L S σ kc ks) (hb : b → Z l G mi Q PX (pc + 3) L S σ kc ks) (ht : (pc : Int) + off = (tgt : Int)) (d : decode (zcode mi) pc = .ok (.if_icmp cc off, 3)) : Z l G mi Q PX pc L (.int y :: .int x :: S) σ kc ks := by
  cases cc
  · exact z_icmp_eq d ht (fun q => ha (h.1 q)) (fun q => hb (h.2 q))
  · exact z_icmp_ne d ht (fun q => ha (h.1 q)) (fun q => hb (h.2 q))
  · exact z_icmp_lt d ht (fun q => ha (h.1 q)) (fun q => hb (h.2 q))
  · exact z_icmp_ge d ht (fun q => ha (h.1 q)) (fun q => hb (h.2 q))
  · exact z_icmp_gt d ht (fun q => ha (h.1 q)) (fun q => hb (h.2 q))
  · exact z_icmp_le d ht (fun q => ha (h.1 q)) (fun q => hb (h.2 q))
theorem zcmp_e0 {cc : ClassFile.Cond} {x : Int32} {a b : Prop} {pc tgt : Nat} {off : Int} {L : Nat → Option Value} {S : List Value} {σ : zS} {kc ks : Nat} (h : zcmp cc x 0 a b) (ha : a → Z l G mi Q PX tgt L S σ kc ks) (hb : b → Z l G mi Q PX (pc + 3) L S σ kc ks) (ht : (pc : Int) + off = (tgt : Int)) (d : decode (zcode mi) pc = .ok (.ifCond cc off, 3)) : Z l G mi Q PX pc L (.int x :: S) σ kc ks := by
  cases cc
  · exact z_if_eq d ht (fun q => ha (h.1 q)) (fun q => hb (h.2 q))
  · exact z_if_ne d ht (fun q => ha (h.1 q)) (fun q => hb (h.2 q))
  · exact z_if_lt d ht (fun q => ha (h.1 q)) (fun q => hb (h.2 q))
  · exact z_if_ge d ht (fun q => ha (h.1 q)) (fun q => hb (h.2 q))
  · exact z_if_gt d ht (fun q => ha (h.1 q)) (fun q => hb (h.2 q))
  · exact z_if_le d ht (fun q => ha (h.1 q)) (fun q => hb (h.2 q))
theorem zwf_of2 {mi : zMI} {tb : zTb} (h : ∀ e ∈ tb, (decide (decode (zcode mi) e.1 = .ok e.2) && (Nat.beq (zlen e.2.1) 0 || Nat.beq (zlen e.2.1) e.2.2)) = true) (h2 : zcons tb = true) : zwf mi tb :=
  zwf_of (by rw [Bool.and_eq_true]; exact ⟨List.all_eq_true.mpr h, h2⟩)
set_option maxHeartbeats 4000000 in
set_option maxRecDepth 100000 in
theorem zrn_ok (hw : zwf mi tb) : ∀ (f : Nat) (b : Bool) (suf : zTb) (lo : zLs) (S : List Value) (K N : Nat → Nat) (I : Nat → Nat → Int32) (J : Nat → Nat → Int64) (R : Nat → Nat → Option Nat) (nx0 kc ks : Nat), (∃ pre, tb = pre ++ suf) → zrn l G mi Q PX tb cuts f b suf lo S K N I J R nx0 kc ks → ∀ p, (∃ i n t, suf = (p, i, n) :: t) → Z l G mi Q PX p (zLo lo) S (K, N, I, J, R, nx0) kc ks := by
  intro f
  induction f with
  | zero => intro b suf lo S K N I J R nx0 kc ks _ h; cases suf <;> exact h.elim
  | succ f ih =>
    intro b suf lo S K N I J R nx0 kc ks hsuf h p hp
    obtain ⟨ins, len, rest, rfl⟩ := hp
    obtain ⟨pre, hpre⟩ := hsuf
    have hmem : (p, ins, len) ∈ tb := by rw [hpre]; simp
    obtain ⟨d, hlen⟩ := hw.1 _ hmem
    dsimp only at d hlen
    have nx : ∀ n, zlen ins = n → n ≠ 0 → ∀ lo' S' K' N' I' J' R' x' kc' ks', zrn l G mi Q PX tb cuts f true rest lo' S' K' N' I' J' R' x' kc' ks' → Z l G mi Q PX (p + n) (zLo lo') S' (K', N', I', J', R', x') kc' ks' := by
      intro n hn hn0 lo' S' K' N' I' J' R' x' kc' ks' hz
      rcases hr : rest with _ | ⟨⟨p', i', n'⟩, t'⟩
      · rw [hr] at hz
        cases f <;> exact hz.elim
      · have hz' := ih true rest lo' S' K' N' I' J' R' x' kc' ks' ⟨pre ++ [(p, ins, len)], by rw [hpre]; simp⟩ hz p' ⟨i', n', t', hr⟩
        have hc := hw.2
        rw [hpre, hr] at hc
        have h2 := zcons_at pre (p, ins, len) (p', i', n') t' hc
        dsimp only at h2
        have : p' = p + n := by
          rcases h2 with h2 | h2
          · omega
          · rcases hlen with h3 | h3
            · omega
            · omega
        rw [← this]
        exact hz'
    have jp : ∀ t lo' S' K' N' I' J' R' x' kc' ks', zrn l G mi Q PX tb cuts f true (zfrom tb t) lo' S' K' N' I' J' R' x' kc' ks' → Z l G mi Q PX t (zLo lo') S' (K', N', I', J', R', x') kc' ks' := by
      intro t lo' S' K' N' I' J' R' x' kc' ks' hz
      rcases hr : zfrom tb t with _ | ⟨⟨p', i', n'⟩, t'⟩
      · rw [hr] at hz
        cases f <;> exact hz.elim
      · have hh := zfrom_head tb t _ _ hr
        dsimp only at hh
        subst hh
        exact ih true _ lo' S' K' N' I' J' R' x' kc' ks' (zfrom_suf tb p') hz p' ⟨i', n', t', hr⟩
    unfold zrn at h
    cases hcut : (b && cuts.elem p)
    · rw [hcut, cond_false] at h
      clear hcut ih
      cases ins
      case aaload =>
        have e : len = 1 := by simpa [zlen, eq_comm] using hlen
        subst e
        replace h := zpi_e h
        obtain ⟨i, S1, rfl, h⟩ := h
        replace h := zpn_e h
        obtain ⟨n, S2, rfl, hk, hi, r, hr, h⟩ := h
        subst hr
        exact z_aaload (Nat.le_of_ble_eq_true hk.1) (zblt hk.2) hi d (nx 1 rfl (by decide) _ _ _ _ _ _ _ _ _ _ h)
      case aastore =>
        have e : len = 1 := by simpa [zlen, eq_comm] using hlen
        subst e
        replace h := zpn_e h
        obtain ⟨v, S0, rfl, h⟩ := h
        replace h := zpi_e h
        obtain ⟨i, S1, rfl, h⟩ := h
        replace h := zpn_e h
        obtain ⟨n, S2, rfl, hk, hv, hi, h⟩ := h
        exact z_aastore (Nat.le_of_ble_eq_true hk.1) (zblt hk.2) hv hi d (nx 1 rfl (by decide) _ _ _ _ _ _ _ _ _ _ h)
      case aconst_null =>
        have e : len = 1 := by simpa [zlen, eq_comm] using hlen
        subst e
        exact z_null d (nx 1 rfl (by decide) _ _ _ _ _ _ _ _ _ _ h)
      case aload =>
        have e : len = 2 := by simpa [zlen, eq_comm] using hlen
        subst e
        replace h := zgr_e h
        obtain ⟨x, hx, hv, h⟩ := h
        exact z_aload hx hv d (nx 2 rfl (by decide) _ _ _ _ _ _ _ _ _ _ h)
      case aload_n =>
        have e : len = 1 := by simpa [zlen, eq_comm] using hlen
        subst e
        replace h := zgr_e h
        obtain ⟨x, hx, hv, h⟩ := h
        exact z_aload_n hx hv d (nx 1 rfl (by decide) _ _ _ _ _ _ _ _ _ _ h)
      case anewarray =>
        have e : len = 3 := by simpa [zlen, eq_comm] using hlen
        subst e
        rename_i ix9
        rcases hf : zal (zcN mi) ix9 with _ | kd
        · simp only [hf] at h; try exact h.elim
        · simp only [hf] at h
          replace h := zpi_e h
          obtain ⟨n, S1, rfl, a, ⟨rfl, ha, h1, h2⟩, h⟩ := h
          have ha' := Nat.le_of_ble_eq_true ha
          have hcl : (nI a).toNatClampNeg = a := nI_clamp (by omega)
          exact z_anew hf (nI_pos (by omega)) (by rw [hcl]; omega) (Nat.le_of_ble_eq_true h1) (by rw [hcl]; exact Nat.le_of_ble_eq_true h2) d (by rw [hcl]; exact nx 3 rfl (by decide) _ _ _ _ _ _ _ _ _ _ h)
      case areturn =>
        have e : len = 1 := by simpa [zlen, eq_comm] using hlen
        subst e
        dsimp only at h
        split at h
        · obtain ⟨⟨h1, h2⟩, ⟨Cn, hr⟩, hv, h⟩ := h
          exact z_aret hv hr (Nat.le_of_ble_eq_true h1) (Nat.le_of_ble_eq_true h2) d (h trivial)
        · exact h.elim
      case arraylength =>
        have e : len = 1 := by simpa [zlen, eq_comm] using hlen
        subst e
        replace h := zpn_e h
        obtain ⟨n, S1, rfl, hk, h⟩ := h
        exact z_alen (Nat.le_of_ble_eq_true hk.1) (zblt hk.2) d (nx 1 rfl (by decide) _ _ _ _ _ _ _ _ _ _ h)
      case astore =>
        have e : len = 2 := by simpa [zlen, eq_comm] using hlen
        subst e
        replace h := zpr_e h
        obtain ⟨r, S1, rfl, h⟩ := h
        exact z_astore (zisr_rf r) (zblt h.1) d (Z_mono (zset1_lo _ _ _) (nx 2 rfl (by decide) _ _ _ _ _ _ _ _ _ _ h.2))
      case astore_n =>
        have e : len = 1 := by simpa [zlen, eq_comm] using hlen
        subst e
        replace h := zpr_e h
        obtain ⟨r, S1, rfl, h⟩ := h
        exact z_astore_n (zisr_rf r) (zblt h.1) d (Z_mono (zset1_lo _ _ _) (nx 1 rfl (by decide) _ _ _ _ _ _ _ _ _ _ h.2))
      case athrow =>
        exact h
      case baload =>
        have e : len = 1 := by simpa [zlen, eq_comm] using hlen
        subst e
        replace h := zpi_e h
        obtain ⟨i, S1, rfl, h⟩ := h
        replace h := zpn_e h
        obtain ⟨n, S2, rfl, hk, hi, h⟩ := h
        simp only [Bool.or_eq_true] at hk
        rcases hk with hk | hk
        · exact z_baload (Nat.eq_of_beq_eq_true hk) hi d (nx 1 rfl (by decide) _ _ _ _ _ _ _ _ _ _ h)
        · exact z_zaload (Nat.eq_of_beq_eq_true hk) hi d (nx 1 rfl (by decide) _ _ _ _ _ _ _ _ _ _ h)
      case bastore =>
        have e : len = 1 := by simpa [zlen, eq_comm] using hlen
        subst e
        replace h := zpi_e h
        obtain ⟨v, S0, rfl, h⟩ := h
        replace h := zpi_e h
        obtain ⟨i, S1, rfl, h⟩ := h
        replace h := zpn_e h
        obtain ⟨n, S2, rfl, bb, hk, hi, h⟩ := h
        cases bb
        · exact z_bastore hk hi d (nx 1 rfl (by decide) _ _ _ _ _ _ _ _ _ _ h)
        · exact z_zastore hk hi d (nx 1 rfl (by decide) _ _ _ _ _ _ _ _ _ _ h)
      case bipush =>
        have e : len = 2 := by simpa [zlen, eq_comm] using hlen
        subst e
        exact z_bipush d (nx 2 rfl (by decide) _ _ _ _ _ _ _ _ _ _ h)
      case caload =>
        exact h
      case castore =>
        exact h
      case checkcast =>
        exact h
      case d2f =>
        exact h
      case d2i =>
        exact h
      case d2l =>
        exact h
      case dadd =>
        exact h
      case daload =>
        exact h
      case dastore =>
        exact h
      case dcmp =>
        exact h
      case dconst =>
        exact h
      case ddiv =>
        exact h
      case dload =>
        exact h
      case dload_n =>
        exact h
      case dmul =>
        exact h
      case dneg =>
        exact h
      case drem =>
        exact h
      case dreturn =>
        exact h
      case dstore =>
        exact h
      case dstore_n =>
        exact h
      case dsub =>
        exact h
      case dup =>
        have e : len = 1 := by simpa [zlen, eq_comm] using hlen
        subst e
        replace h := zp1_e h
        obtain ⟨v, S1, rfl, hv, h⟩ := h
        exact z_dup hv d (nx 1 rfl (by decide) _ _ _ _ _ _ _ _ _ _ h)
      case dup_x1 =>
        exact h
      case dup_x2 =>
        exact h
      case dup2 =>
        have e : len = 1 := by simpa [zlen, eq_comm] using hlen
        subst e
        replace h := zp1_e h
        obtain ⟨v, S1, rfl, hv, h⟩ := h
        replace h := zp1_e h
        obtain ⟨w, S2, rfl, hw2, h⟩ := h
        exact z_dup2 hv hw2 d (nx 1 rfl (by decide) _ _ _ _ _ _ _ _ _ _ h)
      case dup2_x1 =>
        exact h
      case dup2_x2 =>
        exact h
      case f2d =>
        exact h
      case f2i =>
        exact h
      case f2l =>
        exact h
      case fadd =>
        exact h
      case faload =>
        exact h
      case fastore =>
        exact h
      case fcmp =>
        exact h
      case fconst =>
        exact h
      case fdiv =>
        exact h
      case fload =>
        exact h
      case fload_n =>
        exact h
      case fmul =>
        exact h
      case fneg =>
        exact h
      case frem =>
        exact h
      case freturn =>
        exact h
      case fstore =>
        exact h
      case fstore_n =>
        exact h
      case fsub =>
        exact h
      case getfield =>
        have e : len = 3 := by simpa [zlen, eq_comm] using hlen
        subst e
        rename_i ix9
        rcases hf : zfr (zcN mi) ix9 with _ | ⟨ci, k, t, fin⟩
        · simp only [hf] at h; try exact h.elim
        · simp only [hf] at h
          replace h := zpn_e h
          obtain ⟨n, S1, rfl, hK, h⟩ := h
          split at h
          · exact z_getI hf (Or.inl rfl) hK d (nx 3 rfl (by decide) _ _ _ _ _ _ _ _ _ _ h)
          · exact z_getJ hf rfl hK d (nx 3 rfl (by decide) _ _ _ _ _ _ _ _ _ _ h)
          · obtain ⟨r, hr, h⟩ := h
            subst hr
            exact z_getR hf rfl hK d (nx 3 rfl (by decide) _ _ _ _ _ _ _ _ _ _ h)
          · exact z_getI hf (Or.inr rfl) hK d (nx 3 rfl (by decide) _ _ _ _ _ _ _ _ _ _ h)
          · exact h.elim
      case getstatic =>
        exact h
      case goto =>
        have e : len = 3 := by simpa [zlen, eq_comm] using hlen
        subst e
        exact z_goto d h.1 (jp _ _ _ _ _ _ _ _ _ _ _ h.2)
      case goto_w =>
        exact h
      case i2b =>
        have e : len = 1 := by simpa [zlen, eq_comm] using hlen
        subst e
        replace h := zpi_e h
        obtain ⟨x, S1, rfl, h⟩ := h
        exact z_i2b d (nx 1 rfl (by decide) _ _ _ _ _ _ _ _ _ _ h)
      case i2c =>
        exact h
      case i2d =>
        exact h
      case i2f =>
        exact h
      case i2l =>
        have e : len = 1 := by simpa [zlen, eq_comm] using hlen
        subst e
        replace h := zpi_e h
        obtain ⟨x, S1, rfl, h⟩ := h
        exact z_i2l d (nx 1 rfl (by decide) _ _ _ _ _ _ _ _ _ _ h)
      case i2s =>
        exact h
      case iadd =>
        have e : len = 1 := by simpa [zlen, eq_comm] using hlen
        subst e
        replace h := zpi_e h
        obtain ⟨y, S1, rfl, h⟩ := h
        replace h := zpi_e h
        obtain ⟨x, S2, rfl, h⟩ := h
        exact z_iadd d (nx 1 rfl (by decide) _ _ _ _ _ _ _ _ _ _ h)
      case iaload =>
        have e : len = 1 := by simpa [zlen, eq_comm] using hlen
        subst e
        replace h := zpi_e h
        obtain ⟨i, S1, rfl, h⟩ := h
        replace h := zpn_e h
        obtain ⟨n, S2, rfl, hk, hi, h⟩ := h
        exact z_iaload hk hi d (nx 1 rfl (by decide) _ _ _ _ _ _ _ _ _ _ h)
      case iand =>
        have e : len = 1 := by simpa [zlen, eq_comm] using hlen
        subst e
        replace h := zpi_e h
        obtain ⟨y, S1, rfl, h⟩ := h
        replace h := zpi_e h
        obtain ⟨x, S2, rfl, h⟩ := h
        exact z_iand d (nx 1 rfl (by decide) _ _ _ _ _ _ _ _ _ _ h)
      case iastore =>
        have e : len = 1 := by simpa [zlen, eq_comm] using hlen
        subst e
        replace h := zpi_e h
        obtain ⟨v, S0, rfl, h⟩ := h
        replace h := zpi_e h
        obtain ⟨i, S1, rfl, h⟩ := h
        replace h := zpn_e h
        obtain ⟨n, S2, rfl, hk, hi, h⟩ := h
        exact z_iastore hk hi d (nx 1 rfl (by decide) _ _ _ _ _ _ _ _ _ _ h)
      case iconst =>
        have e : len = 1 := by simpa [zlen, eq_comm] using hlen
        subst e
        exact z_iconst d (nx 1 rfl (by decide) _ _ _ _ _ _ _ _ _ _ h)
      case idiv =>
        have e : len = 1 := by simpa [zlen, eq_comm] using hlen
        subst e
        replace h := zpi_e h
        obtain ⟨y, S1, rfl, h⟩ := h
        replace h := zpi_e h
        obtain ⟨x, S2, rfl, h⟩ := h
        exact z_idiv h.1 d (nx 1 rfl (by decide) _ _ _ _ _ _ _ _ _ _ h.2)
      case if_acmp =>
        exact h
      case if_icmp =>
        have e : len = 3 := by simpa [zlen, eq_comm] using hlen
        subst e
        replace h := zpi_e h
        obtain ⟨y, S1, rfl, h⟩ := h
        replace h := zpi_e h
        obtain ⟨x, S2, rfl, h⟩ := h
        exact zcmp_e h.2 (jp _ _ _ _ _ _ _ _ _ _ _) (nx 3 rfl (by decide) _ _ _ _ _ _ _ _ _ _) h.1 d
      case ifCond =>
        have e : len = 3 := by simpa [zlen, eq_comm] using hlen
        subst e
        replace h := zpi_e h
        obtain ⟨x, S2, rfl, h⟩ := h
        exact zcmp_e0 h.2 (jp _ _ _ _ _ _ _ _ _ _ _) (nx 3 rfl (by decide) _ _ _ _ _ _ _ _ _ _) h.1 d
      case ifnonnull =>
        have e : len = 3 := by simpa [zlen, eq_comm] using hlen
        subst e
        replace h := zpr_e h
        obtain ⟨r, S1, rfl, h⟩ := h
        refine z_ifnonnull d h.1 (fun q => ?_) (fun q => ?_)
        · rcases r with _ | r
          · exact absurd rfl q
          · exact jp _ _ _ _ _ _ _ _ _ _ _ h.2
        · subst q; exact nx 3 rfl (by decide) _ _ _ _ _ _ _ _ _ _ h.2
      case ifnull =>
        have e : len = 3 := by simpa [zlen, eq_comm] using hlen
        subst e
        replace h := zpr_e h
        obtain ⟨r, S1, rfl, h⟩ := h
        refine z_ifnull d h.1 (fun q => ?_) (fun q => ?_)
        · subst q; exact jp _ _ _ _ _ _ _ _ _ _ _ h.2
        · rcases r with _ | r
          · exact absurd rfl q
          · exact nx 3 rfl (by decide) _ _ _ _ _ _ _ _ _ _ h.2
      case iinc =>
        have e : len = 3 := by simpa [zlen, eq_comm] using hlen
        subst e
        replace h := zgi_e h
        obtain ⟨x, hx, h⟩ := h
        exact z_iinc hx d (Z_mono (zset1_lo _ _ _) (nx 3 rfl (by decide) _ _ _ _ _ _ _ _ _ _ h))
      case iload =>
        have e : len = 2 := by simpa [zlen, eq_comm] using hlen
        subst e
        replace h := zgi_e h
        obtain ⟨x, hx, h⟩ := h
        exact z_iload hx d (nx 2 rfl (by decide) _ _ _ _ _ _ _ _ _ _ h)
      case iload_n =>
        have e : len = 1 := by simpa [zlen, eq_comm] using hlen
        subst e
        replace h := zgi_e h
        obtain ⟨x, hx, h⟩ := h
        exact z_iload_n hx d (nx 1 rfl (by decide) _ _ _ _ _ _ _ _ _ _ h)
      case imul =>
        have e : len = 1 := by simpa [zlen, eq_comm] using hlen
        subst e
        replace h := zpi_e h
        obtain ⟨y, S1, rfl, h⟩ := h
        replace h := zpi_e h
        obtain ⟨x, S2, rfl, h⟩ := h
        exact z_imul d (nx 1 rfl (by decide) _ _ _ _ _ _ _ _ _ _ h)
      case ineg =>
        exact h
      case instanceof =>
        exact h
      case invokedynamic =>
        exact h
      case invokeinterface =>
        exact h
      case invokespecial =>
        exact h
      case invokestatic =>
        exact h
      case invokevirtual =>
        exact h
      case ior =>
        exact h
      case irem =>
        have e : len = 1 := by simpa [zlen, eq_comm] using hlen
        subst e
        replace h := zpi_e h
        obtain ⟨y, S1, rfl, h⟩ := h
        replace h := zpi_e h
        obtain ⟨x, S2, rfl, h⟩ := h
        exact z_irem h.1 d (nx 1 rfl (by decide) _ _ _ _ _ _ _ _ _ _ h.2)
      case ireturn =>
        have e : len = 1 := by simpa [zlen, eq_comm] using hlen
        subst e
        dsimp only at h
        split at h
        · obtain ⟨⟨h1, h2⟩, h⟩ := h
          split at h
          · rename_i hr
            exact z_iret hr (Nat.le_of_ble_eq_true h1) (Nat.le_of_ble_eq_true h2) d (h trivial)
          · rename_i hr
            exact z_zret hr h.2 (Nat.le_of_ble_eq_true h1) (Nat.le_of_ble_eq_true h2) d (h.1 h.2)
          · exact h.elim
        · exact h.elim
      case ishl =>
        exact h
      case ishr =>
        have e : len = 1 := by simpa [zlen, eq_comm] using hlen
        subst e
        replace h := zpi_e h
        obtain ⟨y, S1, rfl, h⟩ := h
        replace h := zpi_e h
        obtain ⟨x, S2, rfl, h⟩ := h
        exact z_ishr d (nx 1 rfl (by decide) _ _ _ _ _ _ _ _ _ _ h)
      case istore =>
        have e : len = 2 := by simpa [zlen, eq_comm] using hlen
        subst e
        replace h := zpi_e h
        obtain ⟨x, S1, rfl, h⟩ := h
        exact z_istore (zblt h.1) d (Z_mono (zset1_lo _ _ _) (nx 2 rfl (by decide) _ _ _ _ _ _ _ _ _ _ h.2))
      case istore_n =>
        have e : len = 1 := by simpa [zlen, eq_comm] using hlen
        subst e
        replace h := zpi_e h
        obtain ⟨x, S1, rfl, h⟩ := h
        exact z_istore_n (zblt h.1) d (Z_mono (zset1_lo _ _ _) (nx 1 rfl (by decide) _ _ _ _ _ _ _ _ _ _ h.2))
      case isub =>
        have e : len = 1 := by simpa [zlen, eq_comm] using hlen
        subst e
        replace h := zpi_e h
        obtain ⟨y, S1, rfl, h⟩ := h
        replace h := zpi_e h
        obtain ⟨x, S2, rfl, h⟩ := h
        exact z_isub d (nx 1 rfl (by decide) _ _ _ _ _ _ _ _ _ _ h)
      case iushr =>
        exact h
      case ixor =>
        exact h
      case jsr =>
        exact h
      case jsr_w =>
        exact h
      case l2d =>
        exact h
      case l2f =>
        exact h
      case l2i =>
        exact h
      case ladd =>
        have e : len = 1 := by simpa [zlen, eq_comm] using hlen
        subst e
        replace h := zpl_e h
        obtain ⟨y, S1, rfl, h⟩ := h
        replace h := zpl_e h
        obtain ⟨x, S2, rfl, h⟩ := h
        exact z_ladd d (nx 1 rfl (by decide) _ _ _ _ _ _ _ _ _ _ h)
      case laload =>
        have e : len = 1 := by simpa [zlen, eq_comm] using hlen
        subst e
        replace h := zpi_e h
        obtain ⟨i, S1, rfl, h⟩ := h
        replace h := zpn_e h
        obtain ⟨n, S2, rfl, hk, hi, h⟩ := h
        exact z_laload hk hi d (nx 1 rfl (by decide) _ _ _ _ _ _ _ _ _ _ h)
      case land =>
        exact h
      case lastore =>
        have e : len = 1 := by simpa [zlen, eq_comm] using hlen
        subst e
        replace h := zpl_e h
        obtain ⟨v, S0, rfl, h⟩ := h
        replace h := zpi_e h
        obtain ⟨i, S1, rfl, h⟩ := h
        replace h := zpn_e h
        obtain ⟨n, S2, rfl, hk, hi, h⟩ := h
        exact z_lastore hk hi d (nx 1 rfl (by decide) _ _ _ _ _ _ _ _ _ _ h)
      case lcmp =>
        have e : len = 1 := by simpa [zlen, eq_comm] using hlen
        subst e
        replace h := zpl_e h
        obtain ⟨y, S1, rfl, h⟩ := h
        replace h := zpl_e h
        obtain ⟨x, S2, rfl, h⟩ := h
        exact z_lcmp d (nx 1 rfl (by decide) _ _ _ _ _ _ _ _ _ _ h)
      case lconst =>
        have e : len = 1 := by simpa [zlen, eq_comm] using hlen
        subst e
        exact z_lconst d (nx 1 rfl (by decide) _ _ _ _ _ _ _ _ _ _ h)
      case ldc =>
        have e : len = 2 := by simpa [zlen, eq_comm] using hlen
        subst e
        rename_i ix9
        rcases hf : zic (zcN mi) ix9 with _ | v
        · simp only [hf] at h
          exact h
        · simp only [hf] at h
          exact z_ldc hf d (nx 2 rfl (by decide) _ _ _ _ _ _ _ _ _ _ h)
      case ldc_w =>
        exact h
      case ldc2_w =>
        have e : len = 3 := by simpa [zlen, eq_comm] using hlen
        subst e
        rename_i ix9
        rcases hf : zjc (zcN mi) ix9 with _ | v
        · simp only [hf] at h; try exact h.elim
        · simp only [hf] at h
          exact z_ldc2 hf d (nx 3 rfl (by decide) _ _ _ _ _ _ _ _ _ _ h)
      case ldiv =>
        have e : len = 1 := by simpa [zlen, eq_comm] using hlen
        subst e
        replace h := zpl_e h
        obtain ⟨y, S1, rfl, h⟩ := h
        replace h := zpl_e h
        obtain ⟨x, S2, rfl, h⟩ := h
        exact z_ldiv h.1 d (nx 1 rfl (by decide) _ _ _ _ _ _ _ _ _ _ h.2)
      case lload =>
        have e : len = 2 := by simpa [zlen, eq_comm] using hlen
        subst e
        replace h := zgl_e h
        obtain ⟨x, hx, h⟩ := h
        exact z_lload hx d (nx 2 rfl (by decide) _ _ _ _ _ _ _ _ _ _ h)
      case lload_n =>
        have e : len = 1 := by simpa [zlen, eq_comm] using hlen
        subst e
        replace h := zgl_e h
        obtain ⟨x, hx, h⟩ := h
        exact z_lload_n hx d (nx 1 rfl (by decide) _ _ _ _ _ _ _ _ _ _ h)
      case lmul =>
        have e : len = 1 := by simpa [zlen, eq_comm] using hlen
        subst e
        replace h := zpl_e h
        obtain ⟨y, S1, rfl, h⟩ := h
        replace h := zpl_e h
        obtain ⟨x, S2, rfl, h⟩ := h
        exact z_lmul d (nx 1 rfl (by decide) _ _ _ _ _ _ _ _ _ _ h)
      case lneg =>
        exact h
      case lookupswitch =>
        exact h
      case lor =>
        exact h
      case lrem =>
        have e : len = 1 := by simpa [zlen, eq_comm] using hlen
        subst e
        replace h := zpl_e h
        obtain ⟨y, S1, rfl, h⟩ := h
        replace h := zpl_e h
        obtain ⟨x, S2, rfl, h⟩ := h
        exact z_lrem h.1 d (nx 1 rfl (by decide) _ _ _ _ _ _ _ _ _ _ h.2)
      case lreturn =>
        have e : len = 1 := by simpa [zlen, eq_comm] using hlen
        subst e
        dsimp only at h
        split at h
        · obtain ⟨⟨h1, h2⟩, hr, h⟩ := h
          exact z_lret hr (Nat.le_of_ble_eq_true h1) (Nat.le_of_ble_eq_true h2) d (h trivial)
        · exact h.elim
      case lshl =>
        exact h
      case lshr =>
        exact h
      case lstore =>
        have e : len = 2 := by simpa [zlen, eq_comm] using hlen
        subst e
        replace h := zpl_e h
        obtain ⟨x, S1, rfl, h⟩ := h
        exact z_lstore (zblt h.1) d (Z_mono (zset2_lo _ _ _) (nx 2 rfl (by decide) _ _ _ _ _ _ _ _ _ _ h.2))
      case lstore_n =>
        have e : len = 1 := by simpa [zlen, eq_comm] using hlen
        subst e
        replace h := zpl_e h
        obtain ⟨x, S1, rfl, h⟩ := h
        exact z_lstore_n (zblt h.1) d (Z_mono (zset2_lo _ _ _) (nx 1 rfl (by decide) _ _ _ _ _ _ _ _ _ _ h.2))
      case lsub =>
        have e : len = 1 := by simpa [zlen, eq_comm] using hlen
        subst e
        replace h := zpl_e h
        obtain ⟨y, S1, rfl, h⟩ := h
        replace h := zpl_e h
        obtain ⟨x, S2, rfl, h⟩ := h
        exact z_lsub d (nx 1 rfl (by decide) _ _ _ _ _ _ _ _ _ _ h)
      case lushr =>
        exact h
      case lxor =>
        exact h
      case monitorenter =>
        exact h
      case monitorexit =>
        exact h
      case multianewarray =>
        exact h
      case new =>
        have e : len = 3 := by simpa [zlen, eq_comm] using hlen
        subst e
        rename_i ix9
        rcases hf : zcl (zcN mi) ix9 with _ | ci
        · simp only [hf] at h; try exact h.elim
        · simp only [hf] at h
          exact z_new hf (Nat.le_of_ble_eq_true h.1.1) (Nat.le_of_ble_eq_true h.1.2) d (nx 3 rfl (by decide) _ _ _ _ _ _ _ _ _ _ h.2)
      case newarray =>
        have e : len = 2 := by simpa [zlen, eq_comm] using hlen
        subst e
        rename_i at9
        rcases hf : zak at9 with _ | kd
        · simp only [hf] at h; try exact h.elim
        · simp only [hf] at h
          replace h := zpi_e h
          obtain ⟨n, S1, rfl, a, ⟨rfl, ha, h1, h2⟩, h⟩ := h
          have ha' := Nat.le_of_ble_eq_true ha
          have hcl : (nI a).toNatClampNeg = a := nI_clamp (by omega)
          refine z_newa hf (nI_pos (by omega)) (by rw [hcl]; omega) (Nat.le_of_ble_eq_true h1) (by rw [hcl]; exact Nat.le_of_ble_eq_true h2) ?_ d (by rw [hcl]; exact nx 2 rfl (by decide) _ _ _ _ _ _ _ _ _ _ h)
          unfold zak at hf
          generalize newarray.typeOf at9 = ty at hf ⊢
          cases ty <;> first | (cases hf; done) | exact zac_int | exact zac_long | exact zac_boolean | exact zac_byte
      case nop =>
        exact h
      case pop =>
        have e : len = 1 := by simpa [zlen, eq_comm] using hlen
        subst e
        replace h := zp1_e h
        obtain ⟨v, S1, rfl, hv, h⟩ := h
        exact z_pop hv d (nx 1 rfl (by decide) _ _ _ _ _ _ _ _ _ _ h)
      case pop2 =>
        exact h
      case putfield =>
        have e : len = 3 := by simpa [zlen, eq_comm] using hlen
        subst e
        rename_i ix9
        rcases hf : zfr (zcN mi) ix9 with _ | ⟨ci, k, t, fin⟩
        · simp only [hf] at h; try exact h.elim
        · simp only [hf] at h
          obtain ⟨hfin, h⟩ := h
          have hfin : fin = false ∨ (zini mi = true ∧ zcN mi = ci) := by
            cases fin
            · exact Or.inl rfl
            · simp only [Bool.not_true, Bool.false_or, Bool.and_eq_true] at hfin
              exact Or.inr ⟨hfin.1, Nat.eq_of_beq_eq_true hfin.2⟩
          split at h
          · replace h := zpi_e h
            obtain ⟨v, S1, rfl, h⟩ := h
            replace h := zpn_e h
            obtain ⟨n, S2, rfl, hK, h⟩ := h
            exact z_putI hf (Or.inl rfl) hK hfin d (nx 3 rfl (by decide) _ _ _ _ _ _ _ _ _ _ h)
          · replace h := zpl_e h
            obtain ⟨v, S1, rfl, h⟩ := h
            replace h := zpn_e h
            obtain ⟨n, S2, rfl, hK, h⟩ := h
            exact z_putJ hf rfl hK hfin d (nx 3 rfl (by decide) _ _ _ _ _ _ _ _ _ _ h)
          · replace h := zpr_e h
            obtain ⟨v, S1, rfl, h⟩ := h
            replace h := zpn_e h
            obtain ⟨n, S2, rfl, hK, h⟩ := h
            exact z_putR hf rfl hK hfin d (nx 3 rfl (by decide) _ _ _ _ _ _ _ _ _ _ h)
          · replace h := zpi_e h
            obtain ⟨v, S1, rfl, h⟩ := h
            replace h := zpn_e h
            obtain ⟨n, S2, rfl, hK, hv, h⟩ := h
            exact z_putI hf (Or.inr ⟨rfl, hv⟩) hK hfin d (nx 3 rfl (by decide) _ _ _ _ _ _ _ _ _ _ h)
          · exact h.elim
      case putstatic =>
        exact h
      case ret =>
        exact h
      case return_ =>
        have e : len = 1 := by simpa [zlen, eq_comm] using hlen
        subst e
        dsimp only at h
        split at h
        · obtain ⟨⟨h1, h2⟩, hr, h⟩ := h
          exact z_vret hr (Nat.le_of_ble_eq_true h1) (Nat.le_of_ble_eq_true h2) d (h trivial)
        · exact h.elim
      case saload =>
        exact h
      case sastore =>
        exact h
      case sipush =>
        have e : len = 3 := by simpa [zlen, eq_comm] using hlen
        subst e
        exact z_sipush d (nx 3 rfl (by decide) _ _ _ _ _ _ _ _ _ _ h)
      case swap =>
        exact h
      case tableswitch =>
        replace h := zpi_e h
        obtain ⟨x, S1, rfl, ⟨hlen2, hd, ho⟩, h1, h2⟩ := h
        rename_i dflt low hi offs
        by_cases hx : x.toInt < low ∨ hi < x.toInt
        · exact z_swOut d hx hd (jp _ _ _ _ _ _ _ _ _ _ _ (h1 hx))
        · have hj : (x.toInt - low).toNat < offs.toList.length := by omega
          have hg : offs[(x.toInt - low).toNat]? = some (offs.toList[(x.toInt - low).toNat]) := by rw [← Array.getElem?_toList]; exact List.getElem?_eq_getElem hj
          exact z_swIn d (by omega) (by omega) hg (ho _ (List.getElem_mem hj)) (jp _ _ _ _ _ _ _ _ _ _ _ (zsw_e _ _ _ h2 _ _ (List.getElem?_eq_getElem hj) (by omega)))
    · rw [hcut, cond_true] at h
      exact h
theorem z_run (hw : zwf mi tb) (cuts : List Nat) (f : Nat) {pc : Nat} {lo : zLs} {S : List Value} {K N : Nat → Nat} {I : Nat → Nat → Int32} {J : Nat → Nat → Int64} {R : Nat → Nat → Option Nat} {nx0 kc ks : Nat} (h : zrn l G mi Q PX tb cuts f false (zfrom tb pc) lo S K N I J R nx0 kc ks) : Z l G mi Q PX pc (zLo lo) S (K, N, I, J, R, nx0) kc ks := by
  rcases hr : zfrom tb pc with _ | ⟨⟨p', i', n'⟩, t'⟩
  · rw [hr] at h
    cases f <;> exact h.elim
  · have hh := zfrom_head tb pc _ _ hr
    dsimp only at hh
    subst hh
    exact zrn_ok hw f false _ lo S K N I J R nx0 kc ks (zfrom_suf tb p') h p' ⟨i', n', t', hr⟩
def zl0 : List Value → zLs
  | [] => []
  | v :: t => (match v with
    | .long _ => [some v, none]
    | .double _ => [some v, none]
    | _ => [some v]) ++ zl0 t
def zpad : Nat → zLs → zLs
  | 0, _ => []
  | n + 1, [] => none :: zpad n []
  | n + 1, x :: t => x :: zpad n t
theorem zpad_lo : ∀ (n : Nat) (t : zLs) (j : Nat) (v : Value), zLo (zpad n t) j = some v → zLo t j = some v
  | 0, t, j, v, h => by simp [zpad, zLo] at h
  | n + 1, [], 0, v, h => by simp [zpad, zLo] at h
  | n + 1, [], j + 1, v, h => by
    have h' : zLo (zpad n []) j = some v := by simpa [zpad, zLo] using h
    simpa [zLo] using zpad_lo n [] j v h'
  | n + 1, x :: t, 0, v, h => by simpa [zpad, zLo] using h
  | n + 1, x :: t, j + 1, v, h => by
    have h' : zLo (zpad n t) j = some v := by simpa [zpad, zLo] using h
    simpa [zLo] using zpad_lo n t j v h'
theorem zl0_lo : ∀ (vs : List Value) (i : Nat) (L : Nat → Option Value), zlv L i vs → ∀ j v, zLo (zl0 vs) j = some v → L (i + j) = some v
  | [], i, L, _, j, v, h => by simp [zl0, zLo] at h
  | w :: vs, i, L, hl, j, v, h => by
    obtain ⟨h1, h2⟩ := hl
    have ih := fun a b c => zl0_lo vs a L b c v
    cases w
    case long x =>
      rcases j with _ | _ | j
      · have : some (Value.long x) = some v := by simpa [zl0, zLo] using h
        rw [← this]; exact h1
      · simp [zl0, zLo] at h
      · have := ih (i + 2) h2 j (by simpa [zl0, zLo] using h)
        rw [show i + (j + 1 + 1) = i + 2 + j by omega]; exact this
    case double x =>
      rcases j with _ | _ | j
      · have : some (Value.double x) = some v := by simpa [zl0, zLo] using h
        rw [← this]; exact h1
      · simp [zl0, zLo] at h
      · have := ih (i + 2) h2 j (by simpa [zl0, zLo] using h)
        rw [show i + (j + 1 + 1) = i + 2 + j by omega]; exact this
    all_goals
      rcases j with _ | j
      · have := h
        simp only [zl0, zLo, List.cons_append, List.nil_append, List.getElem?_cons_zero, Option.getD_some] at this
        rw [← this]; exact h1
      · have := ih (i + 1) h2 j (by simpa [zl0, zLo] using h)
        rw [show i + (j + 1) = i + 1 + j by omega]; exact this
/-- from the entry -/
theorem z_go (hG : zOK l G) (hw : zwf mi tb) (cuts : List Nat) (f : Nat) {As : List Value} {K N : Nat → Nat} {I : Nat → Nat → Int32} {J : Nat → Nat → Int64} {R : Nat → Nat → Option Nat} {nx0 : Nat} (hst : (Nat.ble (lg_sl As).length (zmaxL mi) && (zy mi).cls == zRn (zcN mi) && (!zini mi || (zy mi).name == "<init>") && plainName (zy mi).cls) = true) (h : zrn l G mi Q (fun _ _ => False) tb cuts f false tb (zpad (zmaxL mi) (zl0 As)) [] K N I J R nx0 0 0) (htb : ∃ i n t, tb = (0, i, n) :: t) : zRuns l G mi As (K, N, I, J, R, nx0) Q := by
  simp only [Bool.and_eq_true, Bool.or_eq_true, Bool.not_eq_true', beq_iff_eq] at hst
  obtain ⟨⟨⟨h1, h2⟩, h3⟩, h4⟩ := hst
  refine z_start hG h4 h2 (fun hi => ?_) (Nat.le_of_ble_eq_true h1) fun L hL => ?_
  · rcases h3 with h3 | h3
    · rw [hi] at h3; cases h3
    · exact h3
  · refine Z_mono (fun i v hi => ?_) (zrn_ok hw f false tb _ [] K N I J R nx0 0 0 ⟨[], rfl⟩ h 0 htb)
    have := zl0_lo As 0 L hL i v (zpad_lo _ _ i v hi)
    rwa [Nat.zero_add] at this
end
