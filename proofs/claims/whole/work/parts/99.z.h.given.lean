def sTm (j : Nat) : Term := .string (zOw j) (zEn j)
def sFv (j : Nat) : Term := .field (sTm j) "java/lang/String" "value" "[B"
def gvF : List Cond := flatC (Jvm.Cond.and given_1 narrow_1)
set_option maxRecDepth 100000 in
theorem gv_s : ∀ j, j < 16 → Cond.exactly (sTm j) "java/lang/String" ∈ gvF := by decide +kernel
set_option maxRecDepth 100000 in
theorem gv_c : ∀ j, j < 12 → Cond.eq (.field (sTm j) "java/lang/String" "coder" "B") (.int 0) ∈ gvF := by decide +kernel
set_option maxRecDepth 100000 in
theorem gv_a : ∀ j, j < 12 → Cond.arrayOf (sFv j) .byte ∈ gvF := by decide +kernel
set_option maxRecDepth 100000 in
theorem gv_l : ∀ j, j < 12 → Cond.eq (.length (sFv j)) (.int (Int32.ofNat (wL j))) ∈ gvF := by decide +kernel
set_option maxRecDepth 100000 in
theorem gv_e : ∀ j, j < 12 → ∀ k, k < wL j → Cond.eq (.elem (sFv j) (.int (Int32.ofNat k))) (.int (sBy j k)) ∈ gvF := by decide +kernel
set_option maxRecDepth 100000 in
theorem gv_n : ∀ j, j < 12 → wL j < 2 ^ 31 := by decide +kernel
set_option maxRecDepth 100000 in
theorem gv_o : Cond.eq (.static "java/lang/String" "COMPACT_STRINGS" "Z") (.int 1) ∈ gvF ∧ Cond.isRef (.static "jdk/internal/util/Preconditions" "SIOOBE_FORMATTER" "Ljava/util/function/BiFunction;") ∈ gvF ∧ Cond.isRef (.static Bundle.tN "UNASSIGNED_STACK" Bundle.steD) ∈ gvF ∧ Cond.isRef (.static Bundle.tN "SUPPRESSED_SENTINEL" Bundle.listD) ∈ gvF := by decide +kernel
set_option maxRecDepth 100000 in
theorem gt_s : ∀ j, j < 16 → Cond.stringRef (zOw j) (zEn j) (zTx j) ∈ lw_tbl := by decide +kernel
set_option maxRecDepth 100000 in
theorem gt_o : (Cond.laysStatic "java/lang/String" "COMPACT_STRINGS" "Z" ∈ lw_tbl ∧ Cond.initialized "java/lang/String" ∈ lw_tbl) ∧ (Cond.laysStatic "jdk/internal/util/Preconditions" "SIOOBE_FORMATTER" "Ljava/util/function/BiFunction;" ∈ lw_tbl ∧ Cond.initialized "jdk/internal/util/Preconditions" ∈ lw_tbl) ∧ (Cond.laysStatic Bundle.tN "UNASSIGNED_STACK" Bundle.steD ∈ lw_tbl ∧ Cond.laysStatic Bundle.tN "SUPPRESSED_SENTINEL" Bundle.listD ∈ lw_tbl ∧ Cond.initialized Bundle.tN ∈ lw_tbl) := by decide +kernel
set_option maxRecDepth 100000 in
theorem gt_a : (Cond.arrayClass .byte ∈ lw_tbl ∧ Cond.arrayClass .int ∈ lw_tbl ∧ Cond.arrayClass .long ∈ lw_tbl ∧ Cond.arrayClass .boolean ∈ lw_tbl) ∧ Cond.arrayOver (.object RX0) ∈ lw_tbl ∧ Cond.arrayOver (.object RX1) ∈ lw_tbl ∧ Cond.arrayOver (.object RX3) ∈ lw_tbl ∧ Cond.arrayOver (.object RX7) ∈ lw_tbl := by decide +kernel
set_option maxRecDepth 100000 in
theorem gt_i : ∀ c, c < 12 → Cond.instantiable (zRn c) (zNf c) ∈ lw_tbl := by decide +kernel
theorem zA_prim {args : Array Value} {s : State} {ty : FieldType} (h : (Cond.arrayClass ty).before args s = true) : ∃ cA, ArrOfT s cA ty ∧ s.vm.findClass ("[" ++ ty.toString) = some cA := by
  obtain ⟨cA, kA, comp, h1, h2, h3⟩ := Cond.arrayClass_spec h
  exact ⟨cA, fun n z => ⟨fun k h => (by cases h), kA, h2, comp, h3⟩, h1⟩
theorem zA_obj {args : Array Value} {s : State} {C : String} (h : (Cond.arrayOver (.object C)).before args s = true) : ∃ cA, ArrOfT s cA (.object C) ∧ va_RA s cA (.object C) := by
  obtain ⟨comp, c, k, h1, h2, h3, h4, h5⟩ := Cond.arrayOver_spec h
  exact ⟨c, fun n z => ⟨fun k h => (by cases h), k, h3, comp, h4⟩, k, comp, h3, h4, h1, h5⟩
/-- what the Statement gives of the start, as the machine has it -/
theorem zG_of (l : Launch) (hl : l.stackTraces = false) {s : State} {b L : Nat} {xs : Nat → Int32} (hL : L ≤ 3072) (hts : ∀ w ∈ lw_tbl, w.before #[Value.ref b] s = true) (hX : va_X b L xs s s.heap) (hbl : b < s.heap.size) (hgv : (Jvm.Cond.and given_1 narrow_1).before #[Value.ref b] s = true) : ∃ G : zG, zs0 G = s ∧ zaS G 16 = b ∧ zOK l G ∧ zST G ∧ zTH G ∧ zSc G L xs := by
  have hA : ∀ a : Nat, a < s.heap.size → ¬ s.heap.size ≤ a := fun a h => by omega
  have hs : ∀ c ∈ gvF, c.before #[Value.ref b] s = true := flat_of_before _ hgv
  have hcl : ∀ k : Nat, ∃ x : ClassId × (Nat → Nat), ∀ q, vwCl[k]? = some q → u_Kn s q.1 q.2.1 q.2.2 x.1 x.2 := by
    intro k
    rcases hq : vwCl[k]? with _ | q
    · exact ⟨((0 : Nat), fun _ => 0), fun q h => by cases h⟩
    · have hn := z_nf k q hq
      have hi := gt_i k hn.1
      rw [← hn.2.2.2.2.2, ← hn.2.1] at hi
      obtain ⟨c, iS, h⟩ := u_known (C := q.1) (T := q.2.1) (N := q.2.2) (n := q.2.2) hts (z_lay k q hq) (hts _ hi)
      exact ⟨(c, iS), fun q' h' => by cases h'; exact h⟩
  obtain ⟨d, hd⟩ := Classical.axiomOfChoice hcl
  obtain ⟨a12, p12, q12⟩ := zA_prim (hts _ gt_a.1.1)
  obtain ⟨a13, p13, q13⟩ := zA_prim (hts _ gt_a.1.2.1)
  obtain ⟨a14, p14, q14⟩ := zA_prim (hts _ gt_a.1.2.2.1)
  obtain ⟨a15, p15, q15⟩ := zA_prim (hts _ gt_a.1.2.2.2)
  obtain ⟨a16, p16, q16⟩ := zA_obj (hts _ gt_a.2.1)
  obtain ⟨a17, p17, q17⟩ := zA_obj (hts _ gt_a.2.2.1)
  obtain ⟨a18, p18, q18⟩ := zA_obj (hts _ gt_a.2.2.2.1)
  obtain ⟨a19, p19, q19⟩ := zA_obj (hts _ gt_a.2.2.2.2)
  have hst : ∀ j : Nat, ∃ q : Nat × Nat, (j < 16 → (sTm j).eval #[Value.ref b] s none [] s = some (.ref q.1)) ∧ (j < 12 → va_O "java/lang/String" q.1 (fun a => s.heap.size ≤ a) s s.heap ∧ va_OF "java/lang/String" "coder" "B" (.int 0) q.1 (fun a => s.heap.size ≤ a) s s.heap ∧ va_OF "java/lang/String" "value" "[B" (.ref q.2) q.1 (fun a => s.heap.size ≤ a) s s.heap ∧ va_T .byte q.2 (wL j) (fun k => .int (sBy j k)) (fun a => s.heap.size ≤ a) s s.heap) := by
    intro j
    by_cases hj : j < 16
    · obtain ⟨a, c, cA, kA, q1, q2, q3, q4, q5, q6, -⟩ := Cond.exactly_spec (args := #[Value.ref b]) (first := s) (o := none) (s := s) (idx := []) (t := sTm j) (cls := "java/lang/String") (hs _ (gv_s j hj))
      by_cases hj2 : j < 12
      · obtain ⟨t, ht, hT⟩ := va_Tof (f := fun k => .int (sBy j k)) (A := fun a => s.heap.size ≤ a) (gv_n j hj2) (hs _ (gv_a j hj2)) (va_eqt (hs _ (gv_l j hj2))) (fun k hk => va_eqt (hs _ (gv_e j hj2 k hk))) hA
        exact ⟨(a, t), fun _ => q1, fun _ => ⟨⟨cA, q3, q5, by rw [q6]; exact q2, hA a (Array.getElem?_eq_some_iff.mp q3).1⟩, vk_OFof q1 (va_eqt (hs _ (gv_c j hj2))) hA, vk_OFof q1 ht hA, hT⟩⟩
      · exact ⟨(a, 0), fun _ => q1, fun h => absurd h hj2⟩
    · exact ⟨(0, 0), fun h => absurd h hj, fun h => absurd h (by omega)⟩
  obtain ⟨st, hst⟩ := Classical.axiomOfChoice hst
  obtain ⟨tF, hF⟩ : ∃ t : Nat, va_Z "jdk/internal/util/Preconditions" "SIOOBE_FORMATTER" "Ljava/util/function/BiFunction;" .null (fun a => s.heap.size ≤ a) s s.heap ∨ va_Z "jdk/internal/util/Preconditions" "SIOOBE_FORMATTER" "Ljava/util/function/BiFunction;" (.ref t) (fun a => s.heap.size ≤ a) s s.heap := by
    rcases va_Zqof (A := fun a => s.heap.size ≤ a) (hts _ gt_o.2.1.1) (hts _ gt_o.2.1.2) (hs _ gv_o.2.1) hA with h | ⟨t, h⟩
    · exact ⟨0, Or.inl h⟩
    · exact ⟨t, Or.inr h⟩
  obtain ⟨aS, hAS⟩ : ∃ aS : Nat → Nat, aS = fun j => if j < 16 then (st j).1 else if j = 16 then b else if j < 29 then (st (j - 17)).2 else tF := ⟨_, rfl⟩
  have e1 : ∀ j, j < 16 → aS j = (st j).1 := fun j h => by rw [hAS]; exact if_pos h
  have e2 : ∀ j, j < 12 → aS (17 + j) = (st j).2 := fun j h => by
    rw [hAS]
    show (if 17 + j < 16 then _ else if 17 + j = 16 then _ else if 17 + j < 29 then (st (17 + j - 17)).2 else _) = _
    rw [if_neg (by omega), if_neg (by omega), if_pos (by omega), Nat.add_sub_cancel_left]
  have e3 : aS 16 = b := by rw [hAS]; rfl
  have e4 : aS 29 = tF := by rw [hAS]; rfl
  clear hAS
  refine ⟨(s, fun k => (d k).1, fun k => (d k).2, fun n => [a12, a13, a14, a15, a16, a17, a18, a19].getD (n - 12) a12, aS), rfl, e3, ⟨?_, ⟨fun c q h => hd c q h, ?_⟩, hl, ?_⟩, ⟨?_, ?_, ?_, ?_⟩, ⟨?_, ?_⟩, hL, ?_⟩
  · show ∀ w ∈ lw_tbl, w.before #[Value.ref (aS 16)] s = true
    rw [e3]; exact hts
  · intro k q hk
    match k, hk with
    | 0, hk => cases hk; exact ⟨p12, q12⟩
    | 1, hk => cases hk; exact ⟨p13, q13⟩
    | 2, hk => cases hk; exact ⟨p14, q14⟩
    | 3, hk => cases hk; exact ⟨p15, q15⟩
    | 4, hk => cases hk; exact ⟨p16, q16⟩
    | 5, hk => cases hk; exact ⟨p17, q17⟩
    | 6, hk => cases hk; exact ⟨p18, q18⟩
    | 7, hk => cases hk; exact ⟨p19, q19⟩
    | n + 8, hk => simp [zTys] at hk
  · show (Jvm.Cond.and given_1 narrow_1).before #[Value.ref (aS 16)] s = true
    rw [e3]; exact hgv
  · exact va_Zof (hts _ gt_o.1.1) (hts _ gt_o.1.2) (va_eqt (hs _ gv_o.1)) hA
  · intro j hj
    obtain ⟨h1, h2, h3, h4⟩ := (hst j).2 hj
    show va_O "java/lang/String" (aS j) _ s s.heap ∧ va_OF "java/lang/String" "coder" "B" (.int 0) (aS j) _ s s.heap ∧ va_OF "java/lang/String" "value" "[B" (.ref (aS (17 + j))) (aS j) _ s s.heap ∧ va_T .byte (aS (17 + j)) (wL j) (fun k => .int (sBy j k)) _ s s.heap
    rw [e1 j (by omega), e2 j hj]
    exact ⟨h1, h2, h3, h4⟩
  · show _ ∨ va_Z "jdk/internal/util/Preconditions" "SIOOBE_FORMATTER" "Ljava/util/function/BiFunction;" (.ref (aS 29)) _ s s.heap
    rw [e4]; exact hF
  · intro j hj
    show vk_R (zOw j) (zEn j) (zTx j) (aS j) s
    rw [e1 j hj]
    exact vk_R.of (hts _ (gt_s j hj)) ((hst j).1 hj)
  · exact vx_Zqof (hts _ gt_o.2.2.1) (hts _ gt_o.2.2.2.2) (hs _ gv_o.2.2.1) hA
  · exact vx_Zqof (hts _ gt_o.2.2.2.1) (hts _ gt_o.2.2.2.2) (hs _ gv_o.2.2.2) hA
  · obtain ⟨scr, h1, h2, h3, h4, h5⟩ := hX
    show va_T .int (aS 16) L (fun k => .int (xs k)) _ s s.heap
    rw [e3]
    exact ⟨scr, h1, h2, h3, by omega, by rw [h4], fun j hj => h5 j hj, hA b hbl⟩
