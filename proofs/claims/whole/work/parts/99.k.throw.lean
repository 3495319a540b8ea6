def zIo : String := "java/lang/IndexOutOfBoundsException"
def zNs : String := "java/util/NoSuchElementException"
def zNm : List String := ["java/lang/RuntimeException", "java/lang/Exception"]
def zTH (G : zG) : Prop := vx_Zq Bundle.tN "UNASSIGNED_STACK" Bundle.steD (zfree G) (zs0 G) (zs0 G).heap ∧ vx_Zq Bundle.tN "SUPPRESSED_SENTINEL" Bundle.listD (zfree G) (zs0 G) (zs0 G).heap
/-- a word that goes over to warmer tables -/
def zgw (w : Cond) : Bool := goodWord w || (match w with
  | .declares _ => true
  | .castable _ _ => true
  | _ => false)
set_option maxRecDepth 100000 in
theorem zth_io : ∀ w ∈ vx_atS RX10 165 zIo zNm, zgw w = true ∧ w ∈ lw_tbl := by decide +kernel
theorem zgw_at {l : Launch} {G : zG} (hG : zOK l G) {s : State} (hW : (zs0 G).WarmedH s.vm) {w : Cond} (hm : w ∈ lw_tbl) (hg : zgw w = true) (a : Array Value) : w.before a s = true := by
  unfold zgw at hg
  rcases Bool.or_eq_true _ _ |>.mp hg with h | h
  · exact zw hG hW hm h a
  · have h0 := hG.1 w hm
    cases w <;> first | (simp at h; done) | skip
    · exact va_tabs rfl (show ((zs0 G).setVm s.vm).vm = s.vm from rfl) (by rw [Cond.declares_setVm hW.alike]; exact h0)
    · exact va_tabs rfl (show ((zs0 G).setVm s.vm).vm = s.vm from rfl) (by rw [Cond.castable_setVm hW.alike]; exact h0)
theorem zgw_ot {w : Cond} (hg : zgw w = true) : vx_ot w = true := by
  unfold zgw at hg
  simp only [vx_ot, Bool.or_eq_true]
  rcases Bool.or_eq_true _ _ |>.mp hg with h | h
  · exact Or.inr h
  · cases w <;> first | (simp at h; done) | exact Or.inl rfl
set_option maxRecDepth 100000 in
theorem zth_l : Cond.classLink RX10 161 zIo ∈ lw_tbl ∧ Cond.classLink RX10 171 zNs ∈ lw_tbl ∧ Cond.initialized zIo ∈ lw_tbl ∧ Cond.initialized zNs ∈ lw_tbl := by decide +kernel
def zK (σ : zS) (k : Nat) : zS := (σ.1, σ.2.1, σ.2.2.1, σ.2.2.2.1, σ.2.2.2.2.1, σ.2.2.2.2.2 + k)
theorem zR_more {G : zG} {σ : zS} {H H1 : Heap} (h : zR G σ H) (hz : H.size ≤ H1.size) (hq : ∀ q : Nat, q < H.size → H1[q]? = H[q]?) : zR G (zK σ (H1.size - H.size)) H1 := by
  obtain ⟨⟨a1, a2, a3, a4⟩, h2, h3, h4⟩ := h
  have had : ∀ n, σ.1 n < 20 → zad G n < H.size := fun n hn => by
    have h32 : ¬ n < 32 := fun q => by have := a4 n q; omega
    have hnx : n < σ.2.2.2.2.2 := Nat.lt_of_not_le fun q => by have := a3 n q; omega
    unfold zad
    rw [if_neg h32]
    omega
  refine ⟨⟨?_, ?_, ?_, a4⟩, fun n hn => ?_, fun n hn1 hn2 => ?_, fun q hlt => ?_⟩
  · show 32 ≤ σ.2.2.2.2.2 + _
    omega
  · show H1.size = zbase G + (σ.2.2.2.2.2 + (H1.size - H.size) - 32)
    omega
  · intro n hn
    exact a3 n (Nat.le_trans (Nat.le_add_right _ _) hn)
  · obtain ⟨cell, g1, g2⟩ := h2 n hn
    refine ⟨cell, ?_, g2⟩
    rw [hq _ (had n (Nat.lt_trans hn (by decide)))]
    exact g1
  · rw [hq _ (had n hn2)]
    exact h3 n hn1 hn2
  · have : q < H.size := by omega
    rw [hq q this]
    exact h4 q hlt
section
variable {l : Launch} {G : zG} {mi : zMI} {Q : zPo} {PX : String → zS → Prop} {pc kc ks : Nat} {L : Nat → Option Value} {S : List Value} {σ : zS}
theorem z_throwS {cls : String} {names : List String} {ik j ic : Nat} (hS : zST G) (hT : zTH G) (hj : j < 16) (hown : zRn (zcN mi) = zOw j) (hcls : Bundle.fit cls = true) (hnames : ∀ n ∈ names, Bundle.fit n = true) (hk : Cond.classLink (zRn (zcN mi)) ik cls ∈ lw_tbl) (hini : Cond.initialized cls ∈ lw_tbl) (hgk : goodWord (Cond.classLink (zRn (zcN mi)) ik cls) = true) (hgi : goodWord (Cond.initialized cls) = true) (hw : ∀ w ∈ vx_atS (zRn (zcN mi)) ic cls names, zgw w = true ∧ w ∈ lw_tbl)
    (d0 : decode (zcode mi) pc = .ok (.new ik, 3)) (d3 : decode (zcode mi) (pc + 3) = .ok (.dup, 1)) (d4 : decode (zcode mi) (pc + 4) = .ok (.ldc (zEn j), 2)) (d6 : decode (zcode mi) (pc + 6) = .ok (.invokespecial ic, 3)) (d9 : decode (zcode mi) (pc + 9) = .ok (.athrow, 1))
    (hfr : names.length + 3 < zd mi) (hlc : 8 + (13 * (names.length + 1) + 43) ≤ 36 * zd mi) (hsum : (S.map fun v => v.category).sum ≤ 8) (hkc : kc + 1 ≤ zmc mi) (hks : ks + 6 ≤ zms mi) (hX : ∀ k, PX cls (zK σ k)) : Z l G mi Q PX pc L S σ kc ks := by
  intro p e s m args below meth c C H locs ls hR hz hlo hL
  have e1 : ((S.map (zcv G)).map fun v => v.category) = S.map fun v => v.category := by
    rw [List.map_map]
    exact List.map_congr_left fun v _ => z_cat G v
  refine vx_throwS (A := zfree G) C.1.1 C.1.2.1 C.2.1.2.2.1 C.1.2.2.2.2.1 hcls hnames (zw C.2.1 C.2.2.1 hk hgk args) (zw C.2.1 C.2.2.1 hini hgi args) (by rw [hown]; exact (hS.2.2.2 j hj).warm C.2.2.1) (fun w hw' => zgw_at C.2.1 C.2.2.1 (hw w hw').2 (hw w hw').1 args) ?_ ((hT.1.moved C.2.2.1.alike).kept (z_jK C)) ((hT.2.moved C.2.2.1.alike).kept (z_jK C)) (z_jS C hR hz hlo) (by rw [C.1.2.2.1]; exact hL.1) d0 d3 d4 d6 d9 (fun x hx => absurd hx (fun h => C.1.2.2.2.2.2.2 x h)) hfr ?_ hkc hks C.1.2.2.2.2.2.1 (fun t _ h1 h2 => ?_) hlo hkc hks
  · intro w hw'
    rcases List.mem_cons.mp hw' with h | h
    · rw [h]; simp only [vx_ot, Bool.or_eq_true]; exact Or.inr hgk
    · rcases List.mem_cons.mp h with h | h
      · rw [h]; simp only [vx_ot, Bool.or_eq_true]; exact Or.inr hgi
      · exact zgw_ot (hw w h).1
  · rw [e1]
    show _ ≤ 36 * zd mi
    omega
  · refine ⟨Nat.le_trans hz h1, zK σ (t.heap.size - H.size), zR_more hR h1 h2, hX _⟩
end
