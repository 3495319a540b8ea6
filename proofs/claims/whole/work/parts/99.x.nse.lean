section
variable {l : Launch} {G : zG} {mi : zMI} {Q : zPo} {PX : String → zS → Prop} {pc kc ks : Nat} {L : Nat → Option Value} {S : List Value} {σ : zS}
theorem z_throwN {ik j ic : Nat} (hS : zST G) (hT : zTH G) (hj : j < 16) (hc : zRn (zcN mi) = RX10) (hown : RX10 = zOw j)
    (d0 : decode (zcode mi) pc = .ok (.new ik, 3)) (d3 : decode (zcode mi) (pc + 3) = .ok (.dup, 1)) (d4 : decode (zcode mi) (pc + 4) = .ok (.ldc (zEn j), 2)) (d6 : decode (zcode mi) (pc + 6) = .ok (.invokespecial ic, 3)) (d9 : decode (zcode mi) (pc + 9) = .ok (.athrow, 1))
    (hfr : 5 < zd mi) (hlc : 8 + 82 ≤ 36 * zd mi) (hsum : (S.map fun v => v.category).sum ≤ 8) (hkc : kc + 1 ≤ zmc mi) (hks : ks + 6 ≤ zms mi) (hX : ∀ k, PX zNs (zK σ k)) (hik : ik = 171) (hic : ic = 175) : Z l G mi Q PX pc L S σ kc ks := by
  sorry
end
