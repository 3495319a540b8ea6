/-! What both sides compute, as plain functions. -/
def sMid (lo hi d : Int32) : Int32 := if d < lo then lo else if hi < d then hi else d
def sLost (n a b d : Int32) : Int32 := if n = 0 then 0 else if n = 1 then a else if n = 2 then (if a < b then a else b) else sMid (if a < b then a else b) (if a < b then b else a) d
/-- of the first n: the last of those with P whose fr is greatest -/
def sB (P : Nat → Bool) (fr : Nat → Int32) : Nat → Option Nat
  | 0 => none
  | n + 1 => if P n = true ∧ (∀ b, sB P fr n = some b → fr b ≤ fr n) then some n else sB P fr n
def sE (o : Option Nat) : Int32 := match o with
  | none => -1
  | some b => nI b
theorem sB_lt {P : Nat → Bool} {fr : Nat → Int32} : ∀ {n b : Nat}, sB P fr n = some b → b < n
  | 0, b, h => by cases h
  | n + 1, b, h => by
    unfold sB at h
    split at h
    · cases h; omega
    · have := sB_lt h; omega
theorem sB_in {P : Nat → Bool} {fr : Nat → Int32} : ∀ {n b : Nat}, sB P fr n = some b → P b = true
  | 0, b, h => by cases h
  | n + 1, b, h => by
    unfold sB at h
    split at h
    · rename_i h1
      cases h; exact h1.1
    · exact sB_in h
theorem zi1 (k : Nat) : nI k + Int32.ofInt 1 = nI (k + 1) := nI_1 k
def sP (I : Nat → Nat → Int32) (f w d kn : Int32) : Nat → Bool := fun k => decide (I 63 k = f ∧ I 64 k = w ∧ I 65 k ≤ d ∧ I 66 k ≤ kn)
def sCounts (I : Nat → Nat → Int32) (n : Nat) (f w d kn : Int32) : Int32 := match sB (sP I f w d kn) (I 65) n with
  | none => 0
  | some b => I 67 b
theorem zvn {i : Int32} {n : Nat} (h : vp_in i n) : vp_in i n := h
def sW (I : Nat → Nat → Int32) (q : Nat) (d kn : Int32) : Nat → Bool := fun t => decide (¬ I 56 (18 * t + q) = 0 ∧ I 53 t ≤ d ∧ I 54 t ≤ kn ∧ ¬ (0 ≤ I 55 t ∧ I 55 t ≤ kn))
def sKey (w : Nat) : Nat := if w < 12 then w else if w < 14 then 12 else w - 1
def sSays (I : Nat → Nat → Int32) (n w d : Nat) (kn : Int32) : Int32 := match sB (sW I (sKey w) (nI d) kn) (I 53) n with
  | none => if w < 4 then 1 else if w < 8 then 100 else if w < 12 then 1 else 0
  | some t => if w < 8 ∧ 4 ≤ w then I 59 (48 * t + 12 * (w - 4) + d / 30 % 12) else if 8 ≤ w ∧ w < 12 then 0 else if w = 13 then I 58 t else I 57 (18 * t + sKey w)
