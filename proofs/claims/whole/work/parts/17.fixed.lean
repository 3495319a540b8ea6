/-! The cells that stay: names 32 to 84 (tools/mkfix.py). 32 FireMutual, 33 Reader, 34 Tape, 35 its bytes, 36 numbers, 37 Statutes, 38 texts, 39 farms, 40 fires, 41 Parts, 42 its coins, 43 Shares, 44 weights, 45 coins, 46 cutOff, 47 Ledger, 48 fires, 49 farms, 50 changes, 51 the model, 52 tape, 53 from, 54 voted, 55 undone, 56 has, 57 number, 58 less, 59 season, 60 lines, 61 kin, 62 came, 63 nFarm, 64 nWhat, 65 nFrom, 66 nTold, 67 nValue, 68 fFarm, 69 fDay, 70 fJudges, 71 fClosed, 72 fJudge, 73 said, 74 done, 75 accounts, 76 bookFire, 77 bookFarm, 78 bookMore, 79 words, 80 parts, 81 calls, 82 weights, 83 lostBy, 84 out. -/
def zix {α : Type} : List α → Nat → α → α
  | [], _, d => d
  | x :: _, 0, _ => x
  | _ :: t, n + 1, d => zix t n d
def zKT : List Nat := [10, 5, 9, 12, 13, 8, 19, 16, 17, 4, 14, 6, 14, 14, 14, 2, 13, 13, 14, 11, 13, 13, 13, 13, 15, 13, 13, 13, 13, 13, 13, 13, 13, 13, 13, 13, 13, 13, 13, 15, 13, 13, 14, 14, 13, 13, 14, 13, 14, 14, 14, 14, 14]
def zNT : List Nat := [0, 0, 0, 1000, 12, 0, 10, 12, 12, 0, 6, 0, 12, 12, 12, 0, 144, 144, 144, 0, 1000, 11, 11, 11, 198, 198, 11, 528, 11, 12, 12, 200, 200, 200, 200, 200, 12, 12, 12, 12, 36, 144, 144, 12, 144, 144, 144, 67, 6, 12, 12, 12, 1]
def zRT : List (List (Option Nat)) := [[some 33, some 37, some 39, some 40, some 41, some 43, some 47, none, none, none, none], [some 34, none, none, some 36], [none, none, none, none, none, none, some 35], [], [], [none, none, some 38], [], [], [], [some 42], [], [some 44, some 45, some 46], [], [], [], [none, none, some 48, some 49, some 50], [], [], [], [some 52, none, none, none, none, some 53, some 54, some 55, some 56, some 57, some 58, some 59, some 60, none, none, none, some 61, some 62, none, some 63, some 64, some 65, some 66, some 67, none, some 68, some 69, some 70, some 71, some 72, some 73, some 74, some 75, some 76, some 77, some 78, none, none, some 79, none, none, none, none, none, none, none, none, none, some 80, some 81, some 82, some 83], [], [], [], [], [], [], [], [], [], [], [], [], [], [], [], [], [], [], [], [], [], [], [], [], [], [], [], [], [], [], [], [], []]
def kF (K : Nat → Nat) : Nat → Nat := fun n => bif Nat.blt n 85 then (bif Nat.blt n 32 then 99 else zix zKT (n - 32) 99) else K n
def nF (N : Nat → Nat) : Nat → Nat := fun n => bif Nat.blt n 85 then (bif Nat.blt n 32 then 0 else zix zNT (n - 32) 0) else N n
def rT (n k : Nat) : Option Nat := bif Nat.blt n 85 then zix (zix zRT (n - 32) []) k none else none
def rF (R : Nat → Nat → Option Nat) : Nat → Nat → Option Nat := fun n k => match rT n k with
  | some m => some m
  | none => R n k
/-- what is made later: kinds, lengths, references, the next name -/
abbrev zD : Type := (Nat → Nat) × (Nat → Nat) × (Nat → Nat → Option Nat) × Nat
def zst (D : zD) (I : Nat → Nat → Int32) (J : Nat → Nat → Int64) : zS := (kF D.1, nF D.2.1, I, J, rF D.2.2.1, D.2.2.2)
theorem kF_dyn {K : Nat → Nat} {n : Nat} (h : 85 ≤ n) : kF K n = K n := by
  have : Nat.blt n 85 = false := by
    rcases hb : Nat.blt n 85 with _ | _
    · rfl
    · exact absurd (Nat.le_of_ble_eq_true hb) (by omega)
  simp [kF, this]
theorem nF_dyn {K : Nat → Nat} {n : Nat} (h : 85 ≤ n) : nF K n = K n := by
  have : Nat.blt n 85 = false := by
    rcases hb : Nat.blt n 85 with _ | _
    · rfl
    · exact absurd (Nat.le_of_ble_eq_true hb) (by omega)
  simp [nF, this]
theorem rF_dyn {R : Nat → Nat → Option Nat} {n k : Nat} (h : 85 ≤ n) : rF R n k = R n k := by
  have : Nat.blt n 85 = false := by
    rcases hb : Nat.blt n 85 with _ | _
    · rfl
    · exact absurd (Nat.le_of_ble_eq_true hb) (by omega)
  simp [rF, rT, this]
theorem rF_up {R : Nat → Nat → Option Nat} {n k : Nat} {v : Option Nat} (h : rT n k = none) : zu2 (rF R) n k v = rF (zu2 R n k v) := by
  funext m j
  unfold zu2 rF
  by_cases hh : m = n ∧ j = k
  · obtain ⟨rfl, rfl⟩ := hh
    simp [h]
  · simp [hh]
theorem kF_up {K : Nat → Nat} {n v : Nat} (h : 85 ≤ n) : zu1 (kF K) n v = kF (zu1 K n v) := by
  funext m
  by_cases hm : m = n
  · subst hm
    rw [kF_dyn h]; simp [zu1]
  · simp [zu1, kF, hm]
theorem nF_up {K : Nat → Nat} {n v : Nat} (h : 85 ≤ n) : zu1 (nF K) n v = nF (zu1 K n v) := by
  funext m
  by_cases hm : m = n
  · subst hm
    rw [nF_dyn h]; simp [zu1]
  · simp [zu1, nF, hm]
theorem rF_up1 {R : Nat → Nat → Option Nat} {n : Nat} {f : Nat → Option Nat} (h : 85 ≤ n) : zu1 (rF R) n f = rF (zu1 R n f) := by
  funext m j
  by_cases hm : m = n
  · subst hm
    rw [rF_dyn h]; simp [zu1]
  · simp [zu1, rF, hm]
theorem zu2_s {α : Type} {f : Nat → Nat → α} {n k : Nat} {v : α} : zu2 f n k v n k = v := by simp [zu2]
theorem zu2_n {α : Type} {f : Nat → Nat → α} {n k m j : Nat} {v : α} (h : ¬ (m = n ∧ j = k)) : zu2 f n k v m j = f m j := by simp only [zu2, if_neg h]
theorem zst_new {D : zD} {I : Nat → Nat → Int32} {J : Nat → Nat → Int64} (kd len : Nat) (h : 85 ≤ D.2.2.2) : znew (zst D I J) kd len = zst (zu1 D.1 D.2.2.2 kd, zu1 D.2.1 D.2.2.2 len, zu1 D.2.2.1 D.2.2.2 (fun _ => none), D.2.2.2 + 1) (zu1 I D.2.2.2 (fun _ => 0)) (zu1 J D.2.2.2 (fun _ => 0)) := by
  unfold znew zst
  dsimp only
  rw [kF_up h, nF_up h, rF_up1 h]
theorem nF_35 {N : Nat → Nat} : nF N 35 = 1000 := rfl
theorem nF_36 {N : Nat → Nat} : nF N 36 = 12 := rfl
theorem nF_38 {N : Nat → Nat} : nF N 38 = 10 := rfl
theorem nF_39 {N : Nat → Nat} : nF N 39 = 12 := rfl
theorem nF_40 {N : Nat → Nat} : nF N 40 = 12 := rfl
theorem nF_42 {N : Nat → Nat} : nF N 42 = 6 := rfl
theorem nF_44 {N : Nat → Nat} : nF N 44 = 12 := rfl
theorem nF_45 {N : Nat → Nat} : nF N 45 = 12 := rfl
theorem nF_46 {N : Nat → Nat} : nF N 46 = 12 := rfl
theorem nF_48 {N : Nat → Nat} : nF N 48 = 144 := rfl
theorem nF_49 {N : Nat → Nat} : nF N 49 = 144 := rfl
theorem nF_50 {N : Nat → Nat} : nF N 50 = 144 := rfl
theorem nF_52 {N : Nat → Nat} : nF N 52 = 1000 := rfl
theorem nF_53 {N : Nat → Nat} : nF N 53 = 11 := rfl
theorem nF_54 {N : Nat → Nat} : nF N 54 = 11 := rfl
theorem nF_55 {N : Nat → Nat} : nF N 55 = 11 := rfl
theorem nF_56 {N : Nat → Nat} : nF N 56 = 198 := rfl
theorem nF_57 {N : Nat → Nat} : nF N 57 = 198 := rfl
theorem nF_58 {N : Nat → Nat} : nF N 58 = 11 := rfl
theorem nF_59 {N : Nat → Nat} : nF N 59 = 528 := rfl
theorem nF_60 {N : Nat → Nat} : nF N 60 = 11 := rfl
theorem nF_61 {N : Nat → Nat} : nF N 61 = 12 := rfl
theorem nF_62 {N : Nat → Nat} : nF N 62 = 12 := rfl
theorem nF_63 {N : Nat → Nat} : nF N 63 = 200 := rfl
theorem nF_64 {N : Nat → Nat} : nF N 64 = 200 := rfl
theorem nF_65 {N : Nat → Nat} : nF N 65 = 200 := rfl
theorem nF_66 {N : Nat → Nat} : nF N 66 = 200 := rfl
theorem nF_67 {N : Nat → Nat} : nF N 67 = 200 := rfl
theorem nF_68 {N : Nat → Nat} : nF N 68 = 12 := rfl
theorem nF_69 {N : Nat → Nat} : nF N 69 = 12 := rfl
theorem nF_70 {N : Nat → Nat} : nF N 70 = 12 := rfl
theorem nF_71 {N : Nat → Nat} : nF N 71 = 12 := rfl
theorem nF_72 {N : Nat → Nat} : nF N 72 = 36 := rfl
theorem nF_73 {N : Nat → Nat} : nF N 73 = 144 := rfl
theorem nF_74 {N : Nat → Nat} : nF N 74 = 144 := rfl
theorem nF_75 {N : Nat → Nat} : nF N 75 = 12 := rfl
theorem nF_76 {N : Nat → Nat} : nF N 76 = 144 := rfl
theorem nF_77 {N : Nat → Nat} : nF N 77 = 144 := rfl
theorem nF_78 {N : Nat → Nat} : nF N 78 = 144 := rfl
theorem nF_79 {N : Nat → Nat} : nF N 79 = 67 := rfl
theorem nF_80 {N : Nat → Nat} : nF N 80 = 6 := rfl
theorem nF_81 {N : Nat → Nat} : nF N 81 = 12 := rfl
theorem nF_82 {N : Nat → Nat} : nF N 82 = 12 := rfl
theorem nF_83 {N : Nat → Nat} : nF N 83 = 12 := rfl
theorem nF_84 {N : Nat → Nat} : nF N 84 = 1 := rfl
theorem nIl_1 : nI 1 = 1 := rfl
theorem nIl_3 : nI 3 = 3 := rfl
theorem nIl_6 : nI 6 = 6 := rfl
theorem nIl_9 : nI 9 = 9 := rfl
theorem nIl_10 : nI 10 = 10 := rfl
theorem nIl_11 : nI 11 = 11 := rfl
theorem nIl_12 : nI 12 = 12 := rfl
theorem nIl_36 : nI 36 = 36 := rfl
theorem nIl_63 : nI 63 = 63 := rfl
theorem nIl_67 : nI 67 = 67 := rfl
theorem nIl_144 : nI 144 = 144 := rfl
theorem nIl_198 : nI 198 = 198 := rfl
theorem nIl_200 : nI 200 = 200 := rfl
theorem nIl_528 : nI 528 = 528 := rfl
theorem nIl_1000 : nI 1000 = 1000 := rfl
theorem zbm {x : Int} (h1 : -2147483648 ≤ x) (h2 : x < 2147483648) : x.bmod 4294967296 = x := Int.bmod_eq_of_le (by omega) (by omega)
