/-! The cells that stay: names 32 to 84 (tools/mkfix.py). 32 FireMutual, 33 Reader, 34 Tape, 35 its bytes, 36 numbers, 37 Statutes, 38 texts, 39 farms, 40 fires, 41 Parts, 42 its coins, 43 Shares, 44 weights, 45 coins, 46 cutOff, 47 Ledger, 48 fires, 49 farms, 50 changes, 51 the model, 52 tape, 53 from, 54 voted, 55 undone, 56 has, 57 number, 58 less, 59 season, 60 lines, 61 kin, 62 came, 63 nFarm, 64 nWhat, 65 nFrom, 66 nTold, 67 nValue, 68 fFarm, 69 fDay, 70 fJudges, 71 fClosed, 72 fJudge, 73 said, 74 done, 75 accounts, 76 bookFire, 77 bookFarm, 78 bookMore, 79 words, 80 parts, 81 calls, 82 weights, 83 lostBy, 84 out. -/
def zix {α : Type} : List α → Nat → α → α
  | [], _, d => d
  | x :: _, 0, _ => x
  | _ :: t, n + 1, d => zix t n d
def zKT : List Nat := [10, 5, 9, 12, 13, 8, 19, 16, 17, 4, 14, 6, 14, 14, 14, 2, 13, 13, 14, 11, 13, 13, 13, 13, 15, 13, 13, 13, 13, 13, 13, 13, 13, 13, 13, 13, 13, 13, 13, 15, 13, 13, 14, 14, 13, 13, 14, 13, 14, 14, 14, 14, 14]
def zNT : List Nat := [0, 0, 0, 1000, 12, 0, 10, 12, 12, 0, 6, 0, 12, 12, 12, 0, 144, 144, 144, 0, 1000, 11, 11, 11, 198, 198, 11, 528, 11, 12, 12, 200, 200, 200, 200, 200, 12, 12, 12, 12, 36, 144, 144, 12, 144, 144, 144, 67, 6, 12, 12, 12, 1]
def zRT : List (List (Option Nat)) := [[some 33, some 37, some 39, some 40, some 41, some 43, some 47, none, none, none, none], [some 34, none, none, some 36], [none, none, none, none, none, none, some 35], [], [], [none, none, some 38], [], [], [], [some 42], [], [some 44, some 45, some 46], [], [], [], [none, none, some 48, some 49, some 50], [], [], [], [some 52, none, none, none, none, some 53, some 54, some 55, some 56, some 57, some 58, some 59, some 60, none, none, none, some 61, some 62, none, some 63, some 64, some 65, some 66, some 67, none, some 68, some 69, some 70, some 71, some 72, some 73, some 74, some 75, some 76, some 77, some 78, none, none, some 79, none, none, none, none, none, none, none, none, none, some 80, some 81, some 82, some 83], [], [], [], [], [], [], [], [], [], [], [], [], [], [], [], [], [], [], [], [], [], [], [], [], [], [], [], [], [], [], [], [], []]
def kF (K : Nat → Nat) : Nat → Nat := fun n => bif Nat.blt n 85 then (bif Nat.blt n 32 then 99 else zix zKT (n - 32) 99) else K n
def nF (N : Nat → Nat) : Nat → Nat := fun n => bif Nat.blt n 85 then (bif Nat.blt n 32 then 0 else zix zNT (n - 32) 0) else N n
def rT (n k : Nat) : Option Nat := bif Nat.blt n 85 then zix (zix zRT (n - 32) []) k none else none
def rF (R : Nat → Nat → Option Nat) : Nat → Nat → Option Nat := fun n k => match rT n k with
  | some m => some m
  | none => R n k
/-- what is made later: kinds, lengths, references, the next name -/
abbrev zD : Type := (Nat → Nat) × (Nat → Nat) × (Nat → Nat → Option Nat) × Nat
def zst (D : zD) (I : Nat → Nat → Int32) (J : Nat → Nat → Int64) : zS := (kF D.1, nF D.2.1, I, J, rF D.2.2.1, D.2.2.2)
theorem kF_dyn {K : Nat → Nat} {n : Nat} (h : 85 ≤ n) : kF K n = K n := by
  have : Nat.blt n 85 = false := by
    rcases hb : Nat.blt n 85 with _ | _
    · rfl
    · exact absurd (Nat.le_of_ble_eq_true hb) (by omega)
  simp [kF, this]
theorem nF_dyn {K : Nat → Nat} {n : Nat} (h : 85 ≤ n) : nF K n = K n := by
  have : Nat.blt n 85 = false := by
    rcases hb : Nat.blt n 85 with _ | _
    · rfl
    · exact absurd (Nat.le_of_ble_eq_true hb) (by omega)
  simp [nF, this]
theorem rF_dyn {R : Nat → Nat → Option Nat} {n k : Nat} (h : 85 ≤ n) : rF R n k = R n k := by
  have : Nat.blt n 85 = false := by
    rcases hb : Nat.blt n 85 with _ | _
    · rfl
    · exact absurd (Nat.le_of_ble_eq_true hb) (by omega)
  simp [rF, rT, this]
theorem rF_up {R : Nat → Nat → Option Nat} {n k : Nat} {v : Option Nat} (h : rT n k = none) : zu2 (rF R) n k v = rF (zu2 R n k v) := by
  funext m j
  unfold zu2 rF
  by_cases hh : m = n ∧ j = k
  · obtain ⟨rfl, rfl⟩ := hh
    simp [h]
  · simp [hh]
theorem kF_up {K : Nat → Nat} {n v : Nat} (h : 85 ≤ n) : zu1 (kF K) n v = kF (zu1 K n v) := by
  funext m
  by_cases hm : m = n
  · subst hm
    rw [kF_dyn h]; simp [zu1]
  · simp [zu1, kF, hm]
theorem nF_up {K : Nat → Nat} {n v : Nat} (h : 85 ≤ n) : zu1 (nF K) n v = nF (zu1 K n v) := by
  funext m
  by_cases hm : m = n
  · subst hm
    rw [nF_dyn h]; simp [zu1]
  · simp [zu1, nF, hm]
theorem rF_up1 {R : Nat → Nat → Option Nat} {n : Nat} {f : Nat → Option Nat} (h : 85 ≤ n) : zu1 (rF R) n f = rF (zu1 R n f) := by
  funext m j
  by_cases hm : m = n
  · subst hm
    rw [rF_dyn h]; simp [zu1]
  · simp [zu1, rF, hm]
theorem zu2_s {α : Type} {f : Nat → Nat → α} {n k : Nat} {v : α} : zu2 f n k v n k = v := by simp [zu2]
theorem zu2_n {α : Type} {f : Nat → Nat → α} {n k m j : Nat} {v : α} (h : ¬ (m = n ∧ j = k)) : zu2 f n k v m j = f m j := by simp only [zu2, if_neg h]
theorem zst_new {D : zD} {I : Nat → Nat → Int32} {J : Nat → Nat → Int64} (kd len : Nat) (h : 85 ≤ D.2.2.2) : znew (zst D I J) kd len = zst (zu1 D.1 D.2.2.2 kd, zu1 D.2.1 D.2.2.2 len, zu1 D.2.2.1 D.2.2.2 (fun _ => none), D.2.2.2 + 1) (zu1 I D.2.2.2 (fun _ => 0)) (zu1 J D.2.2.2 (fun _ => 0)) := by
  unfold znew zst
  dsimp only
  rw [kF_up h, nF_up h, rF_up1 h]
theorem nF_35 {N : Nat → Nat} : nF N 35 = 1000 := rfl
theorem nF_36 {N : Nat → Nat} : nF N 36 = 12 := rfl
theorem nF_38 {N : Nat → Nat} : nF N 38 = 10 := rfl
theorem nF_39 {N : Nat → Nat} : nF N 39 = 12 := rfl
theorem nF_40 {N : Nat → Nat} : nF N 40 = 12 := rfl
theorem nF_42 {N : Nat → Nat} : nF N 42 = 6 := rfl
theorem nF_44 {N : Nat → Nat} : nF N 44 = 12 := rfl
theorem nF_45 {N : Nat → Nat} : nF N 45 = 12 := rfl
theorem nF_46 {N : Nat → Nat} : nF N 46 = 12 := rfl
theorem nF_48 {N : Nat → Nat} : nF N 48 = 144 := rfl
theorem nF_49 {N : Nat → Nat} : nF N 49 = 144 := rfl
theorem nF_50 {N : Nat → Nat} : nF N 50 = 144 := rfl
theorem nF_52 {N : Nat → Nat} : nF N 52 = 1000 := rfl
theorem nF_53 {N : Nat → Nat} : nF N 53 = 11 := rfl
theorem nF_54 {N : Nat → Nat} : nF N 54 = 11 := rfl
theorem nF_55 {N : Nat → Nat} : nF N 55 = 11 := rfl
theorem nF_56 {N : Nat → Nat} : nF N 56 = 198 := rfl
theorem nF_57 {N : Nat → Nat} : nF N 57 = 198 := rfl
theorem nF_58 {N : Nat → Nat} : nF N 58 = 11 := rfl
theorem nF_59 {N : Nat → Nat} : nF N 59 = 528 := rfl
theorem nF_60 {N : Nat → Nat} : nF N 60 = 11 := rfl
theorem nF_61 {N : Nat → Nat} : nF N 61 = 12 := rfl
theorem nF_62 {N : Nat → Nat} : nF N 62 = 12 := rfl
theorem nF_63 {N : Nat → Nat} : nF N 63 = 200 := rfl
theorem nF_64 {N : Nat → Nat} : nF N 64 = 200 := rfl
theorem nF_65 {N : Nat → Nat} : nF N 65 = 200 := rfl
theorem nF_66 {N : Nat → Nat} : nF N 66 = 200 := rfl
theorem nF_67 {N : Nat → Nat} : nF N 67 = 200 := rfl
theorem nF_68 {N : Nat → Nat} : nF N 68 = 12 := rfl
theorem nF_69 {N : Nat → Nat} : nF N 69 = 12 := rfl
theorem nF_70 {N : Nat → Nat} : nF N 70 = 12 := rfl
theorem nF_71 {N : Nat → Nat} : nF N 71 = 12 := rfl
theorem nF_72 {N : Nat → Nat} : nF N 72 = 36 := rfl
theorem nF_73 {N : Nat → Nat} : nF N 73 = 144 := rfl
theorem nF_74 {N : Nat → Nat} : nF N 74 = 144 := rfl
theorem nF_75 {N : Nat → Nat} : nF N 75 = 12 := rfl
theorem nF_76 {N : Nat → Nat} : nF N 76 = 144 := rfl
theorem nF_77 {N : Nat → Nat} : nF N 77 = 144 := rfl
theorem nF_78 {N : Nat → Nat} : nF N 78 = 144 := rfl
theorem nF_79 {N : Nat → Nat} : nF N 79 = 67 := rfl
theorem nF_80 {N : Nat → Nat} : nF N 80 = 6 := rfl
theorem nF_81 {N : Nat → Nat} : nF N 81 = 12 := rfl
theorem nF_82 {N : Nat → Nat} : nF N 82 = 12 := rfl
theorem nF_83 {N : Nat → Nat} : nF N 83 = 12 := rfl
theorem nF_84 {N : Nat → Nat} : nF N 84 = 1 := rfl
theorem nIl_0 : nI 0 = 0 := rfl
theorem nIl_1 : nI 1 = 1 := rfl
theorem nIl_2 : nI 2 = 2 := rfl
theorem nIl_3 : nI 3 = 3 := rfl
theorem nIl_4 : nI 4 = 4 := rfl
theorem nIl_5 : nI 5 = 5 := rfl
theorem nIl_6 : nI 6 = 6 := rfl
theorem nIl_7 : nI 7 = 7 := rfl
theorem nIl_8 : nI 8 = 8 := rfl
theorem nIl_9 : nI 9 = 9 := rfl
theorem nIl_10 : nI 10 = 10 := rfl
theorem nIl_11 : nI 11 = 11 := rfl
theorem nIl_12 : nI 12 = 12 := rfl
theorem nIl_13 : nI 13 = 13 := rfl
theorem nIl_14 : nI 14 = 14 := rfl
theorem nIl_15 : nI 15 = 15 := rfl
theorem nIl_16 : nI 16 = 16 := rfl
theorem nIl_17 : nI 17 = 17 := rfl
theorem nIl_18 : nI 18 = 18 := rfl
theorem nIl_19 : nI 19 = 19 := rfl
theorem nIl_20 : nI 20 = 20 := rfl
theorem nIl_21 : nI 21 = 21 := rfl
theorem nIl_22 : nI 22 = 22 := rfl
theorem nIl_23 : nI 23 = 23 := rfl
theorem nIl_24 : nI 24 = 24 := rfl
theorem nIl_25 : nI 25 = 25 := rfl
theorem nIl_26 : nI 26 = 26 := rfl
theorem nIl_27 : nI 27 = 27 := rfl
theorem nIl_28 : nI 28 = 28 := rfl
theorem nIl_29 : nI 29 = 29 := rfl
theorem nIl_30 : nI 30 = 30 := rfl
theorem nIl_31 : nI 31 = 31 := rfl
theorem nIl_32 : nI 32 = 32 := rfl
theorem nIl_33 : nI 33 = 33 := rfl
theorem nIl_34 : nI 34 = 34 := rfl
theorem nIl_35 : nI 35 = 35 := rfl
theorem nIl_36 : nI 36 = 36 := rfl
theorem nIl_37 : nI 37 = 37 := rfl
theorem nIl_38 : nI 38 = 38 := rfl
theorem nIl_39 : nI 39 = 39 := rfl
theorem nIl_40 : nI 40 = 40 := rfl
theorem nIl_41 : nI 41 = 41 := rfl
theorem nIl_42 : nI 42 = 42 := rfl
theorem nIl_43 : nI 43 = 43 := rfl
theorem nIl_44 : nI 44 = 44 := rfl
theorem nIl_45 : nI 45 = 45 := rfl
theorem nIl_46 : nI 46 = 46 := rfl
theorem nIl_47 : nI 47 = 47 := rfl
theorem nIl_48 : nI 48 = 48 := rfl
theorem nIl_49 : nI 49 = 49 := rfl
theorem nIl_50 : nI 50 = 50 := rfl
theorem nIl_51 : nI 51 = 51 := rfl
theorem nIl_52 : nI 52 = 52 := rfl
theorem nIl_53 : nI 53 = 53 := rfl
theorem nIl_54 : nI 54 = 54 := rfl
theorem nIl_55 : nI 55 = 55 := rfl
theorem nIl_56 : nI 56 = 56 := rfl
theorem nIl_57 : nI 57 = 57 := rfl
theorem nIl_58 : nI 58 = 58 := rfl
theorem nIl_59 : nI 59 = 59 := rfl
theorem nIl_60 : nI 60 = 60 := rfl
theorem nIl_61 : nI 61 = 61 := rfl
theorem nIl_62 : nI 62 = 62 := rfl
theorem nIl_63 : nI 63 = 63 := rfl
theorem nIl_64 : nI 64 = 64 := rfl
theorem nIl_65 : nI 65 = 65 := rfl
theorem nIl_66 : nI 66 = 66 := rfl
theorem nIl_67 : nI 67 = 67 := rfl
theorem nIl_97 : nI 97 = 97 := rfl
theorem nIl_98 : nI 98 = 98 := rfl
theorem nIl_99 : nI 99 = 99 := rfl
theorem nIl_100 : nI 100 = 100 := rfl
theorem nIl_101 : nI 101 = 101 := rfl
theorem nIl_104 : nI 104 = 104 := rfl
theorem nIl_108 : nI 108 = 108 := rfl
theorem nIl_110 : nI 110 = 110 := rfl
theorem nIl_111 : nI 111 = 111 := rfl
theorem nIl_114 : nI 114 = 114 := rfl
theorem nIl_115 : nI 115 = 115 := rfl
theorem nIl_116 : nI 116 = 116 := rfl
theorem nIl_117 : nI 117 = 117 := rfl
theorem nIl_118 : nI 118 = 118 := rfl
theorem nIl_119 : nI 119 = 119 := rfl
theorem nIl_121 : nI 121 = 121 := rfl
theorem nIl_122 : nI 122 = 122 := rfl
theorem nIl_144 : nI 144 = 144 := rfl
theorem nIl_180 : nI 180 = 180 := rfl
theorem nIl_198 : nI 198 = 198 := rfl
theorem nIl_200 : nI 200 = 200 := rfl
theorem nIl_255 : nI 255 = 255 := rfl
theorem nIl_480 : nI 480 = 480 := rfl
theorem nIl_528 : nI 528 = 528 := rfl
theorem nIl_719 : nI 719 = 719 := rfl
theorem nIl_720 : nI 720 = 720 := rfl
theorem nIl_1000 : nI 1000 = 1000 := rfl
theorem nIl_1001 : nI 1001 = 1001 := rfl
theorem nIl_10000 : nI 10000 = 10000 := rfl
theorem nIl_12345 : nI 12345 = 12345 := rfl
theorem nIl_32767 : nI 32767 = 32767 := rfl
theorem zbm {x : Int} (h1 : -2147483648 ≤ x) (h2 : x < 2147483648) : x.bmod 4294967296 = x := Int.bmod_eq_of_le (by omega) (by omega)
theorem zk_i_0 : Int32.ofInt 0 = nI 0 := rfl
theorem zk_i_1 : Int32.ofInt 1 = nI 1 := rfl
theorem zk_i_2 : Int32.ofInt 2 = nI 2 := rfl
theorem zk_i_3 : Int32.ofInt 3 = nI 3 := rfl
theorem zk_i_4 : Int32.ofInt 4 = nI 4 := rfl
theorem zk_i_5 : Int32.ofInt 5 = nI 5 := rfl
theorem zk_i_6 : Int32.ofInt 6 = nI 6 := rfl
theorem zk_b_6 : (Int8.ofInt 6).toInt32 = nI 6 := rfl
theorem zk_b_7 : (Int8.ofInt 7).toInt32 = nI 7 := rfl
theorem zk_b_8 : (Int8.ofInt 8).toInt32 = nI 8 := rfl
theorem zk_b_9 : (Int8.ofInt 9).toInt32 = nI 9 := rfl
theorem zk_b_10 : (Int8.ofInt 10).toInt32 = nI 10 := rfl
theorem zk_b_11 : (Int8.ofInt 11).toInt32 = nI 11 := rfl
theorem zk_b_12 : (Int8.ofInt 12).toInt32 = nI 12 := rfl
theorem zk_b_13 : (Int8.ofInt 13).toInt32 = nI 13 := rfl
theorem zk_b_14 : (Int8.ofInt 14).toInt32 = nI 14 := rfl
theorem zk_b_15 : (Int8.ofInt 15).toInt32 = nI 15 := rfl
theorem zk_b_16 : (Int8.ofInt 16).toInt32 = nI 16 := rfl
theorem zk_b_17 : (Int8.ofInt 17).toInt32 = nI 17 := rfl
theorem zk_b_18 : (Int8.ofInt 18).toInt32 = nI 18 := rfl
theorem zk_b_19 : (Int8.ofInt 19).toInt32 = nI 19 := rfl
theorem zk_b_20 : (Int8.ofInt 20).toInt32 = nI 20 := rfl
theorem zk_b_21 : (Int8.ofInt 21).toInt32 = nI 21 := rfl
theorem zk_b_22 : (Int8.ofInt 22).toInt32 = nI 22 := rfl
theorem zk_b_23 : (Int8.ofInt 23).toInt32 = nI 23 := rfl
theorem zk_b_24 : (Int8.ofInt 24).toInt32 = nI 24 := rfl
theorem zk_b_25 : (Int8.ofInt 25).toInt32 = nI 25 := rfl
theorem zk_b_26 : (Int8.ofInt 26).toInt32 = nI 26 := rfl
theorem zk_b_27 : (Int8.ofInt 27).toInt32 = nI 27 := rfl
theorem zk_b_28 : (Int8.ofInt 28).toInt32 = nI 28 := rfl
theorem zk_b_29 : (Int8.ofInt 29).toInt32 = nI 29 := rfl
theorem zk_b_30 : (Int8.ofInt 30).toInt32 = nI 30 := rfl
theorem zk_b_31 : (Int8.ofInt 31).toInt32 = nI 31 := rfl
theorem zk_b_32 : (Int8.ofInt 32).toInt32 = nI 32 := rfl
theorem zk_b_33 : (Int8.ofInt 33).toInt32 = nI 33 := rfl
theorem zk_b_34 : (Int8.ofInt 34).toInt32 = nI 34 := rfl
theorem zk_b_35 : (Int8.ofInt 35).toInt32 = nI 35 := rfl
theorem zk_b_36 : (Int8.ofInt 36).toInt32 = nI 36 := rfl
theorem zk_b_37 : (Int8.ofInt 37).toInt32 = nI 37 := rfl
theorem zk_b_38 : (Int8.ofInt 38).toInt32 = nI 38 := rfl
theorem zk_b_39 : (Int8.ofInt 39).toInt32 = nI 39 := rfl
theorem zk_b_40 : (Int8.ofInt 40).toInt32 = nI 40 := rfl
theorem zk_b_41 : (Int8.ofInt 41).toInt32 = nI 41 := rfl
theorem zk_b_42 : (Int8.ofInt 42).toInt32 = nI 42 := rfl
theorem zk_b_43 : (Int8.ofInt 43).toInt32 = nI 43 := rfl
theorem zk_b_44 : (Int8.ofInt 44).toInt32 = nI 44 := rfl
theorem zk_b_45 : (Int8.ofInt 45).toInt32 = nI 45 := rfl
theorem zk_b_46 : (Int8.ofInt 46).toInt32 = nI 46 := rfl
theorem zk_b_47 : (Int8.ofInt 47).toInt32 = nI 47 := rfl
theorem zk_b_48 : (Int8.ofInt 48).toInt32 = nI 48 := rfl
theorem zk_b_49 : (Int8.ofInt 49).toInt32 = nI 49 := rfl
theorem zk_b_50 : (Int8.ofInt 50).toInt32 = nI 50 := rfl
theorem zk_b_51 : (Int8.ofInt 51).toInt32 = nI 51 := rfl
theorem zk_b_52 : (Int8.ofInt 52).toInt32 = nI 52 := rfl
theorem zk_b_53 : (Int8.ofInt 53).toInt32 = nI 53 := rfl
theorem zk_b_54 : (Int8.ofInt 54).toInt32 = nI 54 := rfl
theorem zk_b_55 : (Int8.ofInt 55).toInt32 = nI 55 := rfl
theorem zk_b_56 : (Int8.ofInt 56).toInt32 = nI 56 := rfl
theorem zk_b_57 : (Int8.ofInt 57).toInt32 = nI 57 := rfl
theorem zk_b_58 : (Int8.ofInt 58).toInt32 = nI 58 := rfl
theorem zk_b_59 : (Int8.ofInt 59).toInt32 = nI 59 := rfl
theorem zk_b_60 : (Int8.ofInt 60).toInt32 = nI 60 := rfl
theorem zk_b_61 : (Int8.ofInt 61).toInt32 = nI 61 := rfl
theorem zk_b_62 : (Int8.ofInt 62).toInt32 = nI 62 := rfl
theorem zk_b_63 : (Int8.ofInt 63).toInt32 = nI 63 := rfl
theorem zk_b_64 : (Int8.ofInt 64).toInt32 = nI 64 := rfl
theorem zk_b_65 : (Int8.ofInt 65).toInt32 = nI 65 := rfl
theorem zk_b_66 : (Int8.ofInt 66).toInt32 = nI 66 := rfl
theorem zk_b_67 : (Int8.ofInt 67).toInt32 = nI 67 := rfl
theorem zk_b_97 : (Int8.ofInt 97).toInt32 = nI 97 := rfl
theorem zk_b_98 : (Int8.ofInt 98).toInt32 = nI 98 := rfl
theorem zk_b_99 : (Int8.ofInt 99).toInt32 = nI 99 := rfl
theorem zk_b_100 : (Int8.ofInt 100).toInt32 = nI 100 := rfl
theorem zk_b_101 : (Int8.ofInt 101).toInt32 = nI 101 := rfl
theorem zk_b_104 : (Int8.ofInt 104).toInt32 = nI 104 := rfl
theorem zk_b_108 : (Int8.ofInt 108).toInt32 = nI 108 := rfl
theorem zk_b_110 : (Int8.ofInt 110).toInt32 = nI 110 := rfl
theorem zk_b_111 : (Int8.ofInt 111).toInt32 = nI 111 := rfl
theorem zk_b_114 : (Int8.ofInt 114).toInt32 = nI 114 := rfl
theorem zk_b_115 : (Int8.ofInt 115).toInt32 = nI 115 := rfl
theorem zk_b_116 : (Int8.ofInt 116).toInt32 = nI 116 := rfl
theorem zk_b_117 : (Int8.ofInt 117).toInt32 = nI 117 := rfl
theorem zk_b_118 : (Int8.ofInt 118).toInt32 = nI 118 := rfl
theorem zk_b_119 : (Int8.ofInt 119).toInt32 = nI 119 := rfl
theorem zk_b_121 : (Int8.ofInt 121).toInt32 = nI 121 := rfl
theorem zk_b_122 : (Int8.ofInt 122).toInt32 = nI 122 := rfl
theorem zk_s_144 : (Int16.ofInt 144).toInt32 = nI 144 := rfl
theorem zk_s_180 : (Int16.ofInt 180).toInt32 = nI 180 := rfl
theorem zk_s_198 : (Int16.ofInt 198).toInt32 = nI 198 := rfl
theorem zk_s_200 : (Int16.ofInt 200).toInt32 = nI 200 := rfl
theorem zk_s_255 : (Int16.ofInt 255).toInt32 = nI 255 := rfl
theorem zk_s_480 : (Int16.ofInt 480).toInt32 = nI 480 := rfl
theorem zk_s_528 : (Int16.ofInt 528).toInt32 = nI 528 := rfl
theorem zk_s_719 : (Int16.ofInt 719).toInt32 = nI 719 := rfl
theorem zk_s_720 : (Int16.ofInt 720).toInt32 = nI 720 := rfl
theorem zk_s_1000 : (Int16.ofInt 1000).toInt32 = nI 1000 := rfl
theorem zk_s_1001 : (Int16.ofInt 1001).toInt32 = nI 1001 := rfl
theorem zk_s_10000 : (Int16.ofInt 10000).toInt32 = nI 10000 := rfl
theorem zk_s_12345 : (Int16.ofInt 12345).toInt32 = nI 12345 := rfl
theorem zk_s_32767 : (Int16.ofInt 32767).toInt32 = nI 32767 := rfl
