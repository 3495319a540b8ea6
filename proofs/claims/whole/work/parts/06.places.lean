/-! Places of words in lw_tbl, laid by program (tools/mktab.py): fields, classes, constants. -/
def zFL : List (Nat × Nat × Nat × Nat × Nat) := [(0, 11, 0, 3, 492), (0, 17, 0, 0, 487), (0, 21, 0, 1, 489), (0, 27, 3, 0, 523), (0, 30, 3, 1, 525), (0, 33, 3, 2, 527), (0, 36, 3, 3, 529), (1, 9, 1, 5, 587), (1, 15, 1, 6, 588), (1, 18, 1, 7, 589), (1, 22, 1, 0, 578), (1, 26, 1, 1, 580), (1, 29, 1, 2, 582), (1, 32, 1, 3, 584), (2, 9, 2, 2, 203), (2, 15, 2, 3, 204), (2, 18, 2, 4, 205), (2, 22, 2, 0, 199), (2, 26, 2, 1, 201), (3, 7, 3, 0, 522), (3, 13, 3, 1, 524), (3, 16, 3, 2, 526), (3, 19, 3, 3, 528), (4, 9, 4, 0, 172), (5, 12, 5, 0, 125), (5, 18, 5, 2, 129), (5, 22, 5, 3, 131), (5, 26, 5, 1, 127), (5, 33, 9, 1, 100), (5, 44, 9, 2, 102), (5, 115, 9, 3, 105), (5, 128, 7, 3, 286), (6, 9, 6, 0, 183), (6, 15, 6, 1, 184), (6, 18, 6, 2, 185), (7, 9, 7, 2, 283), (7, 15, 7, 4, 287), (7, 19, 7, 0, 280), (7, 22, 7, 1, 281), (8, 11, 8, 2, 154), (8, 17, 8, 0, 150), (8, 21, 8, 1, 152), (8, 24, 7, 3, 285), (8, 33, 7, 1, 282), (9, 9, 9, 6, 108), (9, 15, 9, 0, 98), (9, 19, 9, 5, 107), (9, 22, 9, 4, 106), (9, 36, 9, 2, 103), (9, 39, 9, 1, 101), (9, 48, 9, 3, 104), (10, 12, 10, 0, 217), (10, 19, 10, 1, 218), (10, 25, 10, 2, 219), (10, 31, 10, 3, 220), (10, 38, 10, 4, 221), (10, 45, 10, 5, 222), (10, 52, 10, 6, 223), (10, 56, 5, 0, 126), (10, 70, 9, 0, 99), (10, 83, 10, 10, 227), (10, 100, 5, 1, 128), (10, 103, 5, 2, 130), (10, 110, 7, 2, 284), (10, 113, 10, 7, 224), (10, 124, 10, 9, 226), (10, 141, 10, 8, 225), (10, 147, 0, 0, 488), (10, 154, 1, 0, 579), (10, 180, 1, 4, 586), (10, 190, 1, 1, 581), (10, 193, 1, 2, 583), (10, 196, 1, 3, 585), (10, 229, 2, 0, 200), (10, 238, 0, 2, 491), (10, 242, 8, 0, 151), (10, 245, 8, 1, 153), (10, 248, 2, 1, 202), (10, 296, 0, 1, 490), (11, 7, 11, 0, 896), (11, 13, 11, 5, 901), (11, 16, 11, 6, 902), (11, 19, 11, 7, 903), (11, 22, 11, 8, 904), (11, 26, 11, 9, 905), (11, 29, 11, 10, 906), (11, 32, 11, 11, 907), (11, 35, 11, 12, 908), (11, 38, 11, 14, 910), (11, 42, 11, 16, 912), (11, 45, 11, 17, 913), (11, 48, 11, 19, 915), (11, 51, 11, 20, 916), (11, 54, 11, 21, 917), (11, 57, 11, 22, 918), (11, 60, 11, 23, 919), (11, 63, 11, 25, 921), (11, 66, 11, 26, 922), (11, 69, 11, 27, 923), (11, 72, 11, 28, 924), (11, 75, 11, 29, 925), (11, 78, 11, 30, 926), (11, 81, 11, 31, 927), (11, 85, 11, 32, 928), (11, 88, 11, 33, 929), (11, 91, 11, 34, 930), (11, 94, 11, 35, 931), (11, 97, 11, 38, 934), (11, 100, 11, 48, 944), (11, 103, 11, 49, 945), (11, 106, 11, 50, 946), (11, 109, 11, 51, 947), (11, 112, 11, 2, 898), (11, 115, 11, 1, 897), (11, 118, 11, 13, 909), (11, 121, 11, 39, 935), (11, 124, 11, 40, 936), (11, 127, 11, 43, 939), (11, 130, 11, 41, 937), (11, 141, 11, 42, 938), (11, 151, 11, 44, 940), (11, 169, 11, 45, 941), (11, 172, 11, 46, 942), (11, 175, 11, 47, 943), (11, 184, 11, 4, 900), (11, 190, 11, 3, 899), (11, 193, 11, 15, 911), (11, 199, 11, 18, 914), (11, 216, 11, 24, 920), (11, 255, 11, 36, 932), (11, 258, 11, 37, 933)]
def zfOk (e : Nat × Nat × Nat × Nat × Nat) : Bool := match vwCl[e.2.2.1]? with
  | some q => decide (e.2.2.2.1 < q.2.2) && decide (lw_tbl[e.2.2.2.2]? = some (.fieldLink (zRn e.1) e.2.1 (q.2.1 e.2.2.2.1).1 (q.2.1 e.2.2.2.1).2.1 (q.2.1 e.2.2.2.1).2.2.1))
  | none => false
theorem zFL_ok : zFL.all zfOk = true := by decide +kernel
def ztk (ty : FieldType) : Nat := match ty with
  | .int => 0
  | .long => 1
  | .object _ => 2
  | .array _ => 2
  | .boolean => 3
  | _ => 4
def zfin (ci k : Nat) : Bool := match vwCl[ci]? with
  | some q => (q.2.1 k).2.2.2
  | none => false
def zfrl : List (Nat × Nat × Nat × Nat × Nat) → Nat → Nat → Option (Nat × Nat × Nat × Bool)
  | [], _, _ => none
  | (c1, i1, ci, k, _) :: t, c, i => bif Nat.beq c1 c && Nat.beq i1 i then some (ci, k, ztk (zty ci k), zfin ci k) else zfrl t c i
def zfr (c i : Nat) : Option (Nat × Nat × Nat × Bool) := zfrl zFL c i
theorem zf_0_11 : zfr 0 11 = some (0, 3, 2, true) := by decide +kernel
theorem zf_0_17 : zfr 0 17 = some (0, 0, 0, true) := by decide +kernel
theorem zf_0_21 : zfr 0 21 = some (0, 1, 0, true) := by decide +kernel
theorem zf_0_27 : zfr 0 27 = some (3, 0, 0, true) := by decide +kernel
theorem zf_0_30 : zfr 0 30 = some (3, 1, 0, true) := by decide +kernel
theorem zf_0_33 : zfr 0 33 = some (3, 2, 0, true) := by decide +kernel
theorem zf_0_36 : zfr 0 36 = some (3, 3, 2, true) := by decide +kernel
theorem zf_1_9 : zfr 1 9 = some (1, 5, 2, true) := by decide +kernel
theorem zf_1_15 : zfr 1 15 = some (1, 6, 2, true) := by decide +kernel
theorem zf_1_18 : zfr 1 18 = some (1, 7, 2, true) := by decide +kernel
theorem zf_1_22 : zfr 1 22 = some (1, 0, 0, true) := by decide +kernel
theorem zf_1_26 : zfr 1 26 = some (1, 1, 0, true) := by decide +kernel
theorem zf_1_29 : zfr 1 29 = some (1, 2, 0, true) := by decide +kernel
theorem zf_1_32 : zfr 1 32 = some (1, 3, 0, false) := by decide +kernel
theorem zf_2_9 : zfr 2 9 = some (2, 2, 2, true) := by decide +kernel
theorem zf_2_15 : zfr 2 15 = some (2, 3, 2, true) := by decide +kernel
theorem zf_2_18 : zfr 2 18 = some (2, 4, 2, true) := by decide +kernel
theorem zf_2_22 : zfr 2 22 = some (2, 0, 0, false) := by decide +kernel
theorem zf_2_26 : zfr 2 26 = some (2, 1, 0, false) := by decide +kernel
theorem zf_3_7 : zfr 3 7 = some (3, 0, 0, true) := by decide +kernel
theorem zf_3_13 : zfr 3 13 = some (3, 1, 0, true) := by decide +kernel
theorem zf_3_16 : zfr 3 16 = some (3, 2, 0, true) := by decide +kernel
theorem zf_3_19 : zfr 3 19 = some (3, 3, 2, true) := by decide +kernel
theorem zf_4_9 : zfr 4 9 = some (4, 0, 2, true) := by decide +kernel
theorem zf_5_12 : zfr 5 12 = some (5, 0, 2, true) := by decide +kernel
theorem zf_5_18 : zfr 5 18 = some (5, 2, 0, false) := by decide +kernel
theorem zf_5_22 : zfr 5 22 = some (5, 3, 2, true) := by decide +kernel
theorem zf_5_26 : zfr 5 26 = some (5, 1, 0, false) := by decide +kernel
theorem zf_5_33 : zfr 5 33 = some (9, 1, 0, false) := by decide +kernel
theorem zf_5_44 : zfr 5 44 = some (9, 2, 0, false) := by decide +kernel
theorem zf_5_115 : zfr 5 115 = some (9, 3, 0, false) := by decide +kernel
theorem zf_5_128 : zfr 5 128 = some (7, 3, 0, false) := by decide +kernel
theorem zf_6_9 : zfr 6 9 = some (6, 0, 2, true) := by decide +kernel
theorem zf_6_15 : zfr 6 15 = some (6, 1, 2, true) := by decide +kernel
theorem zf_6_18 : zfr 6 18 = some (6, 2, 2, true) := by decide +kernel
theorem zf_7_9 : zfr 7 9 = some (7, 2, 0, false) := by decide +kernel
theorem zf_7_15 : zfr 7 15 = some (7, 4, 2, true) := by decide +kernel
theorem zf_7_19 : zfr 7 19 = some (7, 0, 0, true) := by decide +kernel
theorem zf_7_22 : zfr 7 22 = some (7, 1, 0, true) := by decide +kernel
theorem zf_8_11 : zfr 8 11 = some (8, 2, 2, true) := by decide +kernel
theorem zf_8_17 : zfr 8 17 = some (8, 0, 0, false) := by decide +kernel
theorem zf_8_21 : zfr 8 21 = some (8, 1, 0, false) := by decide +kernel
theorem zf_8_24 : zfr 8 24 = some (7, 3, 0, false) := by decide +kernel
theorem zf_8_33 : zfr 8 33 = some (7, 1, 0, true) := by decide +kernel
theorem zf_9_9 : zfr 9 9 = some (9, 6, 2, true) := by decide +kernel
theorem zf_9_15 : zfr 9 15 = some (9, 0, 0, false) := by decide +kernel
theorem zf_9_19 : zfr 9 19 = some (9, 5, 0, false) := by decide +kernel
theorem zf_9_22 : zfr 9 22 = some (9, 4, 0, false) := by decide +kernel
theorem zf_9_36 : zfr 9 36 = some (9, 2, 0, false) := by decide +kernel
theorem zf_9_39 : zfr 9 39 = some (9, 1, 0, false) := by decide +kernel
theorem zf_9_48 : zfr 9 48 = some (9, 3, 0, false) := by decide +kernel
theorem zf_10_12 : zfr 10 12 = some (10, 0, 2, true) := by decide +kernel
theorem zf_10_19 : zfr 10 19 = some (10, 1, 2, true) := by decide +kernel
theorem zf_10_25 : zfr 10 25 = some (10, 2, 2, true) := by decide +kernel
theorem zf_10_31 : zfr 10 31 = some (10, 3, 2, true) := by decide +kernel
theorem zf_10_38 : zfr 10 38 = some (10, 4, 2, true) := by decide +kernel
theorem zf_10_45 : zfr 10 45 = some (10, 5, 2, true) := by decide +kernel
theorem zf_10_52 : zfr 10 52 = some (10, 6, 2, true) := by decide +kernel
theorem zf_10_56 : zfr 10 56 = some (5, 0, 2, true) := by decide +kernel
theorem zf_10_70 : zfr 10 70 = some (9, 0, 0, false) := by decide +kernel
theorem zf_10_83 : zfr 10 83 = some (10, 10, 0, false) := by decide +kernel
theorem zf_10_100 : zfr 10 100 = some (5, 1, 0, false) := by decide +kernel
theorem zf_10_103 : zfr 10 103 = some (5, 2, 0, false) := by decide +kernel
theorem zf_10_110 : zfr 10 110 = some (7, 2, 0, false) := by decide +kernel
theorem zf_10_113 : zfr 10 113 = some (10, 7, 0, false) := by decide +kernel
theorem zf_10_124 : zfr 10 124 = some (10, 9, 0, false) := by decide +kernel
theorem zf_10_141 : zfr 10 141 = some (10, 8, 0, false) := by decide +kernel
theorem zf_10_147 : zfr 10 147 = some (0, 0, 0, true) := by decide +kernel
theorem zf_10_154 : zfr 10 154 = some (1, 0, 0, true) := by decide +kernel
theorem zf_10_180 : zfr 10 180 = some (1, 4, 3, false) := by decide +kernel
theorem zf_10_190 : zfr 10 190 = some (1, 1, 0, true) := by decide +kernel
theorem zf_10_193 : zfr 10 193 = some (1, 2, 0, true) := by decide +kernel
theorem zf_10_196 : zfr 10 196 = some (1, 3, 0, false) := by decide +kernel
theorem zf_10_229 : zfr 10 229 = some (2, 0, 0, false) := by decide +kernel
theorem zf_10_238 : zfr 10 238 = some (0, 2, 1, false) := by decide +kernel
theorem zf_10_242 : zfr 10 242 = some (8, 0, 0, false) := by decide +kernel
theorem zf_10_245 : zfr 10 245 = some (8, 1, 0, false) := by decide +kernel
theorem zf_10_248 : zfr 10 248 = some (2, 1, 0, false) := by decide +kernel
theorem zf_10_296 : zfr 10 296 = some (0, 1, 0, true) := by decide +kernel
theorem zf_11_7 : zfr 11 7 = some (11, 0, 2, true) := by decide +kernel
theorem zf_11_13 : zfr 11 13 = some (11, 5, 2, true) := by decide +kernel
theorem zf_11_16 : zfr 11 16 = some (11, 6, 2, true) := by decide +kernel
theorem zf_11_19 : zfr 11 19 = some (11, 7, 2, true) := by decide +kernel
theorem zf_11_22 : zfr 11 22 = some (11, 8, 2, true) := by decide +kernel
theorem zf_11_26 : zfr 11 26 = some (11, 9, 2, true) := by decide +kernel
theorem zf_11_29 : zfr 11 29 = some (11, 10, 2, true) := by decide +kernel
theorem zf_11_32 : zfr 11 32 = some (11, 11, 2, true) := by decide +kernel
theorem zf_11_35 : zfr 11 35 = some (11, 12, 2, true) := by decide +kernel
theorem zf_11_38 : zfr 11 38 = some (11, 14, 0, false) := by decide +kernel
theorem zf_11_42 : zfr 11 42 = some (11, 16, 2, true) := by decide +kernel
theorem zf_11_45 : zfr 11 45 = some (11, 17, 2, true) := by decide +kernel
theorem zf_11_48 : zfr 11 48 = some (11, 19, 2, true) := by decide +kernel
theorem zf_11_51 : zfr 11 51 = some (11, 20, 2, true) := by decide +kernel
theorem zf_11_54 : zfr 11 54 = some (11, 21, 2, true) := by decide +kernel
theorem zf_11_57 : zfr 11 57 = some (11, 22, 2, true) := by decide +kernel
theorem zf_11_60 : zfr 11 60 = some (11, 23, 2, true) := by decide +kernel
theorem zf_11_63 : zfr 11 63 = some (11, 25, 2, true) := by decide +kernel
theorem zf_11_66 : zfr 11 66 = some (11, 26, 2, true) := by decide +kernel
theorem zf_11_69 : zfr 11 69 = some (11, 27, 2, true) := by decide +kernel
theorem zf_11_72 : zfr 11 72 = some (11, 28, 2, true) := by decide +kernel
theorem zf_11_75 : zfr 11 75 = some (11, 29, 2, true) := by decide +kernel
theorem zf_11_78 : zfr 11 78 = some (11, 30, 2, true) := by decide +kernel
theorem zf_11_81 : zfr 11 81 = some (11, 31, 2, true) := by decide +kernel
theorem zf_11_85 : zfr 11 85 = some (11, 32, 2, true) := by decide +kernel
theorem zf_11_88 : zfr 11 88 = some (11, 33, 2, true) := by decide +kernel
theorem zf_11_91 : zfr 11 91 = some (11, 34, 2, true) := by decide +kernel
theorem zf_11_94 : zfr 11 94 = some (11, 35, 2, true) := by decide +kernel
theorem zf_11_97 : zfr 11 97 = some (11, 38, 2, true) := by decide +kernel
theorem zf_11_100 : zfr 11 100 = some (11, 48, 2, true) := by decide +kernel
theorem zf_11_103 : zfr 11 103 = some (11, 49, 2, true) := by decide +kernel
theorem zf_11_106 : zfr 11 106 = some (11, 50, 2, true) := by decide +kernel
theorem zf_11_109 : zfr 11 109 = some (11, 51, 2, true) := by decide +kernel
theorem zf_11_112 : zfr 11 112 = some (11, 2, 0, false) := by decide +kernel
theorem zf_11_115 : zfr 11 115 = some (11, 1, 0, false) := by decide +kernel
theorem zf_11_118 : zfr 11 118 = some (11, 13, 0, false) := by decide +kernel
theorem zf_11_121 : zfr 11 121 = some (11, 39, 0, false) := by decide +kernel
theorem zf_11_124 : zfr 11 124 = some (11, 40, 0, false) := by decide +kernel
theorem zf_11_127 : zfr 11 127 = some (11, 43, 0, false) := by decide +kernel
theorem zf_11_130 : zfr 11 130 = some (11, 41, 0, false) := by decide +kernel
theorem zf_11_141 : zfr 11 141 = some (11, 42, 0, false) := by decide +kernel
theorem zf_11_151 : zfr 11 151 = some (11, 44, 0, false) := by decide +kernel
theorem zf_11_169 : zfr 11 169 = some (11, 45, 0, false) := by decide +kernel
theorem zf_11_172 : zfr 11 172 = some (11, 46, 0, false) := by decide +kernel
theorem zf_11_175 : zfr 11 175 = some (11, 47, 0, false) := by decide +kernel
theorem zf_11_184 : zfr 11 184 = some (11, 4, 0, false) := by decide +kernel
theorem zf_11_190 : zfr 11 190 = some (11, 3, 0, false) := by decide +kernel
theorem zf_11_193 : zfr 11 193 = some (11, 15, 0, false) := by decide +kernel
theorem zf_11_199 : zfr 11 199 = some (11, 18, 0, false) := by decide +kernel
theorem zf_11_216 : zfr 11 216 = some (11, 24, 0, false) := by decide +kernel
theorem zf_11_255 : zfr 11 255 = some (11, 36, 0, false) := by decide +kernel
theorem zf_11_258 : zfr 11 258 = some (11, 37, 0, false) := by decide +kernel
def zNL : List (Nat × Nat × Nat × Nat × Nat × Nat) := [(0, 9, 3, 485, 517, 71), (5, 9, 9, 92, 93, 58), (8, 9, 7, 148, 275, 64), (10, 9, 5, 86, 87, 57), (10, 16, 8, 142, 143, 59), (10, 23, 0, 162, 480, 70), (10, 29, 1, 164, 573, 72), (10, 35, 4, 166, 167, 60), (10, 42, 6, 177, 178, 61), (10, 49, 2, 193, 194, 62), (10, 81, 7, 274, 275, 64), (12, 8, 10, 78, 79, 56), (12, 25, 11, 890, 891, 63)]
def znOk (e : Nat × Nat × Nat × Nat × Nat × Nat) : Bool := match vwCl[e.2.2.1]? with
  | some q => decide (lw_tbl[e.2.2.2.1]? = some (.classLink (zRn e.1) e.2.1 q.1)) && decide (lw_tbl[e.2.2.2.2.1]? = some (.instantiable q.1 q.2.2)) && decide (lw_tbl[e.2.2.2.2.2]? = some (.initialized q.1))
  | none => false
theorem zNL_ok : zNL.all znOk = true := by decide +kernel
def zcl (c i : Nat) : Option Nat := (zNL.find? (fun e => Nat.beq e.1 c && Nat.beq e.2.1 i)).map (fun e => e.2.2.1)
theorem zc_0_9 : zcl 0 9 = some 3 := by decide +kernel
theorem zc_5_9 : zcl 5 9 = some 9 := by decide +kernel
theorem zc_8_9 : zcl 8 9 = some 7 := by decide +kernel
theorem zc_10_9 : zcl 10 9 = some 5 := by decide +kernel
theorem zc_10_16 : zcl 10 16 = some 8 := by decide +kernel
theorem zc_10_23 : zcl 10 23 = some 0 := by decide +kernel
theorem zc_10_29 : zcl 10 29 = some 1 := by decide +kernel
theorem zc_10_35 : zcl 10 35 = some 4 := by decide +kernel
theorem zc_10_42 : zcl 10 42 = some 6 := by decide +kernel
theorem zc_10_49 : zcl 10 49 = some 2 := by decide +kernel
theorem zc_10_81 : zcl 10 81 = some 7 := by decide +kernel
theorem zc_12_8 : zcl 12 8 = some 10 := by decide +kernel
theorem zc_12_25 : zcl 12 25 = some 11 := by decide +kernel
def zAL : List (Nat × Nat × Nat × Nat × Nat × Nat) := [(0, 9, 18, 3, 485, 486), (8, 9, 19, 7, 148, 149), (10, 23, 16, 0, 162, 163), (10, 29, 17, 1, 164, 165), (10, 81, 19, 7, 274, 149)]
def zaOk (e : Nat × Nat × Nat × Nat × Nat × Nat) : Bool := match vwCl[e.2.2.2.1]? with
  | some q => decide (lw_tbl[e.2.2.2.2.1]? = some (.classLink (zRn e.1) e.2.1 q.1)) && decide (lw_tbl[e.2.2.2.2.2]? = some (.arrayOver (.object q.1))) && decide (zty e.2.2.1 0 = .object q.1) && decide (16 ≤ e.2.2.1) && decide (e.2.2.1 < 20)
  | none => false
theorem zAL_ok : zAL.all zaOk = true := by decide +kernel
def zal (c i : Nat) : Option Nat := (zAL.find? (fun e => Nat.beq e.1 c && Nat.beq e.2.1 i)).map (fun e => e.2.2.1)
theorem za_0_9 : zal 0 9 = some 18 := by decide +kernel
theorem za_8_9 : zal 8 9 = some 19 := by decide +kernel
theorem za_10_23 : zal 10 23 = some 16 := by decide +kernel
theorem za_10_29 : zal 10 29 = some 17 := by decide +kernel
theorem za_10_81 : zal 10 81 = some 19 := by decide +kernel
def zIL : List (Nat × Nat × Int32 × Nat) := [(10, 255, 1103515245, 627), (11, 222, 1103515245, 1169)]
theorem zIL_ok : zIL.all (fun e => decide (lw_tbl[e.2.2.2]? = some (.constant (zRn e.1) e.2.1 e.2.2.1))) = true := by decide +kernel
def zic (c i : Nat) : Option Int32 := (zIL.find? (fun e => Nat.beq e.1 c && Nat.beq e.2.1 i)).map (fun e => e.2.2.1)
def zJL : List (Nat × Nat × Int64 × Nat) := [(2, 29, -1, 777), (6, 24, -1, 736), (10, 208, -1, 667), (10, 290, 10000, 692), (10, 292, 100, 696), (11, 233, 10000, 1215), (11, 235, 99, 1216), (11, 237, 100, 1217), (11, 246, -1, 1206)]
theorem zJL_ok : zJL.all (fun e => decide (lw_tbl[e.2.2.2]? = some (.constantLong (zRn e.1) e.2.1 e.2.2.1))) = true := by decide +kernel
def zjc (c i : Nat) : Option Int64 := (zJL.find? (fun e => Nat.beq e.1 c && Nat.beq e.2.1 i)).map (fun e => e.2.2.1)
theorem zi_10_255 : zic 10 255 = some 1103515245 := by decide +kernel
theorem zi_11_222 : zic 11 222 = some 1103515245 := by decide +kernel
theorem zj_2_29 : zjc 2 29 = some (-1) := by decide +kernel
theorem zj_6_24 : zjc 6 24 = some (-1) := by decide +kernel
theorem zj_10_208 : zjc 10 208 = some (-1) := by decide +kernel
theorem zj_10_290 : zjc 10 290 = some (10000) := by decide +kernel
theorem zj_10_292 : zjc 10 292 = some (100) := by decide +kernel
theorem zj_11_233 : zjc 11 233 = some (10000) := by decide +kernel
theorem zj_11_235 : zjc 11 235 = some (99) := by decide +kernel
theorem zj_11_237 : zjc 11 237 = some (100) := by decide +kernel
theorem zj_11_246 : zjc 11 246 = some (-1) := by decide +kernel
theorem zlay_0 : u_ws RX0 TX0 4 = ([493, 495, 497, 499] : List Nat).filterMap (fun i => lw_tbl[i]?) := by decide +kernel
theorem zlay_1 : u_ws RX1 TX1 8 = ([590, 592, 594, 596, 598, 600, 602, 604] : List Nat).filterMap (fun i => lw_tbl[i]?) := by decide +kernel
theorem zlay_2 : u_ws RX2 TX2 5 = ([206, 208, 210, 212, 214] : List Nat).filterMap (fun i => lw_tbl[i]?) := by decide +kernel
theorem zlay_3 : u_ws RX3 TX3 4 = ([530, 532, 534, 536] : List Nat).filterMap (fun i => lw_tbl[i]?) := by decide +kernel
theorem zlay_4 : u_ws RX4 TX4 1 = ([173] : List Nat).filterMap (fun i => lw_tbl[i]?) := by decide +kernel
theorem zlay_5 : u_ws RX5 TX5 4 = ([132, 134, 136, 138] : List Nat).filterMap (fun i => lw_tbl[i]?) := by decide +kernel
theorem zlay_6 : u_ws RX6 TX6 3 = ([186, 188, 190] : List Nat).filterMap (fun i => lw_tbl[i]?) := by decide +kernel
theorem zlay_7 : u_ws RX7 TX7 5 = ([288, 290, 292, 294, 296] : List Nat).filterMap (fun i => lw_tbl[i]?) := by decide +kernel
theorem zlay_8 : u_ws RX8 TX8 3 = ([155, 157, 159] : List Nat).filterMap (fun i => lw_tbl[i]?) := by decide +kernel
theorem zlay_9 : u_ws RX9 TX9 7 = ([109, 111, 113, 115, 117, 119, 121] : List Nat).filterMap (fun i => lw_tbl[i]?) := by decide +kernel
theorem zlay_10 : u_ws RX10 TX10 11 = ([228, 230, 232, 234, 236, 238, 240, 242, 244, 246, 248] : List Nat).filterMap (fun i => lw_tbl[i]?) := by decide +kernel
theorem zlay_11 : u_ws RX11 TX11 52 = ([948, 950, 952, 954, 956, 958, 960, 962, 964, 966, 968, 970, 972, 974, 976, 978, 980, 982, 984, 986, 988, 990, 992, 994, 996, 998, 1000, 1002, 1004, 1006, 1008, 1010, 1012, 1014, 1016, 1018, 1020, 1022, 1024, 1026, 1028, 1030, 1032, 1034, 1036, 1038, 1040, 1042, 1044, 1046, 1048, 1050] : List Nat).filterMap (fun i => lw_tbl[i]?) := by decide +kernel
