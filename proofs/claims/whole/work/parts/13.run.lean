/-! THE RUNNER: zrn evaluates a method's instructions over a concrete list of locals and a stack whose values show their kinds; what it can't decide it asks for. -/
section
abbrev zLs : Type := List (Option Value)
def zLo (l : zLs) : Nat → Option Value := fun i => (l[i]?).getD none
def zkl : Option Value → Option Value
  | some (.long _) => none
  | some (.double _) => none
  | x => x
def zset1 : zLs → Nat → Value → zLs
  | [], _, _ => []
  | _ :: t, 0, v => some v :: t
  | x :: t, i + 1, v => (match i with
    | 0 => zkl x
    | _ + 1 => x) :: zset1 t i v
def zset2 : zLs → Nat → Value → zLs
  | [], _, _ => []
  | _ :: [], 0, v => [some v]
  | _ :: _ :: t, 0, v => some v :: none :: t
  | x :: t, i + 1, v => (match i with
    | 0 => zkl x
    | _ + 1 => x) :: zset2 t i v
theorem zkl_some {x : Option Value} {w : Value} (h : zkl x = some w) : x = some w ∧ w.category ≠ 2 := by
  rcases x with _ | x
  · cases h
  · cases x <;> first | (cases h; done) | (cases h; exact ⟨rfl, by simp [Value.category]⟩)
theorem zset1_lo : ∀ (l : zLs) (i : Nat) (v : Value) (j : Nat) (w : Value), zLo (zset1 l i v) j = some w → zs1 (zLo l) i v j = some w
  | [], i, v, j, w, h => by simp [zset1, zLo] at h
  | x :: t, 0, v, 0, w, h => by simpa [zset1, zLo, zs1] using h
  | x :: t, 0, v, j + 1, w, h => by simpa [zset1, zLo, zs1] using h
  | x :: t, 1, v, 0, w, h => by
    have h' : zkl x = some w := by simpa [zset1, zLo] using h
    obtain ⟨h1, h2⟩ := zkl_some h'
    subst h1
    cases w <;> simp_all [zs1, zLo, Value.category]
  | x :: t, i + 2, v, 0, w, h => by
    have h' : x = some w := by simpa [zset1, zLo] using h
    simp only [zs1, zLo]
    rw [if_neg (by omega), if_neg (by omega)]
    simpa using h'
  | x :: t, i + 1, v, j + 1, w, h => by
    have h' : zLo (zset1 t i v) j = some w := by simpa [zset1, zLo] using h
    have ih := zset1_lo t i v j w h'
    simp only [zs1, zLo, List.getElem?_cons_succ, Nat.add_right_cancel_iff] at ih ⊢
    exact ih
theorem zset2_lo : ∀ (l : zLs) (i : Nat) (v : Value) (j : Nat) (w : Value), zLo (zset2 l i v) j = some w → zs2 (zLo l) i v j = some w
  | [], i, v, j, w, h => by simp [zset2, zLo] at h
  | [x], 0, v, 0, w, h => by simpa [zset2, zLo, zs2] using h
  | [x], 0, v, j + 1, w, h => by simp [zset2, zLo] at h
  | x :: y :: t, 0, v, 0, w, h => by simpa [zset2, zLo, zs2] using h
  | x :: y :: t, 0, v, 1, w, h => by simp [zset2, zLo] at h
  | x :: y :: t, 0, v, j + 2, w, h => by simpa [zset2, zLo, zs2] using h
  | x :: t, 1, v, 0, w, h => by
    have h' : zkl x = some w := by cases t <;> simpa [zset2, zLo] using h
    obtain ⟨h1, h2⟩ := zkl_some h'
    subst h1
    cases w <;> simp_all [zs2, zLo, Value.category]
  | x :: t, i + 2, v, 0, w, h => by
    have h' : x = some w := by cases t <;> simpa [zset2, zLo] using h
    simp only [zs2, zLo]
    rw [if_neg (by omega), if_neg (by omega), if_neg (by omega)]
    simpa using h'
  | x :: t, i + 1, v, j + 1, w, h => by
    have h' : zLo (zset2 t i v) j = some w := by cases t <;> simpa [zset2, zLo] using h
    have ih := zset2_lo t i v j w h'
    simp only [zs2, zLo, List.getElem?_cons_succ, Nat.add_right_cancel_iff] at ih ⊢
    exact ih
theorem Z_mono {l : Launch} {G : zG} {mi : zMI} {Q : zPo} {PX : String → zS → Prop} {pc : Nat} {L L' : Nat → Option Value} {S : List Value} {σ : zS} {kc ks : Nat} (hL : ∀ i v, L i = some v → L' i = some v) (h : Z l G mi Q PX pc L S σ kc ks) : Z l G mi Q PX pc L' S σ kc ks :=
  fun p e s m args below meth c C H locs ls hR hz hlo hl => h p e s m args below meth c C H locs ls hR hz hlo ⟨hl.1, hl.2.1, fun i v hi => hl.2.2 i v (hL i v hi)⟩
-- pops
def zpi (S : List Value) (k : Int32 → List Value → Prop) : Prop := match S with
  | .int x :: S => k x S
  | _ => False
def zpl (S : List Value) (k : Int64 → List Value → Prop) : Prop := match S with
  | .long x :: S => k x S
  | _ => False
def zpn (S : List Value) (k : Nat → List Value → Prop) : Prop := match S with
  | .ref x :: S => k x S
  | _ => False
/-- a reference or null off the stack, as a value -/
def zpr (S : List Value) (k : Option Nat → List Value → Prop) : Prop := match S with
  | .ref x :: S => k (some x) S
  | .null :: S => k none S
  | _ => False
def zp1 (S : List Value) (k : Value → List Value → Prop) : Prop := match S with
  | v :: S => Nat.beq v.category 1 = true ∧ k v S
  | _ => False
def zgi (x : Option Value) (k : Int32 → Prop) : Prop := match x with
  | some (.int x) => k x
  | _ => False
def zgl (x : Option Value) (k : Int64 → Prop) : Prop := match x with
  | some (.long x) => k x
  | _ => False
def zgr (x : Option Value) (k : Value → Prop) : Prop := match x with
  | some (.ref n) => k (.ref n)
  | some .null => k .null
  | _ => False
abbrev zTb : Type := List (Nat × Instr × Nat)
def zfrom : zTb → Nat → zTb
  | [], _ => []
  | x :: t, pc => bif Nat.beq x.1 pc then x :: t else zfrom t pc
def zjt (pc : Nat) (off : Int) : Nat := match off with
  | .ofNat k => pc + k
  | .negSucc k => pc - (k + 1)
def zcmp (c : ClassFile.Cond) (x y : Int32) (a b : Prop) : Prop := match c with
  | .eq => (x = y → a) ∧ (¬ x = y → b)
  | .ne => (¬ x = y → a) ∧ (x = y → b)
  | .lt => (x < y → a) ∧ (¬ x < y → b)
  | .ge => (y ≤ x → a) ∧ (¬ y ≤ x → b)
  | .gt => (y < x → a) ∧ (¬ y < x → b)
  | .le => (x ≤ y → a) ∧ (¬ x ≤ y → b)
def zsw (x : Int32) (lo : Int) (offs : List Int) (k : Int → Prop) : Prop := match offs with
  | [] => True
  | o :: t => (x.toInt = lo → k o) ∧ zsw x (lo + 1) t k
def zrn (l : Launch) (G : zG) (mi : zMI) (Q : zPo) (PX : String → zS → Prop) (tb : zTb) (cuts : List Nat) : Nat → Bool → zTb → zLs → List Value → (Nat → Nat) → (Nat → Nat) → (Nat → Nat → Int32) → (Nat → Nat → Int64) → (Nat → Nat → Option Nat) → Nat → Nat → Nat → Prop
  | 0, _, _, _, _, _, _, _, _, _, _, _, _ => False
  | _ + 1, _, [], _, _, _, _, _, _, _, _, _, _ => False
  | f + 1, b, (pc, ins, len) :: rest, lo, S, K, N, I, J, R, nx, kc, ks => bif b && cuts.elem pc then Z l G mi Q PX pc (zLo lo) S (K, N, I, J, R, nx) kc ks else (match ins with
  | .iadd => zpi S fun y S => zpi S fun x S => zrn l G mi Q PX tb cuts f true rest lo (.int (x + y) :: S) K N I J R nx kc ks
  | .isub => zpi S fun y S => zpi S fun x S => zrn l G mi Q PX tb cuts f true rest lo (.int (x - y) :: S) K N I J R nx kc ks
  | .imul => zpi S fun y S => zpi S fun x S => zrn l G mi Q PX tb cuts f true rest lo (.int (x * y) :: S) K N I J R nx kc ks
  | .iand => zpi S fun y S => zpi S fun x S => zrn l G mi Q PX tb cuts f true rest lo (.int (x &&& y) :: S) K N I J R nx kc ks
  | .ishr => zpi S fun y S => zpi S fun x S => zrn l G mi Q PX tb cuts f true rest lo (.int (x >>> (y &&& 31)) :: S) K N I J R nx kc ks
  | .idiv => zpi S fun y S => zpi S fun x S => ¬ y = 0 ∧ zrn l G mi Q PX tb cuts f true rest lo (.int (x / y) :: S) K N I J R nx kc ks
  | .irem => zpi S fun y S => zpi S fun x S => ¬ y = 0 ∧ zrn l G mi Q PX tb cuts f true rest lo (.int (x - x / y * y) :: S) K N I J R nx kc ks
  | .ladd => zpl S fun y S => zpl S fun x S => zrn l G mi Q PX tb cuts f true rest lo (.long (x + y) :: S) K N I J R nx kc ks
  | .lsub => zpl S fun y S => zpl S fun x S => zrn l G mi Q PX tb cuts f true rest lo (.long (x - y) :: S) K N I J R nx kc ks
  | .lmul => zpl S fun y S => zpl S fun x S => zrn l G mi Q PX tb cuts f true rest lo (.long (x * y) :: S) K N I J R nx kc ks
  | .ldiv => zpl S fun y S => zpl S fun x S => ¬ y = 0 ∧ zrn l G mi Q PX tb cuts f true rest lo (.long (x / y) :: S) K N I J R nx kc ks
  | .lrem => zpl S fun y S => zpl S fun x S => ¬ y = 0 ∧ zrn l G mi Q PX tb cuts f true rest lo (.long (x - x / y * y) :: S) K N I J R nx kc ks
  | .lcmp => zpl S fun y S => zpl S fun x S => zrn l G mi Q PX tb cuts f true rest lo (.int (lg_cmp x y) :: S) K N I J R nx kc ks
  | .i2l => zpi S fun x S => zrn l G mi Q PX tb cuts f true rest lo (.long x.toInt64 :: S) K N I J R nx kc ks
  | .i2b => zpi S fun x S => zrn l G mi Q PX tb cuts f true rest lo (.int x.toInt8.toInt32 :: S) K N I J R nx kc ks
  | .iconst i => zrn l G mi Q PX tb cuts f true rest lo (.int (Int32.ofInt i) :: S) K N I J R nx kc ks
  | .bipush i => zrn l G mi Q PX tb cuts f true rest lo (.int (Int8.ofInt i).toInt32 :: S) K N I J R nx kc ks
  | .sipush i => zrn l G mi Q PX tb cuts f true rest lo (.int (Int16.ofInt i).toInt32 :: S) K N I J R nx kc ks
  | .lconst i => zrn l G mi Q PX tb cuts f true rest lo (.long (Int64.ofNat i.val) :: S) K N I J R nx kc ks
  | .aconst_null => zrn l G mi Q PX tb cuts f true rest lo (.null :: S) K N I J R nx kc ks
  | .iload_n i => zgi (zLo lo i.val) fun x => zrn l G mi Q PX tb cuts f true rest lo (.int x :: S) K N I J R nx kc ks
  | .iload i => zgi (zLo lo i) fun x => zrn l G mi Q PX tb cuts f true rest lo (.int x :: S) K N I J R nx kc ks
  | .lload_n i => zgl (zLo lo i.val) fun x => zrn l G mi Q PX tb cuts f true rest lo (.long x :: S) K N I J R nx kc ks
  | .lload i => zgl (zLo lo i) fun x => zrn l G mi Q PX tb cuts f true rest lo (.long x :: S) K N I J R nx kc ks
  | .aload_n i => zgr (zLo lo i.val) fun v => zrn l G mi Q PX tb cuts f true rest lo (v :: S) K N I J R nx kc ks
  | .aload i => zgr (zLo lo i) fun v => zrn l G mi Q PX tb cuts f true rest lo (v :: S) K N I J R nx kc ks
  | .istore_n i => zpi S fun x S => Nat.blt i.val (zmaxL mi) = true ∧ zrn l G mi Q PX tb cuts f true rest (zset1 lo i.val (.int x)) S K N I J R nx kc ks
  | .istore i => zpi S fun x S => Nat.blt i (zmaxL mi) = true ∧ zrn l G mi Q PX tb cuts f true rest (zset1 lo i (.int x)) S K N I J R nx kc ks
  | .lstore_n i => zpl S fun x S => Nat.blt (i.val + 1) (zmaxL mi) = true ∧ zrn l G mi Q PX tb cuts f true rest (zset2 lo i.val (.long x)) S K N I J R nx kc ks
  | .lstore i => zpl S fun x S => Nat.blt (i + 1) (zmaxL mi) = true ∧ zrn l G mi Q PX tb cuts f true rest (zset2 lo i (.long x)) S K N I J R nx kc ks
  | .astore_n i => zpr S fun r S => Nat.blt i.val (zmaxL mi) = true ∧ zrn l G mi Q PX tb cuts f true rest (zset1 lo i.val (va_rf r)) S K N I J R nx kc ks
  | .astore i => zpr S fun r S => Nat.blt i (zmaxL mi) = true ∧ zrn l G mi Q PX tb cuts f true rest (zset1 lo i (va_rf r)) S K N I J R nx kc ks
  | .iinc i n => zgi (zLo lo i) fun x => zrn l G mi Q PX tb cuts f true rest (zset1 lo i (.int (x + Int32.ofInt n))) S K N I J R nx kc ks
  | .dup => zp1 S fun v S => zrn l G mi Q PX tb cuts f true rest lo (v :: v :: S) K N I J R nx kc ks
  | .pop => zp1 S fun v S => zrn l G mi Q PX tb cuts f true rest lo S K N I J R nx kc ks
  | .dup2 => zp1 S fun v S => zp1 S fun w S => zrn l G mi Q PX tb cuts f true rest lo (v :: w :: v :: w :: S) K N I J R nx kc ks
  | .if_icmp cc off => zpi S fun y S => zpi S fun x S => (pc : Int) + off = (zjt pc off : Int) ∧ zcmp cc x y (zrn l G mi Q PX tb cuts f true (zfrom tb (zjt pc off)) lo S K N I J R nx kc ks) (zrn l G mi Q PX tb cuts f true rest lo S K N I J R nx kc ks)
  | .ifCond cc off => zpi S fun x S => (pc : Int) + off = (zjt pc off : Int) ∧ zcmp cc x 0 (zrn l G mi Q PX tb cuts f true (zfrom tb (zjt pc off)) lo S K N I J R nx kc ks) (zrn l G mi Q PX tb cuts f true rest lo S K N I J R nx kc ks)
  | .goto off => (pc : Int) + off = (zjt pc off : Int) ∧ zrn l G mi Q PX tb cuts f true (zfrom tb (zjt pc off)) lo S K N I J R nx kc ks
  | .ifnull off => zpr S fun r S => (pc : Int) + off = (zjt pc off : Int) ∧ (match r with
      | none => zrn l G mi Q PX tb cuts f true (zfrom tb (zjt pc off)) lo S K N I J R nx kc ks
      | some _ => zrn l G mi Q PX tb cuts f true rest lo S K N I J R nx kc ks)
  | .ifnonnull off => zpr S fun r S => (pc : Int) + off = (zjt pc off : Int) ∧ (match r with
      | none => zrn l G mi Q PX tb cuts f true rest lo S K N I J R nx kc ks
      | some _ => zrn l G mi Q PX tb cuts f true (zfrom tb (zjt pc off)) lo S K N I J R nx kc ks)
  | .tableswitch dflt low hi offs => zpi S fun x S => ((offs.toList.length : Int) = hi - low + 1 ∧ ((pc : Int) + dflt = (zjt pc dflt : Int) ∧ ∀ o ∈ offs.toList, (pc : Int) + o = (zjt pc o : Int))) ∧ ((x.toInt < low ∨ hi < x.toInt → zrn l G mi Q PX tb cuts f true (zfrom tb (zjt pc dflt)) lo S K N I J R nx kc ks) ∧ zsw x low offs.toList (fun o => zrn l G mi Q PX tb cuts f true (zfrom tb (zjt pc o)) lo S K N I J R nx kc ks))
  | .getfield i => match zfr (zcN mi) i with
    | some (ci, k, t, _) => zpn S fun n S => K n = ci ∧ (match t with
      | 0 => zrn l G mi Q PX tb cuts f true rest lo (.int (I n k) :: S) K N I J R nx kc ks
      | 1 => zrn l G mi Q PX tb cuts f true rest lo (.long (J n k) :: S) K N I J R nx kc ks
      | 2 => ∃ r, R n k = r ∧ zrn l G mi Q PX tb cuts f true rest lo (va_rf r :: S) K N I J R nx kc ks
      | 3 => zrn l G mi Q PX tb cuts f true rest lo (.int (I n k) :: S) K N I J R nx kc ks
      | _ => False)
    | none => False
  | .putfield i => match zfr (zcN mi) i with
    | some (ci, k, t, fin) => (!fin || (zini mi && Nat.beq (zcN mi) ci)) = true ∧ (match t with
      | 0 => zpi S fun x S => zpn S fun n S => K n = ci ∧ zrn l G mi Q PX tb cuts f true rest lo S K N (zu2 I n k x) J R nx kc ks
      | 1 => zpl S fun x S => zpn S fun n S => K n = ci ∧ zrn l G mi Q PX tb cuts f true rest lo S K N I (zu2 J n k x) R nx kc ks
      | 2 => zpr S fun x S => zpn S fun n S => K n = ci ∧ zrn l G mi Q PX tb cuts f true rest lo S K N I J (zu2 R n k x) nx kc ks
      | 3 => zpi S fun x S => zpn S fun n S => K n = ci ∧ (x = 0 ∨ x = 1) ∧ zrn l G mi Q PX tb cuts f true rest lo S K N (zu2 I n k x) J R nx kc ks
      | _ => False)
    | none => False
  | .arraylength => zpn S fun n S => (Nat.ble 12 (K n) = true ∧ Nat.blt (K n) 20 = true) ∧ zrn l G mi Q PX tb cuts f true rest lo (.int (nI (N n)) :: S) K N I J R nx kc ks
  | .iaload => zpi S fun i S => zpn S fun n S => K n = 13 ∧ vp_in i (N n) ∧ zrn l G mi Q PX tb cuts f true rest lo (.int (I n i.toNatClampNeg) :: S) K N I J R nx kc ks
  | .laload => zpi S fun i S => zpn S fun n S => K n = 14 ∧ vp_in i (N n) ∧ zrn l G mi Q PX tb cuts f true rest lo (.long (J n i.toNatClampNeg) :: S) K N I J R nx kc ks
  | .baload => zpi S fun i S => zpn S fun n S => (Nat.beq (K n) 12 || Nat.beq (K n) 15) = true ∧ vp_in i (N n) ∧ zrn l G mi Q PX tb cuts f true rest lo (.int (I n i.toNatClampNeg) :: S) K N I J R nx kc ks
  | .aaload => zpi S fun i S => zpn S fun n S => (Nat.ble 16 (K n) = true ∧ Nat.blt (K n) 20 = true) ∧ vp_in i (N n) ∧ ∃ r, R n i.toNatClampNeg = r ∧ zrn l G mi Q PX tb cuts f true rest lo (va_rf r :: S) K N I J R nx kc ks
  | .iastore => zpi S fun x S => zpi S fun i S => zpn S fun n S => K n = 13 ∧ vp_in i (N n) ∧ zrn l G mi Q PX tb cuts f true rest lo S K N (zu2 I n i.toNatClampNeg x) J R nx kc ks
  | .lastore => zpl S fun x S => zpi S fun i S => zpn S fun n S => K n = 14 ∧ vp_in i (N n) ∧ zrn l G mi Q PX tb cuts f true rest lo S K N I (zu2 J n i.toNatClampNeg x) R nx kc ks
  | .bastore => zpi S fun x S => zpi S fun i S => zpn S fun n S => ∃ b : Bool, K n = (bif b then 15 else 12) ∧ vp_in i (N n) ∧ zrn l G mi Q PX tb cuts f true rest lo S K N (zu2 I n i.toNatClampNeg (bif b then x &&& 1 else x.toInt8.toInt32)) J R nx kc ks
  | .aastore => zpn S fun x S => zpi S fun i S => zpn S fun n S => (Nat.ble 16 (K n) = true ∧ Nat.blt (K n) 20 = true) ∧ K x = zel (K n) ∧ vp_in i (N n) ∧ zrn l G mi Q PX tb cuts f true rest lo S K N I J (zu2 R n i.toNatClampNeg (some x)) nx kc ks
  | .new i => match zcl (zcN mi) i with
    | some ci => (Nat.ble (kc + 1) (zmc mi) = true ∧ Nat.ble (ks + zNf ci) (zms mi) = true) ∧ zrn l G mi Q PX tb cuts f true rest lo (.ref nx :: S) (zu1 K nx ci) (zu1 N nx 0) (zu1 I nx (fun _ => 0)) (zu1 J nx (fun _ => 0)) (zu1 R nx (fun _ => none)) (nx + 1) (kc + 1) (ks + zNf ci)
    | none => False
  | .newarray t => match zak t with
    | some kd => zpi S fun n S => ∃ a : Nat, (n = nI a ∧ Nat.ble a 65536 = true ∧ Nat.ble (kc + 1) (zmc mi) = true ∧ Nat.ble (ks + a) (zms mi) = true) ∧ zrn l G mi Q PX tb cuts f true rest lo (.ref nx :: S) (zu1 K nx kd) (zu1 N nx a) (zu1 I nx (fun _ => 0)) (zu1 J nx (fun _ => 0)) (zu1 R nx (fun _ => none)) (nx + 1) (kc + 1) (ks + a)
    | none => False
  | .anewarray i => match zal (zcN mi) i with
    | some kd => zpi S fun n S => ∃ a : Nat, (n = nI a ∧ Nat.ble a 65536 = true ∧ Nat.ble (kc + 1) (zmc mi) = true ∧ Nat.ble (ks + a) (zms mi) = true) ∧ zrn l G mi Q PX tb cuts f true rest lo (.ref nx :: S) (zu1 K nx kd) (zu1 N nx a) (zu1 I nx (fun _ => 0)) (zu1 J nx (fun _ => 0)) (zu1 R nx (fun _ => none)) (nx + 1) (kc + 1) (ks + a)
    | none => False
  | .ireturn => match S with
    | [.int x] => (Nat.ble kc (zmc mi) = true ∧ Nat.ble ks (zms mi) = true) ∧ (match zret mi with
      | some .int => (True → Q (some (.int x)) (K, N, I, J, R, nx))
      | some .boolean => ((x = 0 ∨ x = 1) → Q (some (.int x)) (K, N, I, J, R, nx)) ∧ (x = 0 ∨ x = 1)
      | _ => False)
    | _ => False
  | .lreturn => match S with
    | [.long x] => (Nat.ble kc (zmc mi) = true ∧ Nat.ble ks (zms mi) = true) ∧ zret mi = some .long ∧ (True → Q (some (.long x)) (K, N, I, J, R, nx))
    | _ => False
  | .areturn => match S with
    | [v] => (Nat.ble kc (zmc mi) = true ∧ Nat.ble ks (zms mi) = true) ∧ (∃ Cn, zret mi = some (.object Cn)) ∧ zisr v ∧ (True → Q (some v) (K, N, I, J, R, nx))
    | _ => False
  | .return_ => match S with
    | [] => (Nat.ble kc (zmc mi) = true ∧ Nat.ble ks (zms mi) = true) ∧ zret mi = none ∧ (True → Q none (K, N, I, J, R, nx))
    | _ => False
  | .ldc i => match zic (zcN mi) i with
    | some v => zrn l G mi Q PX tb cuts f true rest lo (.int v :: S) K N I J R nx kc ks
    | none => Z l G mi Q PX pc (zLo lo) S (K, N, I, J, R, nx) kc ks
  | .ldc2_w i => match zjc (zcN mi) i with
    | some v => zrn l G mi Q PX tb cuts f true rest lo (.long v :: S) K N I J R nx kc ks
    | none => False
  | _ => Z l G mi Q PX pc (zLo lo) S (K, N, I, J, R, nx) kc ks)
end
