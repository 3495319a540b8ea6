/-! THE ABSTRACT MACHINE. A state of it: kinds K, lengths N, ints I, longs J, references R (by names of cells), the next name.
Names below 32 are given ones (string constants, the script); name 32 + k is the k-th cell made since the law's entry. -/
abbrev zS : Type := (Nat → Nat) × (Nat → Nat) × (Nat → Nat → Int32) × (Nat → Nat → Int64) × (Nat → Nat → Option Nat) × Nat
abbrev zG : Type := State × (Nat → ClassId) × (Nat → Nat → Nat) × (Nat → ClassId) × (Nat → Nat)
abbrev zs0 (G : zG) : State := G.1
abbrev zdC (G : zG) : Nat → ClassId := G.2.1
abbrev zdI (G : zG) : Nat → Nat → Nat := G.2.2.1
abbrev zaC (G : zG) : Nat → ClassId := G.2.2.2.1
abbrev zaS (G : zG) : Nat → Nat := G.2.2.2.2
abbrev zbase (G : zG) : Nat := G.1.heap.size
def zad (G : zG) (n : Nat) : Nat := if n < 32 then zaS G n else zbase G + (n - 32)
def zcv (G : zG) : Value → Value
  | .ref n => .ref (zad G n)
  | v => v
-- kinds 0 to 11: objects of the classes of vwCl; 12 byte[], 13 int[], 14 long[], 15 boolean[], 16 Farm[], 17 Fire[], 18 Note[], 19 Statute[]
def zft (ty : FieldType) : Nat := match ty with
  | .long => 1
  | .object _ => 2
  | .array _ => 2
  | _ => 0
def zty (kd : Nat) : Nat → FieldType := match kd with
  | 0 => tyX0
  | 1 => tyX1
  | 2 => tyX2
  | 3 => tyX3
  | 4 => tyX4
  | 5 => tyX5
  | 6 => tyX6
  | 7 => tyX7
  | 8 => tyX8
  | 9 => tyX9
  | 10 => tyX10
  | 11 => tyX11
  | 12 => fun _ => .byte
  | 13 => fun _ => .int
  | 14 => fun _ => .long
  | 15 => fun _ => .boolean
  | 16 => fun _ => .object RX0
  | 17 => fun _ => .object RX1
  | 18 => fun _ => .object RX3
  | _ => fun _ => .object RX7
def zvt (kd k : Nat) : Nat := zft (zty kd k)
def zNf (kd : Nat) : Nat := ([4, 8, 5, 4, 1, 4, 3, 5, 3, 7, 11, 52] : List Nat).getD kd 0
def zvx (K : Nat → Nat) (I : Nat → Nat → Int32) (J : Nat → Nat → Int64) (R : Nat → Nat → Option Nat) (n k : Nat) : Value := if zvt (K n) k = 0 then .int (I n k) else if zvt (K n) k = 1 then .long (J n k) else va_rf (R n k)
def zval (σ : zS) (n k : Nat) : Value := zvx σ.1 σ.2.2.1 σ.2.2.2.1 σ.2.2.2.2.1 n k
def zR (G : zG) (σ : zS) (H : Heap) : Prop :=
  (32 ≤ σ.2.2.2.2.2 ∧ H.size = zbase G + (σ.2.2.2.2.2 - 32) ∧ (∀ n, σ.2.2.2.2.2 ≤ n → 20 ≤ σ.1 n) ∧ (∀ n, n < 32 → 20 ≤ σ.1 n)) ∧
  (∀ n, σ.1 n < 12 → t_OB (zad G n) (zdC G (σ.1 n)) (zNf (σ.1 n)) (zdI G (σ.1 n)) H (fun k => zcv G (zval σ n k))) ∧
  (∀ n, 12 ≤ σ.1 n → σ.1 n < 20 → H[zad G n]? = some (arrV (zaC G (σ.1 n)) (σ.2.1 n) (fun k => zcv G (zval σ n k)))) ∧
  (∀ q : Nat, q < zbase G → H[q]? = (zs0 G).heap[q]?)
def zTys (G : zG) : List (ClassId × FieldType) := [(zaC G 12, .byte), (zaC G 13, .int), (zaC G 14, .long), (zaC G 15, .boolean), (zaC G 16, .object RX0), (zaC G 17, .object RX1), (zaC G 18, .object RX3), (zaC G 19, .object RX7)]
/-- what holds of the law's entry: the tables' words, the classes, what the Statement gives -/
def zOK (l : Launch) (G : zG) : Prop :=
  (∀ w ∈ lw_tbl, w.before #[Value.ref (zaS G 16)] (zs0 G) = true) ∧ va_K (zdC G, zdI G) vwCl (zTys G) (zs0 G) ∧ l.stackTraces = false ∧ (Jvm.Cond.and given_1 narrow_1).before #[Value.ref (zaS G 16)] (zs0 G) = true
theorem zw {l : Launch} {G : zG} (hG : zOK l G) {s : State} (hW : (zs0 G).WarmedH s.vm) {w : Cond} (hm : w ∈ lw_tbl) (hg : goodWord w = true) (a : Array Value) : w.before a s = true := word_at hW (good_of_word hg) (hG.1 w hm)
theorem zKs {l : Launch} {G : zG} (hG : zOK l G) {s : State} (hW : (zs0 G).WarmedH s.vm) : va_K (zdC G, zdI G) vwCl (zTys G) s := va_K.moved hW.alike hG.2.1
-- a method: name, code, locals, what it returns, how deep it calls, new cells and slots, the number of its class, is it a constructor
abbrev zMI : Type := MethodName × ByteArray × Nat × Option FieldType × Nat × Nat × Nat × Nat × Bool
abbrev zy (mi : zMI) : MethodName := mi.1
abbrev zcode (mi : zMI) : ByteArray := mi.2.1
abbrev zmaxL (mi : zMI) : Nat := mi.2.2.1
abbrev zret (mi : zMI) : Option FieldType := mi.2.2.2.1
abbrev zd (mi : zMI) : Nat := mi.2.2.2.2.1
abbrev zmc (mi : zMI) : Nat := mi.2.2.2.2.2.1
abbrev zms (mi : zMI) : Nat := mi.2.2.2.2.2.2.1
abbrev zcN (mi : zMI) : Nat := mi.2.2.2.2.2.2.2.1
abbrev zini (mi : zMI) : Bool := mi.2.2.2.2.2.2.2.2
def zrm (mi : zMI) : Room := { frames := zd mi, cells := zmc mi, slots := zms mi, locals := 36 * zd mi }
abbrev zPo : Type := Option Value → zS → Prop
def zfree (G : zG) : Nat → Prop := fun q => zbase G ≤ q
def zQc (G : zG) (Q : zPo) : Array Value → State → Outcome → State → Prop := fun _ st o t => st.heap.size ≤ t.heap.size ∧ ∃ (r : Option Value) (σ : zS), o = .returned (r.map (zcv G)) ∧ zR G σ t.heap ∧ Q r σ
def zXC (G : zG) (PX : String → zS → Prop) : String → State → State → Prop := fun E st t => st.heap.size ≤ t.heap.size ∧ ∃ σ : zS, zR G σ t.heap ∧ PX E σ
def zPc (G : zG) (As : List Value) (σ : zS) : Array Value → State → Prop := va_Pc (As.map (zcv G)) (fun U => zR G σ U.heap ∧ (zs0 G).WarmedH U.vm)
/-- a contract: from the state σ with these arguments the method returns with Q, or throws with PX -/
def zRunsX (l : Launch) (G : zG) (mi : zMI) (As : List Value) (σ : zS) (Q : zPo) (PX : String → zS → Prop) : Prop :=
  vx_Met l (zy mi) [.code (zy mi) (zcode mi) (zmaxL mi) (zret mi)] (zrm mi) (zPc G As σ) (zQc G Q) (zXC G PX) (zmc mi) (zms mi) (zfree G)
def zRuns (l : Launch) (G : zG) (mi : zMI) (As : List Value) (σ : zS) (Q : zPo) : Prop :=
  Met l (zy mi) [.code (zy mi) (zcode mi) (zmaxL mi) (zret mi)] (zrm mi) (zPc G As σ) (zQc G Q) (zmc mi) (zms mi) (zfree G)
/-- the locals by their numbers -/
def zL (G : zG) (nL : Nat) (ls : Array Slot) (L : Nat → Option Value) : Prop := ls.size = nL ∧ lv_wf ls ∧ ∀ (i : Nat) (v : Value), L i = some v → ls[i]? = some (.val (zcv G v))
def zRn (c : Nat) : String := match c with
  | 0 => RX0
  | 1 => RX1
  | 2 => RX2
  | 3 => RX3
  | 4 => RX4
  | 5 => RX5
  | 6 => RX6
  | 7 => RX7
  | 8 => RX8
  | 9 => RX9
  | 10 => RX10
  | 11 => RX11
  | 12 => RL
  | 14 => RJ0
  | 15 => RJ1
  | 16 => RJ3
  | _ => RJ9
def zCx (l : Launch) (G : zG) (mi : zMI) (p : Program) (s : State) (m : MethodId) (meth : Method) (c : Code) : Prop :=
  (p.tables.exec = Jvm.exec ∧ c.code = zcode mi ∧ c.maxLocals = zmaxL mi ∧ meth.sig.returnType = zret mi ∧ s.vm.findClass (zRn (zcN mi)) = some m.cls ∧ meth.locks = false ∧ ∀ x ∈ c.exceptionTable.toList, False) ∧
  (zOK l G ∧ (zs0 G).WarmedH s.vm ∧ (zini mi = true → meth.name = "<init>") ∧ (∀ q : Nat, q < zbase G → s.heap[q]? = (zs0 G).heap[q]?) ∧ zbase G ≤ s.heap.size)
/-- the machine at pc with these locals, stack and state comes to the method's end -/
def Z (l : Launch) (G : zG) (mi : zMI) (Q : zPo) (PX : String → zS → Prop) (pc : Nat) (L : Nat → Option Value) (S : List Value) (σ : zS) (kc ks : Nat) : Prop :=
  ∀ (p : Program) (e : Env) (s : State) (m : MethodId) (args : Array Value) (below : List Frame) (meth : Method) (c : Code), zCx l G mi p s m meth c →
  ∀ (H : Heap) (locs : List Loc) (ls : Array Slot), zR G σ H → s.heap.size ≤ H.size → (∀ z ∈ locs, zfree G z.base) → zL G (zmaxL mi) ls L →
  W p l e (zrm mi) s m args below meth c H locs kc ks (vx_MQ below (zQc G Q) (zXC G PX) args s (zmc mi) (zms mi) (zfree G)) (F0 m pc ls (S.map (zcv G)))
-- writes
def zs1 (L : Nat → Option Value) (i : Nat) (v : Value) : Nat → Option Value := fun j => if j = i then some v else if j + 1 = i then (match L j with
  | some (.long _) => none
  | some (.double _) => none
  | x => x) else L j
def zs2 (L : Nat → Option Value) (i : Nat) (v : Value) : Nat → Option Value := fun j => if j = i then some v else if j = i + 1 then none else if j + 1 = i then (match L j with
  | some (.long _) => none
  | some (.double _) => none
  | x => x) else L j
def zu1 {α : Type} (f : Nat → α) (n : Nat) (v : α) : Nat → α := fun m => if m = n then v else f m
def zu2 {α : Type} (f : Nat → Nat → α) (n k : Nat) (v : α) : Nat → Nat → α := fun m j => if m = n ∧ j = k then v else f m j
