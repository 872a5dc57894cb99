/-! the small machine: a pure heap (shapes, references, ints, int rows, long rows, double rows), frames, one step -/
abbrev zH : Type := List (Nat × Nat) × (Nat → Nat → Value) × (Nat → Nat → Int32) × (Nat → Nat → Int32) × (Nat → Nat → Int64) × (Nat → Nat → UInt64)
abbrev zL : Type := List (Nat × Value)
abbrev zO : Type := Sum (Option Value) Nat
abbrev zQ : Type := zO → zH → Prop
abbrev zR : Type := Bool → Nat → Nat → Nat → zL → List Value → zH → Nat → Nat → zQ → Prop
def zML (y : Nat) : Nat := (zDt y).1
def zcl (y : Nat) : Nat := (zDt y).2.1
def zMc (y : Nat) : Nat := (zDt y).2.2.1
def zMs (y : Nat) : Nat := (zDt y).2.2.2
/-- a field that holds an int or a boolean -/
def zfi (c k : Nat) : Bool := match zTy c k with
  | .int => true
  | .boolean => true
  | _ => false
def zlg : zL → Nat → Option Value
  | [], _ => none
  | q :: r, i => cond (Nat.beq q.1 i) (some q.2) (zlg r i)
def zin (q : Nat × Value) : zL → zL
  | [] => [q]
  | p :: r => cond (Nat.ble q.1 p.1) (q :: p :: r) (p :: zin q r)
def zfil (i : Nat) : zL → zL
  | [] => []
  | q :: r => cond (Nat.beq q.1 i || (Nat.beq (q.1 + 1) i && Nat.beq q.2.category 2)) (zfil i r) (q :: zfil i r)
def zls (l : zL) (i : Nat) (v : Value) : zL := zin (i, v) (zfil i l)
def zls2 (l : zL) (i : Nat) (v : Value) : zL := zin (i, v) (zfil i (zfil (i + 1) l))
def zt (pc : Nat) (off : Int) : Nat := ((pc : Int) + off).toNat
def ztk (pc : Nat) (off : Int) : Bool := decide (0 ≤ (pc : Int) + off)
/-- one instruction that touches locals and stack alone -/
def zpl (nL : Nat) (i : Instr) (len : Nat) (pc : Nat) (l : zL) (st : List Value) : Option (Nat × zL × List Value) :=
  match i with
  | .iconst n => cond (Nat.beq len 1) (some (pc + 1, l, .int (Int32.ofInt n) :: st)) none
  | .bipush n => cond (Nat.beq len 2) (some (pc + 2, l, .int (Int8.ofInt n).toInt32 :: st)) none
  | .sipush n => cond (Nat.beq len 3) (some (pc + 3, l, .int (Int16.ofInt n).toInt32 :: st)) none
  | .lconst n => cond (Nat.beq len 1) (some (pc + 1, l, .long (Int64.ofNat n.val) :: st)) none
  | .dconst n => cond (Nat.beq len 1 && Nat.beq n.val 0) (some (pc + 1, l, .double FP.dconst0 :: st)) none
  | .iload_n k => match zlg l k.val with
    | some (.int x) => cond (Nat.beq len 1) (some (pc + 1, l, .int x :: st)) none
    | _ => none
  | .iload k => match zlg l k with
    | some (.int x) => cond (Nat.beq len 2) (some (pc + 2, l, .int x :: st)) none
    | _ => none
  | .aload_n k => match zlg l k.val with
    | some (.ref x) => cond (Nat.beq len 1) (some (pc + 1, l, .ref x :: st)) none
    | _ => none
  | .aload k => match zlg l k with
    | some (.ref x) => cond (Nat.beq len 2) (some (pc + 2, l, .ref x :: st)) none
    | _ => none
  | .dload k => match zlg l k with
    | some (.double x) => cond (Nat.beq len 2) (some (pc + 2, l, .double x :: st)) none
    | _ => none
  | .istore_n k => match st with
    | .int x :: r => cond (Nat.beq len 1 && Nat.ble (k.val + 1) nL) (some (pc + 1, zls l k.val (.int x), r)) none
    | _ => none
  | .istore k => match st with
    | .int x :: r => cond (Nat.beq len 2 && Nat.ble (k + 1) nL) (some (pc + 2, zls l k (.int x), r)) none
    | _ => none
  | .astore_n k => match st with
    | .ref x :: r => cond (Nat.beq len 1 && Nat.ble (k.val + 1) nL) (some (pc + 1, zls l k.val (.ref x), r)) none
    | _ => none
  | .astore k => match st with
    | .ref x :: r => cond (Nat.beq len 2 && Nat.ble (k + 1) nL) (some (pc + 2, zls l k (.ref x), r)) none
    | _ => none
  | .dstore k => match st with
    | .double x :: r => cond (Nat.beq len 2 && Nat.ble (k + 2) nL) (some (pc + 2, zls2 l k (.double x), r)) none
    | _ => none
  | .iinc k n => match zlg l k with
    | some (.int x) => cond (Nat.beq len 3 && Nat.ble (k + 1) nL) (some (pc + 3, zls l k (.int (x + Int32.ofInt n)), st)) none
    | _ => none
  | .iadd => match st with
    | .int y :: .int x :: r => cond (Nat.beq len 1) (some (pc + 1, l, .int (x + y) :: r)) none
    | _ => none
  | .isub => match st with
    | .int y :: .int x :: r => cond (Nat.beq len 1) (some (pc + 1, l, .int (x - y) :: r)) none
    | _ => none
  | .imul => match st with
    | .int y :: .int x :: r => cond (Nat.beq len 1) (some (pc + 1, l, .int (x * y) :: r)) none
    | _ => none
  | .iand => match st with
    | .int y :: .int x :: r => cond (Nat.beq len 1) (some (pc + 1, l, .int (x &&& y) :: r)) none
    | _ => none
  | .ior => match st with
    | .int y :: .int x :: r => cond (Nat.beq len 1) (some (pc + 1, l, .int (x ||| y) :: r)) none
    | _ => none
  | .ishl => match st with
    | .int y :: .int x :: r => cond (Nat.beq len 1) (some (pc + 1, l, .int (x <<< (y &&& 31)) :: r)) none
    | _ => none
  | .ishr => match st with
    | .int y :: .int x :: r => cond (Nat.beq len 1) (some (pc + 1, l, .int (x >>> (y &&& 31)) :: r)) none
    | _ => none
  | .iushr => match st with
    | .int y :: .int x :: r => cond (Nat.beq len 1) (some (pc + 1, l, .int (x.toUInt32 >>> (y.toUInt32 &&& Int32.toUInt32 31)).toInt32 :: r)) none
    | _ => none
  | .i2l => match st with
    | .int x :: r => cond (Nat.beq len 1) (some (pc + 1, l, .long x.toInt64 :: r)) none
    | _ => none
  | .i2b => match st with
    | .int x :: r => cond (Nat.beq len 1) (some (pc + 1, l, .int x.toInt8.toInt32 :: r)) none
    | _ => none
  | .i2d => match st with
    | .int x :: r => cond (Nat.beq len 1) (some (pc + 1, l, .double (FP.i2d x) :: r)) none
    | _ => none
  | .lcmp => match st with
    | .long y :: .long x :: r => cond (Nat.beq len 1) (some (pc + 1, l, .int (lg_cmp x y) :: r)) none
    | _ => none
  | .dcmp op => match st with
    | .double y :: .double x :: r => cond (Nat.beq len 1) (some (pc + 1, l, .int (Op.cmpValue (FP.dcmp x y) op) :: r)) none
    | _ => none
  | .dup => match st with
    | v :: r => cond (Nat.beq len 1 && Nat.beq v.category 1) (some (pc + 1, l, v :: v :: r)) none
    | _ => none
  | .dup2 => match st with
    | v :: w :: r => cond (Nat.beq len 1 && (Nat.beq v.category 1 && Nat.beq w.category 1)) (some (pc + 1, l, v :: w :: v :: w :: r)) none
    | _ => none
  | .pop => match st with
    | v :: r => cond (Nat.beq len 1 && Nat.beq v.category 1) (some (pc + 1, l, r)) none
    | _ => none
  | .goto off => cond (Nat.beq len 3 && ztk pc off) (some (zt pc off, l, st)) none
  | _ => none
/-- what a branch asks -/
def zcd (c : Jvm.ClassFile.Cond) (x y : Int32) : Prop := match c with
  | .eq => x = y
  | .ne => ¬ x = y
  | .lt => x < y
  | .ge => y ≤ x
  | .gt => y < x
  | .le => x ≤ y
/-- the handler of an exception thrown at pc: its entry, by the handlers in their order -/
def zct : List (Nat × Nat × Nat × Nat) → Nat → Nat → Option Nat
  | [], _, _ => none
  | q :: r, pc, E => cond ((Nat.ble q.1 pc && Nat.ble (pc + 1) q.2.1) && Nat.beq (zhe q.2.2.2) E) (some q.2.2.1) (zct r pc E)
/-- behind the store of a caught exception: the next instruction, the local that it went to -/
def zca (y hp : Nat) : Option (Nat × Nat) := match zI y hp with
  | some (.astore_n k, 1) => some (hp + 1, k.val)
  | some (.astore k, 2) => some (hp + 2, k)
  | _ => none
def zrm (l : zL) (i : Nat) : zL := l.filter (fun q => !(q.1 == i) && !(q.1 + 1 == i && q.2.category == 2))
/-- references that stand: to cells that are made, or to what the run was given -/
def zok (n : Nat) (v : Value) : Bool := match v with
  | .ref k => Nat.ble (k + 1) n || Nat.ble 1000 k
  | _ => true
def zokh (h : zH) : Bool := (List.range h.1.length).all (fun k => match h.1[k]? with
  | some (0, c) => (List.range (zNF c)).all (fun j => zok h.1.length (h.2.1 k j))
  | _ => true)
def zoks (n : Nat) (l : zL) (st : List Value) : Bool := l.all (fun q => zok n q.2) && st.all (zok n)
def zaty : ArrayType → Nat
  | .int => 1
  | .byte => 2
  | .boolean => 3
  | .long => 4
  | .double => 5
  | _ => 9
def zfld (t : Nat) : FieldType := match t with
  | 1 => .int
  | 2 => .byte
  | 3 => .boolean
  | 4 => .long
  | _ => .double
/-- int fields -/
def zpI (h : zH) (k j : Nat) (x : Int32) : zH := (h.1, h.2.1, va_up h.2.2.1 k (upd (h.2.2.1 k) j x), h.2.2.2)
/-- references -/
def zpR (h : zH) (k j : Nat) (v : Value) : zH := (h.1, va_up h.2.1 k (va_up (h.2.1 k) j v), h.2.2)
/-- rows -/
def zpA (h : zH) (k : Nat) (f : Nat → Int32) : zH := (h.1, h.2.1, h.2.2.1, va_up h.2.2.2.1 k f, h.2.2.2.2)
def zpL (h : zH) (k : Nat) (f : Nat → Int64) : zH := (h.1, h.2.1, h.2.2.1, h.2.2.2.1, va_up h.2.2.2.2.1 k f, h.2.2.2.2.2)
def zpD (h : zH) (k : Nat) (f : Nat → UInt64) : zH := (h.1, h.2.1, h.2.2.1, h.2.2.2.1, h.2.2.2.2.1, va_up h.2.2.2.2.2 k f)
/-- a new object, a new row -/
def zpO (h : zH) (c : Nat) : zH := (h.1 ++ [(0, c)], va_up h.2.1 h.1.length (fun _ => .null), va_up h.2.2.1 h.1.length (fun _ => 0), h.2.2.2)
def zpN (h : zH) (t n : Nat) : zH := (h.1 ++ [(t, n)], h.2.1, h.2.2.1, va_up h.2.2.2.1 h.1.length (fun _ => 0), va_up h.2.2.2.2.1 h.1.length (fun _ => 0), va_up h.2.2.2.2.2 h.1.length (fun _ => 0))
/-- behind a call: the answer goes on the stack, an exception to its handler or out -/
def zbk (rc : zR) (al nx : Bool) (d y pc : Nat) (l : zL) (r : List Value) (n0 : Nat) (uc us : Nat) (Q : zQ) : zQ := fun o h => match o with
  | .inl v => (cond al (zoks n0 l r) true = true) ∧ rc al d y (pc + 3) l (v.toList ++ r) h uc us Q
  | .inr E => (al = false ∧ nx = false) ∧ match zct (zhn y) pc E with
    | none => Q (.inr E) h
    | some hp => match zca y hp with
      | none => False
      | some (pc', k) => (k < zML y) ∧ rc al d y pc' (zrm l k) [] h uc us Q
def zck (nL : Nat) (as r : List Value) : Bool := (as.all (fun v => Nat.beq v.category 1) && Nat.ble as.length nL) && Nat.ble (r.map fun v => v.category).sum 8
def zcall (rc : zR) (al ac nx : Bool) (d y pc : Nat) (l : zL) (r : List Value) (h : zH) (uc us : Nat) (Q : zQ) (y' : Nat) (as : List Value) : Prop := match d with
  | 0 => False
  | d' + 1 => (uc + zMc y' ≤ zMc y ∧ us + zMs y' ≤ zMs y ∧ zck (zML y') as r = true) ∧ rc ac d' y' 0 (lv_args 0 as) [] h 0 0 (zbk rc al nx d y pc l r h.1.length (uc + zMc y') (us + zMs y') Q)
