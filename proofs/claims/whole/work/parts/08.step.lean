/-! one step of the small machine, and the least relation that it spans -/
def zpop : Nat → List Value → List Value → Option (List Value × List Value)
  | 0, acc, st => some (acc, st)
  | n + 1, acc, v :: st => zpop n (v :: acc) st
  | _ + 1, _, [] => none
/-- what stands where a branch isn't taken -/
def zcx (c : Jvm.ClassFile.Cond) (x y : Int32) : Prop := match c with
  | .eq => ¬ x = y
  | .ne => x = y
  | .lt => ¬ x < y
  | .ge => ¬ y ≤ x
  | .gt => ¬ y < x
  | .le => ¬ x ≤ y
/-- constructors, by their numbers -/
def zini (y : Nat) : Bool := (zY y).name == "<init>"
/-- Math.max, Math.min -/
def zmx (a b : Int32) : Int32 := if a < b then b else a
def zmn (a b : Int32) : Int32 := if b < a then b else a
def zb01 (x : Int32) : Bool := decide (x = 0) || decide (x = 1)
/-- texts: the signs, by their numbers -/
def zsg (i : Nat) : List Nat := (zso i).2.2.toList.map Char.toNat
def zput (h : zH) (c k j : Nat) (v : Value) (ok : Bool) (P : zH → Prop) : Prop := match v with
  | .int x => cond ok (match zTy c j with
    | .int => P (zpI h k j x)
    | .boolean => cond (zb01 x) (P (zpI h k j x)) False
    | _ => False) False
  | .ref a => cond ok (match zTy c j with
    | .object _ => P (zpR h k j (.ref a))
    | .array _ => P (zpR h k j (.ref a))
    | _ => False) False
  | _ => False
def zmem (ε : Nat × (Nat → Int32)) (rc : zR) (al : Bool) (d y pc : Nat) (l : zL) (st : List Value) (h : zH) (uc us : Nat) (Q : zQ) (i : Instr) (len : Nat) : Prop :=
  match i with
  | .getfield ix => match st with
    | .ref k :: r => match zfl (zcl y) ix with
      | some (c, j) => match h.1[k]? with
        | some (0, c') => cond (Nat.beq c c' && Nat.beq len 3) (rc al d y (pc + 3) l (cond (zfi c j) (.int (h.2.2.1 k j)) (h.2.1 k j) :: r) h uc us Q) False
        | _ => False
      | none => False
    | _ => False
  | .putfield ix => match st with
    | v :: .ref k :: r => match zfl (zcl y) ix with
      | some (c, j) => match h.1[k]? with
        | some (0, c') => zput h c k j v ((Nat.beq c c' && Nat.beq len 3) && cond (zT c j).2.2.2 (zini y && Nat.beq c (zcl y)) true) (fun h' => rc al d y (pc + 3) l r h' uc us Q)
        | _ => False
      | none => False
    | _ => False
  | .iaload => match st with
    | .int i :: .ref k :: r => match h.1[k]? with
      | some (1, n) => cond (Nat.beq len 1) (vp_in i n ∧ rc al d y (pc + 1) l (.int (h.2.2.2.1 k i.toNatClampNeg) :: r) h uc us Q) False
      | none => cond (Nat.beq len 1 && Nat.beq k 2000) (vp_in i ε.1 ∧ rc al d y (pc + 1) l (.int (ε.2 i.toNatClampNeg) :: r) h uc us Q) False
      | _ => False
    | _ => False
  | .baload => match st with
    | .int i :: .ref k :: r => match h.1[k]? with
      | some (2, n) => cond (Nat.beq len 1) (vp_in i n ∧ rc al d y (pc + 1) l (.int (h.2.2.2.1 k i.toNatClampNeg) :: r) h uc us Q) False
      | some (3, n) => cond (Nat.beq len 1) (vp_in i n ∧ rc al d y (pc + 1) l (.int (h.2.2.2.1 k i.toNatClampNeg) :: r) h uc us Q) False
      | _ => False
    | _ => False
  | .laload => match st with
    | .int i :: .ref k :: r => match h.1[k]? with
      | some (4, n) => cond (Nat.beq len 1) (vp_in i n ∧ rc al d y (pc + 1) l (.long (h.2.2.2.2.1 k i.toNatClampNeg) :: r) h uc us Q) False
      | _ => False
    | _ => False
  | .daload => match st with
    | .int i :: .ref k :: r => match h.1[k]? with
      | some (5, n) => cond (Nat.beq len 1) (vp_in i n ∧ rc al d y (pc + 1) l (.double (h.2.2.2.2.2 k i.toNatClampNeg) :: r) h uc us Q) False
      | _ => False
    | _ => False
  | .iastore => match st with
    | .int x :: .int i :: .ref k :: r => match h.1[k]? with
      | some (1, n) => cond (Nat.beq len 1) (vp_in i n ∧ rc al d y (pc + 1) l r (zpA h k (upd (h.2.2.2.1 k) i.toNatClampNeg x)) uc us Q) False
      | _ => False
    | _ => False
  | .bastore => match st with
    | .int x :: .int i :: .ref k :: r => match h.1[k]? with
      | some (2, n) => cond (Nat.beq len 1) (vp_in i n ∧ rc al d y (pc + 1) l r (zpA h k (upd (h.2.2.2.1 k) i.toNatClampNeg (vp_nar .byte x))) uc us Q) False
      | some (3, n) => cond (Nat.beq len 1) (vp_in i n ∧ rc al d y (pc + 1) l r (zpA h k (upd (h.2.2.2.1 k) i.toNatClampNeg (vp_nar .boolean x))) uc us Q) False
      | _ => False
    | _ => False
  | .lastore => match st with
    | .long x :: .int i :: .ref k :: r => match h.1[k]? with
      | some (4, n) => cond (Nat.beq len 1) (vp_in i n ∧ rc al d y (pc + 1) l r (zpL h k (vp_updL (h.2.2.2.2.1 k) i.toNatClampNeg x)) uc us Q) False
      | _ => False
    | _ => False
  | .dastore => match st with
    | .double x :: .int i :: .ref k :: r => match h.1[k]? with
      | some (5, n) => cond (Nat.beq len 1) (vp_in i n ∧ rc al d y (pc + 1) l r (zpD h k (vf_upd (h.2.2.2.2.2 k) i.toNatClampNeg x)) uc us Q) False
      | _ => False
    | _ => False
  | .arraylength => match st with
    | .ref k :: r => match h.1[k]? with
      | some (t + 1, n) => cond (Nat.beq len 1) (rc al d y (pc + 1) l (.int (Int32.ofNat n) :: r) h uc us Q) False
      | none => cond (Nat.beq len 1 && Nat.beq k 2000) (rc al d y (pc + 1) l (.int (Int32.ofNat ε.1) :: r) h uc us Q) False
      | _ => False
    | _ => False
  | _ => False
def zcal (rc : zR) (al : Bool) (d y pc : Nat) (l : zL) (st : List Value) (h : zH) (uc us : Nat) (Q : zQ) (i : Instr) (len : Nat) : Prop :=
  match i with
  | .invokevirtual ix => match zml (zcl y) ix with
    | some (0, y', n) => match zpop n [] st with
      | some (as, .ref k :: r) => match h.1[k]? with
        | some (0, c') => cond (Nat.beq c' (zcl y') && Nat.beq len 3) (zcall rc al false false d y pc l r h uc us Q y' (.ref k :: as)) False
        | _ => False
      | _ => False
    | some (7, _, _) => match st with
      | .ref k :: r => cond ((Nat.ble 1000 k && Nat.ble k 1033) && Nat.beq len 3) (((r.map fun v => v.category).sum ≤ 8 ∧ 4 ≤ d) ∧ rc al d y (pc + 3) l (.int (nI (zsg (k - 1000)).length) :: r) h uc us Q) False
      | _ => False
    | some (8, _, _) => match st with
      | .int j :: .ref k :: r => cond ((Nat.ble 1000 k && Nat.ble k 1033) && Nat.beq len 3) (((r.map fun v => v.category).sum ≤ 8 ∧ 4 ≤ d ∧ vp_in j (zsg (k - 1000)).length) ∧ rc al d y (pc + 3) l (.int (nI ((zsg (k - 1000)).getD j.toNatClampNeg 0)) :: r) h uc us Q) False
      | _ => False
    | _ => False
  | .invokestatic ix => match zml (zcl y) ix with
    | some (1, y', n) => match zpop n [] st with
      | some (as, r) => cond (Nat.beq len 3) (zcall rc al false false d y pc l r h uc us Q y' as) False
      | _ => False
    | some (2, y', n) => match zpop n [] st with
      | some (as, r) => cond (Nat.beq len 3) (zcall rc al false true d y pc l r h uc us Q y' as) False
      | _ => False
    | some (10, y', n) => match zpop n [] st with
      | some (as, r) => cond (Nat.beq len 3) (zcall rc al false false d y pc l r h uc us Q y' as) False
      | _ => False
    | some (4, _, _) => match st with
      | .int b :: .int a :: r => cond (Nat.beq len 3) ((r.map fun v => v.category).sum ≤ 8 ∧ rc al d y (pc + 3) l (.int (zmx a b) :: r) h uc us Q) False
      | _ => False
    | some (5, _, _) => match st with
      | .int b :: .int a :: r => cond (Nat.beq len 3) ((r.map fun v => v.category).sum ≤ 8 ∧ rc al d y (pc + 3) l (.int (zmn a b) :: r) h uc us Q) False
      | _ => False
    | some (6, _, _) => match st with
      | .int n :: .int dp :: .ref k1 :: .int sp :: .ref k0 :: r => match h.1[k0]? with
        | some (1, n0) => match h.1[k1]? with
          | some (1, n1) => cond (Nat.beq len 3) (((r.map fun v => v.category).sum ≤ 8 ∧ ¬ sp < 0 ∧ ¬ dp < 0 ∧ ¬ n < 0 ∧ sp.toNatClampNeg + n.toNatClampNeg ≤ n0 ∧ dp.toNatClampNeg + n.toNatClampNeg ≤ n1) ∧ rc al d y (pc + 3) l r (zpA h k1 (va_cpy (h.2.2.2.1 k0) (h.2.2.2.1 k1) sp.toNatClampNeg dp.toNatClampNeg n.toNatClampNeg)) uc us Q) False
          | _ => False
        | _ => False
      | _ => False
    | _ => False
  | .invokespecial ix => match zml (zcl y) ix with
    | some (3, y', n) => match zpop n [] st with
      | some (as, .ref k :: r) => cond (al && Nat.beq len 3) (zcall rc al true true d y pc l r h uc us Q y' (.ref k :: as)) False
      | _ => False
    | some (9, _, _) => match st with
      | .ref _ :: r => cond (Nat.beq len 3) ((r.map fun v => v.category).sum ≤ 8 ∧ rc al d y (pc + 3) l r h uc us Q) False
      | _ => False
    | _ => False
  | _ => False
def znew (rc : zR) (al : Bool) (d y pc : Nat) (l : zL) (st : List Value) (h : zH) (uc us : Nat) (Q : zQ) (i : Instr) (len : Nat) : Prop :=
  match i with
  | .new ix => match cond (Nat.ble pc 299) (zth y pc) none with
    | some (E, _, ik, _, _) => cond ((!al && Nat.beq ik ix) && Nat.beq len 3) ((uc + 1 ≤ zMc y ∧ us + 6 ≤ zMs y ∧ (st.map fun v => v.category).sum ≤ 8) ∧ Q (.inr E) h) False
    | none => match znw (zcl y) ix with
      | some c => cond ((al && Nat.beq len 3) && ((zoks h.1.length l st && zokh h) && Nat.ble (h.1.length + 1) 1000)) ((uc + 1 ≤ zMc y ∧ us + zNF c ≤ zMs y) ∧ rc al d y (pc + 3) l (.ref h.1.length :: st) (zpO h c) (uc + 1) (us + zNF c) Q) False
      | none => False
  | .newarray t => match st with
    | .int n :: r => cond (((al && Nat.beq len 2) && Nat.ble (zaty t) 5) && ((zoks h.1.length l r && zokh h) && (Nat.ble (h.1.length + 1) 1000 && (decide (¬ n < 0) && Nat.ble n.toNatClampNeg 4000)))) ((uc + 1 ≤ zMc y ∧ us + n.toNatClampNeg ≤ zMs y) ∧ rc al d y (pc + 2) l (.ref h.1.length :: r) (zpN h (zaty t) n.toNatClampNeg) (uc + 1) (us + n.toNatClampNeg) Q) False
    | _ => False
  | _ => False
def zst2 (ε : Nat × (Nat → Int32)) (rc : zR) (al : Bool) (d y pc : Nat) (l : zL) (st : List Value) (h : zH) (uc us : Nat) (Q : zQ) (i : Instr) (len : Nat) : Prop :=
  match i with
  | .ifCond c off => match st with
    | .int x :: r => cond (Nat.beq len 3 && ztk pc off) ((zcd c x 0 → rc al d y (zt pc off) l r h uc us Q) ∧ (zcx c x 0 → rc al d y (pc + 3) l r h uc us Q)) False
    | _ => False
  | .if_icmp c off => match st with
    | .int b :: .int a :: r => cond (Nat.beq len 3 && ztk pc off) ((zcd c a b → rc al d y (zt pc off) l r h uc us Q) ∧ (zcx c a b → rc al d y (pc + 3) l r h uc us Q)) False
    | _ => False
  | .tableswitch df lo hi offs => match st with
    | .int x :: r => (x.toInt < lo ∨ hi < x.toInt → ztk pc df = true ∧ rc al d y (zt pc df) l r h uc us Q) ∧ (¬ x.toInt < lo → ¬ hi < x.toInt → ∃ off, offs[(x.toInt - lo).toNat]? = some off ∧ ztk pc off = true ∧ rc al d y (zt pc off) l r h uc us Q)
    | _ => False
  | .idiv => match st with
    | .int b :: .int a :: r => cond (Nat.beq len 1) (¬ b = 0 ∧ rc al d y (pc + 1) l (.int (a / b) :: r) h uc us Q) False
    | _ => False
  | .irem => match st with
    | .int b :: .int a :: r => cond (Nat.beq len 1) (¬ b = 0 ∧ rc al d y (pc + 1) l (.int (a - a / b * b) :: r) h uc us Q) False
    | _ => False
  | .ddiv => match st with
    | .double b :: .double a :: r => cond (Nat.beq len 1) (vf_n64 (FP.ddiv a b) ∧ rc al d y (pc + 1) l (.double (FP.ddiv a b) :: r) h uc us Q) False
    | _ => False
  | .ldc ix => match zst (zcl y) ix with
    | some i => cond (Nat.beq len 2) (rc al d y (pc + 2) l (.ref (1000 + i) :: st) h uc us Q) False
    | none => False
  | .ldc_w ix => match zkc (zcl y) ix with
    | some v => cond (Nat.beq len 3) (rc al d y (pc + 3) l (.int v :: st) h uc us Q) False
    | none => False
  | .ireturn => match st with
    | [.int v] => match zRt y with
      | some .int => cond (Nat.beq len 1) (Q (.inl (some (.int v))) h) False
      | some .boolean => cond (Nat.beq len 1) (narrow .boolean (.int v) = .int v ∧ Q (.inl (some (.int v))) h) False
      | _ => False
    | _ => False
  | .dreturn => match st with
    | [.double v] => match zRt y with
      | some .double => cond (Nat.beq len 1) (Q (.inl (some (.double v))) h) False
      | _ => False
    | _ => False
  | .return_ => match st with
    | [] => match zRt y with
      | none => cond (Nat.beq len 1) (Q (.inl none) h) False
      | _ => False
    | _ => False
  | .invokevirtual _ => zcal rc al d y pc l st h uc us Q i len
  | .invokestatic _ => zcal rc al d y pc l st h uc us Q i len
  | .invokespecial _ => zcal rc al d y pc l st h uc us Q i len
  | .new _ => znew rc al d y pc l st h uc us Q i len
  | .newarray _ => znew rc al d y pc l st h uc us Q i len
  | _ => zmem ε rc al d y pc l st h uc us Q i len
def zstep (ε : Nat × (Nat → Int32)) (rc : zR) : zR := fun al d y pc l st h uc us Q =>
  match zI y pc with
  | none => False
  | some (i, len) => match zpl (zML y) i len pc l st with
    | some (pc', l', st') => rc al d y pc' l' st' h uc us Q
    | none => zst2 ε rc al d y pc l st h uc us Q i len
/-- the answer's relation may grow -/
def zMono (P : zR) : Prop := ∀ al d y pc l st h uc us (Q Q' : zQ), (∀ o h, Q o h → Q' o h) → P al d y pc l st h uc us Q → P al d y pc l st h uc us Q'
def zLe (P P' : zR) : Prop := ∀ al d y pc l st h uc us Q, P al d y pc l st h uc us Q → P' al d y pc l st h uc us Q
/-- locals may be forgotten -/
def zFg (P : zR) : Prop := ∀ al d y pc (l l' : zL) st h uc us Q, (∀ q ∈ l', q ∈ l) → P al d y pc l' st h uc us Q → P al d y pc l st h uc us Q
/-- comes to an answer with Q: the least relation closed under steps -/
def zW (ε : Nat × (Nat → Int32)) : zR := fun al d y pc l st h uc us Q => ∀ P : zR, zMono P → zLe (zstep ε P) P → zFg P → P al d y pc l st h uc us Q
theorem zW_mono (ε : Nat × (Nat → Int32)) : zMono (zW ε) := fun al d y pc l st h uc us _ _ hQ hw P hm hc hf => hm al d y pc l st h uc us _ _ hQ (hw P hm hc hf)
section
variable {P P' : zR} (hle : zLe P P') (hm' : zMono P') {al ac nx : Bool} {d y pc : Nat} {l : zL} {st r : List Value} {h : zH} {uc us : Nat} {Q Q' : zQ} {i : Instr} {len : Nat} {ε : Nat × (Nat → Int32)}
theorem zbk_mono {n0 : Nat} (hle : zLe P P') (hm' : zMono P') (hQ : ∀ o h, Q o h → Q' o h) : ∀ o h, zbk P al nx d y pc l r n0 uc us Q o h → zbk P' al nx d y pc l r n0 uc us Q' o h := by
  intro o h hh
  cases o with
  | inl v => exact ⟨hh.1, hm' _ _ _ _ _ _ _ _ _ _ _ hQ (hle _ _ _ _ _ _ _ _ _ _ hh.2)⟩
  | inr E =>
    refine ⟨hh.1, ?_⟩
    have h2 := hh.2
    revert h2
    cases zct (zhn y) pc E with
    | none => exact hQ _ _
    | some hp =>
      dsimp only
      cases zca y hp with
      | none => exact id
      | some q => exact fun h2 => ⟨h2.1, hm' _ _ _ _ _ _ _ _ _ _ _ hQ (hle _ _ _ _ _ _ _ _ _ _ h2.2)⟩
theorem zcall_mono {y' : Nat} {as : List Value} (hle : zLe P P') (hm' : zMono P') (hQ : ∀ o h, Q o h → Q' o h) (hh : zcall P al ac nx d y pc l r h uc us Q y' as) : zcall P' al ac nx d y pc l r h uc us Q' y' as := by
  cases d with
  | zero => exact hh
  | succ d => exact ⟨hh.1, hm' _ _ _ _ _ _ _ _ _ _ _ (zbk_mono hle hm' hQ) (hle _ _ _ _ _ _ _ _ _ _ hh.2)⟩
end
