/-! exceptions that a method throws itself -/
abbrev zNm : List String := ["java/lang/RuntimeException", "java/lang/Exception"]
def zthB (x : Nat) : List Jvm.Cond := .castable (zEx x) (zEx x) :: zDc.map (fun n => .declares ⟨n, "<init>", "(Ljava/lang/String;)V"⟩)
def zthk (c ik ic x : Nat) : Bool := (decide (Jvm.Cond.classLink (zRn c) ik (zEx x) ∈ zWd) && decide (Jvm.Cond.initialized (zEx x) ∈ zWd)) && (((vx_atS (zRn c) ic (zEx x) zNm).all (fun w => decide (w ∈ zWd) || decide (w ∈ zthB x))) && (vx_atS (zRn c) ic (zEx x) zNm).all vx_ot)
theorem zthk_all : ([(6, 71, 75, 0), (6, 82, 86, 2), (6, 91, 95, 1)] : List (Nat × Nat × Nat × Nat)).all (fun q => zthk q.1 q.2.1 q.2.2.1 q.2.2.2) = true := by decide +kernel
/-- a throw's instructions, as the tables have them -/
def zthw (y pc : Nat) : Bool := match cond (Nat.ble pc 299) (zth y pc) none with
  | none => true
  | some (x, w, ik, is, ic) => (decide (zI y pc = some (.new ik, 3)) && decide (zI y (pc + 3) = some (.dup, 1))) && ((cond w (decide (zI y (pc + 4) = some (.ldc_w is, 3)) && (decide (zI y (pc + 7) = some (.invokespecial ic, 3)) && decide (zI y (pc + 10) = some (.athrow, 1)))) (decide (zI y (pc + 4) = some (.ldc is, 2)) && (decide (zI y (pc + 6) = some (.invokespecial ic, 3)) && decide (zI y (pc + 9) = some (.athrow, 1))))) && ((decide (zhn y = []) && (zst (zcl y) is).isSome) && (decide ((zcl y, ik, ic, x) ∈ ([(6, 71, 75, 0), (6, 82, 86, 2), (6, 91, 95, 1)] : List (Nat × Nat × Nat × Nat))) || decide ((zcl y, ik, ic, x) = (6, 197, 201, 3)))))
theorem zthw_all : (List.range 235).all (fun y => (List.range 300).all (zthw y)) = true := by decide +kernel
