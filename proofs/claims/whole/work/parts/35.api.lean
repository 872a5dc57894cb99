/-! the class: the calls, reports and the plan -/
theorem zIn_le {n : Nat} (hn : n + 1 < 2 ^ 31) {x : Int32} (h0 : ¬ x < 0) (h : x ≤ nI n) : zIn (n + 1) x := by
  refine zIn_of hn h0 ?_
  have e := (nI_ltI (a := n) (b := n + 1) (by omega) hn).mpr (by omega)
  rw [Int32.lt_iff_toInt_lt] at e ⊢
  rw [Int32.le_iff_toInt_le] at h
  omega
theorem zIn_nle {n : Nat} (hn : n + 1 < 2 ^ 31) {x : Int32} (h : ¬ x ≤ nI n) : ¬ zIn (n + 1) x := by
  rintro ⟨t, ht, rfl⟩
  exact h ((nI_leI (by omega) (by omega)).mpr (by omega))
/-- plan's new rows -/
def xpl (IF : Nat → Nat → Int32) (N M S s : Nat) (a b : Int32) (A : Nat → Nat → Int32) : Nat → Nat → Int32 := xCo IF 22 N M S 0 (xCo IF 18 N M S 0 (xcO (xf2 12 M (S - 1) 0 (xp2 12 M a b (S - 1 - s) s A))))
def xov (IF : Nat → Nat → Int32) (N M S s : Nat) (a b : Int32) (A : Nat → Nat → Int32) : Nat → Nat → Int32 := xCo IF 22 N M S 0 (xf2 15 M (S - 1) 0 (xp2 15 M a b (S - 1 - s) s A))
def xsu (IF : Nat → Nat → Int32) (N M S : Nat) (x z w : Int32) (A : Nat → Nat → Int32) : Nat → Nat → Int32 := xCo IF 22 N M S 0 (xCo IF 18 N M S 0 (va_up A 21 (upd (A 21) (xev x (z + 1) true) w)))
def xdu (IF : Nat → Nat → Int32) (N M S : Nat) (x z w : Int32) (b : Bool) (A : Nat → Nat → Int32) : Nat → Nat → Int32 := xCo IF 22 N M S 0 (va_up A 24 (upd (A 24) (xev x z b) (A 24 (xev x z b) + w)))
def xcl (IF : Nat → Nat → Int32) (N M S : Nat) (A : Nat → Nat → Int32) : Nat → Nat → Int32 := xCo (xbI IF) 22 N M S 0 (xcO (xfA 24 0 128 0 A))
def xmi (IF A : Nat → Nat → Int32) : Nat → Nat → Int32 → Int32
  | 0, _, v => v
  | n + 1, c, v => xmi IF A n (c + 1) (cond (xW IF A 22 (xk A (nI c) 1) (xk A (nI c) 2) (xC A 22 (nI c))) v (v + 1))
section
variable {ε : Nat × (Nat → Int32)} {d : Nat} {Q : zQ} {o ot it : Value} {IF A : Nat → Nat → Int32} {AL : Nat → Nat → Int64} {AD : Nat → Nat → UInt64} {S M N : Nat}
theorem c_truncate {n : Nat} (hn : IF 2 0 = nI n) (hn5 : n ≤ 500) {x : Int32} (h1 : zIn (n + 1) x → Q (.inl (some (.int x))) (zM o ot it (va_up IF 2 (upd (IF 2) 0 x)) A AL AD)) (h2 : ¬ zIn (n + 1) x → Q (.inr 2) (zM o ot it IF A AL AD)) : zW ε false d 79 0 [(0, .ref 0), (1, .int x)] [] (zM o ot it IF A AL AD) 0 0 Q := by
  refine zrun 2 ⟨fun g => ?_, fun g => ?_⟩
  · exact zrun 1 ⟨⟨Nat.le_of_ble_eq_true rfl, Nat.le_of_ble_eq_true rfl, Nat.le_of_ble_eq_true rfl⟩, h2 (zIn_not (by omega) (Or.inl g))⟩
  · refine zrun 6 ⟨fun g2 => ?_, fun g2 => ?_⟩
    · have g3 : x ≤ IF 2 0 := g2
      rw [hn] at g3
      exact zrun 7 (h1 (zIn_le (by omega) g g3))
    · have g3 : ¬ x ≤ IF 2 0 := g2
      rw [hn] at g3
      exact zrun 1 ⟨⟨Nat.le_of_ble_eq_true rfl, Nat.le_of_ble_eq_true rfl, Nat.le_of_ble_eq_true rfl⟩, h2 (zIn_nle (by omega) g3)⟩
theorem c_errorCode (hq : Q (.inl (some (.int (IF 2 1)))) (zM o ot it IF A AL AD)) : zW ε false d 81 0 [(0, .ref 0)] [] (zM o ot it IF A AL AD) 0 0 Q := zrun 5 hq
theorem c_errorPosition (hq : Q (.inl (some (.int (IF 2 2)))) (zM o ot it IF A AL AD)) : zW ε false d 82 0 [(0, .ref 0)] [] (zM o ot it IF A AL AD) 0 0 Q := zrun 5 hq
theorem c_isSiding (hS : IF 8 0 = nI S) (hS8 : S ≤ 8) {x : Int32} (h1 : zIn S x → Q (.inl (some (.int (zbo (xs IF 8 x))))) (zM o ot it IF A AL AD)) (h2 : ¬ zIn S x → Q (.inr 2) (zM o ot it IF A AL AD)) : zW ε false (d + 1) 84 0 [(0, .ref 0), (1, .int x)] [] (zM o ot it IF A AL AD) 0 0 Q := by
  refine zrun 3 ⟨⟨Nat.le_of_ble_eq_true rfl, Nat.le_of_ble_eq_true rfl, rfl⟩, ?_⟩
  refine c_reqStation hS hS8 (fun g => ⟨rfl, ?_⟩) (fun g => ⟨⟨rfl, rfl⟩, h2 g⟩)
  refine zrun 4 ⟨⟨Nat.le_of_ble_eq_true rfl, Nat.le_of_ble_eq_true rfl, rfl⟩, ?_⟩
  refine c_hasSiding (Or.inr rfl) ⟨rfl, ?_⟩
  exact zrun 1 ⟨zbo_n _, h1 g⟩
theorem c_train (hS : IF 8 0 = nI S) (hS2 : 2 ≤ S) (hS8 : S ≤ 8) (hM : IF 8 1 = nI M) (hM8 : M ≤ 8) {x w : Int32} (h1 : zIn M x → zIn 6 w → Q (.inl (some (.int (if w = 5 then xss A x (S - 1) 0 0 else xo A 8 x w)))) (zM o ot it IF A AL AD)) (h2 : ¬ zIn M x → Q (.inr 2) (zM o ot it IF A AL AD)) (h3 : zIn M x → ¬ zIn 6 w → Q (.inr 1) (zM o ot it IF A AL AD)) : zW ε false (d + 4) 85 0 [(0, .ref 0), (1, .int x), (2, .int w)] [] (zM o ot it IF A AL AD) 0 0 Q := by
  refine zrun 3 ⟨⟨Nat.le_of_ble_eq_true rfl, Nat.le_of_ble_eq_true rfl, rfl⟩, ?_⟩
  refine c_reqTrain hM hM8 (fun gx => ⟨rfl, ?_⟩) (fun g => ⟨⟨rfl, rfl⟩, h2 g⟩)
  refine zrun 2 ⟨fun g => ?_, fun g => ?_⟩
  · exact zrun 1 ⟨⟨Nat.le_of_ble_eq_true rfl, Nat.le_of_ble_eq_true rfl, Nat.le_of_ble_eq_true rfl⟩, h3 gx (zIn_not (by omega) (Or.inl g))⟩
  · refine zrun 3 ⟨fun g2 => ?_, fun g2 => ?_⟩
    · have gw := zIn_le (n := 5) (by omega) g (show w ≤ nI 5 from g2)
      refine zrun 3 ⟨fun g3 => ?_, fun g3 => ?_⟩
      · refine zrun 5 ⟨⟨Nat.le_of_ble_eq_true rfl, Nat.le_of_ble_eq_true rfl, rfl⟩, ?_⟩
        refine c_of (Or.inr rfl) ⟨rfl, ?_⟩
        have q := h1 gx gw
        rw [if_neg (show ¬ w = 5 from g3)] at q
        exact zrun 1 q
      · refine zrun 3 ⟨⟨Nat.le_of_ble_eq_true rfl, Nat.le_of_ble_eq_true rfl, rfl⟩, ?_⟩
        refine c_sumSup hS (by omega) hS8 ⟨rfl, ?_⟩
        have q := h1 gx gw
        rw [if_pos (show w = 5 from g3)] at q
        exact zrun 2 q
    · exact zrun 1 ⟨⟨Nat.le_of_ble_eq_true rfl, Nat.le_of_ble_eq_true rfl, Nat.le_of_ble_eq_true rfl⟩, h3 gx (zIn_nle (n := 5) (by omega) g2)⟩
theorem c_planned (hS : IF 8 0 = nI S) (hS8 : S ≤ 8) (hM : IF 8 1 = nI M) (hM8 : M ≤ 8) {x z v : Int32} {b : Bool} (hv : v = zbo b) (h1 : zIn M x → zIn S z → xe A 8 x z b = true → Q (.inl (some (.int (A 20 (xev x z b))))) (zM o ot it IF A AL AD)) (h2 : ¬ zIn M x ∨ ¬ zIn S z → Q (.inr 2) (zM o ot it IF A AL AD)) (h3 : zIn M x → zIn S z → xe A 8 x z b = false → Q (.inr 3) (zM o ot it IF A AL AD)) : zW ε false (d + 5) 87 0 [(0, .ref 0), (1, .int x), (2, .int z), (3, .int v)] [] (zM o ot it IF A AL AD) 0 0 Q := by
  refine zrun 5 ⟨⟨Nat.le_of_ble_eq_true rfl, Nat.le_of_ble_eq_true rfl, rfl⟩, ?_⟩
  refine c_reqEvent hS hS8 hM hM8 hv (fun gx gz g => ⟨rfl, ?_⟩) (fun g => ⟨⟨rfl, rfl⟩, h2 g⟩) (fun gx gz g => ⟨⟨rfl, rfl⟩, h3 gx gz g⟩)
  refine zrun 6 ⟨⟨Nat.le_of_ble_eq_true rfl, Nat.le_of_ble_eq_true rfl, rfl⟩, ?_⟩
  refine c_time (r := 18) (Or.inl rfl) hv ⟨rfl, ?_⟩
  exact zrun 1 (h1 gx gz g)
theorem c_actual (hS : IF 8 0 = nI S) (hS8 : S ≤ 8) (hM : IF 8 1 = nI M) (hM8 : M ≤ 8) {x z v : Int32} {b : Bool} (hv : v = zbo b) (h1 : zIn M x → zIn S z → xe A 8 x z b = true → Q (.inl (some (.int (A 23 (xev x z b))))) (zM o ot it IF A AL AD)) (h2 : ¬ zIn M x ∨ ¬ zIn S z → Q (.inr 2) (zM o ot it IF A AL AD)) (h3 : zIn M x → zIn S z → xe A 8 x z b = false → Q (.inr 3) (zM o ot it IF A AL AD)) : zW ε false (d + 5) 96 0 [(0, .ref 0), (1, .int x), (2, .int z), (3, .int v)] [] (zM o ot it IF A AL AD) 0 0 Q := by
  refine zrun 5 ⟨⟨Nat.le_of_ble_eq_true rfl, Nat.le_of_ble_eq_true rfl, rfl⟩, ?_⟩
  refine c_reqEvent hS hS8 hM hM8 hv (fun gx gz g => ⟨rfl, ?_⟩) (fun g => ⟨⟨rfl, rfl⟩, h2 g⟩) (fun gx gz g => ⟨⟨rfl, rfl⟩, h3 gx gz g⟩)
  refine zrun 6 ⟨⟨Nat.le_of_ble_eq_true rfl, Nat.le_of_ble_eq_true rfl, rfl⟩, ?_⟩
  refine c_time (r := 22) (Or.inr (Or.inl rfl)) hv ⟨rfl, ?_⟩
  exact zrun 1 (h1 gx gz g)
theorem c_cause (hS : IF 8 0 = nI S) (hS8 : S ≤ 8) (hM : IF 8 1 = nI M) (hM8 : M ≤ 8) {x z v : Int32} {b : Bool} (hv : v = zbo b) (h1 : zIn M x → zIn S z → xe A 8 x z b = true → Q (.inl (some (.int (xRs IF A 22 x z b)))) (zM o ot it IF A AL AD)) (h2 : ¬ zIn M x ∨ ¬ zIn S z → Q (.inr 2) (zM o ot it IF A AL AD)) (h3 : zIn M x → zIn S z → xe A 8 x z b = false → Q (.inr 3) (zM o ot it IF A AL AD)) : zW ε false (d + 5) 102 0 [(0, .ref 0), (1, .int x), (2, .int z), (3, .int v)] [] (zM o ot it IF A AL AD) 0 0 Q := by
  refine zrun 5 ⟨⟨Nat.le_of_ble_eq_true rfl, Nat.le_of_ble_eq_true rfl, rfl⟩, ?_⟩
  refine c_reqEvent hS hS8 hM hM8 hv (fun gx gz g => ⟨rfl, ?_⟩) (fun g => ⟨⟨rfl, rfl⟩, h2 g⟩) (fun gx gz g => ⟨⟨rfl, rfl⟩, h3 gx gz g⟩)
  refine zrun 6 ⟨⟨Nat.le_of_ble_eq_true rfl, Nat.le_of_ble_eq_true rfl, rfl⟩, ?_⟩
  refine c_reason (r := 22) (Or.inr (Or.inl rfl)) hv ⟨rfl, ?_⟩
  exact zrun 1 (h1 gx gz g)
theorem c_supplement (hM : IF 8 1 = nI M) (hM8 : M ≤ 8) {x z : Int32} (h1 : zIn M x → xd A 8 x z = true → Q (.inl (some (.int (A 21 (xev x (z + 1) true))))) (zM o ot it IF A AL AD)) (h2 : ¬ zIn M x ∨ xd A 8 x z = false → Q (.inr 2) (zM o ot it IF A AL AD)) : zW ε false (d + 4) 90 0 [(0, .ref 0), (1, .int x), (2, .int z)] [] (zM o ot it IF A AL AD) 0 0 Q := by
  refine zrun 4 ⟨⟨Nat.le_of_ble_eq_true rfl, Nat.le_of_ble_eq_true rfl, rfl⟩, ?_⟩
  refine c_reqRun hM hM8 (fun gx g => ⟨rfl, ?_⟩) (fun g => ⟨⟨rfl, rfl⟩, h2 g⟩)
  refine zrun 8 ⟨⟨Nat.le_of_ble_eq_true rfl, Nat.le_of_ble_eq_true rfl, rfl⟩, ?_⟩
  refine c_extra (r := 18) (Or.inl rfl) (b := true) rfl ⟨rfl, ?_⟩
  exact zrun 1 (h1 gx g)
theorem c_setSupplement (hS : IF 8 0 = nI S) (hS8 : S ≤ 8) (hM : IF 8 1 = nI M) (hM8 : M ≤ 8) (hN : IF 8 2 = nI N) (hN8 : N ≤ 8) {x z w : Int32} (h1 : zIn M x → xd A 8 x z = true → zIn 10 w → Q (.inl (some (.int (A 21 (xev x (z + 1) true))))) (zM o ot it IF (xsu IF N M S x z w A) AL AD)) (h2 : ¬ zIn M x ∨ xd A 8 x z = false → Q (.inr 2) (zM o ot it IF A AL AD)) (h3 : zIn M x → xd A 8 x z = true → ¬ zIn 10 w → Q (.inr 1) (zM o ot it IF A AL AD)) : zW ε false (d + 6) 89 0 [(0, .ref 0), (1, .int x), (2, .int z), (3, .int w)] [] (zM o ot it IF A AL AD) 0 0 Q := by
  refine zrun 4 ⟨⟨Nat.le_of_ble_eq_true rfl, Nat.le_of_ble_eq_true rfl, rfl⟩, ?_⟩
  refine c_reqRun hM hM8 (fun gx gd => ⟨rfl, ?_⟩) (fun g => ⟨⟨rfl, rfl⟩, h2 g⟩)
  refine zrun 2 ⟨fun g => ?_, fun g => ?_⟩
  · exact zrun 1 ⟨⟨Nat.le_of_ble_eq_true rfl, Nat.le_of_ble_eq_true rfl, Nat.le_of_ble_eq_true rfl⟩, h3 gx gd (zIn_not (by omega) (Or.inl g))⟩
  · refine zrun 3 ⟨fun g2 => ?_, fun g2 => ?_⟩
    · have gw := zIn_le (n := 9) (by omega) g (show w ≤ nI 9 from g2)
      refine zrun 8 ⟨⟨Nat.le_of_ble_eq_true rfl, Nat.le_of_ble_eq_true rfl, rfl⟩, ?_⟩
      refine c_extra (r := 18) (Or.inl rfl) (b := true) rfl ⟨rfl, ?_⟩
      refine zrun 1 (zloc [(0, _), (1, _), (2, _), (3, _), (4, _)] rfl ?_)
      refine zrun 9 ⟨⟨Nat.le_of_ble_eq_true rfl, Nat.le_of_ble_eq_true rfl, rfl⟩, ?_⟩
      refine c_setExtra (r := 18) (Or.inl rfl) (b := true) rfl ⟨rfl, ?_⟩
      refine zrun 3 ⟨⟨Nat.le_of_ble_eq_true rfl, Nat.le_of_ble_eq_true rfl, rfl⟩, ?_⟩
      refine c_compute (r := 18) (Or.inl rfl) hS hS8 hN hN8 hM hM8 ⟨rfl, ?_⟩
      refine zrun 3 ⟨⟨Nat.le_of_ble_eq_true rfl, Nat.le_of_ble_eq_true rfl, rfl⟩, ?_⟩
      refine c_compute (r := 22) (Or.inr (Or.inl rfl)) hS hS8 hN hN8 hM hM8 ⟨rfl, ?_⟩
      exact zrun 2 (h1 gx gd gw)
    · exact zrun 1 ⟨⟨Nat.le_of_ble_eq_true rfl, Nat.le_of_ble_eq_true rfl, Nat.le_of_ble_eq_true rfl⟩, h3 gx gd (zIn_nle (n := 9) (by omega) g2)⟩
theorem c_buffer (hM : IF 8 1 = nI M) (hM8 : M ≤ 8) {x z : Int32} (h1 : zIn M x → xd A 8 x z = true → ¬ xah A 12 x z = -1 → Q (.inl (some (.int (A 20 (xev x z false) - A 20 (xev (xah A 12 x z) z false) - IF 8 3)))) (zM o ot it IF A AL AD)) (h2 : ¬ zIn M x ∨ xd A 8 x z = false → Q (.inr 2) (zM o ot it IF A AL AD)) (h3 : zIn M x → xd A 8 x z = true → xah A 12 x z = -1 → Q (.inr 3) (zM o ot it IF A AL AD)) : zW ε false (d + 4) 91 0 [(0, .ref 0), (1, .int x), (2, .int z)] [] (zM o ot it IF A AL AD) 0 0 Q := by
  refine zrun 4 ⟨⟨Nat.le_of_ble_eq_true rfl, Nat.le_of_ble_eq_true rfl, rfl⟩, ?_⟩
  refine c_reqRun hM hM8 (fun gx gd => ⟨rfl, ?_⟩) (fun g => ⟨⟨rfl, rfl⟩, h2 g⟩)
  refine zrun 5 ⟨⟨Nat.le_of_ble_eq_true rfl, Nat.le_of_ble_eq_true rfl, rfl⟩, ?_⟩
  refine c_ahead (Or.inl rfl) ⟨rfl, ?_⟩
  refine zrun 1 (zloc [(0, _), (1, _), (2, _), (3, _)] rfl ?_)
  refine zrun 3 ⟨fun g => ?_, fun g => ?_⟩
  · refine zrun 6 ⟨⟨Nat.le_of_ble_eq_true rfl, Nat.le_of_ble_eq_true rfl, rfl⟩, ?_⟩
    refine c_time (r := 18) (Or.inl rfl) (b := false) rfl ⟨rfl, ?_⟩
    refine zrun 6 ⟨⟨Nat.le_of_ble_eq_true rfl, Nat.le_of_ble_eq_true rfl, rfl⟩, ?_⟩
    refine c_time (r := 18) (Or.inl rfl) (b := false) rfl ⟨rfl, ?_⟩
    exact zrun 6 (h1 gx gd g)
  · exact zrun 1 ⟨⟨Nat.le_of_ble_eq_true rfl, Nat.le_of_ble_eq_true rfl, Nat.le_of_ble_eq_true rfl⟩, h3 gx gd g⟩
theorem c_totalDelay (hS : IF 8 0 = nI S) (hS8 : S ≤ 8) (hM : IF 8 1 = nI M) (hM8 : M ≤ 8) (hq : Q (.inl (some (.int (xsd2 A 22 S M 0 0)))) (zM o ot it IF A AL AD)) : zW ε false (d + 4) 97 0 [(0, .ref 0)] [] (zM o ot it IF A AL AD) 0 0 Q := by
  refine zrun 3 ⟨⟨Nat.zero_le _, Nat.zero_le _, rfl⟩, ?_⟩
  refine c_sumOfDelays (r := 22) (Or.inr (Or.inl rfl)) hS hS8 hM hM8 ⟨rfl, ?_⟩
  exact zrun 1 hq
theorem c_lateTrains (hM : IF 8 1 = nI M) (hM8 : M ≤ 8) (hq : Q (.inl (some (.int (xls A 22 0 M 0 0)))) (zM o ot it IF A AL AD)) : zW ε false (d + 4) 98 0 [(0, .ref 0)] [] (zM o ot it IF A AL AD) 0 0 Q := by
  refine zrun 4 ⟨⟨Nat.zero_le _, Nat.zero_le _, rfl⟩, ?_⟩
  refine c_lateSet (r := 22) (Or.inr (Or.inl rfl)) hM hM8 ⟨rfl, ?_⟩
  exact zrun 1 hq
theorem c_recovery (hS : IF 8 0 = nI S) (hS8 : S ≤ 8) (hM : IF 8 1 = nI M) (hM8 : M ≤ 8) (hq : Q (.inl (some (.int (xld2 A 22 S M 0 (-1) + 1)))) (zM o ot it IF A AL AD)) : zW ε false (d + 4) 103 0 [(0, .ref 0)] [] (zM o ot it IF A AL AD) 0 0 Q := by
  refine zrun 3 ⟨⟨Nat.zero_le _, Nat.zero_le _, rfl⟩, ?_⟩
  refine c_lastDelayed (r := 22) (Or.inr (Or.inl rfl)) hS hS8 hM hM8 ⟨rfl, ?_⟩
  exact zrun 3 hq
theorem c_isKept (hN : IF 8 2 = nI N) (hN8 : N ≤ 8) {x : Int32} (h1 : zIn N x → Q (.inl (some (.int (zbo (xW IF A 22 (xk A x 1) (xk A x 2) (xC A 22 x)))))) (zM o ot it IF A AL AD)) (h2 : ¬ zIn N x → Q (.inr 2) (zM o ot it IF A AL AD)) : zW ε false (d + 4) 100 0 [(0, .ref 0), (1, .int x)] [] (zM o ot it IF A AL AD) 0 0 Q := by
  refine zrun 2 ⟨fun g => ?_, fun g => ?_⟩
  · exact zrun 1 ⟨⟨Nat.le_of_ble_eq_true rfl, Nat.le_of_ble_eq_true rfl, Nat.le_of_ble_eq_true rfl⟩, h2 (zIn_not (by omega) (Or.inl g))⟩
  · refine zrun 5 ⟨fun g2 => ?_, fun g2 => ?_⟩
    · have g3 : x < IF 8 2 := g2
      rw [hN] at g3
      refine zrun 4 ⟨⟨Nat.le_of_ble_eq_true rfl, Nat.le_of_ble_eq_true rfl, rfl⟩, ?_⟩
      refine c_keeps (r := 22) (Or.inr (Or.inl rfl)) ⟨rfl, ?_⟩
      exact zrun 1 ⟨zbo_n _, h1 (zIn_of (by omega) g g3)⟩
    · have g3 : ¬ x < IF 8 2 := g2
      rw [hN] at g3
      exact zrun 1 ⟨⟨Nat.le_of_ble_eq_true rfl, Nat.le_of_ble_eq_true rfl, Nat.le_of_ble_eq_true rfl⟩, h2 (zIn_not (by omega) (Or.inr (i32_nlt g3)))⟩
theorem cl_mi (hN : IF 8 2 = nI N) (hN8 : N ≤ 8) : ∀ (n i : Nat) (v c : Int32), i + n = N → c = nI i → Q (.inl (some (.int (xmi IF A n i v)))) (zM o ot it IF A AL AD) → zW ε false (d + 4) 101 4 [(0, .ref 0), (1, .int v), (2, .int c)] [] (zM o ot it IF A AL AD) 0 0 Q := by
  intro n
  induction n with
  | zero =>
    intro i v c hi hc hq
    refine zrun 5 (zb_ge hc hN (by omega) (by omega) (fun _ => ?_) (fun h => absurd h (by omega)))
    exact zrun 2 hq
  | succ n ih =>
    intro i v c hi hc hq
    subst hc
    refine zrun 5 (zb_ge rfl hN (by omega) (by omega) (fun h => absurd h (by omega)) (fun _ => ?_))
    refine zrun 4 ⟨⟨Nat.zero_le _, Nat.zero_le _, rfl⟩, ?_⟩
    refine c_keeps (r := 22) (Or.inr (Or.inl rfl)) ⟨rfl, ?_⟩
    unfold xmi at hq
    refine zrun 1 (zb_t rfl (fun g => ?_) (fun g => ?_))
    · rw [g] at hq
      exact zrun 2 (ih (i + 1) v (nI i + 1) (by omega) (nI_1 i) hq)
    · rw [g] at hq
      exact zrun 3 (ih (i + 1) (v + 1) (nI i + 1) (by omega) (nI_1 i) hq)
theorem c_missed (hN : IF 8 2 = nI N) (hN8 : N ≤ 8) (hq : Q (.inl (some (.int (xmi IF A N 0 0)))) (zM o ot it IF A AL AD)) : zW ε false (d + 4) 101 0 [(0, .ref 0)] [] (zM o ot it IF A AL AD) 0 0 Q := zrun 4 (cl_mi hN hN8 N 0 0 0 (by omega) nI_0.symm hq)
theorem c_bestOvertaking (hS : IF 8 0 = nI S) (hS2 : 2 ≤ S) (hS8 : S ≤ 8) (hM : IF 8 1 = nI M) (hM8 : M ≤ 8) (hN : IF 8 2 = nI N) (hN8 : N ≤ 8) (hq : Q (.inl (some (.int (xfb IF N M S A).1))) (zM o ot it IF (xfb IF N M S A).2 AL AD)) : zW ε false (d + 7) 105 0 [(0, .ref 0)] [] (zM o ot it IF A AL AD) 0 0 Q := by
  refine zrun 2 ⟨⟨Nat.zero_le _, Nat.zero_le _, rfl⟩, ?_⟩
  refine c_findBest hS hS2 hS8 hM hM8 hN hN8 ⟨rfl, ?_⟩
  exact zrun 1 hq
theorem c_plan (hS : IF 8 0 = nI S) (hS2 : 2 ≤ S) (hS8 : S ≤ 8) (hM : IF 8 1 = nI M) (hM8 : M ≤ 8) (hN : IF 8 2 = nI N) (hN8 : N ≤ 8) {x a b : Int32} (h1 : ∀ s, s < S - 1 → x = nI s → zIn M a → zIn M b → (xs IF 8 (nI s) && xcp A 12 M a b (S - 1 - s) s) = true → Q (.inl (some (.int (xpl IF N M S s a b A 20 (xev b (xo (xpl IF N M S s a b A) 8 b 1) true))))) (zM o ot it IF (xpl IF N M S s a b A) AL AD)) (h2 : ¬ zIn (S - 1) x ∨ ¬ zIn M a ∨ ¬ zIn M b → Q (.inr 2) (zM o ot it IF A AL AD)) (h3 : ∀ s, s < S - 1 → x = nI s → zIn M a → zIn M b → (xs IF 8 (nI s) && xcp A 12 M a b (S - 1 - s) s) = false → Q (.inr 0) (zM o ot it IF A AL AD)) : zW ε false (d + 6) 88 0 [(0, .ref 0), (1, .int x), (2, .int a), (3, .int b)] [] (zM o ot it IF A AL AD) 0 0 Q := by
  refine zrun 7 ⟨⟨Nat.le_of_ble_eq_true rfl, Nat.le_of_ble_eq_true rfl, rfl⟩, ?_⟩
  refine c_reqOver (k := 12) (Or.inl rfl) hS hS2 hS8 hM hM8 (fun s hs hx ga gb g => ⟨rfl, ?_⟩) (fun g => ⟨⟨rfl, rfl⟩, h2 g⟩) (fun s hs hx ga gb g => ⟨⟨rfl, rfl⟩, h3 s hs hx ga gb g⟩)
  have hM1 : 1 ≤ M := by obtain ⟨t, ht, -⟩ := ga; omega
  refine zrun 6 ⟨⟨Nat.le_of_ble_eq_true rfl, Nat.le_of_ble_eq_true rfl, rfl⟩, ?_⟩
  refine c_pass (k := 12) (Or.inl rfl) hS (by omega) hS8 hM hM1 hM8 (s := s) (by omega) hx ⟨rfl, ?_⟩
  refine zrun 5 ⟨⟨Nat.le_of_ble_eq_true rfl, Nat.le_of_ble_eq_true rfl, rfl⟩, ?_⟩
  refine c_copyOrders ⟨rfl, ?_⟩
  refine zrun 3 ⟨⟨Nat.le_of_ble_eq_true rfl, Nat.le_of_ble_eq_true rfl, rfl⟩, ?_⟩
  refine c_compute (r := 18) (Or.inl rfl) hS hS8 hN hN8 hM hM8 ⟨rfl, ?_⟩
  refine zrun 3 ⟨⟨Nat.le_of_ble_eq_true rfl, Nat.le_of_ble_eq_true rfl, rfl⟩, ?_⟩
  refine c_compute (r := 22) (Or.inr (Or.inl rfl)) hS hS8 hN hN8 hM hM8 ⟨rfl, ?_⟩
  refine zrun 4 ⟨⟨Nat.le_of_ble_eq_true rfl, Nat.le_of_ble_eq_true rfl, rfl⟩, ?_⟩
  refine c_lastTime (r := 18) (Or.inl rfl) ⟨rfl, ?_⟩
  exact zrun 1 (h1 s hs hx ga gb g)
theorem c_overtake (hS : IF 8 0 = nI S) (hS2 : 2 ≤ S) (hS8 : S ≤ 8) (hM : IF 8 1 = nI M) (hM8 : M ≤ 8) (hN : IF 8 2 = nI N) (hN8 : N ≤ 8) {x a b : Int32} (h1 : ∀ s, s < S - 1 → x = nI s → zIn M a → zIn M b → (xs IF 8 (nI s) && xcp A 15 M a b (S - 1 - s) s) = true → Q (.inl (some (.int (xsd2 (xov IF N M S s a b A) 22 S M 0 0)))) (zM o ot it IF (xov IF N M S s a b A) AL AD)) (h2 : ¬ zIn (S - 1) x ∨ ¬ zIn M a ∨ ¬ zIn M b → Q (.inr 2) (zM o ot it IF A AL AD)) (h3 : ∀ s, s < S - 1 → x = nI s → zIn M a → zIn M b → (xs IF 8 (nI s) && xcp A 15 M a b (S - 1 - s) s) = false → Q (.inr 0) (zM o ot it IF A AL AD)) : zW ε false (d + 6) 104 0 [(0, .ref 0), (1, .int x), (2, .int a), (3, .int b)] [] (zM o ot it IF A AL AD) 0 0 Q := by
  refine zrun 7 ⟨⟨Nat.le_of_ble_eq_true rfl, Nat.le_of_ble_eq_true rfl, rfl⟩, ?_⟩
  refine c_reqOver (k := 15) (Or.inr rfl) hS hS2 hS8 hM hM8 (fun s hs hx ga gb g => ⟨rfl, ?_⟩) (fun g => ⟨⟨rfl, rfl⟩, h2 g⟩) (fun s hs hx ga gb g => ⟨⟨rfl, rfl⟩, h3 s hs hx ga gb g⟩)
  have hM1 : 1 ≤ M := by obtain ⟨t, ht, -⟩ := ga; omega
  refine zrun 6 ⟨⟨Nat.le_of_ble_eq_true rfl, Nat.le_of_ble_eq_true rfl, rfl⟩, ?_⟩
  refine c_pass (k := 15) (Or.inr rfl) hS (by omega) hS8 hM hM1 hM8 (s := s) (by omega) hx ⟨rfl, ?_⟩
  refine zrun 3 ⟨⟨Nat.le_of_ble_eq_true rfl, Nat.le_of_ble_eq_true rfl, rfl⟩, ?_⟩
  refine c_compute (r := 22) (Or.inr (Or.inl rfl)) hS hS8 hN hN8 hM hM8 ⟨rfl, ?_⟩
  refine zrun 3 ⟨⟨Nat.le_of_ble_eq_true rfl, Nat.le_of_ble_eq_true rfl, rfl⟩, ?_⟩
  refine c_sumOfDelays (r := 22) (Or.inr (Or.inl rfl)) hS hS8 hM hM8 ⟨rfl, ?_⟩
  exact zrun 1 (h1 s hs hx ga gb g)
theorem c_clear (hS : IF 8 0 = nI S) (hS8 : S ≤ 8) (hM : IF 8 1 = nI M) (hM8 : M ≤ 8) (hN : IF 8 2 = nI N) (hN8 : N ≤ 8) (hq : Q (.inl (some (.int (IF 0 8)))) (zM o ot it (xbI IF) (xcl IF N M S A) AL AD)) : zW ε false (d + 6) 95 0 [(0, .ref 0)] [] (zM o ot it IF A AL AD) 0 0 Q := by
  have hS' : xbI IF 8 0 = nI S := hS
  have hM' : xbI IF 8 1 = nI M := hM
  have hN' : xbI IF 8 2 = nI N := hN
  refine zrun 3 (zloc [(0, _), (1, _)] rfl ?_)
  refine zrun 3 ?_
  refine zrun 3 ⟨⟨Nat.zero_le _, Nat.zero_le _, rfl⟩, ?_⟩
  refine c_clearExtras (IF := xbI IF) (Or.inr rfl) ⟨rfl, ?_⟩
  refine zrun 5 ⟨⟨Nat.zero_le _, Nat.zero_le _, rfl⟩, ?_⟩
  refine c_copyOrders (IF := xbI IF) ⟨rfl, ?_⟩
  refine zrun 3 ⟨⟨Nat.zero_le _, Nat.zero_le _, rfl⟩, ?_⟩
  refine c_compute (IF := xbI IF) (r := 22) (Or.inr (Or.inl rfl)) hS' hS8 hN' hN8 hM' hM8 ⟨rfl, ?_⟩
  exact zrun 2 hq
theorem c_disturb (hS : IF 8 0 = nI S) (hS8 : S ≤ 8) (hM : IF 8 1 = nI M) (hM8 : M ≤ 8) (hN : IF 8 2 = nI N) (hN8 : N ≤ 8) {k : Nat} (hk : IF 0 8 = nI k) (hk20 : k ≤ 20) {x z v w : Int32} {b : Bool} (hv : v = zbo b) (h1 : zIn M x → zIn S z → ¬ w < 1 → w ≤ 120 → xe A 8 x z b = true → k < 20 → Q (.inl (some (.int (nI k + 1)))) (zM o ot it (va_up IF 0 (upd (IF 0) 8 (nI k + 1))) (xdu IF N M S x z w b A) AL AD)) (h2 : ¬ zIn M x ∨ ¬ zIn S z → Q (.inr 2) (zM o ot it IF A AL AD)) (h3 : zIn M x → zIn S z → (w < 1 ∨ ¬ w ≤ 120) → Q (.inr 1) (zM o ot it IF A AL AD)) (h4 : zIn M x → zIn S z → ¬ w < 1 → w ≤ 120 → xe A 8 x z b = false → Q (.inr 3) (zM o ot it IF A AL AD)) (h5 : zIn M x → zIn S z → ¬ w < 1 → w ≤ 120 → xe A 8 x z b = true → 20 ≤ k → Q (.inr 0) (zM o ot it IF A AL AD)) : zW ε false (d + 6) 94 0 [(0, .ref 0), (1, .int x), (2, .int z), (3, .int v), (4, .int w)] [] (zM o ot it IF A AL AD) 0 0 Q := by
  refine zrun 3 ⟨⟨Nat.le_of_ble_eq_true rfl, Nat.le_of_ble_eq_true rfl, rfl⟩, ?_⟩
  refine c_reqTrain hM hM8 (fun gx => ⟨rfl, ?_⟩) (fun g => ⟨⟨rfl, rfl⟩, h2 (Or.inl g)⟩)
  refine zrun 3 ⟨⟨Nat.le_of_ble_eq_true rfl, Nat.le_of_ble_eq_true rfl, rfl⟩, ?_⟩
  refine c_reqStation hS hS8 (fun gz => ⟨rfl, ?_⟩) (fun g => ⟨⟨rfl, rfl⟩, h2 (Or.inr g)⟩)
  refine zrun 3 ⟨fun g => ?_, fun g => ?_⟩
  · exact zrun 1 ⟨⟨Nat.le_of_ble_eq_true rfl, Nat.le_of_ble_eq_true rfl, Nat.le_of_ble_eq_true rfl⟩, h3 gx gz (Or.inl g)⟩
  · refine zrun 3 ⟨fun g2 => ?_, fun g2 => ?_⟩
    · refine zrun 5 ⟨⟨Nat.le_of_ble_eq_true rfl, Nat.le_of_ble_eq_true rfl, rfl⟩, ?_⟩
      refine c_reqEvent hS hS8 hM hM8 hv (fun _ _ ge => ⟨rfl, ?_⟩) (fun q => ⟨⟨rfl, rfl⟩, h2 q⟩) (fun _ _ ge => ⟨⟨rfl, rfl⟩, h4 gx gz g g2 ge⟩)
      refine zrun 4 (zb_lt (b := 20) hk rfl (by omega) (by omega) (fun g3 => ?_) (fun g3 => ?_))
      · refine zrun 6 ⟨⟨Nat.le_of_ble_eq_true rfl, Nat.le_of_ble_eq_true rfl, rfl⟩, ?_⟩
        refine c_extra (r := 22) (Or.inr (Or.inl rfl)) hv ⟨rfl, ?_⟩
        refine zrun 1 (zloc [(0, _), (1, _), (2, _), (3, _), (4, _), (5, _)] rfl ?_)
        refine zrun 9 ⟨⟨Nat.le_of_ble_eq_true rfl, Nat.le_of_ble_eq_true rfl, rfl⟩, ?_⟩
        refine c_setExtra (r := 22) (Or.inr (Or.inl rfl)) hv ⟨rfl, ?_⟩
        refine zrun 3 ⟨⟨Nat.le_of_ble_eq_true rfl, Nat.le_of_ble_eq_true rfl, rfl⟩, ?_⟩
        refine c_compute (r := 22) (Or.inr (Or.inl rfl)) hS hS8 hN hN8 hM hM8 ⟨rfl, ?_⟩
        have q := h1 gx gz g g2 ge g3
        rw [← hk] at q
        exact zrun 9 q
      · exact zrun 1 ⟨⟨Nat.le_of_ble_eq_true rfl, Nat.le_of_ble_eq_true rfl, Nat.le_of_ble_eq_true rfl⟩, h5 gx gz g g2 ge g3⟩
    · exact zrun 1 ⟨⟨Nat.le_of_ble_eq_true rfl, Nat.le_of_ble_eq_true rfl, Nat.le_of_ble_eq_true rfl⟩, h3 gx gz (Or.inr g2)⟩
end
