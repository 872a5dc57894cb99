/-! the class: more calls -/
section
variable {S : Nat}
theorem zpr_in {v z : Int32} (hv : v = nI S) (hS8 : S ≤ 8) (h0 : ¬ z < 0) (h : ¬ v - 1 ≤ z) : zIn (S - 1) z := by
  cases S with
  | zero =>
    refine absurd ?_ h
    subst hv
    rw [Int32.le_iff_toInt_le]
    rw [Int32.lt_iff_toInt_lt] at h0
    have e : (nI 0 - 1 : Int32).toInt = -1 := by decide
    have e0 : (0 : Int32).toInt = 0 := by decide
    omega
  | succ S =>
    subst hv
    rw [nI_pred] at h
    exact zIn_of (by omega) h0 (i32_nle h)
theorem zpr_out {v z : Int32} (hv : v = nI S) (hS8 : S ≤ 8) (h : v - 1 ≤ z) : ¬ zIn (S - 1) z := by
  cases S with
  | zero => rintro ⟨t, ht, -⟩; exact absurd ht (by omega)
  | succ S =>
    subst hv
    rw [nI_pred] at h
    exact zIn_not (by omega) (Or.inr h)
end
/-- count's answers -/
def xct (IF : Nat → Nat → Int32) : Nat → Int32
  | 0 => IF 8 0
  | 1 => IF 8 1
  | 2 => IF 8 2
  | 3 => IF 0 8
  | 4 => IF 8 3
  | _ => IF 8 4
def xla (A : Nat → Nat → Int32) : Nat → Nat → Int32 → Int32
  | 0, _, v => v
  | n + 1, t, v => xla A n (t + 1) (zmx v (A 20 (xev (nI t) (xo A 8 (nI t) 1) true)))
/-- Line.copyFrom -/
def xc1 (j : Nat) (IF : Nat → Nat → Int32) : Nat → Nat → Int32 := va_up IF 8 (upd (IF 8) j (IF 4 j))
def xcI (IF : Nat → Nat → Int32) : Nat → Nat → Int32 := xc1 5 (xc1 4 (xc1 3 (xc1 2 (xc1 1 (xc1 0 IF)))))
def xcA1 (p q n : Nat) (A : Nat → Nat → Int32) : Nat → Nat → Int32 := va_up A q (va_cpy (A p) (A q) 0 0 n)
def xcA (A : Nat → Nat → Int32) : Nat → Nat → Int32 := xcA1 7 11 64 (xcA1 6 10 64 (xcA1 5 9 8 A))
/-- Line.reset of the draft -/
def xr1 (j : Nat) (v : Int32) (IF : Nat → Nat → Int32) : Nat → Nat → Int32 := va_up IF 4 (upd (IF 4) j v)
def xrI (IF : Nat → Nat → Int32) : Nat → Nat → Int32 := xr1 5 0 (xr1 4 5 (xr1 3 3 (xr1 2 0 (xr1 1 0 (xr1 0 0 IF)))))
/-- tolerance: m minutes at the loop's head -/
def xtA (IF : Nat → Nat → Int32) (N M S : Nat) (x z : Int32) (m : Nat) (A : Nat → Nat → Int32) : Nat → Nat → Int32 := xCo IF 25 N M S 0 (va_up A 27 (upd (A 27) (xev x z false) (nI m)))
def xto (IF : Nat → Nat → Int32) (N M S : Nat) (x z : Int32) : Nat → (Nat → Nat → Int32) → Nat × (Nat → Nat → Int32)
  | 0, A => (0, A)
  | m + 1, A => if xls (xtA IF N M S x z m A) 25 0 M 0 0 = 0 then (m, xtA IF N M S x z m A) else xto IF N M S x z m (xtA IF N M S x z m A)
/-- dispatch -/
def xdp (IF : Nat → Nat → Int32) (N M S : Nat) : Nat → Nat → (Nat → Nat → Int32) → Nat × (Nat → Nat → Int32)
  | 0, i, A => (i, A)
  | n + 1, i, A => if (xfb IF N M S A).1 = -1 then (i, (xfb IF N M S A).2) else xdp IF N M S n (i + 1) (xov IF N M S (((xfb IF N M S A).1 / 100).toBitVec.toNat) ((xfb IF N M S A).1 / 10 - (xfb IF N M S A).1 / 10 / 10 * 10) ((xfb IF N M S A).1 - (xfb IF N M S A).1 / 10 * 10) (xfb IF N M S A).2)
section
variable {ε : Nat × (Nat → Int32)} {d : Nat} {Q : zQ} {o ot it : Value} {IF A : Nat → Nat → Int32} {AL : Nat → Nat → Int64} {AD : Nat → Nat → UInt64} {S M N : Nat}
theorem c_order (hS : IF 8 0 = nI S) (hS8 : S ≤ 8) (hM : IF 8 1 = nI M) (hM8 : M ≤ 8) {v z i : Int32} {b : Bool} (hv : v = zbo b) (h1 : zIn (S - 1) z → zIn M i → Q (.inl (some (.int (cond b (A 16 (8 * m8 z + m8 i)) (A 13 (8 * m8 z + m8 i)))))) (zM o ot it IF A AL AD)) (h2 : ¬ zIn (S - 1) z ∨ ¬ zIn M i → Q (.inr 2) (zM o ot it IF A AL AD)) : zW ε false (d + 2) 86 0 [(0, .ref 0), (1, .int v), (2, .int z), (3, .int i)] [] (zM o ot it IF A AL AD) 0 0 Q := by
  refine zrun 2 ⟨fun g => ?_, fun g => ?_⟩
  · exact zrun 1 ⟨⟨Nat.le_of_ble_eq_true rfl, Nat.le_of_ble_eq_true rfl, Nat.le_of_ble_eq_true rfl⟩, h2 (Or.inl (zIn_not (by omega) (Or.inl g)))⟩
  · refine zrun 7 ⟨fun g2 => ?_, fun g2 => ?_⟩
    · exact zrun 1 ⟨⟨Nat.le_of_ble_eq_true rfl, Nat.le_of_ble_eq_true rfl, Nat.le_of_ble_eq_true rfl⟩, h2 (Or.inl (zpr_out hS hS8 g2))⟩
    · have gz := zpr_in hS hS8 g g2
      refine zrun 2 ⟨fun g3 => ?_, fun g3 => ?_⟩
      · exact zrun 1 ⟨⟨Nat.le_of_ble_eq_true rfl, Nat.le_of_ble_eq_true rfl, Nat.le_of_ble_eq_true rfl⟩, h2 (Or.inr (zIn_not (by omega) (Or.inl g3)))⟩
      · refine zrun 5 ⟨fun g4 => ?_, fun g4 => ?_⟩
        · have g5 : i < IF 8 1 := g4
          rw [hM] at g5
          have q := h1 gz (zIn_of (by omega) g3 g5)
          refine zrun 2 (zb_f hv (fun hb => ?_) (fun hb => ?_))
          · subst hb
            refine zrun 5 ⟨⟨Nat.le_of_ble_eq_true rfl, Nat.le_of_ble_eq_true rfl, rfl⟩, ?_⟩
            refine c_at (Or.inl rfl) ⟨rfl, ?_⟩
            exact zrun 1 q
          · subst hb
            refine zrun 5 ⟨⟨Nat.le_of_ble_eq_true rfl, Nat.le_of_ble_eq_true rfl, rfl⟩, ?_⟩
            refine c_at (Or.inr rfl) ⟨rfl, ?_⟩
            exact zrun 2 q
        · have g5 : ¬ i < IF 8 1 := g4
          rw [hM] at g5
          exact zrun 1 ⟨⟨Nat.le_of_ble_eq_true rfl, Nat.le_of_ble_eq_true rfl, Nat.le_of_ble_eq_true rfl⟩, h2 (Or.inr (zIn_not (by omega) (Or.inr (i32_nlt g5))))⟩
theorem c_count {x : Int32} (h1 : ∀ n, n < 6 → x = nI n → Q (.inl (some (.int (xct IF n)))) (zM o ot it IF A AL AD)) (h2 : ¬ zIn 6 x → Q (.inr 1) (zM o ot it IF A AL AD)) : zW ε false d 83 0 [(0, .ref 0), (1, .int x)] [] (zM o ot it IF A AL AD) 0 0 Q := by
  have e6 : (nI 6).toInt = 6 := by decide
  have e0 : (0 : Int32).toInt = 0 := by decide
  refine zrun 2 ⟨fun g => ⟨rfl, ?_⟩, fun g1 g2 => ?_⟩
  · refine zrun 1 ⟨⟨Nat.le_of_ble_eq_true rfl, Nat.le_of_ble_eq_true rfl, Nat.le_of_ble_eq_true rfl⟩, h2 (zIn_not (by omega) ?_)⟩
    rw [Int32.lt_iff_toInt_lt, Int32.le_iff_toInt_le, e6, e0]
    omega
  · have hin : zIn 6 x := zIn_of (by omega) (by rw [Int32.lt_iff_toInt_lt, e0]; omega) (by rw [Int32.lt_iff_toInt_lt, e6]; omega)
    obtain ⟨n, hn, rfl⟩ := hin
    have q := h1 n hn rfl
    match n, hn, q with
    | 0, _, q => exact ⟨39, rfl, rfl, zrun 4 q⟩
    | 1, _, q => exact ⟨47, rfl, rfl, zrun 4 q⟩
    | 2, _, q => exact ⟨55, rfl, rfl, zrun 4 q⟩
    | 3, _, q => exact ⟨63, rfl, rfl, zrun 3 q⟩
    | 4, _, q => exact ⟨68, rfl, rfl, zrun 4 q⟩
    | 5, _, q => exact ⟨76, rfl, rfl, zrun 4 q⟩
theorem cl_la (hM : IF 8 1 = nI M) (hM8 : M ≤ 8) : ∀ (n i : Nat) (v c : Int32), i + n = M → c = nI i → Q (.inl (some (.int (xla A n i v)))) (zM o ot it IF A AL AD) → zW ε false (d + 3) 93 24 [(0, .ref 0), (1, .int v), (2, .int c)] [] (zM o ot it IF A AL AD) 0 0 Q := by
  intro n
  induction n with
  | zero =>
    intro i v c hi hc hq
    refine zrun 5 (zb_ge hc hM (by omega) (by omega) (fun _ => ?_) (fun h => absurd h (by omega)))
    exact zrun 2 hq
  | succ n ih =>
    intro i v c hi hc hq
    subst hc
    refine zrun 5 (zb_ge rfl hM (by omega) (by omega) (fun h => absurd h (by omega)) (fun _ => ?_))
    refine zrun 5 ⟨⟨Nat.zero_le _, Nat.zero_le _, rfl⟩, ?_⟩
    refine c_lastTime (r := 18) (Or.inl rfl) ⟨rfl, ?_⟩
    refine zrun 1 ⟨Nat.le_of_ble_eq_true rfl, ?_⟩
    exact zrun 3 (zloc [(0, _), (1, _), (2, _)] rfl (ih (i + 1) _ (nI i + 1) (by omega) (nI_1 i) hq))
theorem c_lastArrival (hM : IF 8 1 = nI M) (hM8 : M ≤ 8) (h1 : 0 < M → Q (.inl (some (.int (xla A M 0 0)))) (zM o ot it IF A AL AD)) (h2 : M = 0 → Q (.inr 3) (zM o ot it IF A AL AD)) : zW ε false (d + 3) 93 0 [(0, .ref 0)] [] (zM o ot it IF A AL AD) 0 0 Q := by
  refine zrun 4 (zb_ne (b := 0) hM nI_0.symm (by omega) (by omega) (fun g => ?_) (fun g => ?_))
  · exact zrun 4 (cl_la hM hM8 M 0 0 0 (by omega) nI_0.symm (h1 (by omega)))
  · exact zrun 1 ⟨⟨Nat.le_of_ble_eq_true rfl, Nat.le_of_ble_eq_true rfl, Nat.le_of_ble_eq_true rfl⟩, h2 g⟩
theorem c_copyLine (hq : Q (.inl none) (zM o ot it (xcI IF) (xcA A) AL AD)) : zW ε false d 5 0 [(0, .ref 8), (1, .ref 4)] [] (zM o ot it IF A AL AD) 0 0 Q := by
  refine zrun 24 ?_
  refine zrun 8 ⟨⟨Nat.le_of_ble_eq_true rfl, by decide, by decide, by decide, by decide, by decide⟩, ?_⟩
  refine zrun 8 ⟨⟨Nat.le_of_ble_eq_true rfl, by decide, by decide, by decide, by decide, by decide⟩, ?_⟩
  refine zrun 8 ⟨⟨Nat.le_of_ble_eq_true rfl, by decide, by decide, by decide, by decide, by decide⟩, ?_⟩
  exact zrun 1 hq
theorem c_reset (hq : Q (.inl none) (zM o ot it (xrI IF) A AL AD)) : zW ε false d 6 0 [(0, .ref 4)] [] (zM o ot it IF A AL AD) 0 0 Q := zrun 19 hq
theorem c_addStation {v : Int32} {b : Bool} (hv : v = zbo b) (hq : Q (.inl none) (zM o ot it (xr1 0 (IF 4 0 + 1) (cond b (xr1 5 (IF 4 5 ||| ((1 : Int32) <<< (IF 4 0 &&& 31))) IF) IF)) A AL AD)) : zW ε false d 7 0 [(0, .ref 4), (1, .int v)] [] (zM o ot it IF A AL AD) 0 0 Q := by
  refine zrun 2 (zb_f hv (fun hb => ?_) (fun hb => ?_))
  · subst hb
    exact zrun 7 hq
  · subst hb
    exact zrun 16 hq
theorem c_setLength {x z : Int32} (hq : Q (.inl none) (zM o ot it IF (va_up A 5 (upd (A 5) (m8 x) z)) AL AD)) : zW ε false d 8 0 [(0, .ref 4), (1, .int x), (2, .int z)] [] (zM o ot it IF A AL AD) 0 0 Q := by
  refine zrun 6 ?_
  refine zW_iast (n := m8 x) (N := 8) rfl rfl (m8_and x) (m8_lt x) (by decide) ?_
  exact zrun 1 hq
theorem c_setOf {x w z : Int32} (hq : Q (.inl none) (zM o ot it IF (va_up A 6 (upd (A 6) (8 * m8 x + m8 w) z)) AL AD)) : zW ε false (d + 1) 9 0 [(0, .ref 4), (1, .int x), (2, .int w), (3, .int z)] [] (zM o ot it IF A AL AD) 0 0 Q := by
  refine zrun 5 ⟨⟨Nat.zero_le _, Nat.zero_le _, rfl⟩, ?_⟩
  refine c_cell ⟨rfl, ?_⟩
  refine zrun 1 ?_
  refine zW_iast (n := 8 * m8 x + m8 w) (N := 64) rfl rfl rfl (m8_2 x w) (by decide) ?_
  exact zrun 1 hq
theorem c_setLink {x w z : Int32} (hq : Q (.inl none) (zM o ot it IF (va_up A 7 (upd (A 7) (8 * m8 x + m8 w) z)) AL AD)) : zW ε false (d + 1) 10 0 [(0, .ref 4), (1, .int x), (2, .int w), (3, .int z)] [] (zM o ot it IF A AL AD) 0 0 Q := by
  refine zrun 5 ⟨⟨Nat.zero_le _, Nat.zero_le _, rfl⟩, ?_⟩
  refine c_cell ⟨rfl, ?_⟩
  refine zrun 1 ?_
  refine zW_iast (n := 8 * m8 x + m8 w) (N := 64) rfl rfl rfl (m8_2 x w) (by decide) ?_
  exact zrun 1 hq
end
