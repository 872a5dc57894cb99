/-! the class: Line -/
section
variable {ε : Nat × (Nat → Int32)} {d : Nat} {Q : zQ} {h : zH}
/-- cell(row, column) -/
theorem c_cell {al : Bool} {x z : Int32} {a b : Nat} (hx : x = nI a) (hz : z = nI b) (ha : a < 8) (hb : b < 8) (hq : Q (.inl (some (.int (nI (8 * a + b))))) h) : zW ε al d 116 0 [(0, .int x), (1, .int z)] [] h 0 0 Q := by
  subst hx; subst hz
  have e : (nI a &&& 7) * 8 + (nI b &&& 7) = nI (8 * a + b) := by
    rw [zmask ha, zmask hb, show (8 : Int32) = nI 8 from rfl, pk_mul, nI_add, Nat.mul_comm]
  refine zrun 10 ?_
  show Q (.inl (some (.int ((nI a &&& 7) * 8 + (nI b &&& 7))))) h
  rw [e]
  exact hq
/-- event(train, station, isArrival) -/
theorem c_event {x z : Int32} {t s : Nat} {b : Bool} (hx : x = nI t) (hz : z = nI s) (ht : t < 8) (hs : s < 8) (hq : Q (.inl (some (.int (nI (8 * t + s + cond b 64 0))))) h) : zW ε false (d + 1) 117 0 [(0, .int x), (1, .int z), (2, .int (zbo b))] [] h 0 0 Q := by
  refine zrun 3 ⟨⟨Nat.le_of_ble_eq_true rfl, Nat.le_of_ble_eq_true rfl, rfl⟩, ?_⟩
  refine c_cell hx hz ht hs ⟨rfl, ?_⟩
  refine zrun 2 (zb_f rfl (fun hb => ?_) (fun hb => ?_))
  · subst hb
    refine zrun 3 ?_
    show Q (.inl (some (.int (nI (8 * t + s) + nI 0)))) h
    rw [nI_add]
    exact hq
  · subst hb
    refine zrun 4 ?_
    show Q (.inl (some (.int (nI (8 * t + s) + nI 64)))) h
    rw [nI_add]
    exact hq
end
section
variable {ε : Nat × (Nat → Int32)} {d : Nat} {Q : zQ} {o ot it : Value} {IF A : Nat → Nat → Int32} {AL : Nat → Nat → Int64} {AD : Nat → Nat → UInt64}
/-- Line.of(train, what) -/
theorem c_of {k : Nat} (hk : k = 4 ∨ k = 8) {x z : Int32} {t w : Nat} (hx : x = nI t) (hz : z = nI w) (ht : t < 8) (hw : w < 8) (hq : Q (.inl (some (.int (A (k + 2) (8 * t + w))))) (zM o ot it IF A AL AD)) : zW ε false (d + 1) 12 0 [(0, .ref k), (1, .int x), (2, .int z)] [] (zM o ot it IF A AL AD) 0 0 Q := by
  rcases hk with rfl | rfl
  · refine zrun 5 ⟨⟨Nat.le_of_ble_eq_true rfl, Nat.le_of_ble_eq_true rfl, rfl⟩, ?_⟩
    refine c_cell hx hz ht hw ⟨rfl, ?_⟩
    refine zW_iald (n := 8 * t + w) rfl rfl rfl (by omega) (by omega) ?_
    exact zrun 1 hq
  · refine zrun 5 ⟨⟨Nat.le_of_ble_eq_true rfl, Nat.le_of_ble_eq_true rfl, rfl⟩, ?_⟩
    refine c_cell hx hz ht hw ⟨rfl, ?_⟩
    refine zW_iald (n := 8 * t + w) rfl rfl rfl (by omega) (by omega) ?_
    exact zrun 1 hq
end
