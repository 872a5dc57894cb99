/-! the class: Line (reads) -/
def m8 (x : Int32) : Nat := x.toBitVec.toNat % 8
theorem m8_lt (x : Int32) : m8 x < 8 := Nat.mod_lt _ (by decide)
theorem m8_and (x : Int32) : x &&& 7 = nI (m8 x) := pk_and x 3 (by decide)
theorem m8_nI {n : Nat} (h : n < 8) : m8 (nI n) = n := by
  unfold m8
  rw [pk_tn (by omega), Nat.mod_eq_of_lt h]
/-- the place of an event in a row -/
def xev (t s : Int32) (b : Bool) : Nat := 8 * m8 t + m8 s + cond b 64 0
theorem xev_lt (t s : Int32) (b : Bool) : xev t s b < 128 := by
  have h1 := m8_lt t
  have h2 := m8_lt s
  unfold xev
  cases b
  · show 8 * m8 t + m8 s + 0 < 128; omega
  · show 8 * m8 t + m8 s + 64 < 128; omega
def xo (A : Nat → Nat → Int32) (k : Nat) (t w : Int32) : Int32 := A (k + 2) (8 * m8 t + m8 w)
def xk (A : Nat → Nat → Int32) (c w : Int32) : Int32 := A 11 (8 * m8 c + m8 w)
def xd (A : Nat → Nat → Int32) (k : Nat) (t s : Int32) : Bool := decide (¬ s < xo A k t 0) && decide (¬ xo A k t 1 ≤ s)
def xa (A : Nat → Nat → Int32) (k : Nat) (t s : Int32) : Bool := decide (¬ s ≤ xo A k t 0) && decide (¬ xo A k t 1 < s)
def xe (A : Nat → Nat → Int32) (k : Nat) (t s : Int32) (b : Bool) : Bool := cond b (xa A k t s) (xd A k t s)
def xs (IF : Nat → Nat → Int32) (k : Nat) (s : Int32) : Bool := decide (¬ ((IF k 5 >>> (s &&& 31)) &&& 1) = 0)
def xr (A : Nat → Nat → Int32) (t s : Int32) : Int32 := A 9 (m8 s) * xo A 8 t 3
theorem xd_f1 {A : Nat → Nat → Int32} {k : Nat} {t s : Int32} (h : s < xo A k t 0) : xd A k t s = false := by unfold xd; simp [h]
theorem xd_f2 {A : Nat → Nat → Int32} {k : Nat} {t s : Int32} (h : xo A k t 1 ≤ s) : xd A k t s = false := by unfold xd; simp [h]
theorem xd_t {A : Nat → Nat → Int32} {k : Nat} {t s : Int32} (h1 : ¬ s < xo A k t 0) (h2 : ¬ xo A k t 1 ≤ s) : xd A k t s = true := by unfold xd; simp [h1, h2]
theorem xa_f1 {A : Nat → Nat → Int32} {k : Nat} {t s : Int32} (h : s ≤ xo A k t 0) : xa A k t s = false := by unfold xa; simp [h]
theorem xa_f2 {A : Nat → Nat → Int32} {k : Nat} {t s : Int32} (h : xo A k t 1 < s) : xa A k t s = false := by unfold xa; simp [h]
theorem xa_t {A : Nat → Nat → Int32} {k : Nat} {t s : Int32} (h1 : ¬ s ≤ xo A k t 0) (h2 : ¬ xo A k t 1 < s) : xa A k t s = true := by unfold xa; simp [h1, h2]
/-- the locals written out -/
theorem zloc {ε : Nat × (Nat → Int32)} {al : Bool} {d y pc : Nat} {l : zL} {st : List Value} {h : zH} {uc us : Nat} {Q : zQ} (l' : zL) (hl : l = l') (hh : zW ε al d y pc l' st h uc us Q) : zW ε al d y pc l st h uc us Q := by subst hl; exact hh
/-- a static check of a call, and what stands behind it -/
theorem zok3 {a b : Nat} {c : Bool} (h1 : Nat.ble 0 a = true) (h2 : Nat.ble 0 b = true) (h3 : c = true) : (0 + 0 ≤ a ∧ 0 + 0 ≤ b ∧ c = true) := ⟨Nat.zero_le _, Nat.zero_le _, h3⟩
section
variable {ε : Nat × (Nat → Int32)} {d : Nat} {Q : zQ} {h : zH}
/-- cell(row, column) -/
theorem c_cell {x z : Int32} (hq : Q (.inl (some (.int (nI (8 * m8 x + m8 z))))) h) : zW ε false d 116 0 [(0, .int x), (1, .int z)] [] h 0 0 Q := by
  have e : (x &&& 7) * 8 + (z &&& 7) = nI (8 * m8 x + m8 z) := by
    rw [m8_and, m8_and, show (8 : Int32) = nI 8 from rfl, pk_mul, nI_add, Nat.mul_comm]
  refine zrun 10 ?_
  show Q (.inl (some (.int ((x &&& 7) * 8 + (z &&& 7))))) h
  rw [e]
  exact hq
/-- event(train, station, isArrival) -/
theorem c_event {x z v : Int32} {b : Bool} (hv : v = zbo b) (hq : Q (.inl (some (.int (nI (xev x z b))))) h) : zW ε false (d + 1) 117 0 [(0, .int x), (1, .int z), (2, .int v)] [] h 0 0 Q := by
  refine zrun 3 ⟨⟨Nat.zero_le _, Nat.zero_le _, rfl⟩, ?_⟩
  refine c_cell ⟨rfl, ?_⟩
  refine zrun 2 (zb_f hv (fun hb => ?_) (fun hb => ?_))
  · subst hb
    refine zrun 3 ?_
    show Q (.inl (some (.int (nI (8 * m8 x + m8 z) + nI 0)))) h
    rw [nI_add]
    exact hq
  · subst hb
    refine zrun 4 ?_
    show Q (.inl (some (.int (nI (8 * m8 x + m8 z) + nI 64)))) h
    rw [nI_add]
    exact hq
end
section
variable {ε : Nat × (Nat → Int32)} {d : Nat} {Q : zQ} {o ot it : Value} {IF A : Nat → Nat → Int32} {AL : Nat → Nat → Int64} {AD : Nat → Nat → UInt64}
theorem m8_2 (x z : Int32) : 8 * m8 x + m8 z < 64 := by
  have h1 := m8_lt x
  have h2 := m8_lt z
  omega
/-- Line.of(train, what) -/
theorem c_of {k : Nat} (hk : k = 4 ∨ k = 8) {x z : Int32} (hq : Q (.inl (some (.int (xo A k x z)))) (zM o ot it IF A AL AD)) : zW ε false (d + 1) 12 0 [(0, .ref k), (1, .int x), (2, .int z)] [] (zM o ot it IF A AL AD) 0 0 Q := by
  rcases hk with rfl | rfl
  all_goals
    refine zrun 5 ⟨⟨Nat.zero_le _, Nat.zero_le _, rfl⟩, ?_⟩
    refine c_cell ⟨rfl, ?_⟩
    refine zW_iald (n := 8 * m8 x + m8 z) rfl rfl rfl (m8_2 x z) (by decide) ?_
    exact zrun 1 hq
/-- Line.link(connection, what) -/
theorem c_link {x z : Int32} (hq : Q (.inl (some (.int (xk A x z)))) (zM o ot it IF A AL AD)) : zW ε false (d + 1) 13 0 [(0, .ref 8), (1, .int x), (2, .int z)] [] (zM o ot it IF A AL AD) 0 0 Q := by
  refine zrun 5 ⟨⟨Nat.zero_le _, Nat.zero_le _, rfl⟩, ?_⟩
  refine c_cell ⟨rfl, ?_⟩
  refine zW_iald (n := 8 * m8 x + m8 z) rfl rfl rfl (m8_2 x z) (by decide) ?_
  exact zrun 1 hq
/-- Line.departs(train, station) -/
theorem c_departs {k : Nat} (hk : k = 4 ∨ k = 8) {x z : Int32} (hq : Q (.inl (some (.int (zbo (xd A k x z))))) (zM o ot it IF A AL AD)) : zW ε false (d + 2) 14 0 [(0, .ref k), (1, .int x), (2, .int z)] [] (zM o ot it IF A AL AD) 0 0 Q := by
  have hk0 := hk
  rcases hk with rfl | rfl
  all_goals
    refine zrun 5 ⟨⟨Nat.zero_le _, Nat.zero_le _, rfl⟩, ?_⟩
    refine c_of hk0 ⟨rfl, ?_⟩
    refine zrun 1 ⟨fun h1 => ?_, fun h1 => ?_⟩
    · refine zrun 2 ⟨rfl, ?_⟩
      rw [xd_f1 h1] at hq
      exact hq
    · refine zrun 5 ⟨⟨Nat.zero_le _, Nat.zero_le _, rfl⟩, ?_⟩
      refine c_of hk0 ⟨rfl, ?_⟩
      refine zrun 1 ⟨fun h2 => ?_, fun h2 => ?_⟩
      · refine zrun 2 ⟨rfl, ?_⟩
        rw [xd_f2 h2] at hq
        exact hq
      · refine zrun 3 ⟨rfl, ?_⟩
        rw [xd_t h1 h2] at hq
        exact hq
/-- Line.arrives(train, station) -/
theorem c_arrives {k : Nat} (hk : k = 4 ∨ k = 8) {x z : Int32} (hq : Q (.inl (some (.int (zbo (xa A k x z))))) (zM o ot it IF A AL AD)) : zW ε false (d + 2) 15 0 [(0, .ref k), (1, .int x), (2, .int z)] [] (zM o ot it IF A AL AD) 0 0 Q := by
  have hk0 := hk
  rcases hk with rfl | rfl
  all_goals
    refine zrun 5 ⟨⟨Nat.zero_le _, Nat.zero_le _, rfl⟩, ?_⟩
    refine c_of hk0 ⟨rfl, ?_⟩
    refine zrun 1 ⟨fun h1 => ?_, fun h1 => ?_⟩
    · refine zrun 2 ⟨rfl, ?_⟩
      rw [xa_f1 h1] at hq
      exact hq
    · refine zrun 5 ⟨⟨Nat.zero_le _, Nat.zero_le _, rfl⟩, ?_⟩
      refine c_of hk0 ⟨rfl, ?_⟩
      refine zrun 1 ⟨fun h2 => ?_, fun h2 => ?_⟩
      · refine zrun 2 ⟨rfl, ?_⟩
        rw [xa_f2 h2] at hq
        exact hq
      · refine zrun 3 ⟨rfl, ?_⟩
        rw [xa_t h1 h2] at hq
        exact hq
/-- Line.hasEvent(train, station, isArrival) -/
theorem c_hasEvent {x z v : Int32} {b : Bool} (hv : v = zbo b) (hq : Q (.inl (some (.int (zbo (xe A 8 x z b))))) (zM o ot it IF A AL AD)) : zW ε false (d + 3) 16 0 [(0, .ref 8), (1, .int x), (2, .int z), (3, .int v)] [] (zM o ot it IF A AL AD) 0 0 Q := by
  refine zrun 2 (zb_f hv (fun hb => ?_) (fun hb => ?_))
  · subst hb
    refine zrun 4 ⟨⟨Nat.zero_le _, Nat.zero_le _, rfl⟩, ?_⟩
    refine c_departs (Or.inr rfl) ⟨rfl, ?_⟩
    exact zrun 1 ⟨zbo_n _, hq⟩
  · subst hb
    refine zrun 4 ⟨⟨Nat.zero_le _, Nat.zero_le _, rfl⟩, ?_⟩
    refine c_arrives (Or.inr rfl) ⟨rfl, ?_⟩
    exact zrun 2 ⟨zbo_n _, hq⟩
/-- Line.hasSiding(station) -/
theorem c_hasSiding {k : Nat} (hk : k = 4 ∨ k = 8) {x : Int32} (hq : Q (.inl (some (.int (zbo (xs IF k x))))) (zM o ot it IF A AL AD)) : zW ε false d 11 0 [(0, .ref k), (1, .int x)] [] (zM o ot it IF A AL AD) 0 0 Q := by
  rcases hk with rfl | rfl
  all_goals
    refine zrun 7 ⟨fun h1 => ?_, fun h1 => ?_⟩
    · refine zrun 2 ⟨rfl, ?_⟩
      rw [show xs IF _ x = false from decide_eq_false (fun q => q h1)] at hq
      exact hq
    · refine zrun 3 ⟨rfl, ?_⟩
      rw [show xs IF _ x = true from decide_eq_true h1] at hq
      exact hq
/-- Line.runningTime(train, segment) -/
theorem c_runningTime {x z : Int32} (hq : Q (.inl (some (.int (xr A x z)))) (zM o ot it IF A AL AD)) : zW ε false (d + 2) 17 0 [(0, .ref 8), (1, .int x), (2, .int z)] [] (zM o ot it IF A AL AD) 0 0 Q := by
  refine zrun 5 ?_
  refine zW_iald (n := m8 z) (N := 8) rfl rfl (m8_and z) (m8_lt z) (by decide) ?_
  refine zrun 4 ⟨⟨Nat.zero_le _, Nat.zero_le _, rfl⟩, ?_⟩
  refine c_of (Or.inr rfl) ⟨rfl, ?_⟩
  exact zrun 2 hq
/-- Orders.at, Orders.ahead -/
theorem c_at {k : Nat} (hk : k = 12 ∨ k = 15) {x z : Int32} (hq : Q (.inl (some (.int (A (k + 1) (8 * m8 x + m8 z))))) (zM o ot it IF A AL AD)) : zW ε false (d + 1) 23 0 [(0, .ref k), (1, .int x), (2, .int z)] [] (zM o ot it IF A AL AD) 0 0 Q := by
  rcases hk with rfl | rfl
  all_goals
    refine zrun 5 ⟨⟨Nat.zero_le _, Nat.zero_le _, rfl⟩, ?_⟩
    refine c_cell ⟨rfl, ?_⟩
    refine zW_iald (n := 8 * m8 x + m8 z) rfl rfl rfl (m8_2 x z) (by decide) ?_
    exact zrun 1 hq
theorem c_ahead {k : Nat} (hk : k = 12 ∨ k = 15) {x z : Int32} (hq : Q (.inl (some (.int (A (k + 2) (8 * m8 z + m8 x))))) (zM o ot it IF A AL AD)) : zW ε false (d + 1) 24 0 [(0, .ref k), (1, .int x), (2, .int z)] [] (zM o ot it IF A AL AD) 0 0 Q := by
  rcases hk with rfl | rfl
  all_goals
    refine zrun 5 ⟨⟨Nat.zero_le _, Nat.zero_le _, rfl⟩, ?_⟩
    refine c_cell ⟨rfl, ?_⟩
    refine zW_iald (n := 8 * m8 z + m8 x) rfl rfl rfl (m8_2 z x) (by decide) ?_
    exact zrun 1 hq
end
