/-! the class: Schedule, one event -/
/-- afterConnections: from connection i on, n more -/
def xCn (IF A : Nat → Nat → Int32) (r : Nat) (t s : Int32) : Nat → Nat → Int32 → Int32
  | 0, _, v => v
  | n + 1, i, v => xCn IF A r t s n (i + 1) (if xk A (nI i) 1 = t ∧ xk A (nI i) 2 = s ∧ xW IF A r t s (xC A r (nI i)) = true then zmx v (xC A r (nI i)) else v)
def xCs (IF A : Nat → Nat → Int32) (r : Nat) (t s : Int32) (n : Nat) : Int32 := xCn IF A r t s n 0 (-1)
/-- what settle writes -/
def xSv (IF A : Nat → Nat → Int32) (r : Nat) (n : Nat) (t s : Int32) (b : Bool) : Int32 := zmx (zmx (zmx (A (rF r) (xev t s b)) (xI A r t s b)) (xH IF A r t s b)) (cond b (xP IF A r t s) (xCs IF A r t s n))
def xSt (IF A : Nat → Nat → Int32) (r : Nat) (n : Nat) (t s : Int32) (b : Bool) : Nat → Nat → Int32 := cond (xe A 8 t s b) (va_up A (rT r) (upd (A (rT r)) (xev t s b) (xSv IF A r n t s b))) A
section
variable {ε : Nat × (Nat → Int32)} {d : Nat} {Q : zQ} {o ot it : Value} {IF A : Nat → Nat → Int32} {AL : Nat → Nat → Int64} {AD : Nat → Nat → UInt64} {r : Nat}
theorem c_afterHeadway (hr : rOk r) {x z v : Int32} {b : Bool} (hv : v = zbo b) (hq : Q (.inl (some (.int (xH IF A r x z b)))) (zM o ot it IF A AL AD)) : zW ε false (d + 3) 48 0 [(0, .ref r), (1, .int x), (2, .int z), (3, .int v)] [] (zM o ot it IF A AL AD) 0 0 Q := by
  have hr0 := hr
  have q1 : xah A (rO r) x (cond b (z - 1) z) = -1 → Q (.inl (some (.int (-1)))) (zM o ot it IF A AL AD) := fun q => by
    unfold xH at hq
    rw [if_pos q] at hq
    exact hq
  have q2 : ¬ xah A (rO r) x (cond b (z - 1) z) = -1 → Q (.inl (some (.int (A (rT r) (xev (xah A (rO r) x (cond b (z - 1) z)) z b) + IF 8 3)))) (zM o ot it IF A AL AD) := fun q => by
    unfold xH at hq
    rw [if_neg q] at hq
    exact hq
  have tail : zW ε false (d + 3) 48 16 [(0, .ref r), (1, .int x), (2, .int z), (3, .int v)] [.int (cond b (z - 1) z), .int x, .ref (rO r)] (zM o ot it IF A AL AD) 0 0 Q := by
    rcases hr with rfl | rfl | rfl
    all_goals
      refine zrun 1 ⟨⟨Nat.zero_le _, Nat.zero_le _, rfl⟩, ?_⟩
      refine c_ahead (by decide) ⟨rfl, ?_⟩
      refine zrun 4 ⟨fun h1 => ?_, fun h1 => ?_⟩
      · refine zrun 5 ⟨⟨Nat.zero_le _, Nat.zero_le _, rfl⟩, ?_⟩
        refine c_time hr0 hv ⟨rfl, ?_⟩
        exact zrun 5 (q2 h1)
      · exact zrun 3 (q1 h1)
  rcases hr with rfl | rfl | rfl
  all_goals
    refine zrun 5 (zb_f hv (fun hb => ?_) (fun hb => ?_))
    · subst hb
      exact zrun 1 tail
    · subst hb
      exact zrun 4 tail
theorem c_afterPlain (hr : rOk r) {x z : Int32} (hq : Q (.inl (some (.int (xP IF A r x z)))) (zM o ot it IF A AL AD)) : zW ε false (d + 3) 49 0 [(0, .ref r), (1, .int x), (2, .int z)] [] (zM o ot it IF A AL AD) 0 0 Q := by
  have hr0 := hr
  have q1 : xs IF 8 z = true ∨ xah A (rO r) x (z - 1) = -1 ∨ xd A 8 (xah A (rO r) x (z - 1)) z = false → Q (.inl (some (.int (-1)))) (zM o ot it IF A AL AD) := fun q => by
    have e : xP IF A r x z = -1 := by
      unfold xP
      rcases q with q | q | q <;> simp [q]
    rw [e] at hq
    exact hq
  have q2 : xs IF 8 z = false → ¬ xah A (rO r) x (z - 1) = -1 → xd A 8 (xah A (rO r) x (z - 1)) z = true → Q (.inl (some (.int (A (rT r) (xev (xah A (rO r) x (z - 1)) z false) + IF 8 3)))) (zM o ot it IF A AL AD) := fun a1 a2 a3 => by
    unfold xP at hq
    rw [if_neg (by rw [a1]; decide), if_neg a2, if_pos a3] at hq
    exact hq
  rcases hr with rfl | rfl | rfl
  all_goals
    refine zrun 7 ⟨⟨Nat.zero_le _, Nat.zero_le _, rfl⟩, ?_⟩
    refine c_ahead (by decide) ⟨rfl, ?_⟩
    refine zrun 5 ⟨⟨Nat.zero_le _, Nat.zero_le _, rfl⟩, ?_⟩
    refine c_hasSiding (Or.inr rfl) ⟨rfl, ?_⟩
    refine zrun 1 (zb_t rfl (fun hb => ?_) (fun hb => ?_))
    · exact zrun 2 (q1 (Or.inl hb))
    · refine zrun 3 ⟨fun h1 => ?_, fun h1 => ?_⟩
      · exact zrun 2 (q1 (Or.inr (Or.inl h1)))
      · refine zrun 5 ⟨⟨Nat.zero_le _, Nat.zero_le _, rfl⟩, ?_⟩
        refine c_departs (Or.inr rfl) ⟨rfl, ?_⟩
        refine zrun 1 (zb_t rfl (fun hc => ?_) (fun hc => ?_))
        · refine zrun 5 ⟨⟨Nat.zero_le _, Nat.zero_le _, rfl⟩, ?_⟩
          refine c_time hr0 (b := false) rfl ⟨rfl, ?_⟩
          exact zrun 5 (q2 hb h1 hc)
        · exact zrun 2 (q1 (Or.inr (Or.inr hc)))
theorem c_changeTime (hr : rOk r) {x : Int32} (hq : Q (.inl (some (.int (xC A r x)))) (zM o ot it IF A AL AD)) : zW ε false (d + 2) 51 0 [(0, .ref r), (1, .int x)] [] (zM o ot it IF A AL AD) 0 0 Q := by
  rcases hr with rfl | rfl | rfl
  all_goals
    refine zrun 5 ⟨⟨Nat.zero_le _, Nat.zero_le _, rfl⟩, ?_⟩
    refine c_link ⟨rfl, ?_⟩
    refine zrun 5 ⟨⟨Nat.zero_le _, Nat.zero_le _, rfl⟩, ?_⟩
    refine c_link ⟨rfl, ?_⟩
    refine zrun 2 ⟨⟨Nat.zero_le _, Nat.zero_le _, rfl⟩, ?_⟩
    refine c_event (b := true) rfl ⟨rfl, ?_⟩
    refine zrun 4 ?_
    refine zW_iald (n := xev (xk A x 0) (xk A x 2) true) rfl rfl rfl (xev_lt _ _ _) (by decide) ?_
    refine zrun 5 ⟨⟨Nat.zero_le _, Nat.zero_le _, rfl⟩, ?_⟩
    refine c_link ⟨rfl, ?_⟩
    exact zrun 2 hq
theorem xW_p {r : Nat} {t s tm : Int32} (h : ¬ IF r 5 = 0) : xW IF A r t s tm = true := by unfold xW; simp [h]
theorem xW_t {r : Nat} {t s tm : Int32} (h2 : ¬ A (rF r) (xev t s false) + IF 8 4 < tm) : xW IF A r t s tm = true := by unfold xW; simp [h2]
theorem xW_f {r : Nat} {t s tm : Int32} (h : IF r 5 = 0) (h2 : A (rF r) (xev t s false) + IF 8 4 < tm) : xW IF A r t s tm = false := by unfold xW; simp [h, h2]
theorem c_waits (hr : rOk r) {x z w : Int32} (hq : Q (.inl (some (.int (zbo (xW IF A r x z w))))) (zM o ot it IF A AL AD)) : zW ε false (d + 2) 52 0 [(0, .ref r), (1, .int x), (2, .int z), (3, .int w)] [] (zM o ot it IF A AL AD) 0 0 Q := by
  have q1 : ¬ IF r 5 = 0 ∨ ¬ A (rF r) (xev x z false) + IF 8 4 < w → Q (.inl (some (.int 1))) (zM o ot it IF A AL AD) := fun q => by
    rw [show xW IF A r x z w = true from q.elim xW_p xW_t] at hq
    exact hq
  have q2 : IF r 5 = 0 → A (rF r) (xev x z false) + IF 8 4 < w → Q (.inl (some (.int 0))) (zM o ot it IF A AL AD) := fun a1 a2 => by
    rw [xW_f a1 a2] at hq
    exact hq
  rcases hr with rfl | rfl | rfl
  all_goals
    refine zrun 3 ⟨fun h1 => ?_, fun h1 => ?_⟩
    · exact zrun 3 ⟨rfl, q1 (Or.inl h1)⟩
    · refine zrun 7 ⟨⟨Nat.zero_le _, Nat.zero_le _, rfl⟩, ?_⟩
      refine c_event (b := false) rfl ⟨rfl, ?_⟩
      refine zW_iald (n := xev x z false) rfl rfl rfl (xev_lt _ _ _) (by decide) ?_
      refine zrun 5 ⟨fun h2 => ?_, fun h2 => ?_⟩
      · exact zrun 2 ⟨rfl, q2 h1 h2⟩
      · exact zrun 3 ⟨rfl, q1 (Or.inr h2)⟩
theorem c_keeps (hr : rOk r) {x : Int32} (hq : Q (.inl (some (.int (zbo (xW IF A r (xk A x 1) (xk A x 2) (xC A r x)))))) (zM o ot it IF A AL AD)) : zW ε false (d + 3) 53 0 [(0, .ref r), (1, .int x)] [] (zM o ot it IF A AL AD) 0 0 Q := by
  have hr0 := hr
  rcases hr with rfl | rfl | rfl
  all_goals
    refine zrun 5 ⟨⟨Nat.zero_le _, Nat.zero_le _, rfl⟩, ?_⟩
    refine c_link ⟨rfl, ?_⟩
    refine zrun 8 ⟨⟨Nat.zero_le _, Nat.zero_le _, rfl⟩, ?_⟩
    refine c_link ⟨rfl, ?_⟩
    refine zrun 3 ⟨⟨Nat.zero_le _, Nat.zero_le _, rfl⟩, ?_⟩
    refine c_changeTime hr0 ⟨rfl, ?_⟩
    refine zrun 1 ⟨⟨Nat.zero_le _, Nat.zero_le _, rfl⟩, ?_⟩
    refine c_waits hr0 ⟨rfl, ?_⟩
    exact zrun 1 ⟨zbo_n _, hq⟩
theorem c_delay (hr : rOk r) {x z v : Int32} {b : Bool} (hv : v = zbo b) (hq : Q (.inl (some (.int (xDl A r x z b)))) (zM o ot it IF A AL AD)) : zW ε false (d + 2) 54 0 [(0, .ref r), (1, .int x), (2, .int z), (3, .int v)] [] (zM o ot it IF A AL AD) 0 0 Q := by
  rcases hr with rfl | rfl | rfl
  all_goals
    refine zrun 4 ⟨⟨Nat.zero_le _, Nat.zero_le _, rfl⟩, ?_⟩
    refine c_event hv ⟨rfl, ?_⟩
    refine zrun 4 ?_
    refine zW_iald (n := xev x z b) rfl rfl rfl (xev_lt _ _ _) (by decide) ?_
    refine zrun 3 ?_
    refine zW_iald (n := xev x z b) rfl rfl rfl (xev_lt _ _ _) (by decide) ?_
    exact zrun 2 hq
end
