/-! the class: Schedule (reads) -/
def rT (r : Nat) : Nat := cond (Nat.beq r 18) 20 (cond (Nat.beq r 22) 23 26)
def rF (r : Nat) : Nat := cond (Nat.beq r 18) 19 20
def rE (r : Nat) : Nat := cond (Nat.beq r 18) 21 (cond (Nat.beq r 22) 24 27)
def rO (r : Nat) : Nat := cond (Nat.beq r 22) 15 12
abbrev rOk (r : Nat) : Prop := r = 18 ∨ r = 22 ∨ r = 25
/-- afterItself -/
def xI (A : Nat → Nat → Int32) (r : Nat) (t s : Int32) (b : Bool) : Int32 := cond b (A (rT r) (xev t (s - 1) false) + xr A t (s - 1) + A (rE r) (xev t s true)) (if s = xo A 8 t 0 then A (rF r) (xev t s false) + A (rE r) (xev t s false) else A (rT r) (xev t s true) + xo A 8 t 4 + A (rE r) (xev t s false))
def xah (A : Nat → Nat → Int32) (q : Nat) (t s : Int32) : Int32 := A (q + 2) (8 * m8 s + m8 t)
/-- afterHeadway -/
def xH (IF A : Nat → Nat → Int32) (r : Nat) (t s : Int32) (b : Bool) : Int32 := if xah A (rO r) t (cond b (s - 1) s) = -1 then -1 else A (rT r) (xev (xah A (rO r) t (cond b (s - 1) s)) s b) + IF 8 3
/-- afterPlainStation -/
def xP (IF A : Nat → Nat → Int32) (r : Nat) (t s : Int32) : Int32 := if xs IF 8 s = true then -1 else if xah A (rO r) t (s - 1) = -1 then -1 else if xd A 8 (xah A (rO r) t (s - 1)) s = true then A (rT r) (xev (xah A (rO r) t (s - 1)) s false) + IF 8 3 else -1
def xC (A : Nat → Nat → Int32) (r : Nat) (c : Int32) : Int32 := A (rT r) (xev (xk A c 0) (xk A c 2) true) + xk A c 3
def xW (IF A : Nat → Nat → Int32) (r : Nat) (t s tm : Int32) : Bool := decide (¬ IF r 5 = 0) || decide (¬ A (rF r) (xev t s false) + IF 8 4 < tm)
def xDl (A : Nat → Nat → Int32) (r : Nat) (t s : Int32) (b : Bool) : Int32 := A (rT r) (xev t s b) - A (rF r) (xev t s b)
section
variable {ε : Nat × (Nat → Int32)} {d : Nat} {Q : zQ} {o ot it : Value} {IF A : Nat → Nat → Int32} {AL : Nat → Nat → Int64} {AD : Nat → Nat → UInt64} {r : Nat}
theorem c_time (hr : rOk r) {x z v : Int32} {b : Bool} (hv : v = zbo b) (hq : Q (.inl (some (.int (A (rT r) (xev x z b))))) (zM o ot it IF A AL AD)) : zW ε false (d + 2) 39 0 [(0, .ref r), (1, .int x), (2, .int z), (3, .int v)] [] (zM o ot it IF A AL AD) 0 0 Q := by
  rcases hr with rfl | rfl | rfl
  all_goals
    refine zrun 6 ⟨⟨Nat.zero_le _, Nat.zero_le _, rfl⟩, ?_⟩
    refine c_event hv ⟨rfl, ?_⟩
    refine zW_iald (n := xev x z b) rfl rfl rfl (xev_lt x z b) (by decide) ?_
    exact zrun 1 hq
theorem c_extra (hr : rOk r) {x z v : Int32} {b : Bool} (hv : v = zbo b) (hq : Q (.inl (some (.int (A (rE r) (xev x z b))))) (zM o ot it IF A AL AD)) : zW ε false (d + 2) 41 0 [(0, .ref r), (1, .int x), (2, .int z), (3, .int v)] [] (zM o ot it IF A AL AD) 0 0 Q := by
  rcases hr with rfl | rfl | rfl
  all_goals
    refine zrun 6 ⟨⟨Nat.zero_le _, Nat.zero_le _, rfl⟩, ?_⟩
    refine c_event hv ⟨rfl, ?_⟩
    refine zW_iald (n := xev x z b) rfl rfl rfl (xev_lt x z b) (by decide) ?_
    exact zrun 1 hq
theorem c_lastTime (hr : rOk r) {x : Int32} (hq : Q (.inl (some (.int (A (rT r) (xev x (xo A 8 x 1) true))))) (zM o ot it IF A AL AD)) : zW ε false (d + 2) 40 0 [(0, .ref r), (1, .int x)] [] (zM o ot it IF A AL AD) 0 0 Q := by
  rcases hr with rfl | rfl | rfl
  all_goals
    refine zrun 8 ⟨⟨Nat.zero_le _, Nat.zero_le _, rfl⟩, ?_⟩
    refine c_of (Or.inr rfl) ⟨rfl, ?_⟩
    refine zrun 2 ⟨⟨Nat.zero_le _, Nat.zero_le _, rfl⟩, ?_⟩
    refine c_event (b := true) rfl ⟨rfl, ?_⟩
    refine zW_iald (n := xev x (xo A 8 x 1) true) rfl rfl rfl (xev_lt _ _ _) (by decide) ?_
    exact zrun 1 hq
theorem c_setExtra (hr : rOk r) {x z v w : Int32} {b : Bool} (hv : v = zbo b) (hq : Q (.inl none) (zM o ot it IF (va_up A (rE r) (upd (A (rE r)) (xev x z b) w)) AL AD)) : zW ε false (d + 2) 42 0 [(0, .ref r), (1, .int x), (2, .int z), (3, .int v), (4, .int w)] [] (zM o ot it IF A AL AD) 0 0 Q := by
  rcases hr with rfl | rfl | rfl
  all_goals
    refine zrun 6 ⟨⟨Nat.zero_le _, Nat.zero_le _, rfl⟩, ?_⟩
    refine c_event hv ⟨rfl, ?_⟩
    refine zrun 1 ?_
    refine zW_iast (n := xev x z b) rfl rfl rfl (xev_lt x z b) (by decide) ?_
    exact zrun 1 hq
theorem c_afterItself (hr : rOk r) {x z v : Int32} {b : Bool} (hv : v = zbo b) (hq : Q (.inl (some (.int (xI A r x z b)))) (zM o ot it IF A AL AD)) : zW ε false (d + 3) 47 0 [(0, .ref r), (1, .int x), (2, .int z), (3, .int v)] [] (zM o ot it IF A AL AD) 0 0 Q := by
  have hr0 := hr
  rcases hr with rfl | rfl | rfl
  all_goals
    refine zrun 4 ⟨⟨Nat.zero_le _, Nat.zero_le _, rfl⟩, ?_⟩
    refine c_event hv ⟨rfl, ?_⟩
    refine zrun 3 (zb_f hv (fun hb => ?_) (fun hb => ?_))
    · subst hb
      refine zrun 6 ⟨⟨Nat.zero_le _, Nat.zero_le _, rfl⟩, ?_⟩
      refine c_of (Or.inr rfl) ⟨rfl, ?_⟩
      refine zrun 1 ⟨fun h1 => ?_, fun h1 => ?_⟩
      · rw [show xI A _ x z false = _ from if_neg h1] at hq
        refine zrun 5 ⟨⟨Nat.zero_le _, Nat.zero_le _, rfl⟩, ?_⟩
        refine c_time hr0 (b := true) rfl ⟨rfl, ?_⟩
        refine zrun 5 ⟨⟨Nat.zero_le _, Nat.zero_le _, rfl⟩, ?_⟩
        refine c_of (Or.inr rfl) ⟨rfl, ?_⟩
        refine zrun 4 ?_
        refine zW_iald (n := xev x z false) rfl rfl rfl (xev_lt x z false) (by decide) ?_
        exact zrun 2 hq
      · rw [show xI A _ x z false = _ from if_pos h1] at hq
        refine zrun 3 ?_
        refine zW_iald (n := xev x z false) rfl rfl rfl (xev_lt x z false) (by decide) ?_
        refine zrun 3 ?_
        refine zW_iald (n := xev x z false) rfl rfl rfl (xev_lt x z false) (by decide) ?_
        exact zrun 2 hq
    · subst hb
      refine zrun 7 ⟨⟨Nat.zero_le _, Nat.zero_le _, rfl⟩, ?_⟩
      refine c_time hr0 (b := false) rfl ⟨rfl, ?_⟩
      refine zrun 9 ⟨⟨Nat.zero_le _, Nat.zero_le _, rfl⟩, ?_⟩
      refine c_runningTime ⟨rfl, ?_⟩
      refine zrun 4 ?_
      refine zW_iald (n := xev x z true) rfl rfl rfl (xev_lt x z true) (by decide) ?_
      exact zrun 2 hq
end
