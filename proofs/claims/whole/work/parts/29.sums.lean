/-! the class: Schedule, sums and reports -/
def xsd (A : Nat → Nat → Int32) (r t : Nat) : Nat → Nat → Int32 → Int32
  | 0, _, v => v
  | n + 1, s, v => xsd A r t n (s + 1) (cond (xa A 8 (nI t) (nI s)) (v + xDl A r (nI t) (nI s) true) v)
def xsd2 (A : Nat → Nat → Int32) (r S : Nat) : Nat → Nat → Int32 → Int32
  | 0, _, v => v
  | n + 1, t, v => xsd2 A r S n (t + 1) (xsd A r t S 0 v)
def xls (A : Nat → Nat → Int32) (r : Nat) (th : Int32) : Nat → Nat → Int32 → Int32
  | 0, _, v => v
  | n + 1, t, v => xls A r th n (t + 1) (if xDl A r (nI t) (xo A 8 (nI t) 1) true ≤ th then v else v ||| ((1 : Int32) <<< (nI t &&& 31)))
def xld1 (A : Nat → Nat → Int32) (r t s : Nat) (b : Bool) (v : Int32) : Int32 := cond (xe A 8 (nI t) (nI s) b && decide (¬ xDl A r (nI t) (nI s) b ≤ 0)) (zmx v (A (rT r) (xev (nI t) (nI s) b))) v
def xld (A : Nat → Nat → Int32) (r t : Nat) : Nat → Nat → Int32 → Int32
  | 0, _, v => v
  | n + 1, s, v => xld A r t n (s + 1) (xld1 A r t s true (xld1 A r t s false v))
def xld2 (A : Nat → Nat → Int32) (r S : Nat) : Nat → Nat → Int32 → Int32
  | 0, _, v => v
  | n + 1, t, v => xld2 A r S n (t + 1) (xld A r t S 0 v)
def xRs (IF A : Nat → Nat → Int32) (r : Nat) (t s : Int32) (b : Bool) : Int32 := if xDl A r t s b = 0 then 0 else if A (rT r) (xev t s b) = xI A r t s b then 1 else if A (rT r) (xev t s b) = xH IF A r t s b then 2 else cond b 3 4
section
variable {ε : Nat × (Nat → Int32)} {d : Nat} {Q : zQ} {o ot it : Value} {IF A : Nat → Nat → Int32} {AL : Nat → Nat → Int64} {AD : Nat → Nat → UInt64} {r S M : Nat}
theorem cl_sd (hr : rOk r) (hS : IF 8 0 = nI S) (hS8 : S ≤ 8) {t : Nat} : ∀ (n s : Nat) (v c : Int32), s + n = S → c = nI s → zW ε false (d + 3) 55 56 [(0, .ref r), (1, .int (xsd A r t n s v)), (2, .int (nI t))] [] (zM o ot it IF A AL AD) 0 0 Q → zW ε false (d + 3) 55 17 [(0, .ref r), (1, .int v), (2, .int (nI t)), (3, .int c)] [] (zM o ot it IF A AL AD) 0 0 Q := by
  have hr0 := hr
  intro n
  induction n with
  | zero =>
    intro s v c hi hc hq
    rcases hr with rfl | rfl | rfl
    all_goals
      refine zrun 5 (zb_ge hc hS (by omega) (by omega) (fun _ => ?_) (fun h => absurd h (by omega)))
      exact zfg [0, 1, 2] hq
  | succ n ih =>
    intro s v c hi hc hq
    subst hc
    have next : ∀ w : Int32, w = cond (xa A 8 (nI t) (nI s)) (v + xDl A r (nI t) (nI s) true) v → zW ε false (d + 3) 55 17 [(0, .ref r), (1, .int w), (2, .int (nI t)), (3, .int (nI s + 1))] [] (zM o ot it IF A AL AD) 0 0 Q := fun w hw => ih (s + 1) w (nI s + 1) (by omega) (nI_1 s) (by rw [hw]; exact hq)
    rcases hr with rfl | rfl | rfl
    all_goals
      refine zrun 5 (zb_ge rfl hS (by omega) (by omega) (fun h => absurd h (by omega)) (fun _ => ?_))
      refine zrun 5 ⟨⟨Nat.zero_le _, Nat.zero_le _, rfl⟩, ?_⟩
      refine c_arrives (Or.inr rfl) ⟨rfl, ?_⟩
      refine zrun 1 (zb_f rfl (fun h1 => ?_) (fun h1 => ?_))
      · exact zrun 2 (next v (by rw [h1]; rfl))
      · refine zrun 6 ⟨⟨Nat.zero_le _, Nat.zero_le _, rfl⟩, ?_⟩
        refine c_delay hr0 (b := true) rfl ⟨rfl, ?_⟩
        exact zrun 4 (next _ (by rw [h1]; rfl))
theorem cl_sd2 (hr : rOk r) (hS : IF 8 0 = nI S) (hS8 : S ≤ 8) (hM : IF 8 1 = nI M) (hM8 : M ≤ 8) : ∀ (n t : Nat) (v c : Int32), t + n = M → c = nI t → Q (.inl (some (.int (xsd2 A r S n t v)))) (zM o ot it IF A AL AD) → zW ε false (d + 3) 55 4 [(0, .ref r), (1, .int v), (2, .int c)] [] (zM o ot it IF A AL AD) 0 0 Q := by
  have hr0 := hr
  intro n
  induction n with
  | zero =>
    intro t v c hi hc hq
    rcases hr with rfl | rfl | rfl
    all_goals
      refine zrun 5 (zb_ge hc hM (by omega) (by omega) (fun _ => ?_) (fun h => absurd h (by omega)))
      exact zrun 2 hq
  | succ n ih =>
    intro t v c hi hc hq
    subst hc
    have in1 : ∀ c : Int32, c = nI 0 → zW ε false (d + 3) 55 17 [(0, .ref r), (1, .int v), (2, .int (nI t)), (3, .int c)] [] (zM o ot it IF A AL AD) 0 0 Q := fun c hc => cl_sd hr0 hS hS8 S 0 v c (by omega) hc (by
      rcases hr with rfl | rfl | rfl
      all_goals exact zrun 2 (ih (t + 1) _ (nI t + 1) (by omega) (nI_1 t) hq))
    rcases hr with rfl | rfl | rfl
    all_goals
      refine zrun 5 (zb_ge rfl hM (by omega) (by omega) (fun h => absurd h (by omega)) (fun _ => ?_))
      exact zrun 2 (in1 0 nI_0.symm)
theorem c_sumOfDelays (hr : rOk r) (hS : IF 8 0 = nI S) (hS8 : S ≤ 8) (hM : IF 8 1 = nI M) (hM8 : M ≤ 8) (hq : Q (.inl (some (.int (xsd2 A r S M 0 0)))) (zM o ot it IF A AL AD)) : zW ε false (d + 3) 55 0 [(0, .ref r)] [] (zM o ot it IF A AL AD) 0 0 Q := zrun 4 (cl_sd2 hr hS hS8 hM hM8 M 0 0 0 (by omega) nI_0.symm hq)
theorem cl_ls (hr : rOk r) (hM : IF 8 1 = nI M) (hM8 : M ≤ 8) {th : Int32} : ∀ (n t : Nat) (v c : Int32), t + n = M → c = nI t → Q (.inl (some (.int (xls A r th n t v)))) (zM o ot it IF A AL AD) → zW ε false (d + 3) 56 4 [(0, .ref r), (1, .int th), (2, .int v), (3, .int c)] [] (zM o ot it IF A AL AD) 0 0 Q := by
  have hr0 := hr
  intro n
  induction n with
  | zero =>
    intro t v c hi hc hq
    rcases hr with rfl | rfl | rfl
    all_goals
      refine zrun 5 (zb_ge hc hM (by omega) (by omega) (fun _ => ?_) (fun h => absurd h (by omega)))
      exact zrun 2 hq
  | succ n ih =>
    intro t v c hi hc hq
    subst hc
    have next : ∀ w : Int32, w = (if xDl A r (nI t) (xo A 8 (nI t) 1) true ≤ th then v else v ||| ((1 : Int32) <<< (nI t &&& 31))) → zW ε false (d + 3) 56 4 [(0, .ref r), (1, .int th), (2, .int w), (3, .int (nI t + 1))] [] (zM o ot it IF A AL AD) 0 0 Q := fun w hw => ih (t + 1) w (nI t + 1) (by omega) (nI_1 t) (by rw [hw]; exact hq)
    rcases hr with rfl | rfl | rfl
    all_goals
      refine zrun 5 (zb_ge rfl hM (by omega) (by omega) (fun h => absurd h (by omega)) (fun _ => ?_))
      refine zrun 7 ⟨⟨Nat.zero_le _, Nat.zero_le _, rfl⟩, ?_⟩
      refine c_of (Or.inr rfl) ⟨rfl, ?_⟩
      refine zrun 2 ⟨⟨Nat.zero_le _, Nat.zero_le _, rfl⟩, ?_⟩
      refine c_delay hr0 (b := true) rfl ⟨rfl, ?_⟩
      refine zrun 2 ⟨fun h1 => ?_, fun h1 => ?_⟩
      · exact zrun 2 (next v (if_pos h1).symm)
      · exact zrun 8 (next _ (if_neg h1).symm)
theorem c_lateSet (hr : rOk r) (hM : IF 8 1 = nI M) (hM8 : M ≤ 8) {th : Int32} (hq : Q (.inl (some (.int (xls A r th M 0 0)))) (zM o ot it IF A AL AD)) : zW ε false (d + 3) 56 0 [(0, .ref r), (1, .int th)] [] (zM o ot it IF A AL AD) 0 0 Q := zrun 4 (cl_ls hr hM hM8 M 0 0 0 (by omega) nI_0.symm hq)
theorem xld1_f {r t s : Nat} {b : Bool} {v : Int32} (h : xe A 8 (nI t) (nI s) b = false) : xld1 A r t s b v = v := by unfold xld1; rw [h]; rfl
theorem xld1_l {r t s : Nat} {b : Bool} {v : Int32} (h : xDl A r (nI t) (nI s) b ≤ 0) : xld1 A r t s b v = v := by unfold xld1; simp [h]
theorem xld1_t {r t s : Nat} {b : Bool} {v : Int32} (h : xe A 8 (nI t) (nI s) b = true) (h2 : ¬ xDl A r (nI t) (nI s) b ≤ 0) : xld1 A r t s b v = zmx v (A (rT r) (xev (nI t) (nI s) b)) := by unfold xld1; simp [h, h2]
theorem cl_ld (hr : rOk r) (hS : IF 8 0 = nI S) (hS8 : S ≤ 8) {t : Nat} : ∀ (n s : Nat) (v c : Int32), s + n = S → c = nI s → zW ε false (d + 3) 57 102 [(0, .ref r), (1, .int (xld A r t n s v)), (2, .int (nI t))] [] (zM o ot it IF A AL AD) 0 0 Q → zW ε false (d + 3) 57 17 [(0, .ref r), (1, .int v), (2, .int (nI t)), (3, .int c)] [] (zM o ot it IF A AL AD) 0 0 Q := by
  have hr0 := hr
  intro n
  induction n with
  | zero =>
    intro s v c hi hc hq
    rcases hr with rfl | rfl | rfl
    all_goals
      refine zrun 5 (zb_ge hc hS (by omega) (by omega) (fun _ => ?_) (fun h => absurd h (by omega)))
      exact zfg [0, 1, 2] hq
  | succ n ih =>
    intro s v c hi hc hq
    subst hc
    have next : ∀ u w : Int32, u = xld1 A r t s false v → w = xld1 A r t s true u → zW ε false (d + 3) 57 17 [(0, .ref r), (1, .int w), (2, .int (nI t)), (3, .int (nI s + 1))] [] (zM o ot it IF A AL AD) 0 0 Q := fun u w hu hw => ih (s + 1) w (nI s + 1) (by omega) (nI_1 s) (by rw [hw, hu]; exact hq)
    have half : ∀ u : Int32, u = xld1 A r t s false v → zW ε false (d + 3) 57 62 [(0, .ref r), (1, .int u), (2, .int (nI t)), (3, .int (nI s))] [] (zM o ot it IF A AL AD) 0 0 Q := by
      intro u hu
      have n1 := fun h => next u u hu (xld1_f (b := true) h).symm
      have n2 := fun h => next u u hu (xld1_l (b := true) h).symm
      have n3 := fun h h2 => next u _ hu (xld1_t (b := true) h h2).symm
      rcases hr with rfl | rfl | rfl
      all_goals
        refine zrun 5 ⟨⟨Nat.zero_le _, Nat.zero_le _, rfl⟩, ?_⟩
        refine c_arrives (Or.inr rfl) ⟨rfl, ?_⟩
        refine zrun 1 (zb_f rfl (fun h1 => ?_) (fun h1 => ?_))
        · exact zrun 2 (n1 h1)
        · refine zrun 5 ⟨⟨Nat.zero_le _, Nat.zero_le _, rfl⟩, ?_⟩
          refine c_delay hr0 (b := true) rfl ⟨rfl, ?_⟩
          refine zrun 1 ⟨fun h2 => ?_, fun h2 => ?_⟩
          · exact zrun 2 (n2 h2)
          · refine zrun 6 ⟨⟨Nat.zero_le _, Nat.zero_le _, rfl⟩, ?_⟩
            refine c_time hr0 (b := true) rfl ⟨rfl, ?_⟩
            refine zrun 1 ⟨Nat.le_of_ble_eq_true rfl, ?_⟩
            exact zrun 3 (n3 h1 h2)
    have h1' := fun h => half v (xld1_f (b := false) h).symm
    have h2' := fun h => half v (xld1_l (b := false) h).symm
    have h3' := fun h h2 => half _ (xld1_t (b := false) h h2).symm
    rcases hr with rfl | rfl | rfl
    all_goals
      refine zrun 5 (zb_ge rfl hS (by omega) (by omega) (fun h => absurd h (by omega)) (fun _ => ?_))
      refine zrun 5 ⟨⟨Nat.zero_le _, Nat.zero_le _, rfl⟩, ?_⟩
      refine c_departs (Or.inr rfl) ⟨rfl, ?_⟩
      refine zrun 1 (zb_f rfl (fun h1 => ?_) (fun h1 => ?_))
      · exact h1' h1
      · refine zrun 5 ⟨⟨Nat.zero_le _, Nat.zero_le _, rfl⟩, ?_⟩
        refine c_delay hr0 (b := false) rfl ⟨rfl, ?_⟩
        refine zrun 1 ⟨fun h2 => ?_, fun h2 => ?_⟩
        · exact h2' h2
        · refine zrun 6 ⟨⟨Nat.zero_le _, Nat.zero_le _, rfl⟩, ?_⟩
          refine c_time hr0 (b := false) rfl ⟨rfl, ?_⟩
          refine zrun 1 ⟨Nat.le_of_ble_eq_true rfl, ?_⟩
          exact zrun 1 (h3' h1 h2)
theorem cl_ld2 (hr : rOk r) (hS : IF 8 0 = nI S) (hS8 : S ≤ 8) (hM : IF 8 1 = nI M) (hM8 : M ≤ 8) : ∀ (n t : Nat) (v c : Int32), t + n = M → c = nI t → Q (.inl (some (.int (xld2 A r S n t v)))) (zM o ot it IF A AL AD) → zW ε false (d + 3) 57 4 [(0, .ref r), (1, .int v), (2, .int c)] [] (zM o ot it IF A AL AD) 0 0 Q := by
  have hr0 := hr
  intro n
  induction n with
  | zero =>
    intro t v c hi hc hq
    rcases hr with rfl | rfl | rfl
    all_goals
      refine zrun 5 (zb_ge hc hM (by omega) (by omega) (fun _ => ?_) (fun h => absurd h (by omega)))
      exact zrun 2 hq
  | succ n ih =>
    intro t v c hi hc hq
    subst hc
    have in1 : ∀ c : Int32, c = nI 0 → zW ε false (d + 3) 57 17 [(0, .ref r), (1, .int v), (2, .int (nI t)), (3, .int c)] [] (zM o ot it IF A AL AD) 0 0 Q := fun c hc => cl_ld hr0 hS hS8 S 0 v c (by omega) hc (by
      rcases hr with rfl | rfl | rfl
      all_goals exact zrun 2 (ih (t + 1) _ (nI t + 1) (by omega) (nI_1 t) hq))
    rcases hr with rfl | rfl | rfl
    all_goals
      refine zrun 5 (zb_ge rfl hM (by omega) (by omega) (fun h => absurd h (by omega)) (fun _ => ?_))
      exact zrun 2 (in1 0 nI_0.symm)
theorem c_lastDelayed (hr : rOk r) (hS : IF 8 0 = nI S) (hS8 : S ≤ 8) (hM : IF 8 1 = nI M) (hM8 : M ≤ 8) (hq : Q (.inl (some (.int (xld2 A r S M 0 (-1))))) (zM o ot it IF A AL AD)) : zW ε false (d + 3) 57 0 [(0, .ref r)] [] (zM o ot it IF A AL AD) 0 0 Q := zrun 4 (cl_ld2 hr hS hS8 hM hM8 M 0 (-1) 0 (by omega) nI_0.symm hq)
theorem c_reason (hr : rOk r) {x z v : Int32} {b : Bool} (hv : v = zbo b) (hq : Q (.inl (some (.int (xRs IF A r x z b)))) (zM o ot it IF A AL AD)) : zW ε false (d + 4) 58 0 [(0, .ref r), (1, .int x), (2, .int z), (3, .int v)] [] (zM o ot it IF A AL AD) 0 0 Q := by
  have hr0 := hr
  have q0 : xDl A r x z b = 0 → Q (.inl (some (.int 0))) (zM o ot it IF A AL AD) := fun h => by unfold xRs at hq; rw [if_pos h] at hq; exact hq
  have q1 : ¬ xDl A r x z b = 0 → A (rT r) (xev x z b) = xI A r x z b → Q (.inl (some (.int 1))) (zM o ot it IF A AL AD) := fun h h1 => by unfold xRs at hq; rw [if_neg h, if_pos h1] at hq; exact hq
  have q2 : ¬ xDl A r x z b = 0 → ¬ A (rT r) (xev x z b) = xI A r x z b → A (rT r) (xev x z b) = xH IF A r x z b → Q (.inl (some (.int 2))) (zM o ot it IF A AL AD) := fun h h1 h2 => by unfold xRs at hq; rw [if_neg h, if_neg h1, if_pos h2] at hq; exact hq
  have q3 : ¬ xDl A r x z b = 0 → ¬ A (rT r) (xev x z b) = xI A r x z b → ¬ A (rT r) (xev x z b) = xH IF A r x z b → Q (.inl (some (.int (cond b 3 4)))) (zM o ot it IF A AL AD) := fun h h1 h2 => by unfold xRs at hq; rw [if_neg h, if_neg h1, if_neg h2] at hq; exact hq
  rcases hr with rfl | rfl | rfl
  all_goals
    refine zrun 5 ⟨⟨Nat.zero_le _, Nat.zero_le _, rfl⟩, ?_⟩
    refine c_time hr0 hv ⟨rfl, ?_⟩
    refine zrun 1 (zloc [(0, _), (1, _), (2, _), (3, _), (4, _)] rfl ?_)
    refine zrun 5 ⟨⟨Nat.zero_le _, Nat.zero_le _, rfl⟩, ?_⟩
    refine c_delay hr0 hv ⟨rfl, ?_⟩
    refine zrun 1 ⟨fun h0 => ?_, fun h0 => ?_⟩
    · refine zrun 6 ⟨⟨Nat.zero_le _, Nat.zero_le _, rfl⟩, ?_⟩
      refine c_afterItself hr0 hv ⟨rfl, ?_⟩
      refine zrun 1 ⟨fun h1 => ?_, fun h1 => ?_⟩
      · refine zrun 6 ⟨⟨Nat.zero_le _, Nat.zero_le _, rfl⟩, ?_⟩
        refine c_afterHeadway hr0 hv ⟨rfl, ?_⟩
        refine zrun 1 ⟨fun h2 => ?_, fun h2 => ?_⟩
        · refine zrun 2 (zb_f hv (fun hb => ?_) (fun hb => ?_))
          · subst hb
            exact zrun 2 (q3 h0 h1 h2)
          · subst hb
            exact zrun 3 (q3 h0 h1 h2)
        · exact zrun 2 (q2 h0 h1 h2)
      · exact zrun 2 (q1 h0 h1)
    · exact zrun 2 (q0 h0)
end
