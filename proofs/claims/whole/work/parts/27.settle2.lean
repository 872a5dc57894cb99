/-! the class: Schedule, connections and settle -/
section
variable {ε : Nat × (Nat → Int32)} {d : Nat} {Q : zQ} {o ot it : Value} {IF A : Nat → Nat → Int32} {AL : Nat → Nat → Int64} {AD : Nat → Nat → UInt64} {r : Nat}
theorem cl_conn (hr : rOk r) {x z : Int32} {N : Nat} (hN : IF 8 2 = nI N) (hN8 : N ≤ 8) : ∀ (n i : Nat) (v c : Int32), i + n = N → c = nI i → Q (.inl (some (.int (xCn IF A r x z n i v)))) (zM o ot it IF A AL AD) → zW ε false (d + 3) 50 5 [(0, .ref r), (1, .int x), (2, .int z), (3, .int v), (4, .int c)] [] (zM o ot it IF A AL AD) 0 0 Q := by
  have hr0 := hr
  intro n
  induction n with
  | zero =>
    intro i v c hi hc hq
    rcases hr with rfl | rfl | rfl
    all_goals
      refine zrun 5 (zb_ge hc hN (by omega) (by omega) (fun _ => ?_) (fun h => absurd h (by omega)))
      exact zrun 2 hq
  | succ n ih =>
    intro i v c hi hc hq
    subst hc
    have next : ∀ (w : Int32), w = (if xk A (nI i) 1 = x ∧ xk A (nI i) 2 = z ∧ xW IF A r x z (xC A r (nI i)) = true then zmx v (xC A r (nI i)) else v) → zW ε false (d + 3) 50 5 [(0, .ref r), (1, .int x), (2, .int z), (3, .int w), (4, .int (nI i + 1))] [] (zM o ot it IF A AL AD) 0 0 Q := by
      intro w hw
      refine ih (i + 1) w (nI i + 1) (by omega) (nI_1 i) ?_
      rw [hw]
      exact hq
    rcases hr with rfl | rfl | rfl
    all_goals
      refine zrun 5 (zb_ge rfl hN (by omega) (by omega) (fun h => absurd h (by omega)) (fun _ => ?_))
      refine zrun 5 ⟨⟨Nat.zero_le _, Nat.zero_le _, rfl⟩, ?_⟩
      refine c_link ⟨rfl, ?_⟩
      refine zrun 2 ⟨fun h1 => ?_, fun h1 => ?_⟩
      · exact zrun 2 (next v (if_neg (fun q => h1 q.1)).symm)
      · refine zrun 5 ⟨⟨Nat.zero_le _, Nat.zero_le _, rfl⟩, ?_⟩
        refine c_link ⟨rfl, ?_⟩
        refine zrun 2 ⟨fun h2 => ?_, fun h2 => ?_⟩
        · exact zrun 2 (next v (if_neg (fun q => h2 q.2.1)).symm)
        · refine zrun 3 ⟨⟨Nat.zero_le _, Nat.zero_le _, rfl⟩, ?_⟩
          refine c_changeTime hr0 ⟨rfl, ?_⟩
          refine zrun 6 ⟨⟨Nat.zero_le _, Nat.zero_le _, rfl⟩, ?_⟩
          refine c_waits hr0 ⟨rfl, ?_⟩
          refine zrun 1 (zb_f rfl (fun h3 => ?_) (fun h3 => ?_))
          · refine zrun 2 (zfg [0, 1, 2, 3, 4] ?_)
            exact next v (if_neg (fun q => Bool.noConfusion (q.2.2.symm.trans h3))).symm
          · refine zrun 3 ⟨Nat.le_of_ble_eq_true rfl, ?_⟩
            refine zrun 3 (zfg [0, 1, 2, 3, 4] ?_)
            exact next _ (if_pos ⟨h1, h2, h3⟩).symm
theorem c_conn (hr : rOk r) {x z : Int32} {N : Nat} (hN : IF 8 2 = nI N) (hN8 : N ≤ 8) (hq : Q (.inl (some (.int (xCs IF A r x z N)))) (zM o ot it IF A AL AD)) : zW ε false (d + 3) 50 0 [(0, .ref r), (1, .int x), (2, .int z)] [] (zM o ot it IF A AL AD) 0 0 Q := zrun 4 (cl_conn hr hN hN8 N 0 (-1) 0 (by omega) nI_0.symm hq)
theorem c_settle (hr : rOk r) {x z v : Int32} {b : Bool} {N : Nat} (hN : IF 8 2 = nI N) (hN8 : N ≤ 8) (hv : v = zbo b) (hq : Q (.inl none) (zM o ot it IF (xSt IF A r N x z b) AL AD)) : zW ε false (d + 4) 46 0 [(0, .ref r), (1, .int x), (2, .int z), (3, .int v)] [] (zM o ot it IF A AL AD) 0 0 Q := by
  have hr0 := hr
  rcases hr with rfl | rfl | rfl
  all_goals
    refine zrun 6 ⟨⟨Nat.zero_le _, Nat.zero_le _, rfl⟩, ?_⟩
    refine c_hasEvent hv ⟨rfl, ?_⟩
    refine zrun 1 (zb_t rfl (fun he => ?_) (fun he => ?_))
    · unfold xSt at hq
      rw [he] at hq
      refine zrun 4 ⟨⟨Nat.zero_le _, Nat.zero_le _, rfl⟩, ?_⟩
      refine c_event hv ⟨rfl, ?_⟩
      refine zrun 4 (zloc [(0, _), (1, _), (2, _), (3, _), (4, _)] rfl ?_)
      refine zW_iald (n := xev x z b) rfl rfl rfl (xev_lt _ _ _) (by decide) ?_
      refine zrun 5 ⟨⟨Nat.zero_le _, Nat.zero_le _, rfl⟩, ?_⟩
      refine c_afterItself hr0 hv ⟨rfl, ?_⟩
      refine zrun 1 ⟨Nat.le_of_ble_eq_true rfl, ?_⟩
      refine zrun 1 (zloc [(0, _), (1, _), (2, _), (3, _), (4, _), (5, _)] rfl ?_)
      refine zrun 6 ⟨⟨Nat.zero_le _, Nat.zero_le _, rfl⟩, ?_⟩
      refine c_afterHeadway hr0 hv ⟨rfl, ?_⟩
      refine zrun 1 ⟨Nat.le_of_ble_eq_true rfl, ?_⟩
      refine zrun 1 (zloc [(0, _), (1, _), (2, _), (3, _), (4, _), (5, _)] rfl ?_)
      refine zrun 2 (zb_f hv (fun hb => ?_) (fun hb => ?_))
      · subst hb
        refine zrun 4 ⟨⟨Nat.zero_le _, Nat.zero_le _, rfl⟩, ?_⟩
        refine c_conn hr0 hN hN8 ⟨rfl, ?_⟩
        refine zrun 1 (zloc [(0, _), (1, _), (2, _), (3, _), (4, _), (5, _), (6, _)] rfl ?_)
        refine zrun 6 ⟨Nat.le_of_ble_eq_true rfl, ?_⟩
        refine zW_iast (n := xev x z false) rfl rfl rfl (xev_lt _ _ _) (by decide) ?_
        exact zrun 1 hq
      · subst hb
        refine zrun 4 ⟨⟨Nat.zero_le _, Nat.zero_le _, rfl⟩, ?_⟩
        refine c_afterPlain hr0 ⟨rfl, ?_⟩
        refine zrun 2 (zloc [(0, _), (1, _), (2, _), (3, _), (4, _), (5, _), (6, _)] rfl ?_)
        refine zrun 6 ⟨Nat.le_of_ble_eq_true rfl, ?_⟩
        refine zW_iast (n := xev x z true) rfl rfl rfl (xev_lt _ _ _) (by decide) ?_
        exact zrun 1 hq
    · unfold xSt at hq
      rw [he] at hq
      exact zrun 1 hq
end
