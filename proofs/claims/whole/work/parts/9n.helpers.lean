/-! law: its helpers catch what the class throws -/
def sI (u : Value) (AL : Nat → Nat → Int64) (_ : Nat → Nat → UInt64) : Prop := ∃ w, u = .int w ∧ AL 51 0 = w.toInt64
def sZ (u : Value) (AL : Nat → Nat → Int64) (_ : Nat → Nat → UInt64) : Prop := ∃ b, u = .int (zbo b) ∧ AL 51 0 = cond b 1 0
def sD (u : Value) (_ : Nat → Nat → Int64) (AD : Nat → Nat → UInt64) : Prop := ∃ w, u = .double w ∧ AD 52 0 = w
def zP3 (ε : Nat × (Nat → Int32)) (d y : Nat) (lm : zL) (sk : Value → (Nat → Nat → Int64) → (Nat → Nat → UInt64) → Prop) (u0 : Value) : zQ := fun r h => ∃ o ot it IF A AL AD u cde, h = zM o ot it IF A AL AD ∧ (∀ AL AD, zW ε false d y 0 lm [] (zM o ot it IF A AL AD) 0 0 (zR2 AL AD u cde)) ∧ r = .inl (some (.int cde)) ∧ ((cde = 0 ∧ sk u AL AD) ∨ (¬ cde = 0 ∧ u = u0))
theorem z_01 : vp_in (Int32.ofInt 0) 1 := fun h => absurd h (by decide)
section
variable {ε : Nat × (Nat → Int32)} {d : Nat} {o ot it : Value} {IF A : Nat → Nat → Int32} {AL : Nat → Nat → Int64} {AD : Nat → Nat → UInt64} {lm : zL}
theorem hp_append {x1 x2 x3 x4 x5 : Int32} (hj : zW ε false (d + 20) 78 0 [(0, .ref 0), (1, .int x1), (2, .int x2), (3, .int x3), (4, .int x4), (5, .int x5)] [] (zM o ot it IF A AL AD) 0 0 (zP2 ε (d + 21) 137 lm okI (.int 0) [(0, 1)] AL AD)) : zW ε false (d + 21) 209 0 [(0, .ref 0), (1, .int x1), (2, .int x2), (3, .int x3), (4, .int x4), (5, .int x5), (6, .ref 51)] [] (zM o ot it IF A AL AD) 0 0 (zP3 ε (d + 21) 137 lm sI (.int 0)) := by
  refine zrun 9 ⟨⟨Nat.le_of_ble_eq_true rfl, Nat.le_of_ble_eq_true rfl, rfl⟩, ?_⟩
  refine zW_mono ε _ _ _ _ _ _ _ _ _ _ _ (fun r h hP => ?_) hj
  obtain ⟨o2, ot2, it2, IF2, A2, u, cde, rfl, hw, hs⟩ := hP
  rcases hs with ⟨rfl, rfl, w, rfl⟩ | ⟨E, rfl, hm, rfl⟩
  · refine ⟨rfl, ?_⟩
    refine zrun 2 ⟨z_01, ?_⟩
    exact zrun 3 ⟨o2, ot2, it2, IF2, A2, _, AD, _, 0, rfl, hw, rfl, Or.inl ⟨rfl, w, rfl, rfl⟩⟩
  · simp only [List.mem_cons, List.not_mem_nil, or_false, Prod.mk.injEq] at hm
    rcases hm with ⟨rfl, rfl⟩
    exact ⟨⟨rfl, rfl⟩, by decide, zrun 2 ⟨o2, ot2, it2, IF2, A2, AL, AD, _, _, rfl, hw, rfl, Or.inr ⟨by decide, rfl⟩⟩⟩
theorem hp_truncate {x1 : Int32} (hj : zW ε false (d + 20) 79 0 [(0, .ref 0), (1, .int x1)] [] (zM o ot it IF A AL AD) 0 0 (zP2 ε (d + 21) 138 lm okI (.int 0) [(2, 1)] AL AD)) : zW ε false (d + 21) 210 0 [(0, .ref 0), (1, .int x1), (2, .ref 51)] [] (zM o ot it IF A AL AD) 0 0 (zP3 ε (d + 21) 138 lm sI (.int 0)) := by
  refine zrun 5 ⟨⟨Nat.le_of_ble_eq_true rfl, Nat.le_of_ble_eq_true rfl, rfl⟩, ?_⟩
  refine zW_mono ε _ _ _ _ _ _ _ _ _ _ _ (fun r h hP => ?_) hj
  obtain ⟨o2, ot2, it2, IF2, A2, u, cde, rfl, hw, hs⟩ := hP
  rcases hs with ⟨rfl, rfl, w, rfl⟩ | ⟨E, rfl, hm, rfl⟩
  · refine ⟨rfl, ?_⟩
    refine zrun 2 ⟨z_01, ?_⟩
    exact zrun 3 ⟨o2, ot2, it2, IF2, A2, _, AD, _, 0, rfl, hw, rfl, Or.inl ⟨rfl, w, rfl, rfl⟩⟩
  · simp only [List.mem_cons, List.not_mem_nil, or_false, Prod.mk.injEq] at hm
    rcases hm with ⟨rfl, rfl⟩
    exact ⟨⟨rfl, rfl⟩, by decide, zrun 2 ⟨o2, ot2, it2, IF2, A2, AL, AD, _, _, rfl, hw, rfl, Or.inr ⟨by decide, rfl⟩⟩⟩
theorem hp_load (hj : zW ε false (d + 20) 80 0 [(0, .ref 0)] [] (zM o ot it IF A AL AD) 0 0 (zP2 ε (d + 21) 155 lm okI (.int 0) [(1, 1)] AL AD)) : zW ε false (d + 21) 211 0 [(0, .ref 0), (1, .ref 51)] [] (zM o ot it IF A AL AD) 0 0 (zP3 ε (d + 21) 155 lm sI (.int 0)) := by
  refine zrun 4 ⟨⟨Nat.le_of_ble_eq_true rfl, Nat.le_of_ble_eq_true rfl, rfl⟩, ?_⟩
  refine zW_mono ε _ _ _ _ _ _ _ _ _ _ _ (fun r h hP => ?_) hj
  obtain ⟨o2, ot2, it2, IF2, A2, u, cde, rfl, hw, hs⟩ := hP
  rcases hs with ⟨rfl, rfl, w, rfl⟩ | ⟨E, rfl, hm, rfl⟩
  · refine ⟨rfl, ?_⟩
    refine zrun 2 ⟨z_01, ?_⟩
    exact zrun 3 ⟨o2, ot2, it2, IF2, A2, _, AD, _, 0, rfl, hw, rfl, Or.inl ⟨rfl, w, rfl, rfl⟩⟩
  · simp only [List.mem_cons, List.not_mem_nil, or_false, Prod.mk.injEq] at hm
    rcases hm with ⟨rfl, rfl⟩
    exact ⟨⟨rfl, rfl⟩, by decide, zrun 2 ⟨o2, ot2, it2, IF2, A2, AL, AD, _, _, rfl, hw, rfl, Or.inr ⟨by decide, rfl⟩⟩⟩
theorem hp_count {x1 : Int32} (hj : zW ε false (d + 20) 83 0 [(0, .ref 0), (1, .int x1)] [] (zM o ot it IF A AL AD) 0 0 (zP2 ε (d + 21) 173 lm okI (.int 0) [(1, 1)] AL AD)) : zW ε false (d + 21) 212 0 [(0, .ref 0), (1, .int x1), (2, .ref 51)] [] (zM o ot it IF A AL AD) 0 0 (zP3 ε (d + 21) 173 lm sI (.int 0)) := by
  refine zrun 5 ⟨⟨Nat.le_of_ble_eq_true rfl, Nat.le_of_ble_eq_true rfl, rfl⟩, ?_⟩
  refine zW_mono ε _ _ _ _ _ _ _ _ _ _ _ (fun r h hP => ?_) hj
  obtain ⟨o2, ot2, it2, IF2, A2, u, cde, rfl, hw, hs⟩ := hP
  rcases hs with ⟨rfl, rfl, w, rfl⟩ | ⟨E, rfl, hm, rfl⟩
  · refine ⟨rfl, ?_⟩
    refine zrun 2 ⟨z_01, ?_⟩
    exact zrun 3 ⟨o2, ot2, it2, IF2, A2, _, AD, _, 0, rfl, hw, rfl, Or.inl ⟨rfl, w, rfl, rfl⟩⟩
  · simp only [List.mem_cons, List.not_mem_nil, or_false, Prod.mk.injEq] at hm
    rcases hm with ⟨rfl, rfl⟩
    exact ⟨⟨rfl, rfl⟩, by decide, zrun 2 ⟨o2, ot2, it2, IF2, A2, AL, AD, _, _, rfl, hw, rfl, Or.inr ⟨by decide, rfl⟩⟩⟩
theorem hp_isSiding {x1 : Int32} (hj : zW ε false (d + 20) 84 0 [(0, .ref 0), (1, .int x1)] [] (zM o ot it IF A AL AD) 0 0 (zP2 ε (d + 21) 174 lm okZ (.int 0) [(2, 1)] AL AD)) : zW ε false (d + 21) 213 0 [(0, .ref 0), (1, .int x1), (2, .ref 51)] [] (zM o ot it IF A AL AD) 0 0 (zP3 ε (d + 21) 174 lm sZ (.int 0)) := by
  refine zrun 5 ⟨⟨Nat.le_of_ble_eq_true rfl, Nat.le_of_ble_eq_true rfl, rfl⟩, ?_⟩
  refine zW_mono ε _ _ _ _ _ _ _ _ _ _ _ (fun r h hP => ?_) hj
  obtain ⟨o2, ot2, it2, IF2, A2, u, cde, rfl, hw, hs⟩ := hP
  rcases hs with ⟨rfl, rfl, b, rfl⟩ | ⟨E, rfl, hm, rfl⟩
  · refine ⟨rfl, ?_⟩
    refine zrun 1 (zb_f rfl (fun hb => ?_) (fun hb => ?_))
    · subst hb
      refine zrun 2 ⟨z_01, ?_⟩
      exact zrun 3 ⟨o2, ot2, it2, IF2, A2, _, AD, _, 0, rfl, hw, rfl, Or.inl ⟨rfl, false, rfl, rfl⟩⟩
    · subst hb
      refine zrun 3 ⟨z_01, ?_⟩
      exact zrun 3 ⟨o2, ot2, it2, IF2, A2, _, AD, _, 0, rfl, hw, rfl, Or.inl ⟨rfl, true, rfl, rfl⟩⟩
  · simp only [List.mem_cons, List.not_mem_nil, or_false, Prod.mk.injEq] at hm
    rcases hm with ⟨rfl, rfl⟩
    exact ⟨⟨rfl, rfl⟩, by decide, zrun 2 ⟨o2, ot2, it2, IF2, A2, AL, AD, _, _, rfl, hw, rfl, Or.inr ⟨by decide, rfl⟩⟩⟩
theorem hp_train {x1 x2 : Int32} (hj : zW ε false (d + 20) 85 0 [(0, .ref 0), (1, .int x1), (2, .int x2)] [] (zM o ot it IF A AL AD) 0 0 (zP2 ε (d + 21) 175 lm okI (.int 0) [(2, 1), (1, 2)] AL AD)) : zW ε false (d + 21) 214 0 [(0, .ref 0), (1, .int x1), (2, .int x2), (3, .ref 51)] [] (zM o ot it IF A AL AD) 0 0 (zP3 ε (d + 21) 175 lm sI (.int 0)) := by
  refine zrun 6 ⟨⟨Nat.le_of_ble_eq_true rfl, Nat.le_of_ble_eq_true rfl, rfl⟩, ?_⟩
  refine zW_mono ε _ _ _ _ _ _ _ _ _ _ _ (fun r h hP => ?_) hj
  obtain ⟨o2, ot2, it2, IF2, A2, u, cde, rfl, hw, hs⟩ := hP
  rcases hs with ⟨rfl, rfl, w, rfl⟩ | ⟨E, rfl, hm, rfl⟩
  · refine ⟨rfl, ?_⟩
    refine zrun 2 ⟨z_01, ?_⟩
    exact zrun 3 ⟨o2, ot2, it2, IF2, A2, _, AD, _, 0, rfl, hw, rfl, Or.inl ⟨rfl, w, rfl, rfl⟩⟩
  · simp only [List.mem_cons, List.not_mem_nil, or_false, Prod.mk.injEq] at hm
    rcases hm with ⟨rfl, rfl⟩ | ⟨rfl, rfl⟩
    · exact ⟨⟨rfl, rfl⟩, by decide, zrun 2 ⟨o2, ot2, it2, IF2, A2, AL, AD, _, _, rfl, hw, rfl, Or.inr ⟨by decide, rfl⟩⟩⟩
    · exact ⟨⟨rfl, rfl⟩, by decide, zrun 2 ⟨o2, ot2, it2, IF2, A2, AL, AD, _, _, rfl, hw, rfl, Or.inr ⟨by decide, rfl⟩⟩⟩
theorem hp_order {x1 x2 x3 : Int32} (hj : zW ε false (d + 20) 86 0 [(0, .ref 0), (1, .int x1), (2, .int x2), (3, .int x3)] [] (zM o ot it IF A AL AD) 0 0 (zP2 ε (d + 21) 176 lm okI (.int 0) [(2, 1)] AL AD)) : zW ε false (d + 21) 215 0 [(0, .ref 0), (1, .int x1), (2, .int x2), (3, .int x3), (4, .ref 51)] [] (zM o ot it IF A AL AD) 0 0 (zP3 ε (d + 21) 176 lm sI (.int 0)) := by
  refine zrun 7 ⟨⟨Nat.le_of_ble_eq_true rfl, Nat.le_of_ble_eq_true rfl, rfl⟩, ?_⟩
  refine zW_mono ε _ _ _ _ _ _ _ _ _ _ _ (fun r h hP => ?_) hj
  obtain ⟨o2, ot2, it2, IF2, A2, u, cde, rfl, hw, hs⟩ := hP
  rcases hs with ⟨rfl, rfl, w, rfl⟩ | ⟨E, rfl, hm, rfl⟩
  · refine ⟨rfl, ?_⟩
    refine zrun 2 ⟨z_01, ?_⟩
    exact zrun 3 ⟨o2, ot2, it2, IF2, A2, _, AD, _, 0, rfl, hw, rfl, Or.inl ⟨rfl, w, rfl, rfl⟩⟩
  · simp only [List.mem_cons, List.not_mem_nil, or_false, Prod.mk.injEq] at hm
    rcases hm with ⟨rfl, rfl⟩
    exact ⟨⟨rfl, rfl⟩, by decide, zrun 2 ⟨o2, ot2, it2, IF2, A2, AL, AD, _, _, rfl, hw, rfl, Or.inr ⟨by decide, rfl⟩⟩⟩
theorem hp_planned {x1 x2 x3 : Int32} (hj : zW ε false (d + 20) 87 0 [(0, .ref 0), (1, .int x1), (2, .int x2), (3, .int x3)] [] (zM o ot it IF A AL AD) 0 0 (zP2 ε (d + 21) 177 lm okI (.int 0) [(2, 1), (3, 2)] AL AD)) : zW ε false (d + 21) 216 0 [(0, .ref 0), (1, .int x1), (2, .int x2), (3, .int x3), (4, .ref 51)] [] (zM o ot it IF A AL AD) 0 0 (zP3 ε (d + 21) 177 lm sI (.int 0)) := by
  refine zrun 7 ⟨⟨Nat.le_of_ble_eq_true rfl, Nat.le_of_ble_eq_true rfl, rfl⟩, ?_⟩
  refine zW_mono ε _ _ _ _ _ _ _ _ _ _ _ (fun r h hP => ?_) hj
  obtain ⟨o2, ot2, it2, IF2, A2, u, cde, rfl, hw, hs⟩ := hP
  rcases hs with ⟨rfl, rfl, w, rfl⟩ | ⟨E, rfl, hm, rfl⟩
  · refine ⟨rfl, ?_⟩
    refine zrun 2 ⟨z_01, ?_⟩
    exact zrun 3 ⟨o2, ot2, it2, IF2, A2, _, AD, _, 0, rfl, hw, rfl, Or.inl ⟨rfl, w, rfl, rfl⟩⟩
  · simp only [List.mem_cons, List.not_mem_nil, or_false, Prod.mk.injEq] at hm
    rcases hm with ⟨rfl, rfl⟩ | ⟨rfl, rfl⟩
    · exact ⟨⟨rfl, rfl⟩, by decide, zrun 2 ⟨o2, ot2, it2, IF2, A2, AL, AD, _, _, rfl, hw, rfl, Or.inr ⟨by decide, rfl⟩⟩⟩
    · exact ⟨⟨rfl, rfl⟩, by decide, zrun 2 ⟨o2, ot2, it2, IF2, A2, AL, AD, _, _, rfl, hw, rfl, Or.inr ⟨by decide, rfl⟩⟩⟩
theorem hp_plan {x1 x2 x3 : Int32} (hj : zW ε false (d + 20) 88 0 [(0, .ref 0), (1, .int x1), (2, .int x2), (3, .int x3)] [] (zM o ot it IF A AL AD) 0 0 (zP2 ε (d + 21) 180 lm okI (.int 0) [(2, 1), (0, 2)] AL AD)) : zW ε false (d + 21) 217 0 [(0, .ref 0), (1, .int x1), (2, .int x2), (3, .int x3), (4, .ref 51)] [] (zM o ot it IF A AL AD) 0 0 (zP3 ε (d + 21) 180 lm sI (.int 0)) := by
  refine zrun 7 ⟨⟨Nat.le_of_ble_eq_true rfl, Nat.le_of_ble_eq_true rfl, rfl⟩, ?_⟩
  refine zW_mono ε _ _ _ _ _ _ _ _ _ _ _ (fun r h hP => ?_) hj
  obtain ⟨o2, ot2, it2, IF2, A2, u, cde, rfl, hw, hs⟩ := hP
  rcases hs with ⟨rfl, rfl, w, rfl⟩ | ⟨E, rfl, hm, rfl⟩
  · refine ⟨rfl, ?_⟩
    refine zrun 2 ⟨z_01, ?_⟩
    exact zrun 3 ⟨o2, ot2, it2, IF2, A2, _, AD, _, 0, rfl, hw, rfl, Or.inl ⟨rfl, w, rfl, rfl⟩⟩
  · simp only [List.mem_cons, List.not_mem_nil, or_false, Prod.mk.injEq] at hm
    rcases hm with ⟨rfl, rfl⟩ | ⟨rfl, rfl⟩
    · exact ⟨⟨rfl, rfl⟩, by decide, zrun 2 ⟨o2, ot2, it2, IF2, A2, AL, AD, _, _, rfl, hw, rfl, Or.inr ⟨by decide, rfl⟩⟩⟩
    · exact ⟨⟨rfl, rfl⟩, by decide, zrun 2 ⟨o2, ot2, it2, IF2, A2, AL, AD, _, _, rfl, hw, rfl, Or.inr ⟨by decide, rfl⟩⟩⟩
theorem hp_setSupplement {x1 x2 x3 : Int32} (hj : zW ε false (d + 20) 89 0 [(0, .ref 0), (1, .int x1), (2, .int x2), (3, .int x3)] [] (zM o ot it IF A AL AD) 0 0 (zP2 ε (d + 21) 182 lm okI (.int 0) [(2, 1), (1, 2)] AL AD)) : zW ε false (d + 21) 218 0 [(0, .ref 0), (1, .int x1), (2, .int x2), (3, .int x3), (4, .ref 51)] [] (zM o ot it IF A AL AD) 0 0 (zP3 ε (d + 21) 182 lm sI (.int 0)) := by
  refine zrun 7 ⟨⟨Nat.le_of_ble_eq_true rfl, Nat.le_of_ble_eq_true rfl, rfl⟩, ?_⟩
  refine zW_mono ε _ _ _ _ _ _ _ _ _ _ _ (fun r h hP => ?_) hj
  obtain ⟨o2, ot2, it2, IF2, A2, u, cde, rfl, hw, hs⟩ := hP
  rcases hs with ⟨rfl, rfl, w, rfl⟩ | ⟨E, rfl, hm, rfl⟩
  · refine ⟨rfl, ?_⟩
    refine zrun 2 ⟨z_01, ?_⟩
    exact zrun 3 ⟨o2, ot2, it2, IF2, A2, _, AD, _, 0, rfl, hw, rfl, Or.inl ⟨rfl, w, rfl, rfl⟩⟩
  · simp only [List.mem_cons, List.not_mem_nil, or_false, Prod.mk.injEq] at hm
    rcases hm with ⟨rfl, rfl⟩ | ⟨rfl, rfl⟩
    · exact ⟨⟨rfl, rfl⟩, by decide, zrun 2 ⟨o2, ot2, it2, IF2, A2, AL, AD, _, _, rfl, hw, rfl, Or.inr ⟨by decide, rfl⟩⟩⟩
    · exact ⟨⟨rfl, rfl⟩, by decide, zrun 2 ⟨o2, ot2, it2, IF2, A2, AL, AD, _, _, rfl, hw, rfl, Or.inr ⟨by decide, rfl⟩⟩⟩
theorem hp_supplement {x1 x2 : Int32} (hj : zW ε false (d + 20) 90 0 [(0, .ref 0), (1, .int x1), (2, .int x2)] [] (zM o ot it IF A AL AD) 0 0 (zP2 ε (d + 21) 183 lm okI (.int 0) [(2, 1)] AL AD)) : zW ε false (d + 21) 219 0 [(0, .ref 0), (1, .int x1), (2, .int x2), (3, .ref 51)] [] (zM o ot it IF A AL AD) 0 0 (zP3 ε (d + 21) 183 lm sI (.int 0)) := by
  refine zrun 6 ⟨⟨Nat.le_of_ble_eq_true rfl, Nat.le_of_ble_eq_true rfl, rfl⟩, ?_⟩
  refine zW_mono ε _ _ _ _ _ _ _ _ _ _ _ (fun r h hP => ?_) hj
  obtain ⟨o2, ot2, it2, IF2, A2, u, cde, rfl, hw, hs⟩ := hP
  rcases hs with ⟨rfl, rfl, w, rfl⟩ | ⟨E, rfl, hm, rfl⟩
  · refine ⟨rfl, ?_⟩
    refine zrun 2 ⟨z_01, ?_⟩
    exact zrun 3 ⟨o2, ot2, it2, IF2, A2, _, AD, _, 0, rfl, hw, rfl, Or.inl ⟨rfl, w, rfl, rfl⟩⟩
  · simp only [List.mem_cons, List.not_mem_nil, or_false, Prod.mk.injEq] at hm
    rcases hm with ⟨rfl, rfl⟩
    exact ⟨⟨rfl, rfl⟩, by decide, zrun 2 ⟨o2, ot2, it2, IF2, A2, AL, AD, _, _, rfl, hw, rfl, Or.inr ⟨by decide, rfl⟩⟩⟩
theorem hp_buffer {x1 x2 : Int32} (hj : zW ε false (d + 20) 91 0 [(0, .ref 0), (1, .int x1), (2, .int x2)] [] (zM o ot it IF A AL AD) 0 0 (zP2 ε (d + 21) 184 lm okI (.int 0) [(2, 1), (3, 2)] AL AD)) : zW ε false (d + 21) 220 0 [(0, .ref 0), (1, .int x1), (2, .int x2), (3, .ref 51)] [] (zM o ot it IF A AL AD) 0 0 (zP3 ε (d + 21) 184 lm sI (.int 0)) := by
  refine zrun 6 ⟨⟨Nat.le_of_ble_eq_true rfl, Nat.le_of_ble_eq_true rfl, rfl⟩, ?_⟩
  refine zW_mono ε _ _ _ _ _ _ _ _ _ _ _ (fun r h hP => ?_) hj
  obtain ⟨o2, ot2, it2, IF2, A2, u, cde, rfl, hw, hs⟩ := hP
  rcases hs with ⟨rfl, rfl, w, rfl⟩ | ⟨E, rfl, hm, rfl⟩
  · refine ⟨rfl, ?_⟩
    refine zrun 2 ⟨z_01, ?_⟩
    exact zrun 3 ⟨o2, ot2, it2, IF2, A2, _, AD, _, 0, rfl, hw, rfl, Or.inl ⟨rfl, w, rfl, rfl⟩⟩
  · simp only [List.mem_cons, List.not_mem_nil, or_false, Prod.mk.injEq] at hm
    rcases hm with ⟨rfl, rfl⟩ | ⟨rfl, rfl⟩
    · exact ⟨⟨rfl, rfl⟩, by decide, zrun 2 ⟨o2, ot2, it2, IF2, A2, AL, AD, _, _, rfl, hw, rfl, Or.inr ⟨by decide, rfl⟩⟩⟩
    · exact ⟨⟨rfl, rfl⟩, by decide, zrun 2 ⟨o2, ot2, it2, IF2, A2, AL, AD, _, _, rfl, hw, rfl, Or.inr ⟨by decide, rfl⟩⟩⟩
theorem hp_speed {x1 : Int32} (hj : zW ε false (d + 20) 92 0 [(0, .ref 0), (1, .int x1)] [] (zM o ot it IF A AL AD) 0 0 (zP2 ε (d + 21) 185 lm okD (.double FP.dconst0) [(2, 1)] AL AD)) : zW ε false (d + 21) 221 0 [(0, .ref 0), (1, .int x1), (2, .ref 52)] [] (zM o ot it IF A AL AD) 0 0 (zP3 ε (d + 21) 185 lm sD (.double FP.dconst0)) := by
  refine zrun 5 ⟨⟨Nat.le_of_ble_eq_true rfl, Nat.le_of_ble_eq_true rfl, rfl⟩, ?_⟩
  refine zW_mono ε _ _ _ _ _ _ _ _ _ _ _ (fun r h hP => ?_) hj
  obtain ⟨o2, ot2, it2, IF2, A2, u, cde, rfl, hw, hs⟩ := hP
  rcases hs with ⟨rfl, rfl, w, rfl, hn⟩ | ⟨E, rfl, hm, rfl⟩
  · refine ⟨rfl, ?_⟩
    refine zrun 1 ⟨z_01, ?_⟩
    exact zrun 3 ⟨o2, ot2, it2, IF2, A2, AL, _, _, 0, rfl, hw, rfl, Or.inl ⟨rfl, w, rfl, rfl⟩⟩
  · simp only [List.mem_cons, List.not_mem_nil, or_false, Prod.mk.injEq] at hm
    rcases hm with ⟨rfl, rfl⟩
    exact ⟨⟨rfl, rfl⟩, by decide, zrun 2 ⟨o2, ot2, it2, IF2, A2, AL, AD, _, _, rfl, hw, rfl, Or.inr ⟨by decide, rfl⟩⟩⟩
theorem hp_lastArrival (hj : zW ε false (d + 20) 93 0 [(0, .ref 0)] [] (zM o ot it IF A AL AD) 0 0 (zP2 ε (d + 21) 186 lm okI (.int 0) [(3, 1)] AL AD)) : zW ε false (d + 21) 222 0 [(0, .ref 0), (1, .ref 51)] [] (zM o ot it IF A AL AD) 0 0 (zP3 ε (d + 21) 186 lm sI (.int 0)) := by
  refine zrun 4 ⟨⟨Nat.le_of_ble_eq_true rfl, Nat.le_of_ble_eq_true rfl, rfl⟩, ?_⟩
  refine zW_mono ε _ _ _ _ _ _ _ _ _ _ _ (fun r h hP => ?_) hj
  obtain ⟨o2, ot2, it2, IF2, A2, u, cde, rfl, hw, hs⟩ := hP
  rcases hs with ⟨rfl, rfl, w, rfl⟩ | ⟨E, rfl, hm, rfl⟩
  · refine ⟨rfl, ?_⟩
    refine zrun 2 ⟨z_01, ?_⟩
    exact zrun 3 ⟨o2, ot2, it2, IF2, A2, _, AD, _, 0, rfl, hw, rfl, Or.inl ⟨rfl, w, rfl, rfl⟩⟩
  · simp only [List.mem_cons, List.not_mem_nil, or_false, Prod.mk.injEq] at hm
    rcases hm with ⟨rfl, rfl⟩
    exact ⟨⟨rfl, rfl⟩, by decide, zrun 2 ⟨o2, ot2, it2, IF2, A2, AL, AD, _, _, rfl, hw, rfl, Or.inr ⟨by decide, rfl⟩⟩⟩
theorem hp_disturb {x1 x2 x3 x4 : Int32} (hj : zW ε false (d + 20) 94 0 [(0, .ref 0), (1, .int x1), (2, .int x2), (3, .int x3), (4, .int x4)] [] (zM o ot it IF A AL AD) 0 0 (zP2 ε (d + 21) 187 lm okI (.int 0) [(2, 1), (1, 2), (3, 3), (0, 4)] AL AD)) : zW ε false (d + 21) 223 0 [(0, .ref 0), (1, .int x1), (2, .int x2), (3, .int x3), (4, .int x4), (5, .ref 51)] [] (zM o ot it IF A AL AD) 0 0 (zP3 ε (d + 21) 187 lm sI (.int 0)) := by
  refine zrun 8 ⟨⟨Nat.le_of_ble_eq_true rfl, Nat.le_of_ble_eq_true rfl, rfl⟩, ?_⟩
  refine zW_mono ε _ _ _ _ _ _ _ _ _ _ _ (fun r h hP => ?_) hj
  obtain ⟨o2, ot2, it2, IF2, A2, u, cde, rfl, hw, hs⟩ := hP
  rcases hs with ⟨rfl, rfl, w, rfl⟩ | ⟨E, rfl, hm, rfl⟩
  · refine ⟨rfl, ?_⟩
    refine zrun 2 ⟨z_01, ?_⟩
    exact zrun 3 ⟨o2, ot2, it2, IF2, A2, _, AD, _, 0, rfl, hw, rfl, Or.inl ⟨rfl, w, rfl, rfl⟩⟩
  · simp only [List.mem_cons, List.not_mem_nil, or_false, Prod.mk.injEq] at hm
    rcases hm with ⟨rfl, rfl⟩ | ⟨rfl, rfl⟩ | ⟨rfl, rfl⟩ | ⟨rfl, rfl⟩
    · exact ⟨⟨rfl, rfl⟩, by decide, zrun 2 ⟨o2, ot2, it2, IF2, A2, AL, AD, _, _, rfl, hw, rfl, Or.inr ⟨by decide, rfl⟩⟩⟩
    · exact ⟨⟨rfl, rfl⟩, by decide, zrun 2 ⟨o2, ot2, it2, IF2, A2, AL, AD, _, _, rfl, hw, rfl, Or.inr ⟨by decide, rfl⟩⟩⟩
    · exact ⟨⟨rfl, rfl⟩, by decide, zrun 2 ⟨o2, ot2, it2, IF2, A2, AL, AD, _, _, rfl, hw, rfl, Or.inr ⟨by decide, rfl⟩⟩⟩
    · exact ⟨⟨rfl, rfl⟩, by decide, zrun 2 ⟨o2, ot2, it2, IF2, A2, AL, AD, _, _, rfl, hw, rfl, Or.inr ⟨by decide, rfl⟩⟩⟩
theorem hp_actual {x1 x2 x3 : Int32} (hj : zW ε false (d + 20) 96 0 [(0, .ref 0), (1, .int x1), (2, .int x2), (3, .int x3)] [] (zM o ot it IF A AL AD) 0 0 (zP2 ε (d + 21) 189 lm okI (.int 0) [(2, 1), (3, 2)] AL AD)) : zW ε false (d + 21) 224 0 [(0, .ref 0), (1, .int x1), (2, .int x2), (3, .int x3), (4, .ref 51)] [] (zM o ot it IF A AL AD) 0 0 (zP3 ε (d + 21) 189 lm sI (.int 0)) := by
  refine zrun 7 ⟨⟨Nat.le_of_ble_eq_true rfl, Nat.le_of_ble_eq_true rfl, rfl⟩, ?_⟩
  refine zW_mono ε _ _ _ _ _ _ _ _ _ _ _ (fun r h hP => ?_) hj
  obtain ⟨o2, ot2, it2, IF2, A2, u, cde, rfl, hw, hs⟩ := hP
  rcases hs with ⟨rfl, rfl, w, rfl⟩ | ⟨E, rfl, hm, rfl⟩
  · refine ⟨rfl, ?_⟩
    refine zrun 2 ⟨z_01, ?_⟩
    exact zrun 3 ⟨o2, ot2, it2, IF2, A2, _, AD, _, 0, rfl, hw, rfl, Or.inl ⟨rfl, w, rfl, rfl⟩⟩
  · simp only [List.mem_cons, List.not_mem_nil, or_false, Prod.mk.injEq] at hm
    rcases hm with ⟨rfl, rfl⟩ | ⟨rfl, rfl⟩
    · exact ⟨⟨rfl, rfl⟩, by decide, zrun 2 ⟨o2, ot2, it2, IF2, A2, AL, AD, _, _, rfl, hw, rfl, Or.inr ⟨by decide, rfl⟩⟩⟩
    · exact ⟨⟨rfl, rfl⟩, by decide, zrun 2 ⟨o2, ot2, it2, IF2, A2, AL, AD, _, _, rfl, hw, rfl, Or.inr ⟨by decide, rfl⟩⟩⟩
theorem hp_punctuality {x1 : Int32} (hj : zW ε false (d + 20) 99 0 [(0, .ref 0), (1, .int x1)] [] (zM o ot it IF A AL AD) 0 0 (zP2 ε (d + 21) 193 lm okD (.double FP.dconst0) [(1, 1), (3, 2)] AL AD)) : zW ε false (d + 21) 225 0 [(0, .ref 0), (1, .int x1), (2, .ref 52)] [] (zM o ot it IF A AL AD) 0 0 (zP3 ε (d + 21) 193 lm sD (.double FP.dconst0)) := by
  refine zrun 5 ⟨⟨Nat.le_of_ble_eq_true rfl, Nat.le_of_ble_eq_true rfl, rfl⟩, ?_⟩
  refine zW_mono ε _ _ _ _ _ _ _ _ _ _ _ (fun r h hP => ?_) hj
  obtain ⟨o2, ot2, it2, IF2, A2, u, cde, rfl, hw, hs⟩ := hP
  rcases hs with ⟨rfl, rfl, w, rfl, hn⟩ | ⟨E, rfl, hm, rfl⟩
  · refine ⟨rfl, ?_⟩
    refine zrun 1 ⟨z_01, ?_⟩
    exact zrun 3 ⟨o2, ot2, it2, IF2, A2, AL, _, _, 0, rfl, hw, rfl, Or.inl ⟨rfl, w, rfl, rfl⟩⟩
  · simp only [List.mem_cons, List.not_mem_nil, or_false, Prod.mk.injEq] at hm
    rcases hm with ⟨rfl, rfl⟩ | ⟨rfl, rfl⟩
    · exact ⟨⟨rfl, rfl⟩, by decide, zrun 2 ⟨o2, ot2, it2, IF2, A2, AL, AD, _, _, rfl, hw, rfl, Or.inr ⟨by decide, rfl⟩⟩⟩
    · exact ⟨⟨rfl, rfl⟩, by decide, zrun 2 ⟨o2, ot2, it2, IF2, A2, AL, AD, _, _, rfl, hw, rfl, Or.inr ⟨by decide, rfl⟩⟩⟩
theorem hp_isKept {x1 : Int32} (hj : zW ε false (d + 20) 100 0 [(0, .ref 0), (1, .int x1)] [] (zM o ot it IF A AL AD) 0 0 (zP2 ε (d + 21) 194 lm okZ (.int 0) [(2, 1)] AL AD)) : zW ε false (d + 21) 226 0 [(0, .ref 0), (1, .int x1), (2, .ref 51)] [] (zM o ot it IF A AL AD) 0 0 (zP3 ε (d + 21) 194 lm sZ (.int 0)) := by
  refine zrun 5 ⟨⟨Nat.le_of_ble_eq_true rfl, Nat.le_of_ble_eq_true rfl, rfl⟩, ?_⟩
  refine zW_mono ε _ _ _ _ _ _ _ _ _ _ _ (fun r h hP => ?_) hj
  obtain ⟨o2, ot2, it2, IF2, A2, u, cde, rfl, hw, hs⟩ := hP
  rcases hs with ⟨rfl, rfl, b, rfl⟩ | ⟨E, rfl, hm, rfl⟩
  · refine ⟨rfl, ?_⟩
    refine zrun 1 (zb_f rfl (fun hb => ?_) (fun hb => ?_))
    · subst hb
      refine zrun 2 ⟨z_01, ?_⟩
      exact zrun 3 ⟨o2, ot2, it2, IF2, A2, _, AD, _, 0, rfl, hw, rfl, Or.inl ⟨rfl, false, rfl, rfl⟩⟩
    · subst hb
      refine zrun 3 ⟨z_01, ?_⟩
      exact zrun 3 ⟨o2, ot2, it2, IF2, A2, _, AD, _, 0, rfl, hw, rfl, Or.inl ⟨rfl, true, rfl, rfl⟩⟩
  · simp only [List.mem_cons, List.not_mem_nil, or_false, Prod.mk.injEq] at hm
    rcases hm with ⟨rfl, rfl⟩
    exact ⟨⟨rfl, rfl⟩, by decide, zrun 2 ⟨o2, ot2, it2, IF2, A2, AL, AD, _, _, rfl, hw, rfl, Or.inr ⟨by decide, rfl⟩⟩⟩
theorem hp_cause {x1 x2 x3 : Int32} (hj : zW ε false (d + 20) 102 0 [(0, .ref 0), (1, .int x1), (2, .int x2), (3, .int x3)] [] (zM o ot it IF A AL AD) 0 0 (zP2 ε (d + 21) 198 lm okI (.int 0) [(2, 1), (3, 2)] AL AD)) : zW ε false (d + 21) 227 0 [(0, .ref 0), (1, .int x1), (2, .int x2), (3, .int x3), (4, .ref 51)] [] (zM o ot it IF A AL AD) 0 0 (zP3 ε (d + 21) 198 lm sI (.int 0)) := by
  refine zrun 7 ⟨⟨Nat.le_of_ble_eq_true rfl, Nat.le_of_ble_eq_true rfl, rfl⟩, ?_⟩
  refine zW_mono ε _ _ _ _ _ _ _ _ _ _ _ (fun r h hP => ?_) hj
  obtain ⟨o2, ot2, it2, IF2, A2, u, cde, rfl, hw, hs⟩ := hP
  rcases hs with ⟨rfl, rfl, w, rfl⟩ | ⟨E, rfl, hm, rfl⟩
  · refine ⟨rfl, ?_⟩
    refine zrun 2 ⟨z_01, ?_⟩
    exact zrun 3 ⟨o2, ot2, it2, IF2, A2, _, AD, _, 0, rfl, hw, rfl, Or.inl ⟨rfl, w, rfl, rfl⟩⟩
  · simp only [List.mem_cons, List.not_mem_nil, or_false, Prod.mk.injEq] at hm
    rcases hm with ⟨rfl, rfl⟩ | ⟨rfl, rfl⟩
    · exact ⟨⟨rfl, rfl⟩, by decide, zrun 2 ⟨o2, ot2, it2, IF2, A2, AL, AD, _, _, rfl, hw, rfl, Or.inr ⟨by decide, rfl⟩⟩⟩
    · exact ⟨⟨rfl, rfl⟩, by decide, zrun 2 ⟨o2, ot2, it2, IF2, A2, AL, AD, _, _, rfl, hw, rfl, Or.inr ⟨by decide, rfl⟩⟩⟩
theorem hp_overtake {x1 x2 x3 : Int32} (hj : zW ε false (d + 20) 104 0 [(0, .ref 0), (1, .int x1), (2, .int x2), (3, .int x3)] [] (zM o ot it IF A AL AD) 0 0 (zP2 ε (d + 21) 200 lm okI (.int 0) [(2, 1), (0, 2)] AL AD)) : zW ε false (d + 21) 228 0 [(0, .ref 0), (1, .int x1), (2, .int x2), (3, .int x3), (4, .ref 51)] [] (zM o ot it IF A AL AD) 0 0 (zP3 ε (d + 21) 200 lm sI (.int 0)) := by
  refine zrun 7 ⟨⟨Nat.le_of_ble_eq_true rfl, Nat.le_of_ble_eq_true rfl, rfl⟩, ?_⟩
  refine zW_mono ε _ _ _ _ _ _ _ _ _ _ _ (fun r h hP => ?_) hj
  obtain ⟨o2, ot2, it2, IF2, A2, u, cde, rfl, hw, hs⟩ := hP
  rcases hs with ⟨rfl, rfl, w, rfl⟩ | ⟨E, rfl, hm, rfl⟩
  · refine ⟨rfl, ?_⟩
    refine zrun 2 ⟨z_01, ?_⟩
    exact zrun 3 ⟨o2, ot2, it2, IF2, A2, _, AD, _, 0, rfl, hw, rfl, Or.inl ⟨rfl, w, rfl, rfl⟩⟩
  · simp only [List.mem_cons, List.not_mem_nil, or_false, Prod.mk.injEq] at hm
    rcases hm with ⟨rfl, rfl⟩ | ⟨rfl, rfl⟩
    · exact ⟨⟨rfl, rfl⟩, by decide, zrun 2 ⟨o2, ot2, it2, IF2, A2, AL, AD, _, _, rfl, hw, rfl, Or.inr ⟨by decide, rfl⟩⟩⟩
    · exact ⟨⟨rfl, rfl⟩, by decide, zrun 2 ⟨o2, ot2, it2, IF2, A2, AL, AD, _, _, rfl, hw, rfl, Or.inr ⟨by decide, rfl⟩⟩⟩
theorem hp_tolerance {x1 x2 : Int32} (hj : zW ε false (d + 20) 107 0 [(0, .ref 0), (1, .int x1), (2, .int x2)] [] (zM o ot it IF A AL AD) 0 0 (zP2 ε (d + 21) 204 lm okI (.int 0) [(2, 1), (3, 2)] AL AD)) : zW ε false (d + 21) 229 0 [(0, .ref 0), (1, .int x1), (2, .int x2), (3, .ref 51)] [] (zM o ot it IF A AL AD) 0 0 (zP3 ε (d + 21) 204 lm sI (.int 0)) := by
  refine zrun 6 ⟨⟨Nat.le_of_ble_eq_true rfl, Nat.le_of_ble_eq_true rfl, rfl⟩, ?_⟩
  refine zW_mono ε _ _ _ _ _ _ _ _ _ _ _ (fun r h hP => ?_) hj
  obtain ⟨o2, ot2, it2, IF2, A2, u, cde, rfl, hw, hs⟩ := hP
  rcases hs with ⟨rfl, rfl, w, rfl⟩ | ⟨E, rfl, hm, rfl⟩
  · refine ⟨rfl, ?_⟩
    refine zrun 2 ⟨z_01, ?_⟩
    exact zrun 3 ⟨o2, ot2, it2, IF2, A2, _, AD, _, 0, rfl, hw, rfl, Or.inl ⟨rfl, w, rfl, rfl⟩⟩
  · simp only [List.mem_cons, List.not_mem_nil, or_false, Prod.mk.injEq] at hm
    rcases hm with ⟨rfl, rfl⟩ | ⟨rfl, rfl⟩
    · exact ⟨⟨rfl, rfl⟩, by decide, zrun 2 ⟨o2, ot2, it2, IF2, A2, AL, AD, _, _, rfl, hw, rfl, Or.inr ⟨by decide, rfl⟩⟩⟩
    · exact ⟨⟨rfl, rfl⟩, by decide, zrun 2 ⟨o2, ot2, it2, IF2, A2, AL, AD, _, _, rfl, hw, rfl, Or.inr ⟨by decide, rfl⟩⟩⟩
theorem hp_leastDelay {x1 x2 : Int32} (hj : zW ε false (d + 20) 108 0 [(0, .ref 0), (1, .int x1), (2, .int x2)] [] (zM o ot it IF A AL AD) 0 0 (zP2 ε (d + 21) 207 lm okI (.int 0) [(2, 1), (1, 2)] AL AD)) : zW ε false (d + 21) 230 0 [(0, .ref 0), (1, .int x1), (2, .int x2), (3, .ref 51)] [] (zM o ot it IF A AL AD) 0 0 (zP3 ε (d + 21) 207 lm sI (.int 0)) := by
  refine zrun 6 ⟨⟨Nat.le_of_ble_eq_true rfl, Nat.le_of_ble_eq_true rfl, rfl⟩, ?_⟩
  refine zW_mono ε _ _ _ _ _ _ _ _ _ _ _ (fun r h hP => ?_) hj
  obtain ⟨o2, ot2, it2, IF2, A2, u, cde, rfl, hw, hs⟩ := hP
  rcases hs with ⟨rfl, rfl, w, rfl⟩ | ⟨E, rfl, hm, rfl⟩
  · refine ⟨rfl, ?_⟩
    refine zrun 2 ⟨z_01, ?_⟩
    exact zrun 3 ⟨o2, ot2, it2, IF2, A2, _, AD, _, 0, rfl, hw, rfl, Or.inl ⟨rfl, w, rfl, rfl⟩⟩
  · simp only [List.mem_cons, List.not_mem_nil, or_false, Prod.mk.injEq] at hm
    rcases hm with ⟨rfl, rfl⟩ | ⟨rfl, rfl⟩
    · exact ⟨⟨rfl, rfl⟩, by decide, zrun 2 ⟨o2, ot2, it2, IF2, A2, AL, AD, _, _, rfl, hw, rfl, Or.inr ⟨by decide, rfl⟩⟩⟩
    · exact ⟨⟨rfl, rfl⟩, by decide, zrun 2 ⟨o2, ot2, it2, IF2, A2, AL, AD, _, _, rfl, hw, rfl, Or.inr ⟨by decide, rfl⟩⟩⟩
theorem hp_distribute {x1 x2 : Int32} (hj : zW ε false (d + 20) 109 0 [(0, .ref 0), (1, .int x1), (2, .int x2)] [] (zM o ot it IF A AL AD) 0 0 (zP2 ε (d + 21) 208 lm okI (.int 0) [(2, 1), (1, 2)] AL AD)) : zW ε false (d + 21) 231 0 [(0, .ref 0), (1, .int x1), (2, .int x2), (3, .ref 51)] [] (zM o ot it IF A AL AD) 0 0 (zP3 ε (d + 21) 208 lm sI (.int 0)) := by
  refine zrun 6 ⟨⟨Nat.le_of_ble_eq_true rfl, Nat.le_of_ble_eq_true rfl, rfl⟩, ?_⟩
  refine zW_mono ε _ _ _ _ _ _ _ _ _ _ _ (fun r h hP => ?_) hj
  obtain ⟨o2, ot2, it2, IF2, A2, u, cde, rfl, hw, hs⟩ := hP
  rcases hs with ⟨rfl, rfl, w, rfl⟩ | ⟨E, rfl, hm, rfl⟩
  · refine ⟨rfl, ?_⟩
    refine zrun 2 ⟨z_01, ?_⟩
    exact zrun 3 ⟨o2, ot2, it2, IF2, A2, _, AD, _, 0, rfl, hw, rfl, Or.inl ⟨rfl, w, rfl, rfl⟩⟩
  · simp only [List.mem_cons, List.not_mem_nil, or_false, Prod.mk.injEq] at hm
    rcases hm with ⟨rfl, rfl⟩ | ⟨rfl, rfl⟩
    · exact ⟨⟨rfl, rfl⟩, by decide, zrun 2 ⟨o2, ot2, it2, IF2, A2, AL, AD, _, _, rfl, hw, rfl, Or.inr ⟨by decide, rfl⟩⟩⟩
    · exact ⟨⟨rfl, rfl⟩, by decide, zrun 2 ⟨o2, ot2, it2, IF2, A2, AL, AD, _, _, rfl, hw, rfl, Or.inr ⟨by decide, rfl⟩⟩⟩
end
