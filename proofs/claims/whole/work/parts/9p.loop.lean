/-! law: its loop -/
section
variable {ε : Nat × (Nat → Int32)} {d : Nat} {Q : zQ}
theorem lw_loop (hN : ε.1 ≤ 3072) (hQ : ∀ h, Q (.inl (some (.int 1))) h) : ∀ (m q : Nat) (c : Int32) (o ot it : Value) (IF A : Nat → Nat → Int32) (AL : Nat → Nat → Int64) (AD : Nat → Nat → UInt64) (uc us : Nat), c = nI (6 * q) → ε.1 ≤ 6 * q + 6 * m → 6 * q ≤ 6000 → uc + 7 * m ≤ 601024 → us + 42 * m ≤ 7293034 → gS IF A → zW ε true (d + 22) 232 28 [(0, .ref 2000), (1, .ref 0), (2, .ref 32), (3, .ref 51), (4, .ref 52), (5, .int c)] [] (zM o ot it IF A AL AD) uc us Q := by
  have fin : ∀ (c : Int32) (o ot it : Value) (IF A : Nat → Nat → Int32) (AL : Nat → Nat → Int64) (AD : Nat → Nat → UInt64) (uc us : Nat), zW ε true (d + 22) 232 2035 [(0, .ref 2000), (1, .ref 0), (2, .ref 32), (3, .ref 51), (4, .ref 52), (5, .int c)] [] (zM o ot it IF A AL AD) uc us Q := fun c o ot it IF A AL AD uc us => zrun 2 ⟨by decide, hQ _⟩
  have ti : ∀ q, 6 * q ≤ 6000 → ((nI ε.1 - nI 6 < nI (6 * q)) ↔ ε.1 < 6 * q + 6) := fun q hq => by
    rw [Int32.lt_iff_toInt_lt, pk_sub_toInt (by omega) (by omega), nI_toInt (by omega)]
    omega
  intro m
  induction m with
  | zero =>
    intro q c o ot it IF A AL AD uc us hc hm h6 hu hs hg
    subst hc
    refine zrun 6 ⟨fun _ => fin _ _ _ _ _ _ _ _ _ _, fun z => absurd ((ti q h6).mpr (by omega)) z⟩
  | succ m ih =>
    intro q c o ot it IF A AL AD uc us hc hm h6 hu hs hg
    subst hc
    refine zrun 6 ⟨fun _ => fin _ _ _ _ _ _ _ _ _ _, fun z => ?_⟩
    have hq : 6 * q + 6 ≤ ε.1 := by
      have w : ¬ (nI ε.1 - nI 6 < nI (6 * q)) := z
      rw [ti q h6] at w
      omega
    obtain ⟨L, p, pa, ex, ey, k, h⟩ := hg
    have next : lNx ε d Q q uc us := fun o ot it IF A AL AD uc2 us2 hg h1 h2 => zrun 2 (zloc [(0, _), (1, _), (2, _), (3, _), (4, _), (5, _)] rfl (ih (q + 1) _ o ot it IF A AL AD uc2 us2 ((nI_add (6 * q) 6).trans (congrArg nI (by omega))) (by omega) (by omega) (by omega) (by omega) hg))
    have hu2 : uc + 7 ≤ 601024 := by omega
    have hs2 : us + 42 ≤ 7293034 := by omega
    refine zrun 2 ?_
    refine zW_sald (n := 6 * q) rfl rfl rfl (by omega) hN ?_
    obtain ⟨j, hj, ej⟩ := pk_andE (ε.2 (6 * q)) (m := (Int8.ofInt 31).toInt32) 5 (by decide)
    have ex2 : (ε.2 (6 * q) &&& (Int8.ofInt 31).toInt32).toInt = (j : Int) := by
      rw [ej]
      exact nI_toInt (by omega)
    refine zrun 3 ⟨fun z => ?_, fun _ _ => ?_⟩
    · rw [ex2] at z
      omega
    · rw [ex2]
      match j, hj with
      | 0, _ => exact ⟨143, rfl, rfl, lw_append hN hq h hu2 hs2 next⟩
      | 1, _ => exact ⟨247, rfl, rfl, lw_truncate hN hq h hu2 hs2 next⟩
      | 2, _ => exact ⟨303, rfl, rfl, lw_load hN hq h hu2 hs2 next⟩
      | 3, _ => exact ⟨347, rfl, rfl, lw_errorCode hN hq h hu2 hs2 next⟩
      | 4, _ => exact ⟨360, rfl, rfl, lw_errorPosition hN hq h hu2 hs2 next⟩
      | 5, _ => exact ⟨373, rfl, rfl, lw_count hN hq h hu2 hs2 next⟩
      | 6, _ => exact ⟨429, rfl, rfl, lw_isSiding hN hq h hu2 hs2 next⟩
      | 7, _ => exact ⟨492, rfl, rfl, lw_train hN hq h hu2 hs2 next⟩
      | 8, _ => exact ⟨560, rfl, rfl, lw_order hN hq h hu2 hs2 next⟩
      | 9, _ => exact ⟨656, rfl, rfl, lw_planned hN hq h hu2 hs2 next⟩
      | 10, _ => exact ⟨752, rfl, rfl, lw_plan hN hq h hu2 hs2 next⟩
      | 11, _ => exact ⟨832, rfl, rfl, lw_setSupplement hN hq h hu2 hs2 next⟩
      | 12, _ => exact ⟨912, rfl, rfl, lw_supplement hN hq h hu2 hs2 next⟩
      | 13, _ => exact ⟨980, rfl, rfl, lw_buffer hN hq h hu2 hs2 next⟩
      | 14, _ => exact ⟨1048, rfl, rfl, lw_speed hN hq h hu2 hs2 next⟩
      | 15, _ => exact ⟨1125, rfl, rfl, lw_lastArrival hN hq h hu2 hs2 next⟩
      | 16, _ => exact ⟨1169, rfl, rfl, lw_disturb hN hq h hu2 hs2 next⟩
      | 17, _ => exact ⟨1277, rfl, rfl, lw_clear hN hq h hu2 hs2 next⟩
      | 18, _ => exact ⟨1290, rfl, rfl, lw_actual hN hq h hu2 hs2 next⟩
      | 19, _ => exact ⟨1386, rfl, rfl, lw_totalDelay hN hq h hu2 hs2 next⟩
      | 20, _ => exact ⟨1399, rfl, rfl, lw_lateTrains hN hq h hu2 hs2 next⟩
      | 21, _ => exact ⟨1412, rfl, rfl, lw_punctuality hN hq h hu2 hs2 next⟩
      | 22, _ => exact ⟨1489, rfl, rfl, lw_isKept hN hq h hu2 hs2 next⟩
      | 23, _ => exact ⟨1552, rfl, rfl, lw_missed hN hq h hu2 hs2 next⟩
      | 24, _ => exact ⟨1565, rfl, rfl, lw_cause hN hq h hu2 hs2 next⟩
      | 25, _ => exact ⟨1661, rfl, rfl, lw_recovery hN hq h hu2 hs2 next⟩
      | 26, _ => exact ⟨1674, rfl, rfl, lw_overtake hN hq h hu2 hs2 next⟩
      | 27, _ => exact ⟨1754, rfl, rfl, lw_bestOvertaking hN hq h hu2 hs2 next⟩
      | 28, _ => exact ⟨1767, rfl, rfl, lw_dispatch hN hq h hu2 hs2 next⟩
      | 29, _ => exact ⟨1780, rfl, rfl, lw_tolerance hN hq h hu2 hs2 next⟩
      | 30, _ => exact ⟨1848, rfl, rfl, lw_leastDelay hN hq h hu2 hs2 next⟩
      | 31, _ => exact ⟨1916, rfl, rfl, lw_distribute hN hq h hu2 hs2 next⟩
      | j + 32, hj => exact absurd hj (by omega)
end
