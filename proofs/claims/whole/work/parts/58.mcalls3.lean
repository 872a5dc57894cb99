/-! the reference: causes, recovery, disturbances, orders changed, speed, punctuality -/
section
variable {ε : Nat × (Nat → Int32)} {d : Nat} {Q : zQ} {o ot it : Value} {IF A : Nat → Nat → Int32} {AL : Nat → Nat → Int64} {AD : Nat → Nat → UInt64} {L p p' q : Nat → Nat} {ac : Bool}
theorem c_causeD (hV : mV L p p' A) {t s : Nat} {x z : Int32} (hx : x = nI t) (hz : z = nI s) (ht : t < L 1) (hs : s < L 0 - 1) (hq : Q (.inl (some (.int (mcD A L p' t s)))) (zMm true IF A AL AD)) : zW ε false (d + 3) 197 0 [(0, .ref 32), (1, .int x), (2, .int z)] [] (zMm true IF A AL AD) 0 0 Q := by
  have hB := hV.2.2.1
  have hl0 : tr L t 0 < 2 ^ 31 := Nat.lt_trans (hV.2.1 (20 + 5 * t + 0) (by omega)) (by decide)
  subst hx
  subst hz
  unfold mcD at hq
  by_cases g0 : s = tr L t 0
  · refine zrun 5 ⟨⟨Nat.le_of_ble_eq_true rfl, Nat.le_of_ble_eq_true rfl, rfl⟩, ?_⟩
    refine c_ix rfl rfl ⟨rfl, ?_⟩
    refine zW_iald (n := 8 * t + s) rfl rfl rfl (by omega) (by decide) ?_
    refine zrun 5 (zloc [(0, _), (1, _), (2, _), (3, _)] rfl ?_)
    refine zrun 1 ⟨⟨Nat.le_of_ble_eq_true rfl, Nat.le_of_ble_eq_true rfl, rfl⟩, ?_⟩
    refine c_mof (w := 0) hV.1.1 rfl rfl (by omega) ⟨rfl, ?_⟩
    refine zrun 1 (zb_ne rfl rfl (by omega) hl0 (fun z => absurd g0 z) (fun _ => ?_))
    refine zrun 8 (zloc [(0, _), (1, _), (2, _), (3, _), (4, _)] rfl ?_)
    refine zrun 1 ⟨⟨Nat.le_of_ble_eq_true rfl, Nat.le_of_ble_eq_true rfl, rfl⟩, ?_⟩
    refine c_ix rfl rfl ⟨rfl, ?_⟩
    refine zW_iald (n := 8 * t + s) rfl rfl rfl (by omega) (by decide) ?_
    refine zrun 1 ⟨(fun g1 => ?_), (fun g1 => ?_)⟩
    · rw [if_neg (show ¬ A 44 (8 * t + s) = A 42 (8 * t + s) from g1)] at hq
      rw [if_pos g0] at hq
      refine zrun 3 (zb_f (b := true) rfl (fun q => Bool.noConfusion q) (fun _ => ?_))
      refine zrun 5 ⟨⟨Nat.le_of_ble_eq_true rfl, Nat.le_of_ble_eq_true rfl, rfl⟩, ?_⟩
      refine c_ix rfl rfl ⟨rfl, ?_⟩
      refine zW_iald (n := 8 * t + s) rfl rfl rfl (by omega) (by decide) ?_
      refine zrun 6 ⟨⟨Nat.le_of_ble_eq_true rfl, Nat.le_of_ble_eq_true rfl, rfl⟩, ?_⟩
      refine c_ix rfl rfl ⟨rfl, ?_⟩
      refine zW_iald (n := 8 * t + s) rfl rfl rfl (by omega) (by decide) ?_
      refine zrun 2 ⟨(fun g2 => ?_), (fun g2 => ?_)⟩
      · rw [if_neg (show ¬ A 44 (8 * t + s) = (A 42 (8 * t + s)) + A 39 (8 * t + s) from g2)] at hq
        have h8 := hV.2.2.2.2.1 s hs
        have ho := fun w => gB8 (t := t) (v := w) h8
        have hBf := fun q => c_before (ac := true) (ε := ε) (d := d) (Q := q) (IF := IF) (AL := AL) (AD := AD) hV.1.1 hV.2.1 hV.1.2.2 (x := nI s) (z := nI t) rfl rfl (show s < 7 by omega) (show t < 8 by omega) hB.2.2.1 h8
        generalize gB L p' s t = w at hBf ho hq
        cases w with
        | none =>
          refine zrun 4 ⟨⟨Nat.le_of_ble_eq_true rfl, Nat.le_of_ble_eq_true rfl, rfl⟩, ?_⟩
          refine hBf _ ⟨rfl, ?_⟩
          refine zrun 3 (zloc [(0, _), (1, _), (2, _), (3, _), (4, _), (5, _)] rfl ?_)
          refine zrun 1 ⟨(fun _ => ?_), (fun g => absurd rfl g)⟩
          exact zrun 2 (hq)
        | some w =>
          have hw8 := ho w rfl
          refine zrun 4 ⟨⟨Nat.le_of_ble_eq_true rfl, Nat.le_of_ble_eq_true rfl, rfl⟩, ?_⟩
          refine hBf _ ⟨rfl, ?_⟩
          refine zrun 3 (zloc [(0, _), (1, _), (2, _), (3, _), (4, _), (5, _)] rfl ?_)
          refine zrun 1 ⟨(fun g => absurd g (zne1 (by omega))), (fun _ => ?_)⟩
          refine zrun 6 ⟨⟨Nat.le_of_ble_eq_true rfl, Nat.le_of_ble_eq_true rfl, rfl⟩, ?_⟩
          refine c_ix rfl rfl ⟨rfl, ?_⟩
          refine zW_iald (n := 8 * w + s) rfl rfl rfl (by omega) (by decide) ?_
          refine zrun 3 ?_
          refine zW_ildv (n := 3) rfl rfl rfl (by decide) (by decide) (lf_at hV.1.1 3) ?_
          refine zrun 2 ⟨(fun g3 => ?_), (fun g3 => ?_)⟩
          · exact zrun 2 (by have hq : Q (.inl (some (.int (if A 44 (8 * t + s) = A 44 (8 * w + s) + nI (L 3) then 2 else 4)))) _ := hq; rw [if_neg (show ¬ A 44 (8 * t + s) = A 44 (8 * w + s) + nI (L 3) from g3)] at hq; exact hq)
          · exact zrun 3 (by have hq : Q (.inl (some (.int (if A 44 (8 * t + s) = A 44 (8 * w + s) + nI (L 3) then 2 else 4)))) _ := hq; rw [if_pos (show A 44 (8 * t + s) = A 44 (8 * w + s) + nI (L 3) from g3)] at hq; exact hq)
      · exact zrun 2 (by rw [if_pos (show A 44 (8 * t + s) = (A 42 (8 * t + s)) + A 39 (8 * t + s) from g2)] at hq; exact hq)
    · exact zrun 2 (by rw [if_pos (show A 44 (8 * t + s) = A 42 (8 * t + s) from g1)] at hq; exact hq)
  · refine zrun 5 ⟨⟨Nat.le_of_ble_eq_true rfl, Nat.le_of_ble_eq_true rfl, rfl⟩, ?_⟩
    refine c_ix rfl rfl ⟨rfl, ?_⟩
    refine zW_iald (n := 8 * t + s) rfl rfl rfl (by omega) (by decide) ?_
    refine zrun 5 (zloc [(0, _), (1, _), (2, _), (3, _)] rfl ?_)
    refine zrun 1 ⟨⟨Nat.le_of_ble_eq_true rfl, Nat.le_of_ble_eq_true rfl, rfl⟩, ?_⟩
    refine c_mof (w := 0) hV.1.1 rfl rfl (by omega) ⟨rfl, ?_⟩
    refine zrun 1 (zb_ne rfl rfl (by omega) hl0 (fun _ => ?_) (fun z => absurd z g0))
    refine zrun 7 (zloc [(0, _), (1, _), (2, _), (3, _), (4, _)] rfl ?_)
    refine zrun 1 ⟨⟨Nat.le_of_ble_eq_true rfl, Nat.le_of_ble_eq_true rfl, rfl⟩, ?_⟩
    refine c_ix rfl rfl ⟨rfl, ?_⟩
    refine zW_iald (n := 8 * t + s) rfl rfl rfl (by omega) (by decide) ?_
    refine zrun 1 ⟨(fun g1 => ?_), (fun g1 => ?_)⟩
    · rw [if_neg (show ¬ A 44 (8 * t + s) = A 42 (8 * t + s) from g1)] at hq
      rw [if_neg g0] at hq
      refine zrun 3 (zb_f (b := false) rfl (fun _ => ?_) (fun q => Bool.noConfusion q))
      refine zrun 5 ⟨⟨Nat.le_of_ble_eq_true rfl, Nat.le_of_ble_eq_true rfl, rfl⟩, ?_⟩
      refine c_ix rfl rfl ⟨rfl, ?_⟩
      refine zW_iald (n := 8 * t + s) rfl rfl rfl (by omega) (by decide) ?_
      refine zrun 4 ⟨⟨Nat.le_of_ble_eq_true rfl, Nat.le_of_ble_eq_true rfl, rfl⟩, ?_⟩
      refine c_mof (w := 4) hV.1.1 rfl rfl (by omega) ⟨rfl, ?_⟩
      refine zrun 6 ⟨⟨Nat.le_of_ble_eq_true rfl, Nat.le_of_ble_eq_true rfl, rfl⟩, ?_⟩
      refine c_ix rfl rfl ⟨rfl, ?_⟩
      refine zW_iald (n := 8 * t + s) rfl rfl rfl (by omega) (by decide) ?_
      refine zrun 2 ⟨(fun g2 => ?_), (fun g2 => ?_)⟩
      · rw [if_neg (show ¬ A 44 (8 * t + s) = (A 45 (8 * t + s) + nI (tr L t 4)) + A 39 (8 * t + s) from g2)] at hq
        have h8 := hV.2.2.2.2.1 s hs
        have ho := fun w => gB8 (t := t) (v := w) h8
        have hBf := fun q => c_before (ac := true) (ε := ε) (d := d) (Q := q) (IF := IF) (AL := AL) (AD := AD) hV.1.1 hV.2.1 hV.1.2.2 (x := nI s) (z := nI t) rfl rfl (show s < 7 by omega) (show t < 8 by omega) hB.2.2.1 h8
        generalize gB L p' s t = w at hBf ho hq
        cases w with
        | none =>
          refine zrun 4 ⟨⟨Nat.le_of_ble_eq_true rfl, Nat.le_of_ble_eq_true rfl, rfl⟩, ?_⟩
          refine hBf _ ⟨rfl, ?_⟩
          refine zrun 3 (zloc [(0, _), (1, _), (2, _), (3, _), (4, _), (5, _)] rfl ?_)
          refine zrun 1 ⟨(fun _ => ?_), (fun g => absurd rfl g)⟩
          exact zrun 2 (hq)
        | some w =>
          have hw8 := ho w rfl
          refine zrun 4 ⟨⟨Nat.le_of_ble_eq_true rfl, Nat.le_of_ble_eq_true rfl, rfl⟩, ?_⟩
          refine hBf _ ⟨rfl, ?_⟩
          refine zrun 3 (zloc [(0, _), (1, _), (2, _), (3, _), (4, _), (5, _)] rfl ?_)
          refine zrun 1 ⟨(fun g => absurd g (zne1 (by omega))), (fun _ => ?_)⟩
          refine zrun 6 ⟨⟨Nat.le_of_ble_eq_true rfl, Nat.le_of_ble_eq_true rfl, rfl⟩, ?_⟩
          refine c_ix rfl rfl ⟨rfl, ?_⟩
          refine zW_iald (n := 8 * w + s) rfl rfl rfl (by omega) (by decide) ?_
          refine zrun 3 ?_
          refine zW_ildv (n := 3) rfl rfl rfl (by decide) (by decide) (lf_at hV.1.1 3) ?_
          refine zrun 2 ⟨(fun g3 => ?_), (fun g3 => ?_)⟩
          · exact zrun 2 (by have hq : Q (.inl (some (.int (if A 44 (8 * t + s) = A 44 (8 * w + s) + nI (L 3) then 2 else 4)))) _ := hq; rw [if_neg (show ¬ A 44 (8 * t + s) = A 44 (8 * w + s) + nI (L 3) from g3)] at hq; exact hq)
          · exact zrun 3 (by have hq : Q (.inl (some (.int (if A 44 (8 * t + s) = A 44 (8 * w + s) + nI (L 3) then 2 else 4)))) _ := hq; rw [if_pos (show A 44 (8 * t + s) = A 44 (8 * w + s) + nI (L 3) from g3)] at hq; exact hq)
      · exact zrun 2 (by rw [if_pos (show A 44 (8 * t + s) = (A 45 (8 * t + s) + nI (tr L t 4)) + A 39 (8 * t + s) from g2)] at hq; exact hq)
    · exact zrun 2 (by rw [if_pos (show A 44 (8 * t + s) = A 42 (8 * t + s) from g1)] at hq; exact hq)
theorem c_mcause (hV : mV L p p' A) {x z w : Int32} {b : Bool} (hw : w = zbo b) (hn : ∀ t s, t < L 1 → s < L 0 → x = nI t → z = nI s → b = true → gA L t s = true → ¬ mLw L p p' A 45 (8 * t + s) = mLw L p p' A 43 (8 * t + s) → ¬ mLw L p p' A 45 (8 * t + s) = mLw L p p' A 44 (8 * t + (s - 1)) + nI (L (13 + (s - 1)) * tr L t 3) + mLw L p p' A 40 (8 * t + s) → ¬ gB L p' (s - 1) t = none) (h1 : ∀ t s, t < L 1 → s < L 0 → x = nI t → z = nI s → gE L t s b = true → Q (.inl (some (.int (cond b (mcA (mLw L p p' A) L p' t s) (mcD (mLw L p p' A) L p' t s))))) (zMm true (yU 32 27 1 (yU 32 0 0 IF)) (mLw L p p' A) AL AD)) (h2 : ¬ zIn (L 1) x ∨ ¬ zIn (L 0) z → Q (.inl (some (.int 0))) (zM o ot it (yU 32 0 1 IF) A AL AD)) (h3 : ∀ t s, t < L 1 → s < L 0 → x = nI t → z = nI s → gE L t s b = false → Q (.inl (some (.int 0))) (zM o ot it (yU 32 0 2 IF) A AL AD)) : zW ε false (d + 7) 198 0 [(0, .ref 32), (1, .int x), (2, .int z), (3, .int w)] [] (zM o ot it IF A AL AD) 0 0 Q := by
  refine zrun 7 ⟨⟨Nat.le_of_ble_eq_true rfl, Nat.le_of_ble_eq_true rfl, rfl⟩, ?_⟩
  refine c_isTrain (IF := yU 32 0 0 IF) hV (fun v hv => ⟨rfl, ?_⟩)
  refine zrun 1 (zb_f rfl (fun g1 => ?_) (fun g1 => ?_))
  · refine zrun 3 ⟨⟨Nat.le_of_ble_eq_true rfl, Nat.le_of_ble_eq_true rfl, rfl⟩, ?_⟩
    refine c_may0 (IF := IF) (b := false) (by decide) rfl (fun q => Bool.noConfusion q) (fun _ => ⟨rfl, ?_⟩)
    refine zrun 1 (zb_f (b := false) rfl (fun _ => ?_) (fun q => Bool.noConfusion q))
    exact zrun 2 (h2 (Or.inl (fun q => by rw [hv.mpr q] at g1; exact Bool.noConfusion g1)))
  · refine zrun 3 ⟨⟨Nat.le_of_ble_eq_true rfl, Nat.le_of_ble_eq_true rfl, rfl⟩, ?_⟩
    refine c_isStation (IF := yU 32 0 0 IF) hV (fun v2 hv2 => ⟨rfl, ?_⟩)
    refine zrun 1 (zb_f rfl (fun g2 => ?_) (fun g2 => ?_))
    · refine zrun 3 ⟨⟨Nat.le_of_ble_eq_true rfl, Nat.le_of_ble_eq_true rfl, rfl⟩, ?_⟩
      refine c_may0 (IF := IF) (b := false) (by decide) rfl (fun q => Bool.noConfusion q) (fun _ => ⟨rfl, ?_⟩)
      refine zrun 1 (zb_f (b := false) rfl (fun _ => ?_) (fun q => Bool.noConfusion q))
      exact zrun 2 (h2 (Or.inr (fun q => by rw [hv2.mpr q] at g2; exact Bool.noConfusion g2)))
    · refine zrun 4 ⟨⟨Nat.le_of_ble_eq_true rfl, Nat.le_of_ble_eq_true rfl, rfl⟩, ?_⟩
      refine c_may0 (IF := IF) (b := true) (by decide) rfl (fun _ => ⟨rfl, ?_⟩) (fun q => Bool.noConfusion q)
      refine zrun 1 (zb_f (b := true) rfl (fun q => Bool.noConfusion q) (fun _ => ?_))
      obtain ⟨t, ht, rfl⟩ := hv.mp g1
      obtain ⟨s, hs, rfl⟩ := hv2.mp g2
      have hB := hV.2.2.1
      refine zrun 6 ⟨⟨Nat.le_of_ble_eq_true rfl, Nat.le_of_ble_eq_true rfl, rfl⟩, ?_⟩
      refine c_isEvent (IF := yU 32 0 0 IF) hV rfl rfl hw (by omega) (by omega) ⟨rfl, ?_⟩
      refine zrun 2 ⟨⟨Nat.le_of_ble_eq_true rfl, Nat.le_of_ble_eq_true rfl, rfl⟩, ?_⟩
      refine c_may0 (IF := IF) (by decide) rfl (fun b3 => ⟨rfl, ?_⟩) (fun b3 => ⟨rfl, ?_⟩)
      · refine zrun 1 (zb_t (b := true) rfl (fun _ => ?_) (fun q => Bool.noConfusion q))
        refine zrun 2 ⟨⟨Nat.le_of_ble_eq_true rfl, Nat.le_of_ble_eq_true rfl, rfl⟩, ?_⟩
        refine c_laysActual (IF := yU 32 0 0 IF) hV ⟨rfl, ?_⟩
        refine zrun 2 (zb_f hw (fun g3 => ?_) (fun g3 => ?_))
        · subst g3
          have gd := gD_iff.mp (show gD L t s = true from b3)
          have hT := hV.2.2.2.2.2.2 t ht
          refine zrun 4 ⟨⟨Nat.le_of_ble_eq_true rfl, Nat.le_of_ble_eq_true rfl, rfl⟩, ?_⟩
          refine c_causeD (d := d + 3) (mV_lw hV) rfl rfl ht (by omega) ⟨rfl, ?_⟩
          exact zrun 1 (h1 t s ht hs rfl rfl b3)
        · subst g3
          have ga := gA_iff.mp (show gA L t s = true from b3)
          refine zrun 4 ⟨⟨Nat.le_of_ble_eq_true rfl, Nat.le_of_ble_eq_true rfl, rfl⟩, ?_⟩
          refine c_causeA (d := d + 3) (mV_lw hV) rfl rfl ht (by omega) hs (hn t s ht hs rfl rfl rfl b3) ⟨rfl, ?_⟩
          exact zrun 2 (h1 t s ht hs rfl rfl b3)
      · refine zrun 1 (zb_t (b := false) rfl (fun q => Bool.noConfusion q) (fun _ => ?_))
        exact zrun 2 (h3 t s ht hs rfl rfl b3)
theorem mrc1_t {t s : Nat} {v : Int32} (h : gA L t s = true) (h2 : ¬ A 45 (8 * t + s) - A 43 (8 * t + s) ≤ 0) : mrc1 A L t s v = zmx v (A 45 (8 * t + s) + 1) := if_pos ⟨h, h2⟩
theorem mrc1_f {t s : Nat} {v : Int32} (h : ¬ (gA L t s = true ∧ ¬ A 45 (8 * t + s) - A 43 (8 * t + s) ≤ 0)) : mrc1 A L t s v = v := if_neg h
theorem mrc2_t {t s : Nat} {v : Int32} (h : gD L t s = true) (h2 : ¬ A 44 (8 * t + s) ≤ A 42 (8 * t + s)) : mrc2 A L t s v = zmx v (A 44 (8 * t + s) + 1) := if_pos ⟨h, h2⟩
theorem mrc2_f {t s : Nat} {v : Int32} (h : ¬ (gD L t s = true ∧ ¬ A 44 (8 * t + s) ≤ A 42 (8 * t + s))) : mrc2 A L t s v = v := if_neg h
theorem cl_mrc (hV : mV L p p' A) {t : Nat} (ht : t < L 1) : ∀ (n i : Nat) (v : Int32) (c : Int32), i + n = L 0 → c = nI i → zW ε false (d + 2) 199 125 [(0, .ref 32), (1, .int (mrc A L t n i v)), (2, .int (nI t))] [] (zM o ot it IF A AL AD) 0 0 Q → zW ε false (d + 2) 199 25 [(0, .ref 32), (1, .int v), (2, .int (nI t)), (3, .int c)] [] (zM o ot it IF A AL AD) 0 0 Q := by
  have hB := hV.2.2.1
  intro n
  induction n with
  | zero =>
    intro i v c hi hc hq
    refine zrun 4 ?_
    refine zW_ildv (n := 0) rfl rfl rfl (by decide) (by decide) (lf_at hV.1.1 0) ?_
    refine zrun 1 (zb_ge hc rfl (by omega) (by omega) (fun _ => ?_) (fun q => absurd q (by omega)))
    exact zfg [0, 1, 2] (zloc [(0, _), (1, _), (2, _)] rfl (hq))
  | succ n ih =>
    intro i v c hi hc hq
    subst hc
    have half : ∀ u : Int32, u = mrc1 A L t i v → zW ε false (d + 2) 199 70 [(0, .ref 32), (1, .int u), (2, .int (nI t)), (3, .int (nI i))] [] (zM o ot it IF A AL AD) 0 0 Q := by
      intro u hu
      have next : ∀ u2 : Int32, u2 = mrc2 A L t i u → zW ε false (d + 2) 199 25 [(0, .ref 32), (1, .int u2), (2, .int (nI t)), (3, .int (nI i + 1))] [] (zM o ot it IF A AL AD) 0 0 Q := fun u2 h2 => ih (i + 1) u2 (nI i + 1) (by omega) (nI_1 i) (by rw [h2, hu]; exact hq)
      refine zrun 4 ⟨⟨Nat.le_of_ble_eq_true rfl, Nat.le_of_ble_eq_true rfl, rfl⟩, ?_⟩
      refine c_mdep hV.1.1 hV.2.1 rfl rfl (by omega) (by omega) ⟨rfl, ?_⟩
      refine zrun 1 (zb_f rfl (fun g1 => ?_) (fun g1 => ?_))
      · exact zrun 2 (zloc [(0, _), (1, _), (2, _), (3, _)] rfl (next _ (mrc2_f (fun z => by rw [z.1] at g1; exact Bool.noConfusion g1)).symm))
      · refine zrun 5 ⟨⟨Nat.le_of_ble_eq_true rfl, Nat.le_of_ble_eq_true rfl, rfl⟩, ?_⟩
        refine c_ix rfl rfl ⟨rfl, ?_⟩
        refine zW_iald (n := 8 * t + i) rfl rfl rfl (by omega) (by decide) ?_
        refine zrun 5 ⟨⟨Nat.le_of_ble_eq_true rfl, Nat.le_of_ble_eq_true rfl, rfl⟩, ?_⟩
        refine c_ix rfl rfl ⟨rfl, ?_⟩
        refine zW_iald (n := 8 * t + i) rfl rfl rfl (by omega) (by decide) ?_
        refine zrun 1 ⟨(fun g2 => ?_), (fun g2 => ?_)⟩
        · exact zrun 2 (zloc [(0, _), (1, _), (2, _), (3, _)] rfl (next _ (mrc2_f (fun z => z.2 g2)).symm))
        · refine zrun 6 ⟨⟨Nat.le_of_ble_eq_true rfl, Nat.le_of_ble_eq_true rfl, rfl⟩, ?_⟩
          refine c_ix rfl rfl ⟨rfl, ?_⟩
          refine zW_iald (n := 8 * t + i) rfl rfl rfl (by omega) (by decide) ?_
          refine zrun 3 ⟨⟨Nat.le_of_ble_eq_true rfl, Nat.le_of_ble_eq_true rfl, rfl⟩, ?_⟩
          refine c_greater ⟨rfl, ?_⟩
          exact zrun 3 (zloc [(0, _), (1, _), (2, _), (3, _)] rfl (next _ (mrc2_t g1 g2).symm))
    refine zrun 4 ?_
    refine zW_ildv (n := 0) rfl rfl rfl (by decide) (by decide) (lf_at hV.1.1 0) ?_
    refine zrun 1 (zb_ge rfl rfl (by omega) (by omega) (fun q => absurd q (by omega)) (fun _ => ?_))
    refine zrun 4 ⟨⟨Nat.le_of_ble_eq_true rfl, Nat.le_of_ble_eq_true rfl, rfl⟩, ?_⟩
    refine c_marr hV.1.1 hV.2.1 rfl rfl (by omega) (by omega) ⟨rfl, ?_⟩
    refine zrun 1 (zb_f rfl (fun g1 => ?_) (fun g1 => ?_))
    · exact half _ (mrc1_f (fun z => by rw [z.1] at g1; exact Bool.noConfusion g1)).symm
    · refine zrun 4 ⟨⟨Nat.le_of_ble_eq_true rfl, Nat.le_of_ble_eq_true rfl, rfl⟩, ?_⟩
      refine c_lateAt rfl rfl (by omega) (by omega) ⟨rfl, ?_⟩
      refine zrun 1 ⟨(fun g2 => ?_), (fun g2 => ?_)⟩
      · exact half _ (mrc1_f (fun z => z.2 g2)).symm
      · refine zrun 6 ⟨⟨Nat.le_of_ble_eq_true rfl, Nat.le_of_ble_eq_true rfl, rfl⟩, ?_⟩
        refine c_ix rfl rfl ⟨rfl, ?_⟩
        refine zW_iald (n := 8 * t + i) rfl rfl rfl (by omega) (by decide) ?_
        refine zrun 3 ⟨⟨Nat.le_of_ble_eq_true rfl, Nat.le_of_ble_eq_true rfl, rfl⟩, ?_⟩
        refine c_greater ⟨rfl, ?_⟩
        exact zrun 1 (zloc [(0, _), (1, _), (2, _), (3, _)] rfl (half _ (mrc1_t g1 g2).symm))
theorem cl_mrcs (hV : mV L p p' A) : ∀ (n i : Nat) (v : Int32) (c : Int32), i + n = L 1 → c = nI i → Q (.inl (some (.int (mrcs A L n i v)))) (zM o ot it IF A AL AD) → zW ε false (d + 2) 199 13 [(0, .ref 32), (1, .int v), (2, .int c)] [] (zM o ot it IF A AL AD) 0 0 Q := by
  have hB := hV.2.2.1
  intro n
  induction n with
  | zero =>
    intro i v c hi hc hq
    refine zrun 4 ?_
    refine zW_ildv (n := 1) rfl rfl rfl (by decide) (by decide) (lf_at hV.1.1 1) ?_
    refine zrun 1 (zb_ge hc rfl (by omega) (by omega) (fun _ => ?_) (fun q => absurd q (by omega)))
    exact zrun 2 (hq)
  | succ n ih =>
    intro i v c hi hc hq
    subst hc
    refine zrun 4 ?_
    refine zW_ildv (n := 1) rfl rfl rfl (by decide) (by decide) (lf_at hV.1.1 1) ?_
    refine zrun 1 (zb_ge rfl rfl (by omega) (by omega) (fun q => absurd q (by omega)) (fun _ => ?_))
    exact zrun 2 (zloc [(0, _), (1, _), (2, _), (3, _)] rfl (cl_mrc hV (by omega) (L 0) 0 v 0 (by omega) nI_0.symm (zrun 2 (zloc [(0, _), (1, _), (2, _)] rfl (ih (i + 1) _ (nI i + 1) (by omega) (nI_1 i) hq)))))
theorem c_mrecovery (hV : mV L p p' A) (hq : Q (.inl (some (.int (mrcs (mLw L p p' A) L (L 1) 0 0)))) (zMm true (yU 32 27 1 (yU 32 0 0 IF)) (mLw L p p' A) AL AD)) : zW ε false (d + 7) 199 0 [(0, .ref 32)] [] (zM o ot it IF A AL AD) 0 0 Q := by
  refine zrun 5 ⟨⟨Nat.le_of_ble_eq_true rfl, Nat.le_of_ble_eq_true rfl, rfl⟩, ?_⟩
  refine c_laysActual (IF := yU 32 0 0 IF) hV ⟨rfl, ?_⟩
  exact zrun 4 (zloc [(0, _), (1, _), (2, _)] rfl (cl_mrcs (d := d + 5) (mV_lw hV) (L 1) 0 0 0 (by omega) nI_0.symm hq))
def mPl (L p : Nat → Nat) (s a c : Nat) (A : Nat → Nat → Int32) : Nat → Nat → Int32 := va_up (va_up A 36 (lf (gC2 (L 1) a c (L 0 - 1 - s) s p))) 37 (cp 56 (lf (gC2 (L 1) a c (L 0 - 1 - s) s p)) (A 37))
theorem c_mplan (hV : mV L p p' A) {x z w : Int32} (hsur : ∀ a, a < L 1 → ∀ g, g < L 0 - 1 → ∃ j, j < L 1 ∧ p (8 * g + j) = a) {p1 : Nat → Nat → Nat → Nat → Nat} (hW : ∀ s a c, s < L 0 - 1 → a < L 1 → c < L 1 → (decide (¬ L (5 + s) = 0) && gMo p (L 1) a c (L 0 - 1 - s) s) = true → mV L (gC2 (L 1) a c (L 0 - 1 - s) s p) (p1 s a c) (mPl L p s a c A)) (h1 : ∀ s a c, s < L 0 - 1 → a < L 1 → c < L 1 → x = nI s → z = nI a → w = nI c → (decide (¬ L (5 + s) = 0) && gMo p (L 1) a c (L 0 - 1 - s) s) = true → Q (.inl (some (.int (mLy false L (gC2 (L 1) a c (L 0 - 1 - s) s p) (L 0) 0 (mPl L p s a c A) 43 (8 * c + tr L c 1))))) (zMm false (yU 32 27 0 (yU 32 0 0 IF)) (mLy false L (gC2 (L 1) a c (L 0 - 1 - s) s p) (L 0) 0 (mPl L p s a c A)) AL AD)) (h2 : ¬ (zIn (L 0 - 1) x ∧ zIn (L 1) z ∧ zIn (L 1) w) → Q (.inl (some (.int 0))) (zM o ot it (yU 32 0 1 IF) A AL AD)) (h3 : ∀ s a c, s < L 0 - 1 → a < L 1 → c < L 1 → x = nI s → z = nI a → w = nI c → (decide (¬ L (5 + s) = 0) && gMo p (L 1) a c (L 0 - 1 - s) s) = false → Q (.inl (some (.int 0))) (zM o ot it (yU 32 0 2 IF) A AL AD)) : zW ε false (d + 6) 180 0 [(0, .ref 32), (1, .int x), (2, .int z), (3, .int w)] [] (zM o ot it IF A AL AD) 0 0 Q := by
  have hWL := fun s a c hs ha hc b => (mV_ly (ac := false) (q := (gC2 (L 1) a c (L 0 - 1 - s) s p)) (n := L 0) (s := 0) (hW s a c hs ha hc b)).1.1
  refine zrun 7 ⟨⟨Nat.le_of_ble_eq_true rfl, Nat.le_of_ble_eq_true rfl, rfl⟩, ?_⟩
  refine c_isSegment (IF := yU 32 0 0 IF) hV (fun v hv => ⟨rfl, ?_⟩)
  refine zrun 1 (zb_f rfl (fun g1 => ?_) (fun g1 => ?_))
  · refine zrun 3 ⟨⟨Nat.le_of_ble_eq_true rfl, Nat.le_of_ble_eq_true rfl, rfl⟩, ?_⟩
    refine c_may0 (IF := IF) (b := false) (by decide) rfl (fun q => Bool.noConfusion q) (fun _ => ⟨rfl, ?_⟩)
    refine zrun 1 (zb_f (b := false) rfl (fun _ => ?_) (fun q => Bool.noConfusion q))
    exact zrun 2 (h2 (fun q => by rw [hv.mpr q.1] at g1; exact Bool.noConfusion g1))
  · refine zrun 3 ⟨⟨Nat.le_of_ble_eq_true rfl, Nat.le_of_ble_eq_true rfl, rfl⟩, ?_⟩
    refine c_isTrain (IF := yU 32 0 0 IF) hV (fun v2 hv2 => ⟨rfl, ?_⟩)
    refine zrun 1 (zb_f rfl (fun g2 => ?_) (fun g2 => ?_))
    · refine zrun 3 ⟨⟨Nat.le_of_ble_eq_true rfl, Nat.le_of_ble_eq_true rfl, rfl⟩, ?_⟩
      refine c_may0 (IF := IF) (b := false) (by decide) rfl (fun q => Bool.noConfusion q) (fun _ => ⟨rfl, ?_⟩)
      refine zrun 1 (zb_f (b := false) rfl (fun _ => ?_) (fun q => Bool.noConfusion q))
      exact zrun 2 (h2 (fun q => by rw [hv2.mpr q.2.1] at g2; exact Bool.noConfusion g2))
    · refine zrun 3 ⟨⟨Nat.le_of_ble_eq_true rfl, Nat.le_of_ble_eq_true rfl, rfl⟩, ?_⟩
      refine c_isTrain (IF := yU 32 0 0 IF) hV (fun v3 hv3 => ⟨rfl, ?_⟩)
      refine zrun 1 (zb_f rfl (fun g3 => ?_) (fun g3 => ?_))
      · refine zrun 3 ⟨⟨Nat.le_of_ble_eq_true rfl, Nat.le_of_ble_eq_true rfl, rfl⟩, ?_⟩
        refine c_may0 (IF := IF) (b := false) (by decide) rfl (fun q => Bool.noConfusion q) (fun _ => ⟨rfl, ?_⟩)
        refine zrun 1 (zb_f (b := false) rfl (fun _ => ?_) (fun q => Bool.noConfusion q))
        exact zrun 2 (h2 (fun q => by rw [hv3.mpr q.2.2] at g3; exact Bool.noConfusion g3))
      · refine zrun 4 ⟨⟨Nat.le_of_ble_eq_true rfl, Nat.le_of_ble_eq_true rfl, rfl⟩, ?_⟩
        refine c_may0 (IF := IF) (b := true) (by decide) rfl (fun _ => ⟨rfl, ?_⟩) (fun q => Bool.noConfusion q)
        refine zrun 1 (zb_f (b := true) rfl (fun q => Bool.noConfusion q) (fun _ => ?_))
        obtain ⟨s, hs, rfl⟩ := hv.mp g1
        obtain ⟨a, ha, rfl⟩ := hv2.mp g2
        obtain ⟨c, hc, rfl⟩ := hv3.mp g3
        have hB := hV.2.2.1
        refine zrun 8 ⟨⟨Nat.le_of_ble_eq_true rfl, Nat.le_of_ble_eq_true rfl, rfl⟩, ?_⟩
        refine c_mayOvertake (ac := false) (IF := yU 32 0 0 IF) hV hV.1.2.1 rfl rfl rfl hs hV.2.2.2.1 (by omega) (by omega) (hsur a ha) ⟨rfl, ?_⟩
        refine zrun 2 ⟨⟨Nat.le_of_ble_eq_true rfl, Nat.le_of_ble_eq_true rfl, rfl⟩, ?_⟩
        refine c_may0 (IF := IF) (by decide) rfl (fun b => ⟨rfl, ?_⟩) (fun b => ⟨rfl, ?_⟩)
        · refine zrun 1 (zb_t (b := true) rfl (fun _ => ?_) (fun q => Bool.noConfusion q))
          refine zrun 7 ⟨⟨Nat.le_of_ble_eq_true rfl, Nat.le_of_ble_eq_true rfl, rfl⟩, ?_⟩
          refine c_change (ac := false) (IF := yU 32 0 0 IF) hV hV.1.2.1 rfl rfl rfl hs hV.2.2.2.1 (by omega) (by omega) ⟨rfl, ?_⟩
          refine zrun 2 ⟨⟨Nat.le_of_ble_eq_true rfl, Nat.le_of_ble_eq_true rfl, rfl⟩, ?_⟩
          refine c_asPlanned (A := va_up A 36 (lf (gC2 (L 1) a c (L 0 - 1 - s) s p))) (IF := yU 32 0 0 IF) ⟨rfl, ?_⟩
          refine zrun 2 ⟨⟨Nat.le_of_ble_eq_true rfl, Nat.le_of_ble_eq_true rfl, rfl⟩, ?_⟩
          refine c_laysPlan (A := mPl L p s a c A) (IF := yU 32 0 0 IF) (hW s a c hs ha hc b) ⟨rfl, ?_⟩
          refine zrun 7 ⟨⟨Nat.le_of_ble_eq_true rfl, Nat.le_of_ble_eq_true rfl, rfl⟩, ?_⟩
          refine c_mof (w := 1) (hWL s a c hs ha hc b) rfl rfl (by omega) ⟨rfl, ?_⟩
          refine zrun 1 ⟨⟨Nat.le_of_ble_eq_true rfl, Nat.le_of_ble_eq_true rfl, rfl⟩, ?_⟩
          refine c_ix rfl rfl ⟨rfl, ?_⟩
          refine zW_iald (n := 8 * c + tr L c 1) rfl rfl rfl (by have := hV.2.2.2.2.2.2 c hc; omega) (by decide) ?_
          exact zrun 1 (h1 s a c hs ha hc rfl rfl rfl b)
        · refine zrun 1 (zb_t (b := false) rfl (fun q => Bool.noConfusion q) (fun _ => ?_))
          exact zrun 2 (h3 s a c hs ha hc rfl rfl rfl b)
theorem c_movertake (hV : mV L p p' A) {x z w : Int32} (hsur : ∀ a, a < L 1 → ∀ g, g < L 0 - 1 → ∃ j, j < L 1 ∧ p' (8 * g + j) = a) (hW : ∀ s a c, s < L 0 - 1 → a < L 1 → c < L 1 → (decide (¬ L (5 + s) = 0) && gMo p' (L 1) a c (L 0 - 1 - s) s) = true → mV L p (gC2 (L 1) a c (L 0 - 1 - s) s p') (va_up A 37 (lf (gC2 (L 1) a c (L 0 - 1 - s) s p')))) (h1 : ∀ s a c, s < L 0 - 1 → a < L 1 → c < L 1 → x = nI s → z = nI a → w = nI c → (decide (¬ L (5 + s) = 0) && gMo p' (L 1) a c (L 0 - 1 - s) s) = true → Q (.inl (some (.int (mds2 (mLw L p (gC2 (L 1) a c (L 0 - 1 - s) s p') (va_up A 37 (lf (gC2 (L 1) a c (L 0 - 1 - s) s p')))) L (L 1) 0 0)))) (zMm true (yU 32 27 1 (yU 32 0 0 IF)) (mLw L p (gC2 (L 1) a c (L 0 - 1 - s) s p') (va_up A 37 (lf (gC2 (L 1) a c (L 0 - 1 - s) s p')))) AL AD)) (h2 : ¬ (zIn (L 0 - 1) x ∧ zIn (L 1) z ∧ zIn (L 1) w) → Q (.inl (some (.int 0))) (zM o ot it (yU 32 0 1 IF) A AL AD)) (h3 : ∀ s a c, s < L 0 - 1 → a < L 1 → c < L 1 → x = nI s → z = nI a → w = nI c → (decide (¬ L (5 + s) = 0) && gMo p' (L 1) a c (L 0 - 1 - s) s) = false → Q (.inl (some (.int 0))) (zM o ot it (yU 32 0 2 IF) A AL AD)) : zW ε false (d + 8) 200 0 [(0, .ref 32), (1, .int x), (2, .int z), (3, .int w)] [] (zM o ot it IF A AL AD) 0 0 Q := by
  refine zrun 7 ⟨⟨Nat.le_of_ble_eq_true rfl, Nat.le_of_ble_eq_true rfl, rfl⟩, ?_⟩
  refine c_isSegment (IF := yU 32 0 0 IF) hV (fun v hv => ⟨rfl, ?_⟩)
  refine zrun 1 (zb_f rfl (fun g1 => ?_) (fun g1 => ?_))
  · refine zrun 3 ⟨⟨Nat.le_of_ble_eq_true rfl, Nat.le_of_ble_eq_true rfl, rfl⟩, ?_⟩
    refine c_may0 (IF := IF) (b := false) (by decide) rfl (fun q => Bool.noConfusion q) (fun _ => ⟨rfl, ?_⟩)
    refine zrun 1 (zb_f (b := false) rfl (fun _ => ?_) (fun q => Bool.noConfusion q))
    exact zrun 2 (h2 (fun q => by rw [hv.mpr q.1] at g1; exact Bool.noConfusion g1))
  · refine zrun 3 ⟨⟨Nat.le_of_ble_eq_true rfl, Nat.le_of_ble_eq_true rfl, rfl⟩, ?_⟩
    refine c_isTrain (IF := yU 32 0 0 IF) hV (fun v2 hv2 => ⟨rfl, ?_⟩)
    refine zrun 1 (zb_f rfl (fun g2 => ?_) (fun g2 => ?_))
    · refine zrun 3 ⟨⟨Nat.le_of_ble_eq_true rfl, Nat.le_of_ble_eq_true rfl, rfl⟩, ?_⟩
      refine c_may0 (IF := IF) (b := false) (by decide) rfl (fun q => Bool.noConfusion q) (fun _ => ⟨rfl, ?_⟩)
      refine zrun 1 (zb_f (b := false) rfl (fun _ => ?_) (fun q => Bool.noConfusion q))
      exact zrun 2 (h2 (fun q => by rw [hv2.mpr q.2.1] at g2; exact Bool.noConfusion g2))
    · refine zrun 3 ⟨⟨Nat.le_of_ble_eq_true rfl, Nat.le_of_ble_eq_true rfl, rfl⟩, ?_⟩
      refine c_isTrain (IF := yU 32 0 0 IF) hV (fun v3 hv3 => ⟨rfl, ?_⟩)
      refine zrun 1 (zb_f rfl (fun g3 => ?_) (fun g3 => ?_))
      · refine zrun 3 ⟨⟨Nat.le_of_ble_eq_true rfl, Nat.le_of_ble_eq_true rfl, rfl⟩, ?_⟩
        refine c_may0 (IF := IF) (b := false) (by decide) rfl (fun q => Bool.noConfusion q) (fun _ => ⟨rfl, ?_⟩)
        refine zrun 1 (zb_f (b := false) rfl (fun _ => ?_) (fun q => Bool.noConfusion q))
        exact zrun 2 (h2 (fun q => by rw [hv3.mpr q.2.2] at g3; exact Bool.noConfusion g3))
      · refine zrun 4 ⟨⟨Nat.le_of_ble_eq_true rfl, Nat.le_of_ble_eq_true rfl, rfl⟩, ?_⟩
        refine c_may0 (IF := IF) (b := true) (by decide) rfl (fun _ => ⟨rfl, ?_⟩) (fun q => Bool.noConfusion q)
        refine zrun 1 (zb_f (b := true) rfl (fun q => Bool.noConfusion q) (fun _ => ?_))
        obtain ⟨s, hs, rfl⟩ := hv.mp g1
        obtain ⟨a, ha, rfl⟩ := hv2.mp g2
        obtain ⟨c, hc, rfl⟩ := hv3.mp g3
        have hB := hV.2.2.1
        refine zrun 8 ⟨⟨Nat.le_of_ble_eq_true rfl, Nat.le_of_ble_eq_true rfl, rfl⟩, ?_⟩
        refine c_mayOvertake (ac := true) (IF := yU 32 0 0 IF) hV hV.1.2.2 rfl rfl rfl hs hV.2.2.2.2.1 (by omega) (by omega) (hsur a ha) ⟨rfl, ?_⟩
        refine zrun 2 ⟨⟨Nat.le_of_ble_eq_true rfl, Nat.le_of_ble_eq_true rfl, rfl⟩, ?_⟩
        refine c_may0 (IF := IF) (by decide) rfl (fun b => ⟨rfl, ?_⟩) (fun b => ⟨rfl, ?_⟩)
        · refine zrun 1 (zb_t (b := true) rfl (fun _ => ?_) (fun q => Bool.noConfusion q))
          refine zrun 7 ⟨⟨Nat.le_of_ble_eq_true rfl, Nat.le_of_ble_eq_true rfl, rfl⟩, ?_⟩
          refine c_change (ac := true) (IF := yU 32 0 0 IF) hV hV.1.2.2 rfl rfl rfl hs hV.2.2.2.2.1 (by omega) (by omega) ⟨rfl, ?_⟩
          refine zrun 2 ⟨⟨Nat.le_of_ble_eq_true rfl, Nat.le_of_ble_eq_true rfl, rfl⟩, ?_⟩
          refine c_delays (A := (va_up A 37 (lf (gC2 (L 1) a c (L 0 - 1 - s) s p')))) (IF := yU 32 0 0 IF) (hW s a c hs ha hc b) ⟨rfl, ?_⟩
          exact zrun 1 (h1 s a c hs ha hc rfl rfl rfl b)
        · refine zrun 1 (zb_t (b := false) rfl (fun q => Bool.noConfusion q) (fun _ => ?_))
          exact zrun 2 (h3 s a c hs ha hc rfl rfl rfl b)
end
