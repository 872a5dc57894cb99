/-! the reference: more of its calls -/
def mcA (A : Nat → Nat → Int32) (L p' : Nat → Nat) (t s : Nat) : Int32 := if A 45 (8 * t + s) = A 43 (8 * t + s) then 0 else if A 45 (8 * t + s) = A 44 (8 * t + (s - 1)) + nI (L (13 + (s - 1)) * tr L t 3) + A 40 (8 * t + s) then 1 else match gB L p' (s - 1) t with
  | none => 3
  | some o => if A 45 (8 * t + s) = A 45 (8 * o + s) + nI (L 3) then 2 else 3
def mcD (A : Nat → Nat → Int32) (L p' : Nat → Nat) (t s : Nat) : Int32 := if A 44 (8 * t + s) = A 42 (8 * t + s) then 0 else if A 44 (8 * t + s) = (if s = tr L t 0 then A 42 (8 * t + s) else A 45 (8 * t + s) + nI (tr L t 4)) + A 39 (8 * t + s) then 1 else match gB L p' s t with
  | none => 4
  | some o => if A 44 (8 * t + s) = A 44 (8 * o + s) + nI (L 3) then 2 else 4
section
variable {ε : Nat × (Nat → Int32)} {d : Nat} {Q : zQ} {o ot it : Value} {IF A : Nat → Nat → Int32} {AL : Nat → Nat → Int64} {AD : Nat → Nat → UInt64} {L p p' q : Nat → Nat} {ac : Bool}
theorem c_mbuffer (hV : mV L p p' A) {x z : Int32} (h1 : ∀ t s w, t < L 1 → s < L 0 - 1 → x = nI t → z = nI s → gD L t s = true → gB L p s t = some w → Q (.inl (some (.int (mLy false L p (L 0) 0 A 42 (8 * t + s) - mLy false L p (L 0) 0 A 42 (8 * w + s) - nI (L 3))))) (zMm false (yU 32 27 0 (yU 32 0 0 IF)) (mLy false L p (L 0) 0 A) AL AD)) (h2 : ¬ (∃ t s, t < L 1 ∧ s < L 0 - 1 ∧ x = nI t ∧ z = nI s ∧ gD L t s = true) → Q (.inl (some (.int 0))) (zM o ot it (yU 32 0 1 IF) A AL AD)) (h3 : ∀ t s, t < L 1 → s < L 0 - 1 → x = nI t → z = nI s → gD L t s = true → gB L p s t = none → Q (.inl (some (.int 0))) (zMm false (yU 32 0 2 (yU 32 27 0 (yU 32 0 0 IF))) (mLy false L p (L 0) 0 A) AL AD)) : zW ε false (d + 7) 184 0 [(0, .ref 32), (1, .int x), (2, .int z)] [] (zM o ot it IF A AL AD) 0 0 Q := by
  refine zrun 8 ⟨⟨Nat.le_of_ble_eq_true rfl, Nat.le_of_ble_eq_true rfl, rfl⟩, ?_⟩
  refine c_runs (IF := yU 32 0 0 IF) hV (fun v hv => ⟨rfl, ?_⟩)
  refine zrun 2 ⟨⟨Nat.le_of_ble_eq_true rfl, Nat.le_of_ble_eq_true rfl, rfl⟩, ?_⟩
  refine c_may0 (IF := IF) (by decide) rfl (fun b => ⟨rfl, ?_⟩) (fun b => ⟨rfl, ?_⟩)
  · refine zrun 1 (zb_t (b := true) rfl (fun _ => ?_) (fun q => Bool.noConfusion q))
    obtain ⟨t, s, ht, hs, rfl, rfl, hd⟩ := hv.mp b
    clear hv h2
    have hB := hV.2.2.1
    refine zrun 2 ⟨⟨Nat.le_of_ble_eq_true rfl, Nat.le_of_ble_eq_true rfl, rfl⟩, ?_⟩
    refine c_laysPlan (IF := yU 32 0 0 IF) hV ⟨rfl, ?_⟩
    have h8 := hV.2.2.2.1 s hs
    have ho := fun w => gB8 (t := t) (v := w) h8
    have hBf := fun q => c_before (ac := false) (ε := ε) (d := d + 4) (Q := q) (IF := yU 32 27 0 (yU 32 0 0 IF)) (AL := AL) (AD := AD) (mV_ly (ac := false) (q := p) (n := L 0) (s := 0) hV).1.1 hV.2.1 (mV_ly (ac := false) (q := p) (n := L 0) (s := 0) hV).1.2.1 (x := nI s) (z := nI t) rfl rfl (show s < 7 by omega) (show t < 8 by omega) hB.2.2.1 h8
    have e1 := fun w => h1 t s w
    have e3 := h3 t s ht hs rfl rfl hd
    generalize gB L p s t = w at hBf e1 e3 ho
    cases w with
    | none =>
      refine zrun 4 ⟨⟨Nat.le_of_ble_eq_true rfl, Nat.le_of_ble_eq_true rfl, rfl⟩, ?_⟩
      refine hBf _ ⟨rfl, ?_⟩
      refine zrun 4 (zloc [(0, _), (1, _), (2, _), (3, _)] rfl ?_)
      refine zrun 1 ⟨(fun _ => ?_), (fun g => absurd rfl g)⟩
      refine zrun 3 ⟨⟨Nat.le_of_ble_eq_true rfl, Nat.le_of_ble_eq_true rfl, rfl⟩, ?_⟩
      refine c_may (IF := yU 32 27 0 (yU 32 0 0 IF)) rfl (by decide) (b := false) rfl (fun q => Bool.noConfusion q) (fun _ => ⟨rfl, ?_⟩)
      refine zrun 1 (zb_f (b := false) rfl (fun _ => ?_) (fun q => Bool.noConfusion q))
      exact zrun 2 (e3 rfl)
    | some w =>
      have hw8 := ho w rfl
      refine zrun 4 ⟨⟨Nat.le_of_ble_eq_true rfl, Nat.le_of_ble_eq_true rfl, rfl⟩, ?_⟩
      refine hBf _ ⟨rfl, ?_⟩
      refine zrun 4 (zloc [(0, _), (1, _), (2, _), (3, _)] rfl ?_)
      refine zrun 1 ⟨(fun g => absurd g (zne1 (by omega))), (fun _ => ?_)⟩
      refine zrun 4 ⟨⟨Nat.le_of_ble_eq_true rfl, Nat.le_of_ble_eq_true rfl, rfl⟩, ?_⟩
      refine c_may (IF := yU 32 27 0 (yU 32 0 0 IF)) rfl (by decide) (b := true) rfl (fun _ => ⟨rfl, ?_⟩) (fun q => Bool.noConfusion q)
      refine zrun 1 (zb_f (b := true) rfl (fun q => Bool.noConfusion q) (fun _ => ?_))
      refine zrun 5 ⟨⟨Nat.le_of_ble_eq_true rfl, Nat.le_of_ble_eq_true rfl, rfl⟩, ?_⟩
      refine c_ix rfl rfl ⟨rfl, ?_⟩
      refine zW_iald (n := 8 * t + s) rfl rfl rfl (by omega) (by decide) ?_
      refine zrun 5 ⟨⟨Nat.le_of_ble_eq_true rfl, Nat.le_of_ble_eq_true rfl, rfl⟩, ?_⟩
      refine c_ix rfl rfl ⟨rfl, ?_⟩
      refine zW_iald (n := 8 * w + s) rfl rfl rfl (by omega) (by decide) ?_
      refine zrun 4 ?_
      refine zW_ildv (n := 3) rfl rfl rfl (by decide) (by decide) (lf_at (mV_ly (ac := false) (q := p) (n := L 0) (s := 0) hV).1.1 3) ?_
      exact zrun 3 (e1 w ht hs rfl rfl hd rfl)
  · refine zrun 1 (zb_t (b := false) rfl (fun q => Bool.noConfusion q) (fun _ => ?_))
    exact zrun 2 (h2 (fun q => by rw [hv.mpr q] at b; exact Bool.noConfusion b))
theorem cl_mla (hV : mV L p p' A) : ∀ (n i : Nat) (v : Int32) (c : Int32), i + n = L 1 → c = nI i → Q (.inl (some (.int (mla A L n i v)))) (zM o ot it IF A AL AD) → zW ε false (d + 1) 186 37 [(0, .ref 32), (1, .int v), (2, .int c)] [] (zM o ot it IF A AL AD) 0 0 Q := by
  have hB := hV.2.2.1
  intro n
  induction n with
  | zero =>
    intro i v c hi hc hq
    refine zrun 4 ?_
    refine zW_ildv (n := 1) rfl rfl rfl (by decide) (by decide) (lf_at hV.1.1 1) ?_
    refine zrun 1 (zb_ge hc rfl (by omega) (by omega) (fun _ => ?_) (fun q => absurd q (by omega)))
    exact zrun 2 (hq)
  | succ n ih =>
    intro i v c hi hc hq
    subst hc
    have hT := hV.2.2.2.2.2.2 i (by omega)
    refine zrun 4 ?_
    refine zW_ildv (n := 1) rfl rfl rfl (by decide) (by decide) (lf_at hV.1.1 1) ?_
    refine zrun 1 (zb_ge rfl rfl (by omega) (by omega) (fun q => absurd q (by omega)) (fun _ => ?_))
    refine zrun 8 ⟨⟨Nat.le_of_ble_eq_true rfl, Nat.le_of_ble_eq_true rfl, rfl⟩, ?_⟩
    refine c_mof (w := 1) hV.1.1 rfl rfl (by omega) ⟨rfl, ?_⟩
    refine zrun 1 ⟨⟨Nat.le_of_ble_eq_true rfl, Nat.le_of_ble_eq_true rfl, rfl⟩, ?_⟩
    refine c_ix rfl rfl ⟨rfl, ?_⟩
    refine zW_iald (n := 8 * i + tr L i 1) rfl rfl rfl (by omega) (by decide) ?_
    refine zrun 1 ⟨⟨Nat.le_of_ble_eq_true rfl, Nat.le_of_ble_eq_true rfl, rfl⟩, ?_⟩
    refine c_greater ⟨rfl, ?_⟩
    exact zrun 3 (zloc [(0, _), (1, _), (2, _)] rfl (ih (i + 1) _ (nI i + 1) (by omega) (nI_1 i) hq))
theorem c_mlastArrival (hV : mV L p p' A) (h1 : 0 < L 1 → Q (.inl (some (.int (mla (mLy false L p (L 0) 0 A) L (L 1) 0 0)))) (zMm false (yU 32 27 0 (yU 32 0 0 IF)) (mLy false L p (L 0) 0 A) AL AD)) (h2 : L 1 = 0 → Q (.inl (some (.int 0))) (zM o ot it (yU 32 0 1 IF) A AL AD)) : zW ε false (d + 6) 186 0 [(0, .ref 32)] [] (zM o ot it IF A AL AD) 0 0 Q := by
  have hB := hV.2.2.1
  refine zrun 7 ?_
  refine zW_ildv (n := 1) rfl rfl rfl (by decide) (by decide) (lf_at hV.1.1 1) ?_
  refine zrun 1 (zb_le (b := 0) rfl nI_0.symm (by omega) (by decide) (fun g => ?_) (fun g => ?_))
  · refine zrun 3 ⟨⟨Nat.le_of_ble_eq_true rfl, Nat.le_of_ble_eq_true rfl, rfl⟩, ?_⟩
    refine c_may0 (IF := IF) (b := false) (by decide) rfl (fun q => Bool.noConfusion q) (fun _ => ⟨rfl, ?_⟩)
    refine zrun 1 (zb_t (b := false) rfl (fun q => Bool.noConfusion q) (fun _ => ?_))
    exact zrun 2 (h2 (by omega))
  · refine zrun 4 ⟨⟨Nat.le_of_ble_eq_true rfl, Nat.le_of_ble_eq_true rfl, rfl⟩, ?_⟩
    refine c_may0 (IF := IF) (b := true) (by decide) rfl (fun _ => ⟨rfl, ?_⟩) (fun q => Bool.noConfusion q)
    refine zrun 1 (zb_t (b := true) rfl (fun _ => ?_) (fun q => Bool.noConfusion q))
    refine zrun 2 ⟨⟨Nat.le_of_ble_eq_true rfl, Nat.le_of_ble_eq_true rfl, rfl⟩, ?_⟩
    refine c_laysPlan (IF := yU 32 0 0 IF) hV ⟨rfl, ?_⟩
    exact zrun 4 (zloc [(0, _), (1, _), (2, _)] rfl (cl_mla (d := d + 5) (mV_ly (ac := false) (q := p) (n := L 0) (s := 0) hV) (L 1) 0 0 0 (by omega) nI_0.symm (h1 (by omega))))
theorem c_mclear (hq : Q (.inl (some (.int (IF 32 9)))) (zM o ot it (yU 32 9 0 (yU 32 0 0 IF)) (va_up (mF0 64 A) 37 (cp 56 (A 36) (A 37))) AL AD)) : zW ε false (d + 1) 188 0 [(0, .ref 32)] [] (zM o ot it IF A AL AD) 0 0 Q := by
  refine zrun 7 (zloc [(0, _), (1, _)] rfl ?_)
  refine zrun 1 ⟨⟨Nat.le_of_ble_eq_true rfl, Nat.le_of_ble_eq_true rfl, rfl⟩, ?_⟩
  refine c_forgets (IF := yU 32 0 0 IF) ⟨rfl, ?_⟩
  refine zrun 2 ⟨⟨Nat.le_of_ble_eq_true rfl, Nat.le_of_ble_eq_true rfl, rfl⟩, ?_⟩
  refine c_asPlanned (IF := yU 32 9 0 (yU 32 0 0 IF)) ⟨rfl, ?_⟩
  exact zrun 2 (hq)
theorem c_mtotalDelay (hV : mV L p p' A) (hq : Q (.inl (some (.int (mds2 (mLw L p p' A) L (L 1) 0 0)))) (zMm true (yU 32 27 1 (yU 32 0 0 IF)) (mLw L p p' A) AL AD)) : zW ε false (d + 8) 190 0 [(0, .ref 32)] [] (zM o ot it IF A AL AD) 0 0 Q := by
  refine zrun 5 ⟨⟨Nat.le_of_ble_eq_true rfl, Nat.le_of_ble_eq_true rfl, rfl⟩, ?_⟩
  refine c_delays (IF := yU 32 0 0 IF) hV ⟨rfl, ?_⟩
  exact zrun 1 (hq)
theorem c_mlateTrains (hV : mV L p p' A) (hq : Q (.inl (some (.int (mls (mLw L p p' A) L 0 (L 1) 0 0)))) (zMm true (yU 32 27 1 (yU 32 0 0 IF)) (mLw L p p' A) AL AD)) : zW ε false (d + 8) 192 0 [(0, .ref 32)] [] (zM o ot it IF A AL AD) 0 0 Q := by
  refine zrun 6 ⟨⟨Nat.le_of_ble_eq_true rfl, Nat.le_of_ble_eq_true rfl, rfl⟩, ?_⟩
  refine c_mlateSet (IF := yU 32 0 0 IF) hV ⟨rfl, ?_⟩
  exact zrun 1 (hq)
theorem c_misKept (hV : mV L p p' A) (hb : ∀ c, c < L 2 → (∃ v : Bool, mLw L p p' A 46 c = zbo v) ∧ narrow .boolean (.int (mLw L p p' A 46 c)) = .int (mLw L p p' A 46 c)) {x : Int32} (h1 : ∀ c, c < L 2 → x = nI c → Q (.inl (some (.int (mLw L p p' A 46 c)))) (zMm true (yU 32 27 1 (yU 32 0 0 IF)) (mLw L p p' A) AL AD)) (h2 : ¬ zIn (L 2) x → Q (.inl (some (.int 0))) (zM o ot it (yU 32 0 1 IF) A AL AD)) : zW ε false (d + 7) 194 0 [(0, .ref 32), (1, .int x)] [] (zM o ot it IF A AL AD) 0 0 Q := by
  have hB := hV.2.2.1
  have hz : ∀ x : Int32, (¬ x < 0 ∧ ¬ (nI (L 2) - nI 1) < x) ↔ zIn (L 2) x := fun x => zIn_sub (n := L 2) (k := 1) (by omega) (by decide)
  refine zrun 9 ?_
  refine zW_ildv (n := 2) rfl rfl rfl (by decide) (by decide) (lf_at hV.1.1 2) ?_
  refine zrun 3 ⟨⟨Nat.le_of_ble_eq_true rfl, Nat.le_of_ble_eq_true rfl, rfl⟩, ?_⟩
  refine c_isIn (fun v hv => ⟨rfl, ?_⟩)
  refine zrun 2 ⟨⟨Nat.le_of_ble_eq_true rfl, Nat.le_of_ble_eq_true rfl, rfl⟩, ?_⟩
  refine c_may0 (IF := IF) (by decide) rfl (fun b => ⟨rfl, ?_⟩) (fun b => ⟨rfl, ?_⟩)
  · refine zrun 1 (zb_t (b := true) rfl (fun _ => ?_) (fun q => Bool.noConfusion q))
    obtain ⟨c, hc, rfl⟩ := (hz _).mp (hv.mp b)
    refine zrun 2 ⟨⟨Nat.le_of_ble_eq_true rfl, Nat.le_of_ble_eq_true rfl, rfl⟩, ?_⟩
    refine c_laysActual (IF := yU 32 0 0 IF) hV ⟨rfl, ?_⟩
    refine zrun 3 ?_
    refine zW_zald (n := c) rfl rfl rfl (by omega) (by decide) ?_
    exact zrun 1 (⟨(hb c hc).2, h1 c hc rfl⟩)
  · refine zrun 1 (zb_t (b := false) rfl (fun q => Bool.noConfusion q) (fun _ => ?_))
    exact zrun 2 (⟨rfl, h2 (fun q => by rw [hv.mpr ((hz _).mpr q)] at b; exact Bool.noConfusion b)⟩)
theorem cl_mms (hV : mV L p p' A) : ∀ (n i : Nat) (v : Int32) (c : Int32), i + n = L 2 → c = nI i → Q (.inl (some (.int (mms A n i v)))) (zM o ot it IF A AL AD) → zW ε false (d) 195 13 [(0, .ref 32), (1, .int v), (2, .int c)] [] (zM o ot it IF A AL AD) 0 0 Q := by
  have hB := hV.2.2.1
  intro n
  induction n with
  | zero =>
    intro i v c hi hc hq
    refine zrun 4 ?_
    refine zW_ildv (n := 2) rfl rfl rfl (by decide) (by decide) (lf_at hV.1.1 2) ?_
    refine zrun 1 (zb_ge hc rfl (by omega) (by omega) (fun _ => ?_) (fun q => absurd q (by omega)))
    exact zrun 2 (hq)
  | succ n ih =>
    intro i v c hi hc hq
    subst hc
    refine zrun 4 ?_
    refine zW_ildv (n := 2) rfl rfl rfl (by decide) (by decide) (lf_at hV.1.1 2) ?_
    refine zrun 1 (zb_ge rfl rfl (by omega) (by omega) (fun q => absurd q (by omega)) (fun _ => ?_))
    refine zrun 4 ?_
    refine zW_zald (n := i) rfl rfl rfl (by omega) (by decide) ?_
    refine zrun 1 ⟨(fun g => ?_), (fun g => ?_)⟩
    · exact zrun 5 (zloc [(0, _), (1, _), (2, _)] rfl (ih (i + 1) _ (nI i + 1) (by omega) (nI_1 i) (by unfold mms at hq; rw [if_pos (show A 46 i = 0 from g)] at hq; exact hq)))
    · exact zrun 6 (zloc [(0, _), (1, _), (2, _)] rfl (ih (i + 1) _ (nI i + 1) (by omega) (nI_1 i) (by unfold mms at hq; rw [if_neg (show ¬ A 46 i = 0 from g)] at hq; exact hq)))
theorem c_mmissed (hV : mV L p p' A) (hq : Q (.inl (some (.int (mms (mLw L p p' A) (L 2) 0 0)))) (zMm true (yU 32 27 1 (yU 32 0 0 IF)) (mLw L p p' A) AL AD)) : zW ε false (d + 7) 195 0 [(0, .ref 32)] [] (zM o ot it IF A AL AD) 0 0 Q := by
  refine zrun 5 ⟨⟨Nat.le_of_ble_eq_true rfl, Nat.le_of_ble_eq_true rfl, rfl⟩, ?_⟩
  refine c_laysActual (IF := yU 32 0 0 IF) hV ⟨rfl, ?_⟩
  exact zrun 4 (zloc [(0, _), (1, _), (2, _)] rfl (cl_mms (mV_lw hV) (L 2) 0 0 0 (by omega) nI_0.symm hq))
theorem c_causeA (hV : mV L p p' A) {t s : Nat} {x z : Int32} (hx : x = nI t) (hz : z = nI s) (ht : t < L 1) (h1 : 1 ≤ s) (hs : s < L 0) (hn : ¬ A 45 (8 * t + s) = A 43 (8 * t + s) → ¬ A 45 (8 * t + s) = A 44 (8 * t + (s - 1)) + nI (L (13 + (s - 1)) * tr L t 3) + A 40 (8 * t + s) → ¬ gB L p' (s - 1) t = none) (hq : Q (.inl (some (.int (mcA A L p' t s)))) (zMm true IF A AL AD)) : zW ε false (d + 3) 196 0 [(0, .ref 32), (1, .int x), (2, .int z)] [] (zMm true IF A AL AD) 0 0 Q := by
  have hB := hV.2.2.1
  subst hx
  subst hz
  unfold mcA at hq
  refine zrun 5 ⟨⟨Nat.le_of_ble_eq_true rfl, Nat.le_of_ble_eq_true rfl, rfl⟩, ?_⟩
  refine c_ix rfl rfl ⟨rfl, ?_⟩
  refine zW_iald (n := 8 * t + s) rfl rfl rfl (by omega) (by decide) ?_
  refine zrun 6 (zloc [(0, _), (1, _), (2, _), (3, _)] rfl ?_)
  refine zrun 1 ⟨⟨Nat.le_of_ble_eq_true rfl, Nat.le_of_ble_eq_true rfl, rfl⟩, ?_⟩
  refine c_ix rfl rfl ⟨rfl, ?_⟩
  refine zW_iald (n := 8 * t + s) rfl rfl rfl (by omega) (by decide) ?_
  refine zrun 1 ⟨(fun g1 => ?_), (fun g1 => ?_)⟩
  · rw [if_neg (show ¬ A 45 (8 * t + s) = A 43 (8 * t + s) from g1)] at hq
    refine zrun 8 ⟨⟨Nat.le_of_ble_eq_true rfl, Nat.le_of_ble_eq_true rfl, rfl⟩, ?_⟩
    refine c_ix rfl (nIp rfl h1) ⟨rfl, ?_⟩
    refine zW_iald (n := 8 * t + (s - 1)) rfl rfl rfl (by omega) (by decide) ?_
    refine zrun 6 ⟨⟨Nat.le_of_ble_eq_true rfl, Nat.le_of_ble_eq_true rfl, rfl⟩, ?_⟩
    refine c_runningOf hV.1.1 rfl (nIp rfl h1) (by omega) (by omega) ⟨rfl, ?_⟩
    refine zrun 6 ⟨⟨Nat.le_of_ble_eq_true rfl, Nat.le_of_ble_eq_true rfl, rfl⟩, ?_⟩
    refine c_ix rfl rfl ⟨rfl, ?_⟩
    refine zW_iald (n := 8 * t + s) rfl rfl rfl (by omega) (by decide) ?_
    refine zrun 2 ⟨(fun g2 => ?_), (fun g2 => ?_)⟩
    · rw [if_neg (show ¬ A 45 (8 * t + s) = A 44 (8 * t + (s - 1)) + nI (L (13 + (s - 1)) * tr L t 3) + A 40 (8 * t + s) from g2)] at hq
      have hn1 := hn g1 g2
      have h8 := hV.2.2.2.2.1 (s - 1) (by omega)
      have ho := fun w => gB8 (t := t) (v := w) h8
      have hBf := fun q => c_before (ac := true) (ε := ε) (d := d) (Q := q) (IF := IF) (AL := AL) (AD := AD) hV.1.1 hV.2.1 hV.1.2.2 (nIp (z := nI s) rfl h1) (z := nI t) rfl (by omega) (show t < 8 by omega) hB.2.2.1 h8
      generalize gB L p' (s - 1) t = w at hBf hn1 ho hq
      cases w with
      | none =>
        exact absurd rfl hn1
      | some w =>
        have hw8 := ho w rfl
        have hq := hq
        refine zrun 6 ⟨⟨Nat.le_of_ble_eq_true rfl, Nat.le_of_ble_eq_true rfl, rfl⟩, ?_⟩
        refine hBf _ ⟨rfl, ?_⟩
        refine zrun 6 (zloc [(0, _), (1, _), (2, _), (3, _), (4, _)] rfl ?_)
        refine zrun 1 ⟨⟨Nat.le_of_ble_eq_true rfl, Nat.le_of_ble_eq_true rfl, rfl⟩, ?_⟩
        refine c_ix rfl rfl ⟨rfl, ?_⟩
        refine zW_iald (n := 8 * w + s) rfl rfl rfl (by omega) (by decide) ?_
        refine zrun 3 ?_
        refine zW_ildv (n := 3) rfl rfl rfl (by decide) (by decide) (lf_at hV.1.1 3) ?_
        refine zrun 2 ⟨(fun g3 => ?_), (fun g3 => ?_)⟩
        · exact zrun 2 (by have hq : Q (.inl (some (.int (if A 45 (8 * t + s) = A 45 (8 * w + s) + nI (L 3) then 2 else 3)))) _ := hq; rw [if_neg (show ¬ A 45 (8 * t + s) = A 45 (8 * w + s) + nI (L 3) from g3)] at hq; exact hq)
        · exact zrun 3 (by have hq : Q (.inl (some (.int (if A 45 (8 * t + s) = A 45 (8 * w + s) + nI (L 3) then 2 else 3)))) _ := hq; rw [if_pos (show A 45 (8 * t + s) = A 45 (8 * w + s) + nI (L 3) from g3)] at hq; exact hq)
    · exact zrun 2 (by rw [if_pos (show A 45 (8 * t + s) = A 44 (8 * t + (s - 1)) + nI (L (13 + (s - 1)) * tr L t 3) + A 40 (8 * t + s) from g2)] at hq; exact hq)
  · exact zrun 2 (by rw [if_pos (show A 45 (8 * t + s) = A 43 (8 * t + s) from g1)] at hq; exact hq)
end
