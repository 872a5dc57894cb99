/-! the reference: bestOf, dispatch -/
section
variable {ε : Nat × (Nat → Int32)} {d : Nat} {Q : zQ} {o ot it : Value} {IF A : Nat → Nat → Int32} {AL : Nat → Nat → Int64} {AD : Nat → Nat → UInt64} {L p p' q : Nat → Nat} {ac : Bool}
theorem mb1_V {s x y : Nat} {σ : zB} (hV : mV L p p' σ.1) (hs : s ≤ L 0 - 1) (hx : x < 8) (hy : y < 8) : mV L p p' (mb1 L p p' s x y σ).1 := by
  unfold mb1
  cases mbC L p' s x y
  · exact hV
  · have h := mV_37 (p' := p') (mV_lw (mV_ch (x := x) (y := y) hV hs hx hy)) hV.2.2.2.2.1
    show mV L p p' (if _ then _ else _ : zB).1
    split
    · exact h
    · exact h
theorem cl_bo (hi : IF 32 27 = 1) {s : Nat} (hs : s < L 0 - 1) (hsur : ∀ a, a < L 1 → ∀ g, g < L 0 - 1 → ∃ j, j < L 1 ∧ p' (8 * g + j) = a) : ∀ (n k : Nat) (σ : zB) (c : Int32), k + n = L 1 * L 1 → c = nI k → mV L p p' σ.1 → zW ε false (d + 8) 201 147 [(0, .ref 32), (1, .int (mb2 L p p' s n k σ).2.2), (2, .int (mb2 L p p' s n k σ).2.1), (3, .int (nI s))] [] (zMm true IF (mb2 L p p' s n k σ).1 AL AD) 0 0 Q → zW ε false (d + 8) 201 24 [(0, .ref 32), (1, .int σ.2.2), (2, .int σ.2.1), (3, .int (nI s)), (4, .int c)] [] (zMm true IF σ.1 AL AD) 0 0 Q := by
  intro n
  induction n with
  | zero =>
    intro k σ c hk hc hV hq
    have hB := hV.2.2.1
    have hMM : L 1 * L 1 ≤ 64 := Nat.mul_le_mul hB.2.2.1 hB.2.2.1
    refine zrun 4 ?_
    refine zW_ildv (n := 1) rfl rfl rfl (by decide) (by decide) (lf_at hV.1.1 1) ?_
    refine zrun 3 ?_
    refine zW_ildv (n := 1) rfl rfl rfl (by decide) (by decide) (lf_at hV.1.1 1) ?_
    refine zrun 2 (zb_ge hc (pk_mul _ _) (by omega) (by omega) (fun _ => ?_) (fun q => absurd q (by omega)))
    exact zfg [0, 1, 2, 3] (zloc [(0, _), (1, _), (2, _), (3, _)] rfl (hq))
  | succ n ih =>
    intro k σ c hk hc hV hq
    subst hc
    have hB := hV.2.2.1
    have hMM : L 1 * L 1 ≤ 64 := Nat.mul_le_mul hB.2.2.1 hB.2.2.1
    have hM0 : 0 < L 1 := by
      rcases Nat.eq_zero_or_pos (L 1) with e | e
      · rw [e] at hk; omega
      · exact e
    have hx : k / L 1 < L 1 := Nat.div_lt_of_lt_mul (by omega)
    have hy : k % L 1 < L 1 := Nat.mod_lt _ hM0
    have hdv : (nI k / nI (L 1) : Int32) = nI (k / L 1) := pk_div (by omega) hM0 (by omega)
    have hrm : (nI k - nI k / nI (L 1) * nI (L 1) : Int32) = nI (k % L 1) := pk_rem (by omega) hM0 (by omega)
    have hz : ¬ (nI (L 1) : Int32) = 0 := nI_ne0 hM0 (by omega)
    have next : ∀ τ : zB, τ = mb1 L p p' s (k / L 1) (k % L 1) σ → zW ε false (d + 8) 201 24 [(0, .ref 32), (1, .int τ.2.2), (2, .int τ.2.1), (3, .int (nI s)), (4, .int (nI k + 1))] [] (zMm true IF τ.1 AL AD) 0 0 Q := fun τ e => ih (k + 1) τ (nI k + 1) (by omega) (nI_1 k) (by rw [e]; exact mb1_V hV (by omega) (by omega) (by omega)) (by rw [e]; exact hq)
    have hV1 := mV_ch (x := k / L 1) (y := k % L 1) hV (show s ≤ L 0 - 1 by omega) (by omega) (by omega)
    have h2 := gC2_2 (M := L 1) (x := k / L 1) (y := k % L 1) (n := L 0 - 1 - s) (g := s) hB.2.2.1 p'
    refine zrun 4 ?_
    refine zW_ildv (n := 1) rfl rfl rfl (by decide) (by decide) (lf_at hV.1.1 1) ?_
    refine zrun 3 ?_
    refine zW_ildv (n := 1) rfl rfl rfl (by decide) (by decide) (lf_at hV.1.1 1) ?_
    refine zrun 2 (zb_ge rfl (pk_mul _ _) (by omega) (by omega) (fun q => absurd q (by omega)) (fun _ => ?_))
    refine zrun 4 ?_
    refine zW_ildv (n := 1) rfl rfl rfl (by decide) (by decide) (lf_at hV.1.1 1) ?_
    refine zrun 1 ⟨hz, ?_⟩
    refine zrun 5 (zloc [(0, _), (1, _), (2, _), (3, _), (4, _), (5, _)] rfl ?_)
    refine zW_ildv (n := 1) rfl rfl rfl (by decide) (by decide) (lf_at hV.1.1 1) ?_
    refine zrun 1 ⟨hz, ?_⟩
    refine zloc [(0, .ref 32), (1, .int σ.2.2), (2, .int σ.2.1), (3, .int (nI s)), (4, .int (nI k)), (5, .int (nI k / nI (L 1)))] rfl ?_
    rw [hrm, hdv]
    generalize hxe : k / L 1 = x at *
    generalize hye : k % L 1 = y at *
    refine zrun 7 (zloc [(0, _), (1, _), (2, _), (3, _), (4, _), (5, _), (6, _)] rfl ?_)
    refine zrun 1 ⟨⟨Nat.le_of_ble_eq_true rfl, Nat.le_of_ble_eq_true rfl, rfl⟩, ?_⟩
    refine c_mayOvertake (ac := true) hV hV.1.2.2 rfl rfl rfl hs hV.2.2.2.2.1 (by omega) (by omega) (hsur x hx) ⟨rfl, ?_⟩
    refine zrun 1 (zb_t rfl (fun g => ?_) (fun g => ?_))
    · refine zrun 7 ⟨⟨Nat.le_of_ble_eq_true rfl, Nat.le_of_ble_eq_true rfl, rfl⟩, ?_⟩
      refine c_change (ac := true) hV hV.1.2.2 rfl rfl rfl hs hV.2.2.2.2.1 (by omega) (by omega) ⟨rfl, ?_⟩
      refine zrun 2 ⟨⟨Nat.le_of_ble_eq_true rfl, Nat.le_of_ble_eq_true rfl, rfl⟩, ?_⟩
      refine c_delays hV1 ⟨rfl, ?_⟩
      refine zrun 7 (zloc [(0, _), (1, _), (2, _), (3, _), (4, _), (5, _), (6, _), (7, _)] rfl ?_)
      refine zrun 1 ⟨⟨Nat.le_of_ble_eq_true rfl, Nat.le_of_ble_eq_true rfl, rfl⟩, ?_⟩
      refine c_change (ac := true) (IF := yU 32 27 1 IF) (q := gC2 (L 1) x y (L 0 - 1 - s) s p') (mV_lw hV1) (mV_lw hV1).1.2.2 rfl rfl rfl hs hV1.2.2.2.2.1 (by omega) (by omega) ⟨rfl, ?_⟩
      rw [h2, yU_id hi]
      refine zrun 3 ⟨(fun g2 => ?_), (fun g2 => ?_)⟩
      · exact zrun 14 (zfg [0, 1, 2, 3, 4] (zloc [(0, _), (1, _), (2, _), (3, _), (4, _)] rfl (next (_, _, _) (by unfold mb1; rw [show mbC L p' s x y = true from g]; exact (if_pos g2).symm))))
      · exact zrun 3 (zfg [0, 1, 2, 3, 4] (zloc [(0, _), (1, _), (2, _), (3, _), (4, _)] rfl (next (va_up (mbA L p p' s x y σ.1) 37 (lf p'), σ.2) (by unfold mb1; rw [show mbC L p' s x y = true from g]; exact (if_neg g2).symm))))
    · exact zrun 3 (zfg [0, 1, 2, 3, 4] (zloc [(0, _), (1, _), (2, _), (3, _), (4, _)] rfl (next σ (by unfold mb1; rw [show mbC L p' s x y = false from g]; rfl))))
theorem mb2_V {s : Nat} (hs : s ≤ L 0 - 1) : ∀ (n k : Nat) (σ : zB), k + n = L 1 * L 1 → mV L p p' σ.1 → mV L p p' (mb2 L p p' s n k σ).1
  | 0, _, _, _, h => h
  | n + 1, k, σ, hk, h => by
    have hB := h.2.2.1
    have hM0 : 0 < L 1 := by
      rcases Nat.eq_zero_or_pos (L 1) with e | e
      · rw [e] at hk; omega
      · exact e
    have hx : k / L 1 < L 1 := Nat.div_lt_of_lt_mul (by omega)
    have hy : k % L 1 < L 1 := Nat.mod_lt _ hM0
    exact mb2_V hs n (k + 1) _ (by omega) (mb1_V h hs (by omega) (by omega))
theorem cl_bo9 (hi : IF 32 27 = 1) (hsur : ∀ a, a < L 1 → ∀ g, g < L 0 - 1 → ∃ j, j < L 1 ∧ p' (8 * g + j) = a) : ∀ (n s : Nat) (σ : zB) (c : Int32), s + n = L 0 - 1 → c = nI s → mV L p p' σ.1 → Q (.inl (some (.int (mb3 L p p' n s σ).2.2))) (zMm true IF (mb3 L p p' n s σ).1 AL AD) → zW ε false (d + 8) 201 9 [(0, .ref 32), (1, .int σ.2.2), (2, .int σ.2.1), (3, .int c)] [] (zMm true IF σ.1 AL AD) 0 0 Q := by
  intro n
  induction n with
  | zero =>
    intro s σ c hk hc hV hq
    have hB := hV.2.2.1
    have hS' : nI (L 0) - 1 = nI (L 0 - 1) := nIp rfl (by omega)
    refine zrun 4 ?_
    refine zW_ildv (n := 0) rfl rfl rfl (by decide) (by decide) (lf_at hV.1.1 0) ?_
    refine zrun 3 (zb_ge hc hS' (by omega) (by omega) (fun _ => ?_) (fun q => absurd q (by omega)))
    exact zrun 2 (hq)
  | succ n ih =>
    intro s σ c hk hc hV hq
    subst hc
    have hB := hV.2.2.1
    have hS' : nI (L 0) - 1 = nI (L 0 - 1) := nIp rfl (by omega)
    refine zrun 4 ?_
    refine zW_ildv (n := 0) rfl rfl rfl (by decide) (by decide) (lf_at hV.1.1 0) ?_
    refine zrun 3 (zb_ge rfl hS' (by omega) (by omega) (fun q => absurd q (by omega)) (fun _ => ?_))
    exact zrun 2 (zloc [(0, _), (1, _), (2, _), (3, _), (4, _)] rfl (cl_bo hi (by omega) hsur (L 1 * L 1) 0 σ 0 (by omega) nI_0.symm hV (zrun 2 (zloc [(0, _), (1, _), (2, _), (3, _)] rfl (ih (s + 1) (mb2 L p p' s (L 1 * L 1) 0 σ) (nI s + 1) (by omega) (nI_1 s) (mb2_V (by omega) _ _ _ (by omega) hV) hq)))))
theorem c_bestOf (hV : mV L p p' A) (hsur : ∀ a, a < L 1 → ∀ g, g < L 0 - 1 → ∃ j, j < L 1 ∧ p' (8 * g + j) = a) (hq : Q (.inl (some (.int (mbf L p p' A).2.2))) (zMm true (yU 32 27 1 IF) (mbf L p p' A).1 AL AD)) : zW ε false (d + 8) 201 0 [(0, .ref 32)] [] (zM o ot it IF A AL AD) 0 0 Q := by
  refine zrun 3 (zloc [(0, _), (1, _)] rfl ?_)
  refine zrun 1 ⟨⟨Nat.le_of_ble_eq_true rfl, Nat.le_of_ble_eq_true rfl, rfl⟩, ?_⟩
  refine c_delays hV ⟨rfl, ?_⟩
  exact zrun 3 (zloc [(0, _), (1, _), (2, _), (3, _)] rfl (cl_bo9 (IF := yU 32 27 1 IF) rfl hsur (L 0 - 1) 0 (mLw L p p' A, mds2 (mLw L p p' A) L (L 1) 0 0, -1) 0 (by omega) nI_0.symm (mV_lw hV) hq))
theorem c_mbestOvertaking (hV : mV L p p' A) (hsur : ∀ a, a < L 1 → ∀ g, g < L 0 - 1 → ∃ j, j < L 1 ∧ p' (8 * g + j) = a) (hq : Q (.inl (some (.int (mbf L p p' A).2.2))) (zMm true (yU 32 27 1 (yU 32 0 0 IF)) (mbf L p p' A).1 AL AD)) : zW ε false (d + 9) 202 0 [(0, .ref 32)] [] (zM o ot it IF A AL AD) 0 0 Q := by
  refine zrun 5 ⟨⟨Nat.le_of_ble_eq_true rfl, Nat.le_of_ble_eq_true rfl, rfl⟩, ?_⟩
  refine c_bestOf (IF := yU 32 0 0 IF) hV hsur ⟨rfl, ?_⟩
  exact zrun 1 (hq)
theorem mb3_V : ∀ (n s : Nat) (σ : zB), s + n = L 0 - 1 → mV L p p' σ.1 → mV L p p' (mb3 L p p' n s σ).1
  | 0, _, _, _, h => h
  | n + 1, s, σ, hk, h => mb3_V n (s + 1) _ (by omega) (mb2_V (by omega) _ _ _ (by omega) h)
theorem mbf_V (hV : mV L p p' A) : mV L p p' (mbf L p p' A).1 := mb3_V _ _ _ (by omega) (mV_lw hV)
/-- what bestOf tells -/
theorem mb1_B {s x y : Nat} {σ : zB} (hs : s < L 0 - 1) (hx : x < L 1) (hy : y < L 1) (h : zBok (L 0) (L 1) σ.2.2) : zBok (L 0) (L 1) (mb1 L p p' s x y σ).2.2 := by
  unfold mb1
  cases mbC L p' s x y
  · exact h
  · show zBok (L 0) (L 1) (if _ then _ else _ : zB).2.2
    split
    · refine Or.inr ⟨s, x, y, hs, hx, hy, ?_⟩
      show (100 : Int32) * nI s + 10 * nI x + nI y = _
      rw [show (100 : Int32) = nI 100 from rfl, show (10 : Int32) = nI 10 from rfl, pk_mul, pk_mul, nI_add, nI_add]
    · exact h
theorem mb2_B {s : Nat} (hs : s < L 0 - 1) : ∀ (n k : Nat) (σ : zB), k + n = L 1 * L 1 → zBok (L 0) (L 1) σ.2.2 → zBok (L 0) (L 1) (mb2 L p p' s n k σ).2.2
  | 0, _, _, _, h => h
  | n + 1, k, σ, hk, h => by
    have hM0 : 0 < L 1 := by
      rcases Nat.eq_zero_or_pos (L 1) with e | e
      · rw [e] at hk; omega
      · exact e
    have hx : k / L 1 < L 1 := Nat.div_lt_of_lt_mul (by omega)
    have hy : k % L 1 < L 1 := Nat.mod_lt _ hM0
    exact mb2_B hs n (k + 1) _ (by omega) (mb1_B hs hx hy h)
theorem mb3_B : ∀ (n s : Nat) (σ : zB), s + n = L 0 - 1 → zBok (L 0) (L 1) σ.2.2 → zBok (L 0) (L 1) (mb3 L p p' n s σ).2.2
  | 0, _, _, _, h => h
  | n + 1, s, σ, hk, h => mb3_B n (s + 1) _ (by omega) (mb2_B (by omega) _ _ _ (by omega) h)
theorem mbf_B : zBok (L 0) (L 1) (mbf L p p' A).2.2 := mb3_B _ _ _ (by omega) (Or.inl rfl)
theorem sur_ch {x y s : Nat} (hM : L 1 ≤ 8) (hx : x < L 1) (hy : y < L 1) (hsur : ∀ a, a < L 1 → ∀ g, g < L 0 - 1 → ∃ j, j < L 1 ∧ p' (8 * g + j) = a) : ∀ a, a < L 1 → ∀ g, g < L 0 - 1 → ∃ j, j < L 1 ∧ gC2 (L 1) x y (L 0 - 1 - s) s p' (8 * g + j) = a := by
  intro a ha g hg
  by_cases e : s ≤ g
  · obtain ⟨j, hj, h⟩ := hsur (gSw x y a) (gSw_lt hx hy ha) g hg
    refine ⟨j, hj, ?_⟩
    rw [gC2_v hM, if_pos (by omega), h, gSw_sw]
  · obtain ⟨j, hj, h⟩ := hsur a ha g hg
    refine ⟨j, hj, ?_⟩
    rw [gC2_v hM, if_neg (by omega), h]
theorem cl_mdp (hi : IF 32 27 = 1) : ∀ (n : Nat) (p' : Nat → Nat) (i : Nat) (σ : zB) (c : Int32), i + n = 20 → c = nI i → mV L p p' σ.1 → (∀ a, a < L 1 → ∀ g, g < L 0 - 1 → ∃ j, j < L 1 ∧ p' (8 * g + j) = a) → zBok (L 0) (L 1) σ.2.2 → Q (.inl (some (.int (nI (mdp L p n p' i σ).1)))) (zMm true IF (mdp L p n p' i σ).2 AL AD) → zW ε false (d + 9) 203 12 [(0, .ref 32), (1, .int c), (2, .int σ.2.2)] [] (zMm true IF σ.1 AL AD) 0 0 Q := by
  intro n
  induction n with
  | zero =>
    intro p' i σ c hk hc hV hsur hB hq
    subst hc
    refine zrun 3 ⟨(fun g => ?_), (fun g => ?_)⟩
    · exact zrun 2 (hq)
    · refine zrun 3 (zb_ge (b := 20) rfl rfl (by omega) (by omega) (fun _ => ?_) (fun q => absurd q (by omega)))
      exact zrun 2 (hq)
  | succ n ih =>
    intro p' i σ c hk hc hV hsur hB hq
    subst hc
    have hL := hV.2.2.1
    unfold mdp at hq
    by_cases g : σ.2.2 = -1
    · rw [if_pos g] at hq
      refine zrun 3 ⟨(fun _ => ?_), (fun z => absurd g z)⟩
      exact zrun 2 (hq)
    · rw [if_neg g] at hq
      obtain ⟨s, x, y, hs, hx, hy, hv⟩ := hB.resolve_left g
      have htn : σ.2.2.toBitVec.toNat = 100 * s + 10 * x + y := by rw [hv, pk_tn (by omega)]
      have e1 : (100 * s + 10 * x + y) / 100 = s := by omega
      have e2 : (100 * s + 10 * x + y) / 10 % 10 = x := by omega
      have e3 : (100 * s + 10 * x + y) % 10 = y := by omega
      unfold mdA at hq
      rw [htn, e1, e2, e3] at hq
      have d1 : σ.2.2 / 100 = nI s := by rw [hv, show (100 : Int32) = nI 100 from rfl, pk_div (by omega) (by omega) (by omega), e1]
      have d2 : σ.2.2 / 10 - σ.2.2 / 10 / 10 * 10 = nI x := by rw [hv, show (10 : Int32) = nI 10 from rfl, pk_div (by omega) (by omega) (by omega), pk_rem (by omega) (by omega) (by omega), e2]
      have d3 : σ.2.2 - σ.2.2 / 10 * 10 = nI y := by rw [hv, show (10 : Int32) = nI 10 from rfl, pk_rem (by omega) (by omega) (by omega), e3]
      have hV1 := mV_ch (x := x) (y := y) hV (show s ≤ L 0 - 1 by omega) (by omega) (by omega)
      have hs1 := sur_ch (s := s) hL.2.2.1 hx hy hsur
      refine zrun 3 ⟨(fun z => absurd z g), (fun _ => ?_)⟩
      refine zrun 3 (zb_ge (b := 20) rfl rfl (by omega) (by omega) (fun q => absurd q (by omega)) (fun _ => ?_))
      refine zrun 6 ⟨by decide, ?_⟩
      refine zrun 3 ⟨by decide, ?_⟩
      refine zrun 2 ⟨by decide, ?_⟩
      refine zrun 3 ⟨by decide, ?_⟩
      refine zrun 1 ⟨⟨Nat.le_of_ble_eq_true rfl, Nat.le_of_ble_eq_true rfl, rfl⟩, ?_⟩
      refine c_change (ac := true) hV hV.1.2.2 d1 d2 d3 hs hV.2.2.2.2.1 (by omega) (by omega) ⟨rfl, ?_⟩
      refine zrun 2 (zloc [(0, _), (1, _), (2, _)] rfl ?_)
      refine zrun 1 ⟨⟨Nat.le_of_ble_eq_true rfl, Nat.le_of_ble_eq_true rfl, rfl⟩, ?_⟩
      refine c_bestOf hV1 hs1 ⟨rfl, ?_⟩
      exact zrun 2 (zloc [(0, _), (1, _), (2, _)] rfl (by rw [yU_id hi]; exact ih _ (i + 1) (mbf L p (gC2 (L 1) x y (L 0 - 1 - s) s p') (va_up σ.1 37 (lf (gC2 (L 1) x y (L 0 - 1 - s) s p')))) (nI i + 1) (by omega) (nI_1 i) (mbf_V hV1) hs1 mbf_B hq))
theorem c_mdispatch (hV : mV L p p' A) (hsur : ∀ a, a < L 1 → ∀ g, g < L 0 - 1 → ∃ j, j < L 1 ∧ p' (8 * g + j) = a) (hq : Q (.inl (some (.int (nI (mdp L p 20 p' 0 (mbf L p p' A)).1)))) (zMm true (yU 32 27 1 (yU 32 0 0 IF)) (mdp L p 20 p' 0 (mbf L p p' A)).2 AL AD)) : zW ε false (d + 9) 203 0 [(0, .ref 32)] [] (zM o ot it IF A AL AD) 0 0 Q := by
  refine zrun 6 (zloc [(0, _), (1, _)] rfl ?_)
  refine zrun 1 ⟨⟨Nat.le_of_ble_eq_true rfl, Nat.le_of_ble_eq_true rfl, rfl⟩, ?_⟩
  refine c_bestOf (IF := yU 32 0 0 IF) hV hsur ⟨rfl, ?_⟩
  exact zrun 1 (zloc [(0, _), (1, _), (2, _)] rfl (cl_mdp (IF := yU 32 27 1 (yU 32 0 0 IF)) rfl 20 p' 0 (mbf L p p' A) 0 (by omega) nI_0.symm (mbf_V hV) hsur mbf_B hq))
end
