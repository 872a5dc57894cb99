/-! class and reference side by side: bestOvertaking, dispatch -/
section
variable {ε : Nat × (Nat → Int32)} {d y : Nat} {o ot it : Value} {IF IG A B : Nat → Nat → Int32} {AL : Nat → Nat → Int64} {AD : Nat → Nat → UInt64} {L p pa ex ey : Nat → Nat} {k : Nat}
theorem ov_f (h : Inv L p pa ex ey k) (hc : cG IF A L p pa ex ey k) {a b s : Nat} (ha : a < L 1) (hb : b < L 1) (hs : s < L 0 - 1) (h1 : L (5 + s) = 1) (hm : gMo pa (L 1) a b (L 0 - 1 - s) s = true) : ∀ j, ¬ j = 16 → ¬ j = 17 → ¬ j = 23 → xov IF (L 2) (L 1) (L 0) s (nI a) (nI b) A j = A j := by
  obtain ⟨x1, x2, f, g, e⟩ := ps_v (k := 15) h.1.1 h.1.2.2 (Or.inr rfl) hc.1.1.1 hc.1.1.2.2 ha hb hs h1 hm
  have cH1 : cH IF (va_up (va_up A (15 + 1) f) (15 + 2) g) L p (gC2 (L 1) a b (L 0 - 1 - s) s pa) ex ey k := by
    rw [e] at x1
    exact ⟨⟨cR_fr hc.1.1.1 rfl rfl rfl rfl, cO_fr hc.1.1.2.1 rfl rfl, x1⟩, hc.1.2.1, hc.1.2.2.1, hc.1.2.2.2⟩
  obtain ⟨y, f2, e2⟩ := ca_v (ov_i h ha hb h1) cH1 hc.2.1
  intro j h2 h3 h4
  unfold xov
  rw [e, e2, vu_n h4, vu_n h3, vu_n h2]
theorem bf_eq (h : Inv L p pa ex ey k) (hc : cG IF A L p pa ex ey k) (hm : mG IG B L p pa ex ey k) : (xfb IF (L 2) (L 1) (L 0) A).1 = (mbf L p pa B).2.2 ∧ bV false L pa (mbf L p pa B).2 ∧ cG IF (xfb IF (L 2) (L 1) (L 0) A).2 L p pa ex ey k ∧ (∀ j, ¬ j = 16 → ¬ j = 17 → ¬ j = 23 → (xfb IF (L 2) (L 1) (L 0) A).2 j = A j) ∧ bM IG B (mbf L p pa B).1 L p pa ex ey k := by
  have hL := h.1.1
  have hB := hL.1.2.1
  have es : xsd2 A 22 (L 0) (L 1) 0 0 = mds2 (mLw L p pa B) L (L 1) 0 0 := sd_eq hc.1.1.1 hL (gM2 h hc hm) (L 1) 0 0 (by omega)
  obtain ⟨w, hw, ew⟩ := nn2 h hc hm
  have fr : ∀ j, j < 42 → mLw L p pa B j = B j := fun j hj => mLw_o (Or.inl hj)
  have hM0 : bM IG B (mLw L p pa B) L p pa ex ey k := ⟨mG_f2 hm (fr 33 (by omega)) (fr 35 (by omega)) (fr 36 (by omega)) (fr 37 (by omega)) (fr 39 (by omega)) (fr 40 (by omega)) rfl, fr⟩
  have hK0 : bK IF A A L p pa ex ey k := ⟨hc.1, hc.2.1, fun _ _ _ _ => rfl⟩
  by_cases e0 : xsd2 A 22 (L 0) (L 1) 0 0 = 0
  · have q := bf_4 (z := true) (IF := IF) (IG := IG) (A0 := A) (B0 := B) h (L 0 - 1) 0 (A, xsd2 A 22 (L 0) (L 1) 0 0, -1) (mLw L p pa B, mds2 (mLw L p pa B) L (L 1) 0 0, -1) (by omega) ⟨hK0, hM0, by rw [es], ⟨Or.inl rfl, fun _ => by rw [e0]⟩, w, hw, by rw [es]; exact ew⟩
    change bT true IF A IG B L p pa ex ey k _ (mbf L p pa B) at q
    have e1 : xfb IF (L 2) (L 1) (L 0) A = (-1, A) := if_pos e0
    have e2 := q.2.2.2.1.2 rfl
    rw [q.2.2.1] at e2
    rw [e1]
    refine ⟨by rw [e2], ⟨Or.inl (by rw [e2]), fun z => Bool.noConfusion z⟩, hc, fun _ _ _ _ => rfl, q.2.1⟩
  · have q := bf_4 (z := false) (IF := IF) (IG := IG) (A0 := A) (B0 := B) h (L 0 - 1) 0 (A, xsd2 A 22 (L 0) (L 1) 0 0, -1) (mLw L p pa B, mds2 (mLw L p pa B) L (L 1) 0 0, -1) (by omega) ⟨hK0, hM0, by rw [es], ⟨Or.inl rfl, fun z => Bool.noConfusion z⟩, w, hw, by rw [es]; exact ew⟩
    change bT false IF A IG B L p pa ex ey k (xbB IF (L 2) (L 1) (L 0) A) (mbf L p pa B) at q
    have e1 : xfb IF (L 2) (L 1) (L 0) A = ((xbB IF (L 2) (L 1) (L 0) A).2.2, xCo IF 22 (L 2) (L 1) (L 0) 0 (xbB IF (L 2) (L 1) (L 0) A).1) := if_neg e0
    obtain ⟨y1, f, ef⟩ := ca_v h q.1.1 q.1.2.1
    rw [e1]
    refine ⟨by rw [q.2.2.1], by rw [← q.2.2.1]; exact q.2.2.2.1, y1, fun j h1 h2 h3 => ?_, q.2.1⟩
    show xCo IF 22 (L 2) (L 1) (L 0) 0 (xbB IF (L 2) (L 1) (L 0) A).1 j = _
    rw [ef, vu_n h3]
    exact q.1.2.2 j h1 h2 h3
theorem j_bestOvertaking (h : gX IF A L p pa ex ey k) : zW ε false (d + 20) 105 0 [(0, .ref 0)] [] (zM o ot it IF A AL AD) 0 0 (zP2 ε (d + 20) 202 [(0, .ref 32)] okI (.int 0) [] AL AD) := by
  have hL := h.1.1.1
  have hB := hL.1.2.1
  have hR := h.2.1.1.1.1
  obtain ⟨n, T, ht⟩ := h.2.2.2
  have hsur : ∀ a, a < L 1 → ∀ g, g < L 0 - 1 → ∃ j, j < L 1 ∧ pa (8 * g + j) = a := fun a ha g hg => h.1.1.2.2.2.2.1 g hg a ha
  refine c_bestOvertaking hR.1.1 hL.2 (by omega) hR.1.2.1 (by omega) hR.1.2.2.1 (by omega) (p2_ok ⟨_, rfl⟩ fun AL AD => ?_)
  have fr : ∀ j, ¬ j = 16 → ¬ j = 17 → ¬ j = 23 → (xfb IF (L 2) (L 1) (L 0) A).2 j = A j := (bf_eq h.1 h.2.1 h.2.2.1).2.2.2.1
  have m1 : mG IF (xfb IF (L 2) (L 1) (L 0) A).2 L p pa ex ey k := mG_fr h.2.2.1 (fun j hj => fr j (by omega) (by omega) (by omega)) rfl
  obtain ⟨q1, q2, q3, q4, q5⟩ := bf_eq h.1 h.2.1 m1
  generalize xfb IF (L 2) (L 1) (L 0) A = F at fr m1 q1 q3 q4 q5 ⊢
  refine c_mbestOvertaking (mV_of h.1 m1) hsur (r2 (by rw [q1]) ?_ rfl)
  have X2 : gX IF F.2 L p pa ex ey k := ⟨h.1, q3, m1, n, T, tX_fr ht rfl rfl rfl rfl (fr 3 (by omega) (by omega) (by omega)) (fr 41 (by omega) (by omega) (by omega))⟩
  exact gX_s (gX_r X2 (fun j h1 _ => q5.2 j h1) (fun c j q => by rw [yU_n (by omega), yU_n (by omega)]))
/-- dispatch -/
theorem dp_eq : ∀ (n i : Nat) (pa : Nat → Nat) (A B : Nat → Nat → Int32), Inv L p pa ex ey k → cG IF A L p pa ex ey k → mG IG B L p pa ex ey k → (xdp IF (L 2) (L 1) (L 0) n i A).1 = (mdp L p n pa i (mbf L p pa B)).1 ∧ (∃ pb, Inv L p pb ex ey k ∧ cG IF (xdp IF (L 2) (L 1) (L 0) n i A).2 L p pb ex ey k ∧ mG IG (mdp L p n pa i (mbf L p pa B)).2 L p pb ex ey k) ∧ (∀ j, ¬ j = 16 → ¬ j = 17 → ¬ j = 23 → (xdp IF (L 2) (L 1) (L 0) n i A).2 j = A j) ∧ (∀ j, j < 42 → ¬ j = 37 → (mdp L p n pa i (mbf L p pa B)).2 j = B j) := by
  intro n
  induction n with
  | zero =>
    intro i pa A B h hc hm
    have q := bf_eq h hc hm
    exact ⟨rfl, ⟨pa, h, hc, q.2.2.2.2.1⟩, fun _ _ _ _ => rfl, fun j hj _ => q.2.2.2.2.2 j hj⟩
  | succ n ih =>
    intro i pa A B h hc hm
    have hL := h.1.1
    have hB := hL.1.2.1
    obtain ⟨q1, q2, q3, q4, q5⟩ := bf_eq h hc hm
    have e1 : xdp IF (L 2) (L 1) (L 0) (n + 1) i A = if (xfb IF (L 2) (L 1) (L 0) A).1 = -1 then (i, (xfb IF (L 2) (L 1) (L 0) A).2) else xdp IF (L 2) (L 1) (L 0) n (i + 1) (xov IF (L 2) (L 1) (L 0) (((xfb IF (L 2) (L 1) (L 0) A).1 / 100).toBitVec.toNat) ((xfb IF (L 2) (L 1) (L 0) A).1 / 10 - (xfb IF (L 2) (L 1) (L 0) A).1 / 10 / 10 * 10) ((xfb IF (L 2) (L 1) (L 0) A).1 - (xfb IF (L 2) (L 1) (L 0) A).1 / 10 * 10) (xfb IF (L 2) (L 1) (L 0) A).2) := rfl
    have e2 : mdp L p (n + 1) pa i (mbf L p pa B) = if (mbf L p pa B).2.2 = -1 then (i, (mbf L p pa B).1) else mdp L p n (mdA L pa (mbf L p pa B).2.2) (i + 1) (mbf L p (mdA L pa (mbf L p pa B).2.2) (va_up (mbf L p pa B).1 37 (lf (mdA L pa (mbf L p pa B).2.2)))) := rfl
    rw [e1, e2, q1]
    generalize mbf L p pa B = τ at q1 q2 q5 ⊢
    generalize xfb IF (L 2) (L 1) (L 0) A = F at q1 q3 q4 ⊢
    by_cases e0 : τ.2.2 = -1
    · rw [if_pos e0, if_pos e0]
      exact ⟨rfl, ⟨pa, h, q3, q5.1⟩, q4, fun j hj _ => q5.2 j hj⟩
    · rw [if_neg e0, if_neg e0]
      obtain ⟨s, a, b, hs, ha, hb, hg, ev⟩ := q2.1.resolve_left e0
      obtain ⟨h5, hmo⟩ := ov_gs hL (by omega) hg
      have d1 : τ.2.2 / 100 = nI s := by
        rw [ev, show (100 : Int32) = nI 100 from rfl, pk_div (by omega) (by omega) (by omega)]
        congr 1
        omega
      have d2 : τ.2.2 / 10 = nI (10 * s + a) := by
        rw [ev, show (10 : Int32) = nI 10 from rfl, pk_div (by omega) (by omega) (by omega)]
        congr 1
        omega
      have d3 : τ.2.2 / 10 - τ.2.2 / 10 / 10 * 10 = nI a := by
        rw [d2, show (10 : Int32) = nI 10 from rfl, pk_rem (by omega) (by omega) (by omega)]
        congr 1
        omega
      have d4 : τ.2.2 - τ.2.2 / 10 * 10 = nI b := by
        rw [ev, show (10 : Int32) = nI 10 from rfl, pk_rem (by omega) (by omega) (by omega)]
        congr 1
        omega
      have d5 : mdA L pa τ.2.2 = gC2 (L 1) a b (L 0 - 1 - s) s pa := by
        unfold mdA
        rw [ev, pk_tn (by omega), show (100 * s + 10 * a + b) / 10 % 10 = a by omega, show (100 * s + 10 * a + b) % 10 = b by omega, show (100 * s + 10 * a + b) / 100 = s by omega]
      rw [d3, d4, d1, pk_tn (by omega), d5]
      obtain ⟨c1, fr1⟩ := ov_c h q3 ha hb hs h5 hmo
      have fr2 : ∀ j, ¬ j = 16 → ¬ j = 17 → ¬ j = 23 → xov IF (L 2) (L 1) (L 0) s (nI a) (nI b) F.2 j = F.2 j := ov_f h q3 ha hb hs h5 hmo
      obtain ⟨r1, ⟨pb, r2, r3, r4⟩, r5, r6⟩ := ih (i + 1) (gC2 (L 1) a b (L 0 - 1 - s) s pa) _ (va_up τ.1 37 (lf (gC2 (L 1) a b (L 0 - 1 - s) s pa))) (ov_i h ha hb h5) c1 (ov_m q5.1)
      refine ⟨r1, ⟨pb, r2, r3, r4⟩, fun j h1 h2 h3 => ?_, fun j h1 h2 => ?_⟩
      · rw [r5 j h1 h2 h3, fr2 j h1 h2 h3, q4 j h1 h2 h3]
      · rw [r6 j h1 h2, vu_n h2, q5.2 j h1]
theorem j_dispatch (h : gX IF A L p pa ex ey k) : zW ε false (d + 20) 106 0 [(0, .ref 0)] [] (zM o ot it IF A AL AD) 0 0 (zP2 ε (d + 20) 203 [(0, .ref 32)] okI (.int 0) [] AL AD) := by
  have hL := h.1.1.1
  have hB := hL.1.2.1
  have hR := h.2.1.1.1.1
  obtain ⟨n, T, ht⟩ := h.2.2.2
  have hsur : ∀ a, a < L 1 → ∀ g, g < L 0 - 1 → ∃ j, j < L 1 ∧ pa (8 * g + j) = a := fun a ha g hg => h.1.1.2.2.2.2.1 g hg a ha
  refine c_dispatch hR.1.1 hL.2 (by omega) hR.1.2.1 (by omega) hR.1.2.2.1 (by omega) (p2_ok ⟨_, rfl⟩ fun AL AD => ?_)
  have fr : ∀ j, ¬ j = 16 → ¬ j = 17 → ¬ j = 23 → (xdp IF (L 2) (L 1) (L 0) 20 0 A).2 j = A j := (dp_eq 20 0 pa A A h.1 h.2.1 h.2.2.1).2.2.1
  have m1 : mG IF (xdp IF (L 2) (L 1) (L 0) 20 0 A).2 L p pa ex ey k := mG_fr h.2.2.1 (fun j hj => fr j (by omega) (by omega) (by omega)) rfl
  obtain ⟨q1, ⟨pb, q2, q3, q4⟩, -, q6⟩ := dp_eq 20 0 pa A (xdp IF (L 2) (L 1) (L 0) 20 0 A).2 h.1 h.2.1 m1
  generalize xdp IF (L 2) (L 1) (L 0) 20 0 A = F at fr m1 q1 q3 q4 q6 ⊢
  refine c_mdispatch (mV_of h.1 m1) hsur ?_
  generalize mdp L p 20 pa 0 (mbf L p pa F.2) = E at q1 q4 q6 ⊢
  refine r2 (by rw [q1]) ?_ rfl
  have ci : ∀ c j, ¬ (c = 32 ∧ (j = 0 ∨ j = 27)) → yU 32 27 1 (yU 32 0 0 IF) c j = IF c j := fun c j q => by rw [yU_n (by omega), yU_n (by omega)]
  exact gX_s ⟨q2, cG_fr q3 (fun j hj => q6 j (by omega) (by omega)) (fun c hc => funext fun j => ci c j (by omega)), mG_f2 q4 rfl rfl rfl rfl rfl rfl (ci 32 9 (by omega)), n, T, tX_fr ht (funext fun j => ci 2 j (by omega)) (ci 32 11 (by omega)) (ci 32 17 (by omega)) (ci 32 18 (by omega)) ((q6 3 (by omega) (by omega)).trans (fr 3 (by omega) (by omega) (by omega))) ((q6 41 (by omega) (by omega)).trans (fr 41 (by omega) (by omega) (by omega)))⟩
end
