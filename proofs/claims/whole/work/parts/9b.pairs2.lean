/-! class and reference side by side: more calls that only read -/
section
variable {ε : Nat × (Nat → Int32)} {d y : Nat} {o ot it : Value} {IF IG A B : Nat → Nat → Int32} {AL : Nat → Nat → Int64} {AD : Nat → Nat → UInt64} {L p pa ex ey : Nat → Nat} {k : Nat}
theorem nI_nm : ∀ w : Nat, w < 8 → ¬ nI w = -1 := by decide
theorem rn_ex (hC : cR IF A L) (hL : lT L) {x z : Int32} (g : ¬ zIn (L 1) x ∨ xd A 8 x z = false) : ¬ ∃ t s, t < L 1 ∧ s < L 0 - 1 ∧ x = nI t ∧ z = nI s ∧ gD L t s = true := by
  rintro ⟨t, s, ht, hs, rfl, rfl, hv⟩
  rcases g with g | g
  · exact g ⟨t, ht, rfl⟩
  · rw [(xd_z hC hL ht).mpr ⟨s, hs, rfl, hv⟩] at g
    exact Bool.noConfusion g
theorem rn_in (hC : cR IF A L) (hL : lT L) {x z : Int32} (gx : zIn (L 1) x) (g : xd A 8 x z = true) : ∃ t s, t < L 1 ∧ s < L 0 - 1 ∧ x = nI t ∧ z = nI s ∧ gD L t s = true := by
  obtain ⟨t, ht, rfl⟩ := gx
  obtain ⟨s, hs, e, hv⟩ := (xd_z hC hL ht).mp g
  exact ⟨t, s, ht, hs, rfl, e, hv⟩
theorem su_eq (h : gX IF A L p pa ex ey k) {t s : Nat} (ht : t < L 1) (hs : s < L 0 - 1) : A 35 (7 * t + s) = A 21 (xev (nI t) (nI s + 1) true) := by
  have hB := h.1.1.1.1.2.1
  rw [nI_1, xev_n (by omega) (by omega), h.2.2.1.2.1 t s ht (by omega)]
  exact ((h.2.1.1.2.2.2 t ht).1 s (by omega)).symm
theorem j_supplement (h : gX IF A L p pa ex ey k) {x z : Int32} : zW ε false (d + 20) 90 0 [(0, .ref 0), (1, .int x), (2, .int z)] [] (zM o ot it IF A AL AD) 0 0 (zP2 ε (d + 21) 183 [(0, .ref 32), (1, .int x), (2, .int z)] okI (.int 0) [(2, 1)] AL AD) := by
  have hV := mV_of h.1 h.2.2.1
  have hL := h.1.1.1
  have hB := hL.1.2.1
  have hR := h.2.1.1.1.1
  refine c_supplement hR.1.2.1 (by omega) (fun gx ge => p2_ok ⟨_, rfl⟩ fun AL AD => ?_) (fun g => p2_ex (cde := 1) (by simp) fun AL AD => ?_)
  · refine c_msupplement hV (fun t s ht hs hx hz hv => r2 ?_ (gS_0 h) rfl) (fun z => absurd (rn_in hR hL gx ge) z)
    subst hx
    subst hz
    rw [su_eq h ht hs]
  · exact c_msupplement hV (fun t s ht hs hx hz hv => absurd ⟨t, s, ht, hs, hx, hz, hv⟩ (rn_ex hR hL g)) (fun z => r2 rfl (gS_0 h) rfl)
theorem j_buffer (h : gX IF A L p pa ex ey k) {x z : Int32} : zW ε false (d + 20) 91 0 [(0, .ref 0), (1, .int x), (2, .int z)] [] (zM o ot it IF A AL AD) 0 0 (zP2 ε (d + 21) 184 [(0, .ref 32), (1, .int x), (2, .int z)] okI (.int 0) [(2, 1), (3, 2)] AL AD) := by
  have hV := mV_of h.1 h.2.2.1
  have hL := h.1.1.1
  have hB := hL.1.2.1
  have hR := h.2.1.1.1.1
  have ah : ∀ t s, t < L 1 → s < L 0 - 1 → xah A 12 (nI t) (nI s) = oI (gB L p s t) := fun t s ht hs => by
    unfold xah
    rw [m8_nI (by omega), m8_nI (by omega)]
    exact h.2.1.1.1.2.1.2 s hs t ht
  refine c_buffer hR.1.2.1 (by omega) (fun gx ge ga => p2_ok ⟨_, rfl⟩ fun AL AD => ?_) (fun g => p2_ex (cde := 1) (by simp) fun AL AD => ?_) (fun gx ge ga => p2_ex (cde := 2) (by simp) fun AL AD => ?_)
  · refine c_mbuffer hV (fun t s w ht hs hx hz hv hw => r2 ?_ (gS_p h) rfl) (fun z => absurd (rn_in hR hL gx ge) z) (fun t s ht hs hx hz hv hw => ?_)
    · subst hx
      subst hz
      have hwl := gB_some h.1.1.2.1 hs hw
      rw [ah t s ht hs, hw]
      show Value.int (mLy false L p (L 0) 0 A 42 (8 * t + s) - mLy false L p (L 0) 0 A 42 (8 * w + s) - nI (L 3)) = Value.int (A 20 (xev (nI t) (nI s) false) - A 20 (xev (nI w) (nI s) false) - IF 8 3)
      have e1 := pl_of (b := false) h.1 h.2.1 h.2.2.1 ht hv
      have e2 := pl_of (b := false) h.1 h.2.1 h.2.2.1 hwl.1 hwl.2.1
      rw [xev_n (by omega) (by omega), xev_n (by omega) (by omega), hR.1.2.2.2.1]
      rw [show mLy false L p (L 0) 0 A 42 (8 * t + s) = _ from e1, show mLy false L p (L 0) 0 A 42 (8 * w + s) = _ from e2]
    · subst hx
      subst hz
      rw [ah t s ht hs, hw] at ga
      exact absurd rfl ga
  · exact c_mbuffer hV (fun t s w ht hs hx hz hv hw => absurd ⟨t, s, ht, hs, hx, hz, hv⟩ (rn_ex hR hL g)) (fun z => r2 rfl (gS_0 h) rfl) (fun t s ht hs hx hz hv hw => absurd ⟨t, s, ht, hs, hx, hz, hv⟩ (rn_ex hR hL g))
  · refine c_mbuffer hV (fun t s w ht hs hx hz hv hw => ?_) (fun z => absurd (rn_in hR hL gx ge) z) (fun t s ht hs hx hz hv hw => r2 rfl (gS_p2 h) rfl)
    subst hx
    subst hz
    have hwl := gB_some h.1.1.2.1 hs hw
    rw [ah t s ht hs, hw] at ga
    exact absurd (show nI w = -1 from ga) (nI_nm _ (by omega))
theorem j_lastArrival (h : gX IF A L p pa ex ey k) : zW ε false (d + 20) 93 0 [(0, .ref 0)] [] (zM o ot it IF A AL AD) 0 0 (zP2 ε (d + 21) 186 [(0, .ref 32)] okI (.int 0) [(3, 1)] AL AD) := by
  have hV := mV_of h.1 h.2.2.1
  have hL := h.1.1.1
  have hB := hL.1.2.1
  have hR := h.2.1.1.1.1
  refine c_lastArrival hR.1.2.1 (by omega) (fun g => p2_ok ⟨_, rfl⟩ fun AL AD => ?_) (fun g => p2_ex (cde := 1) (by simp) fun AL AD => ?_)
  · refine c_mlastArrival hV (fun _ => r2 ?_ (gS_p h) rfl) (fun z => absurd z (by omega))
    rw [la_eq (B := mLy false L p (L 0) 0 A) hR hL (fun t ht => ?_) (L 1) 0 0 (by omega)]
    have hk := hL.1.2.2.2.2.2.1 t ht
    unfold trOk at hk
    refine pl_of (b := true) h.1 h.2.1 h.2.2.1 ht ?_
    show gA L t (tr L t 1) = true
    unfold gA
    rw [decide_eq_true hk.1, decide_eq_true (Nat.le_refl _)]
    rfl
  · exact c_mlastArrival hV (fun z => absurd g (by omega)) (fun z => r2 rfl (gS_0 h) rfl)
theorem j_totalDelay (h : gX IF A L p pa ex ey k) : zW ε false (d + 20) 97 0 [(0, .ref 0)] [] (zM o ot it IF A AL AD) 0 0 (zP2 ε (d + 20) 190 [(0, .ref 32)] okI (.int 0) [] AL AD) := by
  have hV := mV_of h.1 h.2.2.1
  have hL := h.1.1.1
  have hB := hL.1.2.1
  have hR := h.2.1.1.1.1
  refine c_totalDelay hR.1.1 (by omega) hR.1.2.1 (by omega) (p2_ok ⟨_, rfl⟩ fun AL AD => ?_)
  refine c_mtotalDelay hV (r2 ?_ (gS_a h) rfl)
  rw [sd_eq hR hL (gM_of h.1 h.2.1 h.2.2.1).1 (L 1) 0 0 (by omega)]
theorem j_lateTrains (h : gX IF A L p pa ex ey k) : zW ε false (d + 20) 98 0 [(0, .ref 0)] [] (zM o ot it IF A AL AD) 0 0 (zP2 ε (d + 20) 192 [(0, .ref 32)] okI (.int 0) [] AL AD) := by
  have hV := mV_of h.1 h.2.2.1
  have hL := h.1.1.1
  have hB := hL.1.2.1
  have hR := h.2.1.1.1.1
  refine c_lateTrains hR.1.2.1 (by omega) (p2_ok ⟨_, rfl⟩ fun AL AD => ?_)
  refine c_mlateTrains hV (r2 ?_ (gS_a h) rfl)
  rw [ls_eq hR hL (gM_of h.1 h.2.1 h.2.2.1).1 (L 1) 0 0 (by omega)]
theorem j_punctuality (h : gX IF A L p pa ex ey k) {x : Int32} : zW ε false (d + 20) 99 0 [(0, .ref 0), (1, .int x)] [] (zM o ot it IF A AL AD) 0 0 (zP2 ε (d + 21) 193 [(0, .ref 32), (1, .int x)] okD (.double FP.dconst0) [(1, 1), (3, 2)] AL AD) := by
  have hV := mV_of h.1 h.2.2.1
  have hL := h.1.1.1
  have hB := hL.1.2.1
  have hR := h.2.1.1.1.1
  have e := pu_eq hR hL (gM_of h.1 h.2.1 h.2.2.1).1 (th := x)
  have e1 : xpu A (L 1) x = mpu (mls (mLw L p pa A) L x (L 1) 0 0) (L 1) 0 0 := e.1
  refine c_punctuality hR.1.2.1 (by omega) (fun g => by rw [e1]; exact e.2 g) (fun gx g => p2_ok ⟨_, rfl, by rw [e1]; exact e.2 g⟩ fun AL AD => ?_) (fun g => p2_ex (cde := 1) (by simp) fun AL AD => ?_) (fun gx g => p2_ex (cde := 2) (by simp) fun AL AD => ?_)
  · exact c_mpunctuality hV e.2 (fun _ _ => r2 (by rw [e1]) (gS_a h) rfl) (fun z => absurd gx z) (fun _ z => absurd z (by omega))
  · exact c_mpunctuality hV e.2 (fun z _ => absurd z g) (fun _ => r2 rfl (gS_0 h) rfl) (fun z _ => absurd z g)
  · exact c_mpunctuality hV e.2 (fun _ z => absurd z (by omega)) (fun z => absurd gx z) (fun _ _ => r2 rfl (gS_0 h) rfl)
theorem j_isKept (h : gX IF A L p pa ex ey k) {x : Int32} : zW ε false (d + 20) 100 0 [(0, .ref 0), (1, .int x)] [] (zM o ot it IF A AL AD) 0 0 (zP2 ε (d + 21) 194 [(0, .ref 32), (1, .int x)] okZ (.int 0) [(2, 1)] AL AD) := by
  have hV := mV_of h.1 h.2.2.1
  have hL := h.1.1.1
  have hB := hL.1.2.1
  have hR := h.2.1.1.1.1
  have g0 := gM_of h.1 h.2.1 h.2.2.1
  have hb : ∀ c, c < L 2 → (∃ v : Bool, mLw L p pa A 46 c = zbo v) ∧ narrow .boolean (.int (mLw L p pa A 46 c)) = .int (mLw L p pa A 46 c) := fun c hc => ⟨⟨_, g0.2.1 c hc⟩, by rw [g0.2.1 c hc]; exact zbo_n _⟩
  refine c_isKept hR.1.2.2.1 (by omega) (fun gx => p2_ok ⟨_, rfl⟩ fun AL AD => ?_) (fun gx => p2_ex (cde := 1) (by simp) fun AL AD => ?_)
  · refine c_misKept hV hb (fun c hc hx => r2 ?_ (gS_a h) rfl) (fun z => absurd gx z)
    subst hx
    rw [xW_n hR hL g0.1 (by omega) h.2.1.1.2.1.2.1 hc, g0.2.1 c hc]
  · exact c_misKept hV hb (fun c hc hx => absurd ⟨c, hc, hx⟩ gx) (fun _ => r2 rfl (gS_0 h) rfl)
theorem j_missed (h : gX IF A L p pa ex ey k) : zW ε false (d + 20) 101 0 [(0, .ref 0)] [] (zM o ot it IF A AL AD) 0 0 (zP2 ε (d + 20) 195 [(0, .ref 32)] okI (.int 0) [] AL AD) := by
  have hV := mV_of h.1 h.2.2.1
  have hL := h.1.1.1
  have hB := hL.1.2.1
  have hR := h.2.1.1.1.1
  have g0 := gM_of h.1 h.2.1 h.2.2.1
  refine c_missed hR.1.2.2.1 (by omega) (p2_ok ⟨_, rfl⟩ fun AL AD => ?_)
  refine c_mmissed hV (r2 ?_ (gS_a h) rfl)
  rw [mi_eq hR hL g0.1 (by omega) h.2.1.1.2.1.2.1 g0.2.1 (L 2) 0 0 (by omega)]
theorem j_recovery (h : gX IF A L p pa ex ey k) : zW ε false (d + 20) 103 0 [(0, .ref 0)] [] (zM o ot it IF A AL AD) 0 0 (zP2 ε (d + 20) 199 [(0, .ref 32)] okI (.int 0) [] AL AD) := by
  have hV := mV_of h.1 h.2.2.1
  have hL := h.1.1.1
  have hB := hL.1.2.1
  have hR := h.2.1.1.1.1
  refine c_recovery hR.1.1 (by omega) hR.1.2.1 (by omega) (p2_ok ⟨_, rfl⟩ fun AL AD => ?_)
  refine c_mrecovery hV (r2 ?_ (gS_a h) rfl)
  have e := ld_eq hR hL (gM_of h.1 h.2.1 h.2.2.1).1 (L 1) 0 0 (by omega) (by omega)
  rw [nI_0] at e
  rw [← e]
  rfl
theorem j_cause (h : gX IF A L p pa ex ey k) {x z w : Int32} {b : Bool} (hb : w = zbo b) : zW ε false (d + 20) 102 0 [(0, .ref 0), (1, .int x), (2, .int z), (3, .int w)] [] (zM o ot it IF A AL AD) 0 0 (zP2 ε (d + 21) 198 [(0, .ref 32), (1, .int x), (2, .int z), (3, .int w)] okI (.int 0) [(2, 1), (3, 2)] AL AD) := by
  have hV := mV_of h.1 h.2.2.1
  have hL := h.1.1.1
  have hB := hL.1.2.1
  have hR := h.2.1.1.1.1
  have g0 := gM_of h.1 h.2.1 h.2.2.1
  have hn : ∀ t s, t < L 1 → s < L 0 → x = nI t → z = nI s → b = true → gA L t s = true → ¬ mLw L p pa A 45 (8 * t + s) = mLw L p pa A 43 (8 * t + s) → ¬ mLw L p pa A 45 (8 * t + s) = mLw L p pa A 44 (8 * t + (s - 1)) + nI (L (13 + (s - 1)) * tr L t 3) + mLw L p pa A 40 (8 * t + s) → ¬ gB L pa (s - 1) t = none := fun t s ht hs _ _ _ hv e1 e2 => by
    have hv2 : gE L t s true = true := hv
    have g1 := g0.1 t s true ht hv2
    rw [cau_in hL g0.1 g0.2.2 ht hv2, show mLw L p pa A 45 (8 * t + s) = _ from g1.1.2] at e2
    rw [show mLw L p pa A 45 (8 * t + s) = _ from g1.1.2, show mLw L p pa A 43 (8 * t + s) = _ from g1.1.1] at e1
    have S2 : Sol L pa (tn (A 20)) (tn (A 24)) false (tn (A 23)) 256 := Sol_fx hL h.2.1.2.2 (fun t s b ht hv => ⟨rfl, by
      show (A 24 (8 * t + s + cond b 64 0)).toBitVec.toNat = _
      rw [(h.2.1.1.2.2.1 t s b ht hv).2.1]
      exact pk_tn (by have := Inv_ey h.1 ht hv; omega)⟩)
    refine ca_nn hL h.1.1.2.2 S2 ht hv2 (fun q => e1 ?_) (fun q => e2 ?_)
    · rw [← nI_tn (A (rT 22) _), ← nI_tn (A (rF 22) _)]
      exact congrArg nI q
    · rw [← nI_tn (A (rT 22) _)]
      exact congrArg nI q
  refine c_cause hR.1.1 (by omega) hR.1.2.1 (by omega) hb (fun gx gz ge => p2_ok ⟨_, rfl⟩ fun AL AD => ?_) (fun g => p2_ex (cde := 1) (by simp) fun AL AD => ?_) (fun gx gz ge => p2_ex (cde := 2) (by simp) fun AL AD => ?_)
  · refine c_mcause hV hb hn (fun t s ht hs hx hz hv => r2 ?_ (gS_a h) rfl) (fun z => absurd z (fun z => z.elim (fun z => z gx) (fun z => z gz))) (fun t s ht hs hx hz hv => ?_)
    · subst hx
      subst hz
      rw [ca_eq hR hL h.1.1.2.2 h.2.1.1.1.2.2 g0.1 g0.2.2 ht hv]
    · subst hx
      subst hz
      rw [xe_n hR hL ht (by omega), hv] at ge
      exact Bool.noConfusion ge
  · exact c_mcause hV hb hn (fun t s ht hs hx hz hv => absurd g (fun g => g.elim (fun g => g ⟨t, ht, hx⟩) (fun g => g ⟨s, hs, hz⟩))) (fun z => r2 rfl (gS_0 h) rfl) (fun t s ht hs hx hz hv => absurd g (fun g => g.elim (fun g => g ⟨t, ht, hx⟩) (fun g => g ⟨s, hs, hz⟩)))
  · refine c_mcause hV hb hn (fun t s ht hs hx hz hv => ?_) (fun z => absurd z (fun z => z.elim (fun z => z gx) (fun z => z gz))) (fun t s ht hs hx hz hv => r2 rfl (gS_0 h) rfl)
    subst hx
    subst hz
    rw [xe_n hR hL ht (by omega), hv] at ge
    exact Bool.noConfusion ge
end
