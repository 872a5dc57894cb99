/-! class and reference side by side: the plan and the delays -/
section
variable {ε : Nat × (Nat → Int32)} {d y : Nat} {o ot it : Value} {IF IG A B : Nat → Nat → Int32} {AL : Nat → Nat → Int64} {AD : Nat → Nat → UInt64} {L p pa ex ey : Nat → Nat} {k : Nat}
theorem j_setSupplement (h : gX IF A L p pa ex ey k) {x z w : Int32} : zW ε false (d + 20) 89 0 [(0, .ref 0), (1, .int x), (2, .int z), (3, .int w)] [] (zM o ot it IF A AL AD) 0 0 (zP2 ε (d + 21) 182 [(0, .ref 32), (1, .int x), (2, .int z), (3, .int w)] okI (.int 0) [(2, 1), (1, 2)] AL AD) := by
  have hV := mV_of h.1 h.2.2.1
  have hL := h.1.1.1
  have hB := hL.1.2.1
  have hR := h.2.1.1.1.1
  obtain ⟨n, T, ht⟩ := h.2.2.2
  refine c_setSupplement hR.1.1 (by omega) hR.1.2.1 (by omega) hR.1.2.2.1 (by omega) (fun gx ge gw => p2_ok ⟨_, rfl⟩ fun AL AD => ?_) (fun g => p2_ex (cde := 1) (by simp) fun AL AD => ?_) (fun gx ge gw => p2_ex (cde := 2) (by simp) fun AL AD => ?_)
  · obtain ⟨t, s, ht1, hs, rfl, rfl, hv⟩ := rn_in hR hL gx ge
    obtain ⟨m, hm, rfl⟩ := gw
    have i2 := su_i (m := m) h.1 ht1 hv (by omega)
    have c2 := cc_v i2 (su_c (m := m) h.1 h.2.1.1 ht1 hv)
    obtain ⟨c3, f, g, e⟩ := c2
    have fr : ∀ j, (j < 20 ∨ 23 < j) → xsu IF (L 2) (L 1) (L 0) (nI t) (nI s) (nI m) A j = A j := fun j hj => by
      unfold xsu
      rw [e, vu_n (by omega), vu_n (by omega), vu_n (by omega)]
    have m2 : mG IF (xsu IF (L 2) (L 1) (L 0) (nI t) (nI s) (nI m) A) L p pa ex ey k := mG_fr h.2.2.1 (fun j hj => fr j (by omega)) rfl
    refine c_msetSupplement (mV_of h.1 m2) (fun t' s' ht' hs' hx hz hv' gw' => r2 ?_ ?_ rfl) (fun z => absurd ⟨t, s, ht1, hs, rfl, rfl, hv⟩ z) (fun _ z => absurd ⟨m, hm, rfl⟩ z)
    · have e1 := nI_ij (n := 8) (by omega) (by omega) (by omega) hx
      have e2 := nI_ij (n := 8) (by omega) (by omega) (by omega) hz
      subst e1
      subst e2
      rw [fr 35 (by omega), su_eq h ht1 hs]
    · have e1 := nI_ij (n := 8) (by omega) (by omega) (by omega) hx
      have e2 := nI_ij (n := 8) (by omega) (by omega) (by omega) hz
      subst e1
      subst e2
      refine gX_s ⟨i2, cG_fr c3 (fun j hj => vu_n (by omega)) (fun c hc => ?_), mG_f2 (su_m (m := m) h.1 m2 ht1 hv) rfl rfl rfl rfl rfl rfl rfl, n, T, tX_fr ht ?_ rfl rfl rfl ?_ ?_⟩
      · funext j
        exact yU_n (by omega)
      · funext j
        exact yU_n (by omega)
      · exact fr 3 (by omega)
      · exact fr 41 (by omega)
  · exact c_msetSupplement hV (fun t s ht hs hx hz hv _ => absurd ⟨t, s, ht, hs, hx, hz, hv⟩ (rn_ex hR hL g)) (fun z => r2 rfl (gS_0 h) rfl) (fun z _ => absurd z (rn_ex hR hL g))
  · exact c_msetSupplement hV (fun t s ht hs hx hz hv z => absurd z gw) (fun z => absurd (rn_in hR hL gx ge) z) (fun _ _ => r2 rfl (gS_0 h) rfl)
theorem j_disturb (h : gX IF A L p pa ex ey k) {x z v w : Int32} {b : Bool} (hb : v = zbo b) : zW ε false (d + 20) 94 0 [(0, .ref 0), (1, .int x), (2, .int z), (3, .int v), (4, .int w)] [] (zM o ot it IF A AL AD) 0 0 (zP2 ε (d + 21) 187 [(0, .ref 32), (1, .int x), (2, .int z), (3, .int v), (4, .int w)] okI (.int 0) [(2, 1), (1, 2), (3, 3), (0, 4)] AL AD) := by
  have hV := mV_of h.1 h.2.2.1
  have hL := h.1.1.1
  have hB := hL.1.2.1
  have hR := h.2.1.1.1.1
  have hk := h.2.1.1.2.1.2.2.2
  have hk2 := h.2.2.1.2.2.2
  have hk20 := h.1.2.2.2.2
  obtain ⟨n, T, ht⟩ := h.2.2.2
  have nex : ∀ (t s : Nat), x = nI t → z = nI s → (¬ zIn (L 1) x ∨ ¬ zIn (L 0) z) → t < L 1 → s < L 0 → False := fun t s hx hz g ht hs => g.elim (fun g => g ⟨t, ht, hx⟩) (fun g => g ⟨s, hs, hz⟩)
  refine c_disturb hR.1.1 (by omega) hR.1.2.1 (by omega) hR.1.2.2.1 (by omega) hk hk20 hb (fun gx gz g1 g2 ge gk => p2_ok ⟨_, rfl⟩ fun AL AD => ?_) (fun g => p2_ex (cde := 1) (by simp) fun AL AD => ?_) (fun gx gz g1 => p2_ex (cde := 2) (by simp) fun AL AD => ?_) (fun gx gz g1 g2 ge => p2_ex (cde := 3) (by simp) fun AL AD => ?_) (fun gx gz g1 g2 ge gk => p2_ex (cde := 4) (by simp) fun AL AD => ?_)
  · obtain ⟨t, ht1, rfl⟩ := gx
    obtain ⟨s, hs, rfl⟩ := gz
    rw [xe_n hR hL ht1 (by omega)] at ge
    have g3 : ¬ w < 0 := fun q => g1 (by rw [Int32.lt_iff_toInt_lt] at q ⊢; have e0 : (0 : Int32).toInt = 0 := rfl; have e1 : (1 : Int32).toInt = 1 := rfl; omega)
    obtain ⟨m, hm, rfl⟩ := zIn_le (n := 120) (by omega) g3 (show w ≤ nI 120 from g2)
    have i2 := du_i (m := m) h.1 ht1 ge (by omega) gk
    have c2 := ca_v (kc := k) i2 (du_c (m := m) h.1 h.2.1.1 ht1 ge) h.2.1.2.1
    obtain ⟨c3, f, e⟩ := c2
    have fr : ∀ j, (j < 23 ∨ 24 < j) → xdu IF (L 2) (L 1) (L 0) (nI t) (nI s) (nI m) b A j = A j := fun j hj => by
      unfold xdu
      rw [e, vu_n (by omega), vu_n (by omega)]
    have c4 : cG (va_up IF 0 (upd (IF 0) 8 (nI k + 1))) (xdu IF (L 2) (L 1) (L 0) (nI t) (nI s) (nI m) b A) L p pa ex (va_up ey (8 * t + s + cond b 64 0) (ey (8 * t + s + cond b 64 0) + m)) (k + 1) := cG_0 c3 (by rw [upd_s, nI_1])
    have m2 : mG (va_up IF 0 (upd (IF 0) 8 (nI k + 1))) (xdu IF (L 2) (L 1) (L 0) (nI t) (nI s) (nI m) b A) L p pa ex ey k := mG_fr h.2.2.1 (fun j hj => fr j (by omega)) rfl
    refine c_mdisturb (IF := va_up IF 0 (upd (IF 0) 8 (nI k + 1))) (mV_of h.1 m2) hk2 hk20 hb (fun t' s' ht' hs' hx hz gw' hv' gk' => r2 rfl ?_ rfl) (fun q => (nex t s rfl rfl q ht1 hs).elim) (fun _ _ q => absurd ⟨g1, fun w => i32_ngt w g2⟩ q) (fun t' s' ht' hs' hx hz gw' hv' => ?_) (fun t' s' ht' hs' hx hz gw' hv' gk' => absurd gk (by omega))
    · have e1 := nI_ij (n := 8) (by omega) (by omega) (by omega) hx
      have e2 := nI_ij (n := 8) (by omega) (by omega) (by omega) hz
      subst e1
      subst e2
      refine gX_s ⟨i2, cG_fr c4 (fun j hj => vu_n (by
        cases b
        · show ¬ j = 39
          omega
        · show ¬ j = 40
          omega)) (fun c hc => ?_), du_m (m := m) h.1 m2 ht1 ge (nI_1 k), n, T, tX_fr ht ?_ rfl rfl rfl ?_ ?_⟩
      · funext j
        rw [yU_n (by omega), yU_n (by omega)]
      · rfl
      · rw [vu_n (by cases b <;> decide)]
        exact fr 3 (by omega)
      · rw [vu_n (by cases b <;> decide)]
        exact fr 41 (by omega)
    · have e1 := nI_ij (n := 8) (by omega) (by omega) (by omega) hx
      have e2 := nI_ij (n := 8) (by omega) (by omega) (by omega) hz
      subst e1
      subst e2
      rw [ge] at hv'
      exact Bool.noConfusion hv'
  · exact c_mdisturb hV hk2 hk20 hb (fun t s ht hs hx hz _ _ _ => (nex t s hx hz g ht hs).elim) (fun _ => r2 rfl (gS_0 h) rfl) (fun qx qz _ => absurd g (fun g => g.elim (fun g => g qx) (fun g => g qz))) (fun t s ht hs hx hz _ _ => (nex t s hx hz g ht hs).elim) (fun t s ht hs hx hz _ _ _ => (nex t s hx hz g ht hs).elim)
  · have g3 : ¬ (¬ w < 1 ∧ ¬ 120 < w) := fun q => g1.elim q.1 (fun z => q.2 (i32_nle z))
    exact c_mdisturb hV hk2 hk20 hb (fun t s ht hs hx hz q _ _ => absurd q g3) (fun q => absurd q (fun q => q.elim (fun q => q gx) (fun q => q gz))) (fun _ _ _ => r2 rfl (gS_0 h) rfl) (fun t s ht hs hx hz q _ => absurd q g3) (fun t s ht hs hx hz q _ _ => absurd q g3)
  · have g3 : ∀ t s, t < L 1 → s < L 0 → x = nI t → z = nI s → gE L t s b = true → False := fun t s ht hs hx hz hv => by
      subst hx
      subst hz
      rw [xe_n hR hL ht (by omega), hv] at ge
      exact Bool.noConfusion ge
    exact c_mdisturb hV hk2 hk20 hb (fun t s ht hs hx hz _ hv _ => (g3 t s ht hs hx hz hv).elim) (fun q => absurd q (fun q => q.elim (fun q => q gx) (fun q => q gz))) (fun _ _ q => absurd ⟨g1, fun w => i32_ngt w g2⟩ q) (fun t s ht hs hx hz _ _ => r2 rfl (gS_0 h) rfl) (fun t s ht hs hx hz _ hv _ => (g3 t s ht hs hx hz hv).elim)
  · have g3 : ∀ t s, t < L 1 → s < L 0 → x = nI t → z = nI s → gE L t s b = false → False := fun t s ht hs hx hz hv => by
      subst hx
      subst hz
      rw [xe_n hR hL ht (by omega), hv] at ge
      exact Bool.noConfusion ge
    exact c_mdisturb hV hk2 hk20 hb (fun t s ht hs hx hz _ hv q => absurd q (by omega)) (fun q => absurd q (fun q => q.elim (fun q => q gx) (fun q => q gz))) (fun _ _ q => absurd ⟨g1, fun w => i32_ngt w g2⟩ q) (fun t s ht hs hx hz _ hv => (g3 t s ht hs hx hz hv).elim) (fun t s ht hs hx hz _ hv _ => r2 rfl (gS_0 h) rfl)
theorem j_clear (h : gX IF A L p pa ex ey k) : zW ε false (d + 20) 95 0 [(0, .ref 0)] [] (zM o ot it IF A AL AD) 0 0 (zP2 ε (d + 20) 188 [(0, .ref 32)] okI (.int 0) [] AL AD) := by
  have hL := h.1.1.1
  have hB := hL.1.2.1
  have hR := h.2.1.1.1.1
  have hk := h.2.1.1.2.1.2.2.2
  have hk2 := h.2.2.1.2.2.2
  obtain ⟨n, T, ht⟩ := h.2.2.2
  refine c_clear hR.1.1 (by omega) hR.1.2.1 (by omega) hR.1.2.2.1 (by omega) (p2_ok ⟨_, rfl⟩ fun AL AD => ?_)
  obtain ⟨c1, fr⟩ := cl_c h.1 h.2.1
  have m1 : mG (xbI IF) (xcl IF (L 2) (L 1) (L 0) A) L p pa ex ey k := mG_fr h.2.2.1 (fun j hj => fr j (by omega)) rfl
  refine c_mclear (r2 ?_ ?_ rfl)
  · show Value.int (IF 32 9) = _
    rw [hk, hk2]
  · refine gX_s ⟨cl_i h.1, cG_fr c1 (fun j hj => ?_) (fun c hc => ?_), cl_m h.1 m1 rfl, n, T, tX_fr ht rfl rfl rfl rfl ?_ ?_⟩
    · unfold mF0
      rw [vu_n (by omega), vu_n (by omega), vu_n (by omega)]
    · funext j
      rw [yU_n (by omega), yU_n (by omega)]
    · exact fr 3 (by omega)
    · exact fr 41 (by omega)
end
