/-! class and reference side by side: leastDelay, distribute -/
section
variable {ε : Nat × (Nat → Int32)} {d y : Nat} {o ot it : Value} {IF IG A B : Nat → Nat → Int32} {AL : Nat → Nat → Int64} {AD : Nat → Nat → UInt64} {L p pa ex ey : Nat → Nat} {k : Nat}
theorem xts_v {t f g : Nat} (ht : t < 8) : ∀ (m i : Nat) (A : Nat → Nat → Int32), f + i + m ≤ 7 → xts (nI t) f g m i A = va_up A 31 (fun j => if i ≤ j ∧ j < i + m then A 21 (8 * t + f + 65 + j) else A 31 j) := by
  intro m
  induction m with
  | zero =>
    intro i A _
    refine (vu_eq ?_).symm
    funext j
    exact (if_neg (fun z => by omega)).symm
  | succ m ih =>
    intro i A hi
    have e : xts (nI t) f g (m + 1) i A = xts (nI t) f g m (i + 1) (va_up A 31 (upd (A 31) i (A 21 (xev (nI t) (nI f + nI i + 1) true)))) := rfl
    have e2 : xev (nI t) (nI f + nI i + 1) true = 8 * t + f + 65 + i := by
      rw [nI_add, nI_1, xev_n ht (by omega)]
      show 8 * t + (f + i + 1) + 64 = _
      omega
    rw [e, e2, ih (i + 1) _ (by omega)]
    funext r
    by_cases hr : r = 31
    · subst hr
      rw [vu_s, vu_s]
      funext j
      rw [vu_s, vu_n (by decide)]
      by_cases h1 : j = i
      · rw [if_neg (by omega), if_pos ⟨by omega, by omega⟩, h1, upd_s]
      · rw [upd_n h1]
        by_cases h2 : i ≤ j ∧ j < i + (m + 1)
        · rw [if_pos h2, if_pos ⟨by omega, by omega⟩]
        · rw [if_neg h2, if_neg (fun z => h2 ⟨by omega, by omega⟩)]
    · rw [vu_n hr, vu_n hr, vu_n hr]
theorem cH_I (h : cH IF A L p pa ex ey k) {f g : Nat} : cH (xlI IF f g) A L p pa ex ey k := ⟨⟨cR_fr h.1.1 rfl rfl rfl rfl, h.1.2.1, h.1.2.2⟩, h.2.1, h.2.2.1, h.2.2.2⟩
theorem mI_i {f g : Nat} (hm : mG IF A L p pa ex ey k) (ha : ∀ j, 32 ≤ j → B j = A j) : mG (xlI IF f g) B L p pa ex ey k := mG_fr hm ha rfl
/-- where a train runs -/
theorem tr_fg (h : gX IF A L p pa ex ey k) {t f g : Nat} (ht : t < L 1) (ef : xo A 8 (nI t) 0 = nI f) (eg : xo A 8 (nI t) 1 = nI g) (hfg : f < g) (hg : g < 8) : f = tr L t 0 ∧ g = tr L t 1 := by
  have hL := h.1.1.1
  have hB := hL.1.2.1
  have hk := hL.1.2.2.2.2.2.1 t ht
  unfold trOk at hk
  rw [xo_n (z := 0) (w := 0) h.2.1.1.1.1 hL ht (by omega) nI_0.symm] at ef
  rw [xo_n (z := 1) (w := 1) h.2.1.1.1.1 hL ht (by omega) rfl] at eg
  exact ⟨nI_ij (n := 8) (by omega) (by omega) (by omega) ef.symm, nI_ij (n := 8) (by omega) (by omega) (by omega) eg.symm⟩
theorem tr_hT (h : gX IF A L p pa ex ey k) {x : Int32} (gx : zIn (L 1) x) : ∃ f g, xo A 8 x 0 = nI f ∧ xo A 8 x 1 = nI g ∧ f < g ∧ g < 8 := by
  obtain ⟨t, ht, rfl⟩ := gx
  have hL := h.1.1.1
  have hB := hL.1.2.1
  have hk := hL.1.2.2.2.2.2.1 t ht
  unfold trOk at hk
  exact ⟨tr L t 0, tr L t 1, xo_n (z := 0) (w := 0) h.2.1.1.1.1 hL ht (by omega) nI_0.symm, xo_n (z := 1) (w := 1) h.2.1.1.1.1 hL ht (by omega) rfl, by omega, by omega⟩
/-- the reference's end: its row of supplements put together -/
theorem lR_g2 (hm : mG IG B L p pa ex ey k) (hX : ∃ n T, tX IG B n T) {t : Nat} {u : Option (Nat × List Nat)} {σ : zP} {ex2 : Nat → Nat} (h2 : Inv L p pa ex2 ey k) (hc2 : cG IG B L p pa ex2 ey k) {v : Int32} (hR : lR (yU 32 0 v IG) (va_up B 49 (cp 7 (fun s => B 35 (7 * t + s)) (B 49))) L t u σ) {f : Nat → Int32} (hf : ∀ w g, w < L 1 → g < 7 → cpo (7 * t) 7 f (σ.2 35) (7 * w + g) = nI (ex2 (8 * w + (g + 1) + 64))) : gS σ.1 (va_up σ.2 35 (cpo (7 * t) 7 f (σ.2 35))) ∧ σ.1 32 0 = v := by
  obtain ⟨n, T, ht2⟩ := hX
  have ci : ∀ c j, ¬ (c = 32 ∧ (j = 32 ∨ j = 27 ∨ j = 0)) → σ.1 c j = IG c j := fun c j q => by rw [hR.1.2.1 c j (by omega), yU_n (by omega)]
  have cr : ∀ j, j < 42 → ¬ j = 35 → va_up σ.2 35 (cpo (7 * t) 7 f (σ.2 35)) j = B j := fun j h1 h3 => by rw [vu_n h3, hR.2.2.1 j (Or.inl h1) h3, vu_n (by omega)]
  refine ⟨gX_s ⟨h2, cG_fr hc2 (fun j hj => cr j (by omega) (by omega)) (fun c hc => funext fun j => ci c j (by omega)), ⟨⟨(cr 33 (by omega) (by omega)).trans hm.1.1, (cr 36 (by omega) (by omega)).trans hm.1.2.1, (cr 37 (by omega) (by omega)).trans hm.1.2.2⟩, fun w g hw hg => ?_, fun w s b hw hv => ?_, (ci 32 9 (by omega)).trans hm.2.2.2⟩, n, T, tX_fr ht2 (funext fun j => ci 2 j (by omega)) (ci 32 11 (by omega)) (ci 32 17 (by omega)) (ci 32 18 (by omega)) (cr 3 (by omega) (by omega)) (cr 41 (by omega) (by omega))⟩, ?_⟩
  · rw [vu_s]
    exact hf w g hw hg
  · rw [cr (cond b 40 39) (by cases b <;> decide) (by cases b <;> decide)]
    exact hm.2.2.1 w s b hw hv
  · rw [hR.1.2.1 32 0 (by omega), yU_s]
theorem j_leastDelay (h : gX IF A L p pa ex ey k) {x w : Int32} : zW ε false (d + 20) 108 0 [(0, .ref 0), (1, .int x), (2, .int w)] [] (zM o ot it IF A AL AD) 0 0 (zP2 ε (d + 21) 207 [(0, .ref 32), (1, .int x), (2, .int w)] okI (.int 0) [(2, 1), (1, 2)] AL AD) := by
  have hV := mV_of h.1 h.2.2.1
  have hL := h.1.1.1
  have hB := hL.1.2.1
  have hR := h.2.1.1.1.1
  obtain ⟨n, T, htx⟩ := h.2.2.2
  refine c_leastDelay hR.1.1 hL.2 (by omega) hR.1.2.1 (by omega) hR.1.2.2.1 (by omega) (tr_hT h) (fun f g ef eg hfg hg8 gx gw => p2_ok ⟨_, rfl⟩ fun AL AD => ?_) (fun gx => p2_ex (cde := 1) (by simp) fun AL AD => ?_) (fun gx gw => p2_ex (cde := 2) (by simp) fun AL AD => ?_)
  · obtain ⟨t, ht, rfl⟩ := gx
    obtain ⟨m, hm, rfl⟩ := gw
    obtain ⟨rfl, rfl⟩ := tr_fg h ht ef eg hfg hg8
    have hk := hL.1.2.2.2.2.2.1 t ht
    unfold trOk at hk
    have e31 := xts_v (f := tr L t 0) (g := tr L t 1) (show t < 8 by omega) (tr L t 1 - tr L t 0) 0 A (by omega)
    have cH1 : cH (xlI IF (tr L t 0) (tr L t 1)) (xts (nI t) (tr L t 0) (tr L t 1) (tr L t 1 - tr L t 0) 0 A) L p pa ex ey k := by
      rw [e31]
      exact cH_up (m := 31) (cH_I h.2.1.1) (by omega)
    obtain ⟨dd, q1, q2⟩ := lC_3 (IF := IF) h.1 ht hm cH1
    have fA1 : ∀ j, ¬ j = 31 → xts (nI t) (tr L t 0) (tr L t 1) (tr L t 1 - tr L t 0) 0 A j = A j := fun j hj => by rw [e31, vu_n hj]
    have r31 : ∀ i, i < tr L t 1 - tr L t 0 → xts (nI t) (tr L t 0) (tr L t 1) (tr L t 1 - tr L t 0) 0 A 31 i = nI (ex (8 * t + tr L t 0 + 65 + i)) := fun i hi => by
      rw [e31, vu_s, if_pos ⟨by omega, by omega⟩]
      have q := (h.2.1.1.2.2.2 t ht).1 (tr L t 0 + i) (by omega)
      rw [show 8 * t + (tr L t 0 + i + 1) + 64 = 8 * t + tr L t 0 + 65 + i by omega] at q
      exact q
    show zW ε false (d + 21) 207 0 _ [] (zM o ot it _ (xcc (xlI IF (tr L t 0) (tr L t 1)) (L 2) (L 1) (L 0) (xps (nI t) (tr L t 0) (tr L t 1) 31 (tr L t 1 - tr L t 0) 0 (xfl IF (L 2) (L 1) (L 0) (nI t) (tr L t 0) (tr L t 1) (nI m) (xts (nI t) (tr L t 0) (tr L t 1) (tr L t 1 - tr L t 0) 0 A)).1)) AL AD) 0 0 (zR2 AL AD (.int (xfl IF (L 2) (L 1) (L 0) (nI t) (tr L t 0) (tr L t 1) (nI m) (xts (nI t) (tr L t 0) (tr L t 1) (tr L t 1 - tr L t 0) 0 A)).2.1) 0)
    generalize xts (nI t) (tr L t 0) (tr L t 1) (tr L t 1 - tr L t 0) 0 A = A1 at fA1 r31 q1 q2 cH1 ⊢
    generalize xfl IF (L 2) (L 1) (L 0) (nI t) (tr L t 0) (tr L t 1) (nI m) A1 = F at q1 q2 ⊢
    rw [q2]
    obtain ⟨⟨ex1, hx, hH⟩, -, -, hfr⟩ := q1
    have h9 : ∀ i, i < 8 → (fun i => if i < tr L t 1 - tr L t 0 then ex (8 * t + tr L t 0 + 65 + i) else 0) i ≤ 9 := fun i hi => by
      show (if i < tr L t 1 - tr L t 0 then ex (8 * t + tr L t 0 + 65 + i) else 0) ≤ 9
      by_cases z : i < tr L t 1 - tr L t 0
      · rw [if_pos z]
        have q := (h.1.2.1 t (tr L t 0 + i) ht (by omega)).1
        rw [show 8 * t + (tr L t 0 + i + 1) + 64 = 8 * t + tr L t 0 + 65 + i by omega] at q
        exact q
      · rw [if_neg z]
        exact Nat.zero_le _
    obtain ⟨c1, f1, e1⟩ := ps_c (q := 31) (c := fun i => if i < tr L t 1 - tr L t 0 then ex (8 * t + tr L t 0 + 65 + i) else 0) h.1 ht (by decide) (hx _) hH h9 (fun i hi => by
      rw [hfr 31 (by decide) (by decide) (by decide) (by decide) (by decide), r31 i hi]
      show _ = nI (if i < tr L t 1 - tr L t 0 then ex (8 * t + tr L t 0 + 65 + i) else 0)
      rw [if_pos hi])
    rw [exC_id (fun i hi => if_pos hi)] at c1
    obtain ⟨c2, f2, g2, e2⟩ := cc_v h.1 c1
    have fr : ∀ j, ¬ j = 20 → ¬ j = 21 → ¬ j = 23 → ¬ j = 29 → ¬ j = 30 → ¬ j = 31 → xcc (xlI IF (tr L t 0) (tr L t 1)) (L 2) (L 1) (L 0) (xps (nI t) (tr L t 0) (tr L t 1) 31 (tr L t 1 - tr L t 0) 0 F.1) j = A j := fun j h1 h2 h3 h4 h5 h6 => by
      unfold xcc
      rw [e2, e1, vu_n h3, vu_n h1, vu_n h2, hfr j h1 h2 h3 h4 h5, fA1 j h6]
    have c2' : cG (xlI IF (tr L t 0) (tr L t 1)) (xcc (xlI IF (tr L t 0) (tr L t 1)) (L 2) (L 1) (L 0) (xps (nI t) (tr L t 0) (tr L t 1) 31 (tr L t 1 - tr L t 0) 0 F.1)) L p pa ex ey k := c2
    generalize xcc (xlI IF (tr L t 0) (tr L t 1)) (L 2) (L 1) (L 0) (xps (nI t) (tr L t 0) (tr L t 1) 31 (tr L t 1 - tr L t 0) 0 F.1) = D at fr c2' ⊢
    have m1 : mG (xlI IF (tr L t 0) (tr L t 1)) D L p pa ex ey k := mI_i h.2.2.1 (fun j hj => fr j (by omega) (by omega) (by omega) (by omega) (by omega) (by omega))
    have X1 : gX (xlI IF (tr L t 0) (tr L t 1)) D L p pa ex ey k := ⟨h.1, c2', m1, n, T, tX_fr htx rfl rfl rfl rfl (fr 3 (by omega) (by omega) (by omega) (by omega) (by omega) (by omega)) (fr 41 (by omega) (by omega) (by omega) (by omega) (by omega) (by omega))⟩
    refine c_mleastDelay (mV_of h.1 m1) (fun t' m' ht' hm' hx' hw' o ot it => ?_) (fun z => absurd ⟨t, ht, rfl⟩ z) (fun _ z => absurd ⟨m, hm, rfl⟩ z)
    have e1 := nI_ij (n := 8) (by omega) (by omega) (by omega) hx'
    have e2 := nI_ij (n := 8) (by omega) (by omega) (by omega) hw'
    subst e1
    subst e2
    have rf := lR_f (IF0 := yU 32 0 0 (xlI IF (tr L t 0) (tr L t 1))) h.1 c2'.1 m1 ht hm
    generalize mFn L p pa t m (yU 32 0 0 (xlI IF (tr L t 0) (tr L t 1))) D = E at rf ⊢
    have fin := lR_g2 (f := E.2 49) m1 X1.2.2.2 h.1 c2' rf (fun w g hw hg => ?_)
    · exact r2 (by rw [rf.1.1]) fin.1 fin.2
    · unfold cpo
      by_cases z : 7 * t ≤ 7 * w + g ∧ 7 * w + g < 7 * t + 7
      · rw [if_pos z, rf.2.2.1 49 (Or.inr rfl) (by decide), vu_s, cp_lt (by omega)]
        show D 35 (7 * t + (7 * w + g - 7 * t)) = _
        rw [show 7 * t + (7 * w + g - 7 * t) = 7 * w + g by omega]
        exact m1.2.1 w g hw hg
      · rw [if_neg z, rf.2.2.2 _ (by omega), vu_n (by decide)]
        exact m1.2.1 w g hw hg
  · exact c_mleastDelay hV (fun t m ht hm hx hw o ot it => absurd ⟨t, ht, hx⟩ gx) (fun z => r2 rfl (gS_0 h) rfl) (fun z _ => absurd z gx)
  · exact c_mleastDelay hV (fun t m ht hm hx hw o ot it => absurd ⟨m, hm, hw⟩ gw) (fun z => absurd gx z) (fun _ _ => r2 rfl (gS_0 h) rfl)
theorem j_distribute (h : gX IF A L p pa ex ey k) {x w : Int32} : zW ε false (d + 20) 109 0 [(0, .ref 0), (1, .int x), (2, .int w)] [] (zM o ot it IF A AL AD) 0 0 (zP2 ε (d + 21) 208 [(0, .ref 32), (1, .int x), (2, .int w)] okI (.int 0) [(2, 1), (1, 2)] AL AD) := by
  have hV := mV_of h.1 h.2.2.1
  have hL := h.1.1.1
  have hB := hL.1.2.1
  have hR := h.2.1.1.1.1
  obtain ⟨n, T, htx⟩ := h.2.2.2
  refine c_distribute hR.1.1 hL.2 (by omega) hR.1.2.1 (by omega) hR.1.2.2.1 (by omega) (tr_hT h) (fun f g ef eg hfg hg8 gx gw => p2_ok ⟨_, rfl⟩ fun AL AD => ?_) (fun gx => p2_ex (cde := 1) (by simp) fun AL AD => ?_) (fun gx gw => p2_ex (cde := 2) (by simp) fun AL AD => ?_)
  · obtain ⟨t, ht, rfl⟩ := gx
    obtain ⟨m, hm, rfl⟩ := gw
    obtain ⟨rfl, rfl⟩ := tr_fg h ht ef eg hfg hg8
    have hk := hL.1.2.2.2.2.2.1 t ht
    unfold trOk at hk
    obtain ⟨dd, q1, q2⟩ := lC_3 (IF := IF) h.1 ht hm (cH_I h.2.1.1)
    obtain ⟨v, b, eb⟩ := fold_m (V := lV L p pa ex ey t) (n := tr L t 1 - tr L t 0 - 1) (m := m) (by omega) hm
    generalize xfl IF (L 2) (L 1) (L 0) (nI t) (tr L t 0) (tr L t 1) (nI m) A = F at q1 q2 ⊢
    rw [q2]
    obtain ⟨⟨ex1, hx, hH⟩, -, hbest, hfr⟩ := q1
    obtain ⟨b1, b2⟩ := hbest v b eb
    obtain ⟨c1, f1, e1⟩ := ps_c (q := 30) (c := gd b) h.1 ht (by decide) (hx _) hH (fun i _ => b2 i) (fun i hi => b1 i (by omega))
    have i2 := exC_i (c := gd b) h.1 ht (fun i _ => b2 i)
    obtain ⟨c2, f2, g2, e2⟩ := cc_v i2 c1
    have fr : ∀ j, ¬ j = 20 → ¬ j = 21 → ¬ j = 23 → ¬ j = 29 → ¬ j = 30 → xcc (xlI IF (tr L t 0) (tr L t 1)) (L 2) (L 1) (L 0) (xps (nI t) (tr L t 0) (tr L t 1) 30 (tr L t 1 - tr L t 0) 0 F.1) j = A j := fun j h1 h2 h3 h4 h5 => by
      unfold xcc
      rw [e2, e1, vu_n h3, vu_n h1, vu_n h2, hfr j h1 h2 h3 h4 h5]
    have c2' : cG (xlI IF (tr L t 0) (tr L t 1)) (xcc (xlI IF (tr L t 0) (tr L t 1)) (L 2) (L 1) (L 0) (xps (nI t) (tr L t 0) (tr L t 1) 30 (tr L t 1 - tr L t 0) 0 F.1)) L p pa (exC t (tr L t 0) (tr L t 1 - tr L t 0) ex (gd b)) ey k := c2
    generalize xcc (xlI IF (tr L t 0) (tr L t 1)) (L 2) (L 1) (L 0) (xps (nI t) (tr L t 0) (tr L t 1) 30 (tr L t 1 - tr L t 0) 0 F.1) = D at fr c2' ⊢
    have m1 : mG (xlI IF (tr L t 0) (tr L t 1)) D L p pa ex ey k := mI_i h.2.2.1 (fun j hj => fr j (by omega) (by omega) (by omega) (by omega) (by omega))
    refine c_mdistribute (mV_of h.1 m1) (fun t' m' ht' hm' hx' hw' o ot it => ?_) (fun z => absurd ⟨t, ht, rfl⟩ z) (fun _ z => absurd ⟨m, hm, rfl⟩ z)
    have e1 := nI_ij (n := 8) (by omega) (by omega) (by omega) hx'
    have e2 := nI_ij (n := 8) (by omega) (by omega) (by omega) hw'
    subst e1
    subst e2
    have rf := lR_f (IF0 := yU 32 0 0 (xlI IF (tr L t 0) (tr L t 1))) h.1 (cH_I (f := tr L t 0) (g := tr L t 1) h.2.1.1) m1 ht hm
    generalize mFn L p pa t m (yU 32 0 0 (xlI IF (tr L t 0) (tr L t 1))) D = E at rf ⊢
    have X1 : (∃ n T, tX (xlI IF (tr L t 0) (tr L t 1)) D n T) := ⟨n, T, tX_fr htx rfl rfl rfl rfl (fr 3 (by omega) (by omega) (by omega) (by omega) (by omega)) (fr 41 (by omega) (by omega) (by omega) (by omega) (by omega))⟩
    have fin := lR_g2 (f := E.2 50) m1 X1 i2 c2' rf (fun w g hw hg => ?_)
    · exact r2 (by rw [rf.1.1]) fin.1 fin.2
    · unfold cpo exC
      by_cases z : 7 * t ≤ 7 * w + g ∧ 7 * w + g < 7 * t + 7
      · rw [if_pos z, rf.2.1 v b eb _ (by omega)]
        by_cases z2 : 8 * t + tr L t 0 + 65 ≤ 8 * w + (g + 1) + 64 ∧ 8 * w + (g + 1) + 64 < 8 * t + tr L t 0 + 65 + (tr L t 1 - tr L t 0)
        · rw [if_pos z2, if_pos (by omega)]
          congr 2
          omega
        · rw [if_neg z2, if_neg (by omega), vu_n (by decide), show 7 * t + (7 * w + g - 7 * t) = 7 * w + g by omega]
          exact m1.2.1 w g hw hg
      · rw [if_neg z, if_neg (by omega), rf.2.2.2 _ (by omega), vu_n (by decide)]
        exact m1.2.1 w g hw hg
  · exact c_mdistribute hV (fun t m ht hm hx hw o ot it => absurd ⟨t, ht, hx⟩ gx) (fun z => r2 rfl (gS_0 h) rfl) (fun z _ => absurd z gx)
  · exact c_mdistribute hV (fun t m ht hm hx hw o ot it => absurd ⟨m, hm, hw⟩ gw) (fun z => absurd gx z) (fun _ _ => r2 rfl (gS_0 h) rfl)
end
