/-! class and reference side by side: speed -/
section
variable {ε : Nat × (Nat → Int32)} {d y : Nat} {o ot it : Value} {IF IG A B : Nat → Nat → Int32} {AL : Nat → Nat → Int64} {AD : Nat → Nat → UInt64} {L p pa ex ey : Nat → Nat} {k : Nat}
theorem mn_eq (h : gX IF A L p pa ex ey k) {t : Nat} (ht : t < L 1) : ∃ a, 0 < a ∧ a < 2 ^ 30 ∧ xmn A (nI t) = nI a ∧ mLy false L p (L 0) 0 A 43 (8 * t + tr L t 1) - mLy false L p (L 0) 0 A 42 (8 * t + tr L t 0) = nI a := by
  have hL := h.1.1.1
  have hB := hL.1.2.1
  have hk := hL.1.2.2.2.2.2.1 t ht
  unfold trOk at hk
  have hR := h.2.1.1.1.1
  have v := tr_ev hL ht
  have rp := run_pos hL h.1.1.2.1 h.2.1.2.1 ht
  have b1 := pl_bd hL h.1.1.2.1 (Inv_pl h.1) h.2.1.2.1 ht v.2.1
  have e1 := pl_of (b := true) h.1 h.2.1 h.2.2.1 ht v.2.1
  have e2 := pl_of (b := false) h.1 h.2.1 h.2.2.1 ht v.1
  refine ⟨tn (A 20) (8 * t + tr L t 1 + 64) - tn (A 20) (8 * t + tr L t 0), by omega, ?_, ?_, ?_⟩
  · exact Nat.lt_of_le_of_lt (Nat.sub_le _ _) (Nat.lt_of_le_of_lt b1 (by decide))
  · unfold xmn
    rw [xo_n (z := 1) (w := 1) hR hL ht (by omega) rfl, xo_n (z := 0) (w := 0) hR hL ht (by omega) nI_0.symm, xev_n (by omega) (by omega), xev_n (by omega) (by omega)]
    show A 20 (8 * t + tr L t 1 + 64) - A 20 (8 * t + tr L t 0) = _
    rw [← nI_tn (A 20 (8 * t + tr L t 1 + 64)), ← nI_tn (A 20 (8 * t + tr L t 0))]
    exact pk_sub (Nat.le_of_lt rp)
  · rw [show mLy false L p (L 0) 0 A 43 (8 * t + tr L t 1) = A 20 (8 * t + tr L t 1 + 64) from e1, show mLy false L p (L 0) 0 A 42 (8 * t + tr L t 0) = A 20 (8 * t + tr L t 0) from e2]
    rw [← nI_tn (A 20 (8 * t + tr L t 1 + 64)), ← nI_tn (A 20 (8 * t + tr L t 0))]
    exact pk_sub (Nat.le_of_lt rp)
theorem gSum_le (hL : lT L) : ∀ n s v, s + n ≤ L 0 - 1 → gSum L n s v ≤ v + 60 * n := by
  intro n
  induction n with
  | zero => intro s v _; exact Nat.le_refl _
  | succ n ih =>
    intro s v hs
    have q := hL.1.2.2.2.2.1 s (by omega)
    have e : gSum L (n + 1) s v = gSum L n (s + 1) (v + L (13 + s)) := rfl
    rw [e]
    have r := ih (s + 1) (v + L (13 + s)) (by omega)
    omega
theorem j_speed (h : gX IF A L p pa ex ey k) {x : Int32} : zW ε false (d + 20) 92 0 [(0, .ref 0), (1, .int x)] [] (zM o ot it IF A AL AD) 0 0 (zP2 ε (d + 21) 185 [(0, .ref 32), (1, .int x)] okD (.double FP.dconst0) [(2, 1)] AL AD) := by
  have hV := mV_of h.1 h.2.2.1
  have hL := h.1.1.1
  have hB := hL.1.2.1
  have hR := h.2.1.1.1.1
  have di : ∀ t, t < L 1 → xdi A (nI t) (L 0 - 1) 0 0 = nI (gSum L (tr L t 1 - tr L t 0) (tr L t 0) 0) ∧ gSum L (tr L t 1 - tr L t 0) (tr L t 0) 0 < 2 ^ 30 := fun t ht => by
    have hk := hL.1.2.2.2.2.2.1 t ht
    unfold trOk at hk
    have q := di_eq hR hL ht (L 0 - 1) 0 0 (by omega)
    rw [nI_0] at q
    rw [q]
    have r := gSum_le hL (tr L t 1 - tr L t 0) (tr L t 0) 0 (by omega)
    refine ⟨?_, by omega⟩
    by_cases z : 0 < tr L t 0
    · rw [if_pos z]
    · rw [if_neg z, show tr L t 0 = 0 by omega]
  have nn : ∀ t, t < L 1 → vf_n64 (FP.ddiv (FP.i2d (nI (gSum L (tr L t 1 - tr L t 0) (tr L t 0) 0))) (FP.i2d (mLy false L p (L 0) 0 A 43 (8 * t + tr L t 1) - mLy false L p (L 0) 0 A 42 (8 * t + tr L t 0)))) := fun t ht => by
    obtain ⟨a, a0, a1, e1, e2⟩ := mn_eq h ht
    rw [e2]
    exact dv_n64 _ _ (di t ht).2 a1 a0
  have nc : ∀ t, t < L 1 → ¬ xmn A (nI t) ≤ 0 ∧ FP.ddiv (FP.i2d (xdi A (nI t) (L 0 - 1) 0 0)) (FP.i2d (xmn A (nI t))) = FP.ddiv (FP.i2d (nI (gSum L (tr L t 1 - tr L t 0) (tr L t 0) 0))) (FP.i2d (mLy false L p (L 0) 0 A 43 (8 * t + tr L t 1) - mLy false L p (L 0) 0 A 42 (8 * t + tr L t 0))) := fun t ht => by
    obtain ⟨a, a0, a1, e1, e2⟩ := mn_eq h ht
    rw [e1, e2, (di t ht).1]
    refine ⟨fun z => ?_, rfl⟩
    rw [← nI_0] at z
    have := (nI_leI (by omega) (by omega)).mp z
    omega
  have hn : zIn (L 1) x → ¬ xmn A x ≤ 0 → vf_n64 (FP.ddiv (FP.i2d (xdi A x (L 0 - 1) 0 0)) (FP.i2d (xmn A x))) := fun gx _ => by
    obtain ⟨t, ht, rfl⟩ := gx
    rw [(nc t ht).2]
    exact nn t ht
  refine c_speed hR.1.1 (by have := hL.2; omega) (by omega) hR.1.2.1 (by omega) hn (fun gx => p2_ok ?_ fun AL AD => ?_) (fun gx => p2_ex (cde := 1) (by simp) fun AL AD => ?_)
  · obtain ⟨t, ht, rfl⟩ := gx
    rw [if_neg (nc t ht).1]
    exact ⟨_, rfl, hn ⟨t, ht, rfl⟩ (nc t ht).1⟩
  · refine c_mspeed hV nn (fun t ht hx => r2 ?_ (gS_p h) rfl) (fun z => absurd gx z)
    subst hx
    rw [if_neg (nc t ht).1, (nc t ht).2]
  · exact c_mspeed hV nn (fun t ht hx => absurd ⟨t, ht, hx⟩ gx) (fun z => r2 rfl (gS_0 h) rfl)
end
