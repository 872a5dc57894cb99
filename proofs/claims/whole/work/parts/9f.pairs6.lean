/-! class and reference side by side: load -/
section
variable {ε : Nat × (Nat → Int32)} {d y : Nat} {o ot it : Value} {IF IG A B : Nat → Nat → Int32} {AL : Nat → Nat → Int64} {AD : Nat → Nat → UInt64} {L L1 L' p pa ex ey : Nat → Nat} {k : Nat} {τ : zP}
theorem xc_I {J : Nat → Nat → Int32} {c : Nat} (h2 : ¬ c = 2) (h8 : ¬ c = 8) : xcI (yU 2 0 0 J) c = J c := by
  unfold xcI xc1 yU
  rw [vu_n h8, vu_n h8, vu_n h8, vu_n h8, vu_n h8, vu_n h8, vu_n h2]
theorem xc_A {j : Nat} (h9 : ¬ j = 9) (h10 : ¬ j = 10) (h11 : ¬ j = 11) : xcA B j = B j := by
  unfold xcA xcA1
  rw [vu_n h11, vu_n h10, vu_n h9]
theorem pD_ex {n : Nat} {T : Nat → Nat} (ht : tX IF A n T) : (pP T n (IF, A)).1 2 1 = 0 → ∃ L', pD 0 (pP T n (IF, A)) L' ∧ 2 ≤ L' 0 := by
  have w := zW_s (c_mload (ε := (0, fun _ => 0)) (d := 0) (o := .null) (ot := .null) (it := .null) (AL := fun _ _ => 0) (AD := fun _ _ => 0) (Q := fun _ _ => (pP T n (IF, A)).1 2 1 = 0 → ∃ L', pD 0 (pP T n (IF, A)) L' ∧ 2 ≤ L' 0) (σ := (IF, A)) ht.1.2.2 (fun q hq => (ht.2.1 q hq).2.1) (fun q hq => (ht.2.1 q hq).2.2) ht.1.2.1 ht.1.1 (fun IF' L' z hD h2 _ _ => ⟨L', hD, h2⟩) (fun IF' L' z _ w => absurd w z))
  obtain ⟨_, _, q⟩ := w
  exact q
theorem ld_k (h : gX IF A L p pa ex ey k) (F : fP (IF, A) τ) (hL : lT L1) (hC : cR (xcI (yU 2 0 0 τ.1)) (xcA τ.2) L1) {q pb : Nat → Nat} : cG (xbI (xcI (yU 2 0 0 τ.1))) (xbA (xcI (yU 2 0 0 τ.1)) (L1 2) (L1 1) (L1 0) (xcA τ.2)) L1 (gOr L1 (L1 1) 0 q) (pcp (gOr L1 (L1 1) 0 q) pb) (fun _ => 0) (fun _ => 0) 0 ∧ pOrd L1 (gOr L1 (L1 1) 0 q) ∧ ∀ j, ¬ j = 5 → ¬ j = 6 → ¬ j = 7 → (j < 9 ∨ 27 < j) → xbA (xcI (yU 2 0 0 τ.1)) (L1 2) (L1 1) (L1 0) (xcA τ.2) j = A j := by
  have c := h.2.1.1.2.1
  have i : ∀ c, ¬ c = 2 → ¬ c = 4 → ¬ c = 8 → xcI (yU 2 0 0 τ.1) c = IF c := fun c a b e => (xc_I a e).trans (F.1 c a b)
  obtain ⟨x1, x2, x3⟩ := ld_c (q := q) (pa := pb) hL hC (by rw [i 18 (by decide) (by decide) (by decide)]; exact c.1) (by rw [i 22 (by decide) (by decide) (by decide)]; exact c.2.1) (by rw [i 25 (by decide) (by decide) (by decide)]; exact c.2.2.1.1.1) (by rw [xc_A (by decide) (by decide) (by decide), F.2 27 (by decide) (by decide) (by decide)]; exact c.2.2.1.2) (fun e he => by rw [xc_A (by decide) (by decide) (by decide), F.2 19 (by decide) (by decide) (by decide)]; exact c.2.2.1.1.2 e he)
  refine ⟨x1, x2, fun j h5 h6 h7 hj => ?_⟩
  rw [x3 j hj, xc_A (by omega) (by omega) (by omega)]
  exact F.2 j h5 h6 h7
theorem ld_s (h : gX IF A L p pa ex ey k) (F : fP (IF, A) τ) (hD1 : pD 0 τ L1) (h21 : 2 ≤ L1 0) (hD : pD 0 τ L') (h2 : 2 ≤ L' 0) {IF' : Nat → Nat → Int32} (f11 : IF' 32 11 = 0) (f17 : IF' 32 17 = τ.1 2 1) (f18 : IF' 32 18 = τ.1 2 2) (ff : ∀ c j, ¬ (c = 32 ∧ (j = 0 ∨ (11 ≤ j ∧ j ≤ 18))) → IF' c j = xbI (xcI (yU 2 0 0 τ.1)) c j) : nI (L' 1) = nI (L1 1) ∧ gS (yU 32 9 0 IF') (mTk (va_up (xbA (xcI (yU 2 0 0 τ.1)) (L1 2) (L1 1) (L1 0) (xcA τ.2)) 34 (lf L'))) := by
  have b1 := hD1.1.2.1
  have b2 := hD.1.2.1
  have d1 := hD1.2.1
  have d2 := hD.2.1
  have e0 : L1 0 = L' 0 := nI_ij (n := 9) (by omega) (by omega) (by omega) (d1.1.symm.trans d2.1)
  have e1 : L1 1 = L' 1 := nI_ij (n := 9) (by omega) (by omega) (by omega) (d1.2.1.symm.trans d2.2.1)
  have e2 : L1 2 = L' 2 := nI_ij (n := 9) (by omega) (by omega) (by omega) (d1.2.2.1.symm.trans d2.2.2.1)
  have k1 := ld_k (q := p) (pb := pa) h F ⟨hD1.1, h21⟩ (ld_cR hD1 (fun _ _ => rfl))
  have fr := k1.2.2
  refine ⟨by rw [e1], ?_⟩
  rw [e0, e1, e2] at fr ⊢
  have a : ∀ f : Nat → Int32, ∀ j, j < 92 → tn (cp 92 (lf L') f) j = L' j := fun f j hj => by
    show (cp 92 (lf L') f j).toBitVec.toNat = _
    rw [cp_lt hj]
    exact pk_tn (Nat.lt_trans (hD.1.1 j hj) (by decide))
  have hL := lT_cg (L := tn (cp 92 (lf L') (xbA (xcI (yU 2 0 0 τ.1)) (L' 2) (L' 1) (L' 0) (xcA τ.2) 33))) ⟨hD.1, h2⟩ (a _)
  have hC := ld_cR (L := tn (cp 92 (lf L') (xbA (xcI (yU 2 0 0 τ.1)) (L' 2) (L' 1) (L' 0) (xcA τ.2) 33))) hD (a _)
  have k2 := ld_k (q := tn (xbA (xcI (yU 2 0 0 τ.1)) (L' 2) (L' 1) (L' 0) (xcA τ.2) 36)) (pb := pa) h F hL hC
  have a0 := a (xbA (xcI (yU 2 0 0 τ.1)) (L' 2) (L' 1) (L' 0) (xcA τ.2) 33) 0 (by omega)
  have a1 := a (xbA (xcI (yU 2 0 0 τ.1)) (L' 2) (L' 1) (L' 0) (xcA τ.2) 33) 1 (by omega)
  have a2 := a (xbA (xcI (yU 2 0 0 τ.1)) (L' 2) (L' 1) (L' 0) (xcA τ.2) 33) 2 (by omega)
  obtain ⟨k3, k4, -⟩ := k2
  have k3' : cG (xbI (xcI (yU 2 0 0 τ.1))) (xbA (xcI (yU 2 0 0 τ.1)) (L' 2) (L' 1) (L' 0) (xcA τ.2)) (tn (cp 92 (lf L') (xbA (xcI (yU 2 0 0 τ.1)) (L' 2) (L' 1) (L' 0) (xcA τ.2) 33))) (gOr (tn (cp 92 (lf L') (xbA (xcI (yU 2 0 0 τ.1)) (L' 2) (L' 1) (L' 0) (xcA τ.2) 33))) (tn (cp 92 (lf L') (xbA (xcI (yU 2 0 0 τ.1)) (L' 2) (L' 1) (L' 0) (xcA τ.2) 33)) 1) 0 (tn (xbA (xcI (yU 2 0 0 τ.1)) (L' 2) (L' 1) (L' 0) (xcA τ.2) 36))) (pcp (gOr (tn (cp 92 (lf L') (xbA (xcI (yU 2 0 0 τ.1)) (L' 2) (L' 1) (L' 0) (xcA τ.2) 33))) (tn (cp 92 (lf L') (xbA (xcI (yU 2 0 0 τ.1)) (L' 2) (L' 1) (L' 0) (xcA τ.2) 33)) 1) 0 (tn (xbA (xcI (yU 2 0 0 τ.1)) (L' 2) (L' 1) (L' 0) (xcA τ.2) 36))) pa) (fun _ => 0) (fun _ => 0) 0 := by
    have w : ∀ {x0 x1 x2 : Nat} {M q r : Nat → Nat}, x0 = L' 0 → x1 = L' 1 → x2 = L' 2 → cG (xbI (xcI (yU 2 0 0 τ.1))) (xbA (xcI (yU 2 0 0 τ.1)) x2 x1 x0 (xcA τ.2)) M q r (fun _ => 0) (fun _ => 0) 0 → cG (xbI (xcI (yU 2 0 0 τ.1))) (xbA (xcI (yU 2 0 0 τ.1)) (L' 2) (L' 1) (L' 0) (xcA τ.2)) M q r (fun _ => 0) (fun _ => 0) 0 := fun h0 h1 h2 z => by
      rw [h0, h1, h2] at z
      exact z
    exact w a0 a1 a2 k3
  generalize xbA (xcI (yU 2 0 0 τ.1)) (L' 2) (L' 1) (L' 0) (xcA τ.2) = B at fr hL hC k3' k4 ⊢
  have m37 : B 37 = lf pa := (fr 37 (by omega) (by omega) (by omega) (by omega)).trans h.2.2.1.1.2.2
  have m1 := ld_m (IG := yU 32 9 0 IF') (A := B) (L' := L') hL rfl pa m37
  have ffc : ∀ c, c < 32 → yU 32 9 0 IF' c = xbI (xcI (yU 2 0 0 τ.1)) c := fun c hc => by
    funext j
    rw [yU_n (by omega), ff c j (by omega)]
  refine gX_s ⟨ld_i hL k4, cG_fr k3' (fun j hj => ?_) ffc, m1, 0, (fun _ => 0), ⟨?_, f11.trans nI_0.symm, by omega⟩, fun q hq => absurd hq (by omega), ?_, ?_⟩
  · unfold mTk mK4 mK3 mF0 mK2 mK1
    rw [vu_n (by omega), vu_n (by omega), vu_n (by omega), vu_n (by omega), vu_n (by omega), vu_n (by omega), vu_n (by omega)]
  · rw [ffc 2 (by omega)]
    exact nI_0.symm
  · rw [ffc 2 (by omega)]
    exact f17
  · rw [ffc 2 (by omega)]
    exact f18
theorem ld_e (h : gX IF A L p pa ex ey k) (F : fP (IF, A) τ) {IF' : Nat → Nat → Int32} (f11 : IF' 32 11 = 0) (f17 : IF' 32 17 = τ.1 2 1) (f18 : IF' 32 18 = τ.1 2 2) (ff : ∀ c j, ¬ (c = 32 ∧ (j = 0 ∨ (11 ≤ j ∧ j ≤ 18))) → IF' c j = yU 2 0 0 τ.1 c j) : gS (yU 32 0 1 IF') (va_up τ.2 34 (lf L')) := by
  have i : ∀ c, ¬ c = 2 → ¬ c = 4 → ¬ c = 32 → yU 32 0 1 IF' c = IF c := fun c h1 h2 h3 => by
    funext j
    rw [yU_n (by omega), ff c j (by omega), yU_n (by omega), F.1 c h1 h2]
  have a : ∀ j, ¬ j = 5 → ¬ j = 6 → ¬ j = 7 → ¬ j = 34 → va_up τ.2 34 (lf L') j = A j := fun j h1 h2 h3 h4 => by
    rw [vu_n h4]
    exact F.2 j h1 h2 h3
  have i2 : yU 32 0 1 IF' 2 = yU 2 0 0 τ.1 2 := by
    funext j
    rw [yU_n (by omega), ff 2 j (by omega)]
  refine gX_s ⟨h.1, cG_f3 h.2.1 (fun j h1 h2 => a j (by omega) (by omega) (by omega) (by omega)) (i 8 (by decide) (by decide) (by decide)) (i 18 (by decide) (by decide) (by decide)) (i 22 (by decide) (by decide) (by decide)) (i 25 (by decide) (by decide) (by decide)) (by rw [i 0 (by decide) (by decide) (by decide)]), mG_f2 h.2.2.1 (a 33 (by decide) (by decide) (by decide) (by decide)) (a 35 (by decide) (by decide) (by decide) (by decide)) (a 36 (by decide) (by decide) (by decide) (by decide)) (a 37 (by decide) (by decide) (by decide) (by decide)) (a 39 (by decide) (by decide) (by decide) (by decide)) (a 40 (by decide) (by decide) (by decide) (by decide)) ?_, 0, (fun _ => 0), ⟨?_, f11.trans nI_0.symm, by omega⟩, fun q hq => absurd hq (by omega), ?_, ?_⟩
  · rw [yU_n (by omega), ff 32 9 (by omega), yU_n (by omega), F.1 32 (by decide) (by decide)]
  · rw [i2]
    exact nI_0.symm
  · rw [i2]
    exact f17
  · rw [i2]
    exact f18
theorem j_load (h : gX IF A L p pa ex ey k) : zW ε false (d + 20) 80 0 [(0, .ref 0)] [] (zM o ot it IF A AL AD) 0 0 (zP2 ε (d + 21) 155 [(0, .ref 32)] okI (.int 0) [(1, 1)] AL AD) := by
  obtain ⟨n, T, ht⟩ := h.2.2.2
  have F := fP_P (T := T) (n := n) (σ := (IF, A))
  have hex := pD_ex ht
  by_cases e : (pP T n (IF, A)).1 2 1 = 0
  · obtain ⟨L1, hD1, h21⟩ := hex e
    have b1 := hD1.1.2.1
    have k1 := ld_k (q := p) (pb := pa) h F ⟨hD1.1, h21⟩ (ld_cR hD1 (fun _ _ => rfl))
    refine c_load (d := d + 10) (σ := (IF, A)) (T := T) (S := L1 0) (M := L1 1) (N := L1 2) ht.1.2.2 ht.1.1 (fun q hq => (ht.2.1 q hq).1) (fun _ => ⟨hD1.2.1.1, h21, b1.1, hD1.2.1.2.1, b1.2.1, hD1.2.1.2.2.1, b1.2.2.1⟩) (fun _ => p2_ok ⟨_, rfl⟩ fun AL AD => ?_) (fun z => absurd e z)
    unfold xldI
    have mq := c_mload (ε := ε) (d := d + 13) (o := o) (ot := ot) (it := it) (AL := AL) (AD := AD) (σ := (IF, A)) (T := T) (n := n) (IF := xbI (xcI (yU 2 0 0 (pP T n (IF, A)).1))) (A := xbA (xcI (yU 2 0 0 (pP T n (IF, A)).1)) (L1 2) (L1 1) (L1 0) (xcA (pP T n (IF, A)).2)) (Q := zR2 AL AD (.int (nI (L1 1))) 0) ht.1.2.2
    unfold lF at mq
    generalize pP T n (IF, A) = τ at F hD1 e k1 mq ⊢
    have s41 : ∀ q, q < n → xbA (xcI (yU 2 0 0 τ.1)) (L1 2) (L1 1) (L1 0) (xcA τ.2) 41 q = nI (T q) := fun q hq => by
      rw [k1.2.2 41 (by decide) (by decide) (by decide) (by decide)]
      exact (ht.2.1 q hq).2.1
    have s11 : xbI (xcI (yU 2 0 0 τ.1)) 32 11 = nI n := by
      unfold xbI
      rw [vu_n (by decide), xc_I (by decide) (by decide), F.1 32 (by decide) (by decide)]
      exact ht.1.2.1
    refine mq s41 (fun q hq => (ht.2.1 q hq).2.2) s11 ht.1.1 (fun IF' L' _ hD h2 hF => ?_) (fun IF' L' z _ => absurd e z)
    have z := ld_s h F hD1 h21 hD h2 hF.2.1 hF.2.2.2.1 hF.2.2.2.2.1 hF.2.2.2.2.2
    refine r2 (congrArg Value.int z.1) z.2 ?_
    rw [yU_n (by omega)]
    exact hF.1
  · refine c_load (d := d + 10) (σ := (IF, A)) (T := T) (S := 0) (M := 0) (N := 0) ht.1.2.2 ht.1.1 (fun q hq => (ht.2.1 q hq).1) (fun z => absurd z e) (fun z => absurd z e) (fun _ => p2_ex (cde := 1) (by simp) fun AL AD => ?_)
    unfold xldI
    have mq := c_mload (ε := ε) (d := d + 13) (o := o) (ot := ot) (it := it) (AL := AL) (AD := AD) (σ := (IF, A)) (T := T) (n := n) (IF := yU 2 0 0 (pP T n (IF, A)).1) (A := (pP T n (IF, A)).2) (Q := zR2 AL AD (.int 0) 1) ht.1.2.2
    unfold lF at mq
    generalize pP T n (IF, A) = τ at F e mq ⊢
    have s41 : ∀ q, q < n → τ.2 41 q = nI (T q) := fun q hq => by
      rw [F.2 41 (by decide) (by decide) (by decide)]
      exact (ht.2.1 q hq).2.1
    have s11 : yU 2 0 0 τ.1 32 11 = nI n := by
      rw [yU_n (by omega), F.1 32 (by decide) (by decide)]
      exact ht.1.2.1
    refine mq s41 (fun q hq => (ht.2.1 q hq).2.2) s11 ht.1.1 (fun IF' L' z _ _ _ => absurd z e) (fun IF' L' z hF => ?_)
    exact r2 rfl (ld_e h F hF.2.1 hF.2.2.2.1 hF.2.2.2.2.1 hF.2.2.2.2.2) yU_s
end
