/-! the reference: the line, to its end; settings -/
section
variable {ε : Nat × (Nat → Int32)} {d : Nat} {Q : zQ} {o ot it : Value} {A : Nat → Nat → Int32} {AL : Nat → Nat → Int64} {AD : Nat → Nat → UInt64} {T : Nat → Nat} {n : Nat} {IF I : Nat → Nat → Int32} {σ : zP} {L : Nat → Nat}
theorem pSe_n (h : ¬ yNu I = true) : pSe T n I = ySe T n I := by
  unfold pSe
  cases e : yNu I
  · rfl
  · exact absurd e h
theorem pSe_y (h : yNu I = true) : pSe T n I = ySe T n (yF ((yN T n 1 60 I).2 2 7) 5 (yN T n 1 60 I).2) := by
  unfold pSe
  rw [h]
  rfl
theorem pSl_n {k s : Nat} (h : ¬ yNu σ.1 = true) : pSl T n k s σ = σ := by
  cases k with
  | zero => rfl
  | succ k =>
    unfold pSl
    cases e : yNu σ.1
    · rfl
    · exact absurd e h
def lnP (σ' : zP) (L' : Nat → Nat) : Prop := σ'.1 2 1 = 0 → pD 0 σ' L' ∧ 2 ≤ L' 0 ∧ L' 1 = 0 ∧ L' 2 = 0
theorem pD_y {e : Nat} {J : Nat → Nat → Int32} (h : pD e σ L) (hJ : ∀ j, J 4 j = σ.1 4 j) : pD e (J, σ.2) L := by
  obtain ⟨w, ⟨f0, f1, f2, f3, f4⟩, ⟨x, hx, hx5, hxs⟩, r⟩ := h
  exact ⟨w, ⟨(hJ 0).trans f0, (hJ 1).trans f1, (hJ 2).trans f2, (hJ 3).trans f3, (hJ 4).trans f4⟩, ⟨x, hx, (hJ 5).trans hx5, hxs⟩, r⟩
/-- at the loop's head: segment s is next -/
theorem cl_l20 (hn5 : n ≤ 500) (hT : ∀ p, p < n → A 41 p = nI (T p)) (hT8 : ∀ p, p < n → T p < 2 ^ 31) : ∀ (k s : Nat) (σ : zP) (L : Nat → Nat) (IF : Nat → Nat → Int32) (g : Int32) (b : Bool), s + k = 7 → 1 ≤ s → g = zbo b → tRf T n σ.1 IF → (σ.1 2 1 = 0 → pD 0 σ L ∧ L 0 = s + 1 ∧ L 1 = 0 ∧ L 2 = 0) → (σ.1 2 1 = 0 → (b = true ↔ σ.1 2 4 = 2)) → (∀ IF' L', tRf T n (pSe T n (pSl T n k s σ).1) IF' → lnP (pSe T n (pSl T n k s σ).1, (pSl T n k s σ).2) L' → tF IF IF' → Q (.inl none) (zM o ot it IF' (va_up A 34 (lf L')) AL AD)) → zW ε false (d + 7) 150 20 [(0, .ref 32), (1, .int g)] [] (zM o ot it IF (va_up A 34 (lf L)) AL AD) 0 0 Q := by
  intro k
  induction k with
  | zero =>
    intro s σ L IF g b hk hs hg hR hD hb hq
    by_cases hN : yNu σ.1 = true
    · have h0 := (yNu_iff.mp hN).1
      have h2 := (yNu_iff.mp hN).2
      have h3 := hR.2.2.2.2 h0
      have hd := hD h0
      have hbt : b = true := (hb h0).mpr h2
      subst hbt
      have h4 := yT_4 (T := T) (n := n) (I := σ.1) (c := 2) (j := 1) (by omega)
      have h5 : pSe T n (pSl T n 0 s σ).1 = ySe T n (yF ((yN T n 1 60 σ.1).2 2 7) 5 (yN T n 1 60 σ.1).2) := pSe_y hN
      have hnv : IF 32 16 = yV T n σ.1 := h3.2.2.2 h2
      have k68 := fun (J I1 : Nat → Nat → Int32) (r1 : tRf T n J I1) (hJ : ¬ J 2 1 = 0) (f1 : tF IF I1) (e1 : (pSe T n (pSl T n 0 s σ).1) 2 1 = J 2 1) (e2 : (pSe T n (pSl T n 0 s σ).1) 2 2 = J 2 2) (hO : yOk n (pSe T n (pSl T n 0 s σ).1)) => cl_l68e (ε := ε) (d := d) (Q := Q) (o := o) (ot := ot) (it := it) (AL := AL) (AD := AD) (A := A) (L := L) hn5 hT hT8 (g := g) r1 hJ (fun I2 L2 r2 f2 => hq I2 L2 (tR_e r2 hJ e1 e2 hO) (fun z => absurd (e1.symm.trans z) hJ) (tF_t f1 f2))
      have hOk : yOk n (pSe T n (pSl T n 0 s σ).1) := by
        rw [h5]; exact yOk_S hn5 (yOk_F (yOk_N hn5 hR.2.2.2.1))
      have k68o : ¬ (¬ yV T n σ.1 < 1 ∧ ¬ (60 : Int32) < yV T n σ.1) → zW ε false (d + 7) 150 68 [(0, .ref 32), (1, .int g)] [] (zM o ot it IF (va_up A 34 (lf L)) AL AD) 0 0 Q := by
        intro hr
        have e2 : yV T n σ.1 < 1 ∨ ¬ yV T n σ.1 ≤ 60 := by
          by_cases z : yV T n σ.1 < 1
          · exact Or.inl z
          · exact Or.inr (fun z2 => hr ⟨z, fun z3 => i32_ngt z3 z2⟩)
        have eN := yN_o (T := T) (n := n) (lo := 1) (hi := 60) hN e2
        have he2 : ¬ (yF (σ.1 2 5) 2 σ.1) 2 1 = 0 := yF_1 (by decide)
        have e5 : pSe T n (pSl T n 0 s σ).1 = yF (σ.1 2 5) 2 σ.1 := by
          rw [h5, eN]
          show ySe T n (yF _ 5 (yF (σ.1 2 5) 2 σ.1)) = _
          rw [yF_f he2, ySe_e he2]
        refine zrun 4 ⟨⟨Nat.le_of_ble_eq_true rfl, Nat.le_of_ble_eq_true rfl, rfl⟩, ?_⟩
        refine c_figure (lo := 1) (hi := 60) (d := d + 3) (A := va_up A 34 (lf L)) hn5 hT hT8 hR (fun v I1 r1 _ f1 => ⟨rfl, ?_⟩)
        rw [eN] at r1
        refine zrun 2 (zloc [(0, _), (1, _), (2, _)] rfl ?_)
        refine zrun 1 ⟨⟨Nat.le_of_ble_eq_true rfl, Nat.le_of_ble_eq_true rfl, rfl⟩, ?_⟩
        refine c_isWrong (fun u hu => ⟨rfl, ?_⟩)
        refine zrun 1 (zb_t rfl (fun _ => ?_) (fun q => by rw [hu.mpr (by rw [r1.2.1]; exact he2)] at q; exact Bool.noConfusion q))
        refine zrun 2 ⟨⟨Nat.le_of_ble_eq_true rfl, Nat.le_of_ble_eq_true rfl, rfl⟩, ?_⟩
        refine c_kind (σ := (yF (σ.1 2 5) 2 σ.1, σ.2)) (L := L) hn5 hT hT8 r1 (fun z => absurd z he2) (fun z => absurd z he2) (fun I2 L2 r2 _ f2 => ⟨rfl, ?_⟩)
        exact cl_l104 (fun b c hc _ => cl_l20e (A := A) (L := L2) hn5 hT hT8 hc (tR_e (J := yF (σ.1 2 5) 2 σ.1) r2 (by rw [pK_e he2]; exact he2) (pK_e he2 1).symm (pK_e he2 2).symm (yOk_F hR.2.2.2.1)) he2 (fun I3 r3 f3 => hq I3 L2 (by rw [e5]; exact r3) (fun z => absurd (show (pSe T n (pSl T n 0 s σ).1) 2 1 = 0 from z) (by rw [e5]; exact he2)) (tF_t f1 (tF_t f2 f3))))
      have e5 : ∀ {w : Bool}, w = true → (w = true ↔ ¬ (zM o ot it IF (va_up A 34 (lf L)) AL AD).2.2.1 32 16 < 1 ∧ ¬ (60 : Int32) < (zM o ot it IF (va_up A 34 (lf L)) AL AD).2.2.1 32 16) → (pSe T n (pSl T n 0 s σ).1) 2 1 = (yF (σ.1 2 5) 5 σ.1) 2 1 ∧ (pSe T n (pSl T n 0 s σ).1) 2 2 = (yF (σ.1 2 5) 5 σ.1) 2 2 := by
        intro w hw1 hw2
        have q : ¬ IF 32 16 < 1 ∧ ¬ (60 : Int32) < IF 32 16 := hw2.mp hw1
        rw [hnv] at q
        have eN := yN_t (T := T) (n := n) (lo := 1) (hi := 60) hN (fun z => z.elim q.1 (fun z2 => z2 (i32_nlt q.2)))
        have hy0 : yT T n σ.1 2 1 = 0 := h4.trans h0
        rw [h5, eN]
        show ySe T n (yF (yT T n σ.1 2 7) 5 (yT T n σ.1)) 2 1 = _ ∧ ySe T n (yF (yT T n σ.1 2 7) 5 (yT T n σ.1)) 2 2 = _
        rw [ySe_e (yF_1 (by decide)), yF_t hy0, yF_t h0]
        exact ⟨rfl, rfl⟩
      refine zrun 2 (zb_f hg (fun q => Bool.noConfusion q) (fun _ => ?_))
      refine zrun 2 ⟨⟨Nat.le_of_ble_eq_true rfl, Nat.le_of_ble_eq_true rfl, rfl⟩, ?_⟩
      refine c_isWrong (fun u hu => ⟨rfl, ?_⟩)
      refine zrun 1 (zb_t rfl (fun q => absurd (hR.2.1.trans h0) (hu.mp q)) (fun _ => ?_))
      refine zrun 4 ⟨(fun q => absurd (h3.1.trans h2) q), (fun _ => ?_)⟩
      refine zrun 5 ⟨⟨Nat.le_of_ble_eq_true rfl, Nat.le_of_ble_eq_true rfl, rfl⟩, ?_⟩
      refine c_isIn (fun w hw => ⟨rfl, ?_⟩)
      refine zrun 1 (zb_f rfl (fun g2 => ?_) (fun g2 => ?_))
      · exact zpc 68 (by decide) (k68o (fun z => by rw [hw.mpr (by rw [show (zM o ot it IF (va_up A 34 (lf L)) AL AD).2.2.1 32 16 = yV T n σ.1 from hnv]; exact z)] at g2; exact Bool.noConfusion g2))
      · refine zrun 3 ?_
        refine zW_ildv (n := 0) rfl rfl rfl (by decide) (by decide) rfl ?_
        refine zrun 2 (zb_ne (b := 8) rfl rfl (by omega) (by decide) (fun q => absurd (by omega) q) (fun _ => ?_))
        refine zrun 3 ⟨⟨Nat.le_of_ble_eq_true rfl, Nat.le_of_ble_eq_true rfl, rfl⟩, ?_⟩
        refine c_mfails hR (by decide) (fun I1 r1 f1 => ⟨rfl, ?_⟩)
        exact zpc 68 (by decide) (k68 (yF (σ.1 2 5) 5 σ.1) I1 r1 (yF_1 (by decide)) f1 (e5 g2 hw).1 (e5 g2 hw).2 hOk)
    · have ex := fun (L : Nat → Nat) => cl_l121 (ε := ε) (d := d) (Q := Q) (o := o) (ot := ot) (it := it) (AL := AL) (AD := AD) (A := A) (L := L) hn5 hT hT8 (g := g) hR
      have e1 : pSe T n (pSl T n 0 s σ).1 = ySe T n σ.1 := pSe_n hN
      have k121 : zW ε false (d + 7) 150 121 [(0, .ref 32), (1, .int g)] [] (zM o ot it IF (va_up A 34 (lf L)) AL AD) 0 0 Q := ex L (fun I1 r1 f1 => hq I1 L (by rw [e1]; exact r1) (fun z => by
        have z1 : ySe T n σ.1 2 1 = 0 := by rw [← e1]; exact z
        have hd := hD (ySe_ok z1).1
        rw [e1]
        exact ⟨pD_y hd.1 (fun j => ySe_4), by omega, hd.2.2⟩) f1)
      refine zrun 2 (zb_f hg (fun _ => ?_) (fun gb => ?_))
      · exact zpc 121 (by decide) k121
      · refine zrun 2 ⟨⟨Nat.le_of_ble_eq_true rfl, Nat.le_of_ble_eq_true rfl, rfl⟩, ?_⟩
        refine c_isWrong (fun u hu => ⟨rfl, ?_⟩)
        refine zrun 1 (zb_t rfl (fun _ => ?_) (fun g2 => ?_))
        · exact zpc 121 (by decide) k121
        · exfalso
          have h0 : σ.1 2 1 = 0 := by
            by_cases z : IF 32 17 = 0
            · rw [← hR.2.1]; exact z
            · rw [hu.mpr z] at g2; exact Bool.noConfusion g2
          exact hN (yNu_iff.mpr ⟨h0, (hb h0).mp gb⟩)
  | succ k ih =>
    intro s σ L IF g b hk hs hg hR hD hb hq
    by_cases hN : yNu σ.1 = true
    · have h0 := (yNu_iff.mp hN).1
      have h2 := (yNu_iff.mp hN).2
      have h3 := hR.2.2.2.2 h0
      have hd := hD h0
      have hbt : b = true := (hb h0).mpr h2
      subst hbt
      unfold pSl at hq
      rw [hN] at hq
      have k68 := cl_l68 (ε := ε) (d := d) (Q := Q) (o := o) (ot := ot) (it := it) (AL := AL) (AD := AD) (A := A) (L := L) hn5 hT hT8 (g := g) (s := s) (by omega) hR hD (fun I2 L2 v2 r2 h2 f2 => cl_l104 (fun b c hc hb2 => ih (s + 1) (pSeg T n s σ) L2 I2 c b (by omega) (by omega) hc r2 h2 (fun z => hb2.trans (by rw [(r2.2.2.2.2 z).1])) (fun I3 L3 r3 h3 f3 => hq I3 L3 r3 h3 (tF_t f2 f3))))
      refine zrun 2 (zb_f hg (fun q => Bool.noConfusion q) (fun _ => ?_))
      refine zrun 2 ⟨⟨Nat.le_of_ble_eq_true rfl, Nat.le_of_ble_eq_true rfl, rfl⟩, ?_⟩
      refine c_isWrong (fun u hu => ⟨rfl, ?_⟩)
      refine zrun 1 (zb_t rfl (fun q => absurd (hR.2.1.trans h0) (hu.mp q)) (fun _ => ?_))
      refine zrun 4 ⟨(fun q => absurd (h3.1.trans h2) q), (fun _ => ?_)⟩
      refine zrun 5 ⟨⟨Nat.le_of_ble_eq_true rfl, Nat.le_of_ble_eq_true rfl, rfl⟩, ?_⟩
      refine c_isIn (fun w hw => ⟨rfl, ?_⟩)
      refine zrun 1 (zb_f rfl (fun g2 => ?_) (fun g2 => ?_))
      · exact zpc 68 (by decide) k68
      · refine zrun 3 ?_
        refine zW_ildv (n := 0) rfl rfl rfl (by decide) (by decide) rfl ?_
        refine zrun 2 (zb_ne (b := 8) rfl rfl (by omega) (by decide) (fun _ => ?_) (fun q => absurd q (by omega)))
        exact zpc 68 (by decide) k68
    · have e0 : pSl T n (k + 1) s σ = σ := pSl_n hN
      have e1 : pSe T n (pSl T n (k + 1) s σ).1 = ySe T n σ.1 := by rw [e0]; exact pSe_n hN
      have k121 : zW ε false (d + 7) 150 121 [(0, .ref 32), (1, .int g)] [] (zM o ot it IF (va_up A 34 (lf L)) AL AD) 0 0 Q := cl_l121 hn5 hT hT8 hR (fun I1 r1 f1 => hq I1 L (by rw [e1]; exact r1) (fun z => by
        have z1 : ySe T n σ.1 2 1 = 0 := by rw [← e1]; exact z
        have hd := hD (ySe_ok z1).1
        rw [e1, e0]
        exact ⟨pD_y hd.1 (fun j => ySe_4), by omega, hd.2.2⟩) f1)
      refine zrun 2 (zb_f hg (fun _ => ?_) (fun gb => ?_))
      · exact zpc 121 (by decide) k121
      · refine zrun 2 ⟨⟨Nat.le_of_ble_eq_true rfl, Nat.le_of_ble_eq_true rfl, rfl⟩, ?_⟩
        refine c_isWrong (fun u hu => ⟨rfl, ?_⟩)
        refine zrun 1 (zb_t rfl (fun _ => ?_) (fun g2 => ?_))
        · exact zpc 121 (by decide) k121
        · exfalso
          have h0 : σ.1 2 1 = 0 := by
            by_cases z : IF 32 17 = 0
            · rw [← hR.2.1]; exact z
            · rw [hu.mpr z] at g2; exact Bool.noConfusion g2
          exact hN (yNu_iff.mpr ⟨h0, (hb h0).mp gb⟩)
theorem c_line (hn5 : n ≤ 500) (hT : ∀ p, p < n → A 41 p = nI (T p)) (hT8 : ∀ p, p < n → T p < 2 ^ 31) (hR : tRf T n σ.1 IF) (hD : σ.1 2 1 = 0 → pD 1 σ L ∧ L 0 = 0 ∧ L 1 = 0 ∧ L 2 = 0) (hq : ∀ IF' L', tRf T n (pS T n σ).1 IF' → lnP (pS T n σ) L' → tF IF IF' → Q (.inl none) (zM o ot it IF' (va_up A 34 (lf L')) AL AD)) : zW ε false (d + 7) 150 0 [(0, .ref 32)] [] (zM o ot it IF (va_up A 34 (lf L)) AL AD) 0 0 Q := by
  generalize hJ : cond (yIs T n (zsg 0) σ.1) (yT T n σ.1) (yF (σ.1 2 5) 1 σ.1) = J
  have hz : J 2 1 = 0 → σ.1 2 1 = 0 := fun z => by
    rw [← hJ] at z
    cases e : yIs T n (zsg 0) σ.1
    · rw [e] at z; exact absurd z (yF_1 (by decide))
    · exact yIs_k e
  have hJ4 : ∀ j, J 4 j = σ.1 4 j := fun j => by
    rw [← hJ]
    cases yIs T n (zsg 0) σ.1
    · exact yF_ne (by omega)
    · exact yT_4 (by omega)
  have hS0 : pS0 T n σ.1 = pK T n J := by unfold pS0; rw [hJ]
  have hqs : ∀ τ, τ = pSeg T n 0 (pS0 T n σ.1, σ.2) → ∀ IF' L', tRf T n (pSe T n (pSl T n 6 1 τ).1) IF' → lnP (pSe T n (pSl T n 6 1 τ).1, (pSl T n 6 1 τ).2) L' → tF IF IF' → Q (.inl none) (zM o ot it IF' (va_up A 34 (lf L')) AL AD) := fun τ e IF' L' r l f => hq IF' L' (by unfold pS; rw [← e]; exact r) (by unfold pS; rw [← e]; exact l) f
  have k14 : ∀ I1, tRf T n J I1 → tF IF I1 → zW ε false (d + 7) 150 14 [(0, .ref 32)] [] (zM o ot it I1 (va_up A 34 (lf L)) AL AD) 0 0 Q := by
    intro I1 r1 f1
    refine zrun 2 ⟨⟨Nat.le_of_ble_eq_true rfl, Nat.le_of_ble_eq_true rfl, rfl⟩, ?_⟩
    refine c_kind (σ := (J, σ.2)) (L := L) hn5 hT hT8 r1 (fun z => pD_y (hD (hz z)).1 hJ4) (fun z => ⟨by rw [(hD (hz z)).2.1]; omega, (hD (hz z)).2.2⟩) (fun I2 L2 r2 h2 f2 => ⟨rfl, ?_⟩)
    generalize hK : pK T n J = K at r2 h2
    have hzk : K 2 1 = 0 → L 0 = 0 := fun z => (hD (hz (pK_z (by rw [hK]; exact z)))).2.1
    have hτ : (pSeg T n 0 (K, σ.2)) = pSeg T n 0 (pS0 T n σ.1, σ.2) := by rw [hS0, hK]
    refine zrun 2 (zloc [(0, _), (1, _)] rfl ?_)
    have k68 := fun g => cl_l68 (ε := ε) (d := d) (Q := Q) (o := o) (ot := ot) (it := it) (AL := AL) (AD := AD) (A := A) (L := L2) (σ := (K, σ.2)) hn5 hT hT8 (g := g) (s := 0) (by omega) r2 (fun z => ⟨(h2 z).1, by rw [(h2 z).2.1, hzk z], (h2 z).2.2⟩) (fun I3 L3 v3 r3 h3 f3 => cl_l104 (fun b c hc hb2 => cl_l20 hn5 hT hT8 6 1 (pSeg T n 0 (K, σ.2)) L3 I3 c b (by omega) (by omega) hc r3 h3 (fun z => hb2.trans (by rw [(r3.2.2.2.2 z).1])) (fun I4 L4 r4 h4 f4 => hqs _ hτ I4 L4 r4 h4 (tF_t f1 (tF_t f2 (tF_t f3 f4))))))
    by_cases he : K 2 1 = 0
    · refine zrun 2 (zb_f (b := true) rfl (fun q => Bool.noConfusion q) (fun _ => ?_))
      refine zrun 2 ⟨⟨Nat.le_of_ble_eq_true rfl, Nat.le_of_ble_eq_true rfl, rfl⟩, ?_⟩
      refine c_isWrong (fun u hu => ⟨rfl, ?_⟩)
      refine zrun 1 (zb_t rfl (fun q => absurd (r2.2.1.trans he) (hu.mp q)) (fun _ => ?_))
      refine zrun 4 ⟨(fun _ => ?_), (fun g3 => ?_)⟩
      · exact zpc 68 (by decide) (k68 _)
      · have hB := (h2 he).1.1.2.1
        have hL2 : L2 0 = 1 := by rw [(h2 he).2.1, hzk he]
        refine zrun 5 ⟨⟨Nat.le_of_ble_eq_true rfl, Nat.le_of_ble_eq_true rfl, rfl⟩, ?_⟩
        refine c_isIn (fun w hw => ⟨rfl, ?_⟩)
        refine zrun 1 (zb_f rfl (fun _ => ?_) (fun _ => ?_))
        · exact zpc 68 (by decide) (k68 _)
        · refine zrun 3 ?_
          refine zW_ildv (n := 0) rfl rfl rfl (by decide) (by decide) rfl ?_
          refine zrun 2 (zb_ne (b := 8) rfl rfl (by omega) (by decide) (fun _ => ?_) (fun q => absurd q (by omega)))
          exact zpc 68 (by decide) (k68 _)
    · have eS : (pSeg T n 0 (K, σ.2)).1 = pK T n K := by show pK T n (yN T n 1 60 K).2 = _; rw [yN_e he]
      have e1 : ¬ (pSeg T n 0 (K, σ.2)).1 2 1 = 0 := by rw [eS, pK_e he]; exact he
      have e2 : pSl T n 6 1 (pSeg T n 0 (K, σ.2)) = pSeg T n 0 (K, σ.2) := pSl_n (fun z => e1 (yNu_iff.mp z).1)
      have e3 : pSe T n (pSl T n 6 1 (pSeg T n 0 (K, σ.2))).1 = pK T n K := by rw [e2, pSe_n (fun z => e1 (yNu_iff.mp z).1), ySe_e e1, eS]
      exact cl_l20e (b := true) hn5 hT hT8 rfl r2 he (fun I3 r3 f3 => hqs _ hτ I3 L2 (by rw [e3]; exact tR_e r3 he (pK_e he 1) (pK_e he 2) (yOk_K hn5 r3.2.2.2.1)) (fun z => absurd (show pSe T n (pSl T n 6 1 (pSeg T n 0 (K, σ.2))).1 2 1 = 0 from z) (by rw [e3, pK_e he]; exact he)) (tF_t f1 (tF_t f2 f3)))
  refine zrun 3 ⟨⟨Nat.le_of_ble_eq_true rfl, Nat.le_of_ble_eq_true rfl, rfl⟩, ?_⟩
  refine c_mtakesWord (d := d + 1) (i := 29) (A := va_up A 34 (lf L)) hn5 hT hT8 hR (by omega) (zsg_l 29 (by omega)) (fun I1 r1 f1 => ⟨rfl, ?_⟩)
  refine zrun 1 (zb_t rfl (fun g1 => ?_) (fun g1 => ?_))
  · exact zpc 14 (by decide) (k14 I1 (by rw [← hJ, ← zsg_x.2.2.1, g1]; rw [g1] at r1; exact r1) f1)
  · refine zrun 3 ⟨⟨Nat.le_of_ble_eq_true rfl, Nat.le_of_ble_eq_true rfl, rfl⟩, ?_⟩
    refine c_mfails (d := d + 5) (I := σ.1) (by rw [g1] at r1; exact r1) (by decide) (fun I3 r3 f3 => ⟨rfl, ?_⟩)
    exact zpc 14 (by decide) (k14 I3 (by rw [← hJ, ← zsg_x.2.2.1, g1]; exact r3) (tF_t f1 f3))
end
