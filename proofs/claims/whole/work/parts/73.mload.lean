/-! the reference: load -/
section
variable {ε : Nat × (Nat → Int32)} {d : Nat} {Q : zQ} {o ot it : Value} {A : Nat → Nat → Int32} {AL : Nat → Nat → Int64} {AD : Nat → Nat → UInt64} {T : Nat → Nat} {n : Nat} {IF I : Nat → Nat → Int32} {σ : zP} {L : Nat → Nat}
def ldP (σ' : zP) (L' : Nat → Nat) : Prop := σ'.1 2 1 = 0 → pD 0 σ' L' ∧ 2 ≤ L' 0
theorem pXs_n {i : Nat} (h : yIs T n (zsg i) I = false) : pXs T n i I = I := by unfold pXs; rw [h]; rfl
theorem pXs_y {i : Nat} (h : yIs T n (zsg i) I = true) : pXs T n i I = yF (I 2 5) 5 I := by unfold pXs; rw [h]; rfl
theorem pTl_n {k t : Nat} (h : yIs T n (zsg 5) σ.1 = false) : pTl T n k t σ = σ := by
  cases k with
  | zero => rfl
  | succ k => unfold pTl; rw [h]; rfl
theorem pCl_n {k t : Nat} (h : yIs T n (zsg 6) σ.1 = false) : pCl T n k t σ = σ := by
  cases k with
  | zero => rfl
  | succ k => unfold pCl; rw [h]; rfl
theorem pTl_y {k t : Nat} (h : yIs T n (zsg 5) σ.1 = true) : pTl T n (k + 1) t σ = pTl T n k (t + 1) (pT1 T n (nI t) (yT T n σ.1, σ.2)) := by
  show cond (yIs T n (zsg 5) σ.1) _ _ = _
  rw [h]; rfl
theorem pCl_y {k t : Nat} (h : yIs T n (zsg 6) σ.1 = true) : pCl T n (k + 1) t σ = pCl T n k (t + 1) (pCn T n t σ) := by
  show cond (yIs T n (zsg 6) σ.1) _ _ = _
  rw [h]; rfl
theorem bit_0 : ∀ s, s < 8 → sdB 0 s = decide ((0 : Nat) = 1) := by decide
theorem mKL_k {k : Nat} (hl : lB L) (hk : k < 92) : mKL (va_up A 34 (lf L)) k = L k := by
  have q := hl k hk
  show (cp 92 (lf L) (A 33) k).toBitVec.toNat = _
  rw [cp_lt hk]
  exact pk_tn (by omega)
/-- what load leaves of the reference's fields -/
def lF (T : Nat → Nat) (n : Nat) (σ : zP) (IF IF' : Nat → Nat → Int32) : Prop := IF' 32 0 = 0 ∧ IF' 32 11 = 0 ∧ IF' 32 12 = nI n ∧ IF' 32 17 = (pP T n σ).1 2 1 ∧ IF' 32 18 = (pP T n σ).1 2 2 ∧ (∀ c j, ¬ (c = 32 ∧ (j = 0 ∨ (11 ≤ j ∧ j ≤ 18))) → IF' c j = IF c j)
theorem cl_ltr (hn5 : n ≤ 500) (hT : ∀ p, p < n → A 41 p = nI (T p)) (hT8 : ∀ p, p < n → T p < 2 ^ 31) : ∀ (k t : Nat) (σ : zP) (L : Nat → Nat) (IF : Nat → Nat → Int32), t + k = 8 → tRf T n σ.1 IF → trP t σ L → (∀ IF' L', tRf T n (pXs T n 5 (pTl T n k t σ).1) IF' → lkP 0 (pXs T n 5 (pTl T n k t σ).1, (pTl T n k t σ).2) L' → tF IF IF' → zW ε false (d + 8) 155 65 [(0, .ref 32)] [] (zM o ot it IF' (va_up A 34 (lf L')) AL AD) 0 0 Q) → zW ε false (d + 8) 155 49 [(0, .ref 32)] [] (zM o ot it IF (va_up A 34 (lf L)) AL AD) 0 0 Q := by
  have hX : ∀ I, yIs T n (zsg 32) I = yIs T n (zsg 5) I := fun I => by rw [zsg_x.2.2.2.2.2.1]
  intro k
  induction k with
  | zero =>
    intro t σ L IF hk hR hD hq
    cases g : yIs T n (zsg 5) σ.1 with
    | true =>
      have h0 := yIs_k g
      have he : ¬ (yF (σ.1 2 5) 5 σ.1) 2 1 = 0 := yF_1 (by decide)
      have e1 : pXs T n 5 (pTl T n 0 t σ).1 = yF (σ.1 2 5) 5 σ.1 := pXs_y g
      refine zrun 3 ⟨⟨Nat.le_of_ble_eq_true rfl, Nat.le_of_ble_eq_true rfl, rfl⟩, ?_⟩
      refine c_misWord (d := d + 3) (i := 32) (A := va_up A 34 (lf L)) hn5 hT hT8 hR (by omega) (zsg_l 32 (by omega)) ⟨rfl, ?_⟩
      refine zrun 1 (zb_f rfl (fun q => by rw [hX, g] at q; exact Bool.noConfusion q) (fun _ => ?_))
      refine zrun 2 ⟨⟨Nat.le_of_ble_eq_true rfl, Nat.le_of_ble_eq_true rfl, rfl⟩, ?_⟩
      refine c_oneTrain8 (d := d + 2) (L := L) hn5 hT hT8 hR h0 (by have := (hD h0).2.2; omega) (fun I1 r1 f1 => ⟨rfl, ?_⟩)
      refine zrun 1 ?_
      refine zrun 3 ⟨⟨Nat.le_of_ble_eq_true rfl, Nat.le_of_ble_eq_true rfl, rfl⟩, ?_⟩
      refine c_misWord (d := d + 3) (i := 32) (A := va_up A 34 (lf L)) hn5 hT hT8 r1 (by omega) (zsg_l 32 (by omega)) ⟨rfl, ?_⟩
      refine zrun 1 (zb_f rfl (fun _ => ?_) (fun q => by rw [yIs_w he] at q; exact Bool.noConfusion q))
      exact zpc 65 (by decide) (hq I1 L (by rw [e1]; exact r1) (fun z => absurd (show pXs T n 5 (pTl T n 0 t σ).1 2 1 = 0 from z) (by rw [e1]; exact he)) f1)
    | false =>
      have e0 : pTl T n 0 t σ = σ := pTl_n g
      have e1 : pXs T n 5 (pTl T n 0 t σ).1 = σ.1 := by rw [e0]; exact pXs_n g
      refine zrun 3 ⟨⟨Nat.le_of_ble_eq_true rfl, Nat.le_of_ble_eq_true rfl, rfl⟩, ?_⟩
      refine c_misWord (d := d + 3) (i := 32) (A := va_up A 34 (lf L)) hn5 hT hT8 hR (by omega) (zsg_l 32 (by omega)) ⟨rfl, ?_⟩
      refine zrun 1 (zb_f rfl (fun _ => ?_) (fun q => by rw [hX, g] at q; exact Bool.noConfusion q))
      exact zpc 65 (by decide) (hq IF L (by rw [e1]; exact hR) (fun z => by rw [e1, e0]; exact ⟨(hD (e1 ▸ z)).1, (hD (e1 ▸ z)).2.1, (hD (e1 ▸ z)).2.2.2⟩) (tF_r IF))
  | succ k ih =>
    intro t σ L IF hk hR hD hq
    cases g : yIs T n (zsg 5) σ.1 with
    | true =>
      have h0 := yIs_k g
      rw [pTl_y g] at hq
      refine zrun 3 ⟨⟨Nat.le_of_ble_eq_true rfl, Nat.le_of_ble_eq_true rfl, rfl⟩, ?_⟩
      refine c_misWord (d := d + 3) (i := 32) (A := va_up A 34 (lf L)) hn5 hT hT8 hR (by omega) (zsg_l 32 (by omega)) ⟨rfl, ?_⟩
      refine zrun 1 (zb_f rfl (fun q => by rw [hX, g] at q; exact Bool.noConfusion q) (fun _ => ?_))
      refine zrun 2 ⟨⟨Nat.le_of_ble_eq_true rfl, Nat.le_of_ble_eq_true rfl, rfl⟩, ?_⟩
      refine c_oneTrain (d := d + 2) (L := L) hn5 hT hT8 (show t < 8 by omega) hR h0 hD (fun I1 L1 r1 h1 f1 => ⟨rfl, ?_⟩)
      exact zrun 1 (ih (t + 1) _ L1 I1 (by omega) r1 h1 (fun I2 L2 r2 h2 f2 => hq I2 L2 r2 h2 (tF_t f1 f2)))
    | false =>
      have e0 : pTl T n (k + 1) t σ = σ := pTl_n g
      have e1 : pXs T n 5 (pTl T n (k + 1) t σ).1 = σ.1 := by rw [e0]; exact pXs_n g
      refine zrun 3 ⟨⟨Nat.le_of_ble_eq_true rfl, Nat.le_of_ble_eq_true rfl, rfl⟩, ?_⟩
      refine c_misWord (d := d + 3) (i := 32) (A := va_up A 34 (lf L)) hn5 hT hT8 hR (by omega) (zsg_l 32 (by omega)) ⟨rfl, ?_⟩
      refine zrun 1 (zb_f rfl (fun _ => ?_) (fun q => by rw [hX, g] at q; exact Bool.noConfusion q))
      exact zpc 65 (by decide) (hq IF L (by rw [e1]; exact hR) (fun z => by rw [e1, e0]; exact ⟨(hD (e1 ▸ z)).1, (hD (e1 ▸ z)).2.1, (hD (e1 ▸ z)).2.2.2⟩) (tF_r IF))
theorem cl_llk (hn5 : n ≤ 500) (hT : ∀ p, p < n → A 41 p = nI (T p)) (hT8 : ∀ p, p < n → T p < 2 ^ 31) : ∀ (k t : Nat) (σ : zP) (L : Nat → Nat) (IF : Nat → Nat → Int32), t + k = 8 → tRf T n σ.1 IF → lkP t σ L → (∀ IF' L', tRf T n (pXs T n 6 (pCl T n k t σ).1) IF' → ldP (pXs T n 6 (pCl T n k t σ).1, (pCl T n k t σ).2) L' → tF IF IF' → zW ε false (d + 8) 155 81 [(0, .ref 32)] [] (zM o ot it IF' (va_up A 34 (lf L')) AL AD) 0 0 Q) → zW ε false (d + 8) 155 65 [(0, .ref 32)] [] (zM o ot it IF (va_up A 34 (lf L)) AL AD) 0 0 Q := by
  have hX : ∀ I, yIs T n (zsg 33) I = yIs T n (zsg 6) I := fun I => by rw [zsg_x.2.2.2.2.2.2]
  intro k
  induction k with
  | zero =>
    intro t σ L IF hk hR hD hq
    cases g : yIs T n (zsg 6) σ.1 with
    | true =>
      have h0 := yIs_k g
      have he : ¬ (yF (σ.1 2 5) 5 σ.1) 2 1 = 0 := yF_1 (by decide)
      have e1 : pXs T n 6 (pCl T n 0 t σ).1 = yF (σ.1 2 5) 5 σ.1 := pXs_y g
      refine zrun 3 ⟨⟨Nat.le_of_ble_eq_true rfl, Nat.le_of_ble_eq_true rfl, rfl⟩, ?_⟩
      refine c_misWord (d := d + 3) (i := 33) (A := va_up A 34 (lf L)) hn5 hT hT8 hR (by omega) (zsg_l 33 (by omega)) ⟨rfl, ?_⟩
      refine zrun 1 (zb_f rfl (fun q => by rw [hX, g] at q; exact Bool.noConfusion q) (fun _ => ?_))
      refine zrun 2 ⟨⟨Nat.le_of_ble_eq_true rfl, Nat.le_of_ble_eq_true rfl, rfl⟩, ?_⟩
      refine c_oneLink8 (d := d + 2) (L := L) hn5 hT hT8 hR h0 (by have := (hD h0).2.2; omega) (fun I1 r1 f1 => ⟨rfl, ?_⟩)
      refine zrun 1 ?_
      refine zrun 3 ⟨⟨Nat.le_of_ble_eq_true rfl, Nat.le_of_ble_eq_true rfl, rfl⟩, ?_⟩
      refine c_misWord (d := d + 3) (i := 33) (A := va_up A 34 (lf L)) hn5 hT hT8 r1 (by omega) (zsg_l 33 (by omega)) ⟨rfl, ?_⟩
      refine zrun 1 (zb_f rfl (fun _ => ?_) (fun q => by rw [yIs_w he] at q; exact Bool.noConfusion q))
      exact zpc 81 (by decide) (hq I1 L (by rw [e1]; exact r1) (fun z => absurd (show pXs T n 6 (pCl T n 0 t σ).1 2 1 = 0 from z) (by rw [e1]; exact he)) f1)
    | false =>
      have e0 : pCl T n 0 t σ = σ := pCl_n g
      have e1 : pXs T n 6 (pCl T n 0 t σ).1 = σ.1 := by rw [e0]; exact pXs_n g
      refine zrun 3 ⟨⟨Nat.le_of_ble_eq_true rfl, Nat.le_of_ble_eq_true rfl, rfl⟩, ?_⟩
      refine c_misWord (d := d + 3) (i := 33) (A := va_up A 34 (lf L)) hn5 hT hT8 hR (by omega) (zsg_l 33 (by omega)) ⟨rfl, ?_⟩
      refine zrun 1 (zb_f rfl (fun _ => ?_) (fun q => by rw [hX, g] at q; exact Bool.noConfusion q))
      exact zpc 81 (by decide) (hq IF L (by rw [e1]; exact hR) (fun z => by rw [e1, e0]; exact ⟨(hD (e1 ▸ z)).1, (hD (e1 ▸ z)).2.1⟩) (tF_r IF))
  | succ k ih =>
    intro t σ L IF hk hR hD hq
    cases g : yIs T n (zsg 6) σ.1 with
    | true =>
      have h0 := yIs_k g
      rw [pCl_y g] at hq
      refine zrun 3 ⟨⟨Nat.le_of_ble_eq_true rfl, Nat.le_of_ble_eq_true rfl, rfl⟩, ?_⟩
      refine c_misWord (d := d + 3) (i := 33) (A := va_up A 34 (lf L)) hn5 hT hT8 hR (by omega) (zsg_l 33 (by omega)) ⟨rfl, ?_⟩
      refine zrun 1 (zb_f rfl (fun q => by rw [hX, g] at q; exact Bool.noConfusion q) (fun _ => ?_))
      refine zrun 2 ⟨⟨Nat.le_of_ble_eq_true rfl, Nat.le_of_ble_eq_true rfl, rfl⟩, ?_⟩
      refine c_oneLink (d := d + 2) (L := L) hn5 hT hT8 (show t < 8 by omega) hR h0 hD (fun I1 L1 r1 h1 f1 => ⟨rfl, ?_⟩)
      exact zrun 1 (ih (t + 1) _ L1 I1 (by omega) r1 h1 (fun I2 L2 r2 h2 f2 => hq I2 L2 r2 h2 (tF_t f1 f2)))
    | false =>
      have e0 : pCl T n (k + 1) t σ = σ := pCl_n g
      have e1 : pXs T n 6 (pCl T n (k + 1) t σ).1 = σ.1 := by rw [e0]; exact pXs_n g
      refine zrun 3 ⟨⟨Nat.le_of_ble_eq_true rfl, Nat.le_of_ble_eq_true rfl, rfl⟩, ?_⟩
      refine c_misWord (d := d + 3) (i := 33) (A := va_up A 34 (lf L)) hn5 hT hT8 hR (by omega) (zsg_l 33 (by omega)) ⟨rfl, ?_⟩
      refine zrun 1 (zb_f rfl (fun _ => ?_) (fun q => by rw [hX, g] at q; exact Bool.noConfusion q))
      exact zpc 81 (by decide) (hq IF L (by rw [e1]; exact hR) (fun z => by rw [e1, e0]; exact ⟨(hD (e1 ▸ z)).1, (hD (e1 ▸ z)).2.1⟩) (tF_r IF))
/-- from the end of the text on -/
theorem cl_l81 (hn5 : n ≤ 500) (hT : ∀ p, p < n → A 41 p = nI (T p)) (hT8 : ∀ p, p < n → T p < 2 ^ 31) {IF0 : Nat → Nat → Int32} {σ0 : zP} (hE : (pP T n σ0) = pP4 σ) (h00 : IF 32 0 = 0) (hF : ∀ IF', tRf T n (pP4 σ).1 IF' → tF IF IF' → lF T n σ0 IF0 IF') (hR : tRf T n σ.1 IF) (hD : ldP σ L) (h1 : ∀ IF', (pP T n σ0).1 2 1 = 0 → pD 0 (pP T n σ0) L → 2 ≤ L 0 → lF T n σ0 IF0 IF' → Q (.inl (some (.int (nI (L 1))))) (zM o ot it (yU 32 9 0 IF') (mTk (va_up A 34 (lf L))) AL AD)) (h2 : ∀ IF', ¬ (pP T n σ0).1 2 1 = 0 → lF T n σ0 IF0 IF' → Q (.inl (some (.int 0))) (zM o ot it (yU 32 0 1 IF') (va_up A 34 (lf L)) AL AD)) : zW ε false (d + 8) 155 81 [(0, .ref 32)] [] (zM o ot it IF (va_up A 34 (lf L)) AL AD) 0 0 Q := by
  have k100 : ∀ I1, tRf T n (pP4 σ).1 I1 → tF IF I1 → zW ε false (d + 8) 155 100 [(0, .ref 32)] [] (zM o ot it I1 (va_up A 34 (lf L)) AL AD) 0 0 Q := by
    intro I1 r1 f1
    have hF1 := hF I1 r1 f1
    have hI0 : I1 32 0 = 0 := (f1 32 0 (by omega)).trans h00
    refine zrun 3 ⟨⟨Nat.le_of_ble_eq_true rfl, Nat.le_of_ble_eq_true rfl, rfl⟩, ?_⟩
    refine c_isWrong (fun u hu => ⟨rfl, ?_⟩)
    refine zrun 1 (zb_t rfl (fun g => ?_) (fun g => ?_))
    · refine zrun 3 ⟨⟨Nat.le_of_ble_eq_true rfl, Nat.le_of_ble_eq_true rfl, rfl⟩, ?_⟩
      refine c_may (IF := I1) hI0 (by decide) (b := false) rfl (fun q => Bool.noConfusion q) (fun _ => ⟨rfl, ?_⟩)
      refine zrun 1 (zb_t (b := false) rfl (fun q => Bool.noConfusion q) (fun _ => ?_))
      exact zrun 2 (h2 I1 (by rw [hE]; exact fun z => absurd (r1.2.1.trans z) (hu.mp g)) hF1)
    · refine zrun 4 ⟨⟨Nat.le_of_ble_eq_true rfl, Nat.le_of_ble_eq_true rfl, rfl⟩, ?_⟩
      refine c_may (IF := I1) hI0 (by decide) (b := true) rfl (fun _ => ⟨rfl, ?_⟩) (fun q => Bool.noConfusion q)
      refine zrun 1 (zb_t (b := true) rfl (fun _ => ?_) (fun q => Bool.noConfusion q))
      have e0 : (pP4 σ).1 2 1 = 0 := by
        by_cases z : I1 32 17 = 0
        · rw [← r1.2.1]; exact z
        · rw [hu.mpr z] at g; exact Bool.noConfusion g
      have es : pP4 σ = σ := by
        have q : yEn σ.1 2 1 = 0 := e0
        show (yEn σ.1, σ.2) = σ
        unfold yEn at q ⊢
        by_cases z : σ.1 2 4 = 0
        · rw [if_pos z]
        · rw [if_neg z] at q; exact absurd q (yF_1 (by decide))
      rw [es] at e0
      have hd := hD e0
      have hlB := hd.1.1.1
      have hB := hd.1.1.2.1
      refine zrun 2 ⟨⟨Nat.le_of_ble_eq_true rfl, Nat.le_of_ble_eq_true rfl, rfl⟩, ?_⟩
      refine c_takes (d := d + 6) (A := va_up A 34 (lf L)) (fun k hk => by rw [mKL_k hlB hk]; exact hlB k hk) (by rw [mKL_k hlB (by decide)]; omega) ⟨rfl, ?_⟩
      refine zrun 3 ?_
      refine zW_ildv (n := 1) rfl rfl rfl (by decide) (by decide) (show mTk (va_up A 34 (lf L)) 33 1 = nI (L 1) from cp_lt (i := 92) (j := 1) (f := lf L) (g := A 33) (by decide)) ?_
      exact zrun 1 (h1 I1 (by rw [hE, es]; exact e0) (by rw [hE, es]; exact hd.1) hd.2 hF1)
  have en : ¬ σ.1 2 1 = 0 ∨ σ.1 2 4 = 0 → (pP4 σ).1 = σ.1 := fun h => by
    show yEn σ.1 = σ.1
    unfold yEn
    split
    · rfl
    · next e => exact yF_f (h.resolve_right e)
  have eF : ¬ σ.1 2 4 = 0 → (pP4 σ).1 = yF (σ.1 2 5) 1 σ.1 := fun h => if_neg h
  refine zrun 2 ⟨⟨Nat.le_of_ble_eq_true rfl, Nat.le_of_ble_eq_true rfl, rfl⟩, ?_⟩
  refine c_isWrong (fun u hu => ⟨rfl, ?_⟩)
  refine zrun 1 (zb_t rfl (fun g => ?_) (fun g => ?_))
  · exact zpc 100 (by decide) (k100 IF (by rw [en (Or.inl (by rw [← hR.2.1]; exact hu.mp g))]; exact hR) (tF_r IF))
  · have h0 : σ.1 2 1 = 0 := by
      by_cases z : IF 32 17 = 0
      · rw [← hR.2.1]; exact z
      · rw [hu.mpr z] at g; exact Bool.noConfusion g
    refine zrun 3 ⟨(fun g2 => ?_), (fun g2 => ?_)⟩
    · exact zpc 100 (by decide) (k100 IF (by rw [en (Or.inr ((hR.2.2.2.2 h0).1.symm.trans g2))]; exact hR) (tF_r IF))
    · refine zrun 3 ⟨⟨Nat.le_of_ble_eq_true rfl, Nat.le_of_ble_eq_true rfl, rfl⟩, ?_⟩
      refine c_mfails (d := d + 6) hR (by decide) (fun I1 r1 f1 => ⟨rfl, ?_⟩)
      exact zpc 100 (by decide) (k100 I1 (by rw [eF (fun z => g2 ((hR.2.2.2.2 h0).1.trans z))]; exact r1) f1)
theorem c_mload (hn5 : n ≤ 500) (hT : ∀ p, p < n → A 41 p = nI (T p)) (hT8 : ∀ p, p < n → T p < 2 ^ 31) (h11 : IF 32 11 = nI n) (h20 : σ.1 2 0 = nI n) (h1 : ∀ IF' L', (pP T n σ).1 2 1 = 0 → pD 0 (pP T n σ) L' → 2 ≤ L' 0 → lF T n σ IF IF' → Q (.inl (some (.int (nI (L' 1))))) (zM o ot it (yU 32 9 0 IF') (mTk (va_up A 34 (lf L'))) AL AD)) (h2 : ∀ IF' L', ¬ (pP T n σ).1 2 1 = 0 → lF T n σ IF IF' → Q (.inl (some (.int 0))) (zM o ot it (yU 32 0 1 IF') (va_up A 34 (lf L')) AL AD)) : zW ε false (d + 8) 155 0 [(0, .ref 32)] [] (zM o ot it IF A AL AD) 0 0 Q := by
  generalize hI0 : (yU 32 18 (-1) (yU 32 17 0 (yU 32 13 0 (yU 32 11 0 (yU 32 12 (IF 32 11) (yU 32 0 0 IF)))))) = I0
  have i0 : I0 32 0 = 0 := by rw [← hI0]; rfl
  have i11 : I0 32 11 = 0 := by rw [← hI0]; rfl
  have i12 : I0 32 12 = nI n := by rw [← hI0]; exact h11
  have i13 : I0 32 13 = nI 0 := by rw [← hI0]; rfl
  have i17 : I0 32 17 = 0 := by rw [← hI0]; rfl
  have i18 : I0 32 18 = -1 := by rw [← hI0]; rfl
  have ifr : ∀ c j, ¬ (c = 32 ∧ (j = 0 ∨ (11 ≤ j ∧ j ≤ 18))) → I0 c j = IF c j := fun c j q => by
    rw [← hI0, yU_n (by omega), yU_n (by omega), yU_n (by omega), yU_n (by omega), yU_n (by omega), yU_n (by omega)]
  have hL0 : ∀ k, k < 92 → ¬ k = 3 → ¬ k = 4 → P0 A k = 0 := fun k hk h3 h4 => by
    unfold P0
    rw [vu_n h4, vu_n h3]
    show (cp 92 (fun _ => 0) (A 34) k).toBitVec.toNat = 0
    rw [cp_lt hk]
    rfl
  have hL3 : P0 A 3 = 3 := by unfold P0; rw [vu_n (by omega), vu_s]
  have hL4 : P0 A 4 = 5 := by unfold P0; rw [vu_s]
  have hD0 : pD 1 (pP0 T n σ) (P0 A) ∧ P0 A 0 = 0 ∧ P0 A 1 = 0 ∧ P0 A 2 = 0 := by
    have z0 := hL0 0 (by omega) (by omega) (by omega)
    have z1 := hL0 1 (by omega) (by omega) (by omega)
    have z2 := hL0 2 (by omega) (by omega) (by omega)
    refine ⟨⟨⟨fun k hk => ?_, ?_, fun s hs => ?_, fun s _ hs => ?_, fun s hs => ?_, fun t ht => ?_, fun c hc => ?_⟩, ⟨?_, ?_, ?_, ?_, ?_⟩, ⟨0, by omega, rfl, fun s hs => ?_⟩, fun s hs => ?_, fun t ht => ?_, fun c hc => ?_⟩, z0, z1, z2⟩
    · by_cases q3 : k = 3
      · rw [q3, hL3]; omega
      · by_cases q4 : k = 4
        · rw [q4, hL4]; omega
        · rw [hL0 k hk q3 q4]; omega
    · rw [z0, z1, z2, hL3, hL4]; omega
    · rw [hL0 (5 + s) (by omega) (by omega) (by omega)]; omega
    · exact hL0 (5 + s) (by omega) (by omega) (by omega)
    · rw [z0] at hs; exact absurd hs (by omega)
    · rw [z1] at ht; exact absurd ht (by omega)
    · rw [z2] at hc; exact absurd hc (by omega)
    · rw [z0]; rfl
    · rw [z1]; rfl
    · rw [z2]; rfl
    · rw [hL3]; rfl
    · rw [hL4]; rfl
    · rw [hL0 (5 + s) (by omega) (by omega) (by omega)]
      exact bit_0 s hs
    · rw [z0] at hs; exact absurd hs (by omega)
    · rw [z1] at ht; exact absurd ht (by omega)
    · rw [z2] at hc; exact absurd hc (by omega)
  refine zrun 19 (zheap (show _ = zM o ot it I0 A AL AD by rw [← hI0]; rfl) ?_)
  refine zrun 2 ⟨⟨Nat.le_of_ble_eq_true rfl, Nat.le_of_ble_eq_true rfl, rfl⟩, ?_⟩
  refine c_plain ⟨rfl, ?_⟩
  refine zrun 2 ⟨⟨Nat.le_of_ble_eq_true rfl, Nat.le_of_ble_eq_true rfl, rfl⟩, ?_⟩
  refine c_token (d := d + 6) (A := va_up A 34 (lf (P0 A))) hT8 hn5 hT i12 (p := 0) i13 (by omega) (fun I1 hk => ⟨rfl, ?_⟩)
  have hO : yOk n (yT T n (yBg σ.1)) := yOk_T0 hn5 h20 (Nat.zero_le _)
  have hb := tkb_le (T := T) (n := n) (p := 0) (by omega)
  have he := tke_le (T := T) hb.2
  have b5 : yB (yT T n (yBg σ.1)) = tkb T n 0 := by
    show (nI (tkb T n 0)).toBitVec.toNat = _
    rw [pk_tn (by omega)]
  have b6 : yE (yT T n (yBg σ.1)) = tke T n (tkb T n 0) := by
    show (nI (tke T n (tkb T n 0))).toBitVec.toNat = _
    rw [pk_tn (by omega)]
  have r1 : tRf T n (pP0 T n σ).1 I1 := by
    refine ⟨(hk.2.2.2.2 32 12 (by omega)).trans i12, ((hk.2.2.2.2 32 17 (by omega)).trans i17).trans rfl, ((hk.2.2.2.2 32 18 (by omega)).trans i18).trans rfl, hO, fun _ => ⟨hk.1, hk.2.1, hk.2.2.1, fun z => ?_⟩⟩
    rw [hk.2.2.2.1 z]
    show _ = yv T n (yE (yT T n (yBg σ.1)) - yB (yT T n (yBg σ.1))) (yB (yT T n (yBg σ.1))) 0
    rw [b5, b6]
  have f1 : tF I0 I1 := fun c j q => hk.2.2.2.2 c j (by omega)
  have hPe : pP T n σ = pP4 (pP3 T n (pP2 T n (pP1 T n (pS T n (pP0 T n σ))))) := rfl
  generalize pP0 T n σ = τ0 at r1 hD0 hPe
  refine zrun 2 ⟨⟨Nat.le_of_ble_eq_true rfl, Nat.le_of_ble_eq_true rfl, rfl⟩, ?_⟩
  refine c_line (d := d) (σ := τ0) (L := P0 A) hn5 hT hT8 r1 (fun _ => hD0) (fun I2 L2 r2 h2' f2 => ⟨rfl, ?_⟩)
  generalize pS T n τ0 = τ1 at r2 h2' hPe
  refine zrun 2 ⟨⟨Nat.le_of_ble_eq_true rfl, Nat.le_of_ble_eq_true rfl, rfl⟩, ?_⟩
  refine c_settings (d := d + 1) (I := τ1.1) (B := τ1.2) (L := L2) hn5 hT hT8 r2 h2' (fun I3 L3 r3 h3 f3 => ⟨rfl, ?_⟩)
  refine cl_ltr hn5 hT hT8 8 0 (pP1 T n τ1) L3 I3 (by omega) r3 h3 (fun I4 L4 r4 h4 f4 => ?_)
  generalize pP1 T n τ1 = τ2 at r4 h4 hPe
  refine cl_llk hn5 hT hT8 8 0 (pP2 T n τ2) L4 I4 (by omega) r4 h4 (fun I5 L5 r5 h5 f5 => ?_)
  generalize pP2 T n τ2 = τ3 at r5 h5 hPe
  have f05 : tF I0 I5 := tF_t f1 (tF_t f2 (tF_t f3 (tF_t f4 f5)))
  refine cl_l81 (σ := pP3 T n τ3) (σ0 := σ) (IF0 := IF) hn5 hT hT8 hPe ((f05 32 0 (by omega)).trans i0) (fun I6 r6 f6 => ?_) r5 h5 (fun I6 => h1 I6 L5) (fun I6 => h2 I6 L5)
  have f06 := tF_t f05 f6
  exact ⟨(f06 32 0 (by omega)).trans i0, (f06 32 11 (by omega)).trans i11, (f06 32 12 (by omega)).trans i12, by rw [hPe]; exact r6.2.1, by rw [hPe]; exact r6.2.2.1, fun c j q => (f06 c j (by omega)).trans (ifr c j q)⟩
end
