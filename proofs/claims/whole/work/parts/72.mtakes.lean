/-! the reference: plain, takes -/
def P0 (A : Nat → Nat → Int32) : Nat → Nat := va_up (va_up (tn (cp 92 (fun _ => 0) (A 34))) 3 3) 4 5
/-- how many trains are ahead of t at first -/
def gAh (L : Nat → Nat) (t : Nat) : Nat → Nat → Nat → Nat
  | 0, _, v => v
  | n + 1, o, v => gAh L t n (o + 1) (if tr L o 2 < tr L t 2 ∨ (tr L o 2 = tr L t 2 ∧ o < t) then v + 1 else v)
def gO1 (t a : Nat) : Nat → Nat → (Nat → Nat) → Nat → Nat
  | 0, _, q => q
  | n + 1, s, q => gO1 t a n (s + 1) (va_up q (8 * s + a) t)
def gOr (L : Nat → Nat) : Nat → Nat → (Nat → Nat) → Nat → Nat
  | 0, _, q => q
  | n + 1, t, q => gOr L n (t + 1) (gO1 t (gAh L t (L 1) 0 0) 7 0 q)
theorem gAh_le {L : Nat → Nat} {t : Nat} : ∀ (n o v : Nat), gAh L t n o v ≤ v + n ∧ (o ≤ t → t < o + n → gAh L t n o v < v + n)
  | 0, o, v => ⟨Nat.le_refl _, fun h1 h2 => absurd h1 (by omega)⟩
  | n + 1, o, v => by
    unfold gAh
    have h1 := gAh_le (L := L) (t := t) n (o + 1) (v + 1)
    have h2 := gAh_le (L := L) (t := t) n (o + 1) v
    split
    · next e =>
      refine ⟨by omega, fun h3 h4 => ?_⟩
      by_cases q : o = t
      · subst q; omega
      · have := h1.2 (by omega) (by omega); omega
    · refine ⟨by omega, fun h3 h4 => ?_⟩
      have := h2.1; omega
def mK1 (A : Nat → Nat → Int32) : Nat → Nat → Int32 := va_up A 33 (cp 92 (A 34) (A 33))
def mK2 (A : Nat → Nat → Int32) : Nat → Nat → Int32 := va_up A 35 (cp 56 (fun _ => 0) (A 35))
def mK3 (A : Nat → Nat → Int32) : Nat → Nat → Int32 := mF0 64 (mK2 (mK1 A))
def mKL (A : Nat → Nat → Int32) : Nat → Nat := tn (cp 92 (A 34) (A 33))
def mK4 (A : Nat → Nat → Int32) : Nat → Nat → Int32 := va_up (mK3 A) 36 (lf (gOr (mKL A) (mKL A 1) 0 (tn (A 36))))
def mTk (A : Nat → Nat → Int32) : Nat → Nat → Int32 := va_up (mK4 A) 37 (cp 56 (mK4 A 36) (A 37))
section
variable {ε : Nat × (Nat → Int32)} {d : Nat} {Q : zQ} {o ot it : Value} {IF A : Nat → Nat → Int32} {AL : Nat → Nat → Int64} {AD : Nat → Nat → UInt64} {L : Nat → Nat}
theorem cl_pl (hq : zW ε false d 128 21 [(0, .ref 32)] [] (zM o ot it IF (va_up A 34 (cp 92 (fun _ => 0) (A 34))) AL AD) 0 0 Q) : ∀ (n i : Nat) (c : Int32), i + n = 92 → c = nI i → zW ε false d 128 2 [(0, .ref 32), (1, .int c)] [] (zM o ot it IF (va_up A 34 (cp i (fun _ => 0) (A 34))) AL AD) 0 0 Q := by
  intro n
  induction n with
  | zero =>
    intro i c hi hc
    have e7 : i = 92 := (by omega)
    subst e7
    refine zrun 3 (zb_ge (b := 92) hc rfl (by omega) (by omega) (fun _ => ?_) (fun q => absurd q (by omega)))
    exact zfg [0] (zloc [(0, _)] rfl (hq))
  | succ n ih =>
    intro i c hi hc
    subst hc
    refine zrun 3 (zb_ge (b := 92) rfl rfl (by omega) (by omega) (fun q => absurd q (by omega)) (fun _ => ?_))
    refine zrun 4 ?_
    refine zW_istc (n := i) (f := (fun _ => 0)) rfl rfl rfl (by omega) (by decide) rfl ?_
    exact zrun 2 (zloc [(0, _), (1, _)] rfl (ih (i + 1) (nI i + 1) (by omega) (nI_1 i)))
theorem c_plain (hq : Q (.inl none) (zM o ot it IF (va_up A 34 (lf (P0 A))) AL AD)) : zW ε false d 128 0 [(0, .ref 32)] [] (zM o ot it IF A AL AD) 0 0 Q := by
  refine zrun 2 (zloc [(0, _), (1, _)] rfl ?_)
  have e := fun q => cl_pl (ε := ε) (d := d) (Q := Q) (o := o) (ot := ot) (it := it) (IF := IF) (A := A) (AL := AL) (AD := AD) q 92 0 0 (by omega) nI_0.symm
  rw [cp_0, vu_id] at e
  refine e ?_
  rw [← lf_tn (cp 92 (fun _ => 0) (A 34))]
  refine zrun 4 ?_
  refine zW_istq (n := 3) (v := 3) rfl rfl rfl (by decide) (by decide) rfl ?_
  refine zrun 4 ?_
  refine zW_istq (n := 4) (v := 5) rfl rfl rfl (by decide) (by decide) rfl ?_
  exact zrun 1 hq
theorem cl_tk1 (hq : zW ε false (d + 1) 129 26 [(0, .ref 32)] [] (zM o ot it IF (va_up A 33 (cp 92 (A 34) (A 33))) AL AD) 0 0 Q) : ∀ (n i : Nat) (c : Int32), i + n = 92 → c = nI i → zW ε false (d + 1) 129 2 [(0, .ref 32), (1, .int c)] [] (zM o ot it IF (va_up A 33 (cp i (A 34) (A 33))) AL AD) 0 0 Q := by
  intro n
  induction n with
  | zero =>
    intro i c hi hc
    have e7 : i = 92 := (by omega)
    subst e7
    refine zrun 3 (zb_ge (b := 92) hc rfl (by omega) (by omega) (fun _ => ?_) (fun q => absurd q (by omega)))
    exact zfg [0] (zloc [(0, _)] rfl (hq))
  | succ n ih =>
    intro i c hi hc
    subst hc
    refine zrun 3 (zb_ge (b := 92) rfl rfl (by omega) (by omega) (fun q => absurd q (by omega)) (fun _ => ?_))
    refine zrun 6 ?_
    refine zW_iald (n := i) rfl rfl rfl (by omega) (by decide) ?_
    refine zW_istc (n := i) (f := (A 34)) rfl rfl rfl (by omega) (by decide) rfl ?_
    exact zrun 2 (zloc [(0, _), (1, _)] rfl (ih (i + 1) (nI i + 1) (by omega) (nI_1 i)))
theorem cl_tk2 (hq : zW ε false (d + 1) 129 47 [(0, .ref 32)] [] (zM o ot it IF (va_up A 35 (cp 56 (fun _ => 0) (A 35))) AL AD) 0 0 Q) : ∀ (n i : Nat) (c : Int32), i + n = 56 → c = nI i → zW ε false (d + 1) 129 28 [(0, .ref 32), (1, .int c)] [] (zM o ot it IF (va_up A 35 (cp i (fun _ => 0) (A 35))) AL AD) 0 0 Q := by
  intro n
  induction n with
  | zero =>
    intro i c hi hc
    have e7 : i = 56 := (by omega)
    subst e7
    refine zrun 3 (zb_ge (b := 56) hc rfl (by omega) (by omega) (fun _ => ?_) (fun q => absurd q (by omega)))
    exact zfg [0] (zloc [(0, _)] rfl (hq))
  | succ n ih =>
    intro i c hi hc
    subst hc
    refine zrun 3 (zb_ge (b := 56) rfl rfl (by omega) (by omega) (fun q => absurd q (by omega)) (fun _ => ?_))
    refine zrun 4 ?_
    refine zW_istc (n := i) (f := (fun _ => 0)) rfl rfl rfl (by omega) (by decide) rfl ?_
    exact zrun 2 (zloc [(0, _), (1, _)] rfl (ih (i + 1) (nI i + 1) (by omega) (nI_1 i)))
theorem cl_tk3 (hL : A 33 = lf L) (hl : lB L) (hM : L 1 ≤ 8) {t : Nat} (ht : t < L 1) : ∀ (n i v : Nat) (c x : Int32), i + n = L 1 → c = nI i → x = nI v → zW ε false (d + 1) 129 126 [(0, .ref 32), (1, .int (nI t)), (2, .int (nI (gAh L t n i v)))] [] (zM o ot it IF A AL AD) 0 0 Q → zW ε false (d + 1) 129 67 [(0, .ref 32), (1, .int (nI t)), (2, .int x), (3, .int c)] [] (zM o ot it IF A AL AD) 0 0 Q := by
  have bt : ∀ t, t < 8 → tr L t 2 < 2 ^ 31 := fun t q => Nat.lt_trans (hl (20 + 5 * t + 2) (by omega)) (by decide)
  intro n
  induction n with
  | zero =>
    intro i v c x hi hc hx hq
    subst hx
    refine zrun 4 ?_
    refine zW_ildv (n := 1) rfl rfl rfl (by decide) (by decide) (lf_at hL 1) ?_
    refine zrun 1 (zb_ge hc rfl (by omega) (by omega) (fun _ => ?_) (fun q => absurd q (by omega)))
    exact zfg [0, 1, 2] (zloc [(0, _), (1, _), (2, _)] rfl (hq))
  | succ n ih =>
    intro i v c x hi hc hx hq
    subst hc
    subst hx
    unfold gAh at hq
    have yes : (tr L i 2 < tr L t 2 ∨ (tr L i 2 = tr L t 2 ∧ i < t)) → zW ε false (d + 1) 129 67 [(0, .ref 32), (1, .int (nI t)), (2, .int (nI v + 1)), (3, .int (nI i + 1))] [] (zM o ot it IF A AL AD) 0 0 Q := fun h => ih (i + 1) (v + 1) (nI i + 1) _ (by omega) (nI_1 i) (nI_1 v) (by rw [if_pos h] at hq; exact hq)
    have no : ¬ (tr L i 2 < tr L t 2 ∨ (tr L i 2 = tr L t 2 ∧ i < t)) → zW ε false (d + 1) 129 67 [(0, .ref 32), (1, .int (nI t)), (2, .int (nI v + 0)), (3, .int (nI i + 1))] [] (zM o ot it IF A AL AD) 0 0 Q := fun h => ih (i + 1) v (nI i + 1) _ (by omega) (nI_1 i) (by rw [show (0 : Int32) = nI 0 from rfl, nI_add]; rfl) (by rw [if_neg h] at hq; exact hq)
    refine zrun 4 ?_
    refine zW_ildv (n := 1) rfl rfl rfl (by decide) (by decide) (lf_at hL 1) ?_
    refine zrun 1 (zb_ge rfl rfl (by omega) (by omega) (fun q => absurd q (by omega)) (fun _ => ?_))
    refine zrun 5 ⟨⟨Nat.le_of_ble_eq_true rfl, Nat.le_of_ble_eq_true rfl, rfl⟩, ?_⟩
    refine c_mof (t := i) (w := 2) hL rfl rfl (by omega) ⟨rfl, ?_⟩
    refine zrun 4 ⟨⟨Nat.le_of_ble_eq_true rfl, Nat.le_of_ble_eq_true rfl, rfl⟩, ?_⟩
    refine c_mof (t := t) (w := 2) hL rfl rfl (by omega) ⟨rfl, ?_⟩
    refine zrun 1 (zb_lt rfl rfl (bt i (by omega)) (bt t (by omega)) (fun g1 => ?_) (fun g1 => ?_))
    · exact zrun 6 (zloc [(0, _), (1, _), (2, _), (3, _)] rfl (yes (Or.inl g1)))
    · refine zrun 4 ⟨⟨Nat.le_of_ble_eq_true rfl, Nat.le_of_ble_eq_true rfl, rfl⟩, ?_⟩
      refine c_mof (t := i) (w := 2) hL rfl rfl (by omega) ⟨rfl, ?_⟩
      refine zrun 4 ⟨⟨Nat.le_of_ble_eq_true rfl, Nat.le_of_ble_eq_true rfl, rfl⟩, ?_⟩
      refine c_mof (t := t) (w := 2) hL rfl rfl (by omega) ⟨rfl, ?_⟩
      refine zrun 1 (zb_ne rfl rfl (bt i (by omega)) (bt t (by omega)) (fun g2 => ?_) (fun g2 => ?_))
      · exact zrun 5 (zloc [(0, _), (1, _), (2, _), (3, _)] rfl (no (by omega)))
      · refine zrun 3 (zb_ge rfl rfl (by omega) (by omega) (fun g3 => ?_) (fun g3 => ?_))
        · exact zrun 5 (zloc [(0, _), (1, _), (2, _), (3, _)] rfl (no (by omega)))
        · exact zrun 6 (zloc [(0, _), (1, _), (2, _), (3, _)] rfl (yes (Or.inr ⟨g2, g3⟩)))
theorem cl_tk4 {t a : Nat} (ha : a < 8) : ∀ (n s : Nat) (q : Nat → Nat) (c : Int32), s + n = 7 → c = nI s → zW ε false (d + 1) 129 152 [(0, .ref 32), (1, .int (nI t))] [] (zM o ot it IF (va_up A 36 (lf (gO1 t a n s q))) AL AD) 0 0 Q → zW ε false (d + 1) 129 128 [(0, .ref 32), (1, .int (nI t)), (2, .int (nI a)), (3, .int c)] [] (zM o ot it IF (va_up A 36 (lf q)) AL AD) 0 0 Q := by
  intro n
  induction n with
  | zero =>
    intro s q c hi hc hq
    refine zrun 3 (zb_ge (b := 7) hc rfl (by omega) (by omega) (fun _ => ?_) (fun q => absurd q (by omega)))
    exact zfg [0, 1] (zloc [(0, _), (1, _)] rfl (hq))
  | succ n ih =>
    intro s q c hi hc hq
    subst hc
    unfold gO1 at hq
    refine zrun 3 (zb_ge (b := 7) rfl rfl (by omega) (by omega) (fun q => absurd q (by omega)) (fun _ => ?_))
    refine zrun 8 ?_
    refine zW_istq (n := 8 * s + a) (v := t) rfl rfl (nI8 rfl rfl) (by omega) (by decide) rfl ?_
    exact zrun 2 (zloc [(0, _), (1, _), (2, _), (3, _)] rfl (ih (s + 1) _ (nI s + 1) (by omega) (nI_1 s) hq))
theorem cl_tk5 (hL : A 33 = lf L) (hl : lB L) (hM : L 1 ≤ 8) : ∀ (n t : Nat) (q : Nat → Nat) (c : Int32), t + n = L 1 → c = nI t → zW ε false (d + 1) 129 158 [(0, .ref 32)] [] (zM o ot it IF (va_up A 36 (lf (gOr L n t q))) AL AD) 0 0 Q → zW ε false (d + 1) 129 53 [(0, .ref 32), (1, .int c)] [] (zM o ot it IF (va_up A 36 (lf q)) AL AD) 0 0 Q := by
  intro n
  induction n with
  | zero =>
    intro t q c hi hc hq
    refine zrun 4 ?_
    refine zW_ildv (n := 1) rfl rfl rfl (by decide) (by decide) (lf_at hL 1) ?_
    refine zrun 1 (zb_ge hc rfl (by omega) (by omega) (fun _ => ?_) (fun q => absurd q (by omega)))
    exact zfg [0] (zloc [(0, _)] rfl (hq))
  | succ n ih =>
    intro t q c hi hc hq
    subst hc
    unfold gOr at hq
    have ha := (gAh_le (L := L) (t := t) (L 1) 0 0).2 (by omega) (by omega)
    refine zrun 4 ?_
    refine zW_ildv (n := 1) rfl rfl rfl (by decide) (by decide) (lf_at hL 1) ?_
    refine zrun 1 (zb_ge rfl rfl (by omega) (by omega) (fun q => absurd q (by omega)) (fun _ => ?_))
    refine zrun 4 (zloc [(0, _), (1, _), (2, _), (3, _)] rfl (cl_tk3 (A := va_up A 36 (lf q)) hL hl hM (by omega) (L 1) 0 0 0 0 (by omega) nI_0.symm nI_0.symm ?_))
    refine zrun 2 (zloc [(0, _), (1, _), (2, _), (3, _)] rfl (cl_tk4 (by omega) 7 0 q 0 (by omega) nI_0.symm ?_))
    exact zrun 2 (zloc [(0, _), (1, _)] rfl (ih (t + 1) _ (nI t + 1) (by omega) (nI_1 t) hq))
theorem c_takes (hl : lB (mKL A)) (hM : mKL A 1 ≤ 8) (hq : Q (.inl none) (zM o ot it (yU 32 9 0 IF) (mTk A) AL AD)) : zW ε false (d + 1) 129 0 [(0, .ref 32)] [] (zM o ot it IF A AL AD) 0 0 Q := by
  refine zrun 2 (zloc [(0, _), (1, _)] rfl ?_)
  have e1 := fun q => cl_tk1 (ε := ε) (d := d) (Q := Q) (o := o) (ot := ot) (it := it) (IF := IF) (A := A) (AL := AL) (AD := AD) q 92 0 0 (by omega) nI_0.symm
  rw [cp_0, vu_id] at e1
  refine e1 ?_
  refine zrun 2 (zloc [(0, _), (1, _)] rfl ?_)
  have e2 := fun q => cl_tk2 (ε := ε) (d := d) (Q := Q) (o := o) (ot := ot) (it := it) (IF := IF) (A := mK1 A) (AL := AL) (AD := AD) q 56 0 0 (by omega) nI_0.symm
  rw [cp_0, vu_id] at e2
  refine e2 ?_
  refine zrun 2 ⟨⟨Nat.le_of_ble_eq_true rfl, Nat.le_of_ble_eq_true rfl, rfl⟩, ?_⟩
  refine c_forgets (A := mK2 (mK1 A)) ⟨rfl, ?_⟩
  refine zrun 2 (zloc [(0, _), (1, _)] rfl ?_)
  have hL : mK3 A 33 = lf (mKL A) := (lf_tn (cp 92 (A 34) (A 33))).symm
  have e5 := cl_tk5 (ε := ε) (d := d) (Q := Q) (o := o) (ot := ot) (it := it) (IF := yU 32 9 0 IF) (A := mK3 A) (AL := AL) (AD := AD) hL hl hM (mKL A 1) 0 (tn (A 36)) 0 (by omega) nI_0.symm
  rw [vu_eq (show mK3 A 36 = lf (tn (A 36)) from (lf_tn (A 36)).symm)] at e5
  refine e5 ?_
  refine zrun 2 ⟨⟨Nat.le_of_ble_eq_true rfl, Nat.le_of_ble_eq_true rfl, rfl⟩, ?_⟩
  refine c_asPlanned (A := mK4 A) ⟨rfl, ?_⟩
  exact zrun 1 hq
end
