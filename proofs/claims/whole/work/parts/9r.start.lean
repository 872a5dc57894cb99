/-! plain and takes, before the last two cells are made; the start of law -/
def zSi : List (Nat × Nat) := [(0, 6), (0, 3), (0, 5), (2, 500), (0, 1), (1, 8), (1, 64), (1, 64), (0, 1), (1, 8), (1, 64), (1, 64), (0, 2), (1, 64), (1, 64), (0, 2), (1, 64), (1, 64), (0, 4), (1, 128), (1, 128), (1, 128), (0, 4), (1, 128), (1, 128), (0, 4), (1, 128), (1, 128), (0, 0), (1, 8), (1, 8), (1, 8), (0, 7), (1, 92), (1, 92), (1, 56), (1, 56), (1, 56), (1, 56), (1, 64), (1, 64), (1, 500), (1, 64), (1, 64), (1, 64), (1, 64), (3, 8), (1, 64), (1, 64), (1, 7), (1, 7)]
abbrev zMi (o ot it : Value) (IF A : Nat → Nat → Int32) (AL : Nat → Nat → Int64) (AD : Nat → Nat → UInt64) : zH := (zSi, zRF o ot it, IF, A, AL, AD)
section
variable {ε : Nat × (Nat → Int32)} {al : Bool} {d y pc : Nat} {l : zL} {r : List Value} {uc us : Nat} {Q : zQ} {o ot it : Value} {IF A : Nat → Nat → Int32} {AL : Nat → Nat → Int64} {AD : Nat → Nat → UInt64}
theorem zW_istq_i {k n N v : Nat} {q : Nat → Nat} {i x : Int32} (hI : zI y pc = some (.iastore, 1)) (hk : zSi[k]? = some (1, N)) (hi : i = nI n) (hn : n < N) (hN : N < 4001) (hx : x = nI v) (hh : zW ε al d y (pc + 1) l r (zMi o ot it IF (va_up A k (lf (va_up q n v))) AL AD) uc us Q) : zW ε al d y pc l (.int x :: .int i :: .ref k :: r) (zMi o ot it IF (va_up A k (lf q)) AL AD) uc us Q := by
  subst hx
  refine zW_iast hI hk hi hn hN ?_
  have e : zpA (zMi o ot it IF (va_up A k (lf q)) AL AD) k (upd ((va_up A k (lf q)) k) n (nI v)) = zMi o ot it IF (va_up A k (lf (va_up q n v))) AL AD := by
    unfold zpA
    rw [vu_s, lf_upd]
    show (zSi, _, _, va_up (va_up A k (lf q)) k _, _, _) = _
    rw [vu_u]
  rw [show zpA (zMi o ot it IF (va_up A k (lf q)) AL AD) k (upd ((zMi o ot it IF (va_up A k (lf q)) AL AD).2.2.2.1 k) n (nI v)) = _ from e]
  exact hh
theorem zW_istc_i {k n N : Nat} {f : Nat → Int32} {i x : Int32} (hI : zI y pc = some (.iastore, 1)) (hk : zSi[k]? = some (1, N)) (hi : i = nI n) (hn : n < N) (hN : N < 4001) (hx : x = f n) (hh : zW ε al d y (pc + 1) l r (zMi o ot it IF (va_up A k (cp (n + 1) f (A k))) AL AD) uc us Q) : zW ε al d y pc l (.int x :: .int i :: .ref k :: r) (zMi o ot it IF (va_up A k (cp n f (A k))) AL AD) uc us Q := by
  subst hx
  refine zW_iast hI hk hi hn hN ?_
  have e : zpA (zMi o ot it IF (va_up A k (cp n f (A k))) AL AD) k (upd ((va_up A k (cp n f (A k))) k) n (f n)) = zMi o ot it IF (va_up A k (cp (n + 1) f (A k))) AL AD := by
    unfold zpA
    rw [vu_s, cp_u]
    show (zSi, _, _, va_up (va_up A k _) k _, _, _) = _
    rw [vu_u]
  rw [show zpA (zMi o ot it IF (va_up A k (cp n f (A k))) AL AD) k (upd ((zMi o ot it IF (va_up A k (cp n f (A k))) AL AD).2.2.2.1 k) n (f n)) = _ from e]
  exact hh
end
section
variable {ε : Nat × (Nat → Int32)} {d : Nat} {Q : zQ} {o ot it : Value} {IF A : Nat → Nat → Int32} {AL : Nat → Nat → Int64} {AD : Nat → Nat → UInt64} {L : Nat → Nat}
theorem c_mof_i (hL : A 33 = lf L) {x z : Int32} {t w : Nat} (hx : x = nI t) (hz : z = nI w) (hb : 20 + 5 * t + w < 92) (hq : Q (.inl (some (.int (nI (tr L t w))))) (zMi o ot it IF A AL AD)) : zW ε false d 132 0 [(0, .ref 32), (1, .int x), (2, .int z)] [] (zMi o ot it IF A AL AD) 0 0 Q := by
  refine zrun 9 ?_
  refine zW_iald (n := 20 + 5 * t + w) rfl rfl (show (20 : Int32) + 5 * x + z = _ by rw [hx, hz, show (20 : Int32) = nI 20 from rfl, show (5 : Int32) = nI 5 from rfl, pk_mul, nI_add, nI_add]) hb (by decide) ?_
  exact zrun 1 (show Q (.inl (some (.int (A 33 (20 + 5 * t + w))))) _ by rw [hL]; exact hq)
theorem cl_ap_i : ∀ (n i : Nat) (c : Int32), i + n = 56 → c = nI i → Q (.inl none) (zMi o ot it IF (va_up A 37 (cp 56 (A 36) (A 37))) AL AD) → zW ε false d 131 2 [(0, .ref 32), (1, .int c)] [] (zMi o ot it IF (va_up A 37 (cp i (A 36) (A 37))) AL AD) 0 0 Q := by
  intro n
  induction n with
  | zero =>
    intro i c hi hc hq
    refine zrun 3 (zb_ge (b := 56) hc rfl (by omega) (by omega) (fun _ => ?_) (fun q => absurd q (by omega)))
    exact zrun 1 (by rw [show 56 = i by omega] at hq; exact hq)
  | succ n ih =>
    intro i c hi hc hq
    subst hc
    refine zrun 3 (zb_ge (b := 56) rfl rfl (by omega) (by omega) (fun q => absurd q (by omega)) (fun _ => ?_))
    refine zrun 6 ?_
    refine zW_iald (n := i) rfl rfl rfl (by omega) (by decide) ?_
    refine zW_istc_i (n := i) (f := A 36) rfl rfl rfl (by omega) (by decide) rfl ?_
    exact zrun 2 (zloc [(0, _), (1, _)] rfl (ih (i + 1) (nI i + 1) (by omega) (nI_1 i) hq))
theorem c_asPlanned_i (hq : Q (.inl none) (zMi o ot it IF (va_up A 37 (cp 56 (A 36) (A 37))) AL AD)) : zW ε false d 131 0 [(0, .ref 32)] [] (zMi o ot it IF A AL AD) 0 0 Q := by
  refine zrun 2 (zloc [(0, _), (1, _)] rfl ?_)
  have e := cl_ap_i (ε := ε) (d := d) (Q := Q) (o := o) (ot := ot) (it := it) (IF := IF) (A := A) (AL := AL) (AD := AD) 56 0 0 (by omega) nI_0.symm hq
  rw [cp_0, vu_id] at e
  exact e
theorem cl_fg_i : ∀ (n i : Nat) (c : Int32), i + n = 64 → c = nI i → Q (.inl none) (zMi o ot it (yU 32 9 0 IF) (mF0 64 A) AL AD) → zW ε false d 130 2 [(0, .ref 32), (1, .int c)] [] (zMi o ot it IF (mF0 i A) AL AD) 0 0 Q := by
  intro n
  induction n with
  | zero =>
    intro i c hi hc hq
    refine zrun 3 (zb_ge (b := 64) hc rfl (by omega) (by omega) (fun _ => ?_) (fun q => absurd q (by omega)))
    exact zrun 4 (by rw [show 64 = i by omega] at hq; exact hq)
  | succ n ih =>
    intro i c hi hc hq
    subst hc
    have e1 : mF0 i A = va_up (va_up A 40 (cp i (fun _ => 0) (A 40))) 39 (cp i (fun _ => 0) ((va_up A 40 (cp i (fun _ => 0) (A 40))) 39)) := va_sw (by decide)
    have e2 : va_up (va_up A 40 (cp i (fun _ => 0) (A 40))) 39 (cp (i + 1) (fun _ => 0) ((va_up A 40 (cp i (fun _ => 0) (A 40))) 39)) = va_up (va_up A 39 (cp (i + 1) (fun _ => 0) (A 39))) 40 (cp i (fun _ => 0) ((va_up A 39 (cp (i + 1) (fun _ => 0) (A 39))) 40)) := va_sw (by decide)
    rw [e1]
    refine zrun 3 (zb_ge (b := 64) rfl rfl (by omega) (by omega) (fun q => absurd q (by omega)) (fun _ => ?_))
    refine zrun 4 ?_
    refine zW_istc_i (n := i) (f := fun _ => 0) rfl rfl rfl (by omega) (by decide) rfl ?_
    rw [e2]
    refine zrun 4 ?_
    refine zW_istc_i (n := i) (f := fun _ => 0) rfl rfl rfl (by omega) (by decide) rfl ?_
    exact zrun 2 (zloc [(0, _), (1, _)] rfl (ih (i + 1) (nI i + 1) (by omega) (nI_1 i) hq))
theorem c_forgets_i (hq : Q (.inl none) (zMi o ot it (yU 32 9 0 IF) (mF0 64 A) AL AD)) : zW ε false d 130 0 [(0, .ref 32)] [] (zMi o ot it IF A AL AD) 0 0 Q := by
  refine zrun 2 (zloc [(0, _), (1, _)] rfl ?_)
  have e := cl_fg_i (ε := ε) (d := d) (Q := Q) (o := o) (ot := ot) (it := it) (IF := IF) (A := A) (AL := AL) (AD := AD) 64 0 0 (by omega) nI_0.symm hq
  rw [mF0_0] at e
  exact e
theorem cl_pl_i (hq : zW ε false d 128 21 [(0, .ref 32)] [] (zMi o ot it IF (va_up A 34 (cp 92 (fun _ => 0) (A 34))) AL AD) 0 0 Q) : ∀ (n i : Nat) (c : Int32), i + n = 92 → c = nI i → zW ε false d 128 2 [(0, .ref 32), (1, .int c)] [] (zMi o ot it IF (va_up A 34 (cp i (fun _ => 0) (A 34))) AL AD) 0 0 Q := by
  intro n
  induction n with
  | zero =>
    intro i c hi hc
    have e7 : i = 92 := (by omega)
    subst e7
    refine zrun 3 (zb_ge (b := 92) hc rfl (by omega) (by omega) (fun _ => ?_) (fun q => absurd q (by omega)))
    exact zfg [0] (zloc [(0, _)] rfl (hq))
  | succ n ih =>
    intro i c hi hc
    subst hc
    refine zrun 3 (zb_ge (b := 92) rfl rfl (by omega) (by omega) (fun q => absurd q (by omega)) (fun _ => ?_))
    refine zrun 4 ?_
    refine zW_istc_i (n := i) (f := (fun _ => 0)) rfl rfl rfl (by omega) (by decide) rfl ?_
    exact zrun 2 (zloc [(0, _), (1, _)] rfl (ih (i + 1) (nI i + 1) (by omega) (nI_1 i)))
theorem c_plain_i (hq : Q (.inl none) (zMi o ot it IF (va_up A 34 (lf (P0 A))) AL AD)) : zW ε false d 128 0 [(0, .ref 32)] [] (zMi o ot it IF A AL AD) 0 0 Q := by
  refine zrun 2 (zloc [(0, _), (1, _)] rfl ?_)
  have e := fun q => cl_pl_i (ε := ε) (d := d) (Q := Q) (o := o) (ot := ot) (it := it) (IF := IF) (A := A) (AL := AL) (AD := AD) q 92 0 0 (by omega) nI_0.symm
  rw [cp_0, vu_id] at e
  refine e ?_
  rw [← lf_tn (cp 92 (fun _ => 0) (A 34))]
  refine zrun 4 ?_
  refine zW_istq_i (n := 3) (v := 3) rfl rfl rfl (by decide) (by decide) rfl ?_
  refine zrun 4 ?_
  refine zW_istq_i (n := 4) (v := 5) rfl rfl rfl (by decide) (by decide) rfl ?_
  exact zrun 1 hq
theorem cl_tk1_i (hq : zW ε false (d + 1) 129 26 [(0, .ref 32)] [] (zMi o ot it IF (va_up A 33 (cp 92 (A 34) (A 33))) AL AD) 0 0 Q) : ∀ (n i : Nat) (c : Int32), i + n = 92 → c = nI i → zW ε false (d + 1) 129 2 [(0, .ref 32), (1, .int c)] [] (zMi o ot it IF (va_up A 33 (cp i (A 34) (A 33))) AL AD) 0 0 Q := by
  intro n
  induction n with
  | zero =>
    intro i c hi hc
    have e7 : i = 92 := (by omega)
    subst e7
    refine zrun 3 (zb_ge (b := 92) hc rfl (by omega) (by omega) (fun _ => ?_) (fun q => absurd q (by omega)))
    exact zfg [0] (zloc [(0, _)] rfl (hq))
  | succ n ih =>
    intro i c hi hc
    subst hc
    refine zrun 3 (zb_ge (b := 92) rfl rfl (by omega) (by omega) (fun q => absurd q (by omega)) (fun _ => ?_))
    refine zrun 6 ?_
    refine zW_iald (n := i) rfl rfl rfl (by omega) (by decide) ?_
    refine zW_istc_i (n := i) (f := (A 34)) rfl rfl rfl (by omega) (by decide) rfl ?_
    exact zrun 2 (zloc [(0, _), (1, _)] rfl (ih (i + 1) (nI i + 1) (by omega) (nI_1 i)))
theorem cl_tk2_i (hq : zW ε false (d + 1) 129 47 [(0, .ref 32)] [] (zMi o ot it IF (va_up A 35 (cp 56 (fun _ => 0) (A 35))) AL AD) 0 0 Q) : ∀ (n i : Nat) (c : Int32), i + n = 56 → c = nI i → zW ε false (d + 1) 129 28 [(0, .ref 32), (1, .int c)] [] (zMi o ot it IF (va_up A 35 (cp i (fun _ => 0) (A 35))) AL AD) 0 0 Q := by
  intro n
  induction n with
  | zero =>
    intro i c hi hc
    have e7 : i = 56 := (by omega)
    subst e7
    refine zrun 3 (zb_ge (b := 56) hc rfl (by omega) (by omega) (fun _ => ?_) (fun q => absurd q (by omega)))
    exact zfg [0] (zloc [(0, _)] rfl (hq))
  | succ n ih =>
    intro i c hi hc
    subst hc
    refine zrun 3 (zb_ge (b := 56) rfl rfl (by omega) (by omega) (fun q => absurd q (by omega)) (fun _ => ?_))
    refine zrun 4 ?_
    refine zW_istc_i (n := i) (f := (fun _ => 0)) rfl rfl rfl (by omega) (by decide) rfl ?_
    exact zrun 2 (zloc [(0, _), (1, _)] rfl (ih (i + 1) (nI i + 1) (by omega) (nI_1 i)))
theorem cl_tk3_i (hL : A 33 = lf L) (hl : lB L) (hM : L 1 ≤ 8) {t : Nat} (ht : t < L 1) : ∀ (n i v : Nat) (c x : Int32), i + n = L 1 → c = nI i → x = nI v → zW ε false (d + 1) 129 126 [(0, .ref 32), (1, .int (nI t)), (2, .int (nI (gAh L t n i v)))] [] (zMi o ot it IF A AL AD) 0 0 Q → zW ε false (d + 1) 129 67 [(0, .ref 32), (1, .int (nI t)), (2, .int x), (3, .int c)] [] (zMi o ot it IF A AL AD) 0 0 Q := by
  have bt : ∀ t, t < 8 → tr L t 2 < 2 ^ 31 := fun t q => Nat.lt_trans (hl (20 + 5 * t + 2) (by omega)) (by decide)
  intro n
  induction n with
  | zero =>
    intro i v c x hi hc hx hq
    subst hx
    refine zrun 4 ?_
    refine zW_ildv (n := 1) rfl rfl rfl (by decide) (by decide) (lf_at hL 1) ?_
    refine zrun 1 (zb_ge hc rfl (by omega) (by omega) (fun _ => ?_) (fun q => absurd q (by omega)))
    exact zfg [0, 1, 2] (zloc [(0, _), (1, _), (2, _)] rfl (hq))
  | succ n ih =>
    intro i v c x hi hc hx hq
    subst hc
    subst hx
    unfold gAh at hq
    have yes : (tr L i 2 < tr L t 2 ∨ (tr L i 2 = tr L t 2 ∧ i < t)) → zW ε false (d + 1) 129 67 [(0, .ref 32), (1, .int (nI t)), (2, .int (nI v + 1)), (3, .int (nI i + 1))] [] (zMi o ot it IF A AL AD) 0 0 Q := fun h => ih (i + 1) (v + 1) (nI i + 1) _ (by omega) (nI_1 i) (nI_1 v) (by rw [if_pos h] at hq; exact hq)
    have no : ¬ (tr L i 2 < tr L t 2 ∨ (tr L i 2 = tr L t 2 ∧ i < t)) → zW ε false (d + 1) 129 67 [(0, .ref 32), (1, .int (nI t)), (2, .int (nI v + 0)), (3, .int (nI i + 1))] [] (zMi o ot it IF A AL AD) 0 0 Q := fun h => ih (i + 1) v (nI i + 1) _ (by omega) (nI_1 i) (by rw [show (0 : Int32) = nI 0 from rfl, nI_add]; rfl) (by rw [if_neg h] at hq; exact hq)
    refine zrun 4 ?_
    refine zW_ildv (n := 1) rfl rfl rfl (by decide) (by decide) (lf_at hL 1) ?_
    refine zrun 1 (zb_ge rfl rfl (by omega) (by omega) (fun q => absurd q (by omega)) (fun _ => ?_))
    refine zrun 5 ⟨⟨Nat.le_of_ble_eq_true rfl, Nat.le_of_ble_eq_true rfl, rfl⟩, ?_⟩
    refine c_mof_i (t := i) (w := 2) hL rfl rfl (by omega) ⟨rfl, ?_⟩
    refine zrun 4 ⟨⟨Nat.le_of_ble_eq_true rfl, Nat.le_of_ble_eq_true rfl, rfl⟩, ?_⟩
    refine c_mof_i (t := t) (w := 2) hL rfl rfl (by omega) ⟨rfl, ?_⟩
    refine zrun 1 (zb_lt rfl rfl (bt i (by omega)) (bt t (by omega)) (fun g1 => ?_) (fun g1 => ?_))
    · exact zrun 6 (zloc [(0, _), (1, _), (2, _), (3, _)] rfl (yes (Or.inl g1)))
    · refine zrun 4 ⟨⟨Nat.le_of_ble_eq_true rfl, Nat.le_of_ble_eq_true rfl, rfl⟩, ?_⟩
      refine c_mof_i (t := i) (w := 2) hL rfl rfl (by omega) ⟨rfl, ?_⟩
      refine zrun 4 ⟨⟨Nat.le_of_ble_eq_true rfl, Nat.le_of_ble_eq_true rfl, rfl⟩, ?_⟩
      refine c_mof_i (t := t) (w := 2) hL rfl rfl (by omega) ⟨rfl, ?_⟩
      refine zrun 1 (zb_ne rfl rfl (bt i (by omega)) (bt t (by omega)) (fun g2 => ?_) (fun g2 => ?_))
      · exact zrun 5 (zloc [(0, _), (1, _), (2, _), (3, _)] rfl (no (by omega)))
      · refine zrun 3 (zb_ge rfl rfl (by omega) (by omega) (fun g3 => ?_) (fun g3 => ?_))
        · exact zrun 5 (zloc [(0, _), (1, _), (2, _), (3, _)] rfl (no (by omega)))
        · exact zrun 6 (zloc [(0, _), (1, _), (2, _), (3, _)] rfl (yes (Or.inr ⟨g2, g3⟩)))
theorem cl_tk4_i {t a : Nat} (ha : a < 8) : ∀ (n s : Nat) (q : Nat → Nat) (c : Int32), s + n = 7 → c = nI s → zW ε false (d + 1) 129 152 [(0, .ref 32), (1, .int (nI t))] [] (zMi o ot it IF (va_up A 36 (lf (gO1 t a n s q))) AL AD) 0 0 Q → zW ε false (d + 1) 129 128 [(0, .ref 32), (1, .int (nI t)), (2, .int (nI a)), (3, .int c)] [] (zMi o ot it IF (va_up A 36 (lf q)) AL AD) 0 0 Q := by
  intro n
  induction n with
  | zero =>
    intro s q c hi hc hq
    refine zrun 3 (zb_ge (b := 7) hc rfl (by omega) (by omega) (fun _ => ?_) (fun q => absurd q (by omega)))
    exact zfg [0, 1] (zloc [(0, _), (1, _)] rfl (hq))
  | succ n ih =>
    intro s q c hi hc hq
    subst hc
    unfold gO1 at hq
    refine zrun 3 (zb_ge (b := 7) rfl rfl (by omega) (by omega) (fun q => absurd q (by omega)) (fun _ => ?_))
    refine zrun 8 ?_
    refine zW_istq_i (n := 8 * s + a) (v := t) rfl rfl (nI8 rfl rfl) (by omega) (by decide) rfl ?_
    exact zrun 2 (zloc [(0, _), (1, _), (2, _), (3, _)] rfl (ih (s + 1) _ (nI s + 1) (by omega) (nI_1 s) hq))
theorem cl_tk5_i (hL : A 33 = lf L) (hl : lB L) (hM : L 1 ≤ 8) : ∀ (n t : Nat) (q : Nat → Nat) (c : Int32), t + n = L 1 → c = nI t → zW ε false (d + 1) 129 158 [(0, .ref 32)] [] (zMi o ot it IF (va_up A 36 (lf (gOr L n t q))) AL AD) 0 0 Q → zW ε false (d + 1) 129 53 [(0, .ref 32), (1, .int c)] [] (zMi o ot it IF (va_up A 36 (lf q)) AL AD) 0 0 Q := by
  intro n
  induction n with
  | zero =>
    intro t q c hi hc hq
    refine zrun 4 ?_
    refine zW_ildv (n := 1) rfl rfl rfl (by decide) (by decide) (lf_at hL 1) ?_
    refine zrun 1 (zb_ge hc rfl (by omega) (by omega) (fun _ => ?_) (fun q => absurd q (by omega)))
    exact zfg [0] (zloc [(0, _)] rfl (hq))
  | succ n ih =>
    intro t q c hi hc hq
    subst hc
    unfold gOr at hq
    have ha := (gAh_le (L := L) (t := t) (L 1) 0 0).2 (by omega) (by omega)
    refine zrun 4 ?_
    refine zW_ildv (n := 1) rfl rfl rfl (by decide) (by decide) (lf_at hL 1) ?_
    refine zrun 1 (zb_ge rfl rfl (by omega) (by omega) (fun q => absurd q (by omega)) (fun _ => ?_))
    refine zrun 4 (zloc [(0, _), (1, _), (2, _), (3, _)] rfl (cl_tk3_i (A := va_up A 36 (lf q)) hL hl hM (by omega) (L 1) 0 0 0 0 (by omega) nI_0.symm nI_0.symm ?_))
    refine zrun 2 (zloc [(0, _), (1, _), (2, _), (3, _)] rfl (cl_tk4_i (by omega) 7 0 q 0 (by omega) nI_0.symm ?_))
    exact zrun 2 (zloc [(0, _), (1, _)] rfl (ih (t + 1) _ (nI t + 1) (by omega) (nI_1 t) hq))
theorem c_takes_i (hl : lB (mKL A)) (hM : mKL A 1 ≤ 8) (hq : Q (.inl none) (zMi o ot it (yU 32 9 0 IF) (mTk A) AL AD)) : zW ε false (d + 1) 129 0 [(0, .ref 32)] [] (zMi o ot it IF A AL AD) 0 0 Q := by
  refine zrun 2 (zloc [(0, _), (1, _)] rfl ?_)
  have e1 := fun q => cl_tk1_i (ε := ε) (d := d) (Q := Q) (o := o) (ot := ot) (it := it) (IF := IF) (A := A) (AL := AL) (AD := AD) q 92 0 0 (by omega) nI_0.symm
  rw [cp_0, vu_id] at e1
  refine e1 ?_
  refine zrun 2 (zloc [(0, _), (1, _)] rfl ?_)
  have e2 := fun q => cl_tk2_i (ε := ε) (d := d) (Q := Q) (o := o) (ot := ot) (it := it) (IF := IF) (A := mK1 A) (AL := AL) (AD := AD) q 56 0 0 (by omega) nI_0.symm
  rw [cp_0, vu_id] at e2
  refine e2 ?_
  refine zrun 2 ⟨⟨Nat.le_of_ble_eq_true rfl, Nat.le_of_ble_eq_true rfl, rfl⟩, ?_⟩
  refine c_forgets_i (A := mK2 (mK1 A)) ⟨rfl, ?_⟩
  refine zrun 2 (zloc [(0, _), (1, _)] rfl ?_)
  have hL : mK3 A 33 = lf (mKL A) := (lf_tn (cp 92 (A 34) (A 33))).symm
  have e5 := cl_tk5_i (ε := ε) (d := d) (Q := Q) (o := o) (ot := ot) (it := it) (IF := yU 32 9 0 IF) (A := mK3 A) (AL := AL) (AD := AD) hL hl hM (mKL A 1) 0 (tn (A 36)) 0 (by omega) nI_0.symm
  rw [vu_eq (show mK3 A 36 = lf (tn (A 36)) from (lf_tn (A 36)).symm)] at e5
  refine e5 ?_
  refine zrun 2 ⟨⟨Nat.le_of_ble_eq_true rfl, Nat.le_of_ble_eq_true rfl, rfl⟩, ?_⟩
  refine c_asPlanned_i (A := mK4 A) ⟨rfl, ?_⟩
  exact zrun 1 hq
end
