/-! the class: sorting, copies, Distribution, Line's writes -/
def xfA (p : Nat) (v : Int32) : Nat → Nat → (Nat → Nat → Int32) → Nat → Nat → Int32
  | 0, _, A => A
  | n + 1, i, A => xfA p v n (i + 1) (va_up A p (upd (A p) i v))
def xse (t : Int32) : Nat → Nat → (Nat → Nat → Int32) → Nat → Nat → Int32
  | 0, _, A => A
  | n + 1, s, A => xse t n (s + 1) (va_up A 19 (upd (A 19) (xev t (nI s) false) 0))
def xdi (A : Nat → Nat → Int32) (t : Int32) : Nat → Nat → Int32 → Int32
  | 0, _, v => v
  | n + 1, s, v => xdi A t n (s + 1) (cond (xd A 8 t (nI s)) (v + A 9 (m8 (nI s))) v)
/-- actualOrders.copyFrom(plannedOrders) -/
def xcO (A : Nat → Nat → Int32) : Nat → Nat → Int32 := va_up (va_up A 16 (va_cpy (A 13) (A 16) 0 0 64)) 17 (va_cpy (va_up A 16 (va_cpy (A 13) (A 16) 0 0 64) 14) (va_up A 16 (va_cpy (A 13) (A 16) 0 0 64) 17) 0 0 64)
def xad1 (A : Nat → Nat → Int32) (p i : Nat) (v : Int32) : Nat → Nat → Int32 := va_up A p (upd (A p) i v)
/-- advance -/
def xadv (last : Nat) (rest : Int32) (A : Nat → Nat → Int32) : Nat → Bool × (Nat → Nat → Int32)
  | 0 => (false, A)
  | j + 1 => if A 29 j ≤ 0 then xadv last rest A j else (true, xad1 (xad1 (xad1 A 29 last 0) 29 j (xad1 A 29 last 0 29 j - 1)) 29 (j + 1) (rest + 1))
section
variable {ε : Nat × (Nat → Int32)} {d : Nat} {Q : zQ} {o ot it : Value} {IF : Nat → Nat → Int32} {AL : Nat → Nat → Int64} {AD : Nat → Nat → UInt64} {S M : Nat}
theorem cl_fill {p N : Nat} (hp : (p = 21 ∧ N = 128) ∨ (p = 24 ∧ N = 128) ∨ (p = 29 ∧ N = 8)) {v : Int32} : ∀ (n i : Nat) (A : Nat → Nat → Int32) (c : Int32), i + n = N → c = nI i → Q (.inl none) (zM o ot it IF (xfA p v n i A) AL AD) → zW ε false d 234 5 [(0, .ref p), (1, .int v), (2, .int c), (3, .int (nI N))] [] (zM o ot it IF A AL AD) 0 0 Q := by
  intro n
  induction n with
  | zero =>
    intro i A c hi hc hq
    have hN : N < 2 ^ 31 := by omega
    refine zrun 3 (zb_ge hc rfl (by omega) (by omega) (fun _ => ?_) (fun h => absurd h (by omega)))
    exact zrun 1 hq
  | succ n ih =>
    intro i A c hi hc hq
    subst hc
    have hN : N < 2 ^ 31 := by omega
    refine zrun 3 (zb_ge rfl rfl (by omega) (by omega) (fun h => absurd h (by omega)) (fun _ => ?_))
    refine zrun 3 ?_
    have next := ih (i + 1) (va_up A p (upd (A p) i v)) (nI i + 1) (by omega) (nI_1 i) hq
    rcases hp with ⟨rfl, rfl⟩ | ⟨rfl, rfl⟩ | ⟨rfl, rfl⟩
    all_goals
      refine zW_iast (n := i) rfl rfl rfl (by omega) (by decide) ?_
      exact zrun 2 next
theorem c_fill {p N : Nat} (hp : (p = 21 ∧ N = 128) ∨ (p = 24 ∧ N = 128) ∨ (p = 29 ∧ N = 8)) {v : Int32} {A : Nat → Nat → Int32} (hq : Q (.inl none) (zM o ot it IF (xfA p v N 0 A) AL AD)) : zW ε false d 234 0 [(0, .ref p), (1, .int v)] [] (zM o ot it IF A AL AD) 0 0 Q := by
  have h0 := cl_fill (ε := ε) (d := d) hp N 0 A 0 (by omega) nI_0.symm hq
  rcases hp with ⟨rfl, rfl⟩ | ⟨rfl, rfl⟩ | ⟨rfl, rfl⟩
  all_goals
    refine zrun 5 (zloc [(0, _), (1, _), (2, _), (3, _)] rfl ?_)
    exact h0
theorem c_clearExtras {r : Nat} (hr : r = 18 ∨ r = 22) {A : Nat → Nat → Int32} (hq : Q (.inl none) (zM o ot it IF (xfA (rE r) 0 128 0 A) AL AD)) : zW ε false (d + 1) 43 0 [(0, .ref r)] [] (zM o ot it IF A AL AD) 0 0 Q := by
  rcases hr with rfl | rfl
  · refine zrun 4 ⟨⟨Nat.zero_le _, Nat.zero_le _, rfl⟩, ?_⟩
    refine c_fill (N := 128) (Or.inl ⟨rfl, rfl⟩) ⟨rfl, ?_⟩
    exact zrun 1 hq
  · refine zrun 4 ⟨⟨Nat.zero_le _, Nat.zero_le _, rfl⟩, ?_⟩
    refine c_fill (N := 128) (Or.inr (Or.inl ⟨rfl, rfl⟩)) ⟨rfl, ?_⟩
    exact zrun 1 hq
theorem cl_se {t st : Int32} : ∀ (n s : Nat) (A : Nat → Nat → Int32) (c : Int32), s + n = 8 → c = nI s → Q (.inl none) (zM o ot it IF (va_up (xse t n s A) 19 (upd (xse t n s A 19) (xev t (xo (xse t n s A) 8 t 0) false) st)) AL AD) → zW ε false (d + 2) 44 2 [(0, .ref 18), (1, .int t), (2, .int st), (3, .int c)] [] (zM o ot it IF A AL AD) 0 0 Q := by
  intro n
  induction n with
  | zero =>
    intro s A c hi hc hq
    refine zrun 3 (zb_ge (b := 8) hc rfl (by omega) (by omega) (fun _ => ?_) (fun h => absurd h (by omega)))
    refine zrun 8 ⟨⟨Nat.zero_le _, Nat.zero_le _, rfl⟩, ?_⟩
    refine c_of (Or.inr rfl) ⟨rfl, ?_⟩
    refine zrun 2 ⟨⟨Nat.zero_le _, Nat.zero_le _, rfl⟩, ?_⟩
    refine c_event (b := false) rfl ⟨rfl, ?_⟩
    refine zrun 1 ?_
    refine zW_iast (n := xev t (xo A 8 t 0) false) rfl rfl rfl (xev_lt _ _ _) (by decide) ?_
    exact zrun 1 hq
  | succ n ih =>
    intro s A c hi hc hq
    subst hc
    refine zrun 3 (zb_ge (b := 8) rfl rfl (by omega) (by omega) (fun h => absurd h (by omega)) (fun _ => ?_))
    refine zrun 6 ⟨⟨Nat.zero_le _, Nat.zero_le _, rfl⟩, ?_⟩
    refine c_event (b := false) rfl ⟨rfl, ?_⟩
    refine zrun 1 ?_
    refine zW_iast (n := xev t (nI s) false) rfl rfl rfl (xev_lt _ _ _) (by decide) ?_
    exact zrun 2 (ih (s + 1) _ (nI s + 1) (by omega) (nI_1 s) hq)
theorem c_setEarliest {t st : Int32} {A : Nat → Nat → Int32} (hq : Q (.inl none) (zM o ot it IF (va_up (xse t 8 0 A) 19 (upd (xse t 8 0 A 19) (xev t (xo (xse t 8 0 A) 8 t 0) false) st)) AL AD)) : zW ε false (d + 2) 44 0 [(0, .ref 18), (1, .int t), (2, .int st)] [] (zM o ot it IF A AL AD) 0 0 Q := zrun 2 (cl_se 8 0 A 0 (by omega) nI_0.symm hq)
theorem c_copyOrders {A : Nat → Nat → Int32} (hq : Q (.inl none) (zM o ot it IF (xcO A) AL AD)) : zW ε false d 22 0 [(0, .ref 15), (1, .ref 12)] [] (zM o ot it IF A AL AD) 0 0 Q := by
  refine zrun 8 ⟨⟨Nat.le_of_ble_eq_true rfl, by decide, by decide, by decide, by decide, by decide⟩, ?_⟩
  refine zrun 8 ⟨⟨Nat.le_of_ble_eq_true rfl, by decide, by decide, by decide, by decide, by decide⟩, ?_⟩
  exact zrun 1 hq
theorem cl_bs {A : Nat → Nat → Int32} (hM : IF 8 1 = nI M) (hM8 : M ≤ 8) {t st : Int32} : ∀ (n i : Nat) (v c : Int32), i + n = M → c = nI i → Q (.inl (some (.int (xbs A t st n i v)))) (zM o ot it IF A AL AD) → zW ε false (d + 2) 21 15 [(0, .ref 12), (1, .int t), (2, .int st), (3, .int v), (4, .int c)] [] (zM o ot it IF A AL AD) 0 0 Q := by
  intro n
  induction n with
  | zero =>
    intro i v c hi hc hq
    refine zrun 5 (zb_ge hc hM (by omega) (by omega) (fun _ => ?_) (fun h => absurd h (by omega)))
    exact zrun 2 hq
  | succ n ih =>
    intro i v c hi hc hq
    subst hc
    have next : ∀ w, w = (if xo A 8 (nI i) 2 < st ∨ (xo A 8 (nI i) 2 = st ∧ nI i < t) then v + 1 else v) → zW ε false (d + 2) 21 15 [(0, .ref 12), (1, .int t), (2, .int st), (3, .int w), (4, .int (nI i + 1))] [] (zM o ot it IF A AL AD) 0 0 Q := fun w hw => ih (i + 1) w (nI i + 1) (by omega) (nI_1 i) (by rw [hw]; exact hq)
    refine zrun 5 (zb_ge rfl hM (by omega) (by omega) (fun h => absurd h (by omega)) (fun _ => ?_))
    refine zrun 5 ⟨⟨Nat.zero_le _, Nat.zero_le _, rfl⟩, ?_⟩
    refine c_of (Or.inr rfl) ⟨rfl, ?_⟩
    refine zrun 1 (zloc [(0, _), (1, _), (2, _), (3, _), (4, _), (5, _)] rfl ?_)
    refine zrun 3 ⟨fun h1 => ?_, fun h1 => ?_⟩
    · exact zrun 3 (zfg [0, 1, 2, 3, 4] (next _ (if_pos (Or.inl h1)).symm))
    · refine zrun 3 ⟨fun h2 => ?_, fun h2 => ?_⟩
      · exact zrun 2 (zfg [0, 1, 2, 3, 4] (next _ (if_neg (fun q => q.elim h1 (fun q => h2 q.1))).symm))
      · refine zrun 3 ⟨fun h3 => ?_, fun h3 => ?_⟩
        · refine zrun 2 (zfg [0, 1, 2, 3, 4] (next _ (if_neg (fun q => q.elim h1 (fun q => ?_))).symm))
          exact absurd q.2 (fun z => by rw [Int32.lt_iff_toInt_lt] at z; have h4 : t.toInt ≤ (nI i).toInt := Int32.le_iff_toInt_le.mp h3; omega)
        · refine zrun 3 (zfg [0, 1, 2, 3, 4] (next _ (if_pos (Or.inr ⟨h2, ?_⟩)).symm))
          have h4 : ¬ t ≤ nI i := h3
          rw [Int32.le_iff_toInt_le] at h4
          rw [Int32.lt_iff_toInt_lt]
          omega
theorem c_bs {A : Nat → Nat → Int32} (hM : IF 8 1 = nI M) (hM8 : M ≤ 8) {t : Int32} (hq : Q (.inl (some (.int (xbs A t (xo A 8 t 2) M 0 0)))) (zM o ot it IF A AL AD)) : zW ε false (d + 2) 21 0 [(0, .ref 12), (1, .int t)] [] (zM o ot it IF A AL AD) 0 0 Q := by
  refine zrun 5 ⟨⟨Nat.zero_le _, Nat.zero_le _, rfl⟩, ?_⟩
  refine c_of (Or.inr rfl) ⟨rfl, ?_⟩
  refine zrun 5 (zloc [(0, _), (1, _), (2, _), (3, _), (4, _)] rfl ?_)
  exact cl_bs hM hM8 M 0 0 0 (by omega) nI_0.symm hq
theorem cl_so1 (hS : IF 8 0 = nI S) (hS1 : 1 ≤ S) (hS8 : S ≤ 8) {t ix : Int32} : ∀ (n s : Nat) (A : Nat → Nat → Int32) (c : Int32), s + n = S - 1 → c = nI s → zW ε false (d + 4) 20 51 [(0, .ref 12), (1, .int t)] [] (zM o ot it IF (xso1 t ix n s A) AL AD) 0 0 Q → zW ε false (d + 4) 20 21 [(0, .ref 12), (1, .int t), (2, .int ix), (3, .int c)] [] (zM o ot it IF A AL AD) 0 0 Q := by
  have hS' := zpred hS hS1
  intro n
  induction n with
  | zero =>
    intro s A c hi hc hq
    refine zrun 7 (zb_ge hc hS' (by omega) (by omega) (fun _ => ?_) (fun h => absurd h (by omega)))
    exact zfg [0, 1] hq
  | succ n ih =>
    intro s A c hi hc hq
    subst hc
    refine zrun 7 (zb_ge rfl hS' (by omega) (by omega) (fun h => absurd h (by omega)) (fun _ => ?_))
    refine zrun 5 ⟨⟨Nat.zero_le _, Nat.zero_le _, rfl⟩, ?_⟩
    refine c_cell ⟨rfl, ?_⟩
    refine zrun 1 ?_
    refine zW_iast (n := 8 * m8 (nI s) + m8 ix) rfl rfl rfl (m8_2 _ _) (by decide) ?_
    exact zrun 2 (ih (s + 1) _ (nI s + 1) (by omega) (nI_1 s) hq)
theorem cl_so2 (hS : IF 8 0 = nI S) (hS1 : 1 ≤ S) (hS8 : S ≤ 8) (hM : IF 8 1 = nI M) (hM8 : M ≤ 8) : ∀ (n t : Nat) (A : Nat → Nat → Int32) (c : Int32), t + n = M → c = nI t → Q (.inl none) (zM o ot it IF (xf2 12 M (S - 1) 0 (xso2 S M n t A)) AL AD) → zW ε false (d + 4) 20 2 [(0, .ref 12), (1, .int c)] [] (zM o ot it IF A AL AD) 0 0 Q := by
  intro n
  induction n with
  | zero =>
    intro t A c hi hc hq
    refine zrun 5 (zb_ge hc hM (by omega) (by omega) (fun _ => ?_) (fun h => absurd h (by omega)))
    refine zrun 2 ⟨⟨Nat.zero_le _, Nat.zero_le _, rfl⟩, ?_⟩
    refine c_findAheads (k := 12) (Or.inl rfl) hS hS1 hS8 hM hM8 ⟨rfl, ?_⟩
    exact zrun 1 hq
  | succ n ih =>
    intro t A c hi hc hq
    subst hc
    refine zrun 5 (zb_ge rfl hM (by omega) (by omega) (fun h => absurd h (by omega)) (fun _ => ?_))
    refine zrun 3 ⟨⟨Nat.zero_le _, Nat.zero_le _, rfl⟩, ?_⟩
    refine c_bs hM hM8 ⟨rfl, ?_⟩
    refine zrun 3 (zloc [(0, _), (1, _), (2, _), (3, _)] rfl ?_)
    refine cl_so1 hS hS1 hS8 (S - 1) 0 A 0 (by omega) nI_0.symm ?_
    exact zrun 2 (ih (t + 1) _ (nI t + 1) (by omega) (nI_1 t) hq)
theorem c_sortByStart {A : Nat → Nat → Int32} (hS : IF 8 0 = nI S) (hS1 : 1 ≤ S) (hS8 : S ≤ 8) (hM : IF 8 1 = nI M) (hM8 : M ≤ 8) (hq : Q (.inl none) (zM o ot it IF (xf2 12 M (S - 1) 0 (xso2 S M M 0 A)) AL AD)) : zW ε false (d + 4) 20 0 [(0, .ref 12)] [] (zM o ot it IF A AL AD) 0 0 Q := zrun 2 (cl_so2 hS hS1 hS8 hM hM8 M 0 A 0 (by omega) nI_0.symm hq)
theorem cl_di {A : Nat → Nat → Int32} (hS : IF 8 0 = nI S) (hS1 : 1 ≤ S) (hS8 : S ≤ 8) {t : Int32} : ∀ (n s : Nat) (v c : Int32), s + n = S - 1 → c = nI s → Q (.inl (some (.int (xdi A t n s v)))) (zM o ot it IF A AL AD) → zW ε false (d + 3) 18 4 [(0, .ref 8), (1, .int t), (2, .int v), (3, .int c)] [] (zM o ot it IF A AL AD) 0 0 Q := by
  have hS' := zpred hS hS1
  intro n
  induction n with
  | zero =>
    intro s v c hi hc hq
    refine zrun 6 (zb_ge hc hS' (by omega) (by omega) (fun _ => ?_) (fun h => absurd h (by omega)))
    exact zrun 2 hq
  | succ n ih =>
    intro s v c hi hc hq
    subst hc
    have next : ∀ w, w = cond (xd A 8 t (nI s)) (v + A 9 (m8 (nI s))) v → zW ε false (d + 3) 18 4 [(0, .ref 8), (1, .int t), (2, .int w), (3, .int (nI s + 1))] [] (zM o ot it IF A AL AD) 0 0 Q := fun w hw => ih (s + 1) w (nI s + 1) (by omega) (nI_1 s) (by rw [hw]; exact hq)
    refine zrun 6 (zb_ge rfl hS' (by omega) (by omega) (fun h => absurd h (by omega)) (fun _ => ?_))
    refine zrun 4 ⟨⟨Nat.zero_le _, Nat.zero_le _, rfl⟩, ?_⟩
    refine c_departs (Or.inr rfl) ⟨rfl, ?_⟩
    refine zrun 1 (zb_f rfl (fun h1 => ?_) (fun h1 => ?_))
    · exact zrun 2 (next v (by rw [h1]; rfl))
    · refine zrun 6 ?_
      refine zW_iald (n := m8 (nI s)) (N := 8) rfl rfl (m8_and _) (m8_lt _) (by decide) ?_
      exact zrun 4 (next _ (by rw [h1]; rfl))
theorem c_distance {A : Nat → Nat → Int32} (hS : IF 8 0 = nI S) (hS1 : 1 ≤ S) (hS8 : S ≤ 8) {t : Int32} (hq : Q (.inl (some (.int (xdi A t (S - 1) 0 0)))) (zM o ot it IF A AL AD)) : zW ε false (d + 3) 18 0 [(0, .ref 8), (1, .int t)] [] (zM o ot it IF A AL AD) 0 0 Q := zrun 4 (cl_di hS hS1 hS8 (S - 1) 0 0 0 (by omega) nI_0.symm hq)
theorem c_keepAsBest {A : Nat → Nat → Int32} (hq : Q (.inl none) (zM o ot it IF (va_up A 30 (va_cpy (A 29) (A 30) 0 0 8)) AL AD)) : zW ε false d 2 0 [(0, .ref 28)] [] (zM o ot it IF A AL AD) 0 0 Q := by
  refine zrun 8 ⟨⟨Nat.le_of_ble_eq_true rfl, by decide, by decide, by decide, by decide, by decide⟩, ?_⟩
  exact zrun 1 hq
theorem c_begin {A : Nat → Nat → Int32} {g mi : Int32} (hq : Q (.inl none) (zM o ot it (va_up IF 28 (upd (IF 28) 3 (zmn g 8))) (xad1 (xfA 29 0 8 0 A) 29 0 mi) AL AD)) : zW ε false (d + 1) 1 0 [(0, .ref 28), (1, .int g), (2, .int mi)] [] (zM o ot it IF A AL AD) 0 0 Q := by
  refine zrun 4 ⟨Nat.le_of_ble_eq_true rfl, ?_⟩
  refine zrun 5 ⟨⟨Nat.zero_le _, Nat.zero_le _, rfl⟩, ?_⟩
  refine c_fill (IF := va_up IF 28 (upd (IF 28) 3 (zmn g 8))) (N := 8) (Or.inr (Or.inr ⟨rfl, rfl⟩)) ⟨rfl, ?_⟩
  refine zrun 4 ?_
  refine zW_iast (n := 0) rfl rfl rfl (by decide) (by decide) ?_
  exact zrun 1 hq
theorem cl_adv {A : Nat → Nat → Int32} {last : Nat} (hl : last < 8) {rest : Int32} : ∀ (j : Nat) (c : Int32), j ≤ last → c = nI j - 1 → Q (.inl (some (.int (zbo (xadv last rest A j).1)))) (zM o ot it IF (xadv last rest A j).2 AL AD) → zW ε false d 3 21 [(0, .ref 28), (1, .int (nI last)), (2, .int rest), (3, .int c)] [] (zM o ot it IF A AL AD) 0 0 Q := by
  intro j
  induction j with
  | zero =>
    intro c hj hc hq
    refine zrun 2 ⟨fun _ => ?_, fun h => absurd (show c < 0 by rw [hc]; decide) h⟩
    exact zrun 2 ⟨rfl, hq⟩
  | succ j ih =>
    intro c hj hc hq
    rw [nI_pred] at hc
    subst hc
    refine zrun 2 ⟨fun h => absurd h (nI_pos (by omega)), fun _ => ?_⟩
    refine zrun 3 ?_
    refine zW_iald (n := j) (N := 8) rfl rfl rfl (by omega) (by decide) ?_
    refine zrun 1 ⟨fun h1 => ?_, fun h1 => ?_⟩
    · refine zrun 2 (ih (nI j + -1) (by omega) (by rw [Int32.sub_eq_add_neg]) ?_)
      have e : xadv last rest A (j + 1) = xadv last rest A j := if_pos h1
      rw [e] at hq
      exact hq
    · have e : xadv last rest A (j + 1) = _ := if_neg h1
      rw [e] at hq
      refine zrun 4 ?_
      refine zW_iast (n := last) (N := 8) rfl rfl rfl (by omega) (by decide) ?_
      refine zrun 4 ?_
      refine zW_iald (n := j) (N := 8) rfl rfl rfl (by omega) (by decide) ?_
      refine zrun 2 ?_
      refine zW_iast (n := j) (N := 8) rfl rfl rfl (by omega) (by decide) ?_
      refine zrun 8 ?_
      refine zW_iast (n := j + 1) (N := 8) rfl rfl (nI_1 j) (by omega) (by decide) ?_
      exact zrun 2 ⟨rfl, hq⟩
theorem c_advance {A : Nat → Nat → Int32} {g : Nat} (hg : IF 28 3 = nI g) (hg1 : 1 ≤ g) (hg8 : g ≤ 8) (hq : Q (.inl (some (.int (zbo (xadv (g - 1) (A 29 (g - 1)) A (g - 1)).1)))) (zM o ot it IF (xadv (g - 1) (A 29 (g - 1)) A (g - 1)).2 AL AD)) : zW ε false d 3 0 [(0, .ref 28)] [] (zM o ot it IF A AL AD) 0 0 Q := by
  have e : (IF 28 3 - 1) &&& 7 = nI (g - 1) := by rw [zpred hg hg1, zmask (by omega)]
  refine zrun 7 (zloc [(0, .ref 28), (1, .int ((IF 28 3 - 1) &&& 7))] rfl ?_)
  rw [e]
  refine zrun 3 ?_
  refine zW_iald (n := g - 1) (N := 8) rfl rfl rfl (by omega) (by decide) ?_
  refine zrun 5 (zloc [(0, _), (1, _), (2, _), (3, _)] rfl ?_)
  exact cl_adv (by omega) (g - 1) _ (Nat.le_refl _) rfl hq
end
