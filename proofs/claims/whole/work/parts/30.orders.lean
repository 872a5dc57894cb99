/-! the class: Orders -/
abbrev kOk (k : Nat) : Prop := k = 12 ∨ k = 15
/-- indexBefore -/
def xib (A : Nat → Nat → Int32) (k : Nat) (s a b : Int32) : Nat → Nat → Int32
  | 0, _ => -1
  | n + 1, i => if A (k + 1) (8 * m8 s + m8 (nI i)) = a ∧ A (k + 1) (8 * m8 s + m8 (nI i + 1)) = b then nI i else xib A k s a b n (i + 1)
/-- canPass, from segment s on -/
def xcp (A : Nat → Nat → Int32) (k M : Nat) (a b : Int32) : Nat → Nat → Bool
  | 0, _ => true
  | n + 1, s => if xib A k (nI s) a b (M - 1) 0 = -1 then false else xcp A k M a b n (s + 1)
/-- findAheads: one segment, all of them -/
def xf1 (k s : Nat) : Nat → Nat → (Nat → Nat → Int32) → Int32 → Nat → Nat → Int32
  | 0, _, A, _ => A
  | n + 1, i, A, v => xf1 k s n (i + 1) (va_up A (k + 2) (upd (A (k + 2)) (8 * m8 (nI s) + m8 (A (k + 1) (8 * m8 (nI s) + m8 (nI i)))) v)) (cond (xd (va_up A (k + 2) (upd (A (k + 2)) (8 * m8 (nI s) + m8 (A (k + 1) (8 * m8 (nI s) + m8 (nI i)))) v)) 8 (A (k + 1) (8 * m8 (nI s) + m8 (nI i))) (nI s)) (A (k + 1) (8 * m8 (nI s) + m8 (nI i))) v)
def xf2 (k M : Nat) : Nat → Nat → (Nat → Nat → Int32) → Nat → Nat → Int32
  | 0, _, A => A
  | n + 1, s, A => xf2 k M n (s + 1) (xf1 k s M 0 A (-1))
/-- pass: one segment, all of them -/
def xp1 (k M : Nat) (a b : Int32) (s : Nat) (A : Nat → Nat → Int32) : Nat → Nat → Int32 := if xib A k (nI s) a b (M - 1) 0 = -1 then A else va_up (va_up A (k + 1) (upd (A (k + 1)) (8 * m8 (nI s) + m8 (xib A k (nI s) a b (M - 1) 0)) b)) (k + 1) (upd (va_up A (k + 1) (upd (A (k + 1)) (8 * m8 (nI s) + m8 (xib A k (nI s) a b (M - 1) 0)) b) (k + 1)) (8 * m8 (nI s) + m8 (xib A k (nI s) a b (M - 1) 0 + 1)) a)
def xp2 (k M : Nat) (a b : Int32) : Nat → Nat → (Nat → Nat → Int32) → Nat → Nat → Int32
  | 0, _, A => A
  | n + 1, s, A => xp2 k M a b n (s + 1) (xp1 k M a b s A)
/-- indexByStart -/
def xbs (A : Nat → Nat → Int32) (t st : Int32) : Nat → Nat → Int32 → Int32
  | 0, _, v => v
  | n + 1, i, v => xbs A t st n (i + 1) (if xo A 8 (nI i) 2 < st ∨ (xo A 8 (nI i) 2 = st ∧ nI i < t) then v + 1 else v)
def xso1 (t ix : Int32) : Nat → Nat → (Nat → Nat → Int32) → Nat → Nat → Int32
  | 0, _, A => A
  | n + 1, s, A => xso1 t ix n (s + 1) (va_up A 13 (upd (A 13) (8 * m8 (nI s) + m8 ix) t))
def xso2 (S M : Nat) : Nat → Nat → (Nat → Nat → Int32) → Nat → Nat → Int32
  | 0, _, A => A
  | n + 1, t, A => xso2 S M n (t + 1) (xso1 (nI t) (xbs A (nI t) (xo A 8 (nI t) 2) M 0 0) (S - 1) 0 A)
theorem zpred {IF : Nat → Nat → Int32} {k j n : Nat} (h : IF k j = nI n) (hn : 1 ≤ n) : IF k j - 1 = nI (n - 1) := by
  rw [h]
  obtain ⟨m, rfl⟩ : ∃ m, n = m + 1 := ⟨n - 1, by omega⟩
  rw [nI_pred, Nat.add_sub_cancel]
theorem zne1 {n : Nat} (h : n < 2 ^ 31) : ¬ nI n = -1 := fun q => absurd (show nI n < 0 by rw [q]; decide) (nI_pos h)
section
variable {ε : Nat × (Nat → Int32)} {d : Nat} {Q : zQ} {o ot it : Value} {IF : Nat → Nat → Int32} {AL : Nat → Nat → Int64} {AD : Nat → Nat → UInt64} {k S M : Nat}
theorem cl_ib {A : Nat → Nat → Int32} (hk : kOk k) (hM : IF 8 1 = nI M) (hM1 : 1 ≤ M) (hM8 : M ≤ 8) {s a b : Int32} : ∀ (n i : Nat) (c : Int32), i + n = M - 1 → c = nI i → Q (.inl (some (.int (xib A k s a b n i)))) (zM o ot it IF A AL AD) → zW ε false (d + 2) 27 3 [(0, .ref k), (1, .int s), (2, .int a), (3, .int b), (4, .int c)] [] (zM o ot it IF A AL AD) 0 0 Q := by
  have hk0 := hk
  have hM' := zpred hM hM1
  intro n
  induction n with
  | zero =>
    intro i c hi hc hq
    rcases hk with rfl | rfl
    all_goals
      refine zrun 7 (zb_ge hc hM' (by omega) (by omega) (fun _ => ?_) (fun h => absurd h (by omega)))
      exact zrun 2 hq
  | succ n ih =>
    intro i c hi hc hq
    subst hc
    have q1 : ¬ (A (k + 1) (8 * m8 s + m8 (nI i)) = a ∧ A (k + 1) (8 * m8 s + m8 (nI i + 1)) = b) → zW ε false (d + 2) 27 3 [(0, .ref k), (1, .int s), (2, .int a), (3, .int b), (4, .int (nI i + 1))] [] (zM o ot it IF A AL AD) 0 0 Q := fun h => ih (i + 1) (nI i + 1) (by omega) (nI_1 i) (by unfold xib at hq; rw [if_neg h] at hq; exact hq)
    have q2 : A (k + 1) (8 * m8 s + m8 (nI i)) = a → A (k + 1) (8 * m8 s + m8 (nI i + 1)) = b → Q (.inl (some (.int (nI i)))) (zM o ot it IF A AL AD) := fun h1 h2 => by unfold xib at hq; rw [if_pos ⟨h1, h2⟩] at hq; exact hq
    rcases hk with rfl | rfl
    all_goals
      refine zrun 7 (zb_ge rfl hM' (by omega) (by omega) (fun h => absurd h (by omega)) (fun _ => ?_))
      refine zrun 4 ⟨⟨Nat.zero_le _, Nat.zero_le _, rfl⟩, ?_⟩
      refine c_at hk0 ⟨rfl, ?_⟩
      refine zrun 2 ⟨fun h1 => ?_, fun h1 => ?_⟩
      · exact zrun 2 (q1 (fun q => h1 q.1))
      · refine zrun 6 ⟨⟨Nat.zero_le _, Nat.zero_le _, rfl⟩, ?_⟩
        refine c_at hk0 ⟨rfl, ?_⟩
        refine zrun 2 ⟨fun h2 => ?_, fun h2 => ?_⟩
        · exact zrun 2 (q1 (fun q => h2 q.2))
        · exact zrun 2 (q2 h1 h2)
theorem c_ib {A : Nat → Nat → Int32} (hk : kOk k) (hM : IF 8 1 = nI M) (hM1 : 1 ≤ M) (hM8 : M ≤ 8) {s a b : Int32} (hq : Q (.inl (some (.int (xib A k s a b (M - 1) 0)))) (zM o ot it IF A AL AD)) : zW ε false (d + 2) 27 0 [(0, .ref k), (1, .int s), (2, .int a), (3, .int b)] [] (zM o ot it IF A AL AD) 0 0 Q := zrun 2 (cl_ib hk hM hM1 hM8 (M - 1) 0 0 (by omega) nI_0.symm hq)
theorem cl_cp {A : Nat → Nat → Int32} (hk : kOk k) (hS : IF 8 0 = nI S) (hS1 : 1 ≤ S) (hS8 : S ≤ 8) (hM : IF 8 1 = nI M) (hM1 : 1 ≤ M) (hM8 : M ≤ 8) {s0 a b : Int32} : ∀ (n s : Nat) (c : Int32), s + n = S - 1 → c = nI s → Q (.inl (some (.int (zbo (xcp A k M a b n s))))) (zM o ot it IF A AL AD) → zW ε false (d + 3) 25 16 [(0, .ref k), (1, .int s0), (2, .int a), (3, .int b), (4, .int c)] [] (zM o ot it IF A AL AD) 0 0 Q := by
  have hk0 := hk
  have hS' := zpred hS hS1
  intro n
  induction n with
  | zero =>
    intro s c hi hc hq
    rcases hk with rfl | rfl
    all_goals
      refine zrun 7 (zb_ge hc hS' (by omega) (by omega) (fun _ => ?_) (fun h => absurd h (by omega)))
      exact zrun 2 ⟨rfl, hq⟩
  | succ n ih =>
    intro s c hi hc hq
    subst hc
    have q1 : ¬ xib A k (nI s) a b (M - 1) 0 = -1 → zW ε false (d + 3) 25 16 [(0, .ref k), (1, .int s0), (2, .int a), (3, .int b), (4, .int (nI s + 1))] [] (zM o ot it IF A AL AD) 0 0 Q := fun h => ih (s + 1) (nI s + 1) (by omega) (nI_1 s) (by unfold xcp at hq; rw [if_neg h] at hq; exact hq)
    have q2 : xib A k (nI s) a b (M - 1) 0 = -1 → Q (.inl (some (.int 0))) (zM o ot it IF A AL AD) := fun h => by unfold xcp at hq; rw [if_pos h] at hq; exact hq
    rcases hk with rfl | rfl
    all_goals
      refine zrun 7 (zb_ge rfl hS' (by omega) (by omega) (fun h => absurd h (by omega)) (fun _ => ?_))
      refine zrun 5 ⟨⟨Nat.zero_le _, Nat.zero_le _, rfl⟩, ?_⟩
      refine c_ib hk0 hM hM1 hM8 ⟨rfl, ?_⟩
      refine zrun 2 ⟨fun h1 => ?_, fun h1 => ?_⟩
      · exact zrun 2 (q1 h1)
      · exact zrun 2 ⟨rfl, q2 h1⟩
theorem c_cp {A : Nat → Nat → Int32} (hk : kOk k) (hS : IF 8 0 = nI S) (hS1 : 1 ≤ S) (hS8 : S ≤ 8) (hM : IF 8 1 = nI M) (hM1 : 1 ≤ M) (hM8 : M ≤ 8) {s : Nat} (hs : s ≤ S - 1) {a b : Int32} (hq : Q (.inl (some (.int (zbo (xs IF 8 (nI s) && xcp A k M a b (S - 1 - s) s))))) (zM o ot it IF A AL AD)) : zW ε false (d + 3) 25 0 [(0, .ref k), (1, .int (nI s)), (2, .int a), (3, .int b)] [] (zM o ot it IF A AL AD) 0 0 Q := by
  have q1 : xs IF 8 (nI s) = false → Q (.inl (some (.int 0))) (zM o ot it IF A AL AD) := fun h => by rw [h] at hq; exact hq
  have q2 : xs IF 8 (nI s) = true → zW ε false (d + 3) 25 16 [(0, .ref k), (1, .int (nI s)), (2, .int a), (3, .int b), (4, .int (nI s))] [] (zM o ot it IF A AL AD) 0 0 Q := fun h => cl_cp hk hS hS1 hS8 hM hM1 hM8 (S - 1 - s) s (nI s) (by omega) rfl (by rw [h] at hq; exact hq)
  rcases hk with rfl | rfl
  all_goals
    refine zrun 4 ⟨⟨Nat.zero_le _, Nat.zero_le _, rfl⟩, ?_⟩
    refine c_hasSiding (Or.inr rfl) ⟨rfl, ?_⟩
    refine zrun 1 (zb_t rfl (fun h1 => ?_) (fun h1 => ?_))
    · exact zrun 2 (q2 h1)
    · exact zrun 2 ⟨rfl, q1 h1⟩
theorem cl_f1 (hk : kOk k) (hM : IF 8 1 = nI M) (hM8 : M ≤ 8) {s : Nat} : ∀ (n i : Nat) (A : Nat → Nat → Int32) (v c : Int32), i + n = M → c = nI i → zW ε false (d + 3) 28 72 [(0, .ref k), (1, .int (nI s))] [] (zM o ot it IF (xf1 k s n i A v) AL AD) 0 0 Q → zW ε false (d + 3) 28 19 [(0, .ref k), (1, .int (nI s)), (2, .int v), (3, .int c)] [] (zM o ot it IF A AL AD) 0 0 Q := by
  have hk0 := hk
  intro n
  induction n with
  | zero =>
    intro i A v c hi hc hq
    rcases hk with rfl | rfl
    all_goals
      refine zrun 5 (zb_ge hc hM (by omega) (by omega) (fun _ => ?_) (fun h => absurd h (by omega)))
      exact zfg [0, 1] hq
  | succ n ih =>
    intro i A v c hi hc hq
    subst hc
    have next := fun A' v' h => ih (i + 1) A' v' (nI i + 1) (by omega) (nI_1 i) h
    rcases hk with rfl | rfl
    all_goals
      refine zrun 5 (zb_ge rfl hM (by omega) (by omega) (fun h => absurd h (by omega)) (fun _ => ?_))
      refine zrun 4 ⟨⟨Nat.zero_le _, Nat.zero_le _, rfl⟩, ?_⟩
      refine c_at hk0 ⟨rfl, ?_⟩
      refine zrun 1 (zloc [(0, _), (1, _), (2, _), (3, _), (4, _)] rfl ?_)
      refine zrun 5 ⟨⟨Nat.zero_le _, Nat.zero_le _, rfl⟩, ?_⟩
      refine c_cell ⟨rfl, ?_⟩
      refine zrun 1 ?_
      refine zW_iast (n := 8 * m8 (nI s) + m8 _) rfl rfl rfl (m8_2 _ _) (by decide) ?_
      refine zrun 5 ⟨⟨Nat.zero_le _, Nat.zero_le _, rfl⟩, ?_⟩
      refine c_departs (Or.inr rfl) ⟨rfl, ?_⟩
      refine zrun 1 (zb_f rfl (fun h1 => ?_) (fun h1 => ?_))
      · refine zrun 2 (zfg [0, 1, 2, 3] ?_)
        refine next _ v ?_
        unfold xf1 at hq
        rw [h1] at hq
        exact hq
      · refine zrun 4 (zfg [0, 1, 2, 3] ?_)
        refine next _ _ ?_
        unfold xf1 at hq
        rw [h1] at hq
        exact hq
theorem cl_f2 (hk : kOk k) (hS : IF 8 0 = nI S) (hS1 : 1 ≤ S) (hS8 : S ≤ 8) (hM : IF 8 1 = nI M) (hM8 : M ≤ 8) : ∀ (n s : Nat) (A : Nat → Nat → Int32) (c : Int32), s + n = S - 1 → c = nI s → Q (.inl none) (zM o ot it IF (xf2 k M n s A) AL AD) → zW ε false (d + 3) 28 2 [(0, .ref k), (1, .int c)] [] (zM o ot it IF A AL AD) 0 0 Q := by
  have hk0 := hk
  have hS' := zpred hS hS1
  intro n
  induction n with
  | zero =>
    intro s A c hi hc hq
    rcases hk with rfl | rfl
    all_goals
      refine zrun 7 (zb_ge hc hS' (by omega) (by omega) (fun _ => ?_) (fun h => absurd h (by omega)))
      exact zrun 1 hq
  | succ n ih =>
    intro s A c hi hc hq
    subst hc
    have in1 : ∀ c : Int32, c = nI 0 → zW ε false (d + 3) 28 19 [(0, .ref k), (1, .int (nI s)), (2, .int (-1)), (3, .int c)] [] (zM o ot it IF A AL AD) 0 0 Q := fun c hc => cl_f1 hk0 hM hM8 M 0 A (-1) c (by omega) hc (by
      rcases hk with rfl | rfl
      all_goals exact zrun 2 (ih (s + 1) _ (nI s + 1) (by omega) (nI_1 s) hq))
    rcases hk with rfl | rfl
    all_goals
      refine zrun 7 (zb_ge rfl hS' (by omega) (by omega) (fun h => absurd h (by omega)) (fun _ => ?_))
      exact zrun 4 (in1 0 nI_0.symm)
theorem c_findAheads {A : Nat → Nat → Int32} (hk : kOk k) (hS : IF 8 0 = nI S) (hS1 : 1 ≤ S) (hS8 : S ≤ 8) (hM : IF 8 1 = nI M) (hM8 : M ≤ 8) (hq : Q (.inl none) (zM o ot it IF (xf2 k M (S - 1) 0 A) AL AD)) : zW ε false (d + 3) 28 0 [(0, .ref k)] [] (zM o ot it IF A AL AD) 0 0 Q := zrun 2 (cl_f2 hk hS hS1 hS8 hM hM8 (S - 1) 0 A 0 (by omega) nI_0.symm hq)
theorem cl_p2 (hk : kOk k) (hS : IF 8 0 = nI S) (hS1 : 1 ≤ S) (hS8 : S ≤ 8) (hM : IF 8 1 = nI M) (hM1 : 1 ≤ M) (hM8 : M ≤ 8) {s0 a b : Int32} : ∀ (n s : Nat) (A : Nat → Nat → Int32) (c : Int32), s + n = S - 1 → c = nI s → Q (.inl none) (zM o ot it IF (xf2 k M (S - 1) 0 (xp2 k M a b n s A)) AL AD) → zW ε false (d + 4) 26 3 [(0, .ref k), (1, .int s0), (2, .int a), (3, .int b), (4, .int c)] [] (zM o ot it IF A AL AD) 0 0 Q := by
  have hk0 := hk
  have hS' := zpred hS hS1
  intro n
  induction n with
  | zero =>
    intro s A c hi hc hq
    rcases hk with rfl | rfl
    all_goals
      refine zrun 7 (zb_ge hc hS' (by omega) (by omega) (fun _ => ?_) (fun h => absurd h (by omega)))
      refine zrun 2 ⟨⟨Nat.zero_le _, Nat.zero_le _, rfl⟩, ?_⟩
      refine c_findAheads hk0 hS hS1 hS8 hM hM8 ⟨rfl, ?_⟩
      exact zrun 1 hq
  | succ n ih =>
    intro s A c hi hc hq
    subst hc
    have next : ∀ A', A' = xp1 k M a b s A → zW ε false (d + 4) 26 3 [(0, .ref k), (1, .int s0), (2, .int a), (3, .int b), (4, .int (nI s + 1))] [] (zM o ot it IF A' AL AD) 0 0 Q := fun A' h => ih (s + 1) A' (nI s + 1) (by omega) (nI_1 s) (by rw [h]; exact hq)
    have n1 := fun h : xib A k (nI s) a b (M - 1) 0 = -1 => next A (if_pos h).symm
    have n2 := fun h : ¬ xib A k (nI s) a b (M - 1) 0 = -1 => next _ (if_neg h).symm
    rcases hk with rfl | rfl
    all_goals
      refine zrun 7 (zb_ge rfl hS' (by omega) (by omega) (fun h => absurd h (by omega)) (fun _ => ?_))
      refine zrun 5 ⟨⟨Nat.zero_le _, Nat.zero_le _, rfl⟩, ?_⟩
      refine c_ib hk0 hM hM1 hM8 ⟨rfl, ?_⟩
      refine zrun 1 (zloc [(0, _), (1, _), (2, _), (3, _), (4, _), (5, _)] rfl ?_)
      refine zrun 3 ⟨fun h1 => ?_, fun h1 => ?_⟩
      · exact zrun 2 (zfg [0, 1, 2, 3, 4] (n1 h1))
      · refine zrun 5 ⟨⟨Nat.zero_le _, Nat.zero_le _, rfl⟩, ?_⟩
        refine c_cell ⟨rfl, ?_⟩
        refine zrun 1 ?_
        refine zW_iast (n := 8 * m8 (nI s) + m8 _) rfl rfl rfl (m8_2 _ _) (by decide) ?_
        refine zrun 7 ⟨⟨Nat.zero_le _, Nat.zero_le _, rfl⟩, ?_⟩
        refine c_cell ⟨rfl, ?_⟩
        refine zrun 1 ?_
        refine zW_iast (n := 8 * m8 (nI s) + m8 _) rfl rfl rfl (m8_2 _ _) (by decide) ?_
        exact zrun 2 (zfg [0, 1, 2, 3, 4] (n2 h1))
theorem c_pass {A : Nat → Nat → Int32} (hk : kOk k) (hS : IF 8 0 = nI S) (hS1 : 1 ≤ S) (hS8 : S ≤ 8) (hM : IF 8 1 = nI M) (hM1 : 1 ≤ M) (hM8 : M ≤ 8) {s : Nat} (hs : s ≤ S - 1) {x a b : Int32} (hx : x = nI s) (hq : Q (.inl none) (zM o ot it IF (xf2 k M (S - 1) 0 (xp2 k M a b (S - 1 - s) s A)) AL AD)) : zW ε false (d + 4) 26 0 [(0, .ref k), (1, .int x), (2, .int a), (3, .int b)] [] (zM o ot it IF A AL AD) 0 0 Q := by
  subst hx
  have h0 := cl_p2 (ε := ε) (d := d) hk hS hS1 hS8 hM hM1 hM8 (s0 := nI s) (S - 1 - s) s A (nI s) (by omega) rfl hq
  exact zrun 2 h0
end
