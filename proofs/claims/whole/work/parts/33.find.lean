/-! the class: what the calls share -/
theorem zpc {ε : Nat × (Nat → Int32)} {al : Bool} {d y pc : Nat} {l : zL} {st : List Value} {h : zH} {uc us : Nat} {Q : zQ} (pc' : Nat) (hp : pc = pc') (hh : zW ε al d y pc' l st h uc us Q) : zW ε al d y pc l st h uc us Q := by subst hp; exact hh
def xba (A : Nat → Nat → Int32) (t : Nat) : Nat → Nat → Int32 := va_up (xse (nI t) 8 0 A) 19 (upd (xse (nI t) 8 0 A 19) (xev (nI t) (xo (xse (nI t) 8 0 A) 8 (nI t) 0) false) (xo A 8 (nI t) 2))
def xbl : Nat → Nat → (Nat → Nat → Int32) → Nat → Nat → Int32
  | 0, _, A => A
  | n + 1, t, A => xbl n (t + 1) (xba A t)
/-- beginAnew: int fields, rows -/
def xbI (IF : Nat → Nat → Int32) : Nat → Nat → Int32 := va_up IF 0 (upd (IF 0) 8 0)
def xbA (IF : Nat → Nat → Int32) (N M S : Nat) (A : Nat → Nat → Int32) : Nat → Nat → Int32 := xCo (xbI IF) 22 N M S 0 (xCo (xbI IF) 18 N M S 0 (xbl M 0 (xfA 24 0 128 0 (xfA 21 0 128 0 (xcO (xf2 12 M (S - 1) 0 (xso2 S M M 0 A)))))))
def xss (A : Nat → Nat → Int32) (t : Int32) : Nat → Nat → Int32 → Int32
  | 0, _, v => v
  | n + 1, s, v => xss A t n (s + 1) (v + A 21 (xev t (nI s + 1) true))
abbrev zB : Type := (Nat → Nat → Int32) × Int32 × Int32
/-- findBest: one try -/
def xb1 (IF : Nat → Nat → Int32) (N M S s a b : Nat) (σ : zB) : zB :=
  cond (xs IF 8 (nI s) && xcp σ.1 15 M (nI a) (nI b) (S - 1 - s) s)
    (xf2 15 M (S - 1) 0 (xp2 15 M (nI b) (nI a) (S - 1 - s) s (xCo IF 22 N M S 0 (xf2 15 M (S - 1) 0 (xp2 15 M (nI a) (nI b) (S - 1 - s) s σ.1)))),
      (if σ.2.1 ≤ xsd2 (xCo IF 22 N M S 0 (xf2 15 M (S - 1) 0 (xp2 15 M (nI a) (nI b) (S - 1 - s) s σ.1))) 22 S M 0 0 then σ.2 else (xsd2 (xCo IF 22 N M S 0 (xf2 15 M (S - 1) 0 (xp2 15 M (nI a) (nI b) (S - 1 - s) s σ.1))) 22 S M 0 0, 100 * nI s + 10 * nI a + nI b)))
    σ
def xb2 (IF : Nat → Nat → Int32) (N M S s a : Nat) : Nat → Nat → zB → zB
  | 0, _, σ => σ
  | n + 1, b, σ => xb2 IF N M S s a n (b + 1) (xb1 IF N M S s a b σ)
def xb3 (IF : Nat → Nat → Int32) (N M S s : Nat) : Nat → Nat → zB → zB
  | 0, _, σ => σ
  | n + 1, a, σ => xb3 IF N M S s n (a + 1) (xb2 IF N M S s a M 0 σ)
def xb4 (IF : Nat → Nat → Int32) (N M S : Nat) : Nat → Nat → zB → zB
  | 0, _, σ => σ
  | n + 1, s, σ => xb4 IF N M S n (s + 1) (xb3 IF N M S s M 0 σ)
def xbB (IF : Nat → Nat → Int32) (N M S : Nat) (A : Nat → Nat → Int32) : zB := xb4 IF N M S (S - 1) 0 (A, xsd2 A 22 S M 0 0, -1)
def xfb (IF : Nat → Nat → Int32) (N M S : Nat) (A : Nat → Nat → Int32) : Int32 × (Nat → Nat → Int32) := if xsd2 A 22 S M 0 0 = 0 then (-1, A) else ((xbB IF N M S A).2.2, xCo IF 22 N M S 0 (xbB IF N M S A).1)
/-- putSupplements, takeSupplements: from i on; f first, g last station -/
def xps (t : Int32) (f g p : Nat) : Nat → Nat → (Nat → Nat → Int32) → Nat → Nat → Int32
  | 0, _, A => A
  | n + 1, i, A => xps t f g p n (i + 1) (va_up A 21 (upd (A 21) (xev t (nI f + nI i + 1) true) (A p i)))
def xts (t : Int32) (f g : Nat) : Nat → Nat → (Nat → Nat → Int32) → Nat → Nat → Int32
  | 0, _, A => A
  | n + 1, i, A => xts t f g n (i + 1) (va_up A 31 (upd (A 31) i (A 21 (xev t (nI f + nI i + 1) true))))
section
variable {ε : Nat × (Nat → Int32)} {d : Nat} {Q : zQ} {o ot it : Value} {IF : Nat → Nat → Int32} {AL : Nat → Nat → Int64} {AD : Nat → Nat → UInt64} {S M N : Nat}
theorem cl_bl (hM : IF 8 1 = nI M) (hM8 : M ≤ 8) : ∀ (n t : Nat) (A : Nat → Nat → Int32) (c : Int32), t + n = M → c = nI t → zW ε false (d + 6) 118 73 [(0, .ref 0)] [] (zM o ot it IF (xbl n t A) AL AD) 0 0 Q → zW ε false (d + 6) 118 39 [(0, .ref 0), (1, .int c)] [] (zM o ot it IF A AL AD) 0 0 Q := by
  intro n
  induction n with
  | zero =>
    intro t A c hi hc hq
    refine zrun 5 (zb_ge hc hM (by omega) (by omega) (fun _ => ?_) (fun h => absurd h (by omega)))
    exact zfg [0] hq
  | succ n ih =>
    intro t A c hi hc hq
    subst hc
    refine zrun 5 (zb_ge rfl hM (by omega) (by omega) (fun h => absurd h (by omega)) (fun _ => ?_))
    refine zrun 8 ⟨⟨Nat.zero_le _, Nat.zero_le _, rfl⟩, ?_⟩
    refine c_of (Or.inr rfl) ⟨rfl, ?_⟩
    refine zrun 1 ⟨⟨Nat.zero_le _, Nat.zero_le _, rfl⟩, ?_⟩
    refine c_setEarliest ⟨rfl, ?_⟩
    exact zrun 2 (ih (t + 1) _ (nI t + 1) (by omega) (nI_1 t) hq)
theorem c_beginAnew {A : Nat → Nat → Int32} (hS : IF 8 0 = nI S) (hS2 : 2 ≤ S) (hS8 : S ≤ 8) (hM : IF 8 1 = nI M) (hM8 : M ≤ 8) (hN : IF 8 2 = nI N) (hN8 : N ≤ 8) (hq : Q (.inl none) (zM o ot it (xbI IF) (xbA IF N M S A) AL AD)) : zW ε false (d + 6) 118 0 [(0, .ref 0)] [] (zM o ot it IF A AL AD) 0 0 Q := by
  have hS' : xbI IF 8 0 = nI S := hS
  have hM' : xbI IF 8 1 = nI M := hM
  have hN' : xbI IF 8 2 = nI N := hN
  refine zrun 3 ?_
  refine zrun 3 ⟨⟨Nat.zero_le _, Nat.zero_le _, rfl⟩, ?_⟩
  refine c_sortByStart (IF := xbI IF) hS' (by omega) hS8 hM' hM8 ⟨rfl, ?_⟩
  refine zrun 5 ⟨⟨Nat.zero_le _, Nat.zero_le _, rfl⟩, ?_⟩
  refine c_copyOrders (IF := xbI IF) ⟨rfl, ?_⟩
  refine zrun 3 ⟨⟨Nat.zero_le _, Nat.zero_le _, rfl⟩, ?_⟩
  refine c_clearExtras (IF := xbI IF) (Or.inl rfl) ⟨rfl, ?_⟩
  refine zrun 3 ⟨⟨Nat.zero_le _, Nat.zero_le _, rfl⟩, ?_⟩
  refine c_clearExtras (IF := xbI IF) (Or.inr rfl) ⟨rfl, ?_⟩
  refine zrun 2 (zloc [(0, _), (1, _)] rfl ?_)
  refine cl_bl (IF := xbI IF) hM' hM8 M 0 _ 0 (by omega) nI_0.symm ?_
  refine zrun 3 ⟨⟨Nat.zero_le _, Nat.zero_le _, rfl⟩, ?_⟩
  refine c_compute (IF := xbI IF) (Or.inl rfl) hS' hS8 hN' hN8 hM' hM8 ⟨rfl, ?_⟩
  refine zrun 3 ⟨⟨Nat.zero_le _, Nat.zero_le _, rfl⟩, ?_⟩
  refine c_compute (IF := xbI IF) (Or.inr (Or.inl rfl)) hS' hS8 hN' hN8 hM' hM8 ⟨rfl, ?_⟩
  exact zrun 1 hq
theorem cl_ss {A : Nat → Nat → Int32} (hS : IF 8 0 = nI S) (hS1 : 1 ≤ S) (hS8 : S ≤ 8) {t : Int32} : ∀ (n s : Nat) (v c : Int32), s + n = S - 1 → c = nI s → Q (.inl (some (.int (xss A t n s v)))) (zM o ot it IF A AL AD) → zW ε false (d + 3) 119 4 [(0, .ref 0), (1, .int t), (2, .int v), (3, .int c)] [] (zM o ot it IF A AL AD) 0 0 Q := by
  have hS' := zpred hS hS1
  intro n
  induction n with
  | zero =>
    intro s v c hi hc hq
    refine zrun 7 (zb_ge hc hS' (by omega) (by omega) (fun _ => ?_) (fun h => absurd h (by omega)))
    exact zrun 2 hq
  | succ n ih =>
    intro s v c hi hc hq
    subst hc
    refine zrun 7 (zb_ge rfl hS' (by omega) (by omega) (fun h => absurd h (by omega)) (fun _ => ?_))
    refine zrun 9 ⟨⟨Nat.zero_le _, Nat.zero_le _, rfl⟩, ?_⟩
    refine c_extra (r := 18) (Or.inl rfl) (b := true) rfl ⟨rfl, ?_⟩
    exact zrun 4 (ih (s + 1) _ (nI s + 1) (by omega) (nI_1 s) hq)
theorem c_sumSup {A : Nat → Nat → Int32} (hS : IF 8 0 = nI S) (hS1 : 1 ≤ S) (hS8 : S ≤ 8) {t : Int32} (hq : Q (.inl (some (.int (xss A t (S - 1) 0 0)))) (zM o ot it IF A AL AD)) : zW ε false (d + 3) 119 0 [(0, .ref 0), (1, .int t)] [] (zM o ot it IF A AL AD) 0 0 Q := zrun 4 (cl_ss hS hS1 hS8 (S - 1) 0 0 0 (by omega) nI_0.symm hq)
theorem cl_b2 (hS : IF 8 0 = nI S) (hS2 : 2 ≤ S) (hS8 : S ≤ 8) (hM : IF 8 1 = nI M) (hM8 : M ≤ 8) (hN : IF 8 2 = nI N) (hN8 : N ≤ 8) {s a : Nat} (hs : s < S - 1) (ha : a < M) : ∀ (n b : Nat) (σ : zB) (c : Int32), b + n = M → c = nI b → zW ε false (d + 6) 120 148 [(0, .ref 0), (1, .int (xb2 IF N M S s a n b σ).2.1), (2, .int (xb2 IF N M S s a n b σ).2.2), (3, .int (nI s)), (4, .int (nI a))] [] (zM o ot it IF (xb2 IF N M S s a n b σ).1 AL AD) 0 0 Q → zW ε false (d + 6) 120 49 [(0, .ref 0), (1, .int σ.2.1), (2, .int σ.2.2), (3, .int (nI s)), (4, .int (nI a)), (5, .int c)] [] (zM o ot it IF σ.1 AL AD) 0 0 Q := by
  intro n
  induction n with
  | zero =>
    intro b σ c hi hc hq
    refine zrun 5 (zb_ge hc hM (by omega) (by omega) (fun _ => ?_) (fun h => absurd h (by omega)))
    exact zfg [0, 1, 2, 3, 4] hq
  | succ n ih =>
    intro b σ c hi hc hq
    subst hc
    have next : ∀ σ' : zB, σ' = xb1 IF N M S s a b σ → zW ε false (d + 6) 120 49 [(0, .ref 0), (1, .int σ'.2.1), (2, .int σ'.2.2), (3, .int (nI s)), (4, .int (nI a)), (5, .int (nI b + 1))] [] (zM o ot it IF σ'.1 AL AD) 0 0 Q := fun σ' h => ih (b + 1) σ' (nI b + 1) (by omega) (nI_1 b) (by rw [h]; exact hq)
    refine zrun 5 (zb_ge rfl hM (by omega) (by omega) (fun h => absurd h (by omega)) (fun _ => ?_))
    refine zrun 6 ⟨⟨Nat.zero_le _, Nat.zero_le _, rfl⟩, ?_⟩
    refine c_cp (k := 15) (Or.inr rfl) hS (by omega) hS8 hM (by omega) hM8 (by omega) ⟨rfl, ?_⟩
    refine zrun 1 (zb_t rfl (fun h1 => ?_) (fun h1 => ?_))
    · refine zrun 6 ⟨⟨Nat.zero_le _, Nat.zero_le _, rfl⟩, ?_⟩
      refine c_pass (k := 15) (Or.inr rfl) hS (by omega) hS8 hM (by omega) hM8 (by omega) rfl ⟨rfl, ?_⟩
      refine zrun 3 ⟨⟨Nat.zero_le _, Nat.zero_le _, rfl⟩, ?_⟩
      refine c_compute (r := 22) (Or.inr (Or.inl rfl)) hS hS8 hN hN8 hM hM8 ⟨rfl, ?_⟩
      refine zrun 3 ⟨⟨Nat.zero_le _, Nat.zero_le _, rfl⟩, ?_⟩
      refine c_sumOfDelays (r := 22) (Or.inr (Or.inl rfl)) hS hS8 hM hM8 ⟨rfl, ?_⟩
      refine zrun 1 (zloc [(0, _), (1, _), (2, _), (3, _), (4, _), (5, _), (6, _)] rfl ?_)
      refine zrun 3 ⟨fun h2 => zpc 130 (by decide) ?_, fun h2 => ?_⟩
      · refine zrun 6 ⟨⟨Nat.zero_le _, Nat.zero_le _, rfl⟩, ?_⟩
        refine c_pass (k := 15) (Or.inr rfl) hS (by omega) hS8 hM (by omega) hM8 (by omega) rfl ⟨rfl, ?_⟩
        refine zrun 2 (zfg [0, 1, 2, 3, 4, 5] ?_)
        refine zloc [(0, _), (1, _), (2, _), (3, _), (4, _), (5, _)] rfl ?_
        refine next ((xf2 15 M (S - 1) 0 (xp2 15 M (nI b) (nI a) (S - 1 - s) s (xCo IF 22 N M S 0 (xf2 15 M (S - 1) 0 (xp2 15 M (nI a) (nI b) (S - 1 - s) s σ.1))))), σ.2) ?_
        unfold xb1
        rw [h1]
        exact Prod.ext rfl (if_pos h2).symm
      · refine zrun 12 (zloc [(0, _), (1, _), (2, _), (3, _), (4, _), (5, _), (6, _)] rfl ?_)
        refine zrun 6 ⟨⟨Nat.zero_le _, Nat.zero_le _, rfl⟩, ?_⟩
        refine c_pass (k := 15) (Or.inr rfl) hS (by omega) hS8 hM (by omega) hM8 (by omega) rfl ⟨rfl, ?_⟩
        refine zrun 2 (zfg [0, 1, 2, 3, 4, 5] ?_)
        refine next (_, _, _) ?_
        unfold xb1
        rw [h1]
        exact Prod.ext rfl (if_neg h2).symm
    · refine zrun 3 (next σ ?_)
      unfold xb1
      rw [h1]
      rfl
theorem cl_b3 (hS : IF 8 0 = nI S) (hS2 : 2 ≤ S) (hS8 : S ≤ 8) (hM : IF 8 1 = nI M) (hM8 : M ≤ 8) (hN : IF 8 2 = nI N) (hN8 : N ≤ 8) {s : Nat} (hs : s < S - 1) : ∀ (n a : Nat) (σ : zB) (c : Int32), a + n = M → c = nI a → zW ε false (d + 6) 120 154 [(0, .ref 0), (1, .int (xb3 IF N M S s n a σ).2.1), (2, .int (xb3 IF N M S s n a σ).2.2), (3, .int (nI s))] [] (zM o ot it IF (xb3 IF N M S s n a σ).1 AL AD) 0 0 Q → zW ε false (d + 6) 120 34 [(0, .ref 0), (1, .int σ.2.1), (2, .int σ.2.2), (3, .int (nI s)), (4, .int c)] [] (zM o ot it IF σ.1 AL AD) 0 0 Q := by
  intro n
  induction n with
  | zero =>
    intro a σ c hi hc hq
    refine zrun 5 (zb_ge hc hM (by omega) (by omega) (fun _ => ?_) (fun h => absurd h (by omega)))
    exact zfg [0, 1, 2, 3] hq
  | succ n ih =>
    intro a σ c hi hc hq
    subst hc
    refine zrun 5 (zb_ge rfl hM (by omega) (by omega) (fun h => absurd h (by omega)) (fun _ => ?_))
    refine zrun 2 (zloc [(0, _), (1, _), (2, _), (3, _), (4, _), (5, _)] rfl ?_)
    refine cl_b2 hS hS2 hS8 hM hM8 hN hN8 hs (by omega) M 0 σ 0 (by omega) nI_0.symm ?_
    exact zrun 2 (ih (a + 1) _ (nI a + 1) (by omega) (nI_1 a) hq)
theorem cl_b4 (hS : IF 8 0 = nI S) (hS2 : 2 ≤ S) (hS8 : S ≤ 8) (hM : IF 8 1 = nI M) (hM8 : M ≤ 8) (hN : IF 8 2 = nI N) (hN8 : N ≤ 8) : ∀ (n s : Nat) (σ : zB) (c : Int32), s + n = S - 1 → c = nI s → Q (.inl (some (.int (xb4 IF N M S n s σ).2.2))) (zM o ot it IF (xCo IF 22 N M S 0 (xb4 IF N M S n s σ).1) AL AD) → zW ε false (d + 6) 120 18 [(0, .ref 0), (1, .int σ.2.1), (2, .int σ.2.2), (3, .int c)] [] (zM o ot it IF σ.1 AL AD) 0 0 Q := by
  have hS' := zpred hS (by omega)
  intro n
  induction n with
  | zero =>
    intro s σ c hi hc hq
    refine zrun 7 (zb_ge hc hS' (by omega) (by omega) (fun _ => ?_) (fun h => absurd h (by omega)))
    refine zrun 3 ⟨⟨Nat.zero_le _, Nat.zero_le _, rfl⟩, ?_⟩
    refine c_compute (r := 22) (Or.inr (Or.inl rfl)) hS hS8 hN hN8 hM hM8 ⟨rfl, ?_⟩
    exact zrun 2 hq
  | succ n ih =>
    intro s σ c hi hc hq
    subst hc
    refine zrun 7 (zb_ge rfl hS' (by omega) (by omega) (fun h => absurd h (by omega)) (fun _ => ?_))
    refine zrun 2 (zloc [(0, _), (1, _), (2, _), (3, _), (4, _)] rfl ?_)
    refine cl_b3 hS hS2 hS8 hM hM8 hN hN8 (by omega) M 0 σ 0 (by omega) nI_0.symm ?_
    exact zrun 2 (ih (s + 1) _ (nI s + 1) (by omega) (nI_1 s) hq)
theorem c_findBest {A : Nat → Nat → Int32} (hS : IF 8 0 = nI S) (hS2 : 2 ≤ S) (hS8 : S ≤ 8) (hM : IF 8 1 = nI M) (hM8 : M ≤ 8) (hN : IF 8 2 = nI N) (hN8 : N ≤ 8) (hq : Q (.inl (some (.int (xfb IF N M S A).1))) (zM o ot it IF (xfb IF N M S A).2 AL AD)) : zW ε false (d + 6) 120 0 [(0, .ref 0)] [] (zM o ot it IF A AL AD) 0 0 Q := by
  refine zrun 3 ⟨⟨Nat.zero_le _, Nat.zero_le _, rfl⟩, ?_⟩
  refine c_sumOfDelays (r := 22) (Or.inr (Or.inl rfl)) hS hS8 hM hM8 ⟨rfl, ?_⟩
  refine zrun 3 (zloc [(0, _), (1, _), (2, _)] rfl ?_)
  refine zrun 2 ⟨fun h1 => ?_, fun h1 => ?_⟩
  · have e : xfb IF N M S A = _ := if_neg h1
    rw [e] at hq
    refine zrun 2 (zloc [(0, _), (1, _), (2, _), (3, _)] rfl ?_)
    exact cl_b4 hS hS2 hS8 hM hM8 hN hN8 (S - 1) 0 (A, xsd2 A 22 S M 0 0, -1) 0 (by omega) nI_0.symm hq
  · have e : xfb IF N M S A = _ := if_pos h1
    rw [e] at hq
    exact zrun 2 hq
end
