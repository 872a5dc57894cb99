/-! the class: the text's bytes, tolerance, dispatch, supplements, speed -/
section
variable {ε : Nat × (Nat → Int32)} {al : Bool} {d y pc : Nat} {l : zL} {r : List Value} {h : zH} {uc us : Nat} {Q : zQ}
theorem zW_bast {k n N : Nat} {i x : Int32} (hI : zI y pc = some (.bastore, 1)) (hk : h.1[k]? = some (2, N)) (hi : i = nI n) (hn : n < N) (hN : N < 4001) (hh : zW ε al d y (pc + 1) l r (zpA h k (upd (h.2.2.2.1 k) n (vp_nar .byte x))) uc us Q) : zW ε al d y pc l (.int x :: .int i :: .ref k :: r) h uc us Q := by
  subst hi
  refine zW_fold _ _ _ _ _ _ _ _ _ _ ?_
  unfold zstep
  rw [hI]
  show zmem ε (zW ε) al d y pc l (.int x :: .int (nI n) :: .ref k :: r) h uc us Q .bastore 1
  unfold zmem
  dsimp only
  rw [hk]
  exact ⟨vp_in_nI hn (by omega), by rw [nI_clamp (by omega)]; exact hh⟩
end
def xln (IF : Nat → Nat → Int32) (n : Nat) : Nat → Nat → Int32 := va_up IF 2 (upd (IF 2) 0 (nI n))
theorem xln_xln (IF : Nat → Nat → Int32) (a b : Nat) : xln (xln IF a) b = xln IF b := by
  funext k j
  unfold xln va_up upd
  by_cases hk : k = 2
  · subst hk
    rw [if_pos rfl, if_pos rfl]
    by_cases hj : j = 0
    · subst hj; rfl
    · rw [if_neg hj, if_neg hj, if_pos rfl, if_neg hj]
  · rw [if_neg hk, if_neg hk, if_neg hk]
def xab1 (v sh : Int32) (n : Nat) (A : Nat → Nat → Int32) : Nat → Nat → Int32 := va_up A 3 (upd (A 3) n ((v >>> (sh &&& 31)).toInt8.toInt32))
def xab (v : Int32) (n : Nat) (A : Nat → Nat → Int32) : Nat → Nat → Int32 := xab1 v 0 (n + 3) (xab1 v 8 (n + 2) (xab1 v 16 (n + 1) (xab1 v 24 n A)))
def zfin (x z : Int32) (B : Nat → Nat → Int32) : Nat → Nat → Int32 := va_up B 27 (upd (B 27) (xev x z false) 0)
/-- an overtaking as findBest tells it -/
def zBok (S M : Nat) (v : Int32) : Prop := v = -1 ∨ ∃ s a b, s < S - 1 ∧ a < M ∧ b < M ∧ v = nI (100 * s + 10 * a + b)
section
variable {IF : Nat → Nat → Int32} {S M N : Nat}
theorem xb1_ok {s a b : Nat} {σ : zB} (hs : s < S - 1) (ha : a < M) (hb : b < M) (h : zBok S M σ.2.2) : zBok S M (xb1 IF N M S s a b σ).2.2 := by
  unfold xb1
  cases (xs IF 8 (nI s) && xcp σ.1 15 M (nI a) (nI b) (S - 1 - s) s)
  · exact h
  · dsimp only [cond]
    split
    · exact h
    · refine Or.inr ⟨s, a, b, hs, ha, hb, ?_⟩
      show (100 : Int32) * nI s + 10 * nI a + nI b = _
      rw [show (100 : Int32) = nI 100 from rfl, show (10 : Int32) = nI 10 from rfl, pk_mul, pk_mul, nI_add, nI_add]
theorem xb2_ok {s a : Nat} (hs : s < S - 1) (ha : a < M) : ∀ (n b : Nat) (σ : zB), b + n ≤ M → zBok S M σ.2.2 → zBok S M (xb2 IF N M S s a n b σ).2.2
  | 0, _, _, _, h => h
  | n + 1, b, σ, hb, h => xb2_ok hs ha n (b + 1) _ (by omega) (xb1_ok hs ha (by omega) h)
theorem xb3_ok {s : Nat} (hs : s < S - 1) : ∀ (n a : Nat) (σ : zB), a + n ≤ M → zBok S M σ.2.2 → zBok S M (xb3 IF N M S s n a σ).2.2
  | 0, _, _, _, h => h
  | n + 1, a, σ, ha, h => xb3_ok hs n (a + 1) _ (by omega) (xb2_ok hs (by omega) M 0 σ (by omega) h)
theorem xb4_ok : ∀ (n s : Nat) (σ : zB), s + n ≤ S - 1 → zBok S M σ.2.2 → zBok S M (xb4 IF N M S n s σ).2.2
  | 0, _, _, _, h => h
  | n + 1, s, σ, hs, h => xb4_ok n (s + 1) _ (by omega) (xb3_ok (by omega) M 0 σ (by omega) h)
theorem xfb_ok {A : Nat → Nat → Int32} : zBok S M (xfb IF N M S A).1 := by
  unfold xfb
  split
  · exact Or.inl rfl
  · exact xb4_ok (S - 1) 0 _ (by omega) (Or.inl rfl)
theorem xts_10 {t : Int32} {f g : Nat} : ∀ (n i : Nat) (A : Nat → Nat → Int32), (xts t f g n i A) 10 = A 10
  | 0, _, _ => rfl
  | n + 1, i, A => by unfold xts; rw [xts_10 n]; rfl
theorem xl2_10 {t : Int32} {f g : Nat} : ∀ (n : Nat) (σ : zG), (xl2 IF N M S t f g n σ).1 10 = σ.1 10
  | 0, _ => rfl
  | n + 1, σ => by
    unfold xl2
    cases σ.2.2
    · rfl
    · exact (xl2_10 n _).trans xl1_10
theorem xfA_10 (n i : Nat) (A : Nat → Nat → Int32) : xfA 29 0 n i A 10 = A 10 := by
  induction n generalizing i A with
  | zero => rfl
  | succ n ih => unfold xfA; rw [ih]; rfl
theorem xfl_10 {t mi : Int32} {f g : Nat} {A : Nat → Nat → Int32} : (xfl IF N M S t f g mi A).1 10 = A 10 := by
  unfold xfl
  rw [xl2_10]
  exact xfA_10 8 0 A
end
section
variable {ε : Nat × (Nat → Int32)} {d : Nat} {Q : zQ} {o ot it : Value} {IF : Nat → Nat → Int32} {AL : Nat → Nat → Int64} {AD : Nat → Nat → UInt64} {S M N : Nat}
theorem cl_ab1 {A : Nat → Nat → Int32} {v sh : Int32} {n : Nat} (hn : IF 2 0 = nI n) (hn5 : n < 500) (hsh : ¬ sh < 0) (next : zW ε false d 60 3 [(0, .ref 2), (1, .int v), (2, .int (sh + -8))] [] (zM o ot it (xln IF (n + 1)) (xab1 v sh n A) AL AD) 0 0 Q) : zW ε false d 60 3 [(0, .ref 2), (1, .int v), (2, .int sh)] [] (zM o ot it IF A AL AD) 0 0 Q := by
  refine zrun 2 ⟨fun h => absurd h hsh, fun _ => ?_⟩
  refine zrun 4 (zb_ge (b := 500) hn rfl (by omega) (by omega) (fun h => absurd h (by omega)) (fun _ => ?_))
  refine zrun 8 ?_
  refine zW_bast (n := n) (N := 500) rfl rfl hn hn5 (by decide) ?_
  rw [pk_vb]
  have e : nI (n + 1) = IF 2 0 + 1 := by rw [hn, nI_1]
  unfold xln at next
  rw [e] at next
  exact zrun 8 next
theorem c_addBytes {A : Nat → Nat → Int32} {v : Int32} {n : Nat} (hn : IF 2 0 = nI n) (hn5 : n + 4 ≤ 500) (hq : Q (.inl none) (zM o ot it (xln IF (n + 4)) (xab v n A) AL AD)) : zW ε false d 60 0 [(0, .ref 2), (1, .int v)] [] (zM o ot it IF A AL AD) 0 0 Q := by
  refine zrun 2 (zloc [(0, .ref 2), (1, .int v), (2, .int 24)] rfl ?_)
  refine cl_ab1 hn (by omega) (by decide) ?_
  refine zloc [(0, .ref 2), (1, .int v), (2, .int 16)] rfl ?_
  refine cl_ab1 (IF := xln IF (n + 1)) (n := n + 1) rfl (by omega) (by decide) ?_
  rw [xln_xln]
  refine zloc [(0, .ref 2), (1, .int v), (2, .int 8)] rfl ?_
  refine cl_ab1 (IF := xln IF (n + 2)) (n := n + 2) rfl (by omega) (by decide) ?_
  rw [xln_xln]
  refine zloc [(0, .ref 2), (1, .int v), (2, .int 0)] rfl ?_
  refine cl_ab1 (IF := xln IF (n + 3)) (n := n + 3) rfl (by omega) (by decide) ?_
  rw [xln_xln]
  refine zrun 2 ⟨fun _ => zrun 1 hq, fun h => absurd (by decide) h⟩
theorem c_append {A : Nat → Nat → Int32} {a b c e f : Int32} {n : Nat} (hn : IF 2 0 = nI n) (hn5 : n ≤ 500) (h1 : n ≤ 480 → Q (.inl (some (.int (nI (n + 20))))) (zM o ot it (xln IF (n + 20)) (xab f (n + 16) (xab e (n + 12) (xab c (n + 8) (xab b (n + 4) (xab a n A))))) AL AD)) (h2 : 480 < n → Q (.inr 0) (zM o ot it IF A AL AD)) : zW ε false (d + 1) 78 0 [(0, .ref 0), (1, .int a), (2, .int b), (3, .int c), (4, .int e), (5, .int f)] [] (zM o ot it IF A AL AD) 0 0 Q := by
  refine zrun 4 (zloc [(0, _), (1, _), (2, _), (3, _), (4, _), (5, _), (6, _)] rfl ?_)
  refine zrun 4 (zb_le (b := 480) hn rfl (by omega) (by omega) (fun g => ?_) (fun g => ?_))
  · refine zrun 3 ⟨⟨Nat.le_of_ble_eq_true rfl, Nat.le_of_ble_eq_true rfl, rfl⟩, ?_⟩
    refine c_addBytes hn (by omega) ⟨rfl, ?_⟩
    refine zrun 3 ⟨⟨Nat.le_of_ble_eq_true rfl, Nat.le_of_ble_eq_true rfl, rfl⟩, ?_⟩
    refine c_addBytes (IF := xln IF (n + 4)) (n := n + 4) rfl (by omega) ⟨rfl, ?_⟩
    rw [xln_xln]
    refine zrun 3 ⟨⟨Nat.le_of_ble_eq_true rfl, Nat.le_of_ble_eq_true rfl, rfl⟩, ?_⟩
    refine c_addBytes (IF := xln IF (n + 8)) (n := n + 8) rfl (by omega) ⟨rfl, ?_⟩
    rw [xln_xln]
    refine zrun 3 ⟨⟨Nat.le_of_ble_eq_true rfl, Nat.le_of_ble_eq_true rfl, rfl⟩, ?_⟩
    refine c_addBytes (IF := xln IF (n + 12)) (n := n + 12) rfl (by omega) ⟨rfl, ?_⟩
    rw [xln_xln]
    refine zrun 3 ⟨⟨Nat.le_of_ble_eq_true rfl, Nat.le_of_ble_eq_true rfl, rfl⟩, ?_⟩
    refine c_addBytes (IF := xln IF (n + 16)) (n := n + 16) rfl (by omega) ⟨rfl, ?_⟩
    rw [xln_xln]
    exact zrun 3 (h1 g)
  · exact zrun 1 ⟨⟨Nat.le_of_ble_eq_true rfl, Nat.le_of_ble_eq_true rfl, Nat.le_of_ble_eq_true rfl⟩, h2 g⟩
theorem cl_to (hS : IF 8 0 = nI S) (hS8 : S ≤ 8) (hM : IF 8 1 = nI M) (hM8 : M ≤ 8) (hN : IF 8 2 = nI N) (hN8 : N ≤ 8) {x z : Int32} : ∀ (m : Nat) (A : Nat → Nat → Int32), m ≤ 61 → Q (.inl (some (.int (nI (xto IF N M S x z m A).1)))) (zM o ot it IF (zfin x z (xto IF N M S x z m A).2) AL AD) → zW ε false (d + 6) 107 13 [(0, .ref 0), (1, .int x), (2, .int z), (3, .int (nI m)), (4, .int 1)] [] (zM o ot it IF A AL AD) 3 18 Q := by
  have ex : ∀ (m : Nat) (A : Nat → Nat → Int32) (v : Int32), Q (.inl (some (.int (nI m)))) (zM o ot it IF (zfin x z A) AL AD) → zW ε false (d + 6) 107 64 [(0, .ref 0), (1, .int x), (2, .int z), (3, .int (nI m)), (4, .int v)] [] (zM o ot it IF A AL AD) 3 18 Q := by
    intro m A v hq
    refine zrun 7 ⟨⟨Nat.le_of_ble_eq_true rfl, Nat.le_of_ble_eq_true rfl, rfl⟩, ?_⟩
    refine c_setExtra (r := 25) (Or.inr (Or.inr rfl)) (b := false) rfl ⟨rfl, ?_⟩
    exact zrun 2 hq
  intro m
  induction m with
  | zero =>
    intro A hm hq
    refine zrun 2 ⟨fun h => absurd (show (1 : Int32) = 0 from h) (by decide), fun _ => ?_⟩
    refine zrun 2 (zb_le (b := 0) rfl nI_0.symm (by omega) (by omega) (fun _ => ?_) (fun h => absurd h (by omega)))
    exact zpc 64 (by decide) (ex 0 A 1 hq)
  | succ m ih =>
    intro A hm hq
    refine zrun 2 ⟨fun h => absurd (show (1 : Int32) = 0 from h) (by decide), fun _ => ?_⟩
    refine zrun 2 (zb_le (b := 0) rfl nI_0.symm (by omega) (by omega) (fun h => absurd h (by omega)) (fun _ => ?_))
    refine zrun 1 (zloc [(0, .ref 0), (1, .int x), (2, .int z), (3, .int (nI m)), (4, .int 1)] (by rw [← pk_m1 m]; rfl) ?_)
    refine zrun 7 ⟨⟨Nat.le_of_ble_eq_true rfl, Nat.le_of_ble_eq_true rfl, rfl⟩, ?_⟩
    refine c_setExtra (r := 25) (Or.inr (Or.inr rfl)) (b := false) rfl ⟨rfl, ?_⟩
    refine zrun 3 ⟨⟨Nat.le_of_ble_eq_true rfl, Nat.le_of_ble_eq_true rfl, rfl⟩, ?_⟩
    refine c_compute (r := 25) (Or.inr (Or.inr rfl)) hS hS8 hN hN8 hM hM8 ⟨rfl, ?_⟩
    refine zrun 4 ⟨⟨Nat.le_of_ble_eq_true rfl, Nat.le_of_ble_eq_true rfl, rfl⟩, ?_⟩
    refine c_lateSet (r := 25) (Or.inr (Or.inr rfl)) hM hM8 ⟨rfl, ?_⟩
    unfold xto at hq
    refine zrun 1 ⟨fun g => ?_, fun g => ?_⟩
    · rw [if_pos (show xls (xtA IF N M S x z m A) 25 0 M 0 0 = 0 from g)] at hq
      refine zrun 3 (zloc [(0, _), (1, _), (2, _), (3, _), (4, .int 0)] rfl ?_)
      refine zrun 2 ⟨fun _ => ?_, fun h => absurd (by decide) h⟩
      exact zpc 64 (by decide) (ex m _ 0 hq)
    · rw [if_neg (show ¬ xls (xtA IF N M S x z m A) 25 0 M 0 0 = 0 from g)] at hq
      refine zrun 4 (zloc [(0, _), (1, _), (2, _), (3, _), (4, .int 1)] rfl ?_)
      exact ih _ (by omega) hq
theorem c_tolerance {A : Nat → Nat → Int32} (hS : IF 8 0 = nI S) (hS8 : S ≤ 8) (hM : IF 8 1 = nI M) (hM8 : M ≤ 8) (hN : IF 8 2 = nI N) (hN8 : N ≤ 8) {x z : Int32} (h1 : zIn M x → zIn S z → xe A 8 x z false = true → Q (.inl (some (.int (nI (xto IF N M S x z 61 A).1)))) (zM o ot it IF (zfin x z (xto IF N M S x z 61 A).2) AL AD)) (h2 : ¬ zIn M x ∨ ¬ zIn S z → Q (.inr 2) (zM o ot it IF A AL AD)) (h3 : zIn M x → zIn S z → xe A 8 x z false = false → Q (.inr 3) (zM o ot it IF A AL AD)) : zW ε false (d + 6) 107 0 [(0, .ref 0), (1, .int x), (2, .int z)] [] (zM o ot it IF A AL AD) 0 0 Q := by
  refine zrun 5 ⟨⟨Nat.le_of_ble_eq_true rfl, Nat.le_of_ble_eq_true rfl, rfl⟩, ?_⟩
  refine c_reqEvent (b := false) hS hS8 hM hM8 rfl (fun gx gz g => ⟨rfl, ?_⟩) (fun g => ⟨⟨rfl, rfl⟩, h2 g⟩) (fun gx gz g => ⟨⟨rfl, rfl⟩, h3 gx gz g⟩)
  refine zrun 4 (zloc [(0, _), (1, _), (2, _), (3, .int (nI 61)), (4, .int 1)] rfl ?_)
  exact cl_to hS hS8 hM hM8 hN hN8 61 A (by omega) (h1 gx gz g)
theorem cl_dp (hS : IF 8 0 = nI S) (hS2 : 2 ≤ S) (hS8 : S ≤ 8) (hM : IF 8 1 = nI M) (hM8 : M ≤ 8) (hN : IF 8 2 = nI N) (hN8 : N ≤ 8) : ∀ (n i : Nat) (A : Nat → Nat → Int32) (c : Int32), i + n = 20 → c = nI i → Q (.inl (some (.int (nI (xdp IF N M S n i A).1)))) (zM o ot it IF (xdp IF N M S n i A).2 AL AD) → zW ε false (d + 7) 106 2 [(0, .ref 0), (1, .int c)] [] (zM o ot it IF A AL AD) 0 0 Q := by
  intro n
  induction n with
  | zero =>
    intro i A c hi hc hq
    have hi' : i = 20 := by omega
    subst hi'
    refine zrun 3 (zb_ge (b := 20) hc rfl (by omega) (by omega) (fun _ => ?_) (fun h => absurd h (by omega)))
    exact zrun 2 hq
  | succ n ih =>
    intro i A c hi hc hq
    subst hc
    refine zrun 3 (zb_ge (b := 20) rfl rfl (by omega) (by omega) (fun h => absurd h (by omega)) (fun _ => ?_))
    refine zrun 2 ⟨⟨Nat.zero_le _, Nat.zero_le _, rfl⟩, ?_⟩
    refine c_findBest hS hS2 hS8 hM hM8 hN hN8 ⟨rfl, ?_⟩
    refine zrun 1 (zloc [(0, _), (1, _), (2, _)] rfl ?_)
    unfold xdp at hq
    refine zrun 3 ⟨fun g => ?_, fun g => ?_⟩
    · rw [if_neg (show ¬ (xfb IF N M S A).1 = -1 from g)] at hq
      obtain ⟨s, a, b, hs, ha, hb, he⟩ := (xfb_ok (IF := IF) (S := S) (M := M) (N := N) (A := A)).resolve_left g
      have e1 : (xfb IF N M S A).1 / 100 = nI s := by
        rw [he, show (100 : Int32) = nI 100 from rfl, pk_div (by omega) (by omega) (by omega)]
        congr 1
        omega
      have e2 : ((xfb IF N M S A).1 / 100).toBitVec.toNat = s := by rw [e1, pk_tn (by omega)]
      rw [e2] at hq
      refine zrun 5 ⟨by decide, ?_⟩
      refine zrun 3 ⟨by decide, ?_⟩
      refine zrun 2 ⟨by decide, ?_⟩
      refine zrun 3 ⟨by decide, ?_⟩
      refine zrun 1 ⟨⟨Nat.zero_le _, Nat.zero_le _, rfl⟩, ?_⟩
      refine c_pass (k := 15) (Or.inr rfl) hS (by omega) hS8 hM (by omega) hM8 (s := s) (by omega) e1 ⟨rfl, ?_⟩
      refine zrun 3 ⟨⟨Nat.zero_le _, Nat.zero_le _, rfl⟩, ?_⟩
      refine c_compute (r := 22) (Or.inr (Or.inl rfl)) hS hS8 hN hN8 hM hM8 ⟨rfl, ?_⟩
      refine zrun 2 (zfg [0, 1] ?_)
      refine zloc [(0, _), (1, _)] rfl ?_
      exact ih (i + 1) _ (nI i + 1) (by omega) (nI_1 i) hq
    · rw [if_pos (show (xfb IF N M S A).1 = -1 from g)] at hq
      exact zrun 2 hq
theorem c_dispatch {A : Nat → Nat → Int32} (hS : IF 8 0 = nI S) (hS2 : 2 ≤ S) (hS8 : S ≤ 8) (hM : IF 8 1 = nI M) (hM8 : M ≤ 8) (hN : IF 8 2 = nI N) (hN8 : N ≤ 8) (hq : Q (.inl (some (.int (nI (xdp IF N M S 20 0 A).1)))) (zM o ot it IF (xdp IF N M S 20 0 A).2 AL AD)) : zW ε false (d + 7) 106 0 [(0, .ref 0)] [] (zM o ot it IF A AL AD) 0 0 Q := zrun 2 (cl_dp hS hS2 hS8 hM hM8 hN hN8 20 0 A 0 (by omega) nI_0.symm hq)
end
