/-! the class: supplements and findLeast -/
abbrev zG : Type := (Nat → Nat → Int32) × Int32 × Bool
/-- findLeast: one way -/
def xlA (IF : Nat → Nat → Int32) (N M S : Nat) (t : Int32) (f g : Nat) (A : Nat → Nat → Int32) : Nat → Nat → Int32 := xCo IF 22 N M S 0 (xCo IF 18 N M S 0 (xps t f g 29 (g - f) 0 A))
def xlK (IF : Nat → Nat → Int32) (N M S : Nat) (t : Int32) (f g : Nat) (A : Nat → Nat → Int32) (v : Int32) : (Nat → Nat → Int32) × Int32 :=
  if v = -1 ∨ ¬ v ≤ xsd2 (xlA IF N M S t f g A) 22 S M 0 0 then (va_up (xlA IF N M S t f g A) 30 (va_cpy (xlA IF N M S t f g A 29) (xlA IF N M S t f g A 30) 0 0 8), xsd2 (xlA IF N M S t f g A) 22 S M 0 0) else (xlA IF N M S t f g A, v)
def xl1 (IF : Nat → Nat → Int32) (N M S : Nat) (t : Int32) (f g : Nat) (A : Nat → Nat → Int32) (v : Int32) : zG :=
  if (xlK IF N M S t f g A v).2 ≤ 0 then ((xlK IF N M S t f g A v).1, (xlK IF N M S t f g A v).2, false)
  else ((xadv (g - f - 1) ((xlK IF N M S t f g A v).1 29 (g - f - 1)) (xlK IF N M S t f g A v).1 (g - f - 1)).2, (xlK IF N M S t f g A v).2, (xadv (g - f - 1) ((xlK IF N M S t f g A v).1 29 (g - f - 1)) (xlK IF N M S t f g A v).1 (g - f - 1)).1)
def xl2 (IF : Nat → Nat → Int32) (N M S : Nat) (t : Int32) (f g : Nat) : Nat → zG → zG
  | 0, σ => σ
  | n + 1, σ => cond σ.2.2 (xl2 IF N M S t f g n (xl1 IF N M S t f g σ.1 σ.2.1)) σ
def xlI (IF : Nat → Nat → Int32) (f g : Nat) : Nat → Nat → Int32 := va_up IF 28 (upd (IF 28) 3 (zmn (nI g - nI f) 8))
def xfl (IF : Nat → Nat → Int32) (N M S : Nat) (t : Int32) (f g : Nat) (mi : Int32) (A : Nat → Nat → Int32) : zG := xl2 (xlI IF f g) N M S t f g 1000 (xad1 (xfA 29 0 8 0 A) 29 0 mi, -1, true)
section
variable {ε : Nat × (Nat → Int32)} {d : Nat} {Q : zQ} {o ot it : Value} {IF : Nat → Nat → Int32} {AL : Nat → Nat → Int64} {AD : Nat → Nat → UInt64} {S M N : Nat}
theorem cl_ps {p : Nat} (hp : p = 29 ∨ p = 30 ∨ p = 31) {t : Int32} {f g : Nat} (hg8 : g ≤ 8) : ∀ (n i : Nat) (A : Nat → Nat → Int32) (c : Int32), xo A 8 t 1 = nI g → f + i + n = g → i + n < 8 → c = nI i → Q (.inl none) (zM o ot it IF (xps t f g p n i A) AL AD) → zW ε false (d + 3) 122 13 [(0, .ref 0), (1, .int t), (2, .ref p), (3, .int (nI f)), (4, .int c)] [] (zM o ot it IF A AL AD) 0 0 Q := by
  intro n
  induction n with
  | zero =>
    intro i A c hL hi h8 hc hq
    subst hc
    rcases hp with rfl | rfl | rfl
    all_goals
      refine zrun 4 (zb_ge (b := 8) rfl rfl (by omega) (by omega) (fun h => absurd h (by omega)) (fun _ => ?_))
      refine zrun 8 ⟨⟨Nat.zero_le _, Nat.zero_le _, rfl⟩, ?_⟩
      refine c_of (Or.inr rfl) ⟨rfl, ?_⟩
      refine zrun 1 (zb_ge (a := f + i) (b := g) (nI_add f i) hL (by omega) (by omega) (fun _ => ?_) (fun h => absurd h (by omega)))
      exact zrun 1 hq
  | succ n ih =>
    intro i A c hL hi h8 hc hq
    subst hc
    have next := ih (i + 1) _ (nI i + 1) (show xo (va_up A 21 (upd (A 21) (xev t (nI f + nI i + 1) true) (A p i))) 8 t 1 = nI g from hL) (by omega) (by omega) (nI_1 i) hq
    rcases hp with rfl | rfl | rfl
    all_goals
      refine zrun 4 (zb_ge (b := 8) rfl rfl (by omega) (by omega) (fun h => absurd h (by omega)) (fun _ => ?_))
      refine zrun 8 ⟨⟨Nat.zero_le _, Nat.zero_le _, rfl⟩, ?_⟩
      refine c_of (Or.inr rfl) ⟨rfl, ?_⟩
      refine zrun 1 (zb_ge (a := f + i) (b := g) (nI_add f i) hL (by omega) (by omega) (fun h => absurd h (by omega)) (fun _ => ?_))
      refine zrun 11 ?_
      refine zW_iald (n := i) (N := 8) rfl rfl rfl (by omega) (by decide) ?_
      refine zrun 1 ⟨⟨Nat.zero_le _, Nat.zero_le _, rfl⟩, ?_⟩
      refine c_setExtra (r := 18) (Or.inl rfl) (b := true) rfl ⟨rfl, ?_⟩
      exact zrun 2 next
theorem c_put {p : Nat} (hp : p = 29 ∨ p = 30 ∨ p = 31) {t : Int32} {f g : Nat} {A : Nat → Nat → Int32} (hF : xo A 8 t 0 = nI f) (hL : xo A 8 t 1 = nI g) (hfg : f < g) (hg8 : g < 8) (hq : Q (.inl none) (zM o ot it IF (xps t f g p (g - f) 0 A) AL AD)) : zW ε false (d + 3) 122 0 [(0, .ref 0), (1, .int t), (2, .ref p)] [] (zM o ot it IF A AL AD) 0 0 Q := by
  refine zrun 5 ⟨⟨Nat.zero_le _, Nat.zero_le _, rfl⟩, ?_⟩
  refine c_of (Or.inr rfl) ⟨rfl, ?_⟩
  rw [show xo A 8 t (Int32.ofInt 0) = nI f from hF]
  refine zrun 3 (zloc [(0, _), (1, _), (2, _), (3, _), (4, _)] rfl ?_)
  exact cl_ps hp (by omega) (g - f) 0 A 0 hL (by omega) (by omega) nI_0.symm hq
theorem cl_ts {t : Int32} {f g : Nat} (hg8 : g ≤ 8) : ∀ (n i : Nat) (A : Nat → Nat → Int32) (c : Int32), xo A 8 t 1 = nI g → f + i + n = g → i + n < 8 → c = nI i → Q (.inl none) (zM o ot it IF (xts t f g n i A) AL AD) → zW ε false (d + 3) 123 13 [(0, .ref 0), (1, .int t), (2, .ref 31), (3, .int (nI f)), (4, .int c)] [] (zM o ot it IF A AL AD) 0 0 Q := by
  intro n
  induction n with
  | zero =>
    intro i A c hL hi h8 hc hq
    subst hc
    refine zrun 4 (zb_ge (b := 8) rfl rfl (by omega) (by omega) (fun h => absurd h (by omega)) (fun _ => ?_))
    refine zrun 8 ⟨⟨Nat.zero_le _, Nat.zero_le _, rfl⟩, ?_⟩
    refine c_of (Or.inr rfl) ⟨rfl, ?_⟩
    refine zrun 1 (zb_ge (a := f + i) (b := g) (nI_add f i) hL (by omega) (by omega) (fun _ => ?_) (fun h => absurd h (by omega)))
    exact zrun 1 hq
  | succ n ih =>
    intro i A c hL hi h8 hc hq
    subst hc
    have next := ih (i + 1) _ (nI i + 1) (show xo (va_up A 31 (upd (A 31) i (A 21 (xev t (nI f + nI i + 1) true)))) 8 t 1 = nI g from hL) (by omega) (by omega) (nI_1 i) hq
    refine zrun 4 (zb_ge (b := 8) rfl rfl (by omega) (by omega) (fun h => absurd h (by omega)) (fun _ => ?_))
    refine zrun 8 ⟨⟨Nat.zero_le _, Nat.zero_le _, rfl⟩, ?_⟩
    refine c_of (Or.inr rfl) ⟨rfl, ?_⟩
    refine zrun 1 (zb_ge (a := f + i) (b := g) (nI_add f i) hL (by omega) (by omega) (fun h => absurd h (by omega)) (fun _ => ?_))
    refine zrun 12 ⟨⟨Nat.zero_le _, Nat.zero_le _, rfl⟩, ?_⟩
    refine c_extra (r := 18) (Or.inl rfl) (b := true) rfl ⟨rfl, ?_⟩
    refine zW_iast (n := i) (N := 8) rfl rfl rfl (by omega) (by decide) ?_
    exact zrun 2 next
theorem c_take {t : Int32} {f g : Nat} {A : Nat → Nat → Int32} (hF : xo A 8 t 0 = nI f) (hL : xo A 8 t 1 = nI g) (hfg : f < g) (hg8 : g < 8) (hq : Q (.inl none) (zM o ot it IF (xts t f g (g - f) 0 A) AL AD)) : zW ε false (d + 3) 123 0 [(0, .ref 0), (1, .int t), (2, .ref 31)] [] (zM o ot it IF A AL AD) 0 0 Q := by
  refine zrun 5 ⟨⟨Nat.zero_le _, Nat.zero_le _, rfl⟩, ?_⟩
  refine c_of (Or.inr rfl) ⟨rfl, ?_⟩
  rw [show xo A 8 t (Int32.ofInt 0) = nI f from hF]
  refine zrun 3 (zloc [(0, _), (1, _), (2, _), (3, _), (4, _)] rfl ?_)
  exact cl_ts (by omega) (g - f) 0 A 0 hL (by omega) (by omega) nI_0.symm hq
/-- what xps, xCo, xadv leave as it was -/
def zSame10 (A A' : Nat → Nat → Int32) : Prop := A' 10 = A 10
theorem xps_10 {t : Int32} {f g p : Nat} : ∀ (n i : Nat) (A : Nat → Nat → Int32), (xps t f g p n i A) 10 = A 10
  | 0, _, _ => rfl
  | n + 1, i, A => by unfold xps; rw [xps_10 n]; rfl
theorem rT_10 {r : Nat} (hr : rOk r) : (10 : Nat) ≠ rT r := by rcases hr with rfl | rfl | rfl <;> decide
theorem xSt_ne {IF A : Nat → Nat → Int32} {r n : Nat} {t s : Int32} {b : Bool} {k : Nat} (hk : k ≠ rT r) : xSt IF A r n t s b k = A k := by
  unfold xSt
  cases xe A 8 t s b
  · rfl
  · exact zup_ne hk
theorem xK1_ne {r N s : Nat} {sd : Bool} {k : Nat} (hk : k ≠ rT r) : ∀ (n i : Nat) (A : Nat → Nat → Int32), xK1 IF r N s sd n i A k = A k
  | 0, _, _ => rfl
  | n + 1, i, A => by
    unfold xK1
    rw [xK1_ne hk n]
    cases sd
    · exact (xSt_ne hk).trans (xSt_ne hk)
    · exact xSt_ne hk
theorem xK2_ne {r N s k : Nat} (hk : k ≠ rT r) : ∀ (n i : Nat) (A : Nat → Nat → Int32), xK2 IF r N s n i A k = A k
  | 0, _, _ => rfl
  | n + 1, i, A => by
    unfold xK2
    rw [xK2_ne hk n]
    exact xSt_ne hk
theorem xCo_ne {r N M k : Nat} (hk : k ≠ rT r) : ∀ (n s : Nat) (A : Nat → Nat → Int32), xCo IF r N M n s A k = A k
  | 0, _, _ => rfl
  | n + 1, s, A => by
    unfold xCo
    rw [xCo_ne hk n]
    unfold xK
    cases xs IF 8 (nI s)
    · exact xK1_ne hk _ _ _
    · exact (xK2_ne hk _ _ _).trans (xK1_ne hk _ _ _)
theorem xadv_ne {last : Nat} {rest : Int32} {A : Nat → Nat → Int32} {k : Nat} (hk : k ≠ 29) : ∀ j, (xadv last rest A j).2 k = A k
  | 0 => rfl
  | j + 1 => by
    unfold xadv
    split
    · exact xadv_ne hk j
    · unfold xad1
      dsimp only
      rw [zup_ne hk, zup_ne hk, zup_ne hk]
theorem xlA_10 {t : Int32} {f g : Nat} {A : Nat → Nat → Int32} : xlA IF N M S t f g A 10 = A 10 := by
  unfold xlA
  rw [xCo_ne (by decide), xCo_ne (by decide), xps_10]
theorem xlK_10 {t : Int32} {f g : Nat} {A : Nat → Nat → Int32} {v : Int32} : (xlK IF N M S t f g A v).1 10 = A 10 := by
  unfold xlK
  split
  · dsimp only
    rw [zup_ne (show (10 : Nat) ≠ 30 by decide)]
    exact xlA_10
  · exact xlA_10
theorem xl1_10 {t : Int32} {f g : Nat} {A : Nat → Nat → Int32} {v : Int32} : (xl1 IF N M S t f g A v).1 10 = A 10 := by
  unfold xl1
  split
  · exact xlK_10
  · exact (xadv_ne (by decide) _).trans xlK_10
theorem cl_l2 (hS : IF 8 0 = nI S) (hS2 : 2 ≤ S) (hS8 : S ≤ 8) (hM : IF 8 1 = nI M) (hM8 : M ≤ 8) (hN : IF 8 2 = nI N) (hN8 : N ≤ 8) {t mi : Int32} {f g : Nat} (hfg : f < g) (hg8 : g < 8) (hsg : IF 28 3 = nI (g - f)) : ∀ (n i : Nat) (σ : zG) (c b : Int32), xo σ.1 8 t 0 = nI f → xo σ.1 8 t 1 = nI g → i + n = 1000 → c = nI i → b = zbo σ.2.2 → Q (.inl (some (.int (xl2 IF N M S t f g n σ).2.1))) (zM o ot it IF (xl2 IF N M S t f g n σ).1 AL AD) → zW ε false (d + 6) 121 35 [(0, .ref 0), (1, .int t), (2, .int mi), (3, .int σ.2.1), (4, .int b), (5, .int c)] [] (zM o ot it IF σ.1 AL AD) 0 0 Q := by
  intro n
  induction n with
  | zero =>
    intro i σ c b hF hL hi hc hb hq
    refine zrun 3 (zb_ge (b := 1000) hc rfl (by omega) (by omega) (fun _ => ?_) (fun h => absurd h (by omega)))
    exact zrun 2 hq
  | succ n ih =>
    intro i σ c b hF hL hi hc hb hq
    subst hc
    obtain ⟨A, v, go⟩ := σ
    refine zrun 3 (zb_ge (b := 1000) rfl rfl (by omega) (by omega) (fun h => absurd h (by omega)) (fun _ => ?_))
    refine zrun 2 (zb_f hb (fun hg => ?_) (fun hg => ?_))
    · have hg' : go = false := hg
      subst hg'
      exact zrun 2 hq
    · have hg' : go = true := hg
      subst hg'
      have next : ∀ (A' : Nat → Nat → Int32) (v' : Int32) (go' : Bool) (b' : Int32), (A', v', go') = xl1 IF N M S t f g A v → b' = zbo go' → zW ε false (d + 6) 121 35 [(0, .ref 0), (1, .int t), (2, .int mi), (3, .int v'), (4, .int b'), (5, .int (nI i + 1))] [] (zM o ot it IF A' AL AD) 0 0 Q := by
        intro A' v' go' b' he hb'
        have h10 : A' 10 = A 10 := by
          have := xl1_10 (IF := IF) (N := N) (M := M) (S := S) (t := t) (f := f) (g := g) (A := A) (v := v)
          rw [← he] at this
          exact this
        refine ih (i + 1) (A', v', go') (nI i + 1) b' ?_ ?_ (by omega) (nI_1 i) hb' ?_
        · show A' 10 _ = _
          rw [h10]; exact hF
        · show A' 10 _ = _
          rw [h10]; exact hL
        · rw [he]; exact hq
      have tail : ∀ (A' : Nat → Nat → Int32) (v' : Int32) (d6 : Int32), (A', v') = xlK IF N M S t f g A v → zW ε false (d + 6) 121 104 [(0, .ref 0), (1, .int t), (2, .int mi), (3, .int v'), (4, .int b), (5, .int (nI i)), (6, .int d6)] [] (zM o ot it IF A' AL AD) 0 0 Q := by
        intro A' v' d6 he
        have e1 : xlK IF N M S t f g A v = (A', v') := he.symm
        refine zrun 2 ⟨fun h1 => ?_, fun h1 => ?_⟩
        · refine zrun 4 (zfg [0, 1, 2, 3, 4, 5] ?_)
          refine zloc [(0, _), (1, _), (2, _), (3, _), (4, _), (5, _)] rfl ?_
          refine next A' v' false 0 ?_ rfl
          unfold xl1
          rw [e1]
          exact (if_pos h1).symm
        · refine zrun 3 ⟨⟨Nat.zero_le _, Nat.zero_le _, rfl⟩, ?_⟩
          refine c_advance hsg (by omega) (by omega) ⟨rfl, ?_⟩
          have e2 : xl1 IF N M S t f g A v = ((xadv (g - f - 1) (A' 29 (g - f - 1)) A' (g - f - 1)).2, v', (xadv (g - f - 1) (A' 29 (g - f - 1)) A' (g - f - 1)).1) := by
            unfold xl1
            rw [e1]
            exact if_neg h1
          refine zrun 1 (zb_f rfl (fun h2 => ?_) (fun h2 => ?_))
          · refine zrun 4 (zfg [0, 1, 2, 3, 4, 5] ?_)
            refine zloc [(0, _), (1, _), (2, _), (3, _), (4, _), (5, _)] rfl ?_
            exact next _ v' false 0 (by rw [e2, h2]) rfl
          · refine zrun 5 (zfg [0, 1, 2, 3, 4, 5] ?_)
            refine zloc [(0, _), (1, _), (2, _), (3, _), (4, _), (5, _)] rfl ?_
            exact next _ v' true 1 (by rw [e2, h2]) rfl
      refine zrun 6 ⟨⟨Nat.zero_le _, Nat.zero_le _, rfl⟩, ?_⟩
      refine c_put (p := 29) (Or.inl rfl) hF hL hfg hg8 ⟨rfl, ?_⟩
      refine zrun 3 ⟨⟨Nat.zero_le _, Nat.zero_le _, rfl⟩, ?_⟩
      refine c_compute (r := 18) (Or.inl rfl) hS hS8 hN hN8 hM hM8 ⟨rfl, ?_⟩
      refine zrun 3 ⟨⟨Nat.zero_le _, Nat.zero_le _, rfl⟩, ?_⟩
      refine c_compute (r := 22) (Or.inr (Or.inl rfl)) hS hS8 hN hN8 hM hM8 ⟨rfl, ?_⟩
      refine zrun 3 ⟨⟨Nat.zero_le _, Nat.zero_le _, rfl⟩, ?_⟩
      refine c_sumOfDelays (r := 22) (Or.inr (Or.inl rfl)) hS hS8 hM hM8 ⟨rfl, ?_⟩
      refine zrun 1 (zloc [(0, _), (1, _), (2, _), (3, _), (4, _), (5, _), (6, _)] rfl ?_)
      have keep : (v = -1 ∨ ¬ v ≤ xsd2 (xlA IF N M S t f g A) 22 S M 0 0) → zW ε false (d + 6) 121 94 [(0, .ref 0), (1, .int t), (2, .int mi), (3, .int v), (4, .int b), (5, .int (nI i)), (6, .int (xsd2 (xlA IF N M S t f g A) 22 S M 0 0))] [] (zM o ot it IF (xlA IF N M S t f g A) AL AD) 0 0 Q := by
        intro hc
        refine zrun 2 (zloc [(0, _), (1, _), (2, _), (3, _), (4, _), (5, _), (6, _)] rfl ?_)
        refine zrun 3 ⟨⟨Nat.zero_le _, Nat.zero_le _, rfl⟩, ?_⟩
        refine c_keepAsBest ⟨rfl, ?_⟩
        exact tail _ _ _ (if_pos hc).symm
      refine zrun 3 ⟨fun h1 => ?_, fun h1 => ?_⟩
      · exact keep (Or.inl h1)
      · refine zrun 3 ⟨fun h2 => ?_, fun h2 => ?_⟩
        · refine zpc 104 (by decide) ?_
          exact tail _ _ _ (if_neg (fun q => q.elim h1 (fun z => z h2))).symm
        · exact keep (Or.inr h2)
theorem c_findLeast {A : Nat → Nat → Int32} (hS : IF 8 0 = nI S) (hS2 : 2 ≤ S) (hS8 : S ≤ 8) (hM : IF 8 1 = nI M) (hM8 : M ≤ 8) (hN : IF 8 2 = nI N) (hN8 : N ≤ 8) {t mi : Int32} {f g : Nat} (hF : xo A 8 t 0 = nI f) (hL : xo A 8 t 1 = nI g) (hfg : f < g) (hg8 : g < 8) (hq : Q (.inl (some (.int (xfl IF N M S t f g mi A).2.1))) (zM o ot it (xlI IF f g) (xfl IF N M S t f g mi A).1 AL AD)) : zW ε false (d + 6) 121 0 [(0, .ref 0), (1, .int t), (2, .int mi)] [] (zM o ot it IF A AL AD) 0 0 Q := by
  have hsg : xlI IF f g 28 3 = nI (g - f) := by
    show zmn (nI g - nI f) 8 = _
    rw [pk_sub (by omega)]
    unfold zmn
    rw [if_neg]
    intro h
    have := (nI_ltI (a := 8) (b := g - f) (by omega) (by omega)).mp h
    omega
  refine zrun 4 (zloc [(0, _), (1, _), (2, _), (3, _), (4, _)] rfl ?_)
  refine zrun 7 ⟨⟨Nat.zero_le _, Nat.zero_le _, rfl⟩, ?_⟩
  refine c_of (Or.inr rfl) ⟨rfl, ?_⟩
  refine zrun 5 ⟨⟨Nat.zero_le _, Nat.zero_le _, rfl⟩, ?_⟩
  refine c_of (Or.inr rfl) ⟨rfl, ?_⟩
  rw [show xo A 8 t (Int32.ofInt 0) = nI f from hF, show xo A 8 t (Int32.ofInt 1) = nI g from hL]
  refine zrun 3 ⟨⟨Nat.zero_le _, Nat.zero_le _, rfl⟩, ?_⟩
  refine c_begin ⟨rfl, ?_⟩
  refine zrun 2 (zloc [(0, _), (1, _), (2, _), (3, _), (4, _), (5, _)] rfl ?_)
  have h10 : ∀ (n i : Nat) (A : Nat → Nat → Int32), xfA 29 0 n i A 10 = A 10 := by
    intro n
    induction n with
    | zero => intro i A; rfl
    | succ n ih => intro i A; unfold xfA; rw [ih]; rfl
  refine cl_l2 (IF := xlI IF f g) hS hS2 hS8 hM hM8 hN hN8 hfg hg8 hsg 1000 0 (xad1 (xfA 29 0 8 0 A) 29 0 mi, -1, true) 0 1 ?_ ?_ (by omega) nI_0.symm rfl hq
  · show xfA 29 0 8 0 A 10 _ = _
    rw [h10]; exact hF
  · show xfA 29 0 8 0 A 10 _ = _
    rw [h10]; exact hL
end
