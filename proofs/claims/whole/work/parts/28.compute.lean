/-! the class: Schedule.compute -/
def xK1 (IF : Nat → Nat → Int32) (r N s : Nat) (sd : Bool) : Nat → Nat → (Nat → Nat → Int32) → Nat → Nat → Int32
  | 0, _, A => A
  | n + 1, i, A => xK1 IF r N s sd n (i + 1) (cond sd (xSt IF A r N (A (rO r + 1) (8 * m8 (nI (s - 1)) + m8 (nI i))) (nI s) true) (xSt IF (xSt IF A r N (A (rO r + 1) (8 * m8 (nI (s - 1)) + m8 (nI i))) (nI s) true) r N (A (rO r + 1) (8 * m8 (nI (s - 1)) + m8 (nI i))) (nI s) false))
def xK2 (IF : Nat → Nat → Int32) (r N s : Nat) : Nat → Nat → (Nat → Nat → Int32) → Nat → Nat → Int32
  | 0, _, A => A
  | n + 1, i, A => xK2 IF r N s n (i + 1) (xSt IF A r N (A (rO r + 1) (8 * m8 (nI s) + m8 (nI i))) (nI s) false)
/-- one station; m: how many depart behind a siding -/
def xK (IF : Nat → Nat → Int32) (r N M m s : Nat) (A : Nat → Nat → Int32) : Nat → Nat → Int32 := cond (xs IF 8 (nI s)) (xK2 IF r N s m 0 (xK1 IF r N s true M 0 A)) (xK1 IF r N s false M 0 A)
/-- with no station left behind this one nobody departs -/
def xLn : Nat → Nat → Nat
  | 0, _ => 0
  | _ + 1, M => M
def xCo (IF : Nat → Nat → Int32) (r N M : Nat) : Nat → Nat → (Nat → Nat → Int32) → Nat → Nat → Int32
  | 0, _, A => A
  | n + 1, s, A => xCo IF r N M n (s + 1) (xK IF r N M (xLn n M) s A)
theorem zmx_pred {s : Nat} (h : s < 2 ^ 31) : zmx (nI s - 1) 0 = nI (s - 1) := by
  cases s with
  | zero => decide
  | succ s =>
    rw [nI_pred, Nat.add_sub_cancel]
    unfold zmx
    rw [if_neg (nI_pos (by omega))]
/-- branches on the number of segments -/
theorem nI_m1 {a : Nat} (ha : a < 2 ^ 31) : (nI 0 - 1).toInt < (nI a).toInt := by
  rw [nI_toInt ha, show (nI 0 - 1).toInt = -1 by decide +kernel]; omega
theorem zb_gtp {x z : Int32} {a b : Nat} {P N : Prop} (hx : x = nI a) (hz : z = nI b - 1) (ha : a < 2 ^ 31) (hb : b < 2 ^ 31) (hp : b ≤ a → P) (hn : a < b → N) : (zcd .gt x z → P) ∧ (zcx .gt x z → N) := by
  cases b with
  | zero =>
    have hlt : z < x := by rw [hx, hz, Int32.lt_iff_toInt_lt]; exact nI_m1 ha
    exact ⟨fun _ => hp (Nat.zero_le _), fun h => False.elim ((show ¬ z < x from h) hlt)⟩
  | succ b =>
    rw [nI_pred] at hz
    exact zb_gt hx hz ha (by omega) (fun h => hp (by omega)) (fun h => hn (by omega))
theorem zb_gep {x z : Int32} {a b : Nat} {P N : Prop} (hx : x = nI a) (hz : z = nI b - 1) (ha : a < 2 ^ 31) (hb : b < 2 ^ 31) (hp : b ≤ a + 1 → P) (hn : a + 1 < b → N) : (zcd .ge x z → P) ∧ (zcx .ge x z → N) := by
  cases b with
  | zero =>
    have hle : z ≤ x := by rw [hx, hz, Int32.le_iff_toInt_le]; exact Int.le_of_lt (nI_m1 ha)
    exact ⟨fun _ => hp (Nat.zero_le _), fun h => False.elim ((show ¬ z ≤ x from h) hle)⟩
  | succ b =>
    rw [nI_pred] at hz
    exact zb_ge hx hz ha (by omega) (fun h => hp (by omega)) (fun h => hn (by omega))
section
variable {ε : Nat × (Nat → Int32)} {d : Nat} {Q : zQ} {o ot it : Value} {IF : Nat → Nat → Int32} {AL : Nat → Nat → Int64} {AD : Nat → Nat → UInt64} {r N M : Nat}
theorem cl_k1 (hr : rOk r) (hN : IF 8 2 = nI N) (hN8 : N ≤ 8) (hM : IF 8 1 = nI M) (hM8 : M ≤ 8) {s : Nat} {sd : Bool} {g : Int32} : ∀ (n i : Nat) (A : Nat → Nat → Int32) (c : Int32), i + n = M → c = nI i → (∀ c', zW ε false (d + 5) 45 89 [(0, .ref r), (1, .int g), (2, .int (nI s)), (3, .int (nI (s - 1))), (4, .int (zbo sd)), (5, .int c')] [] (zM o ot it IF (xK1 IF r N s sd n i A) AL AD) 0 0 Q) → zW ε false (d + 5) 45 38 [(0, .ref r), (1, .int g), (2, .int (nI s)), (3, .int (nI (s - 1))), (4, .int (zbo sd)), (5, .int c)] [] (zM o ot it IF A AL AD) 0 0 Q := by
  have hr0 := hr
  intro n
  induction n with
  | zero =>
    intro i A c hi hc hq
    rcases hr with rfl | rfl | rfl
    all_goals
      refine zrun 5 (zb_ge hc hM (by omega) (by omega) (fun _ => ?_) (fun h => absurd h (by omega)))
      exact hq c
  | succ n ih =>
    intro i A c hi hc hq
    subst hc
    have next := fun A' h => ih (i + 1) A' (nI i + 1) (by omega) (nI_1 i) h
    rcases hr with rfl | rfl | rfl
    all_goals
      refine zrun 5 (zb_ge rfl hM (by omega) (by omega) (fun h => absurd h (by omega)) (fun _ => ?_))
      refine zrun 5 ⟨⟨Nat.zero_le _, Nat.zero_le _, rfl⟩, ?_⟩
      refine c_at (by decide) ⟨rfl, ?_⟩
      refine zrun 1 (zloc [(0, _), (1, _), (2, _), (3, _), (4, _), (5, _), (6, _)] rfl ?_)
      refine zrun 5 ⟨⟨Nat.zero_le _, Nat.zero_le _, rfl⟩, ?_⟩
      refine c_settle hr0 hN hN8 (b := true) rfl ⟨rfl, ?_⟩
      refine zrun 2 (zb_t rfl (fun h1 => ?_) (fun h1 => ?_))
      · refine zrun 2 (zfg [0, 1, 2, 3, 4, 5] ?_)
        refine next _ (fun c' => ?_)
        have q := hq c'
        unfold xK1 at q
        rw [h1] at q ⊢
        exact q
      · refine zrun 5 ⟨⟨Nat.zero_le _, Nat.zero_le _, rfl⟩, ?_⟩
        refine c_settle hr0 hN hN8 (b := false) rfl ⟨rfl, ?_⟩
        refine zrun 2 (zfg [0, 1, 2, 3, 4, 5] ?_)
        refine next _ (fun c' => ?_)
        have q := hq c'
        unfold xK1 at q
        rw [h1] at q ⊢
        exact q
theorem cl_k2 (hr : rOk r) (hN : IF 8 2 = nI N) (hN8 : N ≤ 8) (hM : IF 8 1 = nI M) (hM8 : M ≤ 8) {s S : Nat} {g b3 : Int32} (hg : g = nI S - 1) (hS8 : S ≤ 8) (hs : s + 1 < S) : ∀ (n i : Nat) (A : Nat → Nat → Int32) (c : Int32), i + n = M → c = nI i → zW ε false (d + 5) 45 136 [(0, .ref r), (1, .int g), (2, .int (nI s))] [] (zM o ot it IF (xK2 IF r N s n i A) AL AD) 0 0 Q → zW ε false (d + 5) 45 92 [(0, .ref r), (1, .int g), (2, .int (nI s)), (3, .int b3), (4, .int 1), (5, .int c)] [] (zM o ot it IF A AL AD) 0 0 Q := by
  have hr0 := hr
  intro n
  induction n with
  | zero =>
    intro i A c hi hc hq
    rcases hr with rfl | rfl | rfl
    all_goals
      refine zrun 2 (zb_f (b := true) rfl (fun h => Bool.noConfusion h) (fun _ => ?_))
      refine zrun 3 (zb_gep rfl hg (by omega) (by omega) (fun h => absurd h (by omega)) (fun _ => ?_))
      refine zrun 5 (zb_ge hc hM (by omega) (by omega) (fun _ => ?_) (fun h => absurd h (by omega)))
      exact zfg [0, 1, 2] hq
  | succ n ih =>
    intro i A c hi hc hq
    subst hc
    have next := fun A' h => ih (i + 1) A' (nI i + 1) (by omega) (nI_1 i) h
    rcases hr with rfl | rfl | rfl
    all_goals
      refine zrun 2 (zb_f (b := true) rfl (fun h => Bool.noConfusion h) (fun _ => ?_))
      refine zrun 3 (zb_gep rfl hg (by omega) (by omega) (fun h => absurd h (by omega)) (fun _ => ?_))
      refine zrun 5 (zb_ge rfl hM (by omega) (by omega) (fun h => absurd h (by omega)) (fun _ => ?_))
      refine zrun 6 ⟨⟨Nat.zero_le _, Nat.zero_le _, rfl⟩, ?_⟩
      refine c_at (by decide) ⟨rfl, ?_⟩
      refine zrun 3 ⟨⟨Nat.zero_le _, Nat.zero_le _, rfl⟩, ?_⟩
      refine c_settle hr0 hN hN8 (b := false) rfl ⟨rfl, ?_⟩
      exact zrun 2 (next _ hq)
theorem cl_co (hr : rOk r) {S : Nat} {g : Int32} (hg : g = nI S - 1) (hS8 : S ≤ 8) (hN : IF 8 2 = nI N) (hN8 : N ≤ 8) (hM : IF 8 1 = nI M) (hM8 : M ≤ 8) : ∀ (n s : Nat) (A : Nat → Nat → Int32) (c : Int32), s + n = S → c = nI s → Q (.inl none) (zM o ot it IF (xCo IF r N M n s A) AL AD) → zW ε false (d + 5) 45 12 [(0, .ref r), (1, .int g), (2, .int c)] [] (zM o ot it IF A AL AD) 0 0 Q := by
  have hr0 := hr
  intro n
  induction n with
  | zero =>
    intro s A c hi hc hq
    rcases hr with rfl | rfl | rfl
    all_goals
      refine zrun 3 (zb_gtp hc hg (by omega) (by omega) (fun _ => ?_) (fun h => absurd h (by omega)))
      exact zrun 1 hq
  | succ n ih =>
    intro s A c hi hc hq
    subst hc
    have next : zW ε false (d + 5) 45 136 [(0, .ref r), (1, .int g), (2, .int (nI s))] [] (zM o ot it IF (xK IF r N M (xLn n M) s A) AL AD) 0 0 Q := by
      rcases hr with rfl | rfl | rfl
      all_goals exact zrun 2 (ih (s + 1) _ (nI s + 1) (by omega) (nI_1 s) hq)
    have k1 : ∀ (sd : Bool) (c : Int32), xs IF 8 (nI s) = sd → c = nI 0 → zW ε false (d + 5) 45 38 [(0, .ref r), (1, .int g), (2, .int (nI s)), (3, .int (nI (s - 1))), (4, .int (zbo sd)), (5, .int c)] [] (zM o ot it IF A AL AD) 0 0 Q := by
      intro sd c hsd hc
      refine cl_k1 hr0 hN hN8 hM hM8 M 0 A c (by omega) hc (fun c' => ?_)
      unfold xK at next
      rw [hsd] at next
      cases sd with
      | true =>
        refine zrun 2 (zloc [(0, _), (1, _), (2, _), (3, _), (4, _), (5, _)] rfl ?_)
        cases n with
        | zero =>
          rcases hr with rfl | rfl | rfl
          all_goals
            refine zrun 2 (zb_f (b := true) rfl (fun h => Bool.noConfusion h) (fun _ => ?_))
            refine zrun 3 (zb_gep rfl hg (by omega) (by omega) (fun _ => ?_) (fun h => absurd h (by omega)))
            exact zfg [0, 1, 2] next
        | succ n => exact cl_k2 hr0 hN hN8 hM hM8 hg hS8 (by omega) M 0 _ 0 (by omega) nI_0.symm next
      | false =>
        rcases hr with rfl | rfl | rfl
        all_goals
          refine zrun 4 (zb_f (b := false) rfl (fun _ => ?_) (fun h => Bool.noConfusion h))
          exact zfg [0, 1, 2] next
    rcases hr with rfl | rfl | rfl
    all_goals
      refine zrun 3 (zb_gtp rfl hg (by omega) (by omega) (fun h => absurd h (by omega)) (fun _ => ?_))
      refine zrun 5 ⟨Nat.le_of_ble_eq_true rfl, ?_⟩
      refine zrun 1 (zloc [(0, .ref _), (1, .int g), (2, .int (nI s)), (3, .int (zmx (nI s - 1) 0))] rfl ?_)
      rw [zmx_pred (by omega)]
      refine zrun 4 ⟨⟨Nat.zero_le _, Nat.zero_le _, rfl⟩, ?_⟩
      refine c_hasSiding (Or.inr rfl) ⟨rfl, ?_⟩
      refine zrun 3 (zloc [(0, _), (1, _), (2, _), (3, _), (4, _), (5, _)] rfl ?_)
      exact k1 _ 0 rfl nI_0.symm
theorem c_compute (hr : rOk r) {S : Nat} {A : Nat → Nat → Int32} (hS : IF 8 0 = nI S) (hS8 : S ≤ 8) (hN : IF 8 2 = nI N) (hN8 : N ≤ 8) (hM : IF 8 1 = nI M) (hM8 : M ≤ 8) (hq : Q (.inl none) (zM o ot it IF (xCo IF r N M S 0 A) AL AD)) : zW ε false (d + 5) 45 0 [(0, .ref r)] [] (zM o ot it IF A AL AD) 0 0 Q := by
  have hr0 := hr
  have hg : IF 8 0 - 1 = nI S - 1 := by rw [hS]
  rcases hr with rfl | rfl | rfl
  all_goals
    refine zrun 8 (zloc [(0, .ref _), (1, .int (IF 8 0 - 1)), (2, .int 0)] rfl ?_)
    exact cl_co hr0 hg hS8 hN hN8 hM hM8 S 0 A 0 (by omega) nI_0.symm hq
end
