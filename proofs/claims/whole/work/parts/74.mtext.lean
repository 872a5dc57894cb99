/-! the reference: append, truncate, errors told -/
def mwd (a b c e f : Int32) (k : Nat) : Int32 := if k < 4 then a else if k < 8 then b else if k < 12 then c else if k < 16 then e else f
def mby (a b c e f : Int32) (k : Nat) : Int32 := (mwd a b c e f k >>> (nI (24 - 8 * (k % 4)) &&& 31)) &&& 255
section
variable {ε : Nat × (Nat → Int32)} {d : Nat} {Q : zQ} {o ot it : Value} {IF A : Nat → Nat → Int32} {AL : Nat → Nat → Int64} {AD : Nat → Nat → UInt64}
theorem cl_mapp {a b c e f : Int32} {n : Nat} (hn : IF 32 11 = nI n) (hn5 : n + 20 ≤ 500) (hq : Q (.inl (some (.int (nI (n + 20))))) (zM o ot it (yU 32 11 (nI (n + 20)) IF) (va_up A 41 (cpo n 20 (mby a b c e f) (A 41))) AL AD)) : ∀ (m k : Nat) (i : Int32), k + m = 20 → i = nI k → zW ε false d 137 36 [(0, .ref 32), (1, .int a), (2, .int b), (3, .int c), (4, .int e), (5, .int f), (6, .int i)] [] (zM o ot it IF (va_up A 41 (cpo n k (mby a b c e f) (A 41))) AL AD) 0 0 Q := by
  intro m
  induction m with
  | zero =>
    intro k i hk hi
    have e20 : k = 20 := (by omega)
    subst e20
    have ea : IF 32 11 + 20 = nI (n + 20) := by rw [hn, show (20 : Int32) = nI 20 from rfl, nI_add]
    rw [← ea] at hq
    refine zrun 3 (zb_ge (b := 20) hi rfl (by omega) (by omega) (fun _ => ?_) (fun q => absurd q (by omega)))
    exact zrun 9 (hq)
  | succ m ih =>
    intro k i hk hi
    subst hi
    have er : (nI k - nI k / 4 * 4 : Int32) = nI (k % 4) := by rw [show (4 : Int32) = nI 4 from rfl, pk_rem (by omega) (by omega) (by omega)]
    have es : (24 - 8 * (nI k - nI k / 4 * 4) : Int32) = nI (24 - 8 * (k % 4)) := by rw [er, show (8 : Int32) = nI 8 from rfl, show (24 : Int32) = nI 24 from rfl, pk_mul, pk_sub (by omega)]
    have st : ∀ w : Int32, w = mwd a b c e f k → zW ε false d 137 89 [(0, .ref 32), (1, .int a), (2, .int b), (3, .int c), (4, .int e), (5, .int f), (6, .int (nI k))] [.int w] (zM o ot it IF (va_up A 41 (cpo n k (mby a b c e f) (A 41))) AL AD) 0 0 Q := by
      intro w hw
      refine zrun 13 ⟨by decide, ?_⟩
      refine zrun 5 ?_
      refine zW_isto (b := n) (n := k) (f := mby a b c e f) rfl rfl (show IF 32 11 + nI k = _ by rw [hn, nI_add]) (by omega) (by decide) (show (w >>> ((24 - 8 * (nI k - nI k / 4 * 4)) &&& 31)) &&& 255 = _ by rw [es, hw]; rfl) ?_
      exact zrun 2 (zfg [0, 1, 2, 3, 4, 5, 6] (zloc [(0, _), (1, _), (2, _), (3, _), (4, _), (5, _), (6, _)] rfl (ih (k + 1) (nI k + 1) (by omega) (nI_1 k))))
    refine zrun 3 (zb_ge (b := 20) rfl rfl (by omega) (by omega) (fun q => absurd q (by omega)) (fun _ => ?_))
    refine zrun 3 (zb_ge (b := 4) rfl rfl (by omega) (by omega) (fun g1 => ?_) (fun g1 => ?_))
    · refine zrun 3 (zb_ge (b := 8) rfl rfl (by omega) (by omega) (fun g2 => ?_) (fun g2 => ?_))
      · refine zrun 3 (zb_ge (b := 12) rfl rfl (by omega) (by omega) (fun g3 => ?_) (fun g3 => ?_))
        · refine zrun 3 (zb_ge (b := 16) rfl rfl (by omega) (by omega) (fun g4 => ?_) (fun g4 => ?_))
          · exact zrun 1 (st _ (by unfold mwd; rw [if_neg (by omega), if_neg (by omega), if_neg (by omega), if_neg (by omega)]))
          · exact zrun 2 (st _ (by unfold mwd; rw [if_neg (by omega), if_neg (by omega), if_neg (by omega), if_pos g4]))
        · exact zrun 2 (st _ (by unfold mwd; rw [if_neg (by omega), if_neg (by omega), if_pos g3]))
      · exact zrun 2 (st _ (by unfold mwd; rw [if_neg (by omega), if_pos g2]))
    · exact zrun 2 (st _ (by unfold mwd; rw [if_pos g1]))
theorem c_mappend {a b c e f : Int32} {n : Nat} (hn : IF 32 11 = nI n) (hn5 : n ≤ 500) (h1 : n ≤ 480 → Q (.inl (some (.int (nI (n + 20))))) (zM o ot it (yU 32 11 (nI (n + 20)) (yU 32 0 0 IF)) (va_up A 41 (cpo n 20 (mby a b c e f) (A 41))) AL AD)) (h2 : 480 < n → Q (.inl (some (.int 0))) (zM o ot it (yU 32 0 1 IF) A AL AD)) : zW ε false (d + 1) 137 0 [(0, .ref 32), (1, .int a), (2, .int b), (3, .int c), (4, .int e), (5, .int f)] [] (zM o ot it IF A AL AD) 0 0 Q := by
  refine zrun 10 (zb_gt (b := 500) (show IF 32 11 + 20 = _ by rw [hn, show (20 : Int32) = nI 20 from rfl, nI_add]) rfl (by omega) (by omega) (fun g => ?_) (fun g => ?_))
  · refine zrun 3 ⟨⟨Nat.le_of_ble_eq_true rfl, Nat.le_of_ble_eq_true rfl, rfl⟩, ?_⟩
    refine c_may0 (IF := IF) (b := false) (by decide) rfl (fun q => Bool.noConfusion q) (fun _ => ⟨rfl, ?_⟩)
    refine zrun 1 (zb_t (b := false) rfl (fun q => Bool.noConfusion q) (fun _ => ?_))
    exact zrun 2 (h2 (by omega))
  · refine zrun 4 ⟨⟨Nat.le_of_ble_eq_true rfl, Nat.le_of_ble_eq_true rfl, rfl⟩, ?_⟩
    refine c_may0 (IF := IF) (b := true) (by decide) rfl (fun _ => ⟨rfl, ?_⟩) (fun q => Bool.noConfusion q)
    refine zrun 1 (zb_t (b := true) rfl (fun _ => ?_) (fun q => Bool.noConfusion q))
    exact zrun 2 (zloc [(0, _), (1, _), (2, _), (3, _), (4, _), (5, _), (6, _)] rfl ((by have q := cl_mapp (ε := ε) (d := d + 1) (Q := Q) (o := o) (ot := ot) (it := it) (IF := yU 32 0 0 IF) (A := A) (AL := AL) (AD := AD) hn (by omega) (h1 (by omega)) 20 0 0 (by omega) nI_0.symm; rw [cpo_0, vu_id] at q; exact q)))
theorem c_mtruncate {x : Int32} {n : Nat} (hn : IF 32 11 = nI n) (hn5 : n ≤ 500) (h1 : zIn (n + 1) x → Q (.inl (some (.int x))) (zM o ot it (yU 32 11 x (yU 32 0 0 IF)) A AL AD)) (h2 : ¬ zIn (n + 1) x → Q (.inl (some (.int 0))) (zM o ot it (yU 32 0 1 IF) A AL AD)) : zW ε false (d + 1) 138 0 [(0, .ref 32), (1, .int x)] [] (zM o ot it IF A AL AD) 0 0 Q := by
  have hz : ∀ x : Int32, (¬ x < 0 ∧ ¬ IF 32 11 < x) ↔ zIn (n + 1) x := fun x => by rw [hn]; exact zIn_c (by omega)
  refine zrun 9 ⟨⟨Nat.le_of_ble_eq_true rfl, Nat.le_of_ble_eq_true rfl, rfl⟩, ?_⟩
  refine c_isIn (fun v hv => ⟨rfl, ?_⟩)
  refine zrun 2 ⟨⟨Nat.le_of_ble_eq_true rfl, Nat.le_of_ble_eq_true rfl, rfl⟩, ?_⟩
  refine c_may0 (IF := IF) (by decide) rfl (fun b => ⟨rfl, ?_⟩) (fun b => ⟨rfl, ?_⟩)
  · refine zrun 1 (zb_t (b := true) rfl (fun _ => ?_) (fun q => Bool.noConfusion q))
    exact zrun 5 (h1 ((hz _).mp (hv.mp b)))
  · refine zrun 1 (zb_t (b := false) rfl (fun q => Bool.noConfusion q) (fun _ => ?_))
    exact zrun 2 (h2 (fun q => by rw [hv.mpr ((hz _).mpr q)] at b; exact Bool.noConfusion b))
theorem c_merrorCode (hq : Q (.inl (some (.int (IF 32 17)))) (zM o ot it (yU 32 0 0 IF) A AL AD)) : zW ε false d 156 0 [(0, .ref 32)] [] (zM o ot it IF A AL AD) 0 0 Q := by
  exact zrun 6 (hq)
theorem c_merrorPosition (hq : Q (.inl (some (.int (IF 32 18)))) (zM o ot it (yU 32 0 0 IF) A AL AD)) : zW ε false d 157 0 [(0, .ref 32)] [] (zM o ot it IF A AL AD) 0 0 Q := by
  exact zrun 6 (hq)
end
