/-! the class: what the calls require -/
/-- a number below n -/
def zIn (n : Nat) (x : Int32) : Prop := ∃ t : Nat, t < n ∧ x = nI t
theorem zIn_not {n : Nat} (hn : n < 2 ^ 31) {x : Int32} (h : x < 0 ∨ nI n ≤ x) : ¬ zIn n x := by
  rintro ⟨t, ht, rfl⟩
  rcases h with h | h
  · exact nI_pos (by omega) h
  · exact absurd ((nI_leI hn (by omega)).mp h) (by omega)
theorem zIn_of {n : Nat} (hn : n < 2 ^ 31) {x : Int32} (h0 : ¬ x < 0) (h : x < nI n) : zIn n x := by
  rcases pk_ix x hn with q | q | q
  · exact absurd q h0
  · exact absurd h (fun z => by
      rw [Int32.lt_iff_toInt_lt] at z
      rw [Int32.le_iff_toInt_le] at q
      omega)
  · exact q
theorem i32_nlt {x y : Int32} (h : ¬ x < y) : y ≤ x := by
  rw [Int32.lt_iff_toInt_lt] at h
  rw [Int32.le_iff_toInt_le]
  omega
theorem i32_nle {x y : Int32} (h : ¬ x ≤ y) : y < x := by
  rw [Int32.le_iff_toInt_le] at h
  rw [Int32.lt_iff_toInt_lt]
  omega
section
variable {ε : Nat × (Nat → Int32)} {d : Nat} {Q : zQ} {o ot it : Value} {IF A : Nat → Nat → Int32} {AL : Nat → Nat → Int64} {AD : Nat → Nat → UInt64} {S M : Nat}
theorem c_reqTrain (hM : IF 8 1 = nI M) (hM8 : M ≤ 8) {x : Int32} (h1 : zIn M x → Q (.inl none) (zM o ot it IF A AL AD)) (h2 : ¬ zIn M x → Q (.inr 2) (zM o ot it IF A AL AD)) : zW ε false d 110 0 [(0, .ref 0), (1, .int x)] [] (zM o ot it IF A AL AD) 0 0 Q := by
  refine zrun 2 ⟨fun g => ?_, fun g => ?_⟩
  · exact zrun 1 ⟨⟨Nat.le_of_ble_eq_true rfl, Nat.le_of_ble_eq_true rfl, Nat.le_of_ble_eq_true rfl⟩, h2 (zIn_not (by omega) (Or.inl g))⟩
  · refine zrun 5 ⟨fun g2 => ?_, fun g2 => ?_⟩
    · have g3 : x < IF 8 1 := g2
      rw [hM] at g3
      exact zrun 1 (h1 (zIn_of (by omega) g g3))
    · have g3 : ¬ x < IF 8 1 := g2
      rw [hM] at g3
      exact zrun 1 ⟨⟨Nat.le_of_ble_eq_true rfl, Nat.le_of_ble_eq_true rfl, Nat.le_of_ble_eq_true rfl⟩, h2 (zIn_not (by omega) (Or.inr (i32_nlt g3)))⟩
theorem c_reqStation (hS : IF 8 0 = nI S) (hS8 : S ≤ 8) {x : Int32} (h1 : zIn S x → Q (.inl none) (zM o ot it IF A AL AD)) (h2 : ¬ zIn S x → Q (.inr 2) (zM o ot it IF A AL AD)) : zW ε false d 111 0 [(0, .ref 0), (1, .int x)] [] (zM o ot it IF A AL AD) 0 0 Q := by
  refine zrun 2 ⟨fun g => ?_, fun g => ?_⟩
  · exact zrun 1 ⟨⟨Nat.le_of_ble_eq_true rfl, Nat.le_of_ble_eq_true rfl, Nat.le_of_ble_eq_true rfl⟩, h2 (zIn_not (by omega) (Or.inl g))⟩
  · refine zrun 5 ⟨fun g2 => ?_, fun g2 => ?_⟩
    · have g3 : x < IF 8 0 := g2
      rw [hS] at g3
      exact zrun 1 (h1 (zIn_of (by omega) g g3))
    · have g3 : ¬ x < IF 8 0 := g2
      rw [hS] at g3
      exact zrun 1 ⟨⟨Nat.le_of_ble_eq_true rfl, Nat.le_of_ble_eq_true rfl, Nat.le_of_ble_eq_true rfl⟩, h2 (zIn_not (by omega) (Or.inr (i32_nlt g3)))⟩
theorem c_reqEvent (hS : IF 8 0 = nI S) (hS8 : S ≤ 8) (hM : IF 8 1 = nI M) (hM8 : M ≤ 8) {x z v : Int32} {b : Bool} (hv : v = zbo b) (h1 : zIn M x → zIn S z → xe A 8 x z b = true → Q (.inl none) (zM o ot it IF A AL AD)) (h2 : ¬ zIn M x ∨ ¬ zIn S z → Q (.inr 2) (zM o ot it IF A AL AD)) (h3 : zIn M x → zIn S z → xe A 8 x z b = false → Q (.inr 3) (zM o ot it IF A AL AD)) : zW ε false (d + 4) 112 0 [(0, .ref 0), (1, .int x), (2, .int z), (3, .int v)] [] (zM o ot it IF A AL AD) 0 0 Q := by
  refine zrun 3 ⟨⟨Nat.le_of_ble_eq_true rfl, Nat.le_of_ble_eq_true rfl, rfl⟩, ?_⟩
  refine c_reqTrain hM hM8 (fun gx => ⟨rfl, ?_⟩) (fun g => ⟨⟨rfl, rfl⟩, h2 (Or.inl g)⟩)
  refine zrun 3 ⟨⟨Nat.le_of_ble_eq_true rfl, Nat.le_of_ble_eq_true rfl, rfl⟩, ?_⟩
  refine c_reqStation hS hS8 (fun gz => ⟨rfl, ?_⟩) (fun g => ⟨⟨rfl, rfl⟩, h2 (Or.inr g)⟩)
  refine zrun 6 ⟨⟨Nat.le_of_ble_eq_true rfl, Nat.le_of_ble_eq_true rfl, rfl⟩, ?_⟩
  refine c_hasEvent hv ⟨rfl, ?_⟩
  refine zrun 1 (zb_t rfl (fun g => ?_) (fun g => ?_))
  · exact zrun 1 (h1 gx gz g)
  · exact zrun 1 ⟨⟨Nat.le_of_ble_eq_true rfl, Nat.le_of_ble_eq_true rfl, Nat.le_of_ble_eq_true rfl⟩, h3 gx gz g⟩
theorem c_reqRun (hM : IF 8 1 = nI M) (hM8 : M ≤ 8) {x z : Int32} (h1 : zIn M x → xd A 8 x z = true → Q (.inl none) (zM o ot it IF A AL AD)) (h2 : ¬ zIn M x ∨ xd A 8 x z = false → Q (.inr 2) (zM o ot it IF A AL AD)) : zW ε false (d + 3) 113 0 [(0, .ref 0), (1, .int x), (2, .int z)] [] (zM o ot it IF A AL AD) 0 0 Q := by
  refine zrun 3 ⟨⟨Nat.le_of_ble_eq_true rfl, Nat.le_of_ble_eq_true rfl, rfl⟩, ?_⟩
  refine c_reqTrain hM hM8 (fun gx => ⟨rfl, ?_⟩) (fun g => ⟨⟨rfl, rfl⟩, h2 (Or.inl g)⟩)
  refine zrun 5 ⟨⟨Nat.le_of_ble_eq_true rfl, Nat.le_of_ble_eq_true rfl, rfl⟩, ?_⟩
  refine c_departs (Or.inr rfl) ⟨rfl, ?_⟩
  refine zrun 1 (zb_t rfl (fun g => ?_) (fun g => ?_))
  · exact zrun 1 (h1 gx g)
  · exact zrun 1 ⟨⟨Nat.le_of_ble_eq_true rfl, Nat.le_of_ble_eq_true rfl, Nat.le_of_ble_eq_true rfl⟩, h2 (Or.inr g)⟩
theorem c_reqDist (hM : IF 8 1 = nI M) (hM8 : M ≤ 8) {x z : Int32} (h1 : zIn M x → zIn 6 z → Q (.inl none) (zM o ot it IF A AL AD)) (h2 : ¬ zIn M x → Q (.inr 2) (zM o ot it IF A AL AD)) (h3 : zIn M x → ¬ zIn 6 z → Q (.inr 1) (zM o ot it IF A AL AD)) : zW ε false (d + 1) 115 0 [(0, .ref 0), (1, .int x), (2, .int z)] [] (zM o ot it IF A AL AD) 0 0 Q := by
  refine zrun 3 ⟨⟨Nat.le_of_ble_eq_true rfl, Nat.le_of_ble_eq_true rfl, rfl⟩, ?_⟩
  refine c_reqTrain hM hM8 (fun gx => ⟨rfl, ?_⟩) (fun g => ⟨⟨rfl, rfl⟩, h2 g⟩)
  refine zrun 2 ⟨fun g => ?_, fun g => ?_⟩
  · exact zrun 1 ⟨⟨Nat.le_of_ble_eq_true rfl, Nat.le_of_ble_eq_true rfl, Nat.le_of_ble_eq_true rfl⟩, h3 gx (zIn_not (by omega) (Or.inl g))⟩
  · refine zrun 3 ⟨fun g2 => ?_, fun g2 => ?_⟩
    · refine zrun 1 (h1 gx (zIn_of (by omega) g ?_))
      have g3 : z ≤ 5 := g2
      rw [Int32.le_iff_toInt_le] at g3
      rw [Int32.lt_iff_toInt_lt]
      exact Int.lt_of_le_of_lt g3 (by decide)
    · refine zrun 1 ⟨⟨Nat.le_of_ble_eq_true rfl, Nat.le_of_ble_eq_true rfl, Nat.le_of_ble_eq_true rfl⟩, h3 gx (zIn_not (by omega) (Or.inr ?_))⟩
      have g3 : ¬ z ≤ 5 := g2
      rw [Int32.le_iff_toInt_le] at g3
      rw [Int32.le_iff_toInt_le]
      have e5 : (5 : Int32).toInt = 5 := by decide
      have e6 : (nI 6).toInt = 6 := by decide
      omega
theorem c_reqOver {k : Nat} (hk : kOk k) (hS : IF 8 0 = nI S) (hS2 : 2 ≤ S) (hS8 : S ≤ 8) (hM : IF 8 1 = nI M) (hM8 : M ≤ 8) {x a b : Int32} (h1 : ∀ s, s < S - 1 → x = nI s → zIn M a → zIn M b → (xs IF 8 (nI s) && xcp A k M a b (S - 1 - s) s) = true → Q (.inl none) (zM o ot it IF A AL AD)) (h2 : ¬ zIn (S - 1) x ∨ ¬ zIn M a ∨ ¬ zIn M b → Q (.inr 2) (zM o ot it IF A AL AD)) (h3 : ∀ s, s < S - 1 → x = nI s → zIn M a → zIn M b → (xs IF 8 (nI s) && xcp A k M a b (S - 1 - s) s) = false → Q (.inr 0) (zM o ot it IF A AL AD)) : zW ε false (d + 4) 114 0 [(0, .ref 0), (1, .ref k), (2, .int x), (3, .int a), (4, .int b)] [] (zM o ot it IF A AL AD) 0 0 Q := by
  have hS' := zpred hS (by omega)
  refine zrun 3 ⟨⟨Nat.le_of_ble_eq_true rfl, Nat.le_of_ble_eq_true rfl, rfl⟩, ?_⟩
  refine c_reqStation hS hS8 (fun gx => ⟨rfl, ?_⟩) (fun g => ⟨⟨rfl, rfl⟩, h2 (Or.inl (fun q => g ?_))⟩)
  · obtain ⟨s, hs, rfl⟩ := gx
    refine zrun 7 (zb_ne rfl hS' (by omega) (by omega) (fun g => ?_) (fun g => ?_))
    · refine zrun 3 ⟨⟨Nat.le_of_ble_eq_true rfl, Nat.le_of_ble_eq_true rfl, rfl⟩, ?_⟩
      refine c_reqTrain hM hM8 (fun ga => ⟨rfl, ?_⟩) (fun g => ⟨⟨rfl, rfl⟩, h2 (Or.inr (Or.inl g))⟩)
      refine zrun 3 ⟨⟨Nat.le_of_ble_eq_true rfl, Nat.le_of_ble_eq_true rfl, rfl⟩, ?_⟩
      refine c_reqTrain hM hM8 (fun gb => ⟨rfl, ?_⟩) (fun g => ⟨⟨rfl, rfl⟩, h2 (Or.inr (Or.inr g))⟩)
      have hM1 : 1 ≤ M := by obtain ⟨t, ht, -⟩ := ga; omega
      have q1 := h1 s (by omega) rfl ga gb
      have q3 := h3 s (by omega) rfl ga gb
      have hk0 := hk
      rcases hk with rfl | rfl
      all_goals
        refine zrun 5 ⟨⟨Nat.le_of_ble_eq_true rfl, Nat.le_of_ble_eq_true rfl, rfl⟩, ?_⟩
        refine c_cp hk0 hS (by omega) hS8 hM hM1 hM8 (by omega) ⟨rfl, ?_⟩
        refine zrun 1 (zb_t rfl (fun g => ?_) (fun g => ?_))
        · exact zrun 1 (q1 g)
        · exact zrun 1 ⟨⟨Nat.le_of_ble_eq_true rfl, Nat.le_of_ble_eq_true rfl, Nat.le_of_ble_eq_true rfl⟩, q3 g⟩
    · refine zrun 1 ⟨⟨Nat.le_of_ble_eq_true rfl, Nat.le_of_ble_eq_true rfl, Nat.le_of_ble_eq_true rfl⟩, h2 (Or.inl ?_)⟩
      exact zIn_not (by omega) (Or.inr (by rw [g]; exact nI_le (Nat.le_refl _) (by omega)))
  · obtain ⟨s, hs, rfl⟩ := q
    exact ⟨s, by omega, rfl⟩
end
