/-! the class: leastDelay, distribute, bitCount, speed, punctuality -/
def xlD (IF : Nat → Nat → Int32) (N M S : Nat) (x w : Int32) (f g : Nat) (A : Nat → Nat → Int32) : zG := xfl IF N M S x f g w (xts x f g (g - f) 0 A)
def xcc (IF : Nat → Nat → Int32) (N M S : Nat) (A : Nat → Nat → Int32) : Nat → Nat → Int32 := xCo IF 22 N M S 0 (xCo IF 18 N M S 0 A)
def xus (x s : Int32) : Int32 := (x.toUInt32 >>> (s.toUInt32 &&& Int32.toUInt32 31)).toInt32
def xbc1 (x : Int32) : Int32 := x - (xus x 1 &&& 0x55555555)
def xbc2 (x : Int32) : Int32 := (x &&& 0x33333333) + (xus x 2 &&& 0x33333333)
def xbc3 (x : Int32) : Int32 := (x + xus x 4) &&& 0x0f0f0f0f
def xbc4 (x : Int32) : Int32 := x + xus x 8
def xbc5 (x : Int32) : Int32 := x + xus x 16
def xbc (x : Int32) : Int32 := xbc5 (xbc4 (xbc3 (xbc2 (xbc1 x)))) &&& 63
/-- minutes and speed -/
def xmn (A : Nat → Nat → Int32) (x : Int32) : Int32 := A 20 (xev x (xo A 8 x 1) true) - A 20 (xev x (xo A 8 x 0) false)
def xpu (A : Nat → Nat → Int32) (M : Nat) (th : Int32) : Int32 := nI M - xbc (xls A 22 th M 0 0)
section
variable {ε : Nat × (Nat → Int32)} {d : Nat} {Q : zQ} {o ot it : Value} {IF A : Nat → Nat → Int32} {AL : Nat → Nat → Int64} {AD : Nat → Nat → UInt64} {S M N : Nat}
theorem c_leastDelay (hS : IF 8 0 = nI S) (hS2 : 2 ≤ S) (hS8 : S ≤ 8) (hM : IF 8 1 = nI M) (hM8 : M ≤ 8) (hN : IF 8 2 = nI N) (hN8 : N ≤ 8) {x w : Int32} (hT : zIn M x → ∃ f g, xo A 8 x 0 = nI f ∧ xo A 8 x 1 = nI g ∧ f < g ∧ g < 8) (h1 : ∀ f g, xo A 8 x 0 = nI f → xo A 8 x 1 = nI g → f < g → g < 8 → zIn M x → zIn 6 w → Q (.inl (some (.int (xlD IF N M S x w f g A).2.1))) (zM o ot it (xlI IF f g) (xcc (xlI IF f g) N M S (xps x f g 31 (g - f) 0 (xlD IF N M S x w f g A).1)) AL AD)) (h2 : ¬ zIn M x → Q (.inr 2) (zM o ot it IF A AL AD)) (h3 : zIn M x → ¬ zIn 6 w → Q (.inr 1) (zM o ot it IF A AL AD)) : zW ε false (d + 7) 108 0 [(0, .ref 0), (1, .int x), (2, .int w)] [] (zM o ot it IF A AL AD) 0 0 Q := by
  refine zrun 4 ⟨⟨Nat.le_of_ble_eq_true rfl, Nat.le_of_ble_eq_true rfl, rfl⟩, ?_⟩
  refine c_reqDist hM hM8 (fun gx gw => ⟨rfl, ?_⟩) (fun g => ⟨⟨rfl, rfl⟩, h2 g⟩) (fun gx gw => ⟨⟨rfl, rfl⟩, h3 gx gw⟩)
  obtain ⟨f, g, hF, hL, hfg, hg8⟩ := hT gx
  have q := h1 f g hF hL hfg hg8 gx gw
  have a10 : (xts x f g (g - f) 0 A) 10 = A 10 := xts_10 _ _ _
  have b10 : (xlD IF N M S x w f g A).1 10 = A 10 := xfl_10.trans a10
  have hS' : xlI IF f g 8 0 = nI S := hS
  have hM' : xlI IF f g 8 1 = nI M := hM
  have hN' : xlI IF f g 8 2 = nI N := hN
  refine zrun 6 ⟨⟨Nat.le_of_ble_eq_true rfl, Nat.le_of_ble_eq_true rfl, rfl⟩, ?_⟩
  refine c_take hF hL hfg hg8 ⟨rfl, ?_⟩
  refine zrun 4 ⟨⟨Nat.le_of_ble_eq_true rfl, Nat.le_of_ble_eq_true rfl, rfl⟩, ?_⟩
  refine c_findLeast hS hS2 hS8 hM hM8 hN hN8 (f := f) (g := g) ?_ ?_ hfg hg8 ⟨rfl, ?_⟩
  · show xts x f g (g - f) 0 A 10 _ = _
    rw [a10]; exact hF
  · show xts x f g (g - f) 0 A 10 _ = _
    rw [a10]; exact hL
  refine zrun 1 (zloc [(0, _), (1, _), (2, _), (3, _)] rfl ?_)
  refine zrun 6 ⟨⟨Nat.le_of_ble_eq_true rfl, Nat.le_of_ble_eq_true rfl, rfl⟩, ?_⟩
  refine c_put (IF := xlI IF f g) (p := 31) (Or.inr (Or.inr rfl)) (f := f) (g := g) ?_ ?_ hfg hg8 ⟨rfl, ?_⟩
  · show (xlD IF N M S x w f g A).1 10 _ = _
    rw [b10]; exact hF
  · show (xlD IF N M S x w f g A).1 10 _ = _
    rw [b10]; exact hL
  refine zrun 3 ⟨⟨Nat.le_of_ble_eq_true rfl, Nat.le_of_ble_eq_true rfl, rfl⟩, ?_⟩
  refine c_compute (IF := xlI IF f g) (r := 18) (Or.inl rfl) hS' hS8 hN' hN8 hM' hM8 ⟨rfl, ?_⟩
  refine zrun 3 ⟨⟨Nat.le_of_ble_eq_true rfl, Nat.le_of_ble_eq_true rfl, rfl⟩, ?_⟩
  refine c_compute (IF := xlI IF f g) (r := 22) (Or.inr (Or.inl rfl)) hS' hS8 hN' hN8 hM' hM8 ⟨rfl, ?_⟩
  exact zrun 2 q
theorem c_distribute (hS : IF 8 0 = nI S) (hS2 : 2 ≤ S) (hS8 : S ≤ 8) (hM : IF 8 1 = nI M) (hM8 : M ≤ 8) (hN : IF 8 2 = nI N) (hN8 : N ≤ 8) {x w : Int32} (hT : zIn M x → ∃ f g, xo A 8 x 0 = nI f ∧ xo A 8 x 1 = nI g ∧ f < g ∧ g < 8) (h1 : ∀ f g, xo A 8 x 0 = nI f → xo A 8 x 1 = nI g → f < g → g < 8 → zIn M x → zIn 6 w → Q (.inl (some (.int (xfl IF N M S x f g w A).2.1))) (zM o ot it (xlI IF f g) (xcc (xlI IF f g) N M S (xps x f g 30 (g - f) 0 (xfl IF N M S x f g w A).1)) AL AD)) (h2 : ¬ zIn M x → Q (.inr 2) (zM o ot it IF A AL AD)) (h3 : zIn M x → ¬ zIn 6 w → Q (.inr 1) (zM o ot it IF A AL AD)) : zW ε false (d + 7) 109 0 [(0, .ref 0), (1, .int x), (2, .int w)] [] (zM o ot it IF A AL AD) 0 0 Q := by
  refine zrun 4 ⟨⟨Nat.le_of_ble_eq_true rfl, Nat.le_of_ble_eq_true rfl, rfl⟩, ?_⟩
  refine c_reqDist hM hM8 (fun gx gw => ⟨rfl, ?_⟩) (fun g => ⟨⟨rfl, rfl⟩, h2 g⟩) (fun gx gw => ⟨⟨rfl, rfl⟩, h3 gx gw⟩)
  obtain ⟨f, g, hF, hL, hfg, hg8⟩ := hT gx
  have q := h1 f g hF hL hfg hg8 gx gw
  have b10 : (xfl IF N M S x f g w A).1 10 = A 10 := xfl_10
  have hS' : xlI IF f g 8 0 = nI S := hS
  have hM' : xlI IF f g 8 1 = nI M := hM
  have hN' : xlI IF f g 8 2 = nI N := hN
  refine zrun 4 ⟨⟨Nat.le_of_ble_eq_true rfl, Nat.le_of_ble_eq_true rfl, rfl⟩, ?_⟩
  refine c_findLeast hS hS2 hS8 hM hM8 hN hN8 hF hL hfg hg8 ⟨rfl, ?_⟩
  refine zrun 1 (zloc [(0, _), (1, _), (2, _), (3, _)] rfl ?_)
  refine zrun 6 ⟨⟨Nat.le_of_ble_eq_true rfl, Nat.le_of_ble_eq_true rfl, rfl⟩, ?_⟩
  refine c_put (IF := xlI IF f g) (p := 30) (Or.inr (Or.inl rfl)) (f := f) (g := g) ?_ ?_ hfg hg8 ⟨rfl, ?_⟩
  · show (xfl IF N M S x f g w A).1 10 _ = _
    rw [b10]; exact hF
  · show (xfl IF N M S x f g w A).1 10 _ = _
    rw [b10]; exact hL
  refine zrun 3 ⟨⟨Nat.le_of_ble_eq_true rfl, Nat.le_of_ble_eq_true rfl, rfl⟩, ?_⟩
  refine c_compute (IF := xlI IF f g) (r := 18) (Or.inl rfl) hS' hS8 hN' hN8 hM' hM8 ⟨rfl, ?_⟩
  refine zrun 3 ⟨⟨Nat.le_of_ble_eq_true rfl, Nat.le_of_ble_eq_true rfl, rfl⟩, ?_⟩
  refine c_compute (IF := xlI IF f g) (r := 22) (Or.inr (Or.inl rfl)) hS' hS8 hN' hN8 hM' hM8 ⟨rfl, ?_⟩
  exact zrun 2 q
theorem c_bitCount {h : zH} {x : Int32} (hq : Q (.inl (some (.int (xbc x)))) h) : zW ε false d 233 0 [(0, .int x)] [] h 0 0 Q := by
  refine zrun 8 (zloc [(0, .int (xbc1 x))] rfl ?_)
  refine zrun 10 (zloc [(0, .int (xbc2 (xbc1 x)))] rfl ?_)
  refine zrun 8 (zloc [(0, .int (xbc3 (xbc2 (xbc1 x))))] rfl ?_)
  refine zrun 6 (zloc [(0, .int (xbc4 (xbc3 (xbc2 (xbc1 x)))))] rfl ?_)
  refine zrun 6 (zloc [(0, .int (xbc5 (xbc4 (xbc3 (xbc2 (xbc1 x))))))] rfl ?_)
  exact zrun 4 hq
theorem c_speed (hS : IF 8 0 = nI S) (hS1 : 1 ≤ S) (hS8 : S ≤ 8) (hM : IF 8 1 = nI M) (hM8 : M ≤ 8) {x : Int32} (hn : zIn M x → ¬ xmn A x ≤ 0 → vf_n64 (FP.ddiv (FP.i2d (xdi A x (S - 1) 0 0)) (FP.i2d (xmn A x)))) (h1 : zIn M x → Q (.inl (some (.double (if xmn A x ≤ 0 then FP.dconst0 else FP.ddiv (FP.i2d (xdi A x (S - 1) 0 0)) (FP.i2d (xmn A x)))))) (zM o ot it IF A AL AD)) (h2 : ¬ zIn M x → Q (.inr 2) (zM o ot it IF A AL AD)) : zW ε false (d + 4) 92 0 [(0, .ref 0), (1, .int x)] [] (zM o ot it IF A AL AD) 0 0 Q := by
  refine zrun 3 ⟨⟨Nat.le_of_ble_eq_true rfl, Nat.le_of_ble_eq_true rfl, rfl⟩, ?_⟩
  refine c_reqTrain hM hM8 (fun gx => ⟨rfl, ?_⟩) (fun g => ⟨⟨rfl, rfl⟩, h2 g⟩)
  refine zrun 4 ⟨⟨Nat.le_of_ble_eq_true rfl, Nat.le_of_ble_eq_true rfl, rfl⟩, ?_⟩
  refine c_lastTime (r := 18) (Or.inl rfl) ⟨rfl, ?_⟩
  refine zrun 8 ⟨⟨Nat.le_of_ble_eq_true rfl, Nat.le_of_ble_eq_true rfl, rfl⟩, ?_⟩
  refine c_of (Or.inr rfl) ⟨rfl, ?_⟩
  refine zrun 2 ⟨⟨Nat.le_of_ble_eq_true rfl, Nat.le_of_ble_eq_true rfl, rfl⟩, ?_⟩
  refine c_time (r := 18) (Or.inl rfl) (b := false) rfl ⟨rfl, ?_⟩
  refine zrun 2 (zloc [(0, _), (1, _), (2, .int (xmn A x))] rfl ?_)
  have q := h1 gx
  refine zrun 2 ⟨fun g => ?_, fun g => ?_⟩
  · rw [if_pos (show xmn A x ≤ 0 from g)] at q
    exact zrun 2 q
  · rw [if_neg (show ¬ xmn A x ≤ 0 from g)] at q
    refine zrun 4 ⟨⟨Nat.le_of_ble_eq_true rfl, Nat.le_of_ble_eq_true rfl, rfl⟩, ?_⟩
    refine c_distance hS hS1 hS8 ⟨rfl, ?_⟩
    refine zrun 4 ⟨hn gx g, ?_⟩
    exact zrun 2 q
theorem c_punctuality (hM : IF 8 1 = nI M) (hM8 : M ≤ 8) {x : Int32} (hn : 0 < M → vf_n64 (FP.ddiv (FP.i2d (xpu A M x)) (FP.i2d (nI M)))) (h1 : zIn 121 x → 0 < M → Q (.inl (some (.double (FP.ddiv (FP.i2d (xpu A M x)) (FP.i2d (nI M)))))) (zM o ot it IF A AL AD)) (h2 : ¬ zIn 121 x → Q (.inr 1) (zM o ot it IF A AL AD)) (h3 : zIn 121 x → M = 0 → Q (.inr 3) (zM o ot it IF A AL AD)) : zW ε false (d + 4) 99 0 [(0, .ref 0), (1, .int x)] [] (zM o ot it IF A AL AD) 0 0 Q := by
  refine zrun 2 ⟨fun g => ?_, fun g => ?_⟩
  · exact zrun 1 ⟨⟨Nat.le_of_ble_eq_true rfl, Nat.le_of_ble_eq_true rfl, Nat.le_of_ble_eq_true rfl⟩, h2 (zIn_not (by omega) (Or.inl g))⟩
  · refine zrun 3 ⟨fun g2 => ?_, fun g2 => ?_⟩
    · have gx := zIn_le (n := 120) (by omega) g (show x ≤ nI 120 from g2)
      refine zrun 4 (zb_ne (b := 0) hM nI_0.symm (by omega) (by omega) (fun g3 => ?_) (fun g3 => ?_))
      · have q := h1 gx (by omega)
        have hn' := hn (by omega)
        have e : xpu A M x = IF 8 1 - xbc (xls A 22 x M 0 0) := by rw [hM]; rfl
        rw [e, ← hM] at q hn'
        refine zrun 7 ⟨⟨Nat.le_of_ble_eq_true rfl, Nat.le_of_ble_eq_true rfl, rfl⟩, ?_⟩
        refine c_lateSet (r := 22) (Or.inr (Or.inl rfl)) hM hM8 ⟨rfl, ?_⟩
        refine zrun 1 ⟨⟨Nat.le_of_ble_eq_true rfl, Nat.le_of_ble_eq_true rfl, rfl⟩, ?_⟩
        refine c_bitCount ⟨rfl, ?_⟩
        refine zrun 2 (zloc [(0, _), (1, _), (2, _)] rfl ?_)
        refine zrun 7 ⟨hn', ?_⟩
        exact zrun 1 q
      · exact zrun 1 ⟨⟨Nat.le_of_ble_eq_true rfl, Nat.le_of_ble_eq_true rfl, Nat.le_of_ble_eq_true rfl⟩, h3 gx g3⟩
    · exact zrun 1 ⟨⟨Nat.le_of_ble_eq_true rfl, Nat.le_of_ble_eq_true rfl, Nat.le_of_ble_eq_true rfl⟩, h2 (zIn_nle (n := 120) (by omega) g2)⟩
end
