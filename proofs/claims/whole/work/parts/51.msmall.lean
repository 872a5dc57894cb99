/-! the reference: rows as rows of numbers, small methods -/
def tn (f : Nat → Int32) : Nat → Nat := fun j => (f j).toBitVec.toNat
theorem nI_tn (x : Int32) : nI x.toBitVec.toNat = x := (Int32.toBitVec_inj.mp (by show _ = BitVec.ofNat 32 _; simp)).symm
theorem lf_tn (f : Nat → Int32) : lf (tn f) = f := funext (fun j => nI_tn (f j))
theorem lf_at {f : Nat → Int32} {a : Nat → Nat} (h : f = lf a) (j : Nat) : f j = nI (a j) := by rw [h]; rfl
def oI : Option Nat → Int32
  | none => -1
  | some n => nI n
/-- of a train, of a connection -/
def tr (L : Nat → Nat) (t w : Nat) : Nat := L (20 + 5 * t + w)
def lk (L : Nat → Nat) (c w : Nat) : Nat := L (60 + 4 * c + w)
def gA (L : Nat → Nat) (t s : Nat) : Bool := decide (tr L t 0 < s) && decide (s ≤ tr L t 1)
def gD (L : Nat → Nat) (t s : Nat) : Bool := decide (tr L t 0 ≤ s) && decide (s < tr L t 1)
def gE (L : Nat → Nat) (t s : Nat) (b : Bool) : Bool := cond b (gA L t s) (gD L t s)
theorem gA_iff {L : Nat → Nat} {t s : Nat} : gA L t s = true ↔ tr L t 0 < s ∧ s ≤ tr L t 1 := by unfold gA; simp
theorem gD_iff {L : Nat → Nat} {t s : Nat} : gD L t s = true ↔ tr L t 0 ≤ s ∧ s < tr L t 1 := by unfold gD; simp
theorem gA_f {L : Nat → Nat} {t s : Nat} (h : ¬ (tr L t 0 < s ∧ s ≤ tr L t 1)) : gA L t s = false := by
  cases e : gA L t s
  · rfl
  · exact absurd (gA_iff.mp e) h
theorem gD_f {L : Nat → Nat} {t s : Nat} (h : ¬ (tr L t 0 ≤ s ∧ s < tr L t 1)) : gD L t s = false := by
  cases e : gD L t s
  · rfl
  · exact absurd (gD_iff.mp e) h
/-- the numbers of a line are small -/
def lB (L : Nat → Nat) : Prop := ∀ k, k < 92 → L k < 100000
section
variable {ε : Nat × (Nat → Int32)} {d : Nat} {Q : zQ} {o ot it : Value} {IF A : Nat → Nat → Int32} {AL : Nat → Nat → Int64} {AD : Nat → Nat → UInt64} {L : Nat → Nat}
theorem c_thrown (hq : Q (.inl (some (.int (IF 32 0)))) (zM o ot it IF A AL AD)) : zW ε false d 125 0 [(0, .ref 32)] [] (zM o ot it IF A AL AD) 0 0 Q := by
  exact zrun 3 (hq)
theorem c_isIn {h : zH} {x a b : Int32} (hq : ∀ v : Bool, (v = true ↔ ¬ x < a ∧ ¬ b < x) → Q (.inl (some (.int (zbo v)))) h) : zW ε false d 126 0 [(0, .int x), (1, .int a), (2, .int b)] [] h 0 0 Q := by
  refine zrun 3 ⟨(fun g2 => ?_), (fun g2 => ?_)⟩
  · exact zrun 2 (⟨rfl, hq false ⟨fun q => Bool.noConfusion q, fun q => absurd g2 q.1⟩⟩)
  · refine zrun 3 ⟨(fun g7 => ?_), (fun g7 => ?_)⟩
    · exact zrun 2 (⟨rfl, hq false ⟨fun q => Bool.noConfusion q, fun q => absurd g7 q.2⟩⟩)
    · exact zrun 3 (⟨rfl, hq true ⟨fun _ => ⟨g2, g7⟩, fun _ => rfl⟩⟩)
theorem c_may (h0 : IF 32 0 = 0) {v pl : Int32} (hpl : ¬ pl = 0) {b : Bool} (hv : v = zbo b) (h1 : b = true → Q (.inl (some (.int 1))) (zM o ot it IF A AL AD)) (h2 : b = false → Q (.inl (some (.int 0))) (zM o ot it (yU 32 0 pl IF) A AL AD)) : zW ε false d 127 0 [(0, .ref 32), (1, .int v), (2, .int pl)] [] (zM o ot it IF A AL AD) 0 0 Q := by
  refine zrun 2 (zb_t hv (fun hb => ?_) (fun hb => ?_))
  · refine zrun 3 ⟨(fun g => absurd h0 g), (fun _ => ?_)⟩
    exact zrun 3 (⟨rfl, h1 hb⟩)
  · refine zrun 3 ⟨(fun g => absurd h0 g), (fun _ => ?_)⟩
    refine zrun 6 ⟨(fun g => ?_), (fun g => absurd g hpl)⟩
    exact zrun 2 (⟨rfl, h2 hb⟩)
theorem c_mof (hL : A 33 = lf L) {x z : Int32} {t w : Nat} (hx : x = nI t) (hz : z = nI w) (hb : 20 + 5 * t + w < 92) (hq : Q (.inl (some (.int (nI (tr L t w))))) (zM o ot it IF A AL AD)) : zW ε false d 132 0 [(0, .ref 32), (1, .int x), (2, .int z)] [] (zM o ot it IF A AL AD) 0 0 Q := by
  refine zrun 9 ?_
  refine zW_iald (n := 20 + 5 * t + w) rfl rfl (show (20 : Int32) + 5 * x + z = _ by rw [hx, hz, show (20 : Int32) = nI 20 from rfl, show (5 : Int32) = nI 5 from rfl, pk_mul, nI_add, nI_add]) hb (by decide) ?_
  exact zrun 1 (show Q (.inl (some (.int (A 33 (20 + 5 * t + w))))) _ by rw [hL]; exact hq)
theorem c_mlink (hL : A 33 = lf L) {x z : Int32} {t w : Nat} (hx : x = nI t) (hz : z = nI w) (hb : 60 + 4 * t + w < 92) (hq : Q (.inl (some (.int (nI (lk L t w))))) (zM o ot it IF A AL AD)) : zW ε false d 133 0 [(0, .ref 32), (1, .int x), (2, .int z)] [] (zM o ot it IF A AL AD) 0 0 Q := by
  refine zrun 9 ?_
  refine zW_iald (n := 60 + 4 * t + w) rfl rfl (show (60 : Int32) + 4 * x + z = _ by rw [hx, hz, show (60 : Int32) = nI 60 from rfl, show (4 : Int32) = nI 4 from rfl, pk_mul, nI_add, nI_add]) hb (by decide) ?_
  exact zrun 1 (show Q (.inl (some (.int (A 33 (60 + 4 * t + w))))) _ by rw [hL]; exact hq)
theorem c_isPlain (hL : A 33 = lf L) (hl : lB L) {x : Int32} {s : Nat} (hx : x = nI s) (hb : 5 + s < 92) (hq : ∀ v : Bool, (v = true ↔ L (5 + s) = 0) → Q (.inl (some (.int (zbo v)))) (zM o ot it IF A AL AD)) : zW ε false d 134 0 [(0, .ref 32), (1, .int x)] [] (zM o ot it IF A AL AD) 0 0 Q := by
  refine zrun 5 ?_
  refine zW_iald (n := 5 + s) rfl rfl (show (5 : Int32) + x = _ by rw [hx, show (5 : Int32) = nI 5 from rfl, nI_add]) hb (by decide) ?_
  refine zrun 1 (zb_ne (b := 0) (lf_at hL _) nI_0.symm (Nat.lt_trans (hl _ (by omega)) (by decide)) (by decide) (fun g => ?_) (fun g => ?_))
  · exact zrun 2 (⟨rfl, hq false ⟨fun q => Bool.noConfusion q, fun q => absurd q g⟩⟩)
  · exact zrun 3 (⟨rfl, hq true ⟨fun _ => g, fun _ => rfl⟩⟩)
theorem c_marr (hL : A 33 = lf L) (hl : lB L) {x z : Int32} {t s : Nat} (hx : x = nI t) (hz : z = nI s) (ht : t < 8) (hs : s < 100) (hq : Q (.inl (some (.int (zbo (gA L t s))))) (zM o ot it IF A AL AD)) : zW ε false (d + 1) 135 0 [(0, .ref 32), (1, .int x), (2, .int z)] [] (zM o ot it IF A AL AD) 0 0 Q := by
  refine zrun 5 ⟨⟨Nat.le_of_ble_eq_true rfl, Nat.le_of_ble_eq_true rfl, rfl⟩, ?_⟩
  refine c_mof (w := 0) hL hx rfl (by omega) ⟨rfl, ?_⟩
  refine zrun 1 (zb_le hz rfl (by omega) (Nat.lt_trans (hl _ (by omega)) (by decide)) (fun g1 => ?_) (fun g1 => ?_))
  · exact zrun 2 (⟨rfl, by rw [gA_f (by omega)] at hq; exact hq⟩)
  · refine zrun 5 ⟨⟨Nat.le_of_ble_eq_true rfl, Nat.le_of_ble_eq_true rfl, rfl⟩, ?_⟩
    refine c_mof (w := 1) hL hx rfl (by omega) ⟨rfl, ?_⟩
    refine zrun 1 (zb_gt hz rfl (by omega) (Nat.lt_trans (hl _ (by omega)) (by decide)) (fun g2 => ?_) (fun g2 => ?_))
    · exact zrun 2 (⟨rfl, by rw [gA_f (by omega)] at hq; exact hq⟩)
    · exact zrun 3 (⟨rfl, by rw [gA_iff.mpr (by omega)] at hq; exact hq⟩)
theorem c_mdep (hL : A 33 = lf L) (hl : lB L) {x z : Int32} {t s : Nat} (hx : x = nI t) (hz : z = nI s) (ht : t < 8) (hs : s < 100) (hq : Q (.inl (some (.int (zbo (gD L t s))))) (zM o ot it IF A AL AD)) : zW ε false (d + 1) 136 0 [(0, .ref 32), (1, .int x), (2, .int z)] [] (zM o ot it IF A AL AD) 0 0 Q := by
  refine zrun 5 ⟨⟨Nat.le_of_ble_eq_true rfl, Nat.le_of_ble_eq_true rfl, rfl⟩, ?_⟩
  refine c_mof (w := 0) hL hx rfl (by omega) ⟨rfl, ?_⟩
  refine zrun 1 (zb_lt hz rfl (by omega) (Nat.lt_trans (hl _ (by omega)) (by decide)) (fun g1 => ?_) (fun g1 => ?_))
  · exact zrun 2 (⟨rfl, by rw [gD_f (by omega)] at hq; exact hq⟩)
  · refine zrun 5 ⟨⟨Nat.le_of_ble_eq_true rfl, Nat.le_of_ble_eq_true rfl, rfl⟩, ?_⟩
    refine c_mof (w := 1) hL hx rfl (by omega) ⟨rfl, ?_⟩
    refine zrun 1 (zb_ge hz rfl (by omega) (Nat.lt_trans (hl _ (by omega)) (by decide)) (fun g2 => ?_) (fun g2 => ?_))
    · exact zrun 2 (⟨rfl, by rw [gD_f (by omega)] at hq; exact hq⟩)
    · exact zrun 3 (⟨rfl, by rw [gD_iff.mpr (by omega)] at hq; exact hq⟩)
end
