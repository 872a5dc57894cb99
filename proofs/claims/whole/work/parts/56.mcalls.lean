/-! the reference: its calls -/
def mct (IF : Nat → Nat → Int32) (L : Nat → Nat) (n : Nat) : Int32 := if n = 3 then IF 32 9 else if n < 3 then nI (L n) else nI (L (n - 1))
def mss (A : Nat → Nat → Int32) (t : Nat) : Nat → Nat → Int32 → Int32
  | 0, _, v => v
  | n + 1, s, v => mss A t n (s + 1) (v + A 35 (7 * t + s))
theorem nI7' {x z : Int32} {t s : Nat} (hx : x = nI t) (hz : z = nI s) : (7 : Int32) * x + z = nI (7 * t + s) := by rw [hx, hz, show (7 : Int32) = nI 7 from rfl, pk_mul, nI_add]
section
variable {ε : Nat × (Nat → Int32)} {d : Nat} {Q : zQ} {o ot it : Value} {IF A : Nat → Nat → Int32} {AL : Nat → Nat → Int64} {AD : Nat → Nat → UInt64} {L p p' q : Nat → Nat} {ac : Bool}
theorem c_mcount (hV : mV L p p' A) {x : Int32} (h1 : ∀ n, n < 6 → x = nI n → Q (.inl (some (.int (mct IF L n)))) (zM o ot it (yU 32 0 0 IF) A AL AD)) (h2 : ¬ zIn 6 x → Q (.inl (some (.int 0))) (zM o ot it (yU 32 0 1 IF) A AL AD)) : zW ε false (d + 1) 173 0 [(0, .ref 32), (1, .int x)] [] (zM o ot it IF A AL AD) 0 0 Q := by
  refine zrun 8 ⟨⟨Nat.le_of_ble_eq_true rfl, Nat.le_of_ble_eq_true rfl, rfl⟩, ?_⟩
  refine c_isIn (fun v hv => ⟨rfl, ?_⟩)
  refine zrun 2 ⟨⟨Nat.le_of_ble_eq_true rfl, Nat.le_of_ble_eq_true rfl, rfl⟩, ?_⟩
  refine c_may0 (IF := IF) (by decide) rfl (fun b => ⟨rfl, ?_⟩) (fun b => ⟨rfl, ?_⟩)
  · refine zrun 1 (zb_t (b := true) rfl (fun _ => ?_) (fun q => Bool.noConfusion q))
    obtain ⟨n, hn, rfl⟩ := (zIn_c (n := 5) (by decide)).mp (hv.mp b)
    have e := h1 n hn rfl
    unfold mct at e
    refine zrun 3 (zb_ne (b := 3) rfl rfl (by omega) (by omega) (fun g => ?_) (fun g => ?_))
    · refine zrun 3 (zb_ge (b := 3) rfl rfl (by omega) (by omega) (fun g2 => ?_) (fun g2 => ?_))
      · refine zrun 5 ?_
        refine zW_ildv (n := n - 1) rfl rfl (nIp rfl (by omega)) (by omega) (by decide) (lf_at hV.1.1 _) ?_
        exact zrun 1 (by rw [if_neg g, if_neg (by omega)] at e; exact e)
      · refine zrun 3 ?_
        refine zW_ildv (n := n) rfl rfl rfl (by omega) (by decide) (lf_at hV.1.1 n) ?_
        exact zrun 2 (by rw [if_neg g, if_pos g2] at e; exact e)
    · exact zrun 4 (by rw [if_pos g] at e; exact e)
  · refine zrun 1 (zb_t (b := false) rfl (fun q => Bool.noConfusion q) (fun _ => ?_))
    exact zrun 2 (h2 (fun q => by rw [hv.mpr ((zIn_c (n := 5) (by decide)).mpr q)] at b; exact Bool.noConfusion b))
theorem c_misSiding (hV : mV L p p' A) {x : Int32} (h1 : ∀ s, s < L 0 → x = nI s → Q (.inl (some (.int (zbo (decide (¬ L (5 + s) = 0)))))) (zM o ot it (yU 32 0 0 IF) A AL AD)) (h2 : ¬ zIn (L 0) x → Q (.inl (some (.int 0))) (zM o ot it (yU 32 0 1 IF) A AL AD)) : zW ε false (d + 2) 174 0 [(0, .ref 32), (1, .int x)] [] (zM o ot it IF A AL AD) 0 0 Q := by
  refine zrun 7 ⟨⟨Nat.le_of_ble_eq_true rfl, Nat.le_of_ble_eq_true rfl, rfl⟩, ?_⟩
  refine c_isStation (IF := yU 32 0 0 IF) hV (fun v hv => ⟨rfl, ?_⟩)
  refine zrun 2 ⟨⟨Nat.le_of_ble_eq_true rfl, Nat.le_of_ble_eq_true rfl, rfl⟩, ?_⟩
  refine c_may0 (IF := IF) (by decide) rfl (fun b => ⟨rfl, ?_⟩) (fun b => ⟨rfl, ?_⟩)
  · refine zrun 1 (zb_f (b := true) rfl (fun q => Bool.noConfusion q) (fun _ => ?_))
    obtain ⟨s, hs, rfl⟩ := hv.mp b
    have hB := hV.2.2.1
    refine zrun 3 ⟨⟨Nat.le_of_ble_eq_true rfl, Nat.le_of_ble_eq_true rfl, rfl⟩, ?_⟩
    refine c_isPlain (IF := yU 32 0 0 IF) hV.1.1 hV.2.1 rfl (by omega) (fun v2 hv2 => ⟨rfl, ?_⟩)
    refine zrun 1 (zb_t rfl (fun g => ?_) (fun g => ?_))
    · exact zrun 2 (⟨rfl, by have e := h1 s hs rfl; rw [decide_eq_false (show ¬ ¬ L (5 + s) = 0 from fun z => z (hv2.mp g))] at e; exact e⟩)
    · exact zrun 3 (⟨rfl, by have e := h1 s hs rfl; rw [decide_eq_true (show ¬ L (5 + s) = 0 from fun z => by rw [hv2.mpr z] at g; exact Bool.noConfusion g)] at e; exact e⟩)
  · refine zrun 1 (zb_f (b := false) rfl (fun _ => ?_) (fun q => Bool.noConfusion q))
    exact zrun 2 (⟨rfl, h2 (fun q => by rw [hv.mpr q] at b; exact Bool.noConfusion b)⟩)
theorem cl_mss (hV : mV L p p' A) {t : Nat} {w : Int32} (ht : t < 8) : ∀ (n i : Nat) (v : Int32) (c : Int32), i + n = 7 → c = nI i → Q (.inl (some (.int (mss A t n i v)))) (zM o ot it IF A AL AD) → zW ε false (d) 175 51 [(0, .ref 32), (1, .int (nI t)), (2, .int w), (3, .int v), (4, .int c)] [] (zM o ot it IF A AL AD) 0 0 Q := by
  have hB := hV.2.2.1
  intro n
  induction n with
  | zero =>
    intro i v c hi hc hq
    refine zrun 3 (zb_ge (b := 7) hc rfl (by omega) (by omega) (fun _ => ?_) (fun q => absurd q (by omega)))
    exact zrun 2 (hq)
  | succ n ih =>
    intro i v c hi hc hq
    subst hc
    refine zrun 3 (zb_ge (b := 7) rfl rfl (by omega) (by omega) (fun q => absurd q (by omega)) (fun _ => ?_))
    refine zrun 8 ?_
    refine zW_iald (n := 7 * t + i) rfl rfl (nI7' rfl rfl) (by omega) (by decide) ?_
    exact zrun 4 (zloc [(0, _), (1, _), (2, _), (3, _), (4, _)] rfl (ih (i + 1) _ (nI i + 1) (by omega) (nI_1 i) hq))
theorem c_mtrain (hV : mV L p p' A) {x z : Int32} (h1 : ∀ t w, t < L 1 → w < 6 → x = nI t → z = nI w → Q (.inl (some (.int (if w = 5 then mss A t 7 0 0 else nI (tr L t w))))) (zM o ot it (yU 32 0 0 IF) A AL AD)) (h2 : ¬ zIn (L 1) x → Q (.inl (some (.int 0))) (zM o ot it (yU 32 0 1 IF) A AL AD)) (h3 : zIn (L 1) x → ¬ zIn 6 z → Q (.inl (some (.int 0))) (zM o ot it (yU 32 0 2 IF) A AL AD)) : zW ε false (d + 2) 175 0 [(0, .ref 32), (1, .int x), (2, .int z)] [] (zM o ot it IF A AL AD) 0 0 Q := by
  refine zrun 7 ⟨⟨Nat.le_of_ble_eq_true rfl, Nat.le_of_ble_eq_true rfl, rfl⟩, ?_⟩
  refine c_isTrain (IF := yU 32 0 0 IF) hV (fun v hv => ⟨rfl, ?_⟩)
  refine zrun 2 ⟨⟨Nat.le_of_ble_eq_true rfl, Nat.le_of_ble_eq_true rfl, rfl⟩, ?_⟩
  refine c_may0 (IF := IF) (by decide) rfl (fun b => ⟨rfl, ?_⟩) (fun b => ⟨rfl, ?_⟩)
  · refine zrun 1 (zb_f (b := true) rfl (fun q => Bool.noConfusion q) (fun _ => ?_))
    refine zrun 5 ⟨⟨Nat.le_of_ble_eq_true rfl, Nat.le_of_ble_eq_true rfl, rfl⟩, ?_⟩
    refine c_isIn (fun v2 hv2 => ⟨rfl, ?_⟩)
    refine zrun 2 ⟨⟨Nat.le_of_ble_eq_true rfl, Nat.le_of_ble_eq_true rfl, rfl⟩, ?_⟩
    refine c_may0 (IF := IF) (by decide) rfl (fun b2 => ⟨rfl, ?_⟩) (fun b2 => ⟨rfl, ?_⟩)
    · refine zrun 1 (zb_t (b := true) rfl (fun _ => ?_) (fun q => Bool.noConfusion q))
      obtain ⟨t, ht, rfl⟩ := hv.mp b
      obtain ⟨w, hw, rfl⟩ := (zIn_c (n := 5) (by decide)).mp (hv2.mp b2)
      have hB := hV.2.2.1
      have e := h1 t w ht hw rfl rfl
      refine zrun 3 (zb_ge (b := 5) rfl rfl (by omega) (by omega) (fun g => ?_) (fun g => ?_))
      · exact zrun 4 (zloc [(0, _), (1, _), (2, _), (3, _), (4, _)] rfl (cl_mss (IF := yU 32 0 0 IF) hV (by omega) 7 0 0 0 (by omega) nI_0.symm (by rw [if_pos (by omega)] at e; exact e)))
      · refine zrun 4 ⟨⟨Nat.le_of_ble_eq_true rfl, Nat.le_of_ble_eq_true rfl, rfl⟩, ?_⟩
        refine c_mof (IF := yU 32 0 0 IF) hV.1.1 rfl rfl (by omega) ⟨rfl, ?_⟩
        exact zrun 1 (by rw [if_neg (by omega)] at e; exact e)
    · refine zrun 1 (zb_t (b := false) rfl (fun q => Bool.noConfusion q) (fun _ => ?_))
      exact zrun 2 (h3 (hv.mp b) (fun q => by rw [hv2.mpr ((zIn_c (n := 5) (by decide)).mpr q)] at b2; exact Bool.noConfusion b2))
  · refine zrun 1 (zb_f (b := false) rfl (fun _ => ?_) (fun q => Bool.noConfusion q))
    exact zrun 2 (h2 (fun q => by rw [hv.mpr q] at b; exact Bool.noConfusion b))
theorem c_morder (hV : mV L p p' A) {w x z : Int32} {b : Bool} (hb : w = zbo b) (h1 : ∀ s i, s < L 0 - 1 → i < L 1 → x = nI s → z = nI i → Q (.inl (some (.int (A (cond b 37 36) (8 * s + i))))) (zM o ot it (yU 32 0 0 IF) A AL AD)) (h2 : ¬ zIn (L 0 - 1) x ∨ ¬ zIn (L 1) z → Q (.inl (some (.int 0))) (zM o ot it (yU 32 0 1 IF) A AL AD)) : zW ε false (d + 2) 176 0 [(0, .ref 32), (1, .int w), (2, .int x), (3, .int z)] [] (zM o ot it IF A AL AD) 0 0 Q := by
  refine zrun 7 ⟨⟨Nat.le_of_ble_eq_true rfl, Nat.le_of_ble_eq_true rfl, rfl⟩, ?_⟩
  refine c_isSegment (IF := yU 32 0 0 IF) hV (fun v hv => ⟨rfl, ?_⟩)
  refine zrun 1 (zb_f rfl (fun g1 => ?_) (fun g1 => ?_))
  · refine zrun 3 ⟨⟨Nat.le_of_ble_eq_true rfl, Nat.le_of_ble_eq_true rfl, rfl⟩, ?_⟩
    refine c_may0 (IF := IF) (b := false) (by decide) rfl (fun q => Bool.noConfusion q) (fun _ => ⟨rfl, ?_⟩)
    refine zrun 1 (zb_t (b := false) rfl (fun q => Bool.noConfusion q) (fun _ => ?_))
    exact zrun 2 (h2 (Or.inl (fun q => by rw [hv.mpr q] at g1; exact Bool.noConfusion g1)))
  · refine zrun 3 ⟨⟨Nat.le_of_ble_eq_true rfl, Nat.le_of_ble_eq_true rfl, rfl⟩, ?_⟩
    refine c_isTrain (IF := yU 32 0 0 IF) hV (fun v2 hv2 => ⟨rfl, ?_⟩)
    refine zrun 1 (zb_f rfl (fun g2 => ?_) (fun g2 => ?_))
    · refine zrun 3 ⟨⟨Nat.le_of_ble_eq_true rfl, Nat.le_of_ble_eq_true rfl, rfl⟩, ?_⟩
      refine c_may0 (IF := IF) (b := false) (by decide) rfl (fun q => Bool.noConfusion q) (fun _ => ⟨rfl, ?_⟩)
      refine zrun 1 (zb_t (b := false) rfl (fun q => Bool.noConfusion q) (fun _ => ?_))
      exact zrun 2 (h2 (Or.inr (fun q => by rw [hv2.mpr q] at g2; exact Bool.noConfusion g2)))
    · refine zrun 4 ⟨⟨Nat.le_of_ble_eq_true rfl, Nat.le_of_ble_eq_true rfl, rfl⟩, ?_⟩
      refine c_may0 (IF := IF) (b := true) (by decide) rfl (fun _ => ⟨rfl, ?_⟩) (fun q => Bool.noConfusion q)
      refine zrun 1 (zb_t (b := true) rfl (fun _ => ?_) (fun q => Bool.noConfusion q))
      obtain ⟨s, hs, rfl⟩ := hv.mp g1
      obtain ⟨i, hi, rfl⟩ := hv2.mp g2
      have hB := hV.2.2.1
      have e := h1 s i hs hi rfl rfl
      refine zrun 2 (zb_f hb (fun g3 => ?_) (fun g3 => ?_))
      · refine zrun 7 ?_
        refine zW_iald (n := 8 * s + i) rfl rfl (nI8 rfl rfl) (by omega) (by decide) ?_
        exact zrun 1 (by subst g3; exact e)
      · refine zrun 7 ?_
        refine zW_iald (n := 8 * s + i) rfl rfl (nI8 rfl rfl) (by omega) (by decide) ?_
        exact zrun 2 (by subst g3; exact e)
theorem c_mplanned (hV : mV L p p' A) {x z w : Int32} {b : Bool} (hw : w = zbo b) (h1 : ∀ t s, t < L 1 → s < L 0 → x = nI t → z = nI s → gE L t s b = true → Q (.inl (some (.int ((mLy false L p (L 0) 0 A) (cond b 43 42) (8 * t + s))))) (zMm false (yU 32 27 0 (yU 32 0 0 IF)) (mLy false L p (L 0) 0 A) AL AD)) (h2 : ¬ zIn (L 1) x ∨ ¬ zIn (L 0) z → Q (.inl (some (.int 0))) (zM o ot it (yU 32 0 1 IF) A AL AD)) (h3 : ∀ t s, t < L 1 → s < L 0 → x = nI t → z = nI s → gE L t s b = false → Q (.inl (some (.int 0))) (zM o ot it (yU 32 0 2 IF) A AL AD)) : zW ε false (d + 6) 177 0 [(0, .ref 32), (1, .int x), (2, .int z), (3, .int w)] [] (zM o ot it IF A AL AD) 0 0 Q := by
  refine zrun 7 ⟨⟨Nat.le_of_ble_eq_true rfl, Nat.le_of_ble_eq_true rfl, rfl⟩, ?_⟩
  refine c_isTrain (IF := yU 32 0 0 IF) hV (fun v hv => ⟨rfl, ?_⟩)
  refine zrun 1 (zb_f rfl (fun g1 => ?_) (fun g1 => ?_))
  · refine zrun 3 ⟨⟨Nat.le_of_ble_eq_true rfl, Nat.le_of_ble_eq_true rfl, rfl⟩, ?_⟩
    refine c_may0 (IF := IF) (b := false) (by decide) rfl (fun q => Bool.noConfusion q) (fun _ => ⟨rfl, ?_⟩)
    refine zrun 1 (zb_f (b := false) rfl (fun _ => ?_) (fun q => Bool.noConfusion q))
    exact zrun 2 (h2 (Or.inl (fun q => by rw [hv.mpr q] at g1; exact Bool.noConfusion g1)))
  · refine zrun 3 ⟨⟨Nat.le_of_ble_eq_true rfl, Nat.le_of_ble_eq_true rfl, rfl⟩, ?_⟩
    refine c_isStation (IF := yU 32 0 0 IF) hV (fun v2 hv2 => ⟨rfl, ?_⟩)
    refine zrun 1 (zb_f rfl (fun g2 => ?_) (fun g2 => ?_))
    · refine zrun 3 ⟨⟨Nat.le_of_ble_eq_true rfl, Nat.le_of_ble_eq_true rfl, rfl⟩, ?_⟩
      refine c_may0 (IF := IF) (b := false) (by decide) rfl (fun q => Bool.noConfusion q) (fun _ => ⟨rfl, ?_⟩)
      refine zrun 1 (zb_f (b := false) rfl (fun _ => ?_) (fun q => Bool.noConfusion q))
      exact zrun 2 (h2 (Or.inr (fun q => by rw [hv2.mpr q] at g2; exact Bool.noConfusion g2)))
    · refine zrun 4 ⟨⟨Nat.le_of_ble_eq_true rfl, Nat.le_of_ble_eq_true rfl, rfl⟩, ?_⟩
      refine c_may0 (IF := IF) (b := true) (by decide) rfl (fun _ => ⟨rfl, ?_⟩) (fun q => Bool.noConfusion q)
      refine zrun 1 (zb_f (b := true) rfl (fun q => Bool.noConfusion q) (fun _ => ?_))
      obtain ⟨t, ht, rfl⟩ := hv.mp g1
      obtain ⟨s, hs, rfl⟩ := hv2.mp g2
      have hB := hV.2.2.1
      refine zrun 6 ⟨⟨Nat.le_of_ble_eq_true rfl, Nat.le_of_ble_eq_true rfl, rfl⟩, ?_⟩
      refine c_isEvent (IF := yU 32 0 0 IF) hV rfl rfl hw (by omega) (by omega) ⟨rfl, ?_⟩
      refine zrun 2 ⟨⟨Nat.le_of_ble_eq_true rfl, Nat.le_of_ble_eq_true rfl, rfl⟩, ?_⟩
      refine c_may0 (IF := IF) (by decide) rfl (fun b3 => ⟨rfl, ?_⟩) (fun b3 => ⟨rfl, ?_⟩)
      · refine zrun 1 (zb_t (b := true) rfl (fun _ => ?_) (fun q => Bool.noConfusion q))
        refine zrun 2 ⟨⟨Nat.le_of_ble_eq_true rfl, Nat.le_of_ble_eq_true rfl, rfl⟩, ?_⟩
        refine c_laysPlan (IF := yU 32 0 0 IF) hV ⟨rfl, ?_⟩
        refine zrun 2 (zb_f hw (fun g3 => ?_) (fun g3 => ?_))
        · refine zrun 5 ⟨⟨Nat.le_of_ble_eq_true rfl, Nat.le_of_ble_eq_true rfl, rfl⟩, ?_⟩
          refine c_ix rfl rfl ⟨rfl, ?_⟩
          refine zW_iald (n := 8 * t + s) rfl rfl rfl (by omega) (by decide) ?_
          exact zrun 1 (by subst g3; exact h1 t s ht hs rfl rfl b3)
        · refine zrun 5 ⟨⟨Nat.le_of_ble_eq_true rfl, Nat.le_of_ble_eq_true rfl, rfl⟩, ?_⟩
          refine c_ix rfl rfl ⟨rfl, ?_⟩
          refine zW_iald (n := 8 * t + s) rfl rfl rfl (by omega) (by decide) ?_
          exact zrun 2 (by subst g3; exact h1 t s ht hs rfl rfl b3)
      · refine zrun 1 (zb_t (b := false) rfl (fun q => Bool.noConfusion q) (fun _ => ?_))
        exact zrun 2 (h3 t s ht hs rfl rfl b3)
theorem c_mactual (hV : mV L p p' A) {x z w : Int32} {b : Bool} (hw : w = zbo b) (h1 : ∀ t s, t < L 1 → s < L 0 → x = nI t → z = nI s → gE L t s b = true → Q (.inl (some (.int ((mLw L p p' A) (cond b 45 44) (8 * t + s))))) (zMm true (yU 32 27 1 (yU 32 0 0 IF)) (mLw L p p' A) AL AD)) (h2 : ¬ zIn (L 1) x ∨ ¬ zIn (L 0) z → Q (.inl (some (.int 0))) (zM o ot it (yU 32 0 1 IF) A AL AD)) (h3 : ∀ t s, t < L 1 → s < L 0 → x = nI t → z = nI s → gE L t s b = false → Q (.inl (some (.int 0))) (zM o ot it (yU 32 0 2 IF) A AL AD)) : zW ε false (d + 7) 189 0 [(0, .ref 32), (1, .int x), (2, .int z), (3, .int w)] [] (zM o ot it IF A AL AD) 0 0 Q := by
  refine zrun 7 ⟨⟨Nat.le_of_ble_eq_true rfl, Nat.le_of_ble_eq_true rfl, rfl⟩, ?_⟩
  refine c_isTrain (IF := yU 32 0 0 IF) hV (fun v hv => ⟨rfl, ?_⟩)
  refine zrun 1 (zb_f rfl (fun g1 => ?_) (fun g1 => ?_))
  · refine zrun 3 ⟨⟨Nat.le_of_ble_eq_true rfl, Nat.le_of_ble_eq_true rfl, rfl⟩, ?_⟩
    refine c_may0 (IF := IF) (b := false) (by decide) rfl (fun q => Bool.noConfusion q) (fun _ => ⟨rfl, ?_⟩)
    refine zrun 1 (zb_f (b := false) rfl (fun _ => ?_) (fun q => Bool.noConfusion q))
    exact zrun 2 (h2 (Or.inl (fun q => by rw [hv.mpr q] at g1; exact Bool.noConfusion g1)))
  · refine zrun 3 ⟨⟨Nat.le_of_ble_eq_true rfl, Nat.le_of_ble_eq_true rfl, rfl⟩, ?_⟩
    refine c_isStation (IF := yU 32 0 0 IF) hV (fun v2 hv2 => ⟨rfl, ?_⟩)
    refine zrun 1 (zb_f rfl (fun g2 => ?_) (fun g2 => ?_))
    · refine zrun 3 ⟨⟨Nat.le_of_ble_eq_true rfl, Nat.le_of_ble_eq_true rfl, rfl⟩, ?_⟩
      refine c_may0 (IF := IF) (b := false) (by decide) rfl (fun q => Bool.noConfusion q) (fun _ => ⟨rfl, ?_⟩)
      refine zrun 1 (zb_f (b := false) rfl (fun _ => ?_) (fun q => Bool.noConfusion q))
      exact zrun 2 (h2 (Or.inr (fun q => by rw [hv2.mpr q] at g2; exact Bool.noConfusion g2)))
    · refine zrun 4 ⟨⟨Nat.le_of_ble_eq_true rfl, Nat.le_of_ble_eq_true rfl, rfl⟩, ?_⟩
      refine c_may0 (IF := IF) (b := true) (by decide) rfl (fun _ => ⟨rfl, ?_⟩) (fun q => Bool.noConfusion q)
      refine zrun 1 (zb_f (b := true) rfl (fun q => Bool.noConfusion q) (fun _ => ?_))
      obtain ⟨t, ht, rfl⟩ := hv.mp g1
      obtain ⟨s, hs, rfl⟩ := hv2.mp g2
      have hB := hV.2.2.1
      refine zrun 6 ⟨⟨Nat.le_of_ble_eq_true rfl, Nat.le_of_ble_eq_true rfl, rfl⟩, ?_⟩
      refine c_isEvent (IF := yU 32 0 0 IF) hV rfl rfl hw (by omega) (by omega) ⟨rfl, ?_⟩
      refine zrun 2 ⟨⟨Nat.le_of_ble_eq_true rfl, Nat.le_of_ble_eq_true rfl, rfl⟩, ?_⟩
      refine c_may0 (IF := IF) (by decide) rfl (fun b3 => ⟨rfl, ?_⟩) (fun b3 => ⟨rfl, ?_⟩)
      · refine zrun 1 (zb_t (b := true) rfl (fun _ => ?_) (fun q => Bool.noConfusion q))
        refine zrun 2 ⟨⟨Nat.le_of_ble_eq_true rfl, Nat.le_of_ble_eq_true rfl, rfl⟩, ?_⟩
        refine c_laysActual (IF := yU 32 0 0 IF) hV ⟨rfl, ?_⟩
        refine zrun 2 (zb_f hw (fun g3 => ?_) (fun g3 => ?_))
        · refine zrun 5 ⟨⟨Nat.le_of_ble_eq_true rfl, Nat.le_of_ble_eq_true rfl, rfl⟩, ?_⟩
          refine c_ix rfl rfl ⟨rfl, ?_⟩
          refine zW_iald (n := 8 * t + s) rfl rfl rfl (by omega) (by decide) ?_
          exact zrun 1 (by subst g3; exact h1 t s ht hs rfl rfl b3)
        · refine zrun 5 ⟨⟨Nat.le_of_ble_eq_true rfl, Nat.le_of_ble_eq_true rfl, rfl⟩, ?_⟩
          refine c_ix rfl rfl ⟨rfl, ?_⟩
          refine zW_iald (n := 8 * t + s) rfl rfl rfl (by omega) (by decide) ?_
          exact zrun 2 (by subst g3; exact h1 t s ht hs rfl rfl b3)
      · refine zrun 1 (zb_t (b := false) rfl (fun q => Bool.noConfusion q) (fun _ => ?_))
        exact zrun 2 (h3 t s ht hs rfl rfl b3)
theorem c_msupplement (hV : mV L p p' A) {x z : Int32} (h1 : ∀ t s, t < L 1 → s < L 0 - 1 → x = nI t → z = nI s → gD L t s = true → Q (.inl (some (.int (A 35 (7 * t + s))))) (zM o ot it (yU 32 0 0 IF) A AL AD)) (h2 : ¬ (∃ t s, t < L 1 ∧ s < L 0 - 1 ∧ x = nI t ∧ z = nI s ∧ gD L t s = true) → Q (.inl (some (.int 0))) (zM o ot it (yU 32 0 1 IF) A AL AD)) : zW ε false (d + 3) 183 0 [(0, .ref 32), (1, .int x), (2, .int z)] [] (zM o ot it IF A AL AD) 0 0 Q := by
  refine zrun 8 ⟨⟨Nat.le_of_ble_eq_true rfl, Nat.le_of_ble_eq_true rfl, rfl⟩, ?_⟩
  refine c_runs (IF := yU 32 0 0 IF) hV (fun v hv => ⟨rfl, ?_⟩)
  refine zrun 2 ⟨⟨Nat.le_of_ble_eq_true rfl, Nat.le_of_ble_eq_true rfl, rfl⟩, ?_⟩
  refine c_may0 (IF := IF) (by decide) rfl (fun b => ⟨rfl, ?_⟩) (fun b => ⟨rfl, ?_⟩)
  · refine zrun 1 (zb_f (b := true) rfl (fun q => Bool.noConfusion q) (fun _ => ?_))
    obtain ⟨t, s, ht, hs, rfl, rfl, hd⟩ := hv.mp b
    have hB := hV.2.2.1
    have hix : 7 * t + s < 56 := by clear hv; omega
    refine zrun 7 ?_
    refine zW_iald (n := 7 * t + s) rfl rfl (nI7' rfl rfl) hix (by decide) ?_
    exact zrun 2 (h1 t s ht hs rfl rfl hd)
  · refine zrun 1 (zb_f (b := false) rfl (fun _ => ?_) (fun q => Bool.noConfusion q))
    exact zrun 2 (h2 (fun q => by rw [hv.mpr q] at b; exact Bool.noConfusion b))
theorem c_msetSupplement (hV : mV L p p' A) {x z w : Int32} (h1 : ∀ t s, t < L 1 → s < L 0 - 1 → x = nI t → z = nI s → gD L t s = true → zIn 10 w → Q (.inl (some (.int (A 35 (7 * t + s))))) (zM o ot it (yU 32 0 0 IF) (va_up A 35 (upd (A 35) (7 * t + s) w)) AL AD)) (h2 : ¬ (∃ t s, t < L 1 ∧ s < L 0 - 1 ∧ x = nI t ∧ z = nI s ∧ gD L t s = true) → Q (.inl (some (.int 0))) (zM o ot it (yU 32 0 1 IF) A AL AD)) (h3 : (∃ t s, t < L 1 ∧ s < L 0 - 1 ∧ x = nI t ∧ z = nI s ∧ gD L t s = true) → ¬ zIn 10 w → Q (.inl (some (.int 0))) (zM o ot it (yU 32 0 2 IF) A AL AD)) : zW ε false (d + 3) 182 0 [(0, .ref 32), (1, .int x), (2, .int z), (3, .int w)] [] (zM o ot it IF A AL AD) 0 0 Q := by
  refine zrun 8 ⟨⟨Nat.le_of_ble_eq_true rfl, Nat.le_of_ble_eq_true rfl, rfl⟩, ?_⟩
  refine c_runs (IF := yU 32 0 0 IF) hV (fun v hv => ⟨rfl, ?_⟩)
  refine zrun 2 ⟨⟨Nat.le_of_ble_eq_true rfl, Nat.le_of_ble_eq_true rfl, rfl⟩, ?_⟩
  refine c_may0 (IF := IF) (by decide) rfl (fun b => ⟨rfl, ?_⟩) (fun b => ⟨rfl, ?_⟩)
  · refine zrun 1 (zb_f (b := true) rfl (fun q => Bool.noConfusion q) (fun _ => ?_))
    refine zrun 5 ⟨⟨Nat.le_of_ble_eq_true rfl, Nat.le_of_ble_eq_true rfl, rfl⟩, ?_⟩
    refine c_isIn (fun v2 hv2 => ⟨rfl, ?_⟩)
    refine zrun 2 ⟨⟨Nat.le_of_ble_eq_true rfl, Nat.le_of_ble_eq_true rfl, rfl⟩, ?_⟩
    refine c_may0 (IF := IF) (by decide) rfl (fun b2 => ⟨rfl, ?_⟩) (fun b2 => ⟨rfl, ?_⟩)
    · refine zrun 1 (zb_t (b := true) rfl (fun _ => ?_) (fun q => Bool.noConfusion q))
      obtain ⟨t, s, ht, hs, rfl, rfl, hd⟩ := hv.mp b
      have hB := hV.2.2.1
      have hix : 7 * t + s < 56 := by clear hv; omega
      have hw := (zIn_c (n := 9) (by decide)).mp (hv2.mp b2)
      refine zrun 7 ?_
      refine zW_iald (n := 7 * t + s) rfl rfl (nI7' rfl rfl) hix (by decide) ?_
      refine zrun 9 (zloc [(0, _), (1, _), (2, _), (3, _), (4, _)] rfl ?_)
      refine zW_iast (n := 7 * t + s) rfl rfl (nI7' rfl rfl) hix (by decide) ?_
      exact zrun 2 (h1 t s ht hs rfl rfl hd hw)
    · refine zrun 1 (zb_t (b := false) rfl (fun q => Bool.noConfusion q) (fun _ => ?_))
      exact zrun 2 (h3 (hv.mp b) (fun q => by rw [hv2.mpr ((zIn_c (n := 9) (by decide)).mpr q)] at b2; exact Bool.noConfusion b2))
  · refine zrun 1 (zb_f (b := false) rfl (fun _ => ?_) (fun q => Bool.noConfusion q))
    exact zrun 2 (h2 (fun q => by rw [hv.mpr q] at b; exact Bool.noConfusion b))
end
