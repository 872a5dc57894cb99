/-! the reference: sums, sets, orders -/
def mds (A : Nat → Nat → Int32) (L : Nat → Nat) (t : Nat) : Nat → Nat → Int32 → Int32
  | 0, _, v => v
  | n + 1, s, v => mds A L t n (s + 1) (v + cond (gA L t s) (A 45 (8 * t + s) - A 43 (8 * t + s)) 0)
def mds2 (A : Nat → Nat → Int32) (L : Nat → Nat) : Nat → Nat → Int32 → Int32
  | 0, _, v => v
  | n + 1, t, v => mds2 A L n (t + 1) (mds A L t (L 0) 0 v)
def mls (A : Nat → Nat → Int32) (L : Nat → Nat) (th : Int32) : Nat → Nat → Int32 → Int32
  | 0, _, v => v
  | n + 1, t, v => mls A L th n (t + 1) (v ||| (if A 45 (8 * t + tr L t 1) - A 43 (8 * t + tr L t 1) ≤ th then 0 else (1 : Int32) <<< (nI t &&& 31)))
def mla (A : Nat → Nat → Int32) (L : Nat → Nat) : Nat → Nat → Int32 → Int32
  | 0, _, v => v
  | n + 1, t, v => mla A L n (t + 1) (zmx v (A 43 (8 * t + tr L t 1)))
def gSum (L : Nat → Nat) : Nat → Nat → Nat → Nat
  | 0, _, v => v
  | n + 1, s, v => gSum L n (s + 1) (v + L (13 + s))
def mms (A : Nat → Nat → Int32) : Nat → Nat → Int32 → Int32
  | 0, _, v => v
  | n + 1, c, v => mms A n (c + 1) (v + (if A 46 c = 0 then 1 else 0))
def mpu (st : Int32) : Nat → Nat → Int32 → Int32
  | 0, _, v => v
  | n + 1, t, v => mpu st n (t + 1) (v + (1 - ((st >>> (nI t &&& 31)) &&& 1)))
def mrc1 (A : Nat → Nat → Int32) (L : Nat → Nat) (t s : Nat) (v : Int32) : Int32 := if gA L t s = true ∧ ¬ A 45 (8 * t + s) - A 43 (8 * t + s) ≤ 0 then zmx v (A 45 (8 * t + s) + 1) else v
def mrc2 (A : Nat → Nat → Int32) (L : Nat → Nat) (t s : Nat) (v : Int32) : Int32 := if gD L t s = true ∧ ¬ A 44 (8 * t + s) ≤ A 42 (8 * t + s) then zmx v (A 44 (8 * t + s) + 1) else v
def mrc (A : Nat → Nat → Int32) (L : Nat → Nat) (t : Nat) : Nat → Nat → Int32 → Int32
  | 0, _, v => v
  | n + 1, s, v => mrc A L t n (s + 1) (mrc2 A L t s (mrc1 A L t s v))
def mrcs (A : Nat → Nat → Int32) (L : Nat → Nat) : Nat → Nat → Int32 → Int32
  | 0, _, v => v
  | n + 1, t, v => mrcs A L n (t + 1) (mrc A L t (L 0) 0 v)
/-- the place of x in the order of segment g -/
def gPos (q : Nat → Nat) (g x : Nat) : Nat → Nat → Nat
  | 0, k => k
  | n + 1, k => if q (8 * g + k) = x then k else gPos q g x n (k + 1)
def gMo (q : Nat → Nat) (M x y : Nat) : Nat → Nat → Bool
  | 0, _ => true
  | n + 1, g => if gPos q g x M 0 + 1 < M ∧ q (8 * g + gPos q g x M 0 + 1) = y then gMo q M x y n (g + 1) else false
def gSw (x y v : Nat) : Nat := if v = x then y else if v = y then x else v
def gC1 (x y g : Nat) : Nat → Nat → (Nat → Nat) → Nat → Nat
  | 0, _, q => q
  | n + 1, k, q => gC1 x y g n (k + 1) (va_up q (8 * g + k) (gSw x y (q (8 * g + k))))
def gC2 (M x y : Nat) : Nat → Nat → (Nat → Nat) → Nat → Nat
  | 0, _, q => q
  | n + 1, g, q => gC2 M x y n (g + 1) (gC1 x y g M 0 q)
section
variable {ε : Nat × (Nat → Int32)} {d : Nat} {Q : zQ} {o ot it : Value} {IF A : Nat → Nat → Int32} {AL : Nat → Nat → Int64} {AD : Nat → Nat → UInt64} {L p p' q : Nat → Nat} {ac : Bool}
theorem cl_mds (hV : mV L p p' A) {t : Nat} (ht : t < L 1) : ∀ (n i : Nat) (v : Int32) (c : Int32), i + n = L 0 → c = nI i → zW ε false (d + 2) 168 58 [(0, .ref 32), (1, .int (mds A L t n i v)), (2, .int (nI t))] [] (zM o ot it IF A AL AD) 0 0 Q → zW ε false (d + 2) 168 20 [(0, .ref 32), (1, .int v), (2, .int (nI t)), (3, .int c)] [] (zM o ot it IF A AL AD) 0 0 Q := by
  have hB := hV.2.2.1
  intro n
  induction n with
  | zero =>
    intro i v c hi hc hq
    refine zrun 4 ?_
    refine zW_ildv (n := 0) rfl rfl rfl (by decide) (by decide) (lf_at hV.1.1 0) ?_
    refine zrun 1 (zb_ge hc rfl (by omega) (by omega) (fun _ => ?_) (fun q => absurd q (by omega)))
    exact zfg [0, 1, 2] (zloc [(0, _), (1, _), (2, _)] rfl (hq))
  | succ n ih =>
    intro i v c hi hc hq
    subst hc
    refine zrun 4 ?_
    refine zW_ildv (n := 0) rfl rfl rfl (by decide) (by decide) (lf_at hV.1.1 0) ?_
    refine zrun 1 (zb_ge rfl rfl (by omega) (by omega) (fun q => absurd q (by omega)) (fun _ => ?_))
    refine zrun 5 ⟨⟨Nat.le_of_ble_eq_true rfl, Nat.le_of_ble_eq_true rfl, rfl⟩, ?_⟩
    refine c_marr hV.1.1 hV.2.1 rfl rfl (by omega) (by omega) ⟨rfl, ?_⟩
    refine zrun 1 (zb_f rfl (fun g => ?_) (fun g => ?_))
    · exact zrun 5 (zloc [(0, _), (1, _), (2, _), (3, _)] rfl (ih (i + 1) (v + 0) (nI i + 1) (by omega) (nI_1 i) (by unfold mds at hq; rw [g] at hq; exact hq)))
    · refine zrun 4 ⟨⟨Nat.le_of_ble_eq_true rfl, Nat.le_of_ble_eq_true rfl, rfl⟩, ?_⟩
      refine c_lateAt rfl rfl (by omega) (by omega) ⟨rfl, ?_⟩
      exact zrun 5 (zloc [(0, _), (1, _), (2, _), (3, _)] rfl (ih (i + 1) _ (nI i + 1) (by omega) (nI_1 i) (by unfold mds at hq; rw [g] at hq; exact hq)))
theorem cl_mds2 (hV : mV L p p' A) : ∀ (n i : Nat) (v : Int32) (c : Int32), i + n = L 1 → c = nI i → Q (.inl (some (.int (mds2 A L n i v)))) (zM o ot it IF A AL AD) → zW ε false (d + 2) 168 8 [(0, .ref 32), (1, .int v), (2, .int c)] [] (zM o ot it IF A AL AD) 0 0 Q := by
  have hB := hV.2.2.1
  intro n
  induction n with
  | zero =>
    intro i v c hi hc hq
    refine zrun 4 ?_
    refine zW_ildv (n := 1) rfl rfl rfl (by decide) (by decide) (lf_at hV.1.1 1) ?_
    refine zrun 1 (zb_ge hc rfl (by omega) (by omega) (fun _ => ?_) (fun q => absurd q (by omega)))
    exact zrun 2 (hq)
  | succ n ih =>
    intro i v c hi hc hq
    subst hc
    refine zrun 4 ?_
    refine zW_ildv (n := 1) rfl rfl rfl (by decide) (by decide) (lf_at hV.1.1 1) ?_
    refine zrun 1 (zb_ge rfl rfl (by omega) (by omega) (fun q => absurd q (by omega)) (fun _ => ?_))
    exact zrun 2 (zloc [(0, _), (1, _), (2, _), (3, _)] rfl (cl_mds hV (by omega) (L 0) 0 v 0 (by omega) nI_0.symm (zrun 2 (zloc [(0, _), (1, _), (2, _)] rfl (ih (i + 1) _ (nI i + 1) (by omega) (nI_1 i) hq)))))
theorem c_delays (hV : mV L p p' A) (hq : Q (.inl (some (.int (mds2 (mLw L p p' A) L (L 1) 0 0)))) (zMm true (yU 32 27 1 IF) (mLw L p p' A) AL AD)) : zW ε false (d + 7) 168 0 [(0, .ref 32)] [] (zM o ot it IF A AL AD) 0 0 Q := by
  refine zrun 2 ⟨⟨Nat.le_of_ble_eq_true rfl, Nat.le_of_ble_eq_true rfl, rfl⟩, ?_⟩
  refine c_laysActual hV ⟨rfl, ?_⟩
  exact zrun 4 (zloc [(0, _), (1, _), (2, _)] rfl (cl_mds2 (d := d + 5) (mV_lw hV) (L 1) 0 0 0 (by omega) nI_0.symm hq))
theorem cl_mls (hV : mV L p p' A) {th : Int32} : ∀ (n i : Nat) (v : Int32) (c : Int32), i + n = L 1 → c = nI i → Q (.inl (some (.int (mls A L th n i v)))) (zM o ot it IF A AL AD) → zW ε false (d + 2) 191 8 [(0, .ref 32), (1, .int th), (2, .int v), (3, .int c)] [] (zM o ot it IF A AL AD) 0 0 Q := by
  have hB := hV.2.2.1
  intro n
  induction n with
  | zero =>
    intro i v c hi hc hq
    refine zrun 4 ?_
    refine zW_ildv (n := 1) rfl rfl rfl (by decide) (by decide) (lf_at hV.1.1 1) ?_
    refine zrun 1 (zb_ge hc rfl (by omega) (by omega) (fun _ => ?_) (fun q => absurd q (by omega)))
    exact zrun 2 (hq)
  | succ n ih =>
    intro i v c hi hc hq
    subst hc
    have hT := hV.2.2.2.2.2.2 i (by omega)
    refine zrun 4 ?_
    refine zW_ildv (n := 1) rfl rfl rfl (by decide) (by decide) (lf_at hV.1.1 1) ?_
    refine zrun 1 (zb_ge rfl rfl (by omega) (by omega) (fun q => absurd q (by omega)) (fun _ => ?_))
    refine zrun 7 ⟨⟨Nat.le_of_ble_eq_true rfl, Nat.le_of_ble_eq_true rfl, rfl⟩, ?_⟩
    refine c_mof (w := 1) hV.1.1 rfl rfl (by omega) ⟨rfl, ?_⟩
    refine zrun 1 ⟨⟨Nat.le_of_ble_eq_true rfl, Nat.le_of_ble_eq_true rfl, rfl⟩, ?_⟩
    refine c_lateAt rfl rfl (by omega) (by omega) ⟨rfl, ?_⟩
    refine zrun 2 ⟨(fun g => ?_), (fun g => ?_)⟩
    · exact zrun 5 (zloc [(0, _), (1, _), (2, _), (3, _)] rfl (ih (i + 1) _ (nI i + 1) (by omega) (nI_1 i) (by unfold mls at hq; rw [if_pos (show A 45 (8 * i + tr L i 1) - A 43 (8 * i + tr L i 1) ≤ th from g)] at hq; exact hq)))
    · exact zrun 8 (zloc [(0, _), (1, _), (2, _), (3, _)] rfl (ih (i + 1) _ (nI i + 1) (by omega) (nI_1 i) (by unfold mls at hq; rw [if_neg (show ¬ A 45 (8 * i + tr L i 1) - A 43 (8 * i + tr L i 1) ≤ th from g)] at hq; exact hq)))
theorem c_mlateSet (hV : mV L p p' A) {th : Int32} (hq : Q (.inl (some (.int (mls (mLw L p p' A) L th (L 1) 0 0)))) (zMm true (yU 32 27 1 IF) (mLw L p p' A) AL AD)) : zW ε false (d + 7) 191 0 [(0, .ref 32), (1, .int th)] [] (zM o ot it IF A AL AD) 0 0 Q := by
  refine zrun 2 ⟨⟨Nat.le_of_ble_eq_true rfl, Nat.le_of_ble_eq_true rfl, rfl⟩, ?_⟩
  refine c_laysActual hV ⟨rfl, ?_⟩
  exact zrun 4 (zloc [(0, _), (1, _), (2, _), (3, _)] rfl (cl_mls (d := d + 5) (mV_lw hV) (L 1) 0 0 0 (by omega) nI_0.symm hq))
theorem gPos_k {g x : Nat} : ∀ (n k : Nat), k ≤ gPos q g x n k ∧ gPos q g x n k ≤ k + n
  | 0, k => ⟨Nat.le_refl _, Nat.le_refl _⟩
  | n + 1, k => by
    unfold gPos
    have := gPos_k (g := g) (x := x) n (k + 1)
    split <;> omega
theorem cl_mo29 (hq8 : A (mo ac) = lf q) {g x y s : Nat} (hg : g < 7) (hx8 : x < 8) : ∀ (n k : Nat) (c : Int32), (∀ j, j < k + n → q (8 * g + j) < 8) → k + n ≤ 8 → (∃ j, k ≤ j ∧ j < k + n ∧ q (8 * g + j) = x) → c = nI k → zW ε false d 178 49 [(0, .ref 32), (1, .ref (mo ac)), (2, .int (nI s)), (3, .int (nI x)), (4, .int (nI y)), (5, .int (nI g)), (6, .int (nI (gPos q g x n k)))] [] (zM o ot it IF A AL AD) 0 0 Q → zW ε false d 178 29 [(0, .ref 32), (1, .ref (mo ac)), (2, .int (nI s)), (3, .int (nI x)), (4, .int (nI y)), (5, .int (nI g)), (6, .int c)] [] (zM o ot it IF A AL AD) 0 0 Q := by
  intro n
  induction n with
  | zero =>
    intro k c h8 hk hj hc hq
    obtain ⟨j, h1, h2, _⟩ := hj
    exact absurd h1 (by omega)
  | succ n ih =>
    intro k c h8 hk hj hc hq
    subst hc
    have h8k := h8 k (by omega)
    unfold gPos at hq
    cases ac
    all_goals
      refine zrun 6 ?_
      refine zW_ildv (n := 8 * g + k) rfl rfl (nI8 rfl rfl) (by omega) (by decide) (lf_at hq8 _) ?_
      refine zrun 2 (zb_eq rfl rfl (by omega) (by omega) (fun g1 => ?_) (fun g1 => ?_))
      · exact zpc 49 (by decide) (by rw [if_pos g1] at hq; exact hq)
      · exact zrun 2 (zloc [(0, _), (1, _), (2, _), (3, _), (4, _), (5, _), (6, _)] rfl (ih (k + 1) (nI k + 1) (fun j hj => h8 j (by omega)) (by omega) (by obtain ⟨j, h1, h2, h3⟩ := hj; exact ⟨j, by rcases Nat.lt_or_ge k j with z | z; exact z; exact absurd (show j = k by omega) (fun e => g1 (e ▸ h3)), by omega, h3⟩) (nI_1 k) (by rw [if_neg g1] at hq; exact hq)))
theorem cl_mo13 (hV : mV L p p' A) (hq8 : A (mo ac) = lf q) {x y s : Nat} (h8 : ∀ g, g < L 0 - 1 → ∀ k, k < L 1 → q (8 * g + k) < 8) (hx : x < 8) (hy : y < 8) (hsur : ∀ g, g < L 0 - 1 → ∃ j, j < L 1 ∧ q (8 * g + j) = x) : ∀ (n g : Nat) (c : Int32), g + n = L 0 - 1 → c = nI g → Q (.inl (some (.int (zbo (gMo q (L 1) x y n g))))) (zM o ot it IF A AL AD) → zW ε false d 178 13 [(0, .ref 32), (1, .ref (mo ac)), (2, .int (nI s)), (3, .int (nI x)), (4, .int (nI y)), (5, .int c)] [] (zM o ot it IF A AL AD) 0 0 Q := by
  have hB := hV.2.2.1
  have hS' : nI (L 0) - 1 = nI (L 0 - 1) := nIp rfl (by omega)
  intro n
  induction n with
  | zero =>
    intro g c hg hc hq
    cases ac
    all_goals
      refine zrun 4 ?_
      refine zW_ildv (n := 0) rfl rfl rfl (by decide) (by decide) (lf_at hV.1.1 0) ?_
      refine zrun 3 (zb_ge hc hS' (by omega) (by omega) (fun _ => ?_) (fun q => absurd q (by omega)))
      exact zrun 2 (⟨rfl, hq⟩)
  | succ n ih =>
    intro g c hg hc hq
    subst hc
    have h8g := h8 g (by omega)
    obtain ⟨j, hj1, hj2⟩ := hsur g (by omega)
    have hP := gPos_k (q := q) (g := g) (x := x) (L 1) 0
    unfold gMo at hq
    generalize hk : gPos q g x (L 1) 0 = k at hq hP
    have f29 := fun (s : Nat) q1 => cl_mo29 (ε := ε) (d := d) (Q := Q) (o := o) (ot := ot) (it := it) (IF := IF) (AL := AL) (AD := AD) hq8 (g := g) (y := y) (s := s) (by omega) hx (L 1) 0 0 (fun j hj => h8g j (by omega)) (by omega) ⟨j, by omega, by omega, hj2⟩ nI_0.symm q1
    rw [hk] at f29
    cases ac
    all_goals
      refine zrun 4 ?_
      refine zW_ildv (n := 0) rfl rfl rfl (by decide) (by decide) (lf_at hV.1.1 0) ?_
      refine zrun 3 (zb_ge rfl hS' (by omega) (by omega) (fun q => absurd q (by omega)) (fun _ => ?_))
      refine zrun 2 (zloc [(0, _), (1, _), (2, _), (3, _), (4, _), (5, _), (6, _)] rfl (f29 s ?_))
      refine zrun 6 ?_
      refine zW_ildv (n := 1) rfl rfl rfl (by decide) (by decide) (lf_at hV.1.1 1) ?_
      refine zrun 1 (zb_ge (nI_1 k) rfl (by omega) (by omega) (fun g1 => ?_) (fun g1 => ?_))
      · exact zrun 2 (⟨rfl, by rw [if_neg (fun z => by omega)] at hq; exact hq⟩)
      · refine zrun 8 ?_
        refine zW_ildv (n := 8 * g + k + 1) rfl rfl (show (8 : Int32) * nI g + nI k + 1 = _ by rw [nI8 rfl rfl, nI_1]) (by omega) (by decide) (lf_at hq8 _) ?_
        refine zrun 2 (zb_eq rfl rfl (Nat.lt_trans (h8g (k + 1) g1) (by decide)) (by omega) (fun g2 => ?_) (fun g2 => ?_))
        · exact zrun 2 (zfg [0, 1, 2, 3, 4, 5] (zloc [(0, _), (1, _), (2, _), (3, _), (4, _), (5, _)] rfl (ih (g + 1) (nI g + 1) (by omega) (nI_1 g) (by rw [if_pos ⟨g1, g2⟩] at hq; exact hq))))
        · exact zrun 2 (⟨rfl, by rw [if_neg (fun z => g2 z.2)] at hq; exact hq⟩)
theorem c_mayOvertake (hV : mV L p p' A) (hq8 : A (mo ac) = lf q) {x y s : Nat} {w a b : Int32} (hw : w = nI s) (ha : a = nI x) (hb : b = nI y) (hs : s < L 0 - 1) (h8 : ∀ g, g < L 0 - 1 → ∀ k, k < L 1 → q (8 * g + k) < 8) (hx : x < 8) (hy : y < 8) (hsur : ∀ g, g < L 0 - 1 → ∃ j, j < L 1 ∧ q (8 * g + j) = x) (hq : Q (.inl (some (.int (zbo (decide (¬ L (5 + s) = 0) && gMo q (L 1) x y (L 0 - 1 - s) s))))) (zM o ot it IF A AL AD)) : zW ε false (d + 1) 178 0 [(0, .ref 32), (1, .ref (mo ac)), (2, .int w), (3, .int a), (4, .int b)] [] (zM o ot it IF A AL AD) 0 0 Q := by
  have hB := hV.2.2.1
  subst hw
  subst ha
  subst hb
  have k13 := fun c hc q1 => cl_mo13 (ε := ε) (d := d + 1) (Q := Q) (o := o) (ot := ot) (it := it) (IF := IF) (AL := AL) (AD := AD) hV hq8 (s := s) h8 hx hy hsur (L 0 - 1 - s) s c (by omega) hc q1
  cases ac
  all_goals
    refine zrun 3 ⟨⟨Nat.le_of_ble_eq_true rfl, Nat.le_of_ble_eq_true rfl, rfl⟩, ?_⟩
    refine c_isPlain hV.1.1 hV.2.1 rfl (by omega) (fun v hv => ⟨rfl, ?_⟩)
    refine zrun 1 (zb_f rfl (fun g => ?_) (fun g => ?_))
    · exact zrun 2 (zloc [(0, _), (1, _), (2, _), (3, _), (4, _), (5, _)] rfl (k13 _ rfl (by rw [decide_eq_true (show ¬ L (5 + s) = 0 from fun z => by rw [hv.mpr z] at g; exact Bool.noConfusion g)] at hq; exact hq)))
    · exact zrun 2 (⟨rfl, by rw [decide_eq_false (fun z => z (hv.mp g))] at hq; exact hq⟩)
theorem gSw_lt {x y v n : Nat} (hx : x < n) (hy : y < n) (hv : v < n) : gSw x y v < n := by
  unfold gSw
  split
  · exact hy
  · split <;> assumption
theorem cl_ch19 (hV : mV L p p' A) {x y s g : Nat} (hg : g < 7) (hx : x < 8) (hy : y < 8) : ∀ (n k : Nat) (q : Nat → Nat) (c : Int32), k + n = L 1 → c = nI k → (∀ j, j < L 1 → q (8 * g + j) < 8) → zW ε false d 179 82 [(0, .ref 32), (1, .ref (mo ac)), (2, .int (nI s)), (3, .int (nI x)), (4, .int (nI y)), (5, .int (nI g))] [] (zM o ot it IF (va_up A (mo ac) (lf (gC1 x y g n k q))) AL AD) 0 0 Q → zW ε false d 179 19 [(0, .ref 32), (1, .ref (mo ac)), (2, .int (nI s)), (3, .int (nI x)), (4, .int (nI y)), (5, .int (nI g)), (6, .int c)] [] (zM o ot it IF (va_up A (mo ac) (lf q)) AL AD) 0 0 Q := by
  have hB := hV.2.2.1
  intro n
  induction n with
  | zero =>
    intro k q c hk hc h8 hq
    cases ac
    all_goals
      refine zrun 4 ?_
      refine zW_ildv (n := 1) rfl rfl rfl (by decide) (by decide) (lf_at hV.1.1 1) ?_
      refine zrun 1 (zb_ge hc rfl (by omega) (by omega) (fun _ => ?_) (fun q => absurd q (by omega)))
      exact zfg [0, 1, 2, 3, 4, 5] (zloc [(0, _), (1, _), (2, _), (3, _), (4, _), (5, _)] rfl (zpc 82 (by decide) hq))
  | succ n ih =>
    intro k q c hk hc h8 hq
    subst hc
    have h8k := h8 k (by omega)
    unfold gC1 at hq
    have next := ih (k + 1) (va_up q (8 * g + k) (gSw x y (q (8 * g + k)))) (nI k + 1) (by omega) (nI_1 k) (fun j hj => by
      by_cases e : 8 * g + j = 8 * g + k
      · rw [e, vu_s]; exact gSw_lt hx hy h8k
      · rw [vu_n e]; exact h8 j hj) hq
    have e1 : q (8 * g + k) = x → nI y = nI (gSw x y (q (8 * g + k))) := fun z => by unfold gSw; rw [if_pos z]
    have e2 : ¬ q (8 * g + k) = x → q (8 * g + k) = y → nI x = nI (gSw x y (q (8 * g + k))) := fun z z2 => by unfold gSw; rw [if_neg z, if_pos z2]
    have e3 : ¬ q (8 * g + k) = x → ¬ q (8 * g + k) = y → nI (q (8 * g + k)) = nI (gSw x y (q (8 * g + k))) := fun z z2 => by unfold gSw; rw [if_neg z, if_neg z2]
    cases ac
    all_goals
      refine zrun 4 ?_
      refine zW_ildv (n := 1) rfl rfl rfl (by decide) (by decide) (lf_at hV.1.1 1) ?_
      refine zrun 1 (zb_ge rfl rfl (by omega) (by omega) (fun q => absurd q (by omega)) (fun _ => ?_))
      refine zrun 6 ?_
      refine zW_ildv (n := 8 * g + k) rfl rfl (nI8 rfl rfl) (by omega) (by decide) rfl ?_
      refine zrun 9 (zloc [(0, _), (1, _), (2, _), (3, _), (4, _), (5, _), (6, _), (7, _)] rfl ?_)
      refine zrun 1 (zb_ne rfl rfl (by omega) (by omega) (fun g1 => ?_) (fun g1 => ?_))
      · refine zrun 3 (zb_ne rfl rfl (by omega) (by omega) (fun g2 => ?_) (fun g2 => ?_))
        · refine zrun 1 ?_
          refine zW_istq (n := 8 * g + k) rfl rfl (nI8 rfl rfl) (by omega) (by decide) (e3 g1 g2) ?_
          exact zrun 2 ((zfg [0, 1, 2, 3, 4, 5, 6] (zloc [(0, _), (1, _), (2, _), (3, _), (4, _), (5, _), (6, _)] rfl next)))
        · refine zrun 2 ?_
          refine zW_istq (n := 8 * g + k) rfl rfl (nI8 rfl rfl) (by omega) (by decide) (e2 g1 g2) ?_
          exact zrun 2 ((zfg [0, 1, 2, 3, 4, 5, 6] (zloc [(0, _), (1, _), (2, _), (3, _), (4, _), (5, _), (6, _)] rfl next)))
      · refine zrun 2 ?_
        refine zW_istq (n := 8 * g + k) rfl rfl (nI8 rfl rfl) (by omega) (by decide) (e1 g1) ?_
        exact zrun 2 ((zfg [0, 1, 2, 3, 4, 5, 6] (zloc [(0, _), (1, _), (2, _), (3, _), (4, _), (5, _), (6, _)] rfl next)))
theorem gC1_lt {x y g M m : Nat} (hx : x < m) (hy : y < m) : ∀ (n k : Nat) (q : Nat → Nat), k + n ≤ M → (∀ j, j < M → q (8 * g + j) < m) → ∀ j, j < M → gC1 x y g n k q (8 * g + j) < m
  | 0, _, _, _, h, j, hj => h j hj
  | n + 1, k, q, hk, h, j, hj => gC1_lt hx hy n (k + 1) _ (by omega) (fun i hi => by
      by_cases e : 8 * g + i = 8 * g + k
      · rw [e, vu_s]; exact gSw_lt hx hy (h k (by omega))
      · rw [vu_n e]; exact h i hi) j hj
theorem gC1_n {x y g e : Nat} : ∀ (n k : Nat) (q : Nat → Nat), (e < 8 * g + k ∨ 8 * g + k + n ≤ e) → gC1 x y g n k q e = q e
  | 0, _, _, _ => rfl
  | n + 1, k, q, h => by
    unfold gC1
    rw [gC1_n n (k + 1) _ (by omega), vu_n (by omega)]
theorem cl_ch3 (hV : mV L p p' A) {x y s : Nat} (hx : x < 8) (hy : y < 8) : ∀ (n g : Nat) (q : Nat → Nat) (c : Int32), g + n = L 0 - 1 → c = nI g → (∀ h, h < L 0 - 1 → ∀ j, j < L 1 → q (8 * h + j) < 8) → Q (.inl none) (zM o ot it IF (va_up A (mo ac) (lf (gC2 (L 1) x y n g q))) AL AD) → zW ε false d 179 3 [(0, .ref 32), (1, .ref (mo ac)), (2, .int (nI s)), (3, .int (nI x)), (4, .int (nI y)), (5, .int c)] [] (zM o ot it IF (va_up A (mo ac) (lf q)) AL AD) 0 0 Q := by
  have hB := hV.2.2.1
  have hS' : nI (L 0) - 1 = nI (L 0 - 1) := nIp rfl (by omega)
  intro n
  induction n with
  | zero =>
    intro g q c hg hc h8 hq
    cases ac
    all_goals
      refine zrun 4 ?_
      refine zW_ildv (n := 0) rfl rfl rfl (by decide) (by decide) (lf_at hV.1.1 0) ?_
      refine zrun 3 (zb_ge hc hS' (by omega) (by omega) (fun _ => ?_) (fun q => absurd q (by omega)))
      exact zrun 1 (hq)
  | succ n ih =>
    intro g q c hg hc h8 hq
    subst hc
    unfold gC2 at hq
    have next := ih (g + 1) (gC1 x y g (L 1) 0 q) (nI g + 1) (by omega) (nI_1 g) (fun h hh j hj => by
      by_cases e : h = g
      · subst e; exact gC1_lt hx hy (L 1) 0 q (by omega) (h8 h hh) j hj
      · rw [gC1_n _ _ _ (by omega)]; exact h8 h hh j hj) hq
    have k19 := fun q1 => cl_ch19 (ε := ε) (d := d) (Q := Q) (o := o) (ot := ot) (it := it) (IF := IF) (AL := AL) (AD := AD) (ac := ac) hV (s := s) (show g < 7 by omega) hx hy (L 1) 0 q 0 (by omega) nI_0.symm (h8 g (by omega)) q1
    cases ac
    all_goals
      refine zrun 4 ?_
      refine zW_ildv (n := 0) rfl rfl rfl (by decide) (by decide) (lf_at hV.1.1 0) ?_
      refine zrun 3 (zb_ge rfl hS' (by omega) (by omega) (fun q => absurd q (by omega)) (fun _ => ?_))
      exact zrun 2 (zloc [(0, _), (1, _), (2, _), (3, _), (4, _), (5, _), (6, _)] rfl (k19 (zrun 2 (zloc [(0, _), (1, _), (2, _), (3, _), (4, _), (5, _)] rfl next))))
theorem c_change (hV : mV L p p' A) (hq8 : A (mo ac) = lf q) {x y s : Nat} {w a b : Int32} (hw : w = nI s) (ha : a = nI x) (hb : b = nI y) (hs : s < L 0 - 1) (h8 : ∀ g, g < L 0 - 1 → ∀ k, k < L 1 → q (8 * g + k) < 8) (hx : x < 8) (hy : y < 8) (hq : Q (.inl none) (zM o ot it IF (va_up A (mo ac) (lf (gC2 (L 1) x y (L 0 - 1 - s) s q))) AL AD)) : zW ε false d 179 0 [(0, .ref 32), (1, .ref (mo ac)), (2, .int w), (3, .int a), (4, .int b)] [] (zM o ot it IF A AL AD) 0 0 Q := by
  subst hw
  subst ha
  subst hb
  have k3 := cl_ch3 (ε := ε) (d := d) (Q := Q) (o := o) (ot := ot) (it := it) (IF := IF) (AL := AL) (AD := AD) (ac := ac) hV (s := s) hx hy (L 0 - 1 - s) s q (nI s) (by omega) rfl h8 hq
  rw [vu_eq hq8] at k3
  exact zrun 2 (zloc [(0, _), (1, _), (2, _), (3, _), (4, _), (5, _)] rfl k3)
end
