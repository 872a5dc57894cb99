/-! Tokens: what the parser asks for -/
def yB (IF : Nat → Nat → Int32) : Nat := (IF 2 5).toBitVec.toNat
def yE (IF : Nat → Nat → Int32) : Nat := (IF 2 6).toBitVec.toNat
def yT (T : Nat → Nat) (n : Nat) (IF : Nat → Nat → Int32) : Nat → Nat → Int32 := ytk (tkk T n (tkb T n (yE IF))) (nI (tkb T n (yE IF))) (nI (tke T n (tkb T n (yE IF)))) IF
def yOk (n : Nat) (IF : Nat → Nat → Int32) : Prop := IF 2 0 = nI n ∧ IF 2 5 = nI (yB IF) ∧ IF 2 6 = nI (yE IF) ∧ yB IF ≤ yE IF ∧ yE IF ≤ n
theorem tke_le {T : Nat → Nat} {n b : Nat} (h : b ≤ n) : b ≤ tke T n b ∧ tke T n b ≤ n := by
  unfold tke
  have h1 := tw_le (P := yl) (T := T) (n := n) (n - b) b
  have h2 := tw_le (P := yd) (T := T) (n := n) (n - b) b
  by_cases hb : b < n
  · rw [if_pos hb]
    cases yl (tb T n b)
    · cases yd (tb T n b)
      · dsimp only [cond]; omega
      · dsimp only [cond]; omega
    · dsimp only [cond]; omega
  · rw [if_neg hb]; omega
theorem tkb_le {T : Nat → Nat} {n p : Nat} (h : p ≤ n) : p ≤ tkb T n p ∧ tkb T n p ≤ n := by
  have h1 := tw_le (P := yw) (T := T) (n := n) (n - p) p
  unfold tkb
  omega
theorem yT_5 {T : Nat → Nat} {n : Nat} {IF : Nat → Nat → Int32} : yT T n IF 2 5 = nI (tkb T n (yE IF)) := rfl
theorem yT_6 {T : Nat → Nat} {n : Nat} {IF : Nat → Nat → Int32} : yT T n IF 2 6 = nI (tke T n (tkb T n (yE IF))) := rfl
theorem yOk_T {T : Nat → Nat} {n : Nat} (hn5 : n ≤ 500) {IF : Nat → Nat → Int32} (h : yOk n IF) : yOk n (yT T n IF) ∧ yB (yT T n IF) = tkb T n (yE IF) ∧ yE (yT T n IF) = tke T n (tkb T n (yE IF)) := by
  obtain ⟨h0, h5, h6, hbe, hen⟩ := h
  have hb := tkb_le (T := T) hen
  have he := tke_le (T := T) hb.2
  have e5 : yB (yT T n IF) = tkb T n (yE IF) := by unfold yB; rw [yT_5, pk_tn (by omega)]
  have e6 : yE (yT T n IF) = tke T n (tkb T n (yE IF)) := by
    show (yT T n IF 2 6).toBitVec.toNat = _
    rw [yT_6, pk_tn (by omega)]
  refine ⟨⟨h0, ?_, ?_, ?_, ?_⟩, e5, e6⟩
  · rw [e5]; rfl
  · rw [e6]; rfl
  · rw [e5, e6]; exact he.1
  · rw [e6]; exact he.2
theorem yF_ne {pos code : Int32} {IF : Nat → Nat → Int32} {c j : Nat} (h : ¬ (c = 2 ∧ (j = 1 ∨ j = 2))) : yF pos code IF c j = IF c j := by
  unfold yF
  split
  · rw [yU_n (fun q => h ⟨q.1, Or.inr q.2⟩), yU_n (fun q => h ⟨q.1, Or.inl q.2⟩)]
  · rfl
theorem yOk_F {pos code : Int32} {n : Nat} {IF : Nat → Nat → Int32} (h : yOk n IF) : yOk n (yF pos code IF) := by
  unfold yOk yB yE at *
  rw [yF_ne (c := 2) (j := 0) (by omega), yF_ne (c := 2) (j := 5) (by omega), yF_ne (c := 2) (j := 6) (by omega)]
  exact h
def yIs (T : Nat → Nat) (n : Nat) (w : List Nat) (IF : Nat → Nat → Int32) : Bool := (decide (IF 2 1 = 0) && decide (IF 2 4 = 1)) && tis T n (yB IF) (yE IF) w
def yNu (IF : Nat → Nat → Int32) : Bool := decide (IF 2 1 = 0) && decide (IF 2 4 = 2)
/-- the value of a number -/
def yv (T : Nat → Nat) (n : Nat) : Nat → Nat → Int32 → Int32
  | 0, _, v => v
  | k + 1, p, v => yv T n k (p + 1) (10 * v + tb T n p - 48)
def yV (T : Nat → Nat) (n : Nat) (IF : Nat → Nat → Int32) : Int32 := yv T n (yE IF - yB IF) (yB IF) 0
/-- needNumber: the answer, the tokens -/
def yN (T : Nat → Nat) (n : Nat) (lo hi : Int32) (IF : Nat → Nat → Int32) : Int32 × (Nat → Nat → Int32) :=
  if yNu IF = true then (if yV T n IF < lo ∨ ¬ yV T n IF ≤ hi then (0, yF (IF 2 5) 2 IF) else (yV T n IF, yT T n IF)) else (0, yF (IF 2 5) 1 IF)
def ySe (T : Nat → Nat) (n : Nat) (IF : Nat → Nat → Int32) : Nat → Nat → Int32 := if IF 2 1 = 0 ∧ IF 2 4 = 3 then yT T n IF else yF (IF 2 5) 1 IF
def yEn (IF : Nat → Nat → Int32) : Nat → Nat → Int32 := if IF 2 4 = 0 then IF else yF (IF 2 5) 1 IF
def yBg (IF : Nat → Nat → Int32) : Nat → Nat → Int32 := yU 2 6 0 (yU 2 2 (-1) (yU 2 1 0 IF))
section
variable {ε : Nat × (Nat → Int32)} {d : Nat} {Q : zQ} {o ot it : Value} {AL : Nat → Nat → Int64} {AD : Nat → Nat → UInt64} {A IF : Nat → Nat → Int32} {T : Nat → Nat} {n : Nat}
theorem c_tkT (hn5 : n ≤ 500) (hT : ∀ p, p < n → A 3 p &&& 255 = nI (T p)) (h : yOk n IF) (hq : Q (.inl none) (zM o ot it (yT T n IF) A AL AD)) : zW ε false (d + 1) 66 0 [(0, .ref 2)] [] (zM o ot it IF A AL AD) 0 0 Q := c_tk hn5 hT h.1 h.2.2.1 h.2.2.2.2 hq
theorem c_takesWord (hn5 : n ≤ 500) (hT : ∀ p, p < n → A 3 p &&& 255 = nI (T p)) (h : yOk n IF) {i : Nat} (hi : i ≤ 33) (hl : (zsg i).length < 2 ^ 31) (hq : Q (.inl (some (.int (zbo (yIs T n (zsg i) IF))))) (zM o ot it (cond (yIs T n (zsg i) IF) (yT T n IF) IF) A AL AD)) : zW ε false (d + 5) 72 0 [(0, .ref 2), (1, .ref (1000 + i))] [] (zM o ot it IF A AL AD) 0 0 Q := by
  refine zrun 3 ⟨⟨Nat.zero_le _, Nat.zero_le _, rfl⟩, ?_⟩
  refine c_isWord hn5 hT h.1 h.2.1 h.2.2.1 h.2.2.2.1 h.2.2.2.2 hi hl (fun v hv => ⟨rfl, ?_⟩)
  rw [show yIs T n (zsg i) IF = v from hv.symm] at hq
  refine zrun 1 (zloc [(0, _), (1, _), (2, _)] rfl ?_)
  refine zrun 2 (zb_f rfl (fun g => ?_) (fun g => ?_))
  · subst g
    exact zrun 2 ⟨rfl, hq⟩
  · subst g
    refine zrun 2 ⟨⟨Nat.zero_le _, Nat.zero_le _, rfl⟩, ?_⟩
    refine c_tkT hn5 hT h ⟨rfl, ?_⟩
    exact zrun 2 ⟨rfl, hq⟩
theorem c_needWord (hn5 : n ≤ 500) (hT : ∀ p, p < n → A 3 p &&& 255 = nI (T p)) (h : yOk n IF) {i : Nat} (hi : i ≤ 33) (hl : (zsg i).length < 2 ^ 31) (hq : Q (.inl none) (zM o ot it (cond (yIs T n (zsg i) IF) (yT T n IF) (yF (IF 2 5) 1 IF)) A AL AD)) : zW ε false (d + 6) 73 0 [(0, .ref 2), (1, .ref (1000 + i))] [] (zM o ot it IF A AL AD) 0 0 Q := by
  refine zrun 3 ⟨⟨Nat.zero_le _, Nat.zero_le _, rfl⟩, ?_⟩
  refine c_takesWord hn5 hT h hi hl ⟨rfl, ?_⟩
  refine zrun 1 (zb_t rfl (fun g => ?_) (fun g => ?_))
  · rw [g] at hq ⊢
    exact zrun 1 hq
  · rw [g] at hq ⊢
    refine zrun 3 ⟨⟨Nat.zero_le _, Nat.zero_le _, rfl⟩, ?_⟩
    refine c_fail (IF := IF) ⟨rfl, ?_⟩
    exact zrun 1 hq
theorem cl_nv (hn5 : n ≤ 500) (hT : ∀ p, p < n → A 3 p &&& 255 = nI (T p)) (h : yOk n IF) {lo hi : Int32} : ∀ (k p : Nat) (v c : Int32), p + k = yE IF → c = nI p → (∀ c', zW ε false (d + 3) 74 52 [(0, .ref 2), (1, .int lo), (2, .int hi), (3, .int (yv T n k p v)), (4, .int c')] [] (zM o ot it IF A AL AD) 0 0 Q) → zW ε false (d + 3) 74 22 [(0, .ref 2), (1, .int lo), (2, .int hi), (3, .int v), (4, .int c)] [] (zM o ot it IF A AL AD) 0 0 Q := by
  have hen := h.2.2.2.2
  intro k
  induction k with
  | zero =>
    intro p v c hp hc hh
    refine zrun 4 (zb_ge hc h.2.2.1 (by omega) (by omega) (fun _ => ?_) (fun g => absurd g (by omega)))
    exact zpc 52 (by decide) (hh c)
  | succ k ih =>
    intro p v c hp hc hh
    subst hc
    refine zrun 4 (zb_ge rfl h.2.2.1 (by omega) (by omega) (fun g => absurd g (by omega)) (fun _ => ?_))
    refine zrun 6 ⟨⟨Nat.zero_le _, Nat.zero_le _, rfl⟩, ?_⟩
    refine c_byteAtX h.1 hn5 hT (p := p) rfl (by omega) ⟨rfl, ?_⟩
    refine zrun 6 (zloc [(0, _), (1, _), (2, _), (3, _), (4, _)] rfl ?_)
    exact ih (p + 1) _ (nI p + 1) (by omega) (nI_1 p) hh
theorem c_needNumber (hn5 : n ≤ 500) (hT : ∀ p, p < n → A 3 p &&& 255 = nI (T p)) (h : yOk n IF) {lo hi : Int32} (hq : Q (.inl (some (.int (yN T n lo hi IF).1))) (zM o ot it (yN T n lo hi IF).2 A AL AD)) : zW ε false (d + 3) 74 0 [(0, .ref 2), (1, .int lo), (2, .int hi)] [] (zM o ot it IF A AL AD) 0 0 Q := by
  have hbe := h.2.2.2.1
  unfold yN at hq
  refine zrun 2 ⟨⟨Nat.zero_le _, Nat.zero_le _, rfl⟩, ?_⟩
  refine c_isNumber (fun v hv => ⟨rfl, ?_⟩)
  rw [show yNu IF = v from hv.symm] at hq
  refine zrun 1 (zb_t rfl (fun g => ?_) (fun g => ?_))
  · rw [if_pos g] at hq
    refine zrun 5 (zloc [(0, _), (1, _), (2, _), (3, _), (4, _)] rfl ?_)
    refine cl_nv hn5 hT h (yE IF - yB IF) (yB IF) 0 _ (by omega) h.2.1 (fun c' => ?_)
    refine zrun 3 ⟨fun g1 => ?_, fun g1 => ?_⟩
    · rw [if_pos (Or.inl (show yV T n IF < lo from g1))] at hq
      refine zrun 3 ⟨⟨Nat.zero_le _, Nat.zero_le _, rfl⟩, ?_⟩
      refine c_fail ⟨rfl, ?_⟩
      exact zrun 2 hq
    · refine zrun 3 ⟨fun g2 => ?_, fun g2 => ?_⟩
      · rw [if_neg (fun q => q.elim (show ¬ yV T n IF < lo from g1) (fun z => z (show yV T n IF ≤ hi from g2)))] at hq
        refine zrun 2 ⟨⟨Nat.zero_le _, Nat.zero_le _, rfl⟩, ?_⟩
        refine c_tkT hn5 hT h ⟨rfl, ?_⟩
        exact zrun 2 hq
      · rw [if_pos (Or.inr (show ¬ yV T n IF ≤ hi from g2))] at hq
        refine zrun 3 ⟨⟨Nat.zero_le _, Nat.zero_le _, rfl⟩, ?_⟩
        refine c_fail ⟨rfl, ?_⟩
        exact zrun 2 hq
  · rw [if_neg (by rw [g]; decide)] at hq
    refine zrun 3 ⟨⟨Nat.zero_le _, Nat.zero_le _, rfl⟩, ?_⟩
    refine c_fail ⟨rfl, ?_⟩
    exact zrun 2 hq
theorem c_needSemicolon (hn5 : n ≤ 500) (hT : ∀ p, p < n → A 3 p &&& 255 = nI (T p)) (h : yOk n IF) (hq : Q (.inl none) (zM o ot it (ySe T n IF) A AL AD)) : zW ε false (d + 2) 75 0 [(0, .ref 2)] [] (zM o ot it IF A AL AD) 0 0 Q := by
  unfold ySe at hq
  have fl : ¬ (IF 2 1 = 0 ∧ IF 2 4 = 3) → zW ε false (d + 2) 75 22 [(0, .ref 2)] [] (zM o ot it IF A AL AD) 0 0 Q := by
    intro g
    rw [if_neg g] at hq
    refine zrun 3 ⟨⟨Nat.zero_le _, Nat.zero_le _, rfl⟩, ?_⟩
    refine c_fail ⟨rfl, ?_⟩
    exact zrun 1 hq
  refine zrun 3 ⟨fun g => ?_, fun g => ?_⟩
  · exact zpc 22 (by decide) (fl (fun q => (show ¬ IF 2 1 = 0 from g) q.1))
  · refine zrun 4 ⟨fun g2 => ?_, fun g2 => ?_⟩
    · exact zpc 22 (by decide) (fl (fun q => (show ¬ IF 2 4 = 3 from g2) q.2))
    · rw [if_pos (⟨g, g2⟩ : IF 2 1 = 0 ∧ IF 2 4 = 3)] at hq
      refine zrun 2 ⟨⟨Nat.zero_le _, Nat.zero_le _, rfl⟩, ?_⟩
      refine c_tkT hn5 hT h ⟨rfl, ?_⟩
      exact zrun 2 hq
theorem c_needEnd (hq : Q (.inl none) (zM o ot it (yEn IF) A AL AD)) : zW ε false (d + 2) 76 0 [(0, .ref 2)] [] (zM o ot it IF A AL AD) 0 0 Q := by
  unfold yEn at hq
  refine zrun 3 ⟨fun g => ?_, fun g => ?_⟩
  · rw [if_pos (show IF 2 4 = 0 from g)] at hq
    exact zrun 1 hq
  · rw [if_neg (show ¬ IF 2 4 = 0 from g)] at hq
    refine zrun 3 ⟨⟨Nat.zero_le _, Nat.zero_le _, rfl⟩, ?_⟩
    refine c_fail ⟨rfl, ?_⟩
    exact zrun 1 hq
theorem c_beginTokens (hn5 : n ≤ 500) (hT : ∀ p, p < n → A 3 p &&& 255 = nI (T p)) (hn : IF 2 0 = nI n) (hq : Q (.inl none) (zM o ot it (yT T n (yBg IF)) A AL AD)) : zW ε false (d + 2) 61 0 [(0, .ref 2)] [] (zM o ot it IF A AL AD) 0 0 Q := by
  refine zrun 9 ?_
  refine zrun 2 ⟨⟨Nat.zero_le _, Nat.zero_le _, rfl⟩, ?_⟩
  refine c_tk (IF := yBg IF) hn5 hT hn (p := 0) nI_0.symm (by omega) ⟨rfl, ?_⟩
  exact zrun 1 hq
end
