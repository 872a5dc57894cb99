/-! the reference: rows written by loops; the plan and the run; orders -/
theorem vu_s {α : Type} {A : Nat → α} {k : Nat} {f : α} : va_up A k f k = f := if_pos rfl
theorem vu_n {α : Type} {A : Nat → α} {k j : Nat} {f : α} (h : ¬ j = k) : va_up A k f j = A j := if_neg h
theorem vu_u {α : Type} {A : Nat → α} {k : Nat} {f g : α} : va_up (va_up A k f) k g = va_up A k g := by
  funext j
  unfold va_up
  split <;> rfl
theorem vu_id {α : Type} {A : Nat → α} {k : Nat} : va_up A k (A k) = A := by
  funext j
  unfold va_up
  split
  · next h => rw [h]
  · rfl
theorem vu_eq {α : Type} {A : Nat → α} {k : Nat} {f : α} (h : A k = f) : va_up A k f = A := by rw [← h]; exact vu_id
/-- the first i places are f's, the others g's -/
def cp (i : Nat) (f g : Nat → Int32) : Nat → Int32 := fun j => if j < i then f j else g j
theorem cp_0 (f g : Nat → Int32) : cp 0 f g = g := funext (fun j => if_neg (by omega))
theorem cp_u (i : Nat) (f g : Nat → Int32) : upd (cp i f g) i (f i) = cp (i + 1) f g := by
  funext j
  unfold upd cp
  by_cases h : j = i
  · subst h; rw [if_pos rfl, if_pos (by omega)]
  · rw [if_neg h]
    by_cases h2 : j < i
    · rw [if_pos h2, if_pos (by omega)]
    · rw [if_neg h2, if_neg (by omega)]
theorem cp_lt {i j : Nat} {f g : Nat → Int32} (h : j < i) : cp i f g j = f j := if_pos h
theorem zIn_sub {n k : Nat} (hn : n < 2 ^ 30) (hk : k < 2 ^ 30) {x : Int32} : (¬ x < 0 ∧ ¬ (nI n - nI k) < x) ↔ zIn (n + 1 - k) x := by
  constructor
  · rintro ⟨h0, h1⟩
    obtain ⟨j, hj, rfl⟩ := nI_of h0
    refine ⟨j, ?_, rfl⟩
    rw [Int32.lt_iff_toInt_lt, pk_sub_toInt hn hk, nI_toInt hj] at h1
    omega
  · rintro ⟨j, hj, rfl⟩
    refine ⟨nI_pos (by omega), ?_⟩
    rw [Int32.lt_iff_toInt_lt, pk_sub_toInt hn hk, nI_toInt (by omega)]
    omega
theorem zIn_c {n : Nat} (hn : n < 2 ^ 30) {x : Int32} : (¬ x < 0 ∧ ¬ nI n < x) ↔ zIn (n + 1) x := by
  have h := zIn_sub (k := 0) hn (by omega) (x := x)
  rw [pk_sub (Nat.zero_le n)] at h
  exact h
section
variable {ε : Nat × (Nat → Int32)} {al : Bool} {d y pc : Nat} {l : zL} {r : List Value} {uc us : Nat} {Q : zQ} {o ot it : Value} {IF A : Nat → Nat → Int32} {AL : Nat → Nat → Int64} {AD : Nat → Nat → UInt64}
theorem zW_istq {k n N v : Nat} {q : Nat → Nat} {i x : Int32} (hI : zI y pc = some (.iastore, 1)) (hk : zSh[k]? = some (1, N)) (hi : i = nI n) (hn : n < N) (hN : N < 4001) (hx : x = nI v) (hh : zW ε al d y (pc + 1) l r (zM o ot it IF (va_up A k (lf (va_up q n v))) AL AD) uc us Q) : zW ε al d y pc l (.int x :: .int i :: .ref k :: r) (zM o ot it IF (va_up A k (lf q)) AL AD) uc us Q := by
  subst hx
  refine zW_iast hI hk hi hn hN ?_
  have e : zpA (zM o ot it IF (va_up A k (lf q)) AL AD) k (upd ((va_up A k (lf q)) k) n (nI v)) = zM o ot it IF (va_up A k (lf (va_up q n v))) AL AD := by
    unfold zpA
    rw [vu_s, lf_upd]
    show (zSh, _, _, va_up (va_up A k (lf q)) k _, _, _) = _
    rw [vu_u]
  rw [show zpA (zM o ot it IF (va_up A k (lf q)) AL AD) k (upd ((zM o ot it IF (va_up A k (lf q)) AL AD).2.2.2.1 k) n (nI v)) = _ from e]
  exact hh
theorem zW_istc {k n N : Nat} {f : Nat → Int32} {i x : Int32} (hI : zI y pc = some (.iastore, 1)) (hk : zSh[k]? = some (1, N)) (hi : i = nI n) (hn : n < N) (hN : N < 4001) (hx : x = f n) (hh : zW ε al d y (pc + 1) l r (zM o ot it IF (va_up A k (cp (n + 1) f (A k))) AL AD) uc us Q) : zW ε al d y pc l (.int x :: .int i :: .ref k :: r) (zM o ot it IF (va_up A k (cp n f (A k))) AL AD) uc us Q := by
  subst hx
  refine zW_iast hI hk hi hn hN ?_
  have e : zpA (zM o ot it IF (va_up A k (cp n f (A k))) AL AD) k (upd ((va_up A k (cp n f (A k))) k) n (f n)) = zM o ot it IF (va_up A k (cp (n + 1) f (A k))) AL AD := by
    unfold zpA
    rw [vu_s, cp_u]
    show (zSh, _, _, va_up (va_up A k _) k _, _, _) = _
    rw [vu_u]
  rw [show zpA (zM o ot it IF (va_up A k (cp n f (A k))) AL AD) k (upd ((zM o ot it IF (va_up A k (cp n f (A k))) AL AD).2.2.2.1 k) n (f n)) = _ from e]
  exact hh
end
theorem zheap {ε : Nat × (Nat → Int32)} {al : Bool} {d y pc : Nat} {l : zL} {st : List Value} {h h' : zH} {uc us : Nat} {Q : zQ} (e : h = h') (hh : zW ε al d y pc l st h' uc us Q) : zW ε al d y pc l st h uc us Q := by subst e; exact hh
section
variable {o ot it : Value} {IF A : Nat → Nat → Int32} {AL : Nat → Nat → Int64} {AD : Nat → Nat → UInt64}
theorem zbeq_f {a b : Nat} (h : ¬ a = b) : Nat.beq a b = false := by
  cases e : Nat.beq a b
  · rfl
  · exact absurd (Nat.eq_of_beq_eq_true e) h
theorem zR24 (v : Value) : zpR (zM o ot it IF A AL AD) 32 24 v = zM v ot it IF A AL AD := by
  have e : va_up (zRF o ot it) 32 (va_up (zRF o ot it 32) 24 v) = zRF v ot it := by
    funext k j
    by_cases hk : k = 32
    · subst hk
      rw [vu_s]
      by_cases hj : j = 24
      · subst hj; rw [vu_s]; rfl
      · rw [vu_n hj]
        unfold zRF
        rw [zbeq_f hj, cond_false, cond_false]
    · rw [vu_n hk]
      unfold zRF
      rw [zbeq_f hk, cond_false, cond_false]
  show (zSh, va_up (zRF o ot it) 32 (va_up (zRF o ot it 32) 24 v), IF, A, AL, AD) = _
  rw [e]
theorem zR25 (v : Value) : zpR (zM o ot it IF A AL AD) 32 25 v = zM o v it IF A AL AD := by
  have e : va_up (zRF o ot it) 32 (va_up (zRF o ot it 32) 25 v) = zRF o v it := by
    funext k j
    by_cases hk : k = 32
    · subst hk
      rw [vu_s]
      by_cases hj : j = 25
      · subst hj; rw [vu_s]; rfl
      · rw [vu_n hj]
        unfold zRF
        rw [zbeq_f hj, cond_false, cond_false]
    · rw [vu_n hk]
      unfold zRF
      rw [zbeq_f hk, cond_false, cond_false]
  show (zSh, va_up (zRF o ot it) 32 (va_up (zRF o ot it 32) 25 v), IF, A, AL, AD) = _
  rw [e]
theorem zR26 (v : Value) : zpR (zM o ot it IF A AL AD) 32 26 v = zM o ot v IF A AL AD := by
  have e : va_up (zRF o ot it) 32 (va_up (zRF o ot it 32) 26 v) = zRF o ot v := by
    funext k j
    by_cases hk : k = 32
    · subst hk
      rw [vu_s]
      by_cases hj : j = 26
      · subst hj; rw [vu_s]; rfl
      · rw [vu_n hj]
        unfold zRF
        rw [zbeq_f hj, cond_false, cond_false]
    · rw [vu_n hk]
      unfold zRF
      rw [zbeq_f hk, cond_false, cond_false]
  show (zSh, va_up (zRF o ot it) 32 (va_up (zRF o ot it 32) 26 v), IF, A, AL, AD) = _
  rw [e]
end
/-- what holds of the reference's rows -/
def mV (L p p' : Nat → Nat) (A : Nat → Nat → Int32) : Prop := (A 33 = lf L ∧ A 36 = lf p ∧ A 37 = lf p') ∧ lB L ∧ (2 ≤ L 0 ∧ L 0 ≤ 8 ∧ L 1 ≤ 8 ∧ L 2 ≤ 8) ∧ (∀ g, g < L 0 - 1 → ∀ k, k < L 1 → p (8 * g + k) < 8) ∧ (∀ g, g < L 0 - 1 → ∀ k, k < L 1 → p' (8 * g + k) < 8) ∧ (∀ c, c < L 2 → lk L c 0 < 8 ∧ lk L c 1 < 8) ∧ (∀ t, t < L 1 → tr L t 0 < tr L t 1 ∧ tr L t 1 < L 0)
def mLw (L p p' : Nat → Nat) (A : Nat → Nat → Int32) : Nat → Nat → Int32 := mLy true L p' (L 0) 0 (mLy false L p (L 0) 0 A)
theorem mV_ly {L p p' q : Nat → Nat} {A : Nat → Nat → Int32} {ac : Bool} {n s : Nat} (h : mV L p p' A) : mV L p p' (mLy ac L q n s A) := by
  have b1 : ¬ 33 = mi ac ∧ ¬ 33 = mu ac := m33_i ac
  have b2 : ¬ 36 = mi ac ∧ ¬ 36 = mu ac := by cases ac <;> decide
  have b3 : ¬ 37 = mi ac ∧ ¬ 37 = mu ac := by cases ac <;> decide
  refine ⟨⟨?_, ?_, ?_⟩, h.2⟩
  · rw [mLy_o b1.1 b1.2 (by decide)]; exact h.1.1
  · rw [mLy_o b2.1 b2.2 (by decide)]; exact h.1.2.1
  · rw [mLy_o b3.1 b3.2 (by decide)]; exact h.1.2.2
theorem mV_lw {L p p' : Nat → Nat} {A : Nat → Nat → Int32} (h : mV L p p' A) : mV L p p' (mLw L p p' A) := mV_ly (mV_ly h)
section
variable {ε : Nat × (Nat → Int32)} {d : Nat} {Q : zQ} {o ot it : Value} {IF A : Nat → Nat → Int32} {AL : Nat → Nat → Int64} {AD : Nat → Nat → UInt64} {L p p' q : Nat → Nat} {ac : Bool}
theorem cl_lp (hl : lB L) (hS : L 0 ≤ 8) (hM : L 1 ≤ 8) (hN : L 2 ≤ 8) (h8 : ∀ g, g < L 0 - 1 → ∀ k, k < L 1 → q (8 * g + k) < 8) (hk8 : ∀ c, c < L 2 → lk L c 0 < 8 ∧ lk L c 1 < 8) (hi : IF 32 27 = zbo false) : ∀ (n s : Nat) (A : Nat → Nat → Int32) (c : Int32), A 33 = lf L → A (mo false) = lf q → s + n = L 0 → c = nI s → Q (.inl none) (zMm false IF (mLy false L q n s A) AL AD) → zW ε false (d + 5) 165 31 [(0, .ref 32), (1, .int c)] [] (zMm false IF A AL AD) 0 0 Q := by
  intro n
  induction n with
  | zero =>
    intro s A c hL hp hk hc hq
    refine zrun 4 ?_
    refine zW_ildv (n := 0) rfl rfl rfl (by decide) (by decide) (lf_at hL 0) ?_
    refine zrun 1 (zb_ge hc rfl (by omega) (by omega) (fun _ => ?_) (fun q => absurd q (by omega)))
    exact zrun 1 (hq)
  | succ n ih =>
    intro s A c hL hp hk hc hq
    subst hc
    unfold mLy at hq
    have a1 : mSt false L q s A 33 = lf L := by rw [mSt_o (m33_i _).1 (m33_i _).2 (by decide)]; exact hL
    have a2 : mSt false L q s A (mo false) = lf q := by rw [mSt_o (mo_i _).1 (mo_i _).2.1 (mo_i _).2.2]; exact hp
    refine zrun 4 ?_
    refine zW_ildv (n := 0) rfl rfl rfl (by decide) (by decide) (lf_at hL 0) ?_
    refine zrun 1 (zb_ge rfl rfl (by omega) (by omega) (fun q => absurd q (by omega)) (fun _ => ?_))
    refine zrun 3 ⟨⟨Nat.le_of_ble_eq_true rfl, Nat.le_of_ble_eq_true rfl, rfl⟩, ?_⟩
    refine c_laysStation (ac := false) hl hS hM hN h8 hk8 hi (show s < L 0 by omega) hL hp rfl ⟨rfl, ?_⟩
    exact zrun 2 (zloc [(0, _), (1, _)] rfl (ih (s + 1) _ (nI s + 1) a1 a2 (by omega) (nI_1 s) hq))
theorem cl_lac (hl : lB L) (hS : L 0 ≤ 8) (hM : L 1 ≤ 8) (hN : L 2 ≤ 8) (h8 : ∀ g, g < L 0 - 1 → ∀ k, k < L 1 → q (8 * g + k) < 8) (hk8 : ∀ c, c < L 2 → lk L c 0 < 8 ∧ lk L c 1 < 8) (hi : IF 32 27 = zbo true) : ∀ (n s : Nat) (A : Nat → Nat → Int32) (c : Int32), A 33 = lf L → A (mo true) = lf q → s + n = L 0 → c = nI s → Q (.inl none) (zMm true IF (mLy true L q n s A) AL AD) → zW ε false (d + 5) 166 35 [(0, .ref 32), (1, .int c)] [] (zMm true IF A AL AD) 0 0 Q := by
  intro n
  induction n with
  | zero =>
    intro s A c hL hp hk hc hq
    refine zrun 4 ?_
    refine zW_ildv (n := 0) rfl rfl rfl (by decide) (by decide) (lf_at hL 0) ?_
    refine zrun 1 (zb_ge hc rfl (by omega) (by omega) (fun _ => ?_) (fun q => absurd q (by omega)))
    exact zrun 1 (hq)
  | succ n ih =>
    intro s A c hL hp hk hc hq
    subst hc
    unfold mLy at hq
    have a1 : mSt true L q s A 33 = lf L := by rw [mSt_o (m33_i _).1 (m33_i _).2 (by decide)]; exact hL
    have a2 : mSt true L q s A (mo true) = lf q := by rw [mSt_o (mo_i _).1 (mo_i _).2.1 (mo_i _).2.2]; exact hp
    refine zrun 4 ?_
    refine zW_ildv (n := 0) rfl rfl rfl (by decide) (by decide) (lf_at hL 0) ?_
    refine zrun 1 (zb_ge rfl rfl (by omega) (by omega) (fun q => absurd q (by omega)) (fun _ => ?_))
    refine zrun 3 ⟨⟨Nat.le_of_ble_eq_true rfl, Nat.le_of_ble_eq_true rfl, rfl⟩, ?_⟩
    refine c_laysStation (ac := true) hl hS hM hN h8 hk8 hi (show s < L 0 by omega) hL hp rfl ⟨rfl, ?_⟩
    exact zrun 2 (zloc [(0, _), (1, _)] rfl (ih (s + 1) _ (nI s + 1) a1 a2 (by omega) (nI_1 s) hq))
theorem c_laysPlan (hV : mV L p p' A) (hq : Q (.inl none) (zMm false (yU 32 27 0 IF) (mLy false L p (L 0) 0 A) AL AD)) : zW ε false (d + 5) 165 0 [(0, .ref 32)] [] (zM o ot it IF A AL AD) 0 0 Q := by
  refine zrun 7 (zheap (zR24 (IF := yU 32 27 0 IF) (.ref 36)) ?_)
  refine zrun 4 (zheap (zR25 (.ref 42)) ?_)
  refine zrun 4 (zheap (zR26 (.ref 43)) ?_)
  exact zrun 2 (zloc [(0, _), (1, _)] rfl (cl_lp (IF := yU 32 27 0 IF) hV.2.1 hV.2.2.1.2.1 hV.2.2.1.2.2.1 hV.2.2.1.2.2.2 hV.2.2.2.1 hV.2.2.2.2.2.1 rfl (L 0) 0 A 0 hV.1.1 hV.1.2.1 (by omega) nI_0.symm hq))
theorem c_laysActual (hV : mV L p p' A) (hq : Q (.inl none) (zMm true (yU 32 27 1 IF) (mLw L p p' A) AL AD)) : zW ε false (d + 6) 166 0 [(0, .ref 32)] [] (zM o ot it IF A AL AD) 0 0 Q := by
  refine zrun 2 ⟨⟨Nat.le_of_ble_eq_true rfl, Nat.le_of_ble_eq_true rfl, rfl⟩, ?_⟩
  refine c_laysPlan hV ⟨rfl, ?_⟩
  refine zrun 7 (zheap (zR24 (IF := yU 32 27 1 (yU 32 27 0 IF)) (.ref 37)) ?_)
  refine zrun 4 (zheap (zR25 (.ref 44)) ?_)
  refine zrun 4 (zheap (zR26 (.ref 45)) ?_)
  exact zrun 2 (zloc [(0, _), (1, _)] rfl (cl_lac (d := d + 1) (IF := yU 32 27 1 (yU 32 27 0 IF)) hV.2.1 hV.2.2.1.2.1 hV.2.2.1.2.2.1 hV.2.2.1.2.2.2 hV.2.2.2.2.1 hV.2.2.2.2.2.1 rfl (L 0) 0 _ 0 (mV_ly (ac := false) (q := p) (n := L 0) (s := 0) hV).1.1 (mV_ly (ac := false) (q := p) (n := L 0) (s := 0) hV).1.2.2 (by omega) nI_0.symm (by rw [yU_yU]; exact hq)))
theorem c_lateAt {x z : Int32} {t s : Nat} (hx : x = nI t) (hz : z = nI s) (ht : t < 8) (hs : s < 8) (hq : Q (.inl (some (.int (A 45 (8 * t + s) - A 43 (8 * t + s))))) (zM o ot it IF A AL AD)) : zW ε false (d + 1) 167 0 [(0, .ref 32), (1, .int x), (2, .int z)] [] (zM o ot it IF A AL AD) 0 0 Q := by
  refine zrun 5 ⟨⟨Nat.le_of_ble_eq_true rfl, Nat.le_of_ble_eq_true rfl, rfl⟩, ?_⟩
  refine c_ix hx hz ⟨rfl, ?_⟩
  refine zW_iald (n := 8 * t + s) rfl rfl rfl (by omega) (by decide) ?_
  refine zrun 5 ⟨⟨Nat.le_of_ble_eq_true rfl, Nat.le_of_ble_eq_true rfl, rfl⟩, ?_⟩
  refine c_ix hx hz ⟨rfl, ?_⟩
  refine zW_iald (n := 8 * t + s) rfl rfl rfl (by omega) (by decide) ?_
  exact zrun 2 (hq)
theorem c_isTrain (hV : mV L p p' A) {x : Int32} (hq : ∀ v : Bool, (v = true ↔ zIn (L 1) x) → Q (.inl (some (.int (zbo v)))) (zM o ot it IF A AL AD)) : zW ε false (d + 1) 169 0 [(0, .ref 32), (1, .int x)] [] (zM o ot it IF A AL AD) 0 0 Q := by
  refine zrun 5 ?_
  refine zW_ildv (n := 1) rfl rfl rfl (by decide) (by decide) (lf_at hV.1.1 1) ?_
  refine zrun 3 ⟨⟨Nat.le_of_ble_eq_true rfl, Nat.le_of_ble_eq_true rfl, rfl⟩, ?_⟩
  refine c_isIn (fun v hv => ⟨rfl, ?_⟩)
  exact zrun 1 (⟨zbo_n v, hq v (hv.trans (by rw [show L 1 = L 1 + 1 - 1 by omega]; exact zIn_sub (by have := hV.2.2.1; omega) (by decide)))⟩)
theorem c_isStation (hV : mV L p p' A) {x : Int32} (hq : ∀ v : Bool, (v = true ↔ zIn (L 0) x) → Q (.inl (some (.int (zbo v)))) (zM o ot it IF A AL AD)) : zW ε false (d + 1) 170 0 [(0, .ref 32), (1, .int x)] [] (zM o ot it IF A AL AD) 0 0 Q := by
  refine zrun 5 ?_
  refine zW_ildv (n := 0) rfl rfl rfl (by decide) (by decide) (lf_at hV.1.1 0) ?_
  refine zrun 3 ⟨⟨Nat.le_of_ble_eq_true rfl, Nat.le_of_ble_eq_true rfl, rfl⟩, ?_⟩
  refine c_isIn (fun v hv => ⟨rfl, ?_⟩)
  exact zrun 1 (⟨zbo_n v, hq v (hv.trans (by rw [show L 0 = L 0 + 1 - 1 by omega]; exact zIn_sub (by have := hV.2.2.1; omega) (by decide)))⟩)
theorem c_isSegment (hV : mV L p p' A) {x : Int32} (hq : ∀ v : Bool, (v = true ↔ zIn (L 0 - 1) x) → Q (.inl (some (.int (zbo v)))) (zM o ot it IF A AL AD)) : zW ε false (d + 1) 171 0 [(0, .ref 32), (1, .int x)] [] (zM o ot it IF A AL AD) 0 0 Q := by
  refine zrun 5 ?_
  refine zW_ildv (n := 0) rfl rfl rfl (by decide) (by decide) (lf_at hV.1.1 0) ?_
  refine zrun 3 ⟨⟨Nat.le_of_ble_eq_true rfl, Nat.le_of_ble_eq_true rfl, rfl⟩, ?_⟩
  refine c_isIn (fun v hv => ⟨rfl, ?_⟩)
  exact zrun 1 (⟨zbo_n v, hq v (hv.trans (by rw [show (L 0 - 1) = L 0 + 1 - 2 by omega]; exact zIn_sub (by have := hV.2.2.1; omega) (by decide)))⟩)
theorem c_isEvent (hV : mV L p p' A) {x z v : Int32} {t s : Nat} {b : Bool} (hx : x = nI t) (hz : z = nI s) (hv : v = zbo b) (ht : t < 8) (hs : s < 8) (hq : Q (.inl (some (.int (zbo (gE L t s b))))) (zM o ot it IF A AL AD)) : zW ε false (d + 2) 172 0 [(0, .ref 32), (1, .int x), (2, .int z), (3, .int v)] [] (zM o ot it IF A AL AD) 0 0 Q := by
  refine zrun 2 (zb_f hv (fun hb => ?_) (fun hb => ?_))
  · subst hb
    refine zrun 4 ⟨⟨Nat.le_of_ble_eq_true rfl, Nat.le_of_ble_eq_true rfl, rfl⟩, ?_⟩
    refine c_mdep hV.1.1 hV.2.1 hx hz ht (by omega) ⟨rfl, ?_⟩
    exact zrun 1 (⟨zbo_n _, hq⟩)
  · subst hb
    refine zrun 4 ⟨⟨Nat.le_of_ble_eq_true rfl, Nat.le_of_ble_eq_true rfl, rfl⟩, ?_⟩
    refine c_marr hV.1.1 hV.2.1 hx hz ht (by omega) ⟨rfl, ?_⟩
    exact zrun 2 (⟨zbo_n _, hq⟩)
theorem c_runs (hV : mV L p p' A) {x z : Int32} (hq : ∀ v : Bool, (v = true ↔ ∃ t s, t < L 1 ∧ s < L 0 - 1 ∧ x = nI t ∧ z = nI s ∧ gD L t s = true) → Q (.inl (some (.int (zbo v)))) (zM o ot it IF A AL AD)) : zW ε false (d + 2) 181 0 [(0, .ref 32), (1, .int x), (2, .int z)] [] (zM o ot it IF A AL AD) 0 0 Q := by
  refine zrun 3 ⟨⟨Nat.le_of_ble_eq_true rfl, Nat.le_of_ble_eq_true rfl, rfl⟩, ?_⟩
  refine c_isTrain hV (fun v hv => ⟨rfl, ?_⟩)
  refine zrun 1 (zb_f rfl (fun g1 => ?_) (fun g1 => ?_))
  · exact zrun 2 (⟨rfl, hq false ⟨fun e => Bool.noConfusion e, fun ⟨t, s, h1, h2, h3, _⟩ => by rw [hv.mpr ⟨t, h1, h3⟩] at g1; exact g1.symm⟩⟩)
  · refine zrun 3 ⟨⟨Nat.le_of_ble_eq_true rfl, Nat.le_of_ble_eq_true rfl, rfl⟩, ?_⟩
    refine c_isSegment hV (fun v2 hv2 => ⟨rfl, ?_⟩)
    refine zrun 1 (zb_f rfl (fun g2 => ?_) (fun g2 => ?_))
    · exact zrun 2 (⟨rfl, hq false ⟨fun e => Bool.noConfusion e, fun ⟨t, s, h1, h2, h3, h4, _⟩ => by rw [hv2.mpr ⟨s, h2, h4⟩] at g2; exact g2.symm⟩⟩)
    · obtain ⟨t, ht, rfl⟩ := hv.mp g1
      obtain ⟨s, hs, rfl⟩ := hv2.mp g2
      have hB := hV.2.2.1
      refine zrun 4 ⟨⟨Nat.le_of_ble_eq_true rfl, Nat.le_of_ble_eq_true rfl, rfl⟩, ?_⟩
      refine c_mdep hV.1.1 hV.2.1 rfl rfl (show t < 8 by omega) (show s < 100 by omega) ⟨rfl, ?_⟩
      refine zrun 1 (zb_f rfl (fun g3 => ?_) (fun g3 => ?_))
      · exact zrun 2 (⟨rfl, hq false ⟨fun e => Bool.noConfusion e, fun ⟨t', s', h1, h2, h3, h4, h5⟩ => by rw [(nI_eq (by omega) (by omega)).mp h3, (nI_eq (by omega) (by omega)).mp h4, h5] at g3; exact g3.symm⟩⟩)
      · exact zrun 3 (⟨rfl, hq true ⟨fun _ => ⟨t, s, ht, hs, rfl, rfl, g3⟩, fun _ => rfl⟩⟩)
theorem c_may0 {v pl : Int32} (hpl : ¬ pl = 0) {b : Bool} (hv : v = zbo b) (h1 : b = true → Q (.inl (some (.int 1))) (zM o ot it (yU 32 0 0 IF) A AL AD)) (h2 : b = false → Q (.inl (some (.int 0))) (zM o ot it (yU 32 0 pl IF) A AL AD)) : zW ε false d 127 0 [(0, .ref 32), (1, .int v), (2, .int pl)] [] (zM o ot it (yU 32 0 0 IF) A AL AD) 0 0 Q := by
  refine c_may (IF := yU 32 0 0 IF) yU_s hpl hv h1 (fun hb => ?_)
  rw [yU_yU]
  exact h2 hb
theorem cl_ap : ∀ (n i : Nat) (c : Int32), i + n = 56 → c = nI i → Q (.inl none) (zM o ot it IF (va_up A 37 (cp 56 (A 36) (A 37))) AL AD) → zW ε false d 131 2 [(0, .ref 32), (1, .int c)] [] (zM o ot it IF (va_up A 37 (cp i (A 36) (A 37))) AL AD) 0 0 Q := by
  intro n
  induction n with
  | zero =>
    intro i c hi hc hq
    refine zrun 3 (zb_ge (b := 56) hc rfl (by omega) (by omega) (fun _ => ?_) (fun q => absurd q (by omega)))
    exact zrun 1 (by rw [show 56 = i by omega] at hq; exact hq)
  | succ n ih =>
    intro i c hi hc hq
    subst hc
    refine zrun 3 (zb_ge (b := 56) rfl rfl (by omega) (by omega) (fun q => absurd q (by omega)) (fun _ => ?_))
    refine zrun 6 ?_
    refine zW_iald (n := i) rfl rfl rfl (by omega) (by decide) ?_
    refine zW_istc (n := i) (f := A 36) rfl rfl rfl (by omega) (by decide) rfl ?_
    exact zrun 2 (zloc [(0, _), (1, _)] rfl (ih (i + 1) (nI i + 1) (by omega) (nI_1 i) hq))
theorem c_asPlanned (hq : Q (.inl none) (zM o ot it IF (va_up A 37 (cp 56 (A 36) (A 37))) AL AD)) : zW ε false d 131 0 [(0, .ref 32)] [] (zM o ot it IF A AL AD) 0 0 Q := by
  refine zrun 2 (zloc [(0, _), (1, _)] rfl ?_)
  have e := cl_ap (ε := ε) (d := d) (Q := Q) (o := o) (ot := ot) (it := it) (IF := IF) (A := A) (AL := AL) (AD := AD) 56 0 0 (by omega) nI_0.symm hq
  rw [cp_0, vu_id] at e
  exact e
def mF0 (i : Nat) (A : Nat → Nat → Int32) : Nat → Nat → Int32 := va_up (va_up A 39 (cp i (fun _ => 0) (A 39))) 40 (cp i (fun _ => 0) (A 40))
theorem mF0_0 : mF0 0 A = A := by
  unfold mF0
  rw [cp_0, cp_0, vu_id, vu_id]
theorem va_sw {A : Nat → Nat → Int32} {a b : Nat} {f g : Nat → Int32} (h : ¬ a = b) : va_up (va_up A a f) b g = va_up (va_up A b g) a f := by
  funext j
  unfold va_up
  by_cases h1 : j = a
  · subst h1
    rw [if_neg h, if_pos rfl, if_pos rfl]
  · rw [if_neg h1, if_neg h1]
theorem cl_fg : ∀ (n i : Nat) (c : Int32), i + n = 64 → c = nI i → Q (.inl none) (zM o ot it (yU 32 9 0 IF) (mF0 64 A) AL AD) → zW ε false d 130 2 [(0, .ref 32), (1, .int c)] [] (zM o ot it IF (mF0 i A) AL AD) 0 0 Q := by
  intro n
  induction n with
  | zero =>
    intro i c hi hc hq
    refine zrun 3 (zb_ge (b := 64) hc rfl (by omega) (by omega) (fun _ => ?_) (fun q => absurd q (by omega)))
    exact zrun 4 (by rw [show 64 = i by omega] at hq; exact hq)
  | succ n ih =>
    intro i c hi hc hq
    subst hc
    have e1 : mF0 i A = va_up (va_up A 40 (cp i (fun _ => 0) (A 40))) 39 (cp i (fun _ => 0) ((va_up A 40 (cp i (fun _ => 0) (A 40))) 39)) := va_sw (by decide)
    have e2 : va_up (va_up A 40 (cp i (fun _ => 0) (A 40))) 39 (cp (i + 1) (fun _ => 0) ((va_up A 40 (cp i (fun _ => 0) (A 40))) 39)) = va_up (va_up A 39 (cp (i + 1) (fun _ => 0) (A 39))) 40 (cp i (fun _ => 0) ((va_up A 39 (cp (i + 1) (fun _ => 0) (A 39))) 40)) := va_sw (by decide)
    rw [e1]
    refine zrun 3 (zb_ge (b := 64) rfl rfl (by omega) (by omega) (fun q => absurd q (by omega)) (fun _ => ?_))
    refine zrun 4 ?_
    refine zW_istc (n := i) (f := fun _ => 0) rfl rfl rfl (by omega) (by decide) rfl ?_
    rw [e2]
    refine zrun 4 ?_
    refine zW_istc (n := i) (f := fun _ => 0) rfl rfl rfl (by omega) (by decide) rfl ?_
    exact zrun 2 (zloc [(0, _), (1, _)] rfl (ih (i + 1) (nI i + 1) (by omega) (nI_1 i) hq))
theorem c_forgets (hq : Q (.inl none) (zM o ot it (yU 32 9 0 IF) (mF0 64 A) AL AD)) : zW ε false d 130 0 [(0, .ref 32)] [] (zM o ot it IF A AL AD) 0 0 Q := by
  refine zrun 2 (zloc [(0, _), (1, _)] rfl ?_)
  have e := cl_fg (ε := ε) (d := d) (Q := Q) (o := o) (ot := ot) (it := it) (IF := IF) (A := A) (AL := AL) (AD := AD) 64 0 0 (by omega) nI_0.symm hq
  rw [mF0_0] at e
  exact e
end
