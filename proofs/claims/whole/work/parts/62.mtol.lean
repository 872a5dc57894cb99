/-! the reference: tolerance -/
theorem upd_s {f : Nat → Int32} {i : Nat} {v : Int32} : upd f i v i = v := if_pos rfl
theorem upd_n {f : Nat → Int32} {i j : Nat} {v : Int32} (h : ¬ j = i) : upd f i v j = f j := if_neg h
def t1 (A : Nat → Nat → Int32) (i : Nat) (B : Nat → Nat → Int32) : Prop := (∀ j, j < i → B 47 j = A 39 j ∧ B 48 j = A 40 j ∧ B 39 j = 0 ∧ B 40 j = 0) ∧ (∀ j, i ≤ j → B 39 j = A 39 j ∧ B 40 j = A 40 j) ∧ (∀ k, ¬ (k = 39 ∨ k = 40 ∨ k = 47 ∨ k = 48) → B k = A k)
def t1s (i : Nat) (B : Nat → Nat → Int32) : Nat → Nat → Int32 := va_up (va_up (va_up (va_up B 47 (upd (B 47) i (B 39 i))) 48 (upd (B 48) i (B 40 i))) 39 (upd (B 39) i 0)) 40 (upd (B 40) i 0)
theorem t1_s {A B : Nat → Nat → Int32} {i : Nat} (h : t1 A i B) : t1 A (i + 1) (t1s i B) := by
  refine ⟨fun j hj => ?_, fun j hj => ?_, fun k hk => ?_⟩
  · show upd (B 47) i (B 39 i) j = A 39 j ∧ upd (B 48) i (B 40 i) j = A 40 j ∧ upd (B 39) i 0 j = 0 ∧ upd (B 40) i 0 j = 0
    by_cases e : j = i
    · subst e
      rw [upd_s, upd_s, upd_s, upd_s]
      exact ⟨(h.2.1 j (by omega)).1, (h.2.1 j (by omega)).2, rfl, rfl⟩
    · rw [upd_n e, upd_n e, upd_n e, upd_n e]
      exact h.1 j (by omega)
  · show upd (B 39) i 0 j = A 39 j ∧ upd (B 40) i 0 j = A 40 j
    rw [upd_n (by omega), upd_n (by omega)]
    exact h.2.1 j (by omega)
  · unfold t1s
    rw [vu_n (by omega), vu_n (by omega), vu_n (by omega), vu_n (by omega)]
    exact h.2.2 k hk
/-- kept rows: what comes back -/
def tJ (A : Nat → Nat → Int32) (i : Nat) (B : Nat → Nat → Int32) : Prop := (∀ j, j < i ∨ 64 ≤ j → B 39 j = A 39 j ∧ B 40 j = A 40 j) ∧ (∀ j, j < 64 → B 47 j = A 39 j ∧ B 48 j = A 40 j) ∧ (∀ j, j < 56 → B 38 j = A 37 j) ∧ (∀ j, 56 ≤ j → B 37 j = A 37 j) ∧ (∀ k, k ≤ 36 ∨ k = 41 ∨ 49 ≤ k → B k = A k)
def tJs (i : Nat) (B : Nat → Nat → Int32) : Nat → Nat → Int32 := va_up (va_up B 39 (upd (B 39) i (B 47 i))) 40 (upd (B 40) i (B 48 i))
theorem tJ_s {A B : Nat → Nat → Int32} {i : Nat} (hi : i < 64) (h : tJ A i B) : tJ A (i + 1) (tJs i B) := by
  refine ⟨fun j hj => ?_, fun j hj => h.2.1 j hj, fun j hj => h.2.2.1 j hj, fun j hj => h.2.2.2.1 j hj, fun k hk => ?_⟩
  · show upd (B 39) i (B 47 i) j = A 39 j ∧ upd (B 40) i (B 48 i) j = A 40 j
    by_cases e : j = i
    · subst e
      rw [upd_s, upd_s]
      exact h.2.1 j hi
    · rw [upd_n e, upd_n e]
      exact h.1 j (by omega)
  · unfold tJs
    rw [vu_n (by omega), vu_n (by omega)]
    exact h.2.2.2.2 k hk
/-- the rows while minutes are tried at place e -/
def tI (L p pq : Nat → Nat) (e : Nat) (B : Nat → Nat → Int32) : Prop := mV L p pq B ∧ (∀ j, j < 64 → ¬ j = e → B 39 j = 0) ∧ (∀ j, j < 64 → B 40 j = 0)
def tV (L p pq : Nat → Nat) (A : Nat → Nat → Int32) (e m : Nat) (B : Nat → Nat → Int32) : Prop := mV L p pq B ∧ B 35 = A 35 ∧ (∀ j, j < 64 → B 39 j = if j = e then nI m else 0) ∧ (∀ j, j < 64 → B 40 j = 0)
def tL (L p pq : Nat → Nat) (B : Nat → Nat → Int32) : Int32 := mls (mLw L p pq B) L 0 (L 1) 0 0
theorem mLw_o {L p pq : Nat → Nat} {B : Nat → Nat → Int32} {k : Nat} (h : k < 42 ∨ 46 < k) : mLw L p pq B k = B k := by
  unfold mLw
  rw [mLy_o (show ¬ k = 45 by omega) (show ¬ k = 44 by omega) (by omega), mLy_o (show ¬ k = 43 by omega) (show ¬ k = 42 by omega) (by omega)]
theorem tI_V {L p pq : Nat → Nat} {A B : Nat → Nat → Int32} {e m : Nat} (h : tI L p pq e B) (hj : tJ A 0 B) : tV L p pq A e m (va_up B 39 (upd (B 39) e (nI m))) := by
  refine ⟨⟨⟨h.1.1.1, h.1.1.2.1, h.1.1.2.2⟩, h.1.2⟩, hj.2.2.2.2 35 (by omega), fun j hj => ?_, fun j hj => h.2.2 j hj⟩
  show upd (B 39) e (nI m) j = _
  by_cases q : j = e
  · subst q; rw [upd_s, if_pos rfl]
  · rw [upd_n q, if_neg q]; exact h.2.1 j hj q
theorem tI_n {L p pq : Nat → Nat} {A B : Nat → Nat → Int32} {e m : Nat} (he : e < 64) (h : tI L p pq e B) (hj : tJ A 0 B) : tI L p pq e (mLw L p pq (va_up B 39 (upd (B 39) e (nI m)))) ∧ tJ A 0 (mLw L p pq (va_up B 39 (upd (B 39) e (nI m)))) := by
  have f : ∀ k, (k < 42 ∨ 46 < k) → mLw L p pq (va_up B 39 (upd (B 39) e (nI m))) k = va_up B 39 (upd (B 39) e (nI m)) k := fun k hk => mLw_o hk
  refine ⟨⟨mV_lw ⟨⟨h.1.1.1, h.1.1.2.1, h.1.1.2.2⟩, h.1.2⟩, fun j hj q => ?_, fun j hj => ?_⟩, fun j hj2 => ?_, fun j hj2 => ?_, fun j hj2 => ?_, fun j hj2 => ?_, fun k hk => ?_⟩
  · rw [f 39 (by omega)]
    show upd (B 39) e (nI m) j = 0
    rw [upd_n q]; exact h.2.1 j hj q
  · rw [f 40 (by omega)]; exact h.2.2 j hj
  · rw [f 39 (by omega), f 40 (by omega)]
    show upd (B 39) e (nI m) j = _ ∧ B 40 j = _
    rw [upd_n (by omega)]
    exact hj.1 j hj2
  · rw [f 47 (by omega), f 48 (by omega)]; exact hj.2.1 j hj2
  · rw [f 38 (by omega)]; exact hj.2.2.1 j hj2
  · rw [f 37 (by omega)]; exact hj.2.2.2.1 j hj2
  · rw [f k (by omega), vu_n (by omega)]; exact hj.2.2.2.2 k hk
section
variable {ε : Nat × (Nat → Int32)} {d : Nat} {Q : zQ} {o ot it : Value} {IF A : Nat → Nat → Int32} {AL : Nat → Nat → Int64} {AD : Nat → Nat → UInt64} {L p p' pq : Nat → Nat} {t s : Nat}
theorem cl_to1 (hq : ∀ B, t1 A 64 B → zW ε false d 204 102 [(0, .ref 32), (1, .int (nI t)), (2, .int (nI s))] [] (zM o ot it IF B AL AD) 0 0 Q) : ∀ (n i : Nat) (B : Nat → Nat → Int32) (c : Int32), i + n = 64 → c = nI i → t1 A i B → zW ε false d 204 52 [(0, .ref 32), (1, .int (nI t)), (2, .int (nI s)), (3, .int c)] [] (zM o ot it IF B AL AD) 0 0 Q := by
  intro n
  induction n with
  | zero =>
    intro i B c hi hc h
    have e64 : i = 64 := (by omega)
    subst e64
    refine zrun 3 (zb_ge (b := 64) hc rfl (by omega) (by omega) (fun _ => ?_) (fun q => absurd q (by omega)))
    exact zfg [0, 1, 2] (zloc [(0, _), (1, _), (2, _)] rfl (hq B h))
  | succ n ih =>
    intro i B c hi hc h
    subst hc
    have next := ih (i + 1) (t1s i B) (nI i + 1) (by omega) (nI_1 i) (t1_s h)
    refine zrun 3 (zb_ge (b := 64) rfl rfl (by omega) (by omega) (fun q => absurd q (by omega)) (fun _ => ?_))
    refine zrun 6 ?_
    refine zW_iald (n := i) rfl rfl rfl (by omega) (by decide) ?_
    refine zW_iast (n := i) rfl rfl rfl (by omega) (by decide) ?_
    refine zrun 6 ?_
    refine zW_iald (n := i) rfl rfl rfl (by omega) (by decide) ?_
    refine zW_iast (n := i) rfl rfl rfl (by omega) (by decide) ?_
    refine zrun 4 ?_
    refine zW_iast (n := i) rfl rfl rfl (by omega) (by decide) ?_
    refine zrun 4 ?_
    refine zW_iast (n := i) rfl rfl rfl (by omega) (by decide) ?_
    exact zrun 2 (zloc [(0, _), (1, _), (2, _), (3, _)] rfl (next))
theorem cl_to2 {B : Nat → Nat → Int32} (hq : zW ε false d 204 128 [(0, .ref 32), (1, .int (nI t)), (2, .int (nI s))] [] (zM o ot it IF (va_up B 38 (cp 56 (B 37) (B 38))) AL AD) 0 0 Q) : ∀ (n i : Nat) (c : Int32), i + n = 56 → c = nI i → zW ε false d 204 104 [(0, .ref 32), (1, .int (nI t)), (2, .int (nI s)), (3, .int c)] [] (zM o ot it IF (va_up B 38 (cp i (B 37) (B 38))) AL AD) 0 0 Q := by
  intro n
  induction n with
  | zero =>
    intro i c hi hc
    have e64 : i = 56 := (by omega)
    subst e64
    refine zrun 3 (zb_ge (b := 56) hc rfl (by omega) (by omega) (fun _ => ?_) (fun q => absurd q (by omega)))
    exact zfg [0, 1, 2] (zloc [(0, _), (1, _), (2, _)] rfl (hq))
  | succ n ih =>
    intro i c hi hc
    subst hc
    refine zrun 3 (zb_ge (b := 56) rfl rfl (by omega) (by omega) (fun q => absurd q (by omega)) (fun _ => ?_))
    refine zrun 6 ?_
    refine zW_iald (n := i) rfl rfl rfl (by omega) (by decide) ?_
    refine zW_istc (n := i) (f := B 37) rfl rfl rfl (by omega) (by decide) rfl ?_
    exact zrun 2 (zloc [(0, _), (1, _), (2, _), (3, _)] rfl (ih (i + 1) (nI i + 1) (by omega) (nI_1 i)))
theorem cl_to3 (ht : t < 8) (hs : s < 8) (hz : ∀ B, tV L p pq A (8 * t + s) 0 B → tL L p pq B = 0) (hq : ∀ (o ot it : Value) (IF' : Nat → Nat → Int32) (m : Nat) (B : Nat → Nat → Int32), m ≤ 60 → IF' = yU 32 27 1 IF → tI L p pq (8 * t + s) B → tJ A 0 B → (∃ B, tV L p pq A (8 * t + s) m B ∧ tL L p pq B = 0) → (∀ k, m < k → k ≤ 60 → ∃ B, tV L p pq A (8 * t + s) k B ∧ ¬ tL L p pq B = 0) → zW ε false (d + 8) 204 185 [(0, .ref 32), (1, .int (nI t)), (2, .int (nI s)), (3, .int (nI m))] [] (zM o ot it IF' B AL AD) 0 0 Q) : ∀ (m : Nat) (o ot it : Value) (IF' B : Nat → Nat → Int32) (c : Int32), m ≤ 60 → c = nI m → yU 32 27 1 IF' = yU 32 27 1 IF → tI L p pq (8 * t + s) B → tJ A 0 B → (∀ k, m < k → k ≤ 60 → ∃ B, tV L p pq A (8 * t + s) k B ∧ ¬ tL L p pq B = 0) → zW ε false (d + 8) 204 138 [(0, .ref 32), (1, .int (nI t)), (2, .int (nI s)), (3, .int c), (4, .int 0)] [] (zM o ot it IF' B AL AD) 0 0 Q := by
  intro m
  induction m with
  | zero =>
    intro o ot it IF' B c hm hc hF h hj hk
    subst hc
    have hV := tI_V (m := 0) h hj
    have hN := tI_n (m := 0) (by omega) h hj
    have hz0 := hz _ hV
    have hq1 := hq (.ref (mo true)) (.ref (mu true)) (.ref (mi true)) _ 0 _ (by omega) hF hN.1 hN.2 ⟨_, hV, hz0⟩ hk
    refine zrun 2 (zb_t (b := false) rfl (fun q => Bool.noConfusion q) (fun _ => ?_))
    refine zrun 5 ⟨⟨Nat.le_of_ble_eq_true rfl, Nat.le_of_ble_eq_true rfl, rfl⟩, ?_⟩
    refine c_ix rfl rfl ⟨rfl, ?_⟩
    refine zrun 1 ?_
    refine zW_iast (n := 8 * t + s) rfl rfl rfl (by omega) (by decide) ?_
    refine zrun 3 ⟨⟨Nat.le_of_ble_eq_true rfl, Nat.le_of_ble_eq_true rfl, rfl⟩, ?_⟩
    refine c_mlateSet hV.1 ⟨rfl, ?_⟩
    refine zrun 1 ⟨(fun g => absurd hz0 g), (fun _ => ?_)⟩
    refine zrun 5 (zloc [(0, _), (1, _), (2, _), (3, _), (4, _)] rfl ?_)
    refine zrun 1 (zb_f (b := true) rfl (fun q => Bool.noConfusion q) (fun _ => ?_))
    refine zrun 5 (zloc [(0, .ref 32), (1, .int (nI t)), (2, .int (nI s)), (3, .int (nI 0 - 0)), (4, .int 1)] rfl ?_)
    refine zrun 2 (zb_t (b := true) rfl (fun _ => ?_) (fun q => Bool.noConfusion q))
    exact zpc 185 (by decide) (zfg [0, 1, 2, 3] (zloc [(0, _), (1, _), (2, _), (3, _)] rfl hq1))
  | succ m ih =>
    intro o ot it IF' B c hm hc hF h hj hk
    subst hc
    have hV := tI_V (m := m + 1) h hj
    have hN := tI_n (m := m + 1) (by omega) h hj
    have hsub : nI (m + 1) - 0 = nI (m + 1) := by rw [show (0 : Int32) = nI 0 from rfl, pk_sub (by omega)]; rfl
    refine zrun 2 (zb_t (b := false) rfl (fun q => Bool.noConfusion q) (fun _ => ?_))
    refine zrun 5 ⟨⟨Nat.le_of_ble_eq_true rfl, Nat.le_of_ble_eq_true rfl, rfl⟩, ?_⟩
    refine c_ix rfl rfl ⟨rfl, ?_⟩
    refine zrun 1 ?_
    refine zW_iast (n := 8 * t + s) rfl rfl rfl (by omega) (by decide) ?_
    refine zrun 3 ⟨⟨Nat.le_of_ble_eq_true rfl, Nat.le_of_ble_eq_true rfl, rfl⟩, ?_⟩
    refine c_mlateSet hV.1 ⟨rfl, ?_⟩
    refine zrun 1 ⟨(fun g => ?_), (fun g => ?_)⟩
    · refine zrun 4 (zloc [(0, _), (1, _), (2, _), (3, _), (4, _)] rfl ?_)
      refine zrun 1 (zb_f (b := false) rfl (fun _ => ?_) (fun q => Bool.noConfusion q))
      exact zrun 4 (zloc [(0, _), (1, _), (2, _), (3, _), (4, _)] rfl (zloc [(0, _), (1, _), (2, _), (3, .int (nI (m + 1) - 1)), (4, _)] rfl (ih _ _ _ _ _ _ (by omega) (nI_pred m) (by rw [yU_yU]; exact hF) hN.1 hN.2 (fun k hk1 hk2 => by by_cases e : k = m + 1; (subst e; exact ⟨_, hV, g⟩); exact hk k (by omega) hk2))))
    · refine zrun 5 (zloc [(0, _), (1, _), (2, _), (3, _), (4, _)] rfl ?_)
      refine zrun 1 (zb_f (b := true) rfl (fun q => Bool.noConfusion q) (fun _ => ?_))
      refine zrun 5 (zloc [(0, .ref 32), (1, .int (nI t)), (2, .int (nI s)), (3, .int (nI (m + 1) - 0)), (4, .int 1)] rfl ?_)
      rw [hsub]
      refine zrun 2 (zb_t (b := true) rfl (fun _ => ?_) (fun q => Bool.noConfusion q))
      exact zpc 185 (by decide) (zfg [0, 1, 2, 3] (zloc [(0, _), (1, _), (2, _), (3, _)] rfl (hq (.ref (mo true)) (.ref (mu true)) (.ref (mi true)) _ (m + 1) _ hm hF hN.1 hN.2 ⟨_, hV, g⟩ hk)))
theorem cl_to4 {v : Int32} (hq : ∀ B, tJ A 64 B → zW ε false d 204 229 [(0, .ref 32), (1, .int (nI t)), (2, .int (nI s)), (3, .int v)] [] (zM o ot it IF B AL AD) 0 0 Q) : ∀ (n i : Nat) (B : Nat → Nat → Int32) (c : Int32), i + n = 64 → c = nI i → tJ A i B → zW ε false d 204 188 [(0, .ref 32), (1, .int (nI t)), (2, .int (nI s)), (3, .int v), (4, .int c)] [] (zM o ot it IF B AL AD) 0 0 Q := by
  intro n
  induction n with
  | zero =>
    intro i B c hi hc h
    have e64 : i = 64 := (by omega)
    subst e64
    refine zrun 3 (zb_ge (b := 64) hc rfl (by omega) (by omega) (fun _ => ?_) (fun q => absurd q (by omega)))
    exact zfg [0, 1, 2, 3] (zloc [(0, _), (1, _), (2, _), (3, _)] rfl (hq B h))
  | succ n ih =>
    intro i B c hi hc h
    subst hc
    have next := ih (i + 1) (tJs i B) (nI i + 1) (by omega) (nI_1 i) (tJ_s (by omega) h)
    refine zrun 3 (zb_ge (b := 64) rfl rfl (by omega) (by omega) (fun q => absurd q (by omega)) (fun _ => ?_))
    refine zrun 6 ?_
    refine zW_iald (n := i) rfl rfl rfl (by omega) (by decide) ?_
    refine zW_iast (n := i) rfl rfl rfl (by omega) (by decide) ?_
    refine zrun 6 ?_
    refine zW_iald (n := i) rfl rfl rfl (by omega) (by decide) ?_
    refine zW_iast (n := i) rfl rfl rfl (by omega) (by decide) ?_
    exact zrun 2 (zloc [(0, _), (1, _), (2, _), (3, _), (4, _)] rfl (next))
theorem cl_to5 {v : Int32} {B : Nat → Nat → Int32} (hq : Q (.inl (some (.int v))) (zM o ot it IF (va_up B 37 (cp 56 (B 38) (B 37))) AL AD)) : ∀ (n i : Nat) (c : Int32), i + n = 56 → c = nI i → zW ε false d 204 232 [(0, .ref 32), (1, .int (nI t)), (2, .int (nI s)), (3, .int v), (4, .int c)] [] (zM o ot it IF (va_up B 37 (cp i (B 38) (B 37))) AL AD) 0 0 Q := by
  intro n
  induction n with
  | zero =>
    intro i c hi hc
    have e64 : i = 56 := (by omega)
    subst e64
    refine zrun 3 (zb_ge (b := 56) hc rfl (by omega) (by omega) (fun _ => ?_) (fun q => absurd q (by omega)))
    exact zrun 2 (hq)
  | succ n ih =>
    intro i c hi hc
    subst hc
    refine zrun 3 (zb_ge (b := 56) rfl rfl (by omega) (by omega) (fun q => absurd q (by omega)) (fun _ => ?_))
    refine zrun 6 ?_
    refine zW_iald (n := i) rfl rfl rfl (by omega) (by decide) ?_
    refine zW_istc (n := i) (f := B 38) rfl rfl rfl (by omega) (by decide) rfl ?_
    exact zrun 2 (zloc [(0, _), (1, _), (2, _), (3, _), (4, _)] rfl (ih (i + 1) (nI i + 1) (by omega) (nI_1 i)))
/-- the planned order as the actual one -/
def tq (A : Nat → Nat → Int32) : Nat → Nat := tn (cp 56 (A 36) (A 37))
theorem tq_V (hV : mV L p p' A) {B : Nat → Nat → Int32} (h33 : B 33 = A 33) (h36 : B 36 = A 36) (h37 : B 37 = cp 56 (A 36) (A 37)) : mV L p (tq A) B := by
  have hB := hV.2.2.1
  refine ⟨⟨h33.trans hV.1.1, h36.trans hV.1.2.1, h37.trans (lf_tn _).symm⟩, hV.2.1, hV.2.2.1, hV.2.2.2.1, fun g hg k hk => ?_, hV.2.2.2.2.2⟩
  have h8 := hV.2.2.2.1 g hg k hk
  show (cp 56 (A 36) (A 37) (8 * g + k)).toBitVec.toNat < 8
  rw [cp_lt (by omega), lf_at hV.1.2.1, pk_tn (by omega)]
  exact h8
theorem cl_to6 (hV : mV L p p' A) (ht : t < L 1) (hs : s < L 0) (hz : ∀ B, tV L p (tq A) A (8 * t + s) 0 B → tL L p (tq A) B = 0) (h1 : ∀ (m : Nat) (B : Nat → Nat → Int32) (o ot it : Value), m ≤ 60 → (∃ B, tV L p (tq A) A (8 * t + s) m B ∧ tL L p (tq A) B = 0) → (∀ k, m < k → k ≤ 60 → ∃ B, tV L p (tq A) A (8 * t + s) k B ∧ ¬ tL L p (tq A) B = 0) → (∀ k, ¬ k = 38 → (k < 42 ∨ 48 < k) → B k = A k) → Q (.inl (some (.int (nI m)))) (zM o ot it (yU 32 27 1 IF) B AL AD)) : zW ε false (d + 8) 204 50 [(0, .ref 32), (1, .int (nI t)), (2, .int (nI s))] [] (zM o ot it IF A AL AD) 0 0 Q := by
  have hB := hV.2.2.1
  refine zrun 2 (zloc [(0, _), (1, _), (2, _), (3, _)] rfl ?_)
  refine cl_to1 (A := A) (fun B hB1 => ?_) 64 0 A 0 (by omega) nI_0.symm ⟨fun j hj => absurd hj (by omega), fun j _ => ⟨rfl, rfl⟩, fun k _ => rfl⟩
  refine zrun 2 (zloc [(0, _), (1, _), (2, _), (3, _)] rfl ?_)
  have e2 := fun q => cl_to2 (ε := ε) (d := d + 8) (Q := Q) (o := o) (ot := ot) (it := it) (IF := IF) (AL := AL) (AD := AD) (t := t) (s := s) (B := B) q 56 0 0 (by omega) nI_0.symm
  rw [cp_0, vu_id] at e2
  refine e2 ?_
  have f36 : B 36 = A 36 := hB1.2.2 36 (by omega)
  have f37 : B 37 = A 37 := hB1.2.2 37 (by omega)
  have f33 : B 33 = A 33 := hB1.2.2 33 (by omega)
  refine zrun 2 ⟨⟨Nat.le_of_ble_eq_true rfl, Nat.le_of_ble_eq_true rfl, rfl⟩, ?_⟩
  refine c_asPlanned (A := va_up B 38 (cp 56 (B 37) (B 38))) ⟨rfl, ?_⟩
  generalize hC : va_up (va_up B 38 (cp 56 (B 37) (B 38))) 37 (cp 56 ((va_up B 38 (cp 56 (B 37) (B 38))) 36) ((va_up B 38 (cp 56 (B 37) (B 38))) 37)) = C
  have c37 : C 37 = cp 56 (A 36) (A 37) := by rw [← hC, vu_s]; show cp 56 (B 36) (B 37) = _; rw [f36, f37]
  have cn : ∀ k, ¬ k = 37 → ¬ k = 38 → C k = B k := fun k a b => by rw [← hC, vu_n a, vu_n b]
  have hI : tI L p (tq A) (8 * t + s) C := ⟨tq_V hV ((cn 33 (by omega) (by omega)).trans f33) ((cn 36 (by omega) (by omega)).trans f36) c37, fun j hj _ => by rw [cn 39 (by omega) (by omega)]; exact (hB1.1 j hj).2.2.1, fun j hj => by rw [cn 40 (by omega) (by omega)]; exact (hB1.1 j hj).2.2.2⟩
  have hJ : tJ A 0 C := by
    refine ⟨fun j hj => ?_, fun j hj => ?_, fun j hj => ?_, fun j hj => ?_, fun k hk => ?_⟩
    · rw [cn 39 (by omega) (by omega), cn 40 (by omega) (by omega)]; exact hB1.2.1 j (by omega)
    · rw [cn 47 (by omega) (by omega), cn 48 (by omega) (by omega)]; exact ⟨(hB1.1 j hj).1, (hB1.1 j hj).2.1⟩
    · rw [← hC, vu_n (by omega), vu_s, cp_lt hj, f37]
    · rw [c37]; exact if_neg (by omega)
    · rw [cn k (by omega) (by omega)]; exact hB1.2.2 k (by omega)
  refine zrun 4 (zloc [(0, _), (1, _), (2, _), (3, _), (4, _)] rfl ?_)
  refine cl_to3 (A := A) (IF := IF) (pq := tq A) (by omega) (by omega) hz (fun o ot it IF' m D hm hF hI' hJ' hy hn => ?_) 60 _ _ _ IF C 60 (by omega) rfl rfl hI hJ (fun k a b => absurd a (by omega))
  subst hF
  refine zrun 2 (zloc [(0, _), (1, _), (2, _), (3, _), (4, _)] rfl ?_)
  refine cl_to4 (A := A) (fun D hD => ?_) 64 0 D 0 (by omega) nI_0.symm hJ'
  refine zrun 2 (zloc [(0, _), (1, _), (2, _), (3, _), (4, _)] rfl ?_)
  have e5 := fun q => cl_to5 (ε := ε) (d := d + 8) (Q := Q) (o := o) (ot := ot) (it := it) (IF := yU 32 27 1 IF) (AL := AL) (AD := AD) (t := t) (s := s) (v := nI m) (B := D) q 56 0 0 (by omega) nI_0.symm
  rw [cp_0, vu_id] at e5
  refine e5 (h1 m _ o ot it hm hy hn (fun k hk1 hk2 => ?_))
  by_cases q37 : k = 37
  · subst q37
    rw [vu_s]
    funext j
    by_cases q : j < 56
    · rw [cp_lt q]; exact hD.2.2.1 j q
    · rw [show cp 56 (D 38) (D 37) j = D 37 j from if_neg q]; exact hD.2.2.2.1 j (by omega)
  · rw [vu_n q37]
    by_cases q39 : k = 39
    · subst q39
      funext j
      exact (hD.1 j (by omega)).1
    · by_cases q40 : k = 40
      · subst q40
        funext j
        exact (hD.1 j (by omega)).2
      · exact hD.2.2.2.2 k (by omega)
theorem c_mtolerance (hV : mV L p p' A) {x z : Int32} (hz : ∀ t s, t < L 1 → s < L 0 → x = nI t → z = nI s → gD L t s = true → ∀ B, tV L p (tq A) A (8 * t + s) 0 B → tL L p (tq A) B = 0) (h1 : ∀ t s, t < L 1 → s < L 0 → x = nI t → z = nI s → gD L t s = true → ∀ (m : Nat) (B : Nat → Nat → Int32) (o ot it : Value), m ≤ 60 → (∃ B, tV L p (tq A) A (8 * t + s) m B ∧ tL L p (tq A) B = 0) → (∀ k, m < k → k ≤ 60 → ∃ B, tV L p (tq A) A (8 * t + s) k B ∧ ¬ tL L p (tq A) B = 0) → (∀ k, ¬ k = 38 → (k < 42 ∨ 48 < k) → B k = A k) → Q (.inl (some (.int (nI m)))) (zM o ot it (yU 32 27 1 (yU 32 0 0 IF)) B AL AD)) (h2 : ¬ zIn (L 1) x ∨ ¬ zIn (L 0) z → Q (.inl (some (.int 0))) (zM o ot it (yU 32 0 1 IF) A AL AD)) (h3 : ∀ t s, t < L 1 → s < L 0 → x = nI t → z = nI s → gD L t s = false → Q (.inl (some (.int 0))) (zM o ot it (yU 32 0 2 IF) A AL AD)) : zW ε false (d + 8) 204 0 [(0, .ref 32), (1, .int x), (2, .int z)] [] (zM o ot it IF A AL AD) 0 0 Q := by
  refine zrun 7 ⟨⟨Nat.le_of_ble_eq_true rfl, Nat.le_of_ble_eq_true rfl, rfl⟩, ?_⟩
  refine c_isTrain (IF := yU 32 0 0 IF) hV (fun v hv => ⟨rfl, ?_⟩)
  refine zrun 1 (zb_f rfl (fun g1 => ?_) (fun g1 => ?_))
  · refine zrun 3 ⟨⟨Nat.le_of_ble_eq_true rfl, Nat.le_of_ble_eq_true rfl, rfl⟩, ?_⟩
    refine c_may0 (IF := IF) (b := false) (by decide) rfl (fun q => Bool.noConfusion q) (fun _ => ⟨rfl, ?_⟩)
    refine zrun 1 (zb_f (b := false) rfl (fun _ => ?_) (fun q => Bool.noConfusion q))
    exact zrun 2 (h2 (Or.inl (fun q => by rw [hv.mpr q] at g1; exact Bool.noConfusion g1)))
  · refine zrun 3 ⟨⟨Nat.le_of_ble_eq_true rfl, Nat.le_of_ble_eq_true rfl, rfl⟩, ?_⟩
    refine c_isStation (IF := yU 32 0 0 IF) hV (fun v2 hv2 => ⟨rfl, ?_⟩)
    refine zrun 1 (zb_f rfl (fun g2 => ?_) (fun g2 => ?_))
    · refine zrun 3 ⟨⟨Nat.le_of_ble_eq_true rfl, Nat.le_of_ble_eq_true rfl, rfl⟩, ?_⟩
      refine c_may0 (IF := IF) (b := false) (by decide) rfl (fun q => Bool.noConfusion q) (fun _ => ⟨rfl, ?_⟩)
      refine zrun 1 (zb_f (b := false) rfl (fun _ => ?_) (fun q => Bool.noConfusion q))
      exact zrun 2 (h2 (Or.inr (fun q => by rw [hv2.mpr q] at g2; exact Bool.noConfusion g2)))
    · refine zrun 4 ⟨⟨Nat.le_of_ble_eq_true rfl, Nat.le_of_ble_eq_true rfl, rfl⟩, ?_⟩
      refine c_may0 (IF := IF) (b := true) (by decide) rfl (fun _ => ⟨rfl, ?_⟩) (fun q => Bool.noConfusion q)
      refine zrun 1 (zb_f (b := true) rfl (fun q => Bool.noConfusion q) (fun _ => ?_))
      obtain ⟨t, ht, rfl⟩ := hv.mp g1
      obtain ⟨s, hs, rfl⟩ := hv2.mp g2
      have hB := hV.2.2.1
      refine zrun 5 ⟨⟨Nat.le_of_ble_eq_true rfl, Nat.le_of_ble_eq_true rfl, rfl⟩, ?_⟩
      refine c_mdep (IF := yU 32 0 0 IF) hV.1.1 hV.2.1 rfl rfl (by omega) (by omega) ⟨rfl, ?_⟩
      refine zrun 2 ⟨⟨Nat.le_of_ble_eq_true rfl, Nat.le_of_ble_eq_true rfl, rfl⟩, ?_⟩
      refine c_may0 (IF := IF) (by decide) rfl (fun b3 => ⟨rfl, ?_⟩) (fun b3 => ⟨rfl, ?_⟩)
      · refine zrun 1 (zb_t (b := true) rfl (fun _ => ?_) (fun q => Bool.noConfusion q))
        exact cl_to6 (IF := yU 32 0 0 IF) hV ht hs (hz t s ht hs rfl rfl b3) (fun m B o ot it => h1 t s ht hs rfl rfl b3 m B o ot it)
      · refine zrun 1 (zb_t (b := false) rfl (fun q => Bool.noConfusion q) (fun _ => ?_))
        exact zrun 2 (h3 t s ht hs rfl rfl b3)
end
