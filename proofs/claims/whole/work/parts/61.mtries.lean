/-! the reference: supplements tried -/
/-- from place b on, i places are f's -/
def cpo (b i : Nat) (f g : Nat → Int32) : Nat → Int32 := fun j => if b ≤ j ∧ j < b + i then f (j - b) else g j
theorem cpo_0 (b : Nat) (f g : Nat → Int32) : cpo b 0 f g = g := funext (fun j => if_neg (by omega))
theorem cpo_u (b i : Nat) (f g : Nat → Int32) : upd (cpo b i f g) (b + i) (f i) = cpo b (i + 1) f g := by
  funext j
  unfold upd cpo
  by_cases h : j = b + i
  · subst h; rw [if_pos rfl, if_pos (by omega), show b + i - b = i by omega]
  · rw [if_neg h]
    by_cases h2 : b ≤ j ∧ j < b + i
    · rw [if_pos h2, if_pos (by omega)]
    · rw [if_neg h2, if_neg (by omega)]
section
variable {ε : Nat × (Nat → Int32)} {al : Bool} {d y pc : Nat} {l : zL} {r : List Value} {uc us : Nat} {Q : zQ} {o ot it : Value} {IF A : Nat → Nat → Int32} {AL : Nat → Nat → Int64} {AD : Nat → Nat → UInt64}
theorem zW_isto {k b n N : Nat} {f : Nat → Int32} {i x : Int32} (hI : zI y pc = some (.iastore, 1)) (hk : zSh[k]? = some (1, N)) (hi : i = nI (b + n)) (hn : b + n < N) (hN : N < 4001) (hx : x = f n) (hh : zW ε al d y (pc + 1) l r (zM o ot it IF (va_up A k (cpo b (n + 1) f (A k))) AL AD) uc us Q) : zW ε al d y pc l (.int x :: .int i :: .ref k :: r) (zM o ot it IF (va_up A k (cpo b n f (A k))) AL AD) uc us Q := by
  subst hx
  refine zW_iast hI hk hi hn hN ?_
  have e : zpA (zM o ot it IF (va_up A k (cpo b n f (A k))) AL AD) k (upd ((va_up A k (cpo b n f (A k))) k) (b + n) (f n)) = zM o ot it IF (va_up A k (cpo b (n + 1) f (A k))) AL AD := by
    unfold zpA
    rw [vu_s, cpo_u]
    show (zSh, _, _, va_up (va_up A k _) k _, _, _) = _
    rw [vu_u]
  rw [show zpA (zM o ot it IF (va_up A k (cpo b n f (A k))) AL AD) k (upd ((zM o ot it IF (va_up A k (cpo b n f (A k))) AL AD).2.2.2.1 k) (b + n) (f n)) = _ from e]
  exact hh
end
theorem zdep {ε : Nat × (Nat → Int32)} {al : Bool} {d y pc : Nat} {l : zL} {st : List Value} {h : zH} {uc us : Nat} {Q : zQ} (d' : Nat) (e : d = d') (hh : zW ε al d' y pc l st h uc us Q) : zW ε al d y pc l st h uc us Q := by subst e; exact hh
/-- one way tried: the last segment takes what is left -/
def mfA (L p p' : Nat → Nat) (t g l : Nat) (A : Nat → Nat → Int32) : Nat → Nat → Int32 := mLw L p p' (va_up A 35 (upd (A 35) (7 * t + g) (nI l)))
def mfB (t : Nat) (A : Nat → Nat → Int32) : Nat → Nat → Int32 := va_up A 50 (cp 7 (fun s => A 35 (7 * t + s)) (A 50))
def mLf (L p p' : Nat → Nat) (t g l : Nat) (σ : zP) : zP := if σ.1 32 32 = -1 ∨ mds2 (mfA L p p' t g l σ.2) L (L 1) 0 0 < σ.1 32 32 then (yU 32 32 (mds2 (mfA L p p' t g l σ.2) L (L 1) 0 0) (yU 32 27 1 σ.1), mfB t (mfA L p p' t g l σ.2)) else (yU 32 27 1 σ.1, mfA L p p' t g l σ.2)
def mLp (f : Nat → zP → zP) : Nat → zP → zP
  | 0, σ => σ
  | j + 1, σ => mLp f j (f j σ)
def mTr (L p p' : Nat → Nat) (t : Nat) : Nat → Nat → Nat → zP → zP
  | 0, g, l, σ => mLf L p p' t g l σ
  | n + 1, g, l, σ => mLp (fun k σ => mTr L p p' t n (g + 1) (l - k) (σ.1, va_up σ.2 35 (upd (σ.2 35) (7 * t + g) (nI k)))) (l + 1) σ
section
variable {L p p' : Nat → Nat}
theorem mV_35 {A : Nat → Nat → Int32} {f : Nat → Int32} (h : mV L p p' A) : mV L p p' (va_up A 35 f) := ⟨⟨h.1.1, h.1.2.1, h.1.2.2⟩, h.2⟩
theorem mV_50 {A : Nat → Nat → Int32} {f : Nat → Int32} (h : mV L p p' A) : mV L p p' (va_up A 50 f) := ⟨⟨h.1.1, h.1.2.1, h.1.2.2⟩, h.2⟩
theorem mV_49 {A : Nat → Nat → Int32} {f : Nat → Int32} (h : mV L p p' A) : mV L p p' (va_up A 49 f) := ⟨⟨h.1.1, h.1.2.1, h.1.2.2⟩, h.2⟩
theorem mLf_V {t g l : Nat} {σ : zP} (h : mV L p p' σ.2) : mV L p p' (mLf L p p' t g l σ).2 := by
  unfold mLf
  split
  · exact mV_50 (mV_lw (mV_35 h))
  · exact mV_lw (mV_35 h)
theorem mLp_V {f : Nat → zP → zP} (hf : ∀ k σ, mV L p p' σ.2 → mV L p p' (f k σ).2) : ∀ (j : Nat) (σ : zP), mV L p p' σ.2 → mV L p p' (mLp f j σ).2
  | 0, _, h => h
  | j + 1, σ, h => mLp_V hf j _ (hf j σ h)
theorem mTr_V {t : Nat} : ∀ (n g l : Nat) (σ : zP), mV L p p' σ.2 → mV L p p' (mTr L p p' t n g l σ).2
  | 0, g, l, σ, h => mLf_V h
  | n + 1, g, l, σ, h => mLp_V (f := fun k σ => mTr L p p' t n (g + 1) (l - k) (σ.1, va_up σ.2 35 (upd (σ.2 35) (7 * t + g) (nI k)))) (fun k σ h => mTr_V n (g + 1) (l - k) _ (mV_35 h)) (l + 1) σ h
end
section
variable {ε : Nat × (Nat → Int32)} {d : Nat} {AL : Nat → Nat → Int64} {AD : Nat → Nat → UInt64} {L p p' q : Nat → Nat}
theorem cl_tb {Q : zQ} {o ot it : Value} {IF A : Nat → Nat → Int32} {t : Nat} (ht : t < 8) {v2 v3 v4 : Int32} : ∀ (n i : Nat) (c : Int32), i + n = 7 → c = nI i → Q (.inl none) (zM o ot it IF (va_up A 50 (cp 7 (fun s => A 35 (7 * t + s)) (A 50))) AL AD) → zW ε false d 205 57 [(0, .ref 32), (1, .int (nI t)), (2, .int v2), (3, .int v3), (4, .int v4), (5, .int c)] [] (zM o ot it IF (va_up A 50 (cp i (fun s => A 35 (7 * t + s)) (A 50))) AL AD) 0 0 Q := by
  intro n
  induction n with
  | zero =>
    intro i c hi hc hq
    refine zrun 3 (zb_ge (b := 7) hc rfl (by omega) (by omega) (fun _ => ?_) (fun q => absurd q (by omega)))
    exact zrun 1 (by have e7 : i = 7 := (by omega); subst e7; exact hq)
  | succ n ih =>
    intro i c hi hc hq
    subst hc
    refine zrun 3 (zb_ge (b := 7) rfl rfl (by omega) (by omega) (fun q => absurd q (by omega)) (fun _ => ?_))
    refine zrun 10 ?_
    refine zW_iald (n := 7 * t + i) rfl rfl (nI7' rfl rfl) (by omega) (by decide) ?_
    refine zW_istc (n := i) (f := fun s => A 35 (7 * t + s)) rfl rfl rfl (by omega) (by decide) rfl ?_
    exact zrun 2 (zloc [(0, _), (1, _), (2, _), (3, _), (4, _), (5, _)] rfl (ih (i + 1) (nI i + 1) (by omega) (nI_1 i) hq))
theorem cl_leaf {Q : zQ} {o ot it : Value} {t g l : Nat} {σ : zP} {x y w : Int32} (hx : x = nI t) (hy : y = nI g) (hw : w = nI l) (ht : t < L 1) (hg : g + 1 = tr L t 1) (hV : mV L p p' σ.2) (hq : ∀ o ot it : Value, Q (.inl none) (zM o ot it (mLf L p p' t g l σ).1 (mLf L p p' t g l σ).2 AL AD)) : zW ε false (d + 8) 205 0 [(0, .ref 32), (1, .int x), (2, .int y), (3, .int w)] [] (zM o ot it σ.1 σ.2 AL AD) 0 0 Q := by
  have hB := hV.2.2.1
  have hT := hV.2.2.2.2.2.2 t ht
  have hl : nI (tr L t 1) - 1 = nI (tr L t 1 - 1) := nIp rfl (by omega)
  subst hx
  subst hy
  subst hw
  unfold mLf at hq
  have yes : (σ.1 32 32 = -1 ∨ mds2 (mfA L p p' t g l σ.2) L (L 1) 0 0 < σ.1 32 32) → zW ε false (d + 8) 205 48 [(0, .ref 32), (1, .int (nI t)), (2, .int (nI g)), (3, .int (nI l)), (4, .int (mds2 (mfA L p p' t g l σ.2) L (L 1) 0 0))] [] (zMm true (yU 32 27 1 σ.1) (mfA L p p' t g l σ.2) AL AD) 0 0 Q := by
    intro h
    rw [if_pos h] at hq
    have e := cl_tb (ε := ε) (d := d + 8) (Q := Q) (o := .ref (mo true)) (ot := .ref (mu true)) (it := .ref (mi true)) (IF := yU 32 32 (mds2 (mfA L p p' t g l σ.2) L (L 1) 0 0) (yU 32 27 1 σ.1)) (A := mfA L p p' t g l σ.2) (AL := AL) (AD := AD) (t := t) (by omega) (v2 := nI g) (v3 := nI l) (v4 := mds2 (mfA L p p' t g l σ.2) L (L 1) 0 0) 7 0 0 (by omega) nI_0.symm (hq _ _ _)
    rw [cp_0, vu_id] at e
    exact zrun 5 (zloc [(0, _), (1, _), (2, _), (3, _), (4, _), (5, _)] rfl (e))
  refine zrun 5 ⟨⟨Nat.le_of_ble_eq_true rfl, Nat.le_of_ble_eq_true rfl, rfl⟩, ?_⟩
  refine c_mof (w := 1) hV.1.1 rfl rfl (by omega) ⟨rfl, ?_⟩
  refine zrun 3 (zb_ne rfl hl (by omega) (by omega) (fun z => absurd (by omega) z) (fun _ => ?_))
  refine zrun 8 ?_
  refine zW_iast (n := 7 * t + g) rfl rfl (nI7' rfl rfl) (by omega) (by decide) ?_
  refine zrun 2 ⟨⟨Nat.le_of_ble_eq_true rfl, Nat.le_of_ble_eq_true rfl, rfl⟩, ?_⟩
  refine c_delays (mV_35 hV) ⟨rfl, ?_⟩
  refine zrun 4 (zloc [(0, _), (1, _), (2, _), (3, _), (4, _)] rfl ?_)
  refine zrun 1 ⟨(fun g1 => ?_), (fun g1 => ?_)⟩
  · exact yes (Or.inl g1)
  · refine zrun 4 ⟨(fun g2 => ?_), (fun g2 => ?_)⟩
    · exact yes (Or.inr g2)
    · exact zrun 1 (by rw [if_neg (fun z => z.elim g1 g2)] at hq; exact hq _ _ _)
theorem c_tries {t : Nat} (ht : t < L 1) : ∀ (n g l : Nat) (Q : zQ) (o ot it : Value) (σ : zP) (x y w : Int32), x = nI t → y = nI g → w = nI l → g + n + 1 = tr L t 1 → l ≤ 100 → mV L p p' σ.2 → (∀ o ot it : Value, Q (.inl none) (zM o ot it (mTr L p p' t n g l σ).1 (mTr L p p' t n g l σ).2 AL AD)) → zW ε false (d + 8 + n) 205 0 [(0, .ref 32), (1, .int x), (2, .int y), (3, .int w)] [] (zM o ot it σ.1 σ.2 AL AD) 0 0 Q := by
  intro n
  induction n with
  | zero =>
    intro g l Q o ot it σ x y w hx hy hw hg hl hV hq
    exact cl_leaf hx hy hw ht hg hV hq
  | succ n ih =>
    intro g l Q o ot it σ x y w hx hy hw hg hl hV hq
    have hB := hV.2.2.1
    have hT := hV.2.2.2.2.2.2 t ht
    have hl1 : nI (tr L t 1) - 1 = nI (tr L t 1 - 1) := nIp rfl (by omega)
    subst hx
    subst hy
    subst hw
    unfold mTr at hq
    generalize hf : (fun k σ => mTr L p p' t n (g + 1) (l - k) (σ.1, va_up σ.2 35 (upd (σ.2 35) (7 * t + g) (nI k))) : Nat → zP → zP) = f at hq
    have lp : ∀ (j : Nat) (σ : zP) (o ot it : Value) (c : Int32), j ≤ l + 1 → c = nI j - 1 → mV L p p' σ.2 → (∀ o ot it : Value, Q (.inl none) (zM o ot it (mLp f j σ).1 (mLp f j σ).2 AL AD)) → zW ε false (d + 8 + (n + 1)) 205 93 [(0, .ref 32), (1, .int (nI t)), (2, .int (nI g)), (3, .int (nI l)), (4, .int c)] [] (zM o ot it σ.1 σ.2 AL AD) 0 0 Q := by
      intro j
      induction j with
      | zero =>
        intro σ o ot it c hj hc hV hq
        refine zrun 2 ⟨(fun _ => ?_), (fun z => absurd (show c < 0 by rw [hc]; decide) z)⟩
        exact zrun 1 (hq _ _ _)
      | succ k ik =>
        intro σ o ot it c hj hc hV hq
        rw [nI_pred] at hc
        subst hc
        have hfk : f k σ = mTr L p p' t n (g + 1) (l - k) (σ.1, va_up σ.2 35 (upd (σ.2 35) (7 * t + g) (nI k))) := by rw [← hf]
        have hVk := mTr_V (t := t) n (g + 1) (l - k) (σ.1, va_up σ.2 35 (upd (σ.2 35) (7 * t + g) (nI k))) (mV_35 hV)
        have next := fun o ot it => ik (f k σ) o ot it (nI k + -1) (by omega) (by rw [Int32.sub_eq_add_neg]) (by rw [hfk]; exact hVk) hq
        rw [hfk] at next
        refine zrun 2 ⟨(fun z => absurd z (nI_pos (by omega))), (fun _ => ?_)⟩
        refine zrun 8 ?_
        refine zW_iast (n := 7 * t + g) rfl rfl (nI7' rfl rfl) (by omega) (by decide) ?_
        refine zrun 9 ⟨⟨Nat.le_of_ble_eq_true rfl, Nat.le_of_ble_eq_true rfl, rfl⟩, ?_⟩
        refine ih (g + 1) (l - k) _ _ _ _ (σ.1, va_up σ.2 35 (upd (σ.2 35) (7 * t + g) (nI k))) _ _ _ rfl (nI_1 g) (pk_sub (by omega)) (by omega) (by omega) (mV_35 hV) (fun o ot it => ⟨rfl, ?_⟩)
        exact zrun 2 (zloc [(0, _), (1, _), (2, _), (3, _), (4, _)] rfl (next _ _ _))
    refine zrun 5 ⟨⟨Nat.le_of_ble_eq_true rfl, Nat.le_of_ble_eq_true rfl, rfl⟩, ?_⟩
    refine c_mof (w := 1) hV.1.1 rfl rfl (by omega) ⟨rfl, ?_⟩
    refine zrun 3 (zb_ne rfl hl1 (by omega) (by omega) (fun _ => ?_) (fun z => absurd z (by omega)))
    exact zrun 2 (zloc [(0, _), (1, _), (2, _), (3, _), (4, _)] rfl (lp (l + 1) σ _ _ _ _ (by omega) (nI_pred l).symm hV hq))
theorem cl_fh {Q : zQ} {o ot it : Value} {IF A : Nat → Nat → Int32} {t : Nat} (ht : t < 8) {v2 : Int32} : ∀ (n i : Nat) (c : Int32), i + n = 7 → c = nI i → zW ε false d 206 65 [(0, .ref 32), (1, .int (nI t)), (2, .int v2)] [] (zM o ot it IF (va_up A 49 (cp 7 (fun s => A 35 (7 * t + s)) (A 49))) AL AD) 0 0 Q → zW ε false d 206 36 [(0, .ref 32), (1, .int (nI t)), (2, .int v2), (3, .int c)] [] (zM o ot it IF (va_up A 49 (cp i (fun s => A 35 (7 * t + s)) (A 49))) AL AD) 0 0 Q := by
  intro n
  induction n with
  | zero =>
    intro i c hi hc hq
    refine zrun 3 (zb_ge (b := 7) hc rfl (by omega) (by omega) (fun _ => ?_) (fun q => absurd q (by omega)))
    exact zfg [0, 1, 2] (zloc [(0, _), (1, _), (2, _)] rfl (by have e7 : i = 7 := (by omega); subst e7; exact hq))
  | succ n ih =>
    intro i c hi hc hq
    subst hc
    refine zrun 3 (zb_ge (b := 7) rfl rfl (by omega) (by omega) (fun q => absurd q (by omega)) (fun _ => ?_))
    refine zrun 10 ?_
    refine zW_iald (n := 7 * t + i) rfl rfl (nI7' rfl rfl) (by omega) (by decide) ?_
    refine zW_istc (n := i) (f := fun s => A 35 (7 * t + s)) rfl rfl rfl (by omega) (by decide) rfl ?_
    exact zrun 2 (zloc [(0, _), (1, _), (2, _), (3, _)] rfl (ih (i + 1) (nI i + 1) (by omega) (nI_1 i) hq))
/-- finds: the ways tried from the first segment on -/
def mFn (L p p' : Nat → Nat) (t m : Nat) (IF A : Nat → Nat → Int32) : zP := mTr L p p' t (tr L t 1 - 1 - tr L t 0) (tr L t 0) m (yU 32 32 (-1) IF, va_up A 49 (cp 7 (fun s => A 35 (7 * t + s)) (A 49)))
theorem c_finds {Q : zQ} {o ot it : Value} {IF A : Nat → Nat → Int32} (hV : mV L p p' A) {x w : Int32} (h1 : ∀ t m, t < L 1 → m < 6 → x = nI t → w = nI m → ∀ o ot it : Value, Q (.inl (some (.int 1))) (zM o ot it (mFn L p p' t m (yU 32 0 0 IF) A).1 (mFn L p p' t m (yU 32 0 0 IF) A).2 AL AD)) (h2 : ¬ zIn (L 1) x → Q (.inl (some (.int 0))) (zM o ot it (yU 32 0 1 IF) A AL AD)) (h3 : zIn (L 1) x → ¬ zIn 6 w → Q (.inl (some (.int 0))) (zM o ot it (yU 32 0 2 IF) A AL AD)) : zW ε false (d + 16) 206 0 [(0, .ref 32), (1, .int x), (2, .int w)] [] (zM o ot it (yU 32 0 0 IF) A AL AD) 0 0 Q := by
  refine zrun 4 ⟨⟨Nat.le_of_ble_eq_true rfl, Nat.le_of_ble_eq_true rfl, rfl⟩, ?_⟩
  refine c_isTrain (IF := yU 32 0 0 IF) hV (fun v hv => ⟨rfl, ?_⟩)
  refine zrun 2 ⟨⟨Nat.le_of_ble_eq_true rfl, Nat.le_of_ble_eq_true rfl, rfl⟩, ?_⟩
  refine c_may0 (IF := IF) (by decide) rfl (fun b => ⟨rfl, ?_⟩) (fun b => ⟨rfl, ?_⟩)
  · refine zrun 1 (zb_f (b := true) rfl (fun q => Bool.noConfusion q) (fun _ => ?_))
    refine zrun 5 ⟨⟨Nat.le_of_ble_eq_true rfl, Nat.le_of_ble_eq_true rfl, rfl⟩, ?_⟩
    refine c_isIn (fun v2 hv2 => ⟨rfl, ?_⟩)
    refine zrun 2 ⟨⟨Nat.le_of_ble_eq_true rfl, Nat.le_of_ble_eq_true rfl, rfl⟩, ?_⟩
    refine c_may0 (IF := IF) (by decide) rfl (fun b2 => ⟨rfl, ?_⟩) (fun b2 => ⟨rfl, ?_⟩)
    · refine zrun 1 (zb_t (b := true) rfl (fun _ => ?_) (fun q => Bool.noConfusion q))
      obtain ⟨t, ht, rfl⟩ := hv.mp b
      obtain ⟨m, hm, rfl⟩ := (zIn_c (n := 5) (by decide)).mp (hv2.mp b2)
      have hB := hV.2.2.1
      have hT := hV.2.2.2.2.2.2 t ht
      have hk := h1 t m ht hm rfl rfl
      unfold mFn at hk
      have e := fun q => cl_fh (ε := ε) (d := d + 16) (Q := Q) (o := o) (ot := ot) (it := it) (IF := yU 32 32 (-1) (yU 32 0 0 IF)) (A := A) (AL := AL) (AD := AD) (t := t) (by omega) (v2 := nI m) 7 0 0 (by omega) nI_0.symm q
      rw [cp_0, vu_id] at e
      refine zrun 5 (zloc [(0, _), (1, _), (2, _), (3, _)] rfl (e ?_))
      obtain ⟨n, hn⟩ : ∃ n, n = tr L t 1 - 1 - tr L t 0 := ⟨_, rfl⟩
      rw [← hn] at hk
      refine zrun 6 ⟨⟨Nat.le_of_ble_eq_true rfl, Nat.le_of_ble_eq_true rfl, rfl⟩, ?_⟩
      refine c_mof (w := 0) (mV_49 (f := cp 7 (fun s => A 35 (7 * t + s)) (A 49)) hV).1.1 rfl rfl (by omega) ⟨rfl, ?_⟩
      refine zrun 2 ⟨⟨Nat.le_of_ble_eq_true rfl, Nat.le_of_ble_eq_true rfl, rfl⟩, ?_⟩
      refine zdep (d + 7 - n + 8 + n) (by omega) (c_tries (d := d + 7 - n) ht n (tr L t 0) m _ _ _ _ (_, _) _ _ _ rfl rfl rfl (by omega) (by omega) (mV_49 hV) (fun o ot it => ⟨rfl, ?_⟩))
      exact zrun 2 (⟨rfl, hk _ _ _⟩)
    · refine zrun 1 (zb_t (b := false) rfl (fun q => Bool.noConfusion q) (fun _ => ?_))
      exact zrun 2 (⟨rfl, h3 (hv.mp b) (fun q => by rw [hv2.mpr ((zIn_c (n := 5) (by decide)).mpr q)] at b2; exact Bool.noConfusion b2)⟩)
  · refine zrun 1 (zb_f (b := false) rfl (fun _ => ?_) (fun q => Bool.noConfusion q))
    exact zrun 2 (⟨rfl, h2 (fun q => by rw [hv.mpr q] at b; exact Bool.noConfusion b)⟩)
theorem cl_mld {Q : zQ} {o ot it : Value} {IF A : Nat → Nat → Int32} {t : Nat} (ht : t < 8) {v2 : Int32} : ∀ (n i : Nat) (c : Int32), i + n = 7 → c = nI i → Q (.inl (some (.int (IF 32 32)))) (zM o ot it IF (va_up A 35 (cpo (7 * t) 7 (A 49) (A 35))) AL AD) → zW ε false d 207 18 [(0, .ref 32), (1, .int (nI t)), (2, .int v2), (3, .int c)] [] (zM o ot it IF (va_up A 35 (cpo (7 * t) i (A 49) (A 35))) AL AD) 0 0 Q := by
  intro n
  induction n with
  | zero =>
    intro i c hi hc hq
    refine zrun 3 (zb_ge (b := 7) hc rfl (by omega) (by omega) (fun _ => ?_) (fun q => absurd q (by omega)))
    exact zrun 3 (by have e7 : i = 7 := (by omega); subst e7; exact hq)
  | succ n ih =>
    intro i c hi hc hq
    subst hc
    refine zrun 3 (zb_ge (b := 7) rfl rfl (by omega) (by omega) (fun q => absurd q (by omega)) (fun _ => ?_))
    refine zrun 10 ?_
    refine zW_iald (n := i) rfl rfl rfl (by omega) (by decide) ?_
    refine zW_isto (b := 7 * t) (n := i) (f := A 49) rfl rfl (nI7' rfl rfl) (by omega) (by decide) rfl ?_
    exact zrun 2 (zloc [(0, _), (1, _), (2, _), (3, _)] rfl (ih (i + 1) (nI i + 1) (by omega) (nI_1 i) hq))
theorem c_mleastDelay {Q : zQ} {o ot it : Value} {IF A : Nat → Nat → Int32} (hV : mV L p p' A) {x w : Int32} (h1 : ∀ t m, t < L 1 → m < 6 → x = nI t → w = nI m → ∀ o ot it : Value, Q (.inl (some (.int ((mFn L p p' t m (yU 32 0 0 IF) A).1 32 32)))) (zM o ot it (mFn L p p' t m (yU 32 0 0 IF) A).1 (va_up (mFn L p p' t m (yU 32 0 0 IF) A).2 35 (cpo (7 * t) 7 ((mFn L p p' t m (yU 32 0 0 IF) A).2 49) ((mFn L p p' t m (yU 32 0 0 IF) A).2 35))) AL AD)) (h2 : ¬ zIn (L 1) x → Q (.inl (some (.int 0))) (zM o ot it (yU 32 0 1 IF) A AL AD)) (h3 : zIn (L 1) x → ¬ zIn 6 w → Q (.inl (some (.int 0))) (zM o ot it (yU 32 0 2 IF) A AL AD)) : zW ε false (d + 17) 207 0 [(0, .ref 32), (1, .int x), (2, .int w)] [] (zM o ot it IF A AL AD) 0 0 Q := by
  refine zrun 7 ⟨⟨Nat.le_of_ble_eq_true rfl, Nat.le_of_ble_eq_true rfl, rfl⟩, ?_⟩
  refine c_finds (IF := IF) (d := d) hV (fun t m ht hm hx hw o ot it => ⟨rfl, ?_⟩) (fun g => ⟨rfl, ?_⟩) (fun g1 g2 => ⟨rfl, ?_⟩)
  · subst hx
    subst hw
    have hB := hV.2.2.1
    have e := cl_mld (ε := ε) (d := d + 17) (Q := Q) (o := o) (ot := ot) (it := it) (IF := (mFn L p p' t m (yU 32 0 0 IF) A).1) (A := (mFn L p p' t m (yU 32 0 0 IF) A).2) (AL := AL) (AD := AD) (t := t) (by omega) (v2 := nI m) 7 0 0 (by omega) nI_0.symm (h1 t m ht hm rfl rfl o ot it)
    rw [cpo_0, vu_id] at e
    refine zrun 1 (zb_t (b := true) rfl (fun _ => ?_) (fun q => Bool.noConfusion q))
    exact zrun 2 (zloc [(0, _), (1, _), (2, _), (3, _)] rfl (e))
  · refine zrun 1 (zb_t (b := false) rfl (fun q => Bool.noConfusion q) (fun _ => ?_))
    exact zrun 2 (h2 g)
  · refine zrun 1 (zb_t (b := false) rfl (fun q => Bool.noConfusion q) (fun _ => ?_))
    exact zrun 2 (h3 g1 g2)
theorem cl_mdi {Q : zQ} {o ot it : Value} {IF A : Nat → Nat → Int32} {t : Nat} (ht : t < 8) {v2 : Int32} : ∀ (n i : Nat) (c : Int32), i + n = 7 → c = nI i → Q (.inl (some (.int (IF 32 32)))) (zM o ot it IF (va_up A 35 (cpo (7 * t) 7 (A 50) (A 35))) AL AD) → zW ε false d 208 18 [(0, .ref 32), (1, .int (nI t)), (2, .int v2), (3, .int c)] [] (zM o ot it IF (va_up A 35 (cpo (7 * t) i (A 50) (A 35))) AL AD) 0 0 Q := by
  intro n
  induction n with
  | zero =>
    intro i c hi hc hq
    refine zrun 3 (zb_ge (b := 7) hc rfl (by omega) (by omega) (fun _ => ?_) (fun q => absurd q (by omega)))
    exact zrun 3 (by have e7 : i = 7 := (by omega); subst e7; exact hq)
  | succ n ih =>
    intro i c hi hc hq
    subst hc
    refine zrun 3 (zb_ge (b := 7) rfl rfl (by omega) (by omega) (fun q => absurd q (by omega)) (fun _ => ?_))
    refine zrun 10 ?_
    refine zW_iald (n := i) rfl rfl rfl (by omega) (by decide) ?_
    refine zW_isto (b := 7 * t) (n := i) (f := A 50) rfl rfl (nI7' rfl rfl) (by omega) (by decide) rfl ?_
    exact zrun 2 (zloc [(0, _), (1, _), (2, _), (3, _)] rfl (ih (i + 1) (nI i + 1) (by omega) (nI_1 i) hq))
theorem c_mdistribute {Q : zQ} {o ot it : Value} {IF A : Nat → Nat → Int32} (hV : mV L p p' A) {x w : Int32} (h1 : ∀ t m, t < L 1 → m < 6 → x = nI t → w = nI m → ∀ o ot it : Value, Q (.inl (some (.int ((mFn L p p' t m (yU 32 0 0 IF) A).1 32 32)))) (zM o ot it (mFn L p p' t m (yU 32 0 0 IF) A).1 (va_up (mFn L p p' t m (yU 32 0 0 IF) A).2 35 (cpo (7 * t) 7 ((mFn L p p' t m (yU 32 0 0 IF) A).2 50) ((mFn L p p' t m (yU 32 0 0 IF) A).2 35))) AL AD)) (h2 : ¬ zIn (L 1) x → Q (.inl (some (.int 0))) (zM o ot it (yU 32 0 1 IF) A AL AD)) (h3 : zIn (L 1) x → ¬ zIn 6 w → Q (.inl (some (.int 0))) (zM o ot it (yU 32 0 2 IF) A AL AD)) : zW ε false (d + 17) 208 0 [(0, .ref 32), (1, .int x), (2, .int w)] [] (zM o ot it IF A AL AD) 0 0 Q := by
  refine zrun 7 ⟨⟨Nat.le_of_ble_eq_true rfl, Nat.le_of_ble_eq_true rfl, rfl⟩, ?_⟩
  refine c_finds (IF := IF) (d := d) hV (fun t m ht hm hx hw o ot it => ⟨rfl, ?_⟩) (fun g => ⟨rfl, ?_⟩) (fun g1 g2 => ⟨rfl, ?_⟩)
  · subst hx
    subst hw
    have hB := hV.2.2.1
    have e := cl_mdi (ε := ε) (d := d + 17) (Q := Q) (o := o) (ot := ot) (it := it) (IF := (mFn L p p' t m (yU 32 0 0 IF) A).1) (A := (mFn L p p' t m (yU 32 0 0 IF) A).2) (AL := AL) (AD := AD) (t := t) (by omega) (v2 := nI m) 7 0 0 (by omega) nI_0.symm (h1 t m ht hm rfl rfl o ot it)
    rw [cpo_0, vu_id] at e
    refine zrun 1 (zb_t (b := true) rfl (fun _ => ?_) (fun q => Bool.noConfusion q))
    exact zrun 2 (zloc [(0, _), (1, _), (2, _), (3, _)] rfl (e))
  · refine zrun 1 (zb_t (b := false) rfl (fun q => Bool.noConfusion q) (fun _ => ?_))
    exact zrun 2 (h2 g)
  · refine zrun 1 (zb_t (b := false) rfl (fun q => Bool.noConfusion q) (fun _ => ?_))
    exact zrun 2 (h3 g1 g2)
end
