/-! the reference's times: values -/
def jn (D E : Nat → Nat) : Nat → Nat := fun e => if e < 64 then D e else E (e - 64)
theorem jn_d {D E : Nat → Nat} {e : Nat} (h : e < 64) : jn D E e = D e := if_pos h
theorem jn_a {D E : Nat → Nat} {e : Nat} : jn D E (e + 64) = E e := by unfold jn; rw [if_neg (by omega), Nat.add_sub_cancel]
theorem jn_ud {D E : Nat → Nat} {e v : Nat} (h : e < 64) : jn (va_up D e v) E = va_up (jn D E) e v := by
  funext j
  unfold jn va_up
  dsimp only
  by_cases q : j = e
  · subst q; rw [if_pos h, if_pos rfl, if_pos rfl]
  · rw [if_neg q, if_neg q]
theorem jn_ua {D E : Nat → Nat} {e v : Nat} : jn D (va_up E e v) = va_up (jn D E) (e + 64) v := by
  funext j
  unfold jn va_up
  dsimp only
  by_cases q : j = e + 64
  · subst q; rw [if_neg (by omega), if_pos (by omega), if_pos rfl]
  · rw [if_neg q]
    by_cases h : j < 64
    · rw [if_pos h, if_pos h]
    · rw [if_neg h, if_neg h, if_neg (by omega)]
/-- the reference's times as one row -/
def mT (ac : Bool) (A : Nat → Nat → Int32) : Nat → Nat := jn (tn (A (mu ac))) (tn (A (mi ac)))
/-- floors and extras, as the reference has them -/
def mEx (ac : Bool) (A : Nat → Nat → Int32) (L fl ex : Nat → Nat) : Prop := (ac = true → ∀ t s b, t < L 1 → gE L t s b = true → A (cond b 43 42) (8 * t + s) = nI (fl (8 * t + s + cond b 64 0)) ∧ A (cond b 40 39) (8 * t + s) = nI (ex (8 * t + s + cond b 64 0)) ∧ tr L t 2 ≤ fl (8 * t + tr L t 0)) ∧ (ac = false → ∀ t s b, t < L 1 → gE L t s b = true → (b = true → A 35 (7 * t + s - 1) = nI (ex (8 * t + s + 64))) ∧ (b = false → ex (8 * t + s) = 0) ∧ fl (8 * t + s + cond b 64 0) = (if b = false ∧ s = tr L t 0 then tr L t 2 else 0))
def mSd (ac : Bool) (A : Nat → Nat → Int32) (L p fl ex : Nat → Nat) : Prop := (A 33 = lf L ∧ A (mo ac) = lf p ∧ mEx ac A L fl ex) ∧ lT L ∧ pOrd L p ∧ eB L fl ex 200000
section
variable {L p fl ex : Nat → Nat} {A : Nat → Nat → Int32} {ac : Bool}
theorem mSd_up (h : mSd ac A L p fl ex) {k : Nat} {f : Nat → Int32} (hk : k = mi ac ∨ k = mu ac ∨ k = 46) : mSd ac (va_up A k f) L p fl ex := by
  obtain ⟨⟨h1, h2, h3⟩, h4⟩ := h
  have hm : ¬ 33 = k ∧ ¬ mo ac = k ∧ ¬ 35 = k := by
    rcases hk with rfl | rfl | rfl <;> cases ac <;> decide
  have hm2 : ac = true → ¬ 43 = k ∧ ¬ 42 = k ∧ ¬ 40 = k ∧ ¬ 39 = k := fun e => by
    subst e
    rcases hk with rfl | rfl | rfl <;> decide
  refine ⟨⟨(vu_n hm.1).trans h1, (vu_n hm.2.1).trans h2, fun e t s b ht hv => ?_, fun e t s b ht hv => ?_⟩, h4⟩
  · have q := h3.1 e t s b ht hv
    have n := hm2 e
    cases b with
    | true => exact ⟨by show va_up A k f 43 _ = _; rw [vu_n n.1]; exact q.1, by show va_up A k f 40 _ = _; rw [vu_n n.2.2.1]; exact q.2.1, q.2.2⟩
    | false => exact ⟨by show va_up A k f 42 _ = _; rw [vu_n n.2.1]; exact q.1, by show va_up A k f 39 _ = _; rw [vu_n n.2.2.2]; exact q.2.1, q.2.2⟩
  · have q := h3.2 e t s b ht hv
    exact ⟨fun z => by rw [vu_n hm.2.2]; exact q.1 z, q.2⟩
theorem mT_d {t s : Nat} (ht : t < 8) (hs : s < 8) : A (mu ac) (8 * t + s) = nI (mT ac A (8 * t + s)) := by
  unfold mT
  rw [jn_d (by omega)]
  exact (nI_tn _).symm
theorem mT_a {t s : Nat} : A (mi ac) (8 * t + s) = nI (mT ac A (8 * t + s + 64)) := by
  unfold mT
  rw [jn_a]
  exact (nI_tn _).symm
theorem mA1_n (h : mSd ac A L p fl ex) {t s : Nat} (ht : t < L 1) (hv : gE L t s true = true) : mA1 ac A L t s = nI (gI L fl ex (mT ac A) t s true) := by
  have hL := h.2.1
  have hB := hL.1.2.1
  have e := ev_s hL ht hv
  unfold mA1
  rw [mT_d (A := A) (ac := ac) (t := t) (s := s - 1) (by omega) (by omega), nI_add]
  have e2 : cond ac (A 40 (8 * t + s)) (A 35 (7 * t + s - 1)) = nI (ex (8 * t + s + 64)) := by
    cases ac with
    | true => exact (h.1.2.2.1 rfl t s true ht hv).2.1
    | false => exact (h.1.2.2.2 rfl t s true ht hv).1 rfl
  rw [e2, nI_add]
  rfl
theorem mA2_n (h : mSd ac A L p fl ex) {t s : Nat} (ht : t < L 1) (hv : gE L t s true = true) (hb : gI L fl ex (mT ac A) t s true < 2 ^ 31) : mA2 ac A L t s = nI (max (fl (8 * t + s + 64)) (gI L fl ex (mT ac A) t s true)) := by
  have hf := (h.2.2.2 t s true ht hv).1
  unfold mA2
  rw [mA1_n h ht hv]
  cases ac with
  | true =>
    have e := (h.1.2.2.1 rfl t s true ht hv).1
    have e' : A 43 (8 * t + s) = nI (fl (8 * t + s + 64)) := e
    have hf' : fl (8 * t + s + 64) ≤ 200000 := hf
    show zmx _ (A 43 (8 * t + s)) = _
    rw [e', zmx_n hb (by omega), Nat.max_comm]
  | false =>
    have e := (h.1.2.2.2 rfl t s true ht hv).2.2
    have e' : fl (8 * t + s + 64) = 0 := e.trans (if_neg (fun q => Bool.noConfusion q.1))
    show nI _ = nI _
    rw [e', Nat.max_eq_right (Nat.zero_le _)]
theorem mA4_v (h : mSd ac A L p fl ex) {t s : Nat} (ht : t < L 1) (hv : gE L t s true = true) (hb : ∀ t' s' b', t' < L 1 → gE L t' s' b' = true → rk L p t' s' b' < rk L p t s true → mT ac A (8 * t' + s' + cond b' 64 0) ≤ 200000 + 3000 * (rk L p t' s' b' + 1)) {pl : Bool} : mA4 ac A L t s (gB L p (s - 1) t) = nI (gF L p fl ex pl (mT ac A) t s true) := by
  have hL := h.2.1
  have hp := h.2.2.1
  have hB := hL.1.2.1
  have hS2 := hL.2
  have e := ev_s hL ht hv
  have hle := gF_le (pl := pl) hL hp h.2.2.2 ht hv hb
  have hrk := (rk_s hL hp ht hv).2
  unfold gF at hle ⊢
  have m1 := Nat.max_le.mp hle
  have m2 := Nat.max_le.mp m1.1
  have m3 := Nat.max_le.mp m2.1
  have q2 := mA2_n h ht hv (by omega)
  have hma : max (fl (8 * t + s + 64)) (gI L fl ex (mT ac A) t s true) < 2 ^ 31 := Nat.max_lt.mpr ⟨by have q := m3.1; have q' : fl (8 * t + s + 64) ≤ _ := q; omega, by omega⟩
  have mh := m2.2
  have mp := m1.2
  show mA4 ac A L t s (gB L p (s - 1) t) = nI (max (max (max (fl (8 * t + s + 64)) (gI L fl ex (mT ac A) t s true)) (gH L p (mT ac A) t s true)) (gP L p (mT ac A) t s))
  unfold gH at mh ⊢
  show mA4 ac A L t s (gB L p (s - 1) t) = nI (max (max (max (fl (8 * t + s + 64)) (gI L fl ex (mT ac A) t s true)) (match gB L p (s - 1) t with | none => 0 | some o => mT ac A (8 * o + s + 64) + L 3)) (gP L p (mT ac A) t s))
  have mh' : (match gB L p (s - 1) t with | none => 0 | some o => mT ac A (8 * o + s + 64) + L 3) ≤ 200000 + 3000 * (rk L p t s true + 1) := mh
  have mp' : gP L p (mT ac A) t s ≤ 200000 + 3000 * (rk L p t s true + 1) := mp
  unfold gP at mp' ⊢
  cases ho : gB L p (s - 1) t with
  | none =>
    rw [mA4_n, q2]
    show nI _ = nI (max (max _ 0) (if L (5 + s) = 1 then 0 else 0))
    rw [Nat.max_eq_left (Nat.zero_le _), show (if L (5 + s) = 1 then 0 else 0) = 0 by split <;> rfl, Nat.max_eq_left (Nat.zero_le _)]
  | some o =>
    rw [ho] at mh' mp'
    have h1 := (gB_some hp (show s - 1 < L 0 - 1 by omega) ho).1
    have mh2 : mT ac A (8 * o + s + 64) + L 3 ≤ 200000 + 3000 * (rk L p t s true + 1) := mh'
    have e3 : zmx (mA2 ac A L t s) (A (mi ac) (8 * o + s) + nI (L 3)) = nI (max (max (fl (8 * t + s + 64)) (gI L fl ex (mT ac A) t s true)) (mT ac A (8 * o + s + 64) + L 3)) := by rw [q2, mT_a (A := A) (ac := ac) (t := o) (s := s), nI_add, zmx_n hma (by omega)]
    have hk1 := hL.1.2.2.1 s (by omega)
    by_cases hk : L (5 + s) = 1
    · rw [mA4_f (fun z => by omega), e3]
      show nI _ = nI (max (max _ (mT ac A (8 * o + s + 64) + L 3)) (if L (5 + s) = 1 then 0 else _))
      rw [if_pos hk, Nat.max_eq_left (Nat.zero_le _)]
    · rw [if_neg hk] at mp'
      have mp2 : cond (gD L o s) (mT ac A (8 * o + s) + L 3) 0 ≤ 200000 + 3000 * (rk L p t s true + 1) := mp'
      show _ = nI (max (max _ (mT ac A (8 * o + s + 64) + L 3)) (if L (5 + s) = 1 then 0 else cond (gD L o s) (mT ac A (8 * o + s) + L 3) 0))
      rw [if_neg hk]
      cases hd : gD L o s with
      | true =>
        rw [hd] at mp2
        have mp3 : mT ac A (8 * o + s) + L 3 ≤ 200000 + 3000 * (rk L p t s true + 1) := mp2
        rw [mA4_t (by omega) hd, e3, mT_d (A := A) (ac := ac) (t := o) (s := s) (by omega) (by omega), nI_add, zmx_n (Nat.max_lt.mpr ⟨hma, by omega⟩) (by omega)]
        rfl
      | false =>
        rw [mA4_f (fun z => by rw [hd] at z; exact Bool.noConfusion z.2), e3]
        show nI _ = nI (max _ 0)
        rw [Nat.max_eq_left (Nat.zero_le _)]
theorem mD1_n (h : mSd ac A L p fl ex) {t s : Nat} (ht : t < L 1) (hv : gE L t s false = true) (hb : gI L fl ex (mT ac A) t s false < 2 ^ 31) : mD1 ac A L t s = nI (max (fl (8 * t + s)) (gI L fl ex (mT ac A) t s false)) := by
  have hL := h.2.1
  have hB := hL.1.2.1
  have e := ev_s hL ht hv
  have hf : fl (8 * t + s) ≤ 200000 := (h.2.2.2 t s false ht hv).1
  have hst := tr_31 hL ht (show 2 < 5 by omega)
  unfold mD1 mD0
  have gi : gI L fl ex (mT ac A) t s false = if s = tr L t 0 then fl (8 * t + s) + ex (8 * t + s) else mT ac A (8 * t + s + 64) + tr L t 4 + ex (8 * t + s) := rfl
  rw [gi] at hb ⊢
  cases ac with
  | true =>
    have e1 := h.1.2.2.1 rfl t s false ht hv
    have e2 : A 42 (8 * t + s) = nI (fl (8 * t + s)) := e1.1
    have e3 : A 39 (8 * t + s) = nI (ex (8 * t + s)) := e1.2.1
    show zmx (if s = tr L t 0 then nI (tr L t 2) else A (mi true) (8 * t + s) + nI (tr L t 4) + A 39 (8 * t + s)) (A 42 (8 * t + s) + (if s = tr L t 0 then A 39 (8 * t + s) else 0)) = _
    rw [e2, e3, mT_a (A := A) (ac := true) (t := t) (s := s)]
    by_cases q : s = tr L t 0
    · rw [if_pos q] at hb
      rw [if_pos q, if_pos q, if_pos q, nI_add, zmx_n (by omega) hb]
      have e4 := e1.2.2
      rw [← q] at e4
      rw [Nat.max_eq_right (by omega), Nat.max_eq_right (by omega)]
    · rw [if_neg q] at hb
      rw [if_neg q, if_neg q, if_neg q, nI_add, nI_add, show (0 : Int32) = nI 0 from rfl, nI_add, zmx_n hb (by omega), Nat.max_comm]
      rfl
  | false =>
    have e1 := h.1.2.2.2 rfl t s false ht hv
    have e2 : ex (8 * t + s) = 0 := e1.2.1 rfl
    have e3 : fl (8 * t + s) = (if s = tr L t 0 then tr L t 2 else 0) := by
      have q : fl (8 * t + s) = (if (false = false ∧ s = tr L t 0) then tr L t 2 else 0) := e1.2.2
      by_cases z : s = tr L t 0
      · rw [if_pos z]; rw [if_pos ⟨rfl, z⟩] at q; exact q
      · rw [if_neg z]; rw [if_neg (fun y => z y.2)] at q; exact q
    show (if s = tr L t 0 then nI (tr L t 2) else A (mi false) (8 * t + s) + nI (tr L t 4) + 0) = _
    rw [e2, e3, mT_a (A := A) (ac := false) (t := t) (s := s)]
    by_cases q : s = tr L t 0
    · rw [if_pos q, if_pos q, if_pos q, Nat.add_zero, Nat.max_self]
    · rw [if_neg q, if_neg q, if_neg q, nI_add, show (0 : Int32) = nI 0 from rfl, nI_add, Nat.max_eq_right (Nat.zero_le _)]
theorem gCn_mx {T : Nat → Nat} {pl : Bool} {t s : Nat} : ∀ n c v, gCn L fl pl T t s n c v = max v (gCn L fl pl T t s n c 0) := by
  intro n
  induction n with
  | zero => intro c v; show v = max v 0; rw [Nat.max_eq_left (Nat.zero_le v)]
  | succ n ih =>
    intro c v
    unfold gCn
    generalize T (8 * lk L c 0 + s + 64) + lk L c 3 = x
    split
    · rw [ih (c + 1) (max v x), ih (c + 1) (max 0 x), Nat.max_eq_right (Nat.zero_le x), Nat.max_assoc]
    · exact ih (c + 1) v
theorem mDc_n (h : mSd ac A L p fl ex) {t s : Nat} (ht : t < L 1) (hv : gE L t s false = true) (hK : ∀ c, c < L 2 → lk L c 1 = t → lk L c 2 = s → ((ac = true → ¬ A 46 c = 0) ↔ gW L fl (!ac) (mT ac A) c = true)) (hb : ∀ c, c < L 2 → lk L c 1 = t → lk L c 2 = s → mT ac A (8 * lk L c 0 + s + 64) < 2 ^ 21) : ∀ n c v, c + n = L 2 → v < 2 ^ 22 → mDc ac A L t s n c (nI v) = nI (gCn L fl (!ac) (mT ac A) t s n c v) := by
  have hL := h.2.1
  have hB := hL.1.2.1
  have e := ev_s hL ht hv
  intro n
  induction n with
  | zero => intro c v _ _; rfl
  | succ n ih =>
    intro c v hc hvv
    unfold mDc gCn
    by_cases q : lk L c 1 = t ∧ lk L c 2 = s
    · have hk := hK c (by omega) q.1 q.2
      have hbb := hb c (by omega) q.1 q.2
      have hc3 := (hL.1.2.2.2.2.2.2 c (by omega)).2.2.2.2.2.2
      by_cases w : gW L fl (!ac) (mT ac A) c = true
      · rw [if_pos ⟨q.1, q.2, hk.mpr w⟩, if_pos ⟨q.1, q.2, w⟩, mT_a (A := A) (ac := ac) (t := lk L c 0) (s := s), nI_add, zmx_n (by omega) (by omega)]
        exact ih (c + 1) _ (by omega) (Nat.max_lt.mpr ⟨hvv, by omega⟩)
      · rw [if_neg (fun z => w (hk.mp z.2.2)), if_neg (fun z => w z.2.2)]
        exact ih (c + 1) _ (by omega) hvv
    · rw [if_neg (fun z => q ⟨z.1, z.2.1⟩), if_neg (fun z => q ⟨z.1, z.2.1⟩)]
      exact ih (c + 1) _ (by omega) hvv
theorem mDe_v (h : mSd ac A L p fl ex) {t s : Nat} (ht : t < L 1) (hv : gE L t s false = true) (hK : ∀ c, c < L 2 → lk L c 1 = t → lk L c 2 = s → ((ac = true → ¬ A 46 c = 0) ↔ gW L fl (!ac) (mT ac A) c = true)) (hb : ∀ t' s' b', t' < L 1 → gE L t' s' b' = true → rk L p t' s' b' < rk L p t s false → mT ac A (8 * t' + s' + cond b' 64 0) ≤ 200000 + 3000 * (rk L p t' s' b' + 1)) : mDc ac A L t s (L 2) 0 (mD2 ac A L t s (gB L p s t)) = nI (gF L p fl ex (!ac) (mT ac A) t s false) := by
  have hL := h.2.1
  have hp := h.2.2.1
  have hB := hL.1.2.1
  have hS2 := hL.2
  have e := ev_s hL ht hv
  have hle := gF_le (pl := !ac) hL hp h.2.2.2 ht hv hb
  have hrk := (rk_s hL hp ht hv).2
  unfold gF at hle ⊢
  have m1 := Nat.max_le.mp hle
  have m2 := Nat.max_le.mp m1.1
  have m3 := Nat.max_le.mp m2.1
  have q1 := mD1_n h ht hv (by omega)
  have hma : max (fl (8 * t + s)) (gI L fl ex (mT ac A) t s false) < 2 ^ 22 := Nat.max_lt.mpr ⟨by have q : fl (8 * t + s) ≤ _ := m3.1; omega, by omega⟩
  have mh := m2.2
  have hd := gD_iff.mp (show gD L t s = true from hv)
  have q2 : mD2 ac A L t s (gB L p s t) = nI (max (max (fl (8 * t + s)) (gI L fl ex (mT ac A) t s false)) (gH L p (mT ac A) t s false)) ∧ max (max (fl (8 * t + s)) (gI L fl ex (mT ac A) t s false)) (gH L p (mT ac A) t s false) < 2 ^ 22 := by
    unfold gH at mh ⊢
    have mh' : (match gB L p s t with | none => 0 | some o => mT ac A (8 * o + s) + L 3) ≤ 200000 + 3000 * (rk L p t s false + 1) := mh
    show mD2 ac A L t s (gB L p s t) = nI (max _ (match gB L p s t with | none => 0 | some o => mT ac A (8 * o + s) + L 3)) ∧ max _ (match gB L p s t with | none => 0 | some o => mT ac A (8 * o + s) + L 3) < 2 ^ 22
    cases ho : gB L p s t with
    | none =>
      refine ⟨?_, ?_⟩
      · show mD1 ac A L t s = nI (max _ 0)
        rw [q1, Nat.max_eq_left (Nat.zero_le _)]
      · show max _ 0 < 2 ^ 22
        rw [Nat.max_eq_left (Nat.zero_le _)]; exact hma
    | some o =>
      rw [ho] at mh'
      have h1 := (gB_some hp (e.2.2.2 rfl) ho).1
      have mh2 : mT ac A (8 * o + s) + L 3 ≤ 200000 + 3000 * (rk L p t s false + 1) := mh'
      refine ⟨?_, ?_⟩
      · show zmx (mD1 ac A L t s) (A (mu ac) (8 * o + s) + nI (L 3)) = nI (max _ (mT ac A (8 * o + s) + L 3))
        rw [q1, mT_d (A := A) (ac := ac) (t := o) (s := s) (by omega) (by omega), nI_add, zmx_n (by omega) (by omega)]
      · exact Nat.max_lt.mpr ⟨hma, by show mT ac A (8 * o + s) + L 3 < 2 ^ 22; omega⟩
  rw [q2.1, mDc_n h ht hv hK (fun c hc h1 h2 => by
    have hk := hL.1.2.2.2.2.2.2 c hc
    unfold lkOk at hk
    rw [h2] at hk
    have q1 := gQ_8 hL hp (show s - 1 < L 0 - 1 by omega) hk.1
    have b1 : mT ac A (8 * lk L c 0 + s + 64) ≤ 200000 + 3000 * (rk L p (lk L c 0) s true + 1) := hb (lk L c 0) s true hk.1 hk.2.2.2.2.1 (by
      unfold rk
      rw [if_pos hk.2.2.2.1, if_pos hk.2.2.2.1]
      simp only [cond]; omega)
    have b2 := (rk_s hL hp hk.1 (show gE L (lk L c 0) s true = true from hk.2.2.2.2.1)).2
    omega) (L 2) 0 _ (by omega) q2.2, gCn_mx]
  rfl
end
