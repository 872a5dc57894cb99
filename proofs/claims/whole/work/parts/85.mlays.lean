/-! the reference lays the least times -/
section
variable {L p fl ex : Nat → Nat} {ac : Bool}
theorem mi_mu (ac : Bool) : ¬ mi ac = mu ac ∧ ¬ mu ac = mi ac ∧ ¬ mi ac = 46 ∧ ¬ mu ac = 46 ∧ ¬ 46 = mi ac ∧ ¬ 46 = mu ac := by cases ac <;> decide
theorem mT_ua {A : Nat → Nat → Int32} {e v : Nat} (hv : v < 2 ^ 32) : mT ac (va_up A (mi ac) (upd (A (mi ac)) e (nI v))) = va_up (mT ac A) (e + 64) v := by
  unfold mT
  rw [vu_n (mi_mu ac).2.1, vu_s, tn_upd hv, jn_ua]
theorem mT_ud {A : Nat → Nat → Int32} {e v : Nat} (he : e < 64) (hv : v < 2 ^ 32) : mT ac (va_up A (mu ac) (upd (A (mu ac)) e (nI v))) = va_up (mT ac A) e v := by
  unfold mT
  rw [vu_s, vu_n (mi_mu ac).1, tn_upd hv, jn_ud he]
theorem mT_46 {A : Nat → Nat → Int32} {f : Nat → Int32} : mT ac (va_up A 46 f) = mT ac A := by
  unfold mT
  rw [vu_n (mi_mu ac).2.2.2.1, vu_n (mi_mu ac).2.2.1]
/-- only the times have changed -/
def mFr (ac : Bool) (A A' : Nat → Nat → Int32) : Prop := ∀ k, ¬ k = mi ac → ¬ k = mu ac → ¬ k = 46 → A' k = A k
theorem mFr_t {A A' A'' : Nat → Nat → Int32} (h : mFr ac A A') (h' : mFr ac A' A'') : mFr ac A A'' := fun k a b c => (h' k a b c).trans (h k a b c)
theorem mSd_fr {A A' : Nat → Nat → Int32} (h : mSd ac A L p fl ex) (hf : mFr ac A A') : mSd ac A' L p fl ex := by
  obtain ⟨⟨h1, h2, h3⟩, h4⟩ := h
  have n33 := m33_i ac
  have nmo := mo_i ac
  refine ⟨⟨(hf 33 n33.1 n33.2 (by decide)).trans h1, (hf (mo ac) nmo.1 nmo.2.1 nmo.2.2).trans h2, fun e t s b ht hv => ?_, fun e t s b ht hv => ?_⟩, h4⟩
  · have q := h3.1 e t s b ht hv
    subst e
    cases b with
    | true => exact ⟨by show A' 43 _ = _; rw [hf 43 (by decide) (by decide) (by decide)]; exact q.1, by show A' 40 _ = _; rw [hf 40 (by decide) (by decide) (by decide)]; exact q.2.1, q.2.2⟩
    | false => exact ⟨by show A' 42 _ = _; rw [hf 42 (by decide) (by decide) (by decide)]; exact q.1, by show A' 39 _ = _; rw [hf 39 (by decide) (by decide) (by decide)]; exact q.2.1, q.2.2⟩
  · have q := h3.2 e t s b ht hv
    subst e
    exact ⟨fun z => by rw [hf 35 (by decide) (by decide) (by decide)]; exact q.1 z, q.2⟩
theorem mAr_fr {A : Nat → Nat → Int32} {t s : Nat} : mFr ac A (mAr ac L p t s A) := fun _ a _ _ => mAr_o a
theorem mDe_fr {A : Nat → Nat → Int32} {t s : Nat} : mFr ac A (mDe ac L p t s A) := fun _ _ b _ => mDe_o b
theorem mAr_step {A : Nat → Nat → Int32} (h : mSd ac A L p fl ex) {t s R : Nat} (ht : t < L 1) (hs : s < 8) (hrk : gE L t s true = true → rk L p t s true = R) (hun : ∀ t' s' b', t' < L 1 → gE L t' s' b' = true → rk L p t' s' b' = R → t' = t ∧ s' = s ∧ b' = true) (hS : Sol L p fl ex (!ac) (mT ac A) R) : Sol L p fl ex (!ac) (mT ac (mAr ac L p t s A)) (R + 1) := by
  have hL := h.2.1
  have hp := h.2.2.1
  unfold mAr
  cases hv : gA L t s with
  | true =>
    have hv' : gE L t s true = true := hv
    have e := hrk hv'
    have hb := Sol_bd hL hp h.2.2.2 hS R (Nat.le_refl _)
    rw [← e] at hb hS ⊢
    have hle := gF_le (pl := !ac) hL hp h.2.2.2 ht hv' hb
    have hr2 := (rk_s hL hp ht hv').2
    show Sol L p fl ex (!ac) (mT ac (va_up A (mi ac) (upd (A (mi ac)) (8 * t + s) (mA4 ac A L t s (gB L p (s - 1) t))))) _
    rw [mA4_v (pl := !ac) h ht hv' hb, mT_ua (by omega)]
    exact Sol_step hL hp ht hv' hS
  | false =>
    refine Sol_jump hS (fun t' s' b' ht' hv' hlt => ?_)
    by_cases e : rk L p t' s' b' = R
    · obtain ⟨rfl, rfl, rfl⟩ := hun t' s' b' ht' hv' e
      have q : gA L t' s' = true := hv'
      rw [hv] at q; exact Bool.noConfusion q
    · omega
/-- connections kept, as the reference has noted them for station s -/
def kP (ac : Bool) (A : Nat → Nat → Int32) (L fl : Nat → Nat) (s : Nat) : Prop := ac = true → ∀ c, c < L 2 → lk L c 2 = s → (¬ A 46 c = 0 ↔ mT ac A (8 * lk L c 0 + s + 64) + lk L c 3 ≤ fl (8 * lk L c 1 + s) + L 4)
theorem kP_K {A : Nat → Nat → Int32} {s t : Nat} (h : kP ac A L fl s) : ∀ c, c < L 2 → lk L c 1 = t → lk L c 2 = s → ((ac = true → ¬ A 46 c = 0) ↔ gW L fl (!ac) (mT ac A) c = true) := fun c hc _ h2 => by
  unfold gW
  rw [h2]
  cases ac with
  | true =>
    have q := h rfl c hc h2
    show (true = true → _) ↔ (false || decide _) = true
    rw [Bool.false_or, decide_eq_true_eq, ← q]
    exact ⟨fun z => z rfl, fun z _ => z⟩
  | false => exact ⟨fun _ => rfl, fun _ z => Bool.noConfusion z⟩
theorem kP_pl {A : Nat → Nat → Int32} {s : Nat} (hL : lT L) (hk : ¬ L (5 + s) = 1) : kP ac A L fl s := fun _ c hc h2 => by
  have q := (hL.1.2.2.2.2.2.2 c hc).2.2.2.1
  rw [h2] at q
  exact absurd q hk
theorem kP_De {A : Nat → Nat → Int32} {s t s' : Nat} (h : kP ac A L fl s) : kP ac (mDe ac L p t s' A) L fl s := fun e c hc h2 => by
  have q := h e c hc h2
  have e1 : mT ac (mDe ac L p t s' A) (8 * lk L c 0 + s + 64) = mT ac A (8 * lk L c 0 + s + 64) := by
    unfold mT
    rw [jn_a, jn_a, mDe_o (mi_mu ac).1]
  rw [e1, mDe_o (mi_mu ac).2.2.2.2.2]
  exact q
theorem mDe_step {A : Nat → Nat → Int32} (h : mSd ac A L p fl ex) {t s R : Nat} (ht : t < L 1) (hs : s < 8) (hK : kP ac A L fl s) (hrk : gE L t s false = true → rk L p t s false = R) (hun : ∀ t' s' b', t' < L 1 → gE L t' s' b' = true → rk L p t' s' b' = R → t' = t ∧ s' = s ∧ b' = false) (hS : Sol L p fl ex (!ac) (mT ac A) R) : Sol L p fl ex (!ac) (mT ac (mDe ac L p t s A)) (R + 1) := by
  have hL := h.2.1
  have hp := h.2.2.1
  have hB := hL.1.2.1
  unfold mDe
  cases hv : gD L t s with
  | true =>
    have hv' : gE L t s false = true := hv
    have e := hrk hv'
    have hb := Sol_bd hL hp h.2.2.2 hS R (Nat.le_refl _)
    rw [← e] at hb hS ⊢
    have hle := gF_le (pl := !ac) hL hp h.2.2.2 ht hv' hb
    have hr2 := (rk_s hL hp ht hv').2
    show Sol L p fl ex (!ac) (mT ac (va_up A (mu ac) (upd (A (mu ac)) (8 * t + s) (mDc ac A L t s (L 2) 0 (mD2 ac A L t s (gB L p s t)))))) _
    rw [mDe_v h ht hv' (kP_K hK) hb, mT_ud (by omega) (by omega)]
    exact Sol_step hL hp ht hv' hS
  | false =>
    refine Sol_jump hS (fun t' s' b' ht' hv' hlt => ?_)
    by_cases e : rk L p t' s' b' = R
    · obtain ⟨rfl, rfl, rfl⟩ := hun t' s' b' ht' hv' e
      have q : gD L t' s' = true := hv'
      rw [hv] at q; exact Bool.noConfusion q
    · omega
theorem mS1_0 {A : Nat → Nat → Int32} : ∀ (n k : Nat), mS1 ac L p 0 n k A = A := by
  intro n
  induction n with
  | zero => intro k; rfl
  | succ n ih => intro k; unfold mS1; rw [show mS1b ac L p 0 (p (8 * (0 - 1) + k)) A = A from if_pos rfl]; exact ih (k + 1)
theorem mS1_sd {s : Nat} (hs : s < L 0) (h1 : 1 ≤ s) (hk : L (5 + s) = 1) : ∀ (n k : Nat) (A : Nat → Nat → Int32), mSd ac A L p fl ex → k + n = L 1 → Sol L p fl ex (!ac) (mT ac A) (32 * s + k) → Sol L p fl ex (!ac) (mT ac (mS1 ac L p s n k A)) (32 * s + (k + n)) ∧ mFr ac A (mS1 ac L p s n k A) := by
  intro n
  induction n with
  | zero => intro k A _ _ h; exact ⟨h, fun _ _ _ _ => rfl⟩
  | succ n ih =>
    intro k A hS hkn h
    have hL := hS.2.1
    have hp := hS.2.2.1
    have hB := hL.1.2.1
    have hg : s - 1 < L 0 - 1 := by omega
    have ht := hp.1 (s - 1) hg k (by omega)
    have e : mS1b ac L p s (p (8 * (s - 1) + k)) A = mAr ac L p (p (8 * (s - 1) + k)) s A := by
      unfold mS1b
      rw [if_neg (by omega), if_neg (by omega)]
    unfold mS1
    rw [e]
    have st := mAr_step hS ht (show s < 8 by omega) (fun _ => rk_of_arr hp hg (by omega) hk) (fun t' s' b' ht' hv' hr => by
      obtain ⟨a, b, c⟩ := rk_arr hL hp hk hs (by omega) ht' hv' hr
      exact ⟨c.symm, a, b⟩) h
    have q := ih (k + 1) _ (mSd_fr hS mAr_fr) (by omega) st
    exact ⟨by rw [show k + (n + 1) = k + 1 + n by omega]; exact q.1, mFr_t mAr_fr q.2⟩
theorem mS1_pl {s : Nat} (hs : s < L 0) (h1 : 1 ≤ s) (hk : ¬ L (5 + s) = 1) : ∀ (n k : Nat) (A : Nat → Nat → Int32), mSd ac A L p fl ex → k + n = L 1 → Sol L p fl ex (!ac) (mT ac A) (32 * s + 2 * k) → Sol L p fl ex (!ac) (mT ac (mS1 ac L p s n k A)) (32 * s + 2 * (k + n)) ∧ mFr ac A (mS1 ac L p s n k A) := by
  intro n
  induction n with
  | zero => intro k A _ _ h; exact ⟨h, fun _ _ _ _ => rfl⟩
  | succ n ih =>
    intro k A hS hkn h
    have hL := hS.2.1
    have hp := hS.2.2.1
    have hB := hL.1.2.1
    have hg : s - 1 < L 0 - 1 := by omega
    have ht := hp.1 (s - 1) hg k (by omega)
    have h01 := hL.1.2.2.1 s (by omega)
    have hr1 : ∀ b, rk L p (p (8 * (s - 1) + k)) s b = 32 * s + 2 * k + cond b 0 1 := fun b => rk_of_pln hp hg (by omega) hk
    have hu : ∀ c t' s' b', t' < L 1 → gE L t' s' b' = true → rk L p t' s' b' = 32 * s + 2 * k + cond c 0 1 → t' = p (8 * (s - 1) + k) ∧ s' = s ∧ b' = c := fun c t' s' b' ht' hv' hr => by
      obtain ⟨a, b, d⟩ := rk_pln hL hp hk hs (by omega) ht' hv' (Or.inr ⟨c, hr⟩)
      exact ⟨b.symm, a, d c hr⟩
    have st := mAr_step (R := 32 * s + 2 * k) hS ht (show s < 8 by omega) (fun _ => hr1 true) (fun t' s' b' ht' hv' hr => hu true t' s' b' ht' hv' hr) h
    have hS1 := mSd_fr hS (mAr_fr (L := L) (p := p) (t := p (8 * (s - 1) + k)) (s := s))
    unfold mS1
    by_cases hl : s < L 0 - 1
    · have e : mS1b ac L p s (p (8 * (s - 1) + k)) A = mDe ac L p (p (8 * (s - 1) + k)) s (mAr ac L p (p (8 * (s - 1) + k)) s A) := by
        unfold mS1b
        rw [if_neg (by omega), if_pos ⟨hl, by omega⟩]
      rw [e]
      have sd := mDe_step (R := 32 * s + 2 * k + 1) hS1 ht (show s < 8 by omega) (kP_pl hL hk) (fun _ => hr1 false) (fun t' s' b' ht' hv' hr => hu false t' s' b' ht' hv' hr) st
      have q := ih (k + 1) _ (mSd_fr hS1 mDe_fr) (by omega) sd
      exact ⟨by rw [show k + (n + 1) = k + 1 + n by omega]; exact q.1, mFr_t (mFr_t mAr_fr mDe_fr) q.2⟩
    · have e : mS1b ac L p s (p (8 * (s - 1) + k)) A = mAr ac L p (p (8 * (s - 1) + k)) s A := by
        unfold mS1b
        rw [if_neg (by omega), if_neg (by omega)]
      rw [e]
      have sd : Sol L p fl ex (!ac) (mT ac (mAr ac L p (p (8 * (s - 1) + k)) s A)) (32 * s + 2 * (k + 1)) := Sol_jump st (fun t' s' b' ht' hv' hlt => by
        by_cases e2 : rk L p t' s' b' = 32 * s + 2 * k + cond false 0 1
        · obtain ⟨_, rfl, rfl⟩ := hu false t' s' b' ht' hv' e2
          have := (ev_s hL ht' hv').2.2.2 rfl
          omega
        · have e3 : ¬ rk L p t' s' b' = 32 * s + 2 * k + 1 := e2
          omega)
      have q := ih (k + 1) _ hS1 (by omega) sd
      exact ⟨by rw [show k + (n + 1) = k + 1 + n by omega]; exact q.1, mFr_t mAr_fr q.2⟩
theorem mKc_46 {s : Nat} : ∀ (n i : Nat) (A : Nat → Nat → Int32) (c : Nat), mKc L s n i A 46 c = if i ≤ c ∧ c < i + n ∧ lk L c 2 = s then zbo (mKb A L s c) else A 46 c := by
  intro n
  induction n with
  | zero => intro i A c; rw [if_neg (by omega)]; rfl
  | succ n ih =>
    intro i A c
    unfold mKc
    rw [ih (i + 1)]
    by_cases hi : lk L i 2 = s
    · rw [if_pos hi]
      have e1 : mKb (va_up A 46 (upd (A 46) i (zbo (mKb A L s i)))) L s c = mKb A L s c := rfl
      have e2 : (va_up A 46 (upd (A 46) i (zbo (mKb A L s i)))) 46 c = upd (A 46) i (zbo (mKb A L s i)) c := rfl
      rw [e1, e2]
      by_cases q : c = i
      · subst q
        rw [if_neg (by omega), if_pos ⟨by omega, by omega, hi⟩, upd_s]
      · rw [upd_n q]
        by_cases q2 : i + 1 ≤ c ∧ c < i + 1 + n ∧ lk L c 2 = s
        · rw [if_pos q2, if_pos ⟨by omega, by omega, q2.2.2⟩]
        · rw [if_neg q2, if_neg (fun z => q2 ⟨by omega, by omega, z.2.2⟩)]
    · rw [if_neg hi]
      by_cases q2 : i + 1 ≤ c ∧ c < i + 1 + n ∧ lk L c 2 = s
      · rw [if_pos q2, if_pos ⟨by omega, by omega, q2.2.2⟩]
      · rw [if_neg q2, if_neg (fun z => q2 ⟨by
          rcases Nat.eq_or_lt_of_le z.1 with e | e
          · rw [← e] at z; exact absurd z.2.2 hi
          · omega, by omega, z.2.2⟩)]
theorem mKp_fr {A : Nat → Nat → Int32} {s : Nat} : mFr ac A (mKp ac L s A) := fun _ _ _ c => mKp_o c
theorem mT_Kp {A : Nat → Nat → Int32} {s : Nat} : mT ac (mKp ac L s A) = mT ac A := by
  unfold mT
  rw [mKp_o (mi_mu ac).2.2.2.1, mKp_o (mi_mu ac).2.2.1]
theorem mKp_k {A : Nat → Nat → Int32} (hS : mSd ac A L p fl ex) {s : Nat} (hs : s < L 0) (hk : L (5 + s) = 1) (h : Sol L p fl ex (!ac) (mT ac A) (32 * s + 16)) : kP ac (mKp ac L s A) L fl s := by
  intro e c hc h2
  have hL := hS.2.1
  have hp := hS.2.2.1
  have hB := hL.1.2.1
  have hl := hL.1.2.2.2.2.2.2 c hc
  unfold lkOk at hl
  rw [h2] at hl
  have hv : gE L (lk L c 0) s true = true := hl.2.2.2.2.1
  have q1 := gQ_8 hL hp (show s - 1 < L 0 - 1 by have := (ev_s hL hl.1 hv).2.2.1 rfl; omega) hl.1
  have hr : rk L p (lk L c 0) s true < 32 * s + 16 := by unfold rk; rw [if_pos hk]; simp only [cond]; omega
  have b1 : mT ac A (8 * lk L c 0 + s + 64) ≤ 200000 + 3000 * (rk L p (lk L c 0) s true + 1) := Sol_bd hL hp hS.2.2.2 h _ (Nat.le_refl _) (lk L c 0) s true hl.1 hv hr
  have hd : gE L (lk L c 1) s false = true := hl.2.2.2.2.2.1
  have b2 := (hS.2.2.2 (lk L c 1) s false hl.2.1 hd).1
  have b2' : fl (8 * lk L c 1 + s) ≤ 200000 := b2
  rw [mT_Kp]
  subst e
  have e42 : A 42 (8 * lk L c 1 + s) = nI (fl (8 * lk L c 1 + s)) := (hS.1.2.2.1 rfl (lk L c 1) s false hl.2.1 hd).1
  have e45 : A 45 (8 * lk L c 0 + s) = nI (mT true A (8 * lk L c 0 + s + 64)) := mT_a (ac := true)
  show ¬ mKc L s (L 2) 0 A 46 c = 0 ↔ _
  rw [mKc_46, if_pos ⟨by omega, by omega, h2⟩]
  unfold mKb
  rw [e42, e45, nI_add, nI_add]
  by_cases q : mT true A (8 * lk L c 0 + s + 64) + lk L c 3 ≤ fl (8 * lk L c 1 + s) + L 4
  · rw [decide_eq_true ((nI_leI (by omega) (by omega)).mpr q)]
    exact ⟨fun _ => q, fun _ => by decide⟩
  · rw [decide_eq_false (fun z => q ((nI_leI (by omega) (by omega)).mp z))]
    exact ⟨fun z => absurd rfl z, fun z => absurd z q⟩
theorem mS3_id {A : Nat → Nat → Int32} {s : Nat} (h : ¬ (s < L 0 - 1 ∧ (s = 0 ∨ ¬ L (5 + s) = 0))) : ∀ (n k : Nat), mS3 ac L p s n k A = A := by
  intro n
  induction n with
  | zero => intro k; rfl
  | succ n ih => intro k; unfold mS3; rw [show mS3b ac L p s (p (8 * s + k)) A = A from if_neg h]; exact ih (k + 1)
theorem mS3_sd {s : Nat} (hs : s < L 0 - 1) (hk : L (5 + s) = 1) : ∀ (n k : Nat) (A : Nat → Nat → Int32), mSd ac A L p fl ex → kP ac A L fl s → k + n = L 1 → Sol L p fl ex (!ac) (mT ac A) (32 * s + 16 + k) → Sol L p fl ex (!ac) (mT ac (mS3 ac L p s n k A)) (32 * s + 16 + (k + n)) ∧ mFr ac A (mS3 ac L p s n k A) := by
  intro n
  induction n with
  | zero => intro k A _ _ _ h; exact ⟨h, fun _ _ _ _ => rfl⟩
  | succ n ih =>
    intro k A hS hK hkn h
    have hL := hS.2.1
    have hp := hS.2.2.1
    have hB := hL.1.2.1
    have ht := hp.1 s hs k (by omega)
    have e : mS3b ac L p s (p (8 * s + k)) A = mDe ac L p (p (8 * s + k)) s A := if_pos ⟨hs, Or.inr (by omega)⟩
    unfold mS3
    rw [e]
    have st := mDe_step (R := 32 * s + 16 + k) hS ht (show s < 8 by omega) hK (fun _ => rk_of_dep hp hs (by omega) hk) (fun t' s' b' ht' hv' hr => by
      obtain ⟨a, b, c⟩ := rk_dep hL hp hk (by omega) (by omega) ht' hv' hr
      exact ⟨c.symm, a, b⟩) h
    have q := ih (k + 1) _ (mSd_fr hS mDe_fr) (kP_De hK) (by omega) st
    exact ⟨by rw [show k + (n + 1) = k + 1 + n by omega]; exact q.1, mFr_t mDe_fr q.2⟩
theorem mS3_0 (hk : ¬ L (5 + 0) = 1) : ∀ (n k : Nat) (A : Nat → Nat → Int32), mSd ac A L p fl ex → k + n = L 1 → Sol L p fl ex (!ac) (mT ac A) (2 * k) → Sol L p fl ex (!ac) (mT ac (mS3 ac L p 0 n k A)) (2 * (k + n)) ∧ mFr ac A (mS3 ac L p 0 n k A) := by
  intro n
  induction n with
  | zero => intro k A _ _ h; exact ⟨h, fun _ _ _ _ => rfl⟩
  | succ n ih =>
    intro k A hS hkn h
    have hL := hS.2.1
    have hp := hS.2.2.1
    have hB := hL.1.2.1
    have hS2 := hL.2
    have ht := hp.1 0 (by omega) k (by omega)
    have e : mS3b ac L p 0 (p (8 * 0 + k)) A = mDe ac L p (p (8 * 0 + k)) 0 A := if_pos ⟨by omega, Or.inl rfl⟩
    have hu : ∀ c t' s' b', t' < L 1 → gE L t' s' b' = true → rk L p t' s' b' = 32 * 0 + 2 * k + cond c 0 1 → t' = p (8 * 0 + k) ∧ s' = 0 ∧ b' = c := fun c t' s' b' ht' hv' hr => by
      obtain ⟨a, b, d⟩ := rk_pln (s := 0) hL hp hk (by omega) (by omega) ht' hv' (Or.inr ⟨c, hr⟩)
      exact ⟨b.symm, a, d c hr⟩
    have h2 : Sol L p fl ex (!ac) (mT ac A) (2 * k + 1) := Sol_jump h (fun t' s' b' ht' hv' hlt => by
      by_cases e2 : rk L p t' s' b' = 2 * k
      · obtain ⟨_, rfl, rfl⟩ := hu true t' s' b' ht' hv' (by simp only [cond]; omega)
        have := (ev_s hL ht' hv').2.2.1 rfl
        omega
      · omega)
    unfold mS3
    rw [e]
    have st := mDe_step (R := 2 * k + 1) hS ht (show 0 < 8 by omega) (kP_pl hL hk) (fun _ => by
      have q := rk_of_pln (L := L) (s := 0) (b := false) hp (show 0 - 1 < L 0 - 1 by omega) (show k < L 1 by omega) hk
      rw [show 8 * (0 - 1) + k = 8 * 0 + k by omega] at q
      rw [q]; simp only [cond]; omega) (fun t' s' b' ht' hv' hr => hu false t' s' b' ht' hv' (by rw [hr]; simp only [cond]; omega)) h2
    have q := ih (k + 1) _ (mSd_fr hS mDe_fr) (by omega) st
    exact ⟨by rw [show k + (n + 1) = k + 1 + n by omega]; exact q.1, mFr_t mDe_fr q.2⟩
end
