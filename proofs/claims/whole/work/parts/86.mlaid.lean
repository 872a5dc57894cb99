/-! the reference's two layings: all times are the least ones -/
section
variable {L p fl ex : Nat → Nat} {ac : Bool}
theorem Sol_le {pl : Bool} {T : Nat → Nat} {r r' : Nat} (h : Sol L p fl ex pl T r) (hr : r' ≤ r) : Sol L p fl ex pl T r' := fun t s b ht hv hlt => h t s b ht hv (by omega)
theorem rk_hi (hL : lT L) (hp : pOrd L p) {t' s' s : Nat} {b' : Bool} (ht' : t' < L 1) (hv' : gE L t' s' b' = true) (h : rk L p t' s' b' < 32 * (s + 1)) : rk L p t' s' b' < 32 * s ∨ (s' = s ∧ (L (5 + s) = 1 → (b' = true → rk L p t' s' b' < 32 * s + L 1) ∧ (b' = false → 32 * s + 16 ≤ rk L p t' s' b' ∧ rk L p t' s' b' < 32 * s + 16 + L 1)) ∧ (¬ L (5 + s) = 1 → rk L p t' s' b' < 32 * s + 2 * L 1)) := by
  have a := rk_s hL hp ht' hv'
  have e := ev_s hL ht' hv'
  have hS2 := hL.2
  by_cases es : s' = s
  · subst es
    have q1 := (gQ_p hp (show s' - 1 < L 0 - 1 by omega) ht').1
    refine Or.inr ⟨rfl, fun hk => ⟨fun hb => ?_, fun hb => ?_⟩, fun hk => ?_⟩
    · subst hb
      unfold rk
      rw [if_pos hk]
      simp only [cond]; omega
    · subst hb
      have q2 := (gQ_p hp (e.2.2.2 rfl) ht').1
      unfold rk
      rw [if_pos hk]
      simp only [cond]; omega
    · unfold rk
      rw [if_neg hk]
      cases b' <;> simp only [cond] <;> omega
  · exact Or.inl (by omega)
theorem mKp_z {A : Nat → Nat → Int32} (hS : mSd true A L p fl ex) {s : Nat} (hk : L (5 + s) = 1) (h : Sol L p fl ex (!true) (mT true A) (32 * s + 16)) {c : Nat} (hc : c < L 2) (h2 : lk L c 2 = s) : mKp true L s A 46 c = zbo (decide (mT true A (8 * lk L c 0 + s + 64) + lk L c 3 ≤ fl (8 * lk L c 1 + s) + L 4)) := by
  have hL := hS.2.1
  have hp := hS.2.2.1
  have hB := hL.1.2.1
  have hl := hL.1.2.2.2.2.2.2 c hc
  unfold lkOk at hl
  rw [h2] at hl
  have hv : gE L (lk L c 0) s true = true := hl.2.2.2.2.1
  have es := ev_s hL hl.1 hv
  have q1 := gQ_8 hL hp (show s - 1 < L 0 - 1 by have := es.2.2.1 rfl; omega) hl.1
  have hr : rk L p (lk L c 0) s true < 32 * s + 16 := by unfold rk; rw [if_pos hk]; simp only [cond]; omega
  have b1 : mT true A (8 * lk L c 0 + s + 64) ≤ 200000 + 3000 * (rk L p (lk L c 0) s true + 1) := Sol_bd hL hp hS.2.2.2 h _ (Nat.le_refl _) (lk L c 0) s true hl.1 hv hr
  have hd : gE L (lk L c 1) s false = true := hl.2.2.2.2.2.1
  have b2 : fl (8 * lk L c 1 + s) ≤ 200000 := (hS.2.2.2 (lk L c 1) s false hl.2.1 hd).1
  have e42 : A 42 (8 * lk L c 1 + s) = nI (fl (8 * lk L c 1 + s)) := (hS.1.2.2.1 rfl (lk L c 1) s false hl.2.1 hd).1
  have e45 : A 45 (8 * lk L c 0 + s) = nI (mT true A (8 * lk L c 0 + s + 64)) := mT_a (ac := true)
  show mKc L s (L 2) 0 A 46 c = _
  rw [mKc_46, if_pos ⟨by omega, by omega, h2⟩]
  unfold mKb
  rw [e42, e45, nI_add, nI_add]
  by_cases q : mT true A (8 * lk L c 0 + s + 64) + lk L c 3 ≤ fl (8 * lk L c 1 + s) + L 4
  · rw [decide_eq_true ((nI_leI (by omega) (by omega)).mpr q), decide_eq_true q]
  · rw [decide_eq_false (fun z => q ((nI_leI (by omega) (by omega)).mp z)), decide_eq_false q]
theorem mT_S3 {A : Nat → Nat → Int32} {s n k e : Nat} : mT ac (mS3 ac L p s n k A) (e + 64) = mT ac A (e + 64) := by
  unfold mT
  rw [jn_a, jn_a, mS3_o (mi_mu ac).1]
theorem mS1_16 {A : Nat → Nat → Int32} (hS : mSd ac A L p fl ex) {s : Nat} (hs : s < L 0) (hk : L (5 + s) = 1) (h : Sol L p fl ex (!ac) (mT ac A) (32 * s)) : Sol L p fl ex (!ac) (mT ac (mS1 ac L p s (L 1) 0 A)) (32 * s + 16) ∧ mFr ac A (mS1 ac L p s (L 1) 0 A) := by
  have hL := hS.2.1
  have hp := hS.2.2.1
  by_cases h0 : s = 0
  · subst h0
    rw [mS1_0]
    refine ⟨Sol_jump h (fun t' s' b' ht' hv' hlt => ?_), fun _ _ _ _ => rfl⟩
    rcases rk_hi (s := 0) hL hp ht' hv' (by omega) with q | ⟨rfl, q, _⟩
    · exact q
    · cases b' with
      | true => have := (ev_s hL ht' hv').2.2.1 rfl; omega
      | false => have := ((q hk).2 rfl).1; omega
  · have k1 := mS1_sd (s := s) hs (by omega) hk (L 1) 0 A hS (by omega) h
    refine ⟨Sol_jump k1.1 (fun t' s' b' ht' hv' hlt => ?_), k1.2⟩
    rcases rk_hi (s := s) hL hp ht' hv' (by omega) with q | ⟨rfl, q, _⟩
    · omega
    · cases b' with
      | true => have := (q hk).1 rfl; omega
      | false => have := ((q hk).2 rfl).1; omega
theorem mSt_fr {A : Nat → Nat → Int32} {s : Nat} : mFr ac A (mSt ac L p s A) := fun _ a b c => mSt_o a b c
theorem mSt_sol {A : Nat → Nat → Int32} (hS : mSd ac A L p fl ex) {s : Nat} (hs : s < L 0) (h : Sol L p fl ex (!ac) (mT ac A) (32 * s)) : Sol L p fl ex (!ac) (mT ac (mSt ac L p s A)) (32 * (s + 1)) := by
  have hL := hS.2.1
  have hp := hS.2.2.1
  have hB := hL.1.2.1
  have hS2 := hL.2
  have h01 := hL.1.2.2.1 s (by omega)
  unfold mSt
  by_cases hk : L (5 + s) = 1
  · have k1 := mS1_16 hS hs hk h
    have s1 := mSd_fr hS k1.2
    have kp := mKp_k s1 hs hk k1.1
    have s2 := mSd_fr s1 (mKp_fr (L := L) (s := s))
    have k2 : Sol L p fl ex (!ac) (mT ac (mKp ac L s (mS1 ac L p s (L 1) 0 A))) (32 * s + 16 + 0) := by rw [mT_Kp]; exact k1.1
    by_cases hl : s < L 0 - 1
    · have k3 := (mS3_sd hl hk (L 1) 0 _ s2 kp (by omega) k2).1
      refine Sol_jump k3 (fun t' s' b' ht' hv' hlt => ?_)
      rcases rk_hi (s := s) hL hp ht' hv' hlt with q | ⟨rfl, q, _⟩
      · omega
      · cases b' with
        | true => have := (q hk).1 rfl; omega
        | false => have := ((q hk).2 rfl).2; omega
    · rw [mS3_id (fun z => hl z.1)]
      refine Sol_jump k2 (fun t' s' b' ht' hv' hlt => ?_)
      rcases rk_hi (s := s) hL hp ht' hv' hlt with q | ⟨rfl, q, _⟩
      · omega
      · cases b' with
        | true => have := (q hk).1 rfl; omega
        | false => exact absurd ((ev_s hL ht' hv').2.2.2 rfl) hl
  · have fin : ∀ t' s' b', t' < L 1 → gE L t' s' b' = true → rk L p t' s' b' < 32 * (s + 1) → rk L p t' s' b' < 32 * s + 2 * L 1 := fun t' s' b' ht' hv' hlt => by
      rcases rk_hi (s := s) hL hp ht' hv' hlt with q | ⟨rfl, _, q⟩
      · omega
      · exact q hk
    by_cases h0 : s = 0
    · subst h0
      rw [mS1_0]
      have s2 := mSd_fr hS (mKp_fr (L := L) (s := 0))
      have k2 : Sol L p fl ex (!ac) (mT ac (mKp ac L 0 A)) (2 * 0) := by rw [mT_Kp]; exact h
      have k3 := (mS3_0 hk (L 1) 0 _ s2 (by omega) k2).1
      exact Sol_jump k3 (fun t' s' b' ht' hv' hlt => by have := fin t' s' b' ht' hv' hlt; omega)
    · have k1 := mS1_pl (s := s) hs (by omega) hk (L 1) 0 A hS (by omega) h
      rw [mS3_id (fun z => by rcases z.2 with z | z <;> omega), mT_Kp]
      exact Sol_jump k1.1 (fun t' s' b' ht' hv' hlt => by have := fin t' s' b' ht' hv' hlt; omega)
theorem mSt_kept {A : Nat → Nat → Int32} (hS : mSd true A L p fl ex) {s : Nat} (hs : s < L 0) (h : Sol L p fl ex (!true) (mT true A) (32 * s)) {c : Nat} (hc : c < L 2) (h2 : lk L c 2 = s) : mSt true L p s A 46 c = zbo (decide (mT true (mSt true L p s A) (8 * lk L c 0 + s + 64) + lk L c 3 ≤ fl (8 * lk L c 1 + s) + L 4)) := by
  have hL := hS.2.1
  have hk : L (5 + s) = 1 := by
    have q := (hL.1.2.2.2.2.2.2 c hc).2.2.2.1
    rw [h2] at q
    exact q
  have k1 := mS1_16 hS hs hk h
  have s1 := mSd_fr hS k1.2
  unfold mSt
  rw [mS3_o (by decide), mT_S3, mT_Kp]
  exact mKp_z s1 hk k1.1 hc h2
theorem mSt_46 {A : Nat → Nat → Int32} {s c : Nat} (h : ¬ lk L c 2 = s) : mSt ac L p s A 46 c = A 46 c := by
  unfold mSt
  rw [mS3_o (mi_mu ac).2.2.2.2.2]
  have e : mKp ac L s (mS1 ac L p s (L 1) 0 A) 46 c = mS1 ac L p s (L 1) 0 A 46 c := by
    cases ac with
    | true =>
      show mKc L s (L 2) 0 (mS1 true L p s (L 1) 0 A) 46 c = _
      rw [mKc_46, if_neg (fun z => h z.2.2)]
    | false => rfl
  rw [e, mS1_o (mi_mu ac).2.2.2.2.1 (mi_mu ac).2.2.2.2.2]
theorem mLy_sol : ∀ (n s : Nat) (A : Nat → Nat → Int32), mSd ac A L p fl ex → s + n = L 0 → Sol L p fl ex (!ac) (mT ac A) (32 * s) → Sol L p fl ex (!ac) (mT ac (mLy ac L p n s A)) 256 := by
  intro n
  induction n with
  | zero =>
    intro s A hS hs h
    refine Sol_jump h (fun t' s' b' ht' hv' _ => ?_)
    have a := rk_s hS.2.1 hS.2.2.1 ht' hv'
    have e := (ev_s hS.2.1 ht' hv').2.1
    omega
  | succ n ih =>
    intro s A hS hs h
    exact ih (s + 1) _ (mSd_fr hS mSt_fr) (by omega) (mSt_sol hS (by omega) h)
theorem mLy_46 : ∀ (n s : Nat) (A : Nat → Nat → Int32) (c : Nat), lk L c 2 < s → mLy ac L p n s A 46 c = A 46 c := by
  intro n
  induction n with
  | zero => intro s A c _; rfl
  | succ n ih =>
    intro s A c h
    unfold mLy
    rw [ih (s + 1) _ c (by omega), mSt_46 (by omega)]
theorem mLy_kept : ∀ (n s : Nat) (A : Nat → Nat → Int32), mSd true A L p fl ex → s + n = L 0 → Sol L p fl ex (!true) (mT true A) (32 * s) → ∀ c, c < L 2 → s ≤ lk L c 2 → mLy true L p n s A 46 c = zbo (gW L fl false (mT true (mLy true L p n s A)) c) := by
  intro n
  induction n with
  | zero =>
    intro s A hS hs _ c hc hsc
    have hl := hS.2.1.1.2.2.2.2.2.2 c hc
    have e := (ev_s hS.2.1 hl.1 (show gE L (lk L c 0) (lk L c 2) true = true from hl.2.2.2.2.1)).2.1
    omega
  | succ n ih =>
    intro s A hS hs h c hc hsc
    have hL := hS.2.1
    have hp := hS.2.2.1
    have st := mSt_sol hS (show s < L 0 by omega) h
    have s1 := mSd_fr hS (mSt_fr (L := L) (p := p) (s := s))
    unfold mLy
    by_cases q : lk L c 2 = s
    · rw [mLy_46 n (s + 1) _ c (by omega), mSt_kept hS (show s < L 0 by omega) h hc q]
      have fin := mLy_sol n (s + 1) _ s1 (by omega) st
      have hl := hL.1.2.2.2.2.2.2 c hc
      have hv : gE L (lk L c 0) (lk L c 2) true = true := hl.2.2.2.2.1
      have a := rk_s hL hp hl.1 hv
      have ev := ev_s hL hl.1 hv
      have e : mT true (mSt true L p s A) (8 * lk L c 0 + lk L c 2 + 64) = mT true (mLy true L p n (s + 1) (mSt true L p s A)) (8 * lk L c 0 + lk L c 2 + 64) := Sol_uniq hL hp st (Sol_le fin (by omega)) _ (Nat.le_refl _) (lk L c 0) (lk L c 2) true hl.1 hv (by omega)
      unfold gW
      rw [← e, q, Bool.false_or]
    · exact ih (s + 1) _ s1 (by omega) st c hc (by omega)
end
