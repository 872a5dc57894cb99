/-! bounds, ranks, steps -/
section
variable {L p fl ex : Nat → Nat} {pl : Bool}
theorem gQ_8 (hL : lT L) (hp : pOrd L p) {g t : Nat} (hg : g < L 0 - 1) (ht : t < L 1) : gQ L p g t < 8 := by
  have h := (gQ_p hp hg ht).1
  have hB := hL.1.2.1
  omega
theorem ev_s (hL : lT L) {t s : Nat} {b : Bool} (ht : t < L 1) (hv : gE L t s b = true) : s < 8 ∧ s < L 0 ∧ (b = true → 1 ≤ s) ∧ (b = false → s < L 0 - 1) := by
  have hT := hL.1.2.2.2.2.2.1 t ht
  have hB := hL.1.2.1
  unfold trOk at hT
  cases b with
  | true =>
    have ha := gA_iff.mp (show gA L t s = true from hv)
    exact ⟨by omega, by omega, fun _ => by omega, fun q => Bool.noConfusion q⟩
  | false =>
    have hd := gD_iff.mp (show gD L t s = true from hv)
    exact ⟨by omega, by omega, (fun q => Bool.noConfusion q), fun _ => by omega⟩
theorem rk_s (hL : lT L) (hp : pOrd L p) {t s : Nat} {b : Bool} (ht : t < L 1) (hv : gE L t s b = true) : 32 * s ≤ rk L p t s b ∧ rk L p t s b < 32 * s + 32 := by
  have h := ev_s hL ht hv
  have hB := hL.1.2.1
  have hS2 := hL.2
  have q1 := gQ_8 hL hp (show s - 1 < L 0 - 1 by omega) ht
  cases b with
  | true => unfold rk; split <;> simp only [cond] <;> omega
  | false =>
    have q2 := gQ_8 hL hp (h.2.2.2 rfl) ht
    unfold rk; split <;> simp only [cond] <;> omega
theorem rk_inj (hL : lT L) (hp : pOrd L p) {t s t' s' : Nat} {b b' : Bool} (ht : t < L 1) (hv : gE L t s b = true) (ht' : t' < L 1) (hv' : gE L t' s' b' = true) (h : rk L p t s b = rk L p t' s' b') : t = t' ∧ s = s' ∧ b = b' := by
  have a1 := rk_s hL hp ht hv
  have a2 := rk_s hL hp ht' hv'
  have hs : s = s' := by omega
  subst hs
  have e1 := ev_s hL ht hv
  have e2 := ev_s hL ht' hv'
  have hB := hL.1.2.1
  have hS2 := hL.2
  have q1 := gQ_p hp (show s - 1 < L 0 - 1 by omega) ht
  have q2 := gQ_p hp (show s - 1 < L 0 - 1 by omega) ht'
  have same : gQ L p (s - 1) t = gQ L p (s - 1) t' → t = t' := fun e => by rw [← q1.2, ← q2.2, e]
  unfold rk at h
  by_cases hk : L (5 + s) = 1
  · rw [if_pos hk, if_pos hk] at h
    cases b with
    | true =>
      cases b' with
      | true => exact ⟨same (by simp only [cond] at h; omega), rfl, rfl⟩
      | false => exact absurd h (by simp only [cond]; omega)
    | false =>
      cases b' with
      | true => exact absurd h (by simp only [cond]; omega)
      | false =>
        have q3 := gQ_p hp (e1.2.2.2 rfl) ht
        have q4 := gQ_p hp (e2.2.2.2 rfl) ht'
        have e : gQ L p s t = gQ L p s t' := by simp only [cond] at h; omega
        exact ⟨by rw [← q3.2, ← q4.2, e], rfl, rfl⟩
  · rw [if_neg hk, if_neg hk] at h
    cases b with
    | true =>
      cases b' with
      | true => exact ⟨same (by simp only [cond] at h; omega), rfl, rfl⟩
      | false => exact absurd h (by simp only [cond]; omega)
    | false =>
      cases b' with
      | true => exact absurd h (by simp only [cond]; omega)
      | false => exact ⟨same (by simp only [cond] at h; omega), rfl, rfl⟩
theorem ev_ne {t s t' s' : Nat} {b b' : Bool} (hs : s < 8) (hs' : s' < 8) (ht : t < 8) (ht' : t' < 8) (h : ¬ (t = t' ∧ s = s' ∧ b = b')) : ¬ 8 * t + s + cond b 64 0 = 8 * t' + s' + cond b' 64 0 := by
  intro e
  apply h
  cases b <;> cases b' <;> simp only [cond] at e
  · exact ⟨by omega, by omega, rfl⟩
  · omega
  · omega
  · exact ⟨by omega, by omega, rfl⟩
theorem Sol_step (hL : lT L) (hp : pOrd L p) {T : Nat → Nat} {t s : Nat} {b : Bool} (ht : t < L 1) (hv : gE L t s b = true) (h : Sol L p fl ex pl T (rk L p t s b)) : Sol L p fl ex pl (va_up T (8 * t + s + cond b 64 0) (gF L p fl ex pl T t s b)) (rk L p t s b + 1) := by
  have hB := hL.1.2.1
  have e1 := ev_s hL ht hv
  have ne : ∀ t' s' b', t' < L 1 → gE L t' s' b' = true → rk L p t' s' b' < rk L p t s b → va_up T (8 * t + s + cond b 64 0) (gF L p fl ex pl T t s b) (8 * t' + s' + cond b' 64 0) = T (8 * t' + s' + cond b' 64 0) := fun t' s' b' h1 h2 h3 => vu_n (ev_ne (ev_s hL h1 h2).1 e1.1 (by omega) (by omega) (fun z => by rw [z.1, z.2.1, z.2.2] at h3; omega))
  intro t' s' b' ht' hv' hr
  by_cases e : rk L p t' s' b' = rk L p t s b
  · obtain ⟨rfl, rfl, rfl⟩ := rk_inj hL hp ht' hv' ht hv e
    rw [vu_s]
    exact gF_loc hL hp ht hv (fun t2 s2 b2 h1 h2 h3 => (ne t2 s2 b2 h1 h2 h3).symm)
  · rw [ne t' s' b' ht' hv' (by omega), h t' s' b' ht' hv' (by omega)]
    exact gF_loc hL hp ht' hv' (fun t2 s2 b2 h1 h2 h3 => (ne t2 s2 b2 h1 h2 (by omega)).symm)
theorem Sol_jump {T : Nat → Nat} {r r' : Nat} (h : Sol L p fl ex pl T r) (hn : ∀ t s b, t < L 1 → gE L t s b = true → rk L p t s b < r' → rk L p t s b < r) : Sol L p fl ex pl T r' := fun t s b ht hv hr => h t s b ht hv (hn t s b ht hv hr)
theorem Sol_cg (hL : lT L) (hp : pOrd L p) {T T' : Nat → Nat} {r : Nat} (h : Sol L p fl ex pl T r) (e : ∀ t s b, t < L 1 → gE L t s b = true → T' (8 * t + s + cond b 64 0) = T (8 * t + s + cond b 64 0)) : Sol L p fl ex pl T' r := fun t s b ht hv hr => by
  rw [e t s b ht hv, h t s b ht hv hr]
  exact gF_loc hL hp ht hv (fun t' s' b' h1 h2 _ => (e t' s' b' h1 h2).symm)
/-- floors and extras are small -/
def eB (L fl ex : Nat → Nat) (F0 : Nat) : Prop := ∀ t s b, t < L 1 → gE L t s b = true → fl (8 * t + s + cond b 64 0) ≤ F0 ∧ ex (8 * t + s + cond b 64 0) ≤ 2400
theorem gF_le (hL : lT L) (hp : pOrd L p) {F0 : Nat} (hE : eB L fl ex F0) {T : Nat → Nat} {t s : Nat} {b : Bool} (ht : t < L 1) (hv : gE L t s b = true) (h : ∀ t' s' b', t' < L 1 → gE L t' s' b' = true → rk L p t' s' b' < rk L p t s b → T (8 * t' + s' + cond b' 64 0) ≤ F0 + 3000 * (rk L p t' s' b' + 1)) : gF L p fl ex pl T t s b ≤ F0 + 3000 * (rk L p t s b + 1) := by
  have hB := hL.1.2.1
  have hT := hL.1.2.2.2.2.2.1 t ht
  unfold trOk at hT
  have hq : ∀ g t', g < L 0 - 1 → t' < L 1 → gQ L p g t' < 8 := fun g t' h1 h2 => gQ_8 hL hp h1 h2
  have h0 := hE t s b ht hv
  have mx : ∀ a b c : Nat, a ≤ c → b ≤ c → max a b ≤ c := fun a b c h1 h2 => Nat.max_le.mpr ⟨h1, h2⟩
  unfold gF
  refine mx _ _ _ (mx _ _ _ (mx _ _ _ (by omega) ?_) ?_) ?_
  · cases b with
    | true =>
      have ha := gA_iff.mp (show gA L t s = true from hv)
      have hv1 : gD L t (s - 1) = true := gD_iff.mpr (by omega)
      have r1 : rk L p t (s - 1) false < rk L p t s true := by
        have q1 := hq (s - 1) t (by omega) ht
        have q2 := hq (s - 1 - 1) t (by omega) ht
        unfold rk
        split <;> split <;> simp only [cond] <;> omega
      have b1 := h t (s - 1) false ht hv1 r1
      have b2 := hL.1.2.2.2.2.1 (s - 1) (by omega)
      have b3 : L (13 + (s - 1)) * tr L t 3 ≤ 60 * 5 := Nat.mul_le_mul b2.2 hT.2.2.2.2.1
      show T (8 * t + (s - 1)) + L (13 + (s - 1)) * tr L t 3 + ex (8 * t + s + 64) ≤ _
      have b1' : T (8 * t + (s - 1)) ≤ F0 + 3000 * (rk L p t (s - 1) false + 1) := b1
      have h0' : ex (8 * t + s + 64) ≤ 2400 := h0.2
      omega
    | false =>
      have hd := gD_iff.mp (show gD L t s = true from hv)
      have h0' : fl (8 * t + s) ≤ F0 ∧ ex (8 * t + s) ≤ 2400 := h0
      show (if s = tr L t 0 then fl (8 * t + s) + ex (8 * t + s) else T (8 * t + s + 64) + tr L t 4 + ex (8 * t + s)) ≤ _
      split
      · omega
      · next hne =>
        have r1 : rk L p t s true < rk L p t s false := by
          have q1 := hq (s - 1) t (by omega) ht
          unfold rk; split <;> simp only [cond] <;> omega
        have b1 : T (8 * t + s + 64) ≤ F0 + 3000 * (rk L p t s true + 1) := h t s true ht (gA_iff.mpr (by omega)) r1
        omega
  · unfold gH
    cases ho : gB L p (cond b (s - 1) s) t with
    | none => exact Nat.zero_le _
    | some o =>
      cases b with
      | true =>
        have ha := gA_iff.mp (show gA L t s = true from hv)
        obtain ⟨h1, h2, h3⟩ := gB_some hp (show s - 1 < L 0 - 1 by omega) ho
        have hd := gD_iff.mp h2
        have r1 : rk L p o s true < rk L p t s true := by unfold rk; split <;> simp only [cond] <;> omega
        have b1 := h o s true h1 (gA_iff.mpr (by omega)) r1
        show T (8 * o + s + cond true 64 0) + L 3 ≤ _
        omega
      | false =>
        have hd := gD_iff.mp (show gD L t s = true from hv)
        obtain ⟨h1, h2, h3⟩ := gB_some hp (show s < L 0 - 1 by omega) ho
        have r1 : rk L p o s false < rk L p t s false := by
          unfold rk
          split
          · simp only [cond]; omega
          · next hk =>
            by_cases h0 : s = 0
            · subst h0; simp only [cond, Nat.zero_sub]; omega
            · rw [gQ_s hp (by omega) (by omega) hk h1, gQ_s hp (by omega) (by omega) hk ht] at h3
              simp only [cond]; omega
        have b1 := h o s false h1 h2 r1
        show T (8 * o + s + cond false 64 0) + L 3 ≤ _
        omega
  · cases b with
    | true =>
      have ha := gA_iff.mp (show gA L t s = true from hv)
      show gP L p T t s ≤ _
      unfold gP
      split
      · exact Nat.zero_le _
      · next hk =>
        cases ho : gB L p (s - 1) t with
        | none => exact Nat.zero_le _
        | some o =>
          obtain ⟨h1, h2, h3⟩ := gB_some hp (show s - 1 < L 0 - 1 by omega) ho
          show cond (gD L o s) (T (8 * o + s) + L 3) 0 ≤ _
          cases hd : gD L o s
          · exact Nat.zero_le _
          · have r1 : rk L p o s false < rk L p t s true := by unfold rk; rw [if_neg hk, if_neg hk]; simp only [cond]; omega
            have b1 : T (8 * o + s) ≤ F0 + 3000 * (rk L p o s false + 1) := h o s false h1 hd r1
            show T (8 * o + s) + L 3 ≤ _
            omega
    | false =>
      have hd := gD_iff.mp (show gD L t s = true from hv)
      have e3 : ∀ n c v, c + n = L 2 → v ≤ F0 + 3000 * (rk L p t s false + 1) → gCn L fl pl T t s n c v ≤ F0 + 3000 * (rk L p t s false + 1) := by
        intro n
        induction n with
        | zero => intro c v _ hv; exact hv
        | succ n ih =>
          intro c v hc hv
          unfold gCn
          refine ih (c + 1) _ (by omega) ?_
          split
          · next hc1 =>
            have hk := hL.1.2.2.2.2.2.2 c (by omega)
            unfold lkOk at hk
            rw [hc1.2.1] at hk
            have r1 : rk L p (lk L c 0) s true < rk L p t s false := by
              have q1 := hq (s - 1) (lk L c 0) (by omega) hk.1
              unfold rk
              rw [if_pos hk.2.2.2.1, if_pos hk.2.2.2.1]
              simp only [cond]; omega
            have b1 : T (8 * lk L c 0 + s + 64) ≤ F0 + 3000 * (rk L p (lk L c 0) s true + 1) := h (lk L c 0) s true hk.1 hk.2.2.2.2.1 r1
            exact mx _ _ _ hv (by omega)
          · exact hv
      exact e3 (L 2) 0 0 (by omega) (Nat.zero_le _)
theorem Sol_bd (hL : lT L) (hp : pOrd L p) {F0 : Nat} (hE : eB L fl ex F0) {T : Nat → Nat} {r : Nat} (h : Sol L p fl ex pl T r) : ∀ n, n ≤ r → ∀ t s b, t < L 1 → gE L t s b = true → rk L p t s b < n → T (8 * t + s + cond b 64 0) ≤ F0 + 3000 * (rk L p t s b + 1) := by
  intro n
  induction n with
  | zero => intro _ t s b _ _ hr; exact absurd hr (by omega)
  | succ n ih =>
    intro hn t s b ht hv hr
    rw [h t s b ht hv (by omega)]
    exact gF_le hL hp hE ht hv (fun t' s' b' h1 h2 h3 => ih (by omega) t' s' b' h1 h2 (by omega))
end
