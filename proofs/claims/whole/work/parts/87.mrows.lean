/-! plan and actual times, and the reference's rows of them -/
section
variable {L p fl ex : Nat → Nat} {pl : Bool}
/-- floors and extras of the plan are small -/
def eB9 (L fl ex : Nat → Nat) (F0 : Nat) : Prop := ∀ t s b, t < L 1 → gE L t s b = true → fl (8 * t + s + cond b 64 0) ≤ F0 ∧ ex (8 * t + s + cond b 64 0) ≤ 9
theorem gF_le9 (hL : lT L) (hp : pOrd L p) {F0 : Nat} (hE : eB9 L fl ex F0) {T : Nat → Nat} {t s : Nat} {b : Bool} (ht : t < L 1) (hv : gE L t s b = true) (h : ∀ t' s' b', t' < L 1 → gE L t' s' b' = true → rk L p t' s' b' < rk L p t s b → T (8 * t' + s' + cond b' 64 0) ≤ F0 + 600 * (rk L p t' s' b' + 1)) : gF L p fl ex pl T t s b ≤ F0 + 600 * (rk L p t s b + 1) := by
  have hB := hL.1.2.1
  have hT := hL.1.2.2.2.2.2.1 t ht
  unfold trOk at hT
  have hq : ∀ g t', g < L 0 - 1 → t' < L 1 → gQ L p g t' < 8 := fun g t' h1 h2 => gQ_8 hL hp h1 h2
  have h0 := hE t s b ht hv
  have mx : ∀ a b c : Nat, a ≤ c → b ≤ c → max a b ≤ c := fun a b c h1 h2 => Nat.max_le.mpr ⟨h1, h2⟩
  unfold gF
  refine mx _ _ _ (mx _ _ _ (mx _ _ _ (by omega) ?_) ?_) ?_
  · cases b with
    | true =>
      have ha := gA_iff.mp (show gA L t s = true from hv)
      have hv1 : gD L t (s - 1) = true := gD_iff.mpr (by omega)
      have r1 : rk L p t (s - 1) false < rk L p t s true := by
        have q1 := hq (s - 1) t (by omega) ht
        have q2 := hq (s - 1 - 1) t (by omega) ht
        unfold rk
        split <;> split <;> simp only [cond] <;> omega
      have b1 := h t (s - 1) false ht hv1 r1
      have b2 := hL.1.2.2.2.2.1 (s - 1) (by omega)
      have b3 : L (13 + (s - 1)) * tr L t 3 ≤ 60 * 5 := Nat.mul_le_mul b2.2 hT.2.2.2.2.1
      show T (8 * t + (s - 1)) + L (13 + (s - 1)) * tr L t 3 + ex (8 * t + s + 64) ≤ _
      have b1' : T (8 * t + (s - 1)) ≤ F0 + 600 * (rk L p t (s - 1) false + 1) := b1
      have h0' : ex (8 * t + s + 64) ≤ 9 := h0.2
      omega
    | false =>
      have hd := gD_iff.mp (show gD L t s = true from hv)
      have h0' : fl (8 * t + s) ≤ F0 ∧ ex (8 * t + s) ≤ 9 := h0
      show (if s = tr L t 0 then fl (8 * t + s) + ex (8 * t + s) else T (8 * t + s + 64) + tr L t 4 + ex (8 * t + s)) ≤ _
      split
      · omega
      · next hne =>
        have r1 : rk L p t s true < rk L p t s false := by
          have q1 := hq (s - 1) t (by omega) ht
          unfold rk; split <;> simp only [cond] <;> omega
        have b1 : T (8 * t + s + 64) ≤ F0 + 600 * (rk L p t s true + 1) := h t s true ht (gA_iff.mpr (by omega)) r1
        omega
  · unfold gH
    cases ho : gB L p (cond b (s - 1) s) t with
    | none => exact Nat.zero_le _
    | some o =>
      cases b with
      | true =>
        have ha := gA_iff.mp (show gA L t s = true from hv)
        obtain ⟨h1, h2, h3⟩ := gB_some hp (show s - 1 < L 0 - 1 by omega) ho
        have hd := gD_iff.mp h2
        have r1 : rk L p o s true < rk L p t s true := by unfold rk; split <;> simp only [cond] <;> omega
        have b1 := h o s true h1 (gA_iff.mpr (by omega)) r1
        show T (8 * o + s + cond true 64 0) + L 3 ≤ _
        omega
      | false =>
        have hd := gD_iff.mp (show gD L t s = true from hv)
        obtain ⟨h1, h2, h3⟩ := gB_some hp (show s < L 0 - 1 by omega) ho
        have r1 : rk L p o s false < rk L p t s false := by
          unfold rk
          split
          · simp only [cond]; omega
          · next hk =>
            by_cases h0 : s = 0
            · subst h0; simp only [cond, Nat.zero_sub]; omega
            · rw [gQ_s hp (by omega) (by omega) hk h1, gQ_s hp (by omega) (by omega) hk ht] at h3
              simp only [cond]; omega
        have b1 := h o s false h1 h2 r1
        show T (8 * o + s + cond false 64 0) + L 3 ≤ _
        omega
  · cases b with
    | true =>
      have ha := gA_iff.mp (show gA L t s = true from hv)
      show gP L p T t s ≤ _
      unfold gP
      split
      · exact Nat.zero_le _
      · next hk =>
        cases ho : gB L p (s - 1) t with
        | none => exact Nat.zero_le _
        | some o =>
          obtain ⟨h1, h2, h3⟩ := gB_some hp (show s - 1 < L 0 - 1 by omega) ho
          show cond (gD L o s) (T (8 * o + s) + L 3) 0 ≤ _
          cases hd : gD L o s
          · exact Nat.zero_le _
          · have r1 : rk L p o s false < rk L p t s true := by unfold rk; rw [if_neg hk, if_neg hk]; simp only [cond]; omega
            have b1 : T (8 * o + s) ≤ F0 + 600 * (rk L p o s false + 1) := h o s false h1 hd r1
            show T (8 * o + s) + L 3 ≤ _
            omega
    | false =>
      have hd := gD_iff.mp (show gD L t s = true from hv)
      have e3 : ∀ n c v, c + n = L 2 → v ≤ F0 + 600 * (rk L p t s false + 1) → gCn L fl pl T t s n c v ≤ F0 + 600 * (rk L p t s false + 1) := by
        intro n
        induction n with
        | zero => intro c v _ hv; exact hv
        | succ n ih =>
          intro c v hc hv
          unfold gCn
          refine ih (c + 1) _ (by omega) ?_
          split
          · next hc1 =>
            have hk := hL.1.2.2.2.2.2.2 c (by omega)
            unfold lkOk at hk
            rw [hc1.2.1] at hk
            have r1 : rk L p (lk L c 0) s true < rk L p t s false := by
              have q1 := hq (s - 1) (lk L c 0) (by omega) hk.1
              unfold rk
              rw [if_pos hk.2.2.2.1, if_pos hk.2.2.2.1]
              simp only [cond]; omega
            have b1 : T (8 * lk L c 0 + s + 64) ≤ F0 + 600 * (rk L p (lk L c 0) s true + 1) := h (lk L c 0) s true hk.1 hk.2.2.2.2.1 r1
            exact mx _ _ _ hv (by omega)
          · exact hv
      exact e3 (L 2) 0 0 (by omega) (Nat.zero_le _)
theorem Sol_bd9 (hL : lT L) (hp : pOrd L p) {F0 : Nat} (hE : eB9 L fl ex F0) {T : Nat → Nat} {r : Nat} (h : Sol L p fl ex pl T r) : ∀ n, n ≤ r → ∀ t s b, t < L 1 → gE L t s b = true → rk L p t s b < n → T (8 * t + s + cond b 64 0) ≤ F0 + 600 * (rk L p t s b + 1) := by
  intro n
  induction n with
  | zero => intro _ t s b _ _ hr; exact absurd hr (by omega)
  | succ n ih =>
    intro hn t s b ht hv hr
    rw [h t s b ht hv (by omega)]
    exact gF_le9 hL hp hE ht hv (fun t' s' b' h1 h2 h3 => ih (by omega) t' s' b' h1 h2 (by omega))
theorem eB_9 {F0 : Nat} (h : eB9 L fl ex F0) (hF : F0 ≤ 200000) : eB L fl ex 200000 := fun t s b ht hv => by
  have q := h t s b ht hv
  exact ⟨by omega, by omega⟩
theorem Sol_fx (hL : lT L) {fl' ex' T : Nat → Nat} {r : Nat} (h : Sol L p fl ex pl T r) (e : ∀ t s b, t < L 1 → gE L t s b = true → fl' (8 * t + s + cond b 64 0) = fl (8 * t + s + cond b 64 0) ∧ ex' (8 * t + s + cond b 64 0) = ex (8 * t + s + cond b 64 0)) : Sol L p fl' ex' pl T r := fun t s b ht hv hr => by
  rw [h t s b ht hv hr]
  have q := e t s b ht hv
  have c1 : ∀ n c v, c + n = L 2 → gCn L fl pl T t s n c v = gCn L fl' pl T t s n c v := by
    intro n
    induction n with
    | zero => intro c v _; rfl
    | succ n ih =>
      intro c v hc
      have hl := hL.1.2.2.2.2.2.2 c (by omega)
      have w : fl' (8 * lk L c 1 + lk L c 2) = fl (8 * lk L c 1 + lk L c 2) := (e (lk L c 1) (lk L c 2) false hl.2.1 (show gE L (lk L c 1) (lk L c 2) false = true from hl.2.2.2.2.2.1)).1
      unfold gCn
      rw [ih (c + 1) _ (by omega)]
      unfold gW
      rw [w]
  unfold gF
  rw [q.1]
  have i1 : gI L fl ex T t s b = gI L fl' ex' T t s b := by
    cases b with
    | true =>
      have q2 : ex' (8 * t + s + 64) = ex (8 * t + s + 64) := q.2
      show T (8 * t + (s - 1)) + L (13 + (s - 1)) * tr L t 3 + ex (8 * t + s + 64) = T (8 * t + (s - 1)) + L (13 + (s - 1)) * tr L t 3 + ex' (8 * t + s + 64)
      rw [q2]
    | false =>
      have q1 : fl' (8 * t + s) = fl (8 * t + s) := q.1
      have q2 : ex' (8 * t + s) = ex (8 * t + s) := q.2
      show (if s = tr L t 0 then fl (8 * t + s) + ex (8 * t + s) else T (8 * t + s + 64) + tr L t 4 + ex (8 * t + s)) = (if s = tr L t 0 then fl' (8 * t + s) + ex' (8 * t + s) else T (8 * t + s + 64) + tr L t 4 + ex' (8 * t + s))
      rw [q1, q2]
  rw [i1, c1 (L 2) 0 0 (by omega)]
theorem rk_256 (hL : lT L) (hp : pOrd L p) {t s : Nat} {b : Bool} (ht : t < L 1) (hv : gE L t s b = true) : rk L p t s b < 256 := by
  have a := rk_s hL hp ht hv
  have e := ev_s hL ht hv
  omega
theorem Sol_eq (hL : lT L) (hp : pOrd L p) {T T' : Nat → Nat} (h : Sol L p fl ex pl T 256) (h' : Sol L p fl ex pl T' 256) {t s : Nat} {b : Bool} (ht : t < L 1) (hv : gE L t s b = true) : T (8 * t + s + cond b 64 0) = T' (8 * t + s + cond b 64 0) := Sol_uniq hL hp h h' 256 (Nat.le_refl _) t s b ht hv (rk_256 hL hp ht hv)
theorem Sol_fl (hL : lT L) (hp : pOrd L p) {T : Nat → Nat} (h : Sol L p fl ex pl T 256) {t s : Nat} {b : Bool} (ht : t < L 1) (hv : gE L t s b = true) : fl (8 * t + s + cond b 64 0) ≤ T (8 * t + s + cond b 64 0) := by
  rw [h t s b ht hv (rk_256 hL hp ht hv)]
  unfold gF
  exact Nat.le_trans (Nat.le_trans (Nat.le_max_left _ _) (Nat.le_max_left _ _)) (Nat.le_max_left _ _)
theorem tr_ev (hL : lT L) {t : Nat} (ht : t < L 1) : gE L t (tr L t 0) false = true ∧ gE L t (tr L t 1) true = true ∧ tr L t 2 ≤ 1000 := by
  have hT := hL.1.2.2.2.2.2.1 t ht
  unfold trOk at hT
  exact ⟨gD_iff.mpr (by omega), gA_iff.mpr (by omega), by omega⟩
/-- the plan's floors and supplements -/
def plI (L fl ex : Nat → Nat) : Prop := ∀ t s b, t < L 1 → gE L t s b = true → fl (8 * t + s + cond b 64 0) = (if b = false ∧ s = tr L t 0 then tr L t 2 else 0) ∧ (b = false → ex (8 * t + s) = 0) ∧ ex (8 * t + s + cond b 64 0) ≤ 9
theorem plI_9 (hL : lT L) (h : plI L fl ex) : eB9 L fl ex 1000 := fun t s b ht hv => by
  have q := h t s b ht hv
  have q2 := (tr_ev hL ht).2.2
  refine ⟨?_, q.2.2⟩
  rw [q.1]
  split <;> omega
theorem pl_bd (hL : lT L) (hp : pOrd L p) (h : plI L fl ex) {T : Nat → Nat} (hT : Sol L p fl ex pl T 256) {t s : Nat} {b : Bool} (ht : t < L 1) (hv : gE L t s b = true) : T (8 * t + s + cond b 64 0) ≤ 200000 := by
  have r := rk_256 hL hp ht hv
  exact Nat.le_trans (Sol_bd9 hL hp (plI_9 hL h) hT 256 (Nat.le_refl _) t s b ht hv r) (Nat.le_trans (Nat.add_le_add_left (Nat.mul_le_mul_left 600 r) 1000) (Nat.le_of_ble_eq_true rfl))
theorem ac_eB (hL : lT L) (hp : pOrd L p) (h : plI L fl ex) {T ey : Nat → Nat} (hT : Sol L p fl ex pl T 256) (he : ∀ t s b, t < L 1 → gE L t s b = true → ey (8 * t + s + cond b 64 0) ≤ 2400) : eB L T ey 200000 := fun t s b ht hv => ⟨pl_bd hL hp h hT ht hv, he t s b ht hv⟩
theorem ac_bd (hL : lT L) (hp : pOrd L p) (hE : eB L fl ex 200000) {T : Nat → Nat} (hT : Sol L p fl ex pl T 256) {t s : Nat} {b : Bool} (ht : t < L 1) (hv : gE L t s b = true) : T (8 * t + s + cond b 64 0) ≤ 1000000 := by
  have r := rk_256 hL hp ht hv
  exact Nat.le_trans (Sol_bd hL hp hE hT 256 (Nat.le_refl _) t s b ht hv r) (Nat.le_trans (Nat.add_le_add_left (Nat.mul_le_mul_left 3000 r) 200000) (Nat.le_of_ble_eq_true rfl))
/-- what the reference lays from -/
def mIn (A : Nat → Nat → Int32) (L p pa fl ex ey : Nat → Nat) : Prop := (A 33 = lf L ∧ A 36 = lf p ∧ A 37 = lf pa) ∧ (lT L ∧ pOrd L p ∧ pOrd L pa ∧ plI L fl ex) ∧ (∀ t s, t < L 1 → gE L t s true = true → A 35 (7 * t + s - 1) = nI (ex (8 * t + s + 64))) ∧ (∀ t s b, t < L 1 → gE L t s b = true → A (cond b 40 39) (8 * t + s) = nI (ey (8 * t + s + cond b 64 0)) ∧ ey (8 * t + s + cond b 64 0) ≤ 2400)
theorem mIn_pl {A : Nat → Nat → Int32} {pa ey : Nat → Nat} (h : mIn A L p pa fl ex ey) : mSd false A L p fl ex := by
  obtain ⟨⟨h33, h36, h37⟩, ⟨hL, hp, hpa, hi⟩, h35, h39⟩ := h
  refine ⟨⟨h33, h36, fun e => Bool.noConfusion e, fun _ t s b ht hv => ⟨fun e => ?_, (hi t s b ht hv).2.1, (hi t s b ht hv).1⟩⟩, hL, hp, eB_9 (plI_9 hL hi) (by omega)⟩
  subst e
  exact h35 t s ht hv
theorem ref_pl {A : Nat → Nat → Int32} {pa ey Tp : Nat → Nat} (h : mIn A L p pa fl ex ey) (hT : Sol L p fl ex true Tp 256) {t s : Nat} {b : Bool} (ht : t < L 1) (hv : gE L t s b = true) : mLy false L p (L 0) 0 A (cond b 43 42) (8 * t + s) = nI (Tp (8 * t + s + cond b 64 0)) := by
  have hL := h.2.1.1
  have hp := h.2.1.2.1
  have hB := hL.1.2.1
  have hS := mIn_pl h
  have q : Sol L p fl ex true (mT false (mLy false L p (L 0) 0 A)) 256 := mLy_sol (ac := false) (L 0) 0 A hS (by omega) (fun t s b _ _ h => absurd h (by omega))
  have e := Sol_eq hL hp q hT ht hv
  have ev := ev_s hL ht hv
  rw [← e]
  cases b with
  | true => exact mT_a (ac := false) (A := mLy false L p (L 0) 0 A)
  | false => exact mT_d (ac := false) (A := mLy false L p (L 0) 0 A) (by omega) ev.1
theorem mIn_ac {A : Nat → Nat → Int32} {pa ey Tp : Nat → Nat} (h : mIn A L p pa fl ex ey) (hT : Sol L p fl ex true Tp 256) : mSd true (mLy false L p (L 0) 0 A) L pa Tp ey := by
  have hr := fun t s b ht hv => ref_pl (t := t) (s := s) (b := b) h hT ht hv
  obtain ⟨⟨h33, h36, h37⟩, ⟨hL, hp, hpa, hi⟩, h35, h39⟩ := h
  refine ⟨⟨?_, ?_, fun _ t s b ht hv => ⟨?_, ?_, ?_⟩, fun e => Bool.noConfusion e⟩, hL, hpa, ac_eB hL hp hi hT (fun t s b ht hv => (h39 t s b ht hv).2)⟩
  · rw [mLy_o (by decide) (by decide) (by decide)]; exact h33
  · show mLy false L p (L 0) 0 A 37 = _
    rw [mLy_o (by decide) (by decide) (by decide)]; exact h37
  · exact hr t s b ht hv
  · have e : mLy false L p (L 0) 0 A (cond b 40 39) = A (cond b 40 39) := by
      cases b <;> exact mLy_o (by decide) (by decide) (by decide) (L 0) 0 A
    rw [e]
    exact (h39 t s b ht hv).1
  · have te := tr_ev hL ht
    have a : fl (8 * t + tr L t 0) ≤ Tp (8 * t + tr L t 0) := Sol_fl (b := false) hL hp hT ht te.1
    have b2 : fl (8 * t + tr L t 0) = (if false = false ∧ tr L t 0 = tr L t 0 then tr L t 2 else 0) := (hi t (tr L t 0) false ht te.1).1
    rw [if_pos ⟨rfl, rfl⟩] at b2
    omega
theorem ref_ac {A : Nat → Nat → Int32} {pa ey Tp Ta : Nat → Nat} (h : mIn A L p pa fl ex ey) (hT : Sol L p fl ex true Tp 256) (hTa : Sol L pa Tp ey false Ta 256) : (∀ t s b, t < L 1 → gE L t s b = true → mLw L p pa A (cond b 43 42) (8 * t + s) = nI (Tp (8 * t + s + cond b 64 0)) ∧ mLw L p pa A (cond b 45 44) (8 * t + s) = nI (Ta (8 * t + s + cond b 64 0))) ∧ (∀ c, c < L 2 → mLw L p pa A 46 c = zbo (gW L Tp false Ta c)) := by
  have hr := fun t s b ht hv => ref_pl (t := t) (s := s) (b := b) h hT ht hv
  have hS := mIn_ac h hT
  have hL := h.2.1.1
  have hpa := h.2.1.2.2.1
  have hB := hL.1.2.1
  have z : Sol L pa Tp ey (!true) (mT true (mLy false L p (L 0) 0 A)) (32 * 0) := fun t s b _ _ h => absurd h (by omega)
  have q : Sol L pa Tp ey false (mT true (mLw L p pa A)) 256 := mLy_sol (ac := true) (L 0) 0 _ hS (by omega) z
  have k := mLy_kept (L 0) 0 _ hS (by omega) z
  refine ⟨fun t s b ht hv => ⟨?_, ?_⟩, fun c hc => ?_⟩
  · have e : mLw L p pa A (cond b 43 42) = mLy false L p (L 0) 0 A (cond b 43 42) := by
      unfold mLw
      cases b <;> exact mLy_o (by decide) (by decide) (by decide) (L 0) 0 _
    rw [e]
    exact hr t s b ht hv
  · have e := Sol_eq hL hpa q hTa ht hv
    have ev := ev_s hL ht hv
    rw [← e]
    cases b with
    | true => exact mT_a (ac := true) (A := mLw L p pa A)
    | false => exact mT_d (ac := true) (A := mLw L p pa A) (by omega) ev.1
  · have hl := hL.1.2.2.2.2.2.2 c hc
    have e : mT true (mLw L p pa A) (8 * lk L c 0 + lk L c 2 + 64) = Ta (8 * lk L c 0 + lk L c 2 + 64) := Sol_eq (b := true) hL hpa q hTa hl.1 (show gE L (lk L c 0) (lk L c 2) true = true from hl.2.2.2.2.1)
    have k2 : mLw L p pa A 46 c = zbo (gW L Tp false (mT true (mLw L p pa A)) c) := k c hc (Nat.zero_le _)
    rw [k2]
    unfold gW
    rw [e]
end
