/-! the class's compute lays all times -/
section
variable {L p fl ex : Nat → Nat} {pl : Bool} {IF : Nat → Nat → Int32} {r : Nat}
theorem vu_ex {A A' A'' : Nat → Nat → Int32} {k : Nat} (h : ∃ f, A' = va_up A k f) (h' : ∃ f, A'' = va_up A' k f) : ∃ f, A'' = va_up A k f := by
  obtain ⟨f, rfl⟩ := h
  obtain ⟨g, rfl⟩ := h'
  exact ⟨g, vu_u⟩
theorem cS_ex (hr : rOk r) {A A' : Nat → Nat → Int32} (h : cS IF A r L p fl ex pl) (h' : ∃ f, A' = va_up A (rT r) f) : cS IF A' r L p fl ex pl := by
  obtain ⟨f, rfl⟩ := h'
  exact cS_up hr h
/-- a valid event by its rank -/
theorem rk_arr (hL : lT L) (hp : pOrd L p) {s i t' s' : Nat} {b' : Bool} (hk : L (5 + s) = 1) (hs : s < L 0) (hi : i < 8) (ht : t' < L 1) (hv : gE L t' s' b' = true) (h : rk L p t' s' b' = 32 * s + i) : s' = s ∧ b' = true ∧ p (8 * (s - 1) + i) = t' := by
  have a := rk_s hL hp ht hv
  have hS2 := hL.2
  have e : s' = s := by omega
  subst e
  have q := gQ_p hp (show s' - 1 < L 0 - 1 by omega) ht
  unfold rk at h
  rw [if_pos hk] at h
  cases b' with
  | true => exact ⟨rfl, rfl, by simp only [cond] at h; rw [← q.2]; congr 2; omega⟩
  | false => exact absurd h (by simp only [cond]; omega)
theorem rk_dep (hL : lT L) (hp : pOrd L p) {s i t' s' : Nat} {b' : Bool} (hk : L (5 + s) = 1) (hs : s < L 0) (hi : i < 16) (ht : t' < L 1) (hv : gE L t' s' b' = true) (h : rk L p t' s' b' = 32 * s + 16 + i) : s' = s ∧ b' = false ∧ p (8 * s + i) = t' := by
  have a := rk_s hL hp ht hv
  have hS2 := hL.2
  have e : s' = s := by omega
  subst e
  have q1 := gQ_8 hL hp (show s' - 1 < L 0 - 1 by omega) ht
  unfold rk at h
  rw [if_pos hk] at h
  cases b' with
  | true => exact absurd h (by simp only [cond]; omega)
  | false =>
    have q := gQ_p hp ((ev_s hL ht hv).2.2.2 rfl) ht
    exact ⟨rfl, rfl, by simp only [cond] at h; rw [← q.2]; congr 2; omega⟩
theorem rk_pln (hL : lT L) (hp : pOrd L p) {s i t' s' : Nat} {b' : Bool} (hk : ¬ L (5 + s) = 1) (hs : s < L 0) (hi : i < 16) (ht : t' < L 1) (hv : gE L t' s' b' = true) (h : rk L p t' s' b' = 32 * s + 2 * i + cond b' 0 1 ∨ ∃ c, rk L p t' s' b' = 32 * s + 2 * i + cond c 0 1) : s' = s ∧ p (8 * (s - 1) + i) = t' ∧ (∀ c, rk L p t' s' b' = 32 * s + 2 * i + cond c 0 1 → b' = c) := by
  have a := rk_s hL hp ht hv
  have hS2 := hL.2
  have e : s' = s := by
    rcases h with h | ⟨c, h⟩
    · cases b' <;> simp only [cond] at h <;> omega
    · cases c <;> simp only [cond] at h <;> omega
  subst e
  have q := gQ_p hp (show s' - 1 < L 0 - 1 by omega) ht
  have hrk : rk L p t' s' b' = 32 * s' + 2 * gQ L p (s' - 1) t' + cond b' 0 1 := by unfold rk; rw [if_neg hk]
  rw [hrk] at h
  have hq : gQ L p (s' - 1) t' = i := by
    rcases h with h | ⟨c, h⟩
    · omega
    · cases b' <;> cases c <;> simp only [cond] at h <;> omega
  refine ⟨rfl, by rw [← q.2, hq], fun c hc => ?_⟩
  rw [hrk, hq] at hc
  cases b' <;> cases c <;> simp only [cond] at hc <;> first | rfl | omega
theorem rk_of_arr (hp : pOrd L p) {s i : Nat} (hs : s - 1 < L 0 - 1) (hi : i < L 1) (hk : L (5 + s) = 1) : rk L p (p (8 * (s - 1) + i)) s true = 32 * s + i := by
  unfold rk
  rw [if_pos hk]
  show 32 * s + gQ L p (s - 1) _ = _
  rw [gQ_i hp hs hi]
theorem rk_of_dep (hp : pOrd L p) {s i : Nat} (hs : s < L 0 - 1) (hi : i < L 1) (hk : L (5 + s) = 1) : rk L p (p (8 * s + i)) s false = 32 * s + 16 + i := by
  unfold rk
  rw [if_pos hk]
  show 32 * s + (16 + gQ L p s _) = _
  rw [gQ_i hp hs hi]; omega
theorem rk_of_pln (hp : pOrd L p) {s i : Nat} {b : Bool} (hs : s - 1 < L 0 - 1) (hi : i < L 1) (hk : ¬ L (5 + s) = 1) : rk L p (p (8 * (s - 1) + i)) s b = 32 * s + 2 * i + cond b 0 1 := by
  unfold rk
  rw [if_neg hk, gQ_i hp hs hi]
theorem xK1_sol (hr : rOk r) {s : Nat} (hs : s < L 0) {sd : Bool} (hsd : sd = true ↔ L (5 + s) = 1) : ∀ (n i : Nat) (A : Nat → Nat → Int32), cS IF A r L p fl ex pl → i + n = L 1 → Sol L p fl ex pl (tn (A (rT r))) (32 * s + cond sd i (2 * i)) → Sol L p fl ex pl (tn (xK1 IF r (L 2) s sd n i A (rT r))) (32 * s + cond sd (i + n) (2 * (i + n))) ∧ ∃ f, xK1 IF r (L 2) s sd n i A = va_up A (rT r) f := by
  intro n
  induction n with
  | zero => intro i A _ _ h; exact ⟨h, A (rT r), vu_id.symm⟩
  | succ n ih =>
    intro i A hS hi h
    have hL := hS.2.1
    have hp := hS.2.2.1
    have hB := hL.1.2.1
    have hS2 := hL.2
    have hg : s - 1 < L 0 - 1 := by omega
    have ht := hp.1 (s - 1) hg i (by omega)
    have exx : A (rO r + 1) (8 * m8 (nI (s - 1)) + m8 (nI i)) = nI (p (8 * (s - 1) + i)) := by
      rw [m8_nI (by omega), m8_nI (by omega)]
      exact hS.1.2.1.1 (s - 1) hg i (by omega)
    unfold xK1
    rw [exx]
    generalize hte : p (8 * (s - 1) + i) = t at ht
    cases sd with
    | true =>
      have hk := hsd.mp rfl
      have hrk := rk_of_arr (L := L) hp hg (show i < L 1 by omega) hk
      rw [hte] at hrk
      have st := xSt_sol hr hS (b := true) ht (show s < 8 by omega) (fun _ => by rw [hrk]; exact h)
      have h2 : Sol L p fl ex pl (tn (xSt IF A r (L 2) (nI t) (nI s) true (rT r))) (32 * s + (i + 1)) := by
        cases hv : gE L t s true with
        | true => have q := st.1 hv; rw [hrk] at q; exact q
        | false =>
          rw [st.2.1 hv]
          refine Sol_jump h (fun t' s' b' ht' hv' hlt => ?_)
          by_cases e : rk L p t' s' b' = 32 * s + i
          · obtain ⟨rfl, rfl, e3⟩ := rk_arr hL hp hk hs (by omega) ht' hv' e
            rw [← e3, hte, hv] at hv'
            exact Bool.noConfusion hv'
          · show rk L p t' s' b' < 32 * s + i; omega
      have q := ih (i + 1) _ (cS_ex hr hS st.2.2) (by omega) h2
      exact ⟨by rw [show i + (n + 1) = i + 1 + n by omega]; exact q.1, vu_ex st.2.2 q.2⟩
    | false =>
      have hk : ¬ L (5 + s) = 1 := fun z => Bool.noConfusion (hsd.mpr z)
      have hr1 : ∀ b, rk L p t s b = 32 * s + 2 * i + cond b 0 1 := fun b => by rw [← hte]; exact rk_of_pln hp hg (by omega) hk
      have st := xSt_sol hr hS (b := true) ht (show s < 8 by omega) (fun _ => by rw [hr1]; exact h)
      have h2 : Sol L p fl ex pl (tn (xSt IF A r (L 2) (nI t) (nI s) true (rT r))) (32 * s + 2 * i + 1) := by
        cases hv : gE L t s true with
        | true => have q := st.1 hv; rw [hr1] at q; exact q
        | false =>
          rw [st.2.1 hv]
          refine Sol_jump h (fun t' s' b' ht' hv' hlt => ?_)
          by_cases e : rk L p t' s' b' = 32 * s + 2 * i + cond true 0 1
          · obtain ⟨rfl, e3, e4⟩ := rk_pln hL hp hk hs (by omega) ht' hv' (Or.inr ⟨true, e⟩)
            rw [e4 true e, ← e3, hte, hv] at hv'
            exact Bool.noConfusion hv'
          · have e' : ¬ rk L p t' s' b' = 32 * s + 2 * i := e
            show rk L p t' s' b' < 32 * s + 2 * i; omega
      have hS1 := cS_ex hr hS st.2.2
      have sv := xSt_sol hr hS1 (b := false) ht (show s < 8 by omega) (fun _ => by rw [hr1]; exact h2)
      have h3 : Sol L p fl ex pl (tn (xSt IF (xSt IF A r (L 2) (nI t) (nI s) true) r (L 2) (nI t) (nI s) false (rT r))) (32 * s + 2 * (i + 1)) := by
        cases hv : gE L t s false with
        | true => have q := sv.1 hv; rw [hr1] at q; exact q
        | false =>
          rw [sv.2.1 hv]
          refine Sol_jump h2 (fun t' s' b' ht' hv' hlt => ?_)
          by_cases e : rk L p t' s' b' = 32 * s + 2 * i + cond false 0 1
          · obtain ⟨rfl, e3, e4⟩ := rk_pln hL hp hk hs (by omega) ht' hv' (Or.inr ⟨false, e⟩)
            rw [e4 false e, ← e3, hte, hv] at hv'
            exact Bool.noConfusion hv'
          · have e' : ¬ rk L p t' s' b' = 32 * s + 2 * i + 1 := e
            show rk L p t' s' b' < 32 * s + 2 * i + 1; omega
      have q := ih (i + 1) _ (cS_ex hr hS1 sv.2.2) (by omega) h3
      exact ⟨by rw [show i + (n + 1) = i + 1 + n by omega]; exact q.1, vu_ex (vu_ex st.2.2 sv.2.2) q.2⟩
theorem xK2_sol (hr : rOk r) {s : Nat} (hs : s + 1 < L 0) (hk : L (5 + s) = 1) : ∀ (n i : Nat) (A : Nat → Nat → Int32), cS IF A r L p fl ex pl → i + n = L 1 → Sol L p fl ex pl (tn (A (rT r))) (32 * s + 16 + i) → Sol L p fl ex pl (tn (xK2 IF r (L 2) s n i A (rT r))) (32 * s + 16 + (i + n)) ∧ ∃ f, xK2 IF r (L 2) s n i A = va_up A (rT r) f := by
  intro n
  induction n with
  | zero => intro i A _ _ h; exact ⟨h, A (rT r), vu_id.symm⟩
  | succ n ih =>
    intro i A hS hi h
    have hL := hS.2.1
    have hp := hS.2.2.1
    have hB := hL.1.2.1
    unfold xK2
    have hg : s < L 0 - 1 := by omega
    have ht := hp.1 s hg i (by omega)
    have exx : A (rO r + 1) (8 * m8 (nI s) + m8 (nI i)) = nI (p (8 * s + i)) := by
      rw [m8_nI (by omega), m8_nI (by omega)]
      exact hS.1.2.1.1 s hg i (by omega)
    rw [exx]
    have hrk := rk_of_dep (L := L) hp hg (show i < L 1 by omega) hk
    generalize hte : p (8 * s + i) = t at ht hrk
    have st := xSt_sol hr hS (b := false) ht (show s < 8 by omega) (fun _ => by rw [hrk]; exact h)
    have h2 : Sol L p fl ex pl (tn (xSt IF A r (L 2) (nI t) (nI s) false (rT r))) (32 * s + 16 + (i + 1)) := by
      cases hv : gE L t s false with
      | true => have q := st.1 hv; rw [hrk] at q; exact q
      | false =>
        rw [st.2.1 hv]
        refine Sol_jump h (fun t' s' b' ht' hv' hlt => ?_)
        by_cases e : rk L p t' s' b' = 32 * s + 16 + i
        · obtain ⟨rfl, rfl, e3⟩ := rk_dep hL hp hk (show s < L 0 by omega) (by omega) ht' hv' e
          rw [← e3, hte, hv] at hv'
          exact Bool.noConfusion hv'
        · omega
    have q := ih (i + 1) _ (cS_ex hr hS st.2.2) (by omega) h2
    exact ⟨by rw [show i + (n + 1) = i + 1 + n by omega]; exact q.1, vu_ex st.2.2 q.2⟩
/-- one station; behind the last one nobody departs -/
theorem xK_sol (hr : rOk r) {s m : Nat} (hs : s < L 0) (hm : (s + 1 < L 0 ∧ m = L 1) ∨ (s + 1 = L 0 ∧ m = 0)) {A : Nat → Nat → Int32} (hS : cS IF A r L p fl ex pl) (h : Sol L p fl ex pl (tn (A (rT r))) (32 * s)) : Sol L p fl ex pl (tn (xK IF r (L 2) (L 1) m s A (rT r))) (32 * (s + 1)) ∧ ∃ f, xK IF r (L 2) (L 1) m s A = va_up A (rT r) f := by
  have hL := hS.2.1
  have hp := hS.2.2.1
  have hB := hL.1.2.1
  have hS2 := hL.2
  have hx : xs IF 8 (nI s) = true ↔ L (5 + s) = 1 := by rw [hS.1.1.2.1 s (by omega), decide_eq_true_eq]
  unfold xK
  cases e : xs IF 8 (nI s) with
  | true =>
    have hk := hx.mp e
    have k1 := xK1_sol (fl := fl) (ex := ex) (pl := pl) (p := p) hr hs (sd := true) ⟨fun _ => hk, fun _ => rfl⟩ (L 1) 0 A hS (by omega) h
    have h1 : Sol L p fl ex pl (tn (xK1 IF r (L 2) s true (L 1) 0 A (rT r))) (32 * s + 16 + 0) := Sol_jump k1.1 (fun t' s' b' ht' hv' hlt => by
      have a := rk_s hL hp ht' hv'
      show rk L p t' s' b' < 32 * s + (0 + L 1)
      by_cases es : s' = s
      · subst es
        have q1 := (gQ_p hp (show s' - 1 < L 0 - 1 by omega) ht').1
        unfold rk at hlt ⊢
        rw [if_pos hk] at hlt ⊢
        cases b' <;> simp only [cond] at hlt ⊢ <;> omega
      · omega)
    rcases hm with ⟨hg, rfl⟩ | ⟨hl, rfl⟩
    · have k2 := xK2_sol (fl := fl) (ex := ex) (pl := pl) (p := p) hr hg hk (L 1) 0 _ (cS_ex hr hS k1.2) (by omega) h1
      refine ⟨Sol_jump k2.1 (fun t' s' b' ht' hv' hlt => ?_), vu_ex k1.2 k2.2⟩
      have a := rk_s hL hp ht' hv'
      by_cases es : s' = s
      · subst es
        have q1 := (gQ_p hp (show s' - 1 < L 0 - 1 by omega) ht').1
        unfold rk at hlt ⊢
        rw [if_pos hk] at hlt ⊢
        cases b' with
        | true => simp only [cond] at hlt ⊢; omega
        | false =>
          have q2 := (gQ_p hp ((ev_s hL ht' hv').2.2.2 rfl) ht').1
          simp only [cond] at hlt ⊢; omega
      · omega
    · refine ⟨Sol_jump h1 (fun t' s' b' ht' hv' hlt => ?_), k1.2⟩
      have a := rk_s hL hp ht' hv'
      by_cases es : s' = s
      · subst es
        have q1 := (gQ_p hp (show s' - 1 < L 0 - 1 by omega) ht').1
        unfold rk at hlt ⊢
        rw [if_pos hk] at hlt ⊢
        cases b' with
        | true => simp only [cond] at hlt ⊢; omega
        | false =>
          have q2 := (ev_s hL ht' hv').2.2.2 rfl
          omega
      · omega
  | false =>
    have hk : ¬ L (5 + s) = 1 := fun z => by rw [hx.mpr z] at e; exact Bool.noConfusion e
    have k1 := xK1_sol (fl := fl) (ex := ex) (pl := pl) (p := p) hr hs (sd := false) ⟨fun q => Bool.noConfusion q, fun z => absurd z hk⟩ (L 1) 0 A hS (by omega) h
    refine ⟨Sol_jump k1.1 (fun t' s' b' ht' hv' hlt => ?_), k1.2⟩
    have a := rk_s hL hp ht' hv'
    show rk L p t' s' b' < 32 * s + 2 * (0 + L 1)
    by_cases es : s' = s
    · subst es
      have q1 := (gQ_p hp (show s' - 1 < L 0 - 1 by omega) ht').1
      unfold rk at hlt ⊢
      rw [if_neg hk] at hlt ⊢
      cases b' <;> simp only [cond] at hlt ⊢ <;> omega
    · omega
theorem xCo_sol (hr : rOk r) : ∀ (n s : Nat) (A : Nat → Nat → Int32), cS IF A r L p fl ex pl → s + n = L 0 → Sol L p fl ex pl (tn (A (rT r))) (32 * s) → Sol L p fl ex pl (tn (xCo IF r (L 2) (L 1) n s A (rT r))) 256 ∧ ∃ f, xCo IF r (L 2) (L 1) n s A = va_up A (rT r) f := by
  intro n
  induction n with
  | zero =>
    intro s A hS hs h
    refine ⟨Sol_jump h (fun t' s' b' ht' hv' _ => ?_), A (rT r), vu_id.symm⟩
    have a := rk_s hS.2.1 hS.2.2.1 ht' hv'
    have e := (ev_s hS.2.1 ht' hv').2.1
    omega
  | succ n ih =>
    intro s A hS hs h
    have hm : (s + 1 < L 0 ∧ xLn n (L 1) = L 1) ∨ (s + 1 = L 0 ∧ xLn n (L 1) = 0) := by
      cases n with
      | zero => exact Or.inr ⟨by omega, rfl⟩
      | succ n => exact Or.inl ⟨by omega, rfl⟩
    have k := xK_sol hr (show s < L 0 by omega) hm hS h
    have q := ih (s + 1) _ (cS_ex hr hS k.2) (by omega) k.1
    exact ⟨q.1, vu_ex k.2 q.2⟩
/-- compute: all times are the least ones, nothing else has changed -/
theorem compute_sol (hr : rOk r) {A : Nat → Nat → Int32} (hS : cS IF A r L p fl ex pl) : Sol L p fl ex pl (tn (xCo IF r (L 2) (L 1) (L 0) 0 A (rT r))) 256 ∧ ∃ f, xCo IF r (L 2) (L 1) (L 0) 0 A = va_up A (rT r) f := xCo_sol hr (L 0) 0 A hS (by omega) (fun t s b _ _ h => absurd h (by omega))
end
