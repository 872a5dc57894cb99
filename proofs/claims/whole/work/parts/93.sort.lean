/-! class and reference: the order by start -/
theorem php : ∀ (M : Nat) (f : Nat → Nat), (∀ t, t < M + 1 → f t < M) → ∃ a b, a < b ∧ b < M + 1 ∧ f a = f b := by
  intro M
  induction M with
  | zero => intro f h; exact absurd (h 0 (by omega)) (by omega)
  | succ M ih =>
    intro f h
    by_cases w : ∃ a, a < M + 1 ∧ f a = f (M + 1)
    · obtain ⟨a, h1, h2⟩ := w
      exact ⟨a, M + 1, h1, by omega, h2⟩
    · have ne : ∀ a, a < M + 1 → ¬ f a = f (M + 1) := fun a h1 h2 => w ⟨a, h1, h2⟩
      obtain ⟨a, b, h1, h2, h3⟩ := ih (fun t => if f (M + 1) < f t then f t - 1 else f t) (fun t ht => by
        have a1 := h t (by omega)
        have a2 := h (M + 1) (by omega)
        have a3 := ne t ht
        split <;> omega)
      have n1 := ne a (by omega)
      have n2 := ne b h2
      refine ⟨a, b, h1, by omega, ?_⟩
      by_cases c1 : f (M + 1) < f a
      · rw [if_pos c1] at h3
        by_cases c2 : f (M + 1) < f b
        · rw [if_pos c2] at h3; omega
        · rw [if_neg c2] at h3; omega
      · rw [if_neg c1] at h3
        by_cases c2 : f (M + 1) < f b
        · rw [if_pos c2] at h3; omega
        · rw [if_neg c2] at h3; omega
theorem inj_sur {M : Nat} {f : Nat → Nat} (hl : ∀ t, t < M → f t < M) (hi : ∀ a b, a < M → b < M → f a = f b → a = b) {i : Nat} (h : i < M) : ∃ t, t < M ∧ f t = i := by
  by_cases w : ∃ t, t < M ∧ f t = i
  · exact w
  · obtain ⟨m, rfl⟩ : ∃ m, M = m + 1 := ⟨M - 1, by omega⟩
    have ne : ∀ t, t < m + 1 → ¬ f t = i := fun t h1 h2 => w ⟨t, h1, h2⟩
    obtain ⟨a, b, h1, h2, h3⟩ := php m (fun t => if i < f t then f t - 1 else f t) (fun t ht => by
      have a1 := hl t ht
      have a3 := ne t ht
      split <;> omega)
    have n1 := ne a (by omega)
    have n2 := ne b h2
    have e : f a = f b := by
      by_cases c1 : i < f a
      · rw [if_pos c1] at h3
        by_cases c2 : i < f b
        · rw [if_pos c2] at h3; omega
        · rw [if_neg c2] at h3; omega
      · rw [if_neg c1] at h3
        by_cases c2 : i < f b
        · rw [if_pos c2] at h3; omega
        · rw [if_neg c2] at h3; omega
    have := hi a b (by omega) h2 e
    omega
/-- a starts before b -/
def kLt (L : Nat → Nat) (a b : Nat) : Prop := tr L a 2 < tr L b 2 ∨ (tr L a 2 = tr L b 2 ∧ a < b)
section
variable {IF A : Nat → Nat → Int32} {L q : Nat → Nat}
theorem gAh_lt {a b : Nat} (h : kLt L a b) : ∀ n o v w, v ≤ w → (gAh L a n o v ≤ gAh L b n o w) ∧ (o ≤ a → a < o + n → gAh L a n o v < gAh L b n o w) := by
  intro n
  induction n with
  | zero => intro o v w hv; exact ⟨hv, fun h1 h2 => absurd h1 (by omega)⟩
  | succ n ih =>
    intro o v w hv
    unfold gAh
    have tr1 : (tr L o 2 < tr L a 2 ∨ (tr L o 2 = tr L a 2 ∧ o < a)) → (tr L o 2 < tr L b 2 ∨ (tr L o 2 = tr L b 2 ∧ o < b)) := fun z => by
      unfold kLt at h
      omega
    by_cases c1 : tr L o 2 < tr L a 2 ∨ (tr L o 2 = tr L a 2 ∧ o < a)
    · rw [if_pos c1, if_pos (tr1 c1)]
      have r := ih (o + 1) (v + 1) (w + 1) (by omega)
      refine ⟨r.1, fun h1 h2 => r.2 ?_ (by omega)⟩
      by_cases e : o = a
      · subst e; omega
      · omega
    · rw [if_neg c1]
      by_cases e : o = a
      · subst e
        have hb : tr L o 2 < tr L b 2 ∨ (tr L o 2 = tr L b 2 ∧ o < b) := h
        rw [if_pos hb]
        have r := ih (o + 1) v w hv
        have mono : ∀ n o v w, v < w → gAh L b n o v < gAh L b n o w := by
          intro n
          induction n with
          | zero => intro o v w h; exact h
          | succ n ih2 =>
            intro o v w h
            unfold gAh
            split
            · exact ih2 (o + 1) _ _ (by omega)
            · exact ih2 (o + 1) _ _ h
        have m := mono n (o + 1) w (w + 1) (by omega)
        have r1 := r.1
        exact ⟨by omega, fun _ _ => by omega⟩
      · by_cases c2 : tr L o 2 < tr L b 2 ∨ (tr L o 2 = tr L b 2 ∧ o < b)
        · rw [if_pos c2]
          have r := ih (o + 1) v (w + 1) (by omega)
          exact ⟨r.1, fun h1 h2 => r.2 (by omega) (by omega)⟩
        · rw [if_neg c2]
          have r := ih (o + 1) v w hv
          exact ⟨r.1, fun h1 h2 => r.2 (by omega) (by omega)⟩
/-- the place of t -/
def gAt (L : Nat → Nat) (t : Nat) : Nat := gAh L t (L 1) 0 0
theorem gAt_lt {t : Nat} (ht : t < L 1) : gAt L t < L 1 := by
  have q := (gAh_le (L := L) (t := t) (L 1) 0 0).2 (by omega) (by omega)
  unfold gAt
  omega
theorem gAt_inj {a b : Nat} (ha : a < L 1) (hb : b < L 1) (h : gAt L a = gAt L b) : a = b := by
  unfold gAt at h
  by_cases c1 : kLt L a b
  · have := (gAh_lt c1 (L 1) 0 0 0 (Nat.le_refl _)).2 (by omega) (by omega); omega
  · by_cases c2 : kLt L b a
    · have := (gAh_lt c2 (L 1) 0 0 0 (Nat.le_refl _)).2 (by omega) (by omega); omega
    · unfold kLt at c1 c2; omega
theorem gO1_v {t a : Nat} (ha : a < 8) : ∀ n s (q : Nat → Nat) e, gO1 t a n s q e = if s ≤ e / 8 ∧ e / 8 < s + n ∧ e % 8 = a then t else q e := by
  intro n
  induction n with
  | zero => intro s q e; rw [if_neg (by omega)]; rfl
  | succ n ih =>
    intro s q e
    unfold gO1
    rw [ih (s + 1)]
    by_cases h : e = 8 * s + a
    · subst h
      rw [if_neg (by omega), if_pos (by omega), vu_s]
    · rw [vu_n h]
      by_cases h2 : s + 1 ≤ e / 8 ∧ e / 8 < s + 1 + n ∧ e % 8 = a
      · rw [if_pos h2, if_pos (by omega)]
      · rw [if_neg h2, if_neg (by omega)]
theorem xso1_v {t a : Nat} (ha : a < 8) : ∀ n s (A : Nat → Nat → Int32), s + n ≤ 8 → (∀ e, xso1 (nI t) (nI a) n s A 13 e = if s ≤ e / 8 ∧ e / 8 < s + n ∧ e % 8 = a then nI t else A 13 e) ∧ ∃ f, xso1 (nI t) (nI a) n s A = va_up A 13 f := by
  intro n
  induction n with
  | zero => intro s A _; exact ⟨fun e => by rw [if_neg (by omega)]; rfl, A 13, vu_id.symm⟩
  | succ n ih =>
    intro s A hs
    have r := ih (s + 1) (va_up A 13 (upd (A 13) (8 * m8 (nI s) + m8 (nI a)) (nI t))) (by omega)
    refine ⟨fun e => ?_, vu_ex ⟨_, rfl⟩ r.2⟩
    unfold xso1
    rw [r.1 e, vu_s, m8_nI (by omega), m8_nI ha]
    by_cases h : e = 8 * s + a
    · subst h
      rw [if_neg (by omega), if_pos (by omega), upd_s]
    · rw [upd_n h]
      by_cases h2 : s + 1 ≤ e / 8 ∧ e / 8 < s + 1 + n ∧ e % 8 = a
      · rw [if_pos h2, if_pos (by omega)]
      · rw [if_neg h2, if_neg (by omega)]
theorem bs_eq (hC : cR IF A L) (hL : lT L) {t : Nat} (ht : t < L 1) : ∀ n o v, o + n = L 1 → xbs A (nI t) (nI (tr L t 2)) n o (nI v) = nI (gAh L t n o v) := by
  have hB := hL.1.2.1
  intro n
  induction n with
  | zero => intro o v _; rfl
  | succ n ih =>
    intro o v ho
    have b1 := tr_31 hL ht (show 2 < 5 by omega)
    have b2 := tr_31 hL (show o < L 1 by omega) (show 2 < 5 by omega)
    unfold xbs gAh
    rw [xo_n hC hL (show o < L 1 by omega) (by omega) (w := 2) (z := 2) rfl]
    have i1 := nI_ltI (a := tr L o 2) (b := tr L t 2) (by omega) (by omega)
    have i2 := nI_eq (a := tr L o 2) (b := tr L t 2) (by omega) (by omega)
    have i3 := nI_ltI (a := o) (b := t) (by omega) (by omega)
    by_cases c : tr L o 2 < tr L t 2 ∨ (tr L o 2 = tr L t 2 ∧ o < t)
    · rw [if_pos c, if_pos (c.elim (fun z => Or.inl (i1.mpr z)) (fun z => Or.inr ⟨i2.mpr z.1, i3.mpr z.2⟩)), nI_1]
      exact ih (o + 1) _ (by omega)
    · rw [if_neg c, if_neg (fun z => c (z.elim (fun y => Or.inl (i1.mp y)) (fun y => Or.inr ⟨i2.mp y.1, i3.mp y.2⟩)))]
      exact ih (o + 1) _ (by omega)
theorem gOr_v (hL : lT L) : ∀ n t (q : Nat → Nat), t + n = L 1 → (∀ u, t ≤ u → u < L 1 → ∀ g, g < 7 → gOr L n t q (8 * g + gAt L u) = u) ∧ (∀ e, (∀ u, t ≤ u → u < L 1 → ¬ e % 8 = gAt L u) → gOr L n t q e = q e) := by
  have hB := hL.1.2.1
  intro n
  induction n with
  | zero => intro t q ht; exact ⟨fun u h1 h2 => absurd h1 (by omega), fun e _ => rfl⟩
  | succ n ih =>
    intro t q ht
    have at1 := gAt_lt (L := L) (show t < L 1 by omega)
    have r := ih (t + 1) (gO1 t (gAt L t) 7 0 q) (by omega)
    show (∀ u, t ≤ u → u < L 1 → ∀ g, g < 7 → gOr L n (t + 1) (gO1 t (gAt L t) 7 0 q) (8 * g + gAt L u) = u) ∧ (∀ e, (∀ u, t ≤ u → u < L 1 → ¬ e % 8 = gAt L u) → gOr L n (t + 1) (gO1 t (gAt L t) 7 0 q) e = q e)
    refine ⟨fun u h1 h2 g hg => ?_, fun e he => ?_⟩
    · by_cases c : u = t
      · subst c
        rw [r.2 _ (fun v h3 h4 z => by
          have := gAt_inj (L := L) (a := u) (b := v) (by omega) h4 (by omega)
          omega), gO1_v (by omega), if_pos (by omega)]
      · exact r.1 u (by omega) h2 g hg
    · rw [r.2 e (fun u h1 h2 => he u (by omega) h2), gO1_v (by omega), if_neg (fun z => he t (Nat.le_refl _) (by omega) z.2.2)]
theorem xso2_v (hL : lT L) : ∀ n t (A : Nat → Nat → Int32), t + n = L 1 → cR IF A L → (∀ u, t ≤ u → u < L 1 → ∀ g, g < L 0 - 1 → xso2 (L 0) (L 1) n t A 13 (8 * g + gAt L u) = nI u) ∧ (∀ e, (∀ u, t ≤ u → u < L 1 → ¬ e % 8 = gAt L u) → xso2 (L 0) (L 1) n t A 13 e = A 13 e) ∧ ∃ f, xso2 (L 0) (L 1) n t A = va_up A 13 f := by
  have hB := hL.1.2.1
  intro n
  induction n with
  | zero => intro t A ht _; exact ⟨fun u h1 h2 => absurd h1 (by omega), fun e _ => rfl, A 13, vu_id.symm⟩
  | succ n ih =>
    intro t A ht hC
    have at1 := gAt_lt (L := L) (show t < L 1 by omega)
    have e0 : xbs A (nI t) (xo A 8 (nI t) 2) (L 1) 0 0 = nI (gAt L t) := by
      rw [xo_n hC hL (show t < L 1 by omega) (by omega) (w := 2) (z := 2) rfl]
      exact bs_eq hC hL (show t < L 1 by omega) (L 1) 0 0 (by omega)
    have e1 : xso2 (L 0) (L 1) (n + 1) t A = xso2 (L 0) (L 1) n (t + 1) (xso1 (nI t) (xbs A (nI t) (xo A 8 (nI t) 2) (L 1) 0 0) (L 0 - 1) 0 A) := rfl
    rw [e0] at e1
    rw [e1]
    have x := xso1_v (t := t) (show gAt L t < 8 by omega) (L 0 - 1) 0 A (by omega)
    have hC1 : cR IF (xso1 (nI t) (nI (gAt L t)) (L 0 - 1) 0 A) L := by
      obtain ⟨f, e⟩ := x.2
      rw [e]
      exact cR_up hC (by decide) (by decide) (by decide)
    have r := ih (t + 1) _ (by omega) hC1
    refine ⟨fun u h1 h2 g hg => ?_, fun e he => ?_, vu_ex x.2 r.2.2⟩
    · by_cases c : u = t
      · subst c
        rw [r.2.1 _ (fun v h3 h4 z => by
          have := gAt_inj (L := L) (a := u) (b := v) (by omega) h4 (by omega)
          omega), x.1, if_pos (by omega)]
      · exact r.1 u (by omega) h2 g hg
    · rw [r.2.1 e (fun u h1 h2 => he u (by omega) h2), x.1, if_neg (fun z => he t (Nat.le_refl _) (by omega) z.2.2)]
theorem gAt_sur {i : Nat} (h : i < L 1) : ∃ t, t < L 1 ∧ gAt L t = i := inj_sur (M := L 1) (f := gAt L) (fun t ht => gAt_lt ht) (fun a b ha hb e => gAt_inj ha hb e) h
/-- sortByStart gives the reference's order -/
theorem so_v (hL : lT L) (hC : cR IF A L) : oR (xso2 (L 0) (L 1) (L 1) 0 A) 12 L (gOr L (L 1) 0 q) ∧ pOrd L (gOr L (L 1) 0 q) ∧ ∃ f, xso2 (L 0) (L 1) (L 1) 0 A = va_up A 13 f := by
  have hB := hL.1.2.1
  have x := xso2_v hL (L 1) 0 A (by omega) hC
  have y := (gOr_v hL (L 1) 0 q (by omega)).1
  have v : ∀ g, g < L 0 - 1 → ∀ i, i < L 1 → ∃ t, t < L 1 ∧ gAt L t = i ∧ gOr L (L 1) 0 q (8 * g + i) = t := fun g hg i hi => by
    obtain ⟨t, h1, h2⟩ := gAt_sur hi
    refine ⟨t, h1, h2, ?_⟩
    rw [← h2]
    exact y t (Nat.zero_le _) h1 g (by omega)
  refine ⟨fun g hg i hi => ?_, ⟨fun g hg i hi => ?_, fun g hg i j hi hj e => ?_, fun g hg t ht => ?_, fun s h0 h1 h2 i hi => ?_⟩, x.2.2⟩
  · obtain ⟨t, h1, h2, h3⟩ := v g hg i hi
    rw [h3]
    refine ⟨?_, by omega⟩
    rw [← h2]
    exact x.1 t (Nat.zero_le _) h1 g hg
  · obtain ⟨t, h1, h2, h3⟩ := v g hg i hi
    rw [h3]; exact h1
  · obtain ⟨t, h1, h2, h3⟩ := v g hg i hi
    obtain ⟨u, h4, h5, h6⟩ := v g hg j hj
    rw [h3, h6] at e
    rw [← h2, ← h5, e]
  · exact ⟨gAt L t, gAt_lt ht, y t (Nat.zero_le _) ht g (by omega)⟩
  · obtain ⟨t, h4, h5, h6⟩ := v s h1 i hi
    obtain ⟨u, h7, h8, h9⟩ := v (s - 1) (by omega) i hi
    rw [h6, h9]
    exact gAt_inj h4 h7 (h5.trans h8.symm)
end
