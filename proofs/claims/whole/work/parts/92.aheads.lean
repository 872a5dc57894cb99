/-! the class: the trains ahead, the orders copied -/
section
variable {IF A : Nat → Nat → Int32} {L p q : Nat → Nat} {k : Nat}
theorem cR_up (h : cR IF A L) {m : Nat} {f : Nat → Int32} (h9 : ¬ 9 = m) (h10 : ¬ 10 = m) (h11 : ¬ 11 = m) : cR IF (va_up A m f) L := ⟨h.1, h.2.1, fun s hs => by rw [vu_n h9]; exact h.2.2.1 s hs, fun t ht w hw => by rw [vu_n h10]; exact h.2.2.2.1 t ht w hw, fun c hc w hw => by rw [vu_n h11]; exact h.2.2.2.2 c hc w hw⟩
theorem oR_up (h : oR A k L p) {m : Nat} {f : Nat → Int32} (hm : ¬ k + 1 = m) : oR (va_up A m f) k L p := fun g hg i hi => by rw [vu_n hm]; exact h g hg i hi
theorem kO_n (hk : kOk k) : (¬ 9 = k + 2 ∧ ¬ 10 = k + 2 ∧ ¬ 11 = k + 2) ∧ (¬ 9 = k + 1 ∧ ¬ 10 = k + 1 ∧ ¬ 11 = k + 1) := by
  rcases hk with rfl | rfl <;> decide
theorem xf1_v (hL : lT L) (hp : pOrd L p) (hk : kOk k) {s : Nat} (hs : s < L 0 - 1) : ∀ (n i : Nat) (A : Nat → Nat → Int32) (f : Option Nat), i + n = L 1 → cR IF A L → oR A k L p → (∀ j, i ≤ j → j < L 1 → xf1 k s n i A (oI f) (k + 2) (8 * s + p (8 * s + j)) = oI (gBl L p s (p (8 * s + j)) n i f)) ∧ (∀ e, (∀ j, i ≤ j → j < L 1 → ¬ e = 8 * s + p (8 * s + j)) → xf1 k s n i A (oI f) (k + 2) e = A (k + 2) e) ∧ ∃ g, xf1 k s n i A (oI f) = va_up A (k + 2) g := by
  have hB := hL.1.2.1
  intro n
  induction n with
  | zero => intro i A f hi _ _; exact ⟨fun j h1 h2 => absurd h1 (by omega), fun e _ => rfl, A (k + 2), vu_id.symm⟩
  | succ n ih =>
    intro i A f hi hC hO
    have hpi := hp.1 s hs i (by omega)
    have e0 : A (k + 1) (8 * m8 (nI s) + m8 (nI i)) = nI (p (8 * s + i)) := by
      rw [m8_nI (by omega), m8_nI (by omega)]
      exact (hO s hs i (by omega)).1
    have hC1 : cR IF (va_up A (k + 2) (upd (A (k + 2)) (8 * s + p (8 * s + i)) (oI f))) L := cR_up hC (kO_n hk).1.1 (kO_n hk).1.2.1 (kO_n hk).1.2.2
    have hO1 : oR (va_up A (k + 2) (upd (A (k + 2)) (8 * s + p (8 * s + i)) (oI f))) k L p := oR_up hO (by omega)
    have e1 : xf1 k s (n + 1) i A (oI f) = xf1 k s n (i + 1) (va_up A (k + 2) (upd (A (k + 2)) (8 * m8 (nI s) + m8 (A (k + 1) (8 * m8 (nI s) + m8 (nI i)))) (oI f))) (cond (xd (va_up A (k + 2) (upd (A (k + 2)) (8 * m8 (nI s) + m8 (A (k + 1) (8 * m8 (nI s) + m8 (nI i)))) (oI f))) 8 (A (k + 1) (8 * m8 (nI s) + m8 (nI i))) (nI s)) (A (k + 1) (8 * m8 (nI s) + m8 (nI i))) (oI f)) := rfl
    rw [e0, m8_nI (show s < 8 by omega), m8_nI (show p (8 * s + i) < 8 by omega), xd_n hC1 hL hpi (show s < 100 by omega)] at e1
    have e2 : (cond (gD L (p (8 * s + i)) s) (nI (p (8 * s + i))) (oI f) : Int32) = oI (cond (gD L (p (8 * s + i)) s) (some (p (8 * s + i))) f) := by
      cases gD L (p (8 * s + i)) s <;> rfl
    rw [e2] at e1
    rw [e1]
    have r := ih (i + 1) _ (cond (gD L (p (8 * s + i)) s) (some (p (8 * s + i))) f) (by omega) hC1 hO1
    refine ⟨fun j h1 h2 => ?_, fun e he => ?_, vu_ex ⟨_, rfl⟩ r.2.2⟩
    · by_cases ej : j = i
      · subst ej
        rw [r.2.1 _ (fun j2 h3 h4 z => by
          have z2 : p (8 * s + j) = p (8 * s + j2) := by omega
          have := hp.2.1 s hs j j2 h2 h4 z2
          omega), vu_s, upd_s]
        have e3 : gBl L p s (p (8 * s + j)) (n + 1) j f = f := if_pos rfl
        rw [e3]
      · rw [r.1 j (by omega) h2]
        have e3 : gBl L p s (p (8 * s + j)) (n + 1) i f = gBl L p s (p (8 * s + j)) n (i + 1) (cond (gD L (p (8 * s + i)) s) (some (p (8 * s + i))) f) := if_neg (fun z => ej (hp.2.1 s hs i j (by omega) h2 z).symm)
        rw [e3]
    · rw [r.2.1 e (fun j h1 h2 => he j (by omega) h2), vu_s, upd_n (he i (Nat.le_refl _) (by omega))]
theorem xf2_v (hL : lT L) (hp : pOrd L p) (hk : kOk k) : ∀ (n s : Nat) (A : Nat → Nat → Int32), s + n = L 0 - 1 → cR IF A L → oR A k L p → (∀ g, s ≤ g → g < L 0 - 1 → ∀ t, t < L 1 → xf2 k (L 1) n s A (k + 2) (8 * g + t) = oI (gB L p g t)) ∧ (∀ e, e < 8 * s → xf2 k (L 1) n s A (k + 2) e = A (k + 2) e) ∧ ∃ f, xf2 k (L 1) n s A = va_up A (k + 2) f := by
  have hB := hL.1.2.1
  intro n
  induction n with
  | zero => intro s A hs _ _; exact ⟨fun g h1 h2 => absurd h1 (by omega), fun e _ => rfl, A (k + 2), vu_id.symm⟩
  | succ n ih =>
    intro s A hs hC hO
    have r := xf1_v (IF := IF) hL hp hk (show s < L 0 - 1 by omega) (L 1) 0 A none (by omega) hC hO
    have r1 : ∀ j, 0 ≤ j → j < L 1 → xf1 k s (L 1) 0 A (-1) (k + 2) (8 * s + p (8 * s + j)) = oI (gBl L p s (p (8 * s + j)) (L 1) 0 none) := r.1
    have r2 : ∀ e, (∀ j, 0 ≤ j → j < L 1 → ¬ e = 8 * s + p (8 * s + j)) → xf1 k s (L 1) 0 A (-1) (k + 2) e = A (k + 2) e := r.2.1
    have r3 : ∃ g, xf1 k s (L 1) 0 A (-1) = va_up A (k + 2) g := r.2.2
    have hC1 : cR IF (xf1 k s (L 1) 0 A (-1)) L := by
      obtain ⟨g, e⟩ := r3
      rw [e]
      exact cR_up hC (kO_n hk).1.1 (kO_n hk).1.2.1 (kO_n hk).1.2.2
    have hO1 : oR (xf1 k s (L 1) 0 A (-1)) k L p := by
      obtain ⟨g, e⟩ := r3
      rw [e]
      exact oR_up hO (by omega)
    have w := ih (s + 1) _ (by omega) hC1 hO1
    show (∀ g, s ≤ g → g < L 0 - 1 → ∀ t, t < L 1 → xf2 k (L 1) n (s + 1) (xf1 k s (L 1) 0 A (-1)) (k + 2) (8 * g + t) = oI (gB L p g t)) ∧ (∀ e, e < 8 * s → xf2 k (L 1) n (s + 1) (xf1 k s (L 1) 0 A (-1)) (k + 2) e = A (k + 2) e) ∧ ∃ f, xf2 k (L 1) n (s + 1) (xf1 k s (L 1) 0 A (-1)) = va_up A (k + 2) f
    refine ⟨fun g h1 h2 t ht => ?_, fun e he => ?_, vu_ex r3 w.2.2⟩
    · by_cases eg : g = s
      · subst eg
        obtain ⟨j, hj, e⟩ := hp.2.2.1 g h2 t ht
        rw [w.2.1 _ (by omega)]
        have z := r1 j (by omega) hj
        rw [e] at z
        exact z
      · exact w.1 g (by omega) h2 t ht
    · rw [w.2.1 e (by omega), r2 e (fun j _ hj => by omega)]
/-- findAheads -/
theorem fA_v (hL : lT L) (hp : pOrd L p) (hk : kOk k) (hC : cR IF A L) (hO : oR A k L p) : cO (xf2 k (L 1) (L 0 - 1) 0 A) k L p ∧ ∃ f, xf2 k (L 1) (L 0 - 1) 0 A = va_up A (k + 2) f := by
  have w := xf2_v hL hp hk (L 0 - 1) 0 A (by omega) hC hO
  refine ⟨⟨fun g hg i hi => ?_, fun g hg t ht => w.1 g (Nat.zero_le _) hg t ht⟩, w.2.2⟩
  obtain ⟨f, e⟩ := w.2.2
  rw [e, vu_n (by omega)]
  exact (hO g hg i hi).1
/-- pass -/
theorem ps_v (hL : lT L) (hp : pOrd L p) (hk : kOk k) (hC : cR IF A L) (hO : cO A k L p) {a b s : Nat} (ha : a < L 1) (hb : b < L 1) (hs : s < L 0 - 1) (h1 : L (5 + s) = 1) (hm : gMo p (L 1) a b (L 0 - 1 - s) s = true) : cO (xf2 k (L 1) (L 0 - 1) 0 (xp2 k (L 1) (nI a) (nI b) (L 0 - 1 - s) s A)) k L (gC2 (L 1) a b (L 0 - 1 - s) s p) ∧ pOrd L (gC2 (L 1) a b (L 0 - 1 - s) s p) ∧ ∃ f g, xf2 k (L 1) (L 0 - 1) 0 (xp2 k (L 1) (nI a) (nI b) (L 0 - 1 - s) s A) = va_up (va_up A (k + 1) f) (k + 2) g := by
  have hB := hL.1.2.1
  have po := pOrd_ch hL hp ha hb h1
  have x := xp2_v (k := k) hL (show a < 8 by omega) (show b < 8 by omega) (L 0 - 1 - s) s A p (by omega) (oR_c hL hO hp) (fun g h2 h3 => mo_adj hp ha (L 0 - 1 - s) s (by omega) hm g h2 (by omega))
  obtain ⟨f, e⟩ := x.2
  have hC1 : cR IF (xp2 k (L 1) (nI a) (nI b) (L 0 - 1 - s) s A) L := by
    rw [e]
    exact cR_up hC (kO_n hk).2.1 (kO_n hk).2.2.1 (kO_n hk).2.2.2
  have y := fA_v hL po hk hC1 x.1
  obtain ⟨g, e2⟩ := y.2
  exact ⟨y.1, po, f, g, by rw [e2, e]⟩
theorem cO_up (h : cO A k L p) {m : Nat} {f : Nat → Int32} (h1 : ¬ k + 1 = m) (h2 : ¬ k + 2 = m) : cO (va_up A m f) k L p := ⟨fun g hg i hi => by rw [vu_n h1]; exact h.1 g hg i hi, fun g hg t ht => by rw [vu_n h2]; exact h.2 g hg t ht⟩
/-- copyFrom -/
theorem co_v (hL : lT L) (hO : cO A 12 L p) : cO (xcO A) 15 L p ∧ ∃ f g, xcO A = va_up (va_up A 16 f) 17 g := by
  have hB := hL.1.2.1
  refine ⟨⟨fun g hg i hi => ?_, fun g hg t ht => ?_⟩, _, _, rfl⟩
  · show va_cpy (A 13) (A 16) 0 0 64 (8 * g + i) = _
    rw [pk_cpy_in (by omega) (by omega), show 0 + (8 * g + i - 0) = 8 * g + i by omega]
    exact hO.1 g hg i hi
  · show va_cpy (A 14) (A 17) 0 0 64 (8 * g + t) = _
    rw [pk_cpy_in (by omega) (by omega), show 0 + (8 * g + t - 0) = 8 * g + t by omega]
    exact hO.2 g hg t ht
end
