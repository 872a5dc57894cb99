/-! class and reference: the orders -/
/-- b is directly behind a -/
def adj (q : Nat → Nat) (M a b g : Nat) : Prop := ∃ i, i + 1 < M ∧ q (8 * g + i) = a ∧ q (8 * g + (i + 1)) = b ∧ ∀ j, j < M → (q (8 * g + j) = a → j = i) ∧ (q (8 * g + j) = b → j = i + 1)
/-- the class's row of an order -/
def oR (A : Nat → Nat → Int32) (k : Nat) (L q : Nat → Nat) : Prop := ∀ g, g < L 0 - 1 → ∀ i, i < L 1 → A (k + 1) (8 * g + i) = nI (q (8 * g + i)) ∧ q (8 * g + i) < 8
section
variable {IF A : Nat → Nat → Int32} {L p q : Nat → Nat} {k : Nat}
theorem oR_c (hL : lT L) (hO : cO A k L p) (hp : pOrd L p) : oR A k L p := fun g hg i hi => ⟨hO.1 g hg i hi, by have := hp.1 g hg i hi; have := hL.1.2.1; omega⟩
theorem xib_s (hL : lT L) (hO : oR A k L q) {s a b : Nat} (hs : s < L 0 - 1) (ha : a < 8) (hb : b < 8) {n i : Nat} (hi : i + 1 < L 1) : xib A k (nI s) (nI a) (nI b) (n + 1) i = if q (8 * s + i) = a ∧ q (8 * s + (i + 1)) = b then nI i else xib A k (nI s) (nI a) (nI b) n (i + 1) := by
  have hB := hL.1.2.1
  have o1 := hO s hs i (by omega)
  have o2 := hO s hs (i + 1) hi
  have e : xib A k (nI s) (nI a) (nI b) (n + 1) i = if A (k + 1) (8 * m8 (nI s) + m8 (nI i)) = nI a ∧ A (k + 1) (8 * m8 (nI s) + m8 (nI i + 1)) = nI b then nI i else xib A k (nI s) (nI a) (nI b) n (i + 1) := rfl
  rw [e, m8_nI (by omega), m8_nI (by omega), nI_1, m8_nI (by omega), o1.1, o2.1]
  by_cases w : q (8 * s + i) = a ∧ q (8 * s + (i + 1)) = b
  · rw [if_pos w, if_pos ⟨congrArg nI w.1, congrArg nI w.2⟩]
  · rw [if_neg w, if_neg (fun z => w ⟨(nI_eq (by omega) (by omega)).mp z.1, (nI_eq (by omega) (by omega)).mp z.2⟩)]
theorem xib_y (hL : lT L) (hO : oR A k L q) {s a b i : Nat} (hs : s < L 0 - 1) (ha : a < 8) (hb : b < 8) (h1 : q (8 * s + i) = a) (h2 : q (8 * s + (i + 1)) = b) (hu : ∀ j, j < L 1 → q (8 * s + j) = a → j = i) : ∀ n j, j + n + 1 = L 1 → j ≤ i → i < j + n → xib A k (nI s) (nI a) (nI b) n j = nI i := by
  intro n
  induction n with
  | zero => intro j _ _ _; omega
  | succ n ih =>
    intro j hj hji hin
    rw [xib_s hL hO hs ha hb (by omega)]
    by_cases e : j = i
    · subst e
      rw [if_pos ⟨h1, h2⟩]
    · rw [if_neg (fun z => e (hu j (by omega) z.1))]
      exact ih (j + 1) (by omega) (by omega) (by omega)
theorem xib_no (hL : lT L) (hO : oR A k L q) {s a b : Nat} (hs : s < L 0 - 1) (ha : a < 8) (hb : b < 8) (hn : ∀ j, j + 1 < L 1 → ¬ (q (8 * s + j) = a ∧ q (8 * s + (j + 1)) = b)) : ∀ n j, j + n + 1 = L 1 → xib A k (nI s) (nI a) (nI b) n j = -1 := by
  intro n
  induction n with
  | zero => intro j _; rfl
  | succ n ih =>
    intro j hj
    rw [xib_s hL hO hs ha hb (by omega), if_neg (hn j (by omega))]
    exact ih (j + 1) (by omega)
theorem adj_of (hp : pOrd L p) {g a b : Nat} (hg : g < L 0 - 1) (ha : a < L 1) (h : gPos p g a (L 1) 0 + 1 < L 1 ∧ p (8 * g + gPos p g a (L 1) 0 + 1) = b) : adj p (L 1) a b g := by
  have q := gQ_p hp hg ha
  have q2 : p (8 * g + gPos p g a (L 1) 0) = a := q.2
  refine ⟨gPos p g a (L 1) 0, h.1, q2, h.2, fun j hj => ⟨fun e => hp.2.1 g hg j _ hj (by omega) (e.trans q2.symm), fun e => hp.2.1 g hg j (gPos p g a (L 1) 0 + 1) hj h.1 (e.trans h.2.symm)⟩⟩
theorem adj_ib (hL : lT L) (hO : oR A k L q) {s a b : Nat} (hs : s < L 0 - 1) (ha : a < 8) (hb : b < 8) (h : adj q (L 1) a b s) : ∃ i, i + 1 < L 1 ∧ q (8 * s + i) = a ∧ q (8 * s + (i + 1)) = b ∧ (∀ j, j < L 1 → (q (8 * s + j) = a → j = i) ∧ (q (8 * s + j) = b → j = i + 1)) ∧ xib A k (nI s) (nI a) (nI b) (L 1 - 1) 0 = nI i := by
  obtain ⟨i, h1, h2, h3, h4⟩ := h
  exact ⟨i, h1, h2, h3, h4, xib_y hL hO hs ha hb h2 h3 (fun j hj e => (h4 j hj).1 e) (L 1 - 1) 0 (by omega) (by omega) (by omega)⟩
/-- canPass = mayOvertake -/
theorem cp_eq (hL : lT L) (hp : pOrd L p) (hO : oR A k L p) {a b : Nat} (ha : a < L 1) (hb : b < L 1) : ∀ n s, s + n = L 0 - 1 → xcp A k (L 1) (nI a) (nI b) n s = gMo p (L 1) a b n s := by
  have hB := hL.1.2.1
  intro n
  induction n with
  | zero => intro s _; rfl
  | succ n ih =>
    intro s hs
    unfold xcp gMo
    by_cases w : gPos p s a (L 1) 0 + 1 < L 1 ∧ p (8 * s + gPos p s a (L 1) 0 + 1) = b
    · obtain ⟨i, h1, _, _, _, e⟩ := adj_ib hL hO (show s < L 0 - 1 by omega) (show a < 8 by omega) (show b < 8 by omega) (adj_of hp (by omega) ha w)
      rw [e, if_neg (zne1 (by omega)), if_pos w]
      exact ih (s + 1) (by omega)
    · rw [if_neg w, if_pos (xib_no hL hO (show s < L 0 - 1 by omega) (by omega) (by omega) (fun j hj z => w (by
        have q := gQ_i hp (show s < L 0 - 1 by omega) (show j < L 1 by omega)
        rw [z.1] at q
        have q' : gPos p s a (L 1) 0 = j := q
        rw [q']
        exact ⟨hj, z.2⟩)) (L 1 - 1) 0 (by omega))]
theorem mo_adj (hp : pOrd L p) {a b : Nat} (ha : a < L 1) : ∀ n s, s + n ≤ L 0 - 1 → gMo p (L 1) a b n s = true → ∀ g, s ≤ g → g < s + n → adj p (L 1) a b g := by
  intro n
  induction n with
  | zero => intro s _ _ g h1 h2; omega
  | succ n ih =>
    intro s hs h g h1 h2
    unfold gMo at h
    by_cases w : gPos p s a (L 1) 0 + 1 < L 1 ∧ p (8 * s + gPos p s a (L 1) 0 + 1) = b
    · rw [if_pos w] at h
      by_cases e : g = s
      · subst e; exact adj_of hp (by omega) ha w
      · exact ih (s + 1) (by omega) h g (by omega) (by omega)
    · rw [if_neg w] at h; exact Bool.noConfusion h
theorem xp1_v (hL : lT L) (hO : oR A k L q) {s a b : Nat} (hs : s < L 0 - 1) (ha : a < 8) (hb : b < 8) (h : adj q (L 1) a b s) : oR (xp1 k (L 1) (nI a) (nI b) s A) k L (gC1 a b s (L 1) 0 q) ∧ ∃ f, xp1 k (L 1) (nI a) (nI b) s A = va_up A (k + 1) f := by
  have hB := hL.1.2.1
  obtain ⟨i, h1, h2, h3, h4, e⟩ := adj_ib hL hO hs ha hb h
  have hab : ¬ a = b := fun z => by
    have := (h4 i (by omega)).2 (h2.trans z)
    omega
  have e1 : xp1 k (L 1) (nI a) (nI b) s A = va_up A (k + 1) (upd (upd (A (k + 1)) (8 * s + i) (nI b)) (8 * s + (i + 1)) (nI a)) := by
    unfold xp1
    rw [e, if_neg (zne1 (by omega)), vu_s, vu_u, m8_nI (by omega), m8_nI (by omega), nI_1, m8_nI (by omega)]
  rw [e1]
  refine ⟨fun g hg j hj => ?_, _, rfl⟩
  rw [vu_s, gC1_v]
  have o := hO g hg j hj
  by_cases eg : g = s
  · subst eg
    rw [if_pos (by omega)]
    by_cases e2 : j = i + 1
    · subst e2
      rw [upd_s, h3, show gSw a b b = a by unfold gSw; rw [if_neg (fun z => hab z.symm), if_pos rfl]]
      exact ⟨rfl, ha⟩
    · rw [upd_n (by omega)]
      by_cases e3 : j = i
      · subst e3
        rw [upd_s, h2, show gSw a b a = b by unfold gSw; rw [if_pos rfl]]
        exact ⟨rfl, hb⟩
      · rw [upd_n (by omega), show gSw a b (q (8 * g + j)) = q (8 * g + j) by unfold gSw; rw [if_neg (fun z => e3 ((h4 j hj).1 z)), if_neg (fun z => e2 ((h4 j hj).2 z))]]
        exact o
  · rw [if_neg (by omega), upd_n (by omega), upd_n (by omega)]
    exact o
theorem xp2_v (hL : lT L) {a b : Nat} (ha : a < 8) (hb : b < 8) : ∀ n s (A : Nat → Nat → Int32) (q : Nat → Nat), s + n = L 0 - 1 → oR A k L q → (∀ g, s ≤ g → g < L 0 - 1 → adj q (L 1) a b g) → oR (xp2 k (L 1) (nI a) (nI b) n s A) k L (gC2 (L 1) a b n s q) ∧ ∃ f, xp2 k (L 1) (nI a) (nI b) n s A = va_up A (k + 1) f := by
  have hB := hL.1.2.1
  intro n
  induction n with
  | zero => intro s A q _ hO _; exact ⟨hO, A (k + 1), vu_id.symm⟩
  | succ n ih =>
    intro s A q hs hO h
    have st := xp1_v hL hO (show s < L 0 - 1 by omega) ha hb (h s (Nat.le_refl _) (by omega))
    have q2 := ih (s + 1) _ _ (by omega) st.1 (fun g h1 h2 => by
      obtain ⟨i, a1, a2, a3, a4⟩ := h g (by omega) h2
      have cg : ∀ j, j < L 1 → gC1 a b s (L 1) 0 q (8 * g + j) = q (8 * g + j) := fun j hj => by rw [gC1_v, if_neg (by omega)]
      exact ⟨i, a1, (cg i (by omega)).trans a2, (cg (i + 1) a1).trans a3, fun j hj => ⟨fun z => (a4 j hj).1 ((cg j hj).symm.trans z), fun z => (a4 j hj).2 ((cg j hj).symm.trans z)⟩⟩)
    exact ⟨q2.1, vu_ex st.2 q2.2⟩
/-- an overtaking keeps the orders right -/
theorem pOrd_ch (hL : lT L) (hp : pOrd L p) {a b s : Nat} (ha : a < L 1) (hb : b < L 1) (hk : L (5 + s) = 1) : pOrd L (gC2 (L 1) a b (L 0 - 1 - s) s p) := by
  have hB := hL.1.2.1
  have v : ∀ g, g < L 0 - 1 → ∀ j, j < L 1 → gC2 (L 1) a b (L 0 - 1 - s) s p (8 * g + j) = if s ≤ g then gSw a b (p (8 * g + j)) else p (8 * g + j) := fun g hg j hj => by
    rw [gC2_v (by omega)]
    by_cases w : s ≤ g
    · rw [if_pos (by omega), if_pos w]
    · rw [if_neg (by omega), if_neg w]
  refine ⟨fun g hg i hi => ?_, fun g hg i j hi hj e => ?_, fun g hg t ht => sur_ch (by omega) ha hb (fun a ha g hg => hp.2.2.1 g hg a ha) t ht g hg, fun s2 h0 h1 h2 i hi => ?_⟩
  · rw [v g hg i hi]
    split
    · exact gSw_lt ha hb (hp.1 g hg i hi)
    · exact hp.1 g hg i hi
  · rw [v g hg i hi, v g hg j hj] at e
    by_cases w : s ≤ g
    · rw [if_pos w, if_pos w] at e
      have e2 := congrArg (gSw a b) e
      rw [gSw_sw, gSw_sw] at e2
      exact hp.2.1 g hg i j hi hj e2
    · rw [if_neg w, if_neg w] at e
      exact hp.2.1 g hg i j hi hj e
  · rw [v s2 h1 i hi, v (s2 - 1) (by omega) i hi, hp.2.2.2 s2 h0 h1 h2 i hi]
    by_cases w : s ≤ s2 - 1
    · rw [if_pos (by omega), if_pos w]
    · have ne : ¬ s2 = s := fun z => h2 (by rw [z]; exact hk)
      rw [if_neg (by omega), if_neg w]
end
