/-! the state: orders copied, overtaking -/
/-- the first seven segments copied -/
def pcp (p pa : Nat → Nat) : Nat → Nat := fun e => if e < 56 then p e else pa e
theorem cp_lf {p pa : Nat → Nat} : cp 56 (lf p) (lf pa) = lf (pcp p pa) := by
  funext e
  show (if e < 56 then nI (p e) else nI (pa e)) = nI (if e < 56 then p e else pa e)
  split <;> rfl
section
variable {IF IG A B : Nat → Nat → Int32} {L p q pa ex ey : Nat → Nat} {k : Nat}
theorem gBl_cg {g t : Nat} : ∀ (n i : Nat) (f : Option Nat), (∀ j, i ≤ j → j < i + n → p (8 * g + j) = q (8 * g + j)) → gBl L p g t n i f = gBl L q g t n i f := by
  intro n
  induction n with
  | zero => intro i f _; rfl
  | succ n ih =>
    intro i f h
    unfold gBl
    rw [h i (Nat.le_refl _) (by omega), ih (i + 1) _ (fun j h1 h2 => h j (by omega) (by omega))]
theorem cO_cg {m : Nat} (h : cO A m L p) (e : ∀ g, g < L 0 - 1 → ∀ i, i < L 1 → p (8 * g + i) = q (8 * g + i)) : cO A m L q := by
  refine ⟨fun g hg i hi => by rw [← e g hg i hi]; exact h.1 g hg i hi, fun g hg t ht => ?_⟩
  have c : gB L p g t = gB L q g t := gBl_cg (L 1) 0 none (fun j _ hj => e g hg j (by omega))
  rw [← c]
  exact h.2 g hg t ht
theorem pOrd_cg (h : pOrd L p) (e : ∀ g, g < L 0 - 1 → ∀ i, i < L 1 → p (8 * g + i) = q (8 * g + i)) : pOrd L q := by
  refine ⟨fun g hg i hi => ?_, fun g hg i j hi hj z => ?_, fun g hg t ht => ?_, fun s h0 h1 h2 i hi => ?_⟩
  · rw [← e g hg i hi]; exact h.1 g hg i hi
  · rw [← e g hg i hi, ← e g hg j hj] at z; exact h.2.1 g hg i j hi hj z
  · obtain ⟨i, hi, z⟩ := h.2.2.1 g hg t ht
    exact ⟨i, hi, (e g hg i hi).symm.trans z⟩
  · rw [← e s h1 i hi, ← e (s - 1) (by omega) i hi]; exact h.2.2.2 s h0 h1 h2 i hi
theorem pcp_e (hL : lT L) : ∀ g, g < L 0 - 1 → ∀ i, i < L 1 → p (8 * g + i) = pcp p pa (8 * g + i) := fun g hg i hi => by
  have hB := hL.1.2.1
  unfold pcp
  rw [if_pos (by omega)]
/-- overtake -/
theorem ov_i (h : Inv L p pa ex ey k) {a b s : Nat} (ha : a < L 1) (hb : b < L 1) (h1 : L (5 + s) = 1) : Inv L p (gC2 (L 1) a b (L 0 - 1 - s) s pa) ex ey k := ⟨⟨h.1.1, h.1.2.1, pOrd_ch h.1.1 h.1.2.2 ha hb h1⟩, h.2⟩
theorem ov_c (h : Inv L p pa ex ey k) (hc : cG IF A L p pa ex ey k) {a b s : Nat} (ha : a < L 1) (hb : b < L 1) (hs : s < L 0 - 1) (h1 : L (5 + s) = 1) (hm : gMo pa (L 1) a b (L 0 - 1 - s) s = true) : cG IF (xov IF (L 2) (L 1) (L 0) s (nI a) (nI b) A) L p (gC2 (L 1) a b (L 0 - 1 - s) s pa) ex ey k ∧ ∀ j, (j < 9 ∨ 27 < j) → xov IF (L 2) (L 1) (L 0) s (nI a) (nI b) A j = A j := by
  have x := ps_v (k := 15) h.1.1 h.1.2.2 (Or.inr rfl) hc.1.1.1 hc.1.1.2.2 ha hb hs h1 hm
  obtain ⟨x1, x2, f, g, e⟩ := x
  have cH1 : cH IF (va_up (va_up A (15 + 1) f) (15 + 2) g) L p (gC2 (L 1) a b (L 0 - 1 - s) s pa) ex ey k := by
    rw [e] at x1
    exact ⟨⟨cR_fr hc.1.1.1 rfl rfl rfl rfl, cO_fr hc.1.1.2.1 rfl rfl, x1⟩, hc.1.2.1, hc.1.2.2.1, hc.1.2.2.2⟩
  have y := ca_v (ov_i h ha hb h1) cH1 hc.2.1
  unfold xov
  rw [e]
  refine ⟨y.1, fun j hj => ?_⟩
  obtain ⟨f2, e2⟩ := y.2
  rw [e2, vu_n (by omega), vu_n (by omega), vu_n (by omega)]
theorem ov_m (hm : mG IF A L p pa ex ey k) : mG IF (va_up A 37 (lf q)) L p q ex ey k := ⟨⟨hm.1.1, hm.1.2.1, rfl⟩, hm.2.1, fun t s b ht hv => by rw [vu_n (by cases b <;> decide)]; exact hm.2.2.1 t s b ht hv, hm.2.2.2⟩
end
