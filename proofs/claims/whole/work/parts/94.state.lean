/-! the state: what class and reference keep, in numbers -/
def pF (L : Nat → Nat) : Nat → Nat := fun e => if e < 64 ∧ e % 8 = tr L (e / 8) 0 then tr L (e / 8) 2 else 0
/-- right numbers: line L, orders p and pa, supplements ex, disturbances ey (k of them) -/
def Inv (L p pa ex ey : Nat → Nat) (k : Nat) : Prop := (lT L ∧ pOrd L p ∧ pOrd L pa) ∧ (∀ t g, t < L 1 → g < 7 → ex (8 * t + (g + 1) + 64) ≤ 9 ∧ (gD L t g = false → ex (8 * t + (g + 1) + 64) = 0)) ∧ (∀ t s, t < L 1 → s < 8 → ex (8 * t + s) = 0) ∧ (∀ t s b, t < L 1 → gE L t s b = true → ey (8 * t + s + cond b 64 0) ≤ 120 * k) ∧ k ≤ 20
/-- the class's part, but for its times -/
def cH (IF A : Nat → Nat → Int32) (L p pa ex ey : Nat → Nat) (k : Nat) : Prop := (cR IF A L ∧ cO A 12 L p ∧ cO A 15 L pa) ∧ (IF 18 5 = 1 ∧ IF 22 5 = 0 ∧ ((IF 25 5 = 0 ∧ ∀ e, 64 ≤ e → A 19 e = 0) ∧ A 27 = fun _ => 0) ∧ IF 0 8 = nI k) ∧ (∀ t s b, t < L 1 → gE L t s b = true → A 19 (8 * t + s + cond b 64 0) = nI (pF L (8 * t + s + cond b 64 0)) ∧ A 24 (8 * t + s + cond b 64 0) = nI (ey (8 * t + s + cond b 64 0)) ∧ A 27 (8 * t + s + cond b 64 0) = 0) ∧ (∀ t, t < L 1 → (∀ g, g < 7 → A 21 (8 * t + (g + 1) + 64) = nI (ex (8 * t + (g + 1) + 64))) ∧ ∀ s, s < 8 → A 21 (8 * t + s) = 0)
/-- the class's part -/
def cG (IF A : Nat → Nat → Int32) (L p pa ex ey : Nat → Nat) (k : Nat) : Prop := cH IF A L p pa ex ey k ∧ Sol L p (pF L) ex true (tn (A 20)) 256 ∧ Sol L pa (tn (A 20)) ey false (tn (A 23)) 256
/-- the reference's part -/
def mG (IF A : Nat → Nat → Int32) (L p pa ex ey : Nat → Nat) (k : Nat) : Prop := (A 33 = lf L ∧ A 36 = lf p ∧ A 37 = lf pa) ∧ (∀ t g, t < L 1 → g < 7 → A 35 (7 * t + g) = nI (ex (8 * t + (g + 1) + 64))) ∧ (∀ t s b, t < L 1 → gE L t s b = true → A (cond b 40 39) (8 * t + s) = nI (ey (8 * t + s + cond b 64 0))) ∧ IF 32 9 = nI k
section
variable {IF A : Nat → Nat → Int32} {L p pa ex ey : Nat → Nat} {k : Nat}
theorem pF_v {t s : Nat} {b : Bool} (ht : t < 8) (hs : s < 8) : pF L (8 * t + s + cond b 64 0) = if b = false ∧ s = tr L t 0 then tr L t 2 else 0 := by
  unfold pF
  cases b with
  | true => rw [if_neg (fun z => by have q : 8 * t + s + 64 < 64 := z.1; omega), if_neg (fun z => Bool.noConfusion z.1)]
  | false =>
    show (if 8 * t + s < 64 ∧ (8 * t + s) % 8 = tr L ((8 * t + s) / 8) 0 then tr L ((8 * t + s) / 8) 2 else 0) = _
    rw [show (8 * t + s) / 8 = t by omega, show (8 * t + s) % 8 = s by omega]
    by_cases q : s = tr L t 0
    · rw [if_pos ⟨by omega, q⟩, if_pos ⟨rfl, q⟩]
    · rw [if_neg (fun z => q z.2), if_neg (fun z => q z.2)]
theorem Inv_pl (h : Inv L p pa ex ey k) : plI L (pF L) ex := fun t s b ht hv => by
  have hL := h.1.1
  have hB := hL.1.2.1
  have ev := ev_s hL ht hv
  refine ⟨pF_v (by omega) ev.1, fun _ => h.2.2.1 t s ht ev.1, ?_⟩
  cases b with
  | true =>
    have s1 := ev.2.2.1 rfl
    have q := (h.2.1 t (s - 1) ht (by omega)).1
    rw [show s - 1 + 1 = s by omega] at q
    exact q
  | false =>
    have q := h.2.2.1 t s ht ev.1
    show ex (8 * t + s) ≤ 9
    omega
theorem Inv_ey (h : Inv L p pa ex ey k) {t s : Nat} {b : Bool} (ht : t < L 1) (hv : gE L t s b = true) : ey (8 * t + s + cond b 64 0) ≤ 2400 := by
  have q := h.2.2.2.1 t s b ht hv
  have q2 := h.2.2.2.2
  omega
theorem mV_of (h : Inv L p pa ex ey k) (hm : mG IF A L p pa ex ey k) : mV L p pa A := by
  have hL := h.1.1
  have hB := hL.1.2.1
  refine ⟨hm.1, hL.1.1, ⟨hL.2, hB.1, hB.2.1, hB.2.2.1⟩, fun g hg i hi => ?_, fun g hg i hi => ?_, fun c hc => ?_, fun t ht => ?_⟩
  · have := h.1.2.1.1 g hg i hi; omega
  · have := h.1.2.2.1 g hg i hi; omega
  · have q := hL.1.2.2.2.2.2.2 c hc
    unfold lkOk at q
    omega
  · have q := hL.1.2.2.2.2.2.1 t ht
    unfold trOk at q
    omega
theorem mIn_of (h : Inv L p pa ex ey k) (hm : mG IF A L p pa ex ey k) : mIn A L p pa (pF L) ex ey := by
  have hL := h.1.1
  have hB := hL.1.2.1
  refine ⟨hm.1, ⟨hL, h.1.2.1, h.1.2.2, Inv_pl h⟩, fun t s ht hv => ?_, fun t s b ht hv => ⟨hm.2.2.1 t s b ht hv, Inv_ey h ht hv⟩⟩
  have ev := ev_s hL ht hv
  have s1 := ev.2.2.1 rfl
  have q := hm.2.1 t (s - 1) ht (by omega)
  rw [show s - 1 + 1 = s by omega, show 7 * t + (s - 1) = 7 * t + s - 1 by omega] at q
  exact q
/-- what both have computed is the same -/
theorem gM_of (h : Inv L p pa ex ey k) (hc : cG IF A L p pa ex ey k) (hm : mG IF A L p pa ex ey k) : gM A (mLw L p pa A) 22 L ∧ (∀ c, c < L 2 → mLw L p pa A 46 c = zbo (gW L (tn (A 20)) false (tn (A 23)) c)) ∧ (∀ t s b, t < L 1 → gE L t s b = true → mLw L p pa A (cond b 40 39) (8 * t + s) = A 24 (8 * t + s + cond b 64 0)) := by
  have hL := h.1.1
  have r := ref_ac (mIn_of h hm) hc.2.1 hc.2.2
  refine ⟨fun t s b ht hv => ⟨⟨?_, ?_⟩, ?_, ?_⟩, r.2, fun t s b ht hv => ?_⟩
  · exact (r.1 t s b ht hv).1.trans (nI_tn _)
  · exact (r.1 t s b ht hv).2.trans (nI_tn _)
  · exact Nat.le_trans (pl_bd hL h.1.2.1 (Inv_pl h) hc.2.1 ht hv) (Nat.le_of_ble_eq_true rfl)
  · exact ac_bd hL h.1.2.2 (ac_eB hL h.1.2.1 (Inv_pl h) hc.2.1 (fun t s b ht hv => Inv_ey h ht hv)) hc.2.2 ht hv
  · rw [mLw_o (by cases b <;> decide), hm.2.2.1 t s b ht hv, (hc.1.2.2.1 t s b ht hv).2.1]
theorem pl_of (h : Inv L p pa ex ey k) (hc : cG IF A L p pa ex ey k) (hm : mG IF A L p pa ex ey k) {t s : Nat} {b : Bool} (ht : t < L 1) (hv : gE L t s b = true) : mLy false L p (L 0) 0 A (cond b 43 42) (8 * t + s) = A 20 (8 * t + s + cond b 64 0) := (ref_pl (mIn_of h hm) hc.2.1 ht hv).trans (nI_tn _)
theorem cH_up (h : cH IF A L p pa ex ey k) {m : Nat} {f : Nat → Int32} (hm : m = 20 ∨ m = 23 ∨ m = 26 ∨ (28 ≤ m)) : cH IF (va_up A m f) L p pa ex ey k := by
  have n : ∀ j, j = 9 ∨ j = 10 ∨ j = 11 ∨ j = 13 ∨ j = 14 ∨ j = 16 ∨ j = 17 ∨ j = 19 ∨ j = 21 ∨ j = 24 ∨ j = 27 → ¬ j = m := fun j hj => by omega
  refine ⟨⟨cR_up h.1.1 (n 9 (by omega)) (n 10 (by omega)) (n 11 (by omega)), cO_up h.1.2.1 (n 13 (by omega)) (n 14 (by omega)), cO_up h.1.2.2 (n 16 (by omega)) (n 17 (by omega))⟩, ⟨h.2.1.1, h.2.1.2.1, ⟨⟨h.2.1.2.2.1.1.1, fun e he => by rw [vu_n (n 19 (by omega))]; exact h.2.1.2.2.1.1.2 e he⟩, (vu_n (n 27 (by omega))).trans h.2.1.2.2.1.2⟩, h.2.1.2.2.2⟩, fun t s b ht hv => ?_, fun t ht => ?_⟩
  · rw [vu_n (n 19 (by omega)), vu_n (n 24 (by omega)), vu_n (n 27 (by omega))]
    exact h.2.2.1 t s b ht hv
  · rw [vu_n (n 21 (by omega))]
    exact h.2.2.2 t ht
/-- compute, for the plan -/
theorem cp_v (h : Inv L p pa ex ey k) {kc : Nat} (hc : cH IF A L p pa ex ey kc) : Sol L p (pF L) ex true (tn (xCo IF 18 (L 2) (L 1) (L 0) 0 A 20)) 256 ∧ ∃ f, xCo IF 18 (L 2) (L 1) (L 0) 0 A = va_up A 20 f := by
  have hL := h.1.1
  have hB := hL.1.2.1
  refine compute_sol (r := 18) (p := p) (fl := pF L) (ex := ex) (pl := true) (Or.inl rfl) ⟨⟨hc.1.1, hc.1.2.1, fun t s b ht hv => ⟨(hc.2.2.1 t s b ht hv).1, ?_⟩, hc.2.1.1⟩, hL, h.1.2.1, eB_9 (plI_9 hL (Inv_pl h)) (by omega)⟩
  have ev := ev_s hL ht hv
  cases b with
  | true =>
    have s1 := ev.2.2.1 rfl
    have q := (hc.2.2.2 t ht).1 (s - 1) (by omega)
    rw [show s - 1 + 1 = s by omega] at q
    exact q
  | false =>
    have q := (hc.2.2.2 t ht).2 s ev.1
    have q2 := h.2.2.1 t s ht ev.1
    show A 21 (8 * t + s) = nI (ex (8 * t + s))
    rw [q, q2]
    exact nI_0.symm
/-- compute, for the actual times -/
theorem ca_v (h : Inv L p pa ex ey k) {kc : Nat} (hc : cH IF A L p pa ex ey kc) (hS : Sol L p (pF L) ex true (tn (A 20)) 256) : cG IF (xCo IF 22 (L 2) (L 1) (L 0) 0 A) L p pa ex ey kc ∧ ∃ f, xCo IF 22 (L 2) (L 1) (L 0) 0 A = va_up A 23 f := by
  have hL := h.1.1
  have x := compute_sol (r := 22) (p := pa) (fl := tn (A 20)) (ex := ey) (pl := false) (A := A) (IF := IF) (L := L) (Or.inr (Or.inl rfl)) ⟨⟨hc.1.1, hc.1.2.2, fun t s b ht hv => ⟨(nI_tn _).symm, (hc.2.2.1 t s b ht hv).2.1⟩, hc.2.1.2.1⟩, hL, h.1.2.2, ac_eB hL h.1.2.1 (Inv_pl h) hS (fun t s b ht hv => Inv_ey h ht hv)⟩
  obtain ⟨f, e⟩ := x.2
  have x1 := x.1
  rw [e] at x1 ⊢
  exact ⟨⟨cH_up (m := 23) hc (by omega), hS, x1⟩, f, rfl⟩
/-- both -/
theorem cc_v (h : Inv L p pa ex ey k) {kc : Nat} (hc : cH IF A L p pa ex ey kc) : cG IF (xCo IF 22 (L 2) (L 1) (L 0) 0 (xCo IF 18 (L 2) (L 1) (L 0) 0 A)) L p pa ex ey kc ∧ ∃ f g, xCo IF 22 (L 2) (L 1) (L 0) 0 (xCo IF 18 (L 2) (L 1) (L 0) 0 A) = va_up (va_up A 20 f) 23 g := by
  have x := cp_v h hc
  obtain ⟨f, e⟩ := x.2
  have x1 := x.1
  rw [e] at x1 ⊢
  have y := ca_v h (cH_up (f := f) (m := 20) hc (by omega)) x1
  obtain ⟨g, e2⟩ := y.2
  exact ⟨y.1, f, g, e2⟩
end
