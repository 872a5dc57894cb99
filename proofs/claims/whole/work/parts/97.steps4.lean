/-! the state: planned overtaking -/
section
variable {IF A : Nat → Nat → Int32} {L p pa ex ey : Nat → Nat} {k : Nat}
theorem pn_i (h : Inv L p pa ex ey k) {a b s : Nat} (ha : a < L 1) (hb : b < L 1) (h1 : L (5 + s) = 1) : Inv L (gC2 (L 1) a b (L 0 - 1 - s) s p) (pcp (gC2 (L 1) a b (L 0 - 1 - s) s p) pa) ex ey k := by
  have o := pOrd_ch h.1.1 h.1.2.1 ha hb h1
  exact ⟨⟨h.1.1, o, pOrd_cg o (pcp_e h.1.1)⟩, h.2⟩
theorem pn_c (h : Inv L p pa ex ey k) (hc : cG IF A L p pa ex ey k) {a b s : Nat} (ha : a < L 1) (hb : b < L 1) (hs : s < L 0 - 1) (h1 : L (5 + s) = 1) (hm : gMo p (L 1) a b (L 0 - 1 - s) s = true) : cG IF (xpl IF (L 2) (L 1) (L 0) s (nI a) (nI b) A) L (gC2 (L 1) a b (L 0 - 1 - s) s p) (pcp (gC2 (L 1) a b (L 0 - 1 - s) s p) pa) ex ey k ∧ ∀ j, (j < 9 ∨ 27 < j) → xpl IF (L 2) (L 1) (L 0) s (nI a) (nI b) A j = A j := by
  have x := ps_v (k := 12) h.1.1 h.1.2.1 (Or.inl rfl) hc.1.1.1 hc.1.1.2.1 ha hb hs h1 hm
  obtain ⟨x1, x2, f, g, e⟩ := x
  have c := co_v h.1.1 x1
  obtain ⟨c1, f3, g3, e3⟩ := c
  have cH1 : cH IF (xcO (xf2 12 (L 1) (L 0 - 1) 0 (xp2 12 (L 1) (nI a) (nI b) (L 0 - 1 - s) s A))) L (gC2 (L 1) a b (L 0 - 1 - s) s p) (pcp (gC2 (L 1) a b (L 0 - 1 - s) s p) pa) ex ey k := by
    have c2 := cO_cg c1 (pcp_e (pa := pa) h.1.1)
    rw [e3] at c2 ⊢
    have x3 : cO (va_up (va_up (xf2 12 (L 1) (L 0 - 1) 0 (xp2 12 (L 1) (nI a) (nI b) (L 0 - 1 - s) s A)) 16 f3) 17 g3) 12 L (gC2 (L 1) a b (L 0 - 1 - s) s p) := cO_fr x1 rfl rfl
    rw [e] at c2 x3 ⊢
    exact ⟨⟨cR_fr hc.1.1.1 rfl rfl rfl rfl, x3, c2⟩, hc.1.2.1, hc.1.2.2.1, hc.1.2.2.2⟩
  have y := cc_v (pn_i h ha hb h1) cH1
  refine ⟨y.1, fun j hj => ?_⟩
  obtain ⟨f4, g4, e4⟩ := y.2
  unfold xpl
  rw [e4, e3, e, vu_n (by omega), vu_n (by omega), vu_n (by omega), vu_n (by omega), vu_n (by omega), vu_n (by omega)]
theorem pn_m (hm : mG IF A L p pa ex ey k) {a b s : Nat} : mG IF (mPl L p s a b A) L (gC2 (L 1) a b (L 0 - 1 - s) s p) (pcp (gC2 (L 1) a b (L 0 - 1 - s) s p) pa) ex ey k := by
  have e : mPl L p s a b A 37 = lf (pcp (gC2 (L 1) a b (L 0 - 1 - s) s p) pa) := by
    show cp 56 (lf (gC2 (L 1) a b (L 0 - 1 - s) s p)) (A 37) = _
    rw [hm.1.2.2, cp_lf]
  refine ⟨⟨hm.1.1, rfl, e⟩, hm.2.1, fun t s2 b2 ht hv => ?_, hm.2.2.2⟩
  have q := hm.2.2.1 t s2 b2 ht hv
  cases b2 <;> exact q
end
