/-! class and reference: the best overtaking -/
section
variable {IF IG A B A0 B0 : Nat → Nat → Int32} {L p pa ex ey : Nat → Nat} {k : Nat} {z : Bool}
theorem gM2 (h : Inv L p pa ex ey k) (hc : cG IF A L p pa ex ey k) (hm : mG IG B L p pa ex ey k) : gM A (mLw L p pa B) 22 L := by
  have hL := h.1.1
  have r := ref_ac (mIn_of h hm) hc.2.1 hc.2.2
  refine fun t s b ht hv => ⟨⟨?_, ?_⟩, ?_, ?_⟩
  · exact (r.1 t s b ht hv).1.trans (nI_tn _)
  · exact (r.1 t s b ht hv).2.trans (nI_tn _)
  · exact Nat.le_trans (pl_bd hL h.1.2.1 (Inv_pl h) hc.2.1 ht hv) (Nat.le_of_ble_eq_true rfl)
  · exact ac_bd hL h.1.2.2 (ac_eB hL h.1.2.1 (Inv_pl h) hc.2.1 (fun t s b ht hv => Inv_ey h ht hv)) hc.2.2 ht hv
theorem mds_nn (hn : ∀ t s, t < L 1 → gA L t s = true → ∃ w, w ≤ 1000000 ∧ B 45 (8 * t + s) - B 43 (8 * t + s) = nI w) {t : Nat} (ht : t < L 1) : ∀ n s v, ∃ w, w ≤ v + 1000000 * n ∧ mds B L t n s (nI v) = nI w := by
  intro n
  induction n with
  | zero => intro s v; exact ⟨v, by omega, rfl⟩
  | succ n ih =>
    intro s v
    have e : mds B L t (n + 1) s (nI v) = mds B L t n (s + 1) (nI v + cond (gA L t s) (B 45 (8 * t + s) - B 43 (8 * t + s)) 0) := rfl
    rw [e]
    cases hg : gA L t s with
    | true =>
      obtain ⟨w, hw, ew⟩ := hn t s ht hg
      show ∃ w, _ ∧ mds B L t n (s + 1) (nI v + (B 45 (8 * t + s) - B 43 (8 * t + s))) = nI w
      rw [ew, nI_add]
      obtain ⟨w2, hw2, e2⟩ := ih (s + 1) (v + w)
      exact ⟨w2, by omega, e2⟩
    | false =>
      show ∃ w, _ ∧ mds B L t n (s + 1) (nI v + 0) = nI w
      rw [Int32.add_zero]
      obtain ⟨w2, hw2, e2⟩ := ih (s + 1) v
      exact ⟨w2, by omega, e2⟩
theorem mds2_nn (hL : lT L) (hn : ∀ t s, t < L 1 → gA L t s = true → ∃ w, w ≤ 1000000 ∧ B 45 (8 * t + s) - B 43 (8 * t + s) = nI w) : ∀ n t v, t + n = L 1 → ∃ w, w ≤ v + 8000000 * n ∧ mds2 B L n t (nI v) = nI w := by
  have hB := hL.1.2.1
  intro n
  induction n with
  | zero => intro t v _; exact ⟨v, by omega, rfl⟩
  | succ n ih =>
    intro t v ht
    have e : mds2 B L (n + 1) t (nI v) = mds2 B L n (t + 1) (mds B L t (L 0) 0 (nI v)) := rfl
    rw [e]
    obtain ⟨w, hw, ew⟩ := mds_nn hn (show t < L 1 by omega) (L 0) 0 v
    rw [ew]
    obtain ⟨w2, hw2, e2⟩ := ih (t + 1) w (by omega)
    exact ⟨w2, by omega, e2⟩
theorem nn2 (h : Inv L p pa ex ey k) (hc : cG IF A L p pa ex ey k) (hm : mG IG B L p pa ex ey k) : ∃ w, w ≤ 64000000 ∧ mds2 (mLw L p pa B) L (L 1) 0 0 = nI w := by
  have hL := h.1.1
  have hB := hL.1.2.1
  have g := gM2 h hc hm
  have hn : ∀ t s, t < L 1 → gA L t s = true → ∃ w, w ≤ 1000000 ∧ mLw L p pa B 45 (8 * t + s) - mLw L p pa B 43 (8 * t + s) = nI w := fun t s ht hv => by
    have q := g t s true ht hv
    have f := Sol_fl (b := true) hL h.1.2.2 hc.2.2 ht hv
    refine ⟨tn (A 23) (8 * t + s + 64) - tn (A 20) (8 * t + s + 64), Nat.le_trans (Nat.sub_le _ _) q.2.2, ?_⟩
    rw [show mLw L p pa B 45 (8 * t + s) = A 23 (8 * t + s + 64) from q.1.2, show mLw L p pa B 43 (8 * t + s) = A 20 (8 * t + s + 64) from q.1.1, ← nI_tn (A 23 (8 * t + s + 64)), ← nI_tn (A 20 (8 * t + s + 64))]
    exact pk_sub f
  obtain ⟨w, hw, e⟩ := mds2_nn (B := mLw L p pa B) hL hn (L 1) 0 0 (by omega)
  exact ⟨w, by omega, by rw [← nI_0]; exact e⟩
/-- what the search keeps: the class, the reference, the overtaking found -/
def bK (IF A0 A : Nat → Nat → Int32) (L p pa ex ey : Nat → Nat) (k : Nat) : Prop := cH IF A L p pa ex ey k ∧ Sol L p (pF L) ex true (tn (A 20)) 256 ∧ ∀ j, ¬ j = 16 → ¬ j = 17 → ¬ j = 23 → A j = A0 j
def bM (IG B0 B : Nat → Nat → Int32) (L p pa ex ey : Nat → Nat) (k : Nat) : Prop := mG IG B L p pa ex ey k ∧ ∀ j, j < 42 → B j = B0 j
def bV (z : Bool) (L pa : Nat → Nat) (u : Int32 × Int32) : Prop := (u.2 = -1 ∨ ∃ s a b, s < L 0 - 1 ∧ a < L 1 ∧ b < L 1 ∧ mbC L pa s a b = true ∧ u.2 = nI (100 * s + 10 * a + b)) ∧ (z = true → u = (0, -1))
def bT (z : Bool) (IF A0 IG B0 : Nat → Nat → Int32) (L p pa ex ey : Nat → Nat) (k : Nat) (σ τ : zB) : Prop := bK IF A0 σ.1 L p pa ex ey k ∧ bM IG B0 τ.1 L p pa ex ey k ∧ σ.2 = τ.2 ∧ bV z L pa σ.2 ∧ ∃ w, w ≤ 64000000 ∧ σ.2.1 = nI w
theorem gC2_sym {M a b n g : Nat} (hM : M ≤ 8) {q : Nat → Nat} : gC2 M b a n g q = gC2 M a b n g q := by
  funext e
  rw [gC2_v hM, gC2_v hM]
  split
  · unfold gSw
    by_cases h1 : q e = a
    · by_cases h2 : q e = b
      · rw [if_pos h2, if_pos h1, ← h1, ← h2]
      · rw [if_neg h2, if_pos h1, if_pos h1]
    · by_cases h2 : q e = b
      · rw [if_pos h2, if_neg h1, if_pos h2]
      · rw [if_neg h2, if_neg h1, if_neg h1, if_neg h2]
  · rfl
theorem adj_ch (hL : lT L) {a b s g : Nat} (hab : ¬ a = b) (hs : s ≤ g) (hg : g < L 0 - 1) (h : adj pa (L 1) a b g) : adj (gC2 (L 1) a b (L 0 - 1 - s) s pa) (L 1) b a g := by
  have hB := hL.1.2.1
  obtain ⟨i, hi, h1, h2, hu⟩ := h
  have v : ∀ j, j < L 1 → gC2 (L 1) a b (L 0 - 1 - s) s pa (8 * g + j) = gSw a b (pa (8 * g + j)) := fun j hj => by
    rw [gC2_v (by omega), if_pos ⟨by omega, by omega, by omega⟩]
  refine ⟨i, hi, ?_, ?_, fun j hj => ?_⟩
  · rw [v i (by omega), h1]
    exact if_pos rfl
  · rw [v (i + 1) hi, h2]
    unfold gSw
    rw [if_neg (fun z => hab z.symm), if_pos rfl]
  · rw [v j hj]
    unfold gSw
    refine ⟨fun z => ?_, fun z => ?_⟩
    · by_cases q1 : pa (8 * g + j) = a
      · exact (hu j hj).1 q1
      · rw [if_neg q1] at z
        by_cases q2 : pa (8 * g + j) = b
        · rw [if_pos q2] at z
          exact absurd z hab
        · rw [if_neg q2] at z
          exact absurd z q2
    · by_cases q1 : pa (8 * g + j) = a
      · rw [if_pos q1] at z
        exact absurd z.symm hab
      · rw [if_neg q1] at z
        by_cases q2 : pa (8 * g + j) = b
        · exact (hu j hj).2 q2
        · rw [if_neg q2] at z
          exact absurd z q1
theorem adj_ab {a b g : Nat} (hp : pOrd L pa) (hg : g < L 0 - 1) (h : adj pa (L 1) a b g) : ¬ a = b := fun e => by
  obtain ⟨i, hi, h1, h2, hu⟩ := h
  have := hp.2.1 g hg i (i + 1) (by omega) hi (by rw [h1, h2, e])
  omega
/-- one try -/
theorem bf_1 (h : Inv L p pa ex ey k) {s a b : Nat} (hs : s < L 0 - 1) (ha : a < L 1) (hb : b < L 1) {σ τ : zB} (hT : bT z IF A0 IG B0 L p pa ex ey k σ τ) : bT z IF A0 IG B0 L p pa ex ey k (xb1 IF (L 2) (L 1) (L 0) s a b σ) (mb1 L p pa s a b τ) := by
  have hL := h.1.1
  have hB := hL.1.2.1
  have hp := h.1.2.2
  obtain ⟨hK, hM, hE, hV, w, hw, ew⟩ := hT
  have hR := hK.1.1.1
  have e : (xs IF 8 (nI s) && xcp σ.1 15 (L 1) (nI a) (nI b) (L 0 - 1 - s) s) = mbC L pa s a b := ov_gt (m := 15) hL hp hR hK.1.1.2.2 hs ha hb
  unfold xb1 mb1
  rw [e]
  cases hg : mbC L pa s a b with
  | false => exact ⟨hK, hM, hE, hV, w, hw, ew⟩
  | true =>
    obtain ⟨h5, hm⟩ := ov_gs hL (by omega) hg
    have hadj := mo_adj hp ha (L 0 - 1 - s) s (by omega) hm
    have hab : ¬ a = b := adj_ab hp hs (hadj s (Nat.le_refl _) (by omega))
    have i2 := ov_i h ha hb h5
    obtain ⟨x1, x2, f1, g1, e1⟩ := ps_v (k := 15) hL hp (Or.inr rfl) hR hK.1.1.2.2 ha hb hs h5 hm
    show bT z IF A0 IG B0 L p pa ex ey k (xf2 15 (L 1) (L 0 - 1) 0 (xp2 15 (L 1) (nI b) (nI a) (L 0 - 1 - s) s (xCo IF 22 (L 2) (L 1) (L 0) 0 (xf2 15 (L 1) (L 0 - 1) 0 (xp2 15 (L 1) (nI a) (nI b) (L 0 - 1 - s) s σ.1)))), if σ.2.1 ≤ xsd2 (xCo IF 22 (L 2) (L 1) (L 0) 0 (xf2 15 (L 1) (L 0 - 1) 0 (xp2 15 (L 1) (nI a) (nI b) (L 0 - 1 - s) s σ.1))) 22 (L 0) (L 1) 0 0 then σ.2 else (xsd2 (xCo IF 22 (L 2) (L 1) (L 0) 0 (xf2 15 (L 1) (L 0 - 1) 0 (xp2 15 (L 1) (nI a) (nI b) (L 0 - 1 - s) s σ.1))) 22 (L 0) (L 1) 0 0, 100 * nI s + 10 * nI a + nI b)) (if mds2 (mbA L p pa s a b τ.1) L (L 1) 0 0 < τ.2.1 then (va_up (mbA L p pa s a b τ.1) 37 (lf pa), mds2 (mbA L p pa s a b τ.1) L (L 1) 0 0, 100 * nI s + 10 * nI a + nI b) else (va_up (mbA L p pa s a b τ.1) 37 (lf pa), τ.2))
    generalize xf2 15 (L 1) (L 0 - 1) 0 (xp2 15 (L 1) (nI a) (nI b) (L 0 - 1 - s) s σ.1) = A1 at x1 e1 ⊢
    have cH1 : cH IF A1 L p (gC2 (L 1) a b (L 0 - 1 - s) s pa) ex ey k := by
      rw [e1] at x1 ⊢
      exact ⟨⟨cR_fr hR rfl rfl rfl rfl, cO_fr hK.1.1.2.1 rfl rfl, x1⟩, hK.1.2.1, hK.1.2.2.1, hK.1.2.2.2⟩
    have S1 : Sol L p (pF L) ex true (tn (A1 20)) 256 := by
      rw [e1]
      exact hK.2.1
    obtain ⟨y1, f2, e2⟩ := ca_v i2 cH1 S1
    generalize xCo IF 22 (L 2) (L 1) (L 0) 0 A1 = A2 at y1 e2 ⊢
    have m2 := ov_m (q := gC2 (L 1) a b (L 0 - 1 - s) s pa) hM.1
    have ev : xsd2 A2 22 (L 0) (L 1) 0 0 = mds2 (mbA L p pa s a b τ.1) L (L 1) 0 0 := sd_eq y1.1.1.1 hL (gM2 i2 y1 m2) (L 1) 0 0 (by omega)
    obtain ⟨v, hv, e3⟩ := nn2 i2 y1 m2
    have e3' : mds2 (mbA L p pa s a b τ.1) L (L 1) 0 0 = nI v := e3
    obtain ⟨z1, f4, e4⟩ := xp2_v (k := 15) hL (show b < 8 by omega) (show a < 8 by omega) (L 0 - 1 - s) s A2 (gC2 (L 1) a b (L 0 - 1 - s) s pa) (by omega) (oR_c hL y1.1.1.2.2 x2) (fun g h1 h2 => adj_ch hL hab h1 h2 (hadj g h1 (by omega)))
    rw [gC2_sym (show L 1 ≤ 8 by omega), gC2_2 (show L 1 ≤ 8 by omega)] at z1
    have hR2 : cR IF (xp2 15 (L 1) (nI b) (nI a) (L 0 - 1 - s) s A2) L := by rw [e4]; exact cR_fr y1.1.1.1 rfl rfl rfl rfl
    obtain ⟨w1, f5, e5⟩ := fA_v (k := 15) hL hp (Or.inr rfl) hR2 z1
    have e6 : xf2 15 (L 1) (L 0 - 1) 0 (xp2 15 (L 1) (nI b) (nI a) (L 0 - 1 - s) s A2) = va_up (va_up (va_up (va_up (va_up σ.1 16 f1) 17 g1) 23 f2) 16 f4) 17 f5 := by rw [e5, e4, e2, e1]
    have hK3 : bK IF A0 (xf2 15 (L 1) (L 0 - 1) 0 (xp2 15 (L 1) (nI b) (nI a) (L 0 - 1 - s) s A2)) L p pa ex ey k := by
      rw [e6] at w1 ⊢
      refine ⟨⟨⟨cR_fr hR rfl rfl rfl rfl, cO_fr hK.1.1.2.1 rfl rfl, w1⟩, hK.1.2.1, hK.1.2.2.1, hK.1.2.2.2⟩, hK.2.1, fun j h1 h2 h3 => ?_⟩
      rw [vu_n h2, vu_n h1, vu_n h3, vu_n h2, vu_n h1]
      exact hK.2.2 j h1 h2 h3
    have fr : ∀ j, j < 42 → va_up (mbA L p pa s a b τ.1) 37 (lf pa) j = τ.1 j := fun j hj => by
      by_cases z7 : j = 37
      · rw [z7, vu_s]
        exact hM.1.1.2.2.symm
      · rw [vu_n z7]
        unfold mbA
        rw [mLw_o (Or.inl hj), vu_n z7]
    have hM3 : bM IG B0 (va_up (mbA L p pa s a b τ.1) 37 (lf pa)) L p pa ex ey k := ⟨mG_f2 hM.1 (fr 33 (by omega)) (fr 35 (by omega)) (fr 36 (by omega)) (fr 37 (by omega)) (fr 39 (by omega)) (fr 40 (by omega)) rfl, fun j hj => (fr j hj).trans (hM.2 j hj)⟩
    rw [ev, e3', ew, show τ.2.1 = nI w by rw [← hE]; exact ew]
    have ec : (100 * nI s + 10 * nI a + nI b : Int32) = nI (100 * s + 10 * a + b) := by rw [show (100 : Int32) = nI 100 from rfl, show (10 : Int32) = nI 10 from rfl, pk_mul, pk_mul, nI_add, nI_add]
    by_cases lt : v < w
    · rw [if_neg (fun z => by have := (nI_leI (by omega) (by omega)).mp z; omega), if_pos ((nI_ltI (by omega) (by omega)).mpr lt)]
      refine ⟨hK3, hM3, rfl, ⟨Or.inr ⟨s, a, b, hs, ha, hb, hg, ec⟩, fun hz => ?_⟩, v, hv, rfl⟩
      have q := hV.2 hz
      rw [q] at ew
      have q2 := nI_ij (a := 0) (b := w) (n := 64000001) (by omega) (by omega) (by omega) (nI_0.trans ew)
      omega
    · rw [if_pos ((nI_leI (by omega) (by omega)).mpr (by omega)), if_neg (fun z => lt ((nI_ltI (by omega) (by omega)).mp z))]
      exact ⟨hK3, hM3, hE, hV, w, hw, ew⟩
theorem mb2_add {s : Nat} : ∀ (m n j : Nat) (σ : zB), mb2 L p pa s (m + n) j σ = mb2 L p pa s n (j + m) (mb2 L p pa s m j σ) := by
  intro m
  induction m with
  | zero => intro n j σ; rw [Nat.zero_add]; rfl
  | succ m ih =>
    intro n j σ
    rw [show m + 1 + n = (m + n) + 1 by omega]
    have e1 : mb2 L p pa s (m + n + 1) j σ = mb2 L p pa s (m + n) (j + 1) (mb1 L p pa s (j / L 1) (j % L 1) σ) := rfl
    have e2 : mb2 L p pa s (m + 1) j σ = mb2 L p pa s m (j + 1) (mb1 L p pa s (j / L 1) (j % L 1) σ) := rfl
    rw [e1, e2, ih, show j + 1 + m = j + (m + 1) by omega]
theorem bf_2 (h : Inv L p pa ex ey k) {s a : Nat} (hs : s < L 0 - 1) (ha : a < L 1) : ∀ (n b : Nat) (σ τ : zB), b + n = L 1 → bT z IF A0 IG B0 L p pa ex ey k σ τ → bT z IF A0 IG B0 L p pa ex ey k (xb2 IF (L 2) (L 1) (L 0) s a n b σ) (mb2 L p pa s n (a * L 1 + b) τ) := by
  intro n
  induction n with
  | zero => intro b σ τ _ hT; exact hT
  | succ n ih =>
    intro b σ τ hb hT
    have e1 : xb2 IF (L 2) (L 1) (L 0) s a (n + 1) b σ = xb2 IF (L 2) (L 1) (L 0) s a n (b + 1) (xb1 IF (L 2) (L 1) (L 0) s a b σ) := rfl
    have e2 : mb2 L p pa s (n + 1) (a * L 1 + b) τ = mb2 L p pa s n (a * L 1 + b + 1) (mb1 L p pa s ((a * L 1 + b) / L 1) ((a * L 1 + b) % L 1) τ) := rfl
    have q1 : (a * L 1 + b) / L 1 = a := by
      rw [Nat.mul_comm, Nat.mul_add_div (by omega), Nat.div_eq_of_lt (by omega), Nat.add_zero]
    have q2 : (a * L 1 + b) % L 1 = b := by
      rw [Nat.mul_comm, Nat.mul_add_mod, Nat.mod_eq_of_lt (by omega)]
    rw [e1, e2, q1, q2, Nat.add_assoc]
    exact ih (b + 1) _ _ (by omega) (bf_1 h hs ha (by omega) hT)
theorem bf_3 (h : Inv L p pa ex ey k) {s : Nat} (hs : s < L 0 - 1) : ∀ (n a : Nat) (σ τ : zB), a + n = L 1 → bT z IF A0 IG B0 L p pa ex ey k σ τ → bT z IF A0 IG B0 L p pa ex ey k (xb3 IF (L 2) (L 1) (L 0) s n a σ) (mb2 L p pa s (n * L 1) (a * L 1) τ) := by
  intro n
  induction n with
  | zero =>
    intro a σ τ _ hT
    rw [Nat.zero_mul]
    exact hT
  | succ n ih =>
    intro a σ τ ha hT
    have e1 : xb3 IF (L 2) (L 1) (L 0) s (n + 1) a σ = xb3 IF (L 2) (L 1) (L 0) s n (a + 1) (xb2 IF (L 2) (L 1) (L 0) s a (L 1) 0 σ) := rfl
    have q := bf_2 h hs (show a < L 1 by omega) (L 1) 0 σ τ (by omega) hT
    rw [Nat.add_zero] at q
    rw [e1, show (n + 1) * L 1 = L 1 + n * L 1 by rw [Nat.succ_mul, Nat.add_comm], mb2_add, show a * L 1 + L 1 = (a + 1) * L 1 from (Nat.succ_mul a (L 1)).symm]
    exact ih (a + 1) _ _ (by omega) q
theorem bf_4 (h : Inv L p pa ex ey k) : ∀ (n s : Nat) (σ τ : zB), s + n = L 0 - 1 → bT z IF A0 IG B0 L p pa ex ey k σ τ → bT z IF A0 IG B0 L p pa ex ey k (xb4 IF (L 2) (L 1) (L 0) n s σ) (mb3 L p pa n s τ) := by
  intro n
  induction n with
  | zero => intro s σ τ _ hT; exact hT
  | succ n ih =>
    intro s σ τ hs hT
    have e1 : xb4 IF (L 2) (L 1) (L 0) (n + 1) s σ = xb4 IF (L 2) (L 1) (L 0) n (s + 1) (xb3 IF (L 2) (L 1) (L 0) s (L 1) 0 σ) := rfl
    have e2 : mb3 L p pa (n + 1) s τ = mb3 L p pa n (s + 1) (mb2 L p pa s (L 1 * L 1) 0 τ) := rfl
    have q := bf_3 h (show s < L 0 - 1 by omega) (L 1) 0 σ τ (by omega) hT
    rw [Nat.zero_mul] at q
    rw [e1, e2]
    exact ih (s + 1) _ _ (by omega) q
end
