/-! class and reference side by side: overtakings; what parse leaves alone -/
section
variable {ε : Nat × (Nat → Int32)} {d y : Nat} {o ot it : Value} {IF IG A B : Nat → Nat → Int32} {AL : Nat → Nat → Int64} {AD : Nat → Nat → UInt64} {L p pa ex ey : Nat → Nat} {k : Nat}
theorem ov_gt {m : Nat} (hL : lT L) (hp : pOrd L p) (hR : cR IF A L) (hO : cO A m L p) {s a b : Nat} (hs : s < L 0 - 1) (ha : a < L 1) (hb : b < L 1) : (xs IF 8 (nI s) && xcp A m (L 1) (nI a) (nI b) (L 0 - 1 - s) s) = (decide (¬ L (5 + s) = 0) && gMo p (L 1) a b (L 0 - 1 - s) s) := by
  have hB := hL.1.2.1
  rw [hR.2.1 s (by omega), ← ty_sid hL (by omega), cp_eq hL hp (oR_c hL hO hp) ha hb (L 0 - 1 - s) s (by omega)]
theorem ov_gs (hL : lT L) {s : Nat} (hs : s < 8) {v : Bool} (h : (decide (¬ L (5 + s) = 0) && v) = true) : L (5 + s) = 1 ∧ v = true := by
  rw [Bool.and_eq_true, ty_sid hL hs, decide_eq_true_eq] at h
  exact h
theorem j_plan (h : gX IF A L p pa ex ey k) {x z w : Int32} : zW ε false (d + 20) 88 0 [(0, .ref 0), (1, .int x), (2, .int z), (3, .int w)] [] (zM o ot it IF A AL AD) 0 0 (zP2 ε (d + 21) 180 [(0, .ref 32), (1, .int x), (2, .int z), (3, .int w)] okI (.int 0) [(2, 1), (0, 2)] AL AD) := by
  have hL := h.1.1.1
  have hB := hL.1.2.1
  have hR := h.2.1.1.1.1
  have hV := mV_of h.1 h.2.2.1
  obtain ⟨n, T, ht⟩ := h.2.2.2
  have hsur : ∀ a, a < L 1 → ∀ g, g < L 0 - 1 → ∃ j, j < L 1 ∧ p (8 * g + j) = a := fun a ha g hg => h.1.1.2.1.2.2.1 g hg a ha
  have hW : ∀ B, mG IF B L p pa ex ey k → ∀ s a c, s < L 0 - 1 → a < L 1 → c < L 1 → (decide (¬ L (5 + s) = 0) && gMo p (L 1) a c (L 0 - 1 - s) s) = true → mV L (gC2 (L 1) a c (L 0 - 1 - s) s p) (pcp (gC2 (L 1) a c (L 0 - 1 - s) s p) pa) (mPl L p s a c B) := fun B mB s a c hs ha hc hg => mV_of (pn_i h.1 ha hc (ov_gs hL (by omega) hg).1) (pn_m mB)
  have gt := fun (s a b : Nat) (hs : s < L 0 - 1) (ha : a < L 1) (hb : b < L 1) => ov_gt (m := 12) hL h.1.1.2.1 hR h.2.1.1.1.2.1 hs ha hb
  refine c_plan hR.1.1 hL.2 (by omega) hR.1.2.1 (by omega) hR.1.2.2.1 (by omega) (fun s hs hx ga gb g => p2_ok ⟨_, rfl⟩ fun AL AD => ?_) (fun g => p2_ex (cde := 1) (by simp) fun AL AD => ?_) (fun s hs hx ga gb g => p2_ex (cde := 2) (by simp) fun AL AD => ?_)
  · obtain ⟨a, ha, rfl⟩ := ga
    obtain ⟨b, hb, rfl⟩ := gb
    subst hx
    have gg := g
    rw [gt s a b hs ha hb] at gg
    obtain ⟨h5, hm⟩ := ov_gs hL (by omega) gg
    obtain ⟨c1, fr⟩ := pn_c h.1 h.2.1 ha hb hs h5 hm
    have i2 := pn_i h.1 ha hb h5
    generalize xpl IF (L 2) (L 1) (L 0) s (nI a) (nI b) A = B at c1 fr ⊢
    have m1 : mG IF B L p pa ex ey k := mG_fr h.2.2.1 (fun j hj => fr j (by omega)) rfl
    have c2 : cG IF (mPl L p s a b B) L (gC2 (L 1) a b (L 0 - 1 - s) s p) (pcp (gC2 (L 1) a b (L 0 - 1 - s) s p) pa) ex ey k := cG_fr c1 (fun j hj => by unfold mPl; rw [vu_n (by omega), vu_n (by omega)]) (fun _ _ => rfl)
    have X2 : gX IF (mPl L p s a b B) L (gC2 (L 1) a b (L 0 - 1 - s) s p) (pcp (gC2 (L 1) a b (L 0 - 1 - s) s p) pa) ex ey k := ⟨i2, c2, pn_m m1, n, T, tX_fr ht rfl rfl rfl rfl (fr 3 (by omega)) (fr 41 (by omega))⟩
    refine c_mplan (p1 := fun s a c => pcp (gC2 (L 1) a c (L 0 - 1 - s) s p) pa) (mV_of h.1 m1) hsur (hW B m1) (fun s' a' b' hs' ha' hb' ex' ey' ez' _ => ?_) (fun q => absurd ⟨⟨s, hs, rfl⟩, ⟨a, ha, rfl⟩, b, hb, rfl⟩ q) (fun s' a' b' hs' ha' hb' ex' ey' ez' q => ?_)
    · have e1 := nI_ij (n := 8) (by omega) (by omega) (by omega) ex'
      have e2 := nI_ij (n := 8) (by omega) (by omega) (by omega) ey'
      have e3 := nI_ij (n := 8) (by omega) (by omega) (by omega) ez'
      subst e1
      subst e2
      subst e3
      refine r2 ?_ (gS_p X2) rfl
      have hk := hL.1.2.2.2.2.2.1 b hb
      unfold trOk at hk
      have hv : gE L b (tr L b 1) true = true := by
        show gA L b (tr L b 1) = true
        unfold gA
        rw [decide_eq_true hk.1, decide_eq_true (Nat.le_refl _)]
        rfl
      have e := pl_of (b := true) X2.1 X2.2.1 X2.2.2.1 hb hv
      rw [xo_n (z := 1) (w := 1) c1.1.1.1 hL hb (by omega) rfl, xev_n (by omega) (by omega)]
      exact congrArg Value.int e
    · have e1 := nI_ij (n := 8) (by omega) (by omega) (by omega) ex'
      have e2 := nI_ij (n := 8) (by omega) (by omega) (by omega) ey'
      have e3 := nI_ij (n := 8) (by omega) (by omega) (by omega) ez'
      subst e1
      subst e2
      subst e3
      rw [gg] at q
      exact Bool.noConfusion q
  · have g2 : ¬ (zIn (L 0 - 1) x ∧ zIn (L 1) z ∧ zIn (L 1) w) := fun q => g.elim (fun g => g q.1) (fun g => g.elim (fun g => g q.2.1) (fun g => g q.2.2))
    exact c_mplan (p1 := fun s a c => pcp (gC2 (L 1) a c (L 0 - 1 - s) s p) pa) hV hsur (hW A h.2.2.1) (fun s a b hs ha hb e1 e2 e3 _ => absurd ⟨⟨s, hs, e1⟩, ⟨a, ha, e2⟩, b, hb, e3⟩ g2) (fun _ => r2 rfl (gS_0 h) rfl) (fun s a b hs ha hb e1 e2 e3 _ => absurd ⟨⟨s, hs, e1⟩, ⟨a, ha, e2⟩, b, hb, e3⟩ g2)
  · refine c_mplan (p1 := fun s a c => pcp (gC2 (L 1) a c (L 0 - 1 - s) s p) pa) hV hsur (hW A h.2.2.1) (fun s' a' b' hs' ha' hb' ex' ey' ez' q => ?_) (fun q => absurd ⟨⟨s, hs, hx⟩, ga, gb⟩ q) (fun s' a' b' hs' ha' hb' ex' ey' ez' _ => r2 rfl (gS_0 h) rfl)
    have e1 := nI_ij (n := 8) (by omega) (by omega) (by omega) (hx.symm.trans ex')
    subst e1
    rw [ey', ez', gt s a' b' hs ha' hb', q] at g
    exact Bool.noConfusion g
theorem j_overtake (h : gX IF A L p pa ex ey k) {x z w : Int32} : zW ε false (d + 20) 104 0 [(0, .ref 0), (1, .int x), (2, .int z), (3, .int w)] [] (zM o ot it IF A AL AD) 0 0 (zP2 ε (d + 21) 200 [(0, .ref 32), (1, .int x), (2, .int z), (3, .int w)] okI (.int 0) [(2, 1), (0, 2)] AL AD) := by
  have hL := h.1.1.1
  have hB := hL.1.2.1
  have hR := h.2.1.1.1.1
  have hV := mV_of h.1 h.2.2.1
  obtain ⟨n, T, ht⟩ := h.2.2.2
  have hsur : ∀ a, a < L 1 → ∀ g, g < L 0 - 1 → ∃ j, j < L 1 ∧ pa (8 * g + j) = a := fun a ha g hg => h.1.1.2.2.2.2.1 g hg a ha
  have hW : ∀ B, mG IF B L p pa ex ey k → ∀ s a c, s < L 0 - 1 → a < L 1 → c < L 1 → (decide (¬ L (5 + s) = 0) && gMo pa (L 1) a c (L 0 - 1 - s) s) = true → mV L p (gC2 (L 1) a c (L 0 - 1 - s) s pa) (va_up B 37 (lf (gC2 (L 1) a c (L 0 - 1 - s) s pa))) := fun B mB s a c hs ha hc hg => mV_of (ov_i h.1 ha hc (ov_gs hL (by omega) hg).1) (ov_m mB)
  have gt := fun (s a b : Nat) (hs : s < L 0 - 1) (ha : a < L 1) (hb : b < L 1) => ov_gt (m := 15) hL h.1.1.2.2 hR h.2.1.1.1.2.2 hs ha hb
  refine c_overtake hR.1.1 hL.2 (by omega) hR.1.2.1 (by omega) hR.1.2.2.1 (by omega) (fun s hs hx ga gb g => p2_ok ⟨_, rfl⟩ fun AL AD => ?_) (fun g => p2_ex (cde := 1) (by simp) fun AL AD => ?_) (fun s hs hx ga gb g => p2_ex (cde := 2) (by simp) fun AL AD => ?_)
  · obtain ⟨a, ha, rfl⟩ := ga
    obtain ⟨b, hb, rfl⟩ := gb
    subst hx
    have gg := g
    rw [gt s a b hs ha hb] at gg
    obtain ⟨h5, hm⟩ := ov_gs hL (by omega) gg
    obtain ⟨c1, fr⟩ := ov_c h.1 h.2.1 ha hb hs h5 hm
    have i2 := ov_i h.1 ha hb h5
    generalize xov IF (L 2) (L 1) (L 0) s (nI a) (nI b) A = B at c1 fr ⊢
    have m1 : mG IF B L p pa ex ey k := mG_fr h.2.2.1 (fun j hj => fr j (by omega)) rfl
    have c2 : cG IF (va_up B 37 (lf (gC2 (L 1) a b (L 0 - 1 - s) s pa))) L p (gC2 (L 1) a b (L 0 - 1 - s) s pa) ex ey k := cG_fr c1 (fun j hj => vu_n (by omega)) (fun _ _ => rfl)
    have X2 : gX IF (va_up B 37 (lf (gC2 (L 1) a b (L 0 - 1 - s) s pa))) L p (gC2 (L 1) a b (L 0 - 1 - s) s pa) ex ey k := ⟨i2, c2, ov_m m1, n, T, tX_fr ht rfl rfl rfl rfl (fr 3 (by omega)) (fr 41 (by omega))⟩
    refine c_movertake (mV_of h.1 m1) hsur (hW B m1) (fun s' a' b' hs' ha' hb' ex' ey' ez' _ => ?_) (fun q => absurd ⟨⟨s, hs, rfl⟩, ⟨a, ha, rfl⟩, b, hb, rfl⟩ q) (fun s' a' b' hs' ha' hb' ex' ey' ez' q => ?_)
    · have e1 := nI_ij (n := 8) (by omega) (by omega) (by omega) ex'
      have e2 := nI_ij (n := 8) (by omega) (by omega) (by omega) ey'
      have e3 := nI_ij (n := 8) (by omega) (by omega) (by omega) ez'
      subst e1
      subst e2
      subst e3
      refine r2 ?_ (gS_a X2) rfl
      have g3 : gM B (mLw L p (gC2 (L 1) a b (L 0 - 1 - s) s pa) (va_up B 37 (lf (gC2 (L 1) a b (L 0 - 1 - s) s pa)))) 22 L := (gM_of X2.1 X2.2.1 X2.2.2.1).1
      rw [sd_eq c1.1.1.1 hL g3 (L 1) 0 0 (by omega)]
    · have e1 := nI_ij (n := 8) (by omega) (by omega) (by omega) ex'
      have e2 := nI_ij (n := 8) (by omega) (by omega) (by omega) ey'
      have e3 := nI_ij (n := 8) (by omega) (by omega) (by omega) ez'
      subst e1
      subst e2
      subst e3
      rw [gg] at q
      exact Bool.noConfusion q
  · have g2 : ¬ (zIn (L 0 - 1) x ∧ zIn (L 1) z ∧ zIn (L 1) w) := fun q => g.elim (fun g => g q.1) (fun g => g.elim (fun g => g q.2.1) (fun g => g q.2.2))
    exact c_movertake hV hsur (hW A h.2.2.1) (fun s a b hs ha hb e1 e2 e3 _ => absurd ⟨⟨s, hs, e1⟩, ⟨a, ha, e2⟩, b, hb, e3⟩ g2) (fun _ => r2 rfl (gS_0 h) rfl) (fun s a b hs ha hb e1 e2 e3 _ => absurd ⟨⟨s, hs, e1⟩, ⟨a, ha, e2⟩, b, hb, e3⟩ g2)
  · refine c_movertake hV hsur (hW A h.2.2.1) (fun s' a' b' hs' ha' hb' ex' ey' ez' q => ?_) (fun q => absurd ⟨⟨s, hs, hx⟩, ga, gb⟩ q) (fun s' a' b' hs' ha' hb' ex' ey' ez' _ => r2 rfl (gS_0 h) rfl)
    have e1 := nI_ij (n := 8) (by omega) (by omega) (by omega) (hx.symm.trans ex')
    subst e1
    rw [ey', ez', gt s a' b' hs ha' hb', q] at g
    exact Bool.noConfusion g
end
/-- parse writes the tokens' and the draft's fields, and the draft's rows -/
def fI (I J : Nat → Nat → Int32) : Prop := ∀ c, ¬ c = 2 → ¬ c = 4 → J c = I c
def fP (σ τ : zP) : Prop := fI σ.1 τ.1 ∧ ∀ m, ¬ m = 5 → ¬ m = 6 → ¬ m = 7 → τ.2 m = σ.2 m
section
variable {T : Nat → Nat} {n : Nat} {I J K : Nat → Nat → Int32} {σ τ ρ : zP}
theorem fI_r : fI I I := fun _ _ _ => rfl
theorem fI_t (h1 : fI I J) (h2 : fI J K) : fI I K := fun c a b => (h2 c a b).trans (h1 c a b)
theorem fI_U {j : Nat} {v : Int32} : fI I (yU 2 j v I) := fun c a _ => vu_n a
theorem fI_x {j : Nat} {v : Int32} : fI I (xr1 j v I) := fun c _ b => vu_n b
theorem fI_T : fI I (yT T n I) := fI_t (fI_t (fI_t fI_U fI_U) fI_U) fI_U
theorem fI_F {a b : Int32} : fI I (yF a b I) := by
  unfold yF
  split
  · exact fI_t fI_U fI_U
  · exact fI_r
theorem fI_c {b : Bool} (h1 : fI I J) (h2 : fI I K) : fI I (cond b J K) := by
  cases b
  · exact h2
  · exact h1
theorem fI_N {lo hi : Int32} : fI I (yN T n lo hi I).2 := by
  unfold yN
  split
  · split
    · exact fI_F
    · exact fI_T
  · exact fI_F
theorem fI_Se : fI I (ySe T n I) := by
  unfold ySe
  split
  · exact fI_T
  · exact fI_F
theorem fI_En : fI I (yEn I) := by
  unfold yEn
  split
  · exact fI_r
  · exact fI_F
theorem fI_K1 : fI I (pK1 T n I) := fI_c fI_T (fI_c fI_T fI_F)
theorem fI_K : fI I (pK T n I) := fI_t (fI_c (fI_t fI_K1 fI_x) fI_K1) fI_x
theorem fP_t (h1 : fP σ τ) (h2 : fP τ ρ) : fP σ ρ := ⟨fI_t h1.1 h2.1, fun m a b c => (h2.2 m a b c).trans (h1.2 m a b c)⟩
theorem fP_r : fP σ σ := ⟨fI_r, fun _ _ _ _ => rfl⟩
theorem fP_I {A : Nat → Nat → Int32} (h : fI I J) : fP (I, A) (J, A) := ⟨h, fun _ _ _ _ => rfl⟩
theorem fP_Seg {s : Nat} : fP σ (pSeg T n s σ) := ⟨fI_t fI_N fI_K, fun m a _ _ => vu_n a⟩
theorem fP_Sl : ∀ (k s : Nat) (σ : zP), fP σ (pSl T n k s σ)
  | 0, _, _ => fP_r
  | k + 1, s, σ => by
    unfold pSl
    cases yNu σ.1
    · exact fP_r
    · exact fP_t fP_Seg (fP_Sl k (s + 1) _)
theorem fI_S0 : fI I (pS0 T n I) := fI_t (fI_c fI_T fI_F) fI_K
theorem fI_Ss : fI I (pSe T n I) := fI_t (fI_c (fI_t fI_N fI_F) fI_r) fI_Se
theorem fP_S : fP σ (pS T n σ) := by
  have h0 : fP σ (pS0 T n σ.1, σ.2) := ⟨fI_S0, fun _ _ _ _ => rfl⟩
  have h := fP_t (fP_t h0 (fP_Seg (T := T) (n := n) (s := 0))) (fP_Sl (T := T) (n := n) 6 1 _)
  unfold pS
  generalize pSl T n 6 1 (pSeg T n 0 (pS0 T n σ.1, σ.2)) = τ at h ⊢
  exact ⟨fI_t h.1 fI_Ss, h.2⟩
theorem fI_St1 {i j : Nat} {lo hi : Int32} {rep : Bool} : fI I (pSt1 T n i j lo hi rep I) := fI_t (fI_t (fI_t (fI_t (fI_c fI_F fI_r) (fI_c fI_T fI_F)) fI_N) fI_x) fI_Se
theorem fI_St : ∀ (k : Nat) (a b : Bool) (I : Nat → Nat → Int32), fI I (pSt T n k a b I)
  | 0, _, _, _ => fI_r
  | k + 1, a, b, I => by
    unfold pSt
    exact fI_c (fI_t fI_St1 (fI_St k _ _ _)) (fI_c (fI_t fI_St1 (fI_St k _ _ _)) (fI_St k _ _ _))
theorem fP_Of {t w lo hi : Int32} : fP σ (pOf T n t w lo hi σ) := ⟨fI_N, fun m _ b _ => vu_n b⟩
theorem fP_T1 {t : Int32} : fP σ (pT1 T n t σ) := by
  have h : fP σ (pTd T n t σ) := fP_t (fP_t (fP_t (fP_t fP_Of fP_Of) fP_Of) fP_Of) fP_Of
  exact ⟨fI_t h.1 (fI_t fI_Se fI_x), h.2⟩
theorem fP_Tl : ∀ (k s : Nat) (σ : zP), fP σ (pTl T n k s σ)
  | 0, _, _ => fP_r
  | k + 1, s, σ => by
    unfold pTl
    cases yIs T n (zsg 5) σ.1
    · exact fP_r
    · exact fP_t (fP_t (fP_I (A := σ.2) fI_T) fP_T1) (fP_Tl k (s + 1) _)
theorem fI_Xs {i : Nat} : fI I (pXs T n i I) := fI_c fI_F fI_r
theorem fP_Lk {I A : Nat → Nat → Int32} {c w v : Int32} : fP (I, A) (I, pLk c w v A) := ⟨fI_r, fun m _ _ c => vu_n c⟩
theorem fP_C1 : fP σ (pC1 T n σ) := fP_I (A := σ.2) fI_N
theorem fI_Ceq {f t : Int32} : fI I (pCeq f t I) := by
  unfold pCeq
  split
  · exact fI_F
  · exact fI_r
theorem fP_C2 {f : Int32} : fP σ (pC2 T n f σ) := fP_I (A := σ.2) (fI_t fI_N fI_Ceq)
theorem fP_C7 {c f t : Int32} : fP σ (pC7 T n c f t σ) := by
  have h3 : fP σ (pC3 T n σ) := fP_I (A := σ.2) fI_N
  have h4 : ∀ τ : zP, ∀ s, fP τ (pC4 f t s τ) := fun τ s => fP_I (A := τ.2) (fI_c fI_r fI_F)
  have h5 : ∀ τ : zP, ∀ s, fP τ (pC5 c f t s τ) := fun τ s => fP_t (fP_t (fP_Lk (I := τ.1) (A := τ.2)) fP_Lk) fP_Lk
  have h6 : ∀ τ : zP, fP τ (pC6 T n c τ) := fun τ => ⟨fI_t fI_N fI_Se, fun m _ _ z => vu_n z⟩
  exact fP_t (fP_t (fP_t h3 (h4 _ _)) (h5 _ _)) (h6 _)
theorem fP_C {c : Int32} : fP σ (pC T n c σ) := fP_t (fP_t fP_C1 fP_C2) fP_C7
theorem fP_Cn {s : Nat} : fP σ (pCn T n s σ) := by
  have h : fP σ (pC T n (nI s) (yT T n σ.1, σ.2)) := fP_t (fP_I (A := σ.2) fI_T) fP_C
  exact ⟨fI_t h.1 fI_x, h.2⟩
theorem fP_Cl : ∀ (k s : Nat) (σ : zP), fP σ (pCl T n k s σ)
  | 0, _, _ => fP_r
  | k + 1, s, σ => by
    unfold pCl
    cases yIs T n (zsg 6) σ.1
    · exact fP_r
    · exact fP_t fP_Cn (fP_Cl k (s + 1) _)
theorem fP_P : fP σ (pP T n σ) := by
  have h0 : fP σ (pP0 T n σ) := fP_I (A := σ.2) (fI_t (fI_t (fI_t (fI_t fI_U fI_U) fI_U) fI_T) (fI_t (fI_t (fI_t (fI_t (fI_t fI_x fI_x) fI_x) fI_x) fI_x) fI_x))
  have h1 : ∀ τ : zP, fP τ (pP1 T n τ) := fun τ => fP_I (A := τ.2) (fI_St 3 _ _ _)
  have h2 : ∀ τ : zP, fP τ (pP2 T n τ) := fun τ => ⟨fI_t (fP_Tl 8 0 τ).1 fI_Xs, (fP_Tl 8 0 τ).2⟩
  have h3 : ∀ τ : zP, fP τ (pP3 T n τ) := fun τ => ⟨fI_t (fP_Cl 8 0 τ).1 fI_Xs, (fP_Cl 8 0 τ).2⟩
  have h4 : ∀ τ : zP, fP τ (pP4 τ) := fun τ => fP_I (A := τ.2) fI_En
  exact fP_t (fP_t (fP_t (fP_t (fP_t h0 fP_S) (h1 _)) (h2 _)) (h3 _)) (h4 _)
end
