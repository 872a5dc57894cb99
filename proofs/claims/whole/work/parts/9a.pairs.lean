/-! class and reference side by side: the state, and what one call of both comes to -/
/-- the text and the errors -/
def tX (IF A : Nat → Nat → Int32) (n : Nat) (T : Nat → Nat) : Prop := (IF 2 0 = nI n ∧ IF 32 11 = nI n ∧ n ≤ 500) ∧ (∀ p, p < n → A 3 p &&& 255 = nI (T p) ∧ A 41 p = nI (T p) ∧ T p < 2 ^ 31) ∧ IF 32 17 = IF 2 1 ∧ IF 32 18 = IF 2 2
def gX (IF A : Nat → Nat → Int32) (L p pa ex ey : Nat → Nat) (k : Nat) : Prop := Inv L p pa ex ey k ∧ cG IF A L p pa ex ey k ∧ mG IF A L p pa ex ey k ∧ ∃ n T, tX IF A n T
def gS (IF A : Nat → Nat → Int32) : Prop := ∃ L p pa ex ey k, gX IF A L p pa ex ey k
def zR2 (AL : Nat → Nat → Int64) (AD : Nat → Nat → UInt64) (u : Value) (cde : Int32) : zQ := fun r h => r = .inl (some u) ∧ ∃ o ot it IF A, h = zM o ot it IF A AL AD ∧ gS IF A ∧ IF 32 0 = cde
def zP2 (ε : Nat × (Nat → Int32)) (d y : Nat) (lm : zL) (ok : Value → Prop) (u0 : Value) (cl : List (Nat × Int32)) (AL : Nat → Nat → Int64) (AD : Nat → Nat → UInt64) : zQ := fun r h => ∃ o ot it IF A u cde, h = zM o ot it IF A AL AD ∧ (∀ AL AD, zW ε false d y 0 lm [] (zM o ot it IF A AL AD) 0 0 (zR2 AL AD u cde)) ∧ ((r = .inl (some u) ∧ cde = 0 ∧ ok u) ∨ ∃ E, r = .inr E ∧ (E, cde) ∈ cl ∧ u = u0)
def okI (u : Value) : Prop := ∃ w, u = .int w
def okZ (u : Value) : Prop := ∃ b, u = .int (zbo b)
def okD (u : Value) : Prop := ∃ w, u = .double w ∧ vf_n64 w
section
variable {ε : Nat × (Nat → Int32)} {d y : Nat} {o ot it : Value} {IF IG A B : Nat → Nat → Int32} {AL : Nat → Nat → Int64} {AD : Nat → Nat → UInt64} {L p pa ex ey : Nat → Nat} {k : Nat} {lm : zL} {ok : Value → Prop} {u u' u0 : Value} {cl : List (Nat × Int32)} {cde : Int32}
theorem r2 (e : u' = u) (hg : gS IF A) (h0 : IF 32 0 = cde) : zR2 AL AD u cde (.inl (some u')) (zM o ot it IF A AL AD) := ⟨by rw [e], o, ot, it, IF, A, rfl, hg, h0⟩
theorem p2_ok (ho : ok u) (hw : ∀ AL AD, zW ε false d y 0 lm [] (zM o ot it IF A AL AD) 0 0 (zR2 AL AD u 0)) : zP2 ε d y lm ok u0 cl AL AD (.inl (some u)) (zM o ot it IF A AL AD) := ⟨o, ot, it, IF, A, u, 0, rfl, hw, Or.inl ⟨rfl, rfl, ho⟩⟩
theorem p2_ex {E : Nat} (hm : (E, cde) ∈ cl) (hw : ∀ AL AD, zW ε false d y 0 lm [] (zM o ot it IF A AL AD) 0 0 (zR2 AL AD u0 cde)) : zP2 ε d y lm ok u0 cl AL AD (.inr E) (zM o ot it IF A AL AD) := ⟨o, ot, it, IF, A, u0, cde, rfl, hw, Or.inr ⟨E, rfl, hm, rfl⟩⟩
theorem tX_fr {n : Nat} {T : Nat → Nat} (h : tX IF A n T) (h2 : IG 2 = IF 2) (h11 : IG 32 11 = IF 32 11) (h17 : IG 32 17 = IF 32 17) (h18 : IG 32 18 = IF 32 18) (h3 : B 3 = A 3) (h41 : B 41 = A 41) : tX IG B n T := by
  unfold tX
  rw [h2, h11, h17, h18, h3, h41]
  exact h
theorem mG_f2 (h : mG IF A L p pa ex ey k) (h33 : B 33 = A 33) (h35 : B 35 = A 35) (h36 : B 36 = A 36) (h37 : B 37 = A 37) (h39 : B 39 = A 39) (h40 : B 40 = A 40) (hi : IG 32 9 = IF 32 9) : mG IG B L p pa ex ey k := by
  refine ⟨⟨h33.trans h.1.1, h36.trans h.1.2.1, h37.trans h.1.2.2⟩, fun t g ht hg => ?_, fun t s b ht hv => ?_, hi.trans h.2.2.2⟩
  · rw [h35]; exact h.2.1 t g ht hg
  · cases b
    · show B 39 (8 * t + s) = _
      rw [h39]; exact h.2.2.1 t s false ht hv
    · show B 40 (8 * t + s) = _
      rw [h40]; exact h.2.2.1 t s true ht hv
/-- the reference has read -/
theorem gX_r (h : gX IF A L p pa ex ey k) (ha : ∀ j, j < 42 → ¬ j = 38 → B j = A j) (hi : ∀ c j, ¬ (c = 32 ∧ (j = 0 ∨ j = 27)) → IG c j = IF c j) : gX IG B L p pa ex ey k := by
  obtain ⟨n, T, ht⟩ := h.2.2.2
  exact ⟨h.1, cG_fr h.2.1 (fun j hj => ha j (by omega) (by omega)) (fun c hc => funext fun j => hi c j (by omega)), mG_f2 h.2.2.1 (ha 33 (by omega) (by omega)) (ha 35 (by omega) (by omega)) (ha 36 (by omega) (by omega)) (ha 37 (by omega) (by omega)) (ha 39 (by omega) (by omega)) (ha 40 (by omega) (by omega)) (hi 32 9 (by omega)), n, T, tX_fr ht (funext fun j => hi 2 j (by omega)) (hi 32 11 (by omega)) (hi 32 17 (by omega)) (hi 32 18 (by omega)) (ha 3 (by omega) (by omega)) (ha 41 (by omega) (by omega))⟩
theorem gX_s (h : gX IF A L p pa ex ey k) : gS IF A := ⟨L, p, pa, ex, ey, k, h⟩
/-- it has only noted an answer -/
theorem gS_0 (h : gX IF A L p pa ex ey k) {v : Int32} : gS (yU 32 0 v IF) A := gX_s (gX_r h (fun _ _ _ => rfl) (fun c j q => yU_n (by omega)))
theorem gS_p (h : gX IF A L p pa ex ey k) {v : Int32} : gS (yU 32 27 v (yU 32 0 0 IF)) (mLy false L p (L 0) 0 A) := gX_s (gX_r h (fun j h1 h2 => mLy_o (by show ¬ j = 43; omega) (by show ¬ j = 42; omega) (by omega) _ _ _) (fun c j q => by rw [yU_n (by omega), yU_n (by omega)]))
theorem gS_p2 (h : gX IF A L p pa ex ey k) {v w : Int32} : gS (yU 32 0 w (yU 32 27 v (yU 32 0 0 IF))) (mLy false L p (L 0) 0 A) := gX_s (gX_r h (fun j h1 h2 => mLy_o (by show ¬ j = 43; omega) (by show ¬ j = 42; omega) (by omega) _ _ _) (fun c j q => by rw [yU_n (by omega), yU_n (by omega), yU_n (by omega)]))
theorem gS_a (h : gX IF A L p pa ex ey k) {v : Int32} : gS (yU 32 27 v (yU 32 0 0 IF)) (mLw L p pa A) := gX_s (gX_r h (fun j h1 h2 => mLw_o (Or.inl h1)) (fun c j q => by rw [yU_n (by omega), yU_n (by omega)]))
theorem nI_ij {a b n : Nat} (ha : a < n) (hb : b < n) (hn : n ≤ 2 ^ 31) (h : nI a = nI b) : a = b := (nI_eq (by omega) (by omega)).mp h
/-- where a train departs -/
theorem xd_z (hC : cR IF A L) (hL : lT L) {t : Nat} {z : Int32} (ht : t < L 1) : xd A 8 (nI t) z = true ↔ ∃ s, s < L 0 - 1 ∧ z = nI s ∧ gD L t s = true := by
  have hB := hL.1.2.1
  have hk := hL.1.2.2.2.2.2.1 t ht
  unfold trOk at hk
  constructor
  · intro h
    unfold xd at h
    rw [xo_n (z := 0) (w := 0) hC hL ht (by omega) nI_0.symm, xo_n (z := 1) (w := 1) hC hL ht (by omega) rfl, Bool.and_eq_true, decide_eq_true_eq, decide_eq_true_eq] at h
    obtain ⟨s, hs, rfl⟩ := zIn_of (n := tr L t 1) (by omega) (x := z) (fun w => h.1 (by
      have e := nI_le (a := 0) (b := tr L t 0) (Nat.zero_le _) (by omega)
      rw [nI_0] at e
      rw [Int32.lt_iff_toInt_lt] at w ⊢
      rw [Int32.le_iff_toInt_le] at e
      omega)) (i32_nle h.2)
    have h1 : ¬ s < tr L t 0 := fun w => h.1 ((nI_ltI (by omega) (by omega)).mpr w)
    refine ⟨s, by omega, rfl, ?_⟩
    unfold gD
    rw [Bool.and_eq_true, decide_eq_true_eq, decide_eq_true_eq]
    exact ⟨by omega, hs⟩
  · rintro ⟨s, hs, rfl, h⟩
    rw [xd_n hC hL ht (by omega)]
    exact h
theorem ty_sid (hL : lT L) {s : Nat} (hs : s < 8) : decide (¬ L (5 + s) = 0) = decide (L (5 + s) = 1) := by
  have q := hL.1.2.2.1 s hs
  by_cases e : L (5 + s) = 1
  · rw [decide_eq_true e, decide_eq_true (show ¬ L (5 + s) = 0 by omega)]
  · rw [decide_eq_false e, decide_eq_false (show ¬ ¬ L (5 + s) = 0 by omega)]
theorem j_errorCode (h : gX IF A L p pa ex ey k) : zW ε false (d + 20) 81 0 [(0, .ref 0)] [] (zM o ot it IF A AL AD) 0 0 (zP2 ε (d + 20) 156 [(0, .ref 32)] okI (.int 0) [] AL AD) := by
  obtain ⟨n, T, ht⟩ := h.2.2.2
  exact c_errorCode (p2_ok ⟨_, rfl⟩ fun AL AD => c_merrorCode (r2 (by rw [ht.2.2.1]) (gS_0 h) rfl))
theorem j_errorPosition (h : gX IF A L p pa ex ey k) : zW ε false (d + 20) 82 0 [(0, .ref 0)] [] (zM o ot it IF A AL AD) 0 0 (zP2 ε (d + 20) 157 [(0, .ref 32)] okI (.int 0) [] AL AD) := by
  obtain ⟨n, T, ht⟩ := h.2.2.2
  exact c_errorPosition (p2_ok ⟨_, rfl⟩ fun AL AD => c_merrorPosition (r2 (by rw [ht.2.2.2]) (gS_0 h) rfl))
theorem ct_eq (h : gX IF A L p pa ex ey k) {n : Nat} (hn : n < 6) : mct IF L n = xct IF n := by
  have hR := h.2.1.1.1.1.1
  have hk := h.2.1.1.2.1.2.2.2
  have hk2 := h.2.2.1.2.2.2
  match n, hn with
  | 0, _ => exact hR.1.symm
  | 1, _ => exact hR.2.1.symm
  | 2, _ => exact hR.2.2.1.symm
  | 3, _ => exact hk2.trans hk.symm
  | 4, _ => exact hR.2.2.2.1.symm
  | 5, _ => exact hR.2.2.2.2.symm
  | n + 6, h => exact absurd h (by omega)
theorem j_count (h : gX IF A L p pa ex ey k) {x : Int32} : zW ε false (d + 20) 83 0 [(0, .ref 0), (1, .int x)] [] (zM o ot it IF A AL AD) 0 0 (zP2 ε (d + 21) 173 [(0, .ref 32), (1, .int x)] okI (.int 0) [(1, 1)] AL AD) := by
  have hV := mV_of h.1 h.2.2.1
  refine c_count (fun n hn hx => p2_ok ⟨_, rfl⟩ fun AL AD => ?_) (fun hx => p2_ex (cde := 1) (by simp) fun AL AD => ?_)
  · refine c_mcount hV (fun m hm hy => r2 ?_ (gS_0 h) rfl) (fun z => absurd ⟨n, hn, hx⟩ z)
    have e := nI_ij hn hm (by omega) (hx.symm.trans hy)
    subst e
    rw [ct_eq h hn]
  · exact c_mcount hV (fun m hm hy => absurd ⟨m, hm, hy⟩ hx) (fun z => r2 rfl (gS_0 h) rfl)
theorem j_isSiding (h : gX IF A L p pa ex ey k) {x : Int32} : zW ε false (d + 20) 84 0 [(0, .ref 0), (1, .int x)] [] (zM o ot it IF A AL AD) 0 0 (zP2 ε (d + 21) 174 [(0, .ref 32), (1, .int x)] okZ (.int 0) [(2, 1)] AL AD) := by
  have hV := mV_of h.1 h.2.2.1
  have hL := h.1.1.1
  have hB := hL.1.2.1
  have hR := h.2.1.1.1.1
  refine c_isSiding hR.1.1 (by omega) (fun gx => p2_ok ⟨_, rfl⟩ fun AL AD => ?_) (fun gx => p2_ex (cde := 1) (by simp) fun AL AD => ?_)
  · refine c_misSiding hV (fun s hs hy => r2 ?_ (gS_0 h) rfl) (fun z => absurd gx z)
    rw [hy, hR.2.1 s (by omega), ty_sid hL (by omega)]
  · exact c_misSiding hV (fun m hm hy => absurd ⟨m, hm, hy⟩ gx) (fun z => r2 rfl (gS_0 h) rfl)
theorem j_train (h : gX IF A L p pa ex ey k) {x w : Int32} : zW ε false (d + 20) 85 0 [(0, .ref 0), (1, .int x), (2, .int w)] [] (zM o ot it IF A AL AD) 0 0 (zP2 ε (d + 21) 175 [(0, .ref 32), (1, .int x), (2, .int w)] okI (.int 0) [(2, 1), (1, 2)] AL AD) := by
  have hV := mV_of h.1 h.2.2.1
  have hL := h.1.1.1
  have hB := hL.1.2.1
  have hR := h.2.1.1.1.1
  refine c_train hR.1.1 hL.2 (by omega) hR.1.2.1 (by omega) (fun gx gw => p2_ok ⟨_, rfl⟩ fun AL AD => ?_) (fun gx => p2_ex (cde := 1) (by simp) fun AL AD => ?_) (fun gx gw => p2_ex (cde := 2) (by simp) fun AL AD => ?_)
  · refine c_mtrain hV (fun t m ht hm hx hw => r2 ?_ (gS_0 h) rfl) (fun z => absurd gx z) (fun _ z => absurd gw z)
    subst hx
    subst hw
    by_cases e : m = 5
    · rw [if_pos e, if_pos (show nI m = 5 by rw [e]; rfl)]
      rw [ss_eq hL ht (fun g hg => ?_) (L 0 - 1) 0 0 (by omega)]
      have a := h.2.2.1.2.1 t g ht hg
      have b := (h.2.1.1.2.2.2 t ht).1 g hg
      refine ⟨?_, fun z => ?_⟩
      · rw [a, show 8 * t + g + 1 + 64 = 8 * t + (g + 1) + 64 by omega, b]
      · rw [a, (h.1.2.1 t g ht hg).2 z]
        exact nI_0
    · rw [if_neg e, if_neg (show ¬ nI m = 5 from fun z => e (nI_ij (n := 6) (by omega) (by omega) (by omega) (show nI m = nI 5 from z))), xo_n (w := m) hR hL ht (by omega) rfl]
  · exact c_mtrain hV (fun t m ht hm hx hw => absurd ⟨t, ht, hx⟩ gx) (fun z => r2 rfl (gS_0 h) rfl) (fun z _ => absurd z gx)
  · exact c_mtrain hV (fun t m ht hm hx hw => absurd ⟨m, hm, hw⟩ gw) (fun z => absurd gx z) (fun _ _ => r2 rfl (gS_0 h) rfl)
theorem j_order (h : gX IF A L p pa ex ey k) {w x z : Int32} {b : Bool} (hb : w = zbo b) : zW ε false (d + 20) 86 0 [(0, .ref 0), (1, .int w), (2, .int x), (3, .int z)] [] (zM o ot it IF A AL AD) 0 0 (zP2 ε (d + 21) 176 [(0, .ref 32), (1, .int w), (2, .int x), (3, .int z)] okI (.int 0) [(2, 1)] AL AD) := by
  have hV := mV_of h.1 h.2.2.1
  have hL := h.1.1.1
  have hB := hL.1.2.1
  have hR := h.2.1.1.1.1
  refine c_order hR.1.1 (by omega) hR.1.2.1 (by omega) hb (fun gx gz => p2_ok ⟨_, rfl⟩ fun AL AD => ?_) (fun g => p2_ex (cde := 1) (by simp) fun AL AD => ?_)
  · refine c_morder hV hb (fun s i hs hi hx hz => r2 ?_ (gS_0 h) rfl) (fun z => absurd z (fun z => z.elim (fun z => z gx) (fun z => z gz)))
    subst hx
    subst hz
    rw [m8_nI (by omega), m8_nI (by omega)]
    cases b
    · show Value.int (A 36 (8 * s + i)) = Value.int (A 13 (8 * s + i))
      rw [h.2.2.1.1.2.1, h.2.1.1.1.2.1.1 s hs i hi]
      rfl
    · show Value.int (A 37 (8 * s + i)) = Value.int (A 16 (8 * s + i))
      rw [h.2.2.1.1.2.2, h.2.1.1.1.2.2.1 s hs i hi]
      rfl
  · exact c_morder hV hb (fun s i hs hi hx hz => absurd g (fun g => g.elim (fun g => g ⟨s, hs, hx⟩) (fun g => g ⟨i, hi, hz⟩))) (fun z => r2 rfl (gS_0 h) rfl)
theorem j_planned (h : gX IF A L p pa ex ey k) {x z w : Int32} {b : Bool} (hb : w = zbo b) : zW ε false (d + 20) 87 0 [(0, .ref 0), (1, .int x), (2, .int z), (3, .int w)] [] (zM o ot it IF A AL AD) 0 0 (zP2 ε (d + 21) 177 [(0, .ref 32), (1, .int x), (2, .int z), (3, .int w)] okI (.int 0) [(2, 1), (3, 2)] AL AD) := by
  have hV := mV_of h.1 h.2.2.1
  have hL := h.1.1.1
  have hB := hL.1.2.1
  have hR := h.2.1.1.1.1
  refine c_planned hR.1.1 (by omega) hR.1.2.1 (by omega) hb (fun gx gz ge => p2_ok ⟨_, rfl⟩ fun AL AD => ?_) (fun g => p2_ex (cde := 1) (by simp) fun AL AD => ?_) (fun gx gz ge => p2_ex (cde := 2) (by simp) fun AL AD => ?_)
  · refine c_mplanned hV hb (fun t s ht hs hx hz hv => r2 ?_ (gS_p h) rfl) (fun z => absurd z (fun z => z.elim (fun z => z gx) (fun z => z gz))) (fun t s ht hs hx hz hv => ?_)
    · subst hx
      subst hz
      rw [xev_n (by omega) (by omega), pl_of h.1 h.2.1 h.2.2.1 ht hv]
    · subst hx
      subst hz
      rw [xe_n hR hL ht (by omega), hv] at ge
      exact Bool.noConfusion ge
  · exact c_mplanned hV hb (fun t s ht hs hx hz hv => absurd g (fun g => g.elim (fun g => g ⟨t, ht, hx⟩) (fun g => g ⟨s, hs, hz⟩))) (fun z => r2 rfl (gS_0 h) rfl) (fun t s ht hs hx hz hv => absurd g (fun g => g.elim (fun g => g ⟨t, ht, hx⟩) (fun g => g ⟨s, hs, hz⟩)))
  · refine c_mplanned hV hb (fun t s ht hs hx hz hv => ?_) (fun z => absurd z (fun z => z.elim (fun z => z gx) (fun z => z gz))) (fun t s ht hs hx hz hv => r2 rfl (gS_0 h) rfl)
    subst hx
    subst hz
    rw [xe_n hR hL ht (by omega), hv] at ge
    exact Bool.noConfusion ge
theorem j_actual (h : gX IF A L p pa ex ey k) {x z w : Int32} {b : Bool} (hb : w = zbo b) : zW ε false (d + 20) 96 0 [(0, .ref 0), (1, .int x), (2, .int z), (3, .int w)] [] (zM o ot it IF A AL AD) 0 0 (zP2 ε (d + 21) 189 [(0, .ref 32), (1, .int x), (2, .int z), (3, .int w)] okI (.int 0) [(2, 1), (3, 2)] AL AD) := by
  have hV := mV_of h.1 h.2.2.1
  have hL := h.1.1.1
  have hB := hL.1.2.1
  have hR := h.2.1.1.1.1
  refine c_actual hR.1.1 (by omega) hR.1.2.1 (by omega) hb (fun gx gz ge => p2_ok ⟨_, rfl⟩ fun AL AD => ?_) (fun g => p2_ex (cde := 1) (by simp) fun AL AD => ?_) (fun gx gz ge => p2_ex (cde := 2) (by simp) fun AL AD => ?_)
  · refine c_mactual hV hb (fun t s ht hs hx hz hv => r2 ?_ (gS_a h) rfl) (fun z => absurd z (fun z => z.elim (fun z => z gx) (fun z => z gz))) (fun t s ht hs hx hz hv => ?_)
    · subst hx
      subst hz
      rw [xev_n (by omega) (by omega), ((gM_of h.1 h.2.1 h.2.2.1).1 t s b ht hv).1.2]
      rfl
    · subst hx
      subst hz
      rw [xe_n hR hL ht (by omega), hv] at ge
      exact Bool.noConfusion ge
  · exact c_mactual hV hb (fun t s ht hs hx hz hv => absurd g (fun g => g.elim (fun g => g ⟨t, ht, hx⟩) (fun g => g ⟨s, hs, hz⟩))) (fun z => r2 rfl (gS_0 h) rfl) (fun t s ht hs hx hz hv => absurd g (fun g => g.elim (fun g => g ⟨t, ht, hx⟩) (fun g => g ⟨s, hs, hz⟩)))
  · refine c_mactual hV hb (fun t s ht hs hx hz hv => ?_) (fun z => absurd z (fun z => z.elim (fun z => z gx) (fun z => z gz))) (fun t s ht hs hx hz hv => r2 rfl (gS_0 h) rfl)
    subst hx
    subst hz
    rw [xe_n hR hL ht (by omega), hv] at ge
    exact Bool.noConfusion ge
end
