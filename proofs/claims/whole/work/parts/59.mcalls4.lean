/-! the reference: disturb, speed, punctuality, the best overtaking -/
section
variable {L p p' : Nat → Nat} {A : Nat → Nat → Int32}
theorem gC2_lt {M x y m : Nat} (hx : x < m) (hy : y < m) {S : Nat} : ∀ (n g : Nat) (q : Nat → Nat), g + n ≤ S → M ≤ 8 → (∀ h, h < S → ∀ j, j < M → q (8 * h + j) < m) → ∀ h, h < S → ∀ j, j < M → gC2 M x y n g q (8 * h + j) < m
  | 0, _, _, _, _, H, h, hh, j, hj => H h hh j hj
  | n + 1, g, q, hg, hM, H, h, hh, j, hj => gC2_lt hx hy n (g + 1) _ (by omega) hM (fun i hi k hk => by
      by_cases e : i = g
      · subst e; exact gC1_lt hx hy M 0 q (by omega) (H i hi) k hk
      · rw [gC1_n _ _ _ (by omega)]; exact H i hi k hk) h hh j hj
theorem mV_ch {x y s : Nat} (hV : mV L p p' A) (hs : s ≤ L 0 - 1) (hx : x < 8) (hy : y < 8) : mV L p (gC2 (L 1) x y (L 0 - 1 - s) s p') (va_up A 37 (lf (gC2 (L 1) x y (L 0 - 1 - s) s p'))) := by
  have hB := hV.2.2.1
  exact ⟨⟨hV.1.1, hV.1.2.1, rfl⟩, hV.2.1, hV.2.2.1, hV.2.2.2.1, gC2_lt hx hy _ _ _ (by omega) hB.2.2.1 hV.2.2.2.2.1, hV.2.2.2.2.2⟩
theorem mV_37 {q : Nat → Nat} (hV : mV L p q A) (h8 : ∀ g, g < L 0 - 1 → ∀ k, k < L 1 → p' (8 * g + k) < 8) : mV L p p' (va_up A 37 (lf p')) := ⟨⟨hV.1.1, hV.1.2.1, rfl⟩, hV.2.1, hV.2.2.1, hV.2.2.2.1, h8, hV.2.2.2.2.2⟩
theorem gSw_sw {x y v : Nat} : gSw x y (gSw x y v) = v := by
  unfold gSw
  by_cases h1 : v = x
  · rw [if_pos h1]
    by_cases h2 : y = x
    · rw [if_pos h2]; omega
    · rw [if_neg h2, if_pos rfl]; exact h1.symm
  · rw [if_neg h1]
    by_cases h2 : v = y
    · rw [if_pos h2, if_pos rfl]; exact h2.symm
    · rw [if_neg h2, if_neg h1, if_neg h2]
theorem gC1_v {x y g : Nat} : ∀ (n k : Nat) (q : Nat → Nat) (e : Nat), gC1 x y g n k q e = if 8 * g + k ≤ e ∧ e < 8 * g + k + n then gSw x y (q e) else q e
  | 0, k, q, e => (if_neg (by omega)).symm
  | n + 1, k, q, e => by
    unfold gC1
    rw [gC1_v n (k + 1)]
    by_cases h : e = 8 * g + k
    · subst h
      rw [if_neg (by omega), if_pos (by omega), vu_s]
    · rw [vu_n h]
      by_cases h2 : 8 * g + (k + 1) ≤ e ∧ e < 8 * g + (k + 1) + n
      · rw [if_pos h2, if_pos (by omega)]
      · rw [if_neg h2, if_neg (by omega)]
theorem gC2_v {M x y : Nat} (hM : M ≤ 8) : ∀ (n g : Nat) (q : Nat → Nat) (e : Nat), gC2 M x y n g q e = if g ≤ e / 8 ∧ e / 8 < g + n ∧ e % 8 < M then gSw x y (q e) else q e
  | 0, g, q, e => (if_neg (by omega)).symm
  | n + 1, g, q, e => by
    unfold gC2
    rw [gC2_v hM n (g + 1), gC1_v]
    by_cases h : e / 8 = g ∧ e % 8 < M
    · rw [if_neg (by omega), if_pos (by omega), if_pos (by omega)]
    · rw [if_neg (show ¬ (8 * g + 0 ≤ e ∧ e < 8 * g + 0 + M) by omega)]
      by_cases h2 : g + 1 ≤ e / 8 ∧ e / 8 < g + 1 + n ∧ e % 8 < M
      · rw [if_pos h2, if_pos (by omega)]
      · rw [if_neg h2, if_neg (by omega)]
theorem gC2_2 {M x y n g : Nat} (hM : M ≤ 8) (q : Nat → Nat) : gC2 M x y n g (gC2 M x y n g q) = q := by
  funext e
  rw [gC2_v hM, gC2_v hM]
  split
  · exact gSw_sw
  · rfl
end
/-- one try of bestOf -/
def mbA (L p p' : Nat → Nat) (s x y : Nat) (A : Nat → Nat → Int32) : Nat → Nat → Int32 := mLw L p (gC2 (L 1) x y (L 0 - 1 - s) s p') (va_up A 37 (lf (gC2 (L 1) x y (L 0 - 1 - s) s p')))
def mbC (L p' : Nat → Nat) (s x y : Nat) : Bool := decide (¬ L (5 + s) = 0) && gMo p' (L 1) x y (L 0 - 1 - s) s
def mb1 (L p p' : Nat → Nat) (s x y : Nat) (σ : zB) : zB := cond (mbC L p' s x y) (if mds2 (mbA L p p' s x y σ.1) L (L 1) 0 0 < σ.2.1 then (va_up (mbA L p p' s x y σ.1) 37 (lf p'), mds2 (mbA L p p' s x y σ.1) L (L 1) 0 0, 100 * nI s + 10 * nI x + nI y) else (va_up (mbA L p p' s x y σ.1) 37 (lf p'), σ.2)) σ
def mb2 (L p p' : Nat → Nat) (s : Nat) : Nat → Nat → zB → zB
  | 0, _, σ => σ
  | n + 1, k, σ => mb2 L p p' s n (k + 1) (mb1 L p p' s (k / L 1) (k % L 1) σ)
def mb3 (L p p' : Nat → Nat) : Nat → Nat → zB → zB
  | 0, _, σ => σ
  | n + 1, s, σ => mb3 L p p' n (s + 1) (mb2 L p p' s (L 1 * L 1) 0 σ)
def mbf (L p p' : Nat → Nat) (A : Nat → Nat → Int32) : zB := mb3 L p p' (L 0 - 1) 0 (mLw L p p' A, mds2 (mLw L p p' A) L (L 1) 0 0, -1)
/-- dispatch: i overtakings done -/
def mdA (L p' : Nat → Nat) (v : Int32) : Nat → Nat := gC2 (L 1) (v.toBitVec.toNat / 10 % 10) (v.toBitVec.toNat % 10) (L 0 - 1 - v.toBitVec.toNat / 100) (v.toBitVec.toNat / 100) p'
def mdp (L p : Nat → Nat) : Nat → (Nat → Nat) → Nat → zB → Nat × (Nat → Nat → Int32)
  | 0, _, i, σ => (i, σ.1)
  | n + 1, p', i, σ => if σ.2.2 = -1 then (i, σ.1) else mdp L p n (mdA L p' σ.2.2) (i + 1) (mbf L p (mdA L p' σ.2.2) (va_up σ.1 37 (lf (mdA L p' σ.2.2))))
section
variable {ε : Nat × (Nat → Int32)} {d : Nat} {Q : zQ} {o ot it : Value} {IF A : Nat → Nat → Int32} {AL : Nat → Nat → Int64} {AD : Nat → Nat → UInt64} {L p p' q : Nat → Nat} {ac : Bool}
theorem c_mdisturb (hV : mV L p p' A) {k : Nat} (hk : IF 32 9 = nI k) (hk20 : k ≤ 20) {x z w m : Int32} {b : Bool} (hw : w = zbo b) (h1 : ∀ t s, t < L 1 → s < L 0 → x = nI t → z = nI s → (¬ m < 1 ∧ ¬ 120 < m) → gE L t s b = true → k < 20 → Q (.inl (some (.int (nI k + 1)))) (zM o ot it (yU 32 9 (nI k + 1) (yU 32 0 0 IF)) (va_up A (cond b 40 39) (upd (A (cond b 40 39)) (8 * t + s) (A (cond b 40 39) (8 * t + s) + m))) AL AD)) (h2 : ¬ zIn (L 1) x ∨ ¬ zIn (L 0) z → Q (.inl (some (.int 0))) (zM o ot it (yU 32 0 1 IF) A AL AD)) (h3 : zIn (L 1) x → zIn (L 0) z → ¬ (¬ m < 1 ∧ ¬ 120 < m) → Q (.inl (some (.int 0))) (zM o ot it (yU 32 0 2 IF) A AL AD)) (h4 : ∀ t s, t < L 1 → s < L 0 → x = nI t → z = nI s → (¬ m < 1 ∧ ¬ 120 < m) → gE L t s b = false → Q (.inl (some (.int 0))) (zM o ot it (yU 32 0 3 IF) A AL AD)) (h5 : ∀ t s, t < L 1 → s < L 0 → x = nI t → z = nI s → (¬ m < 1 ∧ ¬ 120 < m) → gE L t s b = true → 20 ≤ k → Q (.inl (some (.int 0))) (zM o ot it (yU 32 0 4 IF) A AL AD)) : zW ε false (d + 3) 187 0 [(0, .ref 32), (1, .int x), (2, .int z), (3, .int w), (4, .int m)] [] (zM o ot it IF A AL AD) 0 0 Q := by
  refine zrun 7 ⟨⟨Nat.le_of_ble_eq_true rfl, Nat.le_of_ble_eq_true rfl, rfl⟩, ?_⟩
  refine c_isTrain (IF := yU 32 0 0 IF) hV (fun v hv => ⟨rfl, ?_⟩)
  refine zrun 1 (zb_f rfl (fun g1 => ?_) (fun g1 => ?_))
  · refine zrun 3 ⟨⟨Nat.le_of_ble_eq_true rfl, Nat.le_of_ble_eq_true rfl, rfl⟩, ?_⟩
    refine c_may0 (IF := IF) (b := false) (by decide) rfl (fun q => Bool.noConfusion q) (fun _ => ⟨rfl, ?_⟩)
    refine zrun 1 (zb_f (b := false) rfl (fun _ => ?_) (fun q => Bool.noConfusion q))
    exact zrun 2 (h2 (Or.inl (fun q => by rw [hv.mpr q] at g1; exact Bool.noConfusion g1)))
  · refine zrun 3 ⟨⟨Nat.le_of_ble_eq_true rfl, Nat.le_of_ble_eq_true rfl, rfl⟩, ?_⟩
    refine c_isStation (IF := yU 32 0 0 IF) hV (fun v2 hv2 => ⟨rfl, ?_⟩)
    refine zrun 1 (zb_f rfl (fun g2 => ?_) (fun g2 => ?_))
    · refine zrun 3 ⟨⟨Nat.le_of_ble_eq_true rfl, Nat.le_of_ble_eq_true rfl, rfl⟩, ?_⟩
      refine c_may0 (IF := IF) (b := false) (by decide) rfl (fun q => Bool.noConfusion q) (fun _ => ⟨rfl, ?_⟩)
      refine zrun 1 (zb_f (b := false) rfl (fun _ => ?_) (fun q => Bool.noConfusion q))
      exact zrun 2 (h2 (Or.inr (fun q => by rw [hv2.mpr q] at g2; exact Bool.noConfusion g2)))
    · refine zrun 4 ⟨⟨Nat.le_of_ble_eq_true rfl, Nat.le_of_ble_eq_true rfl, rfl⟩, ?_⟩
      refine c_may0 (IF := IF) (b := true) (by decide) rfl (fun _ => ⟨rfl, ?_⟩) (fun q => Bool.noConfusion q)
      refine zrun 1 (zb_f (b := true) rfl (fun q => Bool.noConfusion q) (fun _ => ?_))
      refine zrun 5 ⟨⟨Nat.le_of_ble_eq_true rfl, Nat.le_of_ble_eq_true rfl, rfl⟩, ?_⟩
      refine c_isIn (fun v3 hv3 => ⟨rfl, ?_⟩)
      refine zrun 2 ⟨⟨Nat.le_of_ble_eq_true rfl, Nat.le_of_ble_eq_true rfl, rfl⟩, ?_⟩
      refine c_may0 (IF := IF) (by decide) rfl (fun b3 => ⟨rfl, ?_⟩) (fun b3 => ⟨rfl, ?_⟩)
      · refine zrun 1 (zb_f (b := true) rfl (fun q => Bool.noConfusion q) (fun _ => ?_))
        obtain ⟨t, ht, rfl⟩ := hv.mp g1
        obtain ⟨s, hs, rfl⟩ := hv2.mp g2
        have hB := hV.2.2.1
        refine zrun 6 ⟨⟨Nat.le_of_ble_eq_true rfl, Nat.le_of_ble_eq_true rfl, rfl⟩, ?_⟩
        refine c_isEvent (IF := yU 32 0 0 IF) hV rfl rfl hw (by omega) (by omega) ⟨rfl, ?_⟩
        refine zrun 2 ⟨⟨Nat.le_of_ble_eq_true rfl, Nat.le_of_ble_eq_true rfl, rfl⟩, ?_⟩
        refine c_may0 (IF := IF) (by decide) rfl (fun b4 => ⟨rfl, ?_⟩) (fun b4 => ⟨rfl, ?_⟩)
        · refine zrun 1 (zb_f (b := true) rfl (fun q => Bool.noConfusion q) (fun _ => ?_))
          refine zrun 5 (zb_ge (b := 20) hk rfl (by omega) (by omega) (fun g5 => ?_) (fun g5 => ?_))
          · refine zrun 3 ⟨⟨Nat.le_of_ble_eq_true rfl, Nat.le_of_ble_eq_true rfl, rfl⟩, ?_⟩
            refine c_may0 (IF := IF) (b := false) (by decide) rfl (fun q => Bool.noConfusion q) (fun _ => ⟨rfl, ?_⟩)
            refine zrun 1 (zb_t (b := false) rfl (fun q => Bool.noConfusion q) (fun _ => ?_))
            exact zrun 2 (h5 t s ht hs rfl rfl (hv3.mp b3) b4 g5)
          · refine zrun 4 ⟨⟨Nat.le_of_ble_eq_true rfl, Nat.le_of_ble_eq_true rfl, rfl⟩, ?_⟩
            refine c_may0 (IF := IF) (b := true) (by decide) rfl (fun _ => ⟨rfl, ?_⟩) (fun q => Bool.noConfusion q)
            refine zrun 1 (zb_t (b := true) rfl (fun _ => ?_) (fun q => Bool.noConfusion q))
            refine zrun 2 (zb_f hw (fun g6 => ?_) (fun g6 => ?_))
            · subst g6
              refine zrun 5 ⟨⟨Nat.le_of_ble_eq_true rfl, Nat.le_of_ble_eq_true rfl, rfl⟩, ?_⟩
              refine c_ix rfl rfl ⟨rfl, ?_⟩
              refine zrun 1 ?_
              refine zW_iald (n := 8 * t + s) rfl rfl rfl (by omega) (by decide) ?_
              refine zrun 2 ?_
              refine zW_iast (n := 8 * t + s) rfl rfl rfl (by omega) (by decide) ?_
              exact zrun 9 (by have e := h1 t s ht hs rfl rfl (hv3.mp b3) b4 g5; rw [← hk] at e; exact e)
            · subst g6
              refine zrun 5 ⟨⟨Nat.le_of_ble_eq_true rfl, Nat.le_of_ble_eq_true rfl, rfl⟩, ?_⟩
              refine c_ix rfl rfl ⟨rfl, ?_⟩
              refine zrun 1 ?_
              refine zW_iald (n := 8 * t + s) rfl rfl rfl (by omega) (by decide) ?_
              refine zrun 2 ?_
              refine zW_iast (n := 8 * t + s) rfl rfl rfl (by omega) (by decide) ?_
              exact zrun 10 (by have e := h1 t s ht hs rfl rfl (hv3.mp b3) b4 g5; rw [← hk] at e; exact e)
        · refine zrun 1 (zb_f (b := false) rfl (fun _ => ?_) (fun q => Bool.noConfusion q))
          exact zrun 2 (h4 t s ht hs rfl rfl (hv3.mp b3) b4)
      · refine zrun 1 (zb_f (b := false) rfl (fun _ => ?_) (fun q => Bool.noConfusion q))
        exact zrun 2 (h3 (hv.mp g1) (hv2.mp g2) (fun q => by rw [hv3.mpr q] at b3; exact Bool.noConfusion b3))
theorem cl_msp (hV : mV L p p' A) {t : Nat} (ht : t < L 1) : ∀ (n i v : Nat) (c : Int32), i + n = tr L t 1 → c = nI i → zW ε false (d + 1) 185 61 [(0, .ref 32), (1, .int (nI t)), (2, .int (nI (gSum L n i v)))] [] (zM o ot it IF A AL AD) 0 0 Q → zW ε false (d + 1) 185 33 [(0, .ref 32), (1, .int (nI t)), (2, .int (nI v)), (3, .int c)] [] (zM o ot it IF A AL AD) 0 0 Q := by
  have hB := hV.2.2.1
  have hT := hV.2.2.2.2.2.2 t ht
  intro n
  induction n with
  | zero =>
    intro i v c hi hc hq
    refine zrun 5 ⟨⟨Nat.le_of_ble_eq_true rfl, Nat.le_of_ble_eq_true rfl, rfl⟩, ?_⟩
    refine c_mof (w := 1) hV.1.1 rfl rfl (by omega) ⟨rfl, ?_⟩
    refine zrun 1 (zb_ge hc rfl (by omega) (by omega) (fun _ => ?_) (fun q => absurd q (by omega)))
    exact zfg [0, 1, 2] (zloc [(0, _), (1, _), (2, _)] rfl (hq))
  | succ n ih =>
    intro i v c hi hc hq
    subst hc
    refine zrun 5 ⟨⟨Nat.le_of_ble_eq_true rfl, Nat.le_of_ble_eq_true rfl, rfl⟩, ?_⟩
    refine c_mof (w := 1) hV.1.1 rfl rfl (by omega) ⟨rfl, ?_⟩
    refine zrun 1 (zb_ge rfl rfl (by omega) (by omega) (fun q => absurd q (by omega)) (fun _ => ?_))
    refine zrun 6 ?_
    refine zW_ildv (n := 13 + i) rfl rfl (show (13 : Int32) + nI i = _ by rw [show (13 : Int32) = nI 13 from rfl, nI_add]) (by omega) (by decide) (lf_at hV.1.1 _) ?_
    exact zrun 4 (zloc [(0, _), (1, _), (2, _), (3, _)] rfl (zloc [(0, _), (1, _), (2, .int (nI (v + L (13 + i)))), (3, _)] (by rw [← nI_add]; rfl) (ih (i + 1) (v + L (13 + i)) (nI i + 1) (by omega) (nI_1 i) hq)))
theorem c_mspeed (hV : mV L p p' A) {x : Int32} (hn : ∀ t, t < L 1 → vf_n64 (FP.ddiv (FP.i2d (nI (gSum L (tr L t 1 - tr L t 0) (tr L t 0) 0))) (FP.i2d (mLy false L p (L 0) 0 A 43 (8 * t + tr L t 1) - mLy false L p (L 0) 0 A 42 (8 * t + tr L t 0))))) (h1 : ∀ t, t < L 1 → x = nI t → Q (.inl (some (.double (FP.ddiv (FP.i2d (nI (gSum L (tr L t 1 - tr L t 0) (tr L t 0) 0))) (FP.i2d (mLy false L p (L 0) 0 A 43 (8 * t + tr L t 1) - mLy false L p (L 0) 0 A 42 (8 * t + tr L t 0))))))) (zMm false (yU 32 27 0 (yU 32 0 0 IF)) (mLy false L p (L 0) 0 A) AL AD)) (h2 : ¬ zIn (L 1) x → Q (.inl (some (.double FP.dconst0))) (zM o ot it (yU 32 0 1 IF) A AL AD)) : zW ε false (d + 6) 185 0 [(0, .ref 32), (1, .int x)] [] (zM o ot it IF A AL AD) 0 0 Q := by
  refine zrun 7 ⟨⟨Nat.le_of_ble_eq_true rfl, Nat.le_of_ble_eq_true rfl, rfl⟩, ?_⟩
  refine c_isTrain (IF := yU 32 0 0 IF) hV (fun v hv => ⟨rfl, ?_⟩)
  refine zrun 2 ⟨⟨Nat.le_of_ble_eq_true rfl, Nat.le_of_ble_eq_true rfl, rfl⟩, ?_⟩
  refine c_may0 (IF := IF) (by decide) rfl (fun b => ⟨rfl, ?_⟩) (fun b => ⟨rfl, ?_⟩)
  · refine zrun 1 (zb_t (b := true) rfl (fun _ => ?_) (fun q => Bool.noConfusion q))
    obtain ⟨t, ht, rfl⟩ := hv.mp b
    have hB := hV.2.2.1
    have hT := hV.2.2.2.2.2.2 t ht
    refine zrun 2 ⟨⟨Nat.le_of_ble_eq_true rfl, Nat.le_of_ble_eq_true rfl, rfl⟩, ?_⟩
    refine c_laysPlan (IF := yU 32 0 0 IF) hV ⟨rfl, ?_⟩
    refine zrun 5 (zloc [(0, _), (1, _), (2, _)] rfl ?_)
    refine zrun 1 ⟨⟨Nat.le_of_ble_eq_true rfl, Nat.le_of_ble_eq_true rfl, rfl⟩, ?_⟩
    refine c_mof (w := 0) (mV_ly (ac := false) (q := p) (n := L 0) (s := 0) hV).1.1 rfl rfl (by omega) ⟨rfl, ?_⟩
    refine zrun 1 (zloc [(0, _), (1, _), (2, _), (3, _)] rfl (cl_msp (d := d + 5) (mV_ly (ac := false) (q := p) (n := L 0) (s := 0) hV) ht (tr L t 1 - tr L t 0) (tr L t 0) 0 _ (by omega) rfl ?_))
    refine zrun 9 ⟨⟨Nat.le_of_ble_eq_true rfl, Nat.le_of_ble_eq_true rfl, rfl⟩, ?_⟩
    refine c_mof (w := 1) (mV_ly (ac := false) (q := p) (n := L 0) (s := 0) hV).1.1 rfl rfl (by omega) ⟨rfl, ?_⟩
    refine zrun 1 ⟨⟨Nat.le_of_ble_eq_true rfl, Nat.le_of_ble_eq_true rfl, rfl⟩, ?_⟩
    refine c_ix rfl rfl ⟨rfl, ?_⟩
    refine zW_iald (n := 8 * t + tr L t 1) rfl rfl rfl (by omega) (by decide) ?_
    refine zrun 7 ⟨⟨Nat.le_of_ble_eq_true rfl, Nat.le_of_ble_eq_true rfl, rfl⟩, ?_⟩
    refine c_mof (w := 0) (mV_ly (ac := false) (q := p) (n := L 0) (s := 0) hV).1.1 rfl rfl (by omega) ⟨rfl, ?_⟩
    refine zrun 1 ⟨⟨Nat.le_of_ble_eq_true rfl, Nat.le_of_ble_eq_true rfl, rfl⟩, ?_⟩
    refine c_ix rfl rfl ⟨rfl, ?_⟩
    refine zW_iald (n := 8 * t + tr L t 0) rfl rfl rfl (by omega) (by decide) ?_
    refine zrun 3 ⟨hn t ht, ?_⟩
    exact zrun 1 (h1 t ht rfl)
  · refine zrun 1 (zb_t (b := false) rfl (fun q => Bool.noConfusion q) (fun _ => ?_))
    exact zrun 2 (h2 (fun q => by rw [hv.mpr q] at b; exact Bool.noConfusion b))
theorem cl_mpu (hV : mV L p p' A) {x st : Int32} : ∀ (n i : Nat) (v : Int32) (c : Int32), i + n = L 1 → c = nI i → zW ε false (d) 193 83 [(0, .ref 32), (1, .int x), (2, .int st), (3, .int (mpu st n i v))] [] (zM o ot it IF A AL AD) 0 0 Q → zW ε false (d) 193 55 [(0, .ref 32), (1, .int x), (2, .int st), (3, .int v), (4, .int c)] [] (zM o ot it IF A AL AD) 0 0 Q := by
  have hB := hV.2.2.1
  intro n
  induction n with
  | zero =>
    intro i v c hi hc hq
    refine zrun 4 ?_
    refine zW_ildv (n := 1) rfl rfl rfl (by decide) (by decide) (lf_at hV.1.1 1) ?_
    refine zrun 1 (zb_ge hc rfl (by omega) (by omega) (fun _ => ?_) (fun q => absurd q (by omega)))
    exact zfg [0, 1, 2, 3] (zloc [(0, _), (1, _), (2, _), (3, _)] rfl (hq))
  | succ n ih =>
    intro i v c hi hc hq
    subst hc
    refine zrun 4 ?_
    refine zW_ildv (n := 1) rfl rfl rfl (by decide) (by decide) (lf_at hV.1.1 1) ?_
    refine zrun 1 (zb_ge rfl rfl (by omega) (by omega) (fun q => absurd q (by omega)) (fun _ => ?_))
    exact zrun 12 (zloc [(0, _), (1, _), (2, _), (3, _), (4, _)] rfl (ih (i + 1) _ (nI i + 1) (by omega) (nI_1 i) hq))
theorem c_mpunctuality (hV : mV L p p' A) {x : Int32} (hn : 0 < L 1 → vf_n64 (FP.ddiv (FP.i2d (mpu (mls (mLw L p p' A) L x (L 1) 0 0) (L 1) 0 0)) (FP.i2d (nI (L 1))))) (h1 : zIn 121 x → 0 < L 1 → Q (.inl (some (.double (FP.ddiv (FP.i2d (mpu (mls (mLw L p p' A) L x (L 1) 0 0) (L 1) 0 0)) (FP.i2d (nI (L 1))))))) (zMm true (yU 32 27 1 (yU 32 0 0 IF)) (mLw L p p' A) AL AD)) (h2 : ¬ zIn 121 x → Q (.inl (some (.double FP.dconst0))) (zM o ot it (yU 32 0 1 IF) A AL AD)) (h3 : zIn 121 x → L 1 = 0 → Q (.inl (some (.double FP.dconst0))) (zM o ot it (yU 32 0 2 IF) A AL AD)) : zW ε false (d + 8) 193 0 [(0, .ref 32), (1, .int x)] [] (zM o ot it IF A AL AD) 0 0 Q := by
  have hB := hV.2.2.1
  refine zrun 8 ⟨⟨Nat.le_of_ble_eq_true rfl, Nat.le_of_ble_eq_true rfl, rfl⟩, ?_⟩
  refine c_isIn (fun v hv => ⟨rfl, ?_⟩)
  refine zrun 2 ⟨⟨Nat.le_of_ble_eq_true rfl, Nat.le_of_ble_eq_true rfl, rfl⟩, ?_⟩
  refine c_may0 (IF := IF) (by decide) rfl (fun b => ⟨rfl, ?_⟩) (fun b => ⟨rfl, ?_⟩)
  · refine zrun 1 (zb_f (b := true) rfl (fun q => Bool.noConfusion q) (fun _ => ?_))
    refine zrun 4 ?_
    refine zW_ildv (n := 1) rfl rfl rfl (by decide) (by decide) (lf_at hV.1.1 1) ?_
    refine zrun 1 (zb_le (b := 0) rfl nI_0.symm (by omega) (by decide) (fun g => ?_) (fun g => ?_))
    · refine zrun 3 ⟨⟨Nat.le_of_ble_eq_true rfl, Nat.le_of_ble_eq_true rfl, rfl⟩, ?_⟩
      refine c_may0 (IF := IF) (b := false) (by decide) rfl (fun q => Bool.noConfusion q) (fun _ => ⟨rfl, ?_⟩)
      refine zrun 1 (zb_t (b := false) rfl (fun q => Bool.noConfusion q) (fun _ => ?_))
      exact zrun 2 (h3 ((zIn_c (n := 120) (by decide)).mp (hv.mp b)) (by omega))
    · refine zrun 4 ⟨⟨Nat.le_of_ble_eq_true rfl, Nat.le_of_ble_eq_true rfl, rfl⟩, ?_⟩
      refine c_may0 (IF := IF) (b := true) (by decide) rfl (fun _ => ⟨rfl, ?_⟩) (fun q => Bool.noConfusion q)
      refine zrun 1 (zb_t (b := true) rfl (fun _ => ?_) (fun q => Bool.noConfusion q))
      refine zrun 3 ⟨⟨Nat.le_of_ble_eq_true rfl, Nat.le_of_ble_eq_true rfl, rfl⟩, ?_⟩
      refine c_mlateSet (IF := yU 32 0 0 IF) hV ⟨rfl, ?_⟩
      refine zrun 5 (zloc [(0, _), (1, _), (2, _), (3, _), (4, _)] rfl (cl_mpu (d := d + 8) (mV_lw hV) (L 1) 0 0 0 (by omega) nI_0.symm ?_))
      refine zrun 5 ?_
      refine zW_ildv (n := 1) rfl rfl rfl (by decide) (by decide) (lf_at (mV_lw hV).1.1 1) ?_
      refine zrun 2 ⟨hn (by omega), ?_⟩
      exact zrun 1 (h1 ((zIn_c (n := 120) (by decide)).mp (hv.mp b)) (by omega))
  · refine zrun 1 (zb_f (b := false) rfl (fun _ => ?_) (fun q => Bool.noConfusion q))
    exact zrun 2 (h2 (fun q => by rw [hv.mpr ((zIn_c (n := 120) (by decide)).mpr q)] at b; exact Bool.noConfusion b))
end
