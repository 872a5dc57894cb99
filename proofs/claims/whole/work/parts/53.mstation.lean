/-! the reference: a station's times, the plan, the run -/
def mS1b (ac : Bool) (L p : Nat → Nat) (s t : Nat) (A : Nat → Nat → Int32) : Nat → Nat → Int32 := if s = 0 then A else if s < L 0 - 1 ∧ L (5 + s) = 0 then mDe ac L p t s (mAr ac L p t s A) else mAr ac L p t s A
def mS1 (ac : Bool) (L p : Nat → Nat) (s : Nat) : Nat → Nat → (Nat → Nat → Int32) → Nat → Nat → Int32
  | 0, _, A => A
  | n + 1, k, A => mS1 ac L p s n (k + 1) (mS1b ac L p s (p (8 * (s - 1) + k)) A)
def mKb (A : Nat → Nat → Int32) (L : Nat → Nat) (s c : Nat) : Bool := decide (A 45 (8 * lk L c 0 + s) + nI (lk L c 3) ≤ A 42 (8 * lk L c 1 + s) + nI (L 4))
def mKc (L : Nat → Nat) (s : Nat) : Nat → Nat → (Nat → Nat → Int32) → Nat → Nat → Int32
  | 0, _, A => A
  | n + 1, c, A => mKc L s n (c + 1) (if lk L c 2 = s then va_up A 46 (upd (A 46) c (zbo (mKb A L s c))) else A)
def mKp (ac : Bool) (L : Nat → Nat) (s : Nat) (A : Nat → Nat → Int32) : Nat → Nat → Int32 := cond ac (mKc L s (L 2) 0 A) A
def mS3b (ac : Bool) (L p : Nat → Nat) (s t : Nat) (A : Nat → Nat → Int32) : Nat → Nat → Int32 := if s < L 0 - 1 ∧ (s = 0 ∨ ¬ L (5 + s) = 0) then mDe ac L p t s A else A
def mS3 (ac : Bool) (L p : Nat → Nat) (s : Nat) : Nat → Nat → (Nat → Nat → Int32) → Nat → Nat → Int32
  | 0, _, A => A
  | n + 1, k, A => mS3 ac L p s n (k + 1) (mS3b ac L p s (p (8 * s + k)) A)
def mSt (ac : Bool) (L p : Nat → Nat) (s : Nat) (A : Nat → Nat → Int32) : Nat → Nat → Int32 := mS3 ac L p s (L 1) 0 (mKp ac L s (mS1 ac L p s (L 1) 0 A))
def mLy (ac : Bool) (L p : Nat → Nat) : Nat → Nat → (Nat → Nat → Int32) → Nat → Nat → Int32
  | 0, _, A => A
  | n + 1, s, A => mLy ac L p n (s + 1) (mSt ac L p s A)
section
variable {L p : Nat → Nat} {ac : Bool} {k : Nat}
theorem mAr_o (h : ¬ k = mi ac) {t s : Nat} {A : Nat → Nat → Int32} : mAr ac L p t s A k = A k := by
  unfold mAr
  cases gA L t s
  · rfl
  · exact if_neg h
theorem mDe_o (h : ¬ k = mu ac) {t s : Nat} {A : Nat → Nat → Int32} : mDe ac L p t s A k = A k := by
  unfold mDe
  cases gD L t s
  · rfl
  · exact if_neg h
theorem mS1b_o (h : ¬ k = mi ac) (h2 : ¬ k = mu ac) {t s : Nat} {A : Nat → Nat → Int32} : mS1b ac L p s t A k = A k := by
  unfold mS1b
  split
  · rfl
  · split
    · rw [mDe_o h2, mAr_o h]
    · rw [mAr_o h]
theorem mS1_o (h : ¬ k = mi ac) (h2 : ¬ k = mu ac) {s : Nat} : ∀ (n i : Nat) (A : Nat → Nat → Int32), mS1 ac L p s n i A k = A k
  | 0, _, _ => rfl
  | n + 1, i, A => by unfold mS1; rw [mS1_o h h2 n, mS1b_o h h2]
theorem mKc_o (h : ¬ k = 46) {s : Nat} : ∀ (n i : Nat) (A : Nat → Nat → Int32), mKc L s n i A k = A k
  | 0, _, _ => rfl
  | n + 1, i, A => by
    unfold mKc
    rw [mKc_o h n]
    split
    · exact if_neg h
    · rfl
theorem mKp_o (h : ¬ k = 46) {s : Nat} {A : Nat → Nat → Int32} : mKp ac L s A k = A k := by
  unfold mKp
  cases ac
  · rfl
  · exact mKc_o h _ _ _
theorem mS3b_o (h2 : ¬ k = mu ac) {t s : Nat} {A : Nat → Nat → Int32} : mS3b ac L p s t A k = A k := by
  unfold mS3b
  split
  · exact mDe_o h2
  · rfl
theorem mS3_o (h2 : ¬ k = mu ac) {s : Nat} : ∀ (n i : Nat) (A : Nat → Nat → Int32), mS3 ac L p s n i A k = A k
  | 0, _, _ => rfl
  | n + 1, i, A => by unfold mS3; rw [mS3_o h2 n, mS3b_o h2]
theorem mSt_o (h : ¬ k = mi ac) (h2 : ¬ k = mu ac) (h3 : ¬ k = 46) {s : Nat} {A : Nat → Nat → Int32} : mSt ac L p s A k = A k := by
  unfold mSt
  rw [mS3_o h2, mKp_o h3, mS1_o h h2]
theorem mLy_o (h : ¬ k = mi ac) (h2 : ¬ k = mu ac) (h3 : ¬ k = 46) : ∀ (n s : Nat) (A : Nat → Nat → Int32), mLy ac L p n s A k = A k
  | 0, _, _ => rfl
  | n + 1, i, A => by unfold mLy; rw [mLy_o h h2 h3 n, mSt_o h h2 h3]
end
theorem mo_i (ac : Bool) : ¬ mo ac = mi ac ∧ ¬ mo ac = mu ac ∧ ¬ mo ac = 46 := by cases ac <;> decide
theorem m33_i (ac : Bool) : ¬ 33 = mi ac ∧ ¬ 33 = mu ac := by cases ac <;> decide
section
variable {ε : Nat × (Nat → Int32)} {d : Nat} {Q : zQ} {IF : Nat → Nat → Int32} {AL : Nat → Nat → Int64} {AD : Nat → Nat → UInt64} {L p : Nat → Nat} {ac : Bool}
theorem cl_s1 (hl : lB L) (hS : L 0 ≤ 8) (hM : L 1 ≤ 8) (hN : L 2 ≤ 8) (h8 : ∀ g, g < L 0 - 1 → ∀ k, k < L 1 → p (8 * g + k) < 8) (hk8 : ∀ c, c < L 2 → lk L c 0 < 8 ∧ lk L c 1 < 8) (hi : IF 32 27 = zbo ac) {s : Nat} (hs : s < L 0) : ∀ (n k : Nat) (A : Nat → Nat → Int32) (c : Int32), A 33 = lf L → A (mo ac) = lf p → k + n = L 1 → c = nI k → zW ε false (d + 4) 164 84 [(0, .ref 32), (1, .int (nI s)), (2, .int (nI (L 0 - 1)))] [] (zMm ac IF (mS1 ac L p s n k A) AL AD) 0 0 Q → zW ε false (d + 4) 164 11 [(0, .ref 32), (1, .int (nI s)), (2, .int (nI (L 0 - 1))), (3, .int c)] [] (zMm ac IF A AL AD) 0 0 Q := by
  have hs31 : s < 2 ^ 31 := by omega
  intro n
  induction n with
  | zero =>
    intro k A c hL hp hk hc hq
    cases ac
    all_goals
      refine zrun 4 ?_
      refine zW_ildv (n := 1) rfl rfl rfl (by decide) (by decide) (lf_at hL 1) ?_
      refine zrun 1 (zb_ge hc rfl (by omega) (Nat.lt_trans (hl _ (by omega)) (by decide)) (fun _ => ?_) (fun q => absurd q (by omega)))
      exact zfg [0, 1, 2] (zloc [(0, _), (1, _), (2, _)] rfl (hq))
  | succ n ih =>
    intro k A c hL hp hk hc hq
    subst hc
    unfold mS1 at hq
    have next : ∀ A' : Nat → Nat → Int32, A' = mS1b ac L p s (p (8 * (s - 1) + k)) A → zW ε false (d + 4) 164 11 [(0, .ref 32), (1, .int (nI s)), (2, .int (nI (L 0 - 1))), (3, .int (nI k + 1))] [] (zMm ac IF A' AL AD) 0 0 Q := fun A' e => ih (k + 1) A' (nI k + 1) (by rw [e, mS1b_o (m33_i ac).1 (m33_i ac).2]; exact hL) (by rw [e, mS1b_o (mo_i ac).1 (mo_i ac).2.1]; exact hp) (by omega) (nI_1 k) (by rw [e]; exact hq)
    have hL' : ∀ t, mAr ac L p t s A 33 = lf L := fun t => by rw [mAr_o (m33_i ac).1]; exact hL
    have hp' : ∀ t, mAr ac L p t s A (mo ac) = lf p := fun t => by rw [mAr_o (mo_i ac).1]; exact hp
    have k0 := fun q => c_isPlain (ε := ε) (d := d + 3) (Q := q) (o := .ref (mo ac)) (ot := .ref (mu ac)) (it := .ref (mi ac)) (IF := IF) (AL := AL) (AD := AD) (hL' (p (8 * (s - 1) + k))) hl (x := nI s) rfl (show 5 + s < 92 by omega)
    have k1 := fun (hs1 : 1 ≤ s) q => c_laysArrival (ε := ε) (d := d) (Q := q) (IF := IF) (AL := AL) (AD := AD) hL hl hp (h8 (s - 1) (by omega) k (by omega)) (show s < 8 by omega) hM (h8 (s - 1) (by omega)) (x := nI (p (8 * (s - 1) + k))) (z := nI s) rfl rfl
    have k2 := fun (hs1 : 1 ≤ s) (hs2 : s < L 0 - 1) q => c_laysDeparture (ε := ε) (d := d) (Q := q) (IF := IF) (AL := AL) (AD := AD) (hL' (p (8 * (s - 1) + k))) hl (hp' (p (8 * (s - 1) + k))) (h8 (s - 1) (by omega) k (by omega)) (show s < 7 by omega) hM hN (h8 s hs2) (fun c hc => (hk8 c hc).1) (x := nI (p (8 * (s - 1) + k))) (z := nI s) rfl rfl
    have hpk := lf_at (hp' (p (8 * (s - 1) + k))) (8 * (s - 1) + k)
    cases ac
    all_goals
      refine zrun 4 ?_
      refine zW_ildv (n := 1) rfl rfl rfl (by decide) (by decide) (lf_at hL 1) ?_
      refine zrun 1 (zb_ge rfl rfl (by omega) (Nat.lt_trans (hl _ (by omega)) (by decide)) (fun q => absurd q (by omega)) (fun _ => ?_))
      refine zrun 2 (zb_le (b := 0) rfl nI_0.symm hs31 (by decide) (fun g0 => ?_) (fun g0 => ?_))
      · refine zrun 2 (zb_le (b := 0) rfl nI_0.symm hs31 (by decide) (fun _ => ?_) (fun q => absurd q (by omega)))
        exact zrun 2 (zloc [(0, _), (1, _), (2, _), (3, _)] rfl (next A (show A = mS1b _ L p s (p (8 * (s - 1) + k)) A from (if_pos (by omega)).symm)))
      · refine zrun 10 ?_
        refine zW_ildv (n := 8 * (s - 1) + k) rfl rfl (nI8 (nIp rfl g0) rfl) (by omega) (by decide) (lf_at hp _) ?_
        refine zrun 2 ⟨⟨Nat.le_of_ble_eq_true rfl, Nat.le_of_ble_eq_true rfl, rfl⟩, ?_⟩
        refine k1 g0 _ ⟨rfl, ?_⟩ hi
        refine zrun 2 (zb_le (b := 0) rfl nI_0.symm hs31 (by decide) (fun q => absurd q (by omega)) (fun _ => ?_))
        refine zrun 3 (zb_ge rfl rfl hs31 (by omega) (fun g1 => ?_) (fun g1 => ?_))
        · exact zrun 2 (zloc [(0, _), (1, _), (2, _), (3, _)] rfl (next _ (show _ = mS1b _ L p s (p (8 * (s - 1) + k)) A by unfold mS1b; rw [if_neg (by omega), if_neg (by omega)])))
        · refine zrun 3 ⟨⟨Nat.le_of_ble_eq_true rfl, Nat.le_of_ble_eq_true rfl, rfl⟩, ?_⟩
          refine k0 _ (fun v hv => ⟨rfl, ?_⟩)
          refine zrun 1 (zb_f rfl (fun g2 => ?_) (fun g2 => ?_))
          · exact zrun 2 (zloc [(0, _), (1, _), (2, _), (3, _)] rfl (next _ (show _ = mS1b _ L p s (p (8 * (s - 1) + k)) A by unfold mS1b; rw [if_neg (by omega), if_neg (fun q => by rw [hv.mpr q.2] at g2; exact Bool.noConfusion g2)])))
          · refine zrun 10 ?_
            refine zW_ildv (n := 8 * (s - 1) + k) rfl rfl (nI8 (nIp rfl g0) rfl) (by omega) (by decide) hpk ?_
            refine zrun 2 ⟨⟨Nat.le_of_ble_eq_true rfl, Nat.le_of_ble_eq_true rfl, rfl⟩, ?_⟩
            refine k2 g0 g1 _ ⟨rfl, ?_⟩ hi
            exact zrun 2 (zloc [(0, _), (1, _), (2, _), (3, _)] rfl (next _ (show _ = mS1b _ L p s (p (8 * (s - 1) + k)) A by unfold mS1b; rw [if_neg (by omega), if_pos ⟨g1, hv.mp g2⟩])))
theorem i32_ngt {x y : Int32} (h : y < x) : ¬ x ≤ y := by
  rw [Int32.lt_iff_toInt_lt] at h
  rw [Int32.le_iff_toInt_le]
  omega
theorem nar_b (b : Bool) : vp_nar .boolean (zbo b) = zbo b := by cases b <;> decide
theorem cl_s2 (hl : lB L) (hS : L 0 ≤ 8) (hM : L 1 ≤ 8) (hN : L 2 ≤ 8) (h8 : ∀ g, g < L 0 - 1 → ∀ k, k < L 1 → p (8 * g + k) < 8) (hk8 : ∀ c, c < L 2 → lk L c 0 < 8 ∧ lk L c 1 < 8) (hi : IF 32 27 = zbo ac) {s : Nat} (hs : s < L 0) : ∀ (n k : Nat) (A : Nat → Nat → Int32) (c : Int32), ac = true → A 33 = lf L → k + n = L 2 → c = nI k → zW ε false (d + 4) 164 177 [(0, .ref 32), (1, .int (nI s)), (2, .int (nI (L 0 - 1)))] [] (zMm ac IF (mKc L s n k A) AL AD) 0 0 Q → zW ε false (d + 4) 164 86 [(0, .ref 32), (1, .int (nI s)), (2, .int (nI (L 0 - 1))), (3, .int c)] [] (zMm ac IF A AL AD) 0 0 Q := by
  have hs31 : s < 2 ^ 31 := by omega
  intro n
  induction n with
  | zero =>
    intro k A c ha hL hk hc hq
    subst ha
    refine zrun 4 ?_
    refine zW_ildv (n := 2) rfl rfl rfl (by decide) (by decide) (lf_at hL 2) ?_
    refine zrun 1 (zb_ge hc rfl (by omega) (Nat.lt_trans (hl _ (by omega)) (by decide)) (fun _ => ?_) (fun q => absurd q (by omega)))
    exact zfg [0, 1, 2] (zloc [(0, _), (1, _), (2, _)] rfl (hq))
  | succ n ih =>
    intro k A c ha hL hk hc hq
    subst hc
    have hk8' := hk8 k (by omega)
    unfold mKc at hq
    have next : ∀ A' : Nat → Nat → Int32, A' = (if lk L k 2 = s then va_up A 46 (upd (A 46) k (zbo (mKb A L s k))) else A) → zW ε false (d + 4) 164 86 [(0, .ref 32), (1, .int (nI s)), (2, .int (nI (L 0 - 1))), (3, .int (nI k + 1))] [] (zMm ac IF A' AL AD) 0 0 Q := fun A' e => ih (k + 1) A' (nI k + 1) ha (by rw [e]; split; exact hL; exact hL) (by omega) (nI_1 k) (by rw [e]; exact hq)
    have hl2 : lk L k 2 < 2 ^ 31 := Nat.lt_trans (hl (60 + 4 * k + 2) (by omega)) (by decide)
    subst ha
    refine zrun 4 ?_
    refine zW_ildv (n := 2) rfl rfl rfl (by decide) (by decide) (lf_at hL 2) ?_
    refine zrun 1 (zb_ge rfl rfl (by omega) (Nat.lt_trans (hl _ (by omega)) (by decide)) (fun q => absurd q (by omega)) (fun _ => ?_))
    refine zrun 3 (zb_f hi (fun q => Bool.noConfusion q) (fun _ => ?_))
    refine zrun 4 ⟨⟨Nat.le_of_ble_eq_true rfl, Nat.le_of_ble_eq_true rfl, rfl⟩, ?_⟩
    refine c_mlink (w := 2) hL rfl rfl (by omega) ⟨rfl, ?_⟩
    refine zrun 2 (zb_ne rfl rfl hl2 hs31 (fun g1 => ?_) (fun g1 => ?_))
    · exact zrun 2 (zloc [(0, _), (1, _), (2, _), (3, _)] rfl (next A (if_neg g1).symm))
    · refine zrun 9 ⟨⟨Nat.le_of_ble_eq_true rfl, Nat.le_of_ble_eq_true rfl, rfl⟩, ?_⟩
      refine c_mlink (w := 0) hL rfl rfl (by omega) ⟨rfl, ?_⟩
      refine zrun 2 ⟨⟨Nat.le_of_ble_eq_true rfl, Nat.le_of_ble_eq_true rfl, rfl⟩, ?_⟩
      refine c_ix rfl rfl ⟨rfl, ?_⟩
      refine zW_iald (n := 8 * lk L k 0 + s) rfl rfl rfl (by omega) (by decide) ?_
      refine zrun 4 ⟨⟨Nat.le_of_ble_eq_true rfl, Nat.le_of_ble_eq_true rfl, rfl⟩, ?_⟩
      refine c_mlink (w := 3) hL rfl rfl (by omega) ⟨rfl, ?_⟩
      refine zrun 7 ⟨⟨Nat.le_of_ble_eq_true rfl, Nat.le_of_ble_eq_true rfl, rfl⟩, ?_⟩
      refine c_mlink (w := 1) hL rfl rfl (by omega) ⟨rfl, ?_⟩
      refine zrun 2 ⟨⟨Nat.le_of_ble_eq_true rfl, Nat.le_of_ble_eq_true rfl, rfl⟩, ?_⟩
      refine c_ix rfl rfl ⟨rfl, ?_⟩
      refine zW_iald (n := 8 * lk L k 1 + s) rfl rfl rfl (by omega) (by decide) ?_
      refine zrun 3 ?_
      refine zW_ildv (n := 4) rfl rfl rfl (by decide) (by decide) (lf_at hL 4) ?_
      refine zrun 2 ⟨(fun g2 => ?_), (fun g2 => ?_)⟩
      · refine zrun 1 ?_
        refine zW_zast (n := k) rfl rfl rfl (by omega) (by decide) ?_
        exact zrun 2 (zloc [(0, _), (1, _), (2, _), (3, _)] rfl (next _ (by rw [if_pos g1, show mKb A L s k = false from decide_eq_false (i32_ngt g2)]; rfl)))
      · refine zrun 2 ?_
        refine zW_zast (n := k) rfl rfl rfl (by omega) (by decide) ?_
        exact zrun 2 (zloc [(0, _), (1, _), (2, _), (3, _)] rfl (next _ (by rw [if_pos g1, show mKb A L s k = true from decide_eq_true (i32_nlt g2)]; rfl)))
theorem cl_s3 (hl : lB L) (hS : L 0 ≤ 8) (hM : L 1 ≤ 8) (hN : L 2 ≤ 8) (h8 : ∀ g, g < L 0 - 1 → ∀ k, k < L 1 → p (8 * g + k) < 8) (hk8 : ∀ c, c < L 2 → lk L c 0 < 8 ∧ lk L c 1 < 8) (hi : IF 32 27 = zbo ac) {s : Nat} (hs : s < L 0) : ∀ (n k : Nat) (A : Nat → Nat → Int32) (c : Int32), A 33 = lf L → A (mo ac) = lf p → k + n = L 1 → c = nI k → Q (.inl none) (zMm ac IF (mS3 ac L p s n k A) AL AD) → zW ε false (d + 4) 164 179 [(0, .ref 32), (1, .int (nI s)), (2, .int (nI (L 0 - 1))), (3, .int c)] [] (zMm ac IF A AL AD) 0 0 Q := by
  have hs31 : s < 2 ^ 31 := by omega
  intro n
  induction n with
  | zero =>
    intro k A c hL hp hk hc hq
    cases ac
    all_goals
      refine zrun 4 ?_
      refine zW_ildv (n := 1) rfl rfl rfl (by decide) (by decide) (lf_at hL 1) ?_
      refine zrun 1 (zb_ge hc rfl (by omega) (Nat.lt_trans (hl _ (by omega)) (by decide)) (fun _ => ?_) (fun q => absurd q (by omega)))
      exact zrun 1 (hq)
  | succ n ih =>
    intro k A c hL hp hk hc hq
    subst hc
    have hid : ¬ s < L 0 - 1 → mS3 ac L p s (n + 1) k A = A := by
      intro g
      have e : ∀ (m j : Nat), mS3 ac L p s m j A = A := by
        intro m
        induction m with
        | zero => intro j; rfl
        | succ m im => intro j; unfold mS3; rw [show mS3b ac L p s (p (8 * s + j)) A = A from if_neg (fun q => g q.1)]; exact im (j + 1)
      exact e (n + 1) k
    have hq0 := hq
    unfold mS3 at hq
    have next : ∀ A' : Nat → Nat → Int32, A' = mS3b ac L p s (p (8 * s + k)) A → zW ε false (d + 4) 164 179 [(0, .ref 32), (1, .int (nI s)), (2, .int (nI (L 0 - 1))), (3, .int (nI k + 1))] [] (zMm ac IF A' AL AD) 0 0 Q := fun A' e => ih (k + 1) A' (nI k + 1) (by rw [e, mS3b_o (m33_i ac).2]; exact hL) (by rw [e, mS3b_o (mo_i ac).2.1]; exact hp) (by omega) (nI_1 k) (by rw [e]; exact hq)
    have k2 := fun (hs2 : s < L 0 - 1) q => c_laysDeparture (ε := ε) (d := d) (Q := q) (IF := IF) (AL := AL) (AD := AD) hL hl hp (h8 s hs2 k (by omega)) (show s < 7 by omega) hM hN (h8 s hs2) (fun c hc => (hk8 c hc).1) (x := nI (p (8 * s + k))) (z := nI s) rfl rfl
    cases ac
    all_goals
      refine zrun 4 ?_
      refine zW_ildv (n := 1) rfl rfl rfl (by decide) (by decide) (lf_at hL 1) ?_
      refine zrun 1 (zb_ge rfl rfl (by omega) (Nat.lt_trans (hl _ (by omega)) (by decide)) (fun q => absurd q (by omega)) (fun _ => ?_))
      refine zrun 3 (zb_ge rfl rfl hs31 (by omega) (fun g1 => ?_) (fun g1 => ?_))
      · exact zrun 1 (by rw [hid (by omega)] at hq0; exact hq0)
      · refine zrun 2 (zb_eq (b := 0) rfl nI_0.symm hs31 (by decide) (fun g0 => ?_) (fun g0 => ?_))
        · refine zrun 8 ?_
          refine zW_ildv (n := 8 * s + k) rfl rfl (nI8 rfl rfl) (by omega) (by decide) (lf_at hp _) ?_
          refine zrun 2 ⟨⟨Nat.le_of_ble_eq_true rfl, Nat.le_of_ble_eq_true rfl, rfl⟩, ?_⟩
          refine k2 g1 _ ⟨rfl, ?_⟩ hi
          exact zrun 2 (zloc [(0, _), (1, _), (2, _), (3, _)] rfl (next _ (show _ = mS3b _ L p s (p (8 * s + k)) A from (if_pos ⟨g1, Or.inl g0⟩).symm)))
        · refine zrun 3 ⟨⟨Nat.le_of_ble_eq_true rfl, Nat.le_of_ble_eq_true rfl, rfl⟩, ?_⟩
          refine c_isPlain hL hl rfl (by omega) (fun v hv => ⟨rfl, ?_⟩)
          refine zrun 1 (zb_t rfl (fun g2 => ?_) (fun g2 => ?_))
          · exact zrun 2 (zloc [(0, _), (1, _), (2, _), (3, _)] rfl (next A (show A = mS3b _ L p s (p (8 * s + k)) A from (if_neg (fun q => q.2.elim g0 (fun z => z (hv.mp g2)))).symm)))
          · refine zrun 8 ?_
            refine zW_ildv (n := 8 * s + k) rfl rfl (nI8 rfl rfl) (by omega) (by decide) (lf_at hp _) ?_
            refine zrun 2 ⟨⟨Nat.le_of_ble_eq_true rfl, Nat.le_of_ble_eq_true rfl, rfl⟩, ?_⟩
            refine k2 g1 _ ⟨rfl, ?_⟩ hi
            exact zrun 2 (zloc [(0, _), (1, _), (2, _), (3, _)] rfl (next _ (show _ = mS3b _ L p s (p (8 * s + k)) A from (if_pos ⟨g1, Or.inr (fun z => by rw [hv.mpr z] at g2; exact Bool.noConfusion g2)⟩).symm)))
theorem c_laysStation (hl : lB L) (hS : L 0 ≤ 8) (hM : L 1 ≤ 8) (hN : L 2 ≤ 8) (h8 : ∀ g, g < L 0 - 1 → ∀ k, k < L 1 → p (8 * g + k) < 8) (hk8 : ∀ c, c < L 2 → lk L c 0 < 8 ∧ lk L c 1 < 8) (hi : IF 32 27 = zbo ac) {s : Nat} (hs : s < L 0) {A : Nat → Nat → Int32} (hL : A 33 = lf L) (hp : A (mo ac) = lf p) {x : Int32} (hx : x = nI s) (hq : Q (.inl none) (zMm ac IF (mSt ac L p s A) AL AD)) : zW ε false (d + 4) 164 0 [(0, .ref 32), (1, .int x)] [] (zMm ac IF A AL AD) 0 0 Q := by
  subst hx
  have hS' : nI (L 0) - 1 = nI (L 0 - 1) := nIp rfl (by omega)
  have b1 : ¬ 33 = mi ac := (m33_i ac).1
  have a1 : mS1 ac L p s (L 1) 0 A 33 = lf L := by rw [mS1_o (m33_i ac).1 (m33_i ac).2]; exact hL
  have a2 : mS1 ac L p s (L 1) 0 A (mo ac) = lf p := by rw [mS1_o (mo_i ac).1 (mo_i ac).2.1]; exact hp
  have a3 : mKp ac L s (mS1 ac L p s (L 1) 0 A) 33 = lf L := by rw [mKp_o (by decide)]; exact a1
  have a4 : mKp ac L s (mS1 ac L p s (L 1) 0 A) (mo ac) = lf p := by rw [mKp_o (mo_i ac).2.2]; exact a2
  unfold mSt at hq
  have s3 := cl_s3 (ε := ε) (d := d) (Q := Q) (AL := AL) (AD := AD) hl hS hM hN h8 hk8 hi hs (L 1) 0 _ 0 a3 a4 (by omega) nI_0.symm hq
  have s2 : zW ε false (d + 4) 164 84 [(0, .ref 32), (1, .int (nI s)), (2, .int (nI (L 0 - 1)))] [] (zMm ac IF (mS1 ac L p s (L 1) 0 A) AL AD) 0 0 Q := by
    cases ac with
    | false =>
      by_cases g : L 2 = 0
      · have hz : (nI (L 2) : Int32) = nI 0 := by rw [g]
        refine zrun 6 (zloc [(0, _), (1, _), (2, _), (3, _)] rfl ?_)
        refine zW_ildv (n := 2) rfl rfl rfl (by decide) (by decide) (lf_at a1 2) ?_
        refine zrun 1 (zb_ge (a := 0) nI_0.symm rfl (by decide) (by omega) (fun _ => ?_) (fun q => absurd q (by omega)))
        exact zrun 2 (zloc [(0, _), (1, _), (2, _), (3, _)] rfl (s3))
      · skip
        refine zrun 6 (zloc [(0, _), (1, _), (2, _), (3, _)] rfl ?_)
        refine zW_ildv (n := 2) rfl rfl rfl (by decide) (by decide) (lf_at a1 2) ?_
        refine zrun 1 (zb_ge (a := 0) nI_0.symm rfl (by decide) (by omega) (fun q => absurd q (by omega)) (fun _ => ?_))
        refine zrun 3 (zb_f hi (fun _ => ?_) (fun q => Bool.noConfusion q))
        exact zrun 2 (zloc [(0, _), (1, _), (2, _), (3, _)] rfl (s3))
    | true =>
      refine zrun 2 (zloc [(0, _), (1, _), (2, _), (3, _)] rfl (cl_s2 hl hS hM hN h8 hk8 hi hs (L 2) 0 _ 0 rfl a1 (by omega) nI_0.symm ?_))
      exact zrun 2 (zloc [(0, _), (1, _), (2, _), (3, _)] rfl (s3))
  cases ac
  all_goals
    refine zrun 3 ?_
    refine zW_ildv (n := 0) rfl rfl rfl (by decide) (by decide) ((lf_at hL 0).trans rfl) ?_
    refine zrun 5 (zloc [(0, .ref 32), (1, .int (nI s)), (2, .int (nI (L 0) - 1)), (3, .int 0)] rfl ?_)
    rw [hS']
    exact cl_s1 hl hS hM hN h8 hk8 hi hs (L 1) 0 A 0 hL hp (by omega) nI_0.symm s2
end
