/-! class and reference side by side: the text -/
theorem by_255 (x : Int32) : x.toInt8.toInt32 &&& 255 = x &&& 255 := by
  apply Int32.toBitVec_inj.mp
  rw [Int32.toBitVec_and, Int32.toBitVec_and, Int8.toBitVec_toInt32, Int32.toBitVec_toInt8]
  apply BitVec.eq_of_getLsbD_eq
  intro i hi
  rw [BitVec.getLsbD_and, BitVec.getLsbD_and]
  have hm : ∀ i < 32, 8 ≤ i → (255 : Int32).toBitVec.getLsbD i = false := by decide
  rcases Nat.lt_or_ge i 8 with z | z
  · rw [BitVec.getLsbD_signExtend, BitVec.getLsbD_signExtend, if_pos z, if_pos hi]
    simp only [z, hi, decide_true, Bool.true_and]
  · rw [hm i hi z]; simp
theorem xab_v {v : Int32} {m : Nat} {A : Nat → Nat → Int32} : (∀ j, j < 4 → xab v m A 3 (m + j) &&& 255 = (v >>> (nI (24 - 8 * j) &&& 31)) &&& 255) ∧ (∀ e, (e < m ∨ m + 4 ≤ e) → xab v m A 3 e = A 3 e) ∧ ∃ f, xab v m A = va_up A 3 f := by
  have e3 : xab v m A 3 = upd (upd (upd (upd (A 3) m ((v >>> ((24 : Int32) &&& 31)).toInt8.toInt32)) (m + 1) ((v >>> ((16 : Int32) &&& 31)).toInt8.toInt32)) (m + 2) ((v >>> ((8 : Int32) &&& 31)).toInt8.toInt32)) (m + 3) ((v >>> ((0 : Int32) &&& 31)).toInt8.toInt32) := rfl
  refine ⟨fun j hj => ?_, fun e he => ?_, vu_ex (vu_ex (vu_ex ⟨_, rfl⟩ ⟨_, rfl⟩) ⟨_, rfl⟩) ⟨_, rfl⟩⟩
  · rw [e3]
    match j, hj with
    | 0, _ => rw [upd_n (by omega), upd_n (by omega), upd_n (by omega), Nat.add_zero, upd_s, by_255]; rfl
    | 1, _ => rw [upd_n (by omega), upd_n (by omega), upd_s, by_255]; rfl
    | 2, _ => rw [upd_n (by omega), upd_s, by_255]; rfl
    | 3, _ => rw [upd_s, by_255]; rfl
    | j + 4, h => exact absurd h (by omega)
  · rw [e3, upd_n (by omega), upd_n (by omega), upd_n (by omega), upd_n (by omega)]
def xapp (a b c e f : Int32) (n : Nat) (A : Nat → Nat → Int32) : Nat → Nat → Int32 := xab f (n + 16) (xab e (n + 12) (xab c (n + 8) (xab b (n + 4) (xab a n A))))
theorem app_v {a b c e f : Int32} {n : Nat} {A : Nat → Nat → Int32} : (∀ i, i < 20 → xapp a b c e f n A 3 (n + i) &&& 255 = mby a b c e f i) ∧ (∀ i, i < n → xapp a b c e f n A 3 i = A 3 i) ∧ ∃ g, xapp a b c e f n A = va_up A 3 g := by
  unfold xapp
  refine ⟨fun i hi => ?_, fun i hi => ?_, ?_⟩
  · unfold mby mwd
    by_cases h1 : i < 4
    · rw [if_pos h1, xab_v.2.1 _ (by omega), xab_v.2.1 _ (by omega), xab_v.2.1 _ (by omega), xab_v.2.1 _ (by omega), xab_v.1 i h1, show i % 4 = i by omega]
    · by_cases h2 : i < 8
      · rw [if_neg h1, if_pos h2, xab_v.2.1 _ (by omega), xab_v.2.1 _ (by omega), xab_v.2.1 _ (by omega), show n + i = n + 4 + (i - 4) by omega, xab_v.1 (i - 4) (by omega), show i % 4 = i - 4 by omega]
      · by_cases h3 : i < 12
        · rw [if_neg h1, if_neg h2, if_pos h3, xab_v.2.1 _ (by omega), xab_v.2.1 _ (by omega), show n + i = n + 8 + (i - 8) by omega, xab_v.1 (i - 8) (by omega), show i % 4 = i - 8 by omega]
        · by_cases h4 : i < 16
          · rw [if_neg h1, if_neg h2, if_neg h3, if_pos h4, xab_v.2.1 _ (by omega), show n + i = n + 12 + (i - 12) by omega, xab_v.1 (i - 12) (by omega), show i % 4 = i - 12 by omega]
          · rw [if_neg h1, if_neg h2, if_neg h3, if_neg h4, show n + i = n + 16 + (i - 16) by omega, xab_v.1 (i - 16) (by omega), show i % 4 = i - 16 by omega]
  · rw [xab_v.2.1 _ (by omega), xab_v.2.1 _ (by omega), xab_v.2.1 _ (by omega), xab_v.2.1 _ (by omega), xab_v.2.1 _ (by omega)]
  · exact vu_ex (vu_ex (vu_ex (vu_ex xab_v.2.2 xab_v.2.2) xab_v.2.2) xab_v.2.2) xab_v.2.2
theorem mby_s {a b c e f : Int32} {i : Nat} : ∃ j : Nat, j < 2 ^ 8 ∧ mby a b c e f i = nI j := pk_andE _ 8 (by decide)
section
variable {ε : Nat × (Nat → Int32)} {d y : Nat} {o ot it : Value} {IF IG A B : Nat → Nat → Int32} {AL : Nat → Nat → Int64} {AD : Nat → Nat → UInt64} {L p pa ex ey : Nat → Nat} {k : Nat}
theorem cG_f3 (h : cG IF A L p pa ex ey k) (ha : ∀ j, 9 ≤ j → j < 28 → B j = A j) (h8 : IG 8 = IF 8) (h18 : IG 18 = IF 18) (h22 : IG 22 = IF 22) (h25 : IG 25 = IF 25) (h0 : IG 0 8 = IF 0 8) : cG IG B L p pa ex ey k := by
  refine ⟨⟨⟨cR_fr h.1.1.1 (ha 9 (by omega) (by omega)) (ha 10 (by omega) (by omega)) (ha 11 (by omega) (by omega)) h8, cO_fr h.1.1.2.1 (ha 13 (by omega) (by omega)) (ha 14 (by omega) (by omega)), cO_fr h.1.1.2.2 (ha 16 (by omega) (by omega)) (ha 17 (by omega) (by omega))⟩, ?_, fun t s b ht hv => ?_, fun t ht => ?_⟩, ?_, ?_⟩
  · rw [h18, h22, h25, h0, ha 19 (by omega) (by omega), ha 27 (by omega) (by omega)]; exact h.1.2.1
  · rw [ha 19 (by omega) (by omega), ha 24 (by omega) (by omega), ha 27 (by omega) (by omega)]; exact h.1.2.2.1 t s b ht hv
  · rw [ha 21 (by omega) (by omega)]; exact h.1.2.2.2 t ht
  · rw [ha 20 (by omega) (by omega)]; exact h.2.1
  · rw [ha 20 (by omega) (by omega), ha 23 (by omega) (by omega)]; exact h.2.2
theorem j_truncate (h : gX IF A L p pa ex ey k) {x : Int32} : zW ε false (d + 20) 79 0 [(0, .ref 0), (1, .int x)] [] (zM o ot it IF A AL AD) 0 0 (zP2 ε (d + 21) 138 [(0, .ref 32), (1, .int x)] okI (.int 0) [(2, 1)] AL AD) := by
  obtain ⟨n, T, ht⟩ := h.2.2.2
  refine c_truncate ht.1.1 ht.1.2.2 (fun gx => p2_ok ⟨_, rfl⟩ fun AL AD => ?_) (fun gx => p2_ex (cde := 1) (by simp) fun AL AD => ?_)
  · refine c_mtruncate (n := n) ht.1.2.1 ht.1.2.2 (fun _ => r2 rfl ?_ rfl) (fun z => absurd gx z)
    obtain ⟨m, hm, rfl⟩ := gx
    refine gX_s ⟨h.1, cG_f3 h.2.1 (fun _ _ _ => rfl) rfl rfl rfl rfl rfl, mG_f2 h.2.2.1 rfl rfl rfl rfl rfl rfl rfl, m, T, ⟨rfl, rfl, ?_⟩, fun q hq => ht.2.1 q (by omega), ht.2.2.1, ht.2.2.2⟩
    have := ht.1.2.2
    omega
  · exact c_mtruncate (n := n) ht.1.2.1 ht.1.2.2 (fun z => absurd z gx) (fun _ => r2 rfl (gS_0 h) rfl)
theorem app_t {n : Nat} {T : Nat → Nat} (ht : tX IF A n T) {a b c e f : Int32} (v1 : ∀ i, i < 20 → B 3 (n + i) &&& 255 = mby a b c e f i) (v2 : ∀ i, i < n → B 3 i = A 3 i) (v4 : B 41 = A 41) (q : Nat) (hq : q < n + 20) : B 3 q &&& 255 = nI (if q < n then T q else (mby a b c e f (q - n)).toBitVec.toNat) ∧ cpo n 20 (mby a b c e f) (B 41) q = nI (if q < n then T q else (mby a b c e f (q - n)).toBitVec.toNat) ∧ (if q < n then T q else (mby a b c e f (q - n)).toBitVec.toNat) < 2 ^ 31 := by
  by_cases z : q < n
  · rw [if_pos z, v2 q z, v4]
    unfold cpo
    rw [if_neg (by omega)]
    exact ht.2.1 q z
  · have w := v1 (q - n) (by omega)
    rw [show n + (q - n) = q by omega] at w
    rw [if_neg z, w, nI_tn]
    unfold cpo
    rw [if_pos ⟨by omega, by omega⟩]
    refine ⟨rfl, rfl, ?_⟩
    obtain ⟨j, hj, ej⟩ := mby_s (a := a) (b := b) (c := c) (e := e) (f := f) (i := q - n)
    rw [ej, pk_tn (by omega)]
    omega
theorem app_s (h : gX IF A L p pa ex ey k) {n : Nat} {T : Nat → Nat} (ht : tX IF A n T) (hn : n ≤ 480) {a b c e f : Int32} (v1 : ∀ i, i < 20 → B 3 (n + i) &&& 255 = mby a b c e f i) (v2 : ∀ i, i < n → B 3 i = A 3 i) (v4 : ∀ j, ¬ j = 3 → B j = A j) : gS (yU 32 11 (nI (n + 20)) (yU 32 0 0 (xln IF (n + 20)))) (va_up B 41 (cpo n 20 (mby a b c e f) (B 41))) := by
  have tq := app_t ht v1 v2 (v4 41 (by decide))
  refine gX_s ⟨h.1, cG_f3 h.2.1 (fun j h1 h2 => ?_) rfl rfl rfl rfl rfl, mG_f2 h.2.2.1 ?_ ?_ ?_ ?_ ?_ ?_ rfl, n + 20, (fun q => if q < n then T q else (mby a b c e f (q - n)).toBitVec.toNat), ⟨rfl, rfl, by omega⟩, fun q hq => ?_, ht.2.2.1, ht.2.2.2⟩
  · rw [vu_n (by omega), v4 j (by omega)]
  · rw [vu_n (by decide)]; exact v4 33 (by decide)
  · rw [vu_n (by decide)]; exact v4 35 (by decide)
  · rw [vu_n (by decide)]; exact v4 36 (by decide)
  · rw [vu_n (by decide)]; exact v4 37 (by decide)
  · rw [vu_n (by decide)]; exact v4 39 (by decide)
  · rw [vu_n (by decide)]; exact v4 40 (by decide)
  · have z := tq q hq
    refine ⟨?_, ?_, z.2.2⟩
    · rw [vu_n (by decide)]; exact z.1
    · rw [vu_s]; exact z.2.1
theorem j_append (h : gX IF A L p pa ex ey k) {a b c e f : Int32} : zW ε false (d + 20) 78 0 [(0, .ref 0), (1, .int a), (2, .int b), (3, .int c), (4, .int e), (5, .int f)] [] (zM o ot it IF A AL AD) 0 0 (zP2 ε (d + 21) 137 [(0, .ref 32), (1, .int a), (2, .int b), (3, .int c), (4, .int e), (5, .int f)] okI (.int 0) [(0, 1)] AL AD) := by
  obtain ⟨n, T, ht⟩ := h.2.2.2
  have hn := ht.1.2.2
  refine c_append ht.1.1 ht.1.2.2 (fun gn => p2_ok ⟨_, rfl⟩ fun AL AD => ?_) (fun gn => p2_ex (cde := 1) (by simp) fun AL AD => ?_)
  · obtain ⟨v1, v2, g, v3⟩ := app_v (a := a) (b := b) (c := c) (e := e) (f := f) (n := n) (A := A)
    unfold xapp at v1 v2 v3
    generalize xab f (n + 16) (xab e (n + 12) (xab c (n + 8) (xab b (n + 4) (xab a n A)))) = B at v1 v2 v3 ⊢
    exact c_mappend (n := n) ht.1.2.1 ht.1.2.2 (fun _ => r2 rfl (app_s h ht gn v1 v2 (fun j hj => by rw [v3, vu_n hj])) rfl) (fun z => absurd z (by omega))
  · exact c_mappend (n := n) ht.1.2.1 ht.1.2.2 (fun z => absurd z (by omega)) (fun _ => r2 rfl (gS_0 h) rfl)
end
