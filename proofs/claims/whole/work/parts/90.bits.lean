/-! class and reference: the bits of the late trains; a run takes time -/
theorem bc_all : ∀ M, M < 9 → ∀ st, st < 2 ^ M → nI M - xbc (nI st) = mpu (nI st) M 0 0 := by decide +kernel
theorem or_bit : ∀ t, t < 8 → ∀ k, k < 2 ^ t → nI k ||| ((1 : Int32) <<< (nI t &&& 31)) = nI (k + 2 ^ t) := by decide +kernel
theorem pu_n64 : ∀ M, M < 9 → 0 < M → ∀ st, st < 2 ^ M → FP.ddiv (FP.i2d (mpu (nI st) M 0 0)) (FP.i2d (nI M)) &&& 0x7fffffffffffffff ≤ 0x7ff0000000000000 := by decide +kernel
section
variable {IF A B : Nat → Nat → Int32} {L p fl ex : Nat → Nat} {r : Nat}
theorem ls_n {th : Int32} : ∀ n t k, t + n ≤ 8 → k < 2 ^ t → ∃ k2, k2 < 2 ^ (t + n) ∧ mls B L th n t (nI k) = nI k2 := by
  intro n
  induction n with
  | zero => intro t k _ hk; exact ⟨k, hk, rfl⟩
  | succ n ih =>
    intro t k ht hk
    have e : 2 ^ (t + 1) = 2 ^ t * 2 := Nat.pow_succ 2 t
    unfold mls
    rw [show t + (n + 1) = t + 1 + n by omega]
    by_cases q : B 45 (8 * t + tr L t 1) - B 43 (8 * t + tr L t 1) ≤ th
    · rw [if_pos q, ior_0]
      exact ih (t + 1) k (by omega) (by omega)
    · rw [if_neg q, or_bit t (by omega) k hk]
      exact ih (t + 1) _ (by omega) (by omega)
theorem pu_eq (hC : cR IF A L) (hL : lT L) (h : gM A B r L) {th : Int32} : nI (L 1) - xbc (xls A r th (L 1) 0 0) = mpu (mls B L th (L 1) 0 0) (L 1) 0 0 ∧ (0 < L 1 → vf_n64 (FP.ddiv (FP.i2d (mpu (mls B L th (L 1) 0 0) (L 1) 0 0)) (FP.i2d (nI (L 1))))) := by
  have hB := hL.1.2.1
  rw [ls_eq hC hL h (L 1) 0 0 (by omega)]
  obtain ⟨k, hk, e⟩ := ls_n (B := B) (L := L) (th := th) (L 1) 0 0 (by omega) (by decide)
  have e' : mls B L th (L 1) 0 0 = nI k := e
  rw [Nat.zero_add] at hk
  rw [e']
  exact ⟨bc_all (L 1) (by omega) k hk, fun h0 => pu_n64 (L 1) (by omega) h0 k hk⟩
theorem Sol_gI (hL : lT L) (hp : pOrd L p) {T : Nat → Nat} {pl : Bool} (h : Sol L p fl ex pl T 256) {t s : Nat} {b : Bool} (ht : t < L 1) (hv : gE L t s b = true) : gI L fl ex T t s b ≤ T (8 * t + s + cond b 64 0) := by
  rw [h t s b ht hv (rk_256 hL hp ht hv)]
  unfold gF
  exact Nat.le_trans (Nat.le_trans (Nat.le_max_right _ _) (Nat.le_max_left _ _)) (Nat.le_max_left _ _)
theorem run_lt (hL : lT L) (hp : pOrd L p) {T : Nat → Nat} {pl : Bool} (h : Sol L p fl ex pl T 256) {t : Nat} (ht : t < L 1) : ∀ n, tr L t 0 + n + 1 ≤ tr L t 1 → T (8 * t + tr L t 0) < T (8 * t + (tr L t 0 + n + 1) + 64) := by
  have hT := hL.1.2.2.2.2.2.1 t ht
  unfold trOk at hT
  have step : ∀ s, tr L t 0 ≤ s → s + 1 ≤ tr L t 1 → T (8 * t + s) < T (8 * t + (s + 1) + 64) := fun s h1 h2 => by
    have q : gI L fl ex T t (s + 1) true ≤ T (8 * t + (s + 1) + 64) := Sol_gI (b := true) hL hp h ht (gA_iff.mpr (by omega))
    have q2 : gI L fl ex T t (s + 1) true = T (8 * t + (s + 1 - 1)) + L (13 + (s + 1 - 1)) * tr L t 3 + ex (8 * t + (s + 1) + 64) := rfl
    have b2 := hL.1.2.2.2.2.1 s (by omega)
    have b3 : 1 * 1 ≤ L (13 + s) * tr L t 3 := Nat.mul_le_mul b2.1 hT.2.2.2.1
    rw [Nat.add_sub_cancel] at q2
    omega
  intro n
  induction n with
  | zero => intro h1; exact step _ (Nat.le_refl _) h1
  | succ n ih =>
    intro h1
    have a := ih (by omega)
    have s2 := step (tr L t 0 + n + 1) (by omega) (by omega)
    have q : gI L fl ex T t (tr L t 0 + n + 1) false ≤ T (8 * t + (tr L t 0 + n + 1)) := Sol_gI (b := false) hL hp h ht (gD_iff.mpr (by omega))
    have q2 : gI L fl ex T t (tr L t 0 + n + 1) false = if tr L t 0 + n + 1 = tr L t 0 then fl (8 * t + (tr L t 0 + n + 1)) + ex (8 * t + (tr L t 0 + n + 1)) else T (8 * t + (tr L t 0 + n + 1) + 64) + tr L t 4 + ex (8 * t + (tr L t 0 + n + 1)) := rfl
    rw [if_neg (by omega)] at q2
    rw [show tr L t 0 + (n + 1) + 1 = tr L t 0 + n + 1 + 1 by omega]
    omega
theorem run_pos (hL : lT L) (hp : pOrd L p) {T : Nat → Nat} {pl : Bool} (h : Sol L p fl ex pl T 256) {t : Nat} (ht : t < L 1) : T (8 * t + tr L t 0) < T (8 * t + tr L t 1 + 64) := by
  have hT := hL.1.2.2.2.2.2.1 t ht
  unfold trOk at hT
  have q := run_lt hL hp h ht (tr L t 1 - tr L t 0 - 1) (by omega)
  rw [show tr L t 0 + (tr L t 1 - tr L t 0 - 1) + 1 = tr L t 1 by omega] at q
  exact q
end
