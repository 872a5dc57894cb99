/-! class and reference: sums, sets, missed connections -/
/-- the reference's rows B of times against the class's, with small values -/
def gM (A B : Nat → Nat → Int32) (r : Nat) (L : Nat → Nat) : Prop := ∀ t s b, t < L 1 → gE L t s b = true → (B (cond b 43 42) (8 * t + s) = A (rF r) (8 * t + s + cond b 64 0) ∧ B (cond b 45 44) (8 * t + s) = A (rT r) (8 * t + s + cond b 64 0)) ∧ tn (A (rF r)) (8 * t + s + cond b 64 0) ≤ 1000000 ∧ tn (A (rT r)) (8 * t + s + cond b 64 0) ≤ 1000000
def lz (c : Bool) (T k : Nat) : Nat := cond c (max k (T + 1)) k
theorem lz_comm {c c2 : Bool} {T T2 k : Nat} : lz c T (lz c2 T2 k) = lz c2 T2 (lz c T k) := by
  cases c <;> cases c2
  · rfl
  · rfl
  · rfl
  · show max (max k (T2 + 1)) (T + 1) = max (max k (T + 1)) (T2 + 1)
    rw [Nat.max_assoc, Nat.max_comm (T2 + 1) (T + 1), ← Nat.max_assoc]
theorem lz_le {c : Bool} {T k : Nat} (hT : T ≤ 1000000) (hk : k ≤ 1000001) : lz c T k ≤ 1000001 := by
  cases c
  · exact hk
  · exact Nat.max_le.mpr ⟨hk, by omega⟩
theorem sub_le0 {a b : Nat} (ha : a < 2 ^ 30) (hb : b < 2 ^ 30) : nI a - nI b ≤ 0 ↔ a ≤ b := by
  rw [Int32.le_iff_toInt_le, pk_sub_toInt ha hb, Int32.toInt_zero]
  omega
theorem zmx_p {k T : Nat} (hk : k < 2 ^ 30) (hT : T < 2 ^ 30) : zmx (nI k - 1) (nI T) = nI (max k (T + 1)) - 1 := by
  cases k with
  | zero =>
    rw [show nI 0 - 1 = (-1 : Int32) by decide, zmx_1 (by omega), Nat.max_eq_right (Nat.zero_le _), nI_pred]
  | succ j =>
    rw [nI_pred, zmx_n (by omega) (by omega)]
    rcases Nat.le_total j T with q | q
    · rw [Nat.max_eq_right q, Nat.max_eq_right (by omega), nI_pred]
    · rw [Nat.max_eq_left q, Nat.max_eq_left (by omega), nI_pred]
section
variable {IF A B : Nat → Nat → Int32} {L : Nat → Nat} {r : Nat}
theorem xDl_n (hL : lT L) (h : gM A B r L) {t s : Nat} {b : Bool} (ht : t < L 1) (hv : gE L t s b = true) : xDl A r (nI t) (nI s) b = B (cond b 45 44) (8 * t + s) - B (cond b 43 42) (8 * t + s) := by
  have hB := hL.1.2.1
  have e := ev_s hL ht hv
  have q := (h t s b ht hv).1
  unfold xDl
  rw [xev_n (by omega) e.1, q.1, q.2]
theorem sd_in (hC : cR IF A L) (hL : lT L) (h : gM A B r L) {t : Nat} (ht : t < L 1) : ∀ n s v, s + n ≤ 8 → xsd A r t n s v = mds B L t n s v := by
  intro n
  induction n with
  | zero => intro s v _; rfl
  | succ n ih =>
    intro s v hs
    unfold xsd mds
    rw [xa_n hC hL ht (show s < 100 by omega)]
    cases hg : gA L t s with
    | true =>
      have e : xDl A r (nI t) (nI s) true = B 45 (8 * t + s) - B 43 (8 * t + s) := xDl_n (b := true) hL h ht hg
      show xsd A r t n (s + 1) (v + xDl A r (nI t) (nI s) true) = mds B L t n (s + 1) (v + (B 45 (8 * t + s) - B 43 (8 * t + s)))
      rw [e]
      exact ih (s + 1) _ (by omega)
    | false =>
      show xsd A r t n (s + 1) v = mds B L t n (s + 1) (v + 0)
      rw [Int32.add_zero]
      exact ih (s + 1) _ (by omega)
theorem sd_eq (hC : cR IF A L) (hL : lT L) (h : gM A B r L) : ∀ n t v, t + n = L 1 → xsd2 A r (L 0) n t v = mds2 B L n t v := by
  have hB := hL.1.2.1
  intro n
  induction n with
  | zero => intro t v _; rfl
  | succ n ih =>
    intro t v ht
    unfold xsd2 mds2
    rw [sd_in hC hL h (show t < L 1 by omega) (L 0) 0 v (by omega)]
    exact ih (t + 1) _ (by omega)
theorem ior_0 (v : Int32) : v ||| 0 = v := Int32.toBitVec_inj.mp (by simp)
theorem ls_eq (hC : cR IF A L) (hL : lT L) (h : gM A B r L) {th : Int32} : ∀ n t v, t + n = L 1 → xls A r th n t v = mls B L th n t v := by
  intro n
  induction n with
  | zero => intro t v _; rfl
  | succ n ih =>
    intro t v ht
    have te := (tr_ev hL (show t < L 1 by omega)).2.1
    have e : xDl A r (nI t) (nI (tr L t 1)) true = B 45 (8 * t + tr L t 1) - B 43 (8 * t + tr L t 1) := xDl_n (b := true) hL h (by omega) te
    unfold xls mls
    rw [xo_n hC hL (show t < L 1 by omega) (by omega) (w := 1) (z := 1) rfl, e]
    by_cases q : B 45 (8 * t + tr L t 1) - B 43 (8 * t + tr L t 1) ≤ th
    · rw [if_pos q, if_pos q, ior_0]
      exact ih (t + 1) _ (by omega)
    · rw [if_neg q, if_neg q]
      exact ih (t + 1) _ (by omega)
theorem la_eq (hC : cR IF A L) (hL : lT L) (h : ∀ t, t < L 1 → B 43 (8 * t + tr L t 1) = A 20 (8 * t + tr L t 1 + 64)) : ∀ n t v, t + n = L 1 → xla A n t v = mla B L n t v := by
  have hB := hL.1.2.1
  intro n
  induction n with
  | zero => intro t v _; rfl
  | succ n ih =>
    intro t v ht
    have ev := ev_s hL (show t < L 1 by omega) (tr_ev hL (show t < L 1 by omega)).2.1
    unfold xla mla
    rw [xo_n hC hL (show t < L 1 by omega) (by omega) (w := 1) (z := 1) rfl, xev_n (by omega) ev.1, h t (by omega)]
    exact ih (t + 1) _ (by omega)
theorem xld1_n (hC : cR IF A L) (hL : lT L) (h : gM A B r L) {t s k : Nat} {b : Bool} (ht : t < L 1) (hs : s < 8) (hk : k ≤ 1000001) : xld1 A r t s b (nI k - 1) = nI (lz (gE L t s b && decide (tn (A (rF r)) (8 * t + s + cond b 64 0) < tn (A (rT r)) (8 * t + s + cond b 64 0))) (tn (A (rT r)) (8 * t + s + cond b 64 0)) k) - 1 := by
  have hB := hL.1.2.1
  unfold xld1
  rw [xe_n hC hL ht (show s < 100 by omega)]
  cases hg : gE L t s b with
  | false => rfl
  | true =>
    have q := (h t s b ht hg).2
    unfold xDl
    rw [xev_n (by omega) hs, ← nI_tn (A (rT r) (8 * t + s + cond b 64 0)), ← nI_tn (A (rF r) (8 * t + s + cond b 64 0))]
    show cond (true && decide (¬ nI (tn (A (rT r)) (8 * t + s + cond b 64 0)) - nI (tn (A (rF r)) (8 * t + s + cond b 64 0)) ≤ 0)) (zmx (nI k - 1) (nI (tn (A (rT r)) (8 * t + s + cond b 64 0)))) (nI k - 1) = _
    generalize tn (A (rT r)) (8 * t + s + cond b 64 0) = T at q ⊢
    generalize tn (A (rF r)) (8 * t + s + cond b 64 0) = F at q ⊢
    have hi := sub_le0 (a := T) (b := F) (by omega) (by omega)
    by_cases w : F < T
    · rw [decide_eq_true w, decide_eq_true (show ¬ nI T - nI F ≤ 0 from fun z => by have := hi.mp z; omega)]
      show zmx (nI k - 1) (nI T) = nI (max k (T + 1)) - 1
      exact zmx_p (by omega) (by omega)
    · rw [decide_eq_false w, decide_eq_false (fun z => z (hi.mpr (by omega)))]
      rfl
theorem mrc1_n (h : gM A B r L) {t s k : Nat} (ht : t < L 1) (hk : k ≤ 1000001) : mrc1 B L t s (nI k) = nI (lz (gE L t s true && decide (tn (A (rF r)) (8 * t + s + cond true 64 0) < tn (A (rT r)) (8 * t + s + cond true 64 0))) (tn (A (rT r)) (8 * t + s + cond true 64 0)) k) := by
  unfold mrc1
  cases hg : gE L t s true with
  | false => rw [if_neg (fun z => by rw [show gA L t s = false from hg] at z; exact Bool.noConfusion z.1)]; rfl
  | true =>
    have q := (h t s true ht hg).2
    have e := (h t s true ht hg).1
    have e1 : B 43 (8 * t + s) = nI (tn (A (rF r)) (8 * t + s + cond true 64 0)) := e.1.trans (nI_tn _).symm
    have e2 : B 45 (8 * t + s) = nI (tn (A (rT r)) (8 * t + s + cond true 64 0)) := e.2.trans (nI_tn _).symm
    rw [e1, e2]
    generalize tn (A (rT r)) (8 * t + s + cond true 64 0) = T at q ⊢
    generalize tn (A (rF r)) (8 * t + s + cond true 64 0) = F at q ⊢
    have hi := sub_le0 (a := T) (b := F) (by omega) (by omega)
    by_cases w : F < T
    · rw [decide_eq_true w, if_pos ⟨hg, fun z => by have := hi.mp z; omega⟩, nI_1, zmx_n (by omega) (by omega)]
      rfl
    · rw [decide_eq_false w, if_neg (fun z => z.2 (hi.mpr (by omega)))]
      rfl
theorem mrc2_n (h : gM A B r L) {t s k : Nat} (ht : t < L 1) (hk : k ≤ 1000001) : mrc2 B L t s (nI k) = nI (lz (gE L t s false && decide (tn (A (rF r)) (8 * t + s + cond false 64 0) < tn (A (rT r)) (8 * t + s + cond false 64 0))) (tn (A (rT r)) (8 * t + s + cond false 64 0)) k) := by
  unfold mrc2
  cases hg : gE L t s false with
  | false => rw [if_neg (fun z => by rw [show gD L t s = false from hg] at z; exact Bool.noConfusion z.1)]; rfl
  | true =>
    have q := (h t s false ht hg).2
    have e := (h t s false ht hg).1
    have e1 : B 42 (8 * t + s) = nI (tn (A (rF r)) (8 * t + s + cond false 64 0)) := e.1.trans (nI_tn _).symm
    have e2 : B 44 (8 * t + s) = nI (tn (A (rT r)) (8 * t + s + cond false 64 0)) := e.2.trans (nI_tn _).symm
    rw [e1, e2]
    generalize tn (A (rT r)) (8 * t + s + cond false 64 0) = T at q ⊢
    generalize tn (A (rF r)) (8 * t + s + cond false 64 0) = F at q ⊢
    have hi := nI_leI (a := T) (b := F) (by omega) (by omega)
    by_cases w : F < T
    · rw [decide_eq_true w, if_pos ⟨hg, fun z => by have := hi.mp z; omega⟩, nI_1, zmx_n (by omega) (by omega)]
      rfl
    · rw [decide_eq_false w, if_neg (fun z => z.2 (hi.mpr (by omega)))]
      rfl
theorem ld_in (hC : cR IF A L) (hL : lT L) (h : gM A B r L) {t : Nat} (ht : t < L 1) : ∀ n s k, s + n ≤ 8 → k ≤ 1000001 → ∃ k2, k2 ≤ 1000001 ∧ xld A r t n s (nI k - 1) = nI k2 - 1 ∧ mrc B L t n s (nI k) = nI k2 := by
  intro n
  induction n with
  | zero => intro s k _ hk; exact ⟨k, hk, rfl, rfl⟩
  | succ n ih =>
    intro s k hs hk
    have bd : ∀ b : Bool, ∀ j, j ≤ 1000001 → lz (gE L t s b && decide (tn (A (rF r)) (8 * t + s + cond b 64 0) < tn (A (rT r)) (8 * t + s + cond b 64 0))) (tn (A (rT r)) (8 * t + s + cond b 64 0)) j ≤ 1000001 := fun b j hj => by
      cases hg : gE L t s b with
      | false => exact hj
      | true => exact lz_le (h t s b ht hg).2.2 hj
    unfold xld mrc
    rw [xld1_n hC hL h ht (by omega) hk, xld1_n hC hL h ht (by omega) (bd false k hk), mrc1_n h ht hk, mrc2_n h ht (bd true k hk), lz_comm]
    exact ih (s + 1) _ (by omega) (bd false _ (bd true k hk))
theorem ld_eq (hC : cR IF A L) (hL : lT L) (h : gM A B r L) : ∀ n t k, t + n = L 1 → k ≤ 1000001 → xld2 A r (L 0) n t (nI k - 1) + 1 = mrcs B L n t (nI k) := by
  have hB := hL.1.2.1
  intro n
  induction n with
  | zero =>
    intro t k _ _
    show nI k - 1 + 1 = nI k
    cases k with
    | zero => decide
    | succ j => rw [nI_pred, nI_1]
  | succ n ih =>
    intro t k ht hk
    obtain ⟨k2, h1, h2, h3⟩ := ld_in hC hL h (show t < L 1 by omega) (L 0) 0 k (by omega) hk
    unfold xld2 mrcs
    rw [h2, h3]
    exact ih (t + 1) k2 (by omega) h1
theorem xW_n (hC : cR IF A L) (hL : lT L) (h : gM A B 22 L) (hW : L 4 ≤ 60) (hpl : IF 22 5 = 0) {c : Nat} (hc : c < L 2) : xW IF A 22 (xk A (nI c) 1) (xk A (nI c) 2) (xC A 22 (nI c)) = gW L (tn (A 20)) false (tn (A 23)) c := by
  have hB := hL.1.2.1
  have hl := hL.1.2.2.2.2.2.2 c hc
  have hv : gE L (lk L c 0) (lk L c 2) true = true := hl.2.2.2.2.1
  have hd : gE L (lk L c 1) (lk L c 2) false = true := hl.2.2.2.2.2.1
  have l3 := lk_31 hL hc (show 3 < 4 by omega)
  have q1 : tn (A 23) (8 * lk L c 0 + lk L c 2 + 64) ≤ 1000000 := (h (lk L c 0) (lk L c 2) true hl.1 hv).2.2
  have q2 : tn (A 20) (8 * lk L c 1 + lk L c 2) ≤ 1000000 := (h (lk L c 1) (lk L c 2) false hl.2.1 hd).2.1
  have ev := ev_s hL hl.1 hv
  have h21 := hl.2.1
  unfold xW gW
  rw [hpl, xk_n hC hL hc (by omega) (w := 1) (z := 1) rfl, xk_n hC hL hc (by omega) (w := 2) (z := 2) rfl, xC_n hC hL hc, xev_n (by omega) ev.1, hC.1.2.2.2.2]
  show (false || decide (¬ A 20 (8 * lk L c 1 + lk L c 2) + nI (L 4) < nI (tn (A 23) (8 * lk L c 0 + lk L c 2 + 64) + lk L c 3))) = _
  rw [← nI_tn (A 20 (8 * lk L c 1 + lk L c 2)), nI_add, Bool.false_or, Bool.false_or]
  show decide (¬ nI (tn (A 20) (8 * lk L c 1 + lk L c 2) + L 4) < nI (tn (A 23) (8 * lk L c 0 + lk L c 2 + 64) + lk L c 3)) = _
  generalize tn (A 23) (8 * lk L c 0 + lk L c 2 + 64) = T at q1 ⊢
  generalize tn (A 20) (8 * lk L c 1 + lk L c 2) = F at q2 ⊢
  have hi := nI_ltI (a := F + L 4) (b := T + lk L c 3) (by omega) (by omega)
  by_cases w : T + lk L c 3 ≤ F + L 4
  · rw [decide_eq_true w, decide_eq_true (show ¬ nI (F + L 4) < nI (T + lk L c 3) from fun z => by have := hi.mp z; omega)]
  · rw [decide_eq_false w, decide_eq_false (fun z => z (hi.mpr (by omega)))]
theorem mi_eq (hC : cR IF A L) (hL : lT L) (h : gM A B 22 L) (hW : L 4 ≤ 60) (hpl : IF 22 5 = 0) (hk : ∀ c, c < L 2 → B 46 c = zbo (gW L (tn (A 20)) false (tn (A 23)) c)) : ∀ n c v, c + n = L 2 → xmi IF A n c v = mms B n c v := by
  intro n
  induction n with
  | zero => intro c v _; rfl
  | succ n ih =>
    intro c v hc
    unfold xmi mms
    rw [xW_n hC hL h hW hpl (show c < L 2 by omega), hk c (by omega)]
    cases gW L (tn (A 20)) false (tn (A 23)) c with
    | true =>
      show xmi IF A n (c + 1) v = mms B n (c + 1) (v + 0)
      rw [Int32.add_zero]
      exact ih (c + 1) _ (by omega)
    | false => exact ih (c + 1) _ (by omega)
end
