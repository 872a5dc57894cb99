/-! the class's times are the least ones -/
def cR (IF A : Nat → Nat → Int32) (L : Nat → Nat) : Prop := (IF 8 0 = nI (L 0) ∧ IF 8 1 = nI (L 1) ∧ IF 8 2 = nI (L 2) ∧ IF 8 3 = nI (L 3) ∧ IF 8 4 = nI (L 4)) ∧ (∀ s, s < 8 → xs IF 8 (nI s) = decide (L (5 + s) = 1)) ∧ (∀ s, s + 1 < L 0 → A 9 s = nI (L (13 + s))) ∧ (∀ t, t < L 1 → ∀ w, w < 5 → A 10 (8 * t + w) = nI (tr L t w)) ∧ (∀ c, c < L 2 → ∀ w, w < 4 → A 11 (8 * c + w) = nI (lk L c w))
def cO (A : Nat → Nat → Int32) (k : Nat) (L p : Nat → Nat) : Prop := (∀ g, g < L 0 - 1 → ∀ i, i < L 1 → A (k + 1) (8 * g + i) = nI (p (8 * g + i))) ∧ (∀ g, g < L 0 - 1 → ∀ t, t < L 1 → A (k + 2) (8 * g + t) = oI (gB L p g t))
def cE (A : Nat → Nat → Int32) (r : Nat) (L fl ex : Nat → Nat) : Prop := ∀ t s b, t < L 1 → gE L t s b = true → A (rF r) (8 * t + s + cond b 64 0) = nI (fl (8 * t + s + cond b 64 0)) ∧ A (rE r) (8 * t + s + cond b 64 0) = nI (ex (8 * t + s + cond b 64 0))
theorem xev_n {t s : Nat} {b : Bool} (ht : t < 8) (hs : s < 8) : xev (nI t) (nI s) b = 8 * t + s + cond b 64 0 := by
  unfold xev
  rw [m8_nI ht, m8_nI hs]
theorem zmx_n {a b : Nat} (ha : a < 2 ^ 31) (hb : b < 2 ^ 31) : zmx (nI a) (nI b) = nI (max a b) := by
  unfold zmx
  split
  · next h => rw [Nat.max_eq_right (Nat.le_of_lt ((nI_ltI ha hb).mp h))]
  · next h => rw [Nat.max_eq_left (Nat.le_of_not_lt (fun q => h ((nI_ltI ha hb).mpr q)))]
theorem zmx_m {a : Nat} (ha : a < 2 ^ 31) : zmx (nI a) (-1) = nI a := by
  unfold zmx
  rw [if_neg (fun h => by rw [Int32.lt_iff_toInt_lt, nI_toInt ha, show (-1 : Int32).toInt = -1 by decide] at h; omega)]
theorem zmx_1 {b : Nat} (hb : b < 2 ^ 31) : zmx (-1) (nI b) = nI b := by
  unfold zmx
  rw [if_pos (by rw [Int32.lt_iff_toInt_lt, nI_toInt hb, show (-1 : Int32).toInt = -1 by decide]; omega)]
theorem m8_w : ∀ w, w < 8 → m8 (nI w) = w := fun w h => m8_nI h
section
variable {L p fl ex : Nat → Nat} {pl : Bool} {IF A : Nat → Nat → Int32} {r : Nat}
theorem xo_n (hC : cR IF A L) (hL : lT L) {t w : Nat} {z : Int32} (ht : t < L 1) (hw : w < 5) (hz : z = nI w) : xo A 8 (nI t) z = nI (tr L t w) := by
  have hB := hL.1.2.1
  subst hz
  show A 10 (8 * m8 (nI t) + m8 (nI w)) = _
  rw [m8_nI (by omega), m8_nI (by omega)]
  exact hC.2.2.2.1 t ht w hw
theorem xk_n (hC : cR IF A L) (hL : lT L) {c w : Nat} {z : Int32} (hc : c < L 2) (hw : w < 4) (hz : z = nI w) : xk A (nI c) z = nI (lk L c w) := by
  have hB := hL.1.2.1
  subst hz
  show A 11 (8 * m8 (nI c) + m8 (nI w)) = _
  rw [m8_nI (by omega), m8_nI (by omega)]
  exact hC.2.2.2.2 c hc w hw
theorem tr_31 (hL : lT L) {t w : Nat} (ht : t < L 1) (hw : w < 5) : tr L t w < 100000 := hL.1.1 (20 + 5 * t + w) (by have := hL.1.2.1; omega)
theorem lk_31 (hL : lT L) {c w : Nat} (hc : c < L 2) (hw : w < 4) : lk L c w < 100000 := hL.1.1 (60 + 4 * c + w) (by have := hL.1.2.1; omega)
theorem xd_n (hC : cR IF A L) (hL : lT L) {t s : Nat} (ht : t < L 1) (hs : s < 100) : xd A 8 (nI t) (nI s) = gD L t s := by
  unfold xd gD
  rw [xo_n hC hL ht (by omega) (w := 0) (z := 0) rfl, xo_n hC hL ht (by omega) (w := 1) (z := 1) rfl]
  have b0 := tr_31 hL ht (show 0 < 5 by omega)
  have b1 := tr_31 hL ht (show 1 < 5 by omega)
  congr 1
  · rw [decide_eq_decide, nI_ltI (by omega) (by omega)]; omega
  · rw [decide_eq_decide, nI_leI (by omega) (by omega)]; omega
theorem xa_n (hC : cR IF A L) (hL : lT L) {t s : Nat} (ht : t < L 1) (hs : s < 100) : xa A 8 (nI t) (nI s) = gA L t s := by
  unfold xa gA
  rw [xo_n hC hL ht (by omega) (w := 0) (z := 0) rfl, xo_n hC hL ht (by omega) (w := 1) (z := 1) rfl]
  have b0 := tr_31 hL ht (show 0 < 5 by omega)
  have b1 := tr_31 hL ht (show 1 < 5 by omega)
  congr 1
  · rw [decide_eq_decide, nI_leI (by omega) (by omega)]; omega
  · rw [decide_eq_decide, nI_ltI (by omega) (by omega)]; omega
theorem xe_n (hC : cR IF A L) (hL : lT L) {t s : Nat} {b : Bool} (ht : t < L 1) (hs : s < 100) : xe A 8 (nI t) (nI s) b = gE L t s b := by
  cases b
  · exact xd_n hC hL ht hs
  · exact xa_n hC hL ht hs
theorem xI_n (hC : cR IF A L) (hL : lT L) (hE : cE A r L fl ex) {t s : Nat} {b : Bool} (ht : t < L 1) (hv : gE L t s b = true) : xI A r (nI t) (nI s) b = nI (gI L fl ex (tn (A (rT r))) t s b) := by
  have hB := hL.1.2.1
  have e := ev_s hL ht hv
  have h1 := hE t s b ht hv
  cases b with
  | true =>
    have ha := gA_iff.mp (show gA L t s = true from hv)
    have h3 : xr A (nI t) (nI s - 1) = nI (L (13 + (s - 1)) * tr L t 3) := by
      unfold xr
      rw [nIp rfl (e.2.2.1 rfl), m8_nI (by omega), xo_n hC hL ht (by omega) (w := 3) (z := 3) rfl, hC.2.2.1 (s - 1) (by omega), pk_mul]
    show A (rT r) (xev (nI t) (nI s - 1) false) + xr A (nI t) (nI s - 1) + A (rE r) (xev (nI t) (nI s) true) = _
    rw [h3, nIp rfl (e.2.2.1 rfl), xev_n (by omega) (by omega), xev_n (by omega) e.1, h1.2]
    rw [← nI_tn (A (rT r) (8 * t + (s - 1) + cond false 64 0)), nI_add, nI_add]
    rfl
  | false =>
    have b0 := tr_31 hL ht (show 0 < 5 by omega)
    show (if nI s = xo A 8 (nI t) 0 then A (rF r) (xev (nI t) (nI s) false) + A (rE r) (xev (nI t) (nI s) false) else A (rT r) (xev (nI t) (nI s) true) + xo A 8 (nI t) 4 + A (rE r) (xev (nI t) (nI s) false)) = nI (if s = tr L t 0 then _ else _)
    rw [xo_n hC hL ht (by omega) (w := 0) (z := 0) rfl, xo_n hC hL ht (by omega) (w := 4) (z := 4) rfl, xev_n (by omega) e.1, xev_n (by omega) e.1, h1.1, h1.2]
    by_cases q : s = tr L t 0
    · rw [if_pos (by rw [← q]), if_pos q, nI_add]; rfl
    · rw [if_neg (fun z => q ((nI_eq (by omega) (by omega)).mp z)), if_neg q, ← nI_tn (A (rT r) (8 * t + s + cond true 64 0)), nI_add, nI_add]; rfl
theorem xah_n (hO : cO A (rO r) L p) (hL : lT L) {g t : Nat} (hg : g < L 0 - 1) (ht : t < L 1) : xah A (rO r) (nI t) (nI g) = oI (gB L p g t) := by
  have hB := hL.1.2.1
  show A (rO r + 2) (8 * m8 (nI g) + m8 (nI t)) = _
  rw [m8_nI (by omega), m8_nI (by omega)]
  exact hO.2 g hg t ht
/-- -1 for none -/
def mz (o : Option Nat) (f : Nat → Nat) : Int32 := match o with
  | none => -1
  | some v => nI (f v)
def mzN (o : Option Nat) (f : Nat → Nat) : Nat := match o with
  | none => 0
  | some v => f v
theorem zmx_z {o : Option Nat} {f : Nat → Nat} {a : Nat} (ha : a < 2 ^ 31) (h : ∀ v, o = some v → f v < 2 ^ 31) : zmx (nI a) (mz o f) = nI (max a (mzN o f)) := by
  cases o with
  | none => show zmx (nI a) (-1) = nI (max a 0); rw [zmx_m ha, Nat.max_eq_left (Nat.zero_le a)]
  | some v => exact zmx_n ha (h v rfl)
theorem xH_n (hC : cR IF A L) (hL : lT L) (hp : pOrd L p) (hO : cO A (rO r) L p) {t s : Nat} {b : Bool} (ht : t < L 1) (hv : gE L t s b = true) : xH IF A r (nI t) (nI s) b = mz (gB L p (cond b (s - 1) s) t) (fun o => tn (A (rT r)) (8 * o + s + cond b 64 0) + L 3) := by
  have hB := hL.1.2.1
  have hS2 := hL.2
  have e := ev_s hL ht hv
  have hg : cond b (s - 1) s < L 0 - 1 := by
    cases b
    · exact e.2.2.2 rfl
    · show s - 1 < L 0 - 1; omega
  have eg : (cond b (nI s - 1) (nI s) : Int32) = nI (cond b (s - 1) s) := by
    cases b
    · rfl
    · exact nIp rfl (e.2.2.1 rfl)
  unfold xH
  rw [eg, xah_n hO hL hg ht]
  cases ho : gB L p (cond b (s - 1) s) t with
  | none => rfl
  | some o =>
    have h1 := (gB_some hp hg ho).1
    show (if nI o = -1 then _ else A (rT r) (xev (nI o) (nI s) b) + IF 8 3) = nI _
    rw [if_neg (zne1 (by omega)), xev_n (by omega) e.1, hC.1.2.2.2.1, ← nI_tn (A (rT r) (8 * o + s + cond b 64 0)), nI_add]
    rfl
def rlv (v' : Int32) (v : Nat) : Prop := (v' = -1 ∧ v = 0) ∨ (v' = nI v ∧ v < 2 ^ 22)
theorem zmx_r {a v : Nat} {v' : Int32} (ha : a < 2 ^ 31) (h : rlv v' v) : zmx (nI a) v' = nI (max a v) := by
  rcases h with ⟨rfl, rfl⟩ | ⟨rfl, h2⟩
  · rw [zmx_m ha, Nat.max_eq_left (Nat.zero_le a)]
  · exact zmx_n ha (by omega)
theorem rlv_z {a v : Nat} {v' : Int32} (ha : a < 2 ^ 22) (h : rlv v' v) : rlv (zmx v' (nI a)) (max v a) := by
  rcases h with ⟨rfl, rfl⟩ | ⟨rfl, h2⟩
  · rw [zmx_1 (by omega), Nat.max_eq_right (Nat.zero_le a)]; exact Or.inr ⟨rfl, ha⟩
  · rw [zmx_n (by omega) (by omega)]; exact Or.inr ⟨rfl, Nat.max_lt.mpr ⟨h2, ha⟩⟩
theorem xP_n (hC : cR IF A L) (hL : lT L) (hp : pOrd L p) (hO : cO A (rO r) L p) {t s : Nat} (ht : t < L 1) (hv : gE L t s true = true) (hb : gP L p (tn (A (rT r))) t s < 2 ^ 22) : rlv (xP IF A r (nI t) (nI s)) (gP L p (tn (A (rT r))) t s) := by
  have hB := hL.1.2.1
  have hS2 := hL.2
  have e := ev_s hL ht hv
  have hg : s - 1 < L 0 - 1 := by omega
  have e1 : xs IF 8 (nI s) = true ↔ L (5 + s) = 1 := by rw [hC.2.1 s e.1, decide_eq_true_eq]
  unfold gP at hb ⊢
  unfold xP
  rw [nIp rfl (e.2.2.1 rfl), xah_n hO hL hg ht]
  by_cases hk : L (5 + s) = 1
  · rw [if_pos (e1.mpr hk), if_pos hk]; exact Or.inl ⟨rfl, rfl⟩
  · rw [if_neg hk] at hb
    rw [if_neg (fun z => hk (e1.mp z)), if_neg hk]
    cases ho : gB L p (s - 1) t with
    | none => exact Or.inl ⟨rfl, rfl⟩
    | some o =>
      rw [ho] at hb
      have h1 := (gB_some hp hg ho).1
      have hb' : cond (gD L o s) (tn (A (rT r)) (8 * o + s) + L 3) 0 < 2 ^ 22 := hb
      show rlv (if nI o = -1 then -1 else if xd A 8 (nI o) (nI s) = true then A (rT r) (xev (nI o) (nI s) false) + IF 8 3 else -1) (cond (gD L o s) (tn (A (rT r)) (8 * o + s) + L 3) 0)
      rw [if_neg (zne1 (by omega)), xd_n hC hL h1 (by omega)]
      cases hd : gD L o s
      · exact Or.inl ⟨rfl, rfl⟩
      · rw [hd] at hb'
        rw [if_pos rfl, xev_n (by omega) e.1, hC.1.2.2.2.1]
        refine Or.inr ⟨?_, hb'⟩
        show A (rT r) (8 * o + s) + nI (L 3) = nI (tn (A (rT r)) (8 * o + s) + L 3)
        rw [← nI_add]
        show _ = nI ((A (rT r) (8 * o + s)).toBitVec.toNat) + nI (L 3)
        rw [nI_tn]
theorem xC_n (hC : cR IF A L) (hL : lT L) {c : Nat} (hc : c < L 2) : xC A r (nI c) = nI (tn (A (rT r)) (8 * lk L c 0 + lk L c 2 + 64) + lk L c 3) := by
  have hB := hL.1.2.1
  have hk := hL.1.2.2.2.2.2.2 c hc
  unfold lkOk at hk
  unfold xC
  rw [xk_n hC hL hc (by omega) (w := 0) (z := 0) rfl, xk_n hC hL hc (by omega) (w := 2) (z := 2) rfl, xk_n hC hL hc (by omega) (w := 3) (z := 3) rfl, xev_n (by omega) (by omega)]
  rw [← nI_tn (A (rT r) (8 * lk L c 0 + lk L c 2 + cond true 64 0)), nI_add]
  rfl
theorem xCn_n (hC : cR IF A L) (hL : lT L) (hE : cE A r L fl ex) (hpl : IF r 5 = zbo pl) {t s : Nat} (ht : t < L 1) (hv : gE L t s false = true) (hF : fl (8 * t + s) < 2 ^ 21) (hb : ∀ c, c < L 2 → lk L c 1 = t → lk L c 2 = s → tn (A (rT r)) (8 * lk L c 0 + s + 64) < 2 ^ 21) : ∀ n c v' v, c + n = L 2 → rlv v' v → rlv (xCn IF A r (nI t) (nI s) n c v') (gCn L fl pl (tn (A (rT r))) t s n c v) := by
  have hB := hL.1.2.1
  have e := ev_s hL ht hv
  intro n
  induction n with
  | zero => intro c v' v _ h; exact h
  | succ n ih =>
    intro c v' v hc h
    unfold xCn gCn
    refine ih (c + 1) _ _ (by omega) ?_
    have c1 := lk_31 hL (show c < L 2 by omega) (show 1 < 4 by omega)
    have c2 := lk_31 hL (show c < L 2 by omega) (show 2 < 4 by omega)
    have c3 := (hL.1.2.2.2.2.2.2 c (by omega)).2.2.2.2.2.2
    rw [xk_n hC hL (show c < L 2 by omega) (by omega) (w := 1) (z := 1) rfl, xk_n hC hL (show c < L 2 by omega) (by omega) (w := 2) (z := 2) rfl, xC_n hC hL (show c < L 2 by omega)]
    by_cases q : lk L c 1 = t ∧ lk L c 2 = s
    · have hbb := hb c (by omega) q.1 q.2
      have ew : (xW IF A r (nI t) (nI s) (nI (tn (A (rT r)) (8 * lk L c 0 + lk L c 2 + 64) + lk L c 3)) = true) ↔ gW L fl pl (tn (A (rT r))) c = true := by
        unfold xW gW
        rw [hpl, xev_n (by omega) e.1, (hE t s false ht hv).1, hC.1.2.2.2.2, nI_add, q.1, q.2]
        cases pl
        · show (decide (¬ zbo false = 0) || decide (¬ nI (fl (8 * t + s) + L 4) < nI _)) = true ↔ (false || decide (_ ≤ fl (8 * t + s) + L 4)) = true
          rw [show decide (¬ zbo false = 0) = false by decide, Bool.false_or, Bool.false_or, decide_eq_true_eq, decide_eq_true_eq, nI_ltI (by omega) (by omega)]
          omega
        · show (decide (¬ zbo true = 0) || _) = true ↔ (true || _) = true
          rw [show decide (¬ zbo true = 0) = true by decide, Bool.true_or, Bool.true_or]
      by_cases w : gW L fl pl (tn (A (rT r))) c = true
      · rw [if_pos ⟨by rw [q.1], by rw [q.2], ew.mpr w⟩, if_pos ⟨q.1, q.2, w⟩, q.2]
        exact rlv_z (by omega) h
      · rw [if_neg (fun z => w (ew.mp z.2.2)), if_neg (fun z => w z.2.2)]
        exact h
    · rw [if_neg (fun z => q ⟨(nI_eq (by omega) (by omega)).mp z.1, (nI_eq (by omega) (by omega)).mp z.2.1⟩), if_neg (fun z => q ⟨z.1, z.2.1⟩)]
      exact h
theorem xSv_n (hC : cR IF A L) (hL : lT L) (hp : pOrd L p) (hO : cO A (rO r) L p) (hE : cE A r L fl ex) (hpl : IF r 5 = zbo pl) {F0 : Nat} (hF0 : F0 ≤ 200000) (hEB : eB L fl ex F0) {t s : Nat} {b : Bool} (ht : t < L 1) (hv : gE L t s b = true) (h : ∀ t' s' b', t' < L 1 → gE L t' s' b' = true → rk L p t' s' b' < rk L p t s b → tn (A (rT r)) (8 * t' + s' + cond b' 64 0) ≤ F0 + 3000 * (rk L p t' s' b' + 1)) : xSv IF A r (L 2) (nI t) (nI s) b = nI (gF L p fl ex pl (tn (A (rT r))) t s b) := by
  have hB := hL.1.2.1
  have e := ev_s hL ht hv
  have hle := gF_le (pl := pl) hL hp hEB ht hv h
  have hS2 := hL.2
  have hrk := (rk_s hL hp ht hv).2
  have hbd : ∀ t' s' b', t' < L 1 → gE L t' s' b' = true → rk L p t' s' b' < rk L p t s b → tn (A (rT r)) (8 * t' + s' + cond b' 64 0) < 2 ^ 21 := fun t' s' b' h1 h2 h3 => by
    have := h t' s' b' h1 h2 h3
    omega
  have hf := hEB t s b ht hv
  unfold gF at hle
  have m1 := Nat.max_le.mp hle
  have m2 := Nat.max_le.mp m1.1
  have m3 := Nat.max_le.mp m2.1
  unfold xSv gF
  rw [xev_n (by omega) e.1, (hE t s b ht hv).1, xI_n hC hL hE ht hv, zmx_n (by omega) (by omega), xH_n hC hL hp hO ht hv]
  have hh : zmx (nI (max (fl (8 * t + s + cond b 64 0)) (gI L fl ex (tn (A (rT r))) t s b))) (mz (gB L p (cond b (s - 1) s) t) (fun o => tn (A (rT r)) (8 * o + s + cond b 64 0) + L 3)) = nI (max (max (fl (8 * t + s + cond b 64 0)) (gI L fl ex (tn (A (rT r))) t s b)) (gH L p (tn (A (rT r))) t s b)) := by
    have ha : max (fl (8 * t + s + cond b 64 0)) (gI L fl ex (tn (A (rT r))) t s b) < 2 ^ 31 := Nat.max_lt.mpr ⟨by omega, by omega⟩
    have eH : gH L p (tn (A (rT r))) t s b = mzN (gB L p (cond b (s - 1) s) t) (fun o => tn (A (rT r)) (8 * o + s + cond b 64 0) + L 3) := by
      unfold gH mzN
      cases gB L p (cond b (s - 1) s) t <;> rfl
    rw [eH]
    refine zmx_z ha (fun v hv' => ?_)
    have q := m2.2
    unfold gH at q
    rw [hv'] at q
    have q' : tn (A (rT r)) (8 * v + s + cond b 64 0) + L 3 ≤ F0 + 3000 * (rk L p t s b + 1) := q
    omega
  rw [hh]
  cases b with
  | true =>
    show zmx _ (xP IF A r (nI t) (nI s)) = nI (max _ (gP L p (tn (A (rT r))) t s))
    have q4 : gP L p (tn (A (rT r))) t s ≤ F0 + 3000 * (rk L p t s true + 1) := m1.2
    exact zmx_r (by omega) (xP_n hC hL hp hO ht hv (by omega))
  | false =>
    show zmx _ (xCs IF A r (nI t) (nI s) (L 2)) = nI (max _ (gCn L fl pl (tn (A (rT r))) t s (L 2) 0 0))
    have hd := gD_iff.mp (show gD L t s = true from hv)
    have hrl := xCn_n hC hL hE hpl ht hv (by have q : fl (8 * t + s) ≤ F0 := hf.1; omega) (fun c hc h1 h2 => by
      have hk := hL.1.2.2.2.2.2.2 c hc
      unfold lkOk at hk
      rw [h2] at hk
      have q1 := gQ_8 hL hp (show s - 1 < L 0 - 1 by omega) hk.1
      exact hbd (lk L c 0) s true hk.1 hk.2.2.2.2.1 (by
        unfold rk
        rw [if_pos hk.2.2.2.1, if_pos hk.2.2.2.1]
        simp only [cond]; omega)) (L 2) 0 (-1) 0 (by omega) (Or.inl ⟨rfl, rfl⟩)
    exact zmx_r (by omega) hrl
end
/-! the class computes: rows and ranks -/
section
variable {L p fl ex : Nat → Nat} {pl : Bool} {IF A : Nat → Nat → Int32} {r : Nat}
/-- all that compute reads, but its own times -/
def cS (IF A : Nat → Nat → Int32) (r : Nat) (L p fl ex : Nat → Nat) (pl : Bool) : Prop := (cR IF A L ∧ cO A (rO r) L p ∧ cE A r L fl ex ∧ IF r 5 = zbo pl) ∧ lT L ∧ pOrd L p ∧ eB L fl ex 200000
theorem rT_n (hr : rOk r) : ¬ 9 = rT r ∧ ¬ 10 = rT r ∧ ¬ 11 = rT r ∧ ¬ rO r + 1 = rT r ∧ ¬ rO r + 2 = rT r ∧ ¬ rF r = rT r ∧ ¬ rE r = rT r := by
  rcases hr with rfl | rfl | rfl <;> decide
theorem cS_up (hr : rOk r) (h : cS IF A r L p fl ex pl) {f : Nat → Int32} : cS IF (va_up A (rT r) f) r L p fl ex pl := by
  have n := rT_n hr
  obtain ⟨⟨⟨a1, a2, a3, a4, a5⟩, ⟨b1, b2⟩, c, d⟩, e⟩ := h
  refine ⟨⟨⟨a1, a2, fun s hs => ?_, fun t ht w hw => ?_, fun c hc w hw => ?_⟩, ⟨fun g hg i hi => ?_, fun g hg t ht => ?_⟩, fun t s b ht hv => ?_, d⟩, e⟩
  · rw [vu_n n.1]; exact a3 s hs
  · rw [vu_n n.2.1]; exact a4 t ht w hw
  · rw [vu_n n.2.2.1]; exact a5 c hc w hw
  · rw [vu_n n.2.2.2.1]; exact b1 g hg i hi
  · rw [vu_n n.2.2.2.2.1]; exact b2 g hg t ht
  · rw [vu_n n.2.2.2.2.2.1, vu_n n.2.2.2.2.2.2]; exact c t s b ht hv
theorem tn_upd {f : Nat → Int32} {e v : Nat} (hv : v < 2 ^ 32) : tn (upd f e (nI v)) = va_up (tn f) e v := by
  funext j
  show (upd f e (nI v) j).toBitVec.toNat = _
  by_cases h : j = e
  · subst h; rw [upd_s, vu_s, pk_tn hv]
  · rw [upd_n h, vu_n h]; rfl
/-- a train's event is settled -/
theorem xSt_sol (hr : rOk r) (h : cS IF A r L p fl ex pl) {t s : Nat} {b : Bool} (ht : t < L 1) (hs : s < 8) (hS : gE L t s b = true → Sol L p fl ex pl (tn (A (rT r))) (rk L p t s b)) : (gE L t s b = true → Sol L p fl ex pl (tn (xSt IF A r (L 2) (nI t) (nI s) b (rT r))) (rk L p t s b + 1)) ∧ (gE L t s b = false → xSt IF A r (L 2) (nI t) (nI s) b = A) ∧ ∃ f, xSt IF A r (L 2) (nI t) (nI s) b = va_up A (rT r) f := by
  obtain ⟨⟨hC, hO, hE, hpl⟩, hL, hp, hB⟩ := h
  have hBB := hL.1.2.1
  unfold xSt
  rw [xe_n hC hL ht (by omega)]
  cases hv : gE L t s b with
  | false => exact ⟨fun q => Bool.noConfusion q, fun _ => rfl, A (rT r), vu_id.symm⟩
  | true =>
    refine ⟨fun _ => ?_, fun q => Bool.noConfusion q, _, rfl⟩
    have hb := Sol_bd hL hp hB (hS hv) _ (Nat.le_refl _)
    have e := xSv_n hC hL hp hO hE hpl (Nat.le_refl _) hB ht hv hb
    have hle := gF_le (pl := pl) hL hp hB ht hv hb
    have hrk := (rk_s hL hp ht hv).2
    show Sol L p fl ex pl (tn (va_up A (rT r) _ (rT r))) _
    rw [vu_s, e, xev_n (by omega) hs, tn_upd (by omega)]
    exact Sol_step hL hp ht hv (hS hv)
end
