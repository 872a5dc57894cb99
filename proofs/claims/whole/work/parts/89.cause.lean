/-! class and reference: causes, supplements, distances, bits -/
theorem sub_eq0 {a b : Nat} (ha : a < 2 ^ 30) (hb : b < 2 ^ 30) : nI a - nI b = 0 ↔ nI a = nI b := by
  constructor
  · intro h
    have q := congrArg Int32.toInt h
    rw [pk_sub_toInt ha hb, Int32.toInt_zero] at q
    have e : a = b := by omega
    rw [e]
  · intro h
    have e := (nI_eq (by omega) (by omega)).mp h
    rw [e, pk_sub (Nat.le_refl b), Nat.sub_self]
    exact nI_0
section
variable {IF A B : Nat → Nat → Int32} {L p fl ex : Nat → Nat} {r : Nat}
theorem gM_n (h : gM A B r L) {t s : Nat} {b : Bool} (ht : t < L 1) (hv : gE L t s b = true) : (B (cond b 45 44) (8 * t + s) - B (cond b 43 42) (8 * t + s) = 0 ↔ B (cond b 45 44) (8 * t + s) = B (cond b 43 42) (8 * t + s)) := by
  have q := h t s b ht hv
  rw [q.1.1, q.1.2, ← nI_tn (A (rT r) (8 * t + s + cond b 64 0)), ← nI_tn (A (rF r) (8 * t + s + cond b 64 0))]
  have q1 : (A (rF r) (8 * t + s + cond b 64 0)).toBitVec.toNat ≤ 1000000 := q.2.1
  have q2 : (A (rT r) (8 * t + s + cond b 64 0)).toBitVec.toNat ≤ 1000000 := q.2.2
  exact sub_eq0 (by omega) (by omega)
theorem cau_in (hL : lT L) (h : gM A B 22 L) (hx : ∀ t s b, t < L 1 → gE L t s b = true → B (cond b 40 39) (8 * t + s) = A 24 (8 * t + s + cond b 64 0)) {t s : Nat} (ht : t < L 1) (hv : gE L t s true = true) : B 44 (8 * t + (s - 1)) + nI (L (13 + (s - 1)) * tr L t 3) + B 40 (8 * t + s) = nI (gI L (tn (A 20)) (tn (A 24)) (tn (A 23)) t s true) := by
  have ha := gA_iff.mp (show gA L t s = true from hv)
  have e44 : B 44 (8 * t + (s - 1)) = nI (tn (A 23) (8 * t + (s - 1))) := ((h t (s - 1) false ht (gD_iff.mpr (by omega))).1.2).trans (nI_tn _).symm
  have e40 : B 40 (8 * t + s) = nI (tn (A 24) (8 * t + s + 64)) := (hx t s true ht hv).trans (nI_tn _).symm
  rw [e44, e40, nI_add, nI_add]
  rfl
theorem cau_out (hL : lT L) (h : gM A B 22 L) (hx : ∀ t s b, t < L 1 → gE L t s b = true → B (cond b 40 39) (8 * t + s) = A 24 (8 * t + s + cond b 64 0)) {t s : Nat} (ht : t < L 1) (hv : gE L t s false = true) : (if s = tr L t 0 then B 42 (8 * t + s) else B 45 (8 * t + s) + nI (tr L t 4)) + B 39 (8 * t + s) = nI (gI L (tn (A 20)) (tn (A 24)) (tn (A 23)) t s false) := by
  have hd := gD_iff.mp (show gD L t s = true from hv)
  have e42 : B 42 (8 * t + s) = nI (tn (A 20) (8 * t + s)) := ((h t s false ht hv).1.1).trans (nI_tn _).symm
  have e39 : B 39 (8 * t + s) = nI (tn (A 24) (8 * t + s)) := (hx t s false ht hv).trans (nI_tn _).symm
  show _ = nI (if s = tr L t 0 then tn (A 20) (8 * t + s) + tn (A 24) (8 * t + s) else tn (A 23) (8 * t + s + 64) + tr L t 4 + tn (A 24) (8 * t + s))
  rw [e42, e39]
  by_cases q : s = tr L t 0
  · rw [if_pos q, if_pos q, nI_add]
  · have e45 : B 45 (8 * t + s) = nI (tn (A 23) (8 * t + s + 64)) := ((h t s true ht (gA_iff.mpr (by omega))).1.2).trans (nI_tn _).symm
    rw [if_neg q, if_neg q, e45, nI_add, nI_add]
theorem ca_eq (hC : cR IF A L) (hL : lT L) (hp : pOrd L p) (hO : cO A 15 L p) (h : gM A B 22 L) (hx : ∀ t s b, t < L 1 → gE L t s b = true → B (cond b 40 39) (8 * t + s) = A 24 (8 * t + s + cond b 64 0)) {t s : Nat} {b : Bool} (ht : t < L 1) (hv : gE L t s b = true) : xRs IF A 22 (nI t) (nI s) b = cond b (mcA B L p t s) (mcD B L p t s) := by
  have hB := hL.1.2.1
  have hS2 := hL.2
  have ev := ev_s hL ht hv
  have hE : cE A 22 L (tn (A 20)) (tn (A 24)) := fun t s b _ _ => ⟨(nI_tn _).symm, (nI_tn _).symm⟩
  have eI := xI_n (r := 22) hC hL hE ht hv
  have eH := xH_n (r := 22) hC hL hp hO ht hv
  have eD := xDl_n hL h ht hv
  have iD := gM_n h ht hv
  have bT := (h t s b ht hv).2.2
  unfold xRs
  rw [eD, eI, eH, xev_n (by omega) ev.1]
  cases b with
  | true =>
    have e45 : B 45 (8 * t + s) = A 23 (8 * t + s + 64) := (h t s true ht hv).1.2
    have e2 := cau_in hL h hx ht hv
    have bT' : (A 23 (8 * t + s + 64)).toBitVec.toNat ≤ 1000000 := bT
    show (if B 45 (8 * t + s) - B 43 (8 * t + s) = 0 then 0 else if A 23 (8 * t + s + 64) = nI (gI L (tn (A 20)) (tn (A 24)) (tn (A 23)) t s true) then 1 else if A 23 (8 * t + s + 64) = mz (gB L p (s - 1) t) (fun o => tn (A 23) (8 * o + s + 64) + L 3) then 2 else 3) = mcA B L p t s
    unfold mcA
    rw [e2]
    have iD' : B 45 (8 * t + s) - B 43 (8 * t + s) = 0 ↔ B 45 (8 * t + s) = B 43 (8 * t + s) := iD
    by_cases q : B 45 (8 * t + s) = B 43 (8 * t + s)
    · rw [if_pos (iD'.mpr q), if_pos q]
    · rw [if_neg (fun z => q (iD'.mp z)), if_neg q, e45]
      by_cases q2 : A 23 (8 * t + s + 64) = nI (gI L (tn (A 20)) (tn (A 24)) (tn (A 23)) t s true)
      · rw [if_pos q2, if_pos q2]
      · rw [if_neg q2, if_neg q2]
        cases ho : gB L p (s - 1) t with
        | none =>
          show (if A 23 (8 * t + s + 64) = -1 then 2 else 3) = (3 : Int32)
          rw [← nI_tn (A 23 (8 * t + s + 64)), if_neg (zne1 (by omega))]
        | some o =>
          have g := gB_some hp (show s - 1 < L 0 - 1 by omega) ho
          have gd := gD_iff.mp g.2.1
          have s1 := ev.2.2.1 rfl
          have eo : B 45 (8 * o + s) = nI (tn (A 23) (8 * o + s + 64)) := ((h o s true g.1 (gA_iff.mpr (by omega))).1.2).trans (nI_tn _).symm
          show (if A 23 (8 * t + s + 64) = nI (tn (A 23) (8 * o + s + 64) + L 3) then 2 else 3) = (if A 23 (8 * t + s + 64) = B 45 (8 * o + s) + nI (L 3) then 2 else (3 : Int32))
          rw [eo, nI_add]
  | false =>
    have e44 : B 44 (8 * t + s) = A 23 (8 * t + s) := (h t s false ht hv).1.2
    have e2 := cau_out hL h hx ht hv
    have bT' : (A 23 (8 * t + s)).toBitVec.toNat ≤ 1000000 := bT
    show (if B 44 (8 * t + s) - B 42 (8 * t + s) = 0 then 0 else if A 23 (8 * t + s) = nI (gI L (tn (A 20)) (tn (A 24)) (tn (A 23)) t s false) then 1 else if A 23 (8 * t + s) = mz (gB L p s t) (fun o => tn (A 23) (8 * o + s) + L 3) then 2 else 4) = mcD B L p t s
    unfold mcD
    rw [e2]
    have iD' : B 44 (8 * t + s) - B 42 (8 * t + s) = 0 ↔ B 44 (8 * t + s) = B 42 (8 * t + s) := iD
    by_cases q : B 44 (8 * t + s) = B 42 (8 * t + s)
    · rw [if_pos (iD'.mpr q), if_pos q]
    · rw [if_neg (fun z => q (iD'.mp z)), if_neg q, e44]
      by_cases q2 : A 23 (8 * t + s) = nI (gI L (tn (A 20)) (tn (A 24)) (tn (A 23)) t s false)
      · rw [if_pos q2, if_pos q2]
      · rw [if_neg q2, if_neg q2]
        cases ho : gB L p s t with
        | none =>
          show (if A 23 (8 * t + s) = -1 then 2 else 4) = (4 : Int32)
          rw [← nI_tn (A 23 (8 * t + s)), if_neg (zne1 (by omega))]
        | some o =>
          have g := gB_some hp (ev.2.2.2 rfl) ho
          have eo : B 44 (8 * o + s) = nI (tn (A 23) (8 * o + s)) := ((h o s false g.1 g.2.1).1.2).trans (nI_tn _).symm
          show (if A 23 (8 * t + s) = nI (tn (A 23) (8 * o + s) + L 3) then 2 else 4) = (if A 23 (8 * t + s) = B 44 (8 * o + s) + nI (L 3) then 2 else (4 : Int32))
          rw [eo, nI_add]
/-- an arrival that is neither on time nor bound by its own train has a train ahead -/
theorem ca_nn (hL : lT L) (hp : pOrd L p) {T : Nat → Nat} {pl : Bool} (hS : Sol L p fl ex pl T 256) {t s : Nat} (ht : t < L 1) (hv : gE L t s true = true) (h1 : ¬ T (8 * t + s + 64) = fl (8 * t + s + 64)) (h2 : ¬ T (8 * t + s + 64) = gI L fl ex T t s true) : ¬ gB L p (s - 1) t = none := by
  intro hn
  have q : T (8 * t + s + 64) = gF L p fl ex pl T t s true := hS t s true ht hv (rk_256 hL hp ht hv)
  have e : gF L p fl ex pl T t s true = max (fl (8 * t + s + 64)) (gI L fl ex T t s true) := by
    show max (max (max (fl (8 * t + s + 64)) (gI L fl ex T t s true)) (gH L p T t s true)) (gP L p T t s) = _
    have e1 : gH L p T t s true = 0 := by
      unfold gH
      show (match gB L p (s - 1) t with | none => 0 | some o => T (8 * o + s + 64) + L 3) = 0
      rw [hn]
    have e2 : gP L p T t s = 0 := by
      unfold gP
      rw [hn]
      split <;> rfl
    rw [e1, e2, Nat.max_eq_left (Nat.zero_le _), Nat.max_eq_left (Nat.zero_le _)]
  rw [e] at q
  rcases Nat.le_total (fl (8 * t + s + 64)) (gI L fl ex T t s true) with z | z
  · rw [Nat.max_eq_right z] at q; exact h2 q
  · rw [Nat.max_eq_left z] at q; exact h1 q
/-- supplements: sums -/
theorem ss_eq (hL : lT L) {t : Nat} (ht : t < L 1) (h : ∀ g, g < 7 → A 21 (8 * t + g + 1 + 64) = A 35 (7 * t + g) ∧ (gD L t g = false → A 35 (7 * t + g) = 0)) : ∀ n s v, s + n = L 0 - 1 → xss A (nI t) n s v = mss A t (7 - s) s v := by
  have hB := hL.1.2.1
  intro n
  induction n with
  | zero =>
    intro s v hs
    have z : ∀ m s, s + m = 7 → L 0 - 1 ≤ s → mss A t m s v = v := by
      intro m
      induction m with
      | zero => intro s _ _; rfl
      | succ m ih =>
        intro s h1 h2
        have hT := hL.1.2.2.2.2.2.1 t ht
        unfold trOk at hT
        have gd : gD L t s = false := by
          cases e : gD L t s with
          | false => rfl
          | true => have := gD_iff.mp e; omega
        unfold mss
        rw [(h s (by omega)).2 gd, Int32.add_zero]
        exact ih (s + 1) (by omega) (by omega)
    exact (z (7 - s) s (by omega) (by omega)).symm
  | succ n ih =>
    intro s v hs
    have e : 7 - s = (7 - (s + 1)) + 1 := by omega
    rw [e]
    unfold xss mss
    rw [nI_1, xev_n (by omega) (by omega)]
    have q : A 21 (8 * t + (s + 1) + cond true 64 0) = A 35 (7 * t + s) := (h s (by omega)).1
    rw [q]
    exact ih (s + 1) _ (by omega)
/-- distances -/
theorem di_eq (hC : cR IF A L) (hL : lT L) {t : Nat} (ht : t < L 1) : ∀ n s v, s + n = L 0 - 1 → xdi A (nI t) n s (nI v) = nI (if s < tr L t 0 then gSum L (tr L t 1 - tr L t 0) (tr L t 0) v else gSum L (tr L t 1 - s) s v) := by
  have hB := hL.1.2.1
  have hT := hL.1.2.2.2.2.2.1 t ht
  unfold trOk at hT
  intro n
  induction n with
  | zero =>
    intro s v hs
    rw [if_neg (by omega), show tr L t 1 - s = 0 by omega]
    rfl
  | succ n ih =>
    intro s v hs
    unfold xdi
    rw [xd_n hC hL ht (show s < 100 by omega), m8_nI (by omega), hC.2.2.1 s (by omega)]
    by_cases h1 : s < tr L t 0
    · have gd : gD L t s = false := by
        cases e : gD L t s with
        | false => rfl
        | true => have := gD_iff.mp e; omega
      rw [gd, if_pos h1]
      show xdi A (nI t) n (s + 1) (nI v) = _
      rw [ih (s + 1) v (by omega)]
      by_cases h2 : s + 1 < tr L t 0
      · rw [if_pos h2]
      · rw [if_neg h2, show s + 1 = tr L t 0 by omega]
    · rw [if_neg h1]
      by_cases h3 : s < tr L t 1
      · rw [gD_iff.mpr ⟨by omega, h3⟩]
        show xdi A (nI t) n (s + 1) (nI v + nI (L (13 + s))) = _
        rw [nI_add, ih (s + 1) _ (by omega), if_neg (by omega), show tr L t 1 - s = (tr L t 1 - (s + 1)) + 1 by omega]
        rfl
      · have gd : gD L t s = false := by
          cases e : gD L t s with
          | false => rfl
          | true => have := gD_iff.mp e; omega
        rw [gd]
        show xdi A (nI t) n (s + 1) (nI v) = _
        rw [ih (s + 1) v (by omega), if_neg (by omega), show tr L t 1 - (s + 1) = 0 by omega, show tr L t 1 - s = 0 by omega]
        rfl
end
