/-! class and reference: the tolerance -/
section
variable {IF IG A B C A0 : Nat → Nat → Int32} {L p q pa ex ey fl : Nat → Nat} {k : Nat} {pl : Bool}
theorem gB_cg (e : ∀ g, g < L 0 - 1 → ∀ i, i < L 1 → p (8 * g + i) = q (8 * g + i)) {g t : Nat} (hg : g < L 0 - 1) : gB L p g t = gB L q g t := gBl_cg (L 1) 0 none (fun j _ hj => e g hg j (by omega))
theorem Sol_pc (hL : lT L) (hp : pOrd L p) (e : ∀ g, g < L 0 - 1 → ∀ i, i < L 1 → p (8 * g + i) = q (8 * g + i)) {T : Nat → Nat} (h : Sol L p fl ex pl T 256) : Sol L q fl ex pl T 256 := fun t s b ht hv _ => by
  rw [h t s b ht hv (rk_256 hL hp ht hv)]
  have ev := ev_s hL ht hv
  unfold gF gH gP
  cases b with
  | true =>
    have s1 := ev.2.2.1 rfl
    have e1 := gB_cg (t := t) e (show s - 1 < L 0 - 1 by omega)
    show max (max (max _ _) (match gB L p (s - 1) t with | none => _ | some o => _)) (if L (5 + s) = 1 then 0 else match gB L p (s - 1) t with | none => _ | some o => _) = max (max (max _ _) (match gB L q (s - 1) t with | none => _ | some o => _)) (if L (5 + s) = 1 then 0 else match gB L q (s - 1) t with | none => _ | some o => _)
    rw [e1]
  | false =>
    have s1 := ev.2.2.2 rfl
    have e1 := gB_cg (t := t) e s1
    show max (max (max _ _) (match gB L p s t with | none => _ | some o => _)) _ = max (max (max _ _) (match gB L q s t with | none => _ | some o => _)) _
    rw [e1]
    rfl
theorem gCn_le {f1 f2 T : Nat → Nat} {t s : Nat} : ∀ n c v w, v ≤ w → gCn L f1 false T t s n c v ≤ gCn L f2 true T t s n c w := by
  intro n
  induction n with
  | zero => intro c v w h; exact h
  | succ n ih =>
    intro c v w h
    unfold gCn
    refine ih (c + 1) _ _ ?_
    by_cases z : lk L c 1 = t ∧ lk L c 2 = s
    · have z2 : lk L c 1 = t ∧ lk L c 2 = s ∧ gW L f2 true T c = true := ⟨z.1, z.2, rfl⟩
      rw [if_pos z2]
      split
      · exact Nat.max_le.mpr ⟨Nat.le_trans h (Nat.le_max_left _ _), Nat.le_max_right _ _⟩
      · exact Nat.le_trans h (Nat.le_max_left _ _)
    · rw [if_neg (fun w => z ⟨w.1, w.2.1⟩), if_neg (fun w => z ⟨w.1, w.2.1⟩)]
      exact h
/-- with no delay the trains run as planned -/
theorem Sol_id (hL : lT L) (hp : pOrd L p) {T : Nat → Nat} (h : Sol L p fl ex true T 256) : Sol L p T (fun _ => 0) false T 256 := fun t s b ht hv _ => by
  have e := h t s b ht hv (rk_256 hL hp ht hv)
  have a : gI L T (fun _ => 0) T t s b ≤ T (8 * t + s + cond b 64 0) := by
    have a1 : gI L fl ex T t s b ≤ T (8 * t + s + cond b 64 0) := by
      rw [e]
      unfold gF
      exact Nat.le_trans (Nat.le_trans (Nat.le_max_right _ _) (Nat.le_max_left _ _)) (Nat.le_max_left _ _)
    cases b with
    | true =>
      refine Nat.le_trans ?_ a1
      show T (8 * t + (s - 1)) + L (13 + (s - 1)) * tr L t 3 + 0 ≤ T (8 * t + (s - 1)) + L (13 + (s - 1)) * tr L t 3 + ex (8 * t + s + 64)
      omega
    | false =>
      show (if s = tr L t 0 then T (8 * t + s) + 0 else T (8 * t + s + 64) + tr L t 4 + 0) ≤ T (8 * t + s + 0)
      by_cases z : s = tr L t 0
      · rw [if_pos z]
        exact Nat.le_refl _
      · rw [if_neg z]
        have a2 : (if s = tr L t 0 then fl (8 * t + s) + ex (8 * t + s) else T (8 * t + s + 64) + tr L t 4 + ex (8 * t + s)) ≤ T (8 * t + s + 0) := a1
        rw [if_neg z] at a2
        omega
  have b1 : gH L p T t s b ≤ T (8 * t + s + cond b 64 0) := by
    rw [e]
    unfold gF
    exact Nat.le_trans (Nat.le_max_right _ _) (Nat.le_max_left _ _)
  have c : cond b (gP L p T t s) (gCn L T false T t s (L 2) 0 0) ≤ T (8 * t + s + cond b 64 0) := by
    rw [e]
    unfold gF
    refine Nat.le_trans ?_ (Nat.le_max_right _ _)
    cases b with
    | true => exact Nat.le_refl _
    | false => exact gCn_le (L 2) 0 0 0 (Nat.le_refl _)
  unfold gF
  rw [Nat.max_eq_left a, Nat.max_eq_left b1, Nat.max_eq_left c]
theorem mls_0 (h : ∀ t, t < L 1 → B 45 (8 * t + tr L t 1) = B 43 (8 * t + tr L t 1)) : ∀ n t, t + n = L 1 → mls B L 0 n t 0 = 0 := by
  intro n
  induction n with
  | zero => intro t _; rfl
  | succ n ih =>
    intro t ht
    have e : mls B L 0 (n + 1) t 0 = mls B L 0 n (t + 1) (0 ||| (if B 45 (8 * t + tr L t 1) - B 43 (8 * t + tr L t 1) ≤ 0 then 0 else (1 : Int32) <<< (nI t &&& 31))) := rfl
    rw [e, h t (by omega), Int32.sub_self, if_pos (by decide), ior_0]
    exact ih (t + 1) (by omega)
/-- minutes m at place e -/
def eyM (e m : Nat) : Nat → Nat := fun j => if j = e then m else 0
theorem tq_e (h : Inv L p pa ex ey k) (hm : mG IG A0 L p pa ex ey k) : ∀ g, g < L 0 - 1 → ∀ i, i < L 1 → p (8 * g + i) = tq A0 (8 * g + i) := fun g hg i hi => by
  have hB := h.1.1.1.2.1
  have b := h.1.2.1.1 g hg i hi
  show _ = (cp 56 (A0 36) (A0 37) (8 * g + i)).toBitVec.toNat
  rw [cp_lt (by omega), hm.1.2.1]
  exact (pk_tn (by omega)).symm
theorem tV_in (h : Inv L p pa ex ey k) (hm : mG IG A0 L p pa ex ey k) {e m : Nat} (he : e < 64) (hm2 : m ≤ 120) (hV : tV L p (tq A0) A0 e m B) : mIn B L p (tq A0) (pF L) ex (eyM e m) := by
  have hL := h.1.1
  have hB := hL.1.2.1
  refine ⟨hV.1.1, ⟨hL, h.1.2.1, pOrd_cg h.1.2.1 (tq_e h hm), Inv_pl h⟩, fun t s ht hv => ?_, fun t s b ht hv => ⟨?_, ?_⟩⟩
  · have ev := ev_s hL ht hv
    have s1 := ev.2.2.1 rfl
    have q := hm.2.1 t (s - 1) ht (by omega)
    rw [show s - 1 + 1 = s by omega, show 7 * t + (s - 1) = 7 * t + s - 1 by omega] at q
    rw [hV.2.1]
    exact q
  · have ev := ev_s hL ht hv
    cases b with
    | true =>
      show B 40 (8 * t + s) = nI (eyM e m (8 * t + s + 64))
      rw [hV.2.2.2 _ (by omega)]
      unfold eyM
      rw [if_neg (by omega)]
      exact nI_0.symm
    | false =>
      show B 39 (8 * t + s) = nI (eyM e m (8 * t + s))
      rw [hV.2.2.1 _ (by omega)]
      unfold eyM
      by_cases z : 8 * t + s = e
      · rw [if_pos z, if_pos z]
      · rw [if_neg z, if_neg z]
        exact nI_0.symm
  · unfold eyM
    split <;> omega
theorem to_z (h : Inv L p pa ex ey k) (hc : cG IF A L p pa ex ey k) (hm : mG IG A0 L p pa ex ey k) {e : Nat} (he : e < 64) (hV : tV L p (tq A0) A0 e 0 B) : tL L p (tq A0) B = 0 := by
  have hL := h.1.1
  have S0 := Sol_pc hL h.1.2.1 (tq_e h hm) (Sol_id hL h.1.2.1 hc.2.1)
  have S1 : Sol L (tq A0) (tn (A 20)) (eyM e 0) false (tn (A 20)) 256 := Sol_fx hL S0 (fun t s b ht hv => ⟨rfl, by unfold eyM; split <;> rfl⟩)
  have r := ref_ac (tV_in h hm he (by omega) hV) hc.2.1 S1
  refine mls_0 (fun t ht => ?_) (L 1) 0 (by omega)
  have v := (tr_ev hL ht).2.1
  have r1 := r.1 t (tr L t 1) true ht v
  exact r1.2.trans r1.1.symm
/-- the class's rows while minutes are tried -/
def cT (A : Nat → Nat → Int32) (e : Nat) (C : Nat → Nat → Int32) : Prop := (∀ j, ¬ j = 26 → ¬ j = 27 → C j = A j) ∧ ∀ j, ¬ j = e → C 27 j = 0
theorem to_1 (h : Inv L p pa ex ey k) (hc : cG IF A L p pa ex ey k) (hm : mG IG A0 L p pa ex ey k) {t s m : Nat} (ht : t < L 1) (hs : s < 8) (hm2 : m ≤ 120) (hC : cT A (8 * t + s) C) : cT A (8 * t + s) (xtA IF (L 2) (L 1) (L 0) (nI t) (nI s) m C) ∧ ∀ B, tV L p (tq A0) A0 (8 * t + s) m B → tL L p (tq A0) B = xls (xtA IF (L 2) (L 1) (L 0) (nI t) (nI s) m C) 25 0 (L 1) 0 0 := by
  have hL := h.1.1
  have hB := hL.1.2.1
  have e0 : xev (nI t) (nI s) false = 8 * t + s := by rw [xev_n (by omega) hs]; rfl
  have pq := pOrd_cg h.1.2.1 (tq_e h hm)
  have r1 : ∀ j, ¬ j = 26 → ¬ j = 27 → va_up C 27 (upd (C 27) (8 * t + s) (nI m)) j = A j := fun j h1 h2 => by rw [vu_n h2]; exact hC.1 j h1 h2
  have hR : cR IF (va_up C 27 (upd (C 27) (8 * t + s) (nI m))) L := cR_fr hc.1.1.1 (r1 9 (by decide) (by decide)) (r1 10 (by decide) (by decide)) (r1 11 (by decide) (by decide)) rfl
  have hO : cO (va_up C 27 (upd (C 27) (8 * t + s) (nI m))) 12 L (tq A0) := cO_fr (cO_cg hc.1.1.2.1 (tq_e h hm)) (r1 13 (by decide) (by decide)) (r1 14 (by decide) (by decide))
  have hE : cE (va_up C 27 (upd (C 27) (8 * t + s) (nI m))) 25 L (tn (A 20)) (eyM (8 * t + s) m) := fun t' s' b ht' hv => by
    refine ⟨?_, ?_⟩
    · show va_up C 27 (upd (C 27) (8 * t + s) (nI m)) 20 _ = _
      rw [r1 20 (by decide) (by decide)]
      exact (nI_tn _).symm
    · show upd (C 27) (8 * t + s) (nI m) _ = _
      unfold eyM
      by_cases z : 8 * t' + s' + cond b 64 0 = 8 * t + s
      · rw [z, upd_s, if_pos rfl]
      · rw [upd_n z, if_neg z, hC.2 _ z]
        exact nI_0.symm
  have hEB : eB L (tn (A 20)) (eyM (8 * t + s) m) 200000 := ac_eB hL h.1.2.1 (Inv_pl h) hc.2.1 (fun t' s' b _ _ => by unfold eyM; split <;> omega)
  have x := compute_sol (r := 25) (p := tq A0) (fl := tn (A 20)) (ex := eyM (8 * t + s) m) (pl := false) (IF := IF) (L := L) (Or.inr (Or.inr rfl)) ⟨⟨hR, hO, hE, hc.1.2.1.2.2.1.1.1⟩, hL, pq, hEB⟩
  unfold xtA
  rw [e0]
  obtain ⟨x1, f, x2⟩ := x
  generalize xCo IF 25 (L 2) (L 1) (L 0) 0 (va_up C 27 (upd (C 27) (8 * t + s) (nI m))) = D at x1 x2 ⊢
  have fr : ∀ j, ¬ j = 26 → D j = va_up C 27 (upd (C 27) (8 * t + s) (nI m)) j := fun j hj => by rw [x2]; exact vu_n hj
  refine ⟨⟨fun j h1 h2 => (fr j h1).trans (r1 j h1 h2), fun j hj => ?_⟩, fun B hV => ?_⟩
  · rw [fr 27 (by decide), vu_s, upd_n hj]
    exact hC.2 j hj
  · have r := ref_ac (tV_in h hm (by omega) hm2 hV) hc.2.1 x1
    have g : gM D (mLw L p (tq A0) B) 25 L := fun t' s' b ht' hv => by
      have a := r.1 t' s' b ht' hv
      have d20 : D 20 = A 20 := (fr 20 (by decide)).trans (r1 20 (by decide) (by decide))
      refine ⟨⟨?_, ?_⟩, ?_, ?_⟩
      · show _ = D 20 _
        rw [d20]
        exact a.1.trans (nI_tn _)
      · exact a.2.trans (nI_tn _)
      · show tn (D 20) _ ≤ _
        rw [d20]
        exact Nat.le_trans (pl_bd hL h.1.2.1 (Inv_pl h) hc.2.1 ht' hv) (Nat.le_of_ble_eq_true rfl)
      · exact ac_bd hL pq hEB x1 ht' hv
    have hR2 : cR IF D L := cR_fr hR (fr 9 (by decide)) (fr 10 (by decide)) (fr 11 (by decide)) rfl
    exact (ls_eq hR2 hL g (L 1) 0 0 (by omega)).symm
theorem to_2 (h : Inv L p pa ex ey k) (hc : cG IF A L p pa ex ey k) {t s : Nat} (ht : t < L 1) (hs : s < 8) : ∀ (m : Nat) (C : Nat → Nat → Int32), m ≤ 61 → cT A (8 * t + s) C → cT A (8 * t + s) (xto IF (L 2) (L 1) (L 0) (nI t) (nI s) m C).2 := by
  intro m
  induction m with
  | zero => intro C _ hC; exact hC
  | succ m ih =>
    intro C hm2 hC
    have e : xto IF (L 2) (L 1) (L 0) (nI t) (nI s) (m + 1) C = if xls (xtA IF (L 2) (L 1) (L 0) (nI t) (nI s) m C) 25 0 (L 1) 0 0 = 0 then (m, xtA IF (L 2) (L 1) (L 0) (nI t) (nI s) m C) else xto IF (L 2) (L 1) (L 0) (nI t) (nI s) m (xtA IF (L 2) (L 1) (L 0) (nI t) (nI s) m C) := rfl
    have q := to_1 (A0 := fun j => cond (Nat.beq j 33) (lf L) (cond (Nat.beq j 36) (lf p) (cond (Nat.beq j 37) (lf pa) (cond (Nat.beq j 35) (fun i => nI (ex (8 * (i / 7) + (i % 7 + 1) + 64))) (cond (Nat.beq j 39) (lf ey) (fun i => nI (ey (i + 64)))))))) (IG := fun _ _ => nI k) (m := m) h hc ⟨⟨rfl, rfl, rfl⟩, fun t g ht hg => by
      show nI (ex (8 * ((7 * t + g) / 7) + ((7 * t + g) % 7 + 1) + 64)) = _
      rw [show (7 * t + g) / 7 = t by omega, show (7 * t + g) % 7 = g by omega], fun t s b ht hv => by cases b <;> rfl, rfl⟩ ht hs (by omega) hC
    rw [e]
    split
    · exact q.1
    · exact ih _ (by omega) q.1
theorem to_3 (h : Inv L p pa ex ey k) (hc : cG IF A L p pa ex ey k) (hm : mG IG A0 L p pa ex ey k) {t s m0 : Nat} (ht : t < L 1) (hs : s < 8) (hz : ∃ B, tV L p (tq A0) A0 (8 * t + s) m0 B ∧ tL L p (tq A0) B = 0) (hN : ∀ j, m0 < j → j ≤ 60 → ∃ B, tV L p (tq A0) A0 (8 * t + s) j B ∧ ¬ tL L p (tq A0) B = 0) : ∀ (m : Nat) (C : Nat → Nat → Int32), m ≤ 61 → m0 < m → cT A (8 * t + s) C → (xto IF (L 2) (L 1) (L 0) (nI t) (nI s) m C).1 = m0 := by
  intro m
  induction m with
  | zero => intro C _ h0 _; exact absurd h0 (by omega)
  | succ m ih =>
    intro C hm2 h0 hC
    have e : xto IF (L 2) (L 1) (L 0) (nI t) (nI s) (m + 1) C = if xls (xtA IF (L 2) (L 1) (L 0) (nI t) (nI s) m C) 25 0 (L 1) 0 0 = 0 then (m, xtA IF (L 2) (L 1) (L 0) (nI t) (nI s) m C) else xto IF (L 2) (L 1) (L 0) (nI t) (nI s) m (xtA IF (L 2) (L 1) (L 0) (nI t) (nI s) m C) := rfl
    have q := to_1 (m := m) h hc hm ht hs (by omega) hC
    rw [e]
    by_cases v : xls (xtA IF (L 2) (L 1) (L 0) (nI t) (nI s) m C) 25 0 (L 1) 0 0 = 0
    · rw [if_pos v]
      show m = m0
      by_cases w : m0 < m
      · obtain ⟨B, b1, b2⟩ := hN m w (by omega)
        exact absurd ((q.2 B b1).trans v) b2
      · omega
    · rw [if_neg v]
      refine ih _ (by omega) ?_ q.1
      by_cases w : m0 = m
      · obtain ⟨B, b1, b2⟩ := hz
        rw [w] at b1
        exact absurd ((q.2 B b1).symm.trans b2) v
      · omega
end
section
variable {ε : Nat × (Nat → Int32)} {d y : Nat} {o ot it : Value} {IF IG A B : Nat → Nat → Int32} {AL : Nat → Nat → Int64} {AD : Nat → Nat → UInt64} {L p pa ex ey : Nat → Nat} {k : Nat}
theorem j_tolerance (h : gX IF A L p pa ex ey k) {x z : Int32} : zW ε false (d + 20) 107 0 [(0, .ref 0), (1, .int x), (2, .int z)] [] (zM o ot it IF A AL AD) 0 0 (zP2 ε (d + 21) 204 [(0, .ref 32), (1, .int x), (2, .int z)] okI (.int 0) [(2, 1), (3, 2)] AL AD) := by
  have hV := mV_of h.1 h.2.2.1
  have hL := h.1.1.1
  have hB := hL.1.2.1
  have hR := h.2.1.1.1.1
  obtain ⟨n, T, ht⟩ := h.2.2.2
  have hz0 : ∀ B, mG IF B L p pa ex ey k → ∀ t s, t < L 1 → s < L 0 → x = nI t → z = nI s → gD L t s = true → ∀ D, tV L p (tq B) B (8 * t + s) 0 D → tL L p (tq B) D = 0 := fun B mB t s ht hs _ _ _ D hD => to_z h.1 h.2.1 mB (by omega) hD
  refine c_tolerance hR.1.1 (by omega) hR.1.2.1 (by omega) hR.1.2.2.1 (by omega) (fun gx gz ge => p2_ok ⟨_, rfl⟩ fun AL AD => ?_) (fun g => p2_ex (cde := 1) (by simp) fun AL AD => ?_) (fun gx gz ge => p2_ex (cde := 2) (by simp) fun AL AD => ?_)
  · obtain ⟨t, ht1, rfl⟩ := gx
    obtain ⟨s, hs, rfl⟩ := gz
    have c0 : cT A (8 * t + s) A := ⟨fun _ _ _ => rfl, fun j _ => by rw [h.2.1.1.2.1.2.2.1.2]⟩
    have c1 := to_2 h.1 h.2.1 ht1 (show s < 8 by omega) 61 A (by omega) c0
    have tr3 := fun (A0 : Nat → Nat → Int32) (m0 : Nat) (m1 : mG IF A0 L p pa ex ey k) (hz : ∃ B, tV L p (tq A0) A0 (8 * t + s) m0 B ∧ tL L p (tq A0) B = 0) (hN : ∀ j, m0 < j → j ≤ 60 → ∃ B, tV L p (tq A0) A0 (8 * t + s) j B ∧ ¬ tL L p (tq A0) B = 0) (h0 : m0 < 61) => to_3 h.1 h.2.1 m1 ht1 (show s < 8 by omega) hz hN 61 A (by omega) h0 c0
    generalize xto IF (L 2) (L 1) (L 0) (nI t) (nI s) 61 A = F at c1 tr3 ⊢
    have fz : ∀ j, ¬ j = 26 → zfin (nI t) (nI s) F.2 j = A j := fun j hj => by
      unfold zfin
      rw [xev_n (by omega) (by omega)]
      show va_up F.2 27 (upd (F.2 27) (8 * t + s) 0) j = _
      by_cases w : j = 27
      · rw [w, vu_s, h.2.1.1.2.1.2.2.1.2]
        funext i
        by_cases w2 : i = 8 * t + s
        · rw [w2, upd_s]
        · rw [upd_n w2]
          exact c1.2 i w2
      · rw [vu_n w]
        exact c1.1 j hj w
    generalize zfin (nI t) (nI s) F.2 = D at fz ⊢
    have m1 : mG IF D L p pa ex ey k := mG_fr h.2.2.1 (fun j hj => fz j (by omega)) rfl
    have X1 : cG IF D L p pa ex ey k := by
      refine ⟨⟨⟨cR_fr hR (fz 9 (by decide)) (fz 10 (by decide)) (fz 11 (by decide)) rfl, cO_fr h.2.1.1.1.2.1 (fz 13 (by decide)) (fz 14 (by decide)), cO_fr h.2.1.1.1.2.2 (fz 16 (by decide)) (fz 17 (by decide))⟩, ?_, fun t s b ht hv => ?_, fun t ht => ?_⟩, ?_, ?_⟩
      · rw [fz 19 (by decide), fz 27 (by decide)]; exact h.2.1.1.2.1
      · rw [fz 19 (by decide), fz 24 (by decide), fz 27 (by decide)]; exact h.2.1.1.2.2.1 t s b ht hv
      · rw [fz 21 (by decide)]; exact h.2.1.1.2.2.2 t ht
      · rw [fz 20 (by decide)]; exact h.2.1.2.1
      · rw [fz 20 (by decide), fz 23 (by decide)]; exact h.2.1.2.2
    have X2 : gX IF D L p pa ex ey k := ⟨h.1, X1, m1, n, T, tX_fr ht rfl rfl rfl rfl (fz 3 (by decide)) (fz 41 (by decide))⟩
    refine c_mtolerance (mV_of h.1 m1) (hz0 D m1) (fun t' s' ht' hs' hx hz hv m B o ot it hm hZ hN hf => ?_) (fun q => absurd q (fun q => q.elim (fun q => q ⟨t, ht1, rfl⟩) (fun q => q ⟨s, hs, rfl⟩))) (fun t' s' ht' hs' hx hz hv => ?_)
    · have e1 := nI_ij (n := 9) (by omega) (by omega) (by omega) hx
      have e2 := nI_ij (n := 9) (by omega) (by omega) (by omega) hz
      subst e1
      subst e2
      refine r2 ?_ (gX_s (gX_r X2 (fun j h1 h2 => hf j h2 (Or.inl h1)) (fun c j q => by rw [yU_n (by omega), yU_n (by omega)]))) rfl
      rw [tr3 D m m1 hZ hN (by omega)]
    · have e1 := nI_ij (n := 9) (by omega) (by omega) (by omega) hx
      have e2 := nI_ij (n := 9) (by omega) (by omega) (by omega) hz
      subst e1
      subst e2
      rw [xe_n hR hL ht1 (by omega), show gE L t s false = gD L t s from rfl, hv] at ge
      exact Bool.noConfusion ge
  · exact c_mtolerance hV (hz0 A h.2.2.1) (fun t s ht hs hx hz hv _ _ _ _ _ _ _ _ _ => absurd g (fun g => g.elim (fun g => g ⟨t, ht, hx⟩) (fun g => g ⟨s, hs, hz⟩))) (fun z => r2 rfl (gS_0 h) rfl) (fun t s ht hs hx hz hv => absurd g (fun g => g.elim (fun g => g ⟨t, ht, hx⟩) (fun g => g ⟨s, hs, hz⟩)))
  · refine c_mtolerance hV (hz0 A h.2.2.1) (fun t s ht hs hx hz hv _ _ _ _ _ _ _ _ _ => ?_) (fun z => absurd z (fun z => z.elim (fun z => z gx) (fun z => z gz))) (fun t s ht hs hx hz hv => r2 rfl (gS_0 h) rfl)
    subst hx
    subst hz
    rw [xe_n hR hL ht (by omega), show gE L t s false = gD L t s from rfl, hv] at ge
    exact Bool.noConfusion ge
end
