/-! the state: a line begun anew -/
section
variable {IF IG A B : Nat → Nat → Int32} {L L' p q pa ex ey : Nat → Nat} {k : Nat}
theorem tr_cg (e : ∀ j, j < 92 → L j = L' j) {t w : Nat} (ht : t < 8) (hw : w < 5) : tr L t w = tr L' t w := e _ (by omega)
theorem lk_cg (e : ∀ j, j < 92 → L j = L' j) {c w : Nat} (hc : c < 8) (hw : w < 4) : lk L c w = lk L' c w := e _ (by omega)
theorem lT_cg (h : lT L') (e : ∀ j, j < 92 → L j = L' j) : lT L := by
  have hB := h.1.2.1
  have e0 := e 0 (by omega)
  have e1 := e 1 (by omega)
  have e2 := e 2 (by omega)
  have e3 := e 3 (by omega)
  have e4 := e 4 (by omega)
  have h2 := h.2
  refine ⟨⟨fun j hj => ?_, ⟨by omega, by omega, by omega, by omega, by omega, by omega⟩, fun s hs => ?_, fun s h1 hs => ?_, fun s hs => ?_, fun t ht => ?_, fun c hc => ?_⟩, by omega⟩
  · rw [e j hj]; exact h.1.1 j hj
  · rw [e (5 + s) (by omega)]; exact h.1.2.2.1 s hs
  · rw [e (5 + s) (by omega)]; exact h.1.2.2.2.1 s (by omega) hs
  · rw [e (13 + s) (by omega)]; exact h.1.2.2.2.2.1 s (by omega)
  · have z := h.1.2.2.2.2.2.1 t (by omega)
    unfold trOk at z ⊢
    rw [tr_cg e (by omega) (by omega), tr_cg e (by omega) (by omega), tr_cg e (by omega) (by omega), tr_cg e (by omega) (by omega), tr_cg e (by omega) (by omega), e0]
    exact z
  · have z := h.1.2.2.2.2.2.2 c (by omega)
    unfold lkOk at z ⊢
    have k0 := lk_cg e (c := c) (w := 0) (by omega) (by omega)
    have k1 := lk_cg e (c := c) (w := 1) (by omega) (by omega)
    have k2 := lk_cg e (c := c) (w := 2) (by omega) (by omega)
    have k3 := lk_cg e (c := c) (w := 3) (by omega) (by omega)
    have a : ∀ t s, t < 8 → gA L t s = gA L' t s := fun t s ht => by unfold gA; rw [tr_cg e ht (by omega), tr_cg e ht (by omega)]
    have b : ∀ t s, t < 8 → gD L t s = gD L' t s := fun t s ht => by unfold gD; rw [tr_cg e ht (by omega), tr_cg e ht (by omega)]
    rw [k0, k1, k2, k3, e0, e1, a _ _ (by omega), b _ _ (by omega), e (5 + lk L' c 2) (by omega)]
    exact z
theorem ld_cR {σ : zP} (hD : pD 0 σ L') (e : ∀ j, j < 92 → L j = L' j) : cR (xcI (yU 2 0 0 σ.1)) (xcA σ.2) L := by
  have hB := hD.1.2.1
  obtain ⟨-, ⟨d0, d1, d2, d3, d4⟩, ⟨x, hx, dx, ds⟩, d5, d6, d7⟩ := hD
  have e0 := e 0 (by omega)
  have e1 := e 1 (by omega)
  have e2 := e 2 (by omega)
  refine ⟨⟨?_, ?_, ?_, ?_, ?_⟩, fun s hs => ?_, fun s hs => ?_, fun t ht w hw => ?_, fun c hc w hw => ?_⟩
  · rw [e0]; exact d0
  · rw [e1]; exact d1
  · rw [e2]; exact d2
  · rw [e 3 (by omega)]; exact d3
  · rw [e 4 (by omega)]; exact d4
  · rw [e (5 + s) (by omega)]
    show decide (¬ ((σ.1 4 5 >>> (nI s &&& 31)) &&& 1) = 0) = _
    rw [dx]
    exact ds s hs
  · rw [e (13 + s) (by omega)]
    show va_cpy (σ.2 5) (σ.2 9) 0 0 8 s = _
    rw [pk_cpy_in (by omega) (by omega), show 0 + (s - 0) = s by omega]
    exact d5 s (by omega)
  · rw [tr_cg e (by omega) hw]
    show va_cpy (σ.2 6) (σ.2 10) 0 0 64 (8 * t + w) = _
    rw [pk_cpy_in (by omega) (by omega), show 0 + (8 * t + w - 0) = 8 * t + w by omega]
    exact d6 t (by omega) w hw
  · rw [lk_cg e (by omega) hw]
    show va_cpy (σ.2 7) (σ.2 11) 0 0 64 (8 * c + w) = _
    rw [pk_cpy_in (by omega) (by omega), show 0 + (8 * c + w - 0) = 8 * c + w by omega]
    exact d7 c (by omega) w hw
/-- floors of one train: its departures -/
theorem xse_v {t : Nat} (ht : t < 8) : ∀ (n s : Nat) (A : Nat → Nat → Int32), s + n ≤ 8 → (∀ g, s ≤ g → g < s + n → xse (nI t) n s A 19 (8 * t + g + cond false 64 0) = 0) ∧ (∀ e, (∀ g, s ≤ g → g < s + n → ¬ e = 8 * t + g + cond false 64 0) → xse (nI t) n s A 19 e = A 19 e) ∧ ∃ f, xse (nI t) n s A = va_up A 19 f := by
  intro n
  induction n with
  | zero => intro s A _; exact ⟨fun g h1 h2 => absurd h1 (by omega), fun e _ => rfl, A 19, vu_id.symm⟩
  | succ n ih =>
    intro s A hs
    have e1 : xse (nI t) (n + 1) s A = xse (nI t) n (s + 1) (va_up A 19 (upd (A 19) (xev (nI t) (nI s) false) 0)) := rfl
    rw [xev_n ht (by omega)] at e1
    have r := ih (s + 1) (va_up A 19 (upd (A 19) (8 * t + s + cond false 64 0) 0)) (by omega)
    rw [e1]
    refine ⟨fun g h1 h2 => ?_, fun e he => ?_, ?_⟩
    · by_cases hg : g = s
      · subst hg
        rw [r.2.1 (8 * t + g + cond false 64 0) (fun g' h3 h4 => ev_ne (by omega) (by omega) ht ht (fun z => by omega)), vu_s, upd_s]
      · exact r.1 g (by omega) (by omega)
    · rw [r.2.1 e (fun g h1 h2 => he g (by omega) (by omega)), vu_s, upd_n (he s (Nat.le_refl _) (by omega))]
    · exact vu_ex ⟨_, rfl⟩ r.2.2
/-- floors of all trains: those of the arrivals were 0 and stay so -/
theorem xbl_v (hL : lT L) : ∀ (n t : Nat) (A : Nat → Nat → Int32), t + n = L 1 → cR IF A L → (∀ e, 64 ≤ e → A 19 e = 0) → (∀ u g b, t ≤ u → u < L 1 → g < 8 → xbl n t A 19 (8 * u + g + cond b 64 0) = nI (pF L (8 * u + g + cond b 64 0))) ∧ (∀ u g b, u < t → g < 8 → xbl n t A 19 (8 * u + g + cond b 64 0) = A 19 (8 * u + g + cond b 64 0)) ∧ (∀ e, 64 ≤ e → xbl n t A 19 e = 0) ∧ ∃ f, xbl n t A = va_up A 19 f := by
  have hB := hL.1.2.1
  intro n
  induction n with
  | zero => intro t A ht _ hz; exact ⟨fun u g b h1 h2 => absurd h1 (by omega), fun u g b _ _ => rfl, hz, A 19, vu_id.symm⟩
  | succ n ih =>
    intro t A ht hC hz
    have htk := hL.1.2.2.2.2.2.1 t (by omega)
    unfold trOk at htk
    have x := xse_v (t := t) (by omega) 8 0 A (by omega)
    obtain ⟨f, ef⟩ := x.2.2
    have hC1 : cR IF (xse (nI t) 8 0 A) L := by rw [ef]; exact cR_up hC (by decide) (by decide) (by decide)
    have e1 : xbl (n + 1) t A = xbl n (t + 1) (va_up (xse (nI t) 8 0 A) 19 (upd (xse (nI t) 8 0 A 19) (xev (nI t) (xo (xse (nI t) 8 0 A) 8 (nI t) 0) false) (xo A 8 (nI t) 2))) := rfl
    rw [xo_n (z := 0) (w := 0) hC1 hL (by omega) (by omega) nI_0.symm, xo_n (z := 2) (w := 2) hC hL (by omega) (by omega) rfl, xev_n (by omega) (by omega)] at e1
    have hC2 : cR IF (va_up (xse (nI t) 8 0 A) 19 (upd (xse (nI t) 8 0 A 19) (8 * t + tr L t 0 + cond false 64 0) (nI (tr L t 2)))) L := cR_up hC1 (by decide) (by decide) (by decide)
    have hz2 : ∀ e, 64 ≤ e → va_up (xse (nI t) 8 0 A) 19 (upd (xse (nI t) 8 0 A 19) (8 * t + tr L t 0 + cond false 64 0) (nI (tr L t 2))) 19 e = 0 := fun e he => by
      have n1 : ¬ e = 8 * t + tr L t 0 + cond false 64 0 := show ¬ e = 8 * t + tr L t 0 + 0 by omega
      have n2 : ∀ g, 0 ≤ g → g < 0 + 8 → ¬ e = 8 * t + g + cond false 64 0 := fun g h1 h2 => show ¬ e = 8 * t + g + 0 by omega
      rw [vu_s, upd_n n1, x.2.1 e n2]
      exact hz e he
    have r := ih (t + 1) _ (by omega) hC2 hz2
    rw [e1]
    refine ⟨fun u g b h1 h2 hg => ?_, fun u g b h1 hg => ?_, r.2.2.1, vu_ex (vu_ex ⟨f, ef⟩ ⟨_, rfl⟩) r.2.2.2⟩
    · cases b with
      | true =>
        rw [r.2.2.1 (8 * u + g + cond true 64 0) (show 64 ≤ 8 * u + g + 64 by omega), pF_v (by omega) hg, if_neg (fun z => Bool.noConfusion z.1)]
        exact nI_0.symm
      | false =>
        by_cases hu : u = t
        · subst hu
          rw [r.2.1 u g false (by omega) hg, vu_s, pF_v (by omega) hg]
          by_cases z : g = tr L u 0
          · subst z
            rw [upd_s, if_pos ⟨rfl, rfl⟩]
          · rw [if_neg (fun w => z w.2), upd_n (ev_ne hg (by omega) (by omega) (by omega) (fun w => z w.2.1)), x.1 g (by omega) (by omega)]
            exact nI_0.symm
        · exact r.1 u g false (by omega) h2 hg
    · rw [r.2.1 u g b (by omega) hg, vu_s, upd_n (ev_ne hg (by omega) (by omega) (by omega) (fun w => by omega)), x.2.1 _ (fun g' h3 h4 => ev_ne hg (by omega) (by omega) (by omega) (fun w => by omega))]
/-- all begun anew -/
theorem ld_i (hL : lT L) (hp : pOrd L p) : Inv L p (pcp p pa) (fun _ => 0) (fun _ => 0) 0 := ⟨⟨hL, hp, pOrd_cg hp (pcp_e hL)⟩, fun _ _ _ _ => ⟨Nat.zero_le _, fun _ => rfl⟩, fun _ _ _ _ => rfl, fun _ _ _ _ _ => Nat.zero_le _, Nat.zero_le _⟩
theorem ld_c (hL : lT L) (hC : cR IF A L) (h18 : IF 18 5 = 1) (h22 : IF 22 5 = 0) (h25 : IF 25 5 = 0) (h27 : A 27 = fun _ => 0) (h19 : ∀ e, 64 ≤ e → A 19 e = 0) : cG (xbI IF) (xbA IF (L 2) (L 1) (L 0) A) L (gOr L (L 1) 0 q) (pcp (gOr L (L 1) 0 q) pa) (fun _ => 0) (fun _ => 0) 0 ∧ (pOrd L (gOr L (L 1) 0 q)) ∧ ∀ j, (j < 9 ∨ 27 < j) → xbA IF (L 2) (L 1) (L 0) A j = A j := by
  have hB := hL.1.2.1
  obtain ⟨o1, o2, f1, e1⟩ := so_v (q := q) hL hC
  have hC1 : cR IF (xso2 (L 0) (L 1) (L 1) 0 A) L := by rw [e1]; exact cR_fr hC rfl rfl rfl rfl
  obtain ⟨a1, f2, e2⟩ := fA_v (k := 12) hL o2 (Or.inl rfl) hC1 o1
  obtain ⟨c1, f3, g3, e3⟩ := co_v hL a1
  have c2 := cO_cg c1 (pcp_e (pa := pa) hL)
  have a2 : cO (xcO (xf2 12 (L 1) (L 0 - 1) 0 (xso2 (L 0) (L 1) (L 1) 0 A))) 12 L (gOr L (L 1) 0 q) := by rw [e3]; exact cO_fr a1 rfl rfl
  have e4 : ∃ f f2 f3 f4, xcO (xf2 12 (L 1) (L 0 - 1) 0 (xso2 (L 0) (L 1) (L 1) 0 A)) = va_up (va_up (va_up (va_up A 13 f) 14 f2) 16 f3) 17 f4 := ⟨f1, f2, f3, g3, by rw [e3, e2, e1]⟩
  obtain ⟨k1, k2, k3, k4, e5⟩ := e4
  have e6 : xbA IF (L 2) (L 1) (L 0) A = xCo (xbI IF) 22 (L 2) (L 1) (L 0) 0 (xCo (xbI IF) 18 (L 2) (L 1) (L 0) 0 (xbl (L 1) 0 (xfA 24 0 128 0 (xfA 21 0 128 0 (xcO (xf2 12 (L 1) (L 0 - 1) 0 (xso2 (L 0) (L 1) (L 1) 0 A))))))) := rfl
  generalize xcO (xf2 12 (L 1) (L 0 - 1) 0 (xso2 (L 0) (L 1) (L 1) 0 A)) = B1 at c2 a2 e5 e6
  have hC3 : cR IF B1 L := by rw [e5]; exact cR_fr hC rfl rfl rfl rfl
  have e7 : xfA 24 0 128 0 (xfA 21 0 128 0 B1) = va_up (va_up B1 21 (fun e => if 0 ≤ e ∧ e < 0 + 128 then 0 else B1 21 e)) 24 (fun e => if 0 ≤ e ∧ e < 0 + 128 then 0 else B1 24 e) := by rw [xfA_v, xfA_v]; rfl
  rw [e7] at e6
  have x := xbl_v (IF := IF) hL (L 1) 0 (va_up (va_up B1 21 (fun e => if 0 ≤ e ∧ e < 0 + 128 then 0 else B1 21 e)) 24 (fun e => if 0 ≤ e ∧ e < 0 + 128 then 0 else B1 24 e)) (by omega) (cR_fr hC3 rfl rfl rfl rfl) (fun e he => by
    show B1 19 e = 0
    rw [e5]
    exact h19 e he)
  obtain ⟨x1, -, xz, f6, x3⟩ := x
  rw [x3] at x1 xz e6
  have cH1 : cH (xbI IF) (va_up (va_up (va_up B1 21 (fun e => if 0 ≤ e ∧ e < 0 + 128 then 0 else B1 21 e)) 24 (fun e => if 0 ≤ e ∧ e < 0 + 128 then 0 else B1 24 e)) 19 f6) L (gOr L (L 1) 0 q) (pcp (gOr L (L 1) 0 q) pa) (fun _ => 0) (fun _ => 0) 0 := by
    refine ⟨⟨cR_fr hC3 rfl rfl rfl rfl, cO_fr a2 rfl rfl, cO_fr c2 rfl rfl⟩, ⟨h18, h22, ⟨⟨h25, xz⟩, ?_⟩, ?_⟩, fun t s b ht hv => ?_, fun t ht => ⟨fun g hg => ?_, fun s hs => ?_⟩⟩
    · show B1 27 = _
      rw [e5]
      exact h27
    · show (0 : Int32) = nI 0
      exact nI_0.symm
    · have ev := ev_s hL ht hv
      refine ⟨x1 t s b (Nat.zero_le _) ht ev.1, ?_, ?_⟩
      · show (if 0 ≤ 8 * t + s + cond b 64 0 ∧ 8 * t + s + cond b 64 0 < 0 + 128 then 0 else B1 24 (8 * t + s + cond b 64 0)) = nI 0
        rw [if_pos ⟨Nat.zero_le _, by rw [Nat.zero_add]; exact ev_128 (by omega) ev.1⟩]
        exact nI_0.symm
      · show B1 27 _ = _
        rw [e5]
        show A 27 _ = _
        rw [h27]
    · show (if 0 ≤ 8 * t + (g + 1) + 64 ∧ 8 * t + (g + 1) + 64 < 0 + 128 then 0 else B1 21 (8 * t + (g + 1) + 64)) = nI 0
      rw [if_pos ⟨Nat.zero_le _, by omega⟩]
      exact nI_0.symm
    · show (if 0 ≤ 8 * t + s ∧ 8 * t + s < 0 + 128 then 0 else B1 21 (8 * t + s)) = 0
      rw [if_pos ⟨Nat.zero_le _, by omega⟩]
  have y := cc_v (ld_i (pa := pa) hL o2) cH1
  rw [← e6] at y
  refine ⟨y.1, o2, fun j hj => ?_⟩
  obtain ⟨f8, g8, e8⟩ := y.2
  rw [e8, e5, vu_n (by omega), vu_n (by omega), vu_n (by omega), vu_n (by omega), vu_n (by omega), vu_n (by omega), vu_n (by omega), vu_n (by omega), vu_n (by omega)]
/-- the reference -/
theorem ld_m {A : Nat → Nat → Int32} (hL : lT (tn (cp 92 (lf L') (A 33)))) (hk : IG 32 9 = 0) (pa : Nat → Nat) (ha : A 37 = lf pa) : mG IG (mTk (va_up A 34 (lf L'))) (tn (cp 92 (lf L') (A 33))) (gOr (tn (cp 92 (lf L') (A 33))) (tn (cp 92 (lf L') (A 33)) 1) 0 (tn (A 36))) (pcp (gOr (tn (cp 92 (lf L') (A 33))) (tn (cp 92 (lf L') (A 33)) 1) 0 (tn (A 36))) pa) (fun _ => 0) (fun _ => 0) 0 := by
  have hB := hL.1.2.1
  refine ⟨⟨?_, rfl, ?_⟩, fun t g ht hg => ?_, fun t s b ht hv => ?_, hk.trans nI_0.symm⟩
  · rw [lf_tn]
    rfl
  · show cp 56 (lf (gOr (tn (cp 92 (lf L') (A 33))) (tn (cp 92 (lf L') (A 33)) 1) 0 (tn (A 36)))) (A 37) = _
    rw [ha, cp_lf]
  · show cp 56 (fun _ => 0) (A 35) (7 * t + g) = nI 0
    rw [cp_lt (by omega)]
    exact nI_0.symm
  · have ev := ev_s hL ht hv
    have z := mF0_v (A := mK2 (mK1 (va_up A 34 (lf L')))) (b := b) (L := tn (cp 92 (lf L') (A 33))) (by omega) ht ev.1
    cases b <;> exact z.trans nI_0.symm
end
