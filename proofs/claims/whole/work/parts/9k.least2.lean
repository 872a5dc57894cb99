/-! the class: all ways to distribute -/
theorem gd_le : ∀ (c : List Nat), c.all (fun x => Nat.ble x 5) = true → ∀ i, gd c i ≤ 5
  | [], _, i => Nat.zero_le 5
  | x :: c, h, i => by
    have h' : (Nat.ble x 5 && c.all (fun x => Nat.ble x 5)) = true := h
    rw [Bool.and_eq_true] at h'
    cases i with
    | zero => exact Nat.le_of_ble_eq_true h'.1
    | succ i => exact gd_le c h'.2 i
theorem lnb_le {n : Nat} {c : List Nat} (h : lnb n c = true) (i : Nat) : gd c i ≤ 9 := by
  unfold lnb at h
  rw [Bool.and_eq_true] at h
  have := gd_le c h.1 i
  omega
theorem nI_neg1 {w : Nat} (h : w < 2 ^ 31) : ¬ nI w = -1 := fun e => by
  have q := congrArg (fun x : Int32 => x.toBitVec.toNat) e
  have q2 : (nI w).toBitVec.toNat = w := pk_tn (by omega)
  have q3 : (-1 : Int32).toBitVec.toNat = 4294967295 := by decide
  have q4 : (nI w).toBitVec.toNat = (-1 : Int32).toBitVec.toNat := q
  rw [q2, q3] at q4
  omega
section
variable {IF IG A B A0 B0 : Nat → Nat → Int32} {L p pa ex ey : Nat → Nat} {k : Nat}
theorem xps_v {t f g q : Nat} (ht : t < 8) (hq : ¬ q = 21) : ∀ (m i : Nat) (A : Nat → Nat → Int32), f + i + m ≤ 7 → xps (nI t) f g q m i A = va_up A 21 (fun j => if 8 * t + f + i + 65 ≤ j ∧ j < 8 * t + f + i + 65 + m then A q (j - (8 * t + f + 65)) else A 21 j) := by
  intro m
  induction m with
  | zero =>
    intro i A _
    refine (vu_eq ?_).symm
    funext j
    exact (if_neg (fun z => by omega)).symm
  | succ m ih =>
    intro i A hi
    have e : xps (nI t) f g q (m + 1) i A = xps (nI t) f g q m (i + 1) (va_up A 21 (upd (A 21) (xev (nI t) (nI f + nI i + 1) true) (A q i))) := rfl
    have e2 : xev (nI t) (nI f + nI i + 1) true = 8 * t + f + i + 65 := by
      rw [nI_add, nI_1, xev_n ht (by omega)]
      show 8 * t + (f + i + 1) + 64 = _
      omega
    rw [e, e2, ih (i + 1) _ (by omega)]
    funext r
    by_cases hr : r = 21
    · subst hr
      rw [vu_s, vu_s]
      funext j
      rw [vu_s, vu_n hq]
      by_cases h1 : j = 8 * t + f + i + 65
      · rw [if_neg (by omega), if_pos ⟨by omega, by omega⟩, h1, upd_s]
        congr 1
        omega
      · rw [upd_n h1]
        by_cases h2 : 8 * t + f + i + 65 ≤ j ∧ j < 8 * t + f + i + 65 + (m + 1)
        · rw [if_pos h2, if_pos ⟨by omega, by omega⟩]
        · rw [if_neg h2, if_neg (fun z => h2 ⟨by omega, by omega⟩)]
    · rw [vu_n hr, vu_n hr, vu_n hr]
theorem adv_v {r : Nat → Nat} {last : Nat} (hl : last < 8) (hr : ∀ i, i < 8 → r i ≤ 9) (hA : ∀ i, i < 8 → A 29 i = nI (r i)) : ∀ j, j ≤ last → (xadv last (A 29 last) A j).1 = (advF last r j).isSome ∧ (advF last r j = none → (xadv last (A 29 last) A j).2 = A) ∧ ∀ h, advF last r j = some h → ∃ f, (xadv last (A 29 last) A j).2 = va_up A 29 f ∧ ∀ i, i < 8 → f i = nI (h i) := by
  intro j
  induction j with
  | zero => intro _; exact ⟨rfl, fun _ => rfl, fun h z => (nomatch z)⟩
  | succ j ih =>
    intro hj
    have b := hr j (by omega)
    have e1 : xadv last (A 29 last) A (j + 1) = if A 29 j ≤ 0 then xadv last (A 29 last) A j else (true, xad1 (xad1 (xad1 A 29 last 0) 29 j (xad1 A 29 last 0 29 j - 1)) 29 (j + 1) (A 29 last + 1)) := rfl
    have e2 : advF last r (j + 1) = if r j = 0 then advF last r j else some (va_up (va_up (va_up r last 0) j (r j - 1)) (j + 1) (r last + 1)) := rfl
    by_cases z : r j = 0
    · have z1 : A 29 j ≤ 0 := by
        rw [hA j (by omega), z, nI_0]
        decide
      rw [e1, e2, if_pos z, if_pos z1]
      exact ih (by omega)
    · have z1 : ¬ A 29 j ≤ 0 := fun w => by
        rw [hA j (by omega), ← nI_0] at w
        have := (nI_leI (by omega) (by omega)).mp w
        omega
      rw [e1, e2, if_neg z, if_neg z1]
      refine ⟨rfl, fun w => (nomatch w), fun h w => ?_⟩
      have w2 := Option.some.inj w
      subst w2
      refine ⟨upd (upd (upd (A 29) last 0) j (upd (A 29) last 0 j - 1)) (j + 1) (A 29 last + 1), ?_, fun i hi => ?_⟩
      · funext q
        by_cases hq : q = 29
        · rw [hq, vu_s]
          rfl
        · rw [vu_n hq]
          show xad1 (xad1 (xad1 A 29 last 0) 29 j (xad1 A 29 last 0 29 j - 1)) 29 (j + 1) (A 29 last + 1) q = A q
          unfold xad1
          rw [vu_n hq, vu_n hq, vu_n hq]
      · by_cases i1 : i = j + 1
        · rw [i1, upd_s, vu_s, hA last hl, nI_1]
        · rw [upd_n i1, vu_n i1]
          by_cases i2 : i = j
          · rw [i2, upd_s, vu_s, upd_n (by omega), hA j (by omega)]
            exact pk_sub (a := r j) (b := 1) (by omega)
          · rw [upd_n i2, vu_n i2]
            by_cases i3 : i = last
            · rw [i3, upd_s, vu_s]
              exact nI_0.symm
            · rw [upd_n i3, vu_n i3]
              exact hA i hi
def lV (L p pa ex ey : Nat → Nat) (t : Nat) (c : List Nat) : Nat := vSum L p pa ey (exC t (tr L t 0) (tr L t 1 - tr L t 0) ex (gd c))
/-- the class while it tries the ways: u the least so far, c the way -/
def lC (IF A0 : Nat → Nat → Int32) (L p pa ex ey : Nat → Nat) (k t : Nat) (u : Option (Nat × List Nat)) (c : List Nat) (A : Nat → Nat → Int32) : Prop := (∃ ex1, (∀ c, exC t (tr L t 0) (tr L t 1 - tr L t 0) ex1 c = exC t (tr L t 0) (tr L t 1 - tr L t 0) ex c) ∧ cH IF A L p pa ex1 ey k) ∧ (∀ i, i < 8 → A 29 i = nI (gd c i)) ∧ (∀ v b, u = some (v, b) → (∀ i, i < 8 → A 30 i = nI (gd b i)) ∧ ∀ i, gd b i ≤ 9) ∧ (∀ j, ¬ j = 20 → ¬ j = 21 → ¬ j = 23 → ¬ j = 29 → ¬ j = 30 → A j = A0 j)
theorem ps_c (h : Inv L p pa ex ey k) {t q : Nat} (ht : t < L 1) (hq : ¬ q = 21) {ex1 c : Nat → Nat} (hx : exC t (tr L t 0) (tr L t 1 - tr L t 0) ex1 c = exC t (tr L t 0) (tr L t 1 - tr L t 0) ex c) (hc : cH IF A L p pa ex1 ey k) (h9 : ∀ i, i < 8 → c i ≤ 9) (hA : ∀ i, i < tr L t 1 - tr L t 0 → A q i = nI (c i)) : cH IF (xps (nI t) (tr L t 0) (tr L t 1) q (tr L t 1 - tr L t 0) 0 A) L p pa (exC t (tr L t 0) (tr L t 1 - tr L t 0) ex c) ey k ∧ ∃ f, xps (nI t) (tr L t 0) (tr L t 1) q (tr L t 1 - tr L t 0) 0 A = va_up A 21 f := by
  have hL := h.1.1
  have hB := hL.1.2.1
  have hk := hL.1.2.2.2.2.2.1 t ht
  unfold trOk at hk
  rw [xps_v (by omega) hq (tr L t 1 - tr L t 0) 0 A (by omega)]
  refine ⟨?_, _, rfl⟩
  rw [← hx]
  have i2 := exC_i (c := c) h ht (fun i hi => h9 i (by omega))
  rw [← hx] at i2
  refine cH_21 i2.2.2.1 hc (fun u hu => ⟨fun g hg => ?_, fun s hs => ?_⟩)
  · unfold exC
    by_cases z : 8 * t + tr L t 0 + 65 ≤ 8 * u + (g + 1) + 64 ∧ 8 * u + (g + 1) + 64 < 8 * t + tr L t 0 + 65 + (tr L t 1 - tr L t 0)
    · rw [if_pos z, if_pos (by omega), hA _ (by omega)]
    · rw [if_neg z, if_neg (by omega)]
      exact (hc.2.2.2 u hu).1 g hg
  · show (if 8 * t + tr L t 0 + 0 + 65 ≤ 8 * u + s ∧ 8 * u + s < 8 * t + tr L t 0 + 0 + 65 + (tr L t 1 - tr L t 0) then _ else _) = _
    rw [if_neg (by omega)]
    exact (hc.2.2.2 u hu).2 s hs
/-- one way tried -/
theorem lC_1 (h : Inv L p pa ex ey k) {t : Nat} (ht : t < L 1) {u : Option (Nat × List Nat)} {c : List Nat} (hb : ∀ i, gd c i ≤ 9) (hu : ∀ v b, u = some (v, b) → v ≤ 64000000) (hC : lC IF A0 L p pa ex ey k t u c A) : lC IF A0 L p pa ex ey k t (stp (lV L p pa ex ey t) u c) c (xlK IF (L 2) (L 1) (L 0) (nI t) (tr L t 0) (tr L t 1) A (lv u)).1 ∧ (xlK IF (L 2) (L 1) (L 0) (nI t) (tr L t 0) (tr L t 1) A (lv u)).2 = lv (stp (lV L p pa ex ey t) u c) ∧ lV L p pa ex ey t c ≤ 64000000 := by
  have hL := h.1.1
  have hB := hL.1.2.1
  have hk := hL.1.2.2.2.2.2.1 t ht
  unfold trOk at hk
  obtain ⟨⟨ex1, hx, hH⟩, hA, hbest, hfr⟩ := hC
  obtain ⟨c1, f1, e1⟩ := ps_c (q := 29) (c := gd c) h ht (by decide) (hx _) hH (fun i _ => hb i) (fun i hi => hA i (by omega))
  have i2 := exC_i (c := gd c) h ht (fun i _ => hb i)
  obtain ⟨c2, f2, g2, e2⟩ := cc_v i2 c1
  have e3 : xlA IF (L 2) (L 1) (L 0) (nI t) (tr L t 0) (tr L t 1) A = va_up (va_up (va_up A 21 f1) 20 f2) 23 g2 := by
    unfold xlA
    rw [e2, e1]
  have c3 : cG IF (xlA IF (L 2) (L 1) (L 0) (nI t) (tr L t 0) (tr L t 1) A) L p pa (exC t (tr L t 0) (tr L t 1 - tr L t 0) ex (gd c)) ey k := c2
  obtain ⟨v1, v2⟩ := vS_c i2 c3
  have v1' : xsd2 (xlA IF (L 2) (L 1) (L 0) (nI t) (tr L t 0) (tr L t 1) A) 22 (L 0) (L 1) 0 0 = nI (lV L p pa ex ey t c) := v1
  have v2' : lV L p pa ex ey t c ≤ 64000000 := v2
  unfold xlK
  rw [v1']
  generalize xlA IF (L 2) (L 1) (L 0) (nI t) (tr L t 0) (tr L t 1) A = D at e3 c3 ⊢
  generalize lV L p pa ex ey t = V at v2' ⊢
  have d29 : ∀ i, i < 8 → D 29 i = nI (gd c i) := fun i hi => by
    rw [e3]
    exact hA i hi
  have d30 : D 30 = A 30 := by rw [e3]; rfl
  have dfr : ∀ j, ¬ j = 20 → ¬ j = 21 → ¬ j = 23 → ¬ j = 29 → ¬ j = 30 → D j = A0 j := fun j h1 h2 h3 h4 h5 => by
    rw [e3, vu_n h3, vu_n h1, vu_n h2]
    exact hfr j h1 h2 h3 h4 h5
  have keep : ∀ w, lC IF A0 L p pa ex ey k t (some (w, c)) c (va_up D 30 (va_cpy (D 29) (D 30) 0 0 8)) := fun w => by
    refine ⟨⟨_, fun c => exC_2, cH_up (m := 30) c3.1 (by omega)⟩, d29, fun v b e => ?_, fun j h1 h2 h3 h4 h5 => ?_⟩
    · have e5 := Option.some.inj e
      have e6 : c = b := congrArg Prod.snd e5
      subst e6
      refine ⟨fun i hi => ?_, hb⟩
      rw [vu_s, pk_cpy_in (by omega) (by omega), show 0 + (i - 0) = i by omega]
      exact d29 i hi
    · rw [vu_n h5]
      exact dfr j h1 h2 h3 h4 h5
  have stay : ∀ w b, u = some (w, b) → lC IF A0 L p pa ex ey k t (some (w, b)) c D := fun w b e => by
    refine ⟨⟨_, fun c => exC_2, c3.1⟩, d29, fun v b' e' => ?_, dfr⟩
    rw [d30]
    exact hbest v b' (e.trans e')
  match u, hu, hbest, stay with
  | none, _, _, _ =>
    rw [if_pos (show lv none = -1 ∨ ¬ lv none ≤ nI (V c) from Or.inl rfl)]
    exact ⟨keep _, rfl, v2'⟩
  | some (w, b), hu, _, stay =>
    have hw := hu w b rfl
    show lC IF A0 L p pa ex ey k t (if V c < w then some (V c, c) else some (w, b)) c _ ∧ _ = lv (if V c < w then some (V c, c) else some (w, b)) ∧ _
    by_cases z : V c < w
    · rw [if_pos z, if_pos (show lv (some (w, b)) = -1 ∨ ¬ lv (some (w, b)) ≤ nI (V c) from Or.inr (fun q => by have := (nI_leI (a := w) (b := V c) (by omega) (by omega)).mp q; omega))]
      exact ⟨keep _, rfl, v2'⟩
    · rw [if_neg z, if_neg (show ¬ (lv (some (w, b)) = -1 ∨ ¬ lv (some (w, b)) ≤ nI (V c)) from fun q => q.elim (fun q => nI_neg1 (w := w) (by omega) q) (fun q => q ((nI_leI (a := w) (b := V c) (by omega) (by omega)).mpr (by omega))))]
      exact ⟨stay w b rfl, rfl, v2'⟩
theorem xl2_f {N M S : Nat} {t v : Int32} {f g : Nat} : ∀ n, xl2 IF N M S t f g n (A, v, false) = (A, v, false)
  | 0 => rfl
  | n + 1 => rfl
theorem stp_s {V : List Nat → Nat} {u : Option (Nat × List Nat)} {c : List Nat} (hu : ∀ v b, u = some (v, b) → v ≤ 64000000) (hc : V c ≤ 64000000) : ∃ v b, stp V u c = some (v, b) ∧ v ≤ 64000000 := by
  match u, hu with
  | none, _ => exact ⟨V c, c, rfl, hc⟩
  | some (v, b), hu =>
    by_cases z : V c < v
    · exact ⟨V c, c, if_pos z, hc⟩
    · exact ⟨v, b, if_neg z, hu v b rfl⟩
theorem lC_2 (h : Inv L p pa ex ey k) {t : Nat} (ht : t < L 1) : ∀ (ls : List (List Nat)) (c : List Nat) (u : Option (Nat × List Nat)) (A : Nat → Nat → Int32) (N : Nat), chk (tr L t 1 - tr L t 0 - 1) (c :: ls) = true → (∀ d ∈ c :: ls, lnb (tr L t 1 - tr L t 0 - 1) d = true) → (∀ v b, u = some (v, b) → v ≤ 64000000) → (c :: ls).length ≤ N → lC IF A0 L p pa ex ey k t u c A → ∃ d, lC IF A0 L p pa ex ey k t ((c :: ls).foldl (stp (lV L p pa ex ey t)) u) d (xl2 IF (L 2) (L 1) (L 0) (nI t) (tr L t 0) (tr L t 1) N (A, lv u, true)).1 ∧ (xl2 IF (L 2) (L 1) (L 0) (nI t) (tr L t 0) (tr L t 1) N (A, lv u, true)).2.1 = lv ((c :: ls).foldl (stp (lV L p pa ex ey t)) u) := by
  have hL := h.1.1
  have hB := hL.1.2.1
  have hk := hL.1.2.2.2.2.2.1 t ht
  unfold trOk at hk
  intro ls
  induction ls with
  | nil =>
    intro c u A N hchk hln hu hN hC
    obtain ⟨N, rfl⟩ : ∃ M, N = M + 1 := ⟨N - 1, by have : ([c] : List (List Nat)).length = 1 := rfl; omega⟩
    have hb := lnb_le (hln c (List.mem_cons_self))
    obtain ⟨k1, k2, k3⟩ := lC_1 h ht hb hu hC
    obtain ⟨v, b, es, hv⟩ := stp_s (V := lV L p pa ex ey t) (c := c) hu k3
    have e1 : xl2 IF (L 2) (L 1) (L 0) (nI t) (tr L t 0) (tr L t 1) (N + 1) (A, lv u, true) = xl2 IF (L 2) (L 1) (L 0) (nI t) (tr L t 0) (tr L t 1) N (xl1 IF (L 2) (L 1) (L 0) (nI t) (tr L t 0) (tr L t 1) A (lv u)) := rfl
    have e2 : ([c] : List (List Nat)).foldl (stp (lV L p pa ex ey t)) u = stp (lV L p pa ex ey t) u c := rfl
    rw [e1, e2]
    unfold xl1
    generalize xlK IF (L 2) (L 1) (L 0) (nI t) (tr L t 0) (tr L t 1) A (lv u) = K at k1 k2 ⊢
    have hc2 : ((advF (tr L t 1 - tr L t 0 - 1) (gd c) (tr L t 1 - tr L t 0 - 1)).isNone && true) = true := hchk
    rw [Bool.and_true, Option.isNone_iff_eq_none] at hc2
    have ad := adv_v (A := K.1) (r := gd c) (last := tr L t 1 - tr L t 0 - 1) (by omega) (fun i _ => hb i) k1.2.1 (tr L t 1 - tr L t 0 - 1) (Nat.le_refl _)
    have a1 := ad.2.1 hc2
    have a2 := ad.1
    rw [hc2] at a2
    rw [a1, a2, k2]
    by_cases z : lv (stp (lV L p pa ex ey t) u c) ≤ 0
    · rw [if_pos z, xl2_f]
      exact ⟨c, k1, rfl⟩
    · rw [if_neg z]
      show ∃ d, lC IF A0 L p pa ex ey k t _ d (xl2 IF (L 2) (L 1) (L 0) (nI t) (tr L t 0) (tr L t 1) N (K.1, lv (stp (lV L p pa ex ey t) u c), false)).1 ∧ (xl2 IF (L 2) (L 1) (L 0) (nI t) (tr L t 0) (tr L t 1) N (K.1, lv (stp (lV L p pa ex ey t) u c), false)).2.1 = _
      rw [xl2_f]
      exact ⟨c, k1, rfl⟩
  | cons d ls ih =>
    intro c u A N hchk hln hu hN hC
    obtain ⟨N, rfl⟩ : ∃ M, N = M + 1 := ⟨N - 1, by have : (c :: d :: ls : List (List Nat)).length = ls.length + 2 := rfl; omega⟩
    have hb := lnb_le (hln c (List.mem_cons_self))
    obtain ⟨k1, k2, k3⟩ := lC_1 h ht hb hu hC
    obtain ⟨v, b, es, hv⟩ := stp_s (V := lV L p pa ex ey t) (c := c) hu k3
    have e1 : xl2 IF (L 2) (L 1) (L 0) (nI t) (tr L t 0) (tr L t 1) (N + 1) (A, lv u, true) = xl2 IF (L 2) (L 1) (L 0) (nI t) (tr L t 0) (tr L t 1) N (xl1 IF (L 2) (L 1) (L 0) (nI t) (tr L t 0) (tr L t 1) A (lv u)) := rfl
    have e2 : (c :: d :: ls).foldl (stp (lV L p pa ex ey t)) u = (d :: ls).foldl (stp (lV L p pa ex ey t)) (stp (lV L p pa ex ey t) u c) := rfl
    rw [e1, e2]
    unfold xl1
    generalize xlK IF (L 2) (L 1) (L 0) (nI t) (tr L t 0) (tr L t 1) A (lv u) = K at k1 k2 ⊢
    have hc2 : (adOk (advF (tr L t 1 - tr L t 0 - 1) (gd c) (tr L t 1 - tr L t 0 - 1)) d && chk (tr L t 1 - tr L t 0 - 1) (d :: ls)) = true := hchk
    rw [Bool.and_eq_true] at hc2
    have ad := adv_v (A := K.1) (r := gd c) (last := tr L t 1 - tr L t 0 - 1) (by omega) (fun i _ => hb i) k1.2.1 (tr L t 1 - tr L t 0 - 1) (Nat.le_refl _)
    rw [k2]
    by_cases z : lv (stp (lV L p pa ex ey t) u c) ≤ 0
    · rw [if_pos z, xl2_f]
      rw [es] at z k1 ⊢
      have z1 : nI v ≤ nI 0 := by rw [nI_0]; exact z
      have z2 := (nI_leI (by omega) (by omega)).mp z1
      have z3 : v = 0 := by omega
      subst z3
      rw [stp_0]
      exact ⟨c, k1, rfl⟩
    · rw [if_neg z]
      have hc3 := hc2.1
      cases ho : advF (tr L t 1 - tr L t 0 - 1) (gd c) (tr L t 1 - tr L t 0 - 1) with
      | none =>
        rw [ho] at hc3
        exact Bool.noConfusion hc3
      | some hf =>
        rw [ho] at hc3
        have hall : ∀ i, i < 8 → hf i = gd d i := fun i hi => by
          have q : (List.range 8).all (fun i => Nat.beq (hf i) (gd d i)) = true := hc3
          rw [List.all_eq_true] at q
          exact Nat.eq_of_beq_eq_true (q i (List.mem_range.mpr hi))
        obtain ⟨f, ef, hfv⟩ := ad.2.2 hf ho
        have a2 := ad.1
        rw [ho] at a2
        rw [a2, ef]
        refine ih d _ (va_up K.1 29 f) N hc2.2 (fun x hx => hln x (List.mem_cons_of_mem _ hx)) (fun v' b' e' => ?_) (by have : (c :: d :: ls : List (List Nat)).length = ls.length + 2 := rfl; have : (d :: ls : List (List Nat)).length = ls.length + 1 := rfl; omega) ?_
        · rw [es] at e'
          have q := congrArg Prod.fst (Option.some.inj e')
          have q2 : v = v' := q
          omega
        · obtain ⟨⟨ex1, hx, hH⟩, hA, hbest, hfr⟩ := k1
          refine ⟨⟨ex1, hx, cH_up (m := 29) hH (by omega)⟩, fun i hi => ?_, fun v b e => ?_, fun j h1 h2 h3 h4 h5 => ?_⟩
          · rw [vu_s, hfv i hi, hall i hi]
          · rw [vu_n (by decide)]
            exact hbest v b e
          · rw [vu_n h4]
            exact hfr j h1 h2 h3 h4 h5
/-- all ways -/
theorem lC_3 (h : Inv L p pa ex ey k) {t m : Nat} (ht : t < L 1) (hm : m < 6) (hc : cH (xlI IF (tr L t 0) (tr L t 1)) A L p pa ex ey k) : ∃ d, lC (xlI IF (tr L t 0) (tr L t 1)) A L p pa ex ey k t ((cmps (tr L t 1 - tr L t 0 - 1) m).foldl (stp (lV L p pa ex ey t)) none) d (xfl IF (L 2) (L 1) (L 0) (nI t) (tr L t 0) (tr L t 1) (nI m) A).1 ∧ (xfl IF (L 2) (L 1) (L 0) (nI t) (tr L t 0) (tr L t 1) (nI m) A).2.1 = lv ((cmps (tr L t 1 - tr L t 0 - 1) m).foldl (stp (lV L p pa ex ey t)) none) := by
  have hL := h.1.1
  have hB := hL.1.2.1
  have hk := hL.1.2.2.2.2.2.1 t ht
  unfold trOk at hk
  have q := cm_chk (tr L t 1 - tr L t 0 - 1) (by omega) m hm
  unfold xfl
  generalize hL0 : cmps (tr L t 1 - tr L t 0 - 1) m = ls at q ⊢
  rw [Bool.and_eq_true, Bool.and_eq_true, Bool.and_eq_true] at q
  obtain ⟨q1, q2, q3, q4⟩ := q
  match ls, q1, q2, q3, q4 with
  | [], _, _, _, q4 => exact Bool.noConfusion q4
  | c :: ls, q1, q2, q3, q4 =>
    have q5 : (List.range 8).all (fun i => Nat.beq (gd c i) (if i = 0 then m else 0)) = true := q4
    rw [List.all_eq_true] at q5
    rw [List.all_eq_true] at q2
    have hl := Nat.le_of_ble_eq_true q3
    refine lC_2 (IF := xlI IF (tr L t 0) (tr L t 1)) h ht ls c none _ 1000 q1 q2 (fun v b e => (nomatch e)) (by omega) ?_
    have e1 : xad1 (xfA 29 0 8 0 A) 29 0 (nI m) = va_up A 29 (fun i => if i = 0 then nI m else if 0 ≤ i ∧ i < 0 + 8 then 0 else A 29 i) := by
      rw [xfA_v]
      funext j
      unfold xad1
      by_cases hj : j = 29
      · rw [hj, vu_s, vu_s, vu_s]
        rfl
      · rw [vu_n hj, vu_n hj, vu_n hj]
    rw [e1]
    refine ⟨⟨ex, fun _ => rfl, cH_up (m := 29) hc (by omega)⟩, fun i hi => ?_, fun v b e => (nomatch e), fun j h1 h2 h3 h4 h5 => vu_n h4⟩
    rw [vu_s, Nat.eq_of_beq_eq_true (q5 i (List.mem_range.mpr hi))]
    by_cases z : i = 0
    · rw [if_pos z, if_pos z]
    · rw [if_neg z, if_neg z, if_pos ⟨by omega, by omega⟩]
      exact nI_0.symm
end
