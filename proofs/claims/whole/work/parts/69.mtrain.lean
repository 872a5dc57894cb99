/-! the reference: trains -/
def trP (t : Nat) (σ' : zP) (L' : Nat → Nat) : Prop := σ'.1 2 1 = 0 → pD 0 σ' L' ∧ 2 ≤ L' 0 ∧ L' 1 = t ∧ L' 2 = 0
def stT (L : Nat → Nat) (t a b c e f : Nat) : Nat → Nat := va_up (va_up (va_up (va_up (va_up L (20 + 5 * t + 0) a) (20 + 5 * t + 1) b) (20 + 5 * t + 2) c) (20 + 5 * t + 3) e) (20 + 5 * t + 4) f
theorem stT_n {L : Nat → Nat} {t a b c e f k : Nat} (h : ¬ (20 + 5 * t ≤ k ∧ k < 25 + 5 * t)) : stT L t a b c e f k = L k := by
  unfold stT
  rw [vu_n (by omega), vu_n (by omega), vu_n (by omega), vu_n (by omega), vu_n (by omega)]
section
variable {T : Nat → Nat} {n : Nat} {I B : Nat → Nat → Int32} {σ : zP} {L : Nat → Nat}
def sO (t w v : Int32) (B : Nat → Nat → Int32) : Nat → Nat → Int32 := va_up B 6 (upd (B 6) (8 * m8 t + m8 w) v)
theorem sO_6 {t e : Nat} {w v : Int32} (ht : t < 8) : sO (nI t) w v B 6 e = if e = 8 * t + m8 w then v else B 6 e := by
  show upd (B 6) (8 * m8 (nI t) + m8 w) v e = _
  rw [m8_nI ht]
  rfl
def rTr (t x1 x2 x3 x4 x5 : Int32) (B : Nat → Nat → Int32) : Nat → Nat → Int32 := sO t 4 x5 (sO t 3 x4 (sO t 2 x3 (sO t 1 x2 (sO t 0 x1 B))))
theorem rTr_k {t : Nat} {x1 x2 x3 x4 x5 : Int32} (ht : t < 8) : (rTr (nI t) x1 x2 x3 x4 x5 B 5 = B 5 ∧ rTr (nI t) x1 x2 x3 x4 x5 B 7 = B 7) ∧ (∀ k, k < 8 * t → rTr (nI t) x1 x2 x3 x4 x5 B 6 k = B 6 k) ∧ rTr (nI t) x1 x2 x3 x4 x5 B 6 (8 * t + 0) = x1 ∧ rTr (nI t) x1 x2 x3 x4 x5 B 6 (8 * t + 1) = x2 ∧ rTr (nI t) x1 x2 x3 x4 x5 B 6 (8 * t + 2) = x3 ∧ rTr (nI t) x1 x2 x3 x4 x5 B 6 (8 * t + 3) = x4 ∧ rTr (nI t) x1 x2 x3 x4 x5 B 6 (8 * t + 4) = x5 := by
  have m0 : m8 (0 : Int32) = 0 := by decide
  have m1 : m8 (1 : Int32) = 1 := by decide
  have m2 : m8 (2 : Int32) = 2 := by decide
  have m3 : m8 (3 : Int32) = 3 := by decide
  have m4 : m8 (4 : Int32) = 4 := by decide
  have e : ∀ k, rTr (nI t) x1 x2 x3 x4 x5 B 6 k = if k = 8 * t + 4 then x5 else if k = 8 * t + 3 then x4 else if k = 8 * t + 2 then x3 else if k = 8 * t + 1 then x2 else if k = 8 * t + 0 then x1 else B 6 k := fun k => by
    unfold rTr
    rw [sO_6 ht, sO_6 ht, sO_6 ht, sO_6 ht, sO_6 ht, m0, m1, m2, m3, m4]
  refine ⟨⟨rfl, rfl⟩, fun k hk => ?_, ?_, ?_, ?_, ?_, ?_⟩
  · rw [e, if_neg (by omega), if_neg (by omega), if_neg (by omega), if_neg (by omega), if_neg (by omega)]
  · rw [e, if_neg (by omega), if_neg (by omega), if_neg (by omega), if_neg (by omega), if_pos rfl]
  · rw [e, if_neg (by omega), if_neg (by omega), if_neg (by omega), if_pos rfl]
  · rw [e, if_neg (by omega), if_neg (by omega), if_pos rfl]
  · rw [e, if_neg (by omega), if_pos rfl]
  · rw [e, if_pos rfl]
theorem pT1_eq {t x1 x2 x3 x4 x5 : Int32} {J1 J2 J3 J4 J5 : Nat → Nat → Int32} (e1 : yN T n 0 (σ.1 4 0 - 1) σ.1 = (x1, J1)) (e2 : yN T n (x1 + 1) (J1 4 0 - 1) J1 = (x2, J2)) (e3 : yN T n 0 1000 J2 = (x3, J3)) (e4 : yN T n 1 5 J3 = (x4, J4)) (e5 : yN T n 0 20 J4 = (x5, J5)) : pT1 T n t σ = (xr1 1 (t + 1) (ySe T n J5), rTr t x1 x2 x3 x4 x5 σ.2) := by
  have a1 : pTa T n t σ = (J1, sO t 0 x1 σ.2) := by unfold pTa pOf; rw [e1]; rfl
  have a2 : pTc T n t σ = (J2, sO t 1 x2 (sO t 0 x1 σ.2)) := by unfold pTc pTb; rw [a1, e1]; unfold pOf; dsimp only; rw [e2]; rfl
  have a5 : pTd T n t σ = (J5, rTr t x1 x2 x3 x4 x5 σ.2) := by unfold pTd; rw [a2]; unfold pOf; dsimp only; rw [e3]; dsimp only; rw [e4]; dsimp only; rw [e5]; rfl
  unfold pT1
  rw [a5]
theorem pD_tr {t a b c e f : Nat} (h : pD 0 σ L) (hN : L 2 = 0) (hM : L 1 = t) (ht : t < 8) (hv : a < b ∧ b < L 0 ∧ c ≤ 1000 ∧ 1 ≤ e ∧ e ≤ 5 ∧ f ≤ 20) (hI : ∀ j, ¬ j = 1 → I 4 j = σ.1 4 j) (hI1 : I 4 1 = nI (t + 1)) (h5 : B 5 = σ.2 5) (h6 : ∀ k, k < 8 * t → B 6 k = σ.2 6 k) (hB : B 6 (8 * t + 0) = nI a ∧ B 6 (8 * t + 1) = nI b ∧ B 6 (8 * t + 2) = nI c ∧ B 6 (8 * t + 3) = nI e ∧ B 6 (8 * t + 4) = nI f) : pD 0 (I, B) (va_up (stT L t a b c e f) 1 (t + 1)) := by
  obtain ⟨⟨w1, w2, w3, w4, w5, w6, w7⟩, ⟨f0, f1, f2, f3, f4⟩, ⟨x, hx, hx5, hxs⟩, hl, ht', hc⟩ := h
  have nn : ∀ k, k < 20 → ¬ k = 1 → va_up (stT L t a b c e f) 1 (t + 1) k = L k := fun k hk h1 => by rw [vu_n h1, stT_n (by omega)]
  have no : ∀ t' w, t' < t → w < 5 → tr (va_up (stT L t a b c e f) 1 (t + 1)) t' w = tr L t' w := fun t' w h1 h2 => by
    unfold tr
    rw [vu_n (by omega), stT_n (by omega)]
  have t0 : tr (va_up (stT L t a b c e f) 1 (t + 1)) t 0 = a := by
    unfold tr stT
    rw [vu_n (by omega), vu_n (by omega), vu_n (by omega), vu_n (by omega), vu_n (by omega), vu_s]
  have t1 : tr (va_up (stT L t a b c e f) 1 (t + 1)) t 1 = b := by
    unfold tr stT
    rw [vu_n (by omega), vu_n (by omega), vu_n (by omega), vu_n (by omega), vu_s]
  have t2 : tr (va_up (stT L t a b c e f) 1 (t + 1)) t 2 = c := by
    unfold tr stT
    rw [vu_n (by omega), vu_n (by omega), vu_n (by omega), vu_s]
  have t3 : tr (va_up (stT L t a b c e f) 1 (t + 1)) t 3 = e := by
    unfold tr stT
    rw [vu_n (by omega), vu_n (by omega), vu_s]
  have t4 : tr (va_up (stT L t a b c e f) 1 (t + 1)) t 4 = f := by
    unfold tr stT
    rw [vu_n (by omega), vu_s]
  refine ⟨⟨fun k hk => ?_, ?_, fun s h' => ?_, fun s h1 h2 => ?_, fun s h' => ?_, fun t' q => ?_, fun c' q => ?_⟩, ⟨?_, ?_, ?_, ?_, ?_⟩, ?_, fun s h' => ?_, fun t' q w hw => ?_, fun c' q w hw => ?_⟩
  · by_cases q : k = 1
    · rw [q, vu_s]; omega
    · rw [vu_n q]
      by_cases q2 : 20 + 5 * t ≤ k ∧ k < 25 + 5 * t
      · have w2' := w2
        unfold stT va_up
        split
        · omega
        · split
          · omega
          · split
            · omega
            · split
              · omega
              · split
                · omega
                · exact w1 k hk
      · rw [stT_n q2]; exact w1 k hk
  · rw [nn 0 (by omega) (by omega), vu_s, nn 2 (by omega) (by omega), nn 3 (by omega) (by omega), nn 4 (by omega) (by omega)]; omega
  · rw [nn (5 + s) (by omega) (by omega)]; exact w3 s h'
  · rw [nn 0 (by omega) (by omega)] at h1
    rw [nn (5 + s) (by omega) (by omega)]; exact w4 s h1 h2
  · rw [nn 0 (by omega) (by omega)] at h'
    rw [nn (13 + s) (by omega) (by omega)]; exact w5 s h'
  · rw [vu_s] at q
    unfold trOk
    rw [nn 0 (by omega) (by omega)]
    by_cases q2 : t' = t
    · rw [q2, t0, t1, t2, t3, t4]; exact hv
    · rw [no t' 0 (by omega) (by omega), no t' 1 (by omega) (by omega), no t' 2 (by omega) (by omega), no t' 3 (by omega) (by omega), no t' 4 (by omega) (by omega)]
      exact w6 t' (by omega)
  · rw [nn 2 (by omega) (by omega), hN] at q; exact absurd q (by omega)
  · rw [nn 0 (by omega) (by omega)]; exact (hI 0 (by omega)).trans f0
  · rw [vu_s]; exact hI1
  · rw [nn 2 (by omega) (by omega)]; exact (hI 2 (by omega)).trans f2
  · rw [nn 3 (by omega) (by omega)]; exact (hI 3 (by omega)).trans f3
  · rw [nn 4 (by omega) (by omega)]; exact (hI 4 (by omega)).trans f4
  · refine ⟨x, hx, (hI 5 (by omega)).trans hx5, fun s h' => ?_⟩
    rw [nn (5 + s) (by omega) (by omega)]; exact hxs s h'
  · rw [nn 0 (by omega) (by omega)] at h'
    have hs : s < 7 := by omega
    rw [nn (13 + s) (by omega) (by omega)]
    show B 5 s = _
    rw [h5]; exact hl s h'
  · rw [vu_s] at q
    show B 6 (8 * t' + w) = _
    by_cases q2 : t' = t
    · subst q2
      match w, hw with
      | 0, _ => rw [t0]; exact hB.1
      | 1, _ => rw [t1]; exact hB.2.1
      | 2, _ => rw [t2]; exact hB.2.2.1
      | 3, _ => rw [t3]; exact hB.2.2.2.1
      | 4, _ => rw [t4]; exact hB.2.2.2.2
    · rw [no t' w (by omega) hw, h6 _ (by omega)]
      exact ht' t' (by omega) w hw
  · rw [nn 2 (by omega) (by omega), hN] at q; exact absurd q (by omega)
end
section
variable {ε : Nat × (Nat → Int32)} {d : Nat} {Q : zQ} {o ot it : Value} {A : Nat → Nat → Int32} {AL : Nat → Nat → Int64} {AD : Nat → Nat → UInt64} {T : Nat → Nat} {n : Nat} {IF I : Nat → Nat → Int32} {σ : zP} {L : Nat → Nat}
theorem c_figX (hn5 : n ≤ 500) (hT : ∀ p, p < n → A 41 p = nI (T p)) (hT8 : ∀ p, p < n → T p < 2 ^ 31) (hR : tRf T n I IF) {lo hi lo' hi' x : Int32} {J : Nat → Nat → Int32} (hE : yN T n lo' hi' I = (x, J)) (hlh : I 2 1 = 0 → lo = lo' ∧ hi = hi') (hq : ∀ (v : Int32) IF', tRf T n J IF' → (J 2 1 = 0 → v = x) → tF IF IF' → Q (.inl (some (.int v))) (zM o ot it IF' A AL AD)) : zW ε false (d + 3) 147 0 [(0, .ref 32), (1, .int lo), (2, .int hi)] [] (zM o ot it IF A AL AD) 0 0 Q := by
  have e : yN T n lo hi I = yN T n lo' hi' I := by
    by_cases h : I 2 1 = 0
    · rw [(hlh h).1, (hlh h).2]
    · rw [yN_e h, yN_e h]
  refine c_figure hn5 hT hT8 hR (fun v IF' r u f => ?_)
  rw [e, hE] at r u
  exact hq v IF' r u f
/-- the class's values of one train -/
theorem pT1_ok {x1 x2 x3 x4 x5 : Int32} {J0 J1 J2 J3 J4 J5 : Nat → Nat → Int32} (e1 : yN T n 0 (J0 4 0 - 1) J0 = (x1, J1)) (e2 : yN T n (x1 + 1) (J1 4 0 - 1) J1 = (x2, J2)) (e3 : yN T n 0 1000 J2 = (x3, J3)) (e4 : yN T n 1 5 J3 = (x4, J4)) (e5 : yN T n 0 20 J4 = (x5, J5)) (h0 : J0 4 0 = nI (L 0)) (hS : L 0 ≤ 8) (hz : ySe T n J5 2 1 = 0) : ∃ a b c e f, (a < b ∧ b < L 0 ∧ c ≤ 1000 ∧ 1 ≤ e ∧ e ≤ 5 ∧ f ≤ 20) ∧ (x1 = nI a ∧ x2 = nI b ∧ x3 = nI c ∧ x4 = nI e ∧ x5 = nI f) ∧ J1 2 1 = 0 ∧ J2 2 1 = 0 ∧ J3 2 1 = 0 ∧ J4 2 1 = 0 ∧ J5 2 1 = 0 := by
  have z5 : J5 2 1 = 0 := (ySe_ok hz).1
  have k5 := yN_ok (T := T) (n := n) (I := J4) (lo := 0) (hi := 20) (by rw [e5]; exact z5)
  have z4 := (yNu_iff.mp k5.1).1
  have k4 := yN_ok (T := T) (n := n) (I := J3) (lo := 1) (hi := 5) (by rw [e4]; exact z4)
  have z3 := (yNu_iff.mp k4.1).1
  have k3 := yN_ok (T := T) (n := n) (I := J2) (lo := 0) (hi := 1000) (by rw [e3]; exact z3)
  have z2 := (yNu_iff.mp k3.1).1
  have k2 := yN_ok (T := T) (n := n) (I := J1) (lo := x1 + 1) (hi := J1 4 0 - 1) (by rw [e2]; exact z2)
  have z1 := (yNu_iff.mp k2.1).1
  have k1 := yN_ok (T := T) (n := n) (I := J0) (lo := 0) (hi := J0 4 0 - 1) (by rw [e1]; exact z1)
  have h40 : J1 4 0 = J0 4 0 := by
    have q := yN_4 (T := T) (n := n) (lo := 0) (hi := J0 4 0 - 1) (I := J0) (j := 0)
    rw [e1] at q
    exact q
  rw [e1] at k1
  rw [e2, h40] at k2
  rw [e3] at k3
  rw [e4] at k4
  rw [e5] at k5
  have y1 : x1 = yV T n J0 := (Prod.mk.inj k1.2.2.2).1
  have y2 : x2 = yV T n J1 := (Prod.mk.inj k2.2.2.2).1
  have y3 : x3 = yV T n J2 := (Prod.mk.inj k3.2.2.2).1
  have y4 : x4 = yV T n J3 := (Prod.mk.inj k4.2.2.2).1
  have y5 : x5 = yV T n J4 := (Prod.mk.inj k5.2.2.2).1
  obtain ⟨a, -, ha, ea⟩ := rngP (a := 0) (S := L 0) (by decide) (by omega) k1.2.1 (by rw [← h0]; exact k1.2.2.1)
  obtain ⟨b, hb1, hb2, eb⟩ := rngP (a := a + 1) (S := L 0) (by omega) (by omega) (by rw [← nI_1, ← ea, ← y1]; exact k2.2.1) (by rw [← h0]; exact k2.2.2.1)
  obtain ⟨c, -, hc, ec⟩ := rngN (a := 0) (b := 1000) (by decide) (by decide) k3.2.1 k3.2.2.1
  obtain ⟨e, he1, he2, ee⟩ := rngN (a := 1) (b := 5) (by decide) (by decide) k4.2.1 k4.2.2.1
  obtain ⟨f, -, hf, ef⟩ := rngN (a := 0) (b := 20) (by decide) (by decide) k5.2.1 k5.2.2.1
  exact ⟨a, b, c, e, f, ⟨by omega, hb2, hc, he1, he2, hf⟩, ⟨y1.trans ea, y2.trans eb, y3.trans ec, y4.trans ee, y5.trans ef⟩, z1, z2, z3, z4, z5⟩
theorem c_oneTrain (hn5 : n ≤ 500) (hT : ∀ p, p < n → A 41 p = nI (T p)) (hT8 : ∀ p, p < n → T p < 2 ^ 31) {t : Nat} (ht : t < 8) (hR : tRf T n σ.1 IF) (h0 : σ.1 2 1 = 0) (hD : trP t σ L) (hq : ∀ IF' L', tRf T n (pT1 T n (nI t) (yT T n σ.1, σ.2)).1 IF' → trP (t + 1) (pT1 T n (nI t) (yT T n σ.1, σ.2)) L' → tF IF IF' → Q (.inl none) (zM o ot it IF' (va_up A 34 (lf L')) AL AD)) : zW ε false (d + 5) 152 0 [(0, .ref 32)] [] (zM o ot it IF (va_up A 34 (lf L)) AL AD) 0 0 Q := by
  have hd := hD h0
  have hM : L 1 = t := hd.2.2.1
  have hB := hd.1.1.2.1
  have e40 : yT T n σ.1 4 0 = nI (L 0) := (yT_4 (by omega)).trans hd.1.2.1.1
  have e4j : ∀ j, yT T n σ.1 4 j = σ.1 4 j := fun j => yT_4 (by omega)
  generalize hJ0 : yT T n σ.1 = J0 at hq e40 e4j
  obtain ⟨x1, J1, e1⟩ : ∃ x J, yN T n 0 (J0 4 0 - 1) J0 = (x, J) := ⟨_, _, rfl⟩
  obtain ⟨x2, J2, e2⟩ : ∃ x J, yN T n (x1 + 1) (J1 4 0 - 1) J1 = (x, J) := ⟨_, _, rfl⟩
  obtain ⟨x3, J3, e3⟩ : ∃ x J, yN T n 0 1000 J2 = (x, J) := ⟨_, _, rfl⟩
  obtain ⟨x4, J4, e4⟩ : ∃ x J, yN T n 1 5 J3 = (x, J) := ⟨_, _, rfl⟩
  obtain ⟨x5, J5, e5⟩ : ∃ x J, yN T n 0 20 J4 = (x, J) := ⟨_, _, rfl⟩
  rw [pT1_eq (σ := (J0, σ.2)) e1 e2 e3 e4 e5] at hq
  have h4 : ∀ (lo hi x : Int32) (I J : Nat → Nat → Int32) (j : Nat), yN T n lo hi I = (x, J) → J 4 j = I 4 j := fun lo hi x I J j e => by
    have q := yN_4 (T := T) (n := n) (lo := lo) (hi := hi) (I := I) (j := j)
    rw [e] at q
    exact q
  have h41 := h4 _ _ _ _ _ 0 e1
  refine zrun 3 ?_
  refine zW_ildv (n := 1) rfl rfl rfl (by decide) (by decide) rfl ?_
  refine zrun 2 (zb_ne (b := 8) rfl rfl (by omega) (by decide) (fun _ => ?_) (fun q => absurd q (by omega)))
  refine zrun 2 ⟨⟨Nat.le_of_ble_eq_true rfl, Nat.le_of_ble_eq_true rfl, rfl⟩, ?_⟩
  refine c_isWrong (fun u hu => ⟨rfl, ?_⟩)
  refine zrun 1 (zb_f rfl (fun _ => ?_) (fun q => absurd (hR.2.1.trans h0) (hu.mp q)))
  refine zrun 2 ⟨⟨Nat.le_of_ble_eq_true rfl, Nat.le_of_ble_eq_true rfl, rfl⟩, ?_⟩
  refine c_mtoken (d := d + 3) (A := va_up A 34 (lf L)) hn5 hT hT8 hR h0 (fun I0 r0 f0 => ⟨rfl, ?_⟩)
  rw [hJ0] at r0
  refine zrun 5 ?_
  refine zW_ildv (n := 1) rfl rfl rfl (by decide) (by decide) rfl ?_
  refine zrun 3 (zloc [(0, _), (1, _)] rfl (zloc [(0, .ref 32), (1, .int (nI (20 + 5 * t)))] (show [(0, Value.ref 32), (1, Value.int ((20 : Int32) + 5 * nI (L 1)))] = _ by rw [hM, show (20 : Int32) = nI 20 from rfl, show (5 : Int32) = nI 5 from rfl, pk_mul, nI_add]) ?_))
  refine zrun 10 ?_
  refine zW_ildv (n := 0) rfl rfl rfl (by decide) (by decide) rfl ?_
  refine zrun 3 ⟨⟨Nat.le_of_ble_eq_true rfl, Nat.le_of_ble_eq_true rfl, rfl⟩, ?_⟩
  refine c_figX (d := d + 1) (A := va_up A 34 (lf L)) hn5 hT hT8 r0 e1 (fun _ => ⟨rfl, by rw [e40]; rfl⟩) (fun v1 I1 r1 u1 f1 => ⟨rfl, ?_⟩)
  refine zW_istq (n := 20 + 5 * t + 0) (v := v1.toBitVec.toNat) rfl rfl (show nI (20 + 5 * t) + (0 : Int32) = _ by rw [show (0 : Int32) = nI 0 from rfl, nI_add]) (by omega) (by decide) (nI_tn v1).symm ?_
  refine zrun 11 ?_
  refine zW_ildv (n := 20 + 5 * t + 0) rfl rfl (show nI (20 + 5 * t) + (0 : Int32) = _ by rw [show (0 : Int32) = nI 0 from rfl, nI_add]) (by omega) (by decide) (show nI ((va_up L (20 + 5 * t + 0) v1.toBitVec.toNat) (20 + 5 * t + 0)) = v1 by rw [vu_s, nI_tn]) ?_
  refine zrun 5 ?_
  refine zW_ildv (n := 0) rfl rfl rfl (by decide) (by decide) (show nI ((va_up L (20 + 5 * t + 0) v1.toBitVec.toNat) 0) = nI (L 0) by rw [vu_n (by omega)]) ?_
  refine zrun 3 ⟨⟨Nat.le_of_ble_eq_true rfl, Nat.le_of_ble_eq_true rfl, rfl⟩, ?_⟩
  refine c_figX (d := d + 1) (A := va_up A 34 (lf (va_up L (20 + 5 * t + 0) v1.toBitVec.toNat))) hn5 hT hT8 r1 e2 (fun z => ⟨by rw [u1 z]; rfl, by rw [h41, e40]; rfl⟩) (fun v2 I2 r2 u2 f2 => ⟨rfl, ?_⟩)
  refine zW_istq (n := 20 + 5 * t + 1) (v := v2.toBitVec.toNat) rfl rfl (show nI (20 + 5 * t) + (1 : Int32) = _ by rw [show (1 : Int32) = nI 1 from rfl, nI_add]) (by omega) (by decide) (nI_tn v2).symm ?_
  refine zrun 9 ⟨⟨Nat.le_of_ble_eq_true rfl, Nat.le_of_ble_eq_true rfl, rfl⟩, ?_⟩
  refine c_figX (d := d + 1) (A := va_up A 34 (lf (va_up (va_up L (20 + 5 * t + 0) v1.toBitVec.toNat) (20 + 5 * t + 1) v2.toBitVec.toNat))) hn5 hT hT8 r2 e3 (fun _ => ⟨rfl, rfl⟩) (fun v3 I3 r3 u3 f3 => ⟨rfl, ?_⟩)
  refine zW_istq (n := 20 + 5 * t + 2) (v := v3.toBitVec.toNat) rfl rfl (show nI (20 + 5 * t) + (2 : Int32) = _ by rw [show (2 : Int32) = nI 2 from rfl, nI_add]) (by omega) (by decide) (nI_tn v3).symm ?_
  refine zrun 9 ⟨⟨Nat.le_of_ble_eq_true rfl, Nat.le_of_ble_eq_true rfl, rfl⟩, ?_⟩
  refine c_figX (d := d + 1) (A := va_up A 34 (lf (va_up (va_up (va_up L (20 + 5 * t + 0) v1.toBitVec.toNat) (20 + 5 * t + 1) v2.toBitVec.toNat) (20 + 5 * t + 2) v3.toBitVec.toNat))) hn5 hT hT8 r3 e4 (fun _ => ⟨rfl, rfl⟩) (fun v4 I4 r4 u4 f4 => ⟨rfl, ?_⟩)
  refine zW_istq (n := 20 + 5 * t + 3) (v := v4.toBitVec.toNat) rfl rfl (show nI (20 + 5 * t) + (3 : Int32) = _ by rw [show (3 : Int32) = nI 3 from rfl, nI_add]) (by omega) (by decide) (nI_tn v4).symm ?_
  refine zrun 9 ⟨⟨Nat.le_of_ble_eq_true rfl, Nat.le_of_ble_eq_true rfl, rfl⟩, ?_⟩
  refine c_figX (d := d + 1) (A := va_up A 34 (lf (va_up (va_up (va_up (va_up L (20 + 5 * t + 0) v1.toBitVec.toNat) (20 + 5 * t + 1) v2.toBitVec.toNat) (20 + 5 * t + 2) v3.toBitVec.toNat) (20 + 5 * t + 3) v4.toBitVec.toNat))) hn5 hT hT8 r4 e5 (fun _ => ⟨rfl, rfl⟩) (fun v5 I5 r5 u5 f5 => ⟨rfl, ?_⟩)
  refine zW_istq (n := 20 + 5 * t + 4) (v := v5.toBitVec.toNat) rfl rfl (show nI (20 + 5 * t) + (4 : Int32) = _ by rw [show (4 : Int32) = nI 4 from rfl, nI_add]) (by omega) (by decide) (nI_tn v5).symm ?_
  refine zrun 4 ?_
  refine zW_ildv (n := 1) rfl rfl rfl (by decide) (by decide) (show nI ((va_up (va_up (va_up (va_up (va_up L (20 + 5 * t + 0) v1.toBitVec.toNat) (20 + 5 * t + 1) v2.toBitVec.toNat) (20 + 5 * t + 2) v3.toBitVec.toNat) (20 + 5 * t + 3) v4.toBitVec.toNat) (20 + 5 * t + 4) v5.toBitVec.toNat) 1) = nI t by rw [vu_n (by omega), vu_n (by omega), vu_n (by omega), vu_n (by omega), vu_n (by omega), hM]) ?_
  refine zrun 2 ?_
  refine zW_istq (n := 1) (v := t + 1) rfl rfl rfl (by decide) (by decide) (nI_1 t) ?_
  refine zrun 2 ⟨⟨Nat.le_of_ble_eq_true rfl, Nat.le_of_ble_eq_true rfl, rfl⟩, ?_⟩
  refine c_ends (d := d + 2) (A := va_up A 34 (lf (va_up (va_up (va_up (va_up (va_up (va_up L (20 + 5 * t + 0) v1.toBitVec.toNat) (20 + 5 * t + 1) v2.toBitVec.toNat) (20 + 5 * t + 2) v3.toBitVec.toNat) (20 + 5 * t + 3) v4.toBitVec.toNat) (20 + 5 * t + 4) v5.toBitVec.toNat) 1 (t + 1)))) hn5 hT hT8 r5 (fun I6 r6 f6 => ⟨rfl, ?_⟩)
  refine zrun 1 (hq I6 (va_up (va_up (va_up (va_up (va_up (va_up L (20 + 5 * t + 0) v1.toBitVec.toNat) (20 + 5 * t + 1) v2.toBitVec.toNat) (20 + 5 * t + 2) v3.toBitVec.toNat) (20 + 5 * t + 3) v4.toBitVec.toNat) (20 + 5 * t + 4) v5.toBitVec.toNat) 1 (t + 1)) r6 (fun z => ?_) (tF_t f0 (tF_t f1 (tF_t f2 (tF_t f3 (tF_t f4 (tF_t f5 f6)))))))
  obtain ⟨a, b, c, e, f, hv, ⟨q1, q2, q3, q4, q5⟩, z1, z2, z3, z4, z5⟩ := pT1_ok (L := L) e1 e2 e3 e4 e5 e40 hB.1 z
  have hk := rTr_k (B := σ.2) (x1 := x1) (x2 := x2) (x3 := x3) (x4 := x4) (x5 := x5) ht
  have y1 : v1.toBitVec.toNat = a := by rw [u1 z1, q1, pk_tn (by omega)]
  have y2 : v2.toBitVec.toNat = b := by rw [u2 z2, q2, pk_tn (by omega)]
  have y3 : v3.toBitVec.toNat = c := by rw [u3 z3, q3, pk_tn (by omega)]
  have y4 : v4.toBitVec.toNat = e := by rw [u4 z4, q4, pk_tn (by omega)]
  have y5 : v5.toBitVec.toNat = f := by rw [u5 z5, q5, pk_tn (by omega)]
  rw [y1, y2, y3, y4, y5]
  rw [q1, q2, q3, q4, q5] at hk
  rw [q1, q2, q3, q4, q5]
  refine ⟨pD_tr (σ := σ) hd.1 hd.2.2.2 hM ht hv (fun j hj => ?_) ?_ hk.1.1 hk.2.1 hk.2.2, ?_, vu_s, ?_⟩
  · show upd (ySe T n J5 4) 1 (nI t + 1) j = _
    rw [upd_n hj, ySe_4, h4 _ _ _ _ _ j e5, h4 _ _ _ _ _ j e4, h4 _ _ _ _ _ j e3, h4 _ _ _ _ _ j e2, h4 _ _ _ _ _ j e1, e4j]
  · show upd (ySe T n J5 4) 1 (nI t + 1) 1 = _
    rw [upd_s, nI_1]
  · show 2 ≤ va_up (stT L t a b c e f) 1 (t + 1) 0
    rw [vu_n (by omega), stT_n (by omega)]; exact hd.2.1
  · show va_up (stT L t a b c e f) 1 (t + 1) 2 = 0
    rw [vu_n (by omega), stT_n (by omega)]; exact hd.2.2.2
theorem c_oneTrain8 (hn5 : n ≤ 500) (hT : ∀ p, p < n → A 41 p = nI (T p)) (hT8 : ∀ p, p < n → T p < 2 ^ 31) (hR : tRf T n σ.1 IF) (h0 : σ.1 2 1 = 0) (hM : L 1 = 8) (hq : ∀ IF', tRf T n (yF (σ.1 2 5) 5 σ.1) IF' → tF IF IF' → Q (.inl none) (zM o ot it IF' (va_up A 34 (lf L)) AL AD)) : zW ε false (d + 5) 152 0 [(0, .ref 32)] [] (zM o ot it IF (va_up A 34 (lf L)) AL AD) 0 0 Q := by
  refine zrun 3 ?_
  refine zW_ildv (n := 1) rfl rfl rfl (by decide) (by decide) rfl ?_
  refine zrun 2 (zb_ne (b := 8) rfl rfl (by omega) (by decide) (fun q => absurd hM q) (fun _ => ?_))
  refine zrun 3 ⟨⟨Nat.le_of_ble_eq_true rfl, Nat.le_of_ble_eq_true rfl, rfl⟩, ?_⟩
  refine c_mfails (d := d + 3) hR (by decide) (fun I1 r1 f1 => ⟨rfl, ?_⟩)
  refine zrun 2 ⟨⟨Nat.le_of_ble_eq_true rfl, Nat.le_of_ble_eq_true rfl, rfl⟩, ?_⟩
  refine c_isWrong (fun u hu => ⟨rfl, ?_⟩)
  refine zrun 1 (zb_f rfl (fun q => by rw [hu.mpr (by rw [r1.2.1]; exact yF_1 (by decide))] at q; exact Bool.noConfusion q) (fun _ => ?_))
  exact zrun 1 (hq I1 r1 f1)
end
