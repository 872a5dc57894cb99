/-! the reference: connections -/
def lkP (c : Nat) (σ' : zP) (L' : Nat → Nat) : Prop := σ'.1 2 1 = 0 → pD 0 σ' L' ∧ 2 ≤ L' 0 ∧ L' 2 = c
def stK (L : Nat → Nat) (c a b s m : Nat) : Nat → Nat := va_up (va_up (va_up (va_up L (60 + 4 * c + 0) a) (60 + 4 * c + 1) b) (60 + 4 * c + 2) s) (60 + 4 * c + 3) m
theorem stK_n {L : Nat → Nat} {c a b s m k : Nat} (h : ¬ (60 + 4 * c ≤ k ∧ k < 64 + 4 * c)) : stK L c a b s m k = L k := by
  unfold stK
  rw [vu_n (by omega), vu_n (by omega), vu_n (by omega), vu_n (by omega)]
section
variable {T : Nat → Nat} {n : Nat} {I B : Nat → Nat → Int32} {σ : zP} {L : Nat → Nat}
theorem pLk_7 {c e : Nat} {w v : Int32} (hc : c < 8) : pLk (nI c) w v B 7 e = if e = 8 * c + m8 w then v else B 7 e := by
  show upd (B 7) (8 * m8 (nI c) + m8 w) v e = _
  rw [m8_nI hc]
  rfl
def rLk (c x1 x2 x3 x4 : Int32) (B : Nat → Nat → Int32) : Nat → Nat → Int32 := pLk c 3 x4 (pLk c 2 x3 (pLk c 1 x2 (pLk c 0 x1 B)))
theorem rLk_k {c : Nat} {x1 x2 x3 x4 : Int32} (hc : c < 8) : (rLk (nI c) x1 x2 x3 x4 B 5 = B 5 ∧ rLk (nI c) x1 x2 x3 x4 B 6 = B 6) ∧ (∀ k, k < 8 * c → rLk (nI c) x1 x2 x3 x4 B 7 k = B 7 k) ∧ rLk (nI c) x1 x2 x3 x4 B 7 (8 * c + 0) = x1 ∧ rLk (nI c) x1 x2 x3 x4 B 7 (8 * c + 1) = x2 ∧ rLk (nI c) x1 x2 x3 x4 B 7 (8 * c + 2) = x3 ∧ rLk (nI c) x1 x2 x3 x4 B 7 (8 * c + 3) = x4 := by
  have m0 : m8 (0 : Int32) = 0 := by decide
  have m1 : m8 (1 : Int32) = 1 := by decide
  have m2 : m8 (2 : Int32) = 2 := by decide
  have m3 : m8 (3 : Int32) = 3 := by decide
  have e : ∀ k, rLk (nI c) x1 x2 x3 x4 B 7 k = if k = 8 * c + 3 then x4 else if k = 8 * c + 2 then x3 else if k = 8 * c + 1 then x2 else if k = 8 * c + 0 then x1 else B 7 k := fun k => by
    unfold rLk
    rw [pLk_7 hc, pLk_7 hc, pLk_7 hc, pLk_7 hc, m0, m1, m2, m3]
  refine ⟨⟨rfl, rfl⟩, fun k hk => ?_, ?_, ?_, ?_, ?_⟩
  · rw [e, if_neg (by omega), if_neg (by omega), if_neg (by omega), if_neg (by omega)]
  · rw [e, if_neg (by omega), if_neg (by omega), if_neg (by omega), if_pos rfl]
  · rw [e, if_neg (by omega), if_neg (by omega), if_pos rfl]
  · rw [e, if_neg (by omega), if_pos rfl]
  · rw [e, if_pos rfl]
theorem pCn_eq {c : Nat} {f t s m : Int32} {J1 J2 J3 J4 : Nat → Nat → Int32} (e1 : yN T n 0 (yT T n σ.1 4 1 - 1) (yT T n σ.1) = (f, J1)) (e2 : yN T n 0 (J1 4 1 - 1) J1 = (t, J2)) (e3 : yN T n 0 (pCeq f t J2 4 0 - 1) (pCeq f t J2) = (s, J3)) (e4 : yN T n 0 30 (pCs f t s (J3, σ.2)) = (m, J4)) : pCn T n c σ = (xr1 2 (nI c + 1) (ySe T n J4), rLk (nI c) f t s m σ.2) := by
  unfold pCn
  generalize yT T n σ.1 = J0 at e1 ⊢
  have a1 : pCf T n (J0, σ.2) = f := by unfold pCf; dsimp only; rw [e1]
  have a2 : pC1 T n (J0, σ.2) = (J1, σ.2) := by unfold pC1; dsimp only; rw [e1]
  have a3 : pCf T n (J1, σ.2) = t := by unfold pCf; dsimp only; rw [e2]
  have a4 : pC2 T n f (J1, σ.2) = (pCeq f t J2, σ.2) := by unfold pC2 pC1; rw [a3]; dsimp only; rw [e2]
  have a5 : pCst T n (pCeq f t J2, σ.2) = s := by unfold pCst; dsimp only; rw [e3]
  have a6 : pC3 T n (pCeq f t J2, σ.2) = (J3, σ.2) := by unfold pC3; dsimp only; rw [e3]
  have a7 : pC T n (nI c) (J0, σ.2) = (ySe T n J4, rLk (nI c) f t s m σ.2) := by
    unfold pC
    rw [a1, a2, a3, a4]
    unfold pC7
    rw [a5, a6]
    unfold pC6 pC5 pC4
    dsimp only
    rw [e4]
    rfl
  rw [a7]
theorem pD_lk {c a b s m : Nat} (h : pD 0 σ L) (hN : L 2 = c) (hc : c < 8) (hv : a < L 1 ∧ b < L 1 ∧ s < L 0 ∧ L (5 + s) = 1 ∧ gA L a s = true ∧ gD L b s = true ∧ m ≤ 30) (hI : ∀ j, ¬ j = 2 → I 4 j = σ.1 4 j) (hI2 : I 4 2 = nI (c + 1)) (h5 : B 5 = σ.2 5) (h6 : B 6 = σ.2 6) (h7 : ∀ k, k < 8 * c → B 7 k = σ.2 7 k) (hB : B 7 (8 * c + 0) = nI a ∧ B 7 (8 * c + 1) = nI b ∧ B 7 (8 * c + 2) = nI s ∧ B 7 (8 * c + 3) = nI m) : pD 0 (I, B) (va_up (stK L c a b s m) 2 (c + 1)) := by
  obtain ⟨⟨w1, w2, w3, w4, w5, w6, w7⟩, ⟨f0, f1, f2, f3, f4⟩, ⟨x, hx, hx5, hxs⟩, hl, ht, hc'⟩ := h
  have nn : ∀ k, k < 60 → ¬ k = 2 → va_up (stK L c a b s m) 2 (c + 1) k = L k := fun k hk h1 => by rw [vu_n h1, stK_n (by omega)]
  have nt : ∀ t w, t < 8 → w < 5 → tr (va_up (stK L c a b s m) 2 (c + 1)) t w = tr L t w := fun t w h1 h2 => by
    unfold tr
    rw [nn _ (by omega) (by omega)]
  have nA : ∀ t k, t < 8 → gA (va_up (stK L c a b s m) 2 (c + 1)) t k = gA L t k := fun t k h1 => by
    unfold gA
    rw [nt t 0 h1 (by omega), nt t 1 h1 (by omega)]
  have nD : ∀ t k, t < 8 → gD (va_up (stK L c a b s m) 2 (c + 1)) t k = gD L t k := fun t k h1 => by
    unfold gD
    rw [nt t 0 h1 (by omega), nt t 1 h1 (by omega)]
  have no : ∀ c' w, c' < c → w < 4 → lk (va_up (stK L c a b s m) 2 (c + 1)) c' w = lk L c' w := fun c' w h1 h2 => by
    unfold lk
    rw [vu_n (by omega), stK_n (by omega)]
  have t0 : lk (va_up (stK L c a b s m) 2 (c + 1)) c 0 = a := by
    unfold lk stK
    rw [vu_n (by omega), vu_n (by omega), vu_n (by omega), vu_n (by omega), vu_s]
  have t1 : lk (va_up (stK L c a b s m) 2 (c + 1)) c 1 = b := by
    unfold lk stK
    rw [vu_n (by omega), vu_n (by omega), vu_n (by omega), vu_s]
  have t2 : lk (va_up (stK L c a b s m) 2 (c + 1)) c 2 = s := by
    unfold lk stK
    rw [vu_n (by omega), vu_n (by omega), vu_s]
  have t3 : lk (va_up (stK L c a b s m) 2 (c + 1)) c 3 = m := by
    unfold lk stK
    rw [vu_n (by omega), vu_s]
  refine ⟨⟨fun k hk => ?_, ?_, fun s h' => ?_, fun s h1 h2 => ?_, fun s h' => ?_, fun t' q => ?_, fun c' q => ?_⟩, ⟨?_, ?_, ?_, ?_, ?_⟩, ?_, fun s h' => ?_, fun t' q w hw => ?_, fun c' q w hw => ?_⟩
  · by_cases q : k = 2
    · rw [q, vu_s]; omega
    · rw [vu_n q]
      by_cases q2 : 60 + 4 * c ≤ k ∧ k < 64 + 4 * c
      · unfold stK va_up
        split
        · omega
        · split
          · omega
          · split
            · omega
            · split
              · omega
              · exact w1 k hk
      · rw [stK_n q2]; exact w1 k hk
  · rw [nn 0 (by omega) (by omega), nn 1 (by omega) (by omega), vu_s, nn 3 (by omega) (by omega), nn 4 (by omega) (by omega)]; omega
  · rw [nn (5 + s) (by omega) (by omega)]; exact w3 s h'
  · rw [nn 0 (by omega) (by omega)] at h1
    rw [nn (5 + s) (by omega) (by omega)]; exact w4 s h1 h2
  · rw [nn 0 (by omega) (by omega)] at h'
    rw [nn (13 + s) (by omega) (by omega)]; exact w5 s h'
  · rw [nn 1 (by omega) (by omega)] at q
    unfold trOk
    rw [nn 0 (by omega) (by omega), nt t' 0 (by omega) (by omega), nt t' 1 (by omega) (by omega), nt t' 2 (by omega) (by omega), nt t' 3 (by omega) (by omega), nt t' 4 (by omega) (by omega)]
    exact w6 t' q
  · rw [vu_s] at q
    unfold lkOk
    rw [nn 0 (by omega) (by omega), nn 1 (by omega) (by omega)]
    by_cases q2 : c' = c
    · rw [q2, t0, t1, t2, t3, nn (5 + s) (by omega) (by omega), nA a s (by omega), nD b s (by omega)]; exact hv
    · have w := w7 c' (by omega)
      unfold lkOk at w
      rw [no c' 0 (by omega) (by omega), no c' 1 (by omega) (by omega), no c' 2 (by omega) (by omega), no c' 3 (by omega) (by omega), nn (5 + lk L c' 2) (by omega) (by omega), nA _ _ (by omega), nD _ _ (by omega)]
      exact w
  · rw [nn 0 (by omega) (by omega)]; exact (hI 0 (by omega)).trans f0
  · rw [nn 1 (by omega) (by omega)]; exact (hI 1 (by omega)).trans f1
  · rw [vu_s]; exact hI2
  · rw [nn 3 (by omega) (by omega)]; exact (hI 3 (by omega)).trans f3
  · rw [nn 4 (by omega) (by omega)]; exact (hI 4 (by omega)).trans f4
  · refine ⟨x, hx, (hI 5 (by omega)).trans hx5, fun s h' => ?_⟩
    rw [nn (5 + s) (by omega) (by omega)]; exact hxs s h'
  · rw [nn 0 (by omega) (by omega)] at h'
    have hs : s < 7 := by omega
    rw [nn (13 + s) (by omega) (by omega)]
    show B 5 s = _
    rw [h5]; exact hl s h'
  · rw [nn 1 (by omega) (by omega)] at q
    show B 6 (8 * t' + w) = _
    rw [nt t' w (by omega) hw, h6]
    exact ht t' q w hw
  · rw [vu_s] at q
    show B 7 (8 * c' + w) = _
    by_cases q2 : c' = c
    · subst q2
      match w, hw with
      | 0, _ => rw [t0]; exact hB.1
      | 1, _ => rw [t1]; exact hB.2.1
      | 2, _ => rw [t2]; exact hB.2.2.1
      | 3, _ => rw [t3]; exact hB.2.2.2
    · rw [no c' w (by omega) hw, h7 _ (by omega)]
      exact hc' c' (by omega) w hw
/-- the station of a connection: the draft's answer and the told one -/
theorem pCok_iff {a b s : Nat} {J : Nat → Nat → Int32} (h : pD 0 σ L) (hJ : ∀ j, J 4 j = σ.1 4 j) (ha : a < L 1) (hb : b < L 1) (hs : s < L 0) : pCok (nI a) (nI b) (nI s) (J, σ.2) = true ↔ L (5 + s) = 1 ∧ gA L a s = true ∧ gD L b s = true := by
  have hB := h.1.2.1
  obtain ⟨x, hx, hx5, hxs⟩ := h.2.2.1
  have ht := h.2.2.2.2.1
  have e1 : xs J 4 (nI s) = decide (L (5 + s) = 1) := by
    rw [← hxs s (by omega)]
    unfold xs sdB
    rw [hJ 5, hx5]
  have o0 : ∀ t, t < L 1 → xo σ.2 4 (nI t) 0 = nI (tr L t 0) := fun t q => by
    show σ.2 6 (8 * m8 (nI t) + m8 0) = _
    rw [m8_nI (by omega), show m8 (0 : Int32) = 0 by decide]
    exact ht t q 0 (by omega)
  have o1 : ∀ t, t < L 1 → xo σ.2 4 (nI t) 1 = nI (tr L t 1) := fun t q => by
    show σ.2 6 (8 * m8 (nI t) + m8 1) = _
    rw [m8_nI (by omega), show m8 (1 : Int32) = 1 by decide]
    exact ht t q 1 (by omega)
  have bt : ∀ t w, t < L 1 → w < 5 → tr L t w < 2 ^ 31 := fun t w q q2 => Nat.lt_trans (h.1.1 (20 + 5 * t + w) (by omega)) (by decide)
  have e2 : xa σ.2 4 (nI a) (nI s) = gA L a s := by
    unfold xa gA
    rw [o0 a ha, o1 a ha]
    congr 1
    · rw [decide_eq_decide, nI_leI (by omega) (bt a 0 ha (by omega))]; omega
    · rw [decide_eq_decide, nI_ltI (bt a 1 ha (by omega)) (by omega)]; omega
  have e3 : xd σ.2 4 (nI b) (nI s) = gD L b s := by
    unfold xd gD
    rw [o0 b hb, o1 b hb]
    congr 1
    · rw [decide_eq_decide, nI_ltI (by omega) (bt b 0 hb (by omega))]; omega
    · rw [decide_eq_decide, nI_leI (bt b 1 hb (by omega)) (by omega)]; omega
  unfold pCok
  rw [e1, e2, e3]
  simp
end
