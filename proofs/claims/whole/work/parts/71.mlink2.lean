/-! the reference: a connection -/
section
variable {ε : Nat × (Nat → Int32)} {d : Nat} {Q : zQ} {o ot it : Value} {A : Nat → Nat → Int32} {AL : Nat → Nat → Int64} {AD : Nat → Nat → UInt64} {T : Nat → Nat} {n : Nat} {IF I : Nat → Nat → Int32} {σ : zP} {L : Nat → Nat}
theorem c_toldOf {A : Nat → Nat → Int32} (hL : A 34 = lf L) {x z : Int32} {t w : Nat} (hx : x = nI t) (hz : z = nI w) (hb : 20 + 5 * t + w < 92) (hq : Q (.inl (some (.int (nI (tr L t w))))) (zM o ot it IF A AL AD)) : zW ε false d 153 0 [(0, .ref 32), (1, .int x), (2, .int z)] [] (zM o ot it IF A AL AD) 0 0 Q := by
  refine zrun 9 ?_
  refine zW_iald (n := 20 + 5 * t + w) rfl rfl (show (20 : Int32) + 5 * x + z = _ by rw [hx, hz, show (20 : Int32) = nI 20 from rfl, show (5 : Int32) = nI 5 from rfl, pk_mul, nI_add, nI_add]) hb (by decide) ?_
  exact zrun 1 (show Q (.inl (some (.int (A 34 (20 + 5 * t + w))))) _ by rw [hL]; exact hq)
/-- from the stores on: E is the state ahead of the station's figure -/
theorem cl_k214 (hn5 : n ≤ 500) (hT : ∀ p, p < n → A 41 p = nI (T p)) (hT8 : ∀ p, p < n → T p < 2 ^ 31) {c : Nat} (hc : c < 8) (hN : L 2 = c) {v1 v2 x3 m : Int32} {E F3 K3 J4 : Nat → Nat → Int32} {hi' : Int32} (hR : tRf T n E IF) (e3 : yN T n 0 hi' E = (x3, F3)) (hlh : E 2 1 = 0 → nI (L 0) - 1 = hi') (hcv : ∀ I', tRf T n F3 I' → tRf T n K3 I') (hK : K3 2 1 = 0 → F3 2 1 = 0) (e4 : yN T n 0 30 K3 = (m, J4)) (hq : ∀ (v3 v4 : Int32) IF', (K3 2 1 = 0 → v3 = x3) → (J4 2 1 = 0 → v4 = m) → tRf T n (ySe T n J4) IF' → tF IF IF' → Q (.inl none) (zM o ot it IF' (va_up A 34 (lf (va_up (va_up (va_up (va_up (va_up L (60 + 4 * c + 0) v1.toBitVec.toNat) (60 + 4 * c + 1) v2.toBitVec.toNat) (60 + 4 * c + 2) v3.toBitVec.toNat) (60 + 4 * c + 3) v4.toBitVec.toNat) 2 (c + 1)))) AL AD)) : zW ε false (d + 5) 154 214 [(0, .ref 32), (1, .int (nI (60 + 4 * c))), (2, .int v1), (3, .int v2)] [] (zM o ot it IF (va_up A 34 (lf L)) AL AD) 0 0 Q := by
  refine zrun 6 ?_
  refine zW_istq (n := 60 + 4 * c + 0) (v := v1.toBitVec.toNat) rfl rfl (show nI (60 + 4 * c) + (0 : Int32) = _ by rw [show (0 : Int32) = nI 0 from rfl, nI_add]) (by omega) (by decide) (nI_tn v1).symm ?_
  refine zrun 6 ?_
  refine zW_istq (n := 60 + 4 * c + 1) (v := v2.toBitVec.toNat) rfl rfl (show nI (60 + 4 * c) + (1 : Int32) = _ by rw [show (1 : Int32) = nI 1 from rfl, nI_add]) (by omega) (by decide) (nI_tn v2).symm ?_
  refine zrun 10 ?_
  refine zW_ildv (n := 0) rfl rfl rfl (by decide) (by decide) (show nI ((va_up (va_up L (60 + 4 * c + 0) v1.toBitVec.toNat) (60 + 4 * c + 1) v2.toBitVec.toNat) 0) = nI (L 0) by rw [vu_n (by omega), vu_n (by omega)]) ?_
  refine zrun 3 ⟨⟨Nat.le_of_ble_eq_true rfl, Nat.le_of_ble_eq_true rfl, rfl⟩, ?_⟩
  refine c_figX (d := d + 1) (A := va_up A 34 (lf (va_up (va_up L (60 + 4 * c + 0) v1.toBitVec.toNat) (60 + 4 * c + 1) v2.toBitVec.toNat))) hn5 hT hT8 hR e3 (fun z => ⟨rfl, hlh z⟩) (fun v3 I3 r3 u3 f3 => ⟨rfl, ?_⟩)
  refine zW_istq (n := 60 + 4 * c + 2) (v := v3.toBitVec.toNat) rfl rfl (show nI (60 + 4 * c) + (2 : Int32) = _ by rw [show (2 : Int32) = nI 2 from rfl, nI_add]) (by omega) (by decide) (nI_tn v3).symm ?_
  refine zrun 9 ⟨⟨Nat.le_of_ble_eq_true rfl, Nat.le_of_ble_eq_true rfl, rfl⟩, ?_⟩
  refine c_figX (d := d + 1) (A := va_up A 34 (lf (va_up (va_up (va_up L (60 + 4 * c + 0) v1.toBitVec.toNat) (60 + 4 * c + 1) v2.toBitVec.toNat) (60 + 4 * c + 2) v3.toBitVec.toNat))) hn5 hT hT8 (hcv I3 r3) e4 (fun _ => ⟨rfl, rfl⟩) (fun v4 I4 r4 u4 f4 => ⟨rfl, ?_⟩)
  refine zW_istq (n := 60 + 4 * c + 3) (v := v4.toBitVec.toNat) rfl rfl (show nI (60 + 4 * c) + (3 : Int32) = _ by rw [show (3 : Int32) = nI 3 from rfl, nI_add]) (by omega) (by decide) (nI_tn v4).symm ?_
  refine zrun 4 ?_
  refine zW_ildv (n := 2) rfl rfl rfl (by decide) (by decide) (show nI ((va_up (va_up (va_up (va_up L (60 + 4 * c + 0) v1.toBitVec.toNat) (60 + 4 * c + 1) v2.toBitVec.toNat) (60 + 4 * c + 2) v3.toBitVec.toNat) (60 + 4 * c + 3) v4.toBitVec.toNat) 2) = nI c by rw [vu_n (by omega), vu_n (by omega), vu_n (by omega), vu_n (by omega), hN]) ?_
  refine zrun 2 ?_
  refine zW_istq (n := 2) (v := c + 1) rfl rfl rfl (by decide) (by decide) (nI_1 c) ?_
  refine zrun 2 ⟨⟨Nat.le_of_ble_eq_true rfl, Nat.le_of_ble_eq_true rfl, rfl⟩, ?_⟩
  refine c_ends (d := d + 2) (A := va_up A 34 (lf (va_up (va_up (va_up (va_up (va_up L (60 + 4 * c + 0) v1.toBitVec.toNat) (60 + 4 * c + 1) v2.toBitVec.toNat) (60 + 4 * c + 2) v3.toBitVec.toNat) (60 + 4 * c + 3) v4.toBitVec.toNat) 2 (c + 1)))) hn5 hT hT8 r4 (fun I5 r5 f5 => ⟨rfl, ?_⟩)
  exact zrun 1 (hq v3 v4 I5 (fun z => u3 (hK z)) u4 r5 (tF_t f3 (tF_t f4 f5)))
/-- from the second train on: K is the state, J3 the state behind the station -/
theorem cl_k97 (hn5 : n ≤ 500) (hT : ∀ p, p < n → A 41 p = nI (T p)) (hT8 : ∀ p, p < n → T p < 2 ^ 31) {c : Nat} (hc : c < 8) (hN : L 2 = c) {v1 v2 f t s m : Int32} {K J3 J4 : Nat → Nat → Int32} (hR : tRf T n K IF) (hD : K 2 1 = 0 → pD 0 σ L ∧ 2 ≤ L 0 ∧ (∀ j, K 4 j = σ.1 4 j) ∧ v1 = f ∧ v2 = t ∧ ∃ a b, a < L 1 ∧ b < L 1 ∧ f = nI a ∧ t = nI b) (e3 : yN T n 0 (K 4 0 - 1) K = (s, J3)) (e4 : yN T n 0 30 (pCs f t s (J3, σ.2)) = (m, J4)) (hq : ∀ (v3 v4 : Int32) IF', (J4 2 1 = 0 → v3 = s ∧ pCok f t s (J3, σ.2) = true ∧ J3 2 1 = 0) → (J4 2 1 = 0 → v4 = m) → tRf T n (ySe T n J4) IF' → tF IF IF' → Q (.inl none) (zM o ot it IF' (va_up A 34 (lf (va_up (va_up (va_up (va_up (va_up L (60 + 4 * c + 0) v1.toBitVec.toNat) (60 + 4 * c + 1) v2.toBitVec.toNat) (60 + 4 * c + 2) v3.toBitVec.toNat) (60 + 4 * c + 3) v4.toBitVec.toNat) 2 (c + 1)))) AL AD)) : zW ε false (d + 5) 154 97 [(0, .ref 32), (1, .int (nI (60 + 4 * c))), (2, .int v1), (3, .int v2)] [.ref 32] (zM o ot it IF (va_up A 34 (lf L)) AL AD) 0 0 Q := by
  have hz4 : J4 2 1 = 0 → pCs f t s (J3, σ.2) 2 1 = 0 := fun z => (yNu_iff.mp (yN_ok (T := T) (n := n) (lo := 0) (hi := 30) (I := pCs f t s (J3, σ.2)) (by rw [e4]; exact z)).1).1
  have hcs : pCs f t s (J3, σ.2) 2 1 = 0 → pCok f t s (J3, σ.2) = true ∧ J3 2 1 = 0 := fun z => by
    unfold pCs at z
    cases e : pCok f t s (J3, σ.2)
    · rw [e] at z; exact absurd z (yF_1 (by decide))
    · rw [e] at z; exact ⟨rfl, z⟩
  have go : (∀ I', tRf T n J3 I' → tRf T n (pCs f t s (J3, σ.2)) I') → zW ε false (d + 5) 154 214 [(0, .ref 32), (1, .int (nI (60 + 4 * c))), (2, .int v1), (3, .int v2)] [] (zM o ot it IF (va_up A 34 (lf L)) AL AD) 0 0 Q := fun hcv => cl_k214 hn5 hT hT8 hc hN hR e3 (fun z => by rw [(hD z).2.2.1 0, (hD z).1.2.1.1]) hcv (fun z => (hcs z).2) e4 (fun v3 v4 I' h3 h4 r f => hq v3 v4 I' (fun z => ⟨h3 (hz4 z), hcs (hz4 z)⟩) h4 r f)
  have hsame : J3 2 1 = 0 ∧ pCok f t s (J3, σ.2) = true ∨ ¬ J3 2 1 = 0 → ∀ I', tRf T n J3 I' → tRf T n (pCs f t s (J3, σ.2)) I' := fun h I' r => by
    have e : pCs f t s (J3, σ.2) = J3 := by
      unfold pCs
      rcases h with h | h
      · rw [h.2]; rfl
      · cases pCok f t s (J3, σ.2)
        · exact yF_f h
        · rfl
    rw [e]; exact r
  refine zrun 1 ⟨⟨Nat.le_of_ble_eq_true rfl, Nat.le_of_ble_eq_true rfl, rfl⟩, ?_⟩
  refine c_isWrong (fun u hu => ⟨rfl, ?_⟩)
  refine zrun 1 (zb_t rfl (fun g1 => ?_) (fun g1 => ?_))
  · exact zpc 214 (by decide) (go (hsame (Or.inr (fun z => absurd ((hR.2.1).trans ((yNu_iff.mp (yN_ok (T := T) (n := n) (I := K) (lo := 0) (hi := K 4 0 - 1) (by rw [e3]; exact z)).1).1)) (hu.mp g1)))))
  · have h0 : K 2 1 = 0 := by
      by_cases z : IF 32 17 = 0
      · rw [← hR.2.1]; exact z
      · rw [hu.mpr z] at g1; exact Bool.noConfusion g1
    have h3 := hR.2.2.2.2 h0
    obtain ⟨hd, hS2, hK4, hv1, hv2, a, b, ha, hb, hfa, htb⟩ := hD h0
    have hB := hd.1.2.1
    refine zrun 4 ⟨fun g2 => ?_, fun g2 => ?_⟩
    · exact zpc 214 (by decide) (go (hsame (Or.inr (fun z => g2 (h3.1.trans (yNu_iff.mp (yN_ok (T := T) (n := n) (I := K) (lo := 0) (hi := K 4 0 - 1) (by rw [e3]; exact z)).1).2)))))
    · have hN4 : IF 32 16 = yV T n K := h3.2.2.2 (by rw [← h3.1]; exact g2)
      have hNu : yNu K = true := yNu_iff.mpr ⟨h0, by rw [← h3.1]; exact g2⟩
      have hK0 : K 4 0 - 1 = nI (L 0) - nI 1 := by rw [hK4 0, hd.2.1.1]; rfl
      refine zrun 6 ?_
      refine zW_ildv (n := 0) rfl rfl rfl (by decide) (by decide) rfl ?_
      refine zrun 3 ⟨⟨Nat.le_of_ble_eq_true rfl, Nat.le_of_ble_eq_true rfl, rfl⟩, ?_⟩
      refine c_isIn (fun w hw => ⟨rfl, ?_⟩)
      have hw' : w = true ↔ ¬ IF 32 16 < 0 ∧ ¬ (nI (L 0) - nI 1) < IF 32 16 := hw
      rw [hN4, zIn_sub (by omega) (by decide)] at hw'
      refine zrun 1 (zb_f rfl (fun g3 => ?_) (fun g3 => ?_))
      · refine zpc 214 (by decide) (go (hsame (Or.inr (fun z => ?_))))
        have ok := yN_ok (T := T) (n := n) (I := K) (lo := 0) (hi := K 4 0 - 1) (by rw [e3]; exact z)
        obtain ⟨j, _, hj2, hj⟩ := rngP (a := 0) (S := L 0) (by decide) (by omega) ok.2.1 (by have q := ok.2.2.1; rw [hK4 0, hd.2.1.1] at q; exact q)
        rw [hw'.mpr ⟨j, by omega, hj⟩] at g3
        exact Bool.noConfusion g3
      · obtain ⟨j, hj1, hj⟩ := hw'.mp g3
        have hjS : j < L 0 := by omega
        have hjr : ¬ (yV T n K < 0 ∨ ¬ yV T n K ≤ K 4 0 - 1) := by
          rw [hj, hK0, pk_sub (by omega)]
          exact fun z => z.elim (nI_pos (by omega)) (fun z2 => z2 (nI_le (by omega) (by omega)))
        have eN := yN_t (T := T) (n := n) hNu hjr
        rw [e3] at eN
        have es : s = nI j := (Prod.mk.inj eN).1.trans hj
        have eJ : J3 = yT T n K := (Prod.mk.inj eN).2
        have hJ4 : ∀ i, J3 4 i = σ.1 4 i := fun i => by rw [eJ]; exact (yT_4 (by omega)).trans (hK4 i)
        have hok := pCok_iff (J := J3) hd hJ4 ha hb hjS
        rw [← hfa, ← htb, ← es] at hok
        have yes : L (5 + j) = 1 ∧ gA L a j = true ∧ gD L b j = true → zW ε false (d + 5) 154 214 [(0, .ref 32), (1, .int (nI (60 + 4 * c))), (2, .int v1), (3, .int v2)] [] (zM o ot it IF (va_up A 34 (lf L)) AL AD) 0 0 Q := fun h => go (hsame (Or.inl ⟨by rw [eJ]; exact (yT_4 (by omega)).trans h0, hok.mpr h⟩))
        have no : ¬ (L (5 + j) = 1 ∧ gA L a j = true ∧ gD L b j = true) → zW ε false (d + 5) 154 209 [(0, .ref 32), (1, .int (nI (60 + 4 * c))), (2, .int v1), (3, .int v2)] [] (zM o ot it IF (va_up A 34 (lf L)) AL AD) 0 0 Q := fun h => by
          have hf : pCok f t s (J3, σ.2) = false := by
            cases e : pCok f t s (J3, σ.2)
            · rfl
            · exact absurd (hok.mp e) h
          have hE : ¬ (yF (K 2 5) 4 K) 2 1 = 0 := yF_1 (by decide)
          have hy0 : yT T n K 2 1 = 0 := (yT_4 (by omega)).trans h0
          have ek : pCs f t s (J3, σ.2) = yF (yT T n K 2 7) 4 (yT T n K) := by
            unfold pCs
            rw [hf, eJ]
            rfl
          have k1 : pCs f t s (J3, σ.2) 2 1 = yF (K 2 5) 4 K 2 1 := by rw [ek, yF_t hy0, yF_t h0]; rfl
          have k2 : pCs f t s (J3, σ.2) 2 2 = yF (K 2 5) 4 K 2 2 := by rw [ek, yF_t hy0, yF_t h0]; rfl
          have kO : yOk n (pCs f t s (J3, σ.2)) := by rw [ek]; exact yOk_F (yOk_T hn5 hR.2.2.2.1).1
          refine zrun 3 ⟨⟨Nat.le_of_ble_eq_true rfl, Nat.le_of_ble_eq_true rfl, rfl⟩, ?_⟩
          refine c_mfails (d := d + 3) hR (by decide) (fun I1 r1 f1 => ⟨rfl, ?_⟩)
          refine zpc 214 (by decide) (cl_k214 (F3 := yF (K 2 5) 4 K) (x3 := 0) (hi' := 0) (K3 := pCs f t s (J3, σ.2)) hn5 hT hT8 hc hN r1 (yN_e hE) (fun z => absurd z hE) (fun I' r => tR_e r hE k1 k2 kO) (fun z => absurd (k1.symm.trans z) hE) e4 (fun v3 v4 I' h3 h4 r f => hq v3 v4 I' (fun z => absurd (k1.symm.trans (hz4 z)) hE) h4 r (tF_t f1 f)))
        have bt : ∀ t w, t < L 1 → w < 5 → tr L t w < 2 ^ 31 := fun t w q q2 => Nat.lt_trans (hd.1.1 (20 + 5 * t + w) (by omega)) (by decide)
        have hnj : (zM o ot it IF (va_up A 34 (lf L)) AL AD).2.2.1 32 16 = nI j := hN4.trans hj
        have eva : v1 = nI a := hv1.trans hfa
        have evb : v2 = nI b := hv2.trans htb
        have hkd : L (5 + j) < 2 ^ 31 := Nat.lt_trans (hd.1.1 (5 + j) (by omega)) (by decide)
        refine zrun 6 ?_
        refine zW_ildv (n := 5 + j) rfl rfl (show (5 : Int32) + IF 32 16 = _ by rw [hN4, hj, show (5 : Int32) = nI 5 from rfl, nI_add]) (by omega) (by decide) rfl ?_
        refine zrun 2 (zb_ne (b := 1) rfl rfl hkd (by decide) (fun q1 => ?_) (fun q1 => ?_))
        · refine zrun 3 (zloc [(0, _), (1, _), (2, _), (3, _), (4, _)] rfl ?_)
          refine zrun 1 (zb_t (b := false) rfl (fun q => Bool.noConfusion q) (fun _ => ?_))
          exact zfg [0, 1, 2, 3] (zloc [(0, _), (1, _), (2, _), (3, _)] rfl (no (fun z => q1 z.1)))
        · refine zrun 6 ⟨⟨Nat.le_of_ble_eq_true rfl, Nat.le_of_ble_eq_true rfl, rfl⟩, ?_⟩
          refine c_toldOf (L := L) (t := a) (w := 0) rfl eva rfl (by omega) ⟨rfl, ?_⟩
          refine zrun 1 (zb_le hnj rfl (by omega) (bt a 0 ha (by omega)) (fun q2 => ?_) (fun q2 => ?_))
          · refine zrun 3 (zloc [(0, _), (1, _), (2, _), (3, _), (4, _)] rfl ?_)
            refine zrun 1 (zb_t (b := false) rfl (fun q => Bool.noConfusion q) (fun _ => ?_))
            exact zfg [0, 1, 2, 3] (zloc [(0, _), (1, _), (2, _), (3, _)] rfl (no (fun z => by have := gA_iff.mp z.2.1; omega)))
          · refine zrun 6 ⟨⟨Nat.le_of_ble_eq_true rfl, Nat.le_of_ble_eq_true rfl, rfl⟩, ?_⟩
            refine c_toldOf (L := L) (t := a) (w := 1) rfl eva rfl (by omega) ⟨rfl, ?_⟩
            refine zrun 1 (zb_gt hnj rfl (by omega) (bt a 1 ha (by omega)) (fun q3 => ?_) (fun q3 => ?_))
            · refine zrun 3 (zloc [(0, _), (1, _), (2, _), (3, _), (4, _)] rfl ?_)
              refine zrun 1 (zb_t (b := false) rfl (fun q => Bool.noConfusion q) (fun _ => ?_))
              exact zfg [0, 1, 2, 3] (zloc [(0, _), (1, _), (2, _), (3, _)] rfl (no (fun z => by have := gA_iff.mp z.2.1; omega)))
            · refine zrun 6 ⟨⟨Nat.le_of_ble_eq_true rfl, Nat.le_of_ble_eq_true rfl, rfl⟩, ?_⟩
              refine c_toldOf (L := L) (t := b) (w := 0) rfl evb rfl (by omega) ⟨rfl, ?_⟩
              refine zrun 1 (zb_lt hnj rfl (by omega) (bt b 0 hb (by omega)) (fun q4 => ?_) (fun q4 => ?_))
              · refine zrun 3 (zloc [(0, _), (1, _), (2, _), (3, _), (4, _)] rfl ?_)
                refine zrun 1 (zb_t (b := false) rfl (fun q => Bool.noConfusion q) (fun _ => ?_))
                exact zfg [0, 1, 2, 3] (zloc [(0, _), (1, _), (2, _), (3, _)] rfl (no (fun z => by have := gD_iff.mp z.2.2; omega)))
              · refine zrun 6 ⟨⟨Nat.le_of_ble_eq_true rfl, Nat.le_of_ble_eq_true rfl, rfl⟩, ?_⟩
                refine c_toldOf (L := L) (t := b) (w := 1) rfl evb rfl (by omega) ⟨rfl, ?_⟩
                refine zrun 1 (zb_ge hnj rfl (by omega) (bt b 1 hb (by omega)) (fun q5 => ?_) (fun q5 => ?_))
                · refine zrun 3 (zloc [(0, _), (1, _), (2, _), (3, _), (4, _)] rfl ?_)
                  refine zrun 1 (zb_t (b := false) rfl (fun q => Bool.noConfusion q) (fun _ => ?_))
                  exact zfg [0, 1, 2, 3] (zloc [(0, _), (1, _), (2, _), (3, _)] rfl (no (fun z => by have := gD_iff.mp z.2.2; omega)))
                · refine zrun 4 (zloc [(0, _), (1, _), (2, _), (3, _), (4, _)] rfl ?_)
                  refine zrun 1 (zb_t (b := true) rfl (fun _ => ?_) (fun q => Bool.noConfusion q))
                  exact zfg [0, 1, 2, 3] (zloc [(0, _), (1, _), (2, _), (3, _)] rfl (yes ⟨q1, gA_iff.mpr (by omega), gD_iff.mpr (by omega)⟩))
theorem c_oneLink (hn5 : n ≤ 500) (hT : ∀ p, p < n → A 41 p = nI (T p)) (hT8 : ∀ p, p < n → T p < 2 ^ 31) {c : Nat} (hc : c < 8) (hR : tRf T n σ.1 IF) (h0 : σ.1 2 1 = 0) (hD : lkP c σ L) (hq : ∀ IF' L', tRf T n (pCn T n c σ).1 IF' → lkP (c + 1) (pCn T n c σ) L' → tF IF IF' → Q (.inl none) (zM o ot it IF' (va_up A 34 (lf L')) AL AD)) : zW ε false (d + 5) 154 0 [(0, .ref 32)] [] (zM o ot it IF (va_up A 34 (lf L)) AL AD) 0 0 Q := by
  have hd := hD h0
  have hN : L 2 = c := hd.2.2
  have hB := hd.1.1.2.1
  have e4j : ∀ j, yT T n σ.1 4 j = σ.1 4 j := fun j => yT_4 (by omega)
  obtain ⟨f, J1, e1⟩ : ∃ x J, yN T n 0 (yT T n σ.1 4 1 - 1) (yT T n σ.1) = (x, J) := ⟨_, _, rfl⟩
  obtain ⟨t, J2, e2⟩ : ∃ x J, yN T n 0 (J1 4 1 - 1) J1 = (x, J) := ⟨_, _, rfl⟩
  obtain ⟨s, J3, e3⟩ : ∃ x J, yN T n 0 (pCeq f t J2 4 0 - 1) (pCeq f t J2) = (x, J) := ⟨_, _, rfl⟩
  obtain ⟨m, J4, e4⟩ : ∃ x J, yN T n 0 30 (pCs f t s (J3, σ.2)) = (x, J) := ⟨_, _, rfl⟩
  rw [pCn_eq (c := c) e1 e2 e3 e4] at hq
  have h4 : ∀ (lo hi x : Int32) (I J : Nat → Nat → Int32) (j : Nat), yN T n lo hi I = (x, J) → J 4 j = I 4 j := fun lo hi x I J j e => by
    have q := yN_4 (T := T) (n := n) (lo := lo) (hi := hi) (I := I) (j := j)
    rw [e] at q
    exact q
  have hK4 : ∀ j, pCeq f t J2 4 j = σ.1 4 j := fun j => by
    have q : pCeq f t J2 4 j = J2 4 j := by
      unfold pCeq
      split
      · exact yF_ne (by omega)
      · rfl
    rw [q, h4 _ _ _ _ _ j e2, h4 _ _ _ _ _ j e1, e4j]
  have h41 : J1 4 1 = nI (L 1) := (h4 _ _ _ _ _ 1 e1).trans ((e4j 1).trans hd.1.2.1.2.1)
  have hr : ∀ {I : Nat → Nat → Int32} {x : Int32} {J : Nat → Nat → Int32} {h' : Int32}, h' = nI (L 1) → yN T n 0 (h' - 1) I = (x, J) → J 2 1 = 0 → ∃ a, a < L 1 ∧ x = nI a := fun {I x J h'} e5 e z => by
    have ok := yN_ok (T := T) (n := n) (lo := 0) (hi := h' - 1) (I := I) (by rw [e]; exact z)
    obtain ⟨j, _, hj2, hj⟩ := rngP (a := 0) (S := L 1) (by decide) (by omega) ok.2.1 (by rw [← e5]; exact ok.2.2.1)
    rw [e] at ok
    exact ⟨j, hj2, (Prod.mk.inj ok.2.2.2).1.trans hj⟩
  have hceq : ∀ {z : pCeq f t J2 2 1 = 0}, pCeq f t J2 = J2 ∧ J2 2 1 = 0 := fun {z} => by
    unfold pCeq at z ⊢
    split
    · next e => rw [if_pos e] at z; exact absurd z (yF_1 (by decide))
    · next e => rw [if_neg e] at z; exact ⟨rfl, z⟩
  have fin : ∀ (v1 v2 : Int32) (I2 : Nat → Nat → Int32), tRf T n (pCeq f t J2) I2 → (pCeq f t J2 2 1 = 0 → v1 = f ∧ v2 = t) → tF IF I2 → zW ε false (d + 5) 154 97 [(0, .ref 32), (1, .int (nI (60 + 4 * c))), (2, .int v1), (3, .int v2)] [.ref 32] (zM o ot it I2 (va_up A 34 (lf L)) AL AD) 0 0 Q := by
    intro v1 v2 I2 r2 hv f2
    have hJ : pCeq f t J2 2 1 = 0 → J2 2 1 = 0 ∧ J1 2 1 = 0 := fun z => by
      have q := (hceq (z := z)).2
      exact ⟨q, (yNu_iff.mp (yN_ok (T := T) (n := n) (lo := 0) (hi := J1 4 1 - 1) (I := J1) (by rw [e2]; exact q)).1).1⟩
    refine cl_k97 hn5 hT hT8 hc hN r2 (fun z => ?_) e3 e4 (fun v3 v4 I3 h3 h4' r3 f3 => ?_)
    · obtain ⟨a, ha, hfa⟩ := hr ((e4j 1).trans hd.1.2.1.2.1) e1 (hJ z).2
      obtain ⟨b, hb, htb⟩ := hr h41 e2 (hJ z).1
      exact ⟨hd.1, hd.2.1, hK4, (hv z).1, (hv z).2, a, b, ha, hb, hfa, htb⟩
    · refine hq I3 _ r3 (fun z => ?_) (tF_t f2 f3)
      have z4 : J4 2 1 = 0 := (ySe_ok (I := J4) z).1
      obtain ⟨hv3, hok, z3⟩ := h3 z4
      have hv4 := h4' z4
      have k3 := yN_ok (T := T) (n := n) (lo := 0) (hi := pCeq f t J2 4 0 - 1) (I := pCeq f t J2) (by rw [e3]; exact z3)
      have zK := (yNu_iff.mp k3.1).1
      have k4 := yN_ok (T := T) (n := n) (lo := 0) (hi := 30) (I := pCs f t s (J3, σ.2)) (by rw [e4]; exact z4)
      rw [e3] at k3
      rw [e4] at k4
      obtain ⟨a, ha, hfa⟩ := hr ((e4j 1).trans hd.1.2.1.2.1) e1 (hJ zK).2
      obtain ⟨b, hb, htb⟩ := hr h41 e2 (hJ zK).1
      obtain ⟨j, _, hj2, hj⟩ := rngP (a := 0) (S := L 0) (by decide) (by omega) k3.2.1 (by have q := k3.2.2.1; rw [hK4 0, hd.1.2.1.1] at q; exact q)
      obtain ⟨w, _, hw2, hw⟩ := rngN (a := 0) (b := 30) (by decide) (by decide) k4.2.1 k4.2.2.1
      have es : s = nI j := (Prod.mk.inj k3.2.2.2).1.trans hj
      have em : m = nI w := (Prod.mk.inj k4.2.2.2).1.trans hw
      have hJ34 : ∀ i, J3 4 i = σ.1 4 i := fun i => (h4 _ _ _ _ _ i e3).trans (hK4 i)
      have hok2 := pCok_iff (J := J3) hd.1 hJ34 ha hb hj2
      rw [← hfa, ← htb, ← es] at hok2
      have hv := hv zK
      have y1 : v1.toBitVec.toNat = a := by rw [hv.1, hfa, pk_tn (by omega)]
      have y2 : v2.toBitVec.toNat = b := by rw [hv.2, htb, pk_tn (by omega)]
      have y3 : v3.toBitVec.toNat = j := by rw [hv3, es, pk_tn (by omega)]
      have y4 : v4.toBitVec.toNat = w := by rw [hv4, em, pk_tn (by omega)]
      have hk := rLk_k (B := σ.2) (x1 := f) (x2 := t) (x3 := s) (x4 := m) hc
      have ok3 := hok2.mp hok
      rw [y1, y2, y3, y4]
      rw [hfa, htb, es, em] at hk ⊢
      refine ⟨pD_lk (σ := σ) hd.1 hN hc ⟨ha, hb, hj2, ok3.1, ok3.2.1, ok3.2.2, hw2⟩ (fun i hi => ?_) ?_ hk.1.1 hk.1.2 hk.2.1 hk.2.2, ?_, vu_s⟩
      · have hcs4 : ∀ i, pCs f t s (J3, σ.2) 4 i = J3 4 i := fun i => by
          unfold pCs
          cases pCok f t s (J3, σ.2)
          · exact yF_ne (by omega)
          · rfl
        show upd (ySe T n J4 4) 2 (nI c + 1) i = _
        rw [upd_n hi, ySe_4, h4 _ _ _ _ _ i e4, hcs4, hJ34]
      · show upd (ySe T n J4 4) 2 (nI c + 1) 2 = _
        rw [upd_s, nI_1]
      · show 2 ≤ va_up (stK L c a b j w) 2 (c + 1) 0
        rw [vu_n (by omega), stK_n (by omega)]; exact hd.2.1
  have k82 : ∀ (v1 : Int32) (E F2 I1 : Nat → Nat → Int32) (x2 hi' : Int32), tRf T n E I1 → yN T n 0 hi' E = (x2, F2) → (E 2 1 = 0 → nI (L 1) - 1 = hi') → (∀ I', tRf T n F2 I' → tRf T n (pCeq f t J2) I') → (pCeq f t J2 2 1 = 0 → F2 2 1 = 0 ∧ x2 = t ∧ v1 = f) → tF IF I1 → zW ε false (d + 5) 154 82 [(0, .ref 32), (1, .int (nI (60 + 4 * c))), (2, .int v1)] [] (zM o ot it I1 (va_up A 34 (lf L)) AL AD) 0 0 Q := by
    intro v1 E F2 I1 x2 hi' r1 eE hh hcv hz f1
    refine zrun 5 ?_
    refine zW_ildv (n := 1) rfl rfl rfl (by decide) (by decide) rfl ?_
    refine zrun 3 ⟨⟨Nat.le_of_ble_eq_true rfl, Nat.le_of_ble_eq_true rfl, rfl⟩, ?_⟩
    refine c_figX (d := d + 1) (A := va_up A 34 (lf L)) hn5 hT hT8 r1 eE (fun z => ⟨rfl, hh z⟩) (fun v2 I2 r2 u2 f2 => ⟨rfl, ?_⟩)
    exact zrun 2 (zloc [(0, _), (1, _), (2, _), (3, _)] rfl (fin v1 v2 I2 (hcv I2 r2) (fun z => ⟨(hz z).2.2, (u2 (hz z).1).trans (hz z).2.1⟩) (tF_t f1 f2)))
  have nofail : ∀ (v1 : Int32) (I1 : Nat → Nat → Int32), tRf T n J1 I1 → (J1 2 1 = 0 → v1 = f) → tF IF I1 → (J2 2 1 = 0 → ¬ f = t) → zW ε false (d + 5) 154 82 [(0, .ref 32), (1, .int (nI (60 + 4 * c))), (2, .int v1)] [] (zM o ot it I1 (va_up A 34 (lf L)) AL AD) 0 0 Q := by
    intro v1 I1 r1 u1 f1 hne
    have e : pCeq f t J2 = J2 := by
      unfold pCeq
      by_cases z : J2 2 1 = 0
      · rw [if_neg (hne z)]
      · split
        · exact yF_f z
        · rfl
    refine k82 v1 J1 J2 I1 t (J1 4 1 - 1) r1 e2 (fun _ => by rw [h41]) (fun I' r => by rw [e]; exact r) (fun z => ?_) f1
    rw [e] at z
    exact ⟨z, rfl, u1 (yNu_iff.mp (yN_ok (T := T) (n := n) (lo := 0) (hi := J1 4 1 - 1) (I := J1) (by rw [e2]; exact z)).1).1⟩
  refine zrun 3 ?_
  refine zW_ildv (n := 2) rfl rfl rfl (by decide) (by decide) rfl ?_
  refine zrun 2 (zb_ne (b := 8) rfl rfl (by omega) (by decide) (fun _ => ?_) (fun q => absurd q (by omega)))
  refine zrun 2 ⟨⟨Nat.le_of_ble_eq_true rfl, Nat.le_of_ble_eq_true rfl, rfl⟩, ?_⟩
  refine c_isWrong (fun u hu => ⟨rfl, ?_⟩)
  refine zrun 1 (zb_f rfl (fun _ => ?_) (fun q => absurd (hR.2.1.trans h0) (hu.mp q)))
  refine zrun 2 ⟨⟨Nat.le_of_ble_eq_true rfl, Nat.le_of_ble_eq_true rfl, rfl⟩, ?_⟩
  refine c_mtoken (d := d + 3) (A := va_up A 34 (lf L)) hn5 hT hT8 hR h0 (fun I0 r0 f0 => ⟨rfl, ?_⟩)
  refine zrun 5 ?_
  refine zW_ildv (n := 2) rfl rfl rfl (by decide) (by decide) rfl ?_
  refine zrun 3 (zloc [(0, _), (1, _)] rfl (zloc [(0, .ref 32), (1, .int (nI (60 + 4 * c)))] (show [(0, Value.ref 32), (1, Value.int ((60 : Int32) + 4 * nI (L 2)))] = _ by rw [hN, show (60 : Int32) = nI 60 from rfl, show (4 : Int32) = nI 4 from rfl, pk_mul, nI_add]) ?_))
  refine zrun 5 ?_
  refine zW_ildv (n := 1) rfl rfl rfl (by decide) (by decide) rfl ?_
  refine zrun 3 ⟨⟨Nat.le_of_ble_eq_true rfl, Nat.le_of_ble_eq_true rfl, rfl⟩, ?_⟩
  refine c_figX (d := d + 1) (A := va_up A 34 (lf L)) hn5 hT hT8 r0 e1 (fun _ => ⟨rfl, by rw [e4j, hd.1.2.1.2.1]; rfl⟩) (fun v1 I1 r1 u1 f1 => ⟨rfl, ?_⟩)
  refine zrun 2 (zloc [(0, _), (1, _), (2, _)] rfl ?_)
  refine zrun 1 ⟨⟨Nat.le_of_ble_eq_true rfl, Nat.le_of_ble_eq_true rfl, rfl⟩, ?_⟩
  refine c_isWrong (fun u2 hu2 => ⟨rfl, ?_⟩)
  refine zrun 1 (zb_t rfl (fun g1 => ?_) (fun g1 => ?_))
  · exact nofail v1 I1 r1 u1 (tF_t f0 f1) (fun z => absurd (r1.2.1.trans (yNu_iff.mp (yN_ok (T := T) (n := n) (lo := 0) (hi := J1 4 1 - 1) (I := J1) (by rw [e2]; exact z)).1).1) (hu2.mp g1))
  · have z1 : J1 2 1 = 0 := by
      by_cases z : I1 32 17 = 0
      · rw [← r1.2.1]; exact z
      · rw [hu2.mpr z] at g1; exact Bool.noConfusion g1
    have h3 := r1.2.2.2.2 z1
    refine zrun 4 ⟨(fun g2 => ?_), (fun g2 => ?_)⟩
    · exact nofail v1 I1 r1 u1 (tF_t f0 f1) (fun z => absurd (h3.1.trans (yNu_iff.mp (yN_ok (T := T) (n := n) (lo := 0) (hi := J1 4 1 - 1) (I := J1) (by rw [e2]; exact z)).1).2) g2)
    · refine zrun 4 ⟨(fun g3 => ?_), (fun g3 => ?_)⟩
      · exact nofail v1 I1 r1 u1 (tF_t f0 f1) (fun z hft => g3 (by have ok := yN_ok (T := T) (n := n) (lo := 0) (hi := J1 4 1 - 1) (I := J1) (by rw [e2]; exact z); rw [e2] at ok; exact (h3.2.2.2 (by rw [← h3.1]; exact g2)).trans ((Prod.mk.inj ok.2.2.2).1.symm.trans (hft.symm.trans (u1 z1).symm))))
      · have hnv : I1 32 16 = yV T n J1 := h3.2.2.2 (by rw [← h3.1]; exact g2)
        have hNu : yNu J1 = true := yNu_iff.mpr ⟨z1, by rw [← h3.1]; exact g2⟩
        have hvf : yV T n J1 = f := by rw [← hnv, ← u1 z1]; exact g3
        obtain ⟨a, ha, hfa⟩ := hr ((e4j 1).trans hd.1.2.1.2.1) e1 z1
        have eN := yN_t (T := T) (n := n) (I := J1) (lo := 0) (hi := J1 4 1 - 1) hNu (by rw [hvf, hfa, h41, show (1 : Int32) = nI 1 from rfl, pk_sub (by omega)]; exact fun z => z.elim (nI_pos (by omega)) (fun z2 => z2 (nI_le (by omega) (by omega))))
        rw [e2] at eN
        have et : t = f := (Prod.mk.inj eN).1.trans hvf
        have eJ : J2 = yT T n J1 := (Prod.mk.inj eN).2
        have hE : ¬ (yF (J1 2 5) 4 J1) 2 1 = 0 := yF_1 (by decide)
        have hy0 : yT T n J1 2 1 = 0 := (yT_4 (by omega)).trans z1
        have ek : pCeq f t J2 = yF (yT T n J1 2 7) 4 (yT T n J1) := by
          unfold pCeq
          rw [if_pos et.symm, eJ]
        have q1 : pCeq f t J2 2 1 = yF (J1 2 5) 4 J1 2 1 := by rw [ek, yF_t hy0, yF_t z1]; rfl
        have q2 : pCeq f t J2 2 2 = yF (J1 2 5) 4 J1 2 2 := by rw [ek, yF_t hy0, yF_t z1]; rfl
        have qO : yOk n (pCeq f t J2) := by rw [ek]; exact yOk_F (yOk_T hn5 r1.2.2.2.1).1
        refine zrun 3 ⟨⟨Nat.le_of_ble_eq_true rfl, Nat.le_of_ble_eq_true rfl, rfl⟩, ?_⟩
        refine c_mfails (d := d + 3) r1 (by decide) (fun I2 r2 f2 => ⟨rfl, ?_⟩)
        exact k82 v1 (yF (J1 2 5) 4 J1) (yF (J1 2 5) 4 J1) I2 0 0 r2 (yN_e hE) (fun z => absurd z hE) (fun I' r => tR_e r hE q1 q2 qO) (fun z => absurd (q1.symm.trans z) hE) (tF_t f0 (tF_t f1 f2))
theorem c_oneLink8 (hn5 : n ≤ 500) (hT : ∀ p, p < n → A 41 p = nI (T p)) (hT8 : ∀ p, p < n → T p < 2 ^ 31) (hR : tRf T n σ.1 IF) (h0 : σ.1 2 1 = 0) (hM : L 2 = 8) (hq : ∀ IF', tRf T n (yF (σ.1 2 5) 5 σ.1) IF' → tF IF IF' → Q (.inl none) (zM o ot it IF' (va_up A 34 (lf L)) AL AD)) : zW ε false (d + 5) 154 0 [(0, .ref 32)] [] (zM o ot it IF (va_up A 34 (lf L)) AL AD) 0 0 Q := by
  refine zrun 3 ?_
  refine zW_ildv (n := 2) rfl rfl rfl (by decide) (by decide) rfl ?_
  refine zrun 2 (zb_ne (b := 8) rfl rfl (by omega) (by decide) (fun q => absurd hM q) (fun _ => ?_))
  refine zrun 3 ⟨⟨Nat.le_of_ble_eq_true rfl, Nat.le_of_ble_eq_true rfl, rfl⟩, ?_⟩
  refine c_mfails (d := d + 3) hR (by decide) (fun I1 r1 f1 => ⟨rfl, ?_⟩)
  refine zrun 2 ⟨⟨Nat.le_of_ble_eq_true rfl, Nat.le_of_ble_eq_true rfl, rfl⟩, ?_⟩
  refine c_isWrong (fun u hu => ⟨rfl, ?_⟩)
  refine zrun 1 (zb_f rfl (fun q => by rw [hu.mpr (by rw [r1.2.1]; exact yF_1 (by decide))] at q; exact Bool.noConfusion q) (fun _ => ?_))
  exact zrun 1 (hq I1 r1 f1)
end
