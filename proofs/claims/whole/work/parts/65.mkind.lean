/-! the draft and what the reference was told; stations -/
def trOk (L : Nat → Nat) (t : Nat) : Prop := tr L t 0 < tr L t 1 ∧ tr L t 1 < L 0 ∧ tr L t 2 ≤ 1000 ∧ 1 ≤ tr L t 3 ∧ tr L t 3 ≤ 5 ∧ tr L t 4 ≤ 20
def lkOk (L : Nat → Nat) (c : Nat) : Prop := lk L c 0 < L 1 ∧ lk L c 1 < L 1 ∧ lk L c 2 < L 0 ∧ L (5 + lk L c 2) = 1 ∧ gA L (lk L c 0) (lk L c 2) = true ∧ gD L (lk L c 1) (lk L c 2) = true ∧ lk L c 3 ≤ 30
def lW (e : Nat) (L : Nat → Nat) : Prop := lB L ∧ (L 0 ≤ 8 ∧ L 1 ≤ 8 ∧ L 2 ≤ 8 ∧ 1 ≤ L 3 ∧ L 3 ≤ 20 ∧ L 4 ≤ 60) ∧ (∀ s, s < 8 → L (5 + s) ≤ 1) ∧ (∀ s, L 0 ≤ s → s < 8 → L (5 + s) = 0) ∧ (∀ s, s + 1 < L 0 + e → 1 ≤ L (13 + s) ∧ L (13 + s) ≤ 60) ∧ (∀ t, t < L 1 → trOk L t) ∧ (∀ c, c < L 2 → lkOk L c)
def sdB (x s : Nat) : Bool := decide (¬ ((nI x >>> (nI s &&& 31)) &&& 1) = 0)
def pD (e : Nat) (σ : zP) (L : Nat → Nat) : Prop := lW e L ∧ (σ.1 4 0 = nI (L 0) ∧ σ.1 4 1 = nI (L 1) ∧ σ.1 4 2 = nI (L 2) ∧ σ.1 4 3 = nI (L 3) ∧ σ.1 4 4 = nI (L 4)) ∧ (∃ x, x < 256 ∧ σ.1 4 5 = nI x ∧ ∀ s, s < 8 → sdB x s = decide (L (5 + s) = 1)) ∧ (∀ s, s + 1 < L 0 + e → σ.2 5 s = nI (L (13 + s))) ∧ (∀ t, t < L 1 → ∀ w, w < 5 → σ.2 6 (8 * t + w) = nI (tr L t w)) ∧ (∀ c, c < L 2 → ∀ w, w < 4 → σ.2 7 (8 * c + w) = nI (lk L c w))
theorem bit_or : ∀ x, x < 256 → ∀ S, S < 8 → (nI x ||| ((1 : Int32) <<< (nI S &&& 31))) = nI (x ||| 2 ^ S) ∧ x ||| 2 ^ S < 256 := by decide +kernel
theorem bit_at : ∀ x, x < 256 → ∀ S, S < 8 → ∀ s, s < 8 → sdB (x ||| 2 ^ S) s = (sdB x s || decide (s = S)) := by decide +kernel
theorem zsg_x : zsg 27 = zsg 2 ∧ zsg 28 = zsg 1 ∧ zsg 29 = zsg 0 ∧ zsg 30 = zsg 3 ∧ zsg 31 = zsg 4 ∧ zsg 32 = zsg 5 ∧ zsg 33 = zsg 6 := by decide
theorem zsg_l : ∀ i, i ≤ 33 → (zsg i).length < 2 ^ 31 := by decide
theorem yIs_len {T : Nat → Nat} {n : Nat} {w : List Nat} {I : Nat → Nat → Int32} (h : yIs T n w I = true) : yE I - yB I = w.length := by
  unfold yIs tis at h
  simp only [Bool.and_eq_true, decide_eq_true_eq] at h
  exact h.2.1
theorem yIs_x {T : Nat → Nat} {n : Nat} {w v : List Nat} {I : Nat → Nat → Int32} (h : yIs T n w I = true) (hl : ¬ w.length = v.length) : yIs T n v I = false := by
  cases e : yIs T n v I
  · rfl
  · exact absurd ((yIs_len h).symm.trans (yIs_len e)) hl
/-- a row as a row of numbers -/
theorem zrow {o ot it : Value} {IF A : Nat → Nat → Int32} {AL : Nat → Nat → Int64} {AD : Nat → Nat → UInt64} {k : Nat} {L : Nat → Nat} (h : A k = lf L) : zM o ot it IF A AL AD = zM o ot it IF (va_up A k (lf L)) AL AD := by rw [vu_eq h]
/-- a station more -/
def adS (b : Bool) (L : Nat → Nat) : Nat → Nat := va_up (va_up L (5 + L 0) (cond b 1 0)) 0 (L 0 + 1)
theorem adS_0 {b : Bool} {L : Nat → Nat} : adS b L 0 = L 0 + 1 := vu_s
theorem adS_k {b : Bool} {L : Nat → Nat} : adS b L (5 + L 0) = cond b 1 0 := by unfold adS; rw [vu_n (by omega), vu_s]
theorem adS_n {b : Bool} {L : Nat → Nat} {k : Nat} (h : ¬ k = 0) (h2 : ¬ k = 5 + L 0) : adS b L k = L k := by unfold adS; rw [vu_n h, vu_n h2]
def adI (b : Bool) (I : Nat → Nat → Int32) : Nat → Nat → Int32 := xr1 0 (I 4 0 + 1) (cond b (xr1 5 (I 4 5 ||| ((1 : Int32) <<< (I 4 0 &&& 31))) I) I)
theorem adI_n {b : Bool} {I : Nat → Nat → Int32} {j : Nat} (h : ¬ j = 0) (h5 : ¬ j = 5) : adI b I 4 j = I 4 j := by
  unfold adI
  have e : ∀ (i : Nat) (v : Int32) (J : Nat → Nat → Int32), ¬ j = i → xr1 i v J 4 j = J 4 j := fun i v J q => by unfold xr1; rw [vu_s]; exact if_neg q
  rw [e 0 _ _ h]
  cases b
  · rfl
  · exact e 5 _ _ h5
theorem pD_kind {σ : zP} {L : Nat → Nat} {b : Bool} {I : Nat → Nat → Int32} (h : pD 1 σ L) (hS : L 0 < 8) (hM : L 1 = 0) (hN : L 2 = 0) (hI : ∀ j, I 4 j = σ.1 4 j) : pD 0 (adI b I, σ.2) (adS b L) := by
  obtain ⟨⟨w1, w2, w3, w4, w5, w6, w7⟩, ⟨f0, f1, f2, f3, f4⟩, ⟨x, hx, hx5, hxs⟩, hl, ht, hc⟩ := h
  have hb : cond b 1 0 ≤ 1 := by cases b <;> decide
  have n1 : adS b L 1 = 0 := by rw [adS_n (by omega) (by omega)]; exact hM
  have n2 : adS b L 2 = 0 := by rw [adS_n (by omega) (by omega)]; exact hN
  have n3 : adS b L 3 = L 3 := adS_n (by omega) (by omega)
  have n4 : adS b L 4 = L 4 := adS_n (by omega) (by omega)
  have nl : ∀ s, adS b L (13 + s) = L (13 + s) := fun s => adS_n (by omega) (by omega)
  have nk : ∀ s, s < 8 → adS b L (5 + s) = if s = L 0 then cond b 1 0 else L (5 + s) := fun s hs => by
    by_cases e : s = L 0
    · rw [if_pos e, e, adS_k]
    · rw [if_neg e, adS_n (by omega) (by omega)]
  refine ⟨⟨fun k hk => ?_, ?_, fun s hs => ?_, fun s h1 h2 => ?_, fun s hs => ?_, fun t q => ?_, fun c q => ?_⟩, ⟨?_, ?_, ?_, ?_, ?_⟩, ?_, fun s hs => ?_, fun t q => ?_, fun c q => ?_⟩
  · by_cases e0 : k = 0
    · rw [e0, adS_0]; omega
    · by_cases e5 : k = 5 + L 0
      · rw [e5, adS_k]; omega
      · rw [adS_n e0 e5]; exact w1 k hk
  · rw [adS_0, n1, n2, n3, n4]; omega
  · rw [nk s hs]
    split
    · exact hb
    · exact w3 s hs
  · rw [adS_0] at h1
    rw [nk s h2, if_neg (by omega)]
    exact w4 s (by omega) h2
  · rw [adS_0] at hs
    rw [nl]
    exact w5 s (by omega)
  · rw [n1] at q; exact absurd q (by omega)
  · rw [n2] at q; exact absurd q (by omega)
  · show adI b I 4 0 = _
    have e : adI b I 4 0 = I 4 0 + 1 := by unfold adI xr1; rw [vu_s]; exact if_pos rfl
    rw [e, hI, f0, nI_1, adS_0]
  · show adI b I 4 1 = _
    rw [adI_n (by omega) (by omega), hI, f1, n1, hM]
  · show adI b I 4 2 = _
    rw [adI_n (by omega) (by omega), hI, f2, n2, hN]
  · show adI b I 4 3 = _
    rw [adI_n (by omega) (by omega), hI, f3, n3]
  · show adI b I 4 4 = _
    rw [adI_n (by omega) (by omega), hI, f4, n4]
  · cases b with
    | false =>
      refine ⟨x, hx, (hI 5).trans hx5, fun s hs => ?_⟩
      rw [hxs s hs, nk s hs]
      by_cases e : s = L 0
      · rw [if_pos e, w4 s (by omega) hs]; rfl
      · rw [if_neg e]
    | true =>
      have hb := bit_or x hx (L 0) hS
      refine ⟨x ||| 2 ^ L 0, hb.2, ?_, fun s hs => ?_⟩
      · show I 4 5 ||| ((1 : Int32) <<< (I 4 0 &&& 31)) = _
        rw [hI 5, hI 0, hx5, f0]; exact hb.1
      · rw [bit_at x hx (L 0) hS s hs, hxs s hs, nk s hs]
        by_cases e : s = L 0
        · rw [if_pos e, decide_eq_true e, Bool.or_true]; rfl
        · rw [if_neg e, decide_eq_false e, Bool.or_false]
  · rw [adS_0] at hs
    rw [nl]
    exact hl s (by omega)
  · rw [n1] at q; exact absurd q (by omega)
  · rw [n2] at q; exact absurd q (by omega)
section
variable {ε : Nat × (Nat → Int32)} {d : Nat} {Q : zQ} {o ot it : Value} {A : Nat → Nat → Int32} {AL : Nat → Nat → Int64} {AD : Nat → Nat → UInt64} {T : Nat → Nat} {n : Nat} {IF : Nat → Nat → Int32} {σ : zP} {L : Nat → Nat}
theorem pK_p (h : yIs T n (zsg 2) σ.1 = true) : pK T n σ.1 = adI false (yT T n σ.1) := by
  have e := yIs_x (v := zsg 1) h (by decide)
  unfold pK pK1 adI
  rw [e, h]
  rfl
theorem pK_s (h : yIs T n (zsg 1) σ.1 = true) : pK T n σ.1 = adI true (yT T n σ.1) := by
  unfold pK pK1 adI
  rw [h]
  rfl
theorem pK_f (h : yIs T n (zsg 2) σ.1 = false) (h2 : yIs T n (zsg 1) σ.1 = false) : pK T n σ.1 = adI false (yF (σ.1 2 5) 1 σ.1) := by
  unfold pK pK1 adI
  rw [h, h2]
  rfl
theorem c_kind (hn5 : n ≤ 500) (hT : ∀ p, p < n → A 41 p = nI (T p)) (hT8 : ∀ p, p < n → T p < 2 ^ 31) (hR : tRf T n σ.1 IF) (hD : σ.1 2 1 = 0 → pD 1 σ L) (hS : σ.1 2 1 = 0 → L 0 < 8 ∧ L 1 = 0 ∧ L 2 = 0) (hq : ∀ IF' L', tRf T n (pK T n σ.1) IF' → (pK T n σ.1 2 1 = 0 → pD 0 (pK T n σ.1, σ.2) L' ∧ L' 0 = L 0 + 1 ∧ L' 1 = 0 ∧ L' 2 = 0) → tF IF IF' → Q (.inl none) (zM o ot it IF' (va_up A 34 (lf L')) AL AD)) : zW ε false (d + 6) 149 0 [(0, .ref 32)] [] (zM o ot it IF (va_up A 34 (lf L)) AL AD) 0 0 Q := by
  refine zrun 3 ⟨⟨Nat.le_of_ble_eq_true rfl, Nat.le_of_ble_eq_true rfl, rfl⟩, ?_⟩
  refine c_mtakesWord (i := 27) (A := va_up A 34 (lf L)) hn5 hT hT8 hR (by omega) (zsg_l 27 (by omega)) (fun I1 r1 f1 => ⟨rfl, ?_⟩)
  refine zrun 2 (zloc [(0, _), (1, _)] rfl ?_)
  refine zrun 1 (zb_t rfl (fun g1 => ?_) (fun g1 => ?_))
  · rw [g1] at r1 ⊢
    refine zrun 1 ?_
    try rw [g1]
    refine zrun 2 (zloc [(0, _), (1, _), (2, _)] rfl ?_)
    refine zrun 1 (zb_t (b := true) rfl (fun _ => ?_) (fun q => Bool.noConfusion q))
    have hp : yIs T n (zsg 2) σ.1 = true := by rw [← zsg_x.1]; exact g1
    have e0 : σ.1 2 1 = 0 := yIs_k hp
    have hD := hD e0
    have hB := hD.1.2.1
    refine zrun 2 ⟨⟨Nat.le_of_ble_eq_true rfl, Nat.le_of_ble_eq_true rfl, rfl⟩, ?_⟩
    refine c_isWrong (fun u hu => ⟨rfl, ?_⟩)
    refine zrun 1 (zb_f rfl (fun _ => ?_) (fun g => absurd (r1.2.1.trans ((yT_4 (by omega)).trans e0)) (hu.mp g)))
    refine zrun 6 ?_
    refine zW_ildv (n := 0) rfl rfl rfl (by decide) (by decide) rfl ?_
    refine zrun 3 (zb_f (b := false) rfl (fun _ => ?_) (fun q => Bool.noConfusion q))
    refine zrun 1 ?_
    refine zW_istq (n := 5 + L 0) (v := 0) rfl rfl (show (5 : Int32) + nI (L 0) = _ by rw [show (5 : Int32) = nI 5 from rfl, nI_add]) (by omega) (by decide) rfl ?_
    refine zrun 4 ?_
    refine zW_ildv (n := 0) rfl rfl rfl (by decide) (by decide) (show nI (va_up L (5 + L 0) 0 0) = nI (L 0) by rw [vu_n (by omega)]) ?_
    refine zrun 2 ?_
    refine zW_istq (n := 0) (v := L 0 + 1) rfl rfl rfl (by decide) (by decide) (nI_1 _) ?_
    exact zrun 1 (hq I1 (adS false L) (by rw [pK_p hp]; exact r1) (fun _ => by rw [pK_p hp]; exact ⟨pD_kind hD (hS e0).1 (hS e0).2.1 (hS e0).2.2 (fun j => yT_4 (by omega)), adS_0, by rw [adS_n (by omega) (by omega)]; exact (hS e0).2.1, by rw [adS_n (by omega) (by omega)]; exact (hS e0).2.2⟩) f1)
  · refine zrun 3 ⟨⟨Nat.le_of_ble_eq_true rfl, Nat.le_of_ble_eq_true rfl, rfl⟩, ?_⟩
    refine c_mtakesWord (i := 28) (A := va_up A 34 (lf L)) hn5 hT hT8 (by rw [g1] at r1; exact r1) (by omega) (zsg_l 28 (by omega)) (fun I2 r2 f2 => ⟨rfl, ?_⟩)
    refine zrun 1 (zb_f rfl (fun g2 => ?_) (fun g2 => ?_))
    · rw [g1]
      refine zrun 1 ?_
      try rw [g1]
      refine zrun 2 (zloc [(0, _), (1, _), (2, _)] rfl ?_)
      refine zrun 1 (zb_t (b := false) rfl (fun q => Bool.noConfusion q) (fun _ => ?_))
      refine zrun 2 (zb_t (b := false) rfl (fun q => Bool.noConfusion q) (fun _ => ?_))
      refine zrun 3 ⟨⟨Nat.le_of_ble_eq_true rfl, Nat.le_of_ble_eq_true rfl, rfl⟩, ?_⟩
      refine c_mfails (I := σ.1) (by rw [g2] at r2; exact r2) (by decide) (fun I3 r3 f3 => ⟨rfl, ?_⟩)
      have hp : yIs T n (zsg 2) σ.1 = false := by rw [← zsg_x.1]; exact g1
      have hs : yIs T n (zsg 1) σ.1 = false := by rw [← zsg_x.2.1]; exact g2
      refine zrun 2 ⟨⟨Nat.le_of_ble_eq_true rfl, Nat.le_of_ble_eq_true rfl, rfl⟩, ?_⟩
      refine c_isWrong (fun u hu => ⟨rfl, ?_⟩)
      refine zrun 1 (zb_f rfl (fun g => by rw [hu.mpr (by rw [r3.2.1]; exact yF_1 (by decide))] at g; exact Bool.noConfusion g) (fun _ => ?_))
      exact zrun 1 (hq I3 L (by rw [pK_f hp hs]; exact r3) (fun z => absurd z (by rw [pK_f hp hs]; exact yF_1 (by decide))) (tF_t f1 (tF_t f2 f3)))
    · refine zrun 2 ?_
      rw [g1]
      refine zrun 2 (zloc [(0, _), (1, _), (2, _)] rfl ?_)
      refine zrun 1 (zb_t (b := false) rfl (fun q => Bool.noConfusion q) (fun _ => ?_))
      refine zrun 2 (zb_t (b := true) rfl (fun _ => ?_) (fun q => Bool.noConfusion q))
      have hs : yIs T n (zsg 1) σ.1 = true := by rw [← zsg_x.2.1]; exact g2
      have e0 : σ.1 2 1 = 0 := yIs_k hs
      rw [g2] at r2
      have hD := hD e0
      have hB := hD.1.2.1
      refine zrun 2 ⟨⟨Nat.le_of_ble_eq_true rfl, Nat.le_of_ble_eq_true rfl, rfl⟩, ?_⟩
      refine c_isWrong (fun u hu => ⟨rfl, ?_⟩)
      refine zrun 1 (zb_f rfl (fun _ => ?_) (fun g => absurd (r2.2.1.trans ((yT_4 (by omega)).trans e0)) (hu.mp g)))
      refine zrun 6 ?_
      refine zW_ildv (n := 0) rfl rfl rfl (by decide) (by decide) rfl ?_
      refine zrun 3 (zb_f (b := true) rfl (fun q => Bool.noConfusion q) (fun _ => ?_))
      refine zrun 2 ?_
      refine zW_istq (n := 5 + L 0) (v := 1) rfl rfl (show (5 : Int32) + nI (L 0) = _ by rw [show (5 : Int32) = nI 5 from rfl, nI_add]) (by omega) (by decide) rfl ?_
      refine zrun 4 ?_
      refine zW_ildv (n := 0) rfl rfl rfl (by decide) (by decide) (show nI (va_up L (5 + L 0) 1 0) = nI (L 0) by rw [vu_n (by omega)]) ?_
      refine zrun 2 ?_
      refine zW_istq (n := 0) (v := L 0 + 1) rfl rfl rfl (by decide) (by decide) (nI_1 _) ?_
      exact zrun 1 (hq I2 (adS true L) (by rw [pK_s hs]; exact r2) (fun _ => by rw [pK_s hs]; exact ⟨pD_kind hD (hS e0).1 (hS e0).2.1 (hS e0).2.2 (fun j => yT_4 (by omega)), adS_0, by rw [adS_n (by omega) (by omega)]; exact (hS e0).2.1, by rw [adS_n (by omega) (by omega)]; exact (hS e0).2.2⟩) (tF_t f1 f2))
end
