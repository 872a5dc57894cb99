/-! the reference: the line's stations -/
theorem tR_e {T : Nat → Nat} {n : Nat} {I J IF : Nat → Nat → Int32} (h : tRf T n I IF) (he : ¬ I 2 1 = 0) (h1 : J 2 1 = I 2 1) (h2 : J 2 2 = I 2 2) (hO : yOk n J) : tRf T n J IF := ⟨h.1, h.2.1.trans h1.symm, h.2.2.1.trans h2.symm, hO, fun z => absurd (h1.symm.trans z) he⟩
theorem rngN {v : Int32} {a b : Nat} (ha : a < 2 ^ 31) (hb : b < 2 ^ 31) (h1 : ¬ v < nI a) (h2 : v ≤ nI b) : ∃ j, a ≤ j ∧ j ≤ b ∧ v = nI j := by
  rw [Int32.lt_iff_toInt_lt, nI_toInt ha] at h1
  rw [Int32.le_iff_toInt_le, nI_toInt hb] at h2
  obtain ⟨j, hj, rfl⟩ := nI_of (x := v) (by rw [Int32.lt_iff_toInt_lt]; show ¬ v.toInt < 0; omega)
  rw [nI_toInt hj] at h1 h2
  exact ⟨j, by omega, by omega, rfl⟩
theorem rngP {v : Int32} {a S : Nat} (ha : a < 2 ^ 31) (hS : S < 2 ^ 30) (h1 : ¬ v < nI a) (h2 : v ≤ nI S - 1) : ∃ j, a ≤ j ∧ j < S ∧ v = nI j := by
  rw [Int32.lt_iff_toInt_lt, nI_toInt ha] at h1
  rw [Int32.le_iff_toInt_le, show (1 : Int32) = nI 1 from rfl, pk_sub_toInt hS (by decide)] at h2
  obtain ⟨j, hj, rfl⟩ := nI_of (x := v) (by rw [Int32.lt_iff_toInt_lt]; show ¬ v.toInt < 0; omega)
  rw [nI_toInt hj] at h1 h2
  exact ⟨j, by omega, by omega, rfl⟩
section
variable {T : Nat → Nat} {n : Nat} {I : Nat → Nat → Int32} {σ : zP} {L : Nat → Nat}
theorem pK_e (h : ¬ I 2 1 = 0) (j : Nat) : pK T n I 2 j = I 2 j := by
  have e := pK_f (T := T) (n := n) (σ := (I, I)) (yIs_w h) (yIs_w h)
  rw [show pK T n I = _ from e]
  show yF (I 2 5) 1 I 2 j = I 2 j
  rw [yF_f h]
theorem pK_z (h : pK T n I 2 1 = 0) : I 2 1 = 0 := by
  by_cases e : I 2 1 = 0
  · exact e
  · rw [pK_e e] at h; exact absurd h e
theorem yN_e {lo hi : Int32} (h : ¬ I 2 1 = 0) : yN T n lo hi I = (0, I) := by rw [yN_w (fun q => h (yNu_iff.mp q).1), yF_f h]
theorem ySe_e (h : ¬ I 2 1 = 0) : ySe T n I = I := by unfold ySe; rw [if_neg (fun q => h q.1), yF_f h]
theorem pD_len {j : Nat} {v : Int32} {s : Nat} (h : pD 0 σ L) (hs : L 0 = s + 1) (hs8 : s < 7) (hM : L 1 = 0) (hN : L 2 = 0) (hI : ∀ i, I 4 i = σ.1 4 i) (hj : 1 ≤ j ∧ j ≤ 60) (hv : v = nI j) : pD 1 (I, va_up σ.2 5 (upd (σ.2 5) (m8 (nI s)) v)) (va_up L (13 + s) j) := by
  obtain ⟨⟨w1, w2, w3, w4, w5, w6, w7⟩, ⟨f0, f1, f2, f3, f4⟩, ⟨x, hx, hx5, hxs⟩, hl, ht, hc⟩ := h
  have n0 : ∀ k, k < 13 → va_up L (13 + s) j k = L k := fun k hk => vu_n (by omega)
  refine ⟨⟨fun k hk => ?_, ?_, fun s' h' => ?_, fun s' h1 h2 => ?_, fun s' h' => ?_, fun t q => ?_, fun c q => ?_⟩, ⟨?_, ?_, ?_, ?_, ?_⟩, ?_, fun s' h' => ?_, fun t q w hw => ?_, fun c q w hw => ?_⟩
  · by_cases q : k = 13 + s
    · rw [q, vu_s]; omega
    · rw [vu_n q]; exact w1 k hk
  · rw [n0 0 (by omega), n0 1 (by omega), n0 2 (by omega), n0 3 (by omega), n0 4 (by omega)]; exact w2
  · rw [n0 (5 + s') (by omega)]; exact w3 s' h'
  · rw [n0 0 (by omega)] at h1
    rw [n0 (5 + s') (by omega)]; exact w4 s' h1 h2
  · rw [n0 0 (by omega)] at h'
    by_cases q : s' = s
    · rw [q, vu_s]; exact hj
    · rw [vu_n (by omega)]; exact w5 s' (by omega)
  · rw [n0 1 (by omega), hM] at q; exact absurd q (by omega)
  · rw [n0 2 (by omega), hN] at q; exact absurd q (by omega)
  · rw [n0 0 (by omega)]; exact (hI 0).trans f0
  · rw [n0 1 (by omega)]; exact (hI 1).trans f1
  · rw [n0 2 (by omega)]; exact (hI 2).trans f2
  · rw [n0 3 (by omega)]; exact (hI 3).trans f3
  · rw [n0 4 (by omega)]; exact (hI 4).trans f4
  · refine ⟨x, hx, (hI 5).trans hx5, fun s' h' => ?_⟩
    rw [n0 (5 + s') (by omega)]; exact hxs s' h'
  · rw [n0 0 (by omega)] at h'
    show upd (σ.2 5) (m8 (nI s)) v s' = _
    rw [m8_nI (by omega)]
    by_cases q : s' = s
    · rw [q, vu_s, upd_s, hv]
    · rw [vu_n (by omega), upd_n q]; exact hl s' (by omega)
  · rw [n0 1 (by omega), hM] at q; exact absurd q (by omega)
  · rw [n0 2 (by omega), hN] at q; exact absurd q (by omega)
end
section
variable {ε : Nat × (Nat → Int32)} {d : Nat} {Q : zQ} {o ot it : Value} {A : Nat → Nat → Int32} {AL : Nat → Nat → Int64} {AD : Nat → Nat → UInt64} {T : Nat → Nat} {n : Nat} {IF I : Nat → Nat → Int32} {σ : zP} {L : Nat → Nat}
theorem cl_l121 (hn5 : n ≤ 500) (hT : ∀ p, p < n → A 41 p = nI (T p)) (hT8 : ∀ p, p < n → T p < 2 ^ 31) {g : Int32} (hR : tRf T n I IF) (hq : ∀ IF', tRf T n (ySe T n I) IF' → tF IF IF' → Q (.inl none) (zM o ot it IF' (va_up A 34 (lf L)) AL AD)) : zW ε false (d + 7) 150 121 [(0, .ref 32), (1, .int g)] [] (zM o ot it IF (va_up A 34 (lf L)) AL AD) 0 0 Q := by
  refine zrun 2 ⟨⟨Nat.le_of_ble_eq_true rfl, Nat.le_of_ble_eq_true rfl, rfl⟩, ?_⟩
  refine c_ends (d := d + 4) (A := va_up A 34 (lf L)) hn5 hT hT8 hR (fun IF' r f => ⟨rfl, ?_⟩)
  exact zrun 1 (hq IF' r f)
theorem cl_l20e (hn5 : n ≤ 500) (hT : ∀ p, p < n → A 41 p = nI (T p)) (hT8 : ∀ p, p < n → T p < 2 ^ 31) {g : Int32} {b : Bool} (hg : g = zbo b) (hR : tRf T n I IF) (he : ¬ I 2 1 = 0) (hq : ∀ IF', tRf T n I IF' → tF IF IF' → Q (.inl none) (zM o ot it IF' (va_up A 34 (lf L)) AL AD)) : zW ε false (d + 7) 150 20 [(0, .ref 32), (1, .int g)] [] (zM o ot it IF (va_up A 34 (lf L)) AL AD) 0 0 Q := by
  have k := cl_l121 (ε := ε) (d := d) (Q := Q) (o := o) (ot := ot) (it := it) (AL := AL) (AD := AD) (L := L) hn5 hT hT8 (g := g) hR (fun IF' r f => hq IF' (by rw [ySe_e he] at r; exact r) f)
  refine zrun 2 (zb_f hg (fun _ => ?_) (fun _ => ?_))
  · exact zpc 121 (by decide) k
  · refine zrun 2 ⟨⟨Nat.le_of_ble_eq_true rfl, Nat.le_of_ble_eq_true rfl, rfl⟩, ?_⟩
    refine c_isWrong (fun u hu => ⟨rfl, ?_⟩)
    refine zrun 1 (zb_t rfl (fun _ => ?_) (fun q => by rw [hu.mpr (by rw [hR.2.1]; exact he)] at q; exact Bool.noConfusion q))
    exact zpc 121 (by decide) k
theorem cl_l104 {A : Nat → Nat → Int32} {g v2 : Int32} (hq : ∀ (b : Bool) (c : Int32), c = zbo b → (b = true ↔ IF 32 15 = 2) → zW ε false (d + 7) 150 20 [(0, .ref 32), (1, .int c)] [] (zM o ot it IF A AL AD) 0 0 Q) : zW ε false (d + 7) 150 104 [(0, .ref 32), (1, .int g), (2, .int v2)] [] (zM o ot it IF A AL AD) 0 0 Q := by
  refine zrun 4 ⟨(fun g9 => ?_), (fun g9 => ?_)⟩
  · exact zrun 3 (zfg [0, 1] (zloc [(0, _), (1, _)] rfl (hq false _ rfl ⟨fun q => Bool.noConfusion q, fun q => absurd q g9⟩)))
  · exact zrun 4 (zfg [0, 1] (zloc [(0, _), (1, _)] rfl (hq true _ rfl ⟨fun _ => g9, fun _ => rfl⟩)))
theorem cl_l68e (hn5 : n ≤ 500) (hT : ∀ p, p < n → A 41 p = nI (T p)) (hT8 : ∀ p, p < n → T p < 2 ^ 31) {g : Int32} (hR : tRf T n I IF) (he : ¬ I 2 1 = 0) (hq : ∀ IF' L', tRf T n I IF' → tF IF IF' → Q (.inl none) (zM o ot it IF' (va_up A 34 (lf L')) AL AD)) : zW ε false (d + 7) 150 68 [(0, .ref 32), (1, .int g)] [] (zM o ot it IF (va_up A 34 (lf L)) AL AD) 0 0 Q := by
  refine zrun 4 ⟨⟨Nat.le_of_ble_eq_true rfl, Nat.le_of_ble_eq_true rfl, rfl⟩, ?_⟩
  refine c_figure (lo := 1) (hi := 60) (d := d + 3) (A := va_up A 34 (lf L)) hn5 hT hT8 hR (fun v I1 r1 _ f1 => ⟨rfl, ?_⟩)
  rw [yN_e he] at r1
  refine zrun 2 (zloc [(0, _), (1, _), (2, _)] rfl ?_)
  refine zrun 1 ⟨⟨Nat.le_of_ble_eq_true rfl, Nat.le_of_ble_eq_true rfl, rfl⟩, ?_⟩
  refine c_isWrong (fun u hu => ⟨rfl, ?_⟩)
  refine zrun 1 (zb_t rfl (fun _ => ?_) (fun q => by rw [hu.mpr (by rw [r1.2.1]; exact he)] at q; exact Bool.noConfusion q))
  refine zrun 2 ⟨⟨Nat.le_of_ble_eq_true rfl, Nat.le_of_ble_eq_true rfl, rfl⟩, ?_⟩
  refine c_kind (σ := (I, I)) (L := L) hn5 hT hT8 r1 (fun z => absurd z he) (fun z => absurd z he) (fun I2 L2 r2 _ f2 => ⟨rfl, ?_⟩)
  exact cl_l104 (fun b c hc _ => cl_l20e (A := A) (L := L2) hn5 hT hT8 hc (tR_e (J := I) r2 (by rw [pK_e he]; exact he) (pK_e he 1).symm (pK_e he 2).symm hR.2.2.2.1) he (fun I3 r3 f3 => hq I3 L2 r3 (tF_t f1 (tF_t f2 f3))))
theorem cl_l68 (hn5 : n ≤ 500) (hT : ∀ p, p < n → A 41 p = nI (T p)) (hT8 : ∀ p, p < n → T p < 2 ^ 31) {g : Int32} {s : Nat} (hs7 : s < 7) (hR : tRf T n σ.1 IF) (hD : σ.1 2 1 = 0 → pD 0 σ L ∧ L 0 = s + 1 ∧ L 1 = 0 ∧ L 2 = 0) (hq : ∀ IF' L' (v2 : Int32), tRf T n (pSeg T n s σ).1 IF' → ((pSeg T n s σ).1 2 1 = 0 → pD 0 (pSeg T n s σ) L' ∧ L' 0 = s + 2 ∧ L' 1 = 0 ∧ L' 2 = 0) → tF IF IF' → zW ε false (d + 7) 150 104 [(0, .ref 32), (1, .int g), (2, .int v2)] [] (zM o ot it IF' (va_up A 34 (lf L')) AL AD) 0 0 Q) : zW ε false (d + 7) 150 68 [(0, .ref 32), (1, .int g)] [] (zM o ot it IF (va_up A 34 (lf L)) AL AD) 0 0 Q := by
  refine zrun 4 ⟨⟨Nat.le_of_ble_eq_true rfl, Nat.le_of_ble_eq_true rfl, rfl⟩, ?_⟩
  refine c_figure (lo := 1) (hi := 60) (d := d + 3) (A := va_up A 34 (lf L)) hn5 hT hT8 hR (fun v I1 r1 hv f1 => ⟨rfl, ?_⟩)
  refine zrun 2 (zloc [(0, _), (1, _), (2, _)] rfl ?_)
  refine zrun 1 ⟨⟨Nat.le_of_ble_eq_true rfl, Nat.le_of_ble_eq_true rfl, rfl⟩, ?_⟩
  refine c_isWrong (fun u hu => ⟨rfl, ?_⟩)
  refine zrun 1 (zb_t rfl (fun g1 => ?_) (fun g1 => ?_))
  · refine zrun 2 ⟨⟨Nat.le_of_ble_eq_true rfl, Nat.le_of_ble_eq_true rfl, rfl⟩, ?_⟩
    refine c_kind (σ := ((yN T n 1 60 σ.1).2, va_up σ.2 5 (upd (σ.2 5) (m8 (nI s)) (yN T n 1 60 σ.1).1))) (L := L) hn5 hT hT8 r1 (fun z => absurd (r1.2.1.trans z) (hu.mp g1)) (fun z => absurd (r1.2.1.trans z) (hu.mp g1)) (fun I2 L2 r2 _ f2 => ⟨rfl, ?_⟩)
    exact zpc 104 (by decide) (hq I2 L2 _ r2 (fun z => absurd (r1.2.1.trans (pK_z z)) (hu.mp g1)) (tF_t f1 f2))
  · have e1 : (yN T n 1 60 σ.1).2 2 1 = 0 := by
      by_cases z : I1 32 17 = 0
      · rw [← r1.2.1]; exact z
      · rw [hu.mpr z] at g1; exact Bool.noConfusion g1
    have ok := yN_ok e1
    have hd := hD (yNu_iff.mp ok.1).1
    have hw := hv e1
    rw [ok.2.2.2] at hw
    obtain ⟨j, hj1, hj2, hj⟩ := rngN (a := 1) (b := 60) (by decide) (by decide) ok.2.1 ok.2.2.1
    have hB := hd.1.1.2.1
    have nj : ∀ k, k < 13 → va_up L (13 + s) j k = L k := fun k hk => vu_n (by omega)
    refine zrun 6 ?_
    refine zW_ildv (n := 0) rfl rfl rfl (by decide) (by decide) rfl ?_
    refine zrun 4 ?_
    refine zW_istq (n := 13 + s) (v := j) rfl rfl (show (13 : Int32) + nI (L 0) - 1 = _ by rw [hd.2.1, show (13 : Int32) = nI 13 from rfl, nI_add, show 13 + (s + 1) = 13 + s + 1 from rfl, nI_pred]) (by omega) (by decide) (hw.trans hj) ?_
    refine zrun 2 ⟨⟨Nat.le_of_ble_eq_true rfl, Nat.le_of_ble_eq_true rfl, rfl⟩, ?_⟩
    refine c_kind (σ := ((yN T n 1 60 σ.1).2, va_up σ.2 5 (upd (σ.2 5) (m8 (nI s)) (yN T n 1 60 σ.1).1))) (L := va_up L (13 + s) j) hn5 hT hT8 r1 (fun _ => pD_len hd.1 hd.2.1 hs7 hd.2.2.1 hd.2.2.2 (fun i => yN_4) ⟨hj1, hj2⟩ (by rw [ok.2.2.2]; exact hj)) (fun _ => ⟨by rw [nj 0 (by omega), hd.2.1]; omega, by rw [nj 1 (by omega)]; exact hd.2.2.1, by rw [nj 2 (by omega)]; exact hd.2.2.2⟩) (fun I2 L2 r2 h2 f2 => ⟨rfl, ?_⟩)
    exact zpc 104 (by decide) (hq I2 L2 _ r2 (fun z => ⟨(h2 z).1, by rw [(h2 z).2.1, nj 0 (by omega), hd.2.1], (h2 z).2.2⟩) (tF_t f1 f2))
end
