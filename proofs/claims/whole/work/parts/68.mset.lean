/-! the reference: settings -/
section
variable {T : Nat → Nat} {n : Nat} {I J IF : Nat → Nat → Int32} {σ : zP} {L : Nat → Nat}
theorem tR_2 (h : tRf T n I IF) (e : J 2 = I 2) : tRf T n J IF := by
  unfold tRf yOk yV yB yE at *
  rw [e]
  exact h
theorem yT_2 (e : J 2 = I 2) : yT T n J 2 = yT T n I 2 := by
  have eE : yE J = yE I := by unfold yE; rw [e]
  show upd (upd (upd (upd (J 2) 4 (tkk T n (tkb T n (yE J)))) 5 (nI (tkb T n (yE J)))) 6 (nI (tke T n (tkb T n (yE J))))) 7 (J 2 5) = upd (upd (upd (upd (I 2) 4 (tkk T n (tkb T n (yE I)))) 5 (nI (tkb T n (yE I)))) 6 (nI (tke T n (tkb T n (yE I))))) 7 (I 2 5)
  rw [eE, e]
theorem yF_2 {pos code : Int32} (e : J 2 = I 2) : yF pos code J 2 = yF pos code I 2 := by
  by_cases h : I 2 1 = 0
  · rw [yF_t h, yF_t (by rw [e]; exact h)]
    show upd (upd (J 2) 1 code) 2 pos = upd (upd (I 2) 1 code) 2 pos
    rw [e]
  · rw [yF_f h, yF_f (by rw [e]; exact h), e]
theorem ySe_2 (e : J 2 = I 2) : ySe T n J 2 = ySe T n I 2 := by
  unfold ySe
  rw [e]
  split
  · exact yT_2 e
  · exact yF_2 e
def hd2 (hh hw : Bool) : Int32 := cond hh (cond hw 3 1) (cond hw 2 0)
theorem hd2_1 {hh hw : Bool} : (hd2 hh hw &&& 1 = 0) ↔ hh = false := by cases hh <;> cases hw <;> decide
theorem hd2_2 {hh hw : Bool} : (hd2 hh hw &&& 2 = 0) ↔ hw = false := by cases hh <;> cases hw <;> decide
theorem hd2_o1 {hh hw : Bool} : hd2 hh hw ||| 1 = hd2 true hw := by cases hh <;> cases hw <;> decide
theorem hd2_o2 {hh hw : Bool} : hd2 hh hw ||| 2 = hd2 hh true := by cases hh <;> cases hw <;> decide
theorem pSt_n {k : Nat} {hh hw : Bool} (h3 : yIs T n (zsg 3) I = false) (h4 : yIs T n (zsg 4) I = false) : pSt T n k hh hw I = I := by
  induction k generalizing hh hw with
  | zero => rfl
  | succ k ih =>
    unfold pSt
    rw [h3, h4]
    exact ih
theorem pSt_3 {k : Nat} {hh hw : Bool} (h3 : yIs T n (zsg 3) I = true) : pSt T n (k + 1) hh hw I = pSt T n k true hw (pSt1 T n 3 3 1 20 hh I) := by
  show cond (yIs T n (zsg 3) I) _ _ = _
  rw [h3]
  rfl
theorem pSt_4 {k : Nat} {hh hw : Bool} (h3 : yIs T n (zsg 3) I = false) (h4 : yIs T n (zsg 4) I = true) : pSt T n (k + 1) hh hw I = pSt T n k hh true (pSt1 T n 4 4 0 60 hw I) := by
  show cond (yIs T n (zsg 3) I) _ (cond (yIs T n (zsg 4) I) _ _) = _
  rw [h3, h4]
  rfl
/-- a setting told twice -/
theorem pSt1_r {i j : Nat} {lo hi : Int32} (h : I 2 1 = 0) : pSt1 T n i j lo hi true I = xr1 j 0 (yF (I 2 5) 3 I) := by
  have he : ¬ (yF (I 2 5) 3 I) 2 1 = 0 := yF_1 (by decide)
  have e1 : pSw T n i true I = yF (I 2 5) 3 I := by
    show cond (yIs T n (zsg i) (yF (I 2 5) 3 I)) _ (yF _ 1 (yF (I 2 5) 3 I)) = _
    rw [yIs_w he, yF_f he]
    rfl
  unfold pSt1
  rw [e1, yN_e he]
  exact ySe_e (I := xr1 j 0 (yF (I 2 5) 3 I)) he
theorem pSt1_o {i j : Nat} {lo hi : Int32} (h : yIs T n (zsg i) I = true) : pSt1 T n i j lo hi false I = ySe T n (xr1 j (yN T n lo hi (yT T n I)).1 (yN T n lo hi (yT T n I)).2) := by
  have e1 : pSw T n i false I = yT T n I := by
    show cond (yIs T n (zsg i) I) _ _ = _
    rw [h]
    rfl
  unfold pSt1
  rw [e1]
/-- a setting in the draft and as told -/
theorem pD_set {j v : Nat} (h : pD 0 σ L) (hM : L 1 = 0) (hN : L 2 = 0) (hj : (j = 3 ∧ 1 ≤ v ∧ v ≤ 20) ∨ (j = 4 ∧ v ≤ 60)) (hI : ∀ i, ¬ i = j → I 4 i = σ.1 4 i) (hv : I 4 j = nI v) : pD 0 (I, σ.2) (va_up L j v) := by
  obtain ⟨⟨w1, w2, w3, w4, w5, w6, w7⟩, ⟨f0, f1, f2, f3, f4⟩, ⟨x, hx, hx5, hxs⟩, hl, ht, hc⟩ := h
  have nn : ∀ k, ¬ k = j → va_up L j v k = L k := fun k hk => vu_n hk
  refine ⟨⟨fun k hk => ?_, ?_, fun s h' => ?_, fun s h1 h2 => ?_, fun s h' => ?_, fun t q => ?_, fun c q => ?_⟩, ⟨?_, ?_, ?_, ?_, ?_⟩, ?_, fun s h' => ?_, fun t q w hw => ?_, fun c q w hw => ?_⟩
  · by_cases q : k = j
    · rw [q, vu_s]; omega
    · rw [vu_n q]; exact w1 k hk
  · rw [nn 0 (by omega), nn 1 (by omega), nn 2 (by omega)]
    rcases hj with ⟨rfl, h1, h2⟩ | ⟨rfl, h1⟩
    · rw [vu_s, vu_n (by omega)]; omega
    · rw [vu_s, vu_n (by omega)]; omega
  · rw [nn (5 + s) (by omega)]; exact w3 s h'
  · rw [nn 0 (by omega)] at h1
    rw [nn (5 + s) (by omega)]; exact w4 s h1 h2
  · rw [nn 0 (by omega)] at h'
    rw [nn (13 + s) (by omega)]; exact w5 s h'
  · rw [nn 1 (by omega), hM] at q; exact absurd q (by omega)
  · rw [nn 2 (by omega), hN] at q; exact absurd q (by omega)
  · rw [nn 0 (by omega)]; exact (hI 0 (by omega)).trans f0
  · rw [nn 1 (by omega)]; exact (hI 1 (by omega)).trans f1
  · rw [nn 2 (by omega)]; exact (hI 2 (by omega)).trans f2
  · by_cases q : 3 = j
    · rw [← q, vu_s]; rw [← q] at hv; exact hv
    · rw [nn 3 q]; exact (hI 3 q).trans f3
  · by_cases q : 4 = j
    · rw [← q, vu_s]; rw [← q] at hv; exact hv
    · rw [nn 4 q]; exact (hI 4 q).trans f4
  · refine ⟨x, hx, (hI 5 (by omega)).trans hx5, fun s h' => ?_⟩
    rw [nn (5 + s) (by omega)]; exact hxs s h'
  · rw [nn 0 (by omega)] at h'
    rw [nn (13 + s) (by omega)]; exact hl s h'
  · rw [nn 1 (by omega), hM] at q; exact absurd q (by omega)
  · rw [nn 2 (by omega), hN] at q; exact absurd q (by omega)
end
section
variable {ε : Nat × (Nat → Int32)} {d : Nat} {Q : zQ} {o ot it : Value} {A B : Nat → Nat → Int32} {AL : Nat → Nat → Int64} {AD : Nat → Nat → UInt64} {T : Nat → Nat} {n : Nat}
theorem cl_set (hn5 : n ≤ 500) (hT : ∀ p, p < n → A 41 p = nI (T p)) (hT8 : ∀ p, p < n → T p < 2 ^ 31) : ∀ (k : Nat) (hh hw : Bool) (I : Nat → Nat → Int32) (L : Nat → Nat) (IF : Nat → Nat → Int32) (c : Int32), 3 ≤ k + cond hh 1 0 + cond hw 1 0 → c = hd2 hh hw → tRf T n I IF → lnP (I, B) L → (∀ IF' L', tRf T n (pSt T n k hh hw I) IF' → lnP (pSt T n k hh hw I, B) L' → tF IF IF' → Q (.inl none) (zM o ot it IF' (va_up A 34 (lf L')) AL AD)) → zW ε false (d + 6) 151 2 [(0, .ref 32), (1, .int c)] [] (zM o ot it IF (va_up A 34 (lf L)) AL AD) 0 0 Q := by
  intro k
  induction k with
  | zero =>
    intro hh hw I L IF c hk hc hR hD hq
    exact absurd hk (by cases hh <;> cases hw <;> decide)
  | succ k ih =>
    intro hh hw I L IF c hk hc hR hD hq
    subst hc
    have hX : yIs T n (zsg 30) I = yIs T n (zsg 3) I := by rw [zsg_x.2.2.2.1]
    have hY : yIs T n (zsg 31) I = yIs T n (zsg 4) I := by rw [zsg_x.2.2.2.2.1]
    cases g3 : yIs T n (zsg 3) I with
    | true =>
      have h0 := yIs_k g3
      have g4 : yIs T n (zsg 4) I = false := yIs_x g3 (by decide)
      have hd := hD h0
      have hB := hd.1.1.2.1
      rw [pSt_3 g3] at hq
      cases hh with
      | true =>
        have he : ¬ (yF (I 2 5) 3 I) 2 1 = 0 := yF_1 (by decide)
        have e1 : pSt T n k true hw (pSt1 T n 3 3 1 20 true I) = xr1 3 0 (yF (I 2 5) 3 I) := by
          rw [pSt1_r h0]
          exact pSt_n (I := xr1 3 0 (yF (I 2 5) 3 I)) (yIs_w he) (yIs_w he)
        rw [e1] at hq
        refine zrun 3 ⟨⟨Nat.le_of_ble_eq_true rfl, Nat.le_of_ble_eq_true rfl, rfl⟩, ?_⟩
        refine c_misWord (d := d + 1) (i := 30) (A := va_up A 34 (lf L)) hn5 hT hT8 hR (by omega) (zsg_l 30 (by omega)) ⟨rfl, ?_⟩
        refine zrun 1 (zb_t rfl (fun _ => ?_) (fun q => by rw [hX, g3] at q; exact Bool.noConfusion q))
        refine zrun 3 ⟨⟨Nat.le_of_ble_eq_true rfl, Nat.le_of_ble_eq_true rfl, rfl⟩, ?_⟩
        refine c_misWord (d := d + 1) (i := 31) (A := va_up A 34 (lf L)) hn5 hT hT8 hR (by omega) (zsg_l 31 (by omega)) ⟨rfl, ?_⟩
        refine zrun 1 (zb_f rfl (fun _ => ?_) (fun q => by rw [hY, g4] at q; exact Bool.noConfusion q))
        refine zrun 5 (zloc [(0, _), (1, _), (2, _)] rfl ?_)
        refine zrun 1 ⟨(fun q => absurd (hd2_1.mp q) (by decide)), (fun _ => ?_)⟩
        refine zrun 3 ⟨⟨Nat.le_of_ble_eq_true rfl, Nat.le_of_ble_eq_true rfl, rfl⟩, ?_⟩
        refine c_mfails (d := d + 4) hR (by decide) (fun I3 r3 f3 => ⟨rfl, ?_⟩)
        refine zrun 5 (zloc [(0, _), (1, _), (2, _)] rfl ?_)
        refine zrun 1 ⟨⟨Nat.le_of_ble_eq_true rfl, Nat.le_of_ble_eq_true rfl, rfl⟩, ?_⟩
        refine c_isWrong (fun u hu => ⟨rfl, ?_⟩)
        refine zrun 1 (zb_f rfl (fun q => by rw [hu.mpr (by rw [r3.2.1]; exact he)] at q; exact Bool.noConfusion q) (fun _ => ?_))
        exact zrun 1 (hq I3 L r3 (fun z => absurd z he) f3)
      | false =>
        rw [pSt1_o g3] at hq
        refine zrun 3 ⟨⟨Nat.le_of_ble_eq_true rfl, Nat.le_of_ble_eq_true rfl, rfl⟩, ?_⟩
        refine c_misWord (d := d + 1) (i := 30) (A := va_up A 34 (lf L)) hn5 hT hT8 hR (by omega) (zsg_l 30 (by omega)) ⟨rfl, ?_⟩
        refine zrun 1 (zb_t rfl (fun _ => ?_) (fun q => by rw [hX, g3] at q; exact Bool.noConfusion q))
        refine zrun 3 ⟨⟨Nat.le_of_ble_eq_true rfl, Nat.le_of_ble_eq_true rfl, rfl⟩, ?_⟩
        refine c_misWord (d := d + 1) (i := 31) (A := va_up A 34 (lf L)) hn5 hT hT8 hR (by omega) (zsg_l 31 (by omega)) ⟨rfl, ?_⟩
        refine zrun 1 (zb_f rfl (fun _ => ?_) (fun q => by rw [hY, g4] at q; exact Bool.noConfusion q))
        refine zrun 5 (zloc [(0, _), (1, _), (2, _)] rfl ?_)
        refine zrun 1 ⟨(fun _ => ?_), (fun q => absurd (hd2_1.mpr rfl) q)⟩
        refine zrun 5 (zloc [(0, _), (1, _), (2, _)] rfl ?_)
        refine zrun 1 ⟨⟨Nat.le_of_ble_eq_true rfl, Nat.le_of_ble_eq_true rfl, rfl⟩, ?_⟩
        refine c_isWrong (fun u hu => ⟨rfl, ?_⟩)
        refine zrun 1 (zb_f rfl (fun _ => ?_) (fun q => absurd (hR.2.1.trans h0) (hu.mp q)))
        refine zrun 2 ⟨⟨Nat.le_of_ble_eq_true rfl, Nat.le_of_ble_eq_true rfl, rfl⟩, ?_⟩
        refine c_mtoken (d := d + 4) (A := va_up A 34 (lf L)) hn5 hT hT8 hR h0 (fun I1 r1 f1 => ⟨rfl, ?_⟩)
        refine zrun 3 ⟨(fun q => absurd rfl q), (fun _ => ?_)⟩
        refine zrun 7 ⟨⟨Nat.le_of_ble_eq_true rfl, Nat.le_of_ble_eq_true rfl, rfl⟩, ?_⟩
        refine c_figure (d := d + 2) (lo := 1) (hi := 20) (A := va_up A 34 (lf L)) hn5 hT hT8 r1 (fun v I2 r2 hv f2 => ⟨rfl, ?_⟩)
        refine zW_istq (n := 3) (v := v.toBitVec.toNat) rfl rfl rfl (by decide) (by decide) (nI_tn v).symm ?_
        refine zrun 3 ⟨⟨Nat.le_of_ble_eq_true rfl, Nat.le_of_ble_eq_true rfl, rfl⟩, ?_⟩
        refine c_ends (d := d + 3) (A := va_up A 34 (lf (va_up L 3 v.toBitVec.toNat))) hn5 hT hT8 r2 (fun I3 r3 f3 => ⟨rfl, ?_⟩)
        refine zrun 1 (zfg [0, 1] (zloc [(0, .ref 32), (1, .int (hd2 true hw))] (by rw [← hd2_o1]; rfl) (ih true hw (ySe T n (xr1 3 (yN T n 1 20 (yT T n I)).1 (yN T n 1 20 (yT T n I)).2)) (va_up L 3 v.toBitVec.toNat) I3 (hd2 true hw) (by cases hw <;> simp at hk ⊢ <;> omega) rfl (tR_2 r3 (ySe_2 rfl)) (fun z => ?_) (fun I4 L4 r4 h4 f4 => hq I4 L4 r4 h4 (tF_t f1 (tF_t f2 (tF_t f3 f4)))))))
        have z1 : (ySe T n (xr1 3 (yN T n 1 20 (yT T n I)).1 (yN T n 1 20 (yT T n I)).2)) 2 1 = 0 := z
        have z2 : (yN T n 1 20 (yT T n I)).2 2 1 = 0 := (ySe_ok z1).1
        have ok := yN_ok z2
        obtain ⟨j, hj1, hj2, hj⟩ := rngN (a := 1) (b := 20) (by decide) (by decide) ok.2.1 ok.2.2.1
        have ev : v = nI j := by rw [hv z2, ok.2.2.2]; exact hj
        have e4 : v.toBitVec.toNat = j := by rw [ev, pk_tn (by omega)]
        rw [e4]
        refine ⟨pD_set (σ := (I, B)) hd.1 hd.2.2.1 hd.2.2.2 (Or.inl ⟨rfl, hj1, hj2⟩) (fun i hi => ?_) ?_, ?_, ?_, ?_⟩
        · show ySe T n (xr1 3 (yN T n 1 20 (yT T n I)).1 (yN T n 1 20 (yT T n I)).2) 4 i = I 4 i
          rw [ySe_4]
          show upd ((yN T n 1 20 (yT T n I)).2 4) 3 _ i = _
          rw [upd_n hi, yN_4]
          exact yT_4 (by omega)
        · show ySe T n (xr1 3 (yN T n 1 20 (yT T n I)).1 (yN T n 1 20 (yT T n I)).2) 4 3 = nI j
          rw [ySe_4]
          show upd ((yN T n 1 20 (yT T n I)).2 4) 3 _ 3 = _
          rw [upd_s, ok.2.2.2]
          exact hj
        · rw [vu_n (by omega)]; exact hd.2.1
        · rw [vu_n (by omega)]; exact hd.2.2.1
        · rw [vu_n (by omega)]; exact hd.2.2.2
    | false =>
      cases g4 : yIs T n (zsg 4) I with
      | true =>
        have h0 := yIs_k g4
        have hd := hD h0
        have hB := hd.1.1.2.1
        rw [pSt_4 g3 g4] at hq
        cases hw with
        | true =>
          have he : ¬ (yF (I 2 5) 3 I) 2 1 = 0 := yF_1 (by decide)
          have e1 : pSt T n k hh true (pSt1 T n 4 4 0 60 true I) = xr1 4 0 (yF (I 2 5) 3 I) := by
            rw [pSt1_r h0]
            exact pSt_n (I := xr1 4 0 (yF (I 2 5) 3 I)) (yIs_w he) (yIs_w he)
          rw [e1] at hq
          refine zrun 3 ⟨⟨Nat.le_of_ble_eq_true rfl, Nat.le_of_ble_eq_true rfl, rfl⟩, ?_⟩
          refine c_misWord (d := d + 1) (i := 30) (A := va_up A 34 (lf L)) hn5 hT hT8 hR (by omega) (zsg_l 30 (by omega)) ⟨rfl, ?_⟩
          refine zrun 1 (zb_t rfl (fun q => by rw [hX, g3] at q; exact Bool.noConfusion q) (fun _ => ?_))
          refine zrun 3 ⟨⟨Nat.le_of_ble_eq_true rfl, Nat.le_of_ble_eq_true rfl, rfl⟩, ?_⟩
          refine c_misWord (d := d + 1) (i := 31) (A := va_up A 34 (lf L)) hn5 hT hT8 hR (by omega) (zsg_l 31 (by omega)) ⟨rfl, ?_⟩
          refine zrun 1 (zb_f rfl (fun q => by rw [hY, g4] at q; exact Bool.noConfusion q) (fun _ => ?_))
          refine zrun 3 ⟨⟨Nat.le_of_ble_eq_true rfl, Nat.le_of_ble_eq_true rfl, rfl⟩, ?_⟩
          refine c_misWord (d := d + 1) (i := 31) (A := va_up A 34 (lf L)) hn5 hT hT8 hR (by omega) (zsg_l 31 (by omega)) ⟨rfl, ?_⟩
          refine zrun 1 (zb_f rfl (fun q => by rw [hY, g4] at q; exact Bool.noConfusion q) (fun _ => ?_))
          refine zrun 6 (zloc [(0, _), (1, _), (2, _)] rfl ?_)
          refine zrun 1 ⟨(fun q => absurd (hd2_2.mp q) (by decide)), (fun _ => ?_)⟩
          refine zrun 3 ⟨⟨Nat.le_of_ble_eq_true rfl, Nat.le_of_ble_eq_true rfl, rfl⟩, ?_⟩
          refine c_mfails (d := d + 4) hR (by decide) (fun I3 r3 f3 => ⟨rfl, ?_⟩)
          refine zrun 5 (zloc [(0, _), (1, _), (2, _)] rfl ?_)
          refine zrun 1 ⟨⟨Nat.le_of_ble_eq_true rfl, Nat.le_of_ble_eq_true rfl, rfl⟩, ?_⟩
          refine c_isWrong (fun u hu => ⟨rfl, ?_⟩)
          refine zrun 1 (zb_f rfl (fun q => by rw [hu.mpr (by rw [r3.2.1]; exact he)] at q; exact Bool.noConfusion q) (fun _ => ?_))
          exact zrun 1 (hq I3 L r3 (fun z => absurd z he) f3)
        | false =>
          rw [pSt1_o g4] at hq
          refine zrun 3 ⟨⟨Nat.le_of_ble_eq_true rfl, Nat.le_of_ble_eq_true rfl, rfl⟩, ?_⟩
          refine c_misWord (d := d + 1) (i := 30) (A := va_up A 34 (lf L)) hn5 hT hT8 hR (by omega) (zsg_l 30 (by omega)) ⟨rfl, ?_⟩
          refine zrun 1 (zb_t rfl (fun q => by rw [hX, g3] at q; exact Bool.noConfusion q) (fun _ => ?_))
          refine zrun 3 ⟨⟨Nat.le_of_ble_eq_true rfl, Nat.le_of_ble_eq_true rfl, rfl⟩, ?_⟩
          refine c_misWord (d := d + 1) (i := 31) (A := va_up A 34 (lf L)) hn5 hT hT8 hR (by omega) (zsg_l 31 (by omega)) ⟨rfl, ?_⟩
          refine zrun 1 (zb_f rfl (fun q => by rw [hY, g4] at q; exact Bool.noConfusion q) (fun _ => ?_))
          refine zrun 3 ⟨⟨Nat.le_of_ble_eq_true rfl, Nat.le_of_ble_eq_true rfl, rfl⟩, ?_⟩
          refine c_misWord (d := d + 1) (i := 31) (A := va_up A 34 (lf L)) hn5 hT hT8 hR (by omega) (zsg_l 31 (by omega)) ⟨rfl, ?_⟩
          refine zrun 1 (zb_f rfl (fun q => by rw [hY, g4] at q; exact Bool.noConfusion q) (fun _ => ?_))
          refine zrun 6 (zloc [(0, _), (1, _), (2, _)] rfl ?_)
          refine zrun 1 ⟨(fun _ => ?_), (fun q => absurd (hd2_2.mpr rfl) q)⟩
          refine zrun 5 (zloc [(0, _), (1, _), (2, _)] rfl ?_)
          refine zrun 1 ⟨⟨Nat.le_of_ble_eq_true rfl, Nat.le_of_ble_eq_true rfl, rfl⟩, ?_⟩
          refine c_isWrong (fun u hu => ⟨rfl, ?_⟩)
          refine zrun 1 (zb_f rfl (fun _ => ?_) (fun q => absurd (hR.2.1.trans h0) (hu.mp q)))
          refine zrun 2 ⟨⟨Nat.le_of_ble_eq_true rfl, Nat.le_of_ble_eq_true rfl, rfl⟩, ?_⟩
          refine c_mtoken (d := d + 4) (A := va_up A 34 (lf L)) hn5 hT hT8 hR h0 (fun I1 r1 f1 => ⟨rfl, ?_⟩)
          refine zrun 3 ⟨(fun _ => ?_), (fun q => absurd (show (2 : Int32) = 1 from q) (by decide))⟩
          refine zrun 7 ⟨⟨Nat.le_of_ble_eq_true rfl, Nat.le_of_ble_eq_true rfl, rfl⟩, ?_⟩
          refine c_figure (d := d + 2) (lo := 0) (hi := 60) (A := va_up A 34 (lf L)) hn5 hT hT8 r1 (fun v I2 r2 hv f2 => ⟨rfl, ?_⟩)
          refine zW_istq (n := 4) (v := v.toBitVec.toNat) rfl rfl rfl (by decide) (by decide) (nI_tn v).symm ?_
          refine zrun 2 ⟨⟨Nat.le_of_ble_eq_true rfl, Nat.le_of_ble_eq_true rfl, rfl⟩, ?_⟩
          refine c_ends (d := d + 3) (A := va_up A 34 (lf (va_up L 4 v.toBitVec.toNat))) hn5 hT hT8 r2 (fun I3 r3 f3 => ⟨rfl, ?_⟩)
          refine zrun 1 (zfg [0, 1] (zloc [(0, .ref 32), (1, .int (hd2 hh true))] (by rw [← hd2_o2]; rfl) (ih hh true (ySe T n (xr1 4 (yN T n 0 60 (yT T n I)).1 (yN T n 0 60 (yT T n I)).2)) (va_up L 4 v.toBitVec.toNat) I3 (hd2 hh true) (by cases hh <;> simp at hk ⊢ <;> omega) rfl (tR_2 r3 (ySe_2 rfl)) (fun z => ?_) (fun I4 L4 r4 h4 f4 => hq I4 L4 r4 h4 (tF_t f1 (tF_t f2 (tF_t f3 f4)))))))
          have z1 : (ySe T n (xr1 4 (yN T n 0 60 (yT T n I)).1 (yN T n 0 60 (yT T n I)).2)) 2 1 = 0 := z
          have z2 : (yN T n 0 60 (yT T n I)).2 2 1 = 0 := (ySe_ok z1).1
          have ok := yN_ok z2
          obtain ⟨j, hj1, hj2, hj⟩ := rngN (a := 0) (b := 60) (by decide) (by decide) ok.2.1 ok.2.2.1
          have ev : v = nI j := by rw [hv z2, ok.2.2.2]; exact hj
          have e4 : v.toBitVec.toNat = j := by rw [ev, pk_tn (by omega)]
          rw [e4]
          refine ⟨pD_set (σ := (I, B)) hd.1 hd.2.2.1 hd.2.2.2 (Or.inr ⟨rfl, hj2⟩) (fun i hi => ?_) ?_, ?_, ?_, ?_⟩
          · show ySe T n (xr1 4 (yN T n 0 60 (yT T n I)).1 (yN T n 0 60 (yT T n I)).2) 4 i = I 4 i
            rw [ySe_4]
            show upd ((yN T n 0 60 (yT T n I)).2 4) 4 _ i = _
            rw [upd_n hi, yN_4]
            exact yT_4 (by omega)
          · show ySe T n (xr1 4 (yN T n 0 60 (yT T n I)).1 (yN T n 0 60 (yT T n I)).2) 4 4 = nI j
            rw [ySe_4]
            show upd ((yN T n 0 60 (yT T n I)).2 4) 4 _ 4 = _
            rw [upd_s, ok.2.2.2]
            exact hj
          · rw [vu_n (by omega)]; exact hd.2.1
          · rw [vu_n (by omega)]; exact hd.2.2.1
          · rw [vu_n (by omega)]; exact hd.2.2.2
      | false =>
        rw [pSt_n g3 g4] at hq
        refine zrun 3 ⟨⟨Nat.le_of_ble_eq_true rfl, Nat.le_of_ble_eq_true rfl, rfl⟩, ?_⟩
        refine c_misWord (d := d + 1) (i := 30) (A := va_up A 34 (lf L)) hn5 hT hT8 hR (by omega) (zsg_l 30 (by omega)) ⟨rfl, ?_⟩
        refine zrun 1 (zb_t rfl (fun q => by rw [hX, g3] at q; exact Bool.noConfusion q) (fun _ => ?_))
        refine zrun 3 ⟨⟨Nat.le_of_ble_eq_true rfl, Nat.le_of_ble_eq_true rfl, rfl⟩, ?_⟩
        refine c_misWord (d := d + 1) (i := 31) (A := va_up A 34 (lf L)) hn5 hT hT8 hR (by omega) (zsg_l 31 (by omega)) ⟨rfl, ?_⟩
        refine zrun 1 (zb_f rfl (fun _ => ?_) (fun q => by rw [hY, g4] at q; exact Bool.noConfusion q))
        exact zrun 1 (hq IF L hR hD (tF_r IF))
theorem c_settings (hn5 : n ≤ 500) (hT : ∀ p, p < n → A 41 p = nI (T p)) (hT8 : ∀ p, p < n → T p < 2 ^ 31) {I IF : Nat → Nat → Int32} {L : Nat → Nat} (hR : tRf T n I IF) (hD : lnP (I, B) L) (hq : ∀ IF' L', tRf T n (pSt T n 3 false false I) IF' → lnP (pSt T n 3 false false I, B) L' → tF IF IF' → Q (.inl none) (zM o ot it IF' (va_up A 34 (lf L')) AL AD)) : zW ε false (d + 6) 151 0 [(0, .ref 32)] [] (zM o ot it IF (va_up A 34 (lf L)) AL AD) 0 0 Q := by
  exact zrun 2 (zloc [(0, _), (1, _)] rfl (cl_set hn5 hT hT8 3 false false I L IF 0 (by decide) rfl hR hD hq))
end
