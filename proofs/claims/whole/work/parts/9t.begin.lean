/-! the start of law: what both objects hold at first -/
theorem zH_eta (h : zH) {s : List (Nat × Nat)} {R : Nat → Nat → Value} (e1 : h.1 = s) (e2 : h.2.1 = R) : h = (s, R, h.2.2.1, h.2.2.2.1, h.2.2.2.2.1, h.2.2.2.2.2) := by
  subst e1
  subst e2
  rfl
theorem k_sh : kH125.1 = zSi := by decide +kernel
theorem k_eq : kH125 = zMi .null .null .null kH125.2.2.1 kH125.2.2.2.1 kH125.2.2.2.2.1 kH125.2.2.2.2.2 := zH_eta kH125 k_sh (funext fun k => funext fun j => k_rf k j)
def kI : Nat → Nat → Int32 := kH125.2.2.1
def kA : Nat → Nat → Int32 := kH125.2.2.2.1
def kAL : Nat → Nat → Int64 := kH125.2.2.2.2.1
def kAD : Nat → Nat → UInt64 := kH125.2.2.2.2.2
theorem k_eq2 : kH125 = zMi .null .null .null kI kA kAL kAD := k_eq
/-- the line at first -/
def L0 (A : Nat → Nat → Int32) : Nat → Nat := va_up (va_up (va_up (va_up (P0 A) 0 2) 5 1) 6 1) 13 1
theorem L0_v {A : Nat → Nat → Int32} : ∀ j, j < 92 → L0 A j = if j = 0 then 2 else if j = 3 then 3 else if j = 4 then 5 else if j = 5 ∨ j = 6 ∨ j = 13 then 1 else 0 := fun j hj => by
  unfold L0 P0
  by_cases h13 : j = 13
  · subst h13; rw [vu_s]; rfl
  by_cases h6 : j = 6
  · subst h6; rw [vu_n (by decide), vu_s]; rfl
  by_cases h5 : j = 5
  · subst h5; rw [vu_n (by decide), vu_n (by decide), vu_s]; rfl
  by_cases h0 : j = 0
  · subst h0; rw [vu_n (by decide), vu_n (by decide), vu_n (by decide), vu_s]; rfl
  by_cases h4 : j = 4
  · subst h4; rw [vu_n (by decide), vu_n (by decide), vu_n (by decide), vu_n (by decide), vu_s]; rfl
  by_cases h3 : j = 3
  · subst h3; rw [vu_n (by decide), vu_n (by decide), vu_n (by decide), vu_n (by decide), vu_n (by decide), vu_s]; rfl
  rw [vu_n h13, vu_n h6, vu_n h5, vu_n h0, vu_n h4, vu_n h3, if_neg h0, if_neg h3, if_neg h4, if_neg (by omega)]
  show (cp 92 (fun _ => 0) (A 34) j).toBitVec.toNat = 0
  rw [cp_lt hj]
  rfl
theorem L1_v {A : Nat → Nat → Int32} {f : Nat → Int32} : ∀ j, j < 92 → tn (cp 92 (lf (L0 A)) f) j = if j = 0 then 2 else if j = 3 then 3 else if j = 4 then 5 else if j = 5 ∨ j = 6 ∨ j = 13 then 1 else 0 := fun j hj => by
  show (cp 92 (lf (L0 A)) f j).toBitVec.toNat = _
  rw [cp_lt hj]
  show (nI (L0 A j)).toBitVec.toNat = _
  rw [L0_v j hj]
  refine pk_tn ?_
  split
  · decide
  · split
    · decide
    · split
      · decide
      · split <;> decide
theorem L1_T {L : Nat → Nat} (hv : ∀ j, j < 92 → L j = if j = 0 then 2 else if j = 3 then 3 else if j = 4 then 5 else if j = 5 ∨ j = 6 ∨ j = 13 then 1 else 0) : lT L ∧ L 0 = 2 ∧ L 1 = 0 ∧ L 2 = 0 ∧ L 3 = 3 ∧ L 4 = 5 := by
  have e0 : L 0 = 2 := hv 0 (by decide)
  have e1 : L 1 = 0 := hv 1 (by decide)
  have e2 : L 2 = 0 := hv 2 (by decide)
  have e3 : L 3 = 3 := hv 3 (by decide)
  have e4 : L 4 = 5 := hv 4 (by decide)
  refine ⟨⟨⟨fun j hj => ?_, ⟨by omega, by omega, by omega, by omega, by omega, by omega⟩, fun s hs => ?_, fun s h1 hs => ?_, fun s hs => ?_, fun t ht => absurd ht (by omega), fun c hc => absurd hc (by omega)⟩, by omega⟩, e0, e1, e2, e3, e4⟩
  · rw [hv j hj]
    split
    · decide
    · split
      · decide
      · split
        · decide
        · split <;> decide
  · rw [hv (5 + s) (by omega), if_neg (by omega), if_neg (by omega), if_neg (by omega)]
    split <;> decide
  · rw [hv (5 + s) (by omega), if_neg (by omega), if_neg (by omega), if_neg (by omega), if_neg (by omega)]
  · have z : s = 0 := by omega
    subst z
    rw [hv 13 (by decide)]
    decide
def kIs : Nat → Nat → Int32 := yU 32 9 0 kI
def kAs : Nat → Nat → Int32 := va_up (va_up (mTk (va_up kA 34 (lf (L0 kA)))) 51 (fun _ => 0)) 52 (fun _ => 0)
def kALs : Nat → Nat → Int64 := va_up (va_up kAL 51 (fun _ => 0)) 52 (fun _ => 0)
def kADs : Nat → Nat → UInt64 := va_up (va_up kAD 51 (fun _ => 0)) 52 (fun _ => 0)
theorem kA_lo : ∀ j, j < 32 → kAs j = kA j := fun j hj => by
  unfold kAs mTk mK4 mK3 mF0 mK2 mK1
  rw [vu_n (by omega), vu_n (by omega), vu_n (by omega), vu_n (by omega), vu_n (by omega), vu_n (by omega), vu_n (by omega), vu_n (by omega), vu_n (by omega)]
theorem k_sd : ∀ s, s < 8 → decide (¬ (((Int32.ofInt 3) >>> (nI s &&& 31)) &&& 1) = 0) = decide (s < 2) := by decide
theorem k_gS : gS kIs kAs := by
  have hv := L1_v (A := kA) (f := kA 33)
  obtain ⟨hL, e0, e1, e2, e3, e4⟩ := L1_T hv
  have m := ld_m (IG := kIs) (A := kA) (L' := L0 kA) hL rfl (tn (kA 37)) (lf_tn _).symm
  generalize hLL : tn (cp 92 (lf (L0 kA)) (kA 33)) = L at hv hL e0 e1 e2 e3 e4 m
  have hp : ∀ q, pOrd L q := fun q => ⟨fun g hg i hi => absurd hi (by omega), fun g hg i j hi => absurd hi (by omega), fun g hg t ht => absurd ht (by omega), fun s h0 h1 h2 i hi => absurd hi (by omega)⟩
  have c8 : kIs 8 = kI 8 := rfl
  have hR : cR kIs kAs L := by
    refine ⟨⟨?_, ?_, ?_, ?_, ?_⟩, fun s hs => ?_, fun s hs => ?_, fun t ht => absurd ht (by omega), fun c hc => absurd hc (by omega)⟩
    · rw [e0]; rfl
    · rw [e1]; rfl
    · rw [e2]; rfl
    · rw [e3]; rfl
    · rw [e4]; rfl
    · have k5 : kIs 8 5 = Int32.ofInt 3 := rfl
      unfold xs
      rw [k5, k_sd s hs, hv (5 + s) (by omega), if_neg (by omega), if_neg (by omega), if_neg (by omega)]
      by_cases z : s < 2
      · rw [decide_eq_true z, if_pos (by omega)]
        rfl
      · rw [decide_eq_false z, if_neg (by omega)]
        rfl
    · have z : s = 0 := by omega
      subst z
      rw [kA_lo 9 (by decide), hv 13 (by decide)]
      rfl
  refine ⟨L, _, _, _, _, 0, ld_i hL (hp _), ⟨⟨⟨hR, ⟨fun g hg i hi => absurd hi (by omega), fun g hg t ht => absurd ht (by omega)⟩, ⟨fun g hg i hi => absurd hi (by omega), fun g hg t ht => absurd ht (by omega)⟩⟩, ⟨rfl, rfl, ⟨⟨rfl, fun e _ => ?_⟩, ?_⟩, rfl⟩, fun t s b ht => absurd ht (by omega), fun t ht => absurd ht (by omega)⟩, fun t s b ht => absurd ht (by omega), fun t s b ht => absurd ht (by omega)⟩, mG_f2 m rfl rfl rfl rfl rfl rfl rfl, 0, (fun _ => 0), ⟨rfl, rfl, by omega⟩, fun q hq => absurd hq (by omega), rfl, rfl⟩
  · rw [kA_lo 19 (by decide)]
    rfl
  · rw [kA_lo 27 (by decide)]
    rfl
theorem zokh_i {IF A : Nat → Nat → Int32} {AL : Nat → Nat → Int64} {AD : Nat → Nat → UInt64} : zokh (zMi .null .null .null IF A AL AD) = true := rfl
theorem zokh_j {IF A : Nat → Nat → Int32} {AL : Nat → Nat → Int64} {AD : Nat → Nat → UInt64} : zokh (zSi ++ [(4, 1)], zRF .null .null .null, IF, A, AL, AD) = true := rfl
section
variable {ε : Nat × (Nat → Int32)} {d : Nat} {Q : zQ}
theorem k_begin (hq : zW ε true (d + 22) 232 28 [(0, .ref 2000), (1, .ref 0), (2, .ref 32), (3, .ref 51), (4, .ref 52), (5, .int 0)] [] (zM .null .null .null kIs kAs kALs kADs) 53 3490 Q) : zW ε true (d + 22) 232 0 [(0, .ref 2000)] [] hE 0 0 Q := by
  refine k_made ?_
  rw [k_eq2]
  refine zrun 2 ⟨⟨Nat.le_of_ble_eq_true rfl, Nat.le_of_ble_eq_true rfl, rfl⟩, ?_⟩
  refine c_plain_i ⟨rfl, ?_⟩
  refine zrun 4 ?_
  refine zW_istq_i (n := 0) (v := 2) rfl rfl rfl (by decide) (by decide) rfl ?_
  refine zrun 4 ?_
  refine zW_istq_i (n := 5) (v := 1) rfl rfl rfl (by decide) (by decide) rfl ?_
  refine zrun 4 ?_
  refine zW_istq_i (n := 6) (v := 1) rfl rfl rfl (by decide) (by decide) rfl ?_
  refine zrun 4 ?_
  refine zW_istq_i (n := 13) (v := 1) rfl rfl rfl (by decide) (by decide) rfl ?_
  refine zrun 2 ⟨⟨Nat.le_of_ble_eq_true rfl, Nat.le_of_ble_eq_true rfl, rfl⟩, ?_⟩
  have hv := L1_v (A := kA) (f := kA 33)
  obtain ⟨hL, e0, e1, e2, e3, e4⟩ := L1_T hv
  refine c_takes_i (A := va_up kA 34 (lf (L0 kA))) hL.1.1 (show tn (cp 92 (lf (L0 kA)) (kA 33)) 1 ≤ 8 by omega) ⟨rfl, ?_⟩
  refine zrun 1 ⟨rfl, ?_⟩
  refine zrun 1 (zloc [(0, _), (1, _), (2, _)] rfl ?_)
  refine zrun 1 ?_
  refine zW_na (m := 1) (n := 51) (h2 := (zSi ++ [(4, 1)], zRF .null .null .null, kIs, va_up (mTk (va_up kA 34 (lf (L0 kA)))) 51 (fun _ => 0), va_up kAL 51 (fun _ => 0), va_up kAD 51 (fun _ => 0))) rfl rfl rfl rfl rfl (by rw [zokh_i]; rfl) rfl (Nat.le_of_ble_eq_true rfl) (Nat.le_of_ble_eq_true rfl) rfl ?_
  refine zrun 1 (zloc [(0, _), (1, _), (2, _), (3, _)] rfl ?_)
  refine zrun 1 ?_
  refine zW_na (m := 1) (n := 52) (h2 := zM .null .null .null kIs kAs kALs kADs) rfl rfl rfl rfl rfl (by rw [zokh_j]; rfl) rfl (Nat.le_of_ble_eq_true rfl) (Nat.le_of_ble_eq_true rfl) rfl ?_
  refine zrun 1 (zloc [(0, _), (1, _), (2, _), (3, _), (4, _)] rfl ?_)
  exact zrun 2 (zloc [(0, _), (1, _), (2, _), (3, _), (4, _), (5, _)] rfl hq)
/-- law answers true -/
theorem law_true (hN : ε.1 ≤ 3072) (hQ : ∀ h, Q (.inl (some (.int 1))) h) : zW ε true (d + 22) 232 0 [(0, .ref 2000)] [] hE 0 0 Q := k_begin (lw_loop hN hQ 512 0 0 _ _ _ _ _ _ _ _ _ nI_0.symm (by omega) (by omega) (by decide) (by decide) k_gS)
end
