/-! Parser: settings, trains -/
def pNw (T : Nat → Nat) (n i : Nat) (IF : Nat → Nat → Int32) : Nat → Nat → Int32 := cond (yIs T n (zsg i) IF) (yT T n IF) (yF (IF 2 5) 1 IF)
def pRp (rep : Bool) (IF : Nat → Nat → Int32) : Nat → Nat → Int32 := cond rep (yF (IF 2 5) 3 IF) IF
def pSw (T : Nat → Nat) (n i : Nat) (rep : Bool) (IF : Nat → Nat → Int32) : Nat → Nat → Int32 := pNw T n i (pRp rep IF)
def pSt1 (T : Nat → Nat) (n i j : Nat) (lo hi : Int32) (rep : Bool) (IF : Nat → Nat → Int32) : Nat → Nat → Int32 := ySe T n (xr1 j (yN T n lo hi (pSw T n i rep IF)).1 (yN T n lo hi (pSw T n i rep IF)).2)
def pSt (T : Nat → Nat) (n : Nat) : Nat → Bool → Bool → (Nat → Nat → Int32) → Nat → Nat → Int32
  | 0, _, _, IF => IF
  | k + 1, hh, hw, IF => cond (yIs T n (zsg 3) IF) (pSt T n k true hw (pSt1 T n 3 3 1 20 hh IF)) (cond (yIs T n (zsg 4) IF) (pSt T n k hh true (pSt1 T n 4 4 0 60 hw IF)) (pSt T n k hh hw IF))
theorem yOk_Nw {T : Nat → Nat} {n i : Nat} (hn5 : n ≤ 500) {IF : Nat → Nat → Int32} (h : yOk n IF) : yOk n (pNw T n i IF) := by
  unfold pNw
  cases yIs T n (zsg i) IF
  · exact yOk_F h
  · exact (yOk_T hn5 h).1
theorem yOk_Rp {n : Nat} {rep : Bool} {IF : Nat → Nat → Int32} (h : yOk n IF) : yOk n (pRp rep IF) := by
  unfold pRp
  cases rep
  · exact h
  · exact yOk_F h
theorem yOk_Sw {T : Nat → Nat} {n i : Nat} (hn5 : n ≤ 500) {rep : Bool} {IF : Nat → Nat → Int32} (h : yOk n IF) : yOk n (pSw T n i rep IF) := yOk_Nw hn5 (yOk_Rp h)
theorem yOk_St1 {T : Nat → Nat} {n i j : Nat} (hn5 : n ≤ 500) {lo hi : Int32} {rep : Bool} {IF : Nat → Nat → Int32} (h : yOk n IF) : yOk n (pSt1 T n i j lo hi rep IF) := yOk_S hn5 (yOk_r (yOk_N hn5 (yOk_Sw hn5 h)))
/-- a figure of a train -/
def pOf (T : Nat → Nat) (n : Nat) (t w lo hi : Int32) (σ : zP) : zP := ((yN T n lo hi σ.1).2, va_up σ.2 6 (upd (σ.2 6) (8 * m8 t + m8 w) (yN T n lo hi σ.1).1))
theorem pOk_of {T : Nat → Nat} {n : Nat} (hn5 : n ≤ 500) {t w lo hi : Int32} {σ : zP} (h : pOk T n σ) : pOk T n (pOf T n t w lo hi σ) := ⟨yOk_N hn5 h.1, h.2⟩
def pTa (T : Nat → Nat) (n : Nat) (t : Int32) (σ : zP) : zP := pOf T n t 0 0 (σ.1 4 0 - 1) σ
def pTb (T : Nat → Nat) (n : Nat) (t f : Int32) (σ : zP) : zP := pOf T n t 1 (f + 1) (σ.1 4 0 - 1) σ
def pTc (T : Nat → Nat) (n : Nat) (t : Int32) (σ : zP) : zP := pTb T n t (yN T n 0 (σ.1 4 0 - 1) σ.1).1 (pTa T n t σ)
def pTd (T : Nat → Nat) (n : Nat) (t : Int32) (σ : zP) : zP := pOf T n t 4 0 20 (pOf T n t 3 1 5 (pOf T n t 2 0 1000 (pTc T n t σ)))
def pT1 (T : Nat → Nat) (n : Nat) (t : Int32) (σ : zP) : zP := (xr1 1 (t + 1) (ySe T n (pTd T n t σ).1), (pTd T n t σ).2)
theorem pOk_Td {T : Nat → Nat} {n : Nat} (hn5 : n ≤ 500) {t : Int32} {σ : zP} (h : pOk T n σ) : pOk T n (pTd T n t σ) := pOk_of hn5 (pOk_of hn5 (pOk_of hn5 (pOk_of hn5 (pOk_of hn5 h))))
theorem pOk_T1 {T : Nat → Nat} {n : Nat} (hn5 : n ≤ 500) {t : Int32} {σ : zP} (h : pOk T n σ) : pOk T n (pT1 T n t σ) := ⟨yOk_r (yOk_S hn5 (pOk_Td hn5 h).1), (pOk_Td (t := t) hn5 h).2⟩
section
variable {ε : Nat × (Nat → Int32)} {d : Nat} {Q : zQ} {o ot it : Value} {AL : Nat → Nat → Int64} {AD : Nat → Nat → UInt64} {A : Nat → Nat → Int32} {T : Nat → Nat} {n : Nat}
theorem c_settingWord (hn5 : n ≤ 500) (hT : ∀ p, p < n → A 3 p &&& 255 = nI (T p)) {IF : Nat → Nat → Int32} (h : yOk n IF) {i : Nat} (hi : i ≤ 6) {v : Int32} {rep : Bool} (hv : v = zbo rep) (hq : Q (.inl none) (zM o ot it (pSw T n i rep IF) A AL AD)) : zW ε false (d + 7) 34 0 [(0, .ref 1), (1, .ref (1000 + i)), (2, .int v)] [] (zM o ot it IF A AL AD) 0 0 Q := by
  refine zrun 2 (zb_f hv (fun g => ?_) (fun g => ?_))
  · subst g
    refine zrun 4 ⟨⟨Nat.zero_le _, Nat.zero_le _, rfl⟩, ?_⟩
    refine c_needWord hn5 hT h (by omega) (zsg_lt i hi) ⟨rfl, ?_⟩
    exact zrun 1 hq
  · subst g
    refine zrun 4 ⟨⟨Nat.zero_le _, Nat.zero_le _, rfl⟩, ?_⟩
    refine c_fail ⟨rfl, ?_⟩
    refine zrun 4 ⟨⟨Nat.zero_le _, Nat.zero_le _, rfl⟩, ?_⟩
    refine c_needWord hn5 hT (yOk_F h) (by omega) (zsg_lt i hi) ⟨rfl, ?_⟩
    exact zrun 1 hq
theorem cl_st (hn5 : n ≤ 500) (hT : ∀ p, p < n → A 3 p &&& 255 = nI (T p)) : ∀ (k j : Nat) (hh hw : Bool) (IF : Nat → Nat → Int32) (c v1 v2 : Int32), j + k = 3 → c = nI j → v1 = zbo hh → v2 = zbo hw → yOk n IF → Q (.inl none) (zM o ot it (pSt T n k hh hw IF) A AL AD) → zW ε false (d + 8) 33 6 [(0, .ref 1), (1, .int v1), (2, .int v2), (3, .int c)] [] (zM o ot it IF A AL AD) 0 0 Q := by
  intro k
  induction k with
  | zero =>
    intro j hh hw IF c v1 v2 hj hc h1 h2 hok hq
    refine zrun 3 (zb_ge (b := 3) hc rfl (by omega) (by omega) (fun _ => ?_) (fun g => absurd g (by omega)))
    exact zrun 1 hq
  | succ k ih =>
    intro j hh hw IF c v1 v2 hj hc h1 h2 hok hq
    subst hc
    refine zrun 3 (zb_ge (b := 3) rfl rfl (by omega) (by omega) (fun g => absurd g (by omega)) (fun _ => ?_))
    refine zrun 4 ⟨⟨Nat.zero_le _, Nat.zero_le _, rfl⟩, ?_⟩
    refine c_isWord (i := 3) hn5 hT hok.1 hok.2.1 hok.2.2.1 hok.2.2.2.1 hok.2.2.2.2 (by omega) (zsg_lt 3 (by omega)) (fun v hv => ⟨rfl, ?_⟩)
    unfold pSt at hq
    rw [show yIs T n (zsg 3) IF = v from hv.symm] at hq
    refine zrun 1 (zb_f rfl (fun g => ?_) (fun g => ?_))
    · subst g
      refine zrun 4 ⟨⟨Nat.zero_le _, Nat.zero_le _, rfl⟩, ?_⟩
      refine c_isWord (i := 4) hn5 hT hok.1 hok.2.1 hok.2.2.1 hok.2.2.2.1 hok.2.2.2.2 (by omega) (zsg_lt 4 (by omega)) (fun v' hv' => ⟨rfl, ?_⟩)
      rw [show yIs T n (zsg 4) IF = v' from hv'.symm] at hq
      refine zrun 1 (zb_f rfl (fun g => ?_) (fun g => ?_))
      · subst g
        exact zrun 2 (ih (j + 1) hh hw IF (nI j + 1) v1 v2 (by omega) (nI_1 j) h1 h2 hok hq)
      · subst g
        refine zrun 4 ⟨⟨Nat.zero_le _, Nat.zero_le _, rfl⟩, ?_⟩
        refine c_settingWord (i := 4) hn5 hT hok (by omega) h2 ⟨rfl, ?_⟩
        refine zrun 2 (zloc [(0, _), (1, _), (2, _), (3, _)] rfl ?_)
        refine zrun 7 ⟨⟨Nat.zero_le _, Nat.zero_le _, rfl⟩, ?_⟩
        refine c_needNumber hn5 hT (yOk_Sw hn5 hok) ⟨rfl, ?_⟩
        refine zrun 4 ⟨⟨Nat.zero_le _, Nat.zero_le _, rfl⟩, ?_⟩
        refine c_needSemicolon (IF := xr1 4 (yN T n 0 60 (pSw T n 4 hw IF)).1 (yN T n 0 60 (pSw T n 4 hw IF)).2) hn5 hT (yOk_r (yOk_N hn5 (yOk_Sw hn5 hok))) ⟨rfl, ?_⟩
        exact zrun 2 (zloc [(0, _), (1, _), (2, _), (3, _)] rfl (ih (j + 1) hh true (pSt1 T n 4 4 0 60 hw IF) (nI j + 1) v1 1 (by omega) (nI_1 j) h1 rfl (yOk_St1 hn5 hok) hq))
    · subst g
      refine zrun 4 ⟨⟨Nat.zero_le _, Nat.zero_le _, rfl⟩, ?_⟩
      refine c_settingWord (i := 3) hn5 hT hok (by omega) h1 ⟨rfl, ?_⟩
      refine zrun 2 (zloc [(0, _), (1, _), (2, _), (3, _)] rfl ?_)
      refine zrun 7 ⟨⟨Nat.zero_le _, Nat.zero_le _, rfl⟩, ?_⟩
      refine c_needNumber hn5 hT (yOk_Sw hn5 hok) ⟨rfl, ?_⟩
      refine zrun 4 ⟨⟨Nat.zero_le _, Nat.zero_le _, rfl⟩, ?_⟩
      refine c_needSemicolon (IF := xr1 3 (yN T n 1 20 (pSw T n 3 hh IF)).1 (yN T n 1 20 (pSw T n 3 hh IF)).2) hn5 hT (yOk_r (yOk_N hn5 (yOk_Sw hn5 hok))) ⟨rfl, ?_⟩
      exact zrun 3 (zloc [(0, _), (1, _), (2, _), (3, _)] rfl (ih (j + 1) true hw (pSt1 T n 3 3 1 20 hh IF) (nI j + 1) 1 v2 (by omega) (nI_1 j) rfl h2 (yOk_St1 hn5 hok) hq))
theorem c_parseSettings (hn5 : n ≤ 500) (hT : ∀ p, p < n → A 3 p &&& 255 = nI (T p)) {IF : Nat → Nat → Int32} (h : yOk n IF) (hq : Q (.inl none) (zM o ot it (pSt T n 3 false false IF) A AL AD)) : zW ε false (d + 8) 33 0 [(0, .ref 1)] [] (zM o ot it IF A AL AD) 0 0 Q := zrun 6 (zloc [(0, _), (1, _), (2, _), (3, _)] rfl (cl_st hn5 hT 3 0 false false IF 0 0 0 (by omega) nI_0.symm rfl rfl h hq))
end
