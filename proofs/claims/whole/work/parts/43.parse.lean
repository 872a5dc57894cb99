/-! Parser: kinds, settings, stations -/
theorem zsg_lt : ∀ i, i ≤ 6 → (zsg i).length < 2 ^ 31 := by decide
/-- parseKind -/
def pK1 (T : Nat → Nat) (n : Nat) (IF : Nat → Nat → Int32) : Nat → Nat → Int32 := cond (yIs T n (zsg 1) IF) (yT T n IF) (cond (yIs T n (zsg 2) IF) (yT T n IF) (yF (IF 2 5) 1 IF))
def pK (T : Nat → Nat) (n : Nat) (IF : Nat → Nat → Int32) : Nat → Nat → Int32 := xr1 0 (pK1 T n IF 4 0 + 1) (cond (yIs T n (zsg 1) IF) (xr1 5 (pK1 T n IF 4 5 ||| ((1 : Int32) <<< (pK1 T n IF 4 0 &&& 31))) (pK1 T n IF)) (pK1 T n IF))
theorem yOk_r {n j : Nat} {v : Int32} {IF : Nat → Nat → Int32} (h : yOk n IF) : yOk n (xr1 j v IF) := h
theorem yOk_K1 {T : Nat → Nat} {n : Nat} (hn5 : n ≤ 500) {IF : Nat → Nat → Int32} (h : yOk n IF) : yOk n (pK1 T n IF) := by
  unfold pK1
  cases yIs T n (zsg 1) IF
  · cases yIs T n (zsg 2) IF
    · exact yOk_F h
    · exact (yOk_T hn5 h).1
  · exact (yOk_T hn5 h).1
theorem yOk_K {T : Nat → Nat} {n : Nat} (hn5 : n ≤ 500) {IF : Nat → Nat → Int32} (h : yOk n IF) : yOk n (pK T n IF) := by
  unfold pK
  refine yOk_r ?_
  cases yIs T n (zsg 1) IF
  · exact yOk_K1 hn5 h
  · exact yOk_r (yOk_K1 hn5 h)
theorem yOk_N {T : Nat → Nat} {n : Nat} (hn5 : n ≤ 500) {IF : Nat → Nat → Int32} (h : yOk n IF) {lo hi : Int32} : yOk n (yN T n lo hi IF).2 := by
  unfold yN
  split
  · split
    · exact yOk_F h
    · exact (yOk_T hn5 h).1
  · exact yOk_F h
theorem yOk_S {T : Nat → Nat} {n : Nat} (hn5 : n ≤ 500) {IF : Nat → Nat → Int32} (h : yOk n IF) : yOk n (ySe T n IF) := by
  unfold ySe
  split
  · exact (yOk_T hn5 h).1
  · exact yOk_F h
abbrev zP : Type := (Nat → Nat → Int32) × (Nat → Nat → Int32)
/-- one segment: its length, the next station -/
def pSeg (T : Nat → Nat) (n s : Nat) (σ : zP) : zP := (pK T n (yN T n 1 60 σ.1).2, va_up σ.2 5 (upd (σ.2 5) (m8 (nI s)) (yN T n 1 60 σ.1).1))
def pSl (T : Nat → Nat) (n : Nat) : Nat → Nat → zP → zP
  | 0, _, σ => σ
  | k + 1, s, σ => cond (yNu σ.1) (pSl T n k (s + 1) (pSeg T n s σ)) σ
def pSe (T : Nat → Nat) (n : Nat) (IF : Nat → Nat → Int32) : Nat → Nat → Int32 := ySe T n (cond (yNu IF) (yF ((yN T n 1 60 IF).2 2 7) 5 (yN T n 1 60 IF).2) IF)
def pS0 (T : Nat → Nat) (n : Nat) (IF : Nat → Nat → Int32) : Nat → Nat → Int32 := pK T n (cond (yIs T n (zsg 0) IF) (yT T n IF) (yF (IF 2 5) 1 IF))
def pS (T : Nat → Nat) (n : Nat) (σ : zP) : zP := (pSe T n (pSl T n 6 1 (pSeg T n 0 (pS0 T n σ.1, σ.2))).1, (pSl T n 6 1 (pSeg T n 0 (pS0 T n σ.1, σ.2))).2)
def pOk (T : Nat → Nat) (n : Nat) (σ : zP) : Prop := yOk n σ.1 ∧ ∀ p, p < n → σ.2 3 p &&& 255 = nI (T p)
theorem pOk_seg {T : Nat → Nat} {n s : Nat} (hn5 : n ≤ 500) {σ : zP} (h : pOk T n σ) : pOk T n (pSeg T n s σ) := ⟨yOk_K hn5 (yOk_N hn5 h.1), h.2⟩
theorem pOk_sl {T : Nat → Nat} {n : Nat} (hn5 : n ≤ 500) : ∀ (k s : Nat) (σ : zP), pOk T n σ → pOk T n (pSl T n k s σ)
  | 0, _, _, h => h
  | k + 1, s, σ, h => by
    unfold pSl
    cases yNu σ.1
    · exact h
    · exact pOk_sl hn5 k (s + 1) _ (pOk_seg hn5 h)
section
variable {ε : Nat × (Nat → Int32)} {d : Nat} {Q : zQ} {o ot it : Value} {AL : Nat → Nat → Int64} {AD : Nat → Nat → UInt64} {A IF : Nat → Nat → Int32} {T : Nat → Nat} {n : Nat}
theorem c_parseKind (hn5 : n ≤ 500) (hT : ∀ p, p < n → A 3 p &&& 255 = nI (T p)) (h : yOk n IF) (hq : Q (.inl none) (zM o ot it (pK T n IF) A AL AD)) : zW ε false (d + 7) 32 0 [(0, .ref 1)] [] (zM o ot it IF A AL AD) 0 0 Q := by
  refine zrun 4 ⟨⟨Nat.zero_le _, Nat.zero_le _, rfl⟩, ?_⟩
  refine c_takesWord (i := 1) hn5 hT h (by omega) (zsg_lt 1 (by omega)) ⟨rfl, ?_⟩
  refine zrun 1 (zloc [(0, _), (1, _)] rfl ?_)
  unfold pK pK1 at hq
  refine zrun 2 (zb_t rfl (fun g => ?_) (fun g => ?_))
  · rw [g] at hq ⊢
    refine zrun 4 ⟨⟨Nat.zero_le _, Nat.zero_le _, rfl⟩, ?_⟩
    refine c_addStation (IF := yT T n IF) (b := true) rfl ⟨rfl, ?_⟩
    exact zrun 1 hq
  · rw [g] at hq ⊢
    refine zrun 4 ⟨⟨Nat.zero_le _, Nat.zero_le _, rfl⟩, ?_⟩
    refine c_needWord (IF := IF) (i := 2) hn5 hT h (by omega) (zsg_lt 2 (by omega)) ⟨rfl, ?_⟩
    refine zrun 4 ⟨⟨Nat.zero_le _, Nat.zero_le _, rfl⟩, ?_⟩
    refine c_addStation (b := false) rfl ⟨rfl, ?_⟩
    exact zrun 1 hq
theorem cl_sl (hn5 : n ≤ 500) : ∀ (k s : Nat) (σ : zP) (c : Int32), s + k = 7 → c = nI s → pOk T n σ → zW ε false (d + 8) 31 81 [(0, .ref 1)] [] (zM o ot it (pSl T n k s σ).1 (pSl T n k s σ).2 AL AD) 0 0 Q → zW ε false (d + 8) 31 37 [(0, .ref 1), (1, .int c)] [] (zM o ot it σ.1 σ.2 AL AD) 0 0 Q := by
  intro k
  induction k with
  | zero =>
    intro s σ c hs hc hok h
    refine zrun 3 (zb_ge (b := 7) hc rfl (by omega) (by omega) (fun _ => ?_) (fun g => absurd g (by omega)))
    exact zpc 81 (by decide) (zfg [0] (zloc [(0, .ref 1)] rfl h))
  | succ k ih =>
    intro s σ c hs hc hok h
    subst hc
    refine zrun 3 (zb_ge (b := 7) rfl rfl (by omega) (by omega) (fun g => absurd g (by omega)) (fun _ => ?_))
    refine zrun 3 ⟨⟨Nat.zero_le _, Nat.zero_le _, rfl⟩, ?_⟩
    refine c_isNumber (fun v hv => ⟨rfl, ?_⟩)
    unfold pSl at h
    rw [show yNu σ.1 = v from hv.symm] at h
    refine zrun 1 (zb_f rfl (fun g => ?_) (fun g => ?_))
    · rw [g] at h
      exact zpc 81 (by decide) (zfg [0] (zloc [(0, .ref 1)] rfl h))
    · rw [g] at h
      refine zrun 8 ⟨⟨Nat.zero_le _, Nat.zero_le _, rfl⟩, ?_⟩
      refine c_needNumber hn5 hok.2 hok.1 ⟨rfl, ?_⟩
      refine zrun 1 ⟨⟨Nat.zero_le _, Nat.zero_le _, rfl⟩, ?_⟩
      refine c_setLength ⟨rfl, ?_⟩
      refine zrun 2 ⟨⟨Nat.zero_le _, Nat.zero_le _, rfl⟩, ?_⟩
      refine c_parseKind (IF := (yN T n 1 60 σ.1).2) hn5 (pOk_seg (s := s) hn5 hok).2 (yOk_N hn5 hok.1) ⟨rfl, ?_⟩
      refine zrun 2 (zloc [(0, _), (1, _)] rfl ?_)
      exact ih (s + 1) (pSeg T n s σ) (nI s + 1) (by omega) (nI_1 s) (pOk_seg hn5 hok) h
theorem c_parseStations {σ : zP} (hn5 : n ≤ 500) (hok : pOk T n σ) (hq : Q (.inl none) (zM o ot it (pS T n σ).1 (pS T n σ).2 AL AD)) : zW ε false (d + 8) 31 0 [(0, .ref 1)] [] (zM o ot it σ.1 σ.2 AL AD) 0 0 Q := by
  have h0 : yOk n (cond (yIs T n (zsg 0) σ.1) (yT T n σ.1) (yF (σ.1 2 5) 1 σ.1)) := by
    cases yIs T n (zsg 0) σ.1
    · exact yOk_F hok.1
    · exact (yOk_T hn5 hok.1).1
  have h1 : pOk T n (pS0 T n σ.1, σ.2) := ⟨yOk_K hn5 h0, hok.2⟩
  have h2 := pOk_seg (s := 0) hn5 h1
  have h3 := pOk_sl hn5 6 1 _ h2
  refine zrun 4 ⟨⟨Nat.zero_le _, Nat.zero_le _, rfl⟩, ?_⟩
  refine c_needWord (i := 0) hn5 hok.2 hok.1 (by omega) (zsg_lt 0 (by omega)) ⟨rfl, ?_⟩
  refine zrun 2 ⟨⟨Nat.zero_le _, Nat.zero_le _, rfl⟩, ?_⟩
  refine c_parseKind hn5 hok.2 h0 ⟨rfl, ?_⟩
  refine zrun 8 ⟨⟨Nat.zero_le _, Nat.zero_le _, rfl⟩, ?_⟩
  refine c_needNumber (IF := pS0 T n σ.1) hn5 hok.2 h1.1 ⟨rfl, ?_⟩
  refine zrun 1 ⟨⟨Nat.zero_le _, Nat.zero_le _, rfl⟩, ?_⟩
  refine c_setLength ⟨rfl, ?_⟩
  refine zrun 2 ⟨⟨Nat.zero_le _, Nat.zero_le _, rfl⟩, ?_⟩
  refine c_parseKind (IF := (yN T n 1 60 (pS0 T n σ.1)).2) hn5 h2.2 (yOk_N hn5 h1.1) ⟨rfl, ?_⟩
  refine zrun 2 (zloc [(0, _), (1, _)] rfl ?_)
  refine cl_sl hn5 6 1 (pSeg T n 0 (pS0 T n σ.1, σ.2)) 1 (by omega) rfl h2 ?_
  unfold pS at hq
  generalize pSl T n 6 1 (pSeg T n 0 (pS0 T n σ.1, σ.2)) = τ at hq h3
  obtain ⟨IF, A⟩ := τ
  refine zrun 3 ⟨⟨Nat.zero_le _, Nat.zero_le _, rfl⟩, ?_⟩
  refine c_isNumber (fun v hv => ⟨rfl, ?_⟩)
  unfold pSe at hq
  rw [show yNu IF = v from hv.symm] at hq
  refine zrun 1 (zb_f rfl (fun g => ?_) (fun g => ?_))
  · rw [g] at hq
    refine zrun 3 ⟨⟨Nat.zero_le _, Nat.zero_le _, rfl⟩, ?_⟩
    refine c_needSemicolon hn5 h3.2 h3.1 ⟨rfl, ?_⟩
    exact zrun 1 hq
  · rw [g] at hq
    refine zrun 5 ⟨⟨Nat.zero_le _, Nat.zero_le _, rfl⟩, ?_⟩
    refine c_needNumber hn5 h3.2 h3.1 ⟨rfl, ?_⟩
    refine zrun 5 ⟨⟨Nat.zero_le _, Nat.zero_le _, rfl⟩, ?_⟩
    refine c_failAtTaken ⟨rfl, ?_⟩
    refine zrun 3 ⟨⟨Nat.zero_le _, Nat.zero_le _, rfl⟩, ?_⟩
    refine c_needSemicolon hn5 h3.2 (yOk_F (yOk_N hn5 h3.1)) ⟨rfl, ?_⟩
    exact zrun 1 hq
end
