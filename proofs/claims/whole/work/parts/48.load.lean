/-! Parser.parse, load -/
def pCn (T : Nat → Nat) (n s : Nat) (σ : zP) : zP := (xr1 2 (nI s + 1) (pC T n (nI s) (yT T n σ.1, σ.2)).1, (pC T n (nI s) (yT T n σ.1, σ.2)).2)
def pCl (T : Nat → Nat) (n : Nat) : Nat → Nat → zP → zP
  | 0, _, σ => σ
  | k + 1, s, σ => cond (yIs T n (zsg 6) σ.1) (pCl T n k (s + 1) (pCn T n s σ)) σ
def pP0 (T : Nat → Nat) (n : Nat) (σ : zP) : zP := (xrI (yT T n (yBg σ.1)), σ.2)
def pP1 (T : Nat → Nat) (n : Nat) (σ : zP) : zP := (pSt T n 3 false false σ.1, σ.2)
def pP2 (T : Nat → Nat) (n : Nat) (σ : zP) : zP := (pXs T n 5 (pTl T n 8 0 σ).1, (pTl T n 8 0 σ).2)
def pP3 (T : Nat → Nat) (n : Nat) (σ : zP) : zP := (pXs T n 6 (pCl T n 8 0 σ).1, (pCl T n 8 0 σ).2)
def pP4 (σ : zP) : zP := (yEn σ.1, σ.2)
def pP (T : Nat → Nat) (n : Nat) (σ : zP) : zP := pP4 (pP3 T n (pP2 T n (pP1 T n (pS T n (pP0 T n σ)))))
section
variable {ε : Nat × (Nat → Int32)} {d : Nat} {Q : zQ} {o ot it : Value} {AL : Nat → Nat → Int64} {AD : Nat → Nat → UInt64} {T : Nat → Nat} {n : Nat}
theorem pOk_Cn (hn5 : n ≤ 500) {s : Nat} {σ : zP} (h : pOk T n σ) : pOk T n (pCn T n s σ) := by
  have h' : pOk T n (yT T n σ.1, σ.2) := ⟨(yOk_T hn5 h.1).1, h.2⟩
  have := pOk_C (c := nI s) hn5 h'
  exact ⟨yOk_r this.1, this.2⟩
theorem pOk_cl (hn5 : n ≤ 500) : ∀ (k s : Nat) (σ : zP), pOk T n σ → pOk T n (pCl T n k s σ)
  | 0, _, _, h => h
  | k + 1, s, σ, h => by
    unfold pCl
    cases yIs T n (zsg 6) σ.1
    · exact h
    · exact pOk_cl hn5 k (s + 1) _ (pOk_Cn hn5 h)
theorem cl_cl (hn5 : n ≤ 500) : ∀ (k s : Nat) (σ : zP) (c : Int32), s + k = 8 → c = nI s → pOk T n σ → zW ε false (d + 6) 36 41 [(0, .ref 1)] [] (zM o ot it (pCl T n k s σ).1 (pCl T n k s σ).2 AL AD) 0 0 Q → zW ε false (d + 6) 36 2 [(0, .ref 1), (1, .int c)] [] (zM o ot it σ.1 σ.2 AL AD) 0 0 Q := by
  intro k
  induction k with
  | zero =>
    intro s σ c hs hc hok h
    refine zrun 3 (zb_ge (b := 8) hc rfl (by omega) (by omega) (fun _ => ?_) (fun g => absurd g (by omega)))
    exact zpc 41 (by decide) (zfg [0] (zloc [(0, .ref 1)] rfl h))
  | succ k ih =>
    intro s σ c hs hc hok h
    subst hc
    refine zrun 3 (zb_ge (b := 8) rfl rfl (by omega) (by omega) (fun g => absurd g (by omega)) (fun _ => ?_))
    refine zrun 4 ⟨⟨Nat.zero_le _, Nat.zero_le _, rfl⟩, ?_⟩
    refine c_takesWord (i := 6) hn5 hok.2 hok.1 (by omega) (zsg_lt 6 (by omega)) ⟨rfl, ?_⟩
    unfold pCl at h
    refine zrun 1 (zb_f rfl (fun g => ?_) (fun g => ?_))
    · rw [g] at h ⊢
      exact zpc 41 (by decide) (zfg [0] (zloc [(0, .ref 1)] rfl h))
    · rw [g] at h ⊢
      have hok' : pOk T n (yT T n σ.1, σ.2) := ⟨(yOk_T hn5 hok.1).1, hok.2⟩
      refine zrun 3 ⟨⟨Nat.zero_le _, Nat.zero_le _, rfl⟩, ?_⟩
      refine c_parseConnection (σ := (yT T n σ.1, σ.2)) hn5 hok' ⟨rfl, ?_⟩
      exact zrun 8 (zloc [(0, _), (1, _)] rfl (ih (s + 1) (pCn T n s σ) (nI s + 1) (by omega) (nI_1 s) (pOk_Cn hn5 hok) h))
theorem c_parseConnections (hn5 : n ≤ 500) {σ : zP} (hok : pOk T n σ) (hq : Q (.inl none) (zM o ot it (pP3 T n σ).1 (pP3 T n σ).2 AL AD)) : zW ε false (d + 6) 36 0 [(0, .ref 1)] [] (zM o ot it σ.1 σ.2 AL AD) 0 0 Q := by
  have h3 := pOk_cl hn5 8 0 σ hok
  unfold pP3 at hq
  refine zrun 2 (cl_cl hn5 8 0 σ 0 (by omega) nI_0.symm hok ?_)
  generalize pCl T n 8 0 σ = τ at hq h3
  obtain ⟨IF, A⟩ := τ
  have h := h3.1
  refine zrun 4 ⟨⟨Nat.zero_le _, Nat.zero_le _, rfl⟩, ?_⟩
  refine c_isWord (IF := IF) (i := 6) hn5 h3.2 h.1 h.2.1 h.2.2.1 h.2.2.2.1 h.2.2.2.2 (by omega) (zsg_lt 6 (by omega)) (fun v hv => ⟨rfl, ?_⟩)
  unfold pXs at hq
  rw [show yIs T n (zsg 6) IF = v from hv.symm] at hq
  refine zrun 1 (zb_f rfl (fun g => ?_) (fun g => ?_))
  · subst g
    exact zrun 1 hq
  · subst g
    refine zrun 4 ⟨⟨Nat.zero_le _, Nat.zero_le _, rfl⟩, ?_⟩
    refine c_fail ⟨rfl, ?_⟩
    exact zrun 1 hq
end
