/-! Parser.parse and load -/
section
variable {ε : Nat × (Nat → Int32)} {d : Nat} {Q : zQ} {o ot it : Value} {AL : Nat → Nat → Int64} {AD : Nat → Nat → UInt64} {T : Nat → Nat} {n : Nat}
theorem yOk_T0 (hn5 : n ≤ 500) {IF : Nat → Nat → Int32} (h0 : IF 2 0 = nI n) (hen : yE IF ≤ n) : yOk n (yT T n IF) := by
  have hb := tkb_le (T := T) hen
  have he := tke_le (T := T) hb.2
  have e5 : yB (yT T n IF) = tkb T n (yE IF) := by unfold yB; rw [yT_5, pk_tn (by omega)]
  have e6 : yE (yT T n IF) = tke T n (tkb T n (yE IF)) := by
    show (yT T n IF 2 6).toBitVec.toNat = _
    rw [yT_6, pk_tn (by omega)]
  refine ⟨h0, ?_, ?_, ?_, ?_⟩
  · rw [e5]; rfl
  · rw [e6]; rfl
  · rw [e5, e6]; exact he.1
  · rw [e6]; exact he.2
theorem pOk_p0 (hn5 : n ≤ 500) {σ : zP} (h0 : σ.1 2 0 = nI n) (hT : ∀ p, p < n → σ.2 3 p &&& 255 = nI (T p)) : pOk T n (pP0 T n σ) := by
  have h : yOk n (yT T n (yBg σ.1)) := yOk_T0 hn5 h0 (Nat.zero_le _)
  exact ⟨h, hT⟩
theorem pOk_S (hn5 : n ≤ 500) {σ : zP} (hok : pOk T n σ) : pOk T n (pS T n σ) := by
  have h0 : yOk n (cond (yIs T n (zsg 0) σ.1) (yT T n σ.1) (yF (σ.1 2 5) 1 σ.1)) := by
    cases yIs T n (zsg 0) σ.1
    · exact yOk_F hok.1
    · exact (yOk_T hn5 hok.1).1
  have h1 : pOk T n (pS0 T n σ.1, σ.2) := ⟨yOk_K hn5 h0, hok.2⟩
  have h3 := pOk_sl hn5 6 1 _ (pOk_seg (s := 0) hn5 h1)
  unfold pS
  generalize pSl T n 6 1 (pSeg T n 0 (pS0 T n σ.1, σ.2)) = τ at h3 ⊢
  refine ⟨?_, h3.2⟩
  show yOk n (pSe T n τ.1)
  unfold pSe
  refine yOk_S hn5 ?_
  cases yNu τ.1
  · exact h3.1
  · exact yOk_F (yOk_N hn5 h3.1)
theorem yOk_St (hn5 : n ≤ 500) : ∀ (k : Nat) (hh hw : Bool) (IF : Nat → Nat → Int32), yOk n IF → yOk n (pSt T n k hh hw IF)
  | 0, _, _, _, h => h
  | k + 1, hh, hw, IF, h => by
    unfold pSt
    cases yIs T n (zsg 3) IF
    · cases yIs T n (zsg 4) IF
      · exact yOk_St hn5 k hh hw IF h
      · exact yOk_St hn5 k hh true _ (yOk_St1 hn5 h)
    · exact yOk_St hn5 k true hw _ (yOk_St1 hn5 h)
theorem yOk_Xs {i : Nat} {IF : Nat → Nat → Int32} (h : yOk n IF) : yOk n (pXs T n i IF) := by
  unfold pXs
  cases yIs T n (zsg i) IF
  · exact h
  · exact yOk_F h
end
