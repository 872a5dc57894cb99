/-! Parser: trains -/
def pTl (T : Nat → Nat) (n : Nat) : Nat → Nat → zP → zP
  | 0, _, σ => σ
  | k + 1, s, σ => cond (yIs T n (zsg 5) σ.1) (pTl T n k (s + 1) (pT1 T n (nI s) (yT T n σ.1, σ.2))) σ
def pXs (T : Nat → Nat) (n i : Nat) (IF : Nat → Nat → Int32) : Nat → Nat → Int32 := cond (yIs T n (zsg i) IF) (yF (IF 2 5) 5 IF) IF
theorem pOk_tl {T : Nat → Nat} {n : Nat} (hn5 : n ≤ 500) : ∀ (k s : Nat) (σ : zP), pOk T n σ → pOk T n (pTl T n k s σ)
  | 0, _, _, h => h
  | k + 1, s, σ, h => by
    unfold pTl
    cases yIs T n (zsg 5) σ.1
    · exact h
    · exact pOk_tl hn5 k (s + 1) _ (pOk_T1 hn5 ⟨(yOk_T hn5 h.1).1, h.2⟩)
section
variable {ε : Nat × (Nat → Int32)} {d : Nat} {Q : zQ} {o ot it : Value} {AL : Nat → Nat → Int64} {AD : Nat → Nat → UInt64} {T : Nat → Nat} {n : Nat}
theorem cl_fb (hn5 : n ≤ 500) {t f : Int32} {σ : zP} (hok : pOk T n σ) (hh : zW ε false (d + 6) 35 76 [(0, .ref 1), (1, .int t), (2, .int f)] [] (zM o ot it (pOf T n t 1 (f + 1) (σ.1 4 0 - 1) σ).1 (pOf T n t 1 (f + 1) (σ.1 4 0 - 1) σ).2 AL AD) 0 0 Q) : zW ε false (d + 6) 35 48 [(0, .ref 1), (1, .int t), (2, .int f)] [] (zM o ot it σ.1 σ.2 AL AD) 0 0 Q := by
  refine zrun 15 ⟨⟨Nat.zero_le _, Nat.zero_le _, rfl⟩, ?_⟩
  refine c_needNumber hn5 hok.2 hok.1 ⟨rfl, ?_⟩
  refine zrun 1 ⟨⟨Nat.zero_le _, Nat.zero_le _, rfl⟩, ?_⟩
  refine c_setOf ⟨rfl, ?_⟩
  exact zpc 76 (by decide) hh
theorem cl_fc (hn5 : n ≤ 500) {t f : Int32} {σ : zP} (hok : pOk T n σ) (hh : zW ε false (d + 6) 35 96 [(0, .ref 1), (1, .int t), (2, .int f)] [] (zM o ot it (pOf T n t 2 0 1000 σ).1 (pOf T n t 2 0 1000 σ).2 AL AD) 0 0 Q) : zW ε false (d + 6) 35 76 [(0, .ref 1), (1, .int t), (2, .int f)] [] (zM o ot it σ.1 σ.2 AL AD) 0 0 Q := by
  refine zrun 9 ⟨⟨Nat.zero_le _, Nat.zero_le _, rfl⟩, ?_⟩
  refine c_needNumber hn5 hok.2 hok.1 ⟨rfl, ?_⟩
  refine zrun 1 ⟨⟨Nat.zero_le _, Nat.zero_le _, rfl⟩, ?_⟩
  refine c_setOf ⟨rfl, ?_⟩
  exact zpc 96 (by decide) hh
theorem cl_fd (hn5 : n ≤ 500) {t f : Int32} {σ : zP} (hok : pOk T n σ) (hh : zW ε false (d + 6) 35 114 [(0, .ref 1), (1, .int t), (2, .int f)] [] (zM o ot it (pOf T n t 3 1 5 σ).1 (pOf T n t 3 1 5 σ).2 AL AD) 0 0 Q) : zW ε false (d + 6) 35 96 [(0, .ref 1), (1, .int t), (2, .int f)] [] (zM o ot it σ.1 σ.2 AL AD) 0 0 Q := by
  refine zrun 9 ⟨⟨Nat.zero_le _, Nat.zero_le _, rfl⟩, ?_⟩
  refine c_needNumber hn5 hok.2 hok.1 ⟨rfl, ?_⟩
  refine zrun 1 ⟨⟨Nat.zero_le _, Nat.zero_le _, rfl⟩, ?_⟩
  refine c_setOf ⟨rfl, ?_⟩
  exact zpc 114 (by decide) hh
theorem cl_fe (hn5 : n ≤ 500) {t f : Int32} {σ : zP} (hok : pOk T n σ) (hh : zW ε false (d + 6) 35 133 [(0, .ref 1), (1, .int t), (2, .int f)] [] (zM o ot it (pOf T n t 4 0 20 σ).1 (pOf T n t 4 0 20 σ).2 AL AD) 0 0 Q) : zW ε false (d + 6) 35 114 [(0, .ref 1), (1, .int t), (2, .int f)] [] (zM o ot it σ.1 σ.2 AL AD) 0 0 Q := by
  refine zrun 9 ⟨⟨Nat.zero_le _, Nat.zero_le _, rfl⟩, ?_⟩
  refine c_needNumber hn5 hok.2 hok.1 ⟨rfl, ?_⟩
  refine zrun 1 ⟨⟨Nat.zero_le _, Nat.zero_le _, rfl⟩, ?_⟩
  refine c_setOf ⟨rfl, ?_⟩
  exact zpc 133 (by decide) hh
theorem cl_ff (hn5 : n ≤ 500) {t f : Int32} {σ : zP} (hok : pOk T n σ) (hh : zW ε false (d + 6) 35 150 [(0, .ref 1), (1, .int t)] [] (zM o ot it (xr1 1 (t + 1) (ySe T n σ.1)) σ.2 AL AD) 0 0 Q) : zW ε false (d + 6) 35 133 [(0, .ref 1), (1, .int t), (2, .int f)] [] (zM o ot it σ.1 σ.2 AL AD) 0 0 Q := by
  refine zrun 3 ⟨⟨Nat.zero_le _, Nat.zero_le _, rfl⟩, ?_⟩
  refine c_needSemicolon hn5 hok.2 hok.1 ⟨rfl, ?_⟩
  refine zrun 6 (zfg [0, 1] ?_)
  exact zloc [(0, _), (1, _)] rfl (zpc 150 (by decide) hh)
theorem cl_fa (hn5 : n ≤ 500) {t : Int32} {σ : zP} (hok : pOk T n σ) (hh : zW ε false (d + 6) 35 48 [(0, .ref 1), (1, .int t), (2, .int (yN T n 0 (σ.1 4 0 - 1) σ.1).1)] [] (zM o ot it (pTa T n t σ).1 (pTa T n t σ).2 AL AD) 0 0 Q) : zW ε false (d + 6) 35 20 [(0, .ref 1), (1, .int t)] [] (zM o ot it σ.1 σ.2 AL AD) 0 0 Q := by
  refine zrun 9 ⟨⟨Nat.zero_le _, Nat.zero_le _, rfl⟩, ?_⟩
  refine c_needNumber hn5 hok.2 hok.1 ⟨rfl, ?_⟩
  refine zrun 1 (zloc [(0, _), (1, _), (2, _)] rfl ?_)
  refine zrun 6 ⟨⟨Nat.zero_le _, Nat.zero_le _, rfl⟩, ?_⟩
  refine c_setOf ⟨rfl, ?_⟩
  exact zpc 48 (by decide) hh
theorem cl_t1b (hn5 : n ≤ 500) {t : Int32} {σ : zP} (hok : pOk T n σ) (hh : zW ε false (d + 6) 35 150 [(0, .ref 1), (1, .int t)] [] (zM o ot it (pT1 T n t σ).1 (pT1 T n t σ).2 AL AD) 0 0 Q) : zW ε false (d + 6) 35 20 [(0, .ref 1), (1, .int t)] [] (zM o ot it σ.1 σ.2 AL AD) 0 0 Q := by
  have ha : pOk T n (pTa T n t σ) := pOk_of hn5 hok
  have hc : pOk T n (pTc T n t σ) := pOk_of hn5 ha
  have h2 : pOk T n (pOf T n t 2 0 1000 (pTc T n t σ)) := pOk_of hn5 hc
  have h3 : pOk T n (pOf T n t 3 1 5 (pOf T n t 2 0 1000 (pTc T n t σ))) := pOk_of hn5 h2
  have h4 : pOk T n (pTd T n t σ) := pOk_of hn5 h3
  exact cl_fa hn5 hok (cl_fb hn5 ha (cl_fc hn5 hc (cl_fd hn5 h2 (cl_fe hn5 h3 (cl_ff hn5 h4 hh)))))
theorem cl_tl (hn5 : n ≤ 500) : ∀ (k s : Nat) (σ : zP) (c : Int32), s + k = 8 → c = nI s → pOk T n σ → zW ε false (d + 6) 35 156 [(0, .ref 1)] [] (zM o ot it (pTl T n k s σ).1 (pTl T n k s σ).2 AL AD) 0 0 Q → zW ε false (d + 6) 35 2 [(0, .ref 1), (1, .int c)] [] (zM o ot it σ.1 σ.2 AL AD) 0 0 Q := by
  intro k
  induction k with
  | zero =>
    intro s σ c hs hc hok h
    refine zrun 3 (zb_ge (b := 8) hc rfl (by omega) (by omega) (fun _ => ?_) (fun g => absurd g (by omega)))
    exact zpc 156 (by decide) (zfg [0] (zloc [(0, .ref 1)] rfl h))
  | succ k ih =>
    intro s σ c hs hc hok h
    subst hc
    refine zrun 3 (zb_ge (b := 8) rfl rfl (by omega) (by omega) (fun g => absurd g (by omega)) (fun _ => ?_))
    refine zrun 4 ⟨⟨Nat.zero_le _, Nat.zero_le _, rfl⟩, ?_⟩
    refine c_takesWord (i := 5) hn5 hok.2 hok.1 (by omega) (zsg_lt 5 (by omega)) ⟨rfl, ?_⟩
    unfold pTl at h
    refine zrun 1 (zb_f rfl (fun g => ?_) (fun g => ?_))
    · rw [g] at h ⊢
      exact zpc 156 (by decide) (zfg [0] (zloc [(0, .ref 1)] rfl h))
    · rw [g] at h ⊢
      have hok' : pOk T n (yT T n σ.1, σ.2) := ⟨(yOk_T hn5 hok.1).1, hok.2⟩
      refine zpc 20 (by decide) (cl_t1b (σ := (yT T n σ.1, σ.2)) hn5 hok' ?_)
      exact zrun 2 (zloc [(0, _), (1, _)] rfl (ih (s + 1) _ (nI s + 1) (by omega) (nI_1 s) (pOk_T1 hn5 hok') h))
theorem c_parseTrains (hn5 : n ≤ 500) {σ : zP} (hok : pOk T n σ) (hq : Q (.inl none) (zM o ot it (pXs T n 5 (pTl T n 8 0 σ).1) (pTl T n 8 0 σ).2 AL AD)) : zW ε false (d + 6) 35 0 [(0, .ref 1)] [] (zM o ot it σ.1 σ.2 AL AD) 0 0 Q := by
  have h3 := pOk_tl hn5 8 0 σ hok
  refine zrun 2 (cl_tl hn5 8 0 σ 0 (by omega) nI_0.symm hok ?_)
  generalize pTl T n 8 0 σ = τ at hq h3
  obtain ⟨IF, A⟩ := τ
  have h := h3.1
  refine zrun 4 ⟨⟨Nat.zero_le _, Nat.zero_le _, rfl⟩, ?_⟩
  refine c_isWord (IF := IF) (i := 5) hn5 h3.2 h.1 h.2.1 h.2.2.1 h.2.2.2.1 h.2.2.2.2 (by omega) (zsg_lt 5 (by omega)) (fun v hv => ⟨rfl, ?_⟩)
  unfold pXs at hq
  rw [show yIs T n (zsg 5) IF = v from hv.symm] at hq
  refine zrun 1 (zb_f rfl (fun g => ?_) (fun g => ?_))
  · subst g
    exact zrun 1 hq
  · subst g
    refine zrun 4 ⟨⟨Nat.zero_le _, Nat.zero_le _, rfl⟩, ?_⟩
    refine c_fail ⟨rfl, ?_⟩
    exact zrun 1 hq
end
