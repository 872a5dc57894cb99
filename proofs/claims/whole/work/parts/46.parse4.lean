/-! Parser: connections -/
def pCeq (f t : Int32) (IF : Nat → Nat → Int32) : Nat → Nat → Int32 := if f = t then yF (IF 2 7) 4 IF else IF
def pCok (f t s : Int32) (σ : zP) : Bool := xs σ.1 4 s && (xa σ.2 4 f s && xd σ.2 4 t s)
def pCs (f t s : Int32) (σ : zP) : Nat → Nat → Int32 := cond (pCok f t s σ) σ.1 (yF (σ.1 2 7) 4 σ.1)
def pLk (c w v : Int32) (A : Nat → Nat → Int32) : Nat → Nat → Int32 := va_up A 7 (upd (A 7) (8 * m8 c + m8 w) v)
theorem yOk_eq {n : Nat} {f t : Int32} {IF : Nat → Nat → Int32} (h : yOk n IF) : yOk n (pCeq f t IF) := by
  unfold pCeq
  split
  · exact yOk_F h
  · exact h
theorem yOk_Cs {n : Nat} {f t s : Int32} {σ : zP} (h : yOk n σ.1) : yOk n (pCs f t s σ) := by
  unfold pCs
  cases pCok f t s σ
  · exact yOk_F h
  · exact h
section
variable {ε : Nat × (Nat → Int32)} {d : Nat} {Q : zQ} {o ot it : Value} {AL : Nat → Nat → Int64} {AD : Nat → Nat → UInt64} {T : Nat → Nat} {n : Nat}
theorem cl_ca (hn5 : n ≤ 500) {c : Int32} {σ : zP} (hok : pOk T n σ) (hh : zW ε false (d + 4) 37 18 [(0, .ref 1), (1, .int c), (2, .int (yN T n 0 (σ.1 4 1 - 1) σ.1).1)] [] (zM o ot it (yN T n 0 (σ.1 4 1 - 1) σ.1).2 σ.2 AL AD) 0 0 Q) : zW ε false (d + 4) 37 0 [(0, .ref 1), (1, .int c)] [] (zM o ot it σ.1 σ.2 AL AD) 0 0 Q := by
  refine zrun 9 ⟨⟨Nat.zero_le _, Nat.zero_le _, rfl⟩, ?_⟩
  refine c_needNumber hn5 hok.2 hok.1 ⟨rfl, ?_⟩
  exact zrun 1 (zloc [(0, _), (1, _), (2, _)] rfl (zpc 18 (by decide) hh))
theorem cl_cb (hn5 : n ≤ 500) {c f : Int32} {σ : zP} (hok : pOk T n σ) (hh : zW ε false (d + 4) 37 49 [(0, .ref 1), (1, .int c), (2, .int f), (3, .int (yN T n 0 (σ.1 4 1 - 1) σ.1).1)] [] (zM o ot it (pCeq f (yN T n 0 (σ.1 4 1 - 1) σ.1).1 (yN T n 0 (σ.1 4 1 - 1) σ.1).2) σ.2 AL AD) 0 0 Q) : zW ε false (d + 4) 37 18 [(0, .ref 1), (1, .int c), (2, .int f)] [] (zM o ot it σ.1 σ.2 AL AD) 0 0 Q := by
  refine zrun 9 ⟨⟨Nat.zero_le _, Nat.zero_le _, rfl⟩, ?_⟩
  refine c_needNumber hn5 hok.2 hok.1 ⟨rfl, ?_⟩
  refine zrun 1 (zloc [(0, _), (1, _), (2, _), (3, _)] rfl ?_)
  unfold pCeq at hh
  refine zrun 3 ⟨fun g => ?_, fun g => ?_⟩
  · rw [if_neg (show ¬ f = (yN T n 0 (σ.1 4 1 - 1) σ.1).1 from g)] at hh
    exact zpc 49 (by decide) hh
  · rw [if_pos (show f = (yN T n 0 (σ.1 4 1 - 1) σ.1).1 from g)] at hh
    refine zrun 4 ⟨⟨Nat.zero_le _, Nat.zero_le _, rfl⟩, ?_⟩
    refine c_failAtTaken ⟨rfl, ?_⟩
    exact zpc 49 (by decide) hh
theorem cl_cc (hn5 : n ≤ 500) {c f t : Int32} {σ : zP} (hok : pOk T n σ) (hh : zW ε false (d + 4) 37 68 [(0, .ref 1), (1, .int c), (2, .int f), (3, .int t), (4, .int (yN T n 0 (σ.1 4 0 - 1) σ.1).1)] [] (zM o ot it (yN T n 0 (σ.1 4 0 - 1) σ.1).2 σ.2 AL AD) 0 0 Q) : zW ε false (d + 4) 37 49 [(0, .ref 1), (1, .int c), (2, .int f), (3, .int t)] [] (zM o ot it σ.1 σ.2 AL AD) 0 0 Q := by
  refine zrun 9 ⟨⟨Nat.zero_le _, Nat.zero_le _, rfl⟩, ?_⟩
  refine c_needNumber hn5 hok.2 hok.1 ⟨rfl, ?_⟩
  exact zrun 1 (zloc [(0, _), (1, _), (2, _), (3, _), (4, _)] rfl (zpc 68 (by decide) hh))
theorem cl_cd {c f t s : Int32} {σ : zP} (hh : zW ε false (d + 4) 37 114 [(0, .ref 1), (1, .int c), (2, .int f), (3, .int t), (4, .int s)] [] (zM o ot it (pCs f t s σ) σ.2 AL AD) 0 0 Q) : zW ε false (d + 4) 37 68 [(0, .ref 1), (1, .int c), (2, .int f), (3, .int t), (4, .int s)] [] (zM o ot it σ.1 σ.2 AL AD) 0 0 Q := by
  have bad : pCok f t s σ = false → zW ε false (d + 4) 37 106 [(0, .ref 1), (1, .int c), (2, .int f), (3, .int t), (4, .int s)] [] (zM o ot it σ.1 σ.2 AL AD) 0 0 Q := by
    intro g
    unfold pCs at hh
    rw [g] at hh
    refine zrun 4 ⟨⟨Nat.zero_le _, Nat.zero_le _, rfl⟩, ?_⟩
    refine c_failAtTaken ⟨rfl, ?_⟩
    exact zpc 114 (by decide) hh
  refine zrun 4 ⟨⟨Nat.zero_le _, Nat.zero_le _, rfl⟩, ?_⟩
  refine c_hasSiding (Or.inl rfl) ⟨rfl, ?_⟩
  refine zrun 1 (zb_f rfl (fun g1 => ?_) (fun g1 => ?_))
  · exact zpc 106 (by decide) (bad (by unfold pCok; rw [g1]; rfl))
  · refine zrun 5 ⟨⟨Nat.zero_le _, Nat.zero_le _, rfl⟩, ?_⟩
    refine c_arrives (Or.inl rfl) ⟨rfl, ?_⟩
    refine zrun 1 (zb_f rfl (fun g2 => ?_) (fun g2 => ?_))
    · exact zpc 106 (by decide) (bad (by unfold pCok; rw [g1, g2]; rfl))
    · refine zrun 5 ⟨⟨Nat.zero_le _, Nat.zero_le _, rfl⟩, ?_⟩
      refine c_departs (Or.inl rfl) ⟨rfl, ?_⟩
      refine zrun 1 (zb_t rfl (fun g3 => ?_) (fun g3 => ?_))
      · unfold pCs pCok at hh
        rw [g1, g2, g3] at hh
        exact zpc 114 (by decide) hh
      · exact zpc 106 (by decide) (bad (by unfold pCok; rw [g1, g2, g3]; rfl))
end
