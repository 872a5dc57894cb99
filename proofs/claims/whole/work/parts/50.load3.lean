/-! Parser.parse, load -/
section
variable {ε : Nat × (Nat → Int32)} {d : Nat} {Q : zQ} {o ot it : Value} {AL : Nat → Nat → Int64} {AD : Nat → Nat → UInt64} {T : Nat → Nat} {n : Nat}
theorem cl_pa (hn5 : n ≤ 500) {σ : zP} (h0 : σ.1 2 0 = nI n) (hT : ∀ p, p < n → σ.2 3 p &&& 255 = nI (T p)) (hh : zW ε false (d + 9) 30 14 [(0, .ref 1)] [] (zM o ot it (pP0 T n σ).1 (pP0 T n σ).2 AL AD) 0 0 Q) : zW ε false (d + 9) 30 0 [(0, .ref 1)] [] (zM o ot it σ.1 σ.2 AL AD) 0 0 Q := by
  refine zrun 3 ⟨⟨Nat.le_of_ble_eq_true rfl, Nat.le_of_ble_eq_true rfl, rfl⟩, ?_⟩
  refine c_beginTokens hn5 hT h0 ⟨rfl, ?_⟩
  refine zrun 3 ⟨⟨Nat.le_of_ble_eq_true rfl, Nat.le_of_ble_eq_true rfl, rfl⟩, ?_⟩
  refine c_reset (IF := yT T n (yBg σ.1)) ⟨rfl, ?_⟩
  exact zpc 14 (by decide) hh
theorem cl_pb (hn5 : n ≤ 500) {σ : zP} (hok : pOk T n σ) (hh : zW ε false (d + 9) 30 18 [(0, .ref 1)] [] (zM o ot it (pS T n σ).1 (pS T n σ).2 AL AD) 0 0 Q) : zW ε false (d + 9) 30 14 [(0, .ref 1)] [] (zM o ot it σ.1 σ.2 AL AD) 0 0 Q := by
  refine zrun 2 ⟨⟨Nat.le_of_ble_eq_true rfl, Nat.le_of_ble_eq_true rfl, rfl⟩, ?_⟩
  refine c_parseStations (σ := σ) hn5 hok ⟨rfl, ?_⟩
  exact zpc 18 (by decide) hh
theorem cl_pc (hn5 : n ≤ 500) {σ : zP} (hok : pOk T n σ) (hh : zW ε false (d + 9) 30 22 [(0, .ref 1)] [] (zM o ot it (pP1 T n σ).1 (pP1 T n σ).2 AL AD) 0 0 Q) : zW ε false (d + 9) 30 18 [(0, .ref 1)] [] (zM o ot it σ.1 σ.2 AL AD) 0 0 Q := by
  refine zrun 2 ⟨⟨Nat.le_of_ble_eq_true rfl, Nat.le_of_ble_eq_true rfl, rfl⟩, ?_⟩
  refine c_parseSettings hn5 hok.2 hok.1 ⟨rfl, ?_⟩
  exact zpc 22 (by decide) hh
theorem cl_pd (hn5 : n ≤ 500) {σ : zP} (hok : pOk T n σ) (hh : zW ε false (d + 9) 30 26 [(0, .ref 1)] [] (zM o ot it (pP2 T n σ).1 (pP2 T n σ).2 AL AD) 0 0 Q) : zW ε false (d + 9) 30 22 [(0, .ref 1)] [] (zM o ot it σ.1 σ.2 AL AD) 0 0 Q := by
  refine zrun 2 ⟨⟨Nat.le_of_ble_eq_true rfl, Nat.le_of_ble_eq_true rfl, rfl⟩, ?_⟩
  refine c_parseTrains (d := d + 2) (σ := σ) hn5 hok ⟨rfl, ?_⟩
  exact zpc 26 (by decide) hh
theorem cl_pe (hn5 : n ≤ 500) {σ : zP} (hok : pOk T n σ) (hh : zW ε false (d + 9) 30 30 [(0, .ref 1)] [] (zM o ot it (pP3 T n σ).1 (pP3 T n σ).2 AL AD) 0 0 Q) : zW ε false (d + 9) 30 26 [(0, .ref 1)] [] (zM o ot it σ.1 σ.2 AL AD) 0 0 Q := by
  refine zrun 2 ⟨⟨Nat.le_of_ble_eq_true rfl, Nat.le_of_ble_eq_true rfl, rfl⟩, ?_⟩
  refine c_parseConnections (d := d + 2) (σ := σ) hn5 hok ⟨rfl, ?_⟩
  exact zpc 30 (by decide) hh
theorem cl_pf {σ : zP} (hq : ∀ v : Bool, v = decide ((pP4 σ).1 2 1 = 0) → Q (.inl (some (.int (zbo v)))) (zM o ot it (pP4 σ).1 (pP4 σ).2 AL AD)) : zW ε false (d + 9) 30 30 [(0, .ref 1)] [] (zM o ot it σ.1 σ.2 AL AD) 0 0 Q := by
  refine zrun 3 ⟨⟨Nat.le_of_ble_eq_true rfl, Nat.le_of_ble_eq_true rfl, rfl⟩, ?_⟩
  refine c_needEnd (d := d + 6) ⟨rfl, ?_⟩
  refine zrun 4 ⟨fun g => ?_, fun g => ?_⟩
  · exact zrun 2 ⟨rfl, hq false (decide_eq_false (show ¬ (pP4 σ).1 2 1 = 0 from g)).symm⟩
  · exact zrun 3 ⟨rfl, hq true (decide_eq_true (show (pP4 σ).1 2 1 = 0 from g)).symm⟩
theorem pOk_p1 (hn5 : n ≤ 500) {σ : zP} (h : pOk T n σ) : pOk T n (pP1 T n σ) := ⟨yOk_St hn5 3 false false _ h.1, h.2⟩
theorem pOk_p2 (hn5 : n ≤ 500) {σ : zP} (h : pOk T n σ) : pOk T n (pP2 T n σ) := ⟨yOk_Xs (pOk_tl hn5 8 0 _ h).1, (pOk_tl hn5 8 0 _ h).2⟩
theorem cl_pg (hn5 : n ≤ 500) {σ : zP} (hok : pOk T n σ) (hq : ∀ v : Bool, v = decide ((pP4 (pP3 T n (pP2 T n (pP1 T n (pS T n σ))))).1 2 1 = 0) → Q (.inl (some (.int (zbo v)))) (zM o ot it (pP4 (pP3 T n (pP2 T n (pP1 T n (pS T n σ))))).1 (pP4 (pP3 T n (pP2 T n (pP1 T n (pS T n σ))))).2 AL AD)) : zW ε false (d + 9) 30 14 [(0, .ref 1)] [] (zM o ot it σ.1 σ.2 AL AD) 0 0 Q := by
  refine cl_pb hn5 hok ?_
  have a1 := pOk_S hn5 hok
  generalize pS T n σ = τ at hq a1 ⊢
  refine cl_pc hn5 a1 ?_
  have a2 := pOk_p1 hn5 a1
  generalize pP1 T n τ = τ at hq a2 ⊢
  refine cl_pd hn5 a2 ?_
  have a3 := pOk_p2 hn5 a2
  generalize pP2 T n τ = τ at hq a3 ⊢
  refine cl_pe hn5 a3 ?_
  generalize pP3 T n τ = τ at hq ⊢
  exact cl_pf hq
theorem c_parse (hn5 : n ≤ 500) {σ : zP} (h0 : σ.1 2 0 = nI n) (hT : ∀ p, p < n → σ.2 3 p &&& 255 = nI (T p)) (hq : ∀ v : Bool, v = decide ((pP T n σ).1 2 1 = 0) → Q (.inl (some (.int (zbo v)))) (zM o ot it (pP T n σ).1 (pP T n σ).2 AL AD)) : zW ε false (d + 9) 30 0 [(0, .ref 1)] [] (zM o ot it σ.1 σ.2 AL AD) 0 0 Q := by
  have a0 := pOk_p0 (σ := σ) hn5 h0 hT
  refine cl_pa hn5 h0 hT ?_
  unfold pP at hq
  generalize pP0 T n σ = τ at hq a0 ⊢
  exact cl_pg hn5 a0 hq
/-- load: parse, forget the text; the line, the orders, the times -/
def xldI (T : Nat → Nat) (n : Nat) (σ : zP) : Nat → Nat → Int32 := yU 2 0 0 (pP T n σ).1
theorem c_load (hn5 : n ≤ 500) {σ : zP} (h0 : σ.1 2 0 = nI n) (hT : ∀ p, p < n → σ.2 3 p &&& 255 = nI (T p)) {S M N : Nat} (hW : (pP T n σ).1 2 1 = 0 → (pP T n σ).1 4 0 = nI S ∧ 2 ≤ S ∧ S ≤ 8 ∧ (pP T n σ).1 4 1 = nI M ∧ M ≤ 8 ∧ (pP T n σ).1 4 2 = nI N ∧ N ≤ 8) (h1 : (pP T n σ).1 2 1 = 0 → Q (.inl (some (.int (nI M)))) (zM o ot it (xbI (xcI (xldI T n σ))) (xbA (xcI (xldI T n σ)) N M S (xcA (pP T n σ).2)) AL AD)) (h2 : ¬ (pP T n σ).1 2 1 = 0 → Q (.inr 1) (zM o ot it (xldI T n σ) (pP T n σ).2 AL AD)) : zW ε false (d + 10) 80 0 [(0, .ref 0)] [] (zM o ot it σ.1 σ.2 AL AD) 0 0 Q := by
  refine zrun 3 ⟨⟨Nat.le_of_ble_eq_true rfl, Nat.le_of_ble_eq_true rfl, rfl⟩, ?_⟩
  refine c_parse hn5 h0 hT (fun v hv => ⟨rfl, ?_⟩)
  unfold xldI at h1 h2
  generalize pP T n σ = τ at hv h1 h2 hW
  refine zrun 1 (zloc [(0, _), (1, _)] rfl ?_)
  refine zrun 5 ?_
  refine zrun 2 (zb_t rfl (fun g => ?_) (fun g => ?_))
  · have e : τ.1 2 1 = 0 := by rw [g] at hv; exact of_decide_eq_true hv.symm
    obtain ⟨hS, hS2, hS8, hM, hM8, hN, hN8⟩ := hW e
    have q := h1 e
    refine zrun 6 ⟨⟨Nat.le_of_ble_eq_true rfl, Nat.le_of_ble_eq_true rfl, rfl⟩, ?_⟩
    refine c_copyLine (IF := yU 2 0 0 τ.1) ⟨rfl, ?_⟩
    refine zrun 2 ⟨⟨Nat.le_of_ble_eq_true rfl, Nat.le_of_ble_eq_true rfl, rfl⟩, ?_⟩
    refine c_beginAnew (d := d + 3) (IF := xcI (yU 2 0 0 τ.1)) hS hS2 hS8 hM hM8 hN hN8 ⟨rfl, ?_⟩
    rw [← show xbI (xcI (yU 2 0 0 τ.1)) 8 1 = nI M from hM] at q
    exact zrun 4 q
  · have e : ¬ τ.1 2 1 = 0 := by rw [g] at hv; exact of_decide_eq_false hv.symm
    exact zrun 1 ⟨⟨Nat.le_of_ble_eq_true rfl, Nat.le_of_ble_eq_true rfl, Nat.le_of_ble_eq_true rfl⟩, h2 e⟩
end
