/-! the end of law, as the claim wants it -/
theorem sbn_fresh {s s' : State} {L : List Loc} {k n : Nat} (h : s.sameButNew s' L k n) (hL : ∀ x ∈ L, s.heap.size ≤ x.base) : s.sameButNew s' [] k n := by
  obtain ⟨h1, h2, h3, h4, h5, h6⟩ := h
  refine ⟨h1, h2, h3, h4, h5, fun a c hc => ?_⟩
  obtain ⟨c', q1, q2, q3, q4⟩ := h6 a c hc
  refine ⟨c', q1, q2, q3, fun i _ => q4 i (fun hm => ?_)⟩
  have e1 := hL _ hm
  have e2 := (Array.getElem?_eq_some_iff.mp hc).1
  exact absurd e2 (Nat.not_lt.mpr e1)
def lawQ : zQ := fun r _ => r = .inl (some (.int 1))
theorem end_Y {D : va_G} {below : List Frame} {b : Nat} {s t : State} {n0 : Nat} {ad0 : Nat → Nat} {ca0 : Nat → ClassId} {tys0 : List (ClassId × FieldType)} (h : vx_MQ below (zQc D s.heap.size true n0 ad0 ca0 tys0 lawQ) (zXC D s.heap.size n0 ad0 ca0 tys0 lawQ) #[.ref b] s 601024 7293034 (zA s.heap.size) t) : ∃ o, t.status = .running ∧ Ended t below o ∧ o = .returned (some (.int 1)) ∧ s.WarmedH t.vm ∧ s.sameButNew ({ t with vm := s.vm } : State) [] 601024 7293034 := by
  obtain ⟨o, r1, r2, q⟩ := h
  rcases q with ⟨⟨⟨v, h', ad', ca', tys', eo, hq, -⟩, -⟩, L, hfe, hL⟩ | ⟨q, ho, E, ce, L, ⟨⟨x, h', -, -, hq, -⟩, -⟩, -⟩
  · have hv : v = some (.int 1) := Sum.inl.inj hq
    subst hv
    obtain ⟨hv, hW, hs⟩ := hfe
    exact ⟨o, r1, r2, eo, hW, sbn_fresh hs hL⟩
  · exact nomatch (show (Sum.inr x : Option Value ⊕ Nat) = Sum.inl (some (.int 1)) from hq)
/-- law, from its entry: what the claim asks, where frame, surroundings and words are given -/
theorem law_W {D : va_G} {p : Program} {l : Launch} {e : Env} {R : Room} {s : State} {m : MethodId} {below : List Frame} {meth : Method} {c : Code} {b L : Nat} {xs : Nat → Int32} {ad : Nat → Nat} {ca : Nat → ClassId} {tys : List (ClassId × FieldType)} {ls : Array Slot} (hL : L ≤ 3072) (hF : zFr l p s m #[.ref b] meth c R 22 232) (hV : zEnv s.heap.size (L, xs) ad s s.heap) (hw : zWo D s.heap.size ad ca tys hE s s.heap) (hl : lv_has ls (zML 232) (zvl ad [(0, .ref 2000)])) : W p l e R s m #[.ref b] below meth c s.heap [] 0 0 (fun t => ∃ o, t.status = .running ∧ Ended t below o ∧ o = .returned (some (.int 1)) ∧ s.WarmedH t.vm ∧ s.sameButNew ({ t with vm := s.vm } : State) [] 601024 7293034) (F0 m 0 ls []) := by
  have k := (zsound : zLe (zW (L, xs)) (zSd D s.heap.size (L, xs))) true 22 232 0 [(0, .ref 2000)] [] hE 0 0 lawQ (law_true (d := 0) hL (fun _ => rfl)) l p e R s m #[.ref b] below meth c ad ca tys 0 ad ca tys s.heap [] ls hF hV hw ⟨Nat.le_refl _, fun _ _ _ => rfl, fun _ h => (nomatch h)⟩ hl ⟨Nat.zero_le _, Nat.zero_le _, Nat.zero_le _⟩ ⟨fun _ _ => rfl, fun z => Bool.noConfusion z⟩
  intro T hT X
  obtain ⟨t, a, q⟩ := k T hT X
  exact ⟨t, a, end_Y q⟩
/-- no cell at first -/
theorem hE_w {D : va_G} {ad : Nat → Nat} {ca : Nat → ClassId} {s : State} {z0 : Nat} {H : Heap} (hK : va_K D vwCl [] s) : zWo D z0 ad ca [] hE s H := by
  have e : zw ad ca hE = [] := rfl
  have e2 : hE.1 = [] := rfl
  refine ⟨⟨?_, ?_⟩, hK, fun k t n h => ?_⟩
  · rw [e]
    intro k q hq
    simp at hq
  · rw [e]
    exact ⟨fun i j p q hp => by simp at hp, fun k q hq => by simp at hq⟩
  · rw [e2] at h
    simp at h
theorem law_W2 {D : va_G} {p : Program} {l : Launch} {e : Env} {R : Room} {s : State} {m : MethodId} {below : List Frame} {meth : Method} {c : Code} {b L : Nat} {xs : Nat → Int32} {ad : Nat → Nat} {ca : Nat → ClassId} (hL : L ≤ 3072) (hF : zFr l p s m #[.ref b] meth c R 22 232) (hV : zEnv s.heap.size (L, xs) ad s s.heap) (hK : va_K D vwCl [] s) (hb : ad 2000 = b) : W p l e R s m #[.ref b] below meth c s.heap [] 0 0 (fun t => ∃ o, t.status = .running ∧ Ended t below o ∧ o = .returned (some (.int 1)) ∧ s.WarmedH t.vm ∧ s.sameButNew ({ t with vm := s.vm } : State) [] 601024 7293034) (entryFrame m ([Value.ref b] : List Value).toArray 9) := by
  subst hb
  rw [lg_entry_eq]
  exact law_W (ca := ca) hL hF hV (hE_w hK) (lv_entry [Value.ref (ad 2000)] (n := 9) (Nat.le_of_ble_eq_true rfl))
