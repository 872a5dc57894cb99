/-! Parser: connections, to the end -/
def pCf (T : Nat → Nat) (n : Nat) (σ : zP) : Int32 := (yN T n 0 (σ.1 4 1 - 1) σ.1).1
def pC1 (T : Nat → Nat) (n : Nat) (σ : zP) : zP := ((yN T n 0 (σ.1 4 1 - 1) σ.1).2, σ.2)
def pC2 (T : Nat → Nat) (n : Nat) (f : Int32) (σ : zP) : zP := (pCeq f (pCf T n σ) (pC1 T n σ).1, σ.2)
def pCst (T : Nat → Nat) (n : Nat) (σ : zP) : Int32 := (yN T n 0 (σ.1 4 0 - 1) σ.1).1
def pC3 (T : Nat → Nat) (n : Nat) (σ : zP) : zP := ((yN T n 0 (σ.1 4 0 - 1) σ.1).2, σ.2)
def pC4 (f t s : Int32) (σ : zP) : zP := (pCs f t s σ, σ.2)
def pC5 (c f t s : Int32) (σ : zP) : zP := (σ.1, pLk c 2 s (pLk c 1 t (pLk c 0 f σ.2)))
def pC6 (T : Nat → Nat) (n : Nat) (c : Int32) (σ : zP) : zP := (ySe T n (yN T n 0 30 σ.1).2, pLk c 3 (yN T n 0 30 σ.1).1 σ.2)
def pC7 (T : Nat → Nat) (n : Nat) (c f t : Int32) (σ : zP) : zP := pC6 T n c (pC5 c f t (pCst T n σ) (pC4 f t (pCst T n σ) (pC3 T n σ)))
def pC (T : Nat → Nat) (n : Nat) (c : Int32) (σ : zP) : zP := pC7 T n c (pCf T n σ) (pCf T n (pC1 T n σ)) (pC2 T n (pCf T n σ) (pC1 T n σ))
section
variable {ε : Nat × (Nat → Int32)} {d : Nat} {Q : zQ} {o ot it : Value} {AL : Nat → Nat → Int64} {AD : Nat → Nat → UInt64} {T : Nat → Nat} {n : Nat}
theorem pOk_1 (hn5 : n ≤ 500) {σ : zP} (h : pOk T n σ) : pOk T n (pC1 T n σ) := ⟨yOk_N hn5 h.1, h.2⟩
theorem pOk_2 (hn5 : n ≤ 500) {f : Int32} {σ : zP} (h : pOk T n σ) : pOk T n (pC2 T n f σ) := ⟨yOk_eq (yOk_N hn5 h.1), h.2⟩
theorem pOk_3 (hn5 : n ≤ 500) {σ : zP} (h : pOk T n σ) : pOk T n (pC3 T n σ) := ⟨yOk_N hn5 h.1, h.2⟩
theorem pOk_4 {f t s : Int32} {σ : zP} (h : pOk T n σ) : pOk T n (pC4 f t s σ) := ⟨yOk_Cs h.1, h.2⟩
theorem pOk_5 {c f t s : Int32} {σ : zP} (h : pOk T n σ) : pOk T n (pC5 c f t s σ) := ⟨h.1, h.2⟩
theorem pOk_6 (hn5 : n ≤ 500) {c : Int32} {σ : zP} (h : pOk T n σ) : pOk T n (pC6 T n c σ) := ⟨yOk_S hn5 (yOk_N hn5 h.1), h.2⟩
theorem pOk_7 (hn5 : n ≤ 500) {c f t : Int32} {σ : zP} (h : pOk T n σ) : pOk T n (pC7 T n c f t σ) := pOk_6 hn5 (pOk_5 (pOk_4 (pOk_3 hn5 h)))
theorem pOk_C (hn5 : n ≤ 500) {c : Int32} {σ : zP} (h : pOk T n σ) : pOk T n (pC T n c σ) := pOk_7 hn5 (pOk_2 hn5 (pOk_1 hn5 h))
theorem cl_ce {c f t s : Int32} {σ : zP} (hh : zW ε false (d + 4) 37 145 [(0, .ref 1), (1, .int c), (2, .int f), (3, .int t), (4, .int s)] [] (zM o ot it (pC5 c f t s σ).1 (pC5 c f t s σ).2 AL AD) 0 0 Q) : zW ε false (d + 4) 37 114 [(0, .ref 1), (1, .int c), (2, .int f), (3, .int t), (4, .int s)] [] (zM o ot it σ.1 σ.2 AL AD) 0 0 Q := by
  refine zrun 6 ⟨⟨Nat.zero_le _, Nat.zero_le _, rfl⟩, ?_⟩
  refine c_setLink ⟨rfl, ?_⟩
  refine zrun 6 ⟨⟨Nat.zero_le _, Nat.zero_le _, rfl⟩, ?_⟩
  refine c_setLink ⟨rfl, ?_⟩
  refine zrun 6 ⟨⟨Nat.zero_le _, Nat.zero_le _, rfl⟩, ?_⟩
  refine c_setLink ⟨rfl, ?_⟩
  exact zpc 145 (by decide) hh
theorem cl_cf (hn5 : n ≤ 500) {c f t s : Int32} {σ : zP} (hok : pOk T n σ) (hq : Q (.inl none) (zM o ot it (pC6 T n c σ).1 (pC6 T n c σ).2 AL AD)) : zW ε false (d + 4) 37 145 [(0, .ref 1), (1, .int c), (2, .int f), (3, .int t), (4, .int s)] [] (zM o ot it σ.1 σ.2 AL AD) 0 0 Q := by
  refine zrun 9 ⟨⟨Nat.zero_le _, Nat.zero_le _, rfl⟩, ?_⟩
  refine c_needNumber hn5 hok.2 hok.1 ⟨rfl, ?_⟩
  refine zrun 1 ⟨⟨Nat.zero_le _, Nat.zero_le _, rfl⟩, ?_⟩
  refine c_setLink ⟨rfl, ?_⟩
  refine zrun 3 ⟨⟨Nat.zero_le _, Nat.zero_le _, rfl⟩, ?_⟩
  refine c_needSemicolon hn5 hok.2 (yOk_N hn5 hok.1) ⟨rfl, ?_⟩
  exact zrun 1 hq
theorem c_parseConnection (hn5 : n ≤ 500) {c : Int32} {σ : zP} (hok : pOk T n σ) (hq : Q (.inl none) (zM o ot it (pC T n c σ).1 (pC T n c σ).2 AL AD)) : zW ε false (d + 4) 37 0 [(0, .ref 1), (1, .int c)] [] (zM o ot it σ.1 σ.2 AL AD) 0 0 Q := by
  have h1 := pOk_1 hn5 hok
  have h2 := pOk_2 (f := pCf T n σ) hn5 h1
  have h3 := pOk_3 hn5 h2
  refine cl_ca hn5 hok ?_
  refine cl_cb (σ := pC1 T n σ) hn5 h1 ?_
  refine cl_cc (σ := pC2 T n (pCf T n σ) (pC1 T n σ)) hn5 h2 ?_
  refine cl_cd (σ := pC3 T n (pC2 T n (pCf T n σ) (pC1 T n σ))) ?_
  refine cl_ce (σ := pC4 _ _ _ (pC3 T n (pC2 T n (pCf T n σ) (pC1 T n σ)))) ?_
  exact cl_cf hn5 (pOk_5 (pOk_4 h3)) hq
end
