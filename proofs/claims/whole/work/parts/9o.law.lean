/-! law: one call after the other -/
section
variable {ε : Nat × (Nat → Int32)} {al : Bool} {d y pc : Nat} {l : zL} {r : List Value} {h : zH} {uc us : Nat} {Q : zQ}
/-- a cell of the script -/
theorem zW_sald {n : Nat} {i : Int32} (hI : zI y pc = some (.iaload, 1)) (hk : h.1[2000]? = none) (hi : i = nI n) (hn : n < ε.1) (hN : ε.1 ≤ 3072) (hh : zW ε al d y (pc + 1) l (.int (ε.2 n) :: r) h uc us Q) : zW ε al d y pc l (.int i :: .ref 2000 :: r) h uc us Q := by
  subst hi
  refine zW_fold _ _ _ _ _ _ _ _ _ _ ?_
  unfold zstep
  rw [hI]
  show zmem ε (zW ε) al d y pc l (.int (nI n) :: .ref 2000 :: r) h uc us Q .iaload 1
  unfold zmem
  dsimp only
  rw [hk]
  exact ⟨vp_in_nI hn (by omega), by rw [nI_clamp (by omega)]; exact hh⟩
end
section
variable {ε : Nat × (Nat → Int32)} {d : Nat} {Q : zQ} {o ot it : Value} {IF A : Nat → Nat → Int32} {AL : Nat → Nat → Int64} {AD : Nat → Nat → UInt64} {L p pa ex ey : Nat → Nat} {k q uc us : Nat}
def lNx (ε : Nat × (Nat → Int32)) (d : Nat) (Q : zQ) (q uc us : Nat) : Prop := ∀ (o ot it : Value) (IF A : Nat → Nat → Int32) (AL : Nat → Nat → Int64) (AD : Nat → Nat → UInt64) (uc2 us2 : Nat), gS IF A → uc2 ≤ uc + 7 → us2 ≤ us + 42 → zW ε true (d + 22) 232 2029 [(0, .ref 2000), (1, .ref 0), (2, .ref 32), (3, .ref 51), (4, .ref 52), (5, .int (nI (6 * q)))] [] (zM o ot it IF A AL AD) uc2 us2 Q
theorem lw_append (hN : ε.1 ≤ 3072) (hq : 6 * q + 6 ≤ ε.1) (h : gX IF A L p pa ex ey k) (hu : uc + 7 ≤ 601024) (hs : us + 42 ≤ 7293034) (next : lNx ε d Q q uc us) : zW ε true (d + 22) 232 188 [(0, .ref 2000), (1, .ref 0), (2, .ref 32), (3, .ref 51), (4, .ref 52), (5, .int (nI (6 * q)))] [] (zM o ot it IF A AL AD) uc us Q := by
  refine zrun 5 ?_
  refine zW_sald (n := 6 * q + 1) rfl rfl (nI_add (6 * q) 1) (by omega) hN ?_
  refine zrun 4 ?_
  refine zW_sald (n := 6 * q + 2) rfl rfl (nI_add (6 * q) 2) (by omega) hN ?_
  refine zrun 4 ?_
  refine zW_sald (n := 6 * q + 3) rfl rfl (nI_add (6 * q) 3) (by omega) hN ?_
  refine zrun 4 ?_
  refine zW_sald (n := 6 * q + 4) rfl rfl (nI_add (6 * q) 4) (by omega) hN ?_
  refine zrun 4 ?_
  refine zW_sald (n := 6 * q + 5) rfl rfl (nI_add (6 * q) 5) (by omega) hN ?_
  refine zrun 2 ⟨⟨by show uc + 1 ≤ 601024; omega, by show us + 6 ≤ 7293034; omega, rfl⟩, ?_⟩
  refine zW_mono ε _ _ _ _ _ _ _ _ _ _ _ (fun r h2 hP => ?_) (hp_append (j_append h))
  obtain ⟨o2, ot2, it2, IF2, A2, AL2, AD2, u, cde, rfl, hw, rfl, hs2⟩ := hP
  refine ⟨rfl, ?_⟩
  rcases hs2 with ⟨rfl, w, rfl, hst⟩ | ⟨hcd, rfl⟩
  · refine zrun 1 (zloc [(0, _), (1, _), (2, _), (3, _), (4, _), (5, _), (6, _)] rfl ?_)
    refine zrun 5 ?_
    refine zW_sald (n := 6 * q + 1) rfl rfl (nI_add (6 * q) 1) (by omega) hN ?_
    refine zrun 4 ?_
    refine zW_sald (n := 6 * q + 2) rfl rfl (nI_add (6 * q) 2) (by omega) hN ?_
    refine zrun 4 ?_
    refine zW_sald (n := 6 * q + 3) rfl rfl (nI_add (6 * q) 3) (by omega) hN ?_
    refine zrun 4 ?_
    refine zW_sald (n := 6 * q + 4) rfl rfl (nI_add (6 * q) 4) (by omega) hN ?_
    refine zrun 4 ?_
    refine zW_sald (n := 6 * q + 5) rfl rfl (nI_add (6 * q) 5) (by omega) hN ?_
    refine zrun 1 ⟨⟨by show uc + 1 + 0 ≤ 601024; omega, by show us + 6 + 0 ≤ 7293034; omega, rfl⟩, ?_⟩
    refine zW_mono ε _ _ _ _ _ _ _ _ _ _ _ (fun r h2 hP => ?_) (hw AL2 AD2)
    obtain ⟨rfl, o3, ot3, it3, IF3, A3, rfl, hg, h0⟩ := hP
    refine ⟨rfl, ?_⟩
    refine zrun 1 (zloc [(0, _), (1, _), (2, _), (3, _), (4, _), (5, _), (6, _), (7, _)] rfl ?_)
    refine zrun 2 ⟨⟨by show uc + 1 + 0 + 0 ≤ 601024; omega, by show us + 6 + 0 + 0 ≤ 7293034; omega, rfl⟩, ?_⟩
    refine c_thrown ⟨rfl, ?_⟩
    refine zrun 2 ⟨fun _ => ?_, fun z => absurd h0 z⟩
    refine zrun 2 ⟨fun z => absurd rfl z, fun _ => ?_⟩
    refine zrun 3 ⟨z_01, ?_⟩
    refine zrun 4 ⟨fun _ => ?_, fun z => absurd ((lg_cmp_eq _ _).mpr hst) z⟩
    exact zrun 1 (zfg [0, 1, 2, 3, 4, 5] (zloc [(0, _), (1, _), (2, _), (3, _), (4, _), (5, _)] rfl (next _ _ _ _ _ _ _ _ _ hg (by show uc + 1 + 0 + 0 ≤ uc + 7; omega) (by show us + 6 + 0 + 0 ≤ us + 42; omega))))
  · refine zrun 1 (zloc [(0, _), (1, _), (2, _), (3, _), (4, _), (5, _), (6, _)] rfl ?_)
    refine zrun 5 ?_
    refine zW_sald (n := 6 * q + 1) rfl rfl (nI_add (6 * q) 1) (by omega) hN ?_
    refine zrun 4 ?_
    refine zW_sald (n := 6 * q + 2) rfl rfl (nI_add (6 * q) 2) (by omega) hN ?_
    refine zrun 4 ?_
    refine zW_sald (n := 6 * q + 3) rfl rfl (nI_add (6 * q) 3) (by omega) hN ?_
    refine zrun 4 ?_
    refine zW_sald (n := 6 * q + 4) rfl rfl (nI_add (6 * q) 4) (by omega) hN ?_
    refine zrun 4 ?_
    refine zW_sald (n := 6 * q + 5) rfl rfl (nI_add (6 * q) 5) (by omega) hN ?_
    refine zrun 1 ⟨⟨by show uc + 1 + 0 ≤ 601024; omega, by show us + 6 + 0 ≤ 7293034; omega, rfl⟩, ?_⟩
    refine zW_mono ε _ _ _ _ _ _ _ _ _ _ _ (fun r h2 hP => ?_) (hw AL2 AD2)
    obtain ⟨rfl, o3, ot3, it3, IF3, A3, rfl, hg, h0⟩ := hP
    refine ⟨rfl, ?_⟩
    refine zrun 1 (zloc [(0, _), (1, _), (2, _), (3, _), (4, _), (5, _), (6, _), (7, _)] rfl ?_)
    refine zrun 2 ⟨⟨by show uc + 1 + 0 + 0 ≤ 601024; omega, by show us + 6 + 0 + 0 ≤ 7293034; omega, rfl⟩, ?_⟩
    refine c_thrown ⟨rfl, ?_⟩
    refine zrun 2 ⟨fun _ => ?_, fun z => absurd h0 z⟩
    refine zrun 2 ⟨fun _ => ?_, fun z => absurd z hcd⟩
    exact zrun 1 (zfg [0, 1, 2, 3, 4, 5] (zloc [(0, _), (1, _), (2, _), (3, _), (4, _), (5, _)] rfl (next _ _ _ _ _ _ _ _ _ hg (by show uc + 1 + 0 + 0 ≤ uc + 7; omega) (by show us + 6 + 0 + 0 ≤ us + 42; omega))))
theorem lw_truncate (hN : ε.1 ≤ 3072) (hq : 6 * q + 6 ≤ ε.1) (h : gX IF A L p pa ex ey k) (hu : uc + 7 ≤ 601024) (hs : us + 42 ≤ 7293034) (next : lNx ε d Q q uc us) : zW ε true (d + 22) 232 292 [(0, .ref 2000), (1, .ref 0), (2, .ref 32), (3, .ref 51), (4, .ref 52), (5, .int (nI (6 * q)))] [] (zM o ot it IF A AL AD) uc us Q := by
  refine zrun 5 ?_
  refine zW_sald (n := 6 * q + 1) rfl rfl (nI_add (6 * q) 1) (by omega) hN ?_
  refine zrun 2 ⟨⟨by show uc + 1 ≤ 601024; omega, by show us + 6 ≤ 7293034; omega, rfl⟩, ?_⟩
  refine zW_mono ε _ _ _ _ _ _ _ _ _ _ _ (fun r h2 hP => ?_) (hp_truncate (j_truncate h))
  obtain ⟨o2, ot2, it2, IF2, A2, AL2, AD2, u, cde, rfl, hw, rfl, hs2⟩ := hP
  refine ⟨rfl, ?_⟩
  rcases hs2 with ⟨rfl, w, rfl, hst⟩ | ⟨hcd, rfl⟩
  · refine zrun 1 (zloc [(0, _), (1, _), (2, _), (3, _), (4, _), (5, _), (6, _)] rfl ?_)
    refine zrun 5 ?_
    refine zW_sald (n := 6 * q + 1) rfl rfl (nI_add (6 * q) 1) (by omega) hN ?_
    refine zrun 1 ⟨⟨by show uc + 1 + 0 ≤ 601024; omega, by show us + 6 + 0 ≤ 7293034; omega, rfl⟩, ?_⟩
    refine zW_mono ε _ _ _ _ _ _ _ _ _ _ _ (fun r h2 hP => ?_) (hw AL2 AD2)
    obtain ⟨rfl, o3, ot3, it3, IF3, A3, rfl, hg, h0⟩ := hP
    refine ⟨rfl, ?_⟩
    refine zrun 1 (zloc [(0, _), (1, _), (2, _), (3, _), (4, _), (5, _), (6, _), (7, _)] rfl ?_)
    refine zrun 2 ⟨⟨by show uc + 1 + 0 + 0 ≤ 601024; omega, by show us + 6 + 0 + 0 ≤ 7293034; omega, rfl⟩, ?_⟩
    refine c_thrown ⟨rfl, ?_⟩
    refine zrun 2 ⟨fun _ => ?_, fun z => absurd h0 z⟩
    refine zrun 2 ⟨fun z => absurd rfl z, fun _ => ?_⟩
    refine zrun 3 ⟨z_01, ?_⟩
    refine zrun 4 ⟨fun _ => ?_, fun z => absurd ((lg_cmp_eq _ _).mpr hst) z⟩
    exact zrun 1 (zfg [0, 1, 2, 3, 4, 5] (zloc [(0, _), (1, _), (2, _), (3, _), (4, _), (5, _)] rfl (next _ _ _ _ _ _ _ _ _ hg (by show uc + 1 + 0 + 0 ≤ uc + 7; omega) (by show us + 6 + 0 + 0 ≤ us + 42; omega))))
  · refine zrun 1 (zloc [(0, _), (1, _), (2, _), (3, _), (4, _), (5, _), (6, _)] rfl ?_)
    refine zrun 5 ?_
    refine zW_sald (n := 6 * q + 1) rfl rfl (nI_add (6 * q) 1) (by omega) hN ?_
    refine zrun 1 ⟨⟨by show uc + 1 + 0 ≤ 601024; omega, by show us + 6 + 0 ≤ 7293034; omega, rfl⟩, ?_⟩
    refine zW_mono ε _ _ _ _ _ _ _ _ _ _ _ (fun r h2 hP => ?_) (hw AL2 AD2)
    obtain ⟨rfl, o3, ot3, it3, IF3, A3, rfl, hg, h0⟩ := hP
    refine ⟨rfl, ?_⟩
    refine zrun 1 (zloc [(0, _), (1, _), (2, _), (3, _), (4, _), (5, _), (6, _), (7, _)] rfl ?_)
    refine zrun 2 ⟨⟨by show uc + 1 + 0 + 0 ≤ 601024; omega, by show us + 6 + 0 + 0 ≤ 7293034; omega, rfl⟩, ?_⟩
    refine c_thrown ⟨rfl, ?_⟩
    refine zrun 2 ⟨fun _ => ?_, fun z => absurd h0 z⟩
    refine zrun 2 ⟨fun _ => ?_, fun z => absurd z hcd⟩
    exact zrun 1 (zfg [0, 1, 2, 3, 4, 5] (zloc [(0, _), (1, _), (2, _), (3, _), (4, _), (5, _)] rfl (next _ _ _ _ _ _ _ _ _ hg (by show uc + 1 + 0 + 0 ≤ uc + 7; omega) (by show us + 6 + 0 + 0 ≤ us + 42; omega))))
theorem lw_load (hN : ε.1 ≤ 3072) (hq : 6 * q + 6 ≤ ε.1) (h : gX IF A L p pa ex ey k) (hu : uc + 7 ≤ 601024) (hs : us + 42 ≤ 7293034) (next : lNx ε d Q q uc us) : zW ε true (d + 22) 232 348 [(0, .ref 2000), (1, .ref 0), (2, .ref 32), (3, .ref 51), (4, .ref 52), (5, .int (nI (6 * q)))] [] (zM o ot it IF A AL AD) uc us Q := by
  refine zrun 3 ⟨⟨by show uc + 1 ≤ 601024; omega, by show us + 6 ≤ 7293034; omega, rfl⟩, ?_⟩
  refine zW_mono ε _ _ _ _ _ _ _ _ _ _ _ (fun r h2 hP => ?_) (hp_load (j_load h))
  obtain ⟨o2, ot2, it2, IF2, A2, AL2, AD2, u, cde, rfl, hw, rfl, hs2⟩ := hP
  refine ⟨rfl, ?_⟩
  rcases hs2 with ⟨rfl, w, rfl, hst⟩ | ⟨hcd, rfl⟩
  · refine zrun 1 (zloc [(0, _), (1, _), (2, _), (3, _), (4, _), (5, _), (6, _)] rfl ?_)
    refine zrun 2 ⟨⟨by show uc + 1 + 0 ≤ 601024; omega, by show us + 6 + 0 ≤ 7293034; omega, rfl⟩, ?_⟩
    refine zW_mono ε _ _ _ _ _ _ _ _ _ _ _ (fun r h2 hP => ?_) (hw AL2 AD2)
    obtain ⟨rfl, o3, ot3, it3, IF3, A3, rfl, hg, h0⟩ := hP
    refine ⟨rfl, ?_⟩
    refine zrun 1 (zloc [(0, _), (1, _), (2, _), (3, _), (4, _), (5, _), (6, _), (7, _)] rfl ?_)
    refine zrun 2 ⟨⟨by show uc + 1 + 0 + 0 ≤ 601024; omega, by show us + 6 + 0 + 0 ≤ 7293034; omega, rfl⟩, ?_⟩
    refine c_thrown ⟨rfl, ?_⟩
    refine zrun 2 ⟨fun _ => ?_, fun z => absurd h0 z⟩
    refine zrun 2 ⟨fun z => absurd rfl z, fun _ => ?_⟩
    refine zrun 3 ⟨z_01, ?_⟩
    refine zrun 4 ⟨fun _ => ?_, fun z => absurd ((lg_cmp_eq _ _).mpr hst) z⟩
    exact zrun 1 (zfg [0, 1, 2, 3, 4, 5] (zloc [(0, _), (1, _), (2, _), (3, _), (4, _), (5, _)] rfl (next _ _ _ _ _ _ _ _ _ hg (by show uc + 1 + 0 + 0 ≤ uc + 7; omega) (by show us + 6 + 0 + 0 ≤ us + 42; omega))))
  · refine zrun 1 (zloc [(0, _), (1, _), (2, _), (3, _), (4, _), (5, _), (6, _)] rfl ?_)
    refine zrun 2 ⟨⟨by show uc + 1 + 0 ≤ 601024; omega, by show us + 6 + 0 ≤ 7293034; omega, rfl⟩, ?_⟩
    refine zW_mono ε _ _ _ _ _ _ _ _ _ _ _ (fun r h2 hP => ?_) (hw AL2 AD2)
    obtain ⟨rfl, o3, ot3, it3, IF3, A3, rfl, hg, h0⟩ := hP
    refine ⟨rfl, ?_⟩
    refine zrun 1 (zloc [(0, _), (1, _), (2, _), (3, _), (4, _), (5, _), (6, _), (7, _)] rfl ?_)
    refine zrun 2 ⟨⟨by show uc + 1 + 0 + 0 ≤ 601024; omega, by show us + 6 + 0 + 0 ≤ 7293034; omega, rfl⟩, ?_⟩
    refine c_thrown ⟨rfl, ?_⟩
    refine zrun 2 ⟨fun _ => ?_, fun z => absurd h0 z⟩
    refine zrun 2 ⟨fun _ => ?_, fun z => absurd z hcd⟩
    exact zrun 1 (zfg [0, 1, 2, 3, 4, 5] (zloc [(0, _), (1, _), (2, _), (3, _), (4, _), (5, _)] rfl (next _ _ _ _ _ _ _ _ _ hg (by show uc + 1 + 0 + 0 ≤ uc + 7; omega) (by show us + 6 + 0 + 0 ≤ us + 42; omega))))
theorem lw_errorCode (hN : ε.1 ≤ 3072) (hq : 6 * q + 6 ≤ ε.1) (h : gX IF A L p pa ex ey k) (hu : uc + 7 ≤ 601024) (hs : us + 42 ≤ 7293034) (next : lNx ε d Q q uc us) : zW ε true (d + 22) 232 392 [(0, .ref 2000), (1, .ref 0), (2, .ref 32), (3, .ref 51), (4, .ref 52), (5, .int (nI (6 * q)))] [] (zM o ot it IF A AL AD) uc us Q := by
  refine zrun 2 ⟨⟨by show uc + 0 ≤ 601024; omega, by show us + 0 ≤ 7293034; omega, rfl⟩, ?_⟩
  refine zW_mono ε _ _ _ _ _ _ _ _ _ _ _ (fun r h2 hP => ?_) (j_errorCode (d := d + 1) h)
  obtain ⟨o2, ot2, it2, IF2, A2, u, cde, rfl, hw, hs2⟩ := hP
  rcases hs2 with ⟨rfl, rfl, w, rfl⟩ | ⟨E, rfl, hm, -⟩
  · refine ⟨rfl, ?_⟩
    refine zrun 2 ⟨⟨by show uc + 0 + 0 ≤ 601024; omega, by show us + 0 + 0 ≤ 7293034; omega, rfl⟩, ?_⟩
    refine zW_mono ε _ _ _ _ _ _ _ _ _ _ _ (fun r h2 hP => ?_) (hw AL AD)
    obtain ⟨rfl, o3, ot3, it3, IF3, A3, rfl, hg, h0⟩ := hP
    refine ⟨rfl, ?_⟩
    exact zrun 1 ⟨fun _ => next _ _ _ _ _ _ _ _ _ hg (by show uc + 0 + 0 ≤ uc + 7; omega) (by show us + 0 + 0 ≤ us + 42; omega), fun z => absurd rfl z⟩
  · exact absurd hm List.not_mem_nil
theorem lw_errorPosition (hN : ε.1 ≤ 3072) (hq : 6 * q + 6 ≤ ε.1) (h : gX IF A L p pa ex ey k) (hu : uc + 7 ≤ 601024) (hs : us + 42 ≤ 7293034) (next : lNx ε d Q q uc us) : zW ε true (d + 22) 232 405 [(0, .ref 2000), (1, .ref 0), (2, .ref 32), (3, .ref 51), (4, .ref 52), (5, .int (nI (6 * q)))] [] (zM o ot it IF A AL AD) uc us Q := by
  refine zrun 2 ⟨⟨by show uc + 0 ≤ 601024; omega, by show us + 0 ≤ 7293034; omega, rfl⟩, ?_⟩
  refine zW_mono ε _ _ _ _ _ _ _ _ _ _ _ (fun r h2 hP => ?_) (j_errorPosition (d := d + 1) h)
  obtain ⟨o2, ot2, it2, IF2, A2, u, cde, rfl, hw, hs2⟩ := hP
  rcases hs2 with ⟨rfl, rfl, w, rfl⟩ | ⟨E, rfl, hm, -⟩
  · refine ⟨rfl, ?_⟩
    refine zrun 2 ⟨⟨by show uc + 0 + 0 ≤ 601024; omega, by show us + 0 + 0 ≤ 7293034; omega, rfl⟩, ?_⟩
    refine zW_mono ε _ _ _ _ _ _ _ _ _ _ _ (fun r h2 hP => ?_) (hw AL AD)
    obtain ⟨rfl, o3, ot3, it3, IF3, A3, rfl, hg, h0⟩ := hP
    refine ⟨rfl, ?_⟩
    exact zrun 1 ⟨fun _ => next _ _ _ _ _ _ _ _ _ hg (by show uc + 0 + 0 ≤ uc + 7; omega) (by show us + 0 + 0 ≤ us + 42; omega), fun z => absurd rfl z⟩
  · exact absurd hm List.not_mem_nil
theorem lw_count (hN : ε.1 ≤ 3072) (hq : 6 * q + 6 ≤ ε.1) (h : gX IF A L p pa ex ey k) (hu : uc + 7 ≤ 601024) (hs : us + 42 ≤ 7293034) (next : lNx ε d Q q uc us) : zW ε true (d + 22) 232 418 [(0, .ref 2000), (1, .ref 0), (2, .ref 32), (3, .ref 51), (4, .ref 52), (5, .int (nI (6 * q)))] [] (zM o ot it IF A AL AD) uc us Q := by
  refine zrun 5 ?_
  refine zW_sald (n := 6 * q + 1) rfl rfl (nI_add (6 * q) 1) (by omega) hN ?_
  refine zrun 2 ⟨⟨by show uc + 1 ≤ 601024; omega, by show us + 6 ≤ 7293034; omega, rfl⟩, ?_⟩
  refine zW_mono ε _ _ _ _ _ _ _ _ _ _ _ (fun r h2 hP => ?_) (hp_count (j_count h))
  obtain ⟨o2, ot2, it2, IF2, A2, AL2, AD2, u, cde, rfl, hw, rfl, hs2⟩ := hP
  refine ⟨rfl, ?_⟩
  rcases hs2 with ⟨rfl, w, rfl, hst⟩ | ⟨hcd, rfl⟩
  · refine zrun 1 (zloc [(0, _), (1, _), (2, _), (3, _), (4, _), (5, _), (6, _)] rfl ?_)
    refine zrun 5 ?_
    refine zW_sald (n := 6 * q + 1) rfl rfl (nI_add (6 * q) 1) (by omega) hN ?_
    refine zrun 1 ⟨⟨by show uc + 1 + 0 ≤ 601024; omega, by show us + 6 + 0 ≤ 7293034; omega, rfl⟩, ?_⟩
    refine zW_mono ε _ _ _ _ _ _ _ _ _ _ _ (fun r h2 hP => ?_) (hw AL2 AD2)
    obtain ⟨rfl, o3, ot3, it3, IF3, A3, rfl, hg, h0⟩ := hP
    refine ⟨rfl, ?_⟩
    refine zrun 1 (zloc [(0, _), (1, _), (2, _), (3, _), (4, _), (5, _), (6, _), (7, _)] rfl ?_)
    refine zrun 2 ⟨⟨by show uc + 1 + 0 + 0 ≤ 601024; omega, by show us + 6 + 0 + 0 ≤ 7293034; omega, rfl⟩, ?_⟩
    refine c_thrown ⟨rfl, ?_⟩
    refine zrun 2 ⟨fun _ => ?_, fun z => absurd h0 z⟩
    refine zrun 2 ⟨fun z => absurd rfl z, fun _ => ?_⟩
    refine zrun 3 ⟨z_01, ?_⟩
    refine zrun 4 ⟨fun _ => ?_, fun z => absurd ((lg_cmp_eq _ _).mpr hst) z⟩
    exact zrun 1 (zfg [0, 1, 2, 3, 4, 5] (zloc [(0, _), (1, _), (2, _), (3, _), (4, _), (5, _)] rfl (next _ _ _ _ _ _ _ _ _ hg (by show uc + 1 + 0 + 0 ≤ uc + 7; omega) (by show us + 6 + 0 + 0 ≤ us + 42; omega))))
  · refine zrun 1 (zloc [(0, _), (1, _), (2, _), (3, _), (4, _), (5, _), (6, _)] rfl ?_)
    refine zrun 5 ?_
    refine zW_sald (n := 6 * q + 1) rfl rfl (nI_add (6 * q) 1) (by omega) hN ?_
    refine zrun 1 ⟨⟨by show uc + 1 + 0 ≤ 601024; omega, by show us + 6 + 0 ≤ 7293034; omega, rfl⟩, ?_⟩
    refine zW_mono ε _ _ _ _ _ _ _ _ _ _ _ (fun r h2 hP => ?_) (hw AL2 AD2)
    obtain ⟨rfl, o3, ot3, it3, IF3, A3, rfl, hg, h0⟩ := hP
    refine ⟨rfl, ?_⟩
    refine zrun 1 (zloc [(0, _), (1, _), (2, _), (3, _), (4, _), (5, _), (6, _), (7, _)] rfl ?_)
    refine zrun 2 ⟨⟨by show uc + 1 + 0 + 0 ≤ 601024; omega, by show us + 6 + 0 + 0 ≤ 7293034; omega, rfl⟩, ?_⟩
    refine c_thrown ⟨rfl, ?_⟩
    refine zrun 2 ⟨fun _ => ?_, fun z => absurd h0 z⟩
    refine zrun 2 ⟨fun _ => ?_, fun z => absurd z hcd⟩
    exact zrun 1 (zfg [0, 1, 2, 3, 4, 5] (zloc [(0, _), (1, _), (2, _), (3, _), (4, _), (5, _)] rfl (next _ _ _ _ _ _ _ _ _ hg (by show uc + 1 + 0 + 0 ≤ uc + 7; omega) (by show us + 6 + 0 + 0 ≤ us + 42; omega))))
theorem lw_isSiding (hN : ε.1 ≤ 3072) (hq : 6 * q + 6 ≤ ε.1) (h : gX IF A L p pa ex ey k) (hu : uc + 7 ≤ 601024) (hs : us + 42 ≤ 7293034) (next : lNx ε d Q q uc us) : zW ε true (d + 22) 232 474 [(0, .ref 2000), (1, .ref 0), (2, .ref 32), (3, .ref 51), (4, .ref 52), (5, .int (nI (6 * q)))] [] (zM o ot it IF A AL AD) uc us Q := by
  refine zrun 5 ?_
  refine zW_sald (n := 6 * q + 1) rfl rfl (nI_add (6 * q) 1) (by omega) hN ?_
  refine zrun 2 ⟨⟨by show uc + 1 ≤ 601024; omega, by show us + 6 ≤ 7293034; omega, rfl⟩, ?_⟩
  refine zW_mono ε _ _ _ _ _ _ _ _ _ _ _ (fun r h2 hP => ?_) (hp_isSiding (j_isSiding h))
  obtain ⟨o2, ot2, it2, IF2, A2, AL2, AD2, u, cde, rfl, hw, rfl, hs2⟩ := hP
  refine ⟨rfl, ?_⟩
  rcases hs2 with ⟨rfl, w, rfl, hst⟩ | ⟨hcd, rfl⟩
  · refine zrun 1 (zloc [(0, _), (1, _), (2, _), (3, _), (4, _), (5, _), (6, _)] rfl ?_)
    refine zrun 5 ?_
    refine zW_sald (n := 6 * q + 1) rfl rfl (nI_add (6 * q) 1) (by omega) hN ?_
    refine zrun 1 ⟨⟨by show uc + 1 + 0 ≤ 601024; omega, by show us + 6 + 0 ≤ 7293034; omega, rfl⟩, ?_⟩
    refine zW_mono ε _ _ _ _ _ _ _ _ _ _ _ (fun r h2 hP => ?_) (hw AL2 AD2)
    obtain ⟨rfl, o3, ot3, it3, IF3, A3, rfl, hg, h0⟩ := hP
    refine ⟨rfl, ?_⟩
    refine zrun 1 (zloc [(0, _), (1, _), (2, _), (3, _), (4, _), (5, _), (6, _), (7, _)] rfl ?_)
    refine zrun 2 ⟨⟨by show uc + 1 + 0 + 0 ≤ 601024; omega, by show us + 6 + 0 + 0 ≤ 7293034; omega, rfl⟩, ?_⟩
    refine c_thrown ⟨rfl, ?_⟩
    refine zrun 2 ⟨fun _ => ?_, fun z => absurd h0 z⟩
    refine zrun 2 ⟨fun z => absurd rfl z, fun _ => ?_⟩
    refine zrun 3 ⟨z_01, ?_⟩
    refine zrun 2 (zb_f rfl (fun hb => ?_) (fun hb => ?_))
    · subst hb
      refine zrun 3 ⟨fun _ => ?_, fun z => absurd ((lg_cmp_eq _ _).mpr hst) z⟩
      exact zrun 1 (zfg [0, 1, 2, 3, 4, 5] (zloc [(0, _), (1, _), (2, _), (3, _), (4, _), (5, _)] rfl (next _ _ _ _ _ _ _ _ _ hg (by show uc + 1 + 0 + 0 ≤ uc + 7; omega) (by show us + 6 + 0 + 0 ≤ us + 42; omega))))
    · subst hb
      refine zrun 4 ⟨fun _ => ?_, fun z => absurd ((lg_cmp_eq _ _).mpr hst) z⟩
      exact zrun 1 (zfg [0, 1, 2, 3, 4, 5] (zloc [(0, _), (1, _), (2, _), (3, _), (4, _), (5, _)] rfl (next _ _ _ _ _ _ _ _ _ hg (by show uc + 1 + 0 + 0 ≤ uc + 7; omega) (by show us + 6 + 0 + 0 ≤ us + 42; omega))))
  · refine zrun 1 (zloc [(0, _), (1, _), (2, _), (3, _), (4, _), (5, _), (6, _)] rfl ?_)
    refine zrun 5 ?_
    refine zW_sald (n := 6 * q + 1) rfl rfl (nI_add (6 * q) 1) (by omega) hN ?_
    refine zrun 1 ⟨⟨by show uc + 1 + 0 ≤ 601024; omega, by show us + 6 + 0 ≤ 7293034; omega, rfl⟩, ?_⟩
    refine zW_mono ε _ _ _ _ _ _ _ _ _ _ _ (fun r h2 hP => ?_) (hw AL2 AD2)
    obtain ⟨rfl, o3, ot3, it3, IF3, A3, rfl, hg, h0⟩ := hP
    refine ⟨rfl, ?_⟩
    refine zrun 1 (zloc [(0, _), (1, _), (2, _), (3, _), (4, _), (5, _), (6, _), (7, _)] rfl ?_)
    refine zrun 2 ⟨⟨by show uc + 1 + 0 + 0 ≤ 601024; omega, by show us + 6 + 0 + 0 ≤ 7293034; omega, rfl⟩, ?_⟩
    refine c_thrown ⟨rfl, ?_⟩
    refine zrun 2 ⟨fun _ => ?_, fun z => absurd h0 z⟩
    refine zrun 2 ⟨fun _ => ?_, fun z => absurd z hcd⟩
    exact zrun 1 (zfg [0, 1, 2, 3, 4, 5] (zloc [(0, _), (1, _), (2, _), (3, _), (4, _), (5, _)] rfl (next _ _ _ _ _ _ _ _ _ hg (by show uc + 1 + 0 + 0 ≤ uc + 7; omega) (by show us + 6 + 0 + 0 ≤ us + 42; omega))))
theorem lw_train (hN : ε.1 ≤ 3072) (hq : 6 * q + 6 ≤ ε.1) (h : gX IF A L p pa ex ey k) (hu : uc + 7 ≤ 601024) (hs : us + 42 ≤ 7293034) (next : lNx ε d Q q uc us) : zW ε true (d + 22) 232 537 [(0, .ref 2000), (1, .ref 0), (2, .ref 32), (3, .ref 51), (4, .ref 52), (5, .int (nI (6 * q)))] [] (zM o ot it IF A AL AD) uc us Q := by
  refine zrun 5 ?_
  refine zW_sald (n := 6 * q + 1) rfl rfl (nI_add (6 * q) 1) (by omega) hN ?_
  refine zrun 4 ?_
  refine zW_sald (n := 6 * q + 2) rfl rfl (nI_add (6 * q) 2) (by omega) hN ?_
  refine zrun 2 ⟨⟨by show uc + 2 ≤ 601024; omega, by show us + 12 ≤ 7293034; omega, rfl⟩, ?_⟩
  refine zW_mono ε _ _ _ _ _ _ _ _ _ _ _ (fun r h2 hP => ?_) (hp_train (j_train h))
  obtain ⟨o2, ot2, it2, IF2, A2, AL2, AD2, u, cde, rfl, hw, rfl, hs2⟩ := hP
  refine ⟨rfl, ?_⟩
  rcases hs2 with ⟨rfl, w, rfl, hst⟩ | ⟨hcd, rfl⟩
  · refine zrun 1 (zloc [(0, _), (1, _), (2, _), (3, _), (4, _), (5, _), (6, _)] rfl ?_)
    refine zrun 5 ?_
    refine zW_sald (n := 6 * q + 1) rfl rfl (nI_add (6 * q) 1) (by omega) hN ?_
    refine zrun 4 ?_
    refine zW_sald (n := 6 * q + 2) rfl rfl (nI_add (6 * q) 2) (by omega) hN ?_
    refine zrun 1 ⟨⟨by show uc + 2 + 0 ≤ 601024; omega, by show us + 12 + 0 ≤ 7293034; omega, rfl⟩, ?_⟩
    refine zW_mono ε _ _ _ _ _ _ _ _ _ _ _ (fun r h2 hP => ?_) (hw AL2 AD2)
    obtain ⟨rfl, o3, ot3, it3, IF3, A3, rfl, hg, h0⟩ := hP
    refine ⟨rfl, ?_⟩
    refine zrun 1 (zloc [(0, _), (1, _), (2, _), (3, _), (4, _), (5, _), (6, _), (7, _)] rfl ?_)
    refine zrun 2 ⟨⟨by show uc + 2 + 0 + 0 ≤ 601024; omega, by show us + 12 + 0 + 0 ≤ 7293034; omega, rfl⟩, ?_⟩
    refine c_thrown ⟨rfl, ?_⟩
    refine zrun 2 ⟨fun _ => ?_, fun z => absurd h0 z⟩
    refine zrun 2 ⟨fun z => absurd rfl z, fun _ => ?_⟩
    refine zrun 3 ⟨z_01, ?_⟩
    refine zrun 4 ⟨fun _ => ?_, fun z => absurd ((lg_cmp_eq _ _).mpr hst) z⟩
    exact zrun 1 (zfg [0, 1, 2, 3, 4, 5] (zloc [(0, _), (1, _), (2, _), (3, _), (4, _), (5, _)] rfl (next _ _ _ _ _ _ _ _ _ hg (by show uc + 2 + 0 + 0 ≤ uc + 7; omega) (by show us + 12 + 0 + 0 ≤ us + 42; omega))))
  · refine zrun 1 (zloc [(0, _), (1, _), (2, _), (3, _), (4, _), (5, _), (6, _)] rfl ?_)
    refine zrun 5 ?_
    refine zW_sald (n := 6 * q + 1) rfl rfl (nI_add (6 * q) 1) (by omega) hN ?_
    refine zrun 4 ?_
    refine zW_sald (n := 6 * q + 2) rfl rfl (nI_add (6 * q) 2) (by omega) hN ?_
    refine zrun 1 ⟨⟨by show uc + 2 + 0 ≤ 601024; omega, by show us + 12 + 0 ≤ 7293034; omega, rfl⟩, ?_⟩
    refine zW_mono ε _ _ _ _ _ _ _ _ _ _ _ (fun r h2 hP => ?_) (hw AL2 AD2)
    obtain ⟨rfl, o3, ot3, it3, IF3, A3, rfl, hg, h0⟩ := hP
    refine ⟨rfl, ?_⟩
    refine zrun 1 (zloc [(0, _), (1, _), (2, _), (3, _), (4, _), (5, _), (6, _), (7, _)] rfl ?_)
    refine zrun 2 ⟨⟨by show uc + 2 + 0 + 0 ≤ 601024; omega, by show us + 12 + 0 + 0 ≤ 7293034; omega, rfl⟩, ?_⟩
    refine c_thrown ⟨rfl, ?_⟩
    refine zrun 2 ⟨fun _ => ?_, fun z => absurd h0 z⟩
    refine zrun 2 ⟨fun _ => ?_, fun z => absurd z hcd⟩
    exact zrun 1 (zfg [0, 1, 2, 3, 4, 5] (zloc [(0, _), (1, _), (2, _), (3, _), (4, _), (5, _)] rfl (next _ _ _ _ _ _ _ _ _ hg (by show uc + 2 + 0 + 0 ≤ uc + 7; omega) (by show us + 12 + 0 + 0 ≤ us + 42; omega))))
theorem lw_order (hN : ε.1 ≤ 3072) (hq : 6 * q + 6 ≤ ε.1) (h : gX IF A L p pa ex ey k) (hu : uc + 7 ≤ 601024) (hs : us + 42 ≤ 7293034) (next : lNx ε d Q q uc us) : zW ε true (d + 22) 232 605 [(0, .ref 2000), (1, .ref 0), (2, .ref 32), (3, .ref 51), (4, .ref 52), (5, .int (nI (6 * q)))] [] (zM o ot it IF A AL AD) uc us Q := by
  by_cases hx : ε.2 (6 * q + 1) = 0
  · refine zrun 5 ?_
    refine zW_sald (n := 6 * q + 1) rfl rfl (nI_add (6 * q) 1) (by omega) hN ?_
    refine zrun 1 ⟨fun _ => ?_, fun z => absurd hx z⟩
    refine zrun 5 ?_
    refine zW_sald (n := 6 * q + 2) rfl rfl (nI_add (6 * q) 2) (by omega) hN ?_
    refine zrun 4 ?_
    refine zW_sald (n := 6 * q + 3) rfl rfl (nI_add (6 * q) 3) (by omega) hN ?_
    refine zrun 2 ⟨⟨by show uc + 1 ≤ 601024; omega, by show us + 6 ≤ 7293034; omega, rfl⟩, ?_⟩
    refine zW_mono ε _ _ _ _ _ _ _ _ _ _ _ (fun r h2 hP => ?_) (hp_order (j_order (b := false) h rfl))
    obtain ⟨o2, ot2, it2, IF2, A2, AL2, AD2, u, cde, rfl, hw, rfl, hs2⟩ := hP
    refine ⟨rfl, ?_⟩
    rcases hs2 with ⟨rfl, w, rfl, hst⟩ | ⟨hcd, rfl⟩
    · refine zrun 1 (zloc [(0, _), (1, _), (2, _), (3, _), (4, _), (5, _), (6, _)] rfl ?_)
      refine zrun 5 ?_
      refine zW_sald (n := 6 * q + 1) rfl rfl (nI_add (6 * q) 1) (by omega) hN ?_
      refine zrun 1 ⟨fun _ => ?_, fun z => absurd hx z⟩
      refine zrun 5 ?_
      refine zW_sald (n := 6 * q + 2) rfl rfl (nI_add (6 * q) 2) (by omega) hN ?_
      refine zrun 4 ?_
      refine zW_sald (n := 6 * q + 3) rfl rfl (nI_add (6 * q) 3) (by omega) hN ?_
      refine zrun 1 ⟨⟨by show uc + 1 + 0 ≤ 601024; omega, by show us + 6 + 0 ≤ 7293034; omega, rfl⟩, ?_⟩
      refine zW_mono ε _ _ _ _ _ _ _ _ _ _ _ (fun r h2 hP => ?_) (hw AL2 AD2)
      obtain ⟨rfl, o3, ot3, it3, IF3, A3, rfl, hg, h0⟩ := hP
      refine ⟨rfl, ?_⟩
      refine zrun 1 (zloc [(0, _), (1, _), (2, _), (3, _), (4, _), (5, _), (6, _), (7, _)] rfl ?_)
      refine zrun 2 ⟨⟨by show uc + 1 + 0 + 0 ≤ 601024; omega, by show us + 6 + 0 + 0 ≤ 7293034; omega, rfl⟩, ?_⟩
      refine c_thrown ⟨rfl, ?_⟩
      refine zrun 2 ⟨fun _ => ?_, fun z => absurd h0 z⟩
      refine zrun 2 ⟨fun z => absurd rfl z, fun _ => ?_⟩
      refine zrun 3 ⟨z_01, ?_⟩
      refine zrun 4 ⟨fun _ => ?_, fun z => absurd ((lg_cmp_eq _ _).mpr hst) z⟩
      exact zrun 1 (zfg [0, 1, 2, 3, 4, 5] (zloc [(0, _), (1, _), (2, _), (3, _), (4, _), (5, _)] rfl (next _ _ _ _ _ _ _ _ _ hg (by show uc + 1 + 0 + 0 ≤ uc + 7; omega) (by show us + 6 + 0 + 0 ≤ us + 42; omega))))
    · refine zrun 1 (zloc [(0, _), (1, _), (2, _), (3, _), (4, _), (5, _), (6, _)] rfl ?_)
      refine zrun 5 ?_
      refine zW_sald (n := 6 * q + 1) rfl rfl (nI_add (6 * q) 1) (by omega) hN ?_
      refine zrun 1 ⟨fun _ => ?_, fun z => absurd hx z⟩
      refine zrun 5 ?_
      refine zW_sald (n := 6 * q + 2) rfl rfl (nI_add (6 * q) 2) (by omega) hN ?_
      refine zrun 4 ?_
      refine zW_sald (n := 6 * q + 3) rfl rfl (nI_add (6 * q) 3) (by omega) hN ?_
      refine zrun 1 ⟨⟨by show uc + 1 + 0 ≤ 601024; omega, by show us + 6 + 0 ≤ 7293034; omega, rfl⟩, ?_⟩
      refine zW_mono ε _ _ _ _ _ _ _ _ _ _ _ (fun r h2 hP => ?_) (hw AL2 AD2)
      obtain ⟨rfl, o3, ot3, it3, IF3, A3, rfl, hg, h0⟩ := hP
      refine ⟨rfl, ?_⟩
      refine zrun 1 (zloc [(0, _), (1, _), (2, _), (3, _), (4, _), (5, _), (6, _), (7, _)] rfl ?_)
      refine zrun 2 ⟨⟨by show uc + 1 + 0 + 0 ≤ 601024; omega, by show us + 6 + 0 + 0 ≤ 7293034; omega, rfl⟩, ?_⟩
      refine c_thrown ⟨rfl, ?_⟩
      refine zrun 2 ⟨fun _ => ?_, fun z => absurd h0 z⟩
      refine zrun 2 ⟨fun _ => ?_, fun z => absurd z hcd⟩
      exact zrun 1 (zfg [0, 1, 2, 3, 4, 5] (zloc [(0, _), (1, _), (2, _), (3, _), (4, _), (5, _)] rfl (next _ _ _ _ _ _ _ _ _ hg (by show uc + 1 + 0 + 0 ≤ uc + 7; omega) (by show us + 6 + 0 + 0 ≤ us + 42; omega))))
  · refine zrun 5 ?_
    refine zW_sald (n := 6 * q + 1) rfl rfl (nI_add (6 * q) 1) (by omega) hN ?_
    refine zrun 1 ⟨fun z => absurd z hx, fun _ => ?_⟩
    refine zrun 6 ?_
    refine zW_sald (n := 6 * q + 2) rfl rfl (nI_add (6 * q) 2) (by omega) hN ?_
    refine zrun 4 ?_
    refine zW_sald (n := 6 * q + 3) rfl rfl (nI_add (6 * q) 3) (by omega) hN ?_
    refine zrun 2 ⟨⟨by show uc + 1 ≤ 601024; omega, by show us + 6 ≤ 7293034; omega, rfl⟩, ?_⟩
    refine zW_mono ε _ _ _ _ _ _ _ _ _ _ _ (fun r h2 hP => ?_) (hp_order (j_order (b := true) h rfl))
    obtain ⟨o2, ot2, it2, IF2, A2, AL2, AD2, u, cde, rfl, hw, rfl, hs2⟩ := hP
    refine ⟨rfl, ?_⟩
    rcases hs2 with ⟨rfl, w, rfl, hst⟩ | ⟨hcd, rfl⟩
    · refine zrun 1 (zloc [(0, _), (1, _), (2, _), (3, _), (4, _), (5, _), (6, _)] rfl ?_)
      refine zrun 5 ?_
      refine zW_sald (n := 6 * q + 1) rfl rfl (nI_add (6 * q) 1) (by omega) hN ?_
      refine zrun 1 ⟨fun z => absurd z hx, fun _ => ?_⟩
      refine zrun 6 ?_
      refine zW_sald (n := 6 * q + 2) rfl rfl (nI_add (6 * q) 2) (by omega) hN ?_
      refine zrun 4 ?_
      refine zW_sald (n := 6 * q + 3) rfl rfl (nI_add (6 * q) 3) (by omega) hN ?_
      refine zrun 1 ⟨⟨by show uc + 1 + 0 ≤ 601024; omega, by show us + 6 + 0 ≤ 7293034; omega, rfl⟩, ?_⟩
      refine zW_mono ε _ _ _ _ _ _ _ _ _ _ _ (fun r h2 hP => ?_) (hw AL2 AD2)
      obtain ⟨rfl, o3, ot3, it3, IF3, A3, rfl, hg, h0⟩ := hP
      refine ⟨rfl, ?_⟩
      refine zrun 1 (zloc [(0, _), (1, _), (2, _), (3, _), (4, _), (5, _), (6, _), (7, _)] rfl ?_)
      refine zrun 2 ⟨⟨by show uc + 1 + 0 + 0 ≤ 601024; omega, by show us + 6 + 0 + 0 ≤ 7293034; omega, rfl⟩, ?_⟩
      refine c_thrown ⟨rfl, ?_⟩
      refine zrun 2 ⟨fun _ => ?_, fun z => absurd h0 z⟩
      refine zrun 2 ⟨fun z => absurd rfl z, fun _ => ?_⟩
      refine zrun 3 ⟨z_01, ?_⟩
      refine zrun 4 ⟨fun _ => ?_, fun z => absurd ((lg_cmp_eq _ _).mpr hst) z⟩
      exact zrun 1 (zfg [0, 1, 2, 3, 4, 5] (zloc [(0, _), (1, _), (2, _), (3, _), (4, _), (5, _)] rfl (next _ _ _ _ _ _ _ _ _ hg (by show uc + 1 + 0 + 0 ≤ uc + 7; omega) (by show us + 6 + 0 + 0 ≤ us + 42; omega))))
    · refine zrun 1 (zloc [(0, _), (1, _), (2, _), (3, _), (4, _), (5, _), (6, _)] rfl ?_)
      refine zrun 5 ?_
      refine zW_sald (n := 6 * q + 1) rfl rfl (nI_add (6 * q) 1) (by omega) hN ?_
      refine zrun 1 ⟨fun z => absurd z hx, fun _ => ?_⟩
      refine zrun 6 ?_
      refine zW_sald (n := 6 * q + 2) rfl rfl (nI_add (6 * q) 2) (by omega) hN ?_
      refine zrun 4 ?_
      refine zW_sald (n := 6 * q + 3) rfl rfl (nI_add (6 * q) 3) (by omega) hN ?_
      refine zrun 1 ⟨⟨by show uc + 1 + 0 ≤ 601024; omega, by show us + 6 + 0 ≤ 7293034; omega, rfl⟩, ?_⟩
      refine zW_mono ε _ _ _ _ _ _ _ _ _ _ _ (fun r h2 hP => ?_) (hw AL2 AD2)
      obtain ⟨rfl, o3, ot3, it3, IF3, A3, rfl, hg, h0⟩ := hP
      refine ⟨rfl, ?_⟩
      refine zrun 1 (zloc [(0, _), (1, _), (2, _), (3, _), (4, _), (5, _), (6, _), (7, _)] rfl ?_)
      refine zrun 2 ⟨⟨by show uc + 1 + 0 + 0 ≤ 601024; omega, by show us + 6 + 0 + 0 ≤ 7293034; omega, rfl⟩, ?_⟩
      refine c_thrown ⟨rfl, ?_⟩
      refine zrun 2 ⟨fun _ => ?_, fun z => absurd h0 z⟩
      refine zrun 2 ⟨fun _ => ?_, fun z => absurd z hcd⟩
      exact zrun 1 (zfg [0, 1, 2, 3, 4, 5] (zloc [(0, _), (1, _), (2, _), (3, _), (4, _), (5, _)] rfl (next _ _ _ _ _ _ _ _ _ hg (by show uc + 1 + 0 + 0 ≤ uc + 7; omega) (by show us + 6 + 0 + 0 ≤ us + 42; omega))))
theorem lw_planned (hN : ε.1 ≤ 3072) (hq : 6 * q + 6 ≤ ε.1) (h : gX IF A L p pa ex ey k) (hu : uc + 7 ≤ 601024) (hs : us + 42 ≤ 7293034) (next : lNx ε d Q q uc us) : zW ε true (d + 22) 232 701 [(0, .ref 2000), (1, .ref 0), (2, .ref 32), (3, .ref 51), (4, .ref 52), (5, .int (nI (6 * q)))] [] (zM o ot it IF A AL AD) uc us Q := by
  by_cases hx : ε.2 (6 * q + 3) = 0
  · refine zrun 5 ?_
    refine zW_sald (n := 6 * q + 1) rfl rfl (nI_add (6 * q) 1) (by omega) hN ?_
    refine zrun 4 ?_
    refine zW_sald (n := 6 * q + 2) rfl rfl (nI_add (6 * q) 2) (by omega) hN ?_
    refine zrun 4 ?_
    refine zW_sald (n := 6 * q + 3) rfl rfl (nI_add (6 * q) 3) (by omega) hN ?_
    refine zrun 1 ⟨fun _ => ?_, fun z => absurd hx z⟩
    refine zrun 3 ⟨⟨by show uc + 3 ≤ 601024; omega, by show us + 18 ≤ 7293034; omega, rfl⟩, ?_⟩
    refine zW_mono ε _ _ _ _ _ _ _ _ _ _ _ (fun r h2 hP => ?_) (hp_planned (j_planned (b := false) h rfl))
    obtain ⟨o2, ot2, it2, IF2, A2, AL2, AD2, u, cde, rfl, hw, rfl, hs2⟩ := hP
    refine ⟨rfl, ?_⟩
    rcases hs2 with ⟨rfl, w, rfl, hst⟩ | ⟨hcd, rfl⟩
    · refine zrun 1 (zloc [(0, _), (1, _), (2, _), (3, _), (4, _), (5, _), (6, _)] rfl ?_)
      refine zrun 5 ?_
      refine zW_sald (n := 6 * q + 1) rfl rfl (nI_add (6 * q) 1) (by omega) hN ?_
      refine zrun 4 ?_
      refine zW_sald (n := 6 * q + 2) rfl rfl (nI_add (6 * q) 2) (by omega) hN ?_
      refine zrun 4 ?_
      refine zW_sald (n := 6 * q + 3) rfl rfl (nI_add (6 * q) 3) (by omega) hN ?_
      refine zrun 1 ⟨fun _ => ?_, fun z => absurd hx z⟩
      refine zrun 2 ⟨⟨by show uc + 3 + 0 ≤ 601024; omega, by show us + 18 + 0 ≤ 7293034; omega, rfl⟩, ?_⟩
      refine zW_mono ε _ _ _ _ _ _ _ _ _ _ _ (fun r h2 hP => ?_) (hw AL2 AD2)
      obtain ⟨rfl, o3, ot3, it3, IF3, A3, rfl, hg, h0⟩ := hP
      refine ⟨rfl, ?_⟩
      refine zrun 1 (zloc [(0, _), (1, _), (2, _), (3, _), (4, _), (5, _), (6, _), (7, _)] rfl ?_)
      refine zrun 2 ⟨⟨by show uc + 3 + 0 + 0 ≤ 601024; omega, by show us + 18 + 0 + 0 ≤ 7293034; omega, rfl⟩, ?_⟩
      refine c_thrown ⟨rfl, ?_⟩
      refine zrun 2 ⟨fun _ => ?_, fun z => absurd h0 z⟩
      refine zrun 2 ⟨fun z => absurd rfl z, fun _ => ?_⟩
      refine zrun 3 ⟨z_01, ?_⟩
      refine zrun 4 ⟨fun _ => ?_, fun z => absurd ((lg_cmp_eq _ _).mpr hst) z⟩
      exact zrun 1 (zfg [0, 1, 2, 3, 4, 5] (zloc [(0, _), (1, _), (2, _), (3, _), (4, _), (5, _)] rfl (next _ _ _ _ _ _ _ _ _ hg (by show uc + 3 + 0 + 0 ≤ uc + 7; omega) (by show us + 18 + 0 + 0 ≤ us + 42; omega))))
    · refine zrun 1 (zloc [(0, _), (1, _), (2, _), (3, _), (4, _), (5, _), (6, _)] rfl ?_)
      refine zrun 5 ?_
      refine zW_sald (n := 6 * q + 1) rfl rfl (nI_add (6 * q) 1) (by omega) hN ?_
      refine zrun 4 ?_
      refine zW_sald (n := 6 * q + 2) rfl rfl (nI_add (6 * q) 2) (by omega) hN ?_
      refine zrun 4 ?_
      refine zW_sald (n := 6 * q + 3) rfl rfl (nI_add (6 * q) 3) (by omega) hN ?_
      refine zrun 1 ⟨fun _ => ?_, fun z => absurd hx z⟩
      refine zrun 2 ⟨⟨by show uc + 3 + 0 ≤ 601024; omega, by show us + 18 + 0 ≤ 7293034; omega, rfl⟩, ?_⟩
      refine zW_mono ε _ _ _ _ _ _ _ _ _ _ _ (fun r h2 hP => ?_) (hw AL2 AD2)
      obtain ⟨rfl, o3, ot3, it3, IF3, A3, rfl, hg, h0⟩ := hP
      refine ⟨rfl, ?_⟩
      refine zrun 1 (zloc [(0, _), (1, _), (2, _), (3, _), (4, _), (5, _), (6, _), (7, _)] rfl ?_)
      refine zrun 2 ⟨⟨by show uc + 3 + 0 + 0 ≤ 601024; omega, by show us + 18 + 0 + 0 ≤ 7293034; omega, rfl⟩, ?_⟩
      refine c_thrown ⟨rfl, ?_⟩
      refine zrun 2 ⟨fun _ => ?_, fun z => absurd h0 z⟩
      refine zrun 2 ⟨fun _ => ?_, fun z => absurd z hcd⟩
      exact zrun 1 (zfg [0, 1, 2, 3, 4, 5] (zloc [(0, _), (1, _), (2, _), (3, _), (4, _), (5, _)] rfl (next _ _ _ _ _ _ _ _ _ hg (by show uc + 3 + 0 + 0 ≤ uc + 7; omega) (by show us + 18 + 0 + 0 ≤ us + 42; omega))))
  · refine zrun 5 ?_
    refine zW_sald (n := 6 * q + 1) rfl rfl (nI_add (6 * q) 1) (by omega) hN ?_
    refine zrun 4 ?_
    refine zW_sald (n := 6 * q + 2) rfl rfl (nI_add (6 * q) 2) (by omega) hN ?_
    refine zrun 4 ?_
    refine zW_sald (n := 6 * q + 3) rfl rfl (nI_add (6 * q) 3) (by omega) hN ?_
    refine zrun 1 ⟨fun z => absurd z hx, fun _ => ?_⟩
    refine zrun 4 ⟨⟨by show uc + 3 ≤ 601024; omega, by show us + 18 ≤ 7293034; omega, rfl⟩, ?_⟩
    refine zW_mono ε _ _ _ _ _ _ _ _ _ _ _ (fun r h2 hP => ?_) (hp_planned (j_planned (b := true) h rfl))
    obtain ⟨o2, ot2, it2, IF2, A2, AL2, AD2, u, cde, rfl, hw, rfl, hs2⟩ := hP
    refine ⟨rfl, ?_⟩
    rcases hs2 with ⟨rfl, w, rfl, hst⟩ | ⟨hcd, rfl⟩
    · refine zrun 1 (zloc [(0, _), (1, _), (2, _), (3, _), (4, _), (5, _), (6, _)] rfl ?_)
      refine zrun 5 ?_
      refine zW_sald (n := 6 * q + 1) rfl rfl (nI_add (6 * q) 1) (by omega) hN ?_
      refine zrun 4 ?_
      refine zW_sald (n := 6 * q + 2) rfl rfl (nI_add (6 * q) 2) (by omega) hN ?_
      refine zrun 4 ?_
      refine zW_sald (n := 6 * q + 3) rfl rfl (nI_add (6 * q) 3) (by omega) hN ?_
      refine zrun 1 ⟨fun z => absurd z hx, fun _ => ?_⟩
      refine zrun 3 ⟨⟨by show uc + 3 + 0 ≤ 601024; omega, by show us + 18 + 0 ≤ 7293034; omega, rfl⟩, ?_⟩
      refine zW_mono ε _ _ _ _ _ _ _ _ _ _ _ (fun r h2 hP => ?_) (hw AL2 AD2)
      obtain ⟨rfl, o3, ot3, it3, IF3, A3, rfl, hg, h0⟩ := hP
      refine ⟨rfl, ?_⟩
      refine zrun 1 (zloc [(0, _), (1, _), (2, _), (3, _), (4, _), (5, _), (6, _), (7, _)] rfl ?_)
      refine zrun 2 ⟨⟨by show uc + 3 + 0 + 0 ≤ 601024; omega, by show us + 18 + 0 + 0 ≤ 7293034; omega, rfl⟩, ?_⟩
      refine c_thrown ⟨rfl, ?_⟩
      refine zrun 2 ⟨fun _ => ?_, fun z => absurd h0 z⟩
      refine zrun 2 ⟨fun z => absurd rfl z, fun _ => ?_⟩
      refine zrun 3 ⟨z_01, ?_⟩
      refine zrun 4 ⟨fun _ => ?_, fun z => absurd ((lg_cmp_eq _ _).mpr hst) z⟩
      exact zrun 1 (zfg [0, 1, 2, 3, 4, 5] (zloc [(0, _), (1, _), (2, _), (3, _), (4, _), (5, _)] rfl (next _ _ _ _ _ _ _ _ _ hg (by show uc + 3 + 0 + 0 ≤ uc + 7; omega) (by show us + 18 + 0 + 0 ≤ us + 42; omega))))
    · refine zrun 1 (zloc [(0, _), (1, _), (2, _), (3, _), (4, _), (5, _), (6, _)] rfl ?_)
      refine zrun 5 ?_
      refine zW_sald (n := 6 * q + 1) rfl rfl (nI_add (6 * q) 1) (by omega) hN ?_
      refine zrun 4 ?_
      refine zW_sald (n := 6 * q + 2) rfl rfl (nI_add (6 * q) 2) (by omega) hN ?_
      refine zrun 4 ?_
      refine zW_sald (n := 6 * q + 3) rfl rfl (nI_add (6 * q) 3) (by omega) hN ?_
      refine zrun 1 ⟨fun z => absurd z hx, fun _ => ?_⟩
      refine zrun 3 ⟨⟨by show uc + 3 + 0 ≤ 601024; omega, by show us + 18 + 0 ≤ 7293034; omega, rfl⟩, ?_⟩
      refine zW_mono ε _ _ _ _ _ _ _ _ _ _ _ (fun r h2 hP => ?_) (hw AL2 AD2)
      obtain ⟨rfl, o3, ot3, it3, IF3, A3, rfl, hg, h0⟩ := hP
      refine ⟨rfl, ?_⟩
      refine zrun 1 (zloc [(0, _), (1, _), (2, _), (3, _), (4, _), (5, _), (6, _), (7, _)] rfl ?_)
      refine zrun 2 ⟨⟨by show uc + 3 + 0 + 0 ≤ 601024; omega, by show us + 18 + 0 + 0 ≤ 7293034; omega, rfl⟩, ?_⟩
      refine c_thrown ⟨rfl, ?_⟩
      refine zrun 2 ⟨fun _ => ?_, fun z => absurd h0 z⟩
      refine zrun 2 ⟨fun _ => ?_, fun z => absurd z hcd⟩
      exact zrun 1 (zfg [0, 1, 2, 3, 4, 5] (zloc [(0, _), (1, _), (2, _), (3, _), (4, _), (5, _)] rfl (next _ _ _ _ _ _ _ _ _ hg (by show uc + 3 + 0 + 0 ≤ uc + 7; omega) (by show us + 18 + 0 + 0 ≤ us + 42; omega))))
theorem lw_plan (hN : ε.1 ≤ 3072) (hq : 6 * q + 6 ≤ ε.1) (h : gX IF A L p pa ex ey k) (hu : uc + 7 ≤ 601024) (hs : us + 42 ≤ 7293034) (next : lNx ε d Q q uc us) : zW ε true (d + 22) 232 797 [(0, .ref 2000), (1, .ref 0), (2, .ref 32), (3, .ref 51), (4, .ref 52), (5, .int (nI (6 * q)))] [] (zM o ot it IF A AL AD) uc us Q := by
  refine zrun 5 ?_
  refine zW_sald (n := 6 * q + 1) rfl rfl (nI_add (6 * q) 1) (by omega) hN ?_
  refine zrun 4 ?_
  refine zW_sald (n := 6 * q + 2) rfl rfl (nI_add (6 * q) 2) (by omega) hN ?_
  refine zrun 4 ?_
  refine zW_sald (n := 6 * q + 3) rfl rfl (nI_add (6 * q) 3) (by omega) hN ?_
  refine zrun 2 ⟨⟨by show uc + 5 ≤ 601024; omega, by show us + 30 ≤ 7293034; omega, rfl⟩, ?_⟩
  refine zW_mono ε _ _ _ _ _ _ _ _ _ _ _ (fun r h2 hP => ?_) (hp_plan (j_plan h))
  obtain ⟨o2, ot2, it2, IF2, A2, AL2, AD2, u, cde, rfl, hw, rfl, hs2⟩ := hP
  refine ⟨rfl, ?_⟩
  rcases hs2 with ⟨rfl, w, rfl, hst⟩ | ⟨hcd, rfl⟩
  · refine zrun 1 (zloc [(0, _), (1, _), (2, _), (3, _), (4, _), (5, _), (6, _)] rfl ?_)
    refine zrun 5 ?_
    refine zW_sald (n := 6 * q + 1) rfl rfl (nI_add (6 * q) 1) (by omega) hN ?_
    refine zrun 4 ?_
    refine zW_sald (n := 6 * q + 2) rfl rfl (nI_add (6 * q) 2) (by omega) hN ?_
    refine zrun 4 ?_
    refine zW_sald (n := 6 * q + 3) rfl rfl (nI_add (6 * q) 3) (by omega) hN ?_
    refine zrun 1 ⟨⟨by show uc + 5 + 0 ≤ 601024; omega, by show us + 30 + 0 ≤ 7293034; omega, rfl⟩, ?_⟩
    refine zW_mono ε _ _ _ _ _ _ _ _ _ _ _ (fun r h2 hP => ?_) (hw AL2 AD2)
    obtain ⟨rfl, o3, ot3, it3, IF3, A3, rfl, hg, h0⟩ := hP
    refine ⟨rfl, ?_⟩
    refine zrun 1 (zloc [(0, _), (1, _), (2, _), (3, _), (4, _), (5, _), (6, _), (7, _)] rfl ?_)
    refine zrun 2 ⟨⟨by show uc + 5 + 0 + 0 ≤ 601024; omega, by show us + 30 + 0 + 0 ≤ 7293034; omega, rfl⟩, ?_⟩
    refine c_thrown ⟨rfl, ?_⟩
    refine zrun 2 ⟨fun _ => ?_, fun z => absurd h0 z⟩
    refine zrun 2 ⟨fun z => absurd rfl z, fun _ => ?_⟩
    refine zrun 3 ⟨z_01, ?_⟩
    refine zrun 4 ⟨fun _ => ?_, fun z => absurd ((lg_cmp_eq _ _).mpr hst) z⟩
    exact zrun 1 (zfg [0, 1, 2, 3, 4, 5] (zloc [(0, _), (1, _), (2, _), (3, _), (4, _), (5, _)] rfl (next _ _ _ _ _ _ _ _ _ hg (by show uc + 5 + 0 + 0 ≤ uc + 7; omega) (by show us + 30 + 0 + 0 ≤ us + 42; omega))))
  · refine zrun 1 (zloc [(0, _), (1, _), (2, _), (3, _), (4, _), (5, _), (6, _)] rfl ?_)
    refine zrun 5 ?_
    refine zW_sald (n := 6 * q + 1) rfl rfl (nI_add (6 * q) 1) (by omega) hN ?_
    refine zrun 4 ?_
    refine zW_sald (n := 6 * q + 2) rfl rfl (nI_add (6 * q) 2) (by omega) hN ?_
    refine zrun 4 ?_
    refine zW_sald (n := 6 * q + 3) rfl rfl (nI_add (6 * q) 3) (by omega) hN ?_
    refine zrun 1 ⟨⟨by show uc + 5 + 0 ≤ 601024; omega, by show us + 30 + 0 ≤ 7293034; omega, rfl⟩, ?_⟩
    refine zW_mono ε _ _ _ _ _ _ _ _ _ _ _ (fun r h2 hP => ?_) (hw AL2 AD2)
    obtain ⟨rfl, o3, ot3, it3, IF3, A3, rfl, hg, h0⟩ := hP
    refine ⟨rfl, ?_⟩
    refine zrun 1 (zloc [(0, _), (1, _), (2, _), (3, _), (4, _), (5, _), (6, _), (7, _)] rfl ?_)
    refine zrun 2 ⟨⟨by show uc + 5 + 0 + 0 ≤ 601024; omega, by show us + 30 + 0 + 0 ≤ 7293034; omega, rfl⟩, ?_⟩
    refine c_thrown ⟨rfl, ?_⟩
    refine zrun 2 ⟨fun _ => ?_, fun z => absurd h0 z⟩
    refine zrun 2 ⟨fun _ => ?_, fun z => absurd z hcd⟩
    exact zrun 1 (zfg [0, 1, 2, 3, 4, 5] (zloc [(0, _), (1, _), (2, _), (3, _), (4, _), (5, _)] rfl (next _ _ _ _ _ _ _ _ _ hg (by show uc + 5 + 0 + 0 ≤ uc + 7; omega) (by show us + 30 + 0 + 0 ≤ us + 42; omega))))
theorem lw_setSupplement (hN : ε.1 ≤ 3072) (hq : 6 * q + 6 ≤ ε.1) (h : gX IF A L p pa ex ey k) (hu : uc + 7 ≤ 601024) (hs : us + 42 ≤ 7293034) (next : lNx ε d Q q uc us) : zW ε true (d + 22) 232 877 [(0, .ref 2000), (1, .ref 0), (2, .ref 32), (3, .ref 51), (4, .ref 52), (5, .int (nI (6 * q)))] [] (zM o ot it IF A AL AD) uc us Q := by
  refine zrun 5 ?_
  refine zW_sald (n := 6 * q + 1) rfl rfl (nI_add (6 * q) 1) (by omega) hN ?_
  refine zrun 4 ?_
  refine zW_sald (n := 6 * q + 2) rfl rfl (nI_add (6 * q) 2) (by omega) hN ?_
  refine zrun 4 ?_
  refine zW_sald (n := 6 * q + 3) rfl rfl (nI_add (6 * q) 3) (by omega) hN ?_
  refine zrun 2 ⟨⟨by show uc + 3 ≤ 601024; omega, by show us + 18 ≤ 7293034; omega, rfl⟩, ?_⟩
  refine zW_mono ε _ _ _ _ _ _ _ _ _ _ _ (fun r h2 hP => ?_) (hp_setSupplement (j_setSupplement h))
  obtain ⟨o2, ot2, it2, IF2, A2, AL2, AD2, u, cde, rfl, hw, rfl, hs2⟩ := hP
  refine ⟨rfl, ?_⟩
  rcases hs2 with ⟨rfl, w, rfl, hst⟩ | ⟨hcd, rfl⟩
  · refine zrun 1 (zloc [(0, _), (1, _), (2, _), (3, _), (4, _), (5, _), (6, _)] rfl ?_)
    refine zrun 5 ?_
    refine zW_sald (n := 6 * q + 1) rfl rfl (nI_add (6 * q) 1) (by omega) hN ?_
    refine zrun 4 ?_
    refine zW_sald (n := 6 * q + 2) rfl rfl (nI_add (6 * q) 2) (by omega) hN ?_
    refine zrun 4 ?_
    refine zW_sald (n := 6 * q + 3) rfl rfl (nI_add (6 * q) 3) (by omega) hN ?_
    refine zrun 1 ⟨⟨by show uc + 3 + 0 ≤ 601024; omega, by show us + 18 + 0 ≤ 7293034; omega, rfl⟩, ?_⟩
    refine zW_mono ε _ _ _ _ _ _ _ _ _ _ _ (fun r h2 hP => ?_) (hw AL2 AD2)
    obtain ⟨rfl, o3, ot3, it3, IF3, A3, rfl, hg, h0⟩ := hP
    refine ⟨rfl, ?_⟩
    refine zrun 1 (zloc [(0, _), (1, _), (2, _), (3, _), (4, _), (5, _), (6, _), (7, _)] rfl ?_)
    refine zrun 2 ⟨⟨by show uc + 3 + 0 + 0 ≤ 601024; omega, by show us + 18 + 0 + 0 ≤ 7293034; omega, rfl⟩, ?_⟩
    refine c_thrown ⟨rfl, ?_⟩
    refine zrun 2 ⟨fun _ => ?_, fun z => absurd h0 z⟩
    refine zrun 2 ⟨fun z => absurd rfl z, fun _ => ?_⟩
    refine zrun 3 ⟨z_01, ?_⟩
    refine zrun 4 ⟨fun _ => ?_, fun z => absurd ((lg_cmp_eq _ _).mpr hst) z⟩
    exact zrun 1 (zfg [0, 1, 2, 3, 4, 5] (zloc [(0, _), (1, _), (2, _), (3, _), (4, _), (5, _)] rfl (next _ _ _ _ _ _ _ _ _ hg (by show uc + 3 + 0 + 0 ≤ uc + 7; omega) (by show us + 18 + 0 + 0 ≤ us + 42; omega))))
  · refine zrun 1 (zloc [(0, _), (1, _), (2, _), (3, _), (4, _), (5, _), (6, _)] rfl ?_)
    refine zrun 5 ?_
    refine zW_sald (n := 6 * q + 1) rfl rfl (nI_add (6 * q) 1) (by omega) hN ?_
    refine zrun 4 ?_
    refine zW_sald (n := 6 * q + 2) rfl rfl (nI_add (6 * q) 2) (by omega) hN ?_
    refine zrun 4 ?_
    refine zW_sald (n := 6 * q + 3) rfl rfl (nI_add (6 * q) 3) (by omega) hN ?_
    refine zrun 1 ⟨⟨by show uc + 3 + 0 ≤ 601024; omega, by show us + 18 + 0 ≤ 7293034; omega, rfl⟩, ?_⟩
    refine zW_mono ε _ _ _ _ _ _ _ _ _ _ _ (fun r h2 hP => ?_) (hw AL2 AD2)
    obtain ⟨rfl, o3, ot3, it3, IF3, A3, rfl, hg, h0⟩ := hP
    refine ⟨rfl, ?_⟩
    refine zrun 1 (zloc [(0, _), (1, _), (2, _), (3, _), (4, _), (5, _), (6, _), (7, _)] rfl ?_)
    refine zrun 2 ⟨⟨by show uc + 3 + 0 + 0 ≤ 601024; omega, by show us + 18 + 0 + 0 ≤ 7293034; omega, rfl⟩, ?_⟩
    refine c_thrown ⟨rfl, ?_⟩
    refine zrun 2 ⟨fun _ => ?_, fun z => absurd h0 z⟩
    refine zrun 2 ⟨fun _ => ?_, fun z => absurd z hcd⟩
    exact zrun 1 (zfg [0, 1, 2, 3, 4, 5] (zloc [(0, _), (1, _), (2, _), (3, _), (4, _), (5, _)] rfl (next _ _ _ _ _ _ _ _ _ hg (by show uc + 3 + 0 + 0 ≤ uc + 7; omega) (by show us + 18 + 0 + 0 ≤ us + 42; omega))))
theorem lw_supplement (hN : ε.1 ≤ 3072) (hq : 6 * q + 6 ≤ ε.1) (h : gX IF A L p pa ex ey k) (hu : uc + 7 ≤ 601024) (hs : us + 42 ≤ 7293034) (next : lNx ε d Q q uc us) : zW ε true (d + 22) 232 957 [(0, .ref 2000), (1, .ref 0), (2, .ref 32), (3, .ref 51), (4, .ref 52), (5, .int (nI (6 * q)))] [] (zM o ot it IF A AL AD) uc us Q := by
  refine zrun 5 ?_
  refine zW_sald (n := 6 * q + 1) rfl rfl (nI_add (6 * q) 1) (by omega) hN ?_
  refine zrun 4 ?_
  refine zW_sald (n := 6 * q + 2) rfl rfl (nI_add (6 * q) 2) (by omega) hN ?_
  refine zrun 2 ⟨⟨by show uc + 2 ≤ 601024; omega, by show us + 12 ≤ 7293034; omega, rfl⟩, ?_⟩
  refine zW_mono ε _ _ _ _ _ _ _ _ _ _ _ (fun r h2 hP => ?_) (hp_supplement (j_supplement h))
  obtain ⟨o2, ot2, it2, IF2, A2, AL2, AD2, u, cde, rfl, hw, rfl, hs2⟩ := hP
  refine ⟨rfl, ?_⟩
  rcases hs2 with ⟨rfl, w, rfl, hst⟩ | ⟨hcd, rfl⟩
  · refine zrun 1 (zloc [(0, _), (1, _), (2, _), (3, _), (4, _), (5, _), (6, _)] rfl ?_)
    refine zrun 5 ?_
    refine zW_sald (n := 6 * q + 1) rfl rfl (nI_add (6 * q) 1) (by omega) hN ?_
    refine zrun 4 ?_
    refine zW_sald (n := 6 * q + 2) rfl rfl (nI_add (6 * q) 2) (by omega) hN ?_
    refine zrun 1 ⟨⟨by show uc + 2 + 0 ≤ 601024; omega, by show us + 12 + 0 ≤ 7293034; omega, rfl⟩, ?_⟩
    refine zW_mono ε _ _ _ _ _ _ _ _ _ _ _ (fun r h2 hP => ?_) (hw AL2 AD2)
    obtain ⟨rfl, o3, ot3, it3, IF3, A3, rfl, hg, h0⟩ := hP
    refine ⟨rfl, ?_⟩
    refine zrun 1 (zloc [(0, _), (1, _), (2, _), (3, _), (4, _), (5, _), (6, _), (7, _)] rfl ?_)
    refine zrun 2 ⟨⟨by show uc + 2 + 0 + 0 ≤ 601024; omega, by show us + 12 + 0 + 0 ≤ 7293034; omega, rfl⟩, ?_⟩
    refine c_thrown ⟨rfl, ?_⟩
    refine zrun 2 ⟨fun _ => ?_, fun z => absurd h0 z⟩
    refine zrun 2 ⟨fun z => absurd rfl z, fun _ => ?_⟩
    refine zrun 3 ⟨z_01, ?_⟩
    refine zrun 4 ⟨fun _ => ?_, fun z => absurd ((lg_cmp_eq _ _).mpr hst) z⟩
    exact zrun 1 (zfg [0, 1, 2, 3, 4, 5] (zloc [(0, _), (1, _), (2, _), (3, _), (4, _), (5, _)] rfl (next _ _ _ _ _ _ _ _ _ hg (by show uc + 2 + 0 + 0 ≤ uc + 7; omega) (by show us + 12 + 0 + 0 ≤ us + 42; omega))))
  · refine zrun 1 (zloc [(0, _), (1, _), (2, _), (3, _), (4, _), (5, _), (6, _)] rfl ?_)
    refine zrun 5 ?_
    refine zW_sald (n := 6 * q + 1) rfl rfl (nI_add (6 * q) 1) (by omega) hN ?_
    refine zrun 4 ?_
    refine zW_sald (n := 6 * q + 2) rfl rfl (nI_add (6 * q) 2) (by omega) hN ?_
    refine zrun 1 ⟨⟨by show uc + 2 + 0 ≤ 601024; omega, by show us + 12 + 0 ≤ 7293034; omega, rfl⟩, ?_⟩
    refine zW_mono ε _ _ _ _ _ _ _ _ _ _ _ (fun r h2 hP => ?_) (hw AL2 AD2)
    obtain ⟨rfl, o3, ot3, it3, IF3, A3, rfl, hg, h0⟩ := hP
    refine ⟨rfl, ?_⟩
    refine zrun 1 (zloc [(0, _), (1, _), (2, _), (3, _), (4, _), (5, _), (6, _), (7, _)] rfl ?_)
    refine zrun 2 ⟨⟨by show uc + 2 + 0 + 0 ≤ 601024; omega, by show us + 12 + 0 + 0 ≤ 7293034; omega, rfl⟩, ?_⟩
    refine c_thrown ⟨rfl, ?_⟩
    refine zrun 2 ⟨fun _ => ?_, fun z => absurd h0 z⟩
    refine zrun 2 ⟨fun _ => ?_, fun z => absurd z hcd⟩
    exact zrun 1 (zfg [0, 1, 2, 3, 4, 5] (zloc [(0, _), (1, _), (2, _), (3, _), (4, _), (5, _)] rfl (next _ _ _ _ _ _ _ _ _ hg (by show uc + 2 + 0 + 0 ≤ uc + 7; omega) (by show us + 12 + 0 + 0 ≤ us + 42; omega))))
theorem lw_buffer (hN : ε.1 ≤ 3072) (hq : 6 * q + 6 ≤ ε.1) (h : gX IF A L p pa ex ey k) (hu : uc + 7 ≤ 601024) (hs : us + 42 ≤ 7293034) (next : lNx ε d Q q uc us) : zW ε true (d + 22) 232 1025 [(0, .ref 2000), (1, .ref 0), (2, .ref 32), (3, .ref 51), (4, .ref 52), (5, .int (nI (6 * q)))] [] (zM o ot it IF A AL AD) uc us Q := by
  refine zrun 5 ?_
  refine zW_sald (n := 6 * q + 1) rfl rfl (nI_add (6 * q) 1) (by omega) hN ?_
  refine zrun 4 ?_
  refine zW_sald (n := 6 * q + 2) rfl rfl (nI_add (6 * q) 2) (by omega) hN ?_
  refine zrun 2 ⟨⟨by show uc + 3 ≤ 601024; omega, by show us + 18 ≤ 7293034; omega, rfl⟩, ?_⟩
  refine zW_mono ε _ _ _ _ _ _ _ _ _ _ _ (fun r h2 hP => ?_) (hp_buffer (j_buffer h))
  obtain ⟨o2, ot2, it2, IF2, A2, AL2, AD2, u, cde, rfl, hw, rfl, hs2⟩ := hP
  refine ⟨rfl, ?_⟩
  rcases hs2 with ⟨rfl, w, rfl, hst⟩ | ⟨hcd, rfl⟩
  · refine zrun 1 (zloc [(0, _), (1, _), (2, _), (3, _), (4, _), (5, _), (6, _)] rfl ?_)
    refine zrun 5 ?_
    refine zW_sald (n := 6 * q + 1) rfl rfl (nI_add (6 * q) 1) (by omega) hN ?_
    refine zrun 4 ?_
    refine zW_sald (n := 6 * q + 2) rfl rfl (nI_add (6 * q) 2) (by omega) hN ?_
    refine zrun 1 ⟨⟨by show uc + 3 + 0 ≤ 601024; omega, by show us + 18 + 0 ≤ 7293034; omega, rfl⟩, ?_⟩
    refine zW_mono ε _ _ _ _ _ _ _ _ _ _ _ (fun r h2 hP => ?_) (hw AL2 AD2)
    obtain ⟨rfl, o3, ot3, it3, IF3, A3, rfl, hg, h0⟩ := hP
    refine ⟨rfl, ?_⟩
    refine zrun 1 (zloc [(0, _), (1, _), (2, _), (3, _), (4, _), (5, _), (6, _), (7, _)] rfl ?_)
    refine zrun 2 ⟨⟨by show uc + 3 + 0 + 0 ≤ 601024; omega, by show us + 18 + 0 + 0 ≤ 7293034; omega, rfl⟩, ?_⟩
    refine c_thrown ⟨rfl, ?_⟩
    refine zrun 2 ⟨fun _ => ?_, fun z => absurd h0 z⟩
    refine zrun 2 ⟨fun z => absurd rfl z, fun _ => ?_⟩
    refine zrun 3 ⟨z_01, ?_⟩
    refine zrun 4 ⟨fun _ => ?_, fun z => absurd ((lg_cmp_eq _ _).mpr hst) z⟩
    exact zrun 1 (zfg [0, 1, 2, 3, 4, 5] (zloc [(0, _), (1, _), (2, _), (3, _), (4, _), (5, _)] rfl (next _ _ _ _ _ _ _ _ _ hg (by show uc + 3 + 0 + 0 ≤ uc + 7; omega) (by show us + 18 + 0 + 0 ≤ us + 42; omega))))
  · refine zrun 1 (zloc [(0, _), (1, _), (2, _), (3, _), (4, _), (5, _), (6, _)] rfl ?_)
    refine zrun 5 ?_
    refine zW_sald (n := 6 * q + 1) rfl rfl (nI_add (6 * q) 1) (by omega) hN ?_
    refine zrun 4 ?_
    refine zW_sald (n := 6 * q + 2) rfl rfl (nI_add (6 * q) 2) (by omega) hN ?_
    refine zrun 1 ⟨⟨by show uc + 3 + 0 ≤ 601024; omega, by show us + 18 + 0 ≤ 7293034; omega, rfl⟩, ?_⟩
    refine zW_mono ε _ _ _ _ _ _ _ _ _ _ _ (fun r h2 hP => ?_) (hw AL2 AD2)
    obtain ⟨rfl, o3, ot3, it3, IF3, A3, rfl, hg, h0⟩ := hP
    refine ⟨rfl, ?_⟩
    refine zrun 1 (zloc [(0, _), (1, _), (2, _), (3, _), (4, _), (5, _), (6, _), (7, _)] rfl ?_)
    refine zrun 2 ⟨⟨by show uc + 3 + 0 + 0 ≤ 601024; omega, by show us + 18 + 0 + 0 ≤ 7293034; omega, rfl⟩, ?_⟩
    refine c_thrown ⟨rfl, ?_⟩
    refine zrun 2 ⟨fun _ => ?_, fun z => absurd h0 z⟩
    refine zrun 2 ⟨fun _ => ?_, fun z => absurd z hcd⟩
    exact zrun 1 (zfg [0, 1, 2, 3, 4, 5] (zloc [(0, _), (1, _), (2, _), (3, _), (4, _), (5, _)] rfl (next _ _ _ _ _ _ _ _ _ hg (by show uc + 3 + 0 + 0 ≤ uc + 7; omega) (by show us + 18 + 0 + 0 ≤ us + 42; omega))))
theorem lw_speed (hN : ε.1 ≤ 3072) (hq : 6 * q + 6 ≤ ε.1) (h : gX IF A L p pa ex ey k) (hu : uc + 7 ≤ 601024) (hs : us + 42 ≤ 7293034) (next : lNx ε d Q q uc us) : zW ε true (d + 22) 232 1093 [(0, .ref 2000), (1, .ref 0), (2, .ref 32), (3, .ref 51), (4, .ref 52), (5, .int (nI (6 * q)))] [] (zM o ot it IF A AL AD) uc us Q := by
  refine zrun 5 ?_
  refine zW_sald (n := 6 * q + 1) rfl rfl (nI_add (6 * q) 1) (by omega) hN ?_
  refine zrun 2 ⟨⟨by show uc + 1 ≤ 601024; omega, by show us + 6 ≤ 7293034; omega, rfl⟩, ?_⟩
  refine zW_mono ε _ _ _ _ _ _ _ _ _ _ _ (fun r h2 hP => ?_) (hp_speed (j_speed h))
  obtain ⟨o2, ot2, it2, IF2, A2, AL2, AD2, u, cde, rfl, hw, rfl, hs2⟩ := hP
  refine ⟨rfl, ?_⟩
  rcases hs2 with ⟨rfl, w, rfl, hst⟩ | ⟨hcd, rfl⟩
  · refine zrun 1 (zloc [(0, _), (1, _), (2, _), (3, _), (4, _), (5, _), (6, _)] rfl ?_)
    refine zrun 5 ?_
    refine zW_sald (n := 6 * q + 1) rfl rfl (nI_add (6 * q) 1) (by omega) hN ?_
    refine zrun 1 ⟨⟨by show uc + 1 + 0 ≤ 601024; omega, by show us + 6 + 0 ≤ 7293034; omega, rfl⟩, ?_⟩
    refine zW_mono ε _ _ _ _ _ _ _ _ _ _ _ (fun r h2 hP => ?_) (hw AL2 AD2)
    obtain ⟨rfl, o3, ot3, it3, IF3, A3, rfl, hg, h0⟩ := hP
    refine ⟨rfl, ?_⟩
    refine zrun 1 (zloc [(0, _), (1, _), (2, _), (3, _), (4, _), (5, _), (6, _), (7, _)] rfl ?_)
    refine zrun 2 ⟨⟨by show uc + 1 + 0 + 0 ≤ 601024; omega, by show us + 6 + 0 + 0 ≤ 7293034; omega, rfl⟩, ?_⟩
    refine c_thrown ⟨rfl, ?_⟩
    refine zrun 2 ⟨fun _ => ?_, fun z => absurd h0 z⟩
    refine zrun 2 ⟨fun z => absurd rfl z, fun _ => ?_⟩
    refine zrun 3 ⟨z_01, ?_⟩
    subst hst
    refine zrun 3 ⟨fun _ => ?_, fun z => ?_⟩
    · exact zrun 1 (zfg [0, 1, 2, 3, 4, 5] (zloc [(0, _), (1, _), (2, _), (3, _), (4, _), (5, _)] rfl (next _ _ _ _ _ _ _ _ _ hg (by show uc + 1 + 0 + 0 ≤ uc + 7; omega) (by show us + 6 + 0 + 0 ≤ us + 42; omega))))
    · refine zrun 3 ⟨z_01, ?_⟩
      refine zrun 3 ⟨z_01, ?_⟩
      refine zrun 2 ⟨fun z2 => absurd z2 z, fun _ => ?_⟩
      refine zrun 4 ⟨fun _ => ?_, fun z3 => absurd z3 z⟩
      exact zrun 1 (zfg [0, 1, 2, 3, 4, 5] (zloc [(0, _), (1, _), (2, _), (3, _), (4, _), (5, _)] rfl (next _ _ _ _ _ _ _ _ _ hg (by show uc + 1 + 0 + 0 ≤ uc + 7; omega) (by show us + 6 + 0 + 0 ≤ us + 42; omega))))
  · refine zrun 1 (zloc [(0, _), (1, _), (2, _), (3, _), (4, _), (5, _), (6, _)] rfl ?_)
    refine zrun 5 ?_
    refine zW_sald (n := 6 * q + 1) rfl rfl (nI_add (6 * q) 1) (by omega) hN ?_
    refine zrun 1 ⟨⟨by show uc + 1 + 0 ≤ 601024; omega, by show us + 6 + 0 ≤ 7293034; omega, rfl⟩, ?_⟩
    refine zW_mono ε _ _ _ _ _ _ _ _ _ _ _ (fun r h2 hP => ?_) (hw AL2 AD2)
    obtain ⟨rfl, o3, ot3, it3, IF3, A3, rfl, hg, h0⟩ := hP
    refine ⟨rfl, ?_⟩
    refine zrun 1 (zloc [(0, _), (1, _), (2, _), (3, _), (4, _), (5, _), (6, _), (7, _)] rfl ?_)
    refine zrun 2 ⟨⟨by show uc + 1 + 0 + 0 ≤ 601024; omega, by show us + 6 + 0 + 0 ≤ 7293034; omega, rfl⟩, ?_⟩
    refine c_thrown ⟨rfl, ?_⟩
    refine zrun 2 ⟨fun _ => ?_, fun z => absurd h0 z⟩
    refine zrun 2 ⟨fun _ => ?_, fun z => absurd z hcd⟩
    exact zrun 1 (zfg [0, 1, 2, 3, 4, 5] (zloc [(0, _), (1, _), (2, _), (3, _), (4, _), (5, _)] rfl (next _ _ _ _ _ _ _ _ _ hg (by show uc + 1 + 0 + 0 ≤ uc + 7; omega) (by show us + 6 + 0 + 0 ≤ us + 42; omega))))
theorem lw_lastArrival (hN : ε.1 ≤ 3072) (hq : 6 * q + 6 ≤ ε.1) (h : gX IF A L p pa ex ey k) (hu : uc + 7 ≤ 601024) (hs : us + 42 ≤ 7293034) (next : lNx ε d Q q uc us) : zW ε true (d + 22) 232 1170 [(0, .ref 2000), (1, .ref 0), (2, .ref 32), (3, .ref 51), (4, .ref 52), (5, .int (nI (6 * q)))] [] (zM o ot it IF A AL AD) uc us Q := by
  refine zrun 3 ⟨⟨by show uc + 1 ≤ 601024; omega, by show us + 6 ≤ 7293034; omega, rfl⟩, ?_⟩
  refine zW_mono ε _ _ _ _ _ _ _ _ _ _ _ (fun r h2 hP => ?_) (hp_lastArrival (j_lastArrival h))
  obtain ⟨o2, ot2, it2, IF2, A2, AL2, AD2, u, cde, rfl, hw, rfl, hs2⟩ := hP
  refine ⟨rfl, ?_⟩
  rcases hs2 with ⟨rfl, w, rfl, hst⟩ | ⟨hcd, rfl⟩
  · refine zrun 1 (zloc [(0, _), (1, _), (2, _), (3, _), (4, _), (5, _), (6, _)] rfl ?_)
    refine zrun 2 ⟨⟨by show uc + 1 + 0 ≤ 601024; omega, by show us + 6 + 0 ≤ 7293034; omega, rfl⟩, ?_⟩
    refine zW_mono ε _ _ _ _ _ _ _ _ _ _ _ (fun r h2 hP => ?_) (hw AL2 AD2)
    obtain ⟨rfl, o3, ot3, it3, IF3, A3, rfl, hg, h0⟩ := hP
    refine ⟨rfl, ?_⟩
    refine zrun 1 (zloc [(0, _), (1, _), (2, _), (3, _), (4, _), (5, _), (6, _), (7, _)] rfl ?_)
    refine zrun 2 ⟨⟨by show uc + 1 + 0 + 0 ≤ 601024; omega, by show us + 6 + 0 + 0 ≤ 7293034; omega, rfl⟩, ?_⟩
    refine c_thrown ⟨rfl, ?_⟩
    refine zrun 2 ⟨fun _ => ?_, fun z => absurd h0 z⟩
    refine zrun 2 ⟨fun z => absurd rfl z, fun _ => ?_⟩
    refine zrun 3 ⟨z_01, ?_⟩
    refine zrun 4 ⟨fun _ => ?_, fun z => absurd ((lg_cmp_eq _ _).mpr hst) z⟩
    exact zrun 1 (zfg [0, 1, 2, 3, 4, 5] (zloc [(0, _), (1, _), (2, _), (3, _), (4, _), (5, _)] rfl (next _ _ _ _ _ _ _ _ _ hg (by show uc + 1 + 0 + 0 ≤ uc + 7; omega) (by show us + 6 + 0 + 0 ≤ us + 42; omega))))
  · refine zrun 1 (zloc [(0, _), (1, _), (2, _), (3, _), (4, _), (5, _), (6, _)] rfl ?_)
    refine zrun 2 ⟨⟨by show uc + 1 + 0 ≤ 601024; omega, by show us + 6 + 0 ≤ 7293034; omega, rfl⟩, ?_⟩
    refine zW_mono ε _ _ _ _ _ _ _ _ _ _ _ (fun r h2 hP => ?_) (hw AL2 AD2)
    obtain ⟨rfl, o3, ot3, it3, IF3, A3, rfl, hg, h0⟩ := hP
    refine ⟨rfl, ?_⟩
    refine zrun 1 (zloc [(0, _), (1, _), (2, _), (3, _), (4, _), (5, _), (6, _), (7, _)] rfl ?_)
    refine zrun 2 ⟨⟨by show uc + 1 + 0 + 0 ≤ 601024; omega, by show us + 6 + 0 + 0 ≤ 7293034; omega, rfl⟩, ?_⟩
    refine c_thrown ⟨rfl, ?_⟩
    refine zrun 2 ⟨fun _ => ?_, fun z => absurd h0 z⟩
    refine zrun 2 ⟨fun _ => ?_, fun z => absurd z hcd⟩
    exact zrun 1 (zfg [0, 1, 2, 3, 4, 5] (zloc [(0, _), (1, _), (2, _), (3, _), (4, _), (5, _)] rfl (next _ _ _ _ _ _ _ _ _ hg (by show uc + 1 + 0 + 0 ≤ uc + 7; omega) (by show us + 6 + 0 + 0 ≤ us + 42; omega))))
theorem lw_disturb (hN : ε.1 ≤ 3072) (hq : 6 * q + 6 ≤ ε.1) (h : gX IF A L p pa ex ey k) (hu : uc + 7 ≤ 601024) (hs : us + 42 ≤ 7293034) (next : lNx ε d Q q uc us) : zW ε true (d + 22) 232 1214 [(0, .ref 2000), (1, .ref 0), (2, .ref 32), (3, .ref 51), (4, .ref 52), (5, .int (nI (6 * q)))] [] (zM o ot it IF A AL AD) uc us Q := by
  by_cases hx : ε.2 (6 * q + 3) = 0
  · refine zrun 5 ?_
    refine zW_sald (n := 6 * q + 1) rfl rfl (nI_add (6 * q) 1) (by omega) hN ?_
    refine zrun 4 ?_
    refine zW_sald (n := 6 * q + 2) rfl rfl (nI_add (6 * q) 2) (by omega) hN ?_
    refine zrun 4 ?_
    refine zW_sald (n := 6 * q + 3) rfl rfl (nI_add (6 * q) 3) (by omega) hN ?_
    refine zrun 1 ⟨fun _ => ?_, fun z => absurd hx z⟩
    refine zrun 5 ?_
    refine zW_sald (n := 6 * q + 4) rfl rfl (nI_add (6 * q) 4) (by omega) hN ?_
    refine zrun 2 ⟨⟨by show uc + 7 ≤ 601024; omega, by show us + 42 ≤ 7293034; omega, rfl⟩, ?_⟩
    refine zW_mono ε _ _ _ _ _ _ _ _ _ _ _ (fun r h2 hP => ?_) (hp_disturb (j_disturb (b := false) h rfl))
    obtain ⟨o2, ot2, it2, IF2, A2, AL2, AD2, u, cde, rfl, hw, rfl, hs2⟩ := hP
    refine ⟨rfl, ?_⟩
    rcases hs2 with ⟨rfl, w, rfl, hst⟩ | ⟨hcd, rfl⟩
    · refine zrun 1 (zloc [(0, _), (1, _), (2, _), (3, _), (4, _), (5, _), (6, _)] rfl ?_)
      refine zrun 5 ?_
      refine zW_sald (n := 6 * q + 1) rfl rfl (nI_add (6 * q) 1) (by omega) hN ?_
      refine zrun 4 ?_
      refine zW_sald (n := 6 * q + 2) rfl rfl (nI_add (6 * q) 2) (by omega) hN ?_
      refine zrun 4 ?_
      refine zW_sald (n := 6 * q + 3) rfl rfl (nI_add (6 * q) 3) (by omega) hN ?_
      refine zrun 1 ⟨fun _ => ?_, fun z => absurd hx z⟩
      refine zrun 5 ?_
      refine zW_sald (n := 6 * q + 4) rfl rfl (nI_add (6 * q) 4) (by omega) hN ?_
      refine zrun 1 ⟨⟨by show uc + 7 + 0 ≤ 601024; omega, by show us + 42 + 0 ≤ 7293034; omega, rfl⟩, ?_⟩
      refine zW_mono ε _ _ _ _ _ _ _ _ _ _ _ (fun r h2 hP => ?_) (hw AL2 AD2)
      obtain ⟨rfl, o3, ot3, it3, IF3, A3, rfl, hg, h0⟩ := hP
      refine ⟨rfl, ?_⟩
      refine zrun 1 (zloc [(0, _), (1, _), (2, _), (3, _), (4, _), (5, _), (6, _), (7, _)] rfl ?_)
      refine zrun 2 ⟨⟨by show uc + 7 + 0 + 0 ≤ 601024; omega, by show us + 42 + 0 + 0 ≤ 7293034; omega, rfl⟩, ?_⟩
      refine c_thrown ⟨rfl, ?_⟩
      refine zrun 2 ⟨fun _ => ?_, fun z => absurd h0 z⟩
      refine zrun 2 ⟨fun z => absurd rfl z, fun _ => ?_⟩
      refine zrun 3 ⟨z_01, ?_⟩
      refine zrun 4 ⟨fun _ => ?_, fun z => absurd ((lg_cmp_eq _ _).mpr hst) z⟩
      exact zrun 1 (zfg [0, 1, 2, 3, 4, 5] (zloc [(0, _), (1, _), (2, _), (3, _), (4, _), (5, _)] rfl (next _ _ _ _ _ _ _ _ _ hg (by show uc + 7 + 0 + 0 ≤ uc + 7; omega) (by show us + 42 + 0 + 0 ≤ us + 42; omega))))
    · refine zrun 1 (zloc [(0, _), (1, _), (2, _), (3, _), (4, _), (5, _), (6, _)] rfl ?_)
      refine zrun 5 ?_
      refine zW_sald (n := 6 * q + 1) rfl rfl (nI_add (6 * q) 1) (by omega) hN ?_
      refine zrun 4 ?_
      refine zW_sald (n := 6 * q + 2) rfl rfl (nI_add (6 * q) 2) (by omega) hN ?_
      refine zrun 4 ?_
      refine zW_sald (n := 6 * q + 3) rfl rfl (nI_add (6 * q) 3) (by omega) hN ?_
      refine zrun 1 ⟨fun _ => ?_, fun z => absurd hx z⟩
      refine zrun 5 ?_
      refine zW_sald (n := 6 * q + 4) rfl rfl (nI_add (6 * q) 4) (by omega) hN ?_
      refine zrun 1 ⟨⟨by show uc + 7 + 0 ≤ 601024; omega, by show us + 42 + 0 ≤ 7293034; omega, rfl⟩, ?_⟩
      refine zW_mono ε _ _ _ _ _ _ _ _ _ _ _ (fun r h2 hP => ?_) (hw AL2 AD2)
      obtain ⟨rfl, o3, ot3, it3, IF3, A3, rfl, hg, h0⟩ := hP
      refine ⟨rfl, ?_⟩
      refine zrun 1 (zloc [(0, _), (1, _), (2, _), (3, _), (4, _), (5, _), (6, _), (7, _)] rfl ?_)
      refine zrun 2 ⟨⟨by show uc + 7 + 0 + 0 ≤ 601024; omega, by show us + 42 + 0 + 0 ≤ 7293034; omega, rfl⟩, ?_⟩
      refine c_thrown ⟨rfl, ?_⟩
      refine zrun 2 ⟨fun _ => ?_, fun z => absurd h0 z⟩
      refine zrun 2 ⟨fun _ => ?_, fun z => absurd z hcd⟩
      exact zrun 1 (zfg [0, 1, 2, 3, 4, 5] (zloc [(0, _), (1, _), (2, _), (3, _), (4, _), (5, _)] rfl (next _ _ _ _ _ _ _ _ _ hg (by show uc + 7 + 0 + 0 ≤ uc + 7; omega) (by show us + 42 + 0 + 0 ≤ us + 42; omega))))
  · refine zrun 5 ?_
    refine zW_sald (n := 6 * q + 1) rfl rfl (nI_add (6 * q) 1) (by omega) hN ?_
    refine zrun 4 ?_
    refine zW_sald (n := 6 * q + 2) rfl rfl (nI_add (6 * q) 2) (by omega) hN ?_
    refine zrun 4 ?_
    refine zW_sald (n := 6 * q + 3) rfl rfl (nI_add (6 * q) 3) (by omega) hN ?_
    refine zrun 1 ⟨fun z => absurd z hx, fun _ => ?_⟩
    refine zrun 6 ?_
    refine zW_sald (n := 6 * q + 4) rfl rfl (nI_add (6 * q) 4) (by omega) hN ?_
    refine zrun 2 ⟨⟨by show uc + 7 ≤ 601024; omega, by show us + 42 ≤ 7293034; omega, rfl⟩, ?_⟩
    refine zW_mono ε _ _ _ _ _ _ _ _ _ _ _ (fun r h2 hP => ?_) (hp_disturb (j_disturb (b := true) h rfl))
    obtain ⟨o2, ot2, it2, IF2, A2, AL2, AD2, u, cde, rfl, hw, rfl, hs2⟩ := hP
    refine ⟨rfl, ?_⟩
    rcases hs2 with ⟨rfl, w, rfl, hst⟩ | ⟨hcd, rfl⟩
    · refine zrun 1 (zloc [(0, _), (1, _), (2, _), (3, _), (4, _), (5, _), (6, _)] rfl ?_)
      refine zrun 5 ?_
      refine zW_sald (n := 6 * q + 1) rfl rfl (nI_add (6 * q) 1) (by omega) hN ?_
      refine zrun 4 ?_
      refine zW_sald (n := 6 * q + 2) rfl rfl (nI_add (6 * q) 2) (by omega) hN ?_
      refine zrun 4 ?_
      refine zW_sald (n := 6 * q + 3) rfl rfl (nI_add (6 * q) 3) (by omega) hN ?_
      refine zrun 1 ⟨fun z => absurd z hx, fun _ => ?_⟩
      refine zrun 6 ?_
      refine zW_sald (n := 6 * q + 4) rfl rfl (nI_add (6 * q) 4) (by omega) hN ?_
      refine zrun 1 ⟨⟨by show uc + 7 + 0 ≤ 601024; omega, by show us + 42 + 0 ≤ 7293034; omega, rfl⟩, ?_⟩
      refine zW_mono ε _ _ _ _ _ _ _ _ _ _ _ (fun r h2 hP => ?_) (hw AL2 AD2)
      obtain ⟨rfl, o3, ot3, it3, IF3, A3, rfl, hg, h0⟩ := hP
      refine ⟨rfl, ?_⟩
      refine zrun 1 (zloc [(0, _), (1, _), (2, _), (3, _), (4, _), (5, _), (6, _), (7, _)] rfl ?_)
      refine zrun 2 ⟨⟨by show uc + 7 + 0 + 0 ≤ 601024; omega, by show us + 42 + 0 + 0 ≤ 7293034; omega, rfl⟩, ?_⟩
      refine c_thrown ⟨rfl, ?_⟩
      refine zrun 2 ⟨fun _ => ?_, fun z => absurd h0 z⟩
      refine zrun 2 ⟨fun z => absurd rfl z, fun _ => ?_⟩
      refine zrun 3 ⟨z_01, ?_⟩
      refine zrun 4 ⟨fun _ => ?_, fun z => absurd ((lg_cmp_eq _ _).mpr hst) z⟩
      exact zrun 1 (zfg [0, 1, 2, 3, 4, 5] (zloc [(0, _), (1, _), (2, _), (3, _), (4, _), (5, _)] rfl (next _ _ _ _ _ _ _ _ _ hg (by show uc + 7 + 0 + 0 ≤ uc + 7; omega) (by show us + 42 + 0 + 0 ≤ us + 42; omega))))
    · refine zrun 1 (zloc [(0, _), (1, _), (2, _), (3, _), (4, _), (5, _), (6, _)] rfl ?_)
      refine zrun 5 ?_
      refine zW_sald (n := 6 * q + 1) rfl rfl (nI_add (6 * q) 1) (by omega) hN ?_
      refine zrun 4 ?_
      refine zW_sald (n := 6 * q + 2) rfl rfl (nI_add (6 * q) 2) (by omega) hN ?_
      refine zrun 4 ?_
      refine zW_sald (n := 6 * q + 3) rfl rfl (nI_add (6 * q) 3) (by omega) hN ?_
      refine zrun 1 ⟨fun z => absurd z hx, fun _ => ?_⟩
      refine zrun 6 ?_
      refine zW_sald (n := 6 * q + 4) rfl rfl (nI_add (6 * q) 4) (by omega) hN ?_
      refine zrun 1 ⟨⟨by show uc + 7 + 0 ≤ 601024; omega, by show us + 42 + 0 ≤ 7293034; omega, rfl⟩, ?_⟩
      refine zW_mono ε _ _ _ _ _ _ _ _ _ _ _ (fun r h2 hP => ?_) (hw AL2 AD2)
      obtain ⟨rfl, o3, ot3, it3, IF3, A3, rfl, hg, h0⟩ := hP
      refine ⟨rfl, ?_⟩
      refine zrun 1 (zloc [(0, _), (1, _), (2, _), (3, _), (4, _), (5, _), (6, _), (7, _)] rfl ?_)
      refine zrun 2 ⟨⟨by show uc + 7 + 0 + 0 ≤ 601024; omega, by show us + 42 + 0 + 0 ≤ 7293034; omega, rfl⟩, ?_⟩
      refine c_thrown ⟨rfl, ?_⟩
      refine zrun 2 ⟨fun _ => ?_, fun z => absurd h0 z⟩
      refine zrun 2 ⟨fun _ => ?_, fun z => absurd z hcd⟩
      exact zrun 1 (zfg [0, 1, 2, 3, 4, 5] (zloc [(0, _), (1, _), (2, _), (3, _), (4, _), (5, _)] rfl (next _ _ _ _ _ _ _ _ _ hg (by show uc + 7 + 0 + 0 ≤ uc + 7; omega) (by show us + 42 + 0 + 0 ≤ us + 42; omega))))
theorem lw_clear (hN : ε.1 ≤ 3072) (hq : 6 * q + 6 ≤ ε.1) (h : gX IF A L p pa ex ey k) (hu : uc + 7 ≤ 601024) (hs : us + 42 ≤ 7293034) (next : lNx ε d Q q uc us) : zW ε true (d + 22) 232 1322 [(0, .ref 2000), (1, .ref 0), (2, .ref 32), (3, .ref 51), (4, .ref 52), (5, .int (nI (6 * q)))] [] (zM o ot it IF A AL AD) uc us Q := by
  refine zrun 2 ⟨⟨by show uc + 0 ≤ 601024; omega, by show us + 0 ≤ 7293034; omega, rfl⟩, ?_⟩
  refine zW_mono ε _ _ _ _ _ _ _ _ _ _ _ (fun r h2 hP => ?_) (j_clear (d := d + 1) h)
  obtain ⟨o2, ot2, it2, IF2, A2, u, cde, rfl, hw, hs2⟩ := hP
  rcases hs2 with ⟨rfl, rfl, w, rfl⟩ | ⟨E, rfl, hm, -⟩
  · refine ⟨rfl, ?_⟩
    refine zrun 2 ⟨⟨by show uc + 0 + 0 ≤ 601024; omega, by show us + 0 + 0 ≤ 7293034; omega, rfl⟩, ?_⟩
    refine zW_mono ε _ _ _ _ _ _ _ _ _ _ _ (fun r h2 hP => ?_) (hw AL AD)
    obtain ⟨rfl, o3, ot3, it3, IF3, A3, rfl, hg, h0⟩ := hP
    refine ⟨rfl, ?_⟩
    exact zrun 1 ⟨fun _ => next _ _ _ _ _ _ _ _ _ hg (by show uc + 0 + 0 ≤ uc + 7; omega) (by show us + 0 + 0 ≤ us + 42; omega), fun z => absurd rfl z⟩
  · exact absurd hm List.not_mem_nil
theorem lw_actual (hN : ε.1 ≤ 3072) (hq : 6 * q + 6 ≤ ε.1) (h : gX IF A L p pa ex ey k) (hu : uc + 7 ≤ 601024) (hs : us + 42 ≤ 7293034) (next : lNx ε d Q q uc us) : zW ε true (d + 22) 232 1335 [(0, .ref 2000), (1, .ref 0), (2, .ref 32), (3, .ref 51), (4, .ref 52), (5, .int (nI (6 * q)))] [] (zM o ot it IF A AL AD) uc us Q := by
  by_cases hx : ε.2 (6 * q + 3) = 0
  · refine zrun 5 ?_
    refine zW_sald (n := 6 * q + 1) rfl rfl (nI_add (6 * q) 1) (by omega) hN ?_
    refine zrun 4 ?_
    refine zW_sald (n := 6 * q + 2) rfl rfl (nI_add (6 * q) 2) (by omega) hN ?_
    refine zrun 4 ?_
    refine zW_sald (n := 6 * q + 3) rfl rfl (nI_add (6 * q) 3) (by omega) hN ?_
    refine zrun 1 ⟨fun _ => ?_, fun z => absurd hx z⟩
    refine zrun 3 ⟨⟨by show uc + 3 ≤ 601024; omega, by show us + 18 ≤ 7293034; omega, rfl⟩, ?_⟩
    refine zW_mono ε _ _ _ _ _ _ _ _ _ _ _ (fun r h2 hP => ?_) (hp_actual (j_actual (b := false) h rfl))
    obtain ⟨o2, ot2, it2, IF2, A2, AL2, AD2, u, cde, rfl, hw, rfl, hs2⟩ := hP
    refine ⟨rfl, ?_⟩
    rcases hs2 with ⟨rfl, w, rfl, hst⟩ | ⟨hcd, rfl⟩
    · refine zrun 1 (zloc [(0, _), (1, _), (2, _), (3, _), (4, _), (5, _), (6, _)] rfl ?_)
      refine zrun 5 ?_
      refine zW_sald (n := 6 * q + 1) rfl rfl (nI_add (6 * q) 1) (by omega) hN ?_
      refine zrun 4 ?_
      refine zW_sald (n := 6 * q + 2) rfl rfl (nI_add (6 * q) 2) (by omega) hN ?_
      refine zrun 4 ?_
      refine zW_sald (n := 6 * q + 3) rfl rfl (nI_add (6 * q) 3) (by omega) hN ?_
      refine zrun 1 ⟨fun _ => ?_, fun z => absurd hx z⟩
      refine zrun 2 ⟨⟨by show uc + 3 + 0 ≤ 601024; omega, by show us + 18 + 0 ≤ 7293034; omega, rfl⟩, ?_⟩
      refine zW_mono ε _ _ _ _ _ _ _ _ _ _ _ (fun r h2 hP => ?_) (hw AL2 AD2)
      obtain ⟨rfl, o3, ot3, it3, IF3, A3, rfl, hg, h0⟩ := hP
      refine ⟨rfl, ?_⟩
      refine zrun 1 (zloc [(0, _), (1, _), (2, _), (3, _), (4, _), (5, _), (6, _), (7, _)] rfl ?_)
      refine zrun 2 ⟨⟨by show uc + 3 + 0 + 0 ≤ 601024; omega, by show us + 18 + 0 + 0 ≤ 7293034; omega, rfl⟩, ?_⟩
      refine c_thrown ⟨rfl, ?_⟩
      refine zrun 2 ⟨fun _ => ?_, fun z => absurd h0 z⟩
      refine zrun 2 ⟨fun z => absurd rfl z, fun _ => ?_⟩
      refine zrun 3 ⟨z_01, ?_⟩
      refine zrun 4 ⟨fun _ => ?_, fun z => absurd ((lg_cmp_eq _ _).mpr hst) z⟩
      exact zrun 1 (zfg [0, 1, 2, 3, 4, 5] (zloc [(0, _), (1, _), (2, _), (3, _), (4, _), (5, _)] rfl (next _ _ _ _ _ _ _ _ _ hg (by show uc + 3 + 0 + 0 ≤ uc + 7; omega) (by show us + 18 + 0 + 0 ≤ us + 42; omega))))
    · refine zrun 1 (zloc [(0, _), (1, _), (2, _), (3, _), (4, _), (5, _), (6, _)] rfl ?_)
      refine zrun 5 ?_
      refine zW_sald (n := 6 * q + 1) rfl rfl (nI_add (6 * q) 1) (by omega) hN ?_
      refine zrun 4 ?_
      refine zW_sald (n := 6 * q + 2) rfl rfl (nI_add (6 * q) 2) (by omega) hN ?_
      refine zrun 4 ?_
      refine zW_sald (n := 6 * q + 3) rfl rfl (nI_add (6 * q) 3) (by omega) hN ?_
      refine zrun 1 ⟨fun _ => ?_, fun z => absurd hx z⟩
      refine zrun 2 ⟨⟨by show uc + 3 + 0 ≤ 601024; omega, by show us + 18 + 0 ≤ 7293034; omega, rfl⟩, ?_⟩
      refine zW_mono ε _ _ _ _ _ _ _ _ _ _ _ (fun r h2 hP => ?_) (hw AL2 AD2)
      obtain ⟨rfl, o3, ot3, it3, IF3, A3, rfl, hg, h0⟩ := hP
      refine ⟨rfl, ?_⟩
      refine zrun 1 (zloc [(0, _), (1, _), (2, _), (3, _), (4, _), (5, _), (6, _), (7, _)] rfl ?_)
      refine zrun 2 ⟨⟨by show uc + 3 + 0 + 0 ≤ 601024; omega, by show us + 18 + 0 + 0 ≤ 7293034; omega, rfl⟩, ?_⟩
      refine c_thrown ⟨rfl, ?_⟩
      refine zrun 2 ⟨fun _ => ?_, fun z => absurd h0 z⟩
      refine zrun 2 ⟨fun _ => ?_, fun z => absurd z hcd⟩
      exact zrun 1 (zfg [0, 1, 2, 3, 4, 5] (zloc [(0, _), (1, _), (2, _), (3, _), (4, _), (5, _)] rfl (next _ _ _ _ _ _ _ _ _ hg (by show uc + 3 + 0 + 0 ≤ uc + 7; omega) (by show us + 18 + 0 + 0 ≤ us + 42; omega))))
  · refine zrun 5 ?_
    refine zW_sald (n := 6 * q + 1) rfl rfl (nI_add (6 * q) 1) (by omega) hN ?_
    refine zrun 4 ?_
    refine zW_sald (n := 6 * q + 2) rfl rfl (nI_add (6 * q) 2) (by omega) hN ?_
    refine zrun 4 ?_
    refine zW_sald (n := 6 * q + 3) rfl rfl (nI_add (6 * q) 3) (by omega) hN ?_
    refine zrun 1 ⟨fun z => absurd z hx, fun _ => ?_⟩
    refine zrun 4 ⟨⟨by show uc + 3 ≤ 601024; omega, by show us + 18 ≤ 7293034; omega, rfl⟩, ?_⟩
    refine zW_mono ε _ _ _ _ _ _ _ _ _ _ _ (fun r h2 hP => ?_) (hp_actual (j_actual (b := true) h rfl))
    obtain ⟨o2, ot2, it2, IF2, A2, AL2, AD2, u, cde, rfl, hw, rfl, hs2⟩ := hP
    refine ⟨rfl, ?_⟩
    rcases hs2 with ⟨rfl, w, rfl, hst⟩ | ⟨hcd, rfl⟩
    · refine zrun 1 (zloc [(0, _), (1, _), (2, _), (3, _), (4, _), (5, _), (6, _)] rfl ?_)
      refine zrun 5 ?_
      refine zW_sald (n := 6 * q + 1) rfl rfl (nI_add (6 * q) 1) (by omega) hN ?_
      refine zrun 4 ?_
      refine zW_sald (n := 6 * q + 2) rfl rfl (nI_add (6 * q) 2) (by omega) hN ?_
      refine zrun 4 ?_
      refine zW_sald (n := 6 * q + 3) rfl rfl (nI_add (6 * q) 3) (by omega) hN ?_
      refine zrun 1 ⟨fun z => absurd z hx, fun _ => ?_⟩
      refine zrun 3 ⟨⟨by show uc + 3 + 0 ≤ 601024; omega, by show us + 18 + 0 ≤ 7293034; omega, rfl⟩, ?_⟩
      refine zW_mono ε _ _ _ _ _ _ _ _ _ _ _ (fun r h2 hP => ?_) (hw AL2 AD2)
      obtain ⟨rfl, o3, ot3, it3, IF3, A3, rfl, hg, h0⟩ := hP
      refine ⟨rfl, ?_⟩
      refine zrun 1 (zloc [(0, _), (1, _), (2, _), (3, _), (4, _), (5, _), (6, _), (7, _)] rfl ?_)
      refine zrun 2 ⟨⟨by show uc + 3 + 0 + 0 ≤ 601024; omega, by show us + 18 + 0 + 0 ≤ 7293034; omega, rfl⟩, ?_⟩
      refine c_thrown ⟨rfl, ?_⟩
      refine zrun 2 ⟨fun _ => ?_, fun z => absurd h0 z⟩
      refine zrun 2 ⟨fun z => absurd rfl z, fun _ => ?_⟩
      refine zrun 3 ⟨z_01, ?_⟩
      refine zrun 4 ⟨fun _ => ?_, fun z => absurd ((lg_cmp_eq _ _).mpr hst) z⟩
      exact zrun 1 (zfg [0, 1, 2, 3, 4, 5] (zloc [(0, _), (1, _), (2, _), (3, _), (4, _), (5, _)] rfl (next _ _ _ _ _ _ _ _ _ hg (by show uc + 3 + 0 + 0 ≤ uc + 7; omega) (by show us + 18 + 0 + 0 ≤ us + 42; omega))))
    · refine zrun 1 (zloc [(0, _), (1, _), (2, _), (3, _), (4, _), (5, _), (6, _)] rfl ?_)
      refine zrun 5 ?_
      refine zW_sald (n := 6 * q + 1) rfl rfl (nI_add (6 * q) 1) (by omega) hN ?_
      refine zrun 4 ?_
      refine zW_sald (n := 6 * q + 2) rfl rfl (nI_add (6 * q) 2) (by omega) hN ?_
      refine zrun 4 ?_
      refine zW_sald (n := 6 * q + 3) rfl rfl (nI_add (6 * q) 3) (by omega) hN ?_
      refine zrun 1 ⟨fun z => absurd z hx, fun _ => ?_⟩
      refine zrun 3 ⟨⟨by show uc + 3 + 0 ≤ 601024; omega, by show us + 18 + 0 ≤ 7293034; omega, rfl⟩, ?_⟩
      refine zW_mono ε _ _ _ _ _ _ _ _ _ _ _ (fun r h2 hP => ?_) (hw AL2 AD2)
      obtain ⟨rfl, o3, ot3, it3, IF3, A3, rfl, hg, h0⟩ := hP
      refine ⟨rfl, ?_⟩
      refine zrun 1 (zloc [(0, _), (1, _), (2, _), (3, _), (4, _), (5, _), (6, _), (7, _)] rfl ?_)
      refine zrun 2 ⟨⟨by show uc + 3 + 0 + 0 ≤ 601024; omega, by show us + 18 + 0 + 0 ≤ 7293034; omega, rfl⟩, ?_⟩
      refine c_thrown ⟨rfl, ?_⟩
      refine zrun 2 ⟨fun _ => ?_, fun z => absurd h0 z⟩
      refine zrun 2 ⟨fun _ => ?_, fun z => absurd z hcd⟩
      exact zrun 1 (zfg [0, 1, 2, 3, 4, 5] (zloc [(0, _), (1, _), (2, _), (3, _), (4, _), (5, _)] rfl (next _ _ _ _ _ _ _ _ _ hg (by show uc + 3 + 0 + 0 ≤ uc + 7; omega) (by show us + 18 + 0 + 0 ≤ us + 42; omega))))
theorem lw_totalDelay (hN : ε.1 ≤ 3072) (hq : 6 * q + 6 ≤ ε.1) (h : gX IF A L p pa ex ey k) (hu : uc + 7 ≤ 601024) (hs : us + 42 ≤ 7293034) (next : lNx ε d Q q uc us) : zW ε true (d + 22) 232 1431 [(0, .ref 2000), (1, .ref 0), (2, .ref 32), (3, .ref 51), (4, .ref 52), (5, .int (nI (6 * q)))] [] (zM o ot it IF A AL AD) uc us Q := by
  refine zrun 2 ⟨⟨by show uc + 0 ≤ 601024; omega, by show us + 0 ≤ 7293034; omega, rfl⟩, ?_⟩
  refine zW_mono ε _ _ _ _ _ _ _ _ _ _ _ (fun r h2 hP => ?_) (j_totalDelay (d := d + 1) h)
  obtain ⟨o2, ot2, it2, IF2, A2, u, cde, rfl, hw, hs2⟩ := hP
  rcases hs2 with ⟨rfl, rfl, w, rfl⟩ | ⟨E, rfl, hm, -⟩
  · refine ⟨rfl, ?_⟩
    refine zrun 2 ⟨⟨by show uc + 0 + 0 ≤ 601024; omega, by show us + 0 + 0 ≤ 7293034; omega, rfl⟩, ?_⟩
    refine zW_mono ε _ _ _ _ _ _ _ _ _ _ _ (fun r h2 hP => ?_) (hw AL AD)
    obtain ⟨rfl, o3, ot3, it3, IF3, A3, rfl, hg, h0⟩ := hP
    refine ⟨rfl, ?_⟩
    exact zrun 1 ⟨fun _ => next _ _ _ _ _ _ _ _ _ hg (by show uc + 0 + 0 ≤ uc + 7; omega) (by show us + 0 + 0 ≤ us + 42; omega), fun z => absurd rfl z⟩
  · exact absurd hm List.not_mem_nil
theorem lw_lateTrains (hN : ε.1 ≤ 3072) (hq : 6 * q + 6 ≤ ε.1) (h : gX IF A L p pa ex ey k) (hu : uc + 7 ≤ 601024) (hs : us + 42 ≤ 7293034) (next : lNx ε d Q q uc us) : zW ε true (d + 22) 232 1444 [(0, .ref 2000), (1, .ref 0), (2, .ref 32), (3, .ref 51), (4, .ref 52), (5, .int (nI (6 * q)))] [] (zM o ot it IF A AL AD) uc us Q := by
  refine zrun 2 ⟨⟨by show uc + 0 ≤ 601024; omega, by show us + 0 ≤ 7293034; omega, rfl⟩, ?_⟩
  refine zW_mono ε _ _ _ _ _ _ _ _ _ _ _ (fun r h2 hP => ?_) (j_lateTrains (d := d + 1) h)
  obtain ⟨o2, ot2, it2, IF2, A2, u, cde, rfl, hw, hs2⟩ := hP
  rcases hs2 with ⟨rfl, rfl, w, rfl⟩ | ⟨E, rfl, hm, -⟩
  · refine ⟨rfl, ?_⟩
    refine zrun 2 ⟨⟨by show uc + 0 + 0 ≤ 601024; omega, by show us + 0 + 0 ≤ 7293034; omega, rfl⟩, ?_⟩
    refine zW_mono ε _ _ _ _ _ _ _ _ _ _ _ (fun r h2 hP => ?_) (hw AL AD)
    obtain ⟨rfl, o3, ot3, it3, IF3, A3, rfl, hg, h0⟩ := hP
    refine ⟨rfl, ?_⟩
    exact zrun 1 ⟨fun _ => next _ _ _ _ _ _ _ _ _ hg (by show uc + 0 + 0 ≤ uc + 7; omega) (by show us + 0 + 0 ≤ us + 42; omega), fun z => absurd rfl z⟩
  · exact absurd hm List.not_mem_nil
theorem lw_punctuality (hN : ε.1 ≤ 3072) (hq : 6 * q + 6 ≤ ε.1) (h : gX IF A L p pa ex ey k) (hu : uc + 7 ≤ 601024) (hs : us + 42 ≤ 7293034) (next : lNx ε d Q q uc us) : zW ε true (d + 22) 232 1457 [(0, .ref 2000), (1, .ref 0), (2, .ref 32), (3, .ref 51), (4, .ref 52), (5, .int (nI (6 * q)))] [] (zM o ot it IF A AL AD) uc us Q := by
  refine zrun 5 ?_
  refine zW_sald (n := 6 * q + 1) rfl rfl (nI_add (6 * q) 1) (by omega) hN ?_
  refine zrun 2 ⟨⟨by show uc + 2 ≤ 601024; omega, by show us + 12 ≤ 7293034; omega, rfl⟩, ?_⟩
  refine zW_mono ε _ _ _ _ _ _ _ _ _ _ _ (fun r h2 hP => ?_) (hp_punctuality (j_punctuality h))
  obtain ⟨o2, ot2, it2, IF2, A2, AL2, AD2, u, cde, rfl, hw, rfl, hs2⟩ := hP
  refine ⟨rfl, ?_⟩
  rcases hs2 with ⟨rfl, w, rfl, hst⟩ | ⟨hcd, rfl⟩
  · refine zrun 1 (zloc [(0, _), (1, _), (2, _), (3, _), (4, _), (5, _), (6, _)] rfl ?_)
    refine zrun 5 ?_
    refine zW_sald (n := 6 * q + 1) rfl rfl (nI_add (6 * q) 1) (by omega) hN ?_
    refine zrun 1 ⟨⟨by show uc + 2 + 0 ≤ 601024; omega, by show us + 12 + 0 ≤ 7293034; omega, rfl⟩, ?_⟩
    refine zW_mono ε _ _ _ _ _ _ _ _ _ _ _ (fun r h2 hP => ?_) (hw AL2 AD2)
    obtain ⟨rfl, o3, ot3, it3, IF3, A3, rfl, hg, h0⟩ := hP
    refine ⟨rfl, ?_⟩
    refine zrun 1 (zloc [(0, _), (1, _), (2, _), (3, _), (4, _), (5, _), (6, _), (7, _)] rfl ?_)
    refine zrun 2 ⟨⟨by show uc + 2 + 0 + 0 ≤ 601024; omega, by show us + 12 + 0 + 0 ≤ 7293034; omega, rfl⟩, ?_⟩
    refine c_thrown ⟨rfl, ?_⟩
    refine zrun 2 ⟨fun _ => ?_, fun z => absurd h0 z⟩
    refine zrun 2 ⟨fun z => absurd rfl z, fun _ => ?_⟩
    refine zrun 3 ⟨z_01, ?_⟩
    subst hst
    refine zrun 3 ⟨fun _ => ?_, fun z => ?_⟩
    · exact zrun 1 (zfg [0, 1, 2, 3, 4, 5] (zloc [(0, _), (1, _), (2, _), (3, _), (4, _), (5, _)] rfl (next _ _ _ _ _ _ _ _ _ hg (by show uc + 2 + 0 + 0 ≤ uc + 7; omega) (by show us + 12 + 0 + 0 ≤ us + 42; omega))))
    · refine zrun 3 ⟨z_01, ?_⟩
      refine zrun 3 ⟨z_01, ?_⟩
      refine zrun 2 ⟨fun z2 => absurd z2 z, fun _ => ?_⟩
      refine zrun 4 ⟨fun _ => ?_, fun z3 => absurd z3 z⟩
      exact zrun 1 (zfg [0, 1, 2, 3, 4, 5] (zloc [(0, _), (1, _), (2, _), (3, _), (4, _), (5, _)] rfl (next _ _ _ _ _ _ _ _ _ hg (by show uc + 2 + 0 + 0 ≤ uc + 7; omega) (by show us + 12 + 0 + 0 ≤ us + 42; omega))))
  · refine zrun 1 (zloc [(0, _), (1, _), (2, _), (3, _), (4, _), (5, _), (6, _)] rfl ?_)
    refine zrun 5 ?_
    refine zW_sald (n := 6 * q + 1) rfl rfl (nI_add (6 * q) 1) (by omega) hN ?_
    refine zrun 1 ⟨⟨by show uc + 2 + 0 ≤ 601024; omega, by show us + 12 + 0 ≤ 7293034; omega, rfl⟩, ?_⟩
    refine zW_mono ε _ _ _ _ _ _ _ _ _ _ _ (fun r h2 hP => ?_) (hw AL2 AD2)
    obtain ⟨rfl, o3, ot3, it3, IF3, A3, rfl, hg, h0⟩ := hP
    refine ⟨rfl, ?_⟩
    refine zrun 1 (zloc [(0, _), (1, _), (2, _), (3, _), (4, _), (5, _), (6, _), (7, _)] rfl ?_)
    refine zrun 2 ⟨⟨by show uc + 2 + 0 + 0 ≤ 601024; omega, by show us + 12 + 0 + 0 ≤ 7293034; omega, rfl⟩, ?_⟩
    refine c_thrown ⟨rfl, ?_⟩
    refine zrun 2 ⟨fun _ => ?_, fun z => absurd h0 z⟩
    refine zrun 2 ⟨fun _ => ?_, fun z => absurd z hcd⟩
    exact zrun 1 (zfg [0, 1, 2, 3, 4, 5] (zloc [(0, _), (1, _), (2, _), (3, _), (4, _), (5, _)] rfl (next _ _ _ _ _ _ _ _ _ hg (by show uc + 2 + 0 + 0 ≤ uc + 7; omega) (by show us + 12 + 0 + 0 ≤ us + 42; omega))))
theorem lw_isKept (hN : ε.1 ≤ 3072) (hq : 6 * q + 6 ≤ ε.1) (h : gX IF A L p pa ex ey k) (hu : uc + 7 ≤ 601024) (hs : us + 42 ≤ 7293034) (next : lNx ε d Q q uc us) : zW ε true (d + 22) 232 1534 [(0, .ref 2000), (1, .ref 0), (2, .ref 32), (3, .ref 51), (4, .ref 52), (5, .int (nI (6 * q)))] [] (zM o ot it IF A AL AD) uc us Q := by
  refine zrun 5 ?_
  refine zW_sald (n := 6 * q + 1) rfl rfl (nI_add (6 * q) 1) (by omega) hN ?_
  refine zrun 2 ⟨⟨by show uc + 1 ≤ 601024; omega, by show us + 6 ≤ 7293034; omega, rfl⟩, ?_⟩
  refine zW_mono ε _ _ _ _ _ _ _ _ _ _ _ (fun r h2 hP => ?_) (hp_isKept (j_isKept h))
  obtain ⟨o2, ot2, it2, IF2, A2, AL2, AD2, u, cde, rfl, hw, rfl, hs2⟩ := hP
  refine ⟨rfl, ?_⟩
  rcases hs2 with ⟨rfl, w, rfl, hst⟩ | ⟨hcd, rfl⟩
  · refine zrun 1 (zloc [(0, _), (1, _), (2, _), (3, _), (4, _), (5, _), (6, _)] rfl ?_)
    refine zrun 5 ?_
    refine zW_sald (n := 6 * q + 1) rfl rfl (nI_add (6 * q) 1) (by omega) hN ?_
    refine zrun 1 ⟨⟨by show uc + 1 + 0 ≤ 601024; omega, by show us + 6 + 0 ≤ 7293034; omega, rfl⟩, ?_⟩
    refine zW_mono ε _ _ _ _ _ _ _ _ _ _ _ (fun r h2 hP => ?_) (hw AL2 AD2)
    obtain ⟨rfl, o3, ot3, it3, IF3, A3, rfl, hg, h0⟩ := hP
    refine ⟨rfl, ?_⟩
    refine zrun 1 (zloc [(0, _), (1, _), (2, _), (3, _), (4, _), (5, _), (6, _), (7, _)] rfl ?_)
    refine zrun 2 ⟨⟨by show uc + 1 + 0 + 0 ≤ 601024; omega, by show us + 6 + 0 + 0 ≤ 7293034; omega, rfl⟩, ?_⟩
    refine c_thrown ⟨rfl, ?_⟩
    refine zrun 2 ⟨fun _ => ?_, fun z => absurd h0 z⟩
    refine zrun 2 ⟨fun z => absurd rfl z, fun _ => ?_⟩
    refine zrun 3 ⟨z_01, ?_⟩
    refine zrun 2 (zb_f rfl (fun hb => ?_) (fun hb => ?_))
    · subst hb
      refine zrun 3 ⟨fun _ => ?_, fun z => absurd ((lg_cmp_eq _ _).mpr hst) z⟩
      exact zrun 1 (zfg [0, 1, 2, 3, 4, 5] (zloc [(0, _), (1, _), (2, _), (3, _), (4, _), (5, _)] rfl (next _ _ _ _ _ _ _ _ _ hg (by show uc + 1 + 0 + 0 ≤ uc + 7; omega) (by show us + 6 + 0 + 0 ≤ us + 42; omega))))
    · subst hb
      refine zrun 4 ⟨fun _ => ?_, fun z => absurd ((lg_cmp_eq _ _).mpr hst) z⟩
      exact zrun 1 (zfg [0, 1, 2, 3, 4, 5] (zloc [(0, _), (1, _), (2, _), (3, _), (4, _), (5, _)] rfl (next _ _ _ _ _ _ _ _ _ hg (by show uc + 1 + 0 + 0 ≤ uc + 7; omega) (by show us + 6 + 0 + 0 ≤ us + 42; omega))))
  · refine zrun 1 (zloc [(0, _), (1, _), (2, _), (3, _), (4, _), (5, _), (6, _)] rfl ?_)
    refine zrun 5 ?_
    refine zW_sald (n := 6 * q + 1) rfl rfl (nI_add (6 * q) 1) (by omega) hN ?_
    refine zrun 1 ⟨⟨by show uc + 1 + 0 ≤ 601024; omega, by show us + 6 + 0 ≤ 7293034; omega, rfl⟩, ?_⟩
    refine zW_mono ε _ _ _ _ _ _ _ _ _ _ _ (fun r h2 hP => ?_) (hw AL2 AD2)
    obtain ⟨rfl, o3, ot3, it3, IF3, A3, rfl, hg, h0⟩ := hP
    refine ⟨rfl, ?_⟩
    refine zrun 1 (zloc [(0, _), (1, _), (2, _), (3, _), (4, _), (5, _), (6, _), (7, _)] rfl ?_)
    refine zrun 2 ⟨⟨by show uc + 1 + 0 + 0 ≤ 601024; omega, by show us + 6 + 0 + 0 ≤ 7293034; omega, rfl⟩, ?_⟩
    refine c_thrown ⟨rfl, ?_⟩
    refine zrun 2 ⟨fun _ => ?_, fun z => absurd h0 z⟩
    refine zrun 2 ⟨fun _ => ?_, fun z => absurd z hcd⟩
    exact zrun 1 (zfg [0, 1, 2, 3, 4, 5] (zloc [(0, _), (1, _), (2, _), (3, _), (4, _), (5, _)] rfl (next _ _ _ _ _ _ _ _ _ hg (by show uc + 1 + 0 + 0 ≤ uc + 7; omega) (by show us + 6 + 0 + 0 ≤ us + 42; omega))))
theorem lw_missed (hN : ε.1 ≤ 3072) (hq : 6 * q + 6 ≤ ε.1) (h : gX IF A L p pa ex ey k) (hu : uc + 7 ≤ 601024) (hs : us + 42 ≤ 7293034) (next : lNx ε d Q q uc us) : zW ε true (d + 22) 232 1597 [(0, .ref 2000), (1, .ref 0), (2, .ref 32), (3, .ref 51), (4, .ref 52), (5, .int (nI (6 * q)))] [] (zM o ot it IF A AL AD) uc us Q := by
  refine zrun 2 ⟨⟨by show uc + 0 ≤ 601024; omega, by show us + 0 ≤ 7293034; omega, rfl⟩, ?_⟩
  refine zW_mono ε _ _ _ _ _ _ _ _ _ _ _ (fun r h2 hP => ?_) (j_missed (d := d + 1) h)
  obtain ⟨o2, ot2, it2, IF2, A2, u, cde, rfl, hw, hs2⟩ := hP
  rcases hs2 with ⟨rfl, rfl, w, rfl⟩ | ⟨E, rfl, hm, -⟩
  · refine ⟨rfl, ?_⟩
    refine zrun 2 ⟨⟨by show uc + 0 + 0 ≤ 601024; omega, by show us + 0 + 0 ≤ 7293034; omega, rfl⟩, ?_⟩
    refine zW_mono ε _ _ _ _ _ _ _ _ _ _ _ (fun r h2 hP => ?_) (hw AL AD)
    obtain ⟨rfl, o3, ot3, it3, IF3, A3, rfl, hg, h0⟩ := hP
    refine ⟨rfl, ?_⟩
    exact zrun 1 ⟨fun _ => next _ _ _ _ _ _ _ _ _ hg (by show uc + 0 + 0 ≤ uc + 7; omega) (by show us + 0 + 0 ≤ us + 42; omega), fun z => absurd rfl z⟩
  · exact absurd hm List.not_mem_nil
theorem lw_cause (hN : ε.1 ≤ 3072) (hq : 6 * q + 6 ≤ ε.1) (h : gX IF A L p pa ex ey k) (hu : uc + 7 ≤ 601024) (hs : us + 42 ≤ 7293034) (next : lNx ε d Q q uc us) : zW ε true (d + 22) 232 1610 [(0, .ref 2000), (1, .ref 0), (2, .ref 32), (3, .ref 51), (4, .ref 52), (5, .int (nI (6 * q)))] [] (zM o ot it IF A AL AD) uc us Q := by
  by_cases hx : ε.2 (6 * q + 3) = 0
  · refine zrun 5 ?_
    refine zW_sald (n := 6 * q + 1) rfl rfl (nI_add (6 * q) 1) (by omega) hN ?_
    refine zrun 4 ?_
    refine zW_sald (n := 6 * q + 2) rfl rfl (nI_add (6 * q) 2) (by omega) hN ?_
    refine zrun 4 ?_
    refine zW_sald (n := 6 * q + 3) rfl rfl (nI_add (6 * q) 3) (by omega) hN ?_
    refine zrun 1 ⟨fun _ => ?_, fun z => absurd hx z⟩
    refine zrun 3 ⟨⟨by show uc + 3 ≤ 601024; omega, by show us + 18 ≤ 7293034; omega, rfl⟩, ?_⟩
    refine zW_mono ε _ _ _ _ _ _ _ _ _ _ _ (fun r h2 hP => ?_) (hp_cause (j_cause (b := false) h rfl))
    obtain ⟨o2, ot2, it2, IF2, A2, AL2, AD2, u, cde, rfl, hw, rfl, hs2⟩ := hP
    refine ⟨rfl, ?_⟩
    rcases hs2 with ⟨rfl, w, rfl, hst⟩ | ⟨hcd, rfl⟩
    · refine zrun 1 (zloc [(0, _), (1, _), (2, _), (3, _), (4, _), (5, _), (6, _)] rfl ?_)
      refine zrun 5 ?_
      refine zW_sald (n := 6 * q + 1) rfl rfl (nI_add (6 * q) 1) (by omega) hN ?_
      refine zrun 4 ?_
      refine zW_sald (n := 6 * q + 2) rfl rfl (nI_add (6 * q) 2) (by omega) hN ?_
      refine zrun 4 ?_
      refine zW_sald (n := 6 * q + 3) rfl rfl (nI_add (6 * q) 3) (by omega) hN ?_
      refine zrun 1 ⟨fun _ => ?_, fun z => absurd hx z⟩
      refine zrun 2 ⟨⟨by show uc + 3 + 0 ≤ 601024; omega, by show us + 18 + 0 ≤ 7293034; omega, rfl⟩, ?_⟩
      refine zW_mono ε _ _ _ _ _ _ _ _ _ _ _ (fun r h2 hP => ?_) (hw AL2 AD2)
      obtain ⟨rfl, o3, ot3, it3, IF3, A3, rfl, hg, h0⟩ := hP
      refine ⟨rfl, ?_⟩
      refine zrun 1 (zloc [(0, _), (1, _), (2, _), (3, _), (4, _), (5, _), (6, _), (7, _)] rfl ?_)
      refine zrun 2 ⟨⟨by show uc + 3 + 0 + 0 ≤ 601024; omega, by show us + 18 + 0 + 0 ≤ 7293034; omega, rfl⟩, ?_⟩
      refine c_thrown ⟨rfl, ?_⟩
      refine zrun 2 ⟨fun _ => ?_, fun z => absurd h0 z⟩
      refine zrun 2 ⟨fun z => absurd rfl z, fun _ => ?_⟩
      refine zrun 3 ⟨z_01, ?_⟩
      refine zrun 4 ⟨fun _ => ?_, fun z => absurd ((lg_cmp_eq _ _).mpr hst) z⟩
      exact zrun 1 (zfg [0, 1, 2, 3, 4, 5] (zloc [(0, _), (1, _), (2, _), (3, _), (4, _), (5, _)] rfl (next _ _ _ _ _ _ _ _ _ hg (by show uc + 3 + 0 + 0 ≤ uc + 7; omega) (by show us + 18 + 0 + 0 ≤ us + 42; omega))))
    · refine zrun 1 (zloc [(0, _), (1, _), (2, _), (3, _), (4, _), (5, _), (6, _)] rfl ?_)
      refine zrun 5 ?_
      refine zW_sald (n := 6 * q + 1) rfl rfl (nI_add (6 * q) 1) (by omega) hN ?_
      refine zrun 4 ?_
      refine zW_sald (n := 6 * q + 2) rfl rfl (nI_add (6 * q) 2) (by omega) hN ?_
      refine zrun 4 ?_
      refine zW_sald (n := 6 * q + 3) rfl rfl (nI_add (6 * q) 3) (by omega) hN ?_
      refine zrun 1 ⟨fun _ => ?_, fun z => absurd hx z⟩
      refine zrun 2 ⟨⟨by show uc + 3 + 0 ≤ 601024; omega, by show us + 18 + 0 ≤ 7293034; omega, rfl⟩, ?_⟩
      refine zW_mono ε _ _ _ _ _ _ _ _ _ _ _ (fun r h2 hP => ?_) (hw AL2 AD2)
      obtain ⟨rfl, o3, ot3, it3, IF3, A3, rfl, hg, h0⟩ := hP
      refine ⟨rfl, ?_⟩
      refine zrun 1 (zloc [(0, _), (1, _), (2, _), (3, _), (4, _), (5, _), (6, _), (7, _)] rfl ?_)
      refine zrun 2 ⟨⟨by show uc + 3 + 0 + 0 ≤ 601024; omega, by show us + 18 + 0 + 0 ≤ 7293034; omega, rfl⟩, ?_⟩
      refine c_thrown ⟨rfl, ?_⟩
      refine zrun 2 ⟨fun _ => ?_, fun z => absurd h0 z⟩
      refine zrun 2 ⟨fun _ => ?_, fun z => absurd z hcd⟩
      exact zrun 1 (zfg [0, 1, 2, 3, 4, 5] (zloc [(0, _), (1, _), (2, _), (3, _), (4, _), (5, _)] rfl (next _ _ _ _ _ _ _ _ _ hg (by show uc + 3 + 0 + 0 ≤ uc + 7; omega) (by show us + 18 + 0 + 0 ≤ us + 42; omega))))
  · refine zrun 5 ?_
    refine zW_sald (n := 6 * q + 1) rfl rfl (nI_add (6 * q) 1) (by omega) hN ?_
    refine zrun 4 ?_
    refine zW_sald (n := 6 * q + 2) rfl rfl (nI_add (6 * q) 2) (by omega) hN ?_
    refine zrun 4 ?_
    refine zW_sald (n := 6 * q + 3) rfl rfl (nI_add (6 * q) 3) (by omega) hN ?_
    refine zrun 1 ⟨fun z => absurd z hx, fun _ => ?_⟩
    refine zrun 4 ⟨⟨by show uc + 3 ≤ 601024; omega, by show us + 18 ≤ 7293034; omega, rfl⟩, ?_⟩
    refine zW_mono ε _ _ _ _ _ _ _ _ _ _ _ (fun r h2 hP => ?_) (hp_cause (j_cause (b := true) h rfl))
    obtain ⟨o2, ot2, it2, IF2, A2, AL2, AD2, u, cde, rfl, hw, rfl, hs2⟩ := hP
    refine ⟨rfl, ?_⟩
    rcases hs2 with ⟨rfl, w, rfl, hst⟩ | ⟨hcd, rfl⟩
    · refine zrun 1 (zloc [(0, _), (1, _), (2, _), (3, _), (4, _), (5, _), (6, _)] rfl ?_)
      refine zrun 5 ?_
      refine zW_sald (n := 6 * q + 1) rfl rfl (nI_add (6 * q) 1) (by omega) hN ?_
      refine zrun 4 ?_
      refine zW_sald (n := 6 * q + 2) rfl rfl (nI_add (6 * q) 2) (by omega) hN ?_
      refine zrun 4 ?_
      refine zW_sald (n := 6 * q + 3) rfl rfl (nI_add (6 * q) 3) (by omega) hN ?_
      refine zrun 1 ⟨fun z => absurd z hx, fun _ => ?_⟩
      refine zrun 3 ⟨⟨by show uc + 3 + 0 ≤ 601024; omega, by show us + 18 + 0 ≤ 7293034; omega, rfl⟩, ?_⟩
      refine zW_mono ε _ _ _ _ _ _ _ _ _ _ _ (fun r h2 hP => ?_) (hw AL2 AD2)
      obtain ⟨rfl, o3, ot3, it3, IF3, A3, rfl, hg, h0⟩ := hP
      refine ⟨rfl, ?_⟩
      refine zrun 1 (zloc [(0, _), (1, _), (2, _), (3, _), (4, _), (5, _), (6, _), (7, _)] rfl ?_)
      refine zrun 2 ⟨⟨by show uc + 3 + 0 + 0 ≤ 601024; omega, by show us + 18 + 0 + 0 ≤ 7293034; omega, rfl⟩, ?_⟩
      refine c_thrown ⟨rfl, ?_⟩
      refine zrun 2 ⟨fun _ => ?_, fun z => absurd h0 z⟩
      refine zrun 2 ⟨fun z => absurd rfl z, fun _ => ?_⟩
      refine zrun 3 ⟨z_01, ?_⟩
      refine zrun 4 ⟨fun _ => ?_, fun z => absurd ((lg_cmp_eq _ _).mpr hst) z⟩
      exact zrun 1 (zfg [0, 1, 2, 3, 4, 5] (zloc [(0, _), (1, _), (2, _), (3, _), (4, _), (5, _)] rfl (next _ _ _ _ _ _ _ _ _ hg (by show uc + 3 + 0 + 0 ≤ uc + 7; omega) (by show us + 18 + 0 + 0 ≤ us + 42; omega))))
    · refine zrun 1 (zloc [(0, _), (1, _), (2, _), (3, _), (4, _), (5, _), (6, _)] rfl ?_)
      refine zrun 5 ?_
      refine zW_sald (n := 6 * q + 1) rfl rfl (nI_add (6 * q) 1) (by omega) hN ?_
      refine zrun 4 ?_
      refine zW_sald (n := 6 * q + 2) rfl rfl (nI_add (6 * q) 2) (by omega) hN ?_
      refine zrun 4 ?_
      refine zW_sald (n := 6 * q + 3) rfl rfl (nI_add (6 * q) 3) (by omega) hN ?_
      refine zrun 1 ⟨fun z => absurd z hx, fun _ => ?_⟩
      refine zrun 3 ⟨⟨by show uc + 3 + 0 ≤ 601024; omega, by show us + 18 + 0 ≤ 7293034; omega, rfl⟩, ?_⟩
      refine zW_mono ε _ _ _ _ _ _ _ _ _ _ _ (fun r h2 hP => ?_) (hw AL2 AD2)
      obtain ⟨rfl, o3, ot3, it3, IF3, A3, rfl, hg, h0⟩ := hP
      refine ⟨rfl, ?_⟩
      refine zrun 1 (zloc [(0, _), (1, _), (2, _), (3, _), (4, _), (5, _), (6, _), (7, _)] rfl ?_)
      refine zrun 2 ⟨⟨by show uc + 3 + 0 + 0 ≤ 601024; omega, by show us + 18 + 0 + 0 ≤ 7293034; omega, rfl⟩, ?_⟩
      refine c_thrown ⟨rfl, ?_⟩
      refine zrun 2 ⟨fun _ => ?_, fun z => absurd h0 z⟩
      refine zrun 2 ⟨fun _ => ?_, fun z => absurd z hcd⟩
      exact zrun 1 (zfg [0, 1, 2, 3, 4, 5] (zloc [(0, _), (1, _), (2, _), (3, _), (4, _), (5, _)] rfl (next _ _ _ _ _ _ _ _ _ hg (by show uc + 3 + 0 + 0 ≤ uc + 7; omega) (by show us + 18 + 0 + 0 ≤ us + 42; omega))))
theorem lw_recovery (hN : ε.1 ≤ 3072) (hq : 6 * q + 6 ≤ ε.1) (h : gX IF A L p pa ex ey k) (hu : uc + 7 ≤ 601024) (hs : us + 42 ≤ 7293034) (next : lNx ε d Q q uc us) : zW ε true (d + 22) 232 1706 [(0, .ref 2000), (1, .ref 0), (2, .ref 32), (3, .ref 51), (4, .ref 52), (5, .int (nI (6 * q)))] [] (zM o ot it IF A AL AD) uc us Q := by
  refine zrun 2 ⟨⟨by show uc + 0 ≤ 601024; omega, by show us + 0 ≤ 7293034; omega, rfl⟩, ?_⟩
  refine zW_mono ε _ _ _ _ _ _ _ _ _ _ _ (fun r h2 hP => ?_) (j_recovery (d := d + 1) h)
  obtain ⟨o2, ot2, it2, IF2, A2, u, cde, rfl, hw, hs2⟩ := hP
  rcases hs2 with ⟨rfl, rfl, w, rfl⟩ | ⟨E, rfl, hm, -⟩
  · refine ⟨rfl, ?_⟩
    refine zrun 2 ⟨⟨by show uc + 0 + 0 ≤ 601024; omega, by show us + 0 + 0 ≤ 7293034; omega, rfl⟩, ?_⟩
    refine zW_mono ε _ _ _ _ _ _ _ _ _ _ _ (fun r h2 hP => ?_) (hw AL AD)
    obtain ⟨rfl, o3, ot3, it3, IF3, A3, rfl, hg, h0⟩ := hP
    refine ⟨rfl, ?_⟩
    exact zrun 1 ⟨fun _ => next _ _ _ _ _ _ _ _ _ hg (by show uc + 0 + 0 ≤ uc + 7; omega) (by show us + 0 + 0 ≤ us + 42; omega), fun z => absurd rfl z⟩
  · exact absurd hm List.not_mem_nil
theorem lw_overtake (hN : ε.1 ≤ 3072) (hq : 6 * q + 6 ≤ ε.1) (h : gX IF A L p pa ex ey k) (hu : uc + 7 ≤ 601024) (hs : us + 42 ≤ 7293034) (next : lNx ε d Q q uc us) : zW ε true (d + 22) 232 1719 [(0, .ref 2000), (1, .ref 0), (2, .ref 32), (3, .ref 51), (4, .ref 52), (5, .int (nI (6 * q)))] [] (zM o ot it IF A AL AD) uc us Q := by
  refine zrun 5 ?_
  refine zW_sald (n := 6 * q + 1) rfl rfl (nI_add (6 * q) 1) (by omega) hN ?_
  refine zrun 4 ?_
  refine zW_sald (n := 6 * q + 2) rfl rfl (nI_add (6 * q) 2) (by omega) hN ?_
  refine zrun 4 ?_
  refine zW_sald (n := 6 * q + 3) rfl rfl (nI_add (6 * q) 3) (by omega) hN ?_
  refine zrun 2 ⟨⟨by show uc + 5 ≤ 601024; omega, by show us + 30 ≤ 7293034; omega, rfl⟩, ?_⟩
  refine zW_mono ε _ _ _ _ _ _ _ _ _ _ _ (fun r h2 hP => ?_) (hp_overtake (j_overtake h))
  obtain ⟨o2, ot2, it2, IF2, A2, AL2, AD2, u, cde, rfl, hw, rfl, hs2⟩ := hP
  refine ⟨rfl, ?_⟩
  rcases hs2 with ⟨rfl, w, rfl, hst⟩ | ⟨hcd, rfl⟩
  · refine zrun 1 (zloc [(0, _), (1, _), (2, _), (3, _), (4, _), (5, _), (6, _)] rfl ?_)
    refine zrun 5 ?_
    refine zW_sald (n := 6 * q + 1) rfl rfl (nI_add (6 * q) 1) (by omega) hN ?_
    refine zrun 4 ?_
    refine zW_sald (n := 6 * q + 2) rfl rfl (nI_add (6 * q) 2) (by omega) hN ?_
    refine zrun 4 ?_
    refine zW_sald (n := 6 * q + 3) rfl rfl (nI_add (6 * q) 3) (by omega) hN ?_
    refine zrun 1 ⟨⟨by show uc + 5 + 0 ≤ 601024; omega, by show us + 30 + 0 ≤ 7293034; omega, rfl⟩, ?_⟩
    refine zW_mono ε _ _ _ _ _ _ _ _ _ _ _ (fun r h2 hP => ?_) (hw AL2 AD2)
    obtain ⟨rfl, o3, ot3, it3, IF3, A3, rfl, hg, h0⟩ := hP
    refine ⟨rfl, ?_⟩
    refine zrun 1 (zloc [(0, _), (1, _), (2, _), (3, _), (4, _), (5, _), (6, _), (7, _)] rfl ?_)
    refine zrun 2 ⟨⟨by show uc + 5 + 0 + 0 ≤ 601024; omega, by show us + 30 + 0 + 0 ≤ 7293034; omega, rfl⟩, ?_⟩
    refine c_thrown ⟨rfl, ?_⟩
    refine zrun 2 ⟨fun _ => ?_, fun z => absurd h0 z⟩
    refine zrun 2 ⟨fun z => absurd rfl z, fun _ => ?_⟩
    refine zrun 3 ⟨z_01, ?_⟩
    refine zrun 4 ⟨fun _ => ?_, fun z => absurd ((lg_cmp_eq _ _).mpr hst) z⟩
    exact zrun 1 (zfg [0, 1, 2, 3, 4, 5] (zloc [(0, _), (1, _), (2, _), (3, _), (4, _), (5, _)] rfl (next _ _ _ _ _ _ _ _ _ hg (by show uc + 5 + 0 + 0 ≤ uc + 7; omega) (by show us + 30 + 0 + 0 ≤ us + 42; omega))))
  · refine zrun 1 (zloc [(0, _), (1, _), (2, _), (3, _), (4, _), (5, _), (6, _)] rfl ?_)
    refine zrun 5 ?_
    refine zW_sald (n := 6 * q + 1) rfl rfl (nI_add (6 * q) 1) (by omega) hN ?_
    refine zrun 4 ?_
    refine zW_sald (n := 6 * q + 2) rfl rfl (nI_add (6 * q) 2) (by omega) hN ?_
    refine zrun 4 ?_
    refine zW_sald (n := 6 * q + 3) rfl rfl (nI_add (6 * q) 3) (by omega) hN ?_
    refine zrun 1 ⟨⟨by show uc + 5 + 0 ≤ 601024; omega, by show us + 30 + 0 ≤ 7293034; omega, rfl⟩, ?_⟩
    refine zW_mono ε _ _ _ _ _ _ _ _ _ _ _ (fun r h2 hP => ?_) (hw AL2 AD2)
    obtain ⟨rfl, o3, ot3, it3, IF3, A3, rfl, hg, h0⟩ := hP
    refine ⟨rfl, ?_⟩
    refine zrun 1 (zloc [(0, _), (1, _), (2, _), (3, _), (4, _), (5, _), (6, _), (7, _)] rfl ?_)
    refine zrun 2 ⟨⟨by show uc + 5 + 0 + 0 ≤ 601024; omega, by show us + 30 + 0 + 0 ≤ 7293034; omega, rfl⟩, ?_⟩
    refine c_thrown ⟨rfl, ?_⟩
    refine zrun 2 ⟨fun _ => ?_, fun z => absurd h0 z⟩
    refine zrun 2 ⟨fun _ => ?_, fun z => absurd z hcd⟩
    exact zrun 1 (zfg [0, 1, 2, 3, 4, 5] (zloc [(0, _), (1, _), (2, _), (3, _), (4, _), (5, _)] rfl (next _ _ _ _ _ _ _ _ _ hg (by show uc + 5 + 0 + 0 ≤ uc + 7; omega) (by show us + 30 + 0 + 0 ≤ us + 42; omega))))
theorem lw_bestOvertaking (hN : ε.1 ≤ 3072) (hq : 6 * q + 6 ≤ ε.1) (h : gX IF A L p pa ex ey k) (hu : uc + 7 ≤ 601024) (hs : us + 42 ≤ 7293034) (next : lNx ε d Q q uc us) : zW ε true (d + 22) 232 1799 [(0, .ref 2000), (1, .ref 0), (2, .ref 32), (3, .ref 51), (4, .ref 52), (5, .int (nI (6 * q)))] [] (zM o ot it IF A AL AD) uc us Q := by
  refine zrun 2 ⟨⟨by show uc + 0 ≤ 601024; omega, by show us + 0 ≤ 7293034; omega, rfl⟩, ?_⟩
  refine zW_mono ε _ _ _ _ _ _ _ _ _ _ _ (fun r h2 hP => ?_) (j_bestOvertaking (d := d + 1) h)
  obtain ⟨o2, ot2, it2, IF2, A2, u, cde, rfl, hw, hs2⟩ := hP
  rcases hs2 with ⟨rfl, rfl, w, rfl⟩ | ⟨E, rfl, hm, -⟩
  · refine ⟨rfl, ?_⟩
    refine zrun 2 ⟨⟨by show uc + 0 + 0 ≤ 601024; omega, by show us + 0 + 0 ≤ 7293034; omega, rfl⟩, ?_⟩
    refine zW_mono ε _ _ _ _ _ _ _ _ _ _ _ (fun r h2 hP => ?_) (hw AL AD)
    obtain ⟨rfl, o3, ot3, it3, IF3, A3, rfl, hg, h0⟩ := hP
    refine ⟨rfl, ?_⟩
    exact zrun 1 ⟨fun _ => next _ _ _ _ _ _ _ _ _ hg (by show uc + 0 + 0 ≤ uc + 7; omega) (by show us + 0 + 0 ≤ us + 42; omega), fun z => absurd rfl z⟩
  · exact absurd hm List.not_mem_nil
theorem lw_dispatch (hN : ε.1 ≤ 3072) (hq : 6 * q + 6 ≤ ε.1) (h : gX IF A L p pa ex ey k) (hu : uc + 7 ≤ 601024) (hs : us + 42 ≤ 7293034) (next : lNx ε d Q q uc us) : zW ε true (d + 22) 232 1812 [(0, .ref 2000), (1, .ref 0), (2, .ref 32), (3, .ref 51), (4, .ref 52), (5, .int (nI (6 * q)))] [] (zM o ot it IF A AL AD) uc us Q := by
  refine zrun 2 ⟨⟨by show uc + 0 ≤ 601024; omega, by show us + 0 ≤ 7293034; omega, rfl⟩, ?_⟩
  refine zW_mono ε _ _ _ _ _ _ _ _ _ _ _ (fun r h2 hP => ?_) (j_dispatch (d := d + 1) h)
  obtain ⟨o2, ot2, it2, IF2, A2, u, cde, rfl, hw, hs2⟩ := hP
  rcases hs2 with ⟨rfl, rfl, w, rfl⟩ | ⟨E, rfl, hm, -⟩
  · refine ⟨rfl, ?_⟩
    refine zrun 2 ⟨⟨by show uc + 0 + 0 ≤ 601024; omega, by show us + 0 + 0 ≤ 7293034; omega, rfl⟩, ?_⟩
    refine zW_mono ε _ _ _ _ _ _ _ _ _ _ _ (fun r h2 hP => ?_) (hw AL AD)
    obtain ⟨rfl, o3, ot3, it3, IF3, A3, rfl, hg, h0⟩ := hP
    refine ⟨rfl, ?_⟩
    exact zrun 1 ⟨fun _ => next _ _ _ _ _ _ _ _ _ hg (by show uc + 0 + 0 ≤ uc + 7; omega) (by show us + 0 + 0 ≤ us + 42; omega), fun z => absurd rfl z⟩
  · exact absurd hm List.not_mem_nil
theorem lw_tolerance (hN : ε.1 ≤ 3072) (hq : 6 * q + 6 ≤ ε.1) (h : gX IF A L p pa ex ey k) (hu : uc + 7 ≤ 601024) (hs : us + 42 ≤ 7293034) (next : lNx ε d Q q uc us) : zW ε true (d + 22) 232 1825 [(0, .ref 2000), (1, .ref 0), (2, .ref 32), (3, .ref 51), (4, .ref 52), (5, .int (nI (6 * q)))] [] (zM o ot it IF A AL AD) uc us Q := by
  refine zrun 5 ?_
  refine zW_sald (n := 6 * q + 1) rfl rfl (nI_add (6 * q) 1) (by omega) hN ?_
  refine zrun 4 ?_
  refine zW_sald (n := 6 * q + 2) rfl rfl (nI_add (6 * q) 2) (by omega) hN ?_
  refine zrun 2 ⟨⟨by show uc + 3 ≤ 601024; omega, by show us + 18 ≤ 7293034; omega, rfl⟩, ?_⟩
  refine zW_mono ε _ _ _ _ _ _ _ _ _ _ _ (fun r h2 hP => ?_) (hp_tolerance (j_tolerance h))
  obtain ⟨o2, ot2, it2, IF2, A2, AL2, AD2, u, cde, rfl, hw, rfl, hs2⟩ := hP
  refine ⟨rfl, ?_⟩
  rcases hs2 with ⟨rfl, w, rfl, hst⟩ | ⟨hcd, rfl⟩
  · refine zrun 1 (zloc [(0, _), (1, _), (2, _), (3, _), (4, _), (5, _), (6, _)] rfl ?_)
    refine zrun 5 ?_
    refine zW_sald (n := 6 * q + 1) rfl rfl (nI_add (6 * q) 1) (by omega) hN ?_
    refine zrun 4 ?_
    refine zW_sald (n := 6 * q + 2) rfl rfl (nI_add (6 * q) 2) (by omega) hN ?_
    refine zrun 1 ⟨⟨by show uc + 3 + 0 ≤ 601024; omega, by show us + 18 + 0 ≤ 7293034; omega, rfl⟩, ?_⟩
    refine zW_mono ε _ _ _ _ _ _ _ _ _ _ _ (fun r h2 hP => ?_) (hw AL2 AD2)
    obtain ⟨rfl, o3, ot3, it3, IF3, A3, rfl, hg, h0⟩ := hP
    refine ⟨rfl, ?_⟩
    refine zrun 1 (zloc [(0, _), (1, _), (2, _), (3, _), (4, _), (5, _), (6, _), (7, _)] rfl ?_)
    refine zrun 2 ⟨⟨by show uc + 3 + 0 + 0 ≤ 601024; omega, by show us + 18 + 0 + 0 ≤ 7293034; omega, rfl⟩, ?_⟩
    refine c_thrown ⟨rfl, ?_⟩
    refine zrun 2 ⟨fun _ => ?_, fun z => absurd h0 z⟩
    refine zrun 2 ⟨fun z => absurd rfl z, fun _ => ?_⟩
    refine zrun 3 ⟨z_01, ?_⟩
    refine zrun 4 ⟨fun _ => ?_, fun z => absurd ((lg_cmp_eq _ _).mpr hst) z⟩
    exact zrun 1 (zfg [0, 1, 2, 3, 4, 5] (zloc [(0, _), (1, _), (2, _), (3, _), (4, _), (5, _)] rfl (next _ _ _ _ _ _ _ _ _ hg (by show uc + 3 + 0 + 0 ≤ uc + 7; omega) (by show us + 18 + 0 + 0 ≤ us + 42; omega))))
  · refine zrun 1 (zloc [(0, _), (1, _), (2, _), (3, _), (4, _), (5, _), (6, _)] rfl ?_)
    refine zrun 5 ?_
    refine zW_sald (n := 6 * q + 1) rfl rfl (nI_add (6 * q) 1) (by omega) hN ?_
    refine zrun 4 ?_
    refine zW_sald (n := 6 * q + 2) rfl rfl (nI_add (6 * q) 2) (by omega) hN ?_
    refine zrun 1 ⟨⟨by show uc + 3 + 0 ≤ 601024; omega, by show us + 18 + 0 ≤ 7293034; omega, rfl⟩, ?_⟩
    refine zW_mono ε _ _ _ _ _ _ _ _ _ _ _ (fun r h2 hP => ?_) (hw AL2 AD2)
    obtain ⟨rfl, o3, ot3, it3, IF3, A3, rfl, hg, h0⟩ := hP
    refine ⟨rfl, ?_⟩
    refine zrun 1 (zloc [(0, _), (1, _), (2, _), (3, _), (4, _), (5, _), (6, _), (7, _)] rfl ?_)
    refine zrun 2 ⟨⟨by show uc + 3 + 0 + 0 ≤ 601024; omega, by show us + 18 + 0 + 0 ≤ 7293034; omega, rfl⟩, ?_⟩
    refine c_thrown ⟨rfl, ?_⟩
    refine zrun 2 ⟨fun _ => ?_, fun z => absurd h0 z⟩
    refine zrun 2 ⟨fun _ => ?_, fun z => absurd z hcd⟩
    exact zrun 1 (zfg [0, 1, 2, 3, 4, 5] (zloc [(0, _), (1, _), (2, _), (3, _), (4, _), (5, _)] rfl (next _ _ _ _ _ _ _ _ _ hg (by show uc + 3 + 0 + 0 ≤ uc + 7; omega) (by show us + 18 + 0 + 0 ≤ us + 42; omega))))
theorem lw_leastDelay (hN : ε.1 ≤ 3072) (hq : 6 * q + 6 ≤ ε.1) (h : gX IF A L p pa ex ey k) (hu : uc + 7 ≤ 601024) (hs : us + 42 ≤ 7293034) (next : lNx ε d Q q uc us) : zW ε true (d + 22) 232 1893 [(0, .ref 2000), (1, .ref 0), (2, .ref 32), (3, .ref 51), (4, .ref 52), (5, .int (nI (6 * q)))] [] (zM o ot it IF A AL AD) uc us Q := by
  refine zrun 5 ?_
  refine zW_sald (n := 6 * q + 1) rfl rfl (nI_add (6 * q) 1) (by omega) hN ?_
  refine zrun 4 ?_
  refine zW_sald (n := 6 * q + 2) rfl rfl (nI_add (6 * q) 2) (by omega) hN ?_
  refine zrun 2 ⟨⟨by show uc + 2 ≤ 601024; omega, by show us + 12 ≤ 7293034; omega, rfl⟩, ?_⟩
  refine zW_mono ε _ _ _ _ _ _ _ _ _ _ _ (fun r h2 hP => ?_) (hp_leastDelay (j_leastDelay h))
  obtain ⟨o2, ot2, it2, IF2, A2, AL2, AD2, u, cde, rfl, hw, rfl, hs2⟩ := hP
  refine ⟨rfl, ?_⟩
  rcases hs2 with ⟨rfl, w, rfl, hst⟩ | ⟨hcd, rfl⟩
  · refine zrun 1 (zloc [(0, _), (1, _), (2, _), (3, _), (4, _), (5, _), (6, _)] rfl ?_)
    refine zrun 5 ?_
    refine zW_sald (n := 6 * q + 1) rfl rfl (nI_add (6 * q) 1) (by omega) hN ?_
    refine zrun 4 ?_
    refine zW_sald (n := 6 * q + 2) rfl rfl (nI_add (6 * q) 2) (by omega) hN ?_
    refine zrun 1 ⟨⟨by show uc + 2 + 0 ≤ 601024; omega, by show us + 12 + 0 ≤ 7293034; omega, rfl⟩, ?_⟩
    refine zW_mono ε _ _ _ _ _ _ _ _ _ _ _ (fun r h2 hP => ?_) (hw AL2 AD2)
    obtain ⟨rfl, o3, ot3, it3, IF3, A3, rfl, hg, h0⟩ := hP
    refine ⟨rfl, ?_⟩
    refine zrun 1 (zloc [(0, _), (1, _), (2, _), (3, _), (4, _), (5, _), (6, _), (7, _)] rfl ?_)
    refine zrun 2 ⟨⟨by show uc + 2 + 0 + 0 ≤ 601024; omega, by show us + 12 + 0 + 0 ≤ 7293034; omega, rfl⟩, ?_⟩
    refine c_thrown ⟨rfl, ?_⟩
    refine zrun 2 ⟨fun _ => ?_, fun z => absurd h0 z⟩
    refine zrun 2 ⟨fun z => absurd rfl z, fun _ => ?_⟩
    refine zrun 3 ⟨z_01, ?_⟩
    refine zrun 4 ⟨fun _ => ?_, fun z => absurd ((lg_cmp_eq _ _).mpr hst) z⟩
    exact zrun 1 (zfg [0, 1, 2, 3, 4, 5] (zloc [(0, _), (1, _), (2, _), (3, _), (4, _), (5, _)] rfl (next _ _ _ _ _ _ _ _ _ hg (by show uc + 2 + 0 + 0 ≤ uc + 7; omega) (by show us + 12 + 0 + 0 ≤ us + 42; omega))))
  · refine zrun 1 (zloc [(0, _), (1, _), (2, _), (3, _), (4, _), (5, _), (6, _)] rfl ?_)
    refine zrun 5 ?_
    refine zW_sald (n := 6 * q + 1) rfl rfl (nI_add (6 * q) 1) (by omega) hN ?_
    refine zrun 4 ?_
    refine zW_sald (n := 6 * q + 2) rfl rfl (nI_add (6 * q) 2) (by omega) hN ?_
    refine zrun 1 ⟨⟨by show uc + 2 + 0 ≤ 601024; omega, by show us + 12 + 0 ≤ 7293034; omega, rfl⟩, ?_⟩
    refine zW_mono ε _ _ _ _ _ _ _ _ _ _ _ (fun r h2 hP => ?_) (hw AL2 AD2)
    obtain ⟨rfl, o3, ot3, it3, IF3, A3, rfl, hg, h0⟩ := hP
    refine ⟨rfl, ?_⟩
    refine zrun 1 (zloc [(0, _), (1, _), (2, _), (3, _), (4, _), (5, _), (6, _), (7, _)] rfl ?_)
    refine zrun 2 ⟨⟨by show uc + 2 + 0 + 0 ≤ 601024; omega, by show us + 12 + 0 + 0 ≤ 7293034; omega, rfl⟩, ?_⟩
    refine c_thrown ⟨rfl, ?_⟩
    refine zrun 2 ⟨fun _ => ?_, fun z => absurd h0 z⟩
    refine zrun 2 ⟨fun _ => ?_, fun z => absurd z hcd⟩
    exact zrun 1 (zfg [0, 1, 2, 3, 4, 5] (zloc [(0, _), (1, _), (2, _), (3, _), (4, _), (5, _)] rfl (next _ _ _ _ _ _ _ _ _ hg (by show uc + 2 + 0 + 0 ≤ uc + 7; omega) (by show us + 12 + 0 + 0 ≤ us + 42; omega))))
theorem lw_distribute (hN : ε.1 ≤ 3072) (hq : 6 * q + 6 ≤ ε.1) (h : gX IF A L p pa ex ey k) (hu : uc + 7 ≤ 601024) (hs : us + 42 ≤ 7293034) (next : lNx ε d Q q uc us) : zW ε true (d + 22) 232 1961 [(0, .ref 2000), (1, .ref 0), (2, .ref 32), (3, .ref 51), (4, .ref 52), (5, .int (nI (6 * q)))] [] (zM o ot it IF A AL AD) uc us Q := by
  refine zrun 5 ?_
  refine zW_sald (n := 6 * q + 1) rfl rfl (nI_add (6 * q) 1) (by omega) hN ?_
  refine zrun 4 ?_
  refine zW_sald (n := 6 * q + 2) rfl rfl (nI_add (6 * q) 2) (by omega) hN ?_
  refine zrun 2 ⟨⟨by show uc + 2 ≤ 601024; omega, by show us + 12 ≤ 7293034; omega, rfl⟩, ?_⟩
  refine zW_mono ε _ _ _ _ _ _ _ _ _ _ _ (fun r h2 hP => ?_) (hp_distribute (j_distribute h))
  obtain ⟨o2, ot2, it2, IF2, A2, AL2, AD2, u, cde, rfl, hw, rfl, hs2⟩ := hP
  refine ⟨rfl, ?_⟩
  rcases hs2 with ⟨rfl, w, rfl, hst⟩ | ⟨hcd, rfl⟩
  · refine zrun 1 (zloc [(0, _), (1, _), (2, _), (3, _), (4, _), (5, _), (6, _)] rfl ?_)
    refine zrun 5 ?_
    refine zW_sald (n := 6 * q + 1) rfl rfl (nI_add (6 * q) 1) (by omega) hN ?_
    refine zrun 4 ?_
    refine zW_sald (n := 6 * q + 2) rfl rfl (nI_add (6 * q) 2) (by omega) hN ?_
    refine zrun 1 ⟨⟨by show uc + 2 + 0 ≤ 601024; omega, by show us + 12 + 0 ≤ 7293034; omega, rfl⟩, ?_⟩
    refine zW_mono ε _ _ _ _ _ _ _ _ _ _ _ (fun r h2 hP => ?_) (hw AL2 AD2)
    obtain ⟨rfl, o3, ot3, it3, IF3, A3, rfl, hg, h0⟩ := hP
    refine ⟨rfl, ?_⟩
    refine zrun 1 (zloc [(0, _), (1, _), (2, _), (3, _), (4, _), (5, _), (6, _), (7, _)] rfl ?_)
    refine zrun 2 ⟨⟨by show uc + 2 + 0 + 0 ≤ 601024; omega, by show us + 12 + 0 + 0 ≤ 7293034; omega, rfl⟩, ?_⟩
    refine c_thrown ⟨rfl, ?_⟩
    refine zrun 2 ⟨fun _ => ?_, fun z => absurd h0 z⟩
    refine zrun 2 ⟨fun z => absurd rfl z, fun _ => ?_⟩
    refine zrun 3 ⟨z_01, ?_⟩
    refine zrun 4 ⟨fun _ => ?_, fun z => absurd ((lg_cmp_eq _ _).mpr hst) z⟩
    exact zrun 1 (zfg [0, 1, 2, 3, 4, 5] (zloc [(0, _), (1, _), (2, _), (3, _), (4, _), (5, _)] rfl (next _ _ _ _ _ _ _ _ _ hg (by show uc + 2 + 0 + 0 ≤ uc + 7; omega) (by show us + 12 + 0 + 0 ≤ us + 42; omega))))
  · refine zrun 1 (zloc [(0, _), (1, _), (2, _), (3, _), (4, _), (5, _), (6, _)] rfl ?_)
    refine zrun 5 ?_
    refine zW_sald (n := 6 * q + 1) rfl rfl (nI_add (6 * q) 1) (by omega) hN ?_
    refine zrun 4 ?_
    refine zW_sald (n := 6 * q + 2) rfl rfl (nI_add (6 * q) 2) (by omega) hN ?_
    refine zrun 1 ⟨⟨by show uc + 2 + 0 ≤ 601024; omega, by show us + 12 + 0 ≤ 7293034; omega, rfl⟩, ?_⟩
    refine zW_mono ε _ _ _ _ _ _ _ _ _ _ _ (fun r h2 hP => ?_) (hw AL2 AD2)
    obtain ⟨rfl, o3, ot3, it3, IF3, A3, rfl, hg, h0⟩ := hP
    refine ⟨rfl, ?_⟩
    refine zrun 1 (zloc [(0, _), (1, _), (2, _), (3, _), (4, _), (5, _), (6, _), (7, _)] rfl ?_)
    refine zrun 2 ⟨⟨by show uc + 2 + 0 + 0 ≤ 601024; omega, by show us + 12 + 0 + 0 ≤ 7293034; omega, rfl⟩, ?_⟩
    refine c_thrown ⟨rfl, ?_⟩
    refine zrun 2 ⟨fun _ => ?_, fun z => absurd h0 z⟩
    refine zrun 2 ⟨fun _ => ?_, fun z => absurd z hcd⟩
    exact zrun 1 (zfg [0, 1, 2, 3, 4, 5] (zloc [(0, _), (1, _), (2, _), (3, _), (4, _), (5, _)] rfl (next _ _ _ _ _ _ _ _ _ hg (by show uc + 2 + 0 + 0 ≤ uc + 7; omega) (by show us + 12 + 0 + 0 ≤ us + 42; omega))))
end
