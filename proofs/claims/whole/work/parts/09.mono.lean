/-! a step grows with what it goes on to -/
section
variable {P P' : zR} {al ac : Bool} {d y pc : Nat} {l : zL} {st r : List Value} {h : zH} {uc us : Nat} {Q Q' : zQ} {i : Instr} {len : Nat} {ε : Nat × (Nat → Int32)}
theorem zimpF {A : Prop} : False → A := fun h => h.elim
theorem zcnd_mono {b : Bool} {A B : Prop} (h : A → B) : cond b A False → cond b B False := by cases b <;> simp_all
theorem zput_mono {c k j : Nat} {v : Value} {ok : Bool} {F G : zH → Prop} (hk : ∀ h, F h → G h) : zput h c k j v ok F → zput h c k j v ok G := by
  unfold zput
  cases v <;> try exact zimpF
  · refine zcnd_mono ?_
    split
    · exact hk _
    · exact zcnd_mono (hk _)
    · exact zimpF
  · refine zcnd_mono ?_
    split
    · exact hk _
    · exact hk _
    · exact zimpF
set_option maxHeartbeats 4000000 in
theorem zmem_mono (hk : ∀ pc l st h uc us, P al d y pc l st h uc us Q → P' al d y pc l st h uc us Q') : zmem ε P al d y pc l st h uc us Q i len → zmem ε P' al d y pc l st h uc us Q' i len := by
  unfold zmem
  repeat' split
  all_goals first
    | exact zimpF
    | exact zcnd_mono (hk _ _ _ _ _ _)
    | exact zcnd_mono (fun q => ⟨q.1, hk _ _ _ _ _ _ q.2⟩)
    | exact zput_mono (fun _ => hk _ _ _ _ _ _)
set_option maxHeartbeats 4000000 in
theorem zcal_mono (hle : zLe P P') (hm' : zMono P') (hQ : ∀ o h, Q o h → Q' o h) : zcal P al d y pc l st h uc us Q i len → zcal P' al d y pc l st h uc us Q' i len := by
  have hk : ∀ pc l st h uc us, P al d y pc l st h uc us Q → P' al d y pc l st h uc us Q' := fun _ _ _ _ _ _ q => hm' _ _ _ _ _ _ _ _ _ _ _ hQ (hle _ _ _ _ _ _ _ _ _ _ q)
  unfold zcal
  repeat' split
  all_goals first
    | exact zimpF
    | exact zcnd_mono (zcall_mono hle hm' hQ)
    | exact zcnd_mono (fun q => ⟨q.1, hk _ _ _ _ _ _ q.2⟩)
set_option maxHeartbeats 4000000 in
theorem znew_mono (hQ : ∀ o h, Q o h → Q' o h) (hk : ∀ pc l st h uc us, P al d y pc l st h uc us Q → P' al d y pc l st h uc us Q') : znew P al d y pc l st h uc us Q i len → znew P' al d y pc l st h uc us Q' i len := by
  unfold znew
  repeat' split
  all_goals first
    | exact zimpF
    | exact zcnd_mono (fun q => ⟨q.1, hk _ _ _ _ _ _ q.2⟩)
    | exact zcnd_mono (fun q => ⟨q.1, hQ _ _ q.2⟩)
set_option maxHeartbeats 4000000 in
theorem zst2_mono (hle : zLe P P') (hm' : zMono P') (hQ : ∀ o h, Q o h → Q' o h) : zst2 ε P al d y pc l st h uc us Q i len → zst2 ε P' al d y pc l st h uc us Q' i len := by
  have hk : ∀ pc l st h uc us, P al d y pc l st h uc us Q → P' al d y pc l st h uc us Q' := fun _ _ _ _ _ _ q => hm' _ _ _ _ _ _ _ _ _ _ _ hQ (hle _ _ _ _ _ _ _ _ _ _ q)
  unfold zst2
  repeat' split
  all_goals first
    | exact zimpF
    | exact zcnd_mono (hk _ _ _ _ _ _)
    | exact zcnd_mono (hQ _ _)
    | exact zcnd_mono (fun q => ⟨q.1, hQ _ _ q.2⟩)
    | exact zcnd_mono (fun q => ⟨q.1, hk _ _ _ _ _ _ q.2⟩)
    | exact zcnd_mono (fun q => ⟨fun z => hk _ _ _ _ _ _ (q.1 z), fun z => hk _ _ _ _ _ _ (q.2 z)⟩)
    | exact fun q => ⟨fun z => ⟨(q.1 z).1, hk _ _ _ _ _ _ (q.1 z).2⟩, fun z1 z2 => by obtain ⟨off, a1, a2, a3⟩ := q.2 z1 z2; exact ⟨off, a1, a2, hk _ _ _ _ _ _ a3⟩⟩
    | exact zcal_mono hle hm' hQ
    | exact znew_mono hQ hk
    | exact zmem_mono hk
theorem zstep_mono (hle : zLe P P') (hm' : zMono P') (hQ : ∀ o h, Q o h → Q' o h) : zstep ε P al d y pc l st h uc us Q → zstep ε P' al d y pc l st h uc us Q' := by
  unfold zstep
  cases zI y pc with
  | none => exact zimpF
  | some q =>
    obtain ⟨i, len⟩ := q
    dsimp only
    cases zpl (zML y) i len pc l st with
    | none => exact zst2_mono hle hm' hQ
    | some z => exact fun q => hm' _ _ _ _ _ _ _ _ _ _ _ hQ (hle _ _ _ _ _ _ _ _ _ _ q)
theorem zW_le (hm : zMono P) (hc : zLe (zstep ε P) P) (hf : zFg P) : zLe (zW ε) P := fun _ _ _ _ _ _ _ _ _ _ hw => hw P hm hc hf
theorem zW_fold : zLe (zstep ε (zW ε)) (zW ε) := fun al d y pc l st h uc us Q hs P hm hc hf => hc _ _ _ _ _ _ _ _ _ _ (zstep_mono (zW_le hm hc hf) hm (fun _ _ q => q) hs)
end
/-- k steps, then what was to be shown -/
def zN (ε : Nat × (Nat → Int32)) : Nat → zR
  | 0 => zW ε
  | k + 1 => zstep ε (zN ε k)
theorem zN_mono (ε : Nat × (Nat → Int32)) : ∀ k, zMono (zN ε k)
  | 0 => zW_mono ε
  | k + 1 => fun _ _ _ _ _ _ _ _ _ _ _ hQ hs => zstep_mono (P := zN ε k) (fun _ _ _ _ _ _ _ _ _ _ q => q) (zN_mono ε k) hQ hs
theorem zN_le (ε : Nat × (Nat → Int32)) : ∀ k, zLe (zN ε k) (zW ε)
  | 0 => fun _ _ _ _ _ _ _ _ _ _ q => q
  | k + 1 => fun _ _ _ _ _ _ _ _ _ _ hs => zW_fold _ _ _ _ _ _ _ _ _ _ (zstep_mono (zN_le ε k) (zW_mono ε) (fun _ _ q => q) hs)
theorem zrun {ε : Nat × (Nat → Int32)} (k : Nat) {al : Bool} {d y pc : Nat} {l : zL} {st : List Value} {h : zH} {uc us : Nat} {Q : zQ} (hs : zN ε k al d y pc l st h uc us Q) : zW ε al d y pc l st h uc us Q := zN_le ε k _ _ _ _ _ _ _ _ _ _ hs
/-- some of the locals, by their places -/
theorem zfg {ε : Nat × (Nat → Int32)} (ks : List Nat) {al : Bool} {d y pc : Nat} {l : zL} {st : List Value} {h : zH} {uc us : Nat} {Q : zQ} (hs : zW ε al d y pc (lv_pick l ks) st h uc us Q) : zW ε al d y pc l st h uc us Q := fun P hm hc hf => hf al d y pc l (lv_pick l ks) st h uc us Q (fun q hq => by
  obtain ⟨k, -, hk⟩ := List.mem_filterMap.mp hq
  exact List.mem_of_getElem? hk) (hs P hm hc hf)
