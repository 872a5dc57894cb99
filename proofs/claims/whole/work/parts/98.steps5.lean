/-! what comes to an answer has one; the state: clear, a line begun anew -/
section
variable {P : zR} {al ac nx : Bool} {d y pc : Nat} {l : zL} {st r : List Value} {h : zH} {uc us : Nat} {Q : zQ} {i : Instr} {len : Nat} {ε : Nat × (Nat → Int32)}
def zPs : zR := fun _ _ _ _ _ _ _ _ _ Q => ∃ o h, Q o h
theorem zcn_s {b : Bool} {A B : Prop} (h : A → B) : cond b A False → B := by
  cases b
  · exact fun z => z.elim
  · exact h
theorem zcx_s {c : Jvm.ClassFile.Cond} {a b : Int32} {A B C : Prop} (h : A → C) (h2 : B → C) : (zcd c a b → A) ∧ (zcx c a b → B) → C := fun q => by
  by_cases z : zcd c a b
  · exact h (q.1 z)
  · refine h2 (q.2 ?_)
    cases c
    · exact z
    · exact Classical.byContradiction fun w => z w
    · exact z
    · exact z
    · exact z
    · exact z
theorem zput_s {c k j : Nat} {v : Value} {ok : Bool} {F : zH → Prop} {C : Prop} (hk : ∀ h, F h → C) : zput h c k j v ok F → C := by
  unfold zput
  cases v <;> try exact zimpF
  · refine zcn_s ?_
    split
    · exact hk _
    · exact zcn_s (hk _)
    · exact zimpF
  · refine zcn_s ?_
    split
    · exact hk _
    · exact hk _
    · exact zimpF
set_option maxHeartbeats 4000000 in
theorem zmem_s : zmem ε zPs al d y pc l st h uc us Q i len → ∃ o h, Q o h := by
  unfold zmem
  repeat' split
  all_goals first
    | exact zimpF
    | exact zcn_s id
    | exact zcn_s (fun q => q.2)
    | exact zput_s (fun _ q => q)
theorem zbk_s {n0 : Nat} {o : Option Value ⊕ Nat} {h : zH} (hh : zbk zPs al nx d y pc l r n0 uc us Q o h) : ∃ o h, Q o h := by
  cases o with
  | inl v => exact hh.2
  | inr E =>
    have h2 := hh.2
    revert h2
    cases zct (zhn y) pc E with
    | none => exact fun q => ⟨_, _, q⟩
    | some hp =>
      dsimp only
      cases zca y hp with
      | none => exact zimpF
      | some q => exact fun h2 => h2.2
theorem zcall_s {y' : Nat} {as : List Value} (hh : zcall zPs al ac nx d y pc l r h uc us Q y' as) : ∃ o h, Q o h := by
  cases d with
  | zero => exact hh.elim
  | succ d =>
    obtain ⟨o, h2, q⟩ := hh.2
    exact zbk_s q
set_option maxHeartbeats 4000000 in
theorem zcal_s : zcal zPs al d y pc l st h uc us Q i len → ∃ o h, Q o h := by
  unfold zcal
  repeat' split
  all_goals first
    | exact zimpF
    | exact zcn_s zcall_s
    | exact zcn_s (fun q => q.2)
set_option maxHeartbeats 4000000 in
theorem znew_s : znew zPs al d y pc l st h uc us Q i len → ∃ o h, Q o h := by
  unfold znew
  repeat' split
  all_goals first
    | exact zimpF
    | exact zcn_s (fun q => q.2)
    | exact zcn_s (fun q => ⟨_, _, q.2⟩)
set_option maxHeartbeats 4000000 in
theorem zst2_s : zst2 ε zPs al d y pc l st h uc us Q i len → ∃ o h, Q o h := by
  unfold zst2
  repeat' split
  all_goals first
    | exact zimpF
    | exact zcn_s id
    | exact zcn_s (fun q => ⟨_, _, q⟩)
    | exact zcn_s (fun q => ⟨_, _, q.2⟩)
    | exact zcn_s (fun q => q.2)
    | exact zcn_s (zcx_s id id)
    | exact fun q => (Classical.em _).elim (fun z => (q.1 z).2) (fun z => by obtain ⟨off, a1, a2, a3⟩ := q.2 (fun w => z (Or.inl w)) (fun w => z (Or.inr w)); exact a3)
    | exact zcal_s
    | exact znew_s
    | exact zmem_s
theorem zW_s (hw : zW ε al d y pc l st h uc us Q) : ∃ o h, Q o h := by
  refine hw zPs (fun _ _ _ _ _ _ _ _ _ Q Q' hQ q => ?_) (fun al d y pc l st h uc us Q hs => ?_) (fun _ _ _ _ _ _ _ _ _ _ _ _ q => q)
  · obtain ⟨o, h, z⟩ := q
    exact ⟨o, h, hQ o h z⟩
  · unfold zstep at hs
    revert hs
    cases zI y pc with
    | none => exact zimpF
    | some q =>
      obtain ⟨i, len⟩ := q
      dsimp only
      cases zpl (zML y) i len pc l st with
      | none => exact zst2_s
      | some z => exact id
end
section
variable {IF IG A B : Nat → Nat → Int32} {L p q pa ex ey : Nat → Nat} {k : Nat}
theorem ev_128 {t s : Nat} {b : Bool} (ht : t < 8) (hs : s < 8) : 8 * t + s + cond b 64 0 < 128 := by
  cases b
  · show 8 * t + s + 0 < 128
    omega
  · show 8 * t + s + 64 < 128
    omega
theorem xfA_v {m : Nat} {v : Int32} : ∀ (n i : Nat) (A : Nat → Nat → Int32), xfA m v n i A = va_up A m (fun e => if i ≤ e ∧ e < i + n then v else A m e) := by
  intro n
  induction n with
  | zero =>
    intro i A
    refine (vu_eq ?_).symm
    funext e
    exact (if_neg (fun z => by omega)).symm
  | succ n ih =>
    intro i A
    have e : xfA m v (n + 1) i A = xfA m v n (i + 1) (va_up A m (upd (A m) i v)) := rfl
    rw [e, ih]
    funext j
    by_cases hj : j = m
    · subst hj
      rw [vu_s, vu_s]
      funext g
      rw [vu_s]
      by_cases h1 : g = i
      · rw [h1, upd_s, if_pos (show i ≤ i ∧ i < i + (n + 1) from ⟨Nat.le_refl _, by omega⟩)]
        split <;> rfl
      · rw [upd_n h1]
        by_cases h2 : i + 1 ≤ g ∧ g < i + 1 + n
        · rw [if_pos h2, if_pos ⟨by omega, by omega⟩]
        · rw [if_neg h2, if_neg (fun z => h2 ⟨by omega, by omega⟩)]
    · rw [vu_n hj, vu_n hj, vu_n hj]
/-- clear -/
theorem cl_i (h : Inv L p pa ex ey k) : Inv L p (pcp p pa) ex (fun _ => 0) 0 := ⟨⟨h.1.1, h.1.2.1, pOrd_cg h.1.2.1 (pcp_e h.1.1)⟩, h.2.1, h.2.2.1, fun _ _ _ _ _ => Nat.zero_le _, Nat.zero_le _⟩
theorem cl_c (h : Inv L p pa ex ey k) (hc : cG IF A L p pa ex ey k) : cG (xbI IF) (xcl IF (L 2) (L 1) (L 0) A) L p (pcp p pa) ex (fun _ => 0) 0 ∧ ∀ j, (j < 9 ∨ 27 < j) → xcl IF (L 2) (L 1) (L 0) A j = A j := by
  have hL := h.1.1
  have hB := hL.1.2.1
  have e0 : xfA 24 0 128 0 A = va_up A 24 (fun e => if 0 ≤ e ∧ e < 0 + 128 then 0 else A 24 e) := xfA_v 128 0 A
  have c0 : cO (xfA 24 0 128 0 A) 12 L p := by rw [e0]; exact cO_fr hc.1.1.2.1 rfl rfl
  have c := co_v hL c0
  obtain ⟨c1, f3, g3, e3⟩ := c
  have cH1 : cH IF (xcO (xfA 24 0 128 0 A)) L p (pcp p pa) ex (fun _ => 0) k := by
    have c2 := cO_cg c1 (pcp_e (pa := pa) hL)
    rw [e3] at c2 ⊢
    rw [e0] at c2 ⊢
    refine ⟨⟨cR_fr hc.1.1.1 rfl rfl rfl rfl, cO_fr hc.1.1.2.1 rfl rfl, c2⟩, hc.1.2.1, fun t s b ht hv => ?_, hc.1.2.2.2⟩
    have z := hc.1.2.2.1 t s b ht hv
    have ev := ev_s hL ht hv
    refine ⟨z.1, ?_, z.2.2⟩
    show (if 0 ≤ 8 * t + s + cond b 64 0 ∧ 8 * t + s + cond b 64 0 < 0 + 128 then 0 else A 24 (8 * t + s + cond b 64 0)) = nI 0
    rw [if_pos ⟨Nat.zero_le _, by rw [Nat.zero_add]; exact ev_128 (by omega) ev.1⟩]
    exact nI_0.symm
  have S1 : Sol L p (pF L) ex true (tn (xcO (xfA 24 0 128 0 A) 20)) 256 := by
    rw [e3, e0]
    exact hc.2.1
  have y := ca_v (IF := xbI IF) (cl_i h) (cH_0 (k2 := 0) (f := upd (IF 0) 8 0) cH1 (by rw [upd_s]; exact nI_0.symm)) S1
  refine ⟨y.1, fun j hj => ?_⟩
  obtain ⟨f4, e4⟩ := y.2
  unfold xcl
  rw [e4, e3, e0, vu_n (by omega), vu_n (by omega), vu_n (by omega), vu_n (by omega)]
theorem mF0_v (hB : L 1 ≤ 8) {t s : Nat} {b : Bool} (ht : t < L 1) (hs : s < 8) : mF0 64 A (cond b 40 39) (8 * t + s) = 0 := by
  cases b
  · show cp 64 (fun _ => 0) (A 39) (8 * t + s) = 0
    exact cp_lt (by omega)
  · show cp 64 (fun _ => 0) (A 40) (8 * t + s) = 0
    exact cp_lt (by omega)
theorem cl_m (h : Inv L p pa ex ey k) (hm : mG IF A L p pa ex ey k) (hk : IG 32 9 = 0) : mG IG (va_up (mF0 64 A) 37 (cp 56 (A 36) (A 37))) L p (pcp p pa) ex (fun _ => 0) 0 := by
  have hL := h.1.1
  have hB := hL.1.2.1
  refine ⟨⟨hm.1.1, hm.1.2.1, ?_⟩, hm.2.1, fun t s b ht hv => ?_, hk.trans nI_0.symm⟩
  · show cp 56 (A 36) (A 37) = _
    rw [hm.1.2.1, hm.1.2.2, cp_lf]
  · rw [vu_n (by cases b <;> decide), mF0_v (L := L) (by omega) ht (ev_s hL ht hv).1]
    exact nI_0.symm
end
