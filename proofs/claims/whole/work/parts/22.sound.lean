/-! the small machine tells the truth -/
section
variable {D : va_G} {z0 : Nat} {ε : Nat × (Nat → Int32)} {al : Bool} {d y pc : Nat} {l : zL} {st : List Value} {h : zH} {uc us : Nat} {Q : zQ} {i : Instr} {len : Nat}
set_option maxHeartbeats 4000000 in
theorem zput_sound {ix k c j : Nat} {v : Value} {r : List Value} {b : Bool} (hd : b = true → decode (zC y) pc = .ok (.putfield ix, 3)) (hf : zfl (zcl y) ix = some (c, j)) (hk : b = true → h.1[k]? = some (0, c)) (hh : zput h c k j v (b && cond (zT c j).2.2.2 (zini y && Nat.beq c (zcl y)) true) (fun h' => zSd D z0 ε al d y (pc + 3) l r h' uc us Q)) : zSd D z0 ε al d y pc l (v :: .ref k :: r) h uc us Q := by
  unfold zput at hh
  split at hh
  · obtain ⟨g1, g2⟩ := zcF hh
    obtain ⟨g3, g4⟩ := zan g1
    split at g2
    · rename_i hty
      exact zs_putI (ty := .int) (hd g3) hf (hk g3) g4 hty (by unfold zfi; rw [hty]) rfl rfl g2
    · rename_i hty
      obtain ⟨g5, g6⟩ := zcF g2
      refine zs_putI (ty := .boolean) (hd g3) hf (hk g3) g4 hty (by unfold zfi; rw [hty]) ?_ ?_ g6
      · unfold zb01 at g5
        rcases Bool.or_eq_true_iff.mp g5 with q | q
        · rw [of_decide_eq_true q]; decide
        · rw [of_decide_eq_true q]; decide
      · unfold zb01 at g5
        rcases Bool.or_eq_true_iff.mp g5 with q | q
        · rw [of_decide_eq_true q]; decide
        · rw [of_decide_eq_true q]; decide
    · exact g2.elim
  · obtain ⟨g1, g2⟩ := zcF hh
    obtain ⟨g3, g4⟩ := zan g1
    split at g2
    · rename_i nm hty
      exact zs_putR (ty := .object nm) (hd g3) hf (hk g3) g4 hty (by unfold zfi; rw [hty]) (fun _ => rfl) (fun _ => rfl) g2
    · rename_i nm hty
      exact zs_putR (ty := .array nm) (hd g3) hf (hk g3) g4 hty (by unfold zfi; rw [hty]) (fun _ => rfl) (fun _ => rfl) g2
    · exact g2.elim
  · exact hh.elim
set_option maxHeartbeats 4000000 in
theorem zmem_sound (hd : decode (zC y) pc = .ok (i, len)) (hh : zmem ε (zSd D z0 ε) al d y pc l st h uc us Q i len) : zSd D z0 ε al d y pc l st h uc us Q := by
  unfold zmem at hh
  split at hh
  · -- getfield
    repeat' split at hh
    all_goals first | (exact hh.elim; done) | skip
    obtain ⟨g1, g2⟩ := zcF hh
    obtain ⟨g3, g4⟩ := zan g1
    cases Nat.eq_of_beq_eq_true g3
    cases Nat.eq_of_beq_eq_true g4
    exact zs_get hd (by assumption) (by assumption) g2
  · -- putfield
    repeat' split at hh
    all_goals first | (exact hh.elim; done) | skip
    rename_i hf _ _ hk
    refine zput_sound (fun g => ?_) hf (fun g => ?_) hh
    · obtain ⟨g3, g4⟩ := zan g
      cases Nat.eq_of_beq_eq_true g4
      exact hd
    · obtain ⟨g3, g4⟩ := zan g
      cases Nat.eq_of_beq_eq_true g3
      exact hk
  · -- iaload
    repeat' split at hh
    all_goals first | (exact hh.elim; done) | skip
    · obtain ⟨g1, g2⟩ := zcF hh
      cases Nat.eq_of_beq_eq_true g1
      exact zs_iald hd (by assumption) g2.1 g2.2
    · obtain ⟨g1, g2⟩ := zcF hh
      obtain ⟨g3, g4⟩ := zan g1
      cases Nat.eq_of_beq_eq_true g3
      cases Nat.eq_of_beq_eq_true g4
      exact zs_sld hd g2.1 g2.2
  · -- baload
    repeat' split at hh
    all_goals first | (exact hh.elim; done) | skip
    · obtain ⟨g1, g2⟩ := zcF hh
      cases Nat.eq_of_beq_eq_true g1
      exact zs_bald hd (by assumption) g2.1 g2.2
    · obtain ⟨g1, g2⟩ := zcF hh
      cases Nat.eq_of_beq_eq_true g1
      exact zs_zald hd (by assumption) g2.1 g2.2
  · -- laload
    repeat' split at hh
    all_goals first | (exact hh.elim; done) | skip
    obtain ⟨g1, g2⟩ := zcF hh
    cases Nat.eq_of_beq_eq_true g1
    exact zs_lald hd (by assumption) g2.1 g2.2
  · -- daload
    repeat' split at hh
    all_goals first | (exact hh.elim; done) | skip
    obtain ⟨g1, g2⟩ := zcF hh
    cases Nat.eq_of_beq_eq_true g1
    exact zs_dald hd (by assumption) g2.1 g2.2
  · -- iastore
    repeat' split at hh
    all_goals first | (exact hh.elim; done) | skip
    obtain ⟨g1, g2⟩ := zcF hh
    cases Nat.eq_of_beq_eq_true g1
    exact zs_iast hd (by assumption) g2.1 g2.2
  · -- bastore
    repeat' split at hh
    all_goals first | (exact hh.elim; done) | skip
    · obtain ⟨g1, g2⟩ := zcF hh
      cases Nat.eq_of_beq_eq_true g1
      exact zs_bast hd (by assumption) g2.1 g2.2
    · obtain ⟨g1, g2⟩ := zcF hh
      cases Nat.eq_of_beq_eq_true g1
      exact zs_zast hd (by assumption) g2.1 g2.2
  · -- lastore
    repeat' split at hh
    all_goals first | (exact hh.elim; done) | skip
    obtain ⟨g1, g2⟩ := zcF hh
    cases Nat.eq_of_beq_eq_true g1
    exact zs_last hd (by assumption) g2.1 g2.2
  · -- dastore
    repeat' split at hh
    all_goals first | (exact hh.elim; done) | skip
    obtain ⟨g1, g2⟩ := zcF hh
    cases Nat.eq_of_beq_eq_true g1
    exact zs_dast hd (by assumption) g2.1 g2.2
  · -- arraylength
    repeat' split at hh
    all_goals first | (exact hh.elim; done) | skip
    · obtain ⟨g1, g2⟩ := zcF hh
      cases Nat.eq_of_beq_eq_true g1
      exact zs_alen hd (by assumption) g2
    · obtain ⟨g1, g2⟩ := zcF hh
      obtain ⟨g3, g4⟩ := zan g1
      cases Nat.eq_of_beq_eq_true g3
      cases Nat.eq_of_beq_eq_true g4
      exact zs_slen hd g2
  · exact hh.elim
set_option maxHeartbeats 4000000 in
theorem zcal_sound (hd : decode (zC y) pc = .ok (i, len)) (hh : zcal (zSd D z0 ε) al d y pc l st h uc us Q i len) : zSd D z0 ε al d y pc l st h uc us Q := by
  unfold zcal at hh
  split at hh
  · repeat' split at hh
    all_goals first | (exact hh.elim; done) | skip
    · obtain ⟨g1, g2⟩ := zcF hh
      obtain ⟨g3, g4⟩ := zan g1
      cases Nat.eq_of_beq_eq_true g4
      exact zs_virt hd (by assumption) (by assumption) (by assumption) (Nat.eq_of_beq_eq_true g3) g2
    · obtain ⟨g1, g2⟩ := zcF hh
      obtain ⟨g3, g4⟩ := zan g1
      obtain ⟨g5, g6⟩ := zan g3
      cases Nat.eq_of_beq_eq_true g4
      exact zs_len hd (by assumption) (Nat.le_of_ble_eq_true g5) (Nat.le_of_ble_eq_true g6) g2.1 g2.2
    · obtain ⟨g1, g2⟩ := zcF hh
      obtain ⟨g3, g4⟩ := zan g1
      obtain ⟨g5, g6⟩ := zan g3
      cases Nat.eq_of_beq_eq_true g4
      exact zs_chr hd (by assumption) (Nat.le_of_ble_eq_true g5) (Nat.le_of_ble_eq_true g6) g2.1 g2.2
  · repeat' split at hh
    all_goals first | (exact hh.elim; done) | skip
    · obtain ⟨g1, g2⟩ := zcF hh
      cases Nat.eq_of_beq_eq_true g1
      exact zs_stat hd (by assumption) (by assumption) g2
    · obtain ⟨g1, g2⟩ := zcF hh
      cases Nat.eq_of_beq_eq_true g1
      exact zs_nest hd (by assumption) (by assumption) g2
    · obtain ⟨g1, g2⟩ := zcF hh
      cases Nat.eq_of_beq_eq_true g1
      exact zs_statH hd (by assumption) (by assumption) g2
    · obtain ⟨g1, g2⟩ := zcF hh
      cases Nat.eq_of_beq_eq_true g1
      exact zs_max hd (by assumption) g2.1 g2.2
    · obtain ⟨g1, g2⟩ := zcF hh
      cases Nat.eq_of_beq_eq_true g1
      exact zs_min hd (by assumption) g2.1 g2.2
    · obtain ⟨g1, g2⟩ := zcF hh
      cases Nat.eq_of_beq_eq_true g1
      exact zs_copy hd (by assumption) (by assumption) (by assumption) g2.1 g2.2
  · repeat' split at hh
    all_goals first | (exact hh.elim; done) | skip
    · obtain ⟨g1, g2⟩ := zcF hh
      obtain ⟨g3, g4⟩ := zan g1
      cases Nat.eq_of_beq_eq_true g4
      exact zs_init g3 hd (by assumption) (by assumption) g2
    · obtain ⟨g1, g2⟩ := zcF hh
      cases Nat.eq_of_beq_eq_true g1
      exact zs_obj hd (by assumption) g2.1 g2.2
  · exact hh.elim
set_option maxHeartbeats 4000000 in
theorem znew_sound (hd : decode (zC y) pc = .ok (i, len)) (hh : znew (zSd D z0 ε) al d y pc l st h uc us Q i len) : zSd D z0 ε al d y pc l st h uc us Q := by
  unfold znew at hh
  split at hh
  · split at hh
    · rename_i hth
      obtain ⟨g1, g2⟩ := zcF hh
      obtain ⟨g3, g4⟩ := zan g1
      obtain ⟨g5, g6⟩ := zan g3
      exact zs_throw (by cases al <;> simp_all) hth g2.1 g2.2
    · split at hh
      · obtain ⟨g1, g2⟩ := zcF hh
        obtain ⟨g3, g4⟩ := zan g1
        obtain ⟨g5, g6⟩ := zan g3
        obtain ⟨g7, g8⟩ := zan g4
        obtain ⟨g9, g10⟩ := zan g7
        cases Nat.eq_of_beq_eq_true g6
        exact zs_new g5 hd (by assumption) g9 g10 (Nat.le_of_ble_eq_true g8) g2.1 g2.2
      · exact hh.elim
  · split at hh
    · rename_i t _ n r
      obtain ⟨g1, g2⟩ := zcF hh
      obtain ⟨g3, g4⟩ := zan g1
      obtain ⟨g5, g6⟩ := zan g3
      obtain ⟨g7, g8⟩ := zan g5
      obtain ⟨g9, g10⟩ := zan g4
      obtain ⟨g11, g12⟩ := zan g9
      obtain ⟨g13, g14⟩ := zan g10
      obtain ⟨g15, g16⟩ := zan g14
      cases Nat.eq_of_beq_eq_true g8
      have n0 := of_decide_eq_true g15
      have n1 := Nat.le_of_ble_eq_true g16
      have n2 := Nat.le_of_ble_eq_true g13
      cases t
      · exact zs_newa (ty := .boolean) (a0 := (n.toNatClampNeg, .inl (fun _ => 0))) g7 hd rfl (by decide) (by decide) (fun _ => rfl) ⟨rfl, by decide⟩ (fun _ _ => by unfold zE zpN zaty; simp only [zup_eq]) g11 g12 n2 n0 n1 g2.1 g2.2
      · exact absurd g6 (by decide)
      · exact absurd g6 (by decide)
      · exact zs_newa (ty := .double) (a0 := (n.toNatClampNeg, .inr (.inr (.inr (.inl (fun _ => 0)))))) g7 hd rfl (by decide) (by decide) (fun _ => rfl) ⟨rfl, by decide⟩ (fun _ _ => by unfold zE zpN zaty; simp only [zup_eq]) g11 g12 n2 n0 n1 g2.1 g2.2
      · exact zs_newa (ty := .byte) (a0 := (n.toNatClampNeg, .inl (fun _ => 0))) g7 hd rfl (by decide) (by decide) (fun _ => rfl) ⟨rfl, by decide⟩ (fun _ _ => by unfold zE zpN zaty; simp only [zup_eq]) g11 g12 n2 n0 n1 g2.1 g2.2
      · exact absurd g6 (by decide)
      · exact zs_newa (ty := .int) (a0 := (n.toNatClampNeg, .inl (fun _ => 0))) g7 hd rfl (by decide) (by decide) (fun _ => rfl) ⟨rfl, by decide⟩ (fun _ _ => by unfold zE zpN zaty; simp only [zup_eq]) g11 g12 n2 n0 n1 g2.1 g2.2
      · exact zs_newa (ty := .long) (a0 := (n.toNatClampNeg, .inr (.inl (fun _ => 0)))) g7 hd rfl (by decide) (by decide) (fun _ => rfl) ⟨rfl, by decide⟩ (fun _ _ => by unfold zE zpN zaty; simp only [zup_eq]) g11 g12 n2 n0 n1 g2.1 g2.2
    · exact hh.elim
  · exact hh.elim
set_option maxHeartbeats 4000000 in
theorem zst2_sound (hd : decode (zC y) pc = .ok (i, len)) (hh : zst2 ε (zSd D z0 ε) al d y pc l st h uc us Q i len) : zSd D z0 ε al d y pc l st h uc us Q := by
  unfold zst2 at hh
  split at hh
  · split at hh
    · obtain ⟨g1, g2⟩ := zcF hh
      obtain ⟨g3, g4⟩ := zan g1
      cases Nat.eq_of_beq_eq_true g3
      exact zs_if hd g4 g2
    · exact hh.elim
  · split at hh
    · obtain ⟨g1, g2⟩ := zcF hh
      obtain ⟨g3, g4⟩ := zan g1
      cases Nat.eq_of_beq_eq_true g3
      exact zs_icmp hd g4 g2
    · exact hh.elim
  · split at hh
    · exact zs_tab hd hh
    · exact hh.elim
  · split at hh
    · obtain ⟨g1, g2⟩ := zcF hh
      cases Nat.eq_of_beq_eq_true g1
      exact zs_idiv hd g2.1 g2.2
    · exact hh.elim
  · split at hh
    · obtain ⟨g1, g2⟩ := zcF hh
      cases Nat.eq_of_beq_eq_true g1
      exact zs_irem hd g2.1 g2.2
    · exact hh.elim
  · split at hh
    · obtain ⟨g1, g2⟩ := zcF hh
      cases Nat.eq_of_beq_eq_true g1
      exact zs_ddiv hd g2.1 g2.2
    · exact hh.elim
  · split at hh
    · obtain ⟨g1, g2⟩ := zcF hh
      cases Nat.eq_of_beq_eq_true g1
      exact zs_ldc hd (by assumption) g2
    · exact hh.elim
  · split at hh
    · obtain ⟨g1, g2⟩ := zcF hh
      cases Nat.eq_of_beq_eq_true g1
      exact zs_ldcw hd (by assumption) g2
    · exact hh.elim
  · repeat' split at hh
    all_goals first | (exact hh.elim; done) | skip
    · obtain ⟨g1, g2⟩ := zcF hh
      cases Nat.eq_of_beq_eq_true g1
      exact zs_iret hd (by assumption) g2
    · obtain ⟨g1, g2⟩ := zcF hh
      cases Nat.eq_of_beq_eq_true g1
      exact zs_zret hd (by assumption) g2.1 g2.2
  · repeat' split at hh
    all_goals first | (exact hh.elim; done) | skip
    obtain ⟨g1, g2⟩ := zcF hh
    cases Nat.eq_of_beq_eq_true g1
    exact zs_dret hd (by assumption) g2
  · repeat' split at hh
    all_goals first | (exact hh.elim; done) | skip
    obtain ⟨g1, g2⟩ := zcF hh
    cases Nat.eq_of_beq_eq_true g1
    exact zs_vret hd (by assumption) g2
  · exact zcal_sound hd hh
  · exact zcal_sound hd hh
  · exact zcal_sound hd hh
  · exact znew_sound hd hh
  · exact znew_sound hd hh
  · exact zmem_sound hd hh
theorem zstep_sound : zLe (zstep ε (zSd D z0 ε)) (zSd D z0 ε) := by
  intro al d y pc l st h uc us Q hh
  unfold zstep at hh
  cases hi : zI y pc with
  | none =>
    rw [hi] at hh
    exact hh.elim
  | some q =>
    obtain ⟨i, len⟩ := q
    rw [hi] at hh
    dsimp only at hh
    have hd := zI_ok y pc _ hi
    cases hp : zpl (zML y) i len pc l st with
    | none =>
      rw [hp] at hh
      exact zst2_sound hd hh
    | some z =>
      obtain ⟨pc', l', st'⟩ := z
      rw [hp] at hh
      intro ln p e R s m args below meth c0 ad ca tys n0 ad0 ca0 tys0 H locs ls hF hE hw hS hl hn hag
      exact zpl_sound hF.1.1 hF.1.2.1 hl hd hp (fun ls' hl' => hh ln p e R s m args below meth c0 ad ca tys n0 ad0 ca0 tys0 H locs ls' hF hE hw hS hl' hn hag)
/-- what the small machine comes to, the real one comes to -/
theorem zSd_fg : zFg (zSd D z0 ε) := by
  intro al d y pc l l' st h uc us Q hs hh ln p e R s m args below meth c0 ad ca tys n0 ad0 ca0 tys0 H locs ls hF hE hw hS hl hn hag
  refine hh ln p e R s m args below meth c0 ad ca tys n0 ad0 ca0 tys0 H locs ls hF hE hw hS (zhas_mono hl (fun q hq => ?_)) hn hag
  obtain ⟨z, hz, rfl⟩ := List.mem_map.mp hq
  exact List.mem_map.mpr ⟨z, hs z hz, rfl⟩
theorem zsound : zLe (zW ε) (zSd D z0 ε) := zW_le (zSd_mono D z0 ε) zstep_sound zSd_fg
end
