/-! instructions on locals and stack -/
theorem zin_mem {q a : Nat × Value} : ∀ {L : zL}, q ∈ zin a L → q = a ∨ q ∈ L
  | [], h => Or.inl (List.mem_singleton.mp h)
  | p :: r, h => by
    unfold zin at h
    cases hb : Nat.ble a.1 p.1 with
    | true =>
      rw [hb] at h
      exact List.mem_cons.mp h
    | false =>
      rw [hb] at h
      rcases List.mem_cons.mp h with h | h
      · exact Or.inr (h ▸ List.mem_cons_self)
      · rcases zin_mem h with h | h
        · exact Or.inl h
        · exact Or.inr (List.mem_cons_of_mem _ h)
theorem zhas_mono {ls : Array Slot} {n : Nat} {L L' : zL} (h : lv_has ls n L) (hs : ∀ q ∈ L', q ∈ L) : lv_has ls n L' := ⟨h.1, h.2.1, fun q hq => h.2.2 q (hs q hq)⟩
theorem zlg_mem : ∀ {l : zL} {i : Nat} {v : Value}, zlg l i = some v → (i, v) ∈ l
  | [], _, _, h => by cases h
  | q :: r, i, v, h => by
    unfold zlg at h
    cases hb : Nat.beq q.1 i with
    | true =>
      rw [hb] at h
      cases h
      have e := Nat.eq_of_beq_eq_true hb
      exact List.mem_cons.mpr (Or.inl (by rw [← e]))
    | false =>
      rw [hb] at h
      exact List.mem_cons_of_mem _ (zlg_mem h)
theorem zlg_memv {ad : Nat → Nat} {l : zL} {i : Nat} {v : Value} (h : zlg l i = some v) : (i, zv ad v) ∈ zvl ad l := List.mem_map.mpr ⟨(i, v), zlg_mem h, rfl⟩
theorem zlg_at {ad : Nat → Nat} {ls : Array Slot} {n : Nat} {l : zL} {i : Nat} {v : Value} (hl : lv_has ls n (zvl ad l)) (h : zlg l i = some v) : ls[i]? = some (.val (zv ad v)) := hl.2.2 _ (zlg_memv h)
theorem zfil_mem {i : Nat} {q : Nat × Value} : ∀ {l : zL}, q ∈ zfil i l → q ∈ l ∧ q.1 ≠ i ∧ ¬ (q.1 + 1 = i ∧ q.2.category = 2)
  | [], h => absurd h List.not_mem_nil
  | p :: r, h => by
    unfold zfil at h
    cases hb : (Nat.beq p.1 i || (Nat.beq (p.1 + 1) i && Nat.beq p.2.category 2)) with
    | true =>
      rw [hb] at h
      have h2 := zfil_mem (l := r) h
      exact ⟨List.mem_cons_of_mem _ h2.1, h2.2⟩
    | false =>
      rw [hb] at h
      rcases List.mem_cons.mp h with rfl | h
      · obtain ⟨h1, h2⟩ := Bool.or_eq_false_iff.mp hb
        refine ⟨List.mem_cons_self, fun e => ?_, fun e => ?_⟩
        · rw [e, Nat.beq_refl] at h1; cases h1
        · rw [e.1, e.2] at h2
          rw [Nat.beq_refl] at h2
          cases h2
      · have h2 := zfil_mem (l := r) h
        exact ⟨List.mem_cons_of_mem _ h2.1, h2.2⟩
theorem zls_has {ad : Nat → Nat} {ls : Array Slot} {n : Nat} {l : zL} {i : Nat} {v : Value} (h : lv_has ls n ((i, zv ad v) :: (zvl ad l).filter (fun q => !(q.1 == i) && !(q.1 + 1 == i && q.2.category == 2)))) : lv_has ls n (zvl ad (zls l i v)) := by
  refine zhas_mono h (fun q hq => ?_)
  obtain ⟨z, hz, rfl⟩ := List.mem_map.mp hq
  rcases zin_mem hz with h | h
  · subst h; exact List.mem_cons_self
  · obtain ⟨h1, h2, h3⟩ := zfil_mem h
    refine List.mem_cons_of_mem _ (List.mem_filter.mpr ⟨List.mem_map.mpr ⟨z, h1, rfl⟩, ?_⟩)
    dsimp only
    rw [zv_cat]
    simp only [Bool.and_eq_true, Bool.not_eq_true', beq_eq_false_iff_ne, ne_eq, Bool.and_eq_false_iff]
    refine ⟨h2, ?_⟩
    by_cases e : z.1 + 1 = i
    · exact Or.inr (fun e2 => h3 ⟨e, e2⟩)
    · exact Or.inl e
theorem zls2_has {ad : Nat → Nat} {ls : Array Slot} {n : Nat} {l : zL} {i : Nat} {v : Value} (h : lv_has ls n ((i, zv ad v) :: (zvl ad l).filter (fun q => !(q.1 == i) && (!(q.1 == i + 1) && !(q.1 + 1 == i && q.2.category == 2))))) : lv_has ls n (zvl ad (zls2 l i v)) := by
  refine zhas_mono h (fun q hq => ?_)
  obtain ⟨z, hz, rfl⟩ := List.mem_map.mp hq
  rcases zin_mem hz with h | h
  · subst h; exact List.mem_cons_self
  · obtain ⟨h1, h2, h3⟩ := zfil_mem h
    obtain ⟨h4, h5, -⟩ := zfil_mem h1
    refine List.mem_cons_of_mem _ (List.mem_filter.mpr ⟨List.mem_map.mpr ⟨z, h4, rfl⟩, ?_⟩)
    dsimp only
    rw [zv_cat]
    simp only [Bool.and_eq_true, Bool.not_eq_true', beq_eq_false_iff_ne, ne_eq, Bool.and_eq_false_iff]
    refine ⟨h2, h5, ?_⟩
    by_cases e : z.1 + 1 = i
    · exact Or.inr (fun e2 => h3 ⟨e, e2⟩)
    · exact Or.inl e
theorem zcs {α : Type} {b : Bool} {x y : α} (h : cond b (some x) none = some y) : b = true ∧ x = y := by
  cases b with
  | true => exact ⟨rfl, Option.some.inj h⟩
  | false => cases h
theorem zan {a b : Bool} (h : (a && b) = true) : a = true ∧ b = true := Bool.and_eq_true_iff.mp h
theorem ztk_eq {pc : Nat} {off : Int} (h : ztk pc off = true) : (pc : Int) + off = (zt pc off : Int) := by
  have h1 : 0 ≤ (pc : Int) + off := of_decide_eq_true h
  exact (Int.toNat_of_nonneg h1).symm
section
variable {p : Program} {ln : Launch} {e : Env} {R : Room} {s : State} {m : MethodId} {args : Array Value} {below : List Frame} {meth : Method} {c : Code} {H : Heap} {locs : List Loc} {cells slots : Nat} {Q : State → Prop}
set_option maxHeartbeats 4000000 in
theorem zpl_sound {cc : ByteArray} (hx : p.tables.exec = Jvm.exec) (hb : c.code = cc) {nL len pc pc' : Nat} {i : Instr} {l l' : zL} {st st' : List Value} {ad : Nat → Nat} {ls : Array Slot} (hl : lv_has ls nL (zvl ad l)) (hd : decode cc pc = .ok (i, len)) (hp : zpl nL i len pc l st = some (pc', l', st'))
    (kk : ∀ ls' : Array Slot, lv_has ls' nL (zvl ad l') → W p ln e R s m args below meth c H locs cells slots Q (F0 m pc' ls' (st'.map (zv ad)))) : W p ln e R s m args below meth c H locs cells slots Q (F0 m pc ls (st.map (zv ad))) := by
  unfold zpl at hp
  split at hp
  · -- iconst
    obtain ⟨h1, h2⟩ := zcs hp
    cases h2
    cases Nat.eq_of_beq_eq_true h1
    exact lv_iconst hx hb hd rfl (kk _ hl)
  · -- bipush
    obtain ⟨h1, h2⟩ := zcs hp
    cases h2
    cases Nat.eq_of_beq_eq_true h1
    exact lv_bipush hx hb hd rfl (kk _ hl)
  · -- sipush
    obtain ⟨h1, h2⟩ := zcs hp
    cases h2
    cases Nat.eq_of_beq_eq_true h1
    exact lv_sipush hx hb hd rfl (kk _ hl)
  · -- lconst
    obtain ⟨h1, h2⟩ := zcs hp
    cases h2
    cases Nat.eq_of_beq_eq_true h1
    exact lv_lconst hx hb hd rfl (kk _ hl)
  · -- dconst
    rename_i n
    obtain ⟨h1, h2⟩ := zcs hp
    cases h2
    obtain ⟨h1, h3⟩ := zan h1
    cases Nat.eq_of_beq_eq_true h1
    have hn : n = (0 : Fin 2) := Fin.ext (Nat.eq_of_beq_eq_true h3)
    subst hn
    exact lv_dconst0 hx hb hd (kk _ hl)
  · -- iload_n
    split at hp
    · rename_i x hg
      obtain ⟨h1, h2⟩ := zcs hp
      cases h2
      cases Nat.eq_of_beq_eq_true h1
      exact lv_iload_n hx hb hd rfl (zlg_at (ad := ad) hl hg) (kk _ hl)
    · cases hp
  · -- iload
    split at hp
    · rename_i x hg
      obtain ⟨h1, h2⟩ := zcs hp
      cases h2
      cases Nat.eq_of_beq_eq_true h1
      exact lv_iload hx hb hd (zlg_at (ad := ad) hl hg) (kk _ hl)
    · cases hp
  · -- aload_n
    split at hp
    · rename_i x hg
      obtain ⟨h1, h2⟩ := zcs hp
      cases h2
      cases Nat.eq_of_beq_eq_true h1
      exact lv_aload_n hx hb hd rfl (zlg_at (ad := ad) hl hg) (kk _ hl)
    · cases hp
  · -- aload
    split at hp
    · rename_i x hg
      obtain ⟨h1, h2⟩ := zcs hp
      cases h2
      cases Nat.eq_of_beq_eq_true h1
      exact lv_aload hx hb hd (zlg_at (ad := ad) hl hg) (kk _ hl)
    · cases hp
  · -- dload
    split at hp
    · rename_i x hg
      obtain ⟨h1, h2⟩ := zcs hp
      cases h2
      cases Nat.eq_of_beq_eq_true h1
      exact lv_dload hx hb hd (zlg_at (ad := ad) hl hg) (kk _ hl)
    · cases hp
  · -- istore_n
    split at hp
    · obtain ⟨h1, h2⟩ := zcs hp
      cases h2
      obtain ⟨h1, h3⟩ := zan h1
      cases Nat.eq_of_beq_eq_true h1
      exact lv_istore_n hx hb hd rfl hl (Nat.le_of_ble_eq_true h3) rfl (fun ls' hl' => kk ls' (zls_has (ad := ad) hl'))
    · cases hp
  · -- istore
    split at hp
    · obtain ⟨h1, h2⟩ := zcs hp
      cases h2
      obtain ⟨h1, h3⟩ := zan h1
      cases Nat.eq_of_beq_eq_true h1
      exact lv_istore hx hb hd hl (Nat.le_of_ble_eq_true h3) rfl (fun ls' hl' => kk ls' (zls_has (ad := ad) hl'))
    · cases hp
  · -- astore_n
    split at hp
    · obtain ⟨h1, h2⟩ := zcs hp
      cases h2
      obtain ⟨h1, h3⟩ := zan h1
      cases Nat.eq_of_beq_eq_true h1
      exact lv_astore_n hx hb hd rfl hl (Nat.le_of_ble_eq_true h3) rfl (fun ls' hl' => kk ls' (zls_has (ad := ad) hl'))
    · cases hp
  · -- astore
    split at hp
    · obtain ⟨h1, h2⟩ := zcs hp
      cases h2
      obtain ⟨h1, h3⟩ := zan h1
      cases Nat.eq_of_beq_eq_true h1
      exact lv_astore hx hb hd hl (Nat.le_of_ble_eq_true h3) rfl (fun ls' hl' => kk ls' (zls_has (ad := ad) hl'))
    · cases hp
  · -- dstore
    split at hp
    · obtain ⟨h1, h2⟩ := zcs hp
      cases h2
      obtain ⟨h1, h3⟩ := zan h1
      cases Nat.eq_of_beq_eq_true h1
      exact lv_dstore hx hb hd hl (Nat.le_of_ble_eq_true h3) rfl (fun ls' hl' => kk ls' (zls2_has (ad := ad) hl'))
    · cases hp
  · -- iinc
    split at hp
    · rename_i x hg
      obtain ⟨h1, h2⟩ := zcs hp
      cases h2
      obtain ⟨h1, h3⟩ := zan h1
      cases Nat.eq_of_beq_eq_true h1
      obtain ⟨q, hq⟩ := List.getElem?_of_mem (zlg_memv (ad := ad) hg)
      exact lv_iinc hx hb hd hl hq rfl (Nat.le_of_ble_eq_true h3) rfl (fun ls' hl' => kk ls' (zls_has (ad := ad) hl'))
    · cases hp
  · -- iadd
    split at hp
    · obtain ⟨h1, h2⟩ := zcs hp
      cases h2
      cases Nat.eq_of_beq_eq_true h1
      exact lv_iadd hx hb hd (kk _ hl)
    · cases hp
  · -- isub
    split at hp
    · obtain ⟨h1, h2⟩ := zcs hp
      cases h2
      cases Nat.eq_of_beq_eq_true h1
      exact lv_isub hx hb hd (kk _ hl)
    · cases hp
  · -- imul
    split at hp
    · obtain ⟨h1, h2⟩ := zcs hp
      cases h2
      cases Nat.eq_of_beq_eq_true h1
      exact lv_imul hx hb hd (kk _ hl)
    · cases hp
  · -- iand
    split at hp
    · obtain ⟨h1, h2⟩ := zcs hp
      cases h2
      cases Nat.eq_of_beq_eq_true h1
      exact lv_iand hx hb hd (kk _ hl)
    · cases hp
  · -- ior
    split at hp
    · obtain ⟨h1, h2⟩ := zcs hp
      cases h2
      cases Nat.eq_of_beq_eq_true h1
      exact lv_ior hx hb hd (kk _ hl)
    · cases hp
  · -- ishl
    split at hp
    · obtain ⟨h1, h2⟩ := zcs hp
      cases h2
      cases Nat.eq_of_beq_eq_true h1
      exact lv_ishl hx hb hd (kk _ hl)
    · cases hp
  · -- ishr
    split at hp
    · obtain ⟨h1, h2⟩ := zcs hp
      cases h2
      cases Nat.eq_of_beq_eq_true h1
      exact lv_ishr hx hb hd (kk _ hl)
    · cases hp
  · -- iushr
    split at hp
    · obtain ⟨h1, h2⟩ := zcs hp
      cases h2
      cases Nat.eq_of_beq_eq_true h1
      exact lv_iushr hx hb hd rfl (kk _ hl)
    · cases hp
  · -- i2l
    split at hp
    · obtain ⟨h1, h2⟩ := zcs hp
      cases h2
      cases Nat.eq_of_beq_eq_true h1
      exact lv_i2l hx hb hd rfl (kk _ hl)
    · cases hp
  · -- i2b
    split at hp
    · obtain ⟨h1, h2⟩ := zcs hp
      cases h2
      cases Nat.eq_of_beq_eq_true h1
      exact lv_i2b hx hb hd rfl (kk _ hl)
    · cases hp
  · -- i2d
    split at hp
    · obtain ⟨h1, h2⟩ := zcs hp
      cases h2
      cases Nat.eq_of_beq_eq_true h1
      exact lv_i2d hx hb hd (kk _ hl)
    · cases hp
  · -- lcmp
    split at hp
    · obtain ⟨h1, h2⟩ := zcs hp
      cases h2
      cases Nat.eq_of_beq_eq_true h1
      exact W.lcmp hx hb hd (kk _ hl)
    · cases hp
  · -- dcmp
    split at hp
    · obtain ⟨h1, h2⟩ := zcs hp
      cases h2
      cases Nat.eq_of_beq_eq_true h1
      exact lv_dcmp hx hb hd (kk _ hl)
    · cases hp
  · -- dup
    split at hp
    · obtain ⟨h1, h2⟩ := zcs hp
      cases h2
      obtain ⟨h1, h3⟩ := zan h1
      cases Nat.eq_of_beq_eq_true h1
      exact lv_dup hx hb hd ((zv_cat ad _).trans (Nat.eq_of_beq_eq_true h3)) (kk _ hl)
    · cases hp
  · -- dup2
    split at hp
    · obtain ⟨h1, h2⟩ := zcs hp
      cases h2
      obtain ⟨h1, h3⟩ := zan h1
      obtain ⟨h3, h4⟩ := zan h3
      cases Nat.eq_of_beq_eq_true h1
      exact lv_dup2_11 hx hb hd ((zv_cat ad _).trans (Nat.eq_of_beq_eq_true h3)) ((zv_cat ad _).trans (Nat.eq_of_beq_eq_true h4)) (kk _ hl)
    · cases hp
  · -- pop
    split at hp
    · obtain ⟨h1, h2⟩ := zcs hp
      cases h2
      obtain ⟨h1, h3⟩ := zan h1
      cases Nat.eq_of_beq_eq_true h1
      exact lv_pop hx hb hd ((zv_cat ad _).trans (Nat.eq_of_beq_eq_true h3)) (kk _ hl)
    · cases hp
  · -- goto
    obtain ⟨h1, h2⟩ := zcs hp
    cases h2
    obtain ⟨h1, h3⟩ := zan h1
    cases Nat.eq_of_beq_eq_true h1
    exact lv_goto hx hb hd (ztk_eq h3) (kk _ hl)
  · cases hp
end
