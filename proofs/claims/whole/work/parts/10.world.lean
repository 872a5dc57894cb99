/-! the pure heap as a world of cells -/
def zv (ad : Nat → Nat) : Value → Value
  | .ref k => .ref (ad k)
  | v => v
def zvl (ad : Nat → Nat) (l : zL) : zL := l.map (fun q => (q.1, zv ad q.2))
def zE (ad : Nat → Nat) (ca : Nat → ClassId) (h : zH) (k : Nat) (t : Nat × Nat) : va_E := match t with
  | (0, c) => .inr (c, (List.range (zNF c)).map (fun j => cond (zfi c j) (.int (h.2.2.1 k j)) (zv ad (h.2.1 k j))))
  | (1, n) => .inl (ca k, n, .inl (h.2.2.2.1 k))
  | (2, n) => .inl (ca k, n, .inl (h.2.2.2.1 k))
  | (3, n) => .inl (ca k, n, .inl (h.2.2.2.1 k))
  | (4, n) => .inl (ca k, n, .inr (.inl (h.2.2.2.2.1 k)))
  | (_, n) => .inl (ca k, n, .inr (.inr (.inr (.inl (h.2.2.2.2.2 k)))))
def zw (ad : Nat → Nat) (ca : Nat → ClassId) (h : zH) : va_W := h.1.mapIdx (fun k t => (ad k, zE ad ca h k t))
theorem zv_cat (ad : Nat → Nat) (v : Value) : (zv ad v).category = v.category := by cases v <;> rfl
theorem zv_sum (ad : Nat → Nat) (r : List Value) : ((r.map (zv ad)).map fun v => v.category).sum = (r.map fun v => v.category).sum := by
  rw [List.map_map]
  congr 1
  exact List.map_congr_left (fun v _ => zv_cat ad v)
theorem zw_get {ad : Nat → Nat} {ca : Nat → ClassId} {h : zH} {k : Nat} {t : Nat × Nat} (hk : h.1[k]? = some t) : (zw ad ca h)[k]? = some (ad k, zE ad ca h k t) := by
  unfold zw
  rw [List.getElem?_mapIdx, hk]
  rfl
theorem zw_set {ad : Nat → Nat} {ca : Nat → ClassId} {h h' : zH} {k : Nat} {t : Nat × Nat} (hk : h.1[k]? = some t) (h1 : h'.1 = h.1) (ho : ∀ j t, j ≠ k → zE ad ca h' j t = zE ad ca h j t) : (zw ad ca h).set k (ad k, zE ad ca h' k t) = zw ad ca h' := by
  apply List.ext_getElem?
  intro i
  rw [List.getElem?_set]
  have hlen : k < (zw ad ca h).length := by
    unfold zw
    rw [List.length_mapIdx]
    exact (List.getElem?_eq_some_iff.mp hk).1
  by_cases hik : k = i
  · subst hik
    rw [if_pos rfl, if_pos hlen]
    exact (zw_get (by rw [h1]; exact hk)).symm
  · rw [if_neg hik]
    unfold zw
    rw [List.getElem?_mapIdx, List.getElem?_mapIdx, h1]
    cases h.1[i]? with
    | none => rfl
    | some t => exact congrArg some (congrArg (Prod.mk (ad i)) (ho i t (fun q => hik q.symm)).symm)
theorem zup_ne {α : Type} {f : Nat → α} {k j : Nat} {v : α} (h : j ≠ k) : va_up f k v j = f j := if_neg h
theorem zup_eq {α : Type} {f : Nat → α} {k : Nat} {v : α} : va_up f k v k = v := if_pos rfl
theorem zE_I {ad : Nat → Nat} {ca : Nat → ClassId} {h : zH} {k i : Nat} {x : Int32} : ∀ j t, j ≠ k → zE ad ca (zpI h k i x) j t = zE ad ca h j t := by
  intro j t hj
  obtain ⟨a, b⟩ := t
  unfold zE zpI
  dsimp only
  split <;> simp only [zup_ne hj]
theorem zE_R {ad : Nat → Nat} {ca : Nat → ClassId} {h : zH} {k i : Nat} {x : Value} : ∀ j t, j ≠ k → zE ad ca (zpR h k i x) j t = zE ad ca h j t := by
  intro j t hj
  obtain ⟨a, b⟩ := t
  unfold zE zpR
  dsimp only
  split <;> simp only [zup_ne hj]
theorem zE_A {ad : Nat → Nat} {ca : Nat → ClassId} {h : zH} {k : Nat} {f : Nat → Int32} : ∀ j t, j ≠ k → zE ad ca (zpA h k f) j t = zE ad ca h j t := by
  intro j t hj
  obtain ⟨a, b⟩ := t
  unfold zE zpA
  dsimp only
  split <;> simp only [zup_ne hj]
theorem zE_L {ad : Nat → Nat} {ca : Nat → ClassId} {h : zH} {k : Nat} {f : Nat → Int64} : ∀ j t, j ≠ k → zE ad ca (zpL h k f) j t = zE ad ca h j t := by
  intro j t hj
  obtain ⟨a, b⟩ := t
  unfold zE zpL
  dsimp only
  split <;> simp only [zup_ne hj]
theorem zE_D {ad : Nat → Nat} {ca : Nat → ClassId} {h : zH} {k : Nat} {f : Nat → UInt64} : ∀ j t, j ≠ k → zE ad ca (zpD h k f) j t = zE ad ca h j t := by
  intro j t hj
  obtain ⟨a, b⟩ := t
  unfold zE zpD
  dsimp only
  split <;> simp only [zup_ne hj]
/-- an object's fields, one of them read, one written -/
theorem zfs_get {ad : Nat → Nat} {h : zH} {k c j : Nat} (hj : j < zNF c) : ((List.range (zNF c)).map (fun j => cond (zfi c j) (Value.int (h.2.2.1 k j)) (zv ad (h.2.1 k j))))[j]? = some (cond (zfi c j) (Value.int (h.2.2.1 k j)) (zv ad (h.2.1 k j))) := by
  rw [List.getElem?_map, List.getElem?_range hj]
  rfl
theorem zrg_set {α : Type} {n j : Nat} {f g : Nat → α} {v : α} (hj : g j = v) (hne : ∀ i, i ≠ j → g i = f i) : ((List.range n).map f).set j v = (List.range n).map g := by
  apply List.ext_getElem?
  intro i
  rw [List.getElem?_set]
  by_cases hji : j = i
  · subst hji
    rw [if_pos rfl]
    by_cases hl : j < n
    · rw [if_pos (by simpa using hl), List.getElem?_map, List.getElem?_range hl, ← hj]
      rfl
    · rw [if_neg (by simpa using hl), List.getElem?_eq_none (by simpa using hl)]
  · rw [if_neg hji, List.getElem?_map, List.getElem?_map]
    by_cases hl : i < n
    · rw [List.getElem?_range hl]
      exact congrArg some (hne i (fun q => hji q.symm)).symm
    · rw [List.getElem?_eq_none (by simpa using hl)]
      rfl
theorem zfs_setI {ad : Nat → Nat} {h : zH} {k c j : Nat} {x : Int32} (hj : zfi c j = true) : ((List.range (zNF c)).map (fun j => cond (zfi c j) (Value.int (h.2.2.1 k j)) (zv ad (h.2.1 k j)))).set j (.int x) = (List.range (zNF c)).map (fun i => cond (zfi c i) (Value.int ((zpI h k j x).2.2.1 k i)) (zv ad ((zpI h k j x).2.1 k i))) := by
  refine zrg_set (by simp [hj, zpI, va_up, upd]) (fun i hi => ?_)
  simp [zpI, va_up, upd, hi]
theorem zfs_setR {ad : Nat → Nat} {h : zH} {k c j : Nat} {x : Value} (hj : zfi c j = false) : ((List.range (zNF c)).map (fun j => cond (zfi c j) (Value.int (h.2.2.1 k j)) (zv ad (h.2.1 k j)))).set j (zv ad x) = (List.range (zNF c)).map (fun i => cond (zfi c i) (Value.int ((zpR h k j x).2.2.1 k i)) (zv ad ((zpR h k j x).2.1 k i))) := by
  refine zrg_set (by simp [hj, zpR, va_up]) (fun i hi => ?_)
  simp [zpR, va_up, hi]
/-- references that stand keep their cells -/
theorem zv_ok {ad ad' : Nat → Nat} {n : Nat} {v : Value} (ha : ∀ k, k < n ∨ 1000 ≤ k → ad' k = ad k) (h : zok n v = true) : zv ad' v = zv ad v := by
  cases v <;> try rfl
  rename_i k
  unfold zok at h
  have hk : k < n ∨ 1000 ≤ k := by
    rcases Bool.or_eq_true_iff.mp h with q | q
    · exact Or.inl (Nat.le_of_ble_eq_true q)
    · exact Or.inr (Nat.le_of_ble_eq_true q)
  exact congrArg Value.ref (ha k hk)
theorem zv_oks {ad ad' : Nat → Nat} {n : Nat} {l : zL} {st : List Value} (ha : ∀ k, k < n ∨ 1000 ≤ k → ad' k = ad k) (h : zoks n l st = true) : zvl ad' l = zvl ad l ∧ st.map (zv ad') = st.map (zv ad) := by
  unfold zoks at h
  obtain ⟨h1, h2⟩ := Bool.and_eq_true_iff.mp h
  refine ⟨List.map_congr_left (fun q hq => ?_), List.map_congr_left (fun v hv => zv_ok ha (List.all_eq_true.mp h2 v hv))⟩
  rw [zv_ok ha (List.all_eq_true.mp h1 q hq)]
theorem zE_ok {ad ad' : Nat → Nat} {ca ca' : Nat → ClassId} {h : zH} {k : Nat} {t : Nat × Nat} (ha : ∀ k, k < h.1.length ∨ 1000 ≤ k → ad' k = ad k) (hc : ca' k = ca k) (ho : zokh h = true) (hk : h.1[k]? = some t) : zE ad' ca' h k t = zE ad ca h k t := by
  obtain ⟨a, b⟩ := t
  have hlt : k < h.1.length := (List.getElem?_eq_some_iff.mp hk).1
  have h1 := List.all_eq_true.mp ho k (List.mem_range.mpr hlt)
  rw [hk] at h1
  unfold zE
  split
  · rename_i c heq
    cases heq
    refine congrArg (fun z => Sum.inr (_, z)) (List.map_congr_left (fun j hj => ?_))
    rw [zv_ok ha (List.all_eq_true.mp h1 j hj)]
  all_goals rw [hc]
theorem zw_ok {ad ad' : Nat → Nat} {ca ca' : Nat → ClassId} {h : zH} (ha : ∀ k, k < h.1.length ∨ 1000 ≤ k → ad' k = ad k) (hc : ∀ k, k < h.1.length → ca' k = ca k) (ho : zokh h = true) : zw ad' ca' h = zw ad ca h := by
  apply List.ext_getElem?
  intro i
  unfold zw
  rw [List.getElem?_mapIdx, List.getElem?_mapIdx]
  cases hi : h.1[i]? with
  | none => rfl
  | some t =>
    have hlt : i < h.1.length := (List.getElem?_eq_some_iff.mp hi).1
    exact congrArg some (by dsimp only; rw [zE_ok ha (hc i hlt) ho hi, ha i (Or.inl hlt)])
/-- a cell more -/
theorem zw_app {ad : Nat → Nat} {ca : Nat → ClassId} {h h' : zH} {t : Nat × Nat} (h1 : h'.1 = h.1 ++ [t]) (ho : ∀ j t, j < h.1.length → zE ad ca h' j t = zE ad ca h j t) : zw ad ca h' = zw ad ca h ++ [(ad h.1.length, zE ad ca h' h.1.length t)] := by
  unfold zw
  rw [h1, List.mapIdx_concat]
  congr 1
  apply List.ext_getElem?
  intro i
  rw [List.getElem?_mapIdx, List.getElem?_mapIdx]
  cases hi : h.1[i]? with
  | none => rfl
  | some t2 =>
    exact congrArg some (by dsimp only; rw [ho i t2 (List.getElem?_eq_some_iff.mp hi).1])
theorem zE_O {ad : Nat → Nat} {ca : Nat → ClassId} {h : zH} {c : Nat} : ∀ j t, j < h.1.length → zE ad ca (zpO h c) j t = zE ad ca h j t := by
  intro j t hj
  have hne : j ≠ h.1.length := by omega
  obtain ⟨a, b⟩ := t
  unfold zE zpO
  dsimp only
  split <;> simp only [zup_ne hne]
theorem zE_N {ad : Nat → Nat} {ca : Nat → ClassId} {h : zH} {t0 n0 : Nat} : ∀ j t, j < h.1.length → zE ad ca (zpN h t0 n0) j t = zE ad ca h j t := by
  intro j t hj
  have hne : j ≠ h.1.length := by omega
  obtain ⟨a, b⟩ := t
  unfold zE zpN
  dsimp only
  split <;> simp only [zup_ne hne]
theorem zvl_args (ad : Nat → Nat) : ∀ (as : List Value) (i : Nat), lv_args i (as.map (zv ad)) = zvl ad (lv_args i as)
  | [], _ => rfl
  | v :: r, i => by
    show (i, zv ad v) :: lv_args (if (zv ad v).category = 2 then i + 2 else i + 1) (r.map (zv ad)) = (i, zv ad v) :: zvl ad (lv_args (if v.category = 2 then i + 2 else i + 1) r)
    rw [zv_cat, zvl_args ad r]
