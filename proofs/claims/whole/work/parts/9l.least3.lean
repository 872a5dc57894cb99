/-! the reference: all ways to distribute -/
theorem gd_a1 : ∀ (c r : List Nat) (i : Nat), i < c.length → gd (c ++ r) i = gd c i
  | [], r, i, h => absurd h (Nat.not_lt_zero i)
  | x :: c, r, 0, _ => rfl
  | x :: c, r, i + 1, h => gd_a1 c r i (Nat.lt_of_succ_lt_succ h)
theorem gd_a2 : ∀ (c r : List Nat) (l : Nat), gd (c ++ l :: r) c.length = l
  | [], _, _ => rfl
  | x :: c, r, l => gd_a2 c r l
theorem gd_a3 : ∀ (c : List Nat) (l i : Nat), (∀ j, gd c j ≤ 9) → l ≤ 9 → gd (c ++ [l]) i ≤ 9
  | [], l, 0, _, h => h
  | [], l, i + 1, _, _ => Nat.zero_le 9
  | x :: c, l, 0, h, _ => h 0
  | x :: c, l, i + 1, h, h2 => gd_a3 c l i (fun j => h (j + 1)) h2
section
variable {IF IG IF0 A B A0 B0 : Nat → Nat → Int32} {L p pa ex ey : Nat → Nat} {k t : Nat}
/-- the reference while it tries the ways -/
def lR (IF0 B0 : Nat → Nat → Int32) (L : Nat → Nat) (t : Nat) (u : Option (Nat × List Nat)) (σ : zP) : Prop := (σ.1 32 32 = lv u ∧ (∀ c j, ¬ (c = 32 ∧ (j = 32 ∨ j = 27)) → σ.1 c j = IF0 c j) ∧ ∀ v b, u = some (v, b) → v ≤ 64000000) ∧ (∀ v b, u = some (v, b) → ∀ s, s < 7 → σ.2 50 s = if tr L t 0 ≤ s ∧ s < tr L t 1 then nI (gd b (s - tr L t 0)) else B0 35 (7 * t + s)) ∧ (∀ j, (j < 42 ∨ j = 49) → ¬ j = 35 → σ.2 j = B0 j) ∧ (∀ i, ¬ (7 * t + tr L t 0 ≤ i ∧ i < 7 * t + tr L t 1) → σ.2 35 i = B0 35 i)
def lP (L : Nat → Nat) (t : Nat) (pre : List Nat) (σ : zP) : Prop := ∀ i, i < pre.length → σ.2 35 (7 * t + tr L t 0 + i) = nI (gd pre i)
/-- one segment set -/
def lS (L : Nat → Nat) (t : Nat) (pre : List Nat) (l : Nat) (σ : zP) : zP := (σ.1, va_up σ.2 35 (upd (σ.2 35) (7 * t + (tr L t 0 + pre.length)) (nI l)))
theorem lS_2 {pre : List Nat} {l : Nat} {σ : zP} : (lS L t pre l σ).2 = va_up σ.2 35 (upd (σ.2 35) (7 * t + (tr L t 0 + pre.length)) (nI l)) := rfl
theorem lS_R {u : Option (Nat × List Nat)} {pre : List Nat} {l : Nat} {σ : zP} (hp : tr L t 0 + pre.length < tr L t 1) (hR : lR IF0 B0 L t u σ) : lR IF0 B0 L t u (lS L t pre l σ) := by
  refine ⟨hR.1, fun v b e s hs => ?_, fun j h1 h2 => ?_, fun i hi => ?_⟩
  · rw [lS_2, vu_n (by decide)]
    exact hR.2.1 v b e s hs
  · rw [lS_2, vu_n h2]
    exact hR.2.2.1 j h1 h2
  · rw [lS_2, vu_s, upd_n (by omega)]
    exact hR.2.2.2 i hi
theorem lS_P {pre : List Nat} {l : Nat} {σ : zP} (hP : lP L t pre σ) : lP L t (pre ++ [l]) (lS L t pre l σ) := fun i hi => by
  rw [List.length_append] at hi
  have e : ([l] : List Nat).length = 1 := rfl
  rw [lS_2, vu_s]
  by_cases z : i = pre.length
  · rw [z, Nat.add_assoc, upd_s, gd_a2]
  · rw [upd_n (by omega), hP i (by omega), gd_a1 _ _ _ (by omega)]
theorem lR_leaf (h : Inv L p pa ex ey k) (hc : cH IF A L p pa ex ey k) (hm : mG IG B0 L p pa ex ey k) (ht : t < L 1) {u : Option (Nat × List Nat)} {pre : List Nat} {l : Nat} {σ : zP} (hp : tr L t 0 + pre.length + 1 = tr L t 1) (h9 : ∀ i, gd pre i ≤ 9) (hl : l ≤ 9) (hR : lR IF0 B0 L t u σ) (hP : lP L t pre σ) : lR IF0 B0 L t (stp (lV L p pa ex ey t) u (pre ++ [l])) (mLf L p pa t (tr L t 0 + pre.length) l σ) ∧ lP L t pre (mLf L p pa t (tr L t 0 + pre.length) l σ) := by
  have hL := h.1.1
  have hB := hL.1.2.1
  have hk := hL.1.2.2.2.2.2.1 t ht
  unfold trOk at hk
  have r2 := lS_R (l := l) (pre := pre) (by omega) hR
  have p2 := lS_P (l := l) hP
  have hlen : (pre ++ [l]).length = pre.length + 1 := List.length_append
  have eB : mfA L p pa t (tr L t 0 + pre.length) l σ.2 = mLw L p pa (lS L t pre l σ).2 := rfl
  have h9c : ∀ i, gd (pre ++ [l]) i ≤ 9 := fun i => gd_a3 pre l i h9 hl
  have i2 := exC_i (c := gd (pre ++ [l])) h ht (fun i _ => h9c i)
  have row : ∀ v g, v < L 1 → g < 7 → (lS L t pre l σ).2 35 (7 * v + g) = nI (exC t (tr L t 0) (tr L t 1 - tr L t 0) ex (gd (pre ++ [l])) (8 * v + (g + 1) + 64)) := fun v g hv hg => by
    unfold exC
    by_cases z : 8 * t + tr L t 0 + 65 ≤ 8 * v + (g + 1) + 64 ∧ 8 * v + (g + 1) + 64 < 8 * t + tr L t 0 + 65 + (tr L t 1 - tr L t 0)
    · rw [if_pos z]
      have q := p2 (g - tr L t 0) (by omega)
      rw [show 7 * t + tr L t 0 + (g - tr L t 0) = 7 * v + g by omega] at q
      rw [q]
      congr 2
      omega
    · rw [if_neg z, r2.2.2.2 _ (by omega)]
      exact hm.2.1 v g hv hg
  have m2 : mG IG (lS L t pre l σ).2 L p pa (exC t (tr L t 0) (tr L t 1 - tr L t 0) ex (gd (pre ++ [l]))) ey k := by
    refine ⟨⟨(r2.2.2.1 33 (by omega) (by omega)).trans hm.1.1, (r2.2.2.1 36 (by omega) (by omega)).trans hm.1.2.1, (r2.2.2.1 37 (by omega) (by omega)).trans hm.1.2.2⟩, row, fun v s b hv hg => ?_, hm.2.2.2⟩
    rw [r2.2.2.1 (cond b 40 39) (by cases b <;> decide) (by cases b <;> decide)]
    exact hm.2.2.1 v s b hv hg
  obtain ⟨v1, v2⟩ := vS_m i2 hc m2
  have v1' : mds2 (mLw L p pa (lS L t pre l σ).2) L (L 1) 0 0 = nI (lV L p pa ex ey t (pre ++ [l])) := v1
  have v2' : lV L p pa ex ey t (pre ++ [l]) ≤ 64000000 := v2
  have e35 : ∀ i, mLw L p pa (lS L t pre l σ).2 35 i = (lS L t pre l σ).2 35 i := fun i => by rw [mLw_o (Or.inl (by decide))]
  unfold mLf
  rw [eB, v1']
  have ef : ∀ j, (j < 42 ∨ j = 49) → ¬ j = 35 → mLw L p pa (lS L t pre l σ).2 j = B0 j := fun j h1 h2 => by
    rw [mLw_o (by omega)]
    exact r2.2.2.1 j h1 h2
  have pp : ∀ i, i < pre.length → mLw L p pa (lS L t pre l σ).2 35 (7 * t + tr L t 0 + i) = nI (gd pre i) := fun i hi => by
    rw [e35, p2 i (by omega), gd_a1 _ _ _ hi]
  have keep : ∀ v, v = lV L p pa ex ey t (pre ++ [l]) → lR IF0 B0 L t (some (v, pre ++ [l])) (yU 32 32 (nI v) (yU 32 27 1 σ.1), mfB t (mLw L p pa (lS L t pre l σ).2)) := fun v ev => by
    refine ⟨⟨rfl, fun c j q => ?_, fun v' b' e' => ?_⟩, fun v' b' e' s hs => ?_, fun j h1 h2 => ?_, fun i hi => ?_⟩
    · show yU 32 32 (nI v) (yU 32 27 1 σ.1) c j = _
      rw [yU_n (by omega), yU_n (by omega)]
      exact hR.1.2.1 c j q
    · have q : v = v' := congrArg Prod.fst (Option.some.inj e')
      omega
    · have q : pre ++ [l] = b' := congrArg Prod.snd (Option.some.inj e')
      subst q
      show cp 7 (fun s => mLw L p pa (lS L t pre l σ).2 35 (7 * t + s)) _ s = _
      rw [cp_lt hs]
      show mLw L p pa (lS L t pre l σ).2 35 (7 * t + s) = _
      rw [e35]
      by_cases z : tr L t 0 ≤ s ∧ s < tr L t 1
      · rw [if_pos z]
        have w := p2 (s - tr L t 0) (by omega)
        rw [show 7 * t + tr L t 0 + (s - tr L t 0) = 7 * t + s by omega] at w
        exact w
      · rw [if_neg z]
        exact r2.2.2.2 _ (by omega)
    · show mfB t (mLw L p pa (lS L t pre l σ).2) j = _
      unfold mfB
      rw [vu_n (by omega)]
      exact ef j h1 h2
    · show mfB t (mLw L p pa (lS L t pre l σ).2) 35 i = _
      unfold mfB
      rw [vu_n (by decide), e35]
      exact r2.2.2.2 i hi
  have stay : ∀ v b, u = some (v, b) → lR IF0 B0 L t (some (v, b)) (yU 32 27 1 σ.1, mLw L p pa (lS L t pre l σ).2) := fun v b e => by
    refine ⟨⟨?_, fun c j q => ?_, fun v' b' e' => hR.1.2.2 v' b' (e.trans e')⟩, fun v' b' e' s hs => ?_, ef, fun i hi => ?_⟩
    · show yU 32 27 1 σ.1 32 32 = _
      rw [yU_n (by omega), hR.1.1, e]
    · show yU 32 27 1 σ.1 c j = _
      rw [yU_n (by omega)]
      exact hR.1.2.1 c j q
    · show mLw L p pa (lS L t pre l σ).2 50 s = _
      rw [mLw_o (Or.inr (by decide))]
      exact r2.2.1 v' b' (e.trans e') s hs
    · show mLw L p pa (lS L t pre l σ).2 35 i = _
      rw [e35]
      exact r2.2.2.2 i hi
  have p50 : lP L t pre (yU 32 32 (nI (lV L p pa ex ey t (pre ++ [l]))) (yU 32 27 1 σ.1), mfB t (mLw L p pa (lS L t pre l σ).2)) := fun i hi => by
    show mfB t (mLw L p pa (lS L t pre l σ).2) 35 (7 * t + tr L t 0 + i) = _
    unfold mfB
    rw [vu_n (by decide)]
    exact pp i hi
  have hl0 := hR.1.1
  have hu := hR.1.2.2
  rw [hl0]
  generalize lV L p pa ex ey t = V at v2' keep p50 ⊢
  match u, hu, stay with
  | none, _, _ =>
    rw [if_pos (show lv none = -1 ∨ nI (V (pre ++ [l])) < lv none from Or.inl rfl)]
    exact ⟨keep _ rfl, p50⟩
  | some (w, b), hu, stay =>
    have hw := hu w b rfl
    show lR IF0 B0 L t (if V (pre ++ [l]) < w then some (V (pre ++ [l]), pre ++ [l]) else some (w, b)) _ ∧ _
    by_cases z : V (pre ++ [l]) < w
    · rw [if_pos z, if_pos (show lv (some (w, b)) = -1 ∨ nI (V (pre ++ [l])) < lv (some (w, b)) from Or.inr ((nI_ltI (by omega) (by omega)).mpr z))]
      exact ⟨keep _ rfl, p50⟩
    · rw [if_neg z, if_neg (show ¬ (lv (some (w, b)) = -1 ∨ nI (V (pre ++ [l])) < lv (some (w, b))) from fun q => q.elim (fun q => nI_neg1 (w := w) (by omega) q) (fun q => z ((nI_ltI (a := V (pre ++ [l])) (b := w) (by omega) (by omega)).mp q)))]
      exact ⟨stay w b rfl, pp⟩
theorem lR_tr (h : Inv L p pa ex ey k) (hc : cH IF A L p pa ex ey k) (hm : mG IG B0 L p pa ex ey k) (ht : t < L 1) : ∀ (n : Nat) (pre : List Nat) (l : Nat) (u : Option (Nat × List Nat)) (σ : zP), tr L t 0 + pre.length + n + 1 = tr L t 1 → (∀ i, gd pre i ≤ 9) → l ≤ 9 → lR IF0 B0 L t u σ → lP L t pre σ → lR IF0 B0 L t (((cmps n l).map (fun c => pre ++ c)).foldl (stp (lV L p pa ex ey t)) u) (mTr L p pa t n (tr L t 0 + pre.length) l σ) ∧ lP L t pre (mTr L p pa t n (tr L t 0 + pre.length) l σ) := by
  intro n
  induction n with
  | zero =>
    intro pre l u σ hp h9 hl hR hP
    exact lR_leaf h hc hm ht (by omega) h9 hl hR hP
  | succ n ih =>
    intro pre l u σ hp h9 hl hR hP
    have lp : ∀ (j : Nat) (u : Option (Nat × List Nat)) (σ : zP), j ≤ l + 1 → lR IF0 B0 L t u σ → lP L t pre σ → lR IF0 B0 L t (((cml (cmps n) l j).map (fun c => pre ++ c)).foldl (stp (lV L p pa ex ey t)) u) (mLp (fun k σ => mTr L p pa t n (tr L t 0 + pre.length + 1) (l - k) (σ.1, va_up σ.2 35 (upd (σ.2 35) (7 * t + (tr L t 0 + pre.length)) (nI k)))) j σ) ∧ lP L t pre (mLp (fun k σ => mTr L p pa t n (tr L t 0 + pre.length + 1) (l - k) (σ.1, va_up σ.2 35 (upd (σ.2 35) (7 * t + (tr L t 0 + pre.length)) (nI k)))) j σ) := by
      intro j
      induction j with
      | zero => intro u σ _ hR hP; exact ⟨hR, hP⟩
      | succ j ihj =>
        intro u σ hj hR hP
        have hlen : (pre ++ [j]).length = pre.length + 1 := List.length_append
        have r := ih (pre ++ [j]) (l - j) u (lS L t pre j σ) (by omega) (fun i => gd_a3 pre j i h9 (by omega)) (by omega) (lS_R (by omega) hR) (lS_P hP)
        rw [hlen] at r
        have e1 : ((cml (cmps n) l (j + 1)).map (fun c => pre ++ c)) = ((cmps n (l - j)).map (fun c => (pre ++ [j]) ++ c)) ++ ((cml (cmps n) l j).map (fun c => pre ++ c)) := by
          show ((cmps n (l - j)).map (fun c => j :: c) ++ cml (cmps n) l j).map (fun c => pre ++ c) = _
          rw [List.map_append, List.map_map]
          congr 1
          refine List.map_congr_left (fun c _ => ?_)
          show pre ++ j :: c = (pre ++ [j]) ++ c
          rw [List.append_assoc]
          rfl
        rw [e1, List.foldl_append]
        refine ihj _ _ (by omega) r.1 (fun i hi => ?_)
        have w := r.2 i (by omega)
        rw [gd_a1 _ _ _ hi] at w
        exact w
    exact lp (l + 1) u σ (Nat.le_refl _) hR hP
theorem lR_f (h : Inv L p pa ex ey k) (hc : cH IF A L p pa ex ey k) (hm : mG IG B L p pa ex ey k) (ht : t < L 1) {m : Nat} (hm6 : m < 6) : lR IF0 (va_up B 49 (cp 7 (fun s => B 35 (7 * t + s)) (B 49))) L t ((cmps (tr L t 1 - tr L t 0 - 1) m).foldl (stp (lV L p pa ex ey t)) none) (mFn L p pa t m IF0 B) := by
  have hL := h.1.1
  have hB := hL.1.2.1
  have hk := hL.1.2.2.2.2.2.1 t ht
  unfold trOk at hk
  have m2 : mG IG (va_up B 49 (cp 7 (fun s => B 35 (7 * t + s)) (B 49))) L p pa ex ey k := mG_f2 hm rfl rfl rfl rfl rfl rfl rfl
  have r := lR_tr (IF0 := IF0) (B0 := va_up B 49 (cp 7 (fun s => B 35 (7 * t + s)) (B 49))) h hc m2 ht (tr L t 1 - 1 - tr L t 0) [] m none (yU 32 32 (-1) IF0, va_up B 49 (cp 7 (fun s => B 35 (7 * t + s)) (B 49))) (by have : ([] : List Nat).length = 0 := rfl; omega) (fun i => Nat.zero_le _) (by omega) ⟨⟨rfl, fun c j q => yU_n (by omega), fun v b e => (nomatch e)⟩, fun v b e => (nomatch e), fun _ _ _ => rfl, fun _ _ => rfl⟩ (fun i hi => absurd hi (Nat.not_lt_zero i))
  rw [show tr L t 1 - 1 - tr L t 0 = tr L t 1 - tr L t 0 - 1 by omega] at r
  have e : (cmps (tr L t 1 - tr L t 0 - 1) m).map (fun c => [] ++ c) = cmps (tr L t 1 - tr L t 0 - 1) m := List.map_id _
  rw [e] at r
  unfold mFn
  rw [show tr L t 1 - 1 - tr L t 0 = tr L t 1 - tr L t 0 - 1 by omega]
  exact r.1
theorem fold_s {V : List Nat → Nat} : ∀ (ls : List (List Nat)) (u : Option (Nat × List Nat)), (∃ v b, u = some (v, b)) → ∃ v b, ls.foldl (stp V) u = some (v, b)
  | [], u, h => h
  | c :: ls, u, h => by
    obtain ⟨v, b, rfl⟩ := h
    refine fold_s ls _ ?_
    by_cases z : V c < v
    · exact ⟨V c, c, if_pos z⟩
    · exact ⟨v, b, if_neg z⟩
theorem fold_m {V : List Nat → Nat} {n m : Nat} (hn : n < 7) (hm : m < 6) : ∃ v b, (cmps n m).foldl (stp V) none = some (v, b) := by
  have q := cm_chk n hn m hm
  generalize cmps n m = ls at q ⊢
  rw [Bool.and_eq_true, Bool.and_eq_true, Bool.and_eq_true] at q
  match ls, q with
  | [], q => exact Bool.noConfusion q.2.2.2
  | c :: ls, _ => exact fold_s ls _ ⟨V c, c, rfl⟩
end
