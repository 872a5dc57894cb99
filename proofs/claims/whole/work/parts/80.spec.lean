/-! one value for both sides: the times as numbers -/
section
variable (L p fl ex : Nat → Nat) (pl : Bool)
def gI (T : Nat → Nat) (t s : Nat) (b : Bool) : Nat := cond b (T (8 * t + (s - 1)) + L (13 + (s - 1)) * tr L t 3 + ex (8 * t + s + 64)) (if s = tr L t 0 then fl (8 * t + s) + ex (8 * t + s) else T (8 * t + s + 64) + tr L t 4 + ex (8 * t + s))
def gH (T : Nat → Nat) (t s : Nat) (b : Bool) : Nat := match gB L p (cond b (s - 1) s) t with
  | none => 0
  | some o => T (8 * o + s + cond b 64 0) + L 3
def gP (T : Nat → Nat) (t s : Nat) : Nat := if L (5 + s) = 1 then 0 else match gB L p (s - 1) t with
  | none => 0
  | some o => cond (gD L o s) (T (8 * o + s) + L 3) 0
def gW (T : Nat → Nat) (c : Nat) : Bool := pl || decide (T (8 * lk L c 0 + lk L c 2 + 64) + lk L c 3 ≤ fl (8 * lk L c 1 + lk L c 2) + L 4)
def gCn (T : Nat → Nat) (t s : Nat) : Nat → Nat → Nat → Nat
  | 0, _, v => v
  | n + 1, c, v => gCn T t s n (c + 1) (if lk L c 1 = t ∧ lk L c 2 = s ∧ gW L fl pl T c = true then max v (T (8 * lk L c 0 + s + 64) + lk L c 3) else v)
def gF (T : Nat → Nat) (t s : Nat) (b : Bool) : Nat := max (max (max (fl (8 * t + s + cond b 64 0)) (gI L fl ex T t s b)) (gH L p T t s b)) (cond b (gP L p T t s) (gCn L fl pl T t s (L 2) 0 0))
end
def gQ (L p : Nat → Nat) (g t : Nat) : Nat := gPos p g t (L 1) 0
/-- the number of an event in the order in which the times are laid -/
def rk (L p : Nat → Nat) (t s : Nat) (b : Bool) : Nat := if L (5 + s) = 1 then 32 * s + cond b (gQ L p (s - 1) t) (16 + gQ L p s t) else 32 * s + 2 * gQ L p (s - 1) t + cond b 0 1
/-- orders: each train once on every segment; nobody overtakes at a plain station -/
def pOrd (L p : Nat → Nat) : Prop := (∀ g, g < L 0 - 1 → ∀ i, i < L 1 → p (8 * g + i) < L 1) ∧ (∀ g, g < L 0 - 1 → ∀ i j, i < L 1 → j < L 1 → p (8 * g + i) = p (8 * g + j) → i = j) ∧ (∀ g, g < L 0 - 1 → ∀ t, t < L 1 → ∃ i, i < L 1 ∧ p (8 * g + i) = t) ∧ (∀ s, 0 < s → s < L 0 - 1 → ¬ L (5 + s) = 1 → ∀ i, i < L 1 → p (8 * s + i) = p (8 * (s - 1) + i))
section
variable {L p fl ex : Nat → Nat} {pl : Bool}
theorem gPos_at {g t : Nat} : ∀ (n k i : Nat), k ≤ i → i < k + n → p (8 * g + i) = t → (∀ j, k ≤ j → j < i → ¬ p (8 * g + j) = t) → gPos p g t n k = i
  | 0, k, i, h1, h2, _, _ => absurd h1 (by omega)
  | n + 1, k, i, h1, h2, h3, h4 => by
    unfold gPos
    by_cases e : k = i
    · subst e; rw [if_pos h3]
    · rw [if_neg (h4 k (Nat.le_refl k) (by omega))]
      exact gPos_at n (k + 1) i (by omega) (by omega) h3 (fun j h5 h6 => h4 j (by omega) h6)
theorem gQ_i (hp : pOrd L p) {g i : Nat} (hg : g < L 0 - 1) (hi : i < L 1) : gQ L p g (p (8 * g + i)) = i := gPos_at (L 1) 0 i (by omega) (by omega) rfl (fun j _ h2 e => absurd (hp.2.1 g hg j i (by omega) hi e) (by omega))
theorem gQ_p (hp : pOrd L p) {g t : Nat} (hg : g < L 0 - 1) (ht : t < L 1) : gQ L p g t < L 1 ∧ p (8 * g + gQ L p g t) = t := by
  obtain ⟨i, hi, e⟩ := hp.2.2.1 g hg t ht
  have q := gQ_i hp hg hi
  rw [e] at q
  rw [q]
  exact ⟨hi, e⟩
theorem gQ_s (hp : pOrd L p) {s t : Nat} (h0 : 0 < s) (hs : s < L 0 - 1) (hk : ¬ L (5 + s) = 1) (ht : t < L 1) : gQ L p s t = gQ L p (s - 1) t := by
  have h1 := gQ_p hp hs ht
  have h2 := hp.2.2.2 s h0 hs hk _ h1.1
  have h3 := gQ_i hp (show s - 1 < L 0 - 1 by omega) h1.1
  rw [← h2, h1.2] at h3
  exact h3.symm
/-- the train before: ahead in the order, and it runs there -/
theorem gBl_some {g t : Nat} : ∀ (n k : Nat) (f : Option Nat) (o : Nat), (∀ v, f = some v → ∃ i, i < k ∧ p (8 * g + i) = v ∧ gD L v g = true) → gBl L p g t n k f = some o → ∃ i j, i < j ∧ j < k + n ∧ k ≤ j ∧ p (8 * g + i) = o ∧ p (8 * g + j) = t ∧ gD L o g = true
  | 0, _, _, _, _, h => nomatch h
  | n + 1, k, f, o, hf, h => by
    unfold gBl at h
    split at h
    · next e =>
      obtain ⟨i, h1, h2, h3⟩ := hf o h
      exact ⟨i, k, h1, by omega, by omega, h2, e, h3⟩
    · next e =>
      have hf' : ∀ v, cond (gD L (p (8 * g + k)) g) (some (p (8 * g + k))) f = some v → ∃ i, i < k + 1 ∧ p (8 * g + i) = v ∧ gD L v g = true := by
        intro v hv
        cases hd : gD L (p (8 * g + k)) g
        · rw [hd] at hv
          obtain ⟨i, h1, h2, h3⟩ := hf v hv
          exact ⟨i, by omega, h2, h3⟩
        · rw [hd] at hv
          cases hv
          exact ⟨k, by omega, rfl, hd⟩
      obtain ⟨i, j, h1, h2, h3, h4⟩ := gBl_some n (k + 1) _ o hf' h
      exact ⟨i, j, h1, by omega, by omega, h4⟩
theorem gB_some (hp : pOrd L p) {g t o : Nat} (hg : g < L 0 - 1) (h : gB L p g t = some o) : o < L 1 ∧ gD L o g = true ∧ gQ L p g o < gQ L p g t := by
  obtain ⟨i, j, h1, h2, _, h4, h5, h6⟩ := gBl_some (L 1) 0 none o (fun v q => nomatch q) h
  have hi := gQ_i hp hg (show i < L 1 by omega)
  have hj := gQ_i hp hg (show j < L 1 by omega)
  rw [h4] at hi
  rw [h5] at hj
  exact ⟨h4 ▸ hp.1 g hg i (by omega), h6, by omega⟩
/-- a line that is well formed, for the times -/
def lT (L : Nat → Nat) : Prop := lW 0 L ∧ 2 ≤ L 0
theorem gF_loc (hL : lT L) (hp : pOrd L p) {T T' : Nat → Nat} {t s : Nat} {b : Bool} (ht : t < L 1) (hv : gE L t s b = true) (h : ∀ t' s' b', t' < L 1 → gE L t' s' b' = true → rk L p t' s' b' < rk L p t s b → T (8 * t' + s' + cond b' 64 0) = T' (8 * t' + s' + cond b' 64 0)) : gF L p fl ex pl T t s b = gF L p fl ex pl T' t s b := by
  have hB := hL.1.2.1
  have hT := hL.1.2.2.2.2.2.1 t ht
  unfold trOk at hT
  have hq : ∀ g t', g < L 0 - 1 → t' < L 1 → gQ L p g t' < 8 := fun g t' h1 h2 => by have := (gQ_p hp h1 h2).1; omega
  cases b with
  | true =>
    have ha := gA_iff.mp (show gA L t s = true from hv)
    have hs1 : s - 1 < L 0 - 1 := by omega
    have e1 : T (8 * t + (s - 1)) = T' (8 * t + (s - 1)) := by
      refine h t (s - 1) false ht (gD_iff.mpr (by omega)) ?_
      have q1 := hq (s - 1) t hs1 ht
      have q2 := hq (s - 1 - 1) t (by omega) ht
      unfold rk
      split <;> split <;> simp only [cond] <;> omega
    have e2 : gH L p T t s true = gH L p T' t s true := by
      unfold gH
      cases ho : gB L p (cond true (s - 1) s) t with
      | none => rfl
      | some o =>
        obtain ⟨h1, h2, h3⟩ := gB_some hp hs1 ho
        have hd := gD_iff.mp h2
        show T (8 * o + s + cond true 64 0) + L 3 = T' (8 * o + s + cond true 64 0) + L 3
        rw [h o s true h1 (gA_iff.mpr (by omega)) (by unfold rk; split <;> simp only [cond] <;> omega)]
    have e3 : gP L p T t s = gP L p T' t s := by
      unfold gP
      split
      · rfl
      · next hk =>
        cases ho : gB L p (s - 1) t with
        | none => rfl
        | some o =>
          obtain ⟨h1, h2, h3⟩ := gB_some hp hs1 ho
          show cond (gD L o s) (T (8 * o + s) + L 3) 0 = cond (gD L o s) (T' (8 * o + s) + L 3) 0
          cases hd : gD L o s
          · rfl
          · show T (8 * o + s) + L 3 = T' (8 * o + s) + L 3
            rw [show T (8 * o + s) = T' (8 * o + s) from h o s false h1 hd (by unfold rk; rw [if_neg hk, if_neg hk]; simp only [cond]; omega)]
    unfold gF
    rw [e2]
    show max (max (max _ (T (8 * t + (s - 1)) + _ + _)) _) (gP L p T t s) = max (max (max _ (T' (8 * t + (s - 1)) + _ + _)) _) (gP L p T' t s)
    rw [e1, e3]
  | false =>
    have hd := gD_iff.mp (show gD L t s = true from hv)
    have hs : s < L 0 - 1 := by omega
    have e1 : gI L fl ex T t s false = gI L fl ex T' t s false := by
      unfold gI
      show (if s = tr L t 0 then _ else T (8 * t + s + 64) + _ + _) = (if s = tr L t 0 then _ else T' (8 * t + s + 64) + _ + _)
      split
      · rfl
      · next hne =>
        rw [show T (8 * t + s + 64) = T' (8 * t + s + 64) from h t s true ht (gA_iff.mpr (by omega)) (by
          have q1 := hq (s - 1) t (by omega) ht
          unfold rk; split <;> simp only [cond] <;> omega)]
    have e2 : gH L p T t s false = gH L p T' t s false := by
      unfold gH
      cases ho : gB L p (cond false (s - 1) s) t with
      | none => rfl
      | some o =>
        obtain ⟨h1, h2, h3⟩ := gB_some hp (show s < L 0 - 1 by omega) ho
        show T (8 * o + s + cond false 64 0) + L 3 = T' (8 * o + s + cond false 64 0) + L 3
        rw [h o s false h1 h2 (by
          unfold rk
          split
          · simp only [cond]; omega
          · next hk =>
            by_cases h0 : s = 0
            · subst h0; simp only [cond, Nat.zero_sub]; omega
            · rw [gQ_s hp (by omega) hs hk h1, gQ_s hp (by omega) hs hk ht] at h3
              simp only [cond]; omega)]
    have e3 : ∀ n c v, c + n = L 2 → gCn L fl pl T t s n c v = gCn L fl pl T' t s n c v := by
      intro n
      induction n with
      | zero => intro c v _; rfl
      | succ n ih =>
        intro c v hc
        unfold gCn
        rw [ih (c + 1) _ (by omega)]
        by_cases hc1 : lk L c 1 = t ∧ lk L c 2 = s
        · have hk := hL.1.2.2.2.2.2.2 c (by omega)
          unfold lkOk at hk
          have e : T (8 * lk L c 0 + s + 64) = T' (8 * lk L c 0 + s + 64) := by
            rw [hc1.2] at hk
            refine h (lk L c 0) s true hk.1 hk.2.2.2.2.1 ?_
            have q1 := hq (s - 1) (lk L c 0) (by omega) hk.1
            unfold rk
            rw [if_pos hk.2.2.2.1, if_pos hk.2.2.2.1]
            simp only [cond]; omega
          have ew : gW L fl pl T c = gW L fl pl T' c := by unfold gW; rw [hc1.2, e]
          rw [ew, e]
        · rw [if_neg (fun z => hc1 ⟨z.1, z.2.1⟩), if_neg (fun z => hc1 ⟨z.1, z.2.1⟩)]
    unfold gF
    rw [e1, e2]
    show max _ (gCn L fl pl T t s (L 2) 0 0) = max _ (gCn L fl pl T' t s (L 2) 0 0)
    rw [e3 (L 2) 0 0 (by omega)]
/-- the events below rank r have their least times -/
def Sol (L p fl ex : Nat → Nat) (pl : Bool) (T : Nat → Nat) (r : Nat) : Prop := ∀ t s b, t < L 1 → gE L t s b = true → rk L p t s b < r → T (8 * t + s + cond b 64 0) = gF L p fl ex pl T t s b
theorem Sol_uniq (hL : lT L) (hp : pOrd L p) {T T' : Nat → Nat} {r : Nat} (h : Sol L p fl ex pl T r) (h' : Sol L p fl ex pl T' r) : ∀ n, n ≤ r → ∀ t s b, t < L 1 → gE L t s b = true → rk L p t s b < n → T (8 * t + s + cond b 64 0) = T' (8 * t + s + cond b 64 0) := by
  intro n
  induction n with
  | zero => intro _ t s b _ _ hr; exact absurd hr (by omega)
  | succ n ih =>
    intro hn t s b ht hv hr
    rw [h t s b ht hv (by omega), h' t s b ht hv (by omega)]
    exact gF_loc hL hp ht hv (fun t' s' b' h1 h2 h3 => ih (by omega) t' s' b' h1 h2 (by omega))
end
