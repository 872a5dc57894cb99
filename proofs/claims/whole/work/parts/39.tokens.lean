/-! the text's tokens: what both sides share -/
def yl (x : Int32) : Bool := decide (¬ x < 97) && decide (¬ (122 : Int32) < x)
def yd (x : Int32) : Bool := decide (¬ x < 48) && decide (¬ (57 : Int32) < x)
def yw (x : Int32) : Bool := decide (x = 10) || decide (x = 32)
/-- the byte at p of a text T of n bytes, or -1 -/
def tb (T : Nat → Nat) (n p : Nat) : Int32 := if p < n then nI (T p) else -1
/-- on while P holds -/
def tw (P : Int32 → Bool) (T : Nat → Nat) (n : Nat) : Nat → Nat → Nat
  | 0, p => p
  | k + 1, p => cond (P (tb T n p)) (tw P T n k (p + 1)) p
/-- a field of a cell set -/
def yU (c j : Nat) (v : Int32) (IF : Nat → Nat → Int32) : Nat → Nat → Int32 := va_up IF c (upd (IF c) j v)
theorem yU_s {c j : Nat} {v : Int32} {IF : Nat → Nat → Int32} : yU c j v IF c j = v := by unfold yU va_up upd; rw [if_pos rfl, if_pos rfl]
theorem yU_n {c j c' j' : Nat} {v : Int32} {IF : Nat → Nat → Int32} (h : ¬ (c' = c ∧ j' = j)) : yU c j v IF c' j' = IF c' j' := by
  unfold yU va_up upd
  by_cases hc : c' = c
  · subst hc
    rw [if_pos rfl, if_neg (fun q => h ⟨rfl, q⟩)]
  · rw [if_neg hc]
theorem yU_id {c j : Nat} {v : Int32} {IF : Nat → Nat → Int32} (h : IF c j = v) : yU c j v IF = IF := by
  funext c' j'
  by_cases q : c' = c ∧ j' = j
  · obtain ⟨rfl, rfl⟩ := q
    rw [yU_s, h]
  · exact yU_n q
theorem yU_yU {c j : Nat} {v w : Int32} {IF : Nat → Nat → Int32} : yU c j v (yU c j w IF) = yU c j v IF := by
  funext c' j'
  by_cases q : c' = c ∧ j' = j
  · obtain ⟨rfl, rfl⟩ := q
    rw [yU_s, yU_s]
  · rw [yU_n q, yU_n q, yU_n q]
section
variable {ε : Nat × (Nat → Int32)} {d : Nat} {Q : zQ} {o ot it : Value} {AL : Nat → Nat → Int64} {AD : Nat → Nat → UInt64}
theorem c_isLetter {y : Nat} (hy : y = 64 ∨ y = 140) {h : zH} {x : Int32} (hq : Q (.inl (some (.int (zbo (yl x))))) h) : zW ε false d y 0 [(0, .int x)] [] h 0 0 Q := by
  have q1 : x < 97 → Q (.inl (some (.int 0))) h := fun g => by rw [show yl x = false by unfold yl; simp [g]] at hq; exact hq
  have q2 : (122 : Int32) < x → Q (.inl (some (.int 0))) h := fun g => by rw [show yl x = false by unfold yl; simp [g]] at hq; exact hq
  have q3 : ¬ x < 97 → ¬ (122 : Int32) < x → Q (.inl (some (.int 1))) h := fun g g' => by rw [show yl x = true by unfold yl; simp [g, g']] at hq; exact hq
  rcases hy with rfl | rfl
  all_goals
    refine zrun 3 ⟨fun g => zrun 2 ⟨rfl, q1 g⟩, fun g => ?_⟩
    exact zrun 3 ⟨fun g' => zrun 2 ⟨rfl, q2 g'⟩, fun g' => zrun 3 ⟨rfl, q3 g g'⟩⟩
theorem c_isDigit {y : Nat} (hy : y = 65 ∨ y = 141) {h : zH} {x : Int32} (hq : Q (.inl (some (.int (zbo (yd x))))) h) : zW ε false d y 0 [(0, .int x)] [] h 0 0 Q := by
  have q1 : x < 48 → Q (.inl (some (.int 0))) h := fun g => by rw [show yd x = false by unfold yd; simp [g]] at hq; exact hq
  have q2 : (57 : Int32) < x → Q (.inl (some (.int 0))) h := fun g => by rw [show yd x = false by unfold yd; simp [g]] at hq; exact hq
  have q3 : ¬ x < 48 → ¬ (57 : Int32) < x → Q (.inl (some (.int 1))) h := fun g g' => by rw [show yd x = true by unfold yd; simp [g, g']] at hq; exact hq
  rcases hy with rfl | rfl
  all_goals
    refine zrun 3 ⟨fun g => zrun 2 ⟨rfl, q1 g⟩, fun g => ?_⟩
    exact zrun 3 ⟨fun g' => zrun 2 ⟨rfl, q2 g'⟩, fun g' => zrun 3 ⟨rfl, q3 g g'⟩⟩
theorem c_isBlank {h : zH} {x : Int32} (hq : Q (.inl (some (.int (zbo (yw x))))) h) : zW ε false d 63 0 [(0, .int x)] [] h 0 0 Q := by
  have q1 : x = 10 → Q (.inl (some (.int 1))) h := fun g => by rw [show yw x = true by unfold yw; simp [g]] at hq; exact hq
  have q2 : x = 32 → Q (.inl (some (.int 1))) h := fun g => by rw [show yw x = true by unfold yw; simp [g]] at hq; exact hq
  have q3 : ¬ x = 10 → ¬ x = 32 → Q (.inl (some (.int 0))) h := fun g g' => by rw [show yw x = false by unfold yw; simp [g, g']] at hq; exact hq
  refine zrun 3 ⟨fun g => zrun 3 ⟨rfl, q1 g⟩, fun g => ?_⟩
  exact zrun 3 ⟨fun g' => zrun 2 ⟨rfl, q3 g g'⟩, fun g' => zrun 3 ⟨rfl, q2 g'⟩⟩
theorem zW_bald {al : Bool} {y pc : Nat} {l : zL} {r : List Value} {h : zH} {uc us k n N : Nat} {i : Int32} (hI : zI y pc = some (.baload, 1)) (hk : h.1[k]? = some (2, N)) (hi : i = nI n) (hn : n < N) (hN : N < 4001) (hh : zW ε al d y (pc + 1) l (.int (h.2.2.2.1 k n) :: r) h uc us Q) : zW ε al d y pc l (.int i :: .ref k :: r) h uc us Q := by
  subst hi
  refine zW_fold _ _ _ _ _ _ _ _ _ _ ?_
  unfold zstep
  rw [hI]
  show zmem ε (zW ε) al d y pc l (.int (nI n) :: .ref k :: r) h uc us Q .baload 1
  unfold zmem
  dsimp only
  rw [hk]
  exact ⟨vp_in_nI hn (by omega), by rw [nI_clamp (by omega)]; exact hh⟩
variable {IF A : Nat → Nat → Int32} {T : Nat → Nat} {n : Nat}
theorem c_byteAt (hn : IF 2 0 = nI n) (hn5 : n ≤ 500) (hT : ∀ p, p < n → A 3 p &&& 255 = nI (T p)) {p : Nat} (hp : p ≤ 500) (hq : Q (.inl (some (.int (tb T n p)))) (zM o ot it IF A AL AD)) : zW ε false d 62 0 [(0, .ref 2), (1, .int (nI p))] [] (zM o ot it IF A AL AD) 0 0 Q := by
  refine zrun 2 ⟨fun g => absurd g (nI_pos (by omega)), fun _ => ?_⟩
  refine zrun 4 (zb_ge rfl hn (by omega) (by omega) (fun g => ?_) (fun g => ?_))
  · rw [show tb T n p = -1 from if_neg (by omega)] at hq
    exact zrun 2 hq
  · refine zrun 3 (zb_ge (b := 500) rfl rfl (by omega) (by omega) (fun g => absurd g (by omega)) (fun _ => ?_))
    refine zrun 3 ?_
    refine zW_bald (n := p) (N := 500) rfl rfl rfl (by omega) (by decide) ?_
    rw [show tb T n p = nI (T p) from if_pos g, ← hT p g] at hq
    exact zrun 4 hq
theorem c_mat (hn : IF 32 12 = nI n) (hn5 : n ≤ 500) (hT : ∀ p, p < n → A 41 p = nI (T p)) {p : Nat} (hp : p ≤ 500) (hq : Q (.inl (some (.int (tb T n p)))) (zM o ot it IF A AL AD)) : zW ε false d 139 0 [(0, .ref 32), (1, .int (nI p))] [] (zM o ot it IF A AL AD) 0 0 Q := by
  refine zrun 4 (zb_ge rfl hn (by omega) (by omega) (fun g => ?_) (fun g => ?_))
  · rw [show tb T n p = -1 from if_neg (by omega)] at hq
    exact zrun 2 hq
  · refine zrun 3 ?_
    refine zW_iald (n := p) (N := 500) rfl rfl rfl (by omega) (by decide) ?_
    rw [show tb T n p = nI (T p) from if_pos g, ← hT p g] at hq
    exact zrun 2 hq
end
