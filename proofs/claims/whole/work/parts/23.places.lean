/-! the cells by their places; steps on numbers -/
def zSh : List (Nat × Nat) := [(0, 6), (0, 3), (0, 5), (2, 500), (0, 1), (1, 8), (1, 64), (1, 64), (0, 1), (1, 8), (1, 64), (1, 64), (0, 2), (1, 64), (1, 64), (0, 2), (1, 64), (1, 64), (0, 4), (1, 128), (1, 128), (1, 128), (0, 4), (1, 128), (1, 128), (0, 4), (1, 128), (1, 128), (0, 0), (1, 8), (1, 8), (1, 8), (0, 7), (1, 92), (1, 92), (1, 56), (1, 56), (1, 56), (1, 56), (1, 64), (1, 64), (1, 500), (1, 64), (1, 64), (1, 64), (1, 64), (3, 8), (1, 64), (1, 64), (1, 7), (1, 7), (4, 1), (5, 1)]
def zRF (o ot it : Value) (k j : Nat) : Value := (cond (Nat.ble k 12) (cond (Nat.ble k 2) (cond (Nat.ble k 0) (cond (Nat.beq k 0) (cond (Nat.ble j 3) (cond (Nat.ble j 1) (cond (Nat.ble j 0) (cond (Nat.beq j 0) (.ref 1) .null) (cond (Nat.beq j 1) (.ref 8) .null)) (cond (Nat.ble j 2) (cond (Nat.beq j 2) (.ref 12) .null) (cond (Nat.beq j 3) (.ref 15) .null))) (cond (Nat.ble j 5) (cond (Nat.ble j 4) (cond (Nat.beq j 4) (.ref 18) .null) (cond (Nat.beq j 5) (.ref 22) .null)) (cond (Nat.ble j 6) (cond (Nat.beq j 6) (.ref 25) .null) (cond (Nat.beq j 7) (.ref 28) .null)))) .null) (cond (Nat.ble k 1) (cond (Nat.beq k 1) (cond (Nat.ble j 0) (cond (Nat.beq j 0) (.ref 2) .null) (cond (Nat.beq j 1) (.ref 4) .null)) .null) (cond (Nat.beq k 2) (cond (Nat.beq j 3) (.ref 3) .null) .null))) (cond (Nat.ble k 4) (cond (Nat.beq k 4) (cond (Nat.ble j 6) (cond (Nat.beq j 6) (.ref 5) .null) (cond (Nat.ble j 7) (cond (Nat.beq j 7) (.ref 6) .null) (cond (Nat.beq j 8) (.ref 7) .null))) .null) (cond (Nat.ble k 8) (cond (Nat.beq k 8) (cond (Nat.ble j 6) (cond (Nat.beq j 6) (.ref 9) .null) (cond (Nat.ble j 7) (cond (Nat.beq j 7) (.ref 10) .null) (cond (Nat.beq j 8) (.ref 11) .null))) .null) (cond (Nat.beq k 12) (cond (Nat.ble j 0) (cond (Nat.beq j 0) (.ref 8) .null) (cond (Nat.ble j 1) (cond (Nat.beq j 1) (.ref 13) .null) (cond (Nat.beq j 2) (.ref 14) .null))) .null)))) (cond (Nat.ble k 22) (cond (Nat.ble k 15) (cond (Nat.beq k 15) (cond (Nat.ble j 0) (cond (Nat.beq j 0) (.ref 8) .null) (cond (Nat.ble j 1) (cond (Nat.beq j 1) (.ref 16) .null) (cond (Nat.beq j 2) (.ref 17) .null))) .null) (cond (Nat.ble k 18) (cond (Nat.beq k 18) (cond (Nat.ble j 1) (cond (Nat.ble j 0) (cond (Nat.beq j 0) (.ref 20) .null) (cond (Nat.beq j 1) (.ref 8) .null)) (cond (Nat.ble j 2) (cond (Nat.beq j 2) (.ref 12) .null) (cond (Nat.ble j 3) (cond (Nat.beq j 3) (.ref 19) .null) (cond (Nat.beq j 4) (.ref 21) .null)))) .null) (cond (Nat.beq k 22) (cond (Nat.ble j 1) (cond (Nat.ble j 0) (cond (Nat.beq j 0) (.ref 23) .null) (cond (Nat.beq j 1) (.ref 8) .null)) (cond (Nat.ble j 2) (cond (Nat.beq j 2) (.ref 15) .null) (cond (Nat.ble j 3) (cond (Nat.beq j 3) (.ref 20) .null) (cond (Nat.beq j 4) (.ref 24) .null)))) .null))) (cond (Nat.ble k 25) (cond (Nat.beq k 25) (cond (Nat.ble j 1) (cond (Nat.ble j 0) (cond (Nat.beq j 0) (.ref 26) .null) (cond (Nat.beq j 1) (.ref 8) .null)) (cond (Nat.ble j 2) (cond (Nat.beq j 2) (.ref 12) .null) (cond (Nat.ble j 3) (cond (Nat.beq j 3) (.ref 20) .null) (cond (Nat.beq j 4) (.ref 27) .null)))) .null) (cond (Nat.ble k 28) (cond (Nat.beq k 28) (cond (Nat.ble j 0) (cond (Nat.beq j 0) (.ref 29) .null) (cond (Nat.ble j 1) (cond (Nat.beq j 1) (.ref 30) .null) (cond (Nat.beq j 2) (.ref 31) .null))) .null) (cond (Nat.beq k 32) (cond (Nat.ble j 19) (cond (Nat.ble j 5) (cond (Nat.ble j 2) (cond (Nat.ble j 1) (cond (Nat.beq j 1) (.ref 33) .null) (cond (Nat.beq j 2) (.ref 34) .null)) (cond (Nat.ble j 3) (cond (Nat.beq j 3) (.ref 35) .null) (cond (Nat.ble j 4) (cond (Nat.beq j 4) (.ref 36) .null) (cond (Nat.beq j 5) (.ref 37) .null)))) (cond (Nat.ble j 7) (cond (Nat.ble j 6) (cond (Nat.beq j 6) (.ref 38) .null) (cond (Nat.beq j 7) (.ref 39) .null)) (cond (Nat.ble j 8) (cond (Nat.beq j 8) (.ref 40) .null) (cond (Nat.ble j 10) (cond (Nat.beq j 10) (.ref 41) .null) (cond (Nat.beq j 19) (.ref 42) .null))))) (cond (Nat.ble j 24) (cond (Nat.ble j 21) (cond (Nat.ble j 20) (cond (Nat.beq j 20) (.ref 43) .null) (cond (Nat.beq j 21) (.ref 44) .null)) (cond (Nat.ble j 22) (cond (Nat.beq j 22) (.ref 45) .null) (cond (Nat.ble j 23) (cond (Nat.beq j 23) (.ref 46) .null) (cond (Nat.beq j 24) o .null)))) (cond (Nat.ble j 28) (cond (Nat.ble j 25) (cond (Nat.beq j 25) ot .null) (cond (Nat.ble j 26) (cond (Nat.beq j 26) it .null) (cond (Nat.beq j 28) (.ref 47) .null))) (cond (Nat.ble j 29) (cond (Nat.beq j 29) (.ref 48) .null) (cond (Nat.ble j 30) (cond (Nat.beq j 30) (.ref 49) .null) (cond (Nat.beq j 31) (.ref 50) .null)))))) .null)))))
abbrev zM (o ot it : Value) (IF A : Nat → Nat → Int32) (AL : Nat → Nat → Int64) (AD : Nat → Nat → UInt64) : zH := (zSh, zRF o ot it, IF, A, AL, AD)
/-- a truth value as an int -/
def zbo (b : Bool) : Int32 := cond b 1 0
theorem zbo_0 {b : Bool} (h : zbo b = 0) : b = false := by cases b <;> first | rfl | exact absurd h (by decide)
theorem zbo_1 {b : Bool} (h : ¬ zbo b = 0) : b = true := by cases b <;> first | rfl | exact absurd rfl h
theorem zbo_n (b : Bool) : narrow .boolean (.int (zbo b)) = .int (zbo b) := by cases b <;> decide
/-- a branch on numbers: the first row where it is taken -/
theorem zb_lt {x z : Int32} {a b : Nat} {P N : Prop} (hx : x = nI a) (hz : z = nI b) (ha : a < 2 ^ 31) (hb : b < 2 ^ 31) (hp : a < b → P) (hn : b ≤ a → N) : (zcd .lt x z → P) ∧ (zcx .lt x z → N) := by
  subst hx; subst hz
  exact ⟨fun h => hp ((nI_ltI ha hb).mp h), fun h => hn (Nat.le_of_not_lt (fun q => h ((nI_ltI ha hb).mpr q)))⟩
theorem zb_ge {x z : Int32} {a b : Nat} {P N : Prop} (hx : x = nI a) (hz : z = nI b) (ha : a < 2 ^ 31) (hb : b < 2 ^ 31) (hp : b ≤ a → P) (hn : a < b → N) : (zcd .ge x z → P) ∧ (zcx .ge x z → N) := by
  subst hx; subst hz
  exact ⟨fun h => hp ((nI_leI hb ha).mp h), fun h => hn (Nat.lt_of_not_le (fun q => h ((nI_leI hb ha).mpr q)))⟩
theorem zb_gt {x z : Int32} {a b : Nat} {P N : Prop} (hx : x = nI a) (hz : z = nI b) (ha : a < 2 ^ 31) (hb : b < 2 ^ 31) (hp : b < a → P) (hn : a ≤ b → N) : (zcd .gt x z → P) ∧ (zcx .gt x z → N) := by
  subst hx; subst hz
  exact ⟨fun h => hp ((nI_ltI hb ha).mp h), fun h => hn (Nat.le_of_not_lt (fun q => h ((nI_ltI hb ha).mpr q)))⟩
theorem zb_le {x z : Int32} {a b : Nat} {P N : Prop} (hx : x = nI a) (hz : z = nI b) (ha : a < 2 ^ 31) (hb : b < 2 ^ 31) (hp : a ≤ b → P) (hn : b < a → N) : (zcd .le x z → P) ∧ (zcx .le x z → N) := by
  subst hx; subst hz
  exact ⟨fun h => hp ((nI_leI ha hb).mp h), fun h => hn (Nat.lt_of_not_le (fun q => h ((nI_leI ha hb).mpr q)))⟩
theorem zb_eq {x z : Int32} {a b : Nat} {P N : Prop} (hx : x = nI a) (hz : z = nI b) (ha : a < 2 ^ 31) (hb : b < 2 ^ 31) (hp : a = b → P) (hn : a ≠ b → N) : (zcd .eq x z → P) ∧ (zcx .eq x z → N) := by
  subst hx; subst hz
  exact ⟨fun h => hp ((nI_eq ha hb).mp h), fun h => hn (fun q => h (by rw [q]))⟩
theorem zb_ne {x z : Int32} {a b : Nat} {P N : Prop} (hx : x = nI a) (hz : z = nI b) (ha : a < 2 ^ 31) (hb : b < 2 ^ 31) (hp : a ≠ b → P) (hn : a = b → N) : (zcd .ne x z → P) ∧ (zcx .ne x z → N) := by
  subst hx; subst hz
  exact ⟨fun h => hp (fun q => h (by rw [q])), fun h => hn ((nI_eq ha hb).mp h)⟩
/-- a branch on a truth value -/
theorem zb_f {x : Int32} {b : Bool} {P N : Prop} (hx : x = zbo b) (hp : b = false → P) (hn : b = true → N) : (zcd .eq x 0 → P) ∧ (zcx .eq x 0 → N) := by
  subst hx
  exact ⟨fun h => hp (zbo_0 h), fun h => hn (zbo_1 h)⟩
theorem zb_t {x : Int32} {b : Bool} {P N : Prop} (hx : x = zbo b) (hp : b = true → P) (hn : b = false → N) : (zcd .ne x 0 → P) ∧ (zcx .ne x 0 → N) := by
  subst hx
  exact ⟨fun h => hp (zbo_1 h), fun h => hn (zbo_0 h)⟩
section
variable {ε : Nat × (Nat → Int32)} {al : Bool} {d y pc : Nat} {l : zL} {r : List Value} {h : zH} {uc us : Nat} {Q : zQ}
theorem zW_iald {k n N : Nat} {i : Int32} (hI : zI y pc = some (.iaload, 1)) (hk : h.1[k]? = some (1, N)) (hi : i = nI n) (hn : n < N) (hN : N < 4001) (hh : zW ε al d y (pc + 1) l (.int (h.2.2.2.1 k n) :: r) h uc us Q) : zW ε al d y pc l (.int i :: .ref k :: r) h uc us Q := by
  subst hi
  refine zW_fold _ _ _ _ _ _ _ _ _ _ ?_
  unfold zstep
  rw [hI]
  show zmem ε (zW ε) al d y pc l (.int (nI n) :: .ref k :: r) h uc us Q .iaload 1
  unfold zmem
  dsimp only
  rw [hk]
  exact ⟨vp_in_nI hn (by omega), by rw [nI_clamp (by omega)]; exact hh⟩
theorem zW_iast {k n N : Nat} {i x : Int32} (hI : zI y pc = some (.iastore, 1)) (hk : h.1[k]? = some (1, N)) (hi : i = nI n) (hn : n < N) (hN : N < 4001) (hh : zW ε al d y (pc + 1) l r (zpA h k (upd (h.2.2.2.1 k) n x)) uc us Q) : zW ε al d y pc l (.int x :: .int i :: .ref k :: r) h uc us Q := by
  subst hi
  refine zW_fold _ _ _ _ _ _ _ _ _ _ ?_
  unfold zstep
  rw [hI]
  show zmem ε (zW ε) al d y pc l (.int x :: .int (nI n) :: .ref k :: r) h uc us Q .iastore 1
  unfold zmem
  dsimp only
  rw [hk]
  exact ⟨vp_in_nI hn (by omega), by rw [nI_clamp (by omega)]; exact hh⟩
end
theorem zmask {n : Nat} (h : n < 8) : nI n &&& 7 = nI n := by
  rw [pk_andN (by omega) 3 (by decide), Nat.mod_eq_of_lt h]
/-- rows of numbers -/
def lf (a : Nat → Nat) : Nat → Int32 := fun j => nI (a j)
theorem lf_upd (a : Nat → Nat) (i v : Nat) : upd (lf a) i (nI v) = lf (va_up a i v) := by
  funext j
  unfold upd lf va_up
  split <;> rfl
