/-! Tokens.take -/
theorem tw_le {P : Int32 → Bool} {T : Nat → Nat} {n : Nat} : ∀ (k p : Nat), p ≤ tw P T n k p ∧ tw P T n k p ≤ p + k
  | 0, p => ⟨Nat.le_refl _, Nat.le_refl _⟩
  | k + 1, p => by
    unfold tw
    have := tw_le (P := P) (T := T) (n := n) k (p + 1)
    cases P (tb T n p)
    · exact ⟨Nat.le_refl _, Nat.le_add_right _ _⟩
    · dsimp only [cond]
      omega
def tkb (T : Nat → Nat) (n p : Nat) : Nat := tw yw T n (n - p) p
def tke (T : Nat → Nat) (n b : Nat) : Nat := if b < n then cond (yl (tb T n b)) (tw yl T n (n - b) b) (cond (yd (tb T n b)) (tw yd T n (n - b) b) (b + 1)) else b
def tkk (T : Nat → Nat) (n b : Nat) : Int32 := if b < n then cond (yl (tb T n b)) 1 (cond (yd (tb T n b)) (if tw yd T n (n - b) b - b ≤ 4 then 2 else 4) (if tb T n b = 59 then 3 else 4)) else 0
def ytk (k b e : Int32) (IF : Nat → Nat → Int32) : Nat → Nat → Int32 := yU 2 7 (IF 2 5) (yU 2 6 e (yU 2 5 b (yU 2 4 k IF)))
theorem ytk_ext {IF IF' : Nat → Nat → Int32} {k b e : Int32} (h4 : IF' 2 4 = k) (h5 : IF' 2 5 = b) (h6 : IF' 2 6 = e) (h7 : IF' 2 7 = IF 2 5) (hf : ∀ c j, ¬ (c = 2 ∧ (j = 4 ∨ j = 5 ∨ j = 6 ∨ j = 7)) → IF' c j = IF c j) : IF' = ytk k b e IF := by
  funext c j
  by_cases q : c = 2 ∧ (j = 4 ∨ j = 5 ∨ j = 6 ∨ j = 7)
  · obtain ⟨rfl, rfl | rfl | rfl | rfl⟩ := q
    · exact h4
    · exact h5
    · exact h6
    · exact h7
  · rw [hf c j q]
    unfold ytk
    rw [yU_n (fun z => q ⟨z.1, by omega⟩), yU_n (fun z => q ⟨z.1, by omega⟩), yU_n (fun z => q ⟨z.1, by omega⟩), yU_n (fun z => q ⟨z.1, by omega⟩)]
def yt2 (IF : Nat → Nat → Int32) : Nat → Nat → Int32 := yU 2 5 (IF 2 6) (yU 2 7 (IF 2 5) IF)
def yt4 (b : Nat) (IF : Nat → Nat → Int32) : Nat → Nat → Int32 := yU 2 6 (nI b) (yU 2 5 (nI b) (yt2 IF))
section
variable {ε : Nat × (Nat → Int32)} {d : Nat} {Q : zQ} {o ot it : Value} {AL : Nat → Nat → Int64} {AD : Nat → Nat → UInt64} {A : Nat → Nat → Int32} {T : Nat → Nat} {n : Nat}
theorem c_byteAtX {IF : Nat → Nat → Int32} (hn : IF 2 0 = nI n) (hn5 : n ≤ 500) (hT : ∀ p, p < n → A 3 p &&& 255 = nI (T p)) {p : Nat} {x : Int32} (hx : x = nI p) (hp : p ≤ 500) (hq : Q (.inl (some (.int (tb T n p)))) (zM o ot it IF A AL AD)) : zW ε false d 62 0 [(0, .ref 2), (1, .int x)] [] (zM o ot it IF A AL AD) 0 0 Q := by
  subst hx
  exact c_byteAt hn hn5 hT hp hq
theorem cl_t1 (hn5 : n ≤ 500) (hT : ∀ p, p < n → A 3 p &&& 255 = nI (T p)) : ∀ (k p : Nat) (IF : Nat → Nat → Int32), p + k = n → IF 2 0 = nI n → IF 2 5 = nI p → zW ε false (d + 1) 66 54 [(0, .ref 2)] [] (zM o ot it (yU 2 5 (nI (tw yw T n k p)) IF) A AL AD) 0 0 Q → zW ε false (d + 1) 66 16 [(0, .ref 2)] [] (zM o ot it IF A AL AD) 0 0 Q := by
  intro k
  induction k with
  | zero =>
    intro p IF hk hn hp h
    refine zrun 5 (zb_ge hp hn (by omega) (by omega) (fun _ => ?_) (fun g => absurd g (by omega)))
    rw [show tw yw T n 0 p = p from rfl, yU_id hp] at h
    exact zpc 54 (by decide) h
  | succ k ih =>
    intro p IF hk hn hp h
    refine zrun 5 (zb_ge hp hn (by omega) (by omega) (fun g => absurd g (by omega)) (fun _ => ?_))
    refine zrun 4 ⟨⟨Nat.zero_le _, Nat.zero_le _, rfl⟩, ?_⟩
    refine c_byteAtX hn hn5 hT hp (by omega) ⟨rfl, ?_⟩
    refine zrun 1 ⟨⟨Nat.zero_le _, Nat.zero_le _, rfl⟩, ?_⟩
    refine c_isBlank ⟨rfl, ?_⟩
    unfold tw at h
    refine zrun 1 (zb_f rfl (fun g => ?_) (fun g => ?_))
    · rw [g] at h
      rw [show cond false (tw yw T n k (p + 1)) p = p from rfl, yU_id hp] at h
      exact zpc 54 (by decide) h
    · rw [g] at h
      refine zrun 7 (ih (p + 1) (yU 2 5 (IF 2 5 + 1) IF) (by omega) hn ?_ ?_)
      · rw [yU_s, hp, nI_1]
      · rw [yU_yU]; exact h
theorem cl_t2 (hn5 : n ≤ 500) (hT : ∀ p, p < n → A 3 p &&& 255 = nI (T p)) : ∀ (k p : Nat) (IF : Nat → Nat → Int32), p + k = n → IF 2 0 = nI n → IF 2 6 = nI p → zW ε false (d + 1) 66 247 [(0, .ref 2)] [] (zM o ot it (yU 2 6 (nI (tw yl T n k p)) IF) A AL AD) 0 0 Q → zW ε false (d + 1) 66 100 [(0, .ref 2)] [] (zM o ot it IF A AL AD) 0 0 Q := by
  intro k
  induction k with
  | zero =>
    intro p IF hk hn hp h
    refine zrun 5 (zb_ge hp hn (by omega) (by omega) (fun _ => ?_) (fun g => absurd g (by omega)))
    rw [show tw yl T n 0 p = p from rfl, yU_id hp] at h
    exact zpc 247 (by decide) h
  | succ k ih =>
    intro p IF hk hn hp h
    refine zrun 5 (zb_ge hp hn (by omega) (by omega) (fun g => absurd g (by omega)) (fun _ => ?_))
    refine zrun 4 ⟨⟨Nat.zero_le _, Nat.zero_le _, rfl⟩, ?_⟩
    refine c_byteAtX hn hn5 hT hp (by omega) ⟨rfl, ?_⟩
    refine zrun 1 ⟨⟨Nat.zero_le _, Nat.zero_le _, rfl⟩, ?_⟩
    refine c_isLetter (Or.inl rfl) ⟨rfl, ?_⟩
    unfold tw at h
    refine zrun 1 (zb_f rfl (fun g => ?_) (fun g => ?_))
    · rw [g] at h
      rw [show cond false (tw yl T n k (p + 1)) p = p from rfl, yU_id hp] at h
      exact zpc 247 (by decide) h
    · rw [g] at h
      refine zrun 7 (ih (p + 1) (yU 2 6 (IF 2 6 + 1) IF) (by omega) hn ?_ ?_)
      · rw [yU_s, hp, nI_1]
      · rw [yU_yU]; exact h
theorem cl_t3 (hn5 : n ≤ 500) (hT : ∀ p, p < n → A 3 p &&& 255 = nI (T p)) : ∀ (k p : Nat) (IF : Nat → Nat → Int32), p + k = n → IF 2 0 = nI n → IF 2 6 = nI p → zW ε false (d + 1) 66 190 [(0, .ref 2)] [] (zM o ot it (yU 2 6 (nI (tw yd T n k p)) IF) A AL AD) 0 0 Q → zW ε false (d + 1) 66 152 [(0, .ref 2)] [] (zM o ot it IF A AL AD) 0 0 Q := by
  intro k
  induction k with
  | zero =>
    intro p IF hk hn hp h
    refine zrun 5 (zb_ge hp hn (by omega) (by omega) (fun _ => ?_) (fun g => absurd g (by omega)))
    rw [show tw yd T n 0 p = p from rfl, yU_id hp] at h
    exact zpc 190 (by decide) h
  | succ k ih =>
    intro p IF hk hn hp h
    refine zrun 5 (zb_ge hp hn (by omega) (by omega) (fun g => absurd g (by omega)) (fun _ => ?_))
    refine zrun 4 ⟨⟨Nat.zero_le _, Nat.zero_le _, rfl⟩, ?_⟩
    refine c_byteAtX hn hn5 hT hp (by omega) ⟨rfl, ?_⟩
    refine zrun 1 ⟨⟨Nat.zero_le _, Nat.zero_le _, rfl⟩, ?_⟩
    refine c_isDigit (Or.inl rfl) ⟨rfl, ?_⟩
    unfold tw at h
    refine zrun 1 (zb_f rfl (fun g => ?_) (fun g => ?_))
    · rw [g] at h
      rw [show cond false (tw yd T n k (p + 1)) p = p from rfl, yU_id hp] at h
      exact zpc 190 (by decide) h
    · rw [g] at h
      refine zrun 7 (ih (p + 1) (yU 2 6 (IF 2 6 + 1) IF) (by omega) hn ?_ ?_)
      · rw [yU_s, hp, nI_1]
      · rw [yU_yU]; exact h
theorem c_tk {IF : Nat → Nat → Int32} (hn5 : n ≤ 500) (hT : ∀ p, p < n → A 3 p &&& 255 = nI (T p)) (hn : IF 2 0 = nI n) {p : Nat} (hp : IF 2 6 = nI p) (hpn : p ≤ n) (hq : Q (.inl none) (zM o ot it (ytk (tkk T n (tkb T n p)) (nI (tkb T n p)) (nI (tke T n (tkb T n p))) IF) A AL AD)) : zW ε false (d + 1) 66 0 [(0, .ref 2)] [] (zM o ot it IF A AL AD) 0 0 Q := by
  have hb : tkb T n p ≤ n := by
    have := (tw_le (P := yw) (T := T) (n := n) (n - p) p).2
    unfold tkb
    omega
  refine zrun 8 ?_
  refine cl_t1 hn5 hT (n - p) p (yt2 IF) (by omega) hn hp ?_
  change zW ε false (d + 1) 66 54 [(0, .ref 2)] [] (zM o ot it (yU 2 5 (nI (tkb T n p)) (yt2 IF)) A AL AD) 0 0 Q
  generalize tkb T n p = b at hq hb
  have hn4 : yt4 b IF 2 0 = nI n := hn
  refine zrun 4 ?_
  refine zrun 5 (zb_lt (a := b) rfl hn (by omega) (by omega) (fun hbn => ?_) (fun hbn => ?_))
  · refine zrun 4 ⟨⟨Nat.zero_le _, Nat.zero_le _, rfl⟩, ?_⟩
    refine c_byteAtX (IF := yt4 b IF) hn4 hn5 hT (p := b) rfl (by omega) ⟨rfl, ?_⟩
    refine zrun 1 ⟨⟨Nat.zero_le _, Nat.zero_le _, rfl⟩, ?_⟩
    refine c_isLetter (Or.inl rfl) ⟨rfl, ?_⟩
    refine zrun 1 (zb_f rfl (fun g => ?_) (fun g => ?_))
    · refine zrun 4 ⟨⟨Nat.zero_le _, Nat.zero_le _, rfl⟩, ?_⟩
      refine c_byteAtX (IF := yt4 b IF) hn4 hn5 hT (p := b) rfl (by omega) ⟨rfl, ?_⟩
      refine zrun 1 ⟨⟨Nat.zero_le _, Nat.zero_le _, rfl⟩, ?_⟩
      refine c_isDigit (Or.inl rfl) ⟨rfl, ?_⟩
      refine zrun 1 (zb_f rfl (fun g' => ?_) (fun g' => ?_))
      · have he : tke T n b = b + 1 := by unfold tke; rw [if_pos hbn, g, g']; rfl
        have hk : tkk T n b = if tb T n b = 59 then 3 else 4 := by unfold tkk; rw [if_pos hbn, g, g']; rfl
        have e : ∀ k : Int32, yU 2 6 (nI b + 1) (yU 2 4 k (yt4 b IF)) = ytk k (nI b) (nI (b + 1)) IF := by
          intro k
          refine ytk_ext rfl rfl (nI_1 b) rfl (fun c j h => ?_)
          unfold yt4 yt2
          rw [yU_n (fun q => h ⟨q.1, by omega⟩), yU_n (fun q => h ⟨q.1, by omega⟩), yU_n (fun q => h ⟨q.1, by omega⟩), yU_n (fun q => h ⟨q.1, by omega⟩), yU_n (fun q => h ⟨q.1, by omega⟩), yU_n (fun q => h ⟨q.1, by omega⟩)]
        refine zrun 5 ⟨⟨Nat.zero_le _, Nat.zero_le _, rfl⟩, ?_⟩
        refine c_byteAtX (IF := yt4 b IF) hn4 hn5 hT (p := b) rfl (by omega) ⟨rfl, ?_⟩
        rw [hk, he] at hq
        refine zrun 2 ⟨fun z => ?_, fun z => ?_⟩
        · rw [if_neg (show ¬ tb T n b = 59 from z), ← e] at hq
          exact zrun 9 hq
        · rw [if_pos (show tb T n b = 59 from z), ← e] at hq
          exact zrun 10 hq
      · have he : tke T n b = tw yd T n (n - b) b := by unfold tke; rw [if_pos hbn, g, g']; rfl
        have hk : tkk T n b = if tw yd T n (n - b) b - b ≤ 4 then 2 else 4 := by unfold tkk; rw [if_pos hbn, g, g']; rfl
        have hw := tw_le (P := yd) (T := T) (n := n) (n - b) b
        refine zpc 152 (by decide) (cl_t3 hn5 hT (n - b) b (yt4 b IF) (by omega) hn4 rfl ?_)
        rw [hk, he] at hq
        have e : ∀ k : Int32, yU 2 4 k (yU 2 6 (nI (tw yd T n (n - b) b)) (yt4 b IF)) = ytk k (nI b) (nI (tw yd T n (n - b) b)) IF := by
          intro k
          refine ytk_ext rfl rfl rfl rfl (fun c j h => ?_)
          unfold yt4 yt2
          rw [yU_n (fun q => h ⟨q.1, by omega⟩), yU_n (fun q => h ⟨q.1, by omega⟩), yU_n (fun q => h ⟨q.1, by omega⟩), yU_n (fun q => h ⟨q.1, by omega⟩), yU_n (fun q => h ⟨q.1, by omega⟩), yU_n (fun q => h ⟨q.1, by omega⟩)]
        generalize tw yd T n (n - b) b = w at hq hw e
        refine zrun 8 (zb_le (a := w - b) (b := 4) (pk_sub hw.1) rfl (by omega) (by omega) (fun z => ?_) (fun z => ?_))
        · rw [if_pos z, ← e] at hq
          exact zrun 4 hq
        · rw [if_neg (by omega), ← e] at hq
          exact zrun 5 hq
    · have hk : tkk T n b = 1 := by unfold tkk; rw [if_pos hbn, g]; rfl
      have he : tke T n b = tw yl T n (n - b) b := by unfold tke; rw [if_pos hbn, g]; rfl
      refine zrun 3 (cl_t2 hn5 hT (n - b) b (yU 2 4 1 (yt4 b IF)) (by omega) hn4 rfl ?_)
      rw [hk, he] at hq
      have e : yU 2 6 (nI (tw yl T n (n - b) b)) (yU 2 4 1 (yt4 b IF)) = ytk 1 (nI b) (nI (tw yl T n (n - b) b)) IF := by
        refine ytk_ext rfl rfl rfl rfl (fun c j h => ?_)
        unfold yt4 yt2
        rw [yU_n (fun q => h ⟨q.1, by omega⟩), yU_n (fun q => h ⟨q.1, by omega⟩), yU_n (fun q => h ⟨q.1, by omega⟩), yU_n (fun q => h ⟨q.1, by omega⟩), yU_n (fun q => h ⟨q.1, by omega⟩), yU_n (fun q => h ⟨q.1, by omega⟩)]
      rw [e]
      exact zrun 1 hq
  · have hk : tkk T n b = 0 := if_neg (by omega)
    have he : tke T n b = b := if_neg (by omega)
    rw [hk, he] at hq
    have e : yU 2 4 0 (yt4 b IF) = ytk 0 (nI b) (nI b) IF := by
      refine ytk_ext rfl rfl rfl rfl (fun c j h => ?_)
      unfold yt4 yt2
      rw [yU_n (fun q => h ⟨q.1, by omega⟩), yU_n (fun q => h ⟨q.1, by omega⟩), yU_n (fun q => h ⟨q.1, by omega⟩), yU_n (fun q => h ⟨q.1, by omega⟩), yU_n (fun q => h ⟨q.1, by omega⟩)]
    rw [← e] at hq
    exact zrun 5 hq
end
