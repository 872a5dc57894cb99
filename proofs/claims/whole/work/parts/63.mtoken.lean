/-! the reference: tokens -/
/-- nothing but the reference's token fields has changed -/
def tF (IF IF' : Nat → Nat → Int32) : Prop := ∀ c j, ¬ (c = 32 ∧ 13 ≤ j ∧ j ≤ 18) → IF' c j = IF c j
theorem tF_r (IF : Nat → Nat → Int32) : tF IF IF := fun _ _ _ => rfl
theorem tF_t {I1 I2 I3 : Nat → Nat → Int32} (h : tF I1 I2) (h' : tF I2 I3) : tF I1 I3 := fun c j q => (h' c j q).trans (h c j q)
theorem tF_u {IF : Nat → Nat → Int32} {j : Nat} {v : Int32} (h : 13 ≤ j ∧ j ≤ 18) : tF IF (yU 32 j v IF) := fun c i q => yU_n (fun z => q ⟨z.1, by omega⟩)
/-- the class's tokens I and the reference's -/
def tRf (T : Nat → Nat) (n : Nat) (I IF : Nat → Nat → Int32) : Prop := IF 32 12 = nI n ∧ IF 32 17 = I 2 1 ∧ IF 32 18 = I 2 2 ∧ yOk n I ∧ (I 2 1 = 0 → IF 32 15 = I 2 4 ∧ IF 32 14 = I 2 5 ∧ IF 32 13 = I 2 6 ∧ (I 2 4 = 2 → IF 32 16 = yV T n I))
/-- what a token leaves -/
def tK (T : Nat → Nat) (n p : Nat) (IF IF' : Nat → Nat → Int32) : Prop := IF' 32 15 = tkk T n (tkb T n p) ∧ IF' 32 14 = nI (tkb T n p) ∧ IF' 32 13 = nI (tke T n (tkb T n p)) ∧ (tkk T n (tkb T n p) = 2 → IF' 32 16 = yv T n (tke T n (tkb T n p) - tkb T n p) (tkb T n p) 0) ∧ (∀ c j, ¬ (c = 32 ∧ 13 ≤ j ∧ j ≤ 16) → IF' c j = IF c j)
theorem tb_n {T : Nat → Nat} {n : Nat} : tb T n n = -1 := if_neg (by omega)
section
variable {ε : Nat × (Nat → Int32)} {d : Nat} {Q : zQ} {o ot it : Value} {A : Nat → Nat → Int32} {AL : Nat → Nat → Int64} {AD : Nat → Nat → UInt64} {T : Nat → Nat} {n : Nat}
theorem c_matX {IF : Nat → Nat → Int32} (hn : IF 32 12 = nI n) (hn5 : n ≤ 500) (hT : ∀ p, p < n → A 41 p = nI (T p)) {p : Nat} {x : Int32} (hx : x = nI p) (hp : p ≤ 500) (hq : Q (.inl (some (.int (tb T n p)))) (zM o ot it IF A AL AD)) : zW ε false d 139 0 [(0, .ref 32), (1, .int x)] [] (zM o ot it IF A AL AD) 0 0 Q := by
  subst hx
  exact c_mat hn hn5 hT hp hq
theorem yw_1 : yw (-1) = false := by decide
theorem yl_1 : yl (-1) = false := by decide
theorem yd_1 : yd (-1) = false := by decide
theorem yw_f {x : Int32} (h : ¬ x = 10) (h2 : ¬ x = 32) : yw x = false := by unfold yw; simp [h, h2]
theorem yw_t {x : Int32} (h : x = 10 ∨ x = 32) : yw x = true := by unfold yw; rcases h with h | h <;> simp [h]
theorem cl_k1b (hn5 : n ≤ 500) (hT : ∀ p, p < n → A 41 p = nI (T p)) : ∀ (k p : Nat) (IF : Nat → Nat → Int32), p + k = n → IF 32 12 = nI n → IF 32 13 = nI p → zW ε false (d + 1) 142 39 [(0, .ref 32)] [] (zM o ot it (yU 32 13 (nI (tw yw T n k p)) IF) A AL AD) 0 0 Q → zW ε false (d + 1) 142 0 [(0, .ref 32)] [] (zM o ot it IF A AL AD) 0 0 Q := by
  intro k
  induction k with
  | zero =>
    intro p IF hp hn h13 hq
    have e : tb T n p = -1 := by rw [show p = n by omega]; exact tb_n
    rw [show tw yw T n 0 p = p from rfl, yU_id h13] at hq
    refine zrun 4 ⟨⟨Nat.le_of_ble_eq_true rfl, Nat.le_of_ble_eq_true rfl, rfl⟩, ?_⟩
    refine c_matX hn hn5 hT h13 (by omega) ⟨rfl, ?_⟩
    refine zrun 2 ⟨(fun g => absurd (e.symm.trans g) (by decide)), (fun _ => ?_)⟩
    refine zrun 4 ⟨⟨Nat.le_of_ble_eq_true rfl, Nat.le_of_ble_eq_true rfl, rfl⟩, ?_⟩
    refine c_matX hn hn5 hT h13 (by omega) ⟨rfl, ?_⟩
    refine zrun 2 ⟨(fun _ => ?_), (fun g => absurd (e.symm.trans (show tb T n p = 32 from g)) (by decide))⟩
    exact zpc 39 (by decide) hq
  | succ k ih =>
    intro p IF hp hn h13 hq
    unfold tw at hq
    have next : yw (tb T n p) = true → zW ε false (d + 1) 142 0 [(0, .ref 32)] [] (zM o ot it (yU 32 13 (IF 32 13 + 1) IF) A AL AD) 0 0 Q := fun g => ih (p + 1) (yU 32 13 (IF 32 13 + 1) IF) (by omega) hn (by rw [yU_s, h13, nI_1]) (by rw [yU_yU]; rw [g] at hq; exact hq)
    refine zrun 4 ⟨⟨Nat.le_of_ble_eq_true rfl, Nat.le_of_ble_eq_true rfl, rfl⟩, ?_⟩
    refine c_matX hn hn5 hT h13 (by omega) ⟨rfl, ?_⟩
    refine zrun 2 ⟨(fun g1 => ?_), (fun g1 => ?_)⟩
    · exact zrun 7 (next (yw_t (Or.inl g1)))
    · refine zrun 4 ⟨⟨Nat.le_of_ble_eq_true rfl, Nat.le_of_ble_eq_true rfl, rfl⟩, ?_⟩
      refine c_matX hn hn5 hT h13 (by omega) ⟨rfl, ?_⟩
      refine zrun 2 ⟨(fun g2 => ?_), (fun g2 => ?_)⟩
      · exact zpc 39 (by decide) (by rw [yw_f g1 g2] at hq; rw [show cond false (tw yw T n k (p + 1)) p = p from rfl, yU_id h13] at hq; exact hq)
      · exact zrun 7 (next (yw_t (Or.inr g2)))
theorem cl_k2b (hn5 : n ≤ 500) (hT : ∀ p, p < n → A 41 p = nI (T p)) : ∀ (k p : Nat) (IF : Nat → Nat → Int32) (c : Int32), p + k = n → IF 32 12 = nI n → IF 32 13 = nI p → zW ε false (d + 1) 142 103 [(0, .ref 32)] [] (zM o ot it (yU 32 13 (nI (tw yl T n k p)) IF) A AL AD) 0 0 Q → zW ε false (d + 1) 142 76 [(0, .ref 32), (1, .int c)] [] (zM o ot it IF A AL AD) 0 0 Q := by
  intro k
  induction k with
  | zero =>
    intro p IF c hp hn h13 hq
    have e : yl (tb T n p) = false := by rw [show p = n by omega, tb_n]; exact yl_1
    rw [show tw yl T n 0 p = p from rfl, yU_id h13] at hq
    refine zrun 4 ⟨⟨Nat.le_of_ble_eq_true rfl, Nat.le_of_ble_eq_true rfl, rfl⟩, ?_⟩
    refine c_matX hn hn5 hT h13 (by omega) ⟨rfl, ?_⟩
    refine zrun 1 ⟨⟨Nat.le_of_ble_eq_true rfl, Nat.le_of_ble_eq_true rfl, rfl⟩, ?_⟩
    refine c_isLetter (Or.inr rfl) ⟨rfl, ?_⟩
    refine zrun 1 (zb_f rfl (fun _ => ?_) (fun g => by rw [e] at g; exact Bool.noConfusion g))
    exact zfg [0] (zloc [(0, _)] rfl (zpc 103 (by decide) hq))
  | succ k ih =>
    intro p IF c hp hn h13 hq
    unfold tw at hq
    refine zrun 4 ⟨⟨Nat.le_of_ble_eq_true rfl, Nat.le_of_ble_eq_true rfl, rfl⟩, ?_⟩
    refine c_matX hn hn5 hT h13 (by omega) ⟨rfl, ?_⟩
    refine zrun 1 ⟨⟨Nat.le_of_ble_eq_true rfl, Nat.le_of_ble_eq_true rfl, rfl⟩, ?_⟩
    refine c_isLetter (Or.inr rfl) ⟨rfl, ?_⟩
    refine zrun 1 (zb_f rfl (fun g => ?_) (fun g => ?_))
    · exact zfg [0] (zloc [(0, _)] rfl (zpc 103 (by decide) (by rw [g] at hq; rw [show cond false (tw yl T n k (p + 1)) p = p from rfl, yU_id h13] at hq; exact hq)))
    · exact zrun 7 (ih (p + 1) (yU 32 13 (IF 32 13 + 1) IF) c (by omega) hn (by rw [yU_s, h13, nI_1]) (by rw [yU_yU]; rw [g] at hq; exact hq))
theorem cl_k3b (hn5 : n ≤ 500) (hT : ∀ p, p < n → A 41 p = nI (T p)) {b : Nat} : ∀ (k p : Nat) (IF : Nat → Nat → Int32) (c : Int32), p + k = n → b ≤ p → IF 32 12 = nI n → IF 32 13 = nI p → IF 32 14 = nI b → (∀ w : Int32, (tw yd T n k p - b ≤ 4 → w = yv T n (tw yd T n k p - p) p (IF 32 16)) → zW ε false (d + 1) 142 186 [(0, .ref 32)] [] (zM o ot it (yU 32 16 w (yU 32 13 (nI (tw yd T n k p)) IF)) A AL AD) 0 0 Q) → zW ε false (d + 1) 142 123 [(0, .ref 32), (1, .int c)] [] (zM o ot it IF A AL AD) 0 0 Q := by
  intro k
  induction k with
  | zero =>
    intro p IF c hp hb hn h13 h14 hq
    have e : yd (tb T n p) = false := by rw [show p = n by omega, tb_n]; exact yd_1
    have q1 := hq (IF 32 16) (fun _ => by rw [show tw yd T n 0 p - p = 0 from Nat.sub_self p]; rfl)
    rw [show tw yd T n 0 p = p from rfl, yU_id h13, yU_id rfl] at q1
    refine zrun 4 ⟨⟨Nat.le_of_ble_eq_true rfl, Nat.le_of_ble_eq_true rfl, rfl⟩, ?_⟩
    refine c_matX hn hn5 hT h13 (by omega) ⟨rfl, ?_⟩
    refine zrun 1 ⟨⟨Nat.le_of_ble_eq_true rfl, Nat.le_of_ble_eq_true rfl, rfl⟩, ?_⟩
    refine c_isDigit (Or.inr rfl) ⟨rfl, ?_⟩
    refine zrun 1 (zb_f rfl (fun _ => ?_) (fun g => by rw [e] at g; exact Bool.noConfusion g))
    exact zfg [0] (zloc [(0, _)] rfl (zpc 186 (by decide) q1))
  | succ k ih =>
    intro p IF c hp hb hn h13 h14 hq
    have ht := tw_le (P := yd) (T := T) (n := n) k (p + 1)
    unfold tw at hq
    have s2 : ∀ w v : Int32, yU 32 16 w (yU 32 13 v (yU 32 13 (IF 32 13 + 1) IF)) = yU 32 16 w (yU 32 13 v IF) := fun w v => by rw [yU_yU]
    have s3 : ∀ w v u : Int32, yU 32 16 w (yU 32 13 v (yU 32 13 (IF 32 13 + 1) (yU 32 16 u IF))) = yU 32 16 w (yU 32 13 v IF) := fun w v u => by
      rw [yU_yU]
      funext c j
      by_cases q : c = 32 ∧ j = 16
      · obtain ⟨rfl, rfl⟩ := q
        rw [yU_s, yU_s]
      · rw [yU_n q, yU_n q]
        by_cases q2 : c = 32 ∧ j = 13
        · obtain ⟨rfl, rfl⟩ := q2
          rw [yU_s, yU_s]
        · rw [yU_n q2, yU_n q2, yU_n q]
    refine zrun 4 ⟨⟨Nat.le_of_ble_eq_true rfl, Nat.le_of_ble_eq_true rfl, rfl⟩, ?_⟩
    refine c_matX hn hn5 hT h13 (by omega) ⟨rfl, ?_⟩
    refine zrun 1 ⟨⟨Nat.le_of_ble_eq_true rfl, Nat.le_of_ble_eq_true rfl, rfl⟩, ?_⟩
    refine c_isDigit (Or.inr rfl) ⟨rfl, ?_⟩
    refine zrun 1 (zb_f rfl (fun g => ?_) (fun g => ?_))
    · exact zfg [0] (zloc [(0, _)] rfl (zpc 186 (by decide) (by rw [g] at hq; have q1 := hq (IF 32 16) (fun _ => by show _ = yv T n (p - p) p _; rw [Nat.sub_self]; rfl); rw [show cond false (tw yd T n k (p + 1)) p = p from rfl, yU_id h13, yU_id rfl] at q1; exact q1)))
    · rw [g] at hq
      change ∀ w : Int32, (tw yd T n k (p + 1) - b ≤ 4 → w = yv T n (tw yd T n k (p + 1) - p) p (IF 32 16)) → zW ε false (d + 1) 142 186 [(0, .ref 32)] [] (zM o ot it (yU 32 16 w (yU 32 13 (nI (tw yd T n k (p + 1))) IF)) A AL AD) 0 0 Q at hq
      refine zrun 7 (zb_ge (a := p - b) (b := 4) (show IF 32 13 - IF 32 14 = _ by rw [h13, h14, pk_sub hb]) rfl (by omega) (by omega) (fun g4 => ?_) (fun g4 => ?_))
      · exact zrun 7 (ih (p + 1) (yU 32 13 (IF 32 13 + 1) IF) c (by omega) (by omega) hn (by rw [yU_s, h13, nI_1]) h14 (fun w hw => by rw [s2]; exact hq w (fun z => absurd z (by omega))))
      · refine zrun 9 ⟨⟨Nat.le_of_ble_eq_true rfl, Nat.le_of_ble_eq_true rfl, rfl⟩, ?_⟩
        refine c_matX hn hn5 hT h13 (by omega) ⟨rfl, ?_⟩
        exact zrun 11 (ih (p + 1) (yU 32 13 (IF 32 13 + 1) (yU 32 16 (10 * IF 32 16 + tb T n p - 48) IF)) c (by omega) (by omega) hn (by rw [yU_s, h13, nI_1]) h14 (fun w hw => by rw [s3]; exact hq w (fun z => by rw [hw z, show tw yd T n k (p + 1) - p = (tw yd T n k (p + 1) - (p + 1)) + 1 by omega]; rfl)))
theorem tw_dif {P : Int32 → Bool} {b : Nat} (hbn : b < n) (g : P (tb T n b) = true) : b + 1 ≤ tw P T n (n - b) b := by
  obtain ⟨m, hm⟩ : ∃ m, n - b = m + 1 := ⟨n - b - 1, by omega⟩
  rw [hm]
  unfold tw
  rw [g]
  exact (tw_le m (b + 1)).1
theorem c_token (hT8 : ∀ p, p < n → T p < 2 ^ 31) (hn5 : n ≤ 500) (hT : ∀ p, p < n → A 41 p = nI (T p)) {IF : Nat → Nat → Int32} (hn : IF 32 12 = nI n) {p : Nat} (hp : IF 32 13 = nI p) (hpn : p ≤ n) (hq : ∀ IF', tK T n p IF IF' → Q (.inl none) (zM o ot it (IF') A AL AD)) : zW ε false (d + 1) 142 0 [(0, .ref 32)] [] (zM o ot it IF A AL AD) 0 0 Q := by
  have hb : tkb T n p ≤ n := (tkb_le (T := T) hpn).2
  refine cl_k1b hn5 hT (n - p) p IF (by omega) hn hp ?_
  change zW ε false (d + 1) 142 39 [(0, .ref 32)] [] (zM o ot it (yU 32 13 (nI (tkb T n p)) IF) A AL AD) 0 0 Q
  unfold tK at hq
  generalize tkb T n p = b at hq hb
  have hw := tw_le (P := yd) (T := T) (n := n) (n - b) b
  refine zrun 4 ?_
  refine zrun 4 ⟨⟨Nat.le_of_ble_eq_true rfl, Nat.le_of_ble_eq_true rfl, rfl⟩, ?_⟩
  refine c_matX (IF := yU 32 14 (nI b) (yU 32 13 (nI b) IF)) hn hn5 hT (p := b) rfl (by omega) ⟨rfl, ?_⟩
  refine zrun 3 (zloc [(0, _), (1, _)] rfl ?_)
  refine zrun 1 ⟨(fun g0 => ?_), (fun g0 => ?_)⟩
  · have hbn : b < n := Nat.lt_of_not_le (fun z => g0 (if_neg (by omega)))
    refine zrun 2 ⟨⟨Nat.le_of_ble_eq_true rfl, Nat.le_of_ble_eq_true rfl, rfl⟩, ?_⟩
    refine c_isLetter (Or.inr rfl) ⟨rfl, ?_⟩
    refine zrun 1 (zb_f rfl (fun g1 => ?_) (fun g1 => ?_))
    · refine zrun 2 ⟨⟨Nat.le_of_ble_eq_true rfl, Nat.le_of_ble_eq_true rfl, rfl⟩, ?_⟩
      refine c_isDigit (Or.inr rfl) ⟨rfl, ?_⟩
      refine zrun 1 (zb_f rfl (fun g2 => ?_) (fun g2 => ?_))
      · have he : tke T n b = b + 1 := by unfold tke; rw [if_pos hbn, g1, g2]; rfl
        have hk : tkk T n b = if tb T n b = 59 then 3 else 4 := by unfold tkk; rw [if_pos hbn, g1, g2]; rfl
        rw [hk, he] at hq
        refine zrun 10 ⟨(fun g5 => ?_), (fun g5 => ?_)⟩
        · rw [if_neg (show ¬ tb T n b = 59 from g5)] at hq
          refine zrun 3 (hq (yU 32 15 4 (yU 32 13 (nI b + 1) (yU 32 14 (nI b) (yU 32 13 (nI b) IF)))) ⟨rfl, rfl, nI_1 b, fun z => absurd z (by decide), fun c j q => ?_⟩)
          rw [yU_n (by omega), yU_n (by omega), yU_n (by omega), yU_n (by omega)]
        · rw [if_pos (show tb T n b = 59 from g5)] at hq
          refine zrun 4 (hq (yU 32 15 3 (yU 32 13 (nI b + 1) (yU 32 14 (nI b) (yU 32 13 (nI b) IF)))) ⟨rfl, rfl, nI_1 b, fun z => absurd z (by decide), fun c j q => ?_⟩)
          rw [yU_n (by omega), yU_n (by omega), yU_n (by omega), yU_n (by omega)]
      · refine zrun 3 (cl_k3b hn5 hT (b := b) (n - b) b (yU 32 16 0 (yU 32 14 (nI b) (yU 32 13 (nI b) IF))) _ (by omega) (Nat.le_refl b) hn rfl rfl (fun w hw4 => ?_))
        have hk : tkk T n b = if tw yd T n (n - b) b - b ≤ 4 then 2 else 4 := by unfold tkk; rw [if_pos hbn, g1, g2]; rfl
        have he : tke T n b = tw yd T n (n - b) b := by unfold tke; rw [if_pos hbn, g1, g2]; rfl
        rw [hk, he] at hq
        generalize tw yd T n (n - b) b = e at hq hw hw4
        refine zrun 8 (zb_le (a := e - b) (b := 4) (pk_sub hw.1) rfl (by omega) (by omega) (fun z => ?_) (fun z => ?_))
        · rw [if_pos z] at hq
          refine zrun 4 (hq (yU 32 15 2 (yU 32 16 w (yU 32 13 (nI e) (yU 32 16 0 (yU 32 14 (nI b) (yU 32 13 (nI b) IF)))))) ⟨rfl, rfl, rfl, fun _ => hw4 z, fun c j q => ?_⟩)
          rw [yU_n (by omega), yU_n (by omega), yU_n (by omega), yU_n (by omega), yU_n (by omega), yU_n (by omega)]
        · rw [if_neg (by omega)] at hq
          refine zrun 5 (hq (yU 32 15 4 (yU 32 16 w (yU 32 13 (nI e) (yU 32 16 0 (yU 32 14 (nI b) (yU 32 13 (nI b) IF)))))) ⟨rfl, rfl, rfl, fun z2 => absurd z2 (by decide), fun c j q => ?_⟩)
          rw [yU_n (by omega), yU_n (by omega), yU_n (by omega), yU_n (by omega), yU_n (by omega), yU_n (by omega)]
    · refine cl_k2b hn5 hT (n - b) b (yU 32 14 (nI b) (yU 32 13 (nI b) IF)) _ (by omega) hn rfl ?_
      have hk : tkk T n b = 1 := by unfold tkk; rw [if_pos hbn, g1]; rfl
      have he : tke T n b = tw yl T n (n - b) b := by unfold tke; rw [if_pos hbn, g1]; rfl
      rw [hk, he] at hq
      refine zrun 5 (hq (yU 32 15 1 (yU 32 13 (nI (tw yl T n (n - b) b)) (yU 32 14 (nI b) (yU 32 13 (nI b) IF)))) ⟨rfl, rfl, rfl, fun z => absurd z (by decide), fun c j q => ?_⟩)
      rw [yU_n (by omega), yU_n (by omega), yU_n (by omega), yU_n (by omega)]
  · have hbn : ¬ b < n := fun z => absurd (show tb T n b = -1 from g0) (by unfold tb; rw [if_pos z]; exact zne1 (hT8 b z))
    have hk : tkk T n b = 0 := if_neg hbn
    have he : tke T n b = b := if_neg hbn
    rw [hk, he] at hq
    refine zrun 5 (hq (yU 32 15 0 (yU 32 14 (nI b) (yU 32 13 (nI b) IF))) ⟨rfl, rfl, rfl, fun z => absurd z (by decide), fun c j q => ?_⟩)
    rw [yU_n (by omega), yU_n (by omega), yU_n (by omega)]
end
