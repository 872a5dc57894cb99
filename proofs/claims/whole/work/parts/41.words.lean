/-! Tokens: words, numbers, errors -/
section
variable {ε : Nat × (Nat → Int32)} {al : Bool} {d y pc : Nat} {l : zL} {r : List Value} {h : zH} {uc us : Nat} {Q : zQ}
theorem zW_len {ix a b i : Nat} (hI : zI y pc = some (.invokevirtual ix, 3)) (hm : zml (zcl y) ix = some (7, a, b)) (hi : i ≤ 33) (hs : (r.map fun v => v.category).sum ≤ 8) (hd : 4 ≤ d) (hh : zW ε al d y (pc + 3) l (.int (nI (zsg i).length) :: r) h uc us Q) : zW ε al d y pc l (.ref (1000 + i) :: r) h uc us Q := by
  refine zW_fold _ _ _ _ _ _ _ _ _ _ ?_
  unfold zstep
  rw [hI]
  show zcal (zW ε) al d y pc l (.ref (1000 + i) :: r) h uc us Q (.invokevirtual ix) 3
  unfold zcal
  dsimp only
  rw [hm]
  have e : ((Nat.ble 1000 (1000 + i) && Nat.ble (1000 + i) 1033) && Nat.beq 3 3) = true := by
    rw [Nat.ble_eq_true_of_le (show 1000 ≤ 1000 + i by omega), Nat.ble_eq_true_of_le (show 1000 + i ≤ 1033 by omega)]; rfl
  rw [e, show 1000 + i - 1000 = i by omega]
  exact ⟨⟨hs, hd⟩, hh⟩
theorem zW_chr {ix a b i j : Nat} {x : Int32} (hI : zI y pc = some (.invokevirtual ix, 3)) (hm : zml (zcl y) ix = some (8, a, b)) (hi : i ≤ 33) (hx : x = nI j) (hj : j < (zsg i).length) (hl : (zsg i).length < 2 ^ 31) (hs : (r.map fun v => v.category).sum ≤ 8) (hd : 4 ≤ d) (hh : zW ε al d y (pc + 3) l (.int (nI ((zsg i).getD j 0)) :: r) h uc us Q) : zW ε al d y pc l (.int x :: .ref (1000 + i) :: r) h uc us Q := by
  subst hx
  refine zW_fold _ _ _ _ _ _ _ _ _ _ ?_
  unfold zstep
  rw [hI]
  show zcal (zW ε) al d y pc l (.int (nI j) :: .ref (1000 + i) :: r) h uc us Q (.invokevirtual ix) 3
  unfold zcal
  dsimp only
  rw [hm]
  have e : ((Nat.ble 1000 (1000 + i) && Nat.ble (1000 + i) 1033) && Nat.beq 3 3) = true := by
    rw [Nat.ble_eq_true_of_le (show 1000 ≤ 1000 + i by omega), Nat.ble_eq_true_of_le (show 1000 + i ≤ 1033 by omega)]; rfl
  rw [e, show 1000 + i - 1000 = i by omega, nI_clamp (show j < 2 ^ 31 by omega)]
  exact ⟨⟨hs, hd, vp_in_nI hj (by omega)⟩, hh⟩
end
/-- the word w stands at b -/
def tm (T : Nat → Nat) (n b : Nat) (w : List Nat) : Nat → Nat → Bool
  | 0, _ => true
  | k + 1, j => decide (tb T n (b + j) = nI (w.getD j 0)) && tm T n b w k (j + 1)
def tis (T : Nat → Nat) (n b e : Nat) (w : List Nat) : Bool := decide (e - b = w.length) && tm T n b w w.length 0
section
variable {ε : Nat × (Nat → Int32)} {d : Nat} {Q : zQ} {o ot it : Value} {AL : Nat → Nat → Int64} {AD : Nat → Nat → UInt64} {A IF : Nat → Nat → Int32} {T : Nat → Nat} {n : Nat}
theorem cl_iw (hn5 : n ≤ 500) (hT : ∀ p, p < n → A 3 p &&& 255 = nI (T p)) (hn : IF 2 0 = nI n) {b e i : Nat} (hb : IF 2 5 = nI b) (hbe : b ≤ e) (hen : e ≤ n) (hi : i ≤ 33) (hl : e - b = (zsg i).length) : ∀ (k j : Nat) (c : Int32), j + k = (zsg i).length → c = nI j → Q (.inl (some (.int (zbo (tm T n b (zsg i) k j))))) (zM o ot it IF A AL AD) → zW ε false (d + 4) 70 35 [(0, .ref 2), (1, .ref (1000 + i)), (2, .int c)] [] (zM o ot it IF A AL AD) 0 0 Q := by
  intro k
  induction k with
  | zero =>
    intro j c hj hc hq
    refine zrun 2 (zW_len rfl rfl hi (Nat.le_of_ble_eq_true rfl) (by omega) ?_)
    refine zrun 1 (zb_ge hc rfl (by omega) (by omega) (fun _ => ?_) (fun g => absurd g (by omega)))
    exact zrun 2 ⟨rfl, hq⟩
  | succ k ih =>
    intro j c hj hc hq
    subst hc
    refine zrun 2 (zW_len rfl rfl hi (Nat.le_of_ble_eq_true rfl) (by omega) ?_)
    refine zrun 1 (zb_ge rfl rfl (by omega) (by omega) (fun g => absurd g (by omega)) (fun _ => ?_))
    refine zrun 6 ⟨⟨Nat.zero_le _, Nat.zero_le _, rfl⟩, ?_⟩
    refine c_byteAtX hn hn5 hT (p := b + j) (show IF 2 5 + nI j = _ by rw [hb, nI_add]) (by omega) ⟨rfl, ?_⟩
    refine zrun 2 (zW_chr rfl rfl hi rfl (by omega) (by omega) (Nat.le_of_ble_eq_true rfl) (by omega) ?_)
    unfold tm at hq
    refine zrun 1 ⟨fun g => ?_, fun g => ?_⟩
    · rw [decide_eq_true (show tb T n (b + j) = nI ((zsg i).getD j 0) from g), Bool.true_and] at hq
      exact zrun 2 (ih (j + 1) (nI j + 1) (by omega) (nI_1 j) hq)
    · rw [decide_eq_false (show ¬ tb T n (b + j) = nI ((zsg i).getD j 0) from g), Bool.false_and] at hq
      exact zrun 2 ⟨rfl, hq⟩
theorem c_isWord (hn5 : n ≤ 500) (hT : ∀ p, p < n → A 3 p &&& 255 = nI (T p)) (hn : IF 2 0 = nI n) {b e i : Nat} (hb : IF 2 5 = nI b) (he : IF 2 6 = nI e) (hbe : b ≤ e) (hen : e ≤ n) (hi : i ≤ 33) (hl : (zsg i).length < 2 ^ 31) (h1 : ∀ v : Bool, v = ((decide (IF 2 1 = 0) && decide (IF 2 4 = 1)) && tis T n b e (zsg i)) → Q (.inl (some (.int (zbo v)))) (zM o ot it IF A AL AD)) : zW ε false (d + 4) 70 0 [(0, .ref 2), (1, .ref (1000 + i))] [] (zM o ot it IF A AL AD) 0 0 Q := by
  refine zrun 3 ⟨fun g => ?_, fun g => ?_⟩
  · exact zrun 2 ⟨rfl, h1 false (by rw [decide_eq_false (show ¬ IF 2 1 = 0 from g)]; rfl)⟩
  · have g1 : decide (IF 2 1 = 0) = true := decide_eq_true (show IF 2 1 = 0 from g)
    refine zrun 4 ⟨fun g2 => ?_, fun g2 => ?_⟩
    · exact zrun 2 ⟨rfl, h1 false (by rw [g1, decide_eq_false (show ¬ IF 2 4 = 1 from g2)]; rfl)⟩
    · have g3 : decide (IF 2 4 = 1) = true := decide_eq_true (show IF 2 4 = 1 from g2)
      refine zrun 6 (zW_len rfl rfl hi (Nat.le_of_ble_eq_true rfl) (by omega) ?_)
      refine zrun 1 (zb_eq (a := e - b) (b := (zsg i).length) (show IF 2 6 - IF 2 5 = _ by rw [he, hb, pk_sub hbe]) rfl (by omega) hl (fun q => ?_) (fun q => ?_))
      · refine zrun 2 (zloc [(0, _), (1, _), (2, _)] rfl ?_)
        refine cl_iw hn5 hT hn hb hbe hen hi q (zsg i).length 0 0 (by omega) nI_0.symm (h1 _ ?_)
        rw [g1, g3]
        unfold tis
        rw [decide_eq_true q]
        rfl
      · refine zrun 2 ⟨rfl, h1 false ?_⟩
        rw [g1, g3]
        unfold tis
        rw [decide_eq_false q]
        rfl
theorem c_isNumber (h1 : ∀ v : Bool, v = (decide (IF 2 1 = 0) && decide (IF 2 4 = 2)) → Q (.inl (some (.int (zbo v)))) (zM o ot it IF A AL AD)) : zW ε false d 71 0 [(0, .ref 2)] [] (zM o ot it IF A AL AD) 0 0 Q := by
  refine zrun 3 ⟨fun g => ?_, fun g => ?_⟩
  · exact zrun 2 ⟨rfl, h1 false (by rw [decide_eq_false (show ¬ IF 2 1 = 0 from g)]; rfl)⟩
  · have g1 : decide (IF 2 1 = 0) = true := decide_eq_true (show IF 2 1 = 0 from g)
    refine zrun 4 ⟨fun g2 => ?_, fun g2 => ?_⟩
    · exact zrun 2 ⟨rfl, h1 false (by rw [g1, decide_eq_false (show ¬ IF 2 4 = 2 from g2)]; rfl)⟩
    · exact zrun 3 ⟨rfl, h1 true (by rw [g1, decide_eq_true (show IF 2 4 = 2 from g2)]; rfl)⟩
/-- an error is told once -/
def yF (pos code : Int32) (IF : Nat → Nat → Int32) : Nat → Nat → Int32 := if IF 2 1 = 0 then yU 2 2 pos (yU 2 1 code IF) else IF
theorem c_failAt {pos code : Int32} (hq : Q (.inl none) (zM o ot it (yF pos code IF) A AL AD)) : zW ε false d 69 0 [(0, .ref 2), (1, .int pos), (2, .int code)] [] (zM o ot it IF A AL AD) 0 0 Q := by
  unfold yF at hq
  refine zrun 3 ⟨fun g => ?_, fun g => ?_⟩
  · rw [if_neg (show ¬ IF 2 1 = 0 from g)] at hq
    exact zrun 1 hq
  · rw [if_pos (show IF 2 1 = 0 from g)] at hq
    exact zrun 7 hq
theorem c_fail {code : Int32} (hq : Q (.inl none) (zM o ot it (yF (IF 2 5) code IF) A AL AD)) : zW ε false (d + 1) 67 0 [(0, .ref 2), (1, .int code)] [] (zM o ot it IF A AL AD) 0 0 Q := by
  refine zrun 5 ⟨⟨Nat.zero_le _, Nat.zero_le _, rfl⟩, ?_⟩
  refine c_failAt ⟨rfl, ?_⟩
  exact zrun 1 hq
theorem c_failAtTaken {code : Int32} (hq : Q (.inl none) (zM o ot it (yF (IF 2 7) code IF) A AL AD)) : zW ε false (d + 1) 68 0 [(0, .ref 2), (1, .int code)] [] (zM o ot it IF A AL AD) 0 0 Q := by
  refine zrun 5 ⟨⟨Nat.zero_le _, Nat.zero_le _, rfl⟩, ?_⟩
  refine c_failAt ⟨rfl, ?_⟩
  exact zrun 1 hq
end
