/-! the reference: words, figures, ends -/
theorem yF_t {pos code : Int32} {I : Nat → Nat → Int32} (h : I 2 1 = 0) : yF pos code I = yU 2 2 pos (yU 2 1 code I) := if_pos h
theorem yF_f {pos code : Int32} {I : Nat → Nat → Int32} (h : ¬ I 2 1 = 0) : yF pos code I = I := if_neg h
theorem yF_1 {pos code : Int32} {I : Nat → Nat → Int32} (hc : ¬ code = 0) : ¬ yF pos code I 2 1 = 0 := by
  by_cases h : I 2 1 = 0
  · rw [yF_t h]; exact hc
  · rw [yF_f h]; exact h
theorem yNu_iff {I : Nat → Nat → Int32} : yNu I = true ↔ I 2 1 = 0 ∧ I 2 4 = 2 := by unfold yNu; simp
theorem yIs_w {T : Nat → Nat} {n : Nat} {w : List Nat} {I : Nat → Nat → Int32} (h : ¬ I 2 1 = 0) : yIs T n w I = false := by unfold yIs; simp [h]
theorem yIs_k {T : Nat → Nat} {n : Nat} {w : List Nat} {I : Nat → Nat → Int32} (h : yIs T n w I = true) : I 2 1 = 0 := by
  by_cases e : I 2 1 = 0
  · exact e
  · rw [yIs_w e] at h; exact Bool.noConfusion h
theorem yN_w {T : Nat → Nat} {n : Nat} {lo hi : Int32} {I : Nat → Nat → Int32} (h : ¬ yNu I = true) : yN T n lo hi I = (0, yF (I 2 5) 1 I) := if_neg h
theorem yN_o {T : Nat → Nat} {n : Nat} {lo hi : Int32} {I : Nat → Nat → Int32} (h : yNu I = true) (h2 : yV T n I < lo ∨ ¬ yV T n I ≤ hi) : yN T n lo hi I = (0, yF (I 2 5) 2 I) := by unfold yN; rw [if_pos h, if_pos h2]
theorem yN_t {T : Nat → Nat} {n : Nat} {lo hi : Int32} {I : Nat → Nat → Int32} (h : yNu I = true) (h2 : ¬ (yV T n I < lo ∨ ¬ yV T n I ≤ hi)) : yN T n lo hi I = (yV T n I, yT T n I) := by unfold yN; rw [if_pos h, if_neg h2]
/-- a number that was right -/
theorem yN_ok {T : Nat → Nat} {n : Nat} {lo hi : Int32} {I : Nat → Nat → Int32} (h : (yN T n lo hi I).2 2 1 = 0) : yNu I = true ∧ ¬ yV T n I < lo ∧ yV T n I ≤ hi ∧ yN T n lo hi I = (yV T n I, yT T n I) := by
  by_cases e : yNu I = true
  · by_cases e2 : yV T n I < lo ∨ ¬ yV T n I ≤ hi
    · rw [yN_o e e2] at h; exact absurd h (yF_1 (by decide))
    · refine ⟨e, fun z => e2 (Or.inl z), ?_, yN_t e e2⟩
      by_cases z : yV T n I ≤ hi
      · exact z
      · exact absurd (Or.inr z) e2
  · rw [yN_w e] at h; exact absurd h (yF_1 (by decide))
theorem yT_4 {T : Nat → Nat} {n : Nat} {I : Nat → Nat → Int32} {c j : Nat} (h : ¬ (c = 2 ∧ (j = 4 ∨ j = 5 ∨ j = 6 ∨ j = 7))) : yT T n I c j = I c j := by
  unfold yT ytk
  rw [yU_n (fun q => h ⟨q.1, by omega⟩), yU_n (fun q => h ⟨q.1, by omega⟩), yU_n (fun q => h ⟨q.1, by omega⟩), yU_n (fun q => h ⟨q.1, by omega⟩)]
theorem yN_4 {T : Nat → Nat} {n : Nat} {lo hi : Int32} {I : Nat → Nat → Int32} {j : Nat} : (yN T n lo hi I).2 4 j = I 4 j := by
  unfold yN
  split
  · split
    · exact yF_ne (by omega)
    · exact yT_4 (T := T) (n := n) (I := I) (c := 4) (j := j) (by omega)
  · exact yF_ne (by omega)
theorem ySe_4 {T : Nat → Nat} {n : Nat} {I : Nat → Nat → Int32} {j : Nat} : ySe T n I 4 j = I 4 j := by
  unfold ySe
  split
  · exact yT_4 (by omega)
  · exact yF_ne (by omega)
theorem ySe_ok {T : Nat → Nat} {n : Nat} {I : Nat → Nat → Int32} (h : ySe T n I 2 1 = 0) : I 2 1 = 0 ∧ ySe T n I = yT T n I := by
  unfold ySe at h ⊢
  by_cases e : I 2 1 = 0 ∧ I 2 4 = 3
  · rw [if_pos e]; exact ⟨e.1, rfl⟩
  · rw [if_neg e] at h; exact absurd h (yF_1 (by decide))
section
variable {ε : Nat × (Nat → Int32)} {d : Nat} {Q : zQ} {o ot it : Value} {A : Nat → Nat → Int32} {AL : Nat → Nat → Int64} {AD : Nat → Nat → UInt64} {T : Nat → Nat} {n : Nat} {I IF : Nat → Nat → Int32}
theorem c_isWrong (hq : ∀ v : Bool, (v = true ↔ ¬ IF 32 17 = 0) → Q (.inl (some (.int (zbo v)))) (zM o ot it IF A AL AD)) : zW ε false d 143 0 [(0, .ref 32)] [] (zM o ot it IF A AL AD) 0 0 Q := by
  refine zrun 3 ⟨(fun g => ?_), (fun g => ?_)⟩
  · exact zrun 2 (⟨rfl, hq false ⟨fun q => Bool.noConfusion q, fun q => absurd g q⟩⟩)
  · exact zrun 3 (⟨rfl, hq true ⟨fun _ => g, fun _ => rfl⟩⟩)
theorem c_mfails (hR : tRf T n I IF) {code : Int32} (hc : ¬ code = 0) (hq : ∀ IF', tRf T n (yF (I 2 5) code I) IF' → tF IF IF' → Q (.inl none) (zM o ot it IF' A AL AD)) : zW ε false (d + 1) 144 0 [(0, .ref 32), (1, .int code)] [] (zM o ot it IF A AL AD) 0 0 Q := by
  refine zrun 2 ⟨⟨Nat.le_of_ble_eq_true rfl, Nat.le_of_ble_eq_true rfl, rfl⟩, ?_⟩
  refine c_isWrong (fun v hv => ⟨rfl, ?_⟩)
  refine zrun 1 (zb_f rfl (fun g => ?_) (fun g => ?_))
  · have e : I 2 1 = 0 := by
      by_cases z : IF 32 17 = 0
      · rw [← hR.2.1]; exact z
      · rw [hv.mpr z] at g; exact Bool.noConfusion g
    exact zrun 8 (hq (yU 32 18 (IF 32 14) (yU 32 17 code IF)) (by rw [yF_t e]; exact ⟨hR.1, rfl, (hR.2.2.2.2 e).2.1, yF_t (pos := I 2 5) (code := code) e ▸ yOk_F hR.2.2.2.1, fun z => absurd z hc⟩) (tF_t (tF_u (by omega)) (tF_u (by omega))))
  · exact zrun 1 (hq IF (by rw [yF_f (by rw [← hR.2.1]; exact hv.mp g)]; exact hR) (tF_r IF))
theorem c_mtoken (hn5 : n ≤ 500) (hT : ∀ p, p < n → A 41 p = nI (T p)) (hT8 : ∀ p, p < n → T p < 2 ^ 31) (hR : tRf T n I IF) (h0 : I 2 1 = 0) (hq : ∀ IF', tRf T n (yT T n I) IF' → tF IF IF' → Q (.inl none) (zM o ot it IF' A AL AD)) : zW ε false (d + 1) 142 0 [(0, .ref 32)] [] (zM o ot it IF A AL AD) 0 0 Q := by
  have hO := hR.2.2.2.1
  have h3 := hR.2.2.2.2 h0
  have hT' := yOk_T (T := T) hn5 hO
  refine c_token hT8 hn5 hT hR.1 (p := yE I) (h3.2.2.1.trans hO.2.2.1) hO.2.2.2.2 (fun IF' hk => hq IF' ⟨?_, ?_, ?_, hT'.1, fun _ => ⟨hk.1, hk.2.1, hk.2.2.1, fun z => ?_⟩⟩ (fun c j q => hk.2.2.2.2 c j (by omega)))
  · rw [hk.2.2.2.2 32 12 (by omega)]; exact hR.1
  · rw [hk.2.2.2.2 32 17 (by omega)]; exact hR.2.1
  · rw [hk.2.2.2.2 32 18 (by omega)]; exact hR.2.2.1
  · rw [hk.2.2.2.1 z]
    unfold yV
    rw [hT'.2.1, hT'.2.2]
theorem cl_miw (hn5 : n ≤ 500) (hT : ∀ p, p < n → A 41 p = nI (T p)) (hT8 : ∀ p, p < n → T p < 2 ^ 31) (hR : tRf T n I IF) (h0 : I 2 1 = 0) {i : Nat} (hi : i ≤ 33) (hl : yE I - yB I = (zsg i).length) : ∀ (k j : Nat) (c : Int32), j + k = (zsg i).length → c = nI j → Q (.inl (some (.int (zbo (tm T n (yB I) (zsg i) k j))))) (zM o ot it IF A AL AD) → zW ε false (d + 4) 145 35 [(0, .ref 32), (1, .ref (1000 + i)), (2, .int c)] [] (zM o ot it IF A AL AD) 0 0 Q := by
  have hO := hR.2.2.2.1
  have h3 := hR.2.2.2.2 h0
  have hbe := hO.2.2.2
  intro k
  induction k with
  | zero =>
    intro j c hj hc hq
    refine zrun 2 ?_
    refine zW_len rfl rfl hi (Nat.le_of_ble_eq_true rfl) (by omega) ?_
    refine zrun 1 (zb_ge hc rfl (by omega) (by omega) (fun _ => ?_) (fun g => absurd g (by omega)))
    exact zrun 2 (⟨rfl, hq⟩)
  | succ k ih =>
    intro j c hj hc hq
    subst hc
    unfold tm at hq
    refine zrun 2 ?_
    refine zW_len rfl rfl hi (Nat.le_of_ble_eq_true rfl) (by omega) ?_
    refine zrun 1 (zb_ge rfl rfl (by omega) (by omega) (fun g => absurd g (by omega)) (fun _ => ?_))
    refine zrun 6 ⟨⟨Nat.le_of_ble_eq_true rfl, Nat.le_of_ble_eq_true rfl, rfl⟩, ?_⟩
    refine c_matX hR.1 hn5 hT (p := yB I + j) (show IF 32 14 + nI j = _ by rw [h3.2.1, hO.2.1, nI_add]) (by omega) ⟨rfl, ?_⟩
    refine zrun 2 ?_
    refine zW_chr rfl rfl hi rfl (by omega) (by omega) (Nat.le_of_ble_eq_true rfl) (by omega) ?_
    refine zrun 1 ⟨(fun g => ?_), (fun g => ?_)⟩
    · exact zrun 2 (zloc [(0, _), (1, _), (2, _)] rfl (ih (j + 1) (nI j + 1) (by omega) (nI_1 j) (by rw [decide_eq_true (show tb T n (yB I + j) = nI ((zsg i).getD j 0) from g), Bool.true_and] at hq; exact hq)))
    · exact zrun 2 (⟨rfl, by rw [decide_eq_false (show ¬ tb T n (yB I + j) = nI ((zsg i).getD j 0) from g)] at hq; exact hq⟩)
theorem c_misWord (hn5 : n ≤ 500) (hT : ∀ p, p < n → A 41 p = nI (T p)) (hT8 : ∀ p, p < n → T p < 2 ^ 31) (hR : tRf T n I IF) {i : Nat} (hi : i ≤ 33) (hl : (zsg i).length < 2 ^ 31) (hq : Q (.inl (some (.int (zbo (yIs T n (zsg i) I))))) (zM o ot it IF A AL AD)) : zW ε false (d + 4) 145 0 [(0, .ref 32), (1, .ref (1000 + i))] [] (zM o ot it IF A AL AD) 0 0 Q := by
  refine zrun 2 ⟨⟨Nat.le_of_ble_eq_true rfl, Nat.le_of_ble_eq_true rfl, rfl⟩, ?_⟩
  refine c_isWrong (fun v hv => ⟨rfl, ?_⟩)
  refine zrun 1 (zb_t rfl (fun g => ?_) (fun g => ?_))
  · exact zrun 2 (⟨rfl, by rw [yIs_w (by rw [← hR.2.1]; exact hv.mp g)] at hq; exact hq⟩)
  · have h0 : I 2 1 = 0 := by
      by_cases z : IF 32 17 = 0
      · rw [← hR.2.1]; exact z
      · rw [hv.mpr z] at g; exact Bool.noConfusion g
    have h3 := hR.2.2.2.2 h0
    have hO := hR.2.2.2.1
    have hbe := hO.2.2.2
    refine zrun 4 ⟨(fun g2 => ?_), (fun g2 => ?_)⟩
    · exact zrun 2 (⟨rfl, by rw [show yIs T n (zsg i) I = false by unfold yIs; rw [decide_eq_false (show ¬ I 2 4 = 1 by rw [← h3.1]; exact g2), Bool.and_false, Bool.false_and]] at hq; exact hq⟩)
    · refine zrun 6 ?_
      refine zW_len rfl rfl hi (Nat.le_of_ble_eq_true rfl) (by omega) ?_
      refine zrun 1 (zb_eq (a := yE I - yB I) (b := (zsg i).length) (show IF 32 13 - IF 32 14 = _ by rw [h3.2.2.1, h3.2.1, hO.2.1, hO.2.2.1, pk_sub hbe.1]) rfl (by omega) hl (fun g3 => ?_) (fun g3 => ?_))
      · exact zrun 2 (zloc [(0, _), (1, _), (2, _)] rfl (cl_miw hn5 hT hT8 hR h0 hi g3 (zsg i).length 0 0 (by omega) nI_0.symm (by rw [show yIs T n (zsg i) I = tm T n (yB I) (zsg i) (zsg i).length 0 by unfold yIs tis; rw [decide_eq_true h0, decide_eq_true (show I 2 4 = 1 by rw [← h3.1]; exact g2), decide_eq_true g3]; rfl] at hq; exact hq)))
      · exact zrun 2 (⟨rfl, by rw [show yIs T n (zsg i) I = false by unfold yIs tis; rw [decide_eq_false g3, Bool.false_and, Bool.and_false]] at hq; exact hq⟩)
theorem c_mtakesWord (hn5 : n ≤ 500) (hT : ∀ p, p < n → A 41 p = nI (T p)) (hT8 : ∀ p, p < n → T p < 2 ^ 31) (hR : tRf T n I IF) {i : Nat} (hi : i ≤ 33) (hl : (zsg i).length < 2 ^ 31) (hq : ∀ IF', tRf T n (cond (yIs T n (zsg i) I) (yT T n I) I) IF' → tF IF IF' → Q (.inl (some (.int (zbo (yIs T n (zsg i) I))))) (zM o ot it IF' A AL AD)) : zW ε false (d + 5) 146 0 [(0, .ref 32), (1, .ref (1000 + i))] [] (zM o ot it IF A AL AD) 0 0 Q := by
  refine zrun 3 ⟨⟨Nat.le_of_ble_eq_true rfl, Nat.le_of_ble_eq_true rfl, rfl⟩, ?_⟩
  refine c_misWord hn5 hT hT8 hR hi hl ⟨rfl, ?_⟩
  refine zrun 2 (zloc [(0, _), (1, _), (2, _)] rfl ?_)
  refine zrun 1 (zb_f rfl (fun g => ?_) (fun g => ?_))
  · exact zrun 2 (⟨zbo_n _, hq IF (by rw [g]; exact hR) (tF_r IF)⟩)
  · refine zrun 2 ⟨⟨Nat.le_of_ble_eq_true rfl, Nat.le_of_ble_eq_true rfl, rfl⟩, ?_⟩
    refine c_mtoken hn5 hT hT8 hR (yIs_k g) (fun IF' r f => ⟨rfl, ?_⟩)
    exact zrun 2 (⟨zbo_n _, hq IF' (by rw [g]; exact r) f⟩)
theorem c_figure (hn5 : n ≤ 500) (hT : ∀ p, p < n → A 41 p = nI (T p)) (hT8 : ∀ p, p < n → T p < 2 ^ 31) (hR : tRf T n I IF) {lo hi : Int32} (hq : ∀ (v : Int32) IF', tRf T n (yN T n lo hi I).2 IF' → ((yN T n lo hi I).2 2 1 = 0 → v = (yN T n lo hi I).1) → tF IF IF' → Q (.inl (some (.int v))) (zM o ot it IF' A AL AD)) : zW ε false (d + 3) 147 0 [(0, .ref 32), (1, .int lo), (2, .int hi)] [] (zM o ot it IF A AL AD) 0 0 Q := by
  have eW : ¬ IF 32 17 = 0 → yN T n lo hi I = (0, I) := fun z => by
    have e : ¬ I 2 1 = 0 := by rw [← hR.2.1]; exact z
    rw [yN_w (fun q => e (yNu_iff.mp q).1), yF_f e]
  refine zrun 2 ⟨⟨Nat.le_of_ble_eq_true rfl, Nat.le_of_ble_eq_true rfl, rfl⟩, ?_⟩
  refine c_isWrong (fun v hv => ⟨rfl, ?_⟩)
  refine zrun 1 (zb_f rfl (fun g => ?_) (fun g => ?_))
  · have h0 : I 2 1 = 0 := by
      by_cases z : IF 32 17 = 0
      · rw [← hR.2.1]; exact z
      · rw [hv.mpr z] at g; exact Bool.noConfusion g
    have h3 := hR.2.2.2.2 h0
    refine zrun 4 ⟨(fun g2 => ?_), (fun g2 => ?_)⟩
    · have hnu : yNu I = true := yNu_iff.mpr ⟨h0, by rw [← h3.1]; exact g2⟩
      have hnv : IF 32 16 = yV T n I := h3.2.2.2 (by rw [← h3.1]; exact g2)
      refine zrun 5 ⟨⟨Nat.le_of_ble_eq_true rfl, Nat.le_of_ble_eq_true rfl, rfl⟩, ?_⟩
      refine c_isIn (fun w hw => ⟨rfl, ?_⟩)
      refine zrun 1 (zb_t rfl (fun g3 => ?_) (fun g3 => ?_))
      · have hx : w = true ↔ ¬ IF 32 16 < lo ∧ ¬ hi < IF 32 16 := hw
        have e2 : ¬ (yV T n I < lo ∨ ¬ yV T n I ≤ hi) := fun z => by
          have q := hx.mp g3
          rw [hnv] at q
          exact z.elim q.1 (fun z2 => z2 (i32_nlt q.2))
        refine zrun 4 (zloc [(0, _), (1, _), (2, _), (3, _)] rfl ?_)
        refine zrun 1 ⟨⟨Nat.le_of_ble_eq_true rfl, Nat.le_of_ble_eq_true rfl, rfl⟩, ?_⟩
        refine c_isWrong (fun u hu => ⟨rfl, ?_⟩)
        refine zrun 1 (zb_t rfl (fun g4 => absurd (hR.2.1.trans h0) (hu.mp g4)) (fun _ => ?_))
        refine zrun 2 ⟨⟨Nat.le_of_ble_eq_true rfl, Nat.le_of_ble_eq_true rfl, rfl⟩, ?_⟩
        refine c_mtoken hn5 hT hT8 hR h0 (fun IF' r f => ⟨rfl, ?_⟩)
        exact zrun 2 (hq _ IF' (by rw [yN_t hnu e2]; exact r) (fun _ => by rw [yN_t hnu e2]; exact hnv) f)
      · refine zrun 3 ⟨⟨Nat.le_of_ble_eq_true rfl, Nat.le_of_ble_eq_true rfl, rfl⟩, ?_⟩
        refine c_mfails hR (by decide) (fun IF' r f => ⟨rfl, ?_⟩)
        have hx : w = true ↔ ¬ IF 32 16 < lo ∧ ¬ hi < IF 32 16 := hw
        have e2 : yV T n I < lo ∨ ¬ yV T n I ≤ hi := by
          by_cases z : yV T n I < lo
          · exact Or.inl z
          · refine Or.inr (fun z2 => ?_)
            have q := hx.mpr (by rw [hnv]; exact ⟨z, fun z3 => i32_ngt z3 z2⟩)
            rw [q] at g3
            exact Bool.noConfusion g3
        have r2 : tRf T n (yN T n lo hi I).2 IF' := by rw [yN_o hnu e2]; exact r
        have er : ¬ IF' 32 17 = 0 := by rw [r.2.1]; exact yF_1 (by decide)
        refine zrun 4 (zloc [(0, _), (1, _), (2, _), (3, _)] rfl ?_)
        refine zrun 1 ⟨⟨Nat.le_of_ble_eq_true rfl, Nat.le_of_ble_eq_true rfl, rfl⟩, ?_⟩
        refine c_isWrong (fun u hu => ⟨rfl, ?_⟩)
        refine zrun 1 (zb_t rfl (fun _ => ?_) (fun g4 => by rw [hu.mpr er] at g4; exact Bool.noConfusion g4))
        exact zrun 2 (hq _ IF' r2 (fun z => absurd (r2.2.1.trans z) er) f)
    · refine zrun 3 ⟨⟨Nat.le_of_ble_eq_true rfl, Nat.le_of_ble_eq_true rfl, rfl⟩, ?_⟩
      refine c_mfails hR (by decide) (fun IF' r f => ⟨rfl, ?_⟩)
      refine zrun 1 ?_
      have e1 : ¬ yNu I = true := fun z => g2 (h3.1.trans (yNu_iff.mp z).2)
      have r2 : tRf T n (yN T n lo hi I).2 IF' := by rw [yN_w e1]; exact r
      have er : ¬ IF' 32 17 = 0 := by rw [r.2.1]; exact yF_1 (by decide)
      refine zrun 4 (zloc [(0, _), (1, _), (2, _), (3, _)] rfl ?_)
      refine zrun 1 ⟨⟨Nat.le_of_ble_eq_true rfl, Nat.le_of_ble_eq_true rfl, rfl⟩, ?_⟩
      refine c_isWrong (fun u hu => ⟨rfl, ?_⟩)
      refine zrun 1 (zb_t rfl (fun _ => ?_) (fun g4 => by rw [hu.mpr er] at g4; exact Bool.noConfusion g4))
      exact zrun 2 (hq _ IF' r2 (fun z => absurd (r2.2.1.trans z) er) f)
  · exact zrun 2 (hq lo IF (by rw [eW (hv.mp g)]; exact hR) (fun z => by rw [eW (hv.mp g)] at z; exact absurd (hR.2.1.trans z) (hv.mp g)) (tF_r IF))
theorem c_ends (hn5 : n ≤ 500) (hT : ∀ p, p < n → A 41 p = nI (T p)) (hT8 : ∀ p, p < n → T p < 2 ^ 31) (hR : tRf T n I IF) (hq : ∀ IF', tRf T n (ySe T n I) IF' → tF IF IF' → Q (.inl none) (zM o ot it IF' A AL AD)) : zW ε false (d + 2) 148 0 [(0, .ref 32)] [] (zM o ot it IF A AL AD) 0 0 Q := by
  have eW : ¬ I 2 1 = 0 → ySe T n I = I := fun z => by
    unfold ySe
    rw [if_neg (fun q => z q.1), yF_f z]
  refine zrun 4 ⟨(fun g => ?_), (fun g => ?_)⟩
  · refine zrun 2 ⟨⟨Nat.le_of_ble_eq_true rfl, Nat.le_of_ble_eq_true rfl, rfl⟩, ?_⟩
    refine c_isWrong (fun u hu => ⟨rfl, ?_⟩)
    refine zrun 1 (zb_t rfl (fun g2 => ?_) (fun g2 => ?_))
    · exact zrun 1 (hq IF (by rw [eW (by rw [← hR.2.1]; exact hu.mp g2)]; exact hR) (tF_r IF))
    · have h0 : I 2 1 = 0 := by
        by_cases z : IF 32 17 = 0
        · rw [← hR.2.1]; exact z
        · rw [hu.mpr z] at g2; exact Bool.noConfusion g2
      refine zrun 2 ⟨⟨Nat.le_of_ble_eq_true rfl, Nat.le_of_ble_eq_true rfl, rfl⟩, ?_⟩
      refine c_mtoken hn5 hT hT8 hR h0 (fun IF' r f => ⟨rfl, ?_⟩)
      exact zrun 1 (hq IF' (by unfold ySe; rw [if_pos ⟨h0, (hR.2.2.2.2 h0).1.symm.trans g⟩]; exact r) f)
  · refine zrun 3 ⟨⟨Nat.le_of_ble_eq_true rfl, Nat.le_of_ble_eq_true rfl, rfl⟩, ?_⟩
    refine c_mfails hR (by decide) (fun IF' r f => ⟨rfl, ?_⟩)
    refine zrun 2 ⟨⟨Nat.le_of_ble_eq_true rfl, Nat.le_of_ble_eq_true rfl, rfl⟩, ?_⟩
    refine c_isWrong (fun u hu => ⟨rfl, ?_⟩)
    refine zrun 1 (zb_t rfl (fun _ => ?_) (fun g4 => by rw [hu.mpr (by rw [r.2.1]; exact yF_1 (by decide))] at g4; exact Bool.noConfusion g4))
    exact zrun 1 (hq IF' (by unfold ySe; rw [if_neg (fun z => g ((hR.2.2.2.2 z.1).1.trans z.2))]; exact r) f)
end
