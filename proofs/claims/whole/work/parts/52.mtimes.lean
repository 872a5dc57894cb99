/-! the reference: the times -/
/-- the row of the orders, of departures, of arrivals: planned or actual -/
def mo (ac : Bool) : Nat := cond ac 37 36
def mu (ac : Bool) : Nat := cond ac 44 42
def mi (ac : Bool) : Nat := cond ac 45 43
abbrev zMm (ac : Bool) (IF A : Nat → Nat → Int32) (AL : Nat → Nat → Int64) (AD : Nat → Nat → UInt64) : zH := zM (.ref (mo ac)) (.ref (mu ac)) (.ref (mi ac)) IF A AL AD
/-- the train before t over segment g -/
def gBl (L p : Nat → Nat) (g t : Nat) : Nat → Nat → Option Nat → Option Nat
  | 0, _, _ => none
  | n + 1, k, f => if p (8 * g + k) = t then f else gBl L p g t n (k + 1) (cond (gD L (p (8 * g + k)) g) (some (p (8 * g + k))) f)
def gB (L p : Nat → Nat) (g t : Nat) : Option Nat := gBl L p g t (L 1) 0 none
def mA1 (ac : Bool) (A : Nat → Nat → Int32) (L : Nat → Nat) (t s : Nat) : Int32 := A (mu ac) (8 * t + (s - 1)) + nI (L (13 + (s - 1)) * tr L t 3) + cond ac (A 40 (8 * t + s)) (A 35 (7 * t + s - 1))
def mA2 (ac : Bool) (A : Nat → Nat → Int32) (L : Nat → Nat) (t s : Nat) : Int32 := cond ac (zmx (mA1 ac A L t s) (A 43 (8 * t + s))) (mA1 ac A L t s)
def mA3 (ac : Bool) (A : Nat → Nat → Int32) (L : Nat → Nat) (t s : Nat) : Option Nat → Int32
  | none => mA2 ac A L t s
  | some o => zmx (mA2 ac A L t s) (A (mi ac) (8 * o + s) + nI (L 3))
def mA4 (ac : Bool) (A : Nat → Nat → Int32) (L : Nat → Nat) (t s : Nat) : Option Nat → Int32
  | none => mA3 ac A L t s none
  | some o => if L (5 + s) = 0 ∧ gD L o s = true then zmx (mA3 ac A L t s (some o)) (A (mu ac) (8 * o + s) + nI (L 3)) else mA3 ac A L t s (some o)
def mAr (ac : Bool) (L p : Nat → Nat) (t s : Nat) (A : Nat → Nat → Int32) : Nat → Nat → Int32 := cond (gA L t s) (va_up A (mi ac) (upd (A (mi ac)) (8 * t + s) (mA4 ac A L t s (gB L p (s - 1) t)))) A
def mLt (ac : Bool) (A : Nat → Nat → Int32) (t s : Nat) : Int32 := cond ac (A 39 (8 * t + s)) 0
def mD0 (ac : Bool) (A : Nat → Nat → Int32) (L : Nat → Nat) (t s : Nat) : Int32 := if s = tr L t 0 then nI (tr L t 2) else A (mi ac) (8 * t + s) + nI (tr L t 4) + mLt ac A t s
def mD1 (ac : Bool) (A : Nat → Nat → Int32) (L : Nat → Nat) (t s : Nat) : Int32 := cond ac (zmx (mD0 ac A L t s) (A 42 (8 * t + s) + (if s = tr L t 0 then mLt ac A t s else 0))) (mD0 ac A L t s)
def mD2 (ac : Bool) (A : Nat → Nat → Int32) (L : Nat → Nat) (t s : Nat) : Option Nat → Int32
  | none => mD1 ac A L t s
  | some o => zmx (mD1 ac A L t s) (A (mu ac) (8 * o + s) + nI (L 3))
def mDc (ac : Bool) (A : Nat → Nat → Int32) (L : Nat → Nat) (t s : Nat) : Nat → Nat → Int32 → Int32
  | 0, _, v => v
  | n + 1, c, v => mDc ac A L t s n (c + 1) (if lk L c 1 = t ∧ lk L c 2 = s ∧ (ac = true → ¬ A 46 c = 0) then zmx v (A (mi ac) (8 * lk L c 0 + s) + nI (lk L c 3)) else v)
def mDe (ac : Bool) (L p : Nat → Nat) (t s : Nat) (A : Nat → Nat → Int32) : Nat → Nat → Int32 := cond (gD L t s) (va_up A (mu ac) (upd (A (mu ac)) (8 * t + s) (mDc ac A L t s (L 2) 0 (mD2 ac A L t s (gB L p s t))))) A
theorem oI_n (v : Nat) (h : v < 2 ^ 31) : ¬ oI (some v) = -1 := zne1 h
theorem nI8 {x z : Int32} {t s : Nat} (hx : x = nI t) (hz : z = nI s) : (8 : Int32) * x + z = nI (8 * t + s) := by rw [hx, hz, show (8 : Int32) = nI 8 from rfl, pk_mul, nI_add]
theorem nI7 {t s : Nat} (h : 1 ≤ 7 * t + s) : (7 : Int32) * nI t + nI s - 1 = nI (7 * t + s - 1) := by
  rw [show (7 : Int32) = nI 7 from rfl, pk_mul, nI_add]
  obtain ⟨q, e⟩ : ∃ q, 7 * t + s = q + 1 := ⟨7 * t + s - 1, by omega⟩
  rw [e, nI_pred, Nat.add_sub_cancel]
theorem nIp {z : Int32} {s : Nat} (hz : z = nI s) (h : 1 ≤ s) : z - 1 = nI (s - 1) := by
  obtain ⟨q, rfl⟩ : ∃ q, s = q + 1 := ⟨s - 1, by omega⟩
  rw [hz, nI_pred, Nat.add_sub_cancel]
theorem zmx_le {x y : Int32} (h : x ≤ y) : zmx x y = y := by
  unfold zmx
  split
  · rfl
  · next g => rw [Int32.lt_iff_toInt_lt] at g; rw [Int32.le_iff_toInt_le] at h; exact Int32.toInt_inj.mp (by omega)
theorem zmx_gt {x y : Int32} (h : ¬ x ≤ y) : zmx x y = x := by
  unfold zmx
  rw [if_neg (fun g => h (by rw [Int32.lt_iff_toInt_lt] at g; rw [Int32.le_iff_toInt_le]; omega))]
section
variable {ε : Nat × (Nat → Int32)} {al : Bool} {d y pc : Nat} {l : zL} {r : List Value} {h : zH} {uc us : Nat} {Q : zQ}
/-- a load whose value is known -/
theorem zW_ildv {k n N : Nat} {i v : Int32} (hI : zI y pc = some (.iaload, 1)) (hk : h.1[k]? = some (1, N)) (hi : i = nI n) (hn : n < N) (hN : N < 4001) (hv : h.2.2.2.1 k n = v) (hh : zW ε al d y (pc + 1) l (.int v :: r) h uc us Q) : zW ε al d y pc l (.int i :: .ref k :: r) h uc us Q := by
  subst hv
  exact zW_iald hI hk hi hn hN hh
/-- rows of truth values -/
theorem zW_zald {k n N : Nat} {i : Int32} (hI : zI y pc = some (.baload, 1)) (hk : h.1[k]? = some (3, N)) (hi : i = nI n) (hn : n < N) (hN : N < 4001) (hh : zW ε al d y (pc + 1) l (.int (h.2.2.2.1 k n) :: r) h uc us Q) : zW ε al d y pc l (.int i :: .ref k :: r) h uc us Q := by
  subst hi
  refine zW_fold _ _ _ _ _ _ _ _ _ _ ?_
  unfold zstep
  rw [hI]
  show zmem ε (zW ε) al d y pc l (.int (nI n) :: .ref k :: r) h uc us Q .baload 1
  unfold zmem
  dsimp only
  rw [hk]
  exact ⟨vp_in_nI hn (by omega), by rw [nI_clamp (by omega)]; exact hh⟩
theorem zW_zast {k n N : Nat} {i x : Int32} (hI : zI y pc = some (.bastore, 1)) (hk : h.1[k]? = some (3, N)) (hi : i = nI n) (hn : n < N) (hN : N < 4001) (hh : zW ε al d y (pc + 1) l r (zpA h k (upd (h.2.2.2.1 k) n (vp_nar .boolean x))) uc us Q) : zW ε al d y pc l (.int x :: .int i :: .ref k :: r) h uc us Q := by
  subst hi
  refine zW_fold _ _ _ _ _ _ _ _ _ _ ?_
  unfold zstep
  rw [hI]
  show zmem ε (zW ε) al d y pc l (.int x :: .int (nI n) :: .ref k :: r) h uc us Q .bastore 1
  unfold zmem
  dsimp only
  rw [hk]
  exact ⟨vp_in_nI hn (by omega), by rw [nI_clamp (by omega)]; exact hh⟩
end
section
variable {ε : Nat × (Nat → Int32)} {d : Nat} {Q : zQ} {IF A : Nat → Nat → Int32} {AL : Nat → Nat → Int64} {AD : Nat → Nat → UInt64} {L p : Nat → Nat} {ac : Bool}
theorem c_greater {h : zH} {x z : Int32} (hq : Q (.inl (some (.int (zmx x z)))) h) : zW ε false d 158 0 [(0, .int x), (1, .int z)] [] h 0 0 Q := by
  refine zrun 3 ⟨(fun g2 => ?_), (fun g2 => ?_)⟩
  · exact zrun 2 (by rw [zmx_le g2] at hq; exact hq)
  · exact zrun 3 (by rw [zmx_gt g2] at hq; exact hq)
theorem c_ix {h : zH} {x z : Int32} {t s : Nat} (hx : x = nI t) (hz : z = nI s) (hq : Q (.inl (some (.int (nI (8 * t + s))))) h) : zW ε false d 159 0 [(0, .int x), (1, .int z)] [] h 0 0 Q := by
  exact zrun 6 (by rw [← nI8 hx hz] at hq; exact hq)
theorem cl_before (hL : A 33 = lf L) (hl : lB L) (hp : A (mo ac) = lf p) {g t : Nat} (hg : g < 7) (ht : t < 8) (hM : L 1 ≤ 8) (h8 : ∀ k, k < L 1 → p (8 * g + k) < 8) : ∀ (n k : Nat) (f : Option Nat) (c : Int32), k + n = L 1 → c = nI k → Q (.inl (some (.int (oI (gBl L p g t n k f))))) (zMm ac IF A AL AD) → zW ε false (d + 2) 160 5 [(0, .ref 32), (1, .int (nI g)), (2, .int (nI t)), (3, .int (oI f)), (4, .int c)] [] (zMm ac IF A AL AD) 0 0 Q := by
  intro n
  induction n with
  | zero =>
    intro k f c hk hc hq
    cases ac
    all_goals
      refine zrun 4 ?_
      refine zW_ildv (n := 1) rfl rfl rfl (by decide) (by decide) (lf_at hL 1) ?_
      refine zrun 1 (zb_ge hc rfl (by omega) (Nat.lt_trans (hl _ (by omega)) (by decide)) (fun _ => ?_) (fun q => absurd q (by omega)))
      exact zrun 2 (hq)
  | succ n ih =>
    intro k f c hk hc hq
    subst hc
    have h8k := h8 k (by omega)
    unfold gBl at hq
    cases ac
    all_goals
      refine zrun 4 ?_
      refine zW_ildv (n := 1) rfl rfl rfl (by decide) (by decide) (lf_at hL 1) ?_
      refine zrun 1 (zb_ge rfl rfl (by omega) (Nat.lt_trans (hl _ (by omega)) (by decide)) (fun q => absurd q (by omega)) (fun _ => ?_))
      refine zrun 7 ?_
      refine zW_ildv (n := 8 * g + k) rfl rfl (nI8 rfl rfl) (by omega) (by decide) (lf_at hp _) ?_
      refine zrun 3 (zloc [(0, _), (1, _), (2, _), (3, _), (4, _), (5, _)] rfl ?_)
      refine zrun 1 (zb_ne rfl rfl (by omega) (by omega) (fun g1 => ?_) (fun g1 => ?_))
      · rw [if_neg g1] at hq
        refine zrun 4 ⟨⟨Nat.le_of_ble_eq_true rfl, Nat.le_of_ble_eq_true rfl, rfl⟩, ?_⟩
        refine c_mdep hL hl rfl rfl h8k (by omega) ⟨rfl, ?_⟩
        refine zrun 1 (zb_f rfl (fun g2 => ?_) (fun g2 => ?_))
        · exact zrun 2 (zfg [0, 1, 2, 3, 4] (zloc [(0, _), (1, _), (2, _), (3, _), (4, _)] rfl (ih (k + 1) f (nI k + 1) (by omega) (nI_1 k) (by rw [g2] at hq; exact hq))))
        · exact zrun 4 (zfg [0, 1, 2, 3, 4] (zloc [(0, _), (1, _), (2, _), (3, _), (4, _)] rfl (ih (k + 1) (some (p (8 * g + k))) (nI k + 1) (by omega) (nI_1 k) (by rw [g2] at hq; exact hq))))
      · exact zrun 2 (by rw [if_pos g1] at hq; exact hq)
theorem c_before (hL : A 33 = lf L) (hl : lB L) (hp : A (mo ac) = lf p) {x z : Int32} {g t : Nat} (hx : x = nI g) (hz : z = nI t) (hg : g < 7) (ht : t < 8) (hM : L 1 ≤ 8) (h8 : ∀ k, k < L 1 → p (8 * g + k) < 8) (hq : Q (.inl (some (.int (oI (gB L p g t))))) (zMm ac IF A AL AD)) : zW ε false (d + 2) 160 0 [(0, .ref 32), (1, .int x), (2, .int z)] [] (zMm ac IF A AL AD) 0 0 Q := by
  subst hx
  subst hz
  exact zrun 4 (zloc [(0, _), (1, _), (2, _), (3, _), (4, _)] rfl (cl_before hL hl hp hg ht hM h8 (L 1) 0 none 0 (by omega) nI_0.symm hq))
theorem c_runningOf {o ot it : Value} (hL : A 33 = lf L) {x z : Int32} {t s : Nat} (hx : x = nI t) (hz : z = nI s) (ht : t < 8) (hs : s < 7) (hq : Q (.inl (some (.int (nI (L (13 + s) * tr L t 3))))) (zM o ot it IF A AL AD)) : zW ε false (d + 1) 161 0 [(0, .ref 32), (1, .int x), (2, .int z)] [] (zM o ot it IF A AL AD) 0 0 Q := by
  refine zrun 5 ?_
  refine zW_ildv (n := 13 + s) rfl rfl (show (13 : Int32) + z = _ by rw [hz, show (13 : Int32) = nI 13 from rfl, nI_add]) (by omega) (by decide) (lf_at hL _) ?_
  refine zrun 4 ⟨⟨Nat.le_of_ble_eq_true rfl, Nat.le_of_ble_eq_true rfl, rfl⟩, ?_⟩
  refine c_mof (w := 3) hL hx rfl (by omega) ⟨rfl, ?_⟩
  exact zrun 2 (by rw [← pk_mul] at hq; exact hq)
theorem mA4_n {A : Nat → Nat → Int32} {t s : Nat} : mA4 ac A L t s none = mA2 ac A L t s := rfl
theorem mA4_t {A : Nat → Nat → Int32} {t s o : Nat} (h : L (5 + s) = 0) (h2 : gD L o s = true) : mA4 ac A L t s (some o) = zmx (zmx (mA2 ac A L t s) (A (mi ac) (8 * o + s) + nI (L 3))) (A (mu ac) (8 * o + s) + nI (L 3)) := if_pos ⟨h, h2⟩
theorem mA4_f {A : Nat → Nat → Int32} {t s o : Nat} (h : ¬ (L (5 + s) = 0 ∧ gD L o s = true)) : mA4 ac A L t s (some o) = zmx (mA2 ac A L t s) (A (mi ac) (8 * o + s) + nI (L 3)) := if_neg h
theorem gB_lt {g t : Nat} (h8 : ∀ k, k < L 1 → p (8 * g + k) < 8) : ∀ (n k : Nat) (f : Option Nat), k + n = L 1 → (∀ v, f = some v → v < 8) → ∀ v, gBl L p g t n k f = some v → v < 8
  | 0, _, _, _, _, v, h => nomatch h
  | n + 1, k, f, hk, hf, v, h => by
    unfold gBl at h
    split at h
    · exact hf v h
    · refine gB_lt h8 n (k + 1) _ (by omega) ?_ v h
      intro w hw
      cases e : gD L (p (8 * g + k)) g
      · rw [e] at hw; exact hf w hw
      · rw [e] at hw
        cases hw
        exact h8 k (by omega)
theorem gB8 {g t v : Nat} (h8 : ∀ k, k < L 1 → p (8 * g + k) < 8) (h : gB L p g t = some v) : v < 8 := gB_lt h8 (L 1) 0 none (by omega) (fun _ q => nomatch q) v h
theorem cl_la88 (hL : A 33 = lf L) (hl : lB L) (hp : A (mo ac) = lf p) {t s : Nat} (ht : t < 8) (hs : s < 8) (hM : L 1 ≤ 8) (h8 : ∀ k, k < L 1 → p (8 * (s - 1) + k) < 8) (h1 : 1 ≤ s) {v : Int32} (hv : v = mA2 ac A L t s) (hq : Q (.inl none) (zMm ac IF (va_up A (mi ac) (upd (A (mi ac)) (8 * t + s) (mA4 ac A L t s (gB L p (s - 1) t)))) AL AD)) : zW ε false (d + 3) 162 88 [(0, .ref 32), (1, .int (nI t)), (2, .int (nI s)), (3, .int v)] [] (zMm ac IF A AL AD) 0 0 Q := by
  subst hv
  have ho := fun w => gB8 (t := t) (v := w) h8
  generalize hw : gB L p (s - 1) t = w at hq ho
  have hB := fun q => c_before (ε := ε) (d := d) (Q := q) (IF := IF) (AL := AL) (AD := AD) hL hl hp (nIp (z := nI s) rfl h1) rfl (by omega) ht hM h8
  rw [hw] at hB
  cases w with
  | none =>
    cases ac
    all_goals
      refine zrun 6 ⟨⟨Nat.le_of_ble_eq_true rfl, Nat.le_of_ble_eq_true rfl, rfl⟩, ?_⟩
      refine hB _ ⟨rfl, ?_⟩
      refine zrun 3 (zloc [(0, _), (1, _), (2, _), (3, _), (4, _)] rfl ?_)
      refine zrun 1 ⟨fun _ => ?_, fun g => absurd rfl g⟩
      refine zrun 3 ⟨fun _ => ?_, fun g => absurd rfl g⟩
      refine zrun 5 ⟨⟨Nat.le_of_ble_eq_true rfl, Nat.le_of_ble_eq_true rfl, rfl⟩, ?_⟩
      refine c_ix rfl rfl ⟨rfl, ?_⟩
      refine zrun 1 ?_
      refine zW_iast (n := 8 * t + s) rfl rfl rfl (by omega) (by decide) ?_
      exact zrun 1 (hq)
  | some w =>
    have hw8 := ho w rfl
    have fin : ∀ u : Int32, u = mA4 ac A L t s (some w) → zW ε false (d + 3) 162 174 [(0, .ref 32), (1, .int (nI t)), (2, .int (nI s)), (3, .int u), (4, .int (nI w))] [] (zMm ac IF A AL AD) 0 0 Q := by
      intro u hu
      subst hu
      cases ac
      all_goals
        refine zrun 5 ⟨⟨Nat.le_of_ble_eq_true rfl, Nat.le_of_ble_eq_true rfl, rfl⟩, ?_⟩
        refine c_ix rfl rfl ⟨rfl, ?_⟩
        refine zrun 1 ?_
        refine zW_iast (n := 8 * t + s) rfl rfl rfl (by omega) (by decide) ?_
        exact zrun 1 (hq)
    cases ac
    all_goals
      refine zrun 6 ⟨⟨Nat.le_of_ble_eq_true rfl, Nat.le_of_ble_eq_true rfl, rfl⟩, ?_⟩
      refine hB _ ⟨rfl, ?_⟩
      refine zrun 3 (zloc [(0, _), (1, _), (2, _), (3, _), (4, _)] rfl ?_)
      refine zrun 1 ⟨(fun g => absurd g (zne1 (by omega))), (fun _ => ?_)⟩
      refine zrun 6 ⟨⟨Nat.le_of_ble_eq_true rfl, Nat.le_of_ble_eq_true rfl, rfl⟩, ?_⟩
      refine c_ix rfl rfl ⟨rfl, ?_⟩
      refine zW_iald (n := 8 * w + s) rfl rfl rfl (by omega) (by decide) ?_
      refine zrun 3 ?_
      refine zW_ildv (n := 3) rfl rfl rfl (by decide) (by decide) (lf_at hL 3) ?_
      refine zrun 2 ⟨⟨Nat.le_of_ble_eq_true rfl, Nat.le_of_ble_eq_true rfl, rfl⟩, ?_⟩
      refine c_greater ⟨rfl, ?_⟩
      refine zrun 3 (zloc [(0, _), (1, _), (2, _), (3, _), (4, _)] rfl ?_)
      refine zrun 1 ⟨(fun g => absurd g (zne1 (by omega))), (fun _ => ?_)⟩
      refine zrun 3 ⟨⟨Nat.le_of_ble_eq_true rfl, Nat.le_of_ble_eq_true rfl, rfl⟩, ?_⟩
      refine c_isPlain hL hl rfl (by omega) (fun v hv => ⟨rfl, ?_⟩)
      refine zrun 1 (zb_f rfl (fun g1 => ?_) (fun g1 => ?_))
      · exact fin _ (mA4_f (fun q => by rw [hv.mpr q.1] at g1; exact Bool.noConfusion g1)).symm
      · refine zrun 4 ⟨⟨Nat.le_of_ble_eq_true rfl, Nat.le_of_ble_eq_true rfl, rfl⟩, ?_⟩
        refine c_mdep hL hl rfl rfl hw8 (by omega) ⟨rfl, ?_⟩
        refine zrun 1 (zb_f rfl (fun g2 => ?_) (fun g2 => ?_))
        · exact fin _ (mA4_f (fun q => by rw [q.2] at g2; exact Bool.noConfusion g2)).symm
        · refine zrun 6 ⟨⟨Nat.le_of_ble_eq_true rfl, Nat.le_of_ble_eq_true rfl, rfl⟩, ?_⟩
          refine c_ix rfl rfl ⟨rfl, ?_⟩
          refine zW_iald (n := 8 * w + s) rfl rfl rfl (by omega) (by decide) ?_
          refine zrun 3 ?_
          refine zW_ildv (n := 3) rfl rfl rfl (by decide) (by decide) (lf_at hL 3) ?_
          refine zrun 2 ⟨⟨Nat.le_of_ble_eq_true rfl, Nat.le_of_ble_eq_true rfl, rfl⟩, ?_⟩
          refine c_greater ⟨rfl, ?_⟩
          exact zrun 1 (zloc [(0, _), (1, _), (2, _), (3, _), (4, _)] rfl (fin _ (mA4_t (hv.mp g1) g2).symm))
theorem c_laysArrival (hL : A 33 = lf L) (hl : lB L) (hp : A (mo ac) = lf p) {t s : Nat} (ht : t < 8) (hs : s < 8) (hM : L 1 ≤ 8) (h8 : ∀ k, k < L 1 → p (8 * (s - 1) + k) < 8) {x z : Int32} (hx : x = nI t) (hz : z = nI s) (hq : Q (.inl none) (zMm ac IF (mAr ac L p t s A) AL AD)) (hi : IF 32 27 = zbo ac) : zW ε false (d + 3) 162 0 [(0, .ref 32), (1, .int x), (2, .int z)] [] (zMm ac IF A AL AD) 0 0 Q := by
  subst hx
  subst hz
  unfold mAr at hq
  have k88 := fun h1 v hv hq => cl_la88 (ε := ε) (d := d) (Q := Q) (IF := IF) (AL := AL) (AD := AD) (t := t) (s := s) hL hl hp ht hs hM h8 h1 (v := v) hv hq
  cases ac with
  | false =>
    refine zrun 4 ⟨⟨Nat.le_of_ble_eq_true rfl, Nat.le_of_ble_eq_true rfl, rfl⟩, ?_⟩
    refine c_marr hL hl rfl rfl ht (by omega) ⟨rfl, ?_⟩
    refine zrun 1 (zb_t rfl (fun g => ?_) (fun g => ?_))
    · rw [g] at hq
      have h1 : 1 ≤ s := by have := gA_iff.mp g; omega
      refine zrun 7 ⟨⟨Nat.le_of_ble_eq_true rfl, Nat.le_of_ble_eq_true rfl, rfl⟩, ?_⟩
      refine c_ix rfl (nIp rfl h1) ⟨rfl, ?_⟩
      refine zW_iald (n := 8 * t + (s - 1)) rfl rfl rfl (by omega) (by decide) ?_
      refine zrun 6 ⟨⟨Nat.le_of_ble_eq_true rfl, Nat.le_of_ble_eq_true rfl, rfl⟩, ?_⟩
      refine c_runningOf hL rfl (nIp rfl h1) ht (by omega) ⟨rfl, ?_⟩
      refine zrun 4 (zb_f hi (fun _ => ?_) (fun q => Bool.noConfusion q))
      refine zrun 9 ?_
      refine zW_iald (n := 7 * t + s - 1) rfl rfl (nI7 (by omega)) (by omega) (by decide) ?_
      refine zrun 4 (zloc [(0, _), (1, _), (2, _), (3, _)] rfl ?_)
      refine zrun 1 (zb_f hi (fun _ => ?_) (fun q => Bool.noConfusion q))
      exact k88 h1 _ rfl hq
    · exact zrun 1 (by rw [g] at hq; exact hq)
  | true =>
    refine zrun 4 ⟨⟨Nat.le_of_ble_eq_true rfl, Nat.le_of_ble_eq_true rfl, rfl⟩, ?_⟩
    refine c_marr hL hl rfl rfl ht (by omega) ⟨rfl, ?_⟩
    refine zrun 1 (zb_t rfl (fun g => ?_) (fun g => ?_))
    · rw [g] at hq
      have h1 : 1 ≤ s := by have := gA_iff.mp g; omega
      refine zrun 7 ⟨⟨Nat.le_of_ble_eq_true rfl, Nat.le_of_ble_eq_true rfl, rfl⟩, ?_⟩
      refine c_ix rfl (nIp rfl h1) ⟨rfl, ?_⟩
      refine zW_iald (n := 8 * t + (s - 1)) rfl rfl rfl (by omega) (by decide) ?_
      refine zrun 6 ⟨⟨Nat.le_of_ble_eq_true rfl, Nat.le_of_ble_eq_true rfl, rfl⟩, ?_⟩
      refine c_runningOf hL rfl (nIp rfl h1) ht (by omega) ⟨rfl, ?_⟩
      refine zrun 4 (zb_f hi (fun q => Bool.noConfusion q) (fun _ => ?_))
      refine zrun 5 ⟨⟨Nat.le_of_ble_eq_true rfl, Nat.le_of_ble_eq_true rfl, rfl⟩, ?_⟩
      refine c_ix rfl rfl ⟨rfl, ?_⟩
      refine zW_iald (n := 8 * t + s) rfl rfl rfl (by omega) (by decide) ?_
      refine zrun 5 (zloc [(0, _), (1, _), (2, _), (3, _)] rfl ?_)
      refine zrun 1 (zb_f hi (fun q => Bool.noConfusion q) (fun _ => ?_))
      refine zrun 6 ⟨⟨Nat.le_of_ble_eq_true rfl, Nat.le_of_ble_eq_true rfl, rfl⟩, ?_⟩
      refine c_ix rfl rfl ⟨rfl, ?_⟩
      refine zW_iald (n := 8 * t + s) rfl rfl rfl (by omega) (by decide) ?_
      refine zrun 1 ⟨⟨Nat.le_of_ble_eq_true rfl, Nat.le_of_ble_eq_true rfl, rfl⟩, ?_⟩
      refine c_greater ⟨rfl, ?_⟩
      exact zrun 1 (zloc [(0, _), (1, _), (2, _), (3, _)] rfl (k88 h1 _ rfl hq))
    · exact zrun 1 (by rw [g] at hq; exact hq)
theorem cl_ldc (hL : A 33 = lf L) (hl : lB L) (hp : A (mo ac) = lf p) {t s : Nat} (ht : t < 8) (hs : s < 7) (hM : L 1 ≤ 8) (hN : L 2 ≤ 8) (h8 : ∀ k, k < L 1 → p (8 * s + k) < 8) (hk8 : ∀ c, c < L 2 → lk L c 0 < 8) {v3 v5 : Int32} : ∀ (n k : Nat) (v c : Int32), k + n = L 2 → c = nI k → Q (.inl none) (zMm ac IF (va_up A (mu ac) (upd (A (mu ac)) (8 * t + s) (mDc ac A L t s n k v))) AL AD) → IF 32 27 = zbo ac → zW ε false (d + 3) 163 154 [(0, .ref 32), (1, .int (nI t)), (2, .int (nI s)), (3, .int v3), (4, .int v), (5, .int v5), (6, .int c)] [] (zMm ac IF A AL AD) 0 0 Q := by
  intro n
  induction n with
  | zero =>
    intro k v c hk hc hq hi
    cases ac
    all_goals
      refine zrun 4 ?_
      refine zW_ildv (n := 2) rfl rfl rfl (by decide) (by decide) (lf_at hL 2) ?_
      refine zrun 1 (zb_ge hc rfl (by omega) (Nat.lt_trans (hl _ (by omega)) (by decide)) (fun _ => ?_) (fun q => absurd q (by omega)))
      refine zrun 5 ⟨⟨Nat.le_of_ble_eq_true rfl, Nat.le_of_ble_eq_true rfl, rfl⟩, ?_⟩
      refine c_ix rfl rfl ⟨rfl, ?_⟩
      refine zrun 1 ?_
      refine zW_iast (n := 8 * t + s) rfl rfl rfl (by omega) (by decide) ?_
      exact zrun 1 (hq)
  | succ n ih =>
    intro k v c hk hc hq hi
    subst hc
    have hk8' := hk8 k (by omega)
    unfold mDc at hq
    have no : ¬ (lk L k 1 = t ∧ lk L k 2 = s ∧ (ac = true → ¬ A 46 k = 0)) → zW ε false (d + 3) 163 154 [(0, .ref 32), (1, .int (nI t)), (2, .int (nI s)), (3, .int v3), (4, .int v), (5, .int v5), (6, .int (nI k + 1))] [] (zMm ac IF A AL AD) 0 0 Q := fun q => ih (k + 1) v (nI k + 1) (by omega) (nI_1 k) (by rw [if_neg q] at hq; exact hq) hi
    have yes : (lk L k 1 = t ∧ lk L k 2 = s ∧ (ac = true → ¬ A 46 k = 0)) → zW ε false (d + 3) 163 154 [(0, .ref 32), (1, .int (nI t)), (2, .int (nI s)), (3, .int v3), (4, .int (zmx v (A (mi ac) (8 * lk L k 0 + s) + nI (lk L k 3)))), (5, .int v5), (6, .int (nI k + 1))] [] (zMm ac IF A AL AD) 0 0 Q := fun q => ih (k + 1) _ (nI k + 1) (by omega) (nI_1 k) (by rw [if_pos q] at hq; exact hq) hi
    have hl1 : lk L k 1 < 2 ^ 31 := Nat.lt_trans (hl (60 + 4 * k + 1) (by omega)) (by decide)
    have hl2 : lk L k 2 < 2 ^ 31 := Nat.lt_trans (hl (60 + 4 * k + 2) (by omega)) (by decide)
    cases ac with
    | false =>
      refine zrun 4 ?_
      refine zW_ildv (n := 2) rfl rfl rfl (by decide) (by decide) (lf_at hL 2) ?_
      refine zrun 1 (zb_ge rfl rfl (by omega) (Nat.lt_trans (hl _ (by omega)) (by decide)) (fun q => absurd q (by omega)) (fun _ => ?_))
      refine zrun 4 ⟨⟨Nat.le_of_ble_eq_true rfl, Nat.le_of_ble_eq_true rfl, rfl⟩, ?_⟩
      refine c_mlink (w := 1) hL rfl rfl (by omega) ⟨rfl, ?_⟩
      refine zrun 2 (zb_ne rfl rfl hl1 (by omega) (fun g1 => ?_) (fun g1 => ?_))
      · refine zrun 3 (zloc [(0, _), (1, _), (2, _), (3, _), (4, _), (5, _), (6, _), (7, _)] rfl ?_)
        refine zrun 1 (zb_f (b := false) rfl (fun _ => ?_) (fun q => Bool.noConfusion q))
        exact zrun 2 (zfg [0, 1, 2, 3, 4, 5, 6] (zloc [(0, _), (1, _), (2, _), (3, _), (4, _), (5, _), (6, _)] rfl (no (fun q => g1 q.1))))
      · refine zrun 4 ⟨⟨Nat.le_of_ble_eq_true rfl, Nat.le_of_ble_eq_true rfl, rfl⟩, ?_⟩
        refine c_mlink (w := 2) hL rfl rfl (by omega) ⟨rfl, ?_⟩
        refine zrun 2 (zb_ne rfl rfl hl2 (by omega) (fun g2 => ?_) (fun g2 => ?_))
        · refine zrun 3 (zloc [(0, _), (1, _), (2, _), (3, _), (4, _), (5, _), (6, _), (7, _)] rfl ?_)
          refine zrun 1 (zb_f (b := false) rfl (fun _ => ?_) (fun q => Bool.noConfusion q))
          exact zrun 2 (zfg [0, 1, 2, 3, 4, 5, 6] (zloc [(0, _), (1, _), (2, _), (3, _), (4, _), (5, _), (6, _)] rfl (no (fun q => g2 q.2.1))))
        · refine zrun 3 (zb_f hi (fun _ => ?_) (fun q => Bool.noConfusion q))
          refine zrun 4 (zloc [(0, _), (1, _), (2, _), (3, _), (4, _), (5, _), (6, _), (7, _)] rfl ?_)
          refine zrun 1 (zb_f (b := true) rfl (fun q => Bool.noConfusion q) (fun _ => ?_))
          refine zrun 7 ⟨⟨Nat.le_of_ble_eq_true rfl, Nat.le_of_ble_eq_true rfl, rfl⟩, ?_⟩
          refine c_mlink (w := 0) hL rfl rfl (by omega) ⟨rfl, ?_⟩
          refine zrun 2 ⟨⟨Nat.le_of_ble_eq_true rfl, Nat.le_of_ble_eq_true rfl, rfl⟩, ?_⟩
          refine c_ix rfl rfl ⟨rfl, ?_⟩
          refine zW_iald (n := 8 * lk L k 0 + s) rfl rfl rfl (by omega) (by decide) ?_
          refine zrun 4 ⟨⟨Nat.le_of_ble_eq_true rfl, Nat.le_of_ble_eq_true rfl, rfl⟩, ?_⟩
          refine c_mlink (w := 3) hL rfl rfl (by omega) ⟨rfl, ?_⟩
          refine zrun 2 ⟨⟨Nat.le_of_ble_eq_true rfl, Nat.le_of_ble_eq_true rfl, rfl⟩, ?_⟩
          refine c_greater ⟨rfl, ?_⟩
          exact zrun 3 (zfg [0, 1, 2, 3, 4, 5, 6] (zloc [(0, _), (1, _), (2, _), (3, _), (4, _), (5, _), (6, _)] rfl (yes ⟨g1, g2, fun q => Bool.noConfusion q⟩)))
    | true =>
      refine zrun 4 ?_
      refine zW_ildv (n := 2) rfl rfl rfl (by decide) (by decide) (lf_at hL 2) ?_
      refine zrun 1 (zb_ge rfl rfl (by omega) (Nat.lt_trans (hl _ (by omega)) (by decide)) (fun q => absurd q (by omega)) (fun _ => ?_))
      refine zrun 4 ⟨⟨Nat.le_of_ble_eq_true rfl, Nat.le_of_ble_eq_true rfl, rfl⟩, ?_⟩
      refine c_mlink (w := 1) hL rfl rfl (by omega) ⟨rfl, ?_⟩
      refine zrun 2 (zb_ne rfl rfl hl1 (by omega) (fun g1 => ?_) (fun g1 => ?_))
      · refine zrun 3 (zloc [(0, _), (1, _), (2, _), (3, _), (4, _), (5, _), (6, _), (7, _)] rfl ?_)
        refine zrun 1 (zb_f (b := false) rfl (fun _ => ?_) (fun q => Bool.noConfusion q))
        exact zrun 2 (zfg [0, 1, 2, 3, 4, 5, 6] (zloc [(0, _), (1, _), (2, _), (3, _), (4, _), (5, _), (6, _)] rfl (no (fun q => g1 q.1))))
      · refine zrun 4 ⟨⟨Nat.le_of_ble_eq_true rfl, Nat.le_of_ble_eq_true rfl, rfl⟩, ?_⟩
        refine c_mlink (w := 2) hL rfl rfl (by omega) ⟨rfl, ?_⟩
        refine zrun 2 (zb_ne rfl rfl hl2 (by omega) (fun g2 => ?_) (fun g2 => ?_))
        · refine zrun 3 (zloc [(0, _), (1, _), (2, _), (3, _), (4, _), (5, _), (6, _), (7, _)] rfl ?_)
          refine zrun 1 (zb_f (b := false) rfl (fun _ => ?_) (fun q => Bool.noConfusion q))
          exact zrun 2 (zfg [0, 1, 2, 3, 4, 5, 6] (zloc [(0, _), (1, _), (2, _), (3, _), (4, _), (5, _), (6, _)] rfl (no (fun q => g2 q.2.1))))
        · refine zrun 3 (zb_f hi (fun q => Bool.noConfusion q) (fun _ => ?_))
          refine zrun 3 ?_
          refine zW_zald (n := k) rfl rfl rfl (by omega) (by decide) ?_
          refine zrun 1 ⟨(fun g3 => ?_), (fun g3 => ?_)⟩
          · refine zrun 3 (zloc [(0, _), (1, _), (2, _), (3, _), (4, _), (5, _), (6, _), (7, _)] rfl ?_)
            refine zrun 1 (zb_f (b := false) rfl (fun _ => ?_) (fun q => Bool.noConfusion q))
            exact zrun 2 (zfg [0, 1, 2, 3, 4, 5, 6] (zloc [(0, _), (1, _), (2, _), (3, _), (4, _), (5, _), (6, _)] rfl (no (fun q => q.2.2 rfl g3))))
          · refine zrun 4 (zloc [(0, _), (1, _), (2, _), (3, _), (4, _), (5, _), (6, _), (7, _)] rfl ?_)
            refine zrun 1 (zb_f (b := true) rfl (fun q => Bool.noConfusion q) (fun _ => ?_))
            refine zrun 7 ⟨⟨Nat.le_of_ble_eq_true rfl, Nat.le_of_ble_eq_true rfl, rfl⟩, ?_⟩
            refine c_mlink (w := 0) hL rfl rfl (by omega) ⟨rfl, ?_⟩
            refine zrun 2 ⟨⟨Nat.le_of_ble_eq_true rfl, Nat.le_of_ble_eq_true rfl, rfl⟩, ?_⟩
            refine c_ix rfl rfl ⟨rfl, ?_⟩
            refine zW_iald (n := 8 * lk L k 0 + s) rfl rfl rfl (by omega) (by decide) ?_
            refine zrun 4 ⟨⟨Nat.le_of_ble_eq_true rfl, Nat.le_of_ble_eq_true rfl, rfl⟩, ?_⟩
            refine c_mlink (w := 3) hL rfl rfl (by omega) ⟨rfl, ?_⟩
            refine zrun 2 ⟨⟨Nat.le_of_ble_eq_true rfl, Nat.le_of_ble_eq_true rfl, rfl⟩, ?_⟩
            refine c_greater ⟨rfl, ?_⟩
            exact zrun 3 (zfg [0, 1, 2, 3, 4, 5, 6] (zloc [(0, _), (1, _), (2, _), (3, _), (4, _), (5, _), (6, _)] rfl (yes ⟨g1, g2, fun _ => g3⟩)))
theorem cl_ld112 (hL : A 33 = lf L) (hl : lB L) (hp : A (mo ac) = lf p) {t s : Nat} (ht : t < 8) (hs : s < 7) (hM : L 1 ≤ 8) (hN : L 2 ≤ 8) (h8 : ∀ k, k < L 1 → p (8 * s + k) < 8) (hk8 : ∀ c, c < L 2 → lk L c 0 < 8) (hi : IF 32 27 = zbo ac) {v3 v : Int32} (hv : v = mD1 ac A L t s) (hq : Q (.inl none) (zMm ac IF (va_up A (mu ac) (upd (A (mu ac)) (8 * t + s) (mDc ac A L t s (L 2) 0 (mD2 ac A L t s (gB L p s t))))) AL AD)) : zW ε false (d + 3) 163 112 [(0, .ref 32), (1, .int (nI t)), (2, .int (nI s)), (3, .int v3), (4, .int v)] [] (zMm ac IF A AL AD) 0 0 Q := by
  subst hv
  have ho := fun w => gB8 (t := t) (v := w) h8
  have lp := fun v5 v hq => cl_ldc (ε := ε) (d := d) (Q := Q) (IF := IF) (AL := AL) (AD := AD) hL hl hp ht hs hM hN h8 hk8 (v3 := v3) (v5 := v5) (L 2) 0 v 0 (by omega) nI_0.symm hq hi
  generalize hw : gB L p s t = w at hq ho
  have hB := fun q => c_before (ε := ε) (d := d) (Q := q) (IF := IF) (AL := AL) (AD := AD) hL hl hp (x := nI s) (z := nI t) rfl rfl hs ht hM h8
  rw [hw] at hB
  cases w with
  | none =>
    cases ac
    all_goals
      refine zrun 4 ⟨⟨Nat.le_of_ble_eq_true rfl, Nat.le_of_ble_eq_true rfl, rfl⟩, ?_⟩
      refine hB _ ⟨rfl, ?_⟩
      refine zrun 3 (zloc [(0, _), (1, _), (2, _), (3, _), (4, _), (5, _)] rfl ?_)
      refine zrun 1 ⟨fun _ => ?_, fun g => absurd rfl g⟩
      exact zrun 2 (zloc [(0, _), (1, _), (2, _), (3, _), (4, _), (5, _), (6, _)] rfl (lp _ _ hq))
  | some w =>
    have hw8 := ho w rfl
    cases ac
    all_goals
      refine zrun 4 ⟨⟨Nat.le_of_ble_eq_true rfl, Nat.le_of_ble_eq_true rfl, rfl⟩, ?_⟩
      refine hB _ ⟨rfl, ?_⟩
      refine zrun 3 (zloc [(0, _), (1, _), (2, _), (3, _), (4, _), (5, _)] rfl ?_)
      refine zrun 1 ⟨(fun g => absurd g (zne1 (by omega))), (fun _ => ?_)⟩
      refine zrun 6 ⟨⟨Nat.le_of_ble_eq_true rfl, Nat.le_of_ble_eq_true rfl, rfl⟩, ?_⟩
      refine c_ix rfl rfl ⟨rfl, ?_⟩
      refine zW_iald (n := 8 * w + s) rfl rfl rfl (by omega) (by decide) ?_
      refine zrun 3 ?_
      refine zW_ildv (n := 3) rfl rfl rfl (by decide) (by decide) (lf_at hL 3) ?_
      refine zrun 2 ⟨⟨Nat.le_of_ble_eq_true rfl, Nat.le_of_ble_eq_true rfl, rfl⟩, ?_⟩
      refine c_greater ⟨rfl, ?_⟩
      exact zrun 3 (zloc [(0, _), (1, _), (2, _), (3, _), (4, _), (5, _), (6, _)] rfl (lp _ _ hq))
theorem c_laysDeparture (hL : A 33 = lf L) (hl : lB L) (hp : A (mo ac) = lf p) {t s : Nat} (ht : t < 8) (hs : s < 7) (hM : L 1 ≤ 8) (hN : L 2 ≤ 8) (h8 : ∀ k, k < L 1 → p (8 * s + k) < 8) (hk8 : ∀ c, c < L 2 → lk L c 0 < 8) {x z : Int32} (hx : x = nI t) (hz : z = nI s) (hq : Q (.inl none) (zMm ac IF (mDe ac L p t s A) AL AD)) (hi : IF 32 27 = zbo ac) : zW ε false (d + 3) 163 0 [(0, .ref 32), (1, .int x), (2, .int z)] [] (zMm ac IF A AL AD) 0 0 Q := by
  subst hx
  subst hz
  unfold mDe at hq
  have k112 := fun v3 v hv hq => cl_ld112 (ε := ε) (d := d) (Q := Q) (IF := IF) (AL := AL) (AD := AD) (t := t) (s := s) hL hl hp ht hs hM hN h8 hk8 hi (v3 := v3) (v := v) hv hq
  have hl0 : tr L t 0 < 2 ^ 31 := Nat.lt_trans (hl (20 + 5 * t + 0) (by omega)) (by decide)
  cases ac with
  | false =>
    refine zrun 4 ⟨⟨Nat.le_of_ble_eq_true rfl, Nat.le_of_ble_eq_true rfl, rfl⟩, ?_⟩
    refine c_mdep hL hl rfl rfl ht (by omega) ⟨rfl, ?_⟩
    refine zrun 1 (zb_t rfl (fun g => ?_) (fun g => ?_))
    · rw [g] at hq
      refine zrun 3 (zb_f hi (fun _ => ?_) (fun q => Bool.noConfusion q))
      refine zrun 6 (zloc [(0, _), (1, _), (2, _), (3, _)] rfl ?_)
      refine zrun 1 ⟨⟨Nat.le_of_ble_eq_true rfl, Nat.le_of_ble_eq_true rfl, rfl⟩, ?_⟩
      refine c_mof (w := 0) hL rfl rfl (by omega) ⟨rfl, ?_⟩
      refine zrun 1 (zb_ne rfl rfl (by omega) hl0 (fun g1 => ?_) (fun g1 => ?_))
      · refine zrun 5 ⟨⟨Nat.le_of_ble_eq_true rfl, Nat.le_of_ble_eq_true rfl, rfl⟩, ?_⟩
        refine c_ix rfl rfl ⟨rfl, ?_⟩
        refine zW_iald (n := 8 * t + s) rfl rfl rfl (by omega) (by decide) ?_
        refine zrun 4 ⟨⟨Nat.le_of_ble_eq_true rfl, Nat.le_of_ble_eq_true rfl, rfl⟩, ?_⟩
        refine c_mof (w := 4) hL rfl rfl (by omega) ⟨rfl, ?_⟩
        refine zrun 6 (zloc [(0, _), (1, _), (2, _), (3, _), (4, _)] rfl ?_)
        refine zrun 1 (zb_f hi (fun _ => ?_) (fun q => Bool.noConfusion q))
        exact k112 _ _ (show _ = mD0 false A L t s from (if_neg g1).symm) hq
      · refine zrun 4 ⟨⟨Nat.le_of_ble_eq_true rfl, Nat.le_of_ble_eq_true rfl, rfl⟩, ?_⟩
        refine c_mof (w := 2) hL rfl rfl (by omega) ⟨rfl, ?_⟩
        refine zrun 4 (zloc [(0, _), (1, _), (2, _), (3, _), (4, _)] rfl ?_)
        refine zrun 1 (zb_f hi (fun _ => ?_) (fun q => Bool.noConfusion q))
        exact k112 _ _ (show _ = mD0 false A L t s from (if_pos g1).symm) hq
    · exact zrun 1 (by rw [g] at hq; exact hq)
  | true =>
    refine zrun 4 ⟨⟨Nat.le_of_ble_eq_true rfl, Nat.le_of_ble_eq_true rfl, rfl⟩, ?_⟩
    refine c_mdep hL hl rfl rfl ht (by omega) ⟨rfl, ?_⟩
    refine zrun 1 (zb_t rfl (fun g => ?_) (fun g => ?_))
    · rw [g] at hq
      refine zrun 3 (zb_f hi (fun q => Bool.noConfusion q) (fun _ => ?_))
      refine zrun 5 ⟨⟨Nat.le_of_ble_eq_true rfl, Nat.le_of_ble_eq_true rfl, rfl⟩, ?_⟩
      refine c_ix rfl rfl ⟨rfl, ?_⟩
      refine zW_iald (n := 8 * t + s) rfl rfl rfl (by omega) (by decide) ?_
      refine zrun 6 (zloc [(0, _), (1, _), (2, _), (3, _)] rfl ?_)
      refine zrun 1 ⟨⟨Nat.le_of_ble_eq_true rfl, Nat.le_of_ble_eq_true rfl, rfl⟩, ?_⟩
      refine c_mof (w := 0) hL rfl rfl (by omega) ⟨rfl, ?_⟩
      refine zrun 1 (zb_ne rfl rfl (by omega) hl0 (fun g1 => ?_) (fun g1 => ?_))
      · refine zrun 5 ⟨⟨Nat.le_of_ble_eq_true rfl, Nat.le_of_ble_eq_true rfl, rfl⟩, ?_⟩
        refine c_ix rfl rfl ⟨rfl, ?_⟩
        refine zW_iald (n := 8 * t + s) rfl rfl rfl (by omega) (by decide) ?_
        refine zrun 4 ⟨⟨Nat.le_of_ble_eq_true rfl, Nat.le_of_ble_eq_true rfl, rfl⟩, ?_⟩
        refine c_mof (w := 4) hL rfl rfl (by omega) ⟨rfl, ?_⟩
        refine zrun 6 (zloc [(0, _), (1, _), (2, _), (3, _), (4, _)] rfl ?_)
        refine zrun 1 (zb_f hi (fun q => Bool.noConfusion q) (fun _ => ?_))
        refine zrun 6 ⟨⟨Nat.le_of_ble_eq_true rfl, Nat.le_of_ble_eq_true rfl, rfl⟩, ?_⟩
        refine c_ix rfl rfl ⟨rfl, ?_⟩
        refine zW_iald (n := 8 * t + s) rfl rfl rfl (by omega) (by decide) ?_
        refine zrun 5 ⟨⟨Nat.le_of_ble_eq_true rfl, Nat.le_of_ble_eq_true rfl, rfl⟩, ?_⟩
        refine c_mof (w := 0) hL rfl rfl (by omega) ⟨rfl, ?_⟩
        refine zrun 1 (zb_ne rfl rfl (by omega) hl0 (fun _ => ?_) (fun q => absurd q g1))
        refine zrun 3 ⟨⟨Nat.le_of_ble_eq_true rfl, Nat.le_of_ble_eq_true rfl, rfl⟩, ?_⟩
        refine c_greater ⟨rfl, ?_⟩
        exact zrun 1 (zloc [(0, _), (1, _), (2, _), (3, _), (4, _)] rfl (k112 _ _ (show _ = zmx (if s = tr L t 0 then _ else _) (_ + if s = tr L t 0 then _ else _) by rw [if_neg g1, if_neg g1]; rfl) hq))
      · refine zrun 4 ⟨⟨Nat.le_of_ble_eq_true rfl, Nat.le_of_ble_eq_true rfl, rfl⟩, ?_⟩
        refine c_mof (w := 2) hL rfl rfl (by omega) ⟨rfl, ?_⟩
        refine zrun 4 (zloc [(0, _), (1, _), (2, _), (3, _), (4, _)] rfl ?_)
        refine zrun 1 (zb_f hi (fun q => Bool.noConfusion q) (fun _ => ?_))
        refine zrun 6 ⟨⟨Nat.le_of_ble_eq_true rfl, Nat.le_of_ble_eq_true rfl, rfl⟩, ?_⟩
        refine c_ix rfl rfl ⟨rfl, ?_⟩
        refine zW_iald (n := 8 * t + s) rfl rfl rfl (by omega) (by decide) ?_
        refine zrun 5 ⟨⟨Nat.le_of_ble_eq_true rfl, Nat.le_of_ble_eq_true rfl, rfl⟩, ?_⟩
        refine c_mof (w := 0) hL rfl rfl (by omega) ⟨rfl, ?_⟩
        refine zrun 1 (zb_ne rfl rfl (by omega) hl0 (fun q => absurd g1 q) (fun _ => ?_))
        refine zrun 4 ⟨⟨Nat.le_of_ble_eq_true rfl, Nat.le_of_ble_eq_true rfl, rfl⟩, ?_⟩
        refine c_greater ⟨rfl, ?_⟩
        exact zrun 1 (zloc [(0, _), (1, _), (2, _), (3, _), (4, _)] rfl (k112 _ _ (show _ = zmx (if s = tr L t 0 then _ else _) (_ + if s = tr L t 0 then _ else _) by rw [if_pos g1, if_pos g1]; rfl) hq))
    · exact zrun 1 (by rw [g] at hq; exact hq)
end
