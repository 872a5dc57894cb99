/-! the ways to distribute minutes: one list for both -/
def cml (F : Nat → List (List Nat)) (l : Nat) : Nat → List (List Nat)
  | 0 => []
  | j + 1 => (F (l - j)).map (fun c => j :: c) ++ cml F l j
/-- all ways to distribute l minutes over n + 1 segments -/
def cmps : Nat → Nat → List (List Nat)
  | 0, l => [[l]]
  | n + 1, l => cml (cmps n) l (l + 1)
def gd (c : List Nat) (i : Nat) : Nat := c.getD i 0
def advF (last : Nat) (r : Nat → Nat) : Nat → Option (Nat → Nat)
  | 0 => none
  | j + 1 => if r j = 0 then advF last r j else some (va_up (va_up (va_up r last 0) j (r j - 1)) (j + 1) (r last + 1))
def adOk (o : Option (Nat → Nat)) (d : List Nat) : Bool := match o with
  | none => false
  | some h => (List.range 8).all (fun i => Nat.beq (h i) (gd d i))
def chk (last : Nat) : List (List Nat) → Bool
  | [] => true
  | c :: ls => (match ls with
    | [] => (advF last (gd c) last).isNone
    | d :: _ => adOk (advF last (gd c) last) d) && chk last ls
def lnb (n : Nat) (c : List Nat) : Bool := c.all (fun x => Nat.ble x 5) && Nat.beq c.length (n + 1)
theorem cm_chk : ∀ n, n < 7 → ∀ m, m < 6 → (chk n (cmps n m) && ((cmps n m).all (lnb n) && (Nat.ble (cmps n m).length 999 && (match cmps n m with
    | [] => false
    | c :: _ => (List.range 8).all (fun i => Nat.beq (gd c i) (if i = 0 then m else 0)))))) = true := by decide +kernel
/-- the least so far -/
def stp (V : List Nat → Nat) (u : Option (Nat × List Nat)) (c : List Nat) : Option (Nat × List Nat) := match u with
  | none => some (V c, c)
  | some (v, b) => if V c < v then some (V c, c) else some (v, b)
def lv : Option (Nat × List Nat) → Int32
  | none => -1
  | some (v, _) => nI v
theorem stp_0 {V : List Nat → Nat} {b : List Nat} : ∀ ls : List (List Nat), ls.foldl (stp V) (some (0, b)) = some (0, b)
  | [] => rfl
  | c :: ls => stp_0 (V := V) (b := b) ls
section
variable {IF IG A B A0 B0 : Nat → Nat → Int32} {L p pa ex ey : Nat → Nat} {k : Nat}
/-- supplements c on train t's segments f, f + 1, .. -/
def exC (t f n : Nat) (ex c : Nat → Nat) : Nat → Nat := fun j => if 8 * t + f + 65 ≤ j ∧ j < 8 * t + f + 65 + n then c (j - (8 * t + f + 65)) else ex j
theorem exC_2 {t f n : Nat} {c c' : Nat → Nat} : exC t f n (exC t f n ex c') c = exC t f n ex c := by
  funext j
  unfold exC
  by_cases z : 8 * t + f + 65 ≤ j ∧ j < 8 * t + f + 65 + n
  · rw [if_pos z, if_pos z]
  · rw [if_neg z, if_neg z, if_neg z]
theorem exC_id {t f n : Nat} {c : Nat → Nat} (h : ∀ i, i < n → c i = ex (8 * t + f + 65 + i)) : exC t f n ex c = ex := by
  funext j
  unfold exC
  by_cases z : 8 * t + f + 65 ≤ j ∧ j < 8 * t + f + 65 + n
  · rw [if_pos z, h _ (by omega)]
    congr 1
    omega
  · rw [if_neg z]
theorem exC_i (h : Inv L p pa ex ey k) {t : Nat} (ht : t < L 1) {c : Nat → Nat} (hc : ∀ i, i < tr L t 1 - tr L t 0 → c i ≤ 9) : Inv L p pa (exC t (tr L t 0) (tr L t 1 - tr L t 0) ex c) ey k := by
  have hL := h.1.1
  have hB := hL.1.2.1
  have hk := hL.1.2.2.2.2.2.1 t ht
  unfold trOk at hk
  refine ⟨h.1, fun u g hu hg => ?_, fun u s hu hs => ?_, h.2.2.2⟩
  · unfold exC
    by_cases z : 8 * t + tr L t 0 + 65 ≤ 8 * u + (g + 1) + 64 ∧ 8 * u + (g + 1) + 64 < 8 * t + tr L t 0 + 65 + (tr L t 1 - tr L t 0)
    · rw [if_pos z]
      refine ⟨hc _ (by omega), fun w => ?_⟩
      have e1 : u = t := by omega
      unfold gD at w
      rw [e1, decide_eq_true (show tr L t 0 ≤ g by omega), decide_eq_true (show g < tr L t 1 by omega)] at w
      exact Bool.noConfusion w
    · rw [if_neg z]
      exact h.2.1 u g hu hg
  · unfold exC
    rw [if_neg (by omega)]
    exact h.2.2.1 u s hu hs
/-- rows of the reference, from numbers -/
def rB (L p pa ex ey : Nat → Nat) : Nat → Nat → Int32 := fun j => cond (Nat.beq j 33) (lf L) (cond (Nat.beq j 36) (lf p) (cond (Nat.beq j 37) (lf pa) (cond (Nat.beq j 35) (fun i => nI (ex (8 * (i / 7) + (i % 7 + 1) + 64))) (cond (Nat.beq j 39) (lf ey) (fun i => nI (ey (i + 64)))))))
theorem rB_m : mG (fun _ _ => nI k) (rB L p pa ex ey) L p pa ex ey k := ⟨⟨rfl, rfl, rfl⟩, fun t g ht hg => by
  show nI (ex (8 * ((7 * t + g) / 7) + ((7 * t + g) % 7 + 1) + 64)) = _
  rw [show (7 * t + g) / 7 = t by omega, show (7 * t + g) % 7 = g by omega], fun t s b ht hv => by cases b <;> rfl, rfl⟩
/-- the sum of the delays, of numbers alone -/
def vSum (L p pa ey : Nat → Nat) (ex : Nat → Nat) : Nat := (mds2 (mLw L p pa (rB L p pa ex ey)) L (L 1) 0 0).toBitVec.toNat
theorem vS_c (h : Inv L p pa ex ey k) (hc : cG IF A L p pa ex ey k) : xsd2 A 22 (L 0) (L 1) 0 0 = nI (vSum L p pa ey ex) ∧ vSum L p pa ey ex ≤ 64000000 := by
  have hL := h.1.1
  obtain ⟨w, hw, ew⟩ := nn2 h hc rB_m
  have e : vSum L p pa ey ex = w := by
    unfold vSum
    rw [ew]
    exact pk_tn (by omega)
  refine ⟨?_, by omega⟩
  rw [sd_eq hc.1.1.1 hL (gM2 h hc rB_m) (L 1) 0 0 (by omega), ew, e]
theorem cH_21 {ex' : Nat → Nat} (hx : ∀ t s, t < L 1 → s < 8 → ex' (8 * t + s) = 0) (hc : cH IF A L p pa ex ey k) {f : Nat → Int32} (hf : ∀ t, t < L 1 → (∀ g, g < 7 → f (8 * t + (g + 1) + 64) = nI (ex' (8 * t + (g + 1) + 64))) ∧ ∀ s, s < 8 → f (8 * t + s) = 0) : cH IF (va_up A 21 f) L p pa ex' ey k := ⟨⟨cR_fr hc.1.1 rfl rfl rfl rfl, cO_fr hc.1.2.1 rfl rfl, cO_fr hc.1.2.2 rfl rfl⟩, hc.2.1, hc.2.2.1, hf⟩
theorem cG_ex {ex' : Nat → Nat} (h' : Inv L p pa ex' ey k) (hc : cH IF A L p pa ex ey k) : ∃ A', cG IF A' L p pa ex' ey k := by
  have q := cc_v h' (cH_21 (f := lf ex') h'.2.2.1 hc (fun t ht => ⟨fun g hg => rfl, fun s hs => by
    show nI (ex' (8 * t + s)) = 0
    rw [h'.2.2.1 t s ht hs]
    exact nI_0⟩))
  exact ⟨_, q.1⟩
theorem vS_m {ex' : Nat → Nat} (h' : Inv L p pa ex' ey k) (hc : cH IF A L p pa ex ey k) (hm : mG IG B L p pa ex' ey k) : mds2 (mLw L p pa B) L (L 1) 0 0 = nI (vSum L p pa ey ex') ∧ vSum L p pa ey ex' ≤ 64000000 := by
  obtain ⟨A', c⟩ := cG_ex h' hc
  have hL := h'.1.1
  have v := vS_c h' c
  rw [sd_eq c.1.1.1 hL (gM2 h' c hm) (L 1) 0 0 (by omega)] at v
  exact v
end
