/-! the state: frames, and the steps of the calls -/
section
variable {IF IG A B : Nat → Nat → Int32} {L p pa ex ey : Nat → Nat} {k : Nat}
theorem mG_fr (h : mG IF A L p pa ex ey k) (ha : ∀ j, 32 ≤ j → B j = A j) (hi : IG 32 9 = IF 32 9) : mG IG B L p pa ex ey k := by
  refine ⟨⟨(ha 33 (by omega)).trans h.1.1, (ha 36 (by omega)).trans h.1.2.1, (ha 37 (by omega)).trans h.1.2.2⟩, fun t g ht hg => ?_, fun t s b ht hv => ?_, hi.trans h.2.2.2⟩
  · rw [ha 35 (by omega)]; exact h.2.1 t g ht hg
  · rw [ha (cond b 40 39) (by cases b <;> decide)]; exact h.2.2.1 t s b ht hv
theorem cR_fr (h : cR IF A L) (h9 : B 9 = A 9) (h10 : B 10 = A 10) (h11 : B 11 = A 11) (hi : IG 8 = IF 8) : cR IG B L := by
  refine ⟨?_, fun s hs => ?_, fun s hs => ?_, fun t ht w hw => ?_, fun c hc w hw => ?_⟩
  · rw [hi]; exact h.1
  · have q := h.2.1 s hs
    unfold xs at q ⊢
    rw [hi]; exact q
  · rw [h9]; exact h.2.2.1 s hs
  · rw [h10]; exact h.2.2.2.1 t ht w hw
  · rw [h11]; exact h.2.2.2.2 c hc w hw
theorem cO_fr {m : Nat} (h : cO A m L p) (h1 : B (m + 1) = A (m + 1)) (h2 : B (m + 2) = A (m + 2)) : cO B m L p := ⟨fun g hg i hi => by rw [h1]; exact h.1 g hg i hi, fun g hg t ht => by rw [h2]; exact h.2 g hg t ht⟩
theorem cH_fr (h : cH IF A L p pa ex ey k) (ha : ∀ j, j < 32 → B j = A j) (hi : ∀ c, c < 32 → IG c = IF c) : cH IG B L p pa ex ey k := by
  refine ⟨⟨cR_fr h.1.1 (ha 9 (by omega)) (ha 10 (by omega)) (ha 11 (by omega)) (hi 8 (by omega)), cO_fr h.1.2.1 (ha 13 (by omega)) (ha 14 (by omega)), cO_fr h.1.2.2 (ha 16 (by omega)) (ha 17 (by omega))⟩, ?_, fun t s b ht hv => ?_, fun t ht => ?_⟩
  · rw [hi 18 (by omega), hi 22 (by omega), hi 25 (by omega), hi 0 (by omega), ha 19 (by omega), ha 27 (by omega)]; exact h.2.1
  · rw [ha 19 (by omega), ha 24 (by omega), ha 27 (by omega)]; exact h.2.2.1 t s b ht hv
  · rw [ha 21 (by omega)]; exact h.2.2.2 t ht
theorem cG_fr (h : cG IF A L p pa ex ey k) (ha : ∀ j, j < 32 → B j = A j) (hi : ∀ c, c < 32 → IG c = IF c) : cG IG B L p pa ex ey k := by
  refine ⟨cH_fr h.1 ha hi, ?_, ?_⟩
  · rw [ha 20 (by omega)]; exact h.2.1
  · rw [ha 20 (by omega), ha 23 (by omega)]; exact h.2.2
theorem cH_0 {k2 : Nat} {f : Nat → Int32} (h : cH IF A L p pa ex ey k) (hf : f 8 = nI k2) : cH (va_up IF 0 f) A L p pa ex ey k2 := ⟨⟨cR_fr h.1.1 rfl rfl rfl rfl, h.1.2.1, h.1.2.2⟩, ⟨h.2.1.1, h.2.1.2.1, h.2.1.2.2.1, hf⟩, h.2.2.1, h.2.2.2⟩
theorem cG_0 {k2 : Nat} {f : Nat → Int32} (h : cG IF A L p pa ex ey k) (hf : f 8 = nI k2) : cG (va_up IF 0 f) A L p pa ex ey k2 := ⟨cH_0 h.1 hf, h.2⟩
/-- setSupplement -/
theorem su_i (h : Inv L p pa ex ey k) {t s m : Nat} (ht : t < L 1) (hv : gD L t s = true) (hm : m ≤ 9) : Inv L p pa (va_up ex (8 * t + (s + 1) + 64) m) ey k := by
  have hL := h.1.1
  have hB := hL.1.2.1
  have ev := ev_s (b := false) hL ht hv
  have s1 := ev.2.2.2 rfl
  refine ⟨h.1, fun u g hu hg => ?_, fun u g hu hg => ?_, h.2.2.2⟩
  · by_cases e : 8 * u + (g + 1) + 64 = 8 * t + (s + 1) + 64
    · rw [e, vu_s]
      refine ⟨hm, fun z => ?_⟩
      have e1 : u = t := by omega
      have e2 : g = s := by omega
      rw [e1, e2, hv] at z
      exact Bool.noConfusion z
    · rw [vu_n e]; exact h.2.1 u g hu hg
  · rw [vu_n (by omega)]; exact h.2.2.1 u g hu hg
theorem su_c (h : Inv L p pa ex ey k) (hc : cH IF A L p pa ex ey k) {t s m : Nat} (ht : t < L 1) (hv : gD L t s = true) : cH IF (va_up A 21 (upd (A 21) (xev (nI t) (nI s + 1) true) (nI m))) L p pa (va_up ex (8 * t + (s + 1) + 64) m) ey k := by
  have hL := h.1.1
  have hB := hL.1.2.1
  have ev := ev_s (b := false) hL ht hv
  have s1 := ev.2.2.2 rfl
  have e0 : xev (nI t) (nI s + 1) true = 8 * t + (s + 1) + 64 := by
    rw [nI_1, xev_n (by omega) (by omega)]
    rfl
  rw [e0]
  refine ⟨⟨cR_up hc.1.1 (by decide) (by decide) (by decide), cO_up hc.1.2.1 (by decide) (by decide), cO_up hc.1.2.2 (by decide) (by decide)⟩, hc.2.1, fun u g b hu hw => ?_, fun u hu => ⟨fun g hg => ?_, fun g hg => ?_⟩⟩
  · rw [vu_n (by decide), vu_n (by decide), vu_n (by decide)]; exact hc.2.2.1 u g b hu hw
  · rw [vu_s]
    by_cases e : 8 * u + (g + 1) + 64 = 8 * t + (s + 1) + 64
    · rw [e, upd_s, vu_s]
    · rw [upd_n e, vu_n e]; exact (hc.2.2.2 u hu).1 g hg
  · rw [vu_s, upd_n (by omega)]; exact (hc.2.2.2 u hu).2 g hg
theorem su_m (h : Inv L p pa ex ey k) (hm : mG IF A L p pa ex ey k) {t s m : Nat} (ht : t < L 1) (hv : gD L t s = true) : mG IF (va_up A 35 (upd (A 35) (7 * t + s) (nI m))) L p pa (va_up ex (8 * t + (s + 1) + 64) m) ey k := by
  have hL := h.1.1
  have hB := hL.1.2.1
  have ev := ev_s (b := false) hL ht hv
  have s1 := ev.2.2.2 rfl
  refine ⟨⟨by rw [vu_n (by decide)]; exact hm.1.1, by rw [vu_n (by decide)]; exact hm.1.2.1, by rw [vu_n (by decide)]; exact hm.1.2.2⟩, fun u g hu hg => ?_, fun u g b hu hw => ?_, hm.2.2.2⟩
  · rw [vu_s]
    by_cases e : 7 * u + g = 7 * t + s
    · rw [e, upd_s, show 8 * u + (g + 1) + 64 = 8 * t + (s + 1) + 64 by omega, vu_s]
    · rw [upd_n e, vu_n (by omega)]; exact hm.2.1 u g hu hg
  · rw [vu_n (by cases b <;> decide)]; exact hm.2.2.1 u g b hu hw
/-- disturb -/
theorem du_i (h : Inv L p pa ex ey k) {t s m : Nat} {b : Bool} (ht : t < L 1) (hv : gE L t s b = true) (hm : m ≤ 120) (hk : k < 20) : Inv L p pa ex (va_up ey (8 * t + s + cond b 64 0) (ey (8 * t + s + cond b 64 0) + m)) (k + 1) := by
  refine ⟨h.1, h.2.1, h.2.2.1, fun u g c hu hw => ?_, by omega⟩
  by_cases e : 8 * u + g + cond c 64 0 = 8 * t + s + cond b 64 0
  · rw [e, vu_s]
    have := h.2.2.2.1 t s b ht hv
    omega
  · rw [vu_n e]
    have := h.2.2.2.1 u g c hu hw
    omega
theorem du_c (h : Inv L p pa ex ey k) (hc : cH IF A L p pa ex ey k) {t s m : Nat} {b : Bool} (ht : t < L 1) (hv : gE L t s b = true) : cH IF (va_up A 24 (upd (A 24) (xev (nI t) (nI s) b) (A 24 (xev (nI t) (nI s) b) + nI m))) L p pa ex (va_up ey (8 * t + s + cond b 64 0) (ey (8 * t + s + cond b 64 0) + m)) k := by
  have hL := h.1.1
  have hB := hL.1.2.1
  have ev := ev_s hL ht hv
  rw [xev_n (by omega) ev.1, (hc.2.2.1 t s b ht hv).2.1, nI_add]
  refine ⟨⟨cR_up hc.1.1 (by decide) (by decide) (by decide), cO_up hc.1.2.1 (by decide) (by decide), cO_up hc.1.2.2 (by decide) (by decide)⟩, hc.2.1, fun u g c hu hw => ?_, fun u hu => ?_⟩
  · have q := hc.2.2.1 u g c hu hw
    refine ⟨q.1, ?_, q.2.2⟩
    show upd (A 24) (8 * t + s + cond b 64 0) (nI (ey (8 * t + s + cond b 64 0) + m)) (8 * u + g + cond c 64 0) = _
    by_cases e : 8 * u + g + cond c 64 0 = 8 * t + s + cond b 64 0
    · rw [e, upd_s, vu_s]
    · rw [upd_n e, vu_n e]; exact q.2.1
  · rw [vu_n (by decide)]; exact hc.2.2.2 u hu
theorem du_m (h : Inv L p pa ex ey k) (hm : mG IF A L p pa ex ey k) {t s m k2 : Nat} {b : Bool} (ht : t < L 1) (hv : gE L t s b = true) (hk : IG 32 9 = nI k2) : mG IG (va_up A (cond b 40 39) (upd (A (cond b 40 39)) (8 * t + s) (A (cond b 40 39) (8 * t + s) + nI m))) L p pa ex (va_up ey (8 * t + s + cond b 64 0) (ey (8 * t + s + cond b 64 0) + m)) k2 := by
  have hL := h.1.1
  have hB := hL.1.2.1
  have ev := ev_s hL ht hv
  rw [hm.2.2.1 t s b ht hv, nI_add]
  refine ⟨⟨by rw [vu_n (by cases b <;> decide)]; exact hm.1.1, by rw [vu_n (by cases b <;> decide)]; exact hm.1.2.1, by rw [vu_n (by cases b <;> decide)]; exact hm.1.2.2⟩, fun u g hu hg => ?_, fun u g c hu hw => ?_, hk⟩
  · rw [vu_n (by cases b <;> decide)]; exact hm.2.1 u g hu hg
  · have q := hm.2.2.1 u g c hu hw
    have ew := ev_s hL hu hw
    by_cases e : u = t ∧ g = s ∧ c = b
    · obtain ⟨rfl, rfl, rfl⟩ := e
      rw [vu_s, upd_s, vu_s]
    · have e2 : ¬ 8 * u + g + cond c 64 0 = 8 * t + s + cond b 64 0 := ev_ne ew.1 ev.1 (by omega) (by omega) e
      rw [vu_n e2]
      by_cases cb : c = b
      · subst cb
        rw [vu_s, upd_n (by omega)]; exact q
      · rw [vu_n (by cases c <;> cases b <;> first | decide | exact absurd rfl cb)]; exact q
end
