/-! branches, divisions, constants, returns -/
theorem zcF {b : Bool} {A : Prop} (h : cond b A False) : b = true ∧ A := by
  cases b with
  | true => exact ⟨rfl, h⟩
  | false => exact h.elim
section
variable {D : va_G} {z0 : Nat} {ε : Nat × (Nat → Int32)} {al : Bool} {d y pc : Nat} {l : zL} {st : List Value} {h : zH} {uc us : Nat} {Q : zQ}
theorem zs_if {cd : Jvm.ClassFile.Cond} {off : Int} {x : Int32} {r : List Value} (hd : decode (zC y) pc = .ok (.ifCond cd off, 3)) (ht : ztk pc off = true) (hh : (zcd cd x 0 → zSd D z0 ε al d y (zt pc off) l r h uc us Q) ∧ (zcx cd x 0 → zSd D z0 ε al d y (pc + 3) l r h uc us Q)) : zSd D z0 ε al d y pc l (.int x :: r) h uc us Q := by
  intro ln p e R s m args below meth c ad ca tys n0 ad0 ca0 tys0 H locs ls hF hE hw hS hl hn hag
  obtain ⟨⟨hx, hb, hr, hml, hown⟩, hts, ⟨hlk, hnm, hst⟩, hxt, hroom, hy9⟩ := id hF
  have k1 := fun q => hh.1 q ln p e R s m args below meth c ad ca tys n0 ad0 ca0 tys0 H locs ls hF hE hw hS hl hn hag
  have k2 := fun q => hh.2 q ln p e R s m args below meth c ad ca tys n0 ad0 ca0 tys0 H locs ls hF hE hw hS hl hn hag
  cases cd
  · exact lv_if_eq hx hb hd (ztk_eq ht) k1 k2
  · exact lv_if_ne hx hb hd (ztk_eq ht) k1 k2
  · exact lv_if_lt hx hb hd (ztk_eq ht) k1 k2
  · exact lv_if_ge hx hb hd (ztk_eq ht) k1 k2
  · exact lv_if_gt hx hb hd (ztk_eq ht) k1 k2
  · exact lv_if_le hx hb hd (ztk_eq ht) k1 k2
theorem zs_icmp {cd : Jvm.ClassFile.Cond} {off : Int} {x z : Int32} {r : List Value} (hd : decode (zC y) pc = .ok (.if_icmp cd off, 3)) (ht : ztk pc off = true) (hh : (zcd cd x z → zSd D z0 ε al d y (zt pc off) l r h uc us Q) ∧ (zcx cd x z → zSd D z0 ε al d y (pc + 3) l r h uc us Q)) : zSd D z0 ε al d y pc l (.int z :: .int x :: r) h uc us Q := by
  intro ln p e R s m args below meth c ad ca tys n0 ad0 ca0 tys0 H locs ls hF hE hw hS hl hn hag
  obtain ⟨⟨hx, hb, hr, hml, hown⟩, hts, ⟨hlk, hnm, hst⟩, hxt, hroom, hy9⟩ := id hF
  have k1 := fun q => hh.1 q ln p e R s m args below meth c ad ca tys n0 ad0 ca0 tys0 H locs ls hF hE hw hS hl hn hag
  have k2 := fun q => hh.2 q ln p e R s m args below meth c ad ca tys n0 ad0 ca0 tys0 H locs ls hF hE hw hS hl hn hag
  cases cd
  · exact lv_icmp_eq hx hb hd (ztk_eq ht) k1 k2
  · exact lv_icmp_ne hx hb hd (ztk_eq ht) k1 k2
  · exact lv_icmp_lt hx hb hd (ztk_eq ht) k1 k2
  · exact lv_icmp_ge hx hb hd (ztk_eq ht) k1 k2
  · exact lv_icmp_gt hx hb hd (ztk_eq ht) k1 k2
  · exact lv_icmp_le hx hb hd (ztk_eq ht) k1 k2
theorem zs_tab {df lo hi : Int} {offs : Array Int} {len : Nat} {x : Int32} {r : List Value} (hd : decode (zC y) pc = .ok (.tableswitch df lo hi offs, len)) (hh : (x.toInt < lo ∨ hi < x.toInt → ztk pc df = true ∧ zSd D z0 ε al d y (zt pc df) l r h uc us Q) ∧ (¬ x.toInt < lo → ¬ hi < x.toInt → ∃ off, offs[(x.toInt - lo).toNat]? = some off ∧ ztk pc off = true ∧ zSd D z0 ε al d y (zt pc off) l r h uc us Q)) : zSd D z0 ε al d y pc l (.int x :: r) h uc us Q := by
  intro ln p e R s m args below meth c ad ca tys n0 ad0 ca0 tys0 H locs ls hF hE hw hS hl hn hag
  obtain ⟨⟨hx, hb, hr, hml, hown⟩, hts, ⟨hlk, hnm, hst⟩, hxt, hroom, hy9⟩ := id hF
  by_cases h1 : x.toInt < lo
  · obtain ⟨q1, q2⟩ := hh.1 (Or.inl h1)
    exact lv_tableOut hx hb hd (Or.inl h1) (ztk_eq q1) (q2 ln p e R s m args below meth c ad ca tys n0 ad0 ca0 tys0 H locs ls hF hE hw hS hl hn hag)
  · by_cases h2 : hi < x.toInt
    · obtain ⟨q1, q2⟩ := hh.1 (Or.inr h2)
      exact lv_tableOut hx hb hd (Or.inr h2) (ztk_eq q1) (q2 ln p e R s m args below meth c ad ca tys n0 ad0 ca0 tys0 H locs ls hF hE hw hS hl hn hag)
    · obtain ⟨off, q0, q1, q2⟩ := hh.2 h1 h2
      exact lv_tableIn hx hb hd h1 h2 q0 (ztk_eq q1) (q2 ln p e R s m args below meth c ad ca tys n0 ad0 ca0 tys0 H locs ls hF hE hw hS hl hn hag)
theorem zs_idiv {x z : Int32} {r : List Value} (hd : decode (zC y) pc = .ok (.idiv, 1)) (hz : ¬ z = 0) (hh : zSd D z0 ε al d y (pc + 1) l (.int (x / z) :: r) h uc us Q) : zSd D z0 ε al d y pc l (.int z :: .int x :: r) h uc us Q := by
  intro ln p e R s m args below meth c ad ca tys n0 ad0 ca0 tys0 H locs ls hF hE hw hS hl hn hag
  obtain ⟨⟨hx, hb, hr, hml, hown⟩, hts, ⟨hlk, hnm, hst⟩, hxt, hroom, hy9⟩ := id hF
  exact lv_idiv hx hb hd hz (hh ln p e R s m args below meth c ad ca tys n0 ad0 ca0 tys0 H locs ls hF hE hw hS hl hn hag)
theorem zs_irem {x z : Int32} {r : List Value} (hd : decode (zC y) pc = .ok (.irem, 1)) (hz : ¬ z = 0) (hh : zSd D z0 ε al d y (pc + 1) l (.int (x - x / z * z) :: r) h uc us Q) : zSd D z0 ε al d y pc l (.int z :: .int x :: r) h uc us Q := by
  intro ln p e R s m args below meth c ad ca tys n0 ad0 ca0 tys0 H locs ls hF hE hw hS hl hn hag
  obtain ⟨⟨hx, hb, hr, hml, hown⟩, hts, ⟨hlk, hnm, hst⟩, hxt, hroom, hy9⟩ := id hF
  exact lv_irem hx hb hd hz (hh ln p e R s m args below meth c ad ca tys n0 ad0 ca0 tys0 H locs ls hF hE hw hS hl hn hag)
theorem zs_ddiv {x z : UInt64} {r : List Value} (hd : decode (zC y) pc = .ok (.ddiv, 1)) (hz : vf_n64 (FP.ddiv x z)) (hh : zSd D z0 ε al d y (pc + 1) l (.double (FP.ddiv x z) :: r) h uc us Q) : zSd D z0 ε al d y pc l (.double z :: .double x :: r) h uc us Q := by
  intro ln p e R s m args below meth c ad ca tys n0 ad0 ca0 tys0 H locs ls hF hE hw hS hl hn hag
  obtain ⟨⟨hx, hb, hr, hml, hown⟩, hts, ⟨hlk, hnm, hst⟩, hxt, hroom, hy9⟩ := id hF
  exact lv_ddiv hx hb hd hz (hh ln p e R s m args below meth c ad ca tys n0 ad0 ca0 tys0 H locs ls hF hE hw hS hl hn hag)
theorem zgu {α : Type} {c ix : Nat} {t : Option α} {q : α} (h : cond (Nat.ble c 10 && Nat.ble ix 399) t none = some q) : c < 11 ∧ ix < 400 := by
  cases hb : (Nat.ble c 10 && Nat.ble ix 399) with
  | true =>
    obtain ⟨h1, h2⟩ := zan hb
    exact ⟨Nat.lt_succ_of_le (Nat.le_of_ble_eq_true h1), Nat.lt_succ_of_le (Nat.le_of_ble_eq_true h2)⟩
  | false =>
    rw [hb] at h
    cases h
theorem zst_all : (List.range 11).all (fun c => (List.range 400).all (fun ix => match zst c ix with | none => true | some i => Nat.ble (i + 1) 34 && decide (zso i = (c, ix, (zso i).2.2)))) = true := by decide +kernel
theorem zst_lt {c ix i : Nat} (h : zst c ix = some i) : i < 34 ∧ zso i = (c, ix, (zso i).2.2) := by
  obtain ⟨g1, g2⟩ := zgu h
  have q := zall (zall zst_all g1) g2
  rw [h] at q
  obtain ⟨q1, q2⟩ := zan q
  exact ⟨Nat.le_of_ble_eq_true q1, of_decide_eq_true q2⟩
theorem zs_ldc {ix i : Nat} {r : List Value} (hd : decode (zC y) pc = .ok (.ldc ix, 2)) (hi : zst (zcl y) ix = some i) (hh : zSd D z0 ε al d y (pc + 2) l (.ref (1000 + i) :: r) h uc us Q) : zSd D z0 ε al d y pc l (r) h uc us Q := by
  intro ln p e R s m args below meth c ad ca tys n0 ad0 ca0 tys0 H locs ls hF hE hw hS hl hn hag
  obtain ⟨⟨hx, hb, hr, hml, hown⟩, hts, ⟨hlk, hnm, hst⟩, hxt, hroom, hy9⟩ := id hF
  exact va_ldcS (own := zRn (zcl y)) (tx := (zso i).2.2) hx hb hown (by have q := hE.2.1 i (zst_lt hi).1; rw [(zst_lt hi).2] at q; exact q) hd (hh ln p e R s m args below meth c ad ca tys n0 ad0 ca0 tys0 H locs ls hF hE hw hS hl hn hag)
theorem zkc_in {c ix : Nat} {v : Int32} (h : zkc c ix = some v) : Jvm.Cond.constant (zRn c) ix v ∈ zWd := by
  unfold zkc at h
  simp only [Bool.cond_eq_ite] at h
  repeat' split at h
  all_goals first
    | (cases h; done)
    | (simp only [Nat.ble_eq, Nat.beq_eq] at *
       have hc : c = 9 := by omega
       subst hc
       subst_vars
       cases h
       decide +kernel)
theorem zs_ldcw {ix : Nat} {v : Int32} {r : List Value} (hd : decode (zC y) pc = .ok (.ldc_w ix, 3)) (hi : zkc (zcl y) ix = some v) (hh : zSd D z0 ε al d y (pc + 3) l (.int v :: r) h uc us Q) : zSd D z0 ε al d y pc l (r) h uc us Q := by
  intro ln p e R s m args below meth c ad ca tys n0 ad0 ca0 tys0 H locs ls hF hE hw hS hl hn hag
  obtain ⟨⟨hx, hb, hr, hml, hown⟩, hts, ⟨hlk, hnm, hst⟩, hxt, hroom, hy9⟩ := id hF
  exact lv_ldcw hx hb hown (hts _ (zkc_in hi)) hd (hh ln p e R s m args below meth c ad ca tys n0 ad0 ca0 tys0 H locs ls hF hE hw hS hl hn hag)
theorem zs_iret {v : Int32} (hd : decode (zC y) pc = .ok (.ireturn, 1)) (hrt : zRt y = some .int) (hq : Q (.inl (some (.int v))) h) : zSd D z0 ε al d y pc l [.int v] h uc us Q := by
  intro ln p e R s m args below meth c ad ca tys n0 ad0 ca0 tys0 H locs ls hF hE hw hS hl hn hag
  obtain ⟨⟨hx, hb, hr, hml, hown⟩, hts, ⟨hlk, hnm, hst⟩, hxt, hroom, hy9⟩ := id hF
  refine vx_ret (W.widen hn.2.1 hn.2.2 ?_)
  exact W.iret hx hb (hr.trans hrt) (fun t ht hW => ⟨⟨some (.int v), h, ad, ca, tys, rfl, hq, hn.1, hag, by rw [ht]; exact zWo.moved hW.alike hw⟩, hS.F ht⟩) hS.2.2 hd
theorem zs_zret {v : Int32} (hd : decode (zC y) pc = .ok (.ireturn, 1)) (hrt : zRt y = some .boolean) (hnw : narrow .boolean (.int v) = .int v) (hq : Q (.inl (some (.int v))) h) : zSd D z0 ε al d y pc l [.int v] h uc us Q := by
  intro ln p e R s m args below meth c ad ca tys n0 ad0 ca0 tys0 H locs ls hF hE hw hS hl hn hag
  obtain ⟨⟨hx, hb, hr, hml, hown⟩, hts, ⟨hlk, hnm, hst⟩, hxt, hroom, hy9⟩ := id hF
  refine vx_ret (W.widen hn.2.1 hn.2.2 ?_)
  exact W.zret hx hb (hr.trans hrt) hnw (fun t ht hW => ⟨⟨some (.int v), h, ad, ca, tys, rfl, hq, hn.1, hag, by rw [ht]; exact zWo.moved hW.alike hw⟩, hS.F ht⟩) hS.2.2 hd
theorem zs_dret {v : UInt64} (hd : decode (zC y) pc = .ok (.dreturn, 1)) (hrt : zRt y = some .double) (hq : Q (.inl (some (.double v))) h) : zSd D z0 ε al d y pc l [.double v] h uc us Q := by
  intro ln p e R s m args below meth c ad ca tys n0 ad0 ca0 tys0 H locs ls hF hE hw hS hl hn hag
  obtain ⟨⟨hx, hb, hr, hml, hown⟩, hts, ⟨hlk, hnm, hst⟩, hxt, hroom, hy9⟩ := id hF
  refine vx_ret (W.widen hn.2.1 hn.2.2 ?_)
  exact W.dret hx hb (hr.trans hrt) (fun t ht hW => ⟨⟨some (.double v), h, ad, ca, tys, rfl, hq, hn.1, hag, by rw [ht]; exact zWo.moved hW.alike hw⟩, hS.F ht⟩) hS.2.2 hd
theorem zs_vret (hd : decode (zC y) pc = .ok (.return_, 1)) (hrt : zRt y = none) (hq : Q (.inl (none)) h) : zSd D z0 ε al d y pc l [] h uc us Q := by
  intro ln p e R s m args below meth c ad ca tys n0 ad0 ca0 tys0 H locs ls hF hE hw hS hl hn hag
  obtain ⟨⟨hx, hb, hr, hml, hown⟩, hts, ⟨hlk, hnm, hst⟩, hxt, hroom, hy9⟩ := id hF
  refine vx_ret (W.widen hn.2.1 hn.2.2 ?_)
  exact W.vret hx hb (hr.trans hrt) (fun t ht hW => ⟨⟨none, h, ad, ca, tys, rfl, hq, hn.1, hag, by rw [ht]; exact zWo.moved hW.alike hw⟩, hS.F ht⟩) hS.2.2 hd
end
