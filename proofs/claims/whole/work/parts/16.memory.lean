/-! memory -/
theorem zfl_ok {c ix ci j : Nat} (h : zfl c ix = some (ci, j)) : Jvm.Cond.fieldLink (zRn c) ix (zRn ci) (zT ci j).2.1 (zT ci j).2.2.1 ∈ zWd ∧ (zT ci j).1 = zRn ci ∧ j < zNF ci ∧ ci < 8 := by
  obtain ⟨g1, g2⟩ := zgu h
  have q := zall (zall zfk_all g1) g2
  unfold zfk at q
  rw [h] at q
  obtain ⟨q1, q2⟩ := zan q
  obtain ⟨q3, q4⟩ := zan q1
  obtain ⟨q5, q6⟩ := zan q2
  exact ⟨zgd_in q3, of_decide_eq_true q4, Nat.le_of_ble_eq_true q5, Nat.le_of_ble_eq_true q6⟩
theorem zE_A1 {ad : Nat → Nat} {ca : Nat → ClassId} {h : zH} {k n : Nat} {f : Nat → Int32} : zE ad ca (zpA h k f) k (1, n) = .inl (ca k, n, .inl f) := by unfold zE zpA; simp only [zup_eq]
theorem zE_A2 {ad : Nat → Nat} {ca : Nat → ClassId} {h : zH} {k n : Nat} {f : Nat → Int32} : zE ad ca (zpA h k f) k (2, n) = .inl (ca k, n, .inl f) := by unfold zE zpA; simp only [zup_eq]
theorem zE_A3 {ad : Nat → Nat} {ca : Nat → ClassId} {h : zH} {k n : Nat} {f : Nat → Int32} : zE ad ca (zpA h k f) k (3, n) = .inl (ca k, n, .inl f) := by unfold zE zpA; simp only [zup_eq]
theorem zE_L4 {ad : Nat → Nat} {ca : Nat → ClassId} {h : zH} {k n : Nat} {f : Nat → Int64} : zE ad ca (zpL h k f) k (4, n) = .inl (ca k, n, .inr (.inl f)) := by unfold zE zpL; simp only [zup_eq]
theorem zE_D5 {ad : Nat → Nat} {ca : Nat → ClassId} {h : zH} {k n : Nat} {f : Nat → UInt64} : zE ad ca (zpD h k f) k (5, n) = .inl (ca k, n, .inr (.inr (.inr (.inl f)))) := by unfold zE zpD; simp only [zup_eq]
section
variable {D : va_G} {z0 : Nat} {ε : Nat × (Nat → Int32)} {al : Bool} {d y pc : Nat} {l : zL} {st : List Value} {h : zH} {uc us : Nat} {Q : zQ}
theorem zs_get {ix k c j : Nat} {r : List Value} (hd : decode (zC y) pc = .ok (.getfield ix, 3)) (hf : zfl (zcl y) ix = some (c, j)) (hk : h.1[k]? = some (0, c)) (hh : zSd D z0 ε al d y (pc + 3) l (cond (zfi c j) (.int (h.2.2.1 k j)) (h.2.1 k j) :: r) h uc us Q) : zSd D z0 ε al d y pc l (.ref k :: r) h uc us Q := by
  intro ln p e R s m args below meth c0 ad ca tys n0 ad0 ca0 tys0 H locs ls hF hE hw hS hl hn hag
  obtain ⟨⟨hx, hb, hr, hml, hown⟩, hts, ⟨hlk, hnm, hst⟩, hxt, hroom, hy9⟩ := id hF
  obtain ⟨f1, f2, f3, f4⟩ := zfl_ok hf
  have k0 := hh ln p e R s m args below meth c0 ad ca tys n0 ad0 ca0 tys0 H locs ls hF hE hw hS hl hn hag
  have e1 : zv ad (cond (zfi c j) (.int (h.2.2.1 k j)) (h.2.1 k j)) = cond (zfi c j) (.int (h.2.2.1 k j)) (zv ad (h.2.1 k j)) := by cases zfi c j <;> rfl
  rw [List.map_cons, e1] at k0
  exact va_get (D := D) (ci := c) (C := zRn c) (T := zT c) (N := zNF c) hx hb hts (zws_in c f4) hown hw.2.1 hw.1.1 k (zw_get hk) (zcl_ok c f4) j f3 (hts _ f1) (fun x q => by rw [f2] at q; exact q) (zfs_get f3) hd k0
theorem zs_putI {ix k c j : Nat} {r : List Value} {x : Int32} {ty : FieldType} (hd : decode (zC y) pc = .ok (.putfield ix, 3)) (hf : zfl (zcl y) ix = some (c, j)) (hk : h.1[k]? = some (0, c)) (hfn : cond (zT c j).2.2.2 (zini y && Nat.beq c (zcl y)) true = true) (hty : zTy c j = ty) (hfi : zfi c j = true) (hn1 : narrow ty (.int x) = .int x) (hn2 : fits ty (.int x) = true) (hh : zSd D z0 ε al d y (pc + 3) l r (zpI h k j x) uc us Q) : zSd D z0 ε al d y pc l (.int x :: .ref k :: r) h uc us Q := by
  intro ln p e R s m args below meth c0 ad ca tys n0 ad0 ca0 tys0 H locs ls hF hE hw hS hl hn hag
  obtain ⟨⟨hx, hb, hr, hml, hown⟩, hts, ⟨hlk, hnm, hst⟩, hxt, hroom, hy9⟩ := id hF
  obtain ⟨f1, f2, f3, f4⟩ := zfl_ok hf
  have e1 : (zw ad ca h).set k (ad k, .inr (c, ((List.range (zNF c)).map (fun j => cond (zfi c j) (Value.int (h.2.2.1 k j)) (zv ad (h.2.1 k j)))).set j (zv ad (.int x)))) = zw ad ca (zpI h k j x) := by
    rw [show zv ad (.int x) = Value.int x from rfl, zfs_setI hfi]
    exact zw_set (h' := zpI h k j x) hk rfl zE_I
  have hpd : parseFieldDescriptor (zT c j).2.2.1 = some ty := by rw [zty_ok c f4 j f3, hty]
  have hlen : j < ((List.range (zNF c)).map (fun j => cond (zfi c j) (Value.int (h.2.2.1 k j)) (zv ad (h.2.1 k j)))).length := by rw [List.length_map, List.length_range]; exact f3
  cases hfl : (zT c j).2.2.2 with
  | false =>
    refine va_put (D := D) (ci := c) (C := zRn c) (T := zT c) (N := zNF c) (ty := ty) hx hb hts (zws_in c f4) (zTy c) (zty_ok c f4) (znm_ok c f4) hown hw.2.1 hw.1.1 hw.1.2 hS k (zw_get hk) (zcl_ok c f4) j f3 (hts _ f1) (fun x q => by rw [f2] at q; exact q) hfl hpd hn1 hn2 hlen hd (fun H1 locs1 hP1 hD1 hS1 => ?_)
    rw [e1] at hP1 hD1
    exact hh ln p e R s m args below meth c0 ad ca tys n0 ad0 ca0 tys0 H1 locs1 ls hF hE ⟨⟨hP1, hD1⟩, hw.2⟩ hS1 hl hn hag
  | true =>
    rw [hfl] at hfn
    obtain ⟨g1, g2⟩ := zan hfn
    have g3 : c = zcl y := Nat.eq_of_beq_eq_true g2
    refine va_putF (D := D) (ci := c) (C := zRn c) (T := zT c) (N := zNF c) (ty := ty) hx hb hts (zws_in c f4) (zTy c) (zty_ok c f4) (znm_ok c f4) hown hw.2.1 hw.1.1 hw.1.2 hS k (zw_get hk) (zcl_ok c f4) j f3 (hts _ f1) (fun x q => by rw [f2] at q; exact q) hfl (hnm.trans (eq_of_beq g1)) (by rw [f2, g3]) hpd hn1 hn2 hlen hd (fun H1 locs1 hP1 hD1 hS1 => ?_)
    rw [e1] at hP1 hD1
    exact hh ln p e R s m args below meth c0 ad ca tys n0 ad0 ca0 tys0 H1 locs1 ls hF hE ⟨⟨hP1, hD1⟩, hw.2⟩ hS1 hl hn hag
theorem zs_putR {ix k c j : Nat} {r : List Value} {a : Nat} {ty : FieldType} (hd : decode (zC y) pc = .ok (.putfield ix, 3)) (hf : zfl (zcl y) ix = some (c, j)) (hk : h.1[k]? = some (0, c)) (hfn : cond (zT c j).2.2.2 (zini y && Nat.beq c (zcl y)) true = true) (hty : zTy c j = ty) (hfi : zfi c j = false) (hn1 : ∀ a : Nat, narrow ty (.ref a) = .ref a) (hn2 : ∀ a : Nat, fits ty (.ref a) = true) (hh : zSd D z0 ε al d y (pc + 3) l r (zpR h k j (.ref a)) uc us Q) : zSd D z0 ε al d y pc l (.ref a :: .ref k :: r) h uc us Q := by
  intro ln p e R s m args below meth c0 ad ca tys n0 ad0 ca0 tys0 H locs ls hF hE hw hS hl hn hag
  obtain ⟨⟨hx, hb, hr, hml, hown⟩, hts, ⟨hlk, hnm, hst⟩, hxt, hroom, hy9⟩ := id hF
  obtain ⟨f1, f2, f3, f4⟩ := zfl_ok hf
  have e1 : (zw ad ca h).set k (ad k, .inr (c, ((List.range (zNF c)).map (fun j => cond (zfi c j) (Value.int (h.2.2.1 k j)) (zv ad (h.2.1 k j)))).set j (zv ad (.ref a)))) = zw ad ca (zpR h k j (.ref a)) := by
    rw [zfs_setR hfi]
    exact zw_set (h' := zpR h k j (.ref a)) hk rfl zE_R
  have hpd : parseFieldDescriptor (zT c j).2.2.1 = some ty := by rw [zty_ok c f4 j f3, hty]
  have hlen : j < ((List.range (zNF c)).map (fun j => cond (zfi c j) (Value.int (h.2.2.1 k j)) (zv ad (h.2.1 k j)))).length := by rw [List.length_map, List.length_range]; exact f3
  cases hfl : (zT c j).2.2.2 with
  | false =>
    refine va_put (D := D) (ci := c) (C := zRn c) (T := zT c) (N := zNF c) (ty := ty) hx hb hts (zws_in c f4) (zTy c) (zty_ok c f4) (znm_ok c f4) hown hw.2.1 hw.1.1 hw.1.2 hS k (zw_get hk) (zcl_ok c f4) j f3 (hts _ f1) (fun x q => by rw [f2] at q; exact q) hfl hpd (hn1 (ad a)) (hn2 (ad a)) hlen hd (fun H1 locs1 hP1 hD1 hS1 => ?_)
    rw [e1] at hP1 hD1
    exact hh ln p e R s m args below meth c0 ad ca tys n0 ad0 ca0 tys0 H1 locs1 ls hF hE ⟨⟨hP1, hD1⟩, hw.2⟩ hS1 hl hn hag
  | true =>
    rw [hfl] at hfn
    obtain ⟨g1, g2⟩ := zan hfn
    have g3 : c = zcl y := Nat.eq_of_beq_eq_true g2
    refine va_putF (D := D) (ci := c) (C := zRn c) (T := zT c) (N := zNF c) (ty := ty) hx hb hts (zws_in c f4) (zTy c) (zty_ok c f4) (znm_ok c f4) hown hw.2.1 hw.1.1 hw.1.2 hS k (zw_get hk) (zcl_ok c f4) j f3 (hts _ f1) (fun x q => by rw [f2] at q; exact q) hfl (hnm.trans (eq_of_beq g1)) (by rw [f2, g3]) hpd (hn1 (ad a)) (hn2 (ad a)) hlen hd (fun H1 locs1 hP1 hD1 hS1 => ?_)
    rw [e1] at hP1 hD1
    exact hh ln p e R s m args below meth c0 ad ca tys n0 ad0 ca0 tys0 H1 locs1 ls hF hE ⟨⟨hP1, hD1⟩, hw.2⟩ hS1 hl hn hag
theorem zs_iald {k n : Nat} {i : Int32} {r : List Value} (hd : decode (zC y) pc = .ok (.iaload, 1)) (hk : h.1[k]? = some (1, n)) (hin : vp_in i n) (hh : zSd D z0 ε al d y (pc + 1) l (.int (h.2.2.2.1 k i.toNatClampNeg) :: r) h uc us Q) : zSd D z0 ε al d y pc l (.int i :: .ref k :: r) h uc us Q := by
  intro ln p e R s m args below meth c0 ad ca tys n0 ad0 ca0 tys0 H locs ls hF hE hw hS hl hn hag
  obtain ⟨⟨hx, hb, hr, hml, hown⟩, hts, ⟨hlk, hnm, hst⟩, hxt, hroom, hy9⟩ := id hF
  obtain ⟨t0, ht0⟩ := hw.2.2 k 0 n hk
  exact va_iald hx hb hw.2.1 hw.1.1 k t0 (zw_get hk) ht0 hin hd (hh ln p e R s m args below meth c0 ad ca tys n0 ad0 ca0 tys0 H locs ls hF hE hw hS hl hn hag)
theorem zs_bald {k n : Nat} {i : Int32} {r : List Value} (hd : decode (zC y) pc = .ok (.baload, 1)) (hk : h.1[k]? = some (2, n)) (hin : vp_in i n) (hh : zSd D z0 ε al d y (pc + 1) l (.int (h.2.2.2.1 k i.toNatClampNeg) :: r) h uc us Q) : zSd D z0 ε al d y pc l (.int i :: .ref k :: r) h uc us Q := by
  intro ln p e R s m args below meth c0 ad ca tys n0 ad0 ca0 tys0 H locs ls hF hE hw hS hl hn hag
  obtain ⟨⟨hx, hb, hr, hml, hown⟩, hts, ⟨hlk, hnm, hst⟩, hxt, hroom, hy9⟩ := id hF
  obtain ⟨t0, ht0⟩ := hw.2.2 k 1 n hk
  exact va_bald hx hb hw.2.1 hw.1.1 k t0 (zw_get hk) ht0 hin hd (hh ln p e R s m args below meth c0 ad ca tys n0 ad0 ca0 tys0 H locs ls hF hE hw hS hl hn hag)
theorem zs_zald {k n : Nat} {i : Int32} {r : List Value} (hd : decode (zC y) pc = .ok (.baload, 1)) (hk : h.1[k]? = some (3, n)) (hin : vp_in i n) (hh : zSd D z0 ε al d y (pc + 1) l (.int (h.2.2.2.1 k i.toNatClampNeg) :: r) h uc us Q) : zSd D z0 ε al d y pc l (.int i :: .ref k :: r) h uc us Q := by
  intro ln p e R s m args below meth c0 ad ca tys n0 ad0 ca0 tys0 H locs ls hF hE hw hS hl hn hag
  obtain ⟨⟨hx, hb, hr, hml, hown⟩, hts, ⟨hlk, hnm, hst⟩, hxt, hroom, hy9⟩ := id hF
  obtain ⟨t0, ht0⟩ := hw.2.2 k 2 n hk
  exact va_zald hx hb hw.2.1 hw.1.1 k t0 (zw_get hk) ht0 hin hd (hh ln p e R s m args below meth c0 ad ca tys n0 ad0 ca0 tys0 H locs ls hF hE hw hS hl hn hag)
theorem zs_lald {k n : Nat} {i : Int32} {r : List Value} (hd : decode (zC y) pc = .ok (.laload, 1)) (hk : h.1[k]? = some (4, n)) (hin : vp_in i n) (hh : zSd D z0 ε al d y (pc + 1) l (.long (h.2.2.2.2.1 k i.toNatClampNeg) :: r) h uc us Q) : zSd D z0 ε al d y pc l (.int i :: .ref k :: r) h uc us Q := by
  intro ln p e R s m args below meth c0 ad ca tys n0 ad0 ca0 tys0 H locs ls hF hE hw hS hl hn hag
  obtain ⟨⟨hx, hb, hr, hml, hown⟩, hts, ⟨hlk, hnm, hst⟩, hxt, hroom, hy9⟩ := id hF
  obtain ⟨t0, ht0⟩ := hw.2.2 k 3 n hk
  exact va_lald hx hb hw.2.1 hw.1.1 k t0 (zw_get hk) ht0 hin hd (hh ln p e R s m args below meth c0 ad ca tys n0 ad0 ca0 tys0 H locs ls hF hE hw hS hl hn hag)
theorem zs_dald {k n : Nat} {i : Int32} {r : List Value} (hd : decode (zC y) pc = .ok (.daload, 1)) (hk : h.1[k]? = some (5, n)) (hin : vp_in i n) (hh : zSd D z0 ε al d y (pc + 1) l (.double (h.2.2.2.2.2 k i.toNatClampNeg) :: r) h uc us Q) : zSd D z0 ε al d y pc l (.int i :: .ref k :: r) h uc us Q := by
  intro ln p e R s m args below meth c0 ad ca tys n0 ad0 ca0 tys0 H locs ls hF hE hw hS hl hn hag
  obtain ⟨⟨hx, hb, hr, hml, hown⟩, hts, ⟨hlk, hnm, hst⟩, hxt, hroom, hy9⟩ := id hF
  obtain ⟨t0, ht0⟩ := hw.2.2 k 4 n hk
  exact va_dald hx hb hw.2.1 hw.1.1 k t0 (zw_get hk) ht0 hin hd (hh ln p e R s m args below meth c0 ad ca tys n0 ad0 ca0 tys0 H locs ls hF hE hw hS hl hn hag)
theorem zs_sld {i : Int32} {r : List Value} (hd : decode (zC y) pc = .ok (.iaload, 1)) (hin : vp_in i ε.1) (hh : zSd D z0 ε al d y (pc + 1) l (.int (ε.2 i.toNatClampNeg) :: r) h uc us Q) : zSd D z0 ε al d y pc l (.int i :: .ref 2000 :: r) h uc us Q := by
  intro ln p e R s m args below meth c0 ad ca tys n0 ad0 ca0 tys0 H locs ls hF hE hw hS hl hn hag
  obtain ⟨⟨hx, hb, hr, hml, hown⟩, hts, ⟨hlk, hnm, hst⟩, hxt, hroom, hy9⟩ := id hF
  obtain ⟨g1, g2, g3⟩ := hE.1
  exact va_sld hx hb g2 (Nat.lt_of_lt_of_le g3 g1) (Nat.not_le.mpr g3) hS hin hd (hh ln p e R s m args below meth c0 ad ca tys n0 ad0 ca0 tys0 H locs ls hF hE hw hS hl hn hag)
theorem zs_slen {r : List Value} (hd : decode (zC y) pc = .ok (.arraylength, 1)) (hh : zSd D z0 ε al d y (pc + 1) l (.int (Int32.ofNat ε.1) :: r) h uc us Q) : zSd D z0 ε al d y pc l (.ref 2000 :: r) h uc us Q := by
  intro ln p e R s m args below meth c0 ad ca tys n0 ad0 ca0 tys0 H locs ls hF hE hw hS hl hn hag
  obtain ⟨⟨hx, hb, hr, hml, hown⟩, hts, ⟨hlk, hnm, hst⟩, hxt, hroom, hy9⟩ := id hF
  obtain ⟨g1, g2, g3⟩ := hE.1
  exact va_slen hx hb g2 (Nat.lt_of_lt_of_le g3 g1) (Nat.not_le.mpr g3) hS hd (hh ln p e R s m args below meth c0 ad ca tys n0 ad0 ca0 tys0 H locs ls hF hE hw hS hl hn hag)
theorem zE_arr {ad : Nat → Nat} {ca : Nat → ClassId} {h : zH} {k t n : Nat} : ∃ x : vp_A, x.1 = n ∧ zE ad ca h k (t + 1, n) = .inl (ca k, x) := by
  unfold zE
  split
  all_goals first
    | (rename_i heq; cases heq; exact ⟨_, rfl, rfl⟩)
    | (rename_i heq; simp at heq; done)
theorem zs_alen {k t n : Nat} {r : List Value} (hd : decode (zC y) pc = .ok (.arraylength, 1)) (hk : h.1[k]? = some (t + 1, n)) (hh : zSd D z0 ε al d y (pc + 1) l (.int (Int32.ofNat n) :: r) h uc us Q) : zSd D z0 ε al d y pc l (.ref k :: r) h uc us Q := by
  intro ln p e R s m args below meth c0 ad ca tys n0 ad0 ca0 tys0 H locs ls hF hE hw hS hl hn hag
  obtain ⟨⟨hx, hb, hr, hml, hown⟩, hts, ⟨hlk, hnm, hst⟩, hxt, hroom, hy9⟩ := id hF
  obtain ⟨t0, ht0⟩ := hw.2.2 k t n hk
  obtain ⟨x, hx1, hx2⟩ := zE_arr (ad := ad) (ca := ca) (h := h) (k := k) (t := t) (n := n)
  have hg := zw_get (ad := ad) (ca := ca) hk
  rw [hx2] at hg
  exact va_alen hx hb hw.2.1 hw.1.1 k t0 hg ht0 (by rw [hx1]) hd (hh ln p e R s m args below meth c0 ad ca tys n0 ad0 ca0 tys0 H locs ls hF hE hw hS hl hn hag)
theorem zs_iast {k n : Nat} {i : Int32} {x : Int32} {r : List Value} (hd : decode (zC y) pc = .ok (.iastore, 1)) (hk : h.1[k]? = some (1, n)) (hin : vp_in i n) (hh : zSd D z0 ε al d y (pc + 1) l r (zpA h k (upd (h.2.2.2.1 k) i.toNatClampNeg x)) uc us Q) : zSd D z0 ε al d y pc l (.int x :: .int i :: .ref k :: r) h uc us Q := by
  intro ln p e R s m args below meth c0 ad ca tys n0 ad0 ca0 tys0 H locs ls hF hE hw hS hl hn hag
  obtain ⟨⟨hx, hb, hr, hml, hown⟩, hts, ⟨hlk, hnm, hst⟩, hxt, hroom, hy9⟩ := id hF
  obtain ⟨t0, ht0⟩ := hw.2.2 k 0 n hk
  have e1 := zw_set (ad := ad) (ca := ca) (h' := zpA h k (upd (h.2.2.2.1 k) i.toNatClampNeg x)) hk rfl zE_A
  rw [zE_A1] at e1
  refine va_iast hx hb hw.2.1 hw.1.1 hw.1.2 hS k t0 (zw_get hk) ht0 hin hd (fun H1 locs1 hP1 hD1 hS1 => ?_)
  rw [e1] at hP1 hD1
  exact hh ln p e R s m args below meth c0 ad ca tys n0 ad0 ca0 tys0 H1 locs1 ls hF hE ⟨⟨hP1, hD1⟩, hw.2⟩ hS1 hl hn hag
theorem zs_bast {k n : Nat} {i : Int32} {x : Int32} {r : List Value} (hd : decode (zC y) pc = .ok (.bastore, 1)) (hk : h.1[k]? = some (2, n)) (hin : vp_in i n) (hh : zSd D z0 ε al d y (pc + 1) l r (zpA h k (upd (h.2.2.2.1 k) i.toNatClampNeg (vp_nar .byte x))) uc us Q) : zSd D z0 ε al d y pc l (.int x :: .int i :: .ref k :: r) h uc us Q := by
  intro ln p e R s m args below meth c0 ad ca tys n0 ad0 ca0 tys0 H locs ls hF hE hw hS hl hn hag
  obtain ⟨⟨hx, hb, hr, hml, hown⟩, hts, ⟨hlk, hnm, hst⟩, hxt, hroom, hy9⟩ := id hF
  obtain ⟨t0, ht0⟩ := hw.2.2 k 1 n hk
  have e1 := zw_set (ad := ad) (ca := ca) (h' := zpA h k (upd (h.2.2.2.1 k) i.toNatClampNeg (vp_nar .byte x))) hk rfl zE_A
  rw [zE_A2] at e1
  refine va_bast hx hb hw.2.1 hw.1.1 hw.1.2 hS k t0 (zw_get hk) ht0 hin hd (fun H1 locs1 hP1 hD1 hS1 => ?_)
  rw [e1] at hP1 hD1
  exact hh ln p e R s m args below meth c0 ad ca tys n0 ad0 ca0 tys0 H1 locs1 ls hF hE ⟨⟨hP1, hD1⟩, hw.2⟩ hS1 hl hn hag
theorem zs_zast {k n : Nat} {i : Int32} {x : Int32} {r : List Value} (hd : decode (zC y) pc = .ok (.bastore, 1)) (hk : h.1[k]? = some (3, n)) (hin : vp_in i n) (hh : zSd D z0 ε al d y (pc + 1) l r (zpA h k (upd (h.2.2.2.1 k) i.toNatClampNeg (vp_nar .boolean x))) uc us Q) : zSd D z0 ε al d y pc l (.int x :: .int i :: .ref k :: r) h uc us Q := by
  intro ln p e R s m args below meth c0 ad ca tys n0 ad0 ca0 tys0 H locs ls hF hE hw hS hl hn hag
  obtain ⟨⟨hx, hb, hr, hml, hown⟩, hts, ⟨hlk, hnm, hst⟩, hxt, hroom, hy9⟩ := id hF
  obtain ⟨t0, ht0⟩ := hw.2.2 k 2 n hk
  have e1 := zw_set (ad := ad) (ca := ca) (h' := zpA h k (upd (h.2.2.2.1 k) i.toNatClampNeg (vp_nar .boolean x))) hk rfl zE_A
  rw [zE_A3] at e1
  refine va_zast hx hb hw.2.1 hw.1.1 hw.1.2 hS k t0 (zw_get hk) ht0 hin hd (fun H1 locs1 hP1 hD1 hS1 => ?_)
  rw [e1] at hP1 hD1
  exact hh ln p e R s m args below meth c0 ad ca tys n0 ad0 ca0 tys0 H1 locs1 ls hF hE ⟨⟨hP1, hD1⟩, hw.2⟩ hS1 hl hn hag
theorem zs_last {k n : Nat} {i : Int32} {x : Int64} {r : List Value} (hd : decode (zC y) pc = .ok (.lastore, 1)) (hk : h.1[k]? = some (4, n)) (hin : vp_in i n) (hh : zSd D z0 ε al d y (pc + 1) l r (zpL h k (vp_updL (h.2.2.2.2.1 k) i.toNatClampNeg x)) uc us Q) : zSd D z0 ε al d y pc l (.long x :: .int i :: .ref k :: r) h uc us Q := by
  intro ln p e R s m args below meth c0 ad ca tys n0 ad0 ca0 tys0 H locs ls hF hE hw hS hl hn hag
  obtain ⟨⟨hx, hb, hr, hml, hown⟩, hts, ⟨hlk, hnm, hst⟩, hxt, hroom, hy9⟩ := id hF
  obtain ⟨t0, ht0⟩ := hw.2.2 k 3 n hk
  have e1 := zw_set (ad := ad) (ca := ca) (h' := zpL h k (vp_updL (h.2.2.2.2.1 k) i.toNatClampNeg x)) hk rfl zE_L
  rw [zE_L4] at e1
  refine va_last hx hb hw.2.1 hw.1.1 hw.1.2 hS k t0 (zw_get hk) ht0 hin hd (fun H1 locs1 hP1 hD1 hS1 => ?_)
  rw [e1] at hP1 hD1
  exact hh ln p e R s m args below meth c0 ad ca tys n0 ad0 ca0 tys0 H1 locs1 ls hF hE ⟨⟨hP1, hD1⟩, hw.2⟩ hS1 hl hn hag
theorem zs_dast {k n : Nat} {i : Int32} {x : UInt64} {r : List Value} (hd : decode (zC y) pc = .ok (.dastore, 1)) (hk : h.1[k]? = some (5, n)) (hin : vp_in i n) (hh : zSd D z0 ε al d y (pc + 1) l r (zpD h k (vf_upd (h.2.2.2.2.2 k) i.toNatClampNeg x)) uc us Q) : zSd D z0 ε al d y pc l (.double x :: .int i :: .ref k :: r) h uc us Q := by
  intro ln p e R s m args below meth c0 ad ca tys n0 ad0 ca0 tys0 H locs ls hF hE hw hS hl hn hag
  obtain ⟨⟨hx, hb, hr, hml, hown⟩, hts, ⟨hlk, hnm, hst⟩, hxt, hroom, hy9⟩ := id hF
  obtain ⟨t0, ht0⟩ := hw.2.2 k 4 n hk
  have e1 := zw_set (ad := ad) (ca := ca) (h' := zpD h k (vf_upd (h.2.2.2.2.2 k) i.toNatClampNeg x)) hk rfl zE_D
  rw [zE_D5] at e1
  refine va_dast hx hb hw.2.1 hw.1.1 hw.1.2 hS k t0 (zw_get hk) ht0 hin hd (fun H1 locs1 hP1 hD1 hS1 => ?_)
  rw [e1] at hP1 hD1
  exact hh ln p e R s m args below meth c0 ad ca tys n0 ad0 ca0 tys0 H1 locs1 ls hF hE ⟨⟨hP1, hD1⟩, hw.2⟩ hS1 hl hn hag
end
