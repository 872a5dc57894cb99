/-! making objects and rows; what the library does in one step -/
theorem zdef : ∀ c, c < 8 → ∀ j, j < zNF c → defaultValue (zTy c j) = cond (zfi c j) (.int 0) .null := by decide +kernel
theorem znw_ok {c ix ci : Nat} (h : znw c ix = some ci) : Jvm.Cond.classLink (zRn c) ix (zRn ci) ∈ zWd ∧ Jvm.Cond.instantiable (zRn ci) (zNF ci) ∈ zWd ∧ Jvm.Cond.initialized (zRn ci) ∈ zWd ∧ ci < 8 := by
  obtain ⟨g1, g2⟩ := zgu h
  have q := zall (zall znk_all g1) g2
  unfold znk at q
  rw [h] at q
  obtain ⟨q1, q2⟩ := zan q
  obtain ⟨q3, q4⟩ := zan q2
  obtain ⟨q5, q6⟩ := zan q4
  exact ⟨zgd_in q1, zgd_in q3, zgd_in q5, Nat.le_of_ble_eq_true q6⟩
theorem zup_ag {ad : Nat → Nat} {n q : Nat} (hn : n < 1000) : ∀ k, k < n ∨ 1000 ≤ k → va_up ad n q k = ad k := fun k hk => zup_ne (by omega)
section
variable {D : va_G} {z0 : Nat} {ε : Nat × (Nat → Int32)} {al : Bool} {d y pc : Nat} {l : zL} {st : List Value} {h : zH} {uc us : Nat} {Q : zQ}
set_option maxHeartbeats 4000000 in
theorem zs_new {ix ci : Nat} (hal : al = true) (hd : decode (zC y) pc = .ok (.new ix, 3)) (hnw : znw (zcl y) ix = some ci) (hok : zoks h.1.length l st = true) (hokh : zokh h = true) (hlt : h.1.length < 1000) (hc : uc + 1 ≤ zMc y ∧ us + zNF ci ≤ zMs y) (hh : zSd D z0 ε al d y (pc + 3) l (.ref h.1.length :: st) (zpO h ci) (uc + 1) (us + zNF ci) Q) : zSd D z0 ε al d y pc l st h uc us Q := by
  intro ln p e R s m args below meth c0 ad ca tys n0 ad0 ca0 tys0 H locs ls hF hE hw hS hl hn hag
  obtain ⟨⟨hx, hb, hr, hml, hown⟩, hts, ⟨hlk, hnm, hst⟩, hxt, hroom, hy9⟩ := id hF
  obtain ⟨f1, f2, f3, f4⟩ := znw_ok hnw
  obtain ⟨r1, r2, r3, r4⟩ := hroom
  refine va_new (D := D) (ci := ci) (C := zRn ci) (T := zT ci) (N := zNF ci) (fs := (List.range (zNF ci)).map (fun j => cond (zfi ci j) (.int 0) .null)) hx hb hts (zws_in ci f4) (zTy ci) (zty_ok ci f4) hown (hts _ f1) (hts _ f2) (hts _ f3) hw.2.1 hw.1.1 hw.1.2 hS (fun q hq => Nat.le_trans hE.1.1 hq) (zcl_ok ci f4) (fun j hj => ?_) (by rw [r3]; exact hc.1) (by rw [r4]; exact hc.2) hd (fun q H1 hP1 hD1 hS1 => ?_)
  · rw [zdef ci f4 j hj]
    unfold vp_V
    rw [List.getD_eq_getElem?_getD, List.getElem?_map, List.getElem?_range hj]
    rfl
  · have hag1 := zup_ag (ad := ad) (q := q) hlt
    have e1 : zw (va_up ad h.1.length q) ca (zpO h ci) = zw ad ca h ++ [(q, .inr (ci, (List.range (zNF ci)).map (fun j => cond (zfi ci j) (.int 0) .null)))] := by
      rw [zw_app (h := h) (t := (0, ci)) rfl zE_O, zw_ok hag1 (fun _ _ => rfl) hokh, zup_eq]
      congr 1
      congr 1
      congr 1
      unfold zE zpO
      simp only [zup_eq]
      rfl
    rw [← e1] at hP1 hD1
    obtain ⟨v1, v2⟩ := zv_oks hag1 hok
    have k0 := hh ln p e R s m args below meth c0 (va_up ad h.1.length q) ca tys n0 ad0 ca0 tys0 H1 locs ls hF (hE.ad (fun k hk => hag1 k (Or.inr hk))) ⟨⟨hP1, hD1⟩, hw.2.1, fun k t n hk => ?_⟩ hS1 (by rw [v1]; exact hl) ⟨by show n0 ≤ (h.1 ++ [(0, ci)]).length; rw [List.length_append]; exact Nat.le_trans hn.1 (Nat.le_add_right _ _), hc.1, hc.2⟩ ⟨fun k hk => by rw [hag1 k (hk.imp (fun q => Nat.lt_of_lt_of_le q hn.1) id)]; exact hag.1 k hk, fun q => absurd (hal.symm.trans q) (by decide)⟩
    · rw [List.map_cons, v2, show zv (va_up ad h.1.length q) (.ref h.1.length) = .ref q from congrArg Value.ref zup_eq] at k0
      exact k0
    · have hk2 : (h.1 ++ [(0, ci)])[k]? = some (t + 1, n) := hk
      rcases Nat.lt_or_ge k h.1.length with z | z
      · rw [List.getElem?_append_left z] at hk2
        exact hw.2.2 k t n hk2
      · rw [List.getElem?_append_right z] at hk2
        cases hz : k - h.1.length with
        | zero => rw [hz] at hk2; simp at hk2
        | succ w => rw [hz] at hk2; simp at hk2
set_option maxHeartbeats 4000000 in
theorem zs_newa {t : ArrayType} {n : Int32} {r : List Value} {ty : FieldType} {a0 : vp_A} (hal : al = true) (hd : decode (zC y) pc = .ok (.newarray t, 2)) (hty : newarray.typeOf t = ty) (hin : ty ∈ ([.int, .byte, .boolean, .long, .double] : List FieldType)) (hby : componentBytes ty ≤ 8) (ha : ∀ cA : ClassId, vp_cell cA a0 = arrV cA n.toNatClampNeg (fun _ => defaultValue ty)) (hzt : zfld (zaty t) = ty ∧ 1 ≤ zaty t)
    (hcell : ∀ (ad : Nat → Nat) (ca : Nat → ClassId), zE ad ca (zpN h (zaty t) n.toNatClampNeg) h.1.length (zaty t, n.toNatClampNeg) = .inl (ca h.1.length, a0))
    (hok : zoks h.1.length l r = true) (hokh : zokh h = true) (hlt : h.1.length < 1000) (hn0 : ¬ n < 0) (hn1 : n.toNatClampNeg ≤ 4000) (hc : uc + 1 ≤ zMc y ∧ us + n.toNatClampNeg ≤ zMs y) (hh : zSd D z0 ε al d y (pc + 2) l (.ref h.1.length :: r) (zpN h (zaty t) n.toNatClampNeg) (uc + 1) (us + n.toNatClampNeg) Q) : zSd D z0 ε al d y pc l (.int n :: r) h uc us Q := by
  intro ln p e R s m args below meth c0 ad ca tys n0 ad0 ca0 tys0 H locs ls hF hE hw hS hl hn hag
  obtain ⟨⟨hx, hb, hr, hml, hown⟩, hts, ⟨hlk, hnm, hst⟩, hxt, hroom, hy9⟩ := id hF
  obtain ⟨r1, r2, r3, r4⟩ := hroom
  refine va_newa (D := D) (cl := vwCl) (atype := t) (ty := ty) (a0 := a0) hx hb (hts _ (by rw [hty]; exact zarr_in ty hin)) hty hw.2.1 hw.1.1 hw.1.2 hS (fun q hq => Nat.le_trans hE.1.1 hq) ha hn0 rfl ?_ (by rw [r3]; exact hc.1) (by rw [r4]; exact hc.2) hd (fun q cA H1 hK1 hP1 hD1 hS1 => ?_)
  · exact Nat.le_trans (Nat.mul_le_mul hn1 hby) (Nat.le_of_ble_eq_true rfl)
  · have hag1 := zup_ag (ad := ad) (q := q) hlt
    have hagc : ∀ k, k < h.1.length → va_up ca h.1.length cA k = ca k := fun k hk => zup_ne (by omega)
    have e1 : zw (va_up ad h.1.length q) (va_up ca h.1.length cA) (zpN h (zaty t) n.toNatClampNeg) = zw ad ca h ++ [(q, .inl (cA, a0))] := by
      rw [zw_app (h := h) (t := (zaty t, n.toNatClampNeg)) rfl zE_N, zw_ok hag1 hagc hokh, hcell, zup_eq, zup_eq]
    rw [← e1] at hP1 hD1
    obtain ⟨v1, v2⟩ := zv_oks hag1 hok
    have k0 := hh ln p e R s m args below meth c0 (va_up ad h.1.length q) (va_up ca h.1.length cA) (tys ++ [(cA, ty)]) n0 ad0 ca0 tys0 H1 locs ls hF (hE.ad (fun k hk => hag1 k (Or.inr hk))) ⟨⟨hP1, hD1⟩, hK1, fun k t' n' hk => ?_⟩ hS1 (by rw [v1]; exact hl) ⟨by show n0 ≤ (h.1 ++ [(zaty t, n.toNatClampNeg)]).length; rw [List.length_append]; exact Nat.le_trans hn.1 (Nat.le_add_right _ _), hc.1, hc.2⟩ ⟨fun k hk => by rw [hag1 k (hk.imp (fun q => Nat.lt_of_lt_of_le q hn.1) id)]; exact hag.1 k hk, fun q => absurd (hal.symm.trans q) (by decide)⟩
    · rw [List.map_cons, v2, show zv (va_up ad h.1.length q) (.ref h.1.length) = .ref q from congrArg Value.ref zup_eq] at k0
      exact k0
    · have hk2 : (h.1 ++ [(zaty t, n.toNatClampNeg)])[k]? = some (t' + 1, n') := hk
      rcases Nat.lt_or_ge k h.1.length with z | z
      · rw [List.getElem?_append_left z] at hk2
        obtain ⟨t0, ht0⟩ := hw.2.2 k t' n' hk2
        exact ⟨t0, by rw [List.getElem?_append_left (List.getElem?_eq_some_iff.mp ht0).1, hagc k z]; exact ht0⟩
      · rw [List.getElem?_append_right z] at hk2
        cases hz : k - h.1.length with
        | zero =>
          rw [hz] at hk2
          have e2 : k = h.1.length := by omega
          subst e2
          have e3 := Option.some.inj hk2
          have e4 : zaty t = t' + 1 := congrArg Prod.fst e3
          refine ⟨tys.length, ?_⟩
          rw [List.getElem?_append_right (Nat.le_refl _), Nat.sub_self, zup_eq, ← e4, hzt.1]
          rfl
        | succ w => rw [hz] at hk2; simp at hk2
theorem zml_lib {c ix k a b : Nat} (h : zml c ix = some (k, a, b)) : zmk c ix = true ∧ c < 11 ∧ ix < 400 := by
  obtain ⟨g1, g2⟩ := zgu h
  exact ⟨zmk_all c g1 ix g2, g1, g2⟩
theorem zsum8 {ad : Nat → Nat} {r : List Value} (h : (r.map fun v => v.category).sum ≤ 8) : ((r.map (zv ad)).map fun v => v.category).sum ≤ 8 := by rw [zv_sum]; exact h
theorem zmaxC : Jvm.Cond.code Lib.Math.max.name Lib.Math.max.code 2 (some .int) ∈ zWd := by decide +kernel
theorem zminC : Jvm.Cond.code Lib.Math.min.name Lib.Math.min.code 2 (some .int) ∈ zWd := by decide +kernel
theorem zobjC : Jvm.Cond.code Lib.objectInit ⟨#[0xb1]⟩ 1 none ∈ zWd := by decide +kernel
theorem zs_max {ix a1 a2 : Nat} {x z : Int32} {r : List Value} (hd : decode (zC y) pc = .ok (.invokestatic ix, 3)) (hm : zml (zcl y) ix = some (4, a1, a2)) (h8 : (r.map fun v => v.category).sum ≤ 8) (hh : zSd D z0 ε al d y (pc + 3) l (.int (zmx x z) :: r) h uc us Q) : zSd D z0 ε al d y pc l (.int z :: .int x :: r) h uc us Q := by
  intro ln p e R s m args below meth c0 ad ca tys n0 ad0 ca0 tys0 H locs ls hF hE hw hS hl hn hag
  obtain ⟨⟨hx, hb, hr, hml, hown⟩, hts, ⟨hlk, hnm, hst⟩, hxt, hroom, hy9⟩ := id hF
  obtain ⟨r1, r2, r3, r4⟩ := hroom
  have q := (zml_lib hm).1
  unfold zmk at q
  rw [hm] at q
  have h9 := zsum8 (ad := ad) h8
  exact va_mmax hx hb (hml.trans hl.1.symm) hown (hts _ (zgd_in q)) (hts _ (zlib_in _ (by decide +kernel))) (hts _ (zlib_in _ (by decide +kernel))) (hts _ zmaxC) (by omega) (by omega) (by rw [r3]; exact hn.2.1) (by rw [r4]; exact hn.2.2) hd (hh ln p e R s m args below meth c0 ad ca tys n0 ad0 ca0 tys0 H locs ls hF hE hw hS hl hn hag)
theorem zs_min {ix a1 a2 : Nat} {x z : Int32} {r : List Value} (hd : decode (zC y) pc = .ok (.invokestatic ix, 3)) (hm : zml (zcl y) ix = some (5, a1, a2)) (h8 : (r.map fun v => v.category).sum ≤ 8) (hh : zSd D z0 ε al d y (pc + 3) l (.int (zmn x z) :: r) h uc us Q) : zSd D z0 ε al d y pc l (.int z :: .int x :: r) h uc us Q := by
  intro ln p e R s m args below meth c0 ad ca tys n0 ad0 ca0 tys0 H locs ls hF hE hw hS hl hn hag
  obtain ⟨⟨hx, hb, hr, hml, hown⟩, hts, ⟨hlk, hnm, hst⟩, hxt, hroom, hy9⟩ := id hF
  obtain ⟨r1, r2, r3, r4⟩ := hroom
  have q := (zml_lib hm).1
  unfold zmk at q
  rw [hm] at q
  have h9 := zsum8 (ad := ad) h8
  exact va_mmin hx hb (hml.trans hl.1.symm) hown (hts _ (zgd_in q)) (hts _ (zlib_in _ (by decide +kernel))) (hts _ (zlib_in _ (by decide +kernel))) (hts _ zminC) (by omega) (by omega) (by rw [r3]; exact hn.2.1) (by rw [r4]; exact hn.2.2) hd (hh ln p e R s m args below meth c0 ad ca tys n0 ad0 ca0 tys0 H locs ls hF hE hw hS hl hn hag)
theorem zs_obj {ix a1 a2 k : Nat} {r : List Value} (hd : decode (zC y) pc = .ok (.invokespecial ix, 3)) (hm : zml (zcl y) ix = some (9, a1, a2)) (h8 : (r.map fun v => v.category).sum ≤ 8) (hh : zSd D z0 ε al d y (pc + 3) l r h uc us Q) : zSd D z0 ε al d y pc l (.ref k :: r) h uc us Q := by
  intro ln p e R s m args below meth c0 ad ca tys n0 ad0 ca0 tys0 H locs ls hF hE hw hS hl hn hag
  obtain ⟨⟨hx, hb, hr, hml, hown⟩, hts, ⟨hlk, hnm, hst⟩, hxt, hroom, hy9⟩ := id hF
  obtain ⟨r1, r2, r3, r4⟩ := hroom
  have q := (zml_lib hm).1
  unfold zmk at q
  rw [hm] at q
  have h9 := zsum8 (ad := ad) h8
  exact W.objInit hx hb hown (hts _ (zgd_in q)) (hts _ (zlib_in _ (by decide +kernel))) (hts _ zobjC) rfl (hl.1.trans hml.symm) rfl hd (by omega) (by show 2 * 0 + _ + 12 ≤ _; omega) (hh ln p e R s m args below meth c0 ad ca tys n0 ad0 ca0 tys0 H locs ls hF hE hw hS hl hn hag)
theorem zs_copy {ix a1 a2 k0 k1 m0 m1 : Nat} {n dp sp : Int32} {r : List Value} (hd : decode (zC y) pc = .ok (.invokestatic ix, 3)) (hm : zml (zcl y) ix = some (6, a1, a2)) (hk0 : h.1[k0]? = some (1, m0)) (hk1 : h.1[k1]? = some (1, m1)) (hc : (r.map fun v => v.category).sum ≤ 8 ∧ ¬ sp < 0 ∧ ¬ dp < 0 ∧ ¬ n < 0 ∧ sp.toNatClampNeg + n.toNatClampNeg ≤ m0 ∧ dp.toNatClampNeg + n.toNatClampNeg ≤ m1) (hh : zSd D z0 ε al d y (pc + 3) l r (zpA h k1 (va_cpy (h.2.2.2.1 k0) (h.2.2.2.1 k1) sp.toNatClampNeg dp.toNatClampNeg n.toNatClampNeg)) uc us Q) : zSd D z0 ε al d y pc l (.int n :: .int dp :: .ref k1 :: .int sp :: .ref k0 :: r) h uc us Q := by
  intro ln p e R s m args below meth c0 ad ca tys n0 ad0 ca0 tys0 H locs ls hF hE hw hS hl hn hag
  obtain ⟨⟨hx, hb, hr, hml, hown⟩, hts, ⟨hlk, hnm, hst⟩, hxt, hroom, hy9⟩ := id hF
  obtain ⟨r1, r2, r3, r4⟩ := hroom
  obtain ⟨h8, c1, c2, c3, c4, c5⟩ := hc
  have q := (zml_lib hm).1
  unfold zmk at q
  rw [hm] at q
  have h9 := zsum8 (ad := ad) h8
  obtain ⟨t0, ht0⟩ := hw.2.2 k0 0 m0 hk0
  obtain ⟨t1, ht1⟩ := hw.2.2 k1 0 m1 hk1
  have e1 := zw_set (ad := ad) (ca := ca) (h' := zpA h k1 (va_cpy (h.2.2.2.1 k0) (h.2.2.2.1 k1) sp.toNatClampNeg dp.toNatClampNeg n.toNatClampNeg)) hk1 rfl zE_A
  rw [zE_A1] at e1
  have hnf : nativeFrameWords "java/lang/System" "arraycopy" 5 ≤ 100 := by decide +kernel
  refine va_copyi (D := D) (cl := vwCl) (ty := .int) hx hb (hml.trans hl.1.symm) hown (hts _ (zgd_in q)) (hts _ (zlib_in _ (by decide +kernel))) (hts _ (zlib_in _ (by decide +kernel))) (hts _ (zlib_in _ (by decide +kernel))) hw.2.1 hw.1.1 hw.1.2 hS k0 k1 t0 t1 (zw_get hk0) (zw_get hk1) ht0 ht1 rfl c1 c2 c3 c4 c5 (fun _ _ => rfl) (by omega) (by omega) hd (fun H1 locs1 hP1 hD1 hS1 => ?_)
  rw [e1] at hP1 hD1
  exact hh ln p e R s m args below meth c0 ad ca tys n0 ad0 ca0 tys0 H1 locs1 ls hF hE ⟨⟨hP1, hD1⟩, hw.2⟩ hS1 hl hn hag
end
