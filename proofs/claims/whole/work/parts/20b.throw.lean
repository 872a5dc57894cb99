/-! a throw -/
theorem zthB_ok {z0 : Nat} {ε : Nat × (Nat → Int32)} {ad : Nat → Nat} {s : State} {H : Heap} {args : Array Value} {x : Nat} (hx : x < 4) (hE : zEnv z0 ε ad s H) : ∀ w ∈ zthB x, w.before args s = true := by
  intro w hw
  rcases List.mem_cons.mp hw with rfl | hw
  · exact va_Nw.use rfl (hE.2.2.2.1.2.1 x hx)
  · obtain ⟨n, hn, rfl⟩ := List.mem_map.mp hw
    exact va_Nw.use rfl (hE.2.2.2.1.2.2 n hn)
section
variable {D : va_G} {z0 : Nat} {ε : Nat × (Nat → Int32)} {al : Bool} {d y pc : Nat} {l : zL} {st : List Value} {h : zH} {uc us : Nat} {Q : zQ}
set_option maxHeartbeats 4000000 in
theorem zs_throw {x : Nat} {w : Bool} {ik is ic : Nat} (hal : al = false) (hth : cond (Nat.ble pc 299) (zth y pc) none = some (x, w, ik, is, ic)) (hc : uc + 1 ≤ zMc y ∧ us + 6 ≤ zMs y ∧ (st.map fun v => v.category).sum ≤ 8) (hq : Q (.inr x) h) : zSd D z0 ε al d y pc l st h uc us Q := by
  intro ln p e R s m args below meth c0 ad ca tys n0 ad0 ca0 tys0 H locs ls hF hE hw hS hl hn hag
  obtain ⟨⟨hx, hb, hr, hml, hown⟩, hts, ⟨hlk, hnm, hst⟩, hxt, ⟨r1, r2, r3, r4⟩, hy9⟩ := id hF
  have hpc : pc < 300 := by
    cases hb9 : Nat.ble pc 299 with
    | true => exact Nat.lt_succ_of_le (Nat.le_of_ble_eq_true hb9)
    | false => rw [hb9] at hth; cases hth
  have qw := zall (zall zthw_all hy9) hpc
  unfold zthw at qw
  rw [hth] at qw
  obtain ⟨q1, q2⟩ := zan qw
  obtain ⟨d0, d3⟩ := zan q1
  obtain ⟨q3, q4⟩ := zan q2
  obtain ⟨q5, q6⟩ := zan q4
  obtain ⟨q7, q8⟩ := zan q5
  have d0 := zI_ok y _ _ (of_decide_eq_true d0)
  have d3 := zI_ok y _ _ (of_decide_eq_true d3)
  have hz : zhn y = [] := of_decide_eq_true q7
  have hout : ∀ (k : Nat), ∀ x ∈ c0.exceptionTable.toList, covers x (pc + k) = false := fun k x hx => by rw [hxt, hz] at hx; exact absurd hx List.not_mem_nil
  obtain ⟨i, hi⟩ := Option.isSome_iff_exists.mp q8
  have hstr : vk_R (zRn (zcl y)) is (zso i).2.2 (ad (1000 + i)) s := by
    have q := hE.2.1 i (zst_lt hi).1
    rw [(zst_lt hi).2] at q
    exact q
  subst hal
  obtain ⟨b1, b2, b3⟩ := hag.2 rfl
  subst b1
  subst b2
  subst b3
  have h8 := zsum8 (ad := ad) hc.2.2
  have hfin : x < 4 → ∀ t : State, s.vm.Alike t.vm → H.size ≤ t.heap.size → (∀ q : Nat, q < H.size → t.heap[q]? = H[q]?) → zXC D z0 n0 ad ca tys Q (zEx x) s t := fun hx4 t hA hsz hqq => ⟨⟨x, h, rfl, hx4, hq, hn.1, ⟨⟨va_P.kept hw.1.1 (fun k q hk => hqq q.1 (vx_lt hw.1.1 hk)), hw.1.2⟩, va_K.moved hA hw.2.1, hw.2.2⟩⟩, ⟨Nat.le_trans hS.1 hsz, fun q hq1 hq2 => by rw [hqq q (Nat.lt_of_lt_of_le hq1 hS.1)]; exact hS.2.1 q hq1 hq2⟩⟩
  rcases Bool.or_eq_true_iff.mp q6 with q9 | q9
  · have q10 := List.all_eq_true.mp zthk_all _ (of_decide_eq_true q9)
    have hx4 : x < 4 := by
      have q11 := of_decide_eq_true q9
      simp only [List.mem_cons, Prod.mk.injEq, List.not_mem_nil, or_false] at q11
      omega
    unfold zthk at q10
    obtain ⟨g1, g2⟩ := zan q10
    obtain ⟨g3, g4⟩ := zan g1
    obtain ⟨g5, g6⟩ := zan g2
    have w1 : (Jvm.Cond.classLink (zRn (zcl y)) ik (zEx x)) ∈ zWd := of_decide_eq_true g3
    have w2 : (Jvm.Cond.initialized (zEx x)) ∈ zWd := of_decide_eq_true g4
    have hat : ∀ w ∈ vx_atS (zRn (zcl y)) ic (zEx x) zNm, w.before args s = true := fun w hw => by
      rcases Bool.or_eq_true_iff.mp (List.all_eq_true.mp g5 w hw) with z | z
      · exact hts w (of_decide_eq_true z)
      · exact zthB_ok hx4 hE w (of_decide_eq_true z)
    have hgood : ∀ w ∈ Jvm.Cond.classLink (zRn (zcl y)) ik (zEx x) :: Jvm.Cond.initialized (zEx x) :: vx_atS (zRn (zcl y)) ic (zEx x) zNm, vx_ot w = true := fun w hw => by
      rcases List.mem_cons.mp hw with rfl | hw
      · exact Bool.or_eq_true_iff.mpr (Or.inr (List.mem_filter.mp w1).2)
      · rcases List.mem_cons.mp hw with rfl | hw
        · exact Bool.or_eq_true_iff.mpr (Or.inr (List.mem_filter.mp w2).2)
        · exact List.all_eq_true.mp g6 w hw
    have hfit : Bundle.fit (zEx x) = true := by
      rcases (show x = 0 ∨ x = 1 ∨ x = 2 ∨ x = 3 by omega) with rfl | rfl | rfl | rfl <;> decide +kernel
    have hnms : ∀ n ∈ zNm, Bundle.fit n = true := by decide +kernel
    cases w with
    | false =>
      obtain ⟨e1, e2⟩ := zan q3
      obtain ⟨e2, e3⟩ := zan e2
      exact vx_throwS (A := zA z0) (names := zNm) hx hb hst hown hfit hnms (hts _ w1) (hts _ w2) hstr hat hgood hE.2.2.1.1 hE.2.2.1.2 hS (hl.1.trans hml.symm) d0 d3 (zI_ok y _ _ (of_decide_eq_true e1)) (zI_ok y _ _ (of_decide_eq_true e2)) (zI_ok y _ _ (of_decide_eq_true e3)) (hout 9) (by show 2 + 3 < R.frames; omega) (by show _ + (13 * (2 + 1) + 43) ≤ R.locals; omega) (by rw [r3]; exact hc.1) (by rw [r4]; exact hc.2.1) hlk (hfin hx4) hS.2.2 hc.1 hc.2.1
    | true =>
      obtain ⟨e1, e2⟩ := zan q3
      obtain ⟨e2, e3⟩ := zan e2
      exact vx_throwSW (A := zA z0) (names := zNm) hx hb hst hown hfit hnms (hts _ w1) (hts _ w2) hstr hat hgood hE.2.2.1.1 hE.2.2.1.2 hS (hl.1.trans hml.symm) d0 d3 (zI_ok y _ _ (of_decide_eq_true e1)) (zI_ok y _ _ (of_decide_eq_true e2)) (zI_ok y _ _ (of_decide_eq_true e3)) (hout 10) (by show 2 + 3 < R.frames; omega) (by show _ + (13 * (2 + 1) + 43) ≤ R.locals; omega) (by rw [r3]; exact hc.1) (by rw [r4]; exact hc.2.1) hlk (hfin hx4) hS.2.2 hc.1 hc.2.1
  · have q10 := of_decide_eq_true q9
    simp only [Prod.mk.injEq] at q10
    obtain ⟨hy6, rfl, rfl, rfl⟩ := q10
    obtain ⟨g1, g2⟩ := zan (show ((decide (Jvm.Cond.classLink (zRn 6) 197 znX ∈ zWd) && decide (Jvm.Cond.initialized znX ∈ zWd)) && ((((znA (zRn 6) 201).filter vx_no).all (fun w => decide (w ∈ zWd) || decide (w ∈ zthB 3))) && ((znA (zRn 6) 201).filter vx_no).all vx_ot)) = true from znsk_ok)
    obtain ⟨g3, g4⟩ := zan g1
    obtain ⟨g5, g6⟩ := zan g2
    have w1 : (Jvm.Cond.classLink (zRn 6) 197 znX) ∈ zWd := of_decide_eq_true g3
    have w2 : (Jvm.Cond.initialized znX) ∈ zWd := of_decide_eq_true g4
    have hat : ∀ w ∈ (znA (zRn 6) 201).filter vx_no, w.before args s = true := fun w hw => by
      rcases Bool.or_eq_true_iff.mp (List.all_eq_true.mp g5 w hw) with z | z
      · exact hts w (of_decide_eq_true z)
      · exact zthB_ok (Nat.le_of_ble_eq_true rfl) hE w (of_decide_eq_true z)
    have hgood : ∀ w ∈ Jvm.Cond.classLink (zRn 6) 197 znX :: Jvm.Cond.initialized znX :: (znA (zRn 6) 201).filter vx_no, vx_ot w = true := fun w hw => by
      rcases List.mem_cons.mp hw with rfl | hw
      · exact Bool.or_eq_true_iff.mpr (Or.inr (List.mem_filter.mp w1).2)
      · rcases List.mem_cons.mp hw with rfl | hw
        · exact Bool.or_eq_true_iff.mpr (Or.inr (List.mem_filter.mp w2).2)
        · exact List.all_eq_true.mp g6 w hw
    rw [hy6] at hown hstr
    cases w with
    | false =>
      obtain ⟨e1, e2⟩ := zan q3
      obtain ⟨e2, e3⟩ := zan e2
      exact zn_throw (A := zA z0) hx hb hst hown (hts _ w1) (hts _ w2) hstr hat hgood hE.2.2.1.1 hE.2.2.1.2 hS (hl.1.trans hml.symm) d0 d3 (zI_ok y _ _ (of_decide_eq_true e1)) (zI_ok y _ _ (of_decide_eq_true e2)) (zI_ok y _ _ (of_decide_eq_true e3)) (hout 9) (by omega) (by omega) (by rw [r3]; exact hc.1) (by rw [r4]; exact hc.2.1) hlk (hfin (Nat.le_of_ble_eq_true rfl)) hS.2.2 hc.1 hc.2.1
    | true =>
      obtain ⟨e1, e2⟩ := zan q3
      obtain ⟨e2, e3⟩ := zan e2
      exact zn_throwW (A := zA z0) hx hb hst hown (hts _ w1) (hts _ w2) hstr hat hgood hE.2.2.1.1 hE.2.2.1.2 hS (hl.1.trans hml.symm) d0 d3 (zI_ok y _ _ (of_decide_eq_true e1)) (zI_ok y _ _ (of_decide_eq_true e2)) (zI_ok y _ _ (of_decide_eq_true e3)) (hout 10) (by omega) (by omega) (by rw [r3]; exact hc.1) (by rw [r4]; exact hc.2.1) hlk (hfin (Nat.le_of_ble_eq_true rfl)) hS.2.2 hc.1 hc.2.1
end
