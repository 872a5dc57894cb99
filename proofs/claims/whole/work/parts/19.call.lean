/-! calls -/
def zhk (c ix : Nat) : Bool := match zml c ix with
  | some (0, y, _) => (decide (zhn y = []) && decide (y ≠ 232)) && Nat.ble (zcl y + 1) 8
  | some (1, y, _) => decide (zhn y = []) && decide (y ≠ 232)
  | some (2, y, _) => decide (zhn y = []) && decide (y ≠ 232)
  | some (3, y, _) => decide (zhn y = []) && decide (y ≠ 232)
  | some (10, y, _) => decide (zhn y ≠ []) && decide (y ≠ 232)
  | _ => true
theorem zhk_all : (List.range 11).all (fun c => (List.range 400).all (zhk c)) = true := by decide +kernel
theorem zpop_ok : ∀ (n : Nat) (acc st as r : List Value), zpop n acc st = some (as, r) → ∃ tk : List Value, st = tk ++ r ∧ as = tk.reverse ++ acc ∧ tk.length = n
  | 0, acc, st, as, r, h => by
    unfold zpop at h
    cases h
    exact ⟨[], rfl, rfl, rfl⟩
  | n + 1, acc, [], as, r, h => by
    unfold zpop at h
    cases h
  | n + 1, acc, v :: st, as, r, h => by
    unfold zpop at h
    obtain ⟨tk, h1, h2, h3⟩ := zpop_ok n (v :: acc) st as r h
    exact ⟨v :: tk, by rw [h1]; rfl, by rw [h2, List.reverse_cons, List.append_assoc]; rfl, by rw [List.length_cons, h3]⟩
theorem zpop_st {n : Nat} {st as r : List Value} {ad : Nat → Nat} (h : zpop n [] st = some (as, r)) : st.map (zv ad) = (as.map (zv ad)).reverse ++ r.map (zv ad) ∧ (as.map (zv ad)).length = n := by
  obtain ⟨tk, h1, h2, h3⟩ := zpop_ok n [] st as r h
  rw [List.append_nil] at h2
  subst h2
  rw [h1, List.map_append, List.map_reverse, List.reverse_reverse]
  exact ⟨rfl, by rw [List.length_reverse, List.length_map]; exact h3⟩
theorem zWd_good {w : Jvm.Cond} (h : w ∈ zWd) : (w.onTables && w.keeps) = true ∨ ∃ ty, w = .arrayClass ty := good_of_word (List.mem_filter.mp h).2
theorem zGoodIn {y : Nat} (hy : y < 235) (hl : y ≠ 232) : GoodIn zWd (zcw y :: zWd) := fun w hw => (List.mem_cons.mp hw).elim (fun e => by rw [e]; exact ⟨zcw_in y hy hl, zWd_good (zcw_in y hy hl)⟩) (fun h => ⟨h, zWd_good h⟩)
theorem zcw_nil {y : Nat} (h : zhn y = []) : zcw y = .code (zY y) (zC y) (zML y) (zRt y) := by unfold zcw; rw [h]
theorem zcw_cons {y : Nat} (h : zhn y ≠ []) : zcw y = .codeWith (zY y) (zC y) (zML y) (zRt y) (zhn y) := by
  unfold zcw
  split
  · rename_i e; exact absurd e h
  · rfl
section
variable {D : va_G} {z0 : Nat} {ε : Nat × (Nat → Int32)} {al : Bool} {d y y' pc n : Nat} {l : zL} {st as r : List Value} {h : zH} {uc us : Nat} {Q : zQ}
theorem zblind {ad : Nat → Nat} {ca : Nat → ClassId} {tys : List (ClassId × FieldType)} : FrameBlind (zPc D z0 ε as ad ca tys h) := fun a U g mk q => ⟨q.1, zEnv.same (u := U) (U := U.calling g mk a) rfl q.2.1, zWo.moved (u := U) (U := U.calling g mk a) (Vm.Alike.refl U.vm) q.2.2⟩
theorem zpre {s : State} {H : Heap} {locs : List Loc} {ad : Nat → Nat} {ca : Nat → ClassId} {tys : List (ClassId × FieldType)} (hE : zEnv z0 ε ad s s.heap) (hw : zWo D z0 ad ca tys h s H) (hS : va_S (zA z0) s.heap H locs) : ∀ U : State, U.heap = H → s.WarmedH U.vm → zPc D z0 ε as ad ca tys h (as.map (zv ad)).toArray U := fun U hU hW => ⟨rfl, by rw [hU]; exact hE.warm hW hS.1 hS.2.1, by rw [hU]; exact zWo.moved hW.alike hw⟩
theorem zroom {R : Room} {d y' : Nat} (hy : y' < 235) (h1 : d + 1 + 8 ≤ R.frames) (h2 : 64 * (d + 1) + 150 ≤ R.locals) : (zrm1 d y').frames + 1 ≤ R.frames ∧ 8 + (zML y' + 11) + (zrm1 d y').locals ≤ R.locals := by
  have h5 := (zyk_ok hy).2.2.2.2
  refine ⟨?_, ?_⟩
  · show d + 8 + 1 ≤ R.frames
    omega
  · show 8 + (zML y' + 11) + (64 * d + 150) ≤ R.locals
    omega
set_option maxHeartbeats 4000000 in
theorem zs_virt {ix k c' : Nat} (hd : decode (zC y) pc = .ok (.invokevirtual ix, 3)) (hm : zml (zcl y) ix = some (0, y', n)) (hst : zpop n [] st = some (as, .ref k :: r)) (hk : h.1[k]? = some (0, c')) (hcc : c' = zcl y') (hh : zcall (zSd D z0 ε) al false false d y pc l r h uc us Q y' (.ref k :: as)) : zSd D z0 ε al d y pc l st h uc us Q := by
  cases d with
  | zero => exact hh.elim
  | succ d =>
    intro ln p e R s m args below meth c0 ad ca tys n0 ad0 ca0 tys0 H locs ls hF hE hw hS hl hn hag
    obtain ⟨⟨hx, hb, hr, hml, hown⟩, hts, ⟨hlk, hnm, hst2⟩, hxt, ⟨r1, r2, r3, r4⟩, hy9⟩ := id hF
    obtain ⟨⟨hc1, hc2, hck⟩, hsd⟩ := hh
    obtain ⟨hck1, hck2⟩ := zan hck
    obtain ⟨qk, g1, g2⟩ := zml_lib hm
    have qh := zall (zall zhk_all g1) g2
    unfold zmk at qk
    unfold zhk at qh
    rw [hm] at qk qh
    obtain ⟨q1, q2⟩ := zan qk
    obtain ⟨q3, q4⟩ := zan q1
    obtain ⟨q5, q6⟩ := zan q2
    obtain ⟨q7, q8⟩ := zan q6
    obtain ⟨p0, p3⟩ := zan qh
    obtain ⟨p1, p2⟩ := zan p0
    have hy' : y' < 235 := Nat.le_of_ble_eq_true q8
    have hz : zhn y' = [] := of_decide_eq_true p1
    have hl' : y' ≠ 232 := of_decide_eq_true p2
    obtain ⟨k1, k2, k3, k4, k5⟩ := zyk_ok hy'
    obtain ⟨s1, s2⟩ := zpop_st (ad := ad) hst
    rw [s1]
    refine zs_back (ac := false) (nx := false) (h := h) (r := r) (fun _ => rfl) hF hE hS hl hn.1 hc1 hc2 hag (aa := ((.ref k :: as).map (zv ad)).toArray) ?_
    have hM := zmet ad ca tys hst2 hy' hck1 hsd
    have hrv := va_recv hw.2.1 hw.1.1 (zcl_ok c' (by rw [hcc]; exact Nat.le_of_ble_eq_true p3)) (zw_get hk)
    rw [hcc] at hrv
    exact vx_runV (As := as.map (zv ad)) (b := ad k) (C := (zY y').cls) (own := zRn (zcl y)) (Ts := zWd) (rest := r.map (zv ad)) ⟨hx, hb, hml, hown, hts⟩ hM ⟨callB_of n hts (zGoodIn hy' hl') (by rw [zcw_nil hz]) rfl rfl (by rw [k2]; exact hts _ k4) (hts _ (zgd_in q3)) ⟨k3.1, k3.2, of_decide_eq_true q7⟩ (zroom hy' r1 r2), hts _ (zgd_in q4), hts _ (zgd_in q5)⟩ ⟨zblind, by rw [k2]; exact hrv, zpre (as := .ref k :: as) hE hw hS⟩ rfl s2 hl.1 rfl (by show 2 * 0 + _ ≤ 8; rw [zv_sum, Nat.mul_zero, Nat.zero_add]; exact Nat.le_of_ble_eq_true hck2) hd ⟨by rw [r3]; exact hc1, by rw [r4]; exact hc2⟩
set_option maxHeartbeats 4000000 in
theorem zs_stat {ix : Nat} (hd : decode (zC y) pc = .ok (.invokestatic ix, 3)) (hm : zml (zcl y) ix = some (1, y', n)) (hst : zpop n [] st = some (as, r)) (hh : zcall (zSd D z0 ε) al false false d y pc l r h uc us Q y' as) : zSd D z0 ε al d y pc l st h uc us Q := by
  cases d with
  | zero => exact hh.elim
  | succ d =>
    intro ln p e R s m args below meth c0 ad ca tys n0 ad0 ca0 tys0 H locs ls hF hE hw hS hl hn hag
    obtain ⟨⟨hx, hb, hr, hml, hown⟩, hts, ⟨hlk, hnm, hst2⟩, hxt, ⟨r1, r2, r3, r4⟩, hy9⟩ := id hF
    obtain ⟨⟨hc1, hc2, hck⟩, hsd⟩ := hh
    obtain ⟨hck1, hck2⟩ := zan hck
    obtain ⟨qk, g1, g2⟩ := zml_lib hm
    have qh := zall (zall zhk_all g1) g2
    unfold zmk at qk
    unfold zhk at qh
    rw [hm] at qk qh
    obtain ⟨q1, q2⟩ := zan qk
    obtain ⟨q3, q4⟩ := zan q1
    obtain ⟨q7, q8⟩ := zan q2
    obtain ⟨p1, p2⟩ := zan qh
    have hy' : y' < 235 := Nat.le_of_ble_eq_true q8
    have hz : zhn y' = [] := of_decide_eq_true p1
    have hl' : y' ≠ 232 := of_decide_eq_true p2
    obtain ⟨k1, k2, k3, k4, k5⟩ := zyk_ok hy'
    obtain ⟨s1, s2⟩ := zpop_st (ad := ad) hst
    rw [s1]
    refine zs_back (ac := false) (nx := false) (h := h) (r := r) (fun _ => rfl) hF hE hS hl hn.1 hc1 hc2 hag (aa := (as.map (zv ad)).toArray) ?_
    have hM := zmet ad ca tys hst2 hy' hck1 hsd
    exact vx_runS (As := as.map (zv ad)) (own := zRn (zcl y)) (Ts := zWd) (rest := r.map (zv ad)) ⟨hx, hb, hml, hown, hts⟩ hM ⟨callB_of n hts (zGoodIn hy' hl') (by rw [zcw_nil hz]) rfl rfl (by rw [k2]; exact hts _ k4) (hts _ (zgd_in q3)) ⟨k3.1, k3.2, of_decide_eq_true q7⟩ (zroom hy' r1 r2), hts _ (zgd_in q4)⟩ ⟨zblind, zpre (as := as) hE hw hS⟩ rfl s2 hl.1 rfl (by show 2 * 0 + _ ≤ 8; rw [zv_sum, Nat.mul_zero, Nat.zero_add]; exact Nat.le_of_ble_eq_true hck2) hd ⟨by rw [r3]; exact hc1, by rw [r4]; exact hc2⟩
set_option maxHeartbeats 4000000 in
theorem zs_nest {ix : Nat} (hd : decode (zC y) pc = .ok (.invokestatic ix, 3)) (hm : zml (zcl y) ix = some (2, y', n)) (hst : zpop n [] st = some (as, r)) (hh : zcall (zSd D z0 ε) al false true d y pc l r h uc us Q y' as) : zSd D z0 ε al d y pc l st h uc us Q := by
  cases d with
  | zero => exact hh.elim
  | succ d =>
    intro ln p e R s m args below meth c0 ad ca tys n0 ad0 ca0 tys0 H locs ls hF hE hw hS hl hn hag
    obtain ⟨⟨hx, hb, hr, hml, hown⟩, hts, ⟨hlk, hnm, hst2⟩, hxt, ⟨r1, r2, r3, r4⟩, hy9⟩ := id hF
    obtain ⟨⟨hc1, hc2, hck⟩, hsd⟩ := hh
    obtain ⟨hck1, hck2⟩ := zan hck
    obtain ⟨qk, g1, g2⟩ := zml_lib hm
    have qh := zall (zall zhk_all g1) g2
    unfold zmk at qk
    unfold zhk at qh
    rw [hm] at qk qh
    obtain ⟨q1, q2⟩ := zan qk
    obtain ⟨q3, q4⟩ := zan q1
    obtain ⟨q7, q8⟩ := zan q2
    obtain ⟨p1, p2⟩ := zan qh
    have hy' : y' < 235 := Nat.le_of_ble_eq_true q8
    have hz : zhn y' = [] := of_decide_eq_true p1
    have hl' : y' ≠ 232 := of_decide_eq_true p2
    obtain ⟨k1, k2, k3, k4, k5⟩ := zyk_ok hy'
    obtain ⟨s1, s2⟩ := zpop_st (ad := ad) hst
    rw [s1]
    refine zs_back (ac := false) (nx := true) (h := h) (r := r) (fun _ => rfl) hF hE hS hl hn.1 hc1 hc2 hag (aa := (as.map (zv ad)).toArray) ?_
    have hM := zmet ad ca tys hst2 hy' hck1 hsd
    have hM2 := zmet_of hM (fun E s t q => by
      obtain ⟨⟨x, h', -, -, hq, -⟩, -⟩ := q
      exact absurd hq.1.2 (by decide))
    exact zrun_of (va_runSN (As := as.map (zv ad)) (own := zRn (zcl y)) (Ts := zWd) (rest := r.map (zv ad)) ⟨hx, hb, hml, hown, hts⟩ hM2 ⟨va_cnB n hts (zGoodIn hy' hl') (by rw [zcw_nil hz]) rfl rfl (hE.2.2.2.2.1 _ _ _ _ hm) (by rw [k2]; exact hts _ k4) ⟨k3.1, k3.2, of_decide_eq_true q7⟩ (zroom hy' r1 r2), hts _ (zgd_in q4), trivial⟩ ⟨zblind, zpre (as := as) hE hw hS⟩ rfl s2 hl.1 rfl (by show 2 * 0 + _ ≤ 8; rw [zv_sum, Nat.mul_zero, Nat.zero_add]; exact Nat.le_of_ble_eq_true hck2) hd ⟨by rw [r3]; exact hc1, by rw [r4]; exact hc2⟩)
set_option maxHeartbeats 4000000 in
theorem zs_statH {ix : Nat} (hd : decode (zC y) pc = .ok (.invokestatic ix, 3)) (hm : zml (zcl y) ix = some (10, y', n)) (hst : zpop n [] st = some (as, r)) (hh : zcall (zSd D z0 ε) al false false d y pc l r h uc us Q y' as) : zSd D z0 ε al d y pc l st h uc us Q := by
  cases d with
  | zero => exact hh.elim
  | succ d =>
    intro ln p e R s m args below meth c0 ad ca tys n0 ad0 ca0 tys0 H locs ls hF hE hw hS hl hn hag
    obtain ⟨⟨hx, hb, hr, hml, hown⟩, hts, ⟨hlk, hnm, hst2⟩, hxt, ⟨r1, r2, r3, r4⟩, hy9⟩ := id hF
    obtain ⟨⟨hc1, hc2, hck⟩, hsd⟩ := hh
    obtain ⟨hck1, hck2⟩ := zan hck
    obtain ⟨qk, g1, g2⟩ := zml_lib hm
    have qh := zall (zall zhk_all g1) g2
    unfold zmk at qk
    unfold zhk at qh
    rw [hm] at qk qh
    obtain ⟨q1, q2⟩ := zan qk
    obtain ⟨q3, q4⟩ := zan q1
    obtain ⟨q7, q8⟩ := zan q2
    obtain ⟨p1, p2⟩ := zan qh
    have hy' : y' < 235 := Nat.le_of_ble_eq_true q8
    have hz : zhn y' ≠ [] := of_decide_eq_true p1
    have hl' : y' ≠ 232 := of_decide_eq_true p2
    obtain ⟨k1, k2, k3, k4, k5⟩ := zyk_ok hy'
    obtain ⟨s1, s2⟩ := zpop_st (ad := ad) hst
    rw [s1]
    refine zs_back (ac := false) (nx := false) (h := h) (r := r) (fun _ => rfl) hF hE hS hl hn.1 hc1 hc2 hag (aa := (as.map (zv ad)).toArray) ?_
    have hM := zmet ad ca tys hst2 hy' hck1 hsd
    exact vx_runSX (As := as.map (zv ad)) (own := zRn (zcl y)) (Ts := zWd) (rest := r.map (zv ad)) ⟨hx, hb, hml, hown, hts⟩ hM (vx_cwSW n hts (fun w hw => by
      rcases List.mem_append.mp hw with hw | hw
      · have : w ∈ zWd := by
          simp only [List.mem_cons, List.not_mem_nil, or_false] at hw
          rcases hw with rfl | rfl | rfl
          · exact zgd_in q3
          · exact zgd_in q4
          · rw [k2]; exact k4
        exact ⟨this, zWd_good this⟩
      · exact zGoodIn hy' hl' w hw) (by rw [zcw_cons hz]) rfl rfl ⟨k3.1, k3.2, of_decide_eq_true q7⟩ (zroom hy' r1 r2)) ⟨zblind, zpre (as := as) hE hw hS⟩ rfl s2 hl.1 rfl (by show 2 * 0 + _ ≤ 8; rw [zv_sum, Nat.mul_zero, Nat.zero_add]; exact Nat.le_of_ble_eq_true hck2) hd ⟨by rw [r3]; exact hc1, by rw [r4]; exact hc2⟩
set_option maxHeartbeats 4000000 in
theorem zs_init {ix k : Nat} (hal : al = true) (hd : decode (zC y) pc = .ok (.invokespecial ix, 3)) (hm : zml (zcl y) ix = some (3, y', n)) (hst : zpop n [] st = some (as, .ref k :: r)) (hh : zcall (zSd D z0 ε) al true true d y pc l r h uc us Q y' (.ref k :: as)) : zSd D z0 ε al d y pc l st h uc us Q := by
  cases d with
  | zero => exact hh.elim
  | succ d =>
    intro ln p e R s m args below meth c0 ad ca tys n0 ad0 ca0 tys0 H locs ls hF hE hw hS hl hn hag
    obtain ⟨⟨hx, hb, hr, hml, hown⟩, hts, ⟨hlk, hnm, hst2⟩, hxt, ⟨r1, r2, r3, r4⟩, hy9⟩ := id hF
    obtain ⟨⟨hc1, hc2, hck⟩, hsd⟩ := hh
    obtain ⟨hck1, hck2⟩ := zan hck
    obtain ⟨qk, g1, g2⟩ := zml_lib hm
    have qh := zall (zall zhk_all g1) g2
    unfold zmk at qk
    unfold zhk at qh
    rw [hm] at qk qh
    obtain ⟨q1, q2⟩ := zan qk
    obtain ⟨q3, q4⟩ := zan q1
    obtain ⟨q7, q8⟩ := zan q2
    obtain ⟨q9, q10⟩ := zan q8
    obtain ⟨q11, q12⟩ := zan q10
    obtain ⟨p1, p2⟩ := zan qh
    have hy' : y' < 235 := Nat.le_of_ble_eq_true q11
    have hz : zhn y' = [] := of_decide_eq_true p1
    have hrt : zRt y' = none := of_decide_eq_true q12
    have hl' : y' ≠ 232 := of_decide_eq_true p2
    obtain ⟨k1, k2, k3, k4, k5⟩ := zyk_ok hy'
    obtain ⟨s1, s2⟩ := zpop_st (ad := ad) hst
    rw [s1]
    refine zs_back (ac := true) (nx := true) (h := h) (r := r) (fun q => absurd (hal.symm.trans q) (by decide)) hF hE hS hl hn.1 hc1 hc2 hag (aa := ((.ref k :: as).map (zv ad)).toArray) ?_
    have hM := zmet ad ca tys hst2 hy' hck1 hsd
    have hM2 := zmet_of hM (fun E s t q => by
      obtain ⟨⟨x, h', -, -, hq, -⟩, -⟩ := q
      exact absurd hq.1.2 (by decide))
    exact zrun_of (va_runI (As := as.map (zv ad)) (b := ad k) (own := zRn (zcl y)) (Ts := zWd) (rest := r.map (zv ad)) ⟨hx, hb, hml, hown, hts⟩ hM2 ⟨callB_of n hts (zGoodIn hy' hl') (by rw [zcw_nil hz, hrt]) rfl rfl (by rw [k2]; exact hts _ k4) (hts _ (zgd_in q3)) ⟨k3.1, k3.2, of_decide_eq_true q7⟩ (zroom hy' r1 r2), of_decide_eq_true q9, hts _ (zgd_in q4)⟩ ⟨zblind, zpre (as := .ref k :: as) hE hw hS⟩ rfl s2 hl.1 rfl (by show 2 * 0 + _ ≤ 8; rw [zv_sum, Nat.mul_zero, Nat.zero_add]; exact Nat.le_of_ble_eq_true hck2) hd ⟨by rw [r3]; exact hc1, by rw [r4]; exact hc2⟩)
end
