/-! calls of String.length and String.charAt in the small machine -/
theorem tW_at {z0 : Nat} {ε : Nat × (Nat → Int32)} {ad : Nat → Nat} {s : State} {H : Heap} {locs : List Loc} {k : Nat} (hE : zEnv z0 ε ad s s.heap) (hS : va_S (zA z0) s.heap H locs) (h1 : 1000 ≤ k) (h2 : k ≤ 1033) : ∃ av : Nat, tW (ad k) av (zsg (k - 1000)).length (fun j => .int (nI ((zsg (k - 1000)).getD j 0)).toInt8.toInt32) (fun q => H.size ≤ q) s H := by
  obtain ⟨g1, g2, av, g3, g4⟩ := hE.2.2.2.2.2.1 (k - 1000) (by omega)
  have e : 1000 + (k - 1000) = k := by omega
  rw [e] at g1 g2 g3
  have w : tW (ad k) av (zsg (k - 1000)).length (fun j => .int (nI ((zsg (k - 1000)).getD j 0)).toInt8.toInt32) (zA z0) s s.heap := ⟨⟨g1, g2, g3⟩, g4, hE.2.2.2.2.2.2.1, hE.2.2.2.2.2.2.2⟩
  exact ⟨av, (w.kept hS.2.1).narrow (fun q hq => Nat.le_trans hE.1.1 (Nat.le_trans hS.1 hq))⟩
section
variable {D : va_G} {z0 : Nat} {ε : Nat × (Nat → Int32)} {al : Bool} {d y pc : Nat} {l : zL} {st : List Value} {h : zH} {uc us : Nat} {Q : zQ} {i : Instr} {len : Nat}
set_option maxHeartbeats 4000000 in
theorem zs_len {k a1 a2 ix : Nat} {r : List Value} (hd : decode (zC y) pc = .ok (.invokevirtual ix, 3)) (hm : zml (zcl y) ix = some (7, a1, a2)) (h1 : 1000 ≤ k) (h2 : k ≤ 1033) (hc : (r.map fun v => v.category).sum ≤ 8 ∧ 4 ≤ d) (hh : zSd D z0 ε al d y (pc + 3) l (.int (nI (zsg (k - 1000)).length) :: r) h uc us Q) : zSd D z0 ε al d y pc l (.ref k :: r) h uc us Q := by
  intro ln p e R s m args below meth c0 ad ca tys n0 ad0 ca0 tys0 H locs ls hF hE hw hS hl hn hag
  obtain ⟨⟨hx, hb, hr, hml, hown⟩, hts, ⟨hlk, hnm, hst2⟩, hxt, ⟨r1, r2, r3, r4⟩, hy9⟩ := id hF
  obtain ⟨qk, g1, g2⟩ := zml_lib hm
  unfold zmk at qk
  rw [hm] at qk
  have qk : zgd (zmlp (zcl y) ix) (.methodLink (zRn (zcl y)) ix yJ0_length_8abf5) = true := qk
  obtain ⟨av, w⟩ := tW_at hE hS h1 h2
  have hA : ∀ q : Nat, H.size ≤ q → zA z0 q := fun q hq => Nat.le_trans hE.1.1 (Nat.le_trans hS.1 hq)
  have hrv : ∃ cellB : Cell, H[ad k]? = some cellB ∧ cellB.vm.isStatics = false ∧ s.vm.findClass RJ0 = some cellB.cls := by
    obtain ⟨cell, e1, e2, e3, -⟩ := w.1.1
    exact ⟨cell, e1, e2, e3⟩
  show W p ln e R s m args below meth c0 H locs uc us _ (F0 m pc ls (.ref (ad k) :: r.map (zv ad)))
  refine va_calli (A0 := zA z0) (va_runV (C := RJ0) (b := ad k) (As := []) (rest := r.map (zv ad)) ⟨hx, hb, hml, hown, hts⟩ (c_tlen ln (ad k) av (zsg (k - 1000)).length (fun j => .int (nI ((zsg (k - 1000)).getD j 0)).toInt8.toInt32) (fun q => H.size ≤ q)) ⟨callB_of 0 hts (tGood wk_len_in) rfl rfl rfl (hts _ wq_n0) (hts _ (zgd_in qk)) ⟨by decide +kernel, by decide +kernel, by decide +kernel⟩ ⟨by show 1 + 8 + 1 ≤ R.frames; omega, by show 8 + (1 + 11) + (64 * 1 + 150) ≤ R.locals; omega⟩, hts _ wq_ilen, hts _ wq_slen⟩ ⟨fun a U g mk q => ⟨q.1, tW.moved (u := U) (U := U.calling g mk a) (Vm.Alike.refl U.vm) q.2⟩, hrv, fun U hU hW => ⟨rfl, show tW (ad k) av (zsg (k - 1000)).length (fun j => .int (nI ((zsg (k - 1000)).getD j 0)).toInt8.toInt32) (fun q => H.size ≤ q) U U.heap by rw [hU]; exact tW.moved hW.alike w⟩⟩ rfl rfl hl.1 rfl (by show 2 * 0 + _ ≤ 8; rw [zv_sum, Nat.mul_zero, Nat.zero_add]; exact hc.1) hd ⟨by rw [r3]; exact hn.2.1, by rw [r4]; exact hn.2.2⟩) hS (fun q _ h => hA q h) hA (fun rr u t H1 locs1 ht hvm hp hB hz1 hk1 hS1 => ?_)
  subst hp
  have hw1 : zWo D z0 ad ca tys h s H1 := ⟨⟨va_P.kept hw.1.1 (fun k q hk => hk1 q.1 (vx_lt hw.1.1 hk) (Nat.not_le.mpr (vx_lt hw.1.1 hk))), hw.1.2⟩, hw.2⟩
  exact hh ln p e R s m args below meth c0 ad ca tys n0 ad0 ca0 tys0 H1 locs1 ls hF hE hw1 hS1 hl hn hag
set_option maxHeartbeats 4000000 in
theorem zs_chr {k a1 a2 ix : Nat} {j : Int32} {r : List Value} (hd : decode (zC y) pc = .ok (.invokevirtual ix, 3)) (hm : zml (zcl y) ix = some (8, a1, a2)) (h1 : 1000 ≤ k) (h2 : k ≤ 1033) (hc : (r.map fun v => v.category).sum ≤ 8 ∧ 4 ≤ d ∧ vp_in j (zsg (k - 1000)).length) (hh : zSd D z0 ε al d y (pc + 3) l (.int (nI ((zsg (k - 1000)).getD j.toNatClampNeg 0)) :: r) h uc us Q) : zSd D z0 ε al d y pc l (.int j :: .ref k :: r) h uc us Q := by
  intro ln p e R s m args below meth c0 ad ca tys n0 ad0 ca0 tys0 H locs ls hF hE hw hS hl hn hag
  obtain ⟨⟨hx, hb, hr, hml, hown⟩, hts, ⟨hlk, hnm, hst2⟩, hxt, ⟨r1, r2, r3, r4⟩, hy9⟩ := id hF
  obtain ⟨qk, g1, g2⟩ := zml_lib hm
  unfold zmk at qk
  rw [hm] at qk
  have qk : zgd (zmlp (zcl y) ix) (.methodLink (zRn (zcl y)) ix yJ0_charAt_5068e) = true := qk
  obtain ⟨av, w⟩ := tW_at hE hS h1 h2
  obtain ⟨z1, z2⟩ := tz_ok (i := k - 1000) (by omega) j.toNatClampNeg
  obtain ⟨b1, b2⟩ := zan (zall tb_all z1)
  have hA : ∀ q : Nat, H.size ≤ q → zA z0 q := fun q hq => Nat.le_trans hE.1.1 (Nat.le_trans hS.1 hq)
  have hrv : ∃ cellB : Cell, H[ad k]? = some cellB ∧ cellB.vm.isStatics = false ∧ s.vm.findClass RJ0 = some cellB.cls := by
    obtain ⟨cell, e1, e2, e3, -⟩ := w.1.1
    exact ⟨cell, e1, e2, e3⟩
  show W p ln e R s m args below meth c0 H locs uc us _ (F0 m pc ls (.int j :: .ref (ad k) :: r.map (zv ad)))
  refine va_calli (A0 := zA z0) (va_runV (C := RJ0) (b := ad k) (As := [.int j]) (rest := r.map (zv ad)) ⟨hx, hb, hml, hown, hts⟩ (c_tchr ln (ad k) av (zsg (k - 1000)).length (fun j => .int (nI ((zsg (k - 1000)).getD j 0)).toInt8.toInt32) j (nI ((zsg (k - 1000)).getD j.toNatClampNeg 0)).toInt8.toInt32 (nI ((zsg (k - 1000)).getD j.toNatClampNeg 0)) (fun q => H.size ≤ q) hc.2.2 (by omega) rfl (of_decide_eq_true b1) (of_decide_eq_true b2)) ⟨callB_of 1 hts (tGood wk_chr_in) rfl rfl rfl (hts _ wq_n0) (hts _ (zgd_in qk)) ⟨by decide +kernel, by decide +kernel, by decide +kernel⟩ ⟨by show 3 + 8 + 1 ≤ R.frames; omega, by show 8 + (2 + 11) + (64 * 3 + 150) ≤ R.locals; omega⟩, hts _ wq_ichr, hts _ wq_schr⟩ ⟨fun a U g mk q => ⟨q.1, tW.moved (u := U) (U := U.calling g mk a) (Vm.Alike.refl U.vm) q.2⟩, hrv, fun U hU hW => ⟨rfl, show tW (ad k) av (zsg (k - 1000)).length (fun j => .int (nI ((zsg (k - 1000)).getD j 0)).toInt8.toInt32) (fun q => H.size ≤ q) U U.heap by rw [hU]; exact tW.moved hW.alike w⟩⟩ rfl rfl hl.1 rfl (by show 2 * 0 + _ ≤ 8; rw [zv_sum, Nat.mul_zero, Nat.zero_add]; exact hc.1) hd ⟨by rw [r3]; exact hn.2.1, by rw [r4]; exact hn.2.2⟩) hS (fun q _ h => hA q h) hA (fun rr u t H1 locs1 ht hvm hp hB hz1 hk1 hS1 => ?_)
  subst hp
  have hw1 : zWo D z0 ad ca tys h s H1 := ⟨⟨va_P.kept hw.1.1 (fun k q hk => hk1 q.1 (vx_lt hw.1.1 hk) (Nat.not_le.mpr (vx_lt hw.1.1 hk))), hw.1.2⟩, hw.2⟩
  exact hh ln p e R s m args below meth c0 ad ca tys n0 ad0 ca0 tys0 H1 locs1 ls hF hE hw1 hS1 hl hn hag
end
