/-! String.length and String.charAt of the texts: the JDK's own methods, by contract -/
theorem tk_0 : decode cJ0_coder_7d493 0 = .ok (.getstatic 38, 3) := by decide +kernel
theorem tk_3 : decode cJ0_coder_7d493 3 = .ok (.ifCond .eq 10, 3) := by decide +kernel
theorem tk_6 : decode cJ0_coder_7d493 6 = .ok (.aload_n 0, 1) := by decide +kernel
theorem tk_7 : decode cJ0_coder_7d493 7 = .ok (.getfield 15, 3) := by decide +kernel
theorem tk_10 : decode cJ0_coder_7d493 10 = .ok (.goto 4, 3) := by decide +kernel
theorem tk_14 : decode cJ0_coder_7d493 14 = .ok (.ireturn, 1) := by decide +kernel
theorem tl_0 : decode cJ0_length_8abf5 0 = .ok (.aload_n 0, 1) := by decide +kernel
theorem tl_1 : decode cJ0_length_8abf5 1 = .ok (.getfield 9, 3) := by decide +kernel
theorem tl_4 : decode cJ0_length_8abf5 4 = .ok (.arraylength, 1) := by decide +kernel
theorem tl_5 : decode cJ0_length_8abf5 5 = .ok (.aload_n 0, 1) := by decide +kernel
theorem tl_6 : decode cJ0_length_8abf5 6 = .ok (.invokevirtual 335, 3) := by decide +kernel
theorem tl_9 : decode cJ0_length_8abf5 9 = .ok (.ishr, 1) := by decide +kernel
theorem tl_10 : decode cJ0_length_8abf5 10 = .ok (.ireturn, 1) := by decide +kernel
theorem ti_0 : decode cJ0_isLatin1_aae02 0 = .ok (.getstatic 38, 3) := by decide +kernel
theorem ti_3 : decode cJ0_isLatin1_aae02 3 = .ok (.ifCond .eq 14, 3) := by decide +kernel
theorem ti_6 : decode cJ0_isLatin1_aae02 6 = .ok (.aload_n 0, 1) := by decide +kernel
theorem ti_7 : decode cJ0_isLatin1_aae02 7 = .ok (.getfield 15, 3) := by decide +kernel
theorem ti_10 : decode cJ0_isLatin1_aae02 10 = .ok (.ifCond .ne 7, 3) := by decide +kernel
theorem ti_13 : decode cJ0_isLatin1_aae02 13 = .ok (.iconst 1, 1) := by decide +kernel
theorem ti_14 : decode cJ0_isLatin1_aae02 14 = .ok (.goto 4, 3) := by decide +kernel
theorem ti_18 : decode cJ0_isLatin1_aae02 18 = .ok (.ireturn, 1) := by decide +kernel
theorem tp_0 : decode cJ3_checkIndex_8e157 0 = .ok (.iload_n 0, 1) := by decide +kernel
theorem tp_1 : decode cJ3_checkIndex_8e157 1 = .ok (.ifCond .lt 8, 3) := by decide +kernel
theorem tp_4 : decode cJ3_checkIndex_8e157 4 = .ok (.iload_n 0, 1) := by decide +kernel
theorem tp_5 : decode cJ3_checkIndex_8e157 5 = .ok (.iload_n 1, 1) := by decide +kernel
theorem tp_6 : decode cJ3_checkIndex_8e157 6 = .ok (.if_icmp .lt 10, 3) := by decide +kernel
theorem tp_16 : decode cJ3_checkIndex_8e157 16 = .ok (.iload_n 0, 1) := by decide +kernel
theorem tp_17 : decode cJ3_checkIndex_8e157 17 = .ok (.ireturn, 1) := by decide +kernel
theorem tx_0 : decode cJ0_checkIndex_df160 0 = .ok (.iload_n 0, 1) := by decide +kernel
theorem tx_1 : decode cJ0_checkIndex_df160 1 = .ok (.iload_n 1, 1) := by decide +kernel
theorem tx_2 : decode cJ0_checkIndex_df160 2 = .ok (.getstatic 1053, 3) := by decide +kernel
theorem tx_5 : decode cJ0_checkIndex_df160 5 = .ok (.invokestatic 1059, 3) := by decide +kernel
theorem tx_8 : decode cJ0_checkIndex_df160 8 = .ok (.pop, 1) := by decide +kernel
theorem tx_9 : decode cJ0_checkIndex_df160 9 = .ok (.return_, 1) := by decide +kernel
theorem tq_0 : decode cJ1_charAt_3b067 0 = .ok (.iload_n 1, 1) := by decide +kernel
theorem tq_1 : decode cJ1_charAt_3b067 1 = .ok (.aload_n 0, 1) := by decide +kernel
theorem tq_2 : decode cJ1_charAt_3b067 2 = .ok (.arraylength, 1) := by decide +kernel
theorem tq_3 : decode cJ1_charAt_3b067 3 = .ok (.invokestatic 9, 3) := by decide +kernel
theorem tq_6 : decode cJ1_charAt_3b067 6 = .ok (.aload_n 0, 1) := by decide +kernel
theorem tq_7 : decode cJ1_charAt_3b067 7 = .ok (.iload_n 1, 1) := by decide +kernel
theorem tq_8 : decode cJ1_charAt_3b067 8 = .ok (.baload, 1) := by decide +kernel
theorem tq_9 : decode cJ1_charAt_3b067 9 = .ok (.sipush 255, 3) := by decide +kernel
theorem tq_12 : decode cJ1_charAt_3b067 12 = .ok (.iand, 1) := by decide +kernel
theorem tq_13 : decode cJ1_charAt_3b067 13 = .ok (.i2c, 1) := by decide +kernel
theorem tq_14 : decode cJ1_charAt_3b067 14 = .ok (.ireturn, 1) := by decide +kernel
theorem tc_0 : decode cJ0_charAt_5068e 0 = .ok (.aload_n 0, 1) := by decide +kernel
theorem tc_1 : decode cJ0_charAt_5068e 1 = .ok (.invokevirtual 492, 3) := by decide +kernel
theorem tc_4 : decode cJ0_charAt_5068e 4 = .ok (.ifCond .eq 12, 3) := by decide +kernel
theorem tc_7 : decode cJ0_charAt_5068e 7 = .ok (.aload_n 0, 1) := by decide +kernel
theorem tc_8 : decode cJ0_charAt_5068e 8 = .ok (.getfield 9, 3) := by decide +kernel
theorem tc_11 : decode cJ0_charAt_5068e 11 = .ok (.iload_n 1, 1) := by decide +kernel
theorem tc_12 : decode cJ0_charAt_5068e 12 = .ok (.invokestatic 495, 3) := by decide +kernel
theorem tc_15 : decode cJ0_charAt_5068e 15 = .ok (.ireturn, 1) := by decide +kernel
def tSF : String := "Ljava/util/function/BiFunction;"
/-- a text: its object, its bytes, the two statics that its methods read -/
def tW (a av n : Nat) (f : Nat → Value) (A : Nat → Prop) (U : State) (H : Heap) : Prop :=
  (va_O RJ0 a A U H ∧ va_OF RJ0 "coder" "B" (.int 0) a A U H ∧ va_OF RJ0 "value" "[B" (.ref av) a A U H) ∧ va_T .byte av n f A U H ∧ va_Z RJ0 "COMPACT_STRINGS" "Z" (.int 1) A U H ∧ va_Zq RJ3 "SIOOBE_FORMATTER" tSF A U H
theorem tW.moved {a av n : Nat} {f : Nat → Value} {A : Nat → Prop} {u U : State} {H : Heap} (hvm : u.vm.Alike U.vm) (h : tW a av n f A u H) : tW a av n f A U H :=
  ⟨⟨va_O.moved hvm h.1.1, va_OF.moved hvm h.1.2.1, va_OF.moved hvm h.1.2.2⟩, va_T.moved hvm h.2.1, va_Z.moved hvm h.2.2.1, va_Zq.moved hvm h.2.2.2⟩
theorem tW.kept {a av n : Nat} {f : Nat → Value} {A : Nat → Prop} {U : State} {H H1 : Heap} (h : tW a av n f A U H) (hq : ∀ a : Nat, a < H.size → ¬ A a → H1[a]? = H[a]?) : tW a av n f A U H1 :=
  ⟨⟨h.1.1.kept hq, h.1.2.1.kept hq, h.1.2.2.kept hq⟩, h.2.1.kept hq, h.2.2.1.kept hq, h.2.2.2.kept hq⟩
theorem tW.narrow {a av n : Nat} {f : Nat → Value} {A B : Nat → Prop} {U : State} {H : Heap} (h : tW a av n f A U H) (hAB : ∀ q, B q → A q) : tW a av n f B U H :=
  ⟨⟨h.1.1.narrow hAB, h.1.2.1.narrow hAB, h.1.2.2.narrow hAB⟩, h.2.1.narrow hAB, h.2.2.1.narrow hAB, h.2.2.2.narrow hAB⟩
def tR (d : Nat) : Room := { frames := d + 8, cells := 0, slots := 0, locals := 64 * d + 150 }
theorem tGood {w : Jvm.Cond} (h : w ∈ zWd) : GoodIn zWd (w :: zWd) := fun w' hw => (List.mem_cons.mp hw).elim (fun e => by rw [e]; exact ⟨h, zWd_good h⟩) (fun h => ⟨h, zWd_good h⟩)
abbrev wk_coder : Jvm.Cond := .code yJ0_coder_7d493 cJ0_coder_7d493 1 (some .byte)
abbrev wk_lat : Jvm.Cond := .code yJ0_isLatin1_aae02 cJ0_isLatin1_aae02 1 (some .boolean)
abbrev wk_len : Jvm.Cond := .code yJ0_length_8abf5 cJ0_length_8abf5 1 (some .int)
abbrev wk_pre : Jvm.Cond := .code yJ3_checkIndex_8e157 cJ3_checkIndex_8e157 3 (some .int)
abbrev wk_chk : Jvm.Cond := .code yJ0_checkIndex_df160 cJ0_checkIndex_df160 2 none
abbrev wk_lca : Jvm.Cond := .code yJ1_charAt_3b067 cJ1_charAt_3b067 2 (some .char)
abbrev wk_chr : Jvm.Cond := .code yJ0_charAt_5068e cJ0_charAt_5068e 2 (some .char)
theorem wk_coder_in : wk_coder ∈ zWd := zgd_in (pl := 653) (by decide +kernel)
theorem wk_lat_in : wk_lat ∈ zWd := zgd_in (pl := 663) (by decide +kernel)
theorem wk_len_in : wk_len ∈ zWd := zgd_in (pl := 649) (by decide +kernel)
theorem wk_pre_in : wk_pre ∈ zWd := zgd_in (pl := 674) (by decide +kernel)
theorem wk_chk_in : wk_chk ∈ zWd := zgd_in (pl := 669) (by decide +kernel)
theorem wk_lca_in : wk_lca ∈ zWd := zgd_in (pl := 666) (by decide +kernel)
theorem wk_chr_in : wk_chr ∈ zWd := zgd_in (pl := 659) (by decide +kernel)
theorem wq_f38 : ((.fieldLink RJ0 38 "java/lang/String" "COMPACT_STRINGS" "Z") : Jvm.Cond) ∈ zWd := zgd_in (pl := 654) (by decide +kernel)
theorem wq_f15 : ((.fieldLink RJ0 15 "java/lang/String" "coder" "B") : Jvm.Cond) ∈ zWd := zgd_in (pl := 1542) (by decide +kernel)
theorem wq_f9 : ((.fieldLink RJ0 9 "java/lang/String" "value" "[B") : Jvm.Cond) ∈ zWd := zgd_in (pl := 1541) (by decide +kernel)
theorem wq_f1053 : ((.fieldLink RJ0 1053 "jdk/internal/util/Preconditions" "SIOOBE_FORMATTER" tSF) : Jvm.Cond) ∈ zWd := zgd_in (pl := 670) (by decide +kernel)
theorem wq_m335 : ((.methodLink RJ0 335 yJ0_coder_7d493) : Jvm.Cond) ∈ zWd := zgd_in (pl := 650) (by decide +kernel)
theorem wq_i335 : ((.instanceMethod yJ0_coder_7d493) : Jvm.Cond) ∈ zWd := zgd_in (pl := 651) (by decide +kernel)
theorem wq_s335 : ((.selects RJ0 yJ0_coder_7d493 yJ0_coder_7d493) : Jvm.Cond) ∈ zWd := zgd_in (pl := 652) (by decide +kernel)
theorem wq_m492 : ((.methodLink RJ0 492 yJ0_isLatin1_aae02) : Jvm.Cond) ∈ zWd := zgd_in (pl := 660) (by decide +kernel)
theorem wq_i492 : ((.instanceMethod yJ0_isLatin1_aae02) : Jvm.Cond) ∈ zWd := zgd_in (pl := 661) (by decide +kernel)
theorem wq_s492 : ((.selects RJ0 yJ0_isLatin1_aae02 yJ0_isLatin1_aae02) : Jvm.Cond) ∈ zWd := zgd_in (pl := 662) (by decide +kernel)
theorem wq_m495 : ((.methodLink RJ0 495 yJ1_charAt_3b067) : Jvm.Cond) ∈ zWd := zgd_in (pl := 664) (by decide +kernel)
theorem wq_t495 : ((.static yJ1_charAt_3b067) : Jvm.Cond) ∈ zWd := zgd_in (pl := 665) (by decide +kernel)
theorem wq_m9 : ((.methodLink RJ1 9 yJ0_checkIndex_df160) : Jvm.Cond) ∈ zWd := zgd_in (pl := 667) (by decide +kernel)
theorem wq_t9 : ((.static yJ0_checkIndex_df160) : Jvm.Cond) ∈ zWd := zgd_in (pl := 668) (by decide +kernel)
theorem wq_m1059 : ((.methodLink RJ0 1059 yJ3_checkIndex_8e157) : Jvm.Cond) ∈ zWd := zgd_in (pl := 672) (by decide +kernel)
theorem wq_t1059 : ((.static yJ3_checkIndex_8e157) : Jvm.Cond) ∈ zWd := zgd_in (pl := 673) (by decide +kernel)
theorem wq_ilen : ((.instanceMethod yJ0_length_8abf5) : Jvm.Cond) ∈ zWd := zgd_in (pl := 647) (by decide +kernel)
theorem wq_slen : ((.selects RJ0 yJ0_length_8abf5 yJ0_length_8abf5) : Jvm.Cond) ∈ zWd := zgd_in (pl := 648) (by decide +kernel)
theorem wq_ichr : ((.instanceMethod yJ0_charAt_5068e) : Jvm.Cond) ∈ zWd := zgd_in (pl := 657) (by decide +kernel)
theorem wq_schr : ((.selects RJ0 yJ0_charAt_5068e yJ0_charAt_5068e) : Jvm.Cond) ∈ zWd := zgd_in (pl := 658) (by decide +kernel)
theorem wq_n0 : ((.initialized RJ0) : Jvm.Cond) ∈ zWd := zgd_in (pl := 94) (by decide +kernel)
theorem wq_n1 : ((.initialized RJ1) : Jvm.Cond) ∈ zWd := zgd_in (pl := 95) (by decide +kernel)
theorem wq_n3 : ((.initialized RJ3) : Jvm.Cond) ∈ zWd := zgd_in (pl := 96) (by decide +kernel)
theorem c_tcoder (l : Launch) (a av n : Nat) (f : Nat → Value) (A : Nat → Prop) : Met l yJ0_coder_7d493 (wk_coder :: zWd) (tR 0) (va_Pc [.ref a] (fun U => tW a av n f A U U.heap)) (va_Qi (S := Unit) (fun r _ => r = 0) (fun _ _ => True) A) 0 0 A := by
  refine Met.ofW (cc := cJ0_coder_7d493) (maxL := 1) (ret := some .byte) (by decide +kernel) rfl ?_
  intro p e s m args below meth c s₁ B hml hv
  obtain ⟨rfl, ⟨w1, w2, w3⟩, w4, w5, w6⟩ := hv
  have hx := B.exec
  have hb := B.bytes
  have hr := B.returns
  have hts0 := atoms_spec (ws := wk_coder :: zWd) B.pre
  have hts : ∀ w ∈ zWd, w.before _ s = true := fun w hw => hts0 w (List.mem_cons_of_mem _ hw)
  have hown : s.vm.findClass RJ0 = some m.cls := findClass_of_methodNamed B.named
  have hlocks := B.notSynchronized
  have hS : va_S A s.heap s.heap [] := va_S.rf
  have hl := lv_entry ([.ref a]) (n := 1) (Nat.le_of_ble_eq_true rfl)
  rw [lg_entry_eq]
  generalize (lg_sl ([.ref a]) ++ List.replicate (1 - (lg_sl ([.ref a])).length) Slot.unset).toArray = ls at hl ⊢
  have hl : lv_has ls 1 [(0, .ref a)] := hl
  refine va_gets hx hb w5 hS hown (hts _ wq_f38) (fun _ h9 => h9) tk_0 ?_
  refine lv_if_eq (tgt := 13) hx hb tk_3 (by decide) (fun z => absurd z (by decide)) (fun _ => ?_)
  refine lv_aload_n hx hb tk_6 rfl (lv_at hl 0 rfl) ?_
  refine vk_getf hx hb w2 hS hown (hts _ wq_f15) (fun _ h9 => h9) tk_7 ?_
  refine lv_goto (tgt := 14) hx hb tk_10 (by decide) ?_
  exact W.zret hx hb hr (by decide +kernel) (fun t ht _ => ⟨⟨0, (), rfl, rfl, trivial⟩, hS.F ht⟩) (fun q hq => hS.2.2 q hq) tk_14
theorem c_tlat (l : Launch) (a av n : Nat) (f : Nat → Value) (A : Nat → Prop) : Met l yJ0_isLatin1_aae02 (wk_lat :: zWd) (tR 0) (va_Pc [.ref a] (fun U => tW a av n f A U U.heap)) (va_Qi (S := Unit) (fun r _ => r = 1) (fun _ _ => True) A) 0 0 A := by
  refine Met.ofW (cc := cJ0_isLatin1_aae02) (maxL := 1) (ret := some .boolean) (by decide +kernel) rfl ?_
  intro p e s m args below meth c s₁ B hml hv
  obtain ⟨rfl, ⟨w1, w2, w3⟩, w4, w5, w6⟩ := hv
  have hx := B.exec
  have hb := B.bytes
  have hr := B.returns
  have hts0 := atoms_spec (ws := wk_lat :: zWd) B.pre
  have hts : ∀ w ∈ zWd, w.before _ s = true := fun w hw => hts0 w (List.mem_cons_of_mem _ hw)
  have hown : s.vm.findClass RJ0 = some m.cls := findClass_of_methodNamed B.named
  have hlocks := B.notSynchronized
  have hS : va_S A s.heap s.heap [] := va_S.rf
  have hl := lv_entry ([.ref a]) (n := 1) (Nat.le_of_ble_eq_true rfl)
  rw [lg_entry_eq]
  generalize (lg_sl ([.ref a]) ++ List.replicate (1 - (lg_sl ([.ref a])).length) Slot.unset).toArray = ls at hl ⊢
  have hl : lv_has ls 1 [(0, .ref a)] := hl
  refine va_gets hx hb w5 hS hown (hts _ wq_f38) (fun _ h9 => h9) ti_0 ?_
  refine lv_if_eq (tgt := 17) hx hb ti_3 (by decide) (fun z => absurd z (by decide)) (fun _ => ?_)
  refine lv_aload_n hx hb ti_6 rfl (lv_at hl 0 rfl) ?_
  refine vk_getf hx hb w2 hS hown (hts _ wq_f15) (fun _ h9 => h9) ti_7 ?_
  refine lv_if_ne (tgt := 17) hx hb ti_10 (by decide) (fun z => absurd rfl z) (fun _ => ?_)
  refine lv_iconst (v := 1) hx hb ti_13 rfl ?_
  refine lv_goto (tgt := 18) hx hb ti_14 (by decide) ?_
  exact W.zret hx hb hr (by decide +kernel) (fun t ht _ => ⟨⟨1, (), rfl, rfl, trivial⟩, hS.F ht⟩) (fun q hq => hS.2.2 q hq) ti_18
theorem t_shr0 (x : Int32) : x >>> ((0 : Int32) &&& 31) = x := by
  rw [show ((0 : Int32) &&& 31) = 0 from by decide]
  simp
theorem c_tlen (l : Launch) (a av n : Nat) (f : Nat → Value) (A : Nat → Prop) : Met l yJ0_length_8abf5 (wk_len :: zWd) (tR 1) (va_Pc [.ref a] (fun U => tW a av n f A U U.heap)) (va_Qi (S := Unit) (fun r _ => r = nI n) (fun _ _ => True) A) 0 0 A := by
  refine Met.ofW (cc := cJ0_length_8abf5) (maxL := 1) (ret := some .int) (by decide +kernel) rfl ?_
  intro p e s m args below meth c s₁ B hml hv
  obtain ⟨rfl, w⟩ := hv
  have hx := B.exec
  have hb := B.bytes
  have hr := B.returns
  have hts0 := atoms_spec (ws := wk_len :: zWd) B.pre
  have hts : ∀ w ∈ zWd, w.before _ s = true := fun w hw => hts0 w (List.mem_cons_of_mem _ hw)
  have hown : s.vm.findClass RJ0 = some m.cls := findClass_of_methodNamed B.named
  have hlocks := B.notSynchronized
  have hS : va_S A s.heap s.heap [] := va_S.rf
  have hl := lv_entry ([.ref a]) (n := 1) (Nat.le_of_ble_eq_true rfl)
  rw [lg_entry_eq]
  generalize (lg_sl ([.ref a]) ++ List.replicate (1 - (lg_sl ([.ref a])).length) Slot.unset).toArray = ls at hl ⊢
  have hl : lv_has ls 1 [(0, .ref a)] := hl
  obtain ⟨⟨w1, w2, w3⟩, w4, w5, w6⟩ := id w
  refine lv_aload_n hx hb tl_0 rfl (lv_at hl 0 rfl) ?_
  refine vk_getf hx hb w3 hS hown (hts _ wq_f9) (fun _ h9 => h9) tl_1 ?_
  refine va_tlen (v := nI n) hx hb w4 hS rfl tl_4 ?_
  refine lv_aload_n hx hb tl_5 rfl (lv_at hl 0 rfl) ?_
  refine va_calli (va_runV (C := RJ0) (b := a) (As := []) (rest := [.int (nI n)]) ⟨hx, hb, hml, hown, hts⟩ (c_tcoder l a av n f A) ⟨callB_of 0 hts (tGood wk_coder_in) rfl rfl rfl (hts _ wq_n0) (hts _ wq_m335) ⟨by decide +kernel, by decide +kernel, by decide +kernel⟩ ⟨Nat.le_of_ble_eq_true rfl, Nat.le_of_ble_eq_true rfl⟩, hts _ wq_i335, hts _ wq_s335⟩ ⟨fun a U g mk q => ⟨q.1, tW.moved (u := U) (U := U.calling g mk a) (Vm.Alike.refl U.vm) q.2⟩, va_Orecv w1 hS, fun U hU hW => ⟨rfl, show tW a av n f A U U.heap by rw [hU]; exact (tW.moved hW.alike w).kept hS.2.1⟩⟩ rfl rfl hl.1 rfl (lv_room (Nat.le_of_ble_eq_true rfl)) tl_6 ⟨Nat.le_of_ble_eq_true rfl, Nat.le_of_ble_eq_true rfl⟩) hS (fun q _ h => h) (fun q h => h) (fun r u t H1 locs1 ht hvm hp hB hz1 hk1 hS => ?_)
  subst hp
  refine lv_ishr hx hb tl_9 ?_
  rw [t_shr0]
  exact W.iret hx hb hr (fun t ht _ => ⟨⟨nI n, (), rfl, rfl, trivial⟩, hS.F ht⟩) (fun q hq => hS.2.2 q hq) tl_10
theorem c_tpre (l : Launch) (j k : Int32) (v : Value) (A : Nat → Prop) (hj : ¬ j < 0) (hk : j < k) (hv : v = .null ∨ ∃ t : Nat, v = .ref t) : Met l yJ3_checkIndex_8e157 (wk_pre :: zWd) (tR 0) (va_Pc [.int j, .int k, v] (fun _ => True)) (va_Qi (S := Unit) (fun r _ => r = j) (fun _ _ => True) A) 0 0 A := by
  have hc : lv_args 0 [.int j, .int k, v] = [(0, .int j), (1, .int k), (2, v)] ∧ (lg_sl [.int j, .int k, v]).length ≤ 3 := by
    rcases hv with rfl | ⟨t, rfl⟩
    · exact ⟨rfl, Nat.le_of_ble_eq_true rfl⟩
    · exact ⟨rfl, Nat.le_of_ble_eq_true rfl⟩
  refine Met.ofW (cc := cJ3_checkIndex_8e157) (maxL := 3) (ret := some .int) (by decide +kernel) rfl ?_
  intro p e s m args below meth c s₁ B hml hv
  obtain ⟨rfl, -⟩ := hv
  have hx := B.exec
  have hb := B.bytes
  have hr := B.returns
  have hts0 := atoms_spec (ws := wk_pre :: zWd) B.pre
  have hts : ∀ w ∈ zWd, w.before _ s = true := fun w hw => hts0 w (List.mem_cons_of_mem _ hw)
  have hown : s.vm.findClass RJ3 = some m.cls := findClass_of_methodNamed B.named
  have hlocks := B.notSynchronized
  have hS : va_S A s.heap s.heap [] := va_S.rf
  have hl := lv_entry ([.int j, .int k, v]) (n := 3) hc.2
  rw [hc.1] at hl
  rw [lg_entry_eq]
  generalize (lg_sl ([.int j, .int k, v]) ++ List.replicate (3 - (lg_sl ([.int j, .int k, v])).length) Slot.unset).toArray = ls at hl ⊢
  have hl : lv_has ls 3 [(0, .int j), (1, .int k), (2, v)] := hl
  refine lv_iload_n hx hb tp_0 rfl (lv_at hl 0 rfl) ?_
  refine lv_if_lt (tgt := 9) hx hb tp_1 (by decide) (fun z => absurd z hj) (fun _ => ?_)
  refine lv_iload_n hx hb tp_4 rfl (lv_at hl 0 rfl) ?_
  refine lv_iload_n hx hb tp_5 rfl (lv_at hl 1 rfl) ?_
  refine lv_icmp_lt (tgt := 16) hx hb tp_6 (by decide) (fun _ => ?_) (fun z => absurd hk z)
  refine lv_iload_n hx hb tp_16 rfl (lv_at hl 0 rfl) ?_
  exact W.iret hx hb hr (fun t ht _ => ⟨⟨j, (), rfl, rfl, trivial⟩, hS.F ht⟩) (fun q hq => hS.2.2 q hq) tp_17
theorem c_tchk (l : Launch) (j k : Int32) (A : Nat → Prop) (hj : ¬ j < 0) (hk : j < k) : Met l yJ0_checkIndex_df160 (wk_chk :: zWd) (tR 1) (va_Pc [.int j, .int k] (fun U => va_Zq RJ3 "SIOOBE_FORMATTER" tSF A U U.heap)) (va_Qv (S := Unit) (fun _ => True) (fun _ _ => True) A) 0 0 A := by
  refine Met.ofW (cc := cJ0_checkIndex_df160) (maxL := 2) (ret := none) (by decide +kernel) rfl ?_
  intro p e s m args below meth c s₁ B hml hv
  obtain ⟨rfl, w⟩ := hv
  have hx := B.exec
  have hb := B.bytes
  have hr := B.returns
  have hts0 := atoms_spec (ws := wk_chk :: zWd) B.pre
  have hts : ∀ w ∈ zWd, w.before _ s = true := fun w hw => hts0 w (List.mem_cons_of_mem _ hw)
  have hown : s.vm.findClass RJ0 = some m.cls := findClass_of_methodNamed B.named
  have hlocks := B.notSynchronized
  have hS : va_S A s.heap s.heap [] := va_S.rf
  have hl := lv_entry ([.int j, .int k]) (n := 2) (Nat.le_of_ble_eq_true rfl)
  rw [lg_entry_eq]
  generalize (lg_sl ([.int j, .int k]) ++ List.replicate (2 - (lg_sl ([.int j, .int k])).length) Slot.unset).toArray = ls at hl ⊢
  have hl : lv_has ls 2 [(0, .int j), (1, .int k)] := hl
  refine lv_iload_n hx hb tx_0 rfl (lv_at hl 0 rfl) ?_
  refine lv_iload_n hx hb tx_1 rfl (lv_at hl 1 rfl) ?_
  obtain ⟨v, hv, hz⟩ : ∃ v : Value, (v = .null ∨ ∃ t : Nat, v = .ref t) ∧ va_Z RJ3 "SIOOBE_FORMATTER" tSF v A s s.heap := by
    rcases w with w | ⟨t, w⟩
    · exact ⟨_, Or.inl rfl, w⟩
    · exact ⟨_, Or.inr ⟨t, rfl⟩, w⟩
  refine va_gets hx hb hz hS hown (hts _ wq_f1053) (fun _ h9 => h9) tx_2 ?_
  refine va_calli (va_runS (As := [.int j, .int k, v]) (rest := []) ⟨hx, hb, hml, hown, hts⟩ (c_tpre l j k v A hj hk hv) ⟨callB_of 3 hts (tGood wk_pre_in) rfl rfl rfl (hts _ wq_n3) (hts _ wq_m1059) ⟨by decide +kernel, by decide +kernel, by decide +kernel⟩ ⟨Nat.le_of_ble_eq_true rfl, Nat.le_of_ble_eq_true rfl⟩, hts _ wq_t1059⟩ ⟨fun a U g mk q => q, fun U hU hW => ⟨rfl, trivial⟩⟩ rfl rfl hl.1 rfl (lv_room (Nat.le_of_ble_eq_true rfl)) tx_5 ⟨Nat.le_of_ble_eq_true rfl, Nat.le_of_ble_eq_true rfl⟩) hS (fun q _ h => h) (fun q h => h) (fun r u t H1 locs1 ht hvm hp hB hz1 hk1 hS => ?_)
  refine lv_pop hx hb tx_8 rfl ?_
  exact W.vret hx hb hr (fun t ht _ => ⟨⟨(), rfl, trivial, trivial⟩, hS.F ht⟩) (fun q hq => hS.2.2 q hq) tx_9
theorem t_in {j : Int32} {n : Nat} (h : vp_in j n) (hn : n < 2 ^ 31) : ¬ j < 0 ∧ j < nI n := by
  have h0 : ¬ j < 0 := fun z => h (Or.inl z)
  obtain ⟨i, hi, rfl⟩ := nI_of h0
  refine ⟨h0, nI_lt ?_ hn⟩
  have h1 : ¬ n ≤ (nI i).toNatClampNeg := fun z => h (Or.inr z)
  rw [nI_clamp hi] at h1
  omega
theorem c_tlca (l : Launch) (av n : Nat) (f : Nat → Value) (j x v : Int32) (A : Nat → Prop) (hj : vp_in j n) (hn : n < 2 ^ 31) (hf : f j.toNatClampNeg = .int x) (hv : ((x &&& 255).toUInt32 % 65536).toInt32 = v) (hc : narrow .char (.int v) = .int v) : Met l yJ1_charAt_3b067 (wk_lca :: zWd) (tR 2) (va_Pc [.ref av, .int j] (fun U => va_T .byte av n f A U U.heap ∧ va_Zq RJ3 "SIOOBE_FORMATTER" tSF A U U.heap)) (va_Qi (S := Unit) (fun r _ => r = v) (fun _ _ => True) A) 0 0 A := by
  refine Met.ofW (cc := cJ1_charAt_3b067) (maxL := 2) (ret := some .char) (by decide +kernel) rfl ?_
  intro p e s m args below meth c s₁ B hml hv
  obtain ⟨rfl, w4, w6⟩ := hv
  have hx := B.exec
  have hb := B.bytes
  have hr := B.returns
  have hts0 := atoms_spec (ws := wk_lca :: zWd) B.pre
  have hts : ∀ w ∈ zWd, w.before _ s = true := fun w hw => hts0 w (List.mem_cons_of_mem _ hw)
  have hown : s.vm.findClass RJ1 = some m.cls := findClass_of_methodNamed B.named
  have hlocks := B.notSynchronized
  have hS : va_S A s.heap s.heap [] := va_S.rf
  have hl := lv_entry ([.ref av, .int j]) (n := 2) (Nat.le_of_ble_eq_true rfl)
  rw [lg_entry_eq]
  generalize (lg_sl ([.ref av, .int j]) ++ List.replicate (2 - (lg_sl ([.ref av, .int j])).length) Slot.unset).toArray = ls at hl ⊢
  have hl : lv_has ls 2 [(0, .ref av), (1, .int j)] := hl
  refine lv_iload_n hx hb tq_0 rfl (lv_at hl 1 rfl) ?_
  refine lv_aload_n hx hb tq_1 rfl (lv_at hl 0 rfl) ?_
  refine va_tlen (v := nI n) hx hb w4 hS rfl tq_2 ?_
  refine va_callv (va_runS (As := [.int j, .int (nI n)]) (rest := []) ⟨hx, hb, hml, hown, hts⟩ (c_tchk l j (nI n) A (t_in hj hn).1 (t_in hj hn).2) ⟨callB_of 2 hts (tGood wk_chk_in) rfl rfl rfl (hts _ wq_n0) (hts _ wq_m9) ⟨by decide +kernel, by decide +kernel, by decide +kernel⟩ ⟨Nat.le_of_ble_eq_true rfl, Nat.le_of_ble_eq_true rfl⟩, hts _ wq_t9⟩ ⟨fun a U g mk q => ⟨q.1, va_Zq.moved (u := U) (U := U.calling g mk a) (Vm.Alike.refl U.vm) q.2⟩, fun U hU hW => ⟨rfl, show va_Zq RJ3 "SIOOBE_FORMATTER" tSF A U U.heap by rw [hU]; exact (va_Zq.moved hW.alike w6).kept hS.2.1⟩⟩ rfl rfl hl.1 rfl (lv_room (Nat.le_of_ble_eq_true rfl)) tq_3 ⟨Nat.le_of_ble_eq_true rfl, Nat.le_of_ble_eq_true rfl⟩) hS (fun q _ h => h) (fun q h => h) (fun u t H1 locs1 ht hvm hp hB hz1 hk1 hS => ?_)
  refine lv_aload_n hx hb tq_6 rfl (lv_at hl 0 rfl) ?_
  refine lv_iload_n hx hb tq_7 rfl (lv_at hl 1 rfl) ?_
  refine va_tb hx hb w4 hS hj hf tq_8 ?_
  refine lv_sipush (v := 255) hx hb tq_9 (by decide) ?_
  refine lv_iand hx hb tq_12 ?_
  refine lv_i2c (v := v) hx hb tq_13 hv ?_
  exact W.zret hx hb hr hc (fun t ht _ => ⟨⟨v, (), rfl, rfl, trivial⟩, hS.F ht⟩) (fun q hq => hS.2.2 q hq) tq_14
theorem c_tchr (l : Launch) (a av n : Nat) (f : Nat → Value) (j x v : Int32) (A : Nat → Prop) (hj : vp_in j n) (hn : n < 2 ^ 31) (hf : f j.toNatClampNeg = .int x) (hv : ((x &&& 255).toUInt32 % 65536).toInt32 = v) (hc : narrow .char (.int v) = .int v) : Met l yJ0_charAt_5068e (wk_chr :: zWd) (tR 3) (va_Pc [.ref a, .int j] (fun U => tW a av n f A U U.heap)) (va_Qi (S := Unit) (fun r _ => r = v) (fun _ _ => True) A) 0 0 A := by
  refine Met.ofW (cc := cJ0_charAt_5068e) (maxL := 2) (ret := some .char) (by decide +kernel) rfl ?_
  intro p e s m args below meth c s₁ B hml hv
  obtain ⟨rfl, w⟩ := hv
  have hx := B.exec
  have hb := B.bytes
  have hr := B.returns
  have hts0 := atoms_spec (ws := wk_chr :: zWd) B.pre
  have hts : ∀ w ∈ zWd, w.before _ s = true := fun w hw => hts0 w (List.mem_cons_of_mem _ hw)
  have hown : s.vm.findClass RJ0 = some m.cls := findClass_of_methodNamed B.named
  have hlocks := B.notSynchronized
  have hS : va_S A s.heap s.heap [] := va_S.rf
  have hl := lv_entry ([.ref a, .int j]) (n := 2) (Nat.le_of_ble_eq_true rfl)
  rw [lg_entry_eq]
  generalize (lg_sl ([.ref a, .int j]) ++ List.replicate (2 - (lg_sl ([.ref a, .int j])).length) Slot.unset).toArray = ls at hl ⊢
  have hl : lv_has ls 2 [(0, .ref a), (1, .int j)] := hl
  obtain ⟨⟨w1, w2, w3⟩, w4, w5, w6⟩ := id w
  refine lv_aload_n hx hb tc_0 rfl (lv_at hl 0 rfl) ?_
  refine va_calli (va_runV (C := RJ0) (b := a) (As := []) (rest := []) ⟨hx, hb, hml, hown, hts⟩ (c_tlat l a av n f A) ⟨callB_of 0 hts (tGood wk_lat_in) rfl rfl rfl (hts _ wq_n0) (hts _ wq_m492) ⟨by decide +kernel, by decide +kernel, by decide +kernel⟩ ⟨Nat.le_of_ble_eq_true rfl, Nat.le_of_ble_eq_true rfl⟩, hts _ wq_i492, hts _ wq_s492⟩ ⟨fun a U g mk q => ⟨q.1, tW.moved (u := U) (U := U.calling g mk a) (Vm.Alike.refl U.vm) q.2⟩, va_Orecv w1 hS, fun U hU hW => ⟨rfl, show tW a av n f A U U.heap by rw [hU]; exact (tW.moved hW.alike w).kept hS.2.1⟩⟩ rfl rfl hl.1 rfl (lv_room (Nat.le_of_ble_eq_true rfl)) tc_1 ⟨Nat.le_of_ble_eq_true rfl, Nat.le_of_ble_eq_true rfl⟩) hS (fun q _ h => h) (fun q h => h) (fun r u t H1 locs1 ht hvm hp hB hz1 hk1 hS => ?_)
  subst hp
  refine lv_if_eq (tgt := 16) hx hb tc_4 (by decide) (fun z => absurd z (by decide)) (fun _ => ?_)
  refine lv_aload_n hx hb tc_7 rfl (lv_at hl 0 rfl) ?_
  refine vk_getf hx hb w3 hS hown (hts _ wq_f9) (fun _ h9 => h9) tc_8 ?_
  refine lv_iload_n hx hb tc_11 rfl (lv_at hl 1 rfl) ?_
  refine va_calli (va_runS (As := [.ref av, .int j]) (rest := []) ⟨hx, hb, hml, hown, hts⟩ (c_tlca l av n f j x v A hj hn hf hv hc) ⟨callB_of 2 hts (tGood wk_lca_in) rfl rfl rfl (hts _ wq_n1) (hts _ wq_m495) ⟨by decide +kernel, by decide +kernel, by decide +kernel⟩ ⟨Nat.le_of_ble_eq_true rfl, Nat.le_of_ble_eq_true rfl⟩, hts _ wq_t495⟩ ⟨fun a U g mk q => ⟨q.1, va_T.moved (u := U) (U := U.calling g mk a) (Vm.Alike.refl U.vm) q.2.1, va_Zq.moved (u := U) (U := U.calling g mk a) (Vm.Alike.refl U.vm) q.2.2⟩, fun U hU hW => ⟨rfl, show va_T .byte av n f A U U.heap by rw [hU]; exact (va_T.moved hW.alike w4).kept hS.2.1, show va_Zq RJ3 "SIOOBE_FORMATTER" tSF A U U.heap by rw [hU]; exact (va_Zq.moved hW.alike w6).kept hS.2.1⟩⟩ rfl rfl hl.1 rfl (lv_room (Nat.le_of_ble_eq_true rfl)) tc_12 ⟨Nat.le_of_ble_eq_true rfl, Nat.le_of_ble_eq_true rfl⟩) hS (fun q _ h => h) (fun q h => h) (fun r u t H1 locs1 ht hvm hp hB hz1 hk1 hS => ?_)
  subst hp
  exact W.zret hx hb hr hc (fun t ht _ => ⟨⟨_, (), rfl, rfl, trivial⟩, hS.F ht⟩) (fun q hq => hS.2.2 q hq) tc_15
theorem tb_all : (List.range 256).all (fun v => decide ((((nI v).toInt8.toInt32 &&& 255).toUInt32 % 65536).toInt32 = nI v) && decide (narrow .char (.int (nI v)) = .int (nI v))) = true := by decide +kernel
theorem tz_all : (List.range 34).all (fun i => (zsg i).all (fun c => Nat.ble (c + 1) 256) && Nat.ble (zsg i).length 1000) = true := by decide +kernel
theorem tz_ok {i : Nat} (hi : i < 34) (j : Nat) : (zsg i).getD j 0 < 256 ∧ (zsg i).length ≤ 1000 := by
  obtain ⟨h1, h2⟩ := zan (zall tz_all hi)
  refine ⟨?_, Nat.le_of_ble_eq_true h2⟩
  rw [List.getD_eq_getElem?_getD]
  cases h : (zsg i)[j]? with
  | none => exact Nat.zero_lt_succ _
  | some c => exact Nat.le_of_ble_eq_true (List.all_eq_true.mp h1 c (List.mem_of_getElem? h))
