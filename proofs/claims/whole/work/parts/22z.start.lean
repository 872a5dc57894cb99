/-! the start: what the Statement gives of it, as the small machine's surroundings ask for it -/
def nG : List Jvm.Cond := flatC (Jvm.Cond.and given_1 narrow_1)
def nTm (i : Nat) : Term := .string (zRn (zso i).1) (zso i).2.1
def nVal (i : Nat) : Term := .field (nTm i) "java/lang/String" "value" "[B"
def nW4 (i : Nat) : List Jvm.Cond := [.exactly (nTm i) "java/lang/String", .eq (.field (nTm i) "java/lang/String" "coder" "B") (.int 0), .arrayOf (nVal i) .byte, .eq (.length (nVal i)) (.int (Int32.ofNat (zsg i).length))]
def nEl (i j : Nat) : Jvm.Cond := .eq (.elem (nVal i) (.int (Int32.ofNat j))) (.int (nI ((zsg i).getD j 0)).toInt8.toInt32)
def nWs (i : Nat) : List Jvm.Cond := nW4 i ++ (List.range (zsg i).length).map (nEl i)
def nPo (i : Nat) : Nat := (cond (Nat.ble i 16) (cond (Nat.ble i 8) (cond (Nat.ble i 4) (cond (Nat.ble i 2) (cond (Nat.ble i 1) (cond (Nat.ble i 0) 103 111) 121) (cond (Nat.ble i 3) 130 141)) (cond (Nat.ble i 6) (cond (Nat.ble i 5) 149 158) (cond (Nat.ble i 7) 55 85))) (cond (Nat.ble i 12) (cond (Nat.ble i 10) (cond (Nat.ble i 9) 169 194) (cond (Nat.ble i 11) 256 274)) (cond (Nat.ble i 14) (cond (Nat.ble i 13) 419 441) (cond (Nat.ble i 15) 466 487)))) (cond (Nat.ble i 25) (cond (Nat.ble i 21) (cond (Nat.ble i 19) (cond (Nat.ble i 18) (cond (Nat.ble i 17) 510 535) 556) (cond (Nat.ble i 20) 239 220)) (cond (Nat.ble i 23) (cond (Nat.ble i 22) 302 387) (cond (Nat.ble i 24) 339 359))) (cond (Nat.ble i 29) (cond (Nat.ble i 27) (cond (Nat.ble i 26) 578 617) (cond (Nat.ble i 28) 627 608)) (cond (Nat.ble i 31) (cond (Nat.ble i 30) 638 650) (cond (Nat.ble i 32) 659 669)))))
def nSp (i : Nat) : Nat := (cond (Nat.ble i 16) (cond (Nat.ble i 8) (cond (Nat.ble i 4) (cond (Nat.ble i 2) (cond (Nat.ble i 1) (cond (Nat.ble i 0) 633 706) 708) (cond (Nat.ble i 3) 738 745)) (cond (Nat.ble i 6) (cond (Nat.ble i 5) 750 759) (cond (Nat.ble i 7) 538 585))) (cond (Nat.ble i 12) (cond (Nat.ble i 10) (cond (Nat.ble i 9) 784 821) (cond (Nat.ble i 11) 847 863)) (cond (Nat.ble i 14) (cond (Nat.ble i 13) 925 945) (cond (Nat.ble i 15) 964 973)))) (cond (Nat.ble i 25) (cond (Nat.ble i 21) (cond (Nat.ble i 19) (cond (Nat.ble i 18) (cond (Nat.ble i 17) 974 989) 1003) (cond (Nat.ble i 20) 846 833)) (cond (Nat.ble i 23) (cond (Nat.ble i 22) 887 924) (cond (Nat.ble i 24) 906 907))) (cond (Nat.ble i 29) (cond (Nat.ble i 27) (cond (Nat.ble i 26) 1040 1268) (cond (Nat.ble i 28) 1269 1245)) (cond (Nat.ble i 31) (cond (Nat.ble i 30) 1282 1283) (cond (Nat.ble i 32) 1284 1289)))))
def nCp (i : Nat) : Nat := (cond (Nat.ble i 7) (cond (Nat.ble i 3) (cond (Nat.ble i 1) (cond (Nat.ble i 0) 0 41) (cond (Nat.ble i 2) 30 52)) (cond (Nat.ble i 5) (cond (Nat.ble i 4) 20 0) (cond (Nat.ble i 6) 31 54))) (cond (Nat.ble i 11) (cond (Nat.ble i 9) (cond (Nat.ble i 8) 19 42) (cond (Nat.ble i 10) 0 53)) (cond (Nat.ble i 13) (cond (Nat.ble i 12) 21 43) (cond (Nat.ble i 14) 32 0))))
def nCs (i : Nat) : Nat := (cond (Nat.ble i 1) (cond (Nat.ble i 0) 498 777) (cond (Nat.ble i 2) 578 880))
theorem nWs_ok : (List.range 34).all (fun i => decide ((nG.drop (nPo i)).take (nWs i).length = nWs i)) = true := by decide +kernel
theorem nSr_ok : (List.range 34).all (fun i => decide (lw_tbl[nSp i]? = some (.stringRef (zRn (zso i).1) (zso i).2.1 (zso i).2.2))) = true := by decide +kernel
theorem nCp_ok : (List.range 4).all (fun a => (List.range 4).all (fun b => Nat.beq a b || decide (nG[nCp (4 * a + b)]? = some (.not (.castable (zEx a) (zEx b)))))) = true := by decide +kernel
theorem nCs_ok : (List.range 4).all (fun a => decide (lw_tbl[nCs a]? = some (.castable (zEx a) (zEx a)))) = true := by decide +kernel
theorem nIn_ok : (List.range 8).all (fun c => zgd (zinp c) (.instantiable (zRn c) (zNF c))) = true := by decide +kernel
theorem nt_U : ((.laysStatic Bundle.tN "UNASSIGNED_STACK" Bundle.steD) : Jvm.Cond) ∈ lw_tbl := List.mem_of_getElem? (i := 523) (by decide +kernel)
theorem nt_S : ((.laysStatic Bundle.tN "SUPPRESSED_SENTINEL" Bundle.listD) : Jvm.Cond) ∈ lw_tbl := List.mem_of_getElem? (i := 525) (by decide +kernel)
theorem nt_T : ((.initialized Bundle.tN) : Jvm.Cond) ∈ lw_tbl := List.mem_of_getElem? (i := 89) (by decide +kernel)
theorem nt_C : ((.laysStatic "java/lang/String" "COMPACT_STRINGS" "Z") : Jvm.Cond) ∈ lw_tbl := List.mem_of_getElem? (i := 655) (by decide +kernel)
theorem nt_J : ((.initialized "java/lang/String") : Jvm.Cond) ∈ lw_tbl := List.mem_of_getElem? (i := 94) (by decide +kernel)
theorem nt_F : ((.laysStatic "jdk/internal/util/Preconditions" "SIOOBE_FORMATTER" "Ljava/util/function/BiFunction;") : Jvm.Cond) ∈ lw_tbl := List.mem_of_getElem? (i := 671) (by decide +kernel)
theorem nt_P : ((.initialized "jdk/internal/util/Preconditions") : Jvm.Cond) ∈ lw_tbl := List.mem_of_getElem? (i := 96) (by decide +kernel)
theorem nt_d0 : ((.declares ⟨"java/lang/RuntimeException", "<init>", "(Ljava/lang/String;)V"⟩) : Jvm.Cond) ∈ lw_tbl := List.mem_of_getElem? (i := 500) (by decide +kernel)
theorem nt_d1 : ((.declares ⟨"java/lang/Exception", "<init>", "(Ljava/lang/String;)V"⟩) : Jvm.Cond) ∈ lw_tbl := List.mem_of_getElem? (i := 502) (by decide +kernel)
theorem nt_d2 : ((.declares ⟨"java/lang/Throwable", "<init>", "(Ljava/lang/String;)V"⟩) : Jvm.Cond) ∈ lw_tbl := List.mem_of_getElem? (i := 504) (by decide +kernel)
theorem ng_U : ((.isRef (.static Bundle.tN "UNASSIGNED_STACK" Bundle.steD)) : Jvm.Cond) ∈ nG := List.mem_of_getElem? (i := 4) (by decide +kernel)
theorem ng_S : ((.isRef (.static Bundle.tN "SUPPRESSED_SENTINEL" Bundle.listD)) : Jvm.Cond) ∈ nG := List.mem_of_getElem? (i := 5) (by decide +kernel)
theorem ng_C : ((.eq (.static "java/lang/String" "COMPACT_STRINGS" "Z") (.int 1)) : Jvm.Cond) ∈ nG := List.mem_of_getElem? (i := 6) (by decide +kernel)
theorem ng_F : ((.isRef (.static "jdk/internal/util/Preconditions" "SIOOBE_FORMATTER" "Ljava/util/function/BiFunction;")) : Jvm.Cond) ∈ nG := List.mem_of_getElem? (i := 7) (by decide +kernel)
section
variable {s : State} {args : Array Value}
theorem n_txt (hg : ∀ w ∈ nG, w.before args s = true) {i : Nat} (hi : i < 34) : ∃ a : Nat, (nTm i).eval args s none [] s = some (.ref a) ∧ va_O "java/lang/String" a (zA s.heap.size) s s.heap ∧ va_OF "java/lang/String" "coder" "B" (.int 0) a (zA s.heap.size) s s.heap ∧ ∃ av : Nat, va_OF "java/lang/String" "value" "[B" (.ref av) a (zA s.heap.size) s s.heap ∧ va_T .byte av (zsg i).length (fun j => .int (nI ((zsg i).getD j 0)).toInt8.toInt32) (zA s.heap.size) s s.heap := by
  have hA : ∀ a : Nat, a < s.heap.size → ¬ zA s.heap.size a := fun a h => Nat.not_le.mpr h
  have e := of_decide_eq_true (zall nWs_ok hi)
  have hw : ∀ w ∈ nWs i, w.before args s = true := fun w hw => hg w (List.mem_of_mem_drop (List.mem_of_mem_take (by rw [e]; exact hw)))
  have hex : (Jvm.Cond.exactly (nTm i) "java/lang/String").before args s = true := hw _ (List.mem_append_left _ (List.mem_of_getElem? (i := 0) rfl))
  have hco : (Jvm.Cond.eq (.field (nTm i) "java/lang/String" "coder" "B") (.int 0)).before args s = true := hw _ (List.mem_append_left _ (List.mem_of_getElem? (i := 1) rfl))
  have har : (Jvm.Cond.arrayOf (nVal i) .byte).before args s = true := hw _ (List.mem_append_left _ (List.mem_of_getElem? (i := 2) rfl))
  have hle : (Jvm.Cond.eq (.length (nVal i)) (.int (Int32.ofNat (zsg i).length))).before args s = true := hw _ (List.mem_append_left _ (List.mem_of_getElem? (i := 3) rfl))
  have hel : ∀ j, j < (zsg i).length → (nEl i j).before args s = true := fun j hj => hw _ (List.mem_append_right _ (List.mem_map.mpr ⟨j, List.mem_range.mpr hj, rfl⟩))
  obtain ⟨a, c, cA, kA, q1, q2, q3, q4, q5, q6, -⟩ := Cond.exactly_spec (args := args) (first := s) (o := none) (s := s) (idx := []) (t := nTm i) (cls := "java/lang/String") hex
  have z := (tz_ok hi 0).2
  obtain ⟨t, ht, hT⟩ := va_Tof (f := fun j => .int (nI ((zsg i).getD j 0)).toInt8.toInt32) (A := zA s.heap.size) (by omega) har (va_eqt hle) (fun j hj => va_eqt (hel j hj)) hA
  exact ⟨a, q1, ⟨cA, q3, q5, by rw [q6]; exact q2, hA a (Array.getElem?_eq_some_iff.mp q3).1⟩, vk_OFof q1 (va_eqt hco) hA, t, vk_OFof q1 ht hA, hT⟩
theorem n_env (ht : ∀ w ∈ lw_tbl, w.before args s = true) (hg : ∀ w ∈ nG, w.before args s = true) {b L : Nat} {xs : Nat → Int32} (hX : va_X b L xs s s.heap) (hb : b < s.heap.size) : ∃ ad : Nat → Nat, ad 2000 = b ∧ zEnv s.heap.size (L, xs) ad s s.heap := by
  have hA : ∀ a : Nat, a < s.heap.size → ¬ zA s.heap.size a := fun a h => Nat.not_le.mpr h
  have h0 : ∀ i : Nat, ∃ a : Nat, i < 34 → (nTm i).eval args s none [] s = some (.ref a) ∧ va_O "java/lang/String" a (zA s.heap.size) s s.heap ∧ va_OF "java/lang/String" "coder" "B" (.int 0) a (zA s.heap.size) s s.heap ∧ ∃ av : Nat, va_OF "java/lang/String" "value" "[B" (.ref av) a (zA s.heap.size) s s.heap ∧ va_T .byte av (zsg i).length (fun j => .int (nI ((zsg i).getD j 0)).toInt8.toInt32) (zA s.heap.size) s s.heap := by
    intro i
    by_cases hi : i < 34
    · obtain ⟨a, h⟩ := n_txt hg hi
      exact ⟨a, fun _ => h⟩
    · exact ⟨0, fun h => absurd h hi⟩
  obtain ⟨a1, ha1⟩ := Classical.axiomOfChoice h0
  have ea : ∀ i, i < 34 → (fun k => if k = 2000 then b else a1 (k - 1000)) (1000 + i) = a1 i := fun i hi => by
    show (if 1000 + i = 2000 then b else a1 (1000 + i - 1000)) = a1 i
    rw [if_neg (by omega), Nat.add_sub_cancel_left]
  refine ⟨fun k => if k = 2000 then b else a1 (k - 1000), rfl, ⟨Nat.le_refl _, hX, hb⟩, fun i hi => ?_, ⟨vx_Zqof (ht _ nt_U) (ht _ nt_T) (hg _ ng_U) hA, vx_Zqof (ht _ nt_S) (ht _ nt_T) (hg _ ng_S) hA⟩, ⟨fun a c ha hc hac => ?_, fun a ha => ?_, fun n hn => ?_⟩, fun c ix y n hm => ?_, ⟨fun i hi => ?_, ?_, ?_⟩⟩
  · rw [ea i hi]
    exact vk_R.of (ht _ (List.mem_of_getElem? (of_decide_eq_true (zall nSr_ok hi)))) (ha1 i hi).1
  · rcases Bool.or_eq_true_iff.mp (zall (zall nCp_ok ha) hc) with z | z
    · exact absurd (Nat.eq_of_beq_eq_true z) hac
    · exact va_Nc.of (hg _ (List.mem_of_getElem? (of_decide_eq_true z)))
  · exact va_Nw.of rfl (ht _ (List.mem_of_getElem? (of_decide_eq_true (zall nCs_ok ha))))
  · have hn3 : n = "java/lang/RuntimeException" ∨ n = "java/lang/Exception" ∨ n = "java/lang/Throwable" := by
      simpa [zDc] using hn
    rcases hn3 with rfl | rfl | rfl
    · exact va_Nw.of rfl (ht _ nt_d0)
    · exact va_Nw.of rfl (ht _ nt_d1)
    · exact va_Nw.of rfl (ht _ nt_d2)
  · obtain ⟨qk, g1, g2⟩ := zml_lib hm
    unfold zmk at qk
    rw [hm] at qk
    obtain ⟨q1, q2⟩ := zan qk
    obtain ⟨q3, q4⟩ := zan q1
    exact va_Nw.of rfl (ht _ (List.mem_of_getElem? (of_decide_eq_true q3)))
  · rw [ea i hi]
    exact (ha1 i hi).2
  · exact va_Zof (ht _ nt_C) (ht _ nt_J) (va_eqi (hg _ ng_C)) hA
  · exact va_Zqof (ht _ nt_F) (ht _ nt_P) (hg _ ng_F) hA
theorem n_known (ht : ∀ w ∈ zWd, w.before args s = true) : ∃ D : va_G, va_K D vwCl [] s := by
  have h0 : ∀ c : Nat, ∃ q : ClassId × (Nat → Nat), c < 8 → u_Kn s (zRn c) (zT c) (zNF c) q.1 q.2 := by
    intro c
    by_cases hc : c < 8
    · obtain ⟨cC, iS, h⟩ := u_known (ws := zWd) (C := zRn c) (T := zT c) (N := zNF c) (n := zNF c) ht (zws_in c hc) (ht _ (zgd_in (zall nIn_ok hc)))
      exact ⟨(cC, iS), fun _ => h⟩
    · exact ⟨(0, fun _ => 0), fun h => absurd h hc⟩
  obtain ⟨f, hf⟩ := Classical.axiomOfChoice h0
  refine ⟨(fun c => (f c).1, fun c => (f c).2), fun c q hq => ?_, fun k q h => by simp at h⟩
  have hc : c < 8 := (List.getElem?_eq_some_iff.mp hq).1
  cases Option.some.inj (hq.symm.trans (zcl_ok c hc))
  exact hf c hc
end
