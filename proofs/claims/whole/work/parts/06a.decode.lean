/-! the rows of the tables decode the bytes -/
def zdk (cc : ByteArray) (f : Nat → Option (Instr × Nat)) (a n : Nat) : Bool := (List.range' a n).all (fun pc => match f pc with | none => true | some i => decide (decode cc pc = .ok i))
theorem zcn {α : Type} {m pc : Nat} {t : Option α} (h : m < pc) : cond (Nat.ble pc m) t none = none := by
  have hb : Nat.ble pc m = false := by
    cases hc : Nat.ble pc m with
    | false => rfl
    | true => exact absurd (Nat.le_of_ble_eq_true hc) (by omega)
  rw [hb]; rfl
theorem zdk_at {cc : ByteArray} {f : Nat → Option (Instr × Nat)} {a n : Nat} (h : zdk cc f a n = true) {pc : Nat} {i : Instr × Nat} (h1 : a ≤ pc) (h2 : pc < a + n) (hf : f pc = some i) : decode cc pc = .ok i := by
  have h3 := List.all_eq_true.mp h pc (List.mem_range'_1.mpr ⟨h1, h2⟩)
  rw [hf] at h3
  exact of_decide_eq_true h3
theorem zdk_ok {cc : ByteArray} {f : Nat → Option (Instr × Nat)} {n : Nat} (h : zdk cc f 0 (n + 1) = true) (hn : ∀ pc, n < pc → f pc = none) : ∀ pc i, f pc = some i → decode cc pc = .ok i := by
  intro pc i hf
  rcases Nat.lt_or_ge n pc with q | q
  · rw [hn pc q] at hf; cases hf
  · exact zdk_at h (Nat.zero_le _) (by omega) hf
theorem zi_ok_0 : zdk cX0_init zi_0 0 29 = true := by decide +kernel
theorem zi_w_0 : ∀ pc i, zi_0 pc = some i → decode cX0_init pc = .ok i := zdk_ok (n := 28) zi_ok_0 (fun _ h => zcn h)
theorem zi_ok_1 : zdk cX0_begin zi_1 0 26 = true := by decide +kernel
theorem zi_w_1 : ∀ pc i, zi_1 pc = some i → decode cX0_begin pc = .ok i := zdk_ok (n := 25) zi_ok_1 (fun _ h => zcn h)
theorem zi_ok_2 : zdk cX0_keepAsBest zi_2 0 16 = true := by decide +kernel
theorem zi_w_2 : ∀ pc i, zi_2 pc = some i → decode cX0_keepAsBest pc = .ok i := zdk_ok (n := 15) zi_ok_2 (fun _ h => zcn h)
theorem zi_ok_3 : zdk cX0_advance zi_3 0 72 = true := by decide +kernel
theorem zi_w_3 : ∀ pc i, zi_3 pc = some i → decode cX0_advance pc = .ok i := zdk_ok (n := 71) zi_ok_3 (fun _ h => zcn h)
theorem zi_ok_4 : zdk cX1_init zi_4 0 56 = true := by decide +kernel
theorem zi_w_4 : ∀ pc i, zi_4 pc = some i → decode cX1_init pc = .ok i := zdk_ok (n := 55) zi_ok_4 (fun _ h => zcn h)
theorem zi_ok_5 : zdk cX1_copyFrom zi_5 0 94 = true := by decide +kernel
theorem zi_w_5 : ∀ pc i, zi_5 pc = some i → decode cX1_copyFrom pc = .ok i := zdk_ok (n := 93) zi_ok_5 (fun _ h => zcn h)
theorem zi_ok_6 : zdk cX1_reset zi_6 0 31 = true := by decide +kernel
theorem zi_w_6 : ∀ pc i, zi_6 pc = some i → decode cX1_reset pc = .ok i := zdk_ok (n := 30) zi_ok_6 (fun _ h => zcn h)
theorem zi_ok_7 : zdk cX1_addStation zi_7 0 30 = true := by decide +kernel
theorem zi_w_7 : ∀ pc i, zi_7 pc = some i → decode cX1_addStation pc = .ok i := zdk_ok (n := 29) zi_ok_7 (fun _ h => zcn h)
theorem zi_ok_8 : zdk cX1_setLength zi_8 0 11 = true := by decide +kernel
theorem zi_w_8 : ∀ pc i, zi_8 pc = some i → decode cX1_setLength pc = .ok i := zdk_ok (n := 10) zi_ok_8 (fun _ h => zcn h)
theorem zi_ok_9 : zdk cX1_setOf zi_9 0 12 = true := by decide +kernel
theorem zi_w_9 : ∀ pc i, zi_9 pc = some i → decode cX1_setOf pc = .ok i := zdk_ok (n := 11) zi_ok_9 (fun _ h => zcn h)
theorem zi_ok_10 : zdk cX1_setLink zi_10 0 12 = true := by decide +kernel
theorem zi_w_10 : ∀ pc i, zi_10 pc = some i → decode cX1_setLink pc = .ok i := zdk_ok (n := 11) zi_ok_10 (fun _ h => zcn h)
theorem zi_ok_11 : zdk cX1_hasSiding zi_11 0 17 = true := by decide +kernel
theorem zi_w_11 : ∀ pc i, zi_11 pc = some i → decode cX1_hasSiding pc = .ok i := zdk_ok (n := 16) zi_ok_11 (fun _ h => zcn h)
theorem zi_ok_12 : zdk cX1_of zi_12 0 11 = true := by decide +kernel
theorem zi_w_12 : ∀ pc i, zi_12 pc = some i → decode cX1_of pc = .ok i := zdk_ok (n := 10) zi_ok_12 (fun _ h => zcn h)
theorem zi_ok_13 : zdk cX1_link zi_13 0 11 = true := by decide +kernel
theorem zi_w_13 : ∀ pc i, zi_13 pc = some i → decode cX1_link pc = .ok i := zdk_ok (n := 10) zi_ok_13 (fun _ h => zcn h)
theorem zi_ok_14 : zdk cX1_departs zi_14 0 26 = true := by decide +kernel
theorem zi_w_14 : ∀ pc i, zi_14 pc = some i → decode cX1_departs pc = .ok i := zdk_ok (n := 25) zi_ok_14 (fun _ h => zcn h)
theorem zi_ok_15 : zdk cX1_arrives zi_15 0 26 = true := by decide +kernel
theorem zi_w_15 : ∀ pc i, zi_15 pc = some i → decode cX1_arrives pc = .ok i := zdk_ok (n := 25) zi_ok_15 (fun _ h => zcn h)
theorem zi_ok_16 : zdk cX1_hasEvent zi_16 0 20 = true := by decide +kernel
theorem zi_w_16 : ∀ pc i, zi_16 pc = some i → decode cX1_hasEvent pc = .ok i := zdk_ok (n := 19) zi_ok_16 (fun _ h => zcn h)
theorem zi_ok_17 : zdk cX1_runningTime zi_17 0 17 = true := by decide +kernel
theorem zi_w_17 : ∀ pc i, zi_17 pc = some i → decode cX1_runningTime pc = .ok i := zdk_ok (n := 16) zi_ok_17 (fun _ h => zcn h)
theorem zi_ok_18 : zdk cX1_distance zi_18 0 43 = true := by decide +kernel
theorem zi_w_18 : ∀ pc i, zi_18 pc = some i → decode cX1_distance pc = .ok i := zdk_ok (n := 42) zi_ok_18 (fun _ h => zcn h)
theorem zi_ok_19 : zdk cX2_init zi_19 0 26 = true := by decide +kernel
theorem zi_w_19 : ∀ pc i, zi_19 pc = some i → decode cX2_init pc = .ok i := zdk_ok (n := 25) zi_ok_19 (fun _ h => zcn h)
theorem zi_ok_20 : zdk cX2_sortByStart zi_20 0 62 = true := by decide +kernel
theorem zi_w_20 : ∀ pc i, zi_20 pc = some i → decode cX2_sortByStart pc = .ok i := zdk_ok (n := 61) zi_ok_20 (fun _ h => zcn h)
theorem zi_ok_21 : zdk cX2_indexByStart zi_21 0 68 = true := by decide +kernel
theorem zi_w_21 : ∀ pc i, zi_21 pc = some i → decode cX2_indexByStart pc = .ok i := zdk_ok (n := 67) zi_ok_21 (fun _ h => zcn h)
theorem zi_ok_22 : zdk cX2_copyFrom zi_22 0 31 = true := by decide +kernel
theorem zi_w_22 : ∀ pc i, zi_22 pc = some i → decode cX2_copyFrom pc = .ok i := zdk_ok (n := 30) zi_ok_22 (fun _ h => zcn h)
theorem zi_ok_23 : zdk cX2_at zi_23 0 11 = true := by decide +kernel
theorem zi_w_23 : ∀ pc i, zi_23 pc = some i → decode cX2_at pc = .ok i := zdk_ok (n := 10) zi_ok_23 (fun _ h => zcn h)
theorem zi_ok_24 : zdk cX2_ahead zi_24 0 11 = true := by decide +kernel
theorem zi_w_24 : ∀ pc i, zi_24 pc = some i → decode cX2_ahead pc = .ok i := zdk_ok (n := 10) zi_ok_24 (fun _ h => zcn h)
theorem zi_ok_25 : zdk cX2_canPass zi_25 0 52 = true := by decide +kernel
theorem zi_w_25 : ∀ pc i, zi_25 pc = some i → decode cX2_canPass pc = .ok i := zdk_ok (n := 51) zi_ok_25 (fun _ h => zcn h)
theorem zi_ok_26 : zdk cX2_pass zi_26 0 72 = true := by decide +kernel
theorem zi_w_26 : ∀ pc i, zi_26 pc = some i → decode cX2_pass pc = .ok i := zdk_ok (n := 71) zi_ok_26 (fun _ h => zcn h)
theorem zi_ok_27 : zdk cX2_indexBefore zi_27 0 52 = true := by decide +kernel
theorem zi_w_27 : ∀ pc i, zi_27 pc = some i → decode cX2_indexBefore pc = .ok i := zdk_ok (n := 51) zi_ok_27 (fun _ h => zcn h)
theorem zi_ok_28 : zdk cX2_findAheads zi_28 0 79 = true := by decide +kernel
theorem zi_w_28 : ∀ pc i, zi_28 pc = some i → decode cX2_findAheads pc = .ok i := zdk_ok (n := 78) zi_ok_28 (fun _ h => zcn h)
theorem zi_ok_29 : zdk cX3_init zi_29 0 27 = true := by decide +kernel
theorem zi_w_29 : ∀ pc i, zi_29 pc = some i → decode cX3_init pc = .ok i := zdk_ok (n := 26) zi_ok_29 (fun _ h => zcn h)
theorem zi_ok_30 : zdk cX3_parse zi_30 0 53 = true := by decide +kernel
theorem zi_w_30 : ∀ pc i, zi_30 pc = some i → decode cX3_parse pc = .ok i := zdk_ok (n := 52) zi_ok_30 (fun _ h => zcn h)
theorem zi_ok_31 : zdk cX3_parseStations zi_31 0 118 = true := by decide +kernel
theorem zi_w_31 : ∀ pc i, zi_31 pc = some i → decode cX3_parseStations pc = .ok i := zdk_ok (n := 117) zi_ok_31 (fun _ h => zcn h)
theorem zi_ok_32 : zdk cX3_parseKind zi_32 0 32 = true := by decide +kernel
theorem zi_w_32 : ∀ pc i, zi_32 pc = some i → decode cX3_parseKind pc = .ok i := zdk_ok (n := 31) zi_ok_32 (fun _ h => zcn h)
theorem zi_ok_33 : zdk cX3_parseSettings zi_33 0 111 = true := by decide +kernel
theorem zi_w_33 : ∀ pc i, zi_33 pc = some i → decode cX3_parseSettings pc = .ok i := zdk_ok (n := 110) zi_ok_33 (fun _ h => zcn h)
theorem zi_ok_34 : zdk cX3_parseSettingWord zi_34 0 21 = true := by decide +kernel
theorem zi_w_34 : ∀ pc i, zi_34 pc = some i → decode cX3_parseSettingWord pc = .ok i := zdk_ok (n := 20) zi_ok_34 (fun _ h => zcn h)
theorem zi_ok_35 : zdk cX3_parseTrains zi_35 0 177 = true := by decide +kernel
theorem zi_w_35 : ∀ pc i, zi_35 pc = some i → decode cX3_parseTrains pc = .ok i := zdk_ok (n := 176) zi_ok_35 (fun _ h => zcn h)
theorem zi_ok_36 : zdk cX3_parseConnections zi_36 0 62 = true := by decide +kernel
theorem zi_w_36 : ∀ pc i, zi_36 pc = some i → decode cX3_parseConnections pc = .ok i := zdk_ok (n := 61) zi_ok_36 (fun _ h => zcn h)
theorem zi_ok_37 : zdk cX3_parseConnection zi_37 0 172 = true := by decide +kernel
theorem zi_w_37 : ∀ pc i, zi_37 pc = some i → decode cX3_parseConnection pc = .ok i := zdk_ok (n := 171) zi_ok_37 (fun _ h => zcn h)
theorem zi_ok_38 : zdk cX4_init zi_38 0 44 = true := by decide +kernel
theorem zi_w_38 : ∀ pc i, zi_38 pc = some i → decode cX4_init pc = .ok i := zdk_ok (n := 43) zi_ok_38 (fun _ h => zcn h)
theorem zi_ok_39 : zdk cX4_time zi_39 0 12 = true := by decide +kernel
theorem zi_w_39 : ∀ pc i, zi_39 pc = some i → decode cX4_time pc = .ok i := zdk_ok (n := 11) zi_ok_39 (fun _ h => zcn h)
theorem zi_ok_40 : zdk cX4_lastTime zi_40 0 20 = true := by decide +kernel
theorem zi_w_40 : ∀ pc i, zi_40 pc = some i → decode cX4_lastTime pc = .ok i := zdk_ok (n := 19) zi_ok_40 (fun _ h => zcn h)
theorem zi_ok_41 : zdk cX4_extra zi_41 0 12 = true := by decide +kernel
theorem zi_w_41 : ∀ pc i, zi_41 pc = some i → decode cX4_extra pc = .ok i := zdk_ok (n := 11) zi_ok_41 (fun _ h => zcn h)
theorem zi_ok_42 : zdk cX4_setExtra zi_42 0 14 = true := by decide +kernel
theorem zi_w_42 : ∀ pc i, zi_42 pc = some i → decode cX4_setExtra pc = .ok i := zdk_ok (n := 13) zi_ok_42 (fun _ h => zcn h)
theorem zi_ok_43 : zdk cX4_clearExtras zi_43 0 9 = true := by decide +kernel
theorem zi_w_43 : ∀ pc i, zi_43 pc = some i → decode cX4_clearExtras pc = .ok i := zdk_ok (n := 8) zi_ok_43 (fun _ h => zcn h)
theorem zi_ok_44 : zdk cX4_setEarliest zi_44 0 47 = true := by decide +kernel
theorem zi_w_44 : ∀ pc i, zi_44 pc = some i → decode cX4_setEarliest pc = .ok i := zdk_ok (n := 46) zi_ok_44 (fun _ h => zcn h)
theorem zi_ok_45 : zdk cX4_compute zi_45 0 143 = true := by decide +kernel
theorem zi_w_45 : ∀ pc i, zi_45 pc = some i → decode cX4_compute pc = .ok i := zdk_ok (n := 142) zi_ok_45 (fun _ h => zcn h)
theorem zi_ok_46 : zdk cX4_settle zi_46 0 91 = true := by decide +kernel
theorem zi_w_46 : ∀ pc i, zi_46 pc = some i → decode cX4_settle pc = .ok i := zdk_ok (n := 90) zi_ok_46 (fun _ h => zcn h)
theorem zi_ok_47 : zdk cX4_afterItself zi_47 0 101 = true := by decide +kernel
theorem zi_w_47 : ∀ pc i, zi_47 pc = some i → decode cX4_afterItself pc = .ok i := zdk_ok (n := 100) zi_ok_47 (fun _ h => zcn h)
theorem zi_ok_48 : zdk cX4_afterHeadway zi_48 0 48 = true := by decide +kernel
theorem zi_w_48 : ∀ pc i, zi_48 pc = some i → decode cX4_afterHeadway pc = .ok i := zdk_ok (n := 47) zi_ok_48 (fun _ h => zcn h)
theorem zi_ok_49 : zdk cX4_afterPlainStation zi_49 0 58 = true := by decide +kernel
theorem zi_w_49 : ∀ pc i, zi_49 pc = some i → decode cX4_afterPlainStation pc = .ok i := zdk_ok (n := 57) zi_ok_49 (fun _ h => zcn h)
theorem zi_ok_50 : zdk cX4_afterConnections zi_50 0 79 = true := by decide +kernel
theorem zi_w_50 : ∀ pc i, zi_50 pc = some i → decode cX4_afterConnections pc = .ok i := zdk_ok (n := 78) zi_ok_50 (fun _ h => zcn h)
theorem zi_ok_51 : zdk cX4_changeTime zi_51 0 40 = true := by decide +kernel
theorem zi_w_51 : ∀ pc i, zi_51 pc = some i → decode cX4_changeTime pc = .ok i := zdk_ok (n := 39) zi_ok_51 (fun _ h => zcn h)
theorem zi_ok_52 : zdk cX4_waits zi_52 0 36 = true := by decide +kernel
theorem zi_w_52 : ∀ pc i, zi_52 pc = some i → decode cX4_waits pc = .ok i := zdk_ok (n := 35) zi_ok_52 (fun _ h => zcn h)
theorem zi_ok_53 : zdk cX4_keeps zi_53 0 30 = true := by decide +kernel
theorem zi_w_53 : ∀ pc i, zi_53 pc = some i → decode cX4_keeps pc = .ok i := zdk_ok (n := 29) zi_ok_53 (fun _ h => zcn h)
theorem zi_ok_54 : zdk cX4_delay zi_54 0 24 = true := by decide +kernel
theorem zi_w_54 : ∀ pc i, zi_54 pc = some i → decode cX4_delay pc = .ok i := zdk_ok (n := 23) zi_ok_54 (fun _ h => zcn h)
theorem zi_ok_55 : zdk cX4_sumOfDelays zi_55 0 64 = true := by decide +kernel
theorem zi_w_55 : ∀ pc i, zi_55 pc = some i → decode cX4_sumOfDelays pc = .ok i := zdk_ok (n := 63) zi_ok_55 (fun _ h => zcn h)
theorem zi_ok_56 : zdk cX4_lateSet zi_56 0 48 = true := by decide +kernel
theorem zi_w_56 : ∀ pc i, zi_56 pc = some i → decode cX4_lateSet pc = .ok i := zdk_ok (n := 47) zi_ok_56 (fun _ h => zcn h)
theorem zi_ok_57 : zdk cX4_lastDelayedTime zi_57 0 110 = true := by decide +kernel
theorem zi_w_57 : ∀ pc i, zi_57 pc = some i → decode cX4_lastDelayedTime pc = .ok i := zdk_ok (n := 109) zi_ok_57 (fun _ h => zcn h)
theorem zi_ok_58 : zdk cX4_reason zi_58 0 59 = true := by decide +kernel
theorem zi_w_58 : ∀ pc i, zi_58 pc = some i → decode cX4_reason pc = .ok i := zdk_ok (n := 58) zi_ok_58 (fun _ h => zcn h)
theorem zi_ok_59 : zdk cX5_init zi_59 0 19 = true := by decide +kernel
theorem zi_w_59 : ∀ pc i, zi_59 pc = some i → decode cX5_init pc = .ok i := zdk_ok (n := 18) zi_ok_59 (fun _ h => zcn h)
theorem zi_ok_60 : zdk cX5_addBytes zi_60 0 47 = true := by decide +kernel
theorem zi_w_60 : ∀ pc i, zi_60 pc = some i → decode cX5_addBytes pc = .ok i := zdk_ok (n := 46) zi_ok_60 (fun _ h => zcn h)
theorem zi_ok_61 : zdk cX5_begin zi_61 0 20 = true := by decide +kernel
theorem zi_w_61 : ∀ pc i, zi_61 pc = some i → decode cX5_begin pc = .ok i := zdk_ok (n := 19) zi_ok_61 (fun _ h => zcn h)
theorem zi_ok_62 : zdk cX5_byteAt zi_62 0 34 = true := by decide +kernel
theorem zi_w_62 : ∀ pc i, zi_62 pc = some i → decode cX5_byteAt pc = .ok i := zdk_ok (n := 33) zi_ok_62 (fun _ h => zcn h)
theorem zi_ok_63 : zdk cX5_isBlank zi_63 0 18 = true := by decide +kernel
theorem zi_w_63 : ∀ pc i, zi_63 pc = some i → decode cX5_isBlank pc = .ok i := zdk_ok (n := 17) zi_ok_63 (fun _ h => zcn h)
theorem zi_ok_64 : zdk cX5_isLetter zi_64 0 18 = true := by decide +kernel
theorem zi_w_64 : ∀ pc i, zi_64 pc = some i → decode cX5_isLetter pc = .ok i := zdk_ok (n := 17) zi_ok_64 (fun _ h => zcn h)
theorem zi_ok_65 : zdk cX5_isDigit zi_65 0 18 = true := by decide +kernel
theorem zi_w_65 : ∀ pc i, zi_65 pc = some i → decode cX5_isDigit pc = .ok i := zdk_ok (n := 17) zi_ok_65 (fun _ h => zcn h)
theorem zi_ok_66 : zdk cX5_take zi_66 0 248 = true := by decide +kernel
theorem zi_w_66 : ∀ pc i, zi_66 pc = some i → decode cX5_take pc = .ok i := zdk_ok (n := 247) zi_ok_66 (fun _ h => zcn h)
theorem zi_ok_67 : zdk cX5_fail zi_67 0 10 = true := by decide +kernel
theorem zi_w_67 : ∀ pc i, zi_67 pc = some i → decode cX5_fail pc = .ok i := zdk_ok (n := 9) zi_ok_67 (fun _ h => zcn h)
theorem zi_ok_68 : zdk cX5_failAtTaken zi_68 0 10 = true := by decide +kernel
theorem zi_w_68 : ∀ pc i, zi_68 pc = some i → decode cX5_failAtTaken pc = .ok i := zdk_ok (n := 9) zi_ok_68 (fun _ h => zcn h)
theorem zi_ok_69 : zdk cX5_failAt zi_69 0 18 = true := by decide +kernel
theorem zi_w_69 : ∀ pc i, zi_69 pc = some i → decode cX5_failAt pc = .ok i := zdk_ok (n := 17) zi_ok_69 (fun _ h => zcn h)
theorem zi_ok_70 : zdk cX5_isWord zi_70 0 71 = true := by decide +kernel
theorem zi_w_70 : ∀ pc i, zi_70 pc = some i → decode cX5_isWord pc = .ok i := zdk_ok (n := 70) zi_ok_70 (fun _ h => zcn h)
theorem zi_ok_71 : zdk cX5_isNumber zi_71 0 21 = true := by decide +kernel
theorem zi_w_71 : ∀ pc i, zi_71 pc = some i → decode cX5_isNumber pc = .ok i := zdk_ok (n := 20) zi_ok_71 (fun _ h => zcn h)
theorem zi_ok_72 : zdk cX5_takesWord zi_72 0 16 = true := by decide +kernel
theorem zi_w_72 : ∀ pc i, zi_72 pc = some i → decode cX5_takesWord pc = .ok i := zdk_ok (n := 15) zi_ok_72 (fun _ h => zcn h)
theorem zi_ok_73 : zdk cX5_needWord zi_73 0 14 = true := by decide +kernel
theorem zi_w_73 : ∀ pc i, zi_73 pc = some i → decode cX5_needWord pc = .ok i := zdk_ok (n := 13) zi_ok_73 (fun _ h => zcn h)
theorem zi_ok_74 : zdk cX5_needNumber zi_74 0 75 = true := by decide +kernel
theorem zi_w_74 : ∀ pc i, zi_74 pc = some i → decode cX5_needNumber pc = .ok i := zdk_ok (n := 74) zi_ok_74 (fun _ h => zcn h)
theorem zi_ok_75 : zdk cX5_needSemicolon zi_75 0 28 = true := by decide +kernel
theorem zi_w_75 : ∀ pc i, zi_75 pc = some i → decode cX5_needSemicolon pc = .ok i := zdk_ok (n := 27) zi_ok_75 (fun _ h => zcn h)
theorem zi_ok_76 : zdk cX5_needEnd zi_76 0 13 = true := by decide +kernel
theorem zi_w_76 : ∀ pc i, zi_76 pc = some i → decode cX5_needEnd pc = .ok i := zdk_ok (n := 12) zi_ok_76 (fun _ h => zcn h)
theorem zi_ok_77 : zdk cX6_init zi_77 0 147 = true := by decide +kernel
theorem zi_w_77 : ∀ pc i, zi_77 pc = some i → decode cX6_init pc = .ok i := zdk_ok (n := 146) zi_ok_77 (fun _ h => zcn h)
theorem zi_ok_78 : zdk cX6_append zi_78 0 68 = true := by decide +kernel
theorem zi_w_78 : ∀ pc i, zi_78 pc = some i → decode cX6_append pc = .ok i := zdk_ok (n := 67) zi_ok_78 (fun _ h => zcn h)
theorem zi_ok_79 : zdk cX6_truncate zi_79 0 41 = true := by decide +kernel
theorem zi_w_79 : ∀ pc i, zi_79 pc = some i → decode cX6_truncate pc = .ok i := zdk_ok (n := 40) zi_ok_79 (fun _ h => zcn h)
theorem zi_ok_80 : zdk cX6_load zi_80 0 59 = true := by decide +kernel
theorem zi_w_80 : ∀ pc i, zi_80 pc = some i → decode cX6_load pc = .ok i := zdk_ok (n := 58) zi_ok_80 (fun _ h => zcn h)
theorem zi_ok_81 : zdk cX6_errorCode zi_81 0 11 = true := by decide +kernel
theorem zi_w_81 : ∀ pc i, zi_81 pc = some i → decode cX6_errorCode pc = .ok i := zdk_ok (n := 10) zi_ok_81 (fun _ h => zcn h)
theorem zi_ok_82 : zdk cX6_errorPosition zi_82 0 11 = true := by decide +kernel
theorem zi_w_82 : ∀ pc i, zi_82 pc = some i → decode cX6_errorPosition pc = .ok i := zdk_ok (n := 10) zi_ok_82 (fun _ h => zcn h)
theorem zi_ok_83 : zdk cX6_count zi_83 0 95 = true := by decide +kernel
theorem zi_w_83 : ∀ pc i, zi_83 pc = some i → decode cX6_count pc = .ok i := zdk_ok (n := 94) zi_ok_83 (fun _ h => zcn h)
