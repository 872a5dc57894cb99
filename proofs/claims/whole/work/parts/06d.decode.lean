theorem zi_ok_217 : zdk cL_plan zi_217 0 25 = true := by decide +kernel
theorem zi_w_217 : ∀ pc i, zi_217 pc = some i → decode cL_plan pc = .ok i := zdk_ok (n := 24) zi_ok_217 (fun _ h => zcn h)
theorem zi_ok_218 : zdk cL_setSupplement zi_218 0 25 = true := by decide +kernel
theorem zi_w_218 : ∀ pc i, zi_218 pc = some i → decode cL_setSupplement pc = .ok i := zdk_ok (n := 24) zi_ok_218 (fun _ h => zcn h)
theorem zi_ok_219 : zdk cL_supplement zi_219 0 19 = true := by decide +kernel
theorem zi_w_219 : ∀ pc i, zi_219 pc = some i → decode cL_supplement pc = .ok i := zdk_ok (n := 18) zi_ok_219 (fun _ h => zcn h)
theorem zi_ok_220 : zdk cL_buffer zi_220 0 23 = true := by decide +kernel
theorem zi_w_220 : ∀ pc i, zi_220 pc = some i → decode cL_buffer pc = .ok i := zdk_ok (n := 22) zi_ok_220 (fun _ h => zcn h)
theorem zi_ok_221 : zdk cL_speed zi_221 0 16 = true := by decide +kernel
theorem zi_w_221 : ∀ pc i, zi_221 pc = some i → decode cL_speed pc = .ok i := zdk_ok (n := 15) zi_ok_221 (fun _ h => zcn h)
theorem zi_ok_222 : zdk cL_lastArrival zi_222 0 16 = true := by decide +kernel
theorem zi_w_222 : ∀ pc i, zi_222 pc = some i → decode cL_lastArrival pc = .ok i := zdk_ok (n := 15) zi_ok_222 (fun _ h => zcn h)
theorem zi_ok_223 : zdk cL_disturb zi_223 0 35 = true := by decide +kernel
theorem zi_w_223 : ∀ pc i, zi_223 pc = some i → decode cL_disturb pc = .ok i := zdk_ok (n := 34) zi_ok_223 (fun _ h => zcn h)
theorem zi_ok_224 : zdk cL_actual zi_224 0 25 = true := by decide +kernel
theorem zi_w_224 : ∀ pc i, zi_224 pc = some i → decode cL_actual pc = .ok i := zdk_ok (n := 24) zi_ok_224 (fun _ h => zcn h)
theorem zi_ok_225 : zdk cL_punctuality zi_225 0 19 = true := by decide +kernel
theorem zi_w_225 : ∀ pc i, zi_225 pc = some i → decode cL_punctuality pc = .ok i := zdk_ok (n := 18) zi_ok_225 (fun _ h => zcn h)
theorem zi_ok_226 : zdk cL_isKept zi_226 0 24 = true := by decide +kernel
theorem zi_w_226 : ∀ pc i, zi_226 pc = some i → decode cL_isKept pc = .ok i := zdk_ok (n := 23) zi_ok_226 (fun _ h => zcn h)
theorem zi_ok_227 : zdk cL_cause zi_227 0 25 = true := by decide +kernel
theorem zi_w_227 : ∀ pc i, zi_227 pc = some i → decode cL_cause pc = .ok i := zdk_ok (n := 24) zi_ok_227 (fun _ h => zcn h)
theorem zi_ok_228 : zdk cL_overtake zi_228 0 25 = true := by decide +kernel
theorem zi_w_228 : ∀ pc i, zi_228 pc = some i → decode cL_overtake pc = .ok i := zdk_ok (n := 24) zi_ok_228 (fun _ h => zcn h)
theorem zi_ok_229 : zdk cL_tolerance zi_229 0 23 = true := by decide +kernel
theorem zi_w_229 : ∀ pc i, zi_229 pc = some i → decode cL_tolerance pc = .ok i := zdk_ok (n := 22) zi_ok_229 (fun _ h => zcn h)
theorem zi_ok_230 : zdk cL_leastDelay zi_230 0 23 = true := by decide +kernel
theorem zi_w_230 : ∀ pc i, zi_230 pc = some i → decode cL_leastDelay pc = .ok i := zdk_ok (n := 22) zi_ok_230 (fun _ h => zcn h)
theorem zi_ok_231 : zdk cL_distribute zi_231 0 23 = true := by decide +kernel
theorem zi_w_231 : ∀ pc i, zi_231 pc = some i → decode cL_distribute pc = .ok i := zdk_ok (n := 22) zi_ok_231 (fun _ h => zcn h)
theorem zi_ok_232_0 : zdk cL_law zi_232 0 100 = true := by decide +kernel
theorem zi_ok_232_100 : zdk cL_law zi_232 100 100 = true := by decide +kernel
theorem zi_ok_232_200 : zdk cL_law zi_232 200 100 = true := by decide +kernel
theorem zi_ok_232_300 : zdk cL_law zi_232 300 100 = true := by decide +kernel
theorem zi_ok_232_400 : zdk cL_law zi_232 400 100 = true := by decide +kernel
theorem zi_ok_232_500 : zdk cL_law zi_232 500 100 = true := by decide +kernel
theorem zi_ok_232_600 : zdk cL_law zi_232 600 100 = true := by decide +kernel
theorem zi_ok_232_700 : zdk cL_law zi_232 700 100 = true := by decide +kernel
theorem zi_ok_232_800 : zdk cL_law zi_232 800 100 = true := by decide +kernel
theorem zi_ok_232_900 : zdk cL_law zi_232 900 100 = true := by decide +kernel
theorem zi_ok_232_1000 : zdk cL_law zi_232 1000 100 = true := by decide +kernel
theorem zi_ok_232_1100 : zdk cL_law zi_232 1100 100 = true := by decide +kernel
theorem zi_ok_232_1200 : zdk cL_law zi_232 1200 100 = true := by decide +kernel
theorem zi_ok_232_1300 : zdk cL_law zi_232 1300 100 = true := by decide +kernel
theorem zi_ok_232_1400 : zdk cL_law zi_232 1400 100 = true := by decide +kernel
theorem zi_ok_232_1500 : zdk cL_law zi_232 1500 100 = true := by decide +kernel
theorem zi_ok_232_1600 : zdk cL_law zi_232 1600 100 = true := by decide +kernel
theorem zi_ok_232_1700 : zdk cL_law zi_232 1700 100 = true := by decide +kernel
theorem zi_ok_232_1800 : zdk cL_law zi_232 1800 100 = true := by decide +kernel
theorem zi_ok_232_1900 : zdk cL_law zi_232 1900 100 = true := by decide +kernel
theorem zi_ok_232_2000 : zdk cL_law zi_232 2000 37 = true := by decide +kernel
theorem zi_w_232 : ∀ pc i, zi_232 pc = some i → decode cL_law pc = .ok i := by
  intro pc i hf
  rcases Nat.lt_or_ge pc 100 with q | q
  · exact zdk_at zi_ok_232_0 (by omega) (by omega) hf
  rcases Nat.lt_or_ge pc 200 with q | q
  · exact zdk_at zi_ok_232_100 (by omega) (by omega) hf
  rcases Nat.lt_or_ge pc 300 with q | q
  · exact zdk_at zi_ok_232_200 (by omega) (by omega) hf
  rcases Nat.lt_or_ge pc 400 with q | q
  · exact zdk_at zi_ok_232_300 (by omega) (by omega) hf
  rcases Nat.lt_or_ge pc 500 with q | q
  · exact zdk_at zi_ok_232_400 (by omega) (by omega) hf
  rcases Nat.lt_or_ge pc 600 with q | q
  · exact zdk_at zi_ok_232_500 (by omega) (by omega) hf
  rcases Nat.lt_or_ge pc 700 with q | q
  · exact zdk_at zi_ok_232_600 (by omega) (by omega) hf
  rcases Nat.lt_or_ge pc 800 with q | q
  · exact zdk_at zi_ok_232_700 (by omega) (by omega) hf
  rcases Nat.lt_or_ge pc 900 with q | q
  · exact zdk_at zi_ok_232_800 (by omega) (by omega) hf
  rcases Nat.lt_or_ge pc 1000 with q | q
  · exact zdk_at zi_ok_232_900 (by omega) (by omega) hf
  rcases Nat.lt_or_ge pc 1100 with q | q
  · exact zdk_at zi_ok_232_1000 (by omega) (by omega) hf
  rcases Nat.lt_or_ge pc 1200 with q | q
  · exact zdk_at zi_ok_232_1100 (by omega) (by omega) hf
  rcases Nat.lt_or_ge pc 1300 with q | q
  · exact zdk_at zi_ok_232_1200 (by omega) (by omega) hf
  rcases Nat.lt_or_ge pc 1400 with q | q
  · exact zdk_at zi_ok_232_1300 (by omega) (by omega) hf
  rcases Nat.lt_or_ge pc 1500 with q | q
  · exact zdk_at zi_ok_232_1400 (by omega) (by omega) hf
  rcases Nat.lt_or_ge pc 1600 with q | q
  · exact zdk_at zi_ok_232_1500 (by omega) (by omega) hf
  rcases Nat.lt_or_ge pc 1700 with q | q
  · exact zdk_at zi_ok_232_1600 (by omega) (by omega) hf
  rcases Nat.lt_or_ge pc 1800 with q | q
  · exact zdk_at zi_ok_232_1700 (by omega) (by omega) hf
  rcases Nat.lt_or_ge pc 1900 with q | q
  · exact zdk_at zi_ok_232_1800 (by omega) (by omega) hf
  rcases Nat.lt_or_ge pc 2000 with q | q
  · exact zdk_at zi_ok_232_1900 (by omega) (by omega) hf
  rcases Nat.lt_or_ge pc 2037 with q | q
  · exact zdk_at zi_ok_232_2000 (by omega) (by omega) hf
  · rw [show zi_232 pc = none from zcn (by omega)] at hf; cases hf
theorem zi_ok_233 : zdk cJ6_bitCount_0f7a4 zi_233 0 53 = true := by decide +kernel
theorem zi_w_233 : ∀ pc i, zi_233 pc = some i → decode cJ6_bitCount_0f7a4 pc = .ok i := zdk_ok (n := 52) zi_ok_233 (fun _ h => zcn h)
theorem zi_ok_234 : zdk cJ7_fill_53178 zi_234 0 21 = true := by decide +kernel
theorem zi_w_234 : ∀ pc i, zi_234 pc = some i → decode cJ7_fill_53178 pc = .ok i := zdk_ok (n := 20) zi_ok_234 (fun _ h => zcn h)
theorem zI_ok (y : Nat) : ∀ pc i, zI y pc = some i → decode (zC y) pc = .ok i := by
  rcases Nat.lt_or_ge y 235 with h | h
  ·
    rcases Nat.lt_or_ge y 117 with h | h
    ·
      rcases Nat.lt_or_ge y 58 with h | h
      ·
        rcases Nat.lt_or_ge y 29 with h | h
        ·
          rcases Nat.lt_or_ge y 14 with h | h
          ·
            rcases Nat.lt_or_ge y 7 with h | h
            ·
              rcases Nat.lt_or_ge y 3 with h | h
              ·
                rcases Nat.lt_or_ge y 1 with h | h
                ·
                  obtain rfl : y = 0 := by omega
                  exact zi_w_0
                ·
                  rcases Nat.lt_or_ge y 2 with h | h
                  ·
                    obtain rfl : y = 1 := by omega
                    exact zi_w_1
                  ·
                    obtain rfl : y = 2 := by omega
                    exact zi_w_2
              ·
                rcases Nat.lt_or_ge y 5 with h | h
                ·
                  rcases Nat.lt_or_ge y 4 with h | h
                  ·
                    obtain rfl : y = 3 := by omega
                    exact zi_w_3
                  ·
                    obtain rfl : y = 4 := by omega
                    exact zi_w_4
                ·
                  rcases Nat.lt_or_ge y 6 with h | h
                  ·
                    obtain rfl : y = 5 := by omega
                    exact zi_w_5
                  ·
                    obtain rfl : y = 6 := by omega
                    exact zi_w_6
            ·
              rcases Nat.lt_or_ge y 10 with h | h
              ·
                rcases Nat.lt_or_ge y 8 with h | h
                ·
                  obtain rfl : y = 7 := by omega
                  exact zi_w_7
                ·
                  rcases Nat.lt_or_ge y 9 with h | h
                  ·
                    obtain rfl : y = 8 := by omega
                    exact zi_w_8
                  ·
                    obtain rfl : y = 9 := by omega
                    exact zi_w_9
              ·
                rcases Nat.lt_or_ge y 12 with h | h
                ·
                  rcases Nat.lt_or_ge y 11 with h | h
                  ·
                    obtain rfl : y = 10 := by omega
                    exact zi_w_10
                  ·
                    obtain rfl : y = 11 := by omega
                    exact zi_w_11
                ·
                  rcases Nat.lt_or_ge y 13 with h | h
                  ·
                    obtain rfl : y = 12 := by omega
                    exact zi_w_12
                  ·
                    obtain rfl : y = 13 := by omega
                    exact zi_w_13
          ·
            rcases Nat.lt_or_ge y 21 with h | h
            ·
              rcases Nat.lt_or_ge y 17 with h | h
              ·
                rcases Nat.lt_or_ge y 15 with h | h
                ·
                  obtain rfl : y = 14 := by omega
                  exact zi_w_14
                ·
                  rcases Nat.lt_or_ge y 16 with h | h
                  ·
                    obtain rfl : y = 15 := by omega
                    exact zi_w_15
                  ·
                    obtain rfl : y = 16 := by omega
                    exact zi_w_16
              ·
                rcases Nat.lt_or_ge y 19 with h | h
                ·
                  rcases Nat.lt_or_ge y 18 with h | h
                  ·
                    obtain rfl : y = 17 := by omega
                    exact zi_w_17
                  ·
                    obtain rfl : y = 18 := by omega
                    exact zi_w_18
                ·
                  rcases Nat.lt_or_ge y 20 with h | h
                  ·
                    obtain rfl : y = 19 := by omega
                    exact zi_w_19
                  ·
                    obtain rfl : y = 20 := by omega
                    exact zi_w_20
            ·
              rcases Nat.lt_or_ge y 25 with h | h
              ·
                rcases Nat.lt_or_ge y 23 with h | h
                ·
                  rcases Nat.lt_or_ge y 22 with h | h
                  ·
                    obtain rfl : y = 21 := by omega
                    exact zi_w_21
                  ·
                    obtain rfl : y = 22 := by omega
                    exact zi_w_22
                ·
                  rcases Nat.lt_or_ge y 24 with h | h
                  ·
                    obtain rfl : y = 23 := by omega
                    exact zi_w_23
                  ·
                    obtain rfl : y = 24 := by omega
                    exact zi_w_24
              ·
                rcases Nat.lt_or_ge y 27 with h | h
                ·
                  rcases Nat.lt_or_ge y 26 with h | h
                  ·
                    obtain rfl : y = 25 := by omega
                    exact zi_w_25
                  ·
                    obtain rfl : y = 26 := by omega
                    exact zi_w_26
                ·
                  rcases Nat.lt_or_ge y 28 with h | h
                  ·
                    obtain rfl : y = 27 := by omega
                    exact zi_w_27
                  ·
                    obtain rfl : y = 28 := by omega
                    exact zi_w_28
        ·
          rcases Nat.lt_or_ge y 43 with h | h
          ·
            rcases Nat.lt_or_ge y 36 with h | h
            ·
              rcases Nat.lt_or_ge y 32 with h | h
              ·
                rcases Nat.lt_or_ge y 30 with h | h
                ·
                  obtain rfl : y = 29 := by omega
                  exact zi_w_29
                ·
                  rcases Nat.lt_or_ge y 31 with h | h
                  ·
                    obtain rfl : y = 30 := by omega
                    exact zi_w_30
                  ·
                    obtain rfl : y = 31 := by omega
                    exact zi_w_31
              ·
                rcases Nat.lt_or_ge y 34 with h | h
                ·
                  rcases Nat.lt_or_ge y 33 with h | h
                  ·
                    obtain rfl : y = 32 := by omega
                    exact zi_w_32
                  ·
                    obtain rfl : y = 33 := by omega
                    exact zi_w_33
                ·
                  rcases Nat.lt_or_ge y 35 with h | h
                  ·
                    obtain rfl : y = 34 := by omega
                    exact zi_w_34
                  ·
                    obtain rfl : y = 35 := by omega
                    exact zi_w_35
            ·
              rcases Nat.lt_or_ge y 39 with h | h
              ·
                rcases Nat.lt_or_ge y 37 with h | h
                ·
                  obtain rfl : y = 36 := by omega
                  exact zi_w_36
                ·
                  rcases Nat.lt_or_ge y 38 with h | h
                  ·
                    obtain rfl : y = 37 := by omega
                    exact zi_w_37
                  ·
                    obtain rfl : y = 38 := by omega
                    exact zi_w_38
              ·
                rcases Nat.lt_or_ge y 41 with h | h
                ·
                  rcases Nat.lt_or_ge y 40 with h | h
                  ·
                    obtain rfl : y = 39 := by omega
                    exact zi_w_39
                  ·
                    obtain rfl : y = 40 := by omega
                    exact zi_w_40
                ·
                  rcases Nat.lt_or_ge y 42 with h | h
                  ·
                    obtain rfl : y = 41 := by omega
                    exact zi_w_41
                  ·
                    obtain rfl : y = 42 := by omega
                    exact zi_w_42
          ·
            rcases Nat.lt_or_ge y 50 with h | h
            ·
              rcases Nat.lt_or_ge y 46 with h | h
              ·
                rcases Nat.lt_or_ge y 44 with h | h
                ·
                  obtain rfl : y = 43 := by omega
                  exact zi_w_43
                ·
                  rcases Nat.lt_or_ge y 45 with h | h
                  ·
                    obtain rfl : y = 44 := by omega
                    exact zi_w_44
                  ·
                    obtain rfl : y = 45 := by omega
                    exact zi_w_45
              ·
                rcases Nat.lt_or_ge y 48 with h | h
                ·
                  rcases Nat.lt_or_ge y 47 with h | h
                  ·
                    obtain rfl : y = 46 := by omega
                    exact zi_w_46
                  ·
                    obtain rfl : y = 47 := by omega
                    exact zi_w_47
                ·
                  rcases Nat.lt_or_ge y 49 with h | h
                  ·
                    obtain rfl : y = 48 := by omega
                    exact zi_w_48
                  ·
                    obtain rfl : y = 49 := by omega
                    exact zi_w_49
            ·
              rcases Nat.lt_or_ge y 54 with h | h
              ·
                rcases Nat.lt_or_ge y 52 with h | h
                ·
                  rcases Nat.lt_or_ge y 51 with h | h
                  ·
                    obtain rfl : y = 50 := by omega
                    exact zi_w_50
                  ·
                    obtain rfl : y = 51 := by omega
                    exact zi_w_51
                ·
                  rcases Nat.lt_or_ge y 53 with h | h
                  ·
                    obtain rfl : y = 52 := by omega
                    exact zi_w_52
                  ·
                    obtain rfl : y = 53 := by omega
                    exact zi_w_53
              ·
                rcases Nat.lt_or_ge y 56 with h | h
                ·
                  rcases Nat.lt_or_ge y 55 with h | h
                  ·
                    obtain rfl : y = 54 := by omega
                    exact zi_w_54
                  ·
                    obtain rfl : y = 55 := by omega
                    exact zi_w_55
                ·
                  rcases Nat.lt_or_ge y 57 with h | h
                  ·
                    obtain rfl : y = 56 := by omega
                    exact zi_w_56
                  ·
                    obtain rfl : y = 57 := by omega
                    exact zi_w_57
      ·
        rcases Nat.lt_or_ge y 87 with h | h
        ·
          rcases Nat.lt_or_ge y 72 with h | h
          ·
            rcases Nat.lt_or_ge y 65 with h | h
            ·
              rcases Nat.lt_or_ge y 61 with h | h
              ·
                rcases Nat.lt_or_ge y 59 with h | h
                ·
                  obtain rfl : y = 58 := by omega
                  exact zi_w_58
                ·
                  rcases Nat.lt_or_ge y 60 with h | h
                  ·
                    obtain rfl : y = 59 := by omega
                    exact zi_w_59
                  ·
                    obtain rfl : y = 60 := by omega
                    exact zi_w_60
              ·
                rcases Nat.lt_or_ge y 63 with h | h
                ·
                  rcases Nat.lt_or_ge y 62 with h | h
                  ·
                    obtain rfl : y = 61 := by omega
                    exact zi_w_61
                  ·
                    obtain rfl : y = 62 := by omega
                    exact zi_w_62
                ·
                  rcases Nat.lt_or_ge y 64 with h | h
                  ·
                    obtain rfl : y = 63 := by omega
                    exact zi_w_63
                  ·
                    obtain rfl : y = 64 := by omega
                    exact zi_w_64
            ·
              rcases Nat.lt_or_ge y 68 with h | h
              ·
                rcases Nat.lt_or_ge y 66 with h | h
                ·
                  obtain rfl : y = 65 := by omega
                  exact zi_w_65
                ·
                  rcases Nat.lt_or_ge y 67 with h | h
                  ·
                    obtain rfl : y = 66 := by omega
                    exact zi_w_66
                  ·
                    obtain rfl : y = 67 := by omega
                    exact zi_w_67
              ·
                rcases Nat.lt_or_ge y 70 with h | h
                ·
                  rcases Nat.lt_or_ge y 69 with h | h
                  ·
                    obtain rfl : y = 68 := by omega
                    exact zi_w_68
                  ·
                    obtain rfl : y = 69 := by omega
                    exact zi_w_69
                ·
                  rcases Nat.lt_or_ge y 71 with h | h
                  ·
                    obtain rfl : y = 70 := by omega
                    exact zi_w_70
                  ·
                    obtain rfl : y = 71 := by omega
                    exact zi_w_71
          ·
            rcases Nat.lt_or_ge y 79 with h | h
            ·
              rcases Nat.lt_or_ge y 75 with h | h
              ·
                rcases Nat.lt_or_ge y 73 with h | h
                ·
                  obtain rfl : y = 72 := by omega
                  exact zi_w_72
                ·
                  rcases Nat.lt_or_ge y 74 with h | h
                  ·
                    obtain rfl : y = 73 := by omega
                    exact zi_w_73
                  ·
                    obtain rfl : y = 74 := by omega
                    exact zi_w_74
              ·
                rcases Nat.lt_or_ge y 77 with h | h
                ·
                  rcases Nat.lt_or_ge y 76 with h | h
                  ·
                    obtain rfl : y = 75 := by omega
                    exact zi_w_75
                  ·
                    obtain rfl : y = 76 := by omega
                    exact zi_w_76
                ·
                  rcases Nat.lt_or_ge y 78 with h | h
                  ·
                    obtain rfl : y = 77 := by omega
                    exact zi_w_77
                  ·
                    obtain rfl : y = 78 := by omega
                    exact zi_w_78
            ·
              rcases Nat.lt_or_ge y 83 with h | h
              ·
                rcases Nat.lt_or_ge y 81 with h | h
                ·
                  rcases Nat.lt_or_ge y 80 with h | h
                  ·
                    obtain rfl : y = 79 := by omega
                    exact zi_w_79
                  ·
                    obtain rfl : y = 80 := by omega
                    exact zi_w_80
                ·
                  rcases Nat.lt_or_ge y 82 with h | h
                  ·
                    obtain rfl : y = 81 := by omega
                    exact zi_w_81
                  ·
                    obtain rfl : y = 82 := by omega
                    exact zi_w_82
              ·
                rcases Nat.lt_or_ge y 85 with h | h
                ·
                  rcases Nat.lt_or_ge y 84 with h | h
                  ·
                    obtain rfl : y = 83 := by omega
                    exact zi_w_83
                  ·
                    obtain rfl : y = 84 := by omega
                    exact zi_w_84
                ·
                  rcases Nat.lt_or_ge y 86 with h | h
                  ·
                    obtain rfl : y = 85 := by omega
                    exact zi_w_85
                  ·
                    obtain rfl : y = 86 := by omega
                    exact zi_w_86
        ·
          rcases Nat.lt_or_ge y 102 with h | h
          ·
            rcases Nat.lt_or_ge y 94 with h | h
            ·
              rcases Nat.lt_or_ge y 90 with h | h
              ·
                rcases Nat.lt_or_ge y 88 with h | h
                ·
                  obtain rfl : y = 87 := by omega
                  exact zi_w_87
                ·
                  rcases Nat.lt_or_ge y 89 with h | h
                  ·
                    obtain rfl : y = 88 := by omega
                    exact zi_w_88
                  ·
                    obtain rfl : y = 89 := by omega
                    exact zi_w_89
              ·
                rcases Nat.lt_or_ge y 92 with h | h
                ·
                  rcases Nat.lt_or_ge y 91 with h | h
                  ·
                    obtain rfl : y = 90 := by omega
                    exact zi_w_90
                  ·
                    obtain rfl : y = 91 := by omega
                    exact zi_w_91
                ·
                  rcases Nat.lt_or_ge y 93 with h | h
                  ·
                    obtain rfl : y = 92 := by omega
                    exact zi_w_92
                  ·
                    obtain rfl : y = 93 := by omega
                    exact zi_w_93
            ·
              rcases Nat.lt_or_ge y 98 with h | h
              ·
                rcases Nat.lt_or_ge y 96 with h | h
                ·
                  rcases Nat.lt_or_ge y 95 with h | h
                  ·
                    obtain rfl : y = 94 := by omega
                    exact zi_w_94
                  ·
                    obtain rfl : y = 95 := by omega
                    exact zi_w_95
                ·
                  rcases Nat.lt_or_ge y 97 with h | h
                  ·
                    obtain rfl : y = 96 := by omega
                    exact zi_w_96
                  ·
                    obtain rfl : y = 97 := by omega
                    exact zi_w_97
              ·
                rcases Nat.lt_or_ge y 100 with h | h
                ·
                  rcases Nat.lt_or_ge y 99 with h | h
                  ·
                    obtain rfl : y = 98 := by omega
                    exact zi_w_98
                  ·
                    obtain rfl : y = 99 := by omega
                    exact zi_w_99
                ·
                  rcases Nat.lt_or_ge y 101 with h | h
                  ·
                    obtain rfl : y = 100 := by omega
                    exact zi_w_100
                  ·
                    obtain rfl : y = 101 := by omega
                    exact zi_w_101
          ·
            rcases Nat.lt_or_ge y 109 with h | h
            ·
              rcases Nat.lt_or_ge y 105 with h | h
              ·
                rcases Nat.lt_or_ge y 103 with h | h
                ·
                  obtain rfl : y = 102 := by omega
                  exact zi_w_102
                ·
                  rcases Nat.lt_or_ge y 104 with h | h
                  ·
                    obtain rfl : y = 103 := by omega
                    exact zi_w_103
                  ·
                    obtain rfl : y = 104 := by omega
                    exact zi_w_104
              ·
                rcases Nat.lt_or_ge y 107 with h | h
                ·
                  rcases Nat.lt_or_ge y 106 with h | h
                  ·
                    obtain rfl : y = 105 := by omega
                    exact zi_w_105
                  ·
                    obtain rfl : y = 106 := by omega
                    exact zi_w_106
                ·
                  rcases Nat.lt_or_ge y 108 with h | h
                  ·
                    obtain rfl : y = 107 := by omega
                    exact zi_w_107
                  ·
                    obtain rfl : y = 108 := by omega
                    exact zi_w_108
            ·
              rcases Nat.lt_or_ge y 113 with h | h
              ·
                rcases Nat.lt_or_ge y 111 with h | h
                ·
                  rcases Nat.lt_or_ge y 110 with h | h
                  ·
                    obtain rfl : y = 109 := by omega
                    exact zi_w_109
                  ·
                    obtain rfl : y = 110 := by omega
                    exact zi_w_110
                ·
                  rcases Nat.lt_or_ge y 112 with h | h
                  ·
                    obtain rfl : y = 111 := by omega
                    exact zi_w_111
                  ·
                    obtain rfl : y = 112 := by omega
                    exact zi_w_112
              ·
                rcases Nat.lt_or_ge y 115 with h | h
                ·
                  rcases Nat.lt_or_ge y 114 with h | h
                  ·
                    obtain rfl : y = 113 := by omega
                    exact zi_w_113
                  ·
                    obtain rfl : y = 114 := by omega
                    exact zi_w_114
                ·
                  rcases Nat.lt_or_ge y 116 with h | h
                  ·
                    obtain rfl : y = 115 := by omega
                    exact zi_w_115
                  ·
                    obtain rfl : y = 116 := by omega
                    exact zi_w_116
    ·
      rcases Nat.lt_or_ge y 176 with h | h
      ·
        rcases Nat.lt_or_ge y 146 with h | h
        ·
          rcases Nat.lt_or_ge y 131 with h | h
          ·
            rcases Nat.lt_or_ge y 124 with h | h
            ·
              rcases Nat.lt_or_ge y 120 with h | h
              ·
                rcases Nat.lt_or_ge y 118 with h | h
                ·
                  obtain rfl : y = 117 := by omega
                  exact zi_w_117
                ·
                  rcases Nat.lt_or_ge y 119 with h | h
                  ·
                    obtain rfl : y = 118 := by omega
                    exact zi_w_118
                  ·
                    obtain rfl : y = 119 := by omega
                    exact zi_w_119
              ·
                rcases Nat.lt_or_ge y 122 with h | h
                ·
                  rcases Nat.lt_or_ge y 121 with h | h
                  ·
                    obtain rfl : y = 120 := by omega
                    exact zi_w_120
                  ·
                    obtain rfl : y = 121 := by omega
                    exact zi_w_121
                ·
                  rcases Nat.lt_or_ge y 123 with h | h
                  ·
                    obtain rfl : y = 122 := by omega
                    exact zi_w_122
                  ·
                    obtain rfl : y = 123 := by omega
                    exact zi_w_123
            ·
              rcases Nat.lt_or_ge y 127 with h | h
              ·
                rcases Nat.lt_or_ge y 125 with h | h
                ·
                  obtain rfl : y = 124 := by omega
                  exact zi_w_124
                ·
                  rcases Nat.lt_or_ge y 126 with h | h
                  ·
                    obtain rfl : y = 125 := by omega
                    exact zi_w_125
                  ·
                    obtain rfl : y = 126 := by omega
                    exact zi_w_126
              ·
                rcases Nat.lt_or_ge y 129 with h | h
                ·
                  rcases Nat.lt_or_ge y 128 with h | h
                  ·
                    obtain rfl : y = 127 := by omega
                    exact zi_w_127
                  ·
                    obtain rfl : y = 128 := by omega
                    exact zi_w_128
                ·
                  rcases Nat.lt_or_ge y 130 with h | h
                  ·
                    obtain rfl : y = 129 := by omega
                    exact zi_w_129
                  ·
                    obtain rfl : y = 130 := by omega
                    exact zi_w_130
          ·
            rcases Nat.lt_or_ge y 138 with h | h
            ·
              rcases Nat.lt_or_ge y 134 with h | h
              ·
                rcases Nat.lt_or_ge y 132 with h | h
                ·
                  obtain rfl : y = 131 := by omega
                  exact zi_w_131
                ·
                  rcases Nat.lt_or_ge y 133 with h | h
                  ·
                    obtain rfl : y = 132 := by omega
                    exact zi_w_132
                  ·
                    obtain rfl : y = 133 := by omega
                    exact zi_w_133
              ·
                rcases Nat.lt_or_ge y 136 with h | h
                ·
                  rcases Nat.lt_or_ge y 135 with h | h
                  ·
                    obtain rfl : y = 134 := by omega
                    exact zi_w_134
                  ·
                    obtain rfl : y = 135 := by omega
                    exact zi_w_135
                ·
                  rcases Nat.lt_or_ge y 137 with h | h
                  ·
                    obtain rfl : y = 136 := by omega
                    exact zi_w_136
                  ·
                    obtain rfl : y = 137 := by omega
                    exact zi_w_137
            ·
              rcases Nat.lt_or_ge y 142 with h | h
              ·
                rcases Nat.lt_or_ge y 140 with h | h
                ·
                  rcases Nat.lt_or_ge y 139 with h | h
                  ·
                    obtain rfl : y = 138 := by omega
                    exact zi_w_138
                  ·
                    obtain rfl : y = 139 := by omega
                    exact zi_w_139
                ·
                  rcases Nat.lt_or_ge y 141 with h | h
                  ·
                    obtain rfl : y = 140 := by omega
                    exact zi_w_140
                  ·
                    obtain rfl : y = 141 := by omega
                    exact zi_w_141
              ·
                rcases Nat.lt_or_ge y 144 with h | h
                ·
                  rcases Nat.lt_or_ge y 143 with h | h
                  ·
                    obtain rfl : y = 142 := by omega
                    exact zi_w_142
                  ·
                    obtain rfl : y = 143 := by omega
                    exact zi_w_143
                ·
                  rcases Nat.lt_or_ge y 145 with h | h
                  ·
                    obtain rfl : y = 144 := by omega
                    exact zi_w_144
                  ·
                    obtain rfl : y = 145 := by omega
                    exact zi_w_145
        ·
          rcases Nat.lt_or_ge y 161 with h | h
          ·
            rcases Nat.lt_or_ge y 153 with h | h
            ·
              rcases Nat.lt_or_ge y 149 with h | h
              ·
                rcases Nat.lt_or_ge y 147 with h | h
                ·
                  obtain rfl : y = 146 := by omega
                  exact zi_w_146
                ·
                  rcases Nat.lt_or_ge y 148 with h | h
                  ·
                    obtain rfl : y = 147 := by omega
                    exact zi_w_147
                  ·
                    obtain rfl : y = 148 := by omega
                    exact zi_w_148
              ·
                rcases Nat.lt_or_ge y 151 with h | h
                ·
                  rcases Nat.lt_or_ge y 150 with h | h
                  ·
                    obtain rfl : y = 149 := by omega
                    exact zi_w_149
                  ·
                    obtain rfl : y = 150 := by omega
                    exact zi_w_150
                ·
                  rcases Nat.lt_or_ge y 152 with h | h
                  ·
                    obtain rfl : y = 151 := by omega
                    exact zi_w_151
                  ·
                    obtain rfl : y = 152 := by omega
                    exact zi_w_152
            ·
              rcases Nat.lt_or_ge y 157 with h | h
              ·
                rcases Nat.lt_or_ge y 155 with h | h
                ·
                  rcases Nat.lt_or_ge y 154 with h | h
                  ·
                    obtain rfl : y = 153 := by omega
                    exact zi_w_153
                  ·
                    obtain rfl : y = 154 := by omega
                    exact zi_w_154
                ·
                  rcases Nat.lt_or_ge y 156 with h | h
                  ·
                    obtain rfl : y = 155 := by omega
                    exact zi_w_155
                  ·
                    obtain rfl : y = 156 := by omega
                    exact zi_w_156
              ·
                rcases Nat.lt_or_ge y 159 with h | h
                ·
                  rcases Nat.lt_or_ge y 158 with h | h
                  ·
                    obtain rfl : y = 157 := by omega
                    exact zi_w_157
                  ·
                    obtain rfl : y = 158 := by omega
                    exact zi_w_158
                ·
                  rcases Nat.lt_or_ge y 160 with h | h
                  ·
                    obtain rfl : y = 159 := by omega
                    exact zi_w_159
                  ·
                    obtain rfl : y = 160 := by omega
                    exact zi_w_160
          ·
            rcases Nat.lt_or_ge y 168 with h | h
            ·
              rcases Nat.lt_or_ge y 164 with h | h
              ·
                rcases Nat.lt_or_ge y 162 with h | h
                ·
                  obtain rfl : y = 161 := by omega
                  exact zi_w_161
                ·
                  rcases Nat.lt_or_ge y 163 with h | h
                  ·
                    obtain rfl : y = 162 := by omega
                    exact zi_w_162
                  ·
                    obtain rfl : y = 163 := by omega
                    exact zi_w_163
              ·
                rcases Nat.lt_or_ge y 166 with h | h
                ·
                  rcases Nat.lt_or_ge y 165 with h | h
                  ·
                    obtain rfl : y = 164 := by omega
                    exact zi_w_164
                  ·
                    obtain rfl : y = 165 := by omega
                    exact zi_w_165
                ·
                  rcases Nat.lt_or_ge y 167 with h | h
                  ·
                    obtain rfl : y = 166 := by omega
                    exact zi_w_166
                  ·
                    obtain rfl : y = 167 := by omega
                    exact zi_w_167
            ·
              rcases Nat.lt_or_ge y 172 with h | h
              ·
                rcases Nat.lt_or_ge y 170 with h | h
                ·
                  rcases Nat.lt_or_ge y 169 with h | h
                  ·
                    obtain rfl : y = 168 := by omega
                    exact zi_w_168
                  ·
                    obtain rfl : y = 169 := by omega
                    exact zi_w_169
                ·
                  rcases Nat.lt_or_ge y 171 with h | h
                  ·
                    obtain rfl : y = 170 := by omega
                    exact zi_w_170
                  ·
                    obtain rfl : y = 171 := by omega
                    exact zi_w_171
              ·
                rcases Nat.lt_or_ge y 174 with h | h
                ·
                  rcases Nat.lt_or_ge y 173 with h | h
                  ·
                    obtain rfl : y = 172 := by omega
                    exact zi_w_172
                  ·
                    obtain rfl : y = 173 := by omega
                    exact zi_w_173
                ·
                  rcases Nat.lt_or_ge y 175 with h | h
                  ·
                    obtain rfl : y = 174 := by omega
                    exact zi_w_174
                  ·
                    obtain rfl : y = 175 := by omega
                    exact zi_w_175
      ·
        rcases Nat.lt_or_ge y 205 with h | h
        ·
          rcases Nat.lt_or_ge y 190 with h | h
          ·
            rcases Nat.lt_or_ge y 183 with h | h
            ·
              rcases Nat.lt_or_ge y 179 with h | h
              ·
                rcases Nat.lt_or_ge y 177 with h | h
                ·
                  obtain rfl : y = 176 := by omega
                  exact zi_w_176
                ·
                  rcases Nat.lt_or_ge y 178 with h | h
                  ·
                    obtain rfl : y = 177 := by omega
                    exact zi_w_177
                  ·
                    obtain rfl : y = 178 := by omega
                    exact zi_w_178
              ·
                rcases Nat.lt_or_ge y 181 with h | h
                ·
                  rcases Nat.lt_or_ge y 180 with h | h
                  ·
                    obtain rfl : y = 179 := by omega
                    exact zi_w_179
                  ·
                    obtain rfl : y = 180 := by omega
                    exact zi_w_180
                ·
                  rcases Nat.lt_or_ge y 182 with h | h
                  ·
                    obtain rfl : y = 181 := by omega
                    exact zi_w_181
                  ·
                    obtain rfl : y = 182 := by omega
                    exact zi_w_182
            ·
              rcases Nat.lt_or_ge y 186 with h | h
              ·
                rcases Nat.lt_or_ge y 184 with h | h
                ·
                  obtain rfl : y = 183 := by omega
                  exact zi_w_183
                ·
                  rcases Nat.lt_or_ge y 185 with h | h
                  ·
                    obtain rfl : y = 184 := by omega
                    exact zi_w_184
                  ·
                    obtain rfl : y = 185 := by omega
                    exact zi_w_185
              ·
                rcases Nat.lt_or_ge y 188 with h | h
                ·
                  rcases Nat.lt_or_ge y 187 with h | h
                  ·
                    obtain rfl : y = 186 := by omega
                    exact zi_w_186
                  ·
                    obtain rfl : y = 187 := by omega
                    exact zi_w_187
                ·
                  rcases Nat.lt_or_ge y 189 with h | h
                  ·
                    obtain rfl : y = 188 := by omega
                    exact zi_w_188
                  ·
                    obtain rfl : y = 189 := by omega
                    exact zi_w_189
          ·
            rcases Nat.lt_or_ge y 197 with h | h
            ·
              rcases Nat.lt_or_ge y 193 with h | h
              ·
                rcases Nat.lt_or_ge y 191 with h | h
                ·
                  obtain rfl : y = 190 := by omega
                  exact zi_w_190
                ·
                  rcases Nat.lt_or_ge y 192 with h | h
                  ·
                    obtain rfl : y = 191 := by omega
                    exact zi_w_191
                  ·
                    obtain rfl : y = 192 := by omega
                    exact zi_w_192
              ·
                rcases Nat.lt_or_ge y 195 with h | h
                ·
                  rcases Nat.lt_or_ge y 194 with h | h
                  ·
                    obtain rfl : y = 193 := by omega
                    exact zi_w_193
                  ·
                    obtain rfl : y = 194 := by omega
                    exact zi_w_194
                ·
                  rcases Nat.lt_or_ge y 196 with h | h
                  ·
                    obtain rfl : y = 195 := by omega
                    exact zi_w_195
                  ·
                    obtain rfl : y = 196 := by omega
                    exact zi_w_196
            ·
              rcases Nat.lt_or_ge y 201 with h | h
              ·
                rcases Nat.lt_or_ge y 199 with h | h
                ·
                  rcases Nat.lt_or_ge y 198 with h | h
                  ·
                    obtain rfl : y = 197 := by omega
                    exact zi_w_197
                  ·
                    obtain rfl : y = 198 := by omega
                    exact zi_w_198
                ·
                  rcases Nat.lt_or_ge y 200 with h | h
                  ·
                    obtain rfl : y = 199 := by omega
                    exact zi_w_199
                  ·
                    obtain rfl : y = 200 := by omega
                    exact zi_w_200
              ·
                rcases Nat.lt_or_ge y 203 with h | h
                ·
                  rcases Nat.lt_or_ge y 202 with h | h
                  ·
                    obtain rfl : y = 201 := by omega
                    exact zi_w_201
                  ·
                    obtain rfl : y = 202 := by omega
                    exact zi_w_202
                ·
                  rcases Nat.lt_or_ge y 204 with h | h
                  ·
                    obtain rfl : y = 203 := by omega
                    exact zi_w_203
                  ·
                    obtain rfl : y = 204 := by omega
                    exact zi_w_204
        ·
          rcases Nat.lt_or_ge y 220 with h | h
          ·
            rcases Nat.lt_or_ge y 212 with h | h
            ·
              rcases Nat.lt_or_ge y 208 with h | h
              ·
                rcases Nat.lt_or_ge y 206 with h | h
                ·
                  obtain rfl : y = 205 := by omega
                  exact zi_w_205
                ·
                  rcases Nat.lt_or_ge y 207 with h | h
                  ·
                    obtain rfl : y = 206 := by omega
                    exact zi_w_206
                  ·
                    obtain rfl : y = 207 := by omega
                    exact zi_w_207
              ·
                rcases Nat.lt_or_ge y 210 with h | h
                ·
                  rcases Nat.lt_or_ge y 209 with h | h
                  ·
                    obtain rfl : y = 208 := by omega
                    exact zi_w_208
                  ·
                    obtain rfl : y = 209 := by omega
                    exact zi_w_209
                ·
                  rcases Nat.lt_or_ge y 211 with h | h
                  ·
                    obtain rfl : y = 210 := by omega
                    exact zi_w_210
                  ·
                    obtain rfl : y = 211 := by omega
                    exact zi_w_211
            ·
              rcases Nat.lt_or_ge y 216 with h | h
              ·
                rcases Nat.lt_or_ge y 214 with h | h
                ·
                  rcases Nat.lt_or_ge y 213 with h | h
                  ·
                    obtain rfl : y = 212 := by omega
                    exact zi_w_212
                  ·
                    obtain rfl : y = 213 := by omega
                    exact zi_w_213
                ·
                  rcases Nat.lt_or_ge y 215 with h | h
                  ·
                    obtain rfl : y = 214 := by omega
                    exact zi_w_214
                  ·
                    obtain rfl : y = 215 := by omega
                    exact zi_w_215
              ·
                rcases Nat.lt_or_ge y 218 with h | h
                ·
                  rcases Nat.lt_or_ge y 217 with h | h
                  ·
                    obtain rfl : y = 216 := by omega
                    exact zi_w_216
                  ·
                    obtain rfl : y = 217 := by omega
                    exact zi_w_217
                ·
                  rcases Nat.lt_or_ge y 219 with h | h
                  ·
                    obtain rfl : y = 218 := by omega
                    exact zi_w_218
                  ·
                    obtain rfl : y = 219 := by omega
                    exact zi_w_219
          ·
            rcases Nat.lt_or_ge y 227 with h | h
            ·
              rcases Nat.lt_or_ge y 223 with h | h
              ·
                rcases Nat.lt_or_ge y 221 with h | h
                ·
                  obtain rfl : y = 220 := by omega
                  exact zi_w_220
                ·
                  rcases Nat.lt_or_ge y 222 with h | h
                  ·
                    obtain rfl : y = 221 := by omega
                    exact zi_w_221
                  ·
                    obtain rfl : y = 222 := by omega
                    exact zi_w_222
              ·
                rcases Nat.lt_or_ge y 225 with h | h
                ·
                  rcases Nat.lt_or_ge y 224 with h | h
                  ·
                    obtain rfl : y = 223 := by omega
                    exact zi_w_223
                  ·
                    obtain rfl : y = 224 := by omega
                    exact zi_w_224
                ·
                  rcases Nat.lt_or_ge y 226 with h | h
                  ·
                    obtain rfl : y = 225 := by omega
                    exact zi_w_225
                  ·
                    obtain rfl : y = 226 := by omega
                    exact zi_w_226
            ·
              rcases Nat.lt_or_ge y 231 with h | h
              ·
                rcases Nat.lt_or_ge y 229 with h | h
                ·
                  rcases Nat.lt_or_ge y 228 with h | h
                  ·
                    obtain rfl : y = 227 := by omega
                    exact zi_w_227
                  ·
                    obtain rfl : y = 228 := by omega
                    exact zi_w_228
                ·
                  rcases Nat.lt_or_ge y 230 with h | h
                  ·
                    obtain rfl : y = 229 := by omega
                    exact zi_w_229
                  ·
                    obtain rfl : y = 230 := by omega
                    exact zi_w_230
              ·
                rcases Nat.lt_or_ge y 233 with h | h
                ·
                  rcases Nat.lt_or_ge y 232 with h | h
                  ·
                    obtain rfl : y = 231 := by omega
                    exact zi_w_231
                  ·
                    obtain rfl : y = 232 := by omega
                    exact zi_w_232
                ·
                  rcases Nat.lt_or_ge y 234 with h | h
                  ·
                    obtain rfl : y = 233 := by omega
                    exact zi_w_233
                  ·
                    obtain rfl : y = 234 := by omega
                    exact zi_w_234
  · intro pc i hf
    have hb : Nat.ble y 234 = false := by
      cases hc : Nat.ble y 234 with
      | false => rfl
      | true => exact absurd (Nat.le_of_ble_eq_true hc) (by omega)
    unfold zI at hf
    rw [hb] at hf
    cases hf
