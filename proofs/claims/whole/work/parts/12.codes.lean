/-! the code words (wip/whole/gen/write12) -/
theorem zgw_code {y : MethodName} {b : ByteArray} {n : Nat} {r : Option FieldType} : goodWord (Jvm.Cond.code y b n r) = true := rfl
theorem zgw_codeW {y : MethodName} {b : ByteArray} {n : Nat} {r : Option FieldType} {hh : List (Nat × Nat × Nat × Nat)} : goodWord (Jvm.Cond.codeWith y b n r hh) = true := rfl
set_option maxRecDepth 100000 in
theorem zcw_0 : lw_tbl[263]? = some (Jvm.Cond.code (zY 0) (zC 0) (zML 0) (zRt 0)) := by rfl
set_option maxRecDepth 100000 in
theorem zcw_1 : lw_tbl[1052]? = some (Jvm.Cond.code (zY 1) (zC 1) (zML 1) (zRt 1)) := by rfl
set_option maxRecDepth 100000 in
theorem zcw_2 : lw_tbl[1064]? = some (Jvm.Cond.code (zY 2) (zC 2) (zML 2) (zRt 2)) := by rfl
set_option maxRecDepth 100000 in
theorem zcw_3 : lw_tbl[1069]? = some (Jvm.Cond.code (zY 3) (zC 3) (zML 3) (zRt 3)) := by rfl
set_option maxRecDepth 100000 in
theorem zcw_4 : lw_tbl[158]? = some (Jvm.Cond.code (zY 4) (zC 4) (zML 4) (zRt 4)) := by rfl
set_option maxRecDepth 100000 in
theorem zcw_5 : lw_tbl[794]? = some (Jvm.Cond.code (zY 5) (zC 5) (zML 5) (zRt 5)) := by rfl
set_option maxRecDepth 100000 in
theorem zcw_6 : lw_tbl[628]? = some (Jvm.Cond.code (zY 6) (zC 6) (zML 6) (zRt 6)) := by rfl
set_option maxRecDepth 100000 in
theorem zcw_7 : lw_tbl[712]? = some (Jvm.Cond.code (zY 7) (zC 7) (zML 7) (zRt 7)) := by rfl
set_option maxRecDepth 100000 in
theorem zcw_8 : lw_tbl[724]? = some (Jvm.Cond.code (zY 8) (zC 8) (zML 8) (zRt 8)) := by rfl
set_option maxRecDepth 100000 in
theorem zcw_9 : lw_tbl[754]? = some (Jvm.Cond.code (zY 9) (zC 9) (zML 9) (zRt 9)) := by rfl
set_option maxRecDepth 100000 in
theorem zcw_10 : lw_tbl[770]? = some (Jvm.Cond.code (zY 10) (zC 10) (zML 10) (zRt 10)) := by rfl
set_option maxRecDepth 100000 in
theorem zcw_11 : lw_tbl[345]? = some (Jvm.Cond.code (zY 11) (zC 11) (zML 11) (zRt 11)) := by rfl
set_option maxRecDepth 100000 in
theorem zcw_12 : lw_tbl[368]? = some (Jvm.Cond.code (zY 12) (zC 12) (zML 12) (zRt 12)) := by rfl
set_option maxRecDepth 100000 in
theorem zcw_13 : lw_tbl[411]? = some (Jvm.Cond.code (zY 13) (zC 13) (zML 13) (zRt 13)) := by rfl
set_option maxRecDepth 100000 in
theorem zcw_14 : lw_tbl[373]? = some (Jvm.Cond.code (zY 14) (zC 14) (zML 14) (zRt 14)) := by rfl
set_option maxRecDepth 100000 in
theorem zcw_15 : lw_tbl[364]? = some (Jvm.Cond.code (zY 15) (zC 15) (zML 15) (zRt 15)) := by rfl
set_option maxRecDepth 100000 in
theorem zcw_16 : lw_tbl[360]? = some (Jvm.Cond.code (zY 16) (zC 16) (zML 16) (zRt 16)) := by rfl
set_option maxRecDepth 100000 in
theorem zcw_17 : lw_tbl[389]? = some (Jvm.Cond.code (zY 17) (zC 17) (zML 17) (zRt 17)) := by rfl
set_option maxRecDepth 100000 in
theorem zcw_18 : lw_tbl[956]? = some (Jvm.Cond.code (zY 18) (zC 18) (zML 18) (zRt 18)) := by rfl
set_option maxRecDepth 100000 in
theorem zcw_19 : lw_tbl[221]? = some (Jvm.Cond.code (zY 19) (zC 19) (zML 19) (zRt 19)) := by rfl
set_option maxRecDepth 100000 in
theorem zcw_20 : lw_tbl[803]? = some (Jvm.Cond.code (zY 20) (zC 20) (zML 20) (zRt 20)) := by rfl
set_option maxRecDepth 100000 in
theorem zcw_21 : lw_tbl[807]? = some (Jvm.Cond.code (zY 21) (zC 21) (zML 21) (zRt 21)) := by rfl
set_option maxRecDepth 100000 in
theorem zcw_22 : lw_tbl[331]? = some (Jvm.Cond.code (zY 22) (zC 22) (zML 22) (zRt 22)) := by rfl
set_option maxRecDepth 100000 in
theorem zcw_23 : lw_tbl[349]? = some (Jvm.Cond.code (zY 23) (zC 23) (zML 23) (zRt 23)) := by rfl
set_option maxRecDepth 100000 in
theorem zcw_24 : lw_tbl[398]? = some (Jvm.Cond.code (zY 24) (zC 24) (zML 24) (zRt 24)) := by rfl
set_option maxRecDepth 100000 in
theorem zcw_25 : lw_tbl[468]? = some (Jvm.Cond.code (zY 25) (zC 25) (zML 25) (zRt 25)) := by rfl
set_option maxRecDepth 100000 in
theorem zcw_26 : lw_tbl[478]? = some (Jvm.Cond.code (zY 26) (zC 26) (zML 26) (zRt 26)) := by rfl
set_option maxRecDepth 100000 in
theorem zcw_27 : lw_tbl[473]? = some (Jvm.Cond.code (zY 27) (zC 27) (zML 27) (zRt 27)) := by rfl
set_option maxRecDepth 100000 in
theorem zcw_28 : lw_tbl[482]? = some (Jvm.Cond.code (zY 28) (zC 28) (zML 28) (zRt 28)) := by rfl
set_option maxRecDepth 100000 in
theorem zcw_29 : lw_tbl[116]? = some (Jvm.Cond.code (zY 29) (zC 29) (zML 29) (zRt 29)) := by rfl
set_option maxRecDepth 100000 in
theorem zcw_30 : lw_tbl[603]? = some (Jvm.Cond.code (zY 30) (zC 30) (zML 30) (zRt 30)) := by rfl
set_option maxRecDepth 100000 in
theorem zcw_31 : lw_tbl[632]? = some (Jvm.Cond.code (zY 31) (zC 31) (zML 31) (zRt 31)) := by rfl
set_option maxRecDepth 100000 in
theorem zcw_32 : lw_tbl[705]? = some (Jvm.Cond.code (zY 32) (zC 32) (zML 32) (zRt 32)) := by rfl
set_option maxRecDepth 100000 in
theorem zcw_33 : lw_tbl[737]? = some (Jvm.Cond.code (zY 33) (zC 33) (zML 33) (zRt 33)) := by rfl
set_option maxRecDepth 100000 in
theorem zcw_34 : lw_tbl[743]? = some (Jvm.Cond.code (zY 34) (zC 34) (zML 34) (zRt 34)) := by rfl
set_option maxRecDepth 100000 in
theorem zcw_35 : lw_tbl[749]? = some (Jvm.Cond.code (zY 35) (zC 35) (zML 35) (zRt 35)) := by rfl
set_option maxRecDepth 100000 in
theorem zcw_36 : lw_tbl[758]? = some (Jvm.Cond.code (zY 36) (zC 36) (zML 36) (zRt 36)) := by rfl
set_option maxRecDepth 100000 in
theorem zcw_37 : lw_tbl[763]? = some (Jvm.Cond.code (zY 37) (zC 37) (zML 37) (zRt 37)) := by rfl
set_option maxRecDepth 100000 in
theorem zcw_38 : lw_tbl[237]? = some (Jvm.Cond.code (zY 38) (zC 38) (zML 38) (zRt 38)) := by rfl
set_option maxRecDepth 100000 in
theorem zcw_39 : lw_tbl[385]? = some (Jvm.Cond.code (zY 39) (zC 39) (zML 39) (zRt 39)) := by rfl
set_option maxRecDepth 100000 in
theorem zcw_40 : lw_tbl[911]? = some (Jvm.Cond.code (zY 40) (zC 40) (zML 40) (zRt 40)) := by rfl
set_option maxRecDepth 100000 in
theorem zcw_41 : lw_tbl[855]? = some (Jvm.Cond.code (zY 41) (zC 41) (zML 41) (zRt 41)) := by rfl
set_option maxRecDepth 100000 in
theorem zcw_42 : lw_tbl[929]? = some (Jvm.Cond.code (zY 42) (zC 42) (zML 42) (zRt 42)) := by rfl
set_option maxRecDepth 100000 in
theorem zcw_43 : lw_tbl[324]? = some (Jvm.Cond.code (zY 43) (zC 43) (zML 43) (zRt 43)) := by rfl
set_option maxRecDepth 100000 in
theorem zcw_44 : lw_tbl[813]? = some (Jvm.Cond.code (zY 44) (zC 44) (zML 44) (zRt 44)) := by rfl
set_option maxRecDepth 100000 in
theorem zcw_45 : lw_tbl[338]? = some (Jvm.Cond.code (zY 45) (zC 45) (zML 45) (zRt 45)) := by rfl
set_option maxRecDepth 100000 in
theorem zcw_46 : lw_tbl[356]? = some (Jvm.Cond.code (zY 46) (zC 46) (zML 46) (zRt 46)) := by rfl
set_option maxRecDepth 100000 in
theorem zcw_47 : lw_tbl[381]? = some (Jvm.Cond.code (zY 47) (zC 47) (zML 47) (zRt 47)) := by rfl
set_option maxRecDepth 100000 in
theorem zcw_48 : lw_tbl[394]? = some (Jvm.Cond.code (zY 48) (zC 48) (zML 48) (zRt 48)) := by rfl
set_option maxRecDepth 100000 in
theorem zcw_49 : lw_tbl[402]? = some (Jvm.Cond.code (zY 49) (zC 49) (zML 49) (zRt 49)) := by rfl
set_option maxRecDepth 100000 in
theorem zcw_50 : lw_tbl[407]? = some (Jvm.Cond.code (zY 50) (zC 50) (zML 50) (zRt 50)) := by rfl
set_option maxRecDepth 100000 in
theorem zcw_51 : lw_tbl[415]? = some (Jvm.Cond.code (zY 51) (zC 51) (zML 51) (zRt 51)) := by rfl
set_option maxRecDepth 100000 in
theorem zcw_52 : lw_tbl[419]? = some (Jvm.Cond.code (zY 52) (zC 52) (zML 52) (zRt 52)) := by rfl
set_option maxRecDepth 100000 in
theorem zcw_53 : lw_tbl[448]? = some (Jvm.Cond.code (zY 53) (zC 53) (zML 53) (zRt 53)) := by rfl
set_option maxRecDepth 100000 in
theorem zcw_54 : lw_tbl[432]? = some (Jvm.Cond.code (zY 54) (zC 54) (zML 54) (zRt 54)) := by rfl
set_option maxRecDepth 100000 in
theorem zcw_55 : lw_tbl[427]? = some (Jvm.Cond.code (zY 55) (zC 55) (zML 55) (zRt 55)) := by rfl
set_option maxRecDepth 100000 in
theorem zcw_56 : lw_tbl[440]? = some (Jvm.Cond.code (zY 56) (zC 56) (zML 56) (zRt 56)) := by rfl
set_option maxRecDepth 100000 in
theorem zcw_57 : lw_tbl[456]? = some (Jvm.Cond.code (zY 57) (zC 57) (zML 57) (zRt 57)) := by rfl
set_option maxRecDepth 100000 in
theorem zcw_58 : lw_tbl[1014]? = some (Jvm.Cond.code (zY 58) (zC 58) (zML 58) (zRt 58)) := by rfl
set_option maxRecDepth 100000 in
theorem zcw_59 : lw_tbl[122]? = some (Jvm.Cond.code (zY 59) (zC 59) (zML 59) (zRt 59)) := by rfl
set_option maxRecDepth 100000 in
theorem zcw_60 : lw_tbl[567]? = some (Jvm.Cond.code (zY 60) (zC 60) (zML 60) (zRt 60)) := by rfl
set_option maxRecDepth 100000 in
theorem zcw_61 : lw_tbl[607]? = some (Jvm.Cond.code (zY 61) (zC 61) (zML 61) (zRt 61)) := by rfl
set_option maxRecDepth 100000 in
theorem zcw_62 : lw_tbl[615]? = some (Jvm.Cond.code (zY 62) (zC 62) (zML 62) (zRt 62)) := by rfl
set_option maxRecDepth 100000 in
theorem zcw_63 : lw_tbl[618]? = some (Jvm.Cond.code (zY 63) (zC 63) (zML 63) (zRt 63)) := by rfl
set_option maxRecDepth 100000 in
theorem zcw_64 : lw_tbl[621]? = some (Jvm.Cond.code (zY 64) (zC 64) (zML 64) (zRt 64)) := by rfl
set_option maxRecDepth 100000 in
theorem zcw_65 : lw_tbl[624]? = some (Jvm.Cond.code (zY 65) (zC 65) (zML 65) (zRt 65)) := by rfl
set_option maxRecDepth 100000 in
theorem zcw_66 : lw_tbl[611]? = some (Jvm.Cond.code (zY 66) (zC 66) (zML 66) (zRt 66)) := by rfl
set_option maxRecDepth 100000 in
theorem zcw_67 : lw_tbl[697]? = some (Jvm.Cond.code (zY 67) (zC 67) (zML 67) (zRt 67)) := by rfl
set_option maxRecDepth 100000 in
theorem zcw_68 : lw_tbl[729]? = some (Jvm.Cond.code (zY 68) (zC 68) (zML 68) (zRt 68)) := by rfl
set_option maxRecDepth 100000 in
theorem zcw_69 : lw_tbl[701]? = some (Jvm.Cond.code (zY 69) (zC 69) (zML 69) (zRt 69)) := by rfl
set_option maxRecDepth 100000 in
theorem zcw_70 : lw_tbl[645]? = some (Jvm.Cond.code (zY 70) (zC 70) (zML 70) (zRt 70)) := by rfl
set_option maxRecDepth 100000 in
theorem zcw_71 : lw_tbl[720]? = some (Jvm.Cond.code (zY 71) (zC 71) (zML 71) (zRt 71)) := by rfl
set_option maxRecDepth 100000 in
theorem zcw_72 : lw_tbl[641]? = some (Jvm.Cond.code (zY 72) (zC 72) (zML 72) (zRt 72)) := by rfl
set_option maxRecDepth 100000 in
theorem zcw_73 : lw_tbl[637]? = some (Jvm.Cond.code (zY 73) (zC 73) (zML 73) (zRt 73)) := by rfl
set_option maxRecDepth 100000 in
theorem zcw_74 : lw_tbl[716]? = some (Jvm.Cond.code (zY 74) (zC 74) (zML 74) (zRt 74)) := by rfl
set_option maxRecDepth 100000 in
theorem zcw_75 : lw_tbl[733]? = some (Jvm.Cond.code (zY 75) (zC 75) (zML 75) (zRt 75)) := by rfl
set_option maxRecDepth 100000 in
theorem zcw_76 : lw_tbl[774]? = some (Jvm.Cond.code (zY 76) (zC 76) (zML 76) (zRt 76)) := by rfl
set_option maxRecDepth 100000 in
theorem zcw_77 : lw_tbl[108]? = some (Jvm.Cond.code (zY 77) (zC 77) (zML 77) (zRt 77)) := by rfl
set_option maxRecDepth 100000 in
theorem zcw_78 : lw_tbl[495]? = some (Jvm.Cond.code (zY 78) (zC 78) (zML 78) (zRt 78)) := by rfl
set_option maxRecDepth 100000 in
theorem zcw_79 : lw_tbl[575]? = some (Jvm.Cond.code (zY 79) (zC 79) (zML 79) (zRt 79)) := by rfl
set_option maxRecDepth 100000 in
theorem zcw_80 : lw_tbl[599]? = some (Jvm.Cond.code (zY 80) (zC 80) (zML 80) (zRt 80)) := by rfl
set_option maxRecDepth 100000 in
theorem zcw_81 : lw_tbl[312]? = some (Jvm.Cond.code (zY 81) (zC 81) (zML 81) (zRt 81)) := by rfl
set_option maxRecDepth 100000 in
theorem zcw_82 : lw_tbl[316]? = some (Jvm.Cond.code (zY 82) (zC 82) (zML 82) (zRt 82)) := by rfl
set_option maxRecDepth 100000 in
theorem zcw_83 : lw_tbl[820]? = some (Jvm.Cond.code (zY 83) (zC 83) (zML 83) (zRt 83)) := by rfl
set_option maxRecDepth 100000 in
theorem zcw_84 : lw_tbl[828]? = some (Jvm.Cond.code (zY 84) (zC 84) (zML 84) (zRt 84)) := by rfl
set_option maxRecDepth 100000 in
theorem zcw_85 : lw_tbl[841]? = some (Jvm.Cond.code (zY 85) (zC 85) (zML 85) (zRt 85)) := by rfl
set_option maxRecDepth 100000 in
theorem zcw_86 : lw_tbl[862]? = some (Jvm.Cond.code (zY 86) (zC 86) (zML 86) (zRt 86)) := by rfl
set_option maxRecDepth 100000 in
theorem zcw_87 : lw_tbl[872]? = some (Jvm.Cond.code (zY 87) (zC 87) (zML 87) (zRt 87)) := by rfl
set_option maxRecDepth 100000 in
theorem zcw_88 : lw_tbl[901]? = some (Jvm.Cond.code (zY 88) (zC 88) (zML 88) (zRt 88)) := by rfl
set_option maxRecDepth 100000 in
theorem zcw_89 : lw_tbl[918]? = some (Jvm.Cond.code (zY 89) (zC 89) (zML 89) (zRt 89)) := by rfl
set_option maxRecDepth 100000 in
theorem zcw_90 : lw_tbl[936]? = some (Jvm.Cond.code (zY 90) (zC 90) (zML 90) (zRt 90)) := by rfl
set_option maxRecDepth 100000 in
theorem zcw_91 : lw_tbl[943]? = some (Jvm.Cond.code (zY 91) (zC 91) (zML 91) (zRt 91)) := by rfl
set_option maxRecDepth 100000 in
theorem zcw_92 : lw_tbl[952]? = some (Jvm.Cond.code (zY 92) (zC 92) (zML 92) (zRt 92)) := by rfl
set_option maxRecDepth 100000 in
theorem zcw_93 : lw_tbl[963]? = some (Jvm.Cond.code (zY 93) (zC 93) (zML 93) (zRt 93)) := by rfl
set_option maxRecDepth 100000 in
theorem zcw_94 : lw_tbl[972]? = some (Jvm.Cond.code (zY 94) (zC 94) (zML 94) (zRt 94)) := by rfl
set_option maxRecDepth 100000 in
theorem zcw_95 : lw_tbl[320]? = some (Jvm.Cond.code (zY 95) (zC 95) (zML 95) (zRt 95)) := by rfl
set_option maxRecDepth 100000 in
theorem zcw_96 : lw_tbl[981]? = some (Jvm.Cond.code (zY 96) (zC 96) (zML 96) (zRt 96)) := by rfl
set_option maxRecDepth 100000 in
theorem zcw_97 : lw_tbl[423]? = some (Jvm.Cond.code (zY 97) (zC 97) (zML 97) (zRt 97)) := by rfl
set_option maxRecDepth 100000 in
theorem zcw_98 : lw_tbl[436]? = some (Jvm.Cond.code (zY 98) (zC 98) (zML 98) (zRt 98)) := by rfl
set_option maxRecDepth 100000 in
theorem zcw_99 : lw_tbl[988]? = some (Jvm.Cond.code (zY 99) (zC 99) (zML 99) (zRt 99)) := by rfl
set_option maxRecDepth 100000 in
theorem zcw_100 : lw_tbl[1002]? = some (Jvm.Cond.code (zY 100) (zC 100) (zML 100) (zRt 100)) := by rfl
set_option maxRecDepth 100000 in
theorem zcw_101 : lw_tbl[444]? = some (Jvm.Cond.code (zY 101) (zC 101) (zML 101) (zRt 101)) := by rfl
set_option maxRecDepth 100000 in
theorem zcw_102 : lw_tbl[1010]? = some (Jvm.Cond.code (zY 102) (zC 102) (zML 102) (zRt 102)) := by rfl
set_option maxRecDepth 100000 in
theorem zcw_103 : lw_tbl[452]? = some (Jvm.Cond.code (zY 103) (zC 103) (zML 103) (zRt 103)) := by rfl
set_option maxRecDepth 100000 in
theorem zcw_104 : lw_tbl[1021]? = some (Jvm.Cond.code (zY 104) (zC 104) (zML 104) (zRt 104)) := by rfl
set_option maxRecDepth 100000 in
theorem zcw_105 : lw_tbl[460]? = some (Jvm.Cond.code (zY 105) (zC 105) (zML 105) (zRt 105)) := by rfl
set_option maxRecDepth 100000 in
theorem zcw_106 : lw_tbl[487]? = some (Jvm.Cond.code (zY 106) (zC 106) (zML 106) (zRt 106)) := by rfl
set_option maxRecDepth 100000 in
theorem zcw_107 : lw_tbl[1028]? = some (Jvm.Cond.code (zY 107) (zC 107) (zML 107) (zRt 107)) := by rfl
set_option maxRecDepth 100000 in
theorem zcw_108 : lw_tbl[1035]? = some (Jvm.Cond.code (zY 108) (zC 108) (zML 108) (zRt 108)) := by rfl
set_option maxRecDepth 100000 in
theorem zcw_109 : lw_tbl[1076]? = some (Jvm.Cond.code (zY 109) (zC 109) (zML 109) (zRt 109)) := by rfl
set_option maxRecDepth 100000 in
theorem zcw_110 : lw_tbl[845]? = some (Jvm.Cond.code (zY 110) (zC 110) (zML 110) (zRt 110)) := by rfl
set_option maxRecDepth 100000 in
theorem zcw_111 : lw_tbl[832]? = some (Jvm.Cond.code (zY 111) (zC 111) (zML 111) (zRt 111)) := by rfl
set_option maxRecDepth 100000 in
theorem zcw_112 : lw_tbl[876]? = some (Jvm.Cond.code (zY 112) (zC 112) (zML 112) (zRt 112)) := by rfl
set_option maxRecDepth 100000 in
theorem zcw_113 : lw_tbl[922]? = some (Jvm.Cond.code (zY 113) (zC 113) (zML 113) (zRt 113)) := by rfl
set_option maxRecDepth 100000 in
theorem zcw_114 : lw_tbl[905]? = some (Jvm.Cond.code (zY 114) (zC 114) (zML 114) (zRt 114)) := by rfl
set_option maxRecDepth 100000 in
theorem zcw_115 : lw_tbl[1039]? = some (Jvm.Cond.code (zY 115) (zC 115) (zML 115) (zRt 115)) := by rfl
set_option maxRecDepth 100000 in
theorem zcw_116 : lw_tbl[352]? = some (Jvm.Cond.code (zY 116) (zC 116) (zML 116) (zRt 116)) := by rfl
set_option maxRecDepth 100000 in
theorem zcw_117 : lw_tbl[376]? = some (Jvm.Cond.code (zY 117) (zC 117) (zML 117) (zRt 117)) := by rfl
set_option maxRecDepth 100000 in
theorem zcw_118 : lw_tbl[799]? = some (Jvm.Cond.code (zY 118) (zC 118) (zML 118) (zRt 118)) := by rfl
set_option maxRecDepth 100000 in
theorem zcw_119 : lw_tbl[851]? = some (Jvm.Cond.code (zY 119) (zC 119) (zML 119) (zRt 119)) := by rfl
set_option maxRecDepth 100000 in
theorem zcw_120 : lw_tbl[464]? = some (Jvm.Cond.code (zY 120) (zC 120) (zML 120) (zRt 120)) := by rfl
set_option maxRecDepth 100000 in
theorem zcw_121 : lw_tbl[1048]? = some (Jvm.Cond.code (zY 121) (zC 121) (zML 121) (zRt 121)) := by rfl
set_option maxRecDepth 100000 in
theorem zcw_122 : lw_tbl[1060]? = some (Jvm.Cond.code (zY 122) (zC 122) (zML 122) (zRt 122)) := by rfl
set_option maxRecDepth 100000 in
theorem zcw_123 : lw_tbl[1044]? = some (Jvm.Cond.code (zY 123) (zC 123) (zML 123) (zRt 123)) := by rfl
set_option maxRecDepth 100000 in
theorem zcw_124 : lw_tbl[1081]? = some (Jvm.Cond.code (zY 124) (zC 124) (zML 124) (zRt 124)) := by rfl
set_option maxRecDepth 100000 in
theorem zcw_125 : lw_tbl[1207]? = some (Jvm.Cond.code (zY 125) (zC 125) (zML 125) (zRt 125)) := by rfl
set_option maxRecDepth 100000 in
theorem zcw_126 : lw_tbl[1222]? = some (Jvm.Cond.code (zY 126) (zC 126) (zML 126) (zRt 126)) := by rfl
set_option maxRecDepth 100000 in
theorem zcw_127 : lw_tbl[1215]? = some (Jvm.Cond.code (zY 127) (zC 127) (zML 127) (zRt 127)) := by rfl
set_option maxRecDepth 100000 in
theorem zcw_128 : lw_tbl[1086]? = some (Jvm.Cond.code (zY 128) (zC 128) (zML 128) (zRt 128)) := by rfl
set_option maxRecDepth 100000 in
theorem zcw_129 : lw_tbl[1090]? = some (Jvm.Cond.code (zY 129) (zC 129) (zML 129) (zRt 129)) := by rfl
set_option maxRecDepth 100000 in
theorem zcw_130 : lw_tbl[1094]? = some (Jvm.Cond.code (zY 130) (zC 130) (zML 130) (zRt 130)) := by rfl
set_option maxRecDepth 100000 in
theorem zcw_131 : lw_tbl[1102]? = some (Jvm.Cond.code (zY 131) (zC 131) (zML 131) (zRt 131)) := by rfl
set_option maxRecDepth 100000 in
theorem zcw_132 : lw_tbl[1098]? = some (Jvm.Cond.code (zY 132) (zC 132) (zML 132) (zRt 132)) := by rfl
set_option maxRecDepth 100000 in
theorem zcw_133 : lw_tbl[1387]? = some (Jvm.Cond.code (zY 133) (zC 133) (zML 133) (zRt 133)) := by rfl
set_option maxRecDepth 100000 in
theorem zcw_134 : lw_tbl[1321]? = some (Jvm.Cond.code (zY 134) (zC 134) (zML 134) (zRt 134)) := by rfl
set_option maxRecDepth 100000 in
theorem zcw_135 : lw_tbl[1349]? = some (Jvm.Cond.code (zY 135) (zC 135) (zML 135) (zRt 135)) := by rfl
set_option maxRecDepth 100000 in
theorem zcw_136 : lw_tbl[1353]? = some (Jvm.Cond.code (zY 136) (zC 136) (zML 136) (zRt 136)) := by rfl
set_option maxRecDepth 100000 in
theorem zcw_137 : lw_tbl[1211]? = some (Jvm.Cond.code (zY 137) (zC 137) (zML 137) (zRt 137)) := by rfl
set_option maxRecDepth 100000 in
theorem zcw_138 : lw_tbl[1219]? = some (Jvm.Cond.code (zY 138) (zC 138) (zML 138) (zRt 138)) := by rfl
set_option maxRecDepth 100000 in
theorem zcw_139 : lw_tbl[1234]? = some (Jvm.Cond.code (zY 139) (zC 139) (zML 139) (zRt 139)) := by rfl
set_option maxRecDepth 100000 in
theorem zcw_140 : lw_tbl[1237]? = some (Jvm.Cond.code (zY 140) (zC 140) (zML 140) (zRt 140)) := by rfl
set_option maxRecDepth 100000 in
theorem zcw_141 : lw_tbl[1240]? = some (Jvm.Cond.code (zY 141) (zC 141) (zML 141) (zRt 141)) := by rfl
set_option maxRecDepth 100000 in
theorem zcw_142 : lw_tbl[1230]? = some (Jvm.Cond.code (zY 142) (zC 142) (zML 142) (zRt 142)) := by rfl
set_option maxRecDepth 100000 in
theorem zcw_143 : lw_tbl[1257]? = some (Jvm.Cond.code (zY 143) (zC 143) (zML 143) (zRt 143)) := by rfl
set_option maxRecDepth 100000 in
theorem zcw_144 : lw_tbl[1263]? = some (Jvm.Cond.code (zY 144) (zC 144) (zML 144) (zRt 144)) := by rfl
set_option maxRecDepth 100000 in
theorem zcw_145 : lw_tbl[1253]? = some (Jvm.Cond.code (zY 145) (zC 145) (zML 145) (zRt 145)) := by rfl
set_option maxRecDepth 100000 in
theorem zcw_146 : lw_tbl[1249]? = some (Jvm.Cond.code (zY 146) (zC 146) (zML 146) (zRt 146)) := by rfl
set_option maxRecDepth 100000 in
theorem zcw_147 : lw_tbl[1273]? = some (Jvm.Cond.code (zY 147) (zC 147) (zML 147) (zRt 147)) := by rfl
set_option maxRecDepth 100000 in
theorem zcw_148 : lw_tbl[1277]? = some (Jvm.Cond.code (zY 148) (zC 148) (zML 148) (zRt 148)) := by rfl
set_option maxRecDepth 100000 in
theorem zcw_149 : lw_tbl[1267]? = some (Jvm.Cond.code (zY 149) (zC 149) (zML 149) (zRt 149)) := by rfl
set_option maxRecDepth 100000 in
theorem zcw_150 : lw_tbl[1244]? = some (Jvm.Cond.code (zY 150) (zC 150) (zML 150) (zRt 150)) := by rfl
set_option maxRecDepth 100000 in
theorem zcw_151 : lw_tbl[1281]? = some (Jvm.Cond.code (zY 151) (zC 151) (zML 151) (zRt 151)) := by rfl
set_option maxRecDepth 100000 in
theorem zcw_152 : lw_tbl[1288]? = some (Jvm.Cond.code (zY 152) (zC 152) (zML 152) (zRt 152)) := by rfl
set_option maxRecDepth 100000 in
theorem zcw_153 : lw_tbl[1297]? = some (Jvm.Cond.code (zY 153) (zC 153) (zML 153) (zRt 153)) := by rfl
set_option maxRecDepth 100000 in
theorem zcw_154 : lw_tbl[1293]? = some (Jvm.Cond.code (zY 154) (zC 154) (zML 154) (zRt 154)) := by rfl
set_option maxRecDepth 100000 in
theorem zcw_155 : lw_tbl[1226]? = some (Jvm.Cond.code (zY 155) (zC 155) (zML 155) (zRt 155)) := by rfl
set_option maxRecDepth 100000 in
theorem zcw_156 : lw_tbl[1301]? = some (Jvm.Cond.code (zY 156) (zC 156) (zML 156) (zRt 156)) := by rfl
set_option maxRecDepth 100000 in
theorem zcw_157 : lw_tbl[1305]? = some (Jvm.Cond.code (zY 157) (zC 157) (zML 157) (zRt 157)) := by rfl
set_option maxRecDepth 100000 in
theorem zcw_158 : lw_tbl[1375]? = some (Jvm.Cond.code (zY 158) (zC 158) (zML 158) (zRt 158)) := by rfl
set_option maxRecDepth 100000 in
theorem zcw_159 : lw_tbl[1368]? = some (Jvm.Cond.code (zY 159) (zC 159) (zML 159) (zRt 159)) := by rfl
set_option maxRecDepth 100000 in
theorem zcw_160 : lw_tbl[1379]? = some (Jvm.Cond.code (zY 160) (zC 160) (zML 160) (zRt 160)) := by rfl
set_option maxRecDepth 100000 in
theorem zcw_161 : lw_tbl[1372]? = some (Jvm.Cond.code (zY 161) (zC 161) (zML 161) (zRt 161)) := by rfl
set_option maxRecDepth 100000 in
theorem zcw_162 : lw_tbl[1365]? = some (Jvm.Cond.code (zY 162) (zC 162) (zML 162) (zRt 162)) := by rfl
set_option maxRecDepth 100000 in
theorem zcw_163 : lw_tbl[1383]? = some (Jvm.Cond.code (zY 163) (zC 163) (zML 163) (zRt 163)) := by rfl
set_option maxRecDepth 100000 in
theorem zcw_164 : lw_tbl[1361]? = some (Jvm.Cond.code (zY 164) (zC 164) (zML 164) (zRt 164)) := by rfl
set_option maxRecDepth 100000 in
theorem zcw_165 : lw_tbl[1357]? = some (Jvm.Cond.code (zY 165) (zC 165) (zML 165) (zRt 165)) := by rfl
set_option maxRecDepth 100000 in
theorem zcw_166 : lw_tbl[1439]? = some (Jvm.Cond.code (zY 166) (zC 166) (zML 166) (zRt 166)) := by rfl
set_option maxRecDepth 100000 in
theorem zcw_167 : lw_tbl[1451]? = some (Jvm.Cond.code (zY 167) (zC 167) (zML 167) (zRt 167)) := by rfl
set_option maxRecDepth 100000 in
theorem zcw_168 : lw_tbl[1447]? = some (Jvm.Cond.code (zY 168) (zC 168) (zML 168) (zRt 168)) := by rfl
set_option maxRecDepth 100000 in
theorem zcw_169 : lw_tbl[1329]? = some (Jvm.Cond.code (zY 169) (zC 169) (zML 169) (zRt 169)) := by rfl
set_option maxRecDepth 100000 in
theorem zcw_170 : lw_tbl[1317]? = some (Jvm.Cond.code (zY 170) (zC 170) (zML 170) (zRt 170)) := by rfl
set_option maxRecDepth 100000 in
theorem zcw_171 : lw_tbl[1337]? = some (Jvm.Cond.code (zY 171) (zC 171) (zML 171) (zRt 171)) := by rfl
set_option maxRecDepth 100000 in
theorem zcw_172 : lw_tbl[1345]? = some (Jvm.Cond.code (zY 172) (zC 172) (zML 172) (zRt 172)) := by rfl
set_option maxRecDepth 100000 in
theorem zcw_173 : lw_tbl[1309]? = some (Jvm.Cond.code (zY 173) (zC 173) (zML 173) (zRt 173)) := by rfl
set_option maxRecDepth 100000 in
theorem zcw_174 : lw_tbl[1313]? = some (Jvm.Cond.code (zY 174) (zC 174) (zML 174) (zRt 174)) := by rfl
set_option maxRecDepth 100000 in
theorem zcw_175 : lw_tbl[1325]? = some (Jvm.Cond.code (zY 175) (zC 175) (zML 175) (zRt 175)) := by rfl
set_option maxRecDepth 100000 in
theorem zcw_176 : lw_tbl[1333]? = some (Jvm.Cond.code (zY 176) (zC 176) (zML 176) (zRt 176)) := by rfl
set_option maxRecDepth 100000 in
theorem zcw_177 : lw_tbl[1341]? = some (Jvm.Cond.code (zY 177) (zC 177) (zML 177) (zRt 177)) := by rfl
set_option maxRecDepth 100000 in
theorem zcw_178 : lw_tbl[1395]? = some (Jvm.Cond.code (zY 178) (zC 178) (zML 178) (zRt 178)) := by rfl
set_option maxRecDepth 100000 in
theorem zcw_179 : lw_tbl[1399]? = some (Jvm.Cond.code (zY 179) (zC 179) (zML 179) (zRt 179)) := by rfl
set_option maxRecDepth 100000 in
theorem zcw_180 : lw_tbl[1391]? = some (Jvm.Cond.code (zY 180) (zC 180) (zML 180) (zRt 180)) := by rfl
set_option maxRecDepth 100000 in
theorem zcw_181 : lw_tbl[1407]? = some (Jvm.Cond.code (zY 181) (zC 181) (zML 181) (zRt 181)) := by rfl
set_option maxRecDepth 100000 in
theorem zcw_182 : lw_tbl[1403]? = some (Jvm.Cond.code (zY 182) (zC 182) (zML 182) (zRt 182)) := by rfl
set_option maxRecDepth 100000 in
theorem zcw_183 : lw_tbl[1411]? = some (Jvm.Cond.code (zY 183) (zC 183) (zML 183) (zRt 183)) := by rfl
set_option maxRecDepth 100000 in
theorem zcw_184 : lw_tbl[1415]? = some (Jvm.Cond.code (zY 184) (zC 184) (zML 184) (zRt 184)) := by rfl
set_option maxRecDepth 100000 in
theorem zcw_185 : lw_tbl[1419]? = some (Jvm.Cond.code (zY 185) (zC 185) (zML 185) (zRt 185)) := by rfl
set_option maxRecDepth 100000 in
theorem zcw_186 : lw_tbl[1423]? = some (Jvm.Cond.code (zY 186) (zC 186) (zML 186) (zRt 186)) := by rfl
set_option maxRecDepth 100000 in
theorem zcw_187 : lw_tbl[1427]? = some (Jvm.Cond.code (zY 187) (zC 187) (zML 187) (zRt 187)) := by rfl
set_option maxRecDepth 100000 in
theorem zcw_188 : lw_tbl[1431]? = some (Jvm.Cond.code (zY 188) (zC 188) (zML 188) (zRt 188)) := by rfl
set_option maxRecDepth 100000 in
theorem zcw_189 : lw_tbl[1435]? = some (Jvm.Cond.code (zY 189) (zC 189) (zML 189) (zRt 189)) := by rfl
set_option maxRecDepth 100000 in
theorem zcw_190 : lw_tbl[1443]? = some (Jvm.Cond.code (zY 190) (zC 190) (zML 190) (zRt 190)) := by rfl
set_option maxRecDepth 100000 in
theorem zcw_191 : lw_tbl[1459]? = some (Jvm.Cond.code (zY 191) (zC 191) (zML 191) (zRt 191)) := by rfl
set_option maxRecDepth 100000 in
theorem zcw_192 : lw_tbl[1455]? = some (Jvm.Cond.code (zY 192) (zC 192) (zML 192) (zRt 192)) := by rfl
set_option maxRecDepth 100000 in
theorem zcw_193 : lw_tbl[1463]? = some (Jvm.Cond.code (zY 193) (zC 193) (zML 193) (zRt 193)) := by rfl
set_option maxRecDepth 100000 in
theorem zcw_194 : lw_tbl[1467]? = some (Jvm.Cond.code (zY 194) (zC 194) (zML 194) (zRt 194)) := by rfl
set_option maxRecDepth 100000 in
theorem zcw_195 : lw_tbl[1471]? = some (Jvm.Cond.code (zY 195) (zC 195) (zML 195) (zRt 195)) := by rfl
set_option maxRecDepth 100000 in
theorem zcw_196 : lw_tbl[1479]? = some (Jvm.Cond.code (zY 196) (zC 196) (zML 196) (zRt 196)) := by rfl
set_option maxRecDepth 100000 in
theorem zcw_197 : lw_tbl[1483]? = some (Jvm.Cond.code (zY 197) (zC 197) (zML 197) (zRt 197)) := by rfl
set_option maxRecDepth 100000 in
theorem zcw_198 : lw_tbl[1475]? = some (Jvm.Cond.code (zY 198) (zC 198) (zML 198) (zRt 198)) := by rfl
set_option maxRecDepth 100000 in
theorem zcw_199 : lw_tbl[1487]? = some (Jvm.Cond.code (zY 199) (zC 199) (zML 199) (zRt 199)) := by rfl
set_option maxRecDepth 100000 in
theorem zcw_200 : lw_tbl[1491]? = some (Jvm.Cond.code (zY 200) (zC 200) (zML 200) (zRt 200)) := by rfl
set_option maxRecDepth 100000 in
theorem zcw_201 : lw_tbl[1499]? = some (Jvm.Cond.code (zY 201) (zC 201) (zML 201) (zRt 201)) := by rfl
set_option maxRecDepth 100000 in
theorem zcw_202 : lw_tbl[1495]? = some (Jvm.Cond.code (zY 202) (zC 202) (zML 202) (zRt 202)) := by rfl
set_option maxRecDepth 100000 in
theorem zcw_203 : lw_tbl[1503]? = some (Jvm.Cond.code (zY 203) (zC 203) (zML 203) (zRt 203)) := by rfl
set_option maxRecDepth 100000 in
theorem zcw_204 : lw_tbl[1507]? = some (Jvm.Cond.code (zY 204) (zC 204) (zML 204) (zRt 204)) := by rfl
set_option maxRecDepth 100000 in
theorem zcw_205 : lw_tbl[1519]? = some (Jvm.Cond.code (zY 205) (zC 205) (zML 205) (zRt 205)) := by rfl
set_option maxRecDepth 100000 in
theorem zcw_206 : lw_tbl[1515]? = some (Jvm.Cond.code (zY 206) (zC 206) (zML 206) (zRt 206)) := by rfl
set_option maxRecDepth 100000 in
theorem zcw_207 : lw_tbl[1511]? = some (Jvm.Cond.code (zY 207) (zC 207) (zML 207) (zRt 207)) := by rfl
set_option maxRecDepth 100000 in
theorem zcw_208 : lw_tbl[1523]? = some (Jvm.Cond.code (zY 208) (zC 208) (zML 208) (zRt 208)) := by rfl
set_option maxRecDepth 100000 in
theorem zcw_209 : lw_tbl[490]? = some (Jvm.Cond.codeWith (zY 209) (zC 209) (zML 209) (zRt 209) (zhn 209)) := by rfl
set_option maxRecDepth 100000 in
theorem zcw_210 : lw_tbl[570]? = some (Jvm.Cond.codeWith (zY 210) (zC 210) (zML 210) (zRt 210) (zhn 210)) := by rfl
set_option maxRecDepth 100000 in
theorem zcw_211 : lw_tbl[594]? = some (Jvm.Cond.codeWith (zY 211) (zC 211) (zML 211) (zRt 211) (zhn 211)) := by rfl
set_option maxRecDepth 100000 in
theorem zcw_212 : lw_tbl[816]? = some (Jvm.Cond.codeWith (zY 212) (zC 212) (zML 212) (zRt 212) (zhn 212)) := by rfl
set_option maxRecDepth 100000 in
theorem zcw_213 : lw_tbl[824]? = some (Jvm.Cond.codeWith (zY 213) (zC 213) (zML 213) (zRt 213) (zhn 213)) := by rfl
set_option maxRecDepth 100000 in
theorem zcw_214 : lw_tbl[837]? = some (Jvm.Cond.codeWith (zY 214) (zC 214) (zML 214) (zRt 214) (zhn 214)) := by rfl
set_option maxRecDepth 100000 in
theorem zcw_215 : lw_tbl[858]? = some (Jvm.Cond.codeWith (zY 215) (zC 215) (zML 215) (zRt 215) (zhn 215)) := by rfl
set_option maxRecDepth 100000 in
theorem zcw_216 : lw_tbl[867]? = some (Jvm.Cond.codeWith (zY 216) (zC 216) (zML 216) (zRt 216) (zhn 216)) := by rfl
set_option maxRecDepth 100000 in
theorem zcw_217 : lw_tbl[897]? = some (Jvm.Cond.codeWith (zY 217) (zC 217) (zML 217) (zRt 217) (zhn 217)) := by rfl
set_option maxRecDepth 100000 in
theorem zcw_218 : lw_tbl[914]? = some (Jvm.Cond.codeWith (zY 218) (zC 218) (zML 218) (zRt 218) (zhn 218)) := by rfl
set_option maxRecDepth 100000 in
theorem zcw_219 : lw_tbl[932]? = some (Jvm.Cond.codeWith (zY 219) (zC 219) (zML 219) (zRt 219) (zhn 219)) := by rfl
set_option maxRecDepth 100000 in
theorem zcw_220 : lw_tbl[939]? = some (Jvm.Cond.codeWith (zY 220) (zC 220) (zML 220) (zRt 220) (zhn 220)) := by rfl
set_option maxRecDepth 100000 in
theorem zcw_221 : lw_tbl[948]? = some (Jvm.Cond.codeWith (zY 221) (zC 221) (zML 221) (zRt 221) (zhn 221)) := by rfl
set_option maxRecDepth 100000 in
theorem zcw_222 : lw_tbl[959]? = some (Jvm.Cond.codeWith (zY 222) (zC 222) (zML 222) (zRt 222) (zhn 222)) := by rfl
set_option maxRecDepth 100000 in
theorem zcw_223 : lw_tbl[968]? = some (Jvm.Cond.codeWith (zY 223) (zC 223) (zML 223) (zRt 223) (zhn 223)) := by rfl
set_option maxRecDepth 100000 in
theorem zcw_224 : lw_tbl[977]? = some (Jvm.Cond.codeWith (zY 224) (zC 224) (zML 224) (zRt 224) (zhn 224)) := by rfl
set_option maxRecDepth 100000 in
theorem zcw_225 : lw_tbl[984]? = some (Jvm.Cond.codeWith (zY 225) (zC 225) (zML 225) (zRt 225) (zhn 225)) := by rfl
set_option maxRecDepth 100000 in
theorem zcw_226 : lw_tbl[998]? = some (Jvm.Cond.codeWith (zY 226) (zC 226) (zML 226) (zRt 226) (zhn 226)) := by rfl
set_option maxRecDepth 100000 in
theorem zcw_227 : lw_tbl[1006]? = some (Jvm.Cond.codeWith (zY 227) (zC 227) (zML 227) (zRt 227) (zhn 227)) := by rfl
set_option maxRecDepth 100000 in
theorem zcw_228 : lw_tbl[1017]? = some (Jvm.Cond.codeWith (zY 228) (zC 228) (zML 228) (zRt 228) (zhn 228)) := by rfl
set_option maxRecDepth 100000 in
theorem zcw_229 : lw_tbl[1024]? = some (Jvm.Cond.codeWith (zY 229) (zC 229) (zML 229) (zRt 229) (zhn 229)) := by rfl
set_option maxRecDepth 100000 in
theorem zcw_230 : lw_tbl[1031]? = some (Jvm.Cond.codeWith (zY 230) (zC 230) (zML 230) (zRt 230) (zhn 230)) := by rfl
set_option maxRecDepth 100000 in
theorem zcw_231 : lw_tbl[1072]? = some (Jvm.Cond.codeWith (zY 231) (zC 231) (zML 231) (zRt 231) (zhn 231)) := by rfl
set_option maxRecDepth 100000 in
theorem zcw_233 : lw_tbl[992]? = some (Jvm.Cond.code (zY 233) (zC 233) (zML 233) (zRt 233)) := by rfl
set_option maxRecDepth 100000 in
theorem zcw_234 : lw_tbl[327]? = some (Jvm.Cond.code (zY 234) (zC 234) (zML 234) (zRt 234)) := by rfl
/-- the word of a method -/
def zcw (y : Nat) : Jvm.Cond := match zhn y with
  | [] => .code (zY y) (zC y) (zML y) (zRt y)
  | _ => .codeWith (zY y) (zC y) (zML y) (zRt y) (zhn y)
theorem zcw_gd (y : Nat) : goodWord (zcw y) = true := by
  unfold zcw
  split
  · exact zgw_code
  · exact zgw_codeW
theorem zcw_in (y : Nat) (hy : y < 235) (hl : y ≠ 232) : zcw y ∈ zWd := by
  rcases Nat.lt_or_ge y 117 with h | h
  ·
    rcases Nat.lt_or_ge y 58 with h | h
    ·
      rcases Nat.lt_or_ge y 29 with h | h
      ·
        rcases Nat.lt_or_ge y 14 with h | h
        ·
          rcases Nat.lt_or_ge y 7 with h | h
          ·
            rcases Nat.lt_or_ge y 3 with h | h
            ·
              rcases Nat.lt_or_ge y 1 with h | h
              ·
                obtain rfl : y = 0 := by omega
                exact List.mem_filter.mpr ⟨List.mem_of_getElem? zcw_0, zcw_gd 0⟩
              ·
                rcases Nat.lt_or_ge y 2 with h | h
                ·
                  obtain rfl : y = 1 := by omega
                  exact List.mem_filter.mpr ⟨List.mem_of_getElem? zcw_1, zcw_gd 1⟩
                ·
                  obtain rfl : y = 2 := by omega
                  exact List.mem_filter.mpr ⟨List.mem_of_getElem? zcw_2, zcw_gd 2⟩
            ·
              rcases Nat.lt_or_ge y 5 with h | h
              ·
                rcases Nat.lt_or_ge y 4 with h | h
                ·
                  obtain rfl : y = 3 := by omega
                  exact List.mem_filter.mpr ⟨List.mem_of_getElem? zcw_3, zcw_gd 3⟩
                ·
                  obtain rfl : y = 4 := by omega
                  exact List.mem_filter.mpr ⟨List.mem_of_getElem? zcw_4, zcw_gd 4⟩
              ·
                rcases Nat.lt_or_ge y 6 with h | h
                ·
                  obtain rfl : y = 5 := by omega
                  exact List.mem_filter.mpr ⟨List.mem_of_getElem? zcw_5, zcw_gd 5⟩
                ·
                  obtain rfl : y = 6 := by omega
                  exact List.mem_filter.mpr ⟨List.mem_of_getElem? zcw_6, zcw_gd 6⟩
          ·
            rcases Nat.lt_or_ge y 10 with h | h
            ·
              rcases Nat.lt_or_ge y 8 with h | h
              ·
                obtain rfl : y = 7 := by omega
                exact List.mem_filter.mpr ⟨List.mem_of_getElem? zcw_7, zcw_gd 7⟩
              ·
                rcases Nat.lt_or_ge y 9 with h | h
                ·
                  obtain rfl : y = 8 := by omega
                  exact List.mem_filter.mpr ⟨List.mem_of_getElem? zcw_8, zcw_gd 8⟩
                ·
                  obtain rfl : y = 9 := by omega
                  exact List.mem_filter.mpr ⟨List.mem_of_getElem? zcw_9, zcw_gd 9⟩
            ·
              rcases Nat.lt_or_ge y 12 with h | h
              ·
                rcases Nat.lt_or_ge y 11 with h | h
                ·
                  obtain rfl : y = 10 := by omega
                  exact List.mem_filter.mpr ⟨List.mem_of_getElem? zcw_10, zcw_gd 10⟩
                ·
                  obtain rfl : y = 11 := by omega
                  exact List.mem_filter.mpr ⟨List.mem_of_getElem? zcw_11, zcw_gd 11⟩
              ·
                rcases Nat.lt_or_ge y 13 with h | h
                ·
                  obtain rfl : y = 12 := by omega
                  exact List.mem_filter.mpr ⟨List.mem_of_getElem? zcw_12, zcw_gd 12⟩
                ·
                  obtain rfl : y = 13 := by omega
                  exact List.mem_filter.mpr ⟨List.mem_of_getElem? zcw_13, zcw_gd 13⟩
        ·
          rcases Nat.lt_or_ge y 21 with h | h
          ·
            rcases Nat.lt_or_ge y 17 with h | h
            ·
              rcases Nat.lt_or_ge y 15 with h | h
              ·
                obtain rfl : y = 14 := by omega
                exact List.mem_filter.mpr ⟨List.mem_of_getElem? zcw_14, zcw_gd 14⟩
              ·
                rcases Nat.lt_or_ge y 16 with h | h
                ·
                  obtain rfl : y = 15 := by omega
                  exact List.mem_filter.mpr ⟨List.mem_of_getElem? zcw_15, zcw_gd 15⟩
                ·
                  obtain rfl : y = 16 := by omega
                  exact List.mem_filter.mpr ⟨List.mem_of_getElem? zcw_16, zcw_gd 16⟩
            ·
              rcases Nat.lt_or_ge y 19 with h | h
              ·
                rcases Nat.lt_or_ge y 18 with h | h
                ·
                  obtain rfl : y = 17 := by omega
                  exact List.mem_filter.mpr ⟨List.mem_of_getElem? zcw_17, zcw_gd 17⟩
                ·
                  obtain rfl : y = 18 := by omega
                  exact List.mem_filter.mpr ⟨List.mem_of_getElem? zcw_18, zcw_gd 18⟩
              ·
                rcases Nat.lt_or_ge y 20 with h | h
                ·
                  obtain rfl : y = 19 := by omega
                  exact List.mem_filter.mpr ⟨List.mem_of_getElem? zcw_19, zcw_gd 19⟩
                ·
                  obtain rfl : y = 20 := by omega
                  exact List.mem_filter.mpr ⟨List.mem_of_getElem? zcw_20, zcw_gd 20⟩
          ·
            rcases Nat.lt_or_ge y 25 with h | h
            ·
              rcases Nat.lt_or_ge y 23 with h | h
              ·
                rcases Nat.lt_or_ge y 22 with h | h
                ·
                  obtain rfl : y = 21 := by omega
                  exact List.mem_filter.mpr ⟨List.mem_of_getElem? zcw_21, zcw_gd 21⟩
                ·
                  obtain rfl : y = 22 := by omega
                  exact List.mem_filter.mpr ⟨List.mem_of_getElem? zcw_22, zcw_gd 22⟩
              ·
                rcases Nat.lt_or_ge y 24 with h | h
                ·
                  obtain rfl : y = 23 := by omega
                  exact List.mem_filter.mpr ⟨List.mem_of_getElem? zcw_23, zcw_gd 23⟩
                ·
                  obtain rfl : y = 24 := by omega
                  exact List.mem_filter.mpr ⟨List.mem_of_getElem? zcw_24, zcw_gd 24⟩
            ·
              rcases Nat.lt_or_ge y 27 with h | h
              ·
                rcases Nat.lt_or_ge y 26 with h | h
                ·
                  obtain rfl : y = 25 := by omega
                  exact List.mem_filter.mpr ⟨List.mem_of_getElem? zcw_25, zcw_gd 25⟩
                ·
                  obtain rfl : y = 26 := by omega
                  exact List.mem_filter.mpr ⟨List.mem_of_getElem? zcw_26, zcw_gd 26⟩
              ·
                rcases Nat.lt_or_ge y 28 with h | h
                ·
                  obtain rfl : y = 27 := by omega
                  exact List.mem_filter.mpr ⟨List.mem_of_getElem? zcw_27, zcw_gd 27⟩
                ·
                  obtain rfl : y = 28 := by omega
                  exact List.mem_filter.mpr ⟨List.mem_of_getElem? zcw_28, zcw_gd 28⟩
      ·
        rcases Nat.lt_or_ge y 43 with h | h
        ·
          rcases Nat.lt_or_ge y 36 with h | h
          ·
            rcases Nat.lt_or_ge y 32 with h | h
            ·
              rcases Nat.lt_or_ge y 30 with h | h
              ·
                obtain rfl : y = 29 := by omega
                exact List.mem_filter.mpr ⟨List.mem_of_getElem? zcw_29, zcw_gd 29⟩
              ·
                rcases Nat.lt_or_ge y 31 with h | h
                ·
                  obtain rfl : y = 30 := by omega
                  exact List.mem_filter.mpr ⟨List.mem_of_getElem? zcw_30, zcw_gd 30⟩
                ·
                  obtain rfl : y = 31 := by omega
                  exact List.mem_filter.mpr ⟨List.mem_of_getElem? zcw_31, zcw_gd 31⟩
            ·
              rcases Nat.lt_or_ge y 34 with h | h
              ·
                rcases Nat.lt_or_ge y 33 with h | h
                ·
                  obtain rfl : y = 32 := by omega
                  exact List.mem_filter.mpr ⟨List.mem_of_getElem? zcw_32, zcw_gd 32⟩
                ·
                  obtain rfl : y = 33 := by omega
                  exact List.mem_filter.mpr ⟨List.mem_of_getElem? zcw_33, zcw_gd 33⟩
              ·
                rcases Nat.lt_or_ge y 35 with h | h
                ·
                  obtain rfl : y = 34 := by omega
                  exact List.mem_filter.mpr ⟨List.mem_of_getElem? zcw_34, zcw_gd 34⟩
                ·
                  obtain rfl : y = 35 := by omega
                  exact List.mem_filter.mpr ⟨List.mem_of_getElem? zcw_35, zcw_gd 35⟩
          ·
            rcases Nat.lt_or_ge y 39 with h | h
            ·
              rcases Nat.lt_or_ge y 37 with h | h
              ·
                obtain rfl : y = 36 := by omega
                exact List.mem_filter.mpr ⟨List.mem_of_getElem? zcw_36, zcw_gd 36⟩
              ·
                rcases Nat.lt_or_ge y 38 with h | h
                ·
                  obtain rfl : y = 37 := by omega
                  exact List.mem_filter.mpr ⟨List.mem_of_getElem? zcw_37, zcw_gd 37⟩
                ·
                  obtain rfl : y = 38 := by omega
                  exact List.mem_filter.mpr ⟨List.mem_of_getElem? zcw_38, zcw_gd 38⟩
            ·
              rcases Nat.lt_or_ge y 41 with h | h
              ·
                rcases Nat.lt_or_ge y 40 with h | h
                ·
                  obtain rfl : y = 39 := by omega
                  exact List.mem_filter.mpr ⟨List.mem_of_getElem? zcw_39, zcw_gd 39⟩
                ·
                  obtain rfl : y = 40 := by omega
                  exact List.mem_filter.mpr ⟨List.mem_of_getElem? zcw_40, zcw_gd 40⟩
              ·
                rcases Nat.lt_or_ge y 42 with h | h
                ·
                  obtain rfl : y = 41 := by omega
                  exact List.mem_filter.mpr ⟨List.mem_of_getElem? zcw_41, zcw_gd 41⟩
                ·
                  obtain rfl : y = 42 := by omega
                  exact List.mem_filter.mpr ⟨List.mem_of_getElem? zcw_42, zcw_gd 42⟩
        ·
          rcases Nat.lt_or_ge y 50 with h | h
          ·
            rcases Nat.lt_or_ge y 46 with h | h
            ·
              rcases Nat.lt_or_ge y 44 with h | h
              ·
                obtain rfl : y = 43 := by omega
                exact List.mem_filter.mpr ⟨List.mem_of_getElem? zcw_43, zcw_gd 43⟩
              ·
                rcases Nat.lt_or_ge y 45 with h | h
                ·
                  obtain rfl : y = 44 := by omega
                  exact List.mem_filter.mpr ⟨List.mem_of_getElem? zcw_44, zcw_gd 44⟩
                ·
                  obtain rfl : y = 45 := by omega
                  exact List.mem_filter.mpr ⟨List.mem_of_getElem? zcw_45, zcw_gd 45⟩
            ·
              rcases Nat.lt_or_ge y 48 with h | h
              ·
                rcases Nat.lt_or_ge y 47 with h | h
                ·
                  obtain rfl : y = 46 := by omega
                  exact List.mem_filter.mpr ⟨List.mem_of_getElem? zcw_46, zcw_gd 46⟩
                ·
                  obtain rfl : y = 47 := by omega
                  exact List.mem_filter.mpr ⟨List.mem_of_getElem? zcw_47, zcw_gd 47⟩
              ·
                rcases Nat.lt_or_ge y 49 with h | h
                ·
                  obtain rfl : y = 48 := by omega
                  exact List.mem_filter.mpr ⟨List.mem_of_getElem? zcw_48, zcw_gd 48⟩
                ·
                  obtain rfl : y = 49 := by omega
                  exact List.mem_filter.mpr ⟨List.mem_of_getElem? zcw_49, zcw_gd 49⟩
          ·
            rcases Nat.lt_or_ge y 54 with h | h
            ·
              rcases Nat.lt_or_ge y 52 with h | h
              ·
                rcases Nat.lt_or_ge y 51 with h | h
                ·
                  obtain rfl : y = 50 := by omega
                  exact List.mem_filter.mpr ⟨List.mem_of_getElem? zcw_50, zcw_gd 50⟩
                ·
                  obtain rfl : y = 51 := by omega
                  exact List.mem_filter.mpr ⟨List.mem_of_getElem? zcw_51, zcw_gd 51⟩
              ·
                rcases Nat.lt_or_ge y 53 with h | h
                ·
                  obtain rfl : y = 52 := by omega
                  exact List.mem_filter.mpr ⟨List.mem_of_getElem? zcw_52, zcw_gd 52⟩
                ·
                  obtain rfl : y = 53 := by omega
                  exact List.mem_filter.mpr ⟨List.mem_of_getElem? zcw_53, zcw_gd 53⟩
            ·
              rcases Nat.lt_or_ge y 56 with h | h
              ·
                rcases Nat.lt_or_ge y 55 with h | h
                ·
                  obtain rfl : y = 54 := by omega
                  exact List.mem_filter.mpr ⟨List.mem_of_getElem? zcw_54, zcw_gd 54⟩
                ·
                  obtain rfl : y = 55 := by omega
                  exact List.mem_filter.mpr ⟨List.mem_of_getElem? zcw_55, zcw_gd 55⟩
              ·
                rcases Nat.lt_or_ge y 57 with h | h
                ·
                  obtain rfl : y = 56 := by omega
                  exact List.mem_filter.mpr ⟨List.mem_of_getElem? zcw_56, zcw_gd 56⟩
                ·
                  obtain rfl : y = 57 := by omega
                  exact List.mem_filter.mpr ⟨List.mem_of_getElem? zcw_57, zcw_gd 57⟩
    ·
      rcases Nat.lt_or_ge y 87 with h | h
      ·
        rcases Nat.lt_or_ge y 72 with h | h
        ·
          rcases Nat.lt_or_ge y 65 with h | h
          ·
            rcases Nat.lt_or_ge y 61 with h | h
            ·
              rcases Nat.lt_or_ge y 59 with h | h
              ·
                obtain rfl : y = 58 := by omega
                exact List.mem_filter.mpr ⟨List.mem_of_getElem? zcw_58, zcw_gd 58⟩
              ·
                rcases Nat.lt_or_ge y 60 with h | h
                ·
                  obtain rfl : y = 59 := by omega
                  exact List.mem_filter.mpr ⟨List.mem_of_getElem? zcw_59, zcw_gd 59⟩
                ·
                  obtain rfl : y = 60 := by omega
                  exact List.mem_filter.mpr ⟨List.mem_of_getElem? zcw_60, zcw_gd 60⟩
            ·
              rcases Nat.lt_or_ge y 63 with h | h
              ·
                rcases Nat.lt_or_ge y 62 with h | h
                ·
                  obtain rfl : y = 61 := by omega
                  exact List.mem_filter.mpr ⟨List.mem_of_getElem? zcw_61, zcw_gd 61⟩
                ·
                  obtain rfl : y = 62 := by omega
                  exact List.mem_filter.mpr ⟨List.mem_of_getElem? zcw_62, zcw_gd 62⟩
              ·
                rcases Nat.lt_or_ge y 64 with h | h
                ·
                  obtain rfl : y = 63 := by omega
                  exact List.mem_filter.mpr ⟨List.mem_of_getElem? zcw_63, zcw_gd 63⟩
                ·
                  obtain rfl : y = 64 := by omega
                  exact List.mem_filter.mpr ⟨List.mem_of_getElem? zcw_64, zcw_gd 64⟩
          ·
            rcases Nat.lt_or_ge y 68 with h | h
            ·
              rcases Nat.lt_or_ge y 66 with h | h
              ·
                obtain rfl : y = 65 := by omega
                exact List.mem_filter.mpr ⟨List.mem_of_getElem? zcw_65, zcw_gd 65⟩
              ·
                rcases Nat.lt_or_ge y 67 with h | h
                ·
                  obtain rfl : y = 66 := by omega
                  exact List.mem_filter.mpr ⟨List.mem_of_getElem? zcw_66, zcw_gd 66⟩
                ·
                  obtain rfl : y = 67 := by omega
                  exact List.mem_filter.mpr ⟨List.mem_of_getElem? zcw_67, zcw_gd 67⟩
            ·
              rcases Nat.lt_or_ge y 70 with h | h
              ·
                rcases Nat.lt_or_ge y 69 with h | h
                ·
                  obtain rfl : y = 68 := by omega
                  exact List.mem_filter.mpr ⟨List.mem_of_getElem? zcw_68, zcw_gd 68⟩
                ·
                  obtain rfl : y = 69 := by omega
                  exact List.mem_filter.mpr ⟨List.mem_of_getElem? zcw_69, zcw_gd 69⟩
              ·
                rcases Nat.lt_or_ge y 71 with h | h
                ·
                  obtain rfl : y = 70 := by omega
                  exact List.mem_filter.mpr ⟨List.mem_of_getElem? zcw_70, zcw_gd 70⟩
                ·
                  obtain rfl : y = 71 := by omega
                  exact List.mem_filter.mpr ⟨List.mem_of_getElem? zcw_71, zcw_gd 71⟩
        ·
          rcases Nat.lt_or_ge y 79 with h | h
          ·
            rcases Nat.lt_or_ge y 75 with h | h
            ·
              rcases Nat.lt_or_ge y 73 with h | h
              ·
                obtain rfl : y = 72 := by omega
                exact List.mem_filter.mpr ⟨List.mem_of_getElem? zcw_72, zcw_gd 72⟩
              ·
                rcases Nat.lt_or_ge y 74 with h | h
                ·
                  obtain rfl : y = 73 := by omega
                  exact List.mem_filter.mpr ⟨List.mem_of_getElem? zcw_73, zcw_gd 73⟩
                ·
                  obtain rfl : y = 74 := by omega
                  exact List.mem_filter.mpr ⟨List.mem_of_getElem? zcw_74, zcw_gd 74⟩
            ·
              rcases Nat.lt_or_ge y 77 with h | h
              ·
                rcases Nat.lt_or_ge y 76 with h | h
                ·
                  obtain rfl : y = 75 := by omega
                  exact List.mem_filter.mpr ⟨List.mem_of_getElem? zcw_75, zcw_gd 75⟩
                ·
                  obtain rfl : y = 76 := by omega
                  exact List.mem_filter.mpr ⟨List.mem_of_getElem? zcw_76, zcw_gd 76⟩
              ·
                rcases Nat.lt_or_ge y 78 with h | h
                ·
                  obtain rfl : y = 77 := by omega
                  exact List.mem_filter.mpr ⟨List.mem_of_getElem? zcw_77, zcw_gd 77⟩
                ·
                  obtain rfl : y = 78 := by omega
                  exact List.mem_filter.mpr ⟨List.mem_of_getElem? zcw_78, zcw_gd 78⟩
          ·
            rcases Nat.lt_or_ge y 83 with h | h
            ·
              rcases Nat.lt_or_ge y 81 with h | h
              ·
                rcases Nat.lt_or_ge y 80 with h | h
                ·
                  obtain rfl : y = 79 := by omega
                  exact List.mem_filter.mpr ⟨List.mem_of_getElem? zcw_79, zcw_gd 79⟩
                ·
                  obtain rfl : y = 80 := by omega
                  exact List.mem_filter.mpr ⟨List.mem_of_getElem? zcw_80, zcw_gd 80⟩
              ·
                rcases Nat.lt_or_ge y 82 with h | h
                ·
                  obtain rfl : y = 81 := by omega
                  exact List.mem_filter.mpr ⟨List.mem_of_getElem? zcw_81, zcw_gd 81⟩
                ·
                  obtain rfl : y = 82 := by omega
                  exact List.mem_filter.mpr ⟨List.mem_of_getElem? zcw_82, zcw_gd 82⟩
            ·
              rcases Nat.lt_or_ge y 85 with h | h
              ·
                rcases Nat.lt_or_ge y 84 with h | h
                ·
                  obtain rfl : y = 83 := by omega
                  exact List.mem_filter.mpr ⟨List.mem_of_getElem? zcw_83, zcw_gd 83⟩
                ·
                  obtain rfl : y = 84 := by omega
                  exact List.mem_filter.mpr ⟨List.mem_of_getElem? zcw_84, zcw_gd 84⟩
              ·
                rcases Nat.lt_or_ge y 86 with h | h
                ·
                  obtain rfl : y = 85 := by omega
                  exact List.mem_filter.mpr ⟨List.mem_of_getElem? zcw_85, zcw_gd 85⟩
                ·
                  obtain rfl : y = 86 := by omega
                  exact List.mem_filter.mpr ⟨List.mem_of_getElem? zcw_86, zcw_gd 86⟩
      ·
        rcases Nat.lt_or_ge y 102 with h | h
        ·
          rcases Nat.lt_or_ge y 94 with h | h
          ·
            rcases Nat.lt_or_ge y 90 with h | h
            ·
              rcases Nat.lt_or_ge y 88 with h | h
              ·
                obtain rfl : y = 87 := by omega
                exact List.mem_filter.mpr ⟨List.mem_of_getElem? zcw_87, zcw_gd 87⟩
              ·
                rcases Nat.lt_or_ge y 89 with h | h
                ·
                  obtain rfl : y = 88 := by omega
                  exact List.mem_filter.mpr ⟨List.mem_of_getElem? zcw_88, zcw_gd 88⟩
                ·
                  obtain rfl : y = 89 := by omega
                  exact List.mem_filter.mpr ⟨List.mem_of_getElem? zcw_89, zcw_gd 89⟩
            ·
              rcases Nat.lt_or_ge y 92 with h | h
              ·
                rcases Nat.lt_or_ge y 91 with h | h
                ·
                  obtain rfl : y = 90 := by omega
                  exact List.mem_filter.mpr ⟨List.mem_of_getElem? zcw_90, zcw_gd 90⟩
                ·
                  obtain rfl : y = 91 := by omega
                  exact List.mem_filter.mpr ⟨List.mem_of_getElem? zcw_91, zcw_gd 91⟩
              ·
                rcases Nat.lt_or_ge y 93 with h | h
                ·
                  obtain rfl : y = 92 := by omega
                  exact List.mem_filter.mpr ⟨List.mem_of_getElem? zcw_92, zcw_gd 92⟩
                ·
                  obtain rfl : y = 93 := by omega
                  exact List.mem_filter.mpr ⟨List.mem_of_getElem? zcw_93, zcw_gd 93⟩
          ·
            rcases Nat.lt_or_ge y 98 with h | h
            ·
              rcases Nat.lt_or_ge y 96 with h | h
              ·
                rcases Nat.lt_or_ge y 95 with h | h
                ·
                  obtain rfl : y = 94 := by omega
                  exact List.mem_filter.mpr ⟨List.mem_of_getElem? zcw_94, zcw_gd 94⟩
                ·
                  obtain rfl : y = 95 := by omega
                  exact List.mem_filter.mpr ⟨List.mem_of_getElem? zcw_95, zcw_gd 95⟩
              ·
                rcases Nat.lt_or_ge y 97 with h | h
                ·
                  obtain rfl : y = 96 := by omega
                  exact List.mem_filter.mpr ⟨List.mem_of_getElem? zcw_96, zcw_gd 96⟩
                ·
                  obtain rfl : y = 97 := by omega
                  exact List.mem_filter.mpr ⟨List.mem_of_getElem? zcw_97, zcw_gd 97⟩
            ·
              rcases Nat.lt_or_ge y 100 with h | h
              ·
                rcases Nat.lt_or_ge y 99 with h | h
                ·
                  obtain rfl : y = 98 := by omega
                  exact List.mem_filter.mpr ⟨List.mem_of_getElem? zcw_98, zcw_gd 98⟩
                ·
                  obtain rfl : y = 99 := by omega
                  exact List.mem_filter.mpr ⟨List.mem_of_getElem? zcw_99, zcw_gd 99⟩
              ·
                rcases Nat.lt_or_ge y 101 with h | h
                ·
                  obtain rfl : y = 100 := by omega
                  exact List.mem_filter.mpr ⟨List.mem_of_getElem? zcw_100, zcw_gd 100⟩
                ·
                  obtain rfl : y = 101 := by omega
                  exact List.mem_filter.mpr ⟨List.mem_of_getElem? zcw_101, zcw_gd 101⟩
        ·
          rcases Nat.lt_or_ge y 109 with h | h
          ·
            rcases Nat.lt_or_ge y 105 with h | h
            ·
              rcases Nat.lt_or_ge y 103 with h | h
              ·
                obtain rfl : y = 102 := by omega
                exact List.mem_filter.mpr ⟨List.mem_of_getElem? zcw_102, zcw_gd 102⟩
              ·
                rcases Nat.lt_or_ge y 104 with h | h
                ·
                  obtain rfl : y = 103 := by omega
                  exact List.mem_filter.mpr ⟨List.mem_of_getElem? zcw_103, zcw_gd 103⟩
                ·
                  obtain rfl : y = 104 := by omega
                  exact List.mem_filter.mpr ⟨List.mem_of_getElem? zcw_104, zcw_gd 104⟩
            ·
              rcases Nat.lt_or_ge y 107 with h | h
              ·
                rcases Nat.lt_or_ge y 106 with h | h
                ·
                  obtain rfl : y = 105 := by omega
                  exact List.mem_filter.mpr ⟨List.mem_of_getElem? zcw_105, zcw_gd 105⟩
                ·
                  obtain rfl : y = 106 := by omega
                  exact List.mem_filter.mpr ⟨List.mem_of_getElem? zcw_106, zcw_gd 106⟩
              ·
                rcases Nat.lt_or_ge y 108 with h | h
                ·
                  obtain rfl : y = 107 := by omega
                  exact List.mem_filter.mpr ⟨List.mem_of_getElem? zcw_107, zcw_gd 107⟩
                ·
                  obtain rfl : y = 108 := by omega
                  exact List.mem_filter.mpr ⟨List.mem_of_getElem? zcw_108, zcw_gd 108⟩
          ·
            rcases Nat.lt_or_ge y 113 with h | h
            ·
              rcases Nat.lt_or_ge y 111 with h | h
              ·
                rcases Nat.lt_or_ge y 110 with h | h
                ·
                  obtain rfl : y = 109 := by omega
                  exact List.mem_filter.mpr ⟨List.mem_of_getElem? zcw_109, zcw_gd 109⟩
                ·
                  obtain rfl : y = 110 := by omega
                  exact List.mem_filter.mpr ⟨List.mem_of_getElem? zcw_110, zcw_gd 110⟩
              ·
                rcases Nat.lt_or_ge y 112 with h | h
                ·
                  obtain rfl : y = 111 := by omega
                  exact List.mem_filter.mpr ⟨List.mem_of_getElem? zcw_111, zcw_gd 111⟩
                ·
                  obtain rfl : y = 112 := by omega
                  exact List.mem_filter.mpr ⟨List.mem_of_getElem? zcw_112, zcw_gd 112⟩
            ·
              rcases Nat.lt_or_ge y 115 with h | h
              ·
                rcases Nat.lt_or_ge y 114 with h | h
                ·
                  obtain rfl : y = 113 := by omega
                  exact List.mem_filter.mpr ⟨List.mem_of_getElem? zcw_113, zcw_gd 113⟩
                ·
                  obtain rfl : y = 114 := by omega
                  exact List.mem_filter.mpr ⟨List.mem_of_getElem? zcw_114, zcw_gd 114⟩
              ·
                rcases Nat.lt_or_ge y 116 with h | h
                ·
                  obtain rfl : y = 115 := by omega
                  exact List.mem_filter.mpr ⟨List.mem_of_getElem? zcw_115, zcw_gd 115⟩
                ·
                  obtain rfl : y = 116 := by omega
                  exact List.mem_filter.mpr ⟨List.mem_of_getElem? zcw_116, zcw_gd 116⟩
  ·
    rcases Nat.lt_or_ge y 176 with h | h
    ·
      rcases Nat.lt_or_ge y 146 with h | h
      ·
        rcases Nat.lt_or_ge y 131 with h | h
        ·
          rcases Nat.lt_or_ge y 124 with h | h
          ·
            rcases Nat.lt_or_ge y 120 with h | h
            ·
              rcases Nat.lt_or_ge y 118 with h | h
              ·
                obtain rfl : y = 117 := by omega
                exact List.mem_filter.mpr ⟨List.mem_of_getElem? zcw_117, zcw_gd 117⟩
              ·
                rcases Nat.lt_or_ge y 119 with h | h
                ·
                  obtain rfl : y = 118 := by omega
                  exact List.mem_filter.mpr ⟨List.mem_of_getElem? zcw_118, zcw_gd 118⟩
                ·
                  obtain rfl : y = 119 := by omega
                  exact List.mem_filter.mpr ⟨List.mem_of_getElem? zcw_119, zcw_gd 119⟩
            ·
              rcases Nat.lt_or_ge y 122 with h | h
              ·
                rcases Nat.lt_or_ge y 121 with h | h
                ·
                  obtain rfl : y = 120 := by omega
                  exact List.mem_filter.mpr ⟨List.mem_of_getElem? zcw_120, zcw_gd 120⟩
                ·
                  obtain rfl : y = 121 := by omega
                  exact List.mem_filter.mpr ⟨List.mem_of_getElem? zcw_121, zcw_gd 121⟩
              ·
                rcases Nat.lt_or_ge y 123 with h | h
                ·
                  obtain rfl : y = 122 := by omega
                  exact List.mem_filter.mpr ⟨List.mem_of_getElem? zcw_122, zcw_gd 122⟩
                ·
                  obtain rfl : y = 123 := by omega
                  exact List.mem_filter.mpr ⟨List.mem_of_getElem? zcw_123, zcw_gd 123⟩
          ·
            rcases Nat.lt_or_ge y 127 with h | h
            ·
              rcases Nat.lt_or_ge y 125 with h | h
              ·
                obtain rfl : y = 124 := by omega
                exact List.mem_filter.mpr ⟨List.mem_of_getElem? zcw_124, zcw_gd 124⟩
              ·
                rcases Nat.lt_or_ge y 126 with h | h
                ·
                  obtain rfl : y = 125 := by omega
                  exact List.mem_filter.mpr ⟨List.mem_of_getElem? zcw_125, zcw_gd 125⟩
                ·
                  obtain rfl : y = 126 := by omega
                  exact List.mem_filter.mpr ⟨List.mem_of_getElem? zcw_126, zcw_gd 126⟩
            ·
              rcases Nat.lt_or_ge y 129 with h | h
              ·
                rcases Nat.lt_or_ge y 128 with h | h
                ·
                  obtain rfl : y = 127 := by omega
                  exact List.mem_filter.mpr ⟨List.mem_of_getElem? zcw_127, zcw_gd 127⟩
                ·
                  obtain rfl : y = 128 := by omega
                  exact List.mem_filter.mpr ⟨List.mem_of_getElem? zcw_128, zcw_gd 128⟩
              ·
                rcases Nat.lt_or_ge y 130 with h | h
                ·
                  obtain rfl : y = 129 := by omega
                  exact List.mem_filter.mpr ⟨List.mem_of_getElem? zcw_129, zcw_gd 129⟩
                ·
                  obtain rfl : y = 130 := by omega
                  exact List.mem_filter.mpr ⟨List.mem_of_getElem? zcw_130, zcw_gd 130⟩
        ·
          rcases Nat.lt_or_ge y 138 with h | h
          ·
            rcases Nat.lt_or_ge y 134 with h | h
            ·
              rcases Nat.lt_or_ge y 132 with h | h
              ·
                obtain rfl : y = 131 := by omega
                exact List.mem_filter.mpr ⟨List.mem_of_getElem? zcw_131, zcw_gd 131⟩
              ·
                rcases Nat.lt_or_ge y 133 with h | h
                ·
                  obtain rfl : y = 132 := by omega
                  exact List.mem_filter.mpr ⟨List.mem_of_getElem? zcw_132, zcw_gd 132⟩
                ·
                  obtain rfl : y = 133 := by omega
                  exact List.mem_filter.mpr ⟨List.mem_of_getElem? zcw_133, zcw_gd 133⟩
            ·
              rcases Nat.lt_or_ge y 136 with h | h
              ·
                rcases Nat.lt_or_ge y 135 with h | h
                ·
                  obtain rfl : y = 134 := by omega
                  exact List.mem_filter.mpr ⟨List.mem_of_getElem? zcw_134, zcw_gd 134⟩
                ·
                  obtain rfl : y = 135 := by omega
                  exact List.mem_filter.mpr ⟨List.mem_of_getElem? zcw_135, zcw_gd 135⟩
              ·
                rcases Nat.lt_or_ge y 137 with h | h
                ·
                  obtain rfl : y = 136 := by omega
                  exact List.mem_filter.mpr ⟨List.mem_of_getElem? zcw_136, zcw_gd 136⟩
                ·
                  obtain rfl : y = 137 := by omega
                  exact List.mem_filter.mpr ⟨List.mem_of_getElem? zcw_137, zcw_gd 137⟩
          ·
            rcases Nat.lt_or_ge y 142 with h | h
            ·
              rcases Nat.lt_or_ge y 140 with h | h
              ·
                rcases Nat.lt_or_ge y 139 with h | h
                ·
                  obtain rfl : y = 138 := by omega
                  exact List.mem_filter.mpr ⟨List.mem_of_getElem? zcw_138, zcw_gd 138⟩
                ·
                  obtain rfl : y = 139 := by omega
                  exact List.mem_filter.mpr ⟨List.mem_of_getElem? zcw_139, zcw_gd 139⟩
              ·
                rcases Nat.lt_or_ge y 141 with h | h
                ·
                  obtain rfl : y = 140 := by omega
                  exact List.mem_filter.mpr ⟨List.mem_of_getElem? zcw_140, zcw_gd 140⟩
                ·
                  obtain rfl : y = 141 := by omega
                  exact List.mem_filter.mpr ⟨List.mem_of_getElem? zcw_141, zcw_gd 141⟩
            ·
              rcases Nat.lt_or_ge y 144 with h | h
              ·
                rcases Nat.lt_or_ge y 143 with h | h
                ·
                  obtain rfl : y = 142 := by omega
                  exact List.mem_filter.mpr ⟨List.mem_of_getElem? zcw_142, zcw_gd 142⟩
                ·
                  obtain rfl : y = 143 := by omega
                  exact List.mem_filter.mpr ⟨List.mem_of_getElem? zcw_143, zcw_gd 143⟩
              ·
                rcases Nat.lt_or_ge y 145 with h | h
                ·
                  obtain rfl : y = 144 := by omega
                  exact List.mem_filter.mpr ⟨List.mem_of_getElem? zcw_144, zcw_gd 144⟩
                ·
                  obtain rfl : y = 145 := by omega
                  exact List.mem_filter.mpr ⟨List.mem_of_getElem? zcw_145, zcw_gd 145⟩
      ·
        rcases Nat.lt_or_ge y 161 with h | h
        ·
          rcases Nat.lt_or_ge y 153 with h | h
          ·
            rcases Nat.lt_or_ge y 149 with h | h
            ·
              rcases Nat.lt_or_ge y 147 with h | h
              ·
                obtain rfl : y = 146 := by omega
                exact List.mem_filter.mpr ⟨List.mem_of_getElem? zcw_146, zcw_gd 146⟩
              ·
                rcases Nat.lt_or_ge y 148 with h | h
                ·
                  obtain rfl : y = 147 := by omega
                  exact List.mem_filter.mpr ⟨List.mem_of_getElem? zcw_147, zcw_gd 147⟩
                ·
                  obtain rfl : y = 148 := by omega
                  exact List.mem_filter.mpr ⟨List.mem_of_getElem? zcw_148, zcw_gd 148⟩
            ·
              rcases Nat.lt_or_ge y 151 with h | h
              ·
                rcases Nat.lt_or_ge y 150 with h | h
                ·
                  obtain rfl : y = 149 := by omega
                  exact List.mem_filter.mpr ⟨List.mem_of_getElem? zcw_149, zcw_gd 149⟩
                ·
                  obtain rfl : y = 150 := by omega
                  exact List.mem_filter.mpr ⟨List.mem_of_getElem? zcw_150, zcw_gd 150⟩
              ·
                rcases Nat.lt_or_ge y 152 with h | h
                ·
                  obtain rfl : y = 151 := by omega
                  exact List.mem_filter.mpr ⟨List.mem_of_getElem? zcw_151, zcw_gd 151⟩
                ·
                  obtain rfl : y = 152 := by omega
                  exact List.mem_filter.mpr ⟨List.mem_of_getElem? zcw_152, zcw_gd 152⟩
          ·
            rcases Nat.lt_or_ge y 157 with h | h
            ·
              rcases Nat.lt_or_ge y 155 with h | h
              ·
                rcases Nat.lt_or_ge y 154 with h | h
                ·
                  obtain rfl : y = 153 := by omega
                  exact List.mem_filter.mpr ⟨List.mem_of_getElem? zcw_153, zcw_gd 153⟩
                ·
                  obtain rfl : y = 154 := by omega
                  exact List.mem_filter.mpr ⟨List.mem_of_getElem? zcw_154, zcw_gd 154⟩
              ·
                rcases Nat.lt_or_ge y 156 with h | h
                ·
                  obtain rfl : y = 155 := by omega
                  exact List.mem_filter.mpr ⟨List.mem_of_getElem? zcw_155, zcw_gd 155⟩
                ·
                  obtain rfl : y = 156 := by omega
                  exact List.mem_filter.mpr ⟨List.mem_of_getElem? zcw_156, zcw_gd 156⟩
            ·
              rcases Nat.lt_or_ge y 159 with h | h
              ·
                rcases Nat.lt_or_ge y 158 with h | h
                ·
                  obtain rfl : y = 157 := by omega
                  exact List.mem_filter.mpr ⟨List.mem_of_getElem? zcw_157, zcw_gd 157⟩
                ·
                  obtain rfl : y = 158 := by omega
                  exact List.mem_filter.mpr ⟨List.mem_of_getElem? zcw_158, zcw_gd 158⟩
              ·
                rcases Nat.lt_or_ge y 160 with h | h
                ·
                  obtain rfl : y = 159 := by omega
                  exact List.mem_filter.mpr ⟨List.mem_of_getElem? zcw_159, zcw_gd 159⟩
                ·
                  obtain rfl : y = 160 := by omega
                  exact List.mem_filter.mpr ⟨List.mem_of_getElem? zcw_160, zcw_gd 160⟩
        ·
          rcases Nat.lt_or_ge y 168 with h | h
          ·
            rcases Nat.lt_or_ge y 164 with h | h
            ·
              rcases Nat.lt_or_ge y 162 with h | h
              ·
                obtain rfl : y = 161 := by omega
                exact List.mem_filter.mpr ⟨List.mem_of_getElem? zcw_161, zcw_gd 161⟩
              ·
                rcases Nat.lt_or_ge y 163 with h | h
                ·
                  obtain rfl : y = 162 := by omega
                  exact List.mem_filter.mpr ⟨List.mem_of_getElem? zcw_162, zcw_gd 162⟩
                ·
                  obtain rfl : y = 163 := by omega
                  exact List.mem_filter.mpr ⟨List.mem_of_getElem? zcw_163, zcw_gd 163⟩
            ·
              rcases Nat.lt_or_ge y 166 with h | h
              ·
                rcases Nat.lt_or_ge y 165 with h | h
                ·
                  obtain rfl : y = 164 := by omega
                  exact List.mem_filter.mpr ⟨List.mem_of_getElem? zcw_164, zcw_gd 164⟩
                ·
                  obtain rfl : y = 165 := by omega
                  exact List.mem_filter.mpr ⟨List.mem_of_getElem? zcw_165, zcw_gd 165⟩
              ·
                rcases Nat.lt_or_ge y 167 with h | h
                ·
                  obtain rfl : y = 166 := by omega
                  exact List.mem_filter.mpr ⟨List.mem_of_getElem? zcw_166, zcw_gd 166⟩
                ·
                  obtain rfl : y = 167 := by omega
                  exact List.mem_filter.mpr ⟨List.mem_of_getElem? zcw_167, zcw_gd 167⟩
          ·
            rcases Nat.lt_or_ge y 172 with h | h
            ·
              rcases Nat.lt_or_ge y 170 with h | h
              ·
                rcases Nat.lt_or_ge y 169 with h | h
                ·
                  obtain rfl : y = 168 := by omega
                  exact List.mem_filter.mpr ⟨List.mem_of_getElem? zcw_168, zcw_gd 168⟩
                ·
                  obtain rfl : y = 169 := by omega
                  exact List.mem_filter.mpr ⟨List.mem_of_getElem? zcw_169, zcw_gd 169⟩
              ·
                rcases Nat.lt_or_ge y 171 with h | h
                ·
                  obtain rfl : y = 170 := by omega
                  exact List.mem_filter.mpr ⟨List.mem_of_getElem? zcw_170, zcw_gd 170⟩
                ·
                  obtain rfl : y = 171 := by omega
                  exact List.mem_filter.mpr ⟨List.mem_of_getElem? zcw_171, zcw_gd 171⟩
            ·
              rcases Nat.lt_or_ge y 174 with h | h
              ·
                rcases Nat.lt_or_ge y 173 with h | h
                ·
                  obtain rfl : y = 172 := by omega
                  exact List.mem_filter.mpr ⟨List.mem_of_getElem? zcw_172, zcw_gd 172⟩
                ·
                  obtain rfl : y = 173 := by omega
                  exact List.mem_filter.mpr ⟨List.mem_of_getElem? zcw_173, zcw_gd 173⟩
              ·
                rcases Nat.lt_or_ge y 175 with h | h
                ·
                  obtain rfl : y = 174 := by omega
                  exact List.mem_filter.mpr ⟨List.mem_of_getElem? zcw_174, zcw_gd 174⟩
                ·
                  obtain rfl : y = 175 := by omega
                  exact List.mem_filter.mpr ⟨List.mem_of_getElem? zcw_175, zcw_gd 175⟩
    ·
      rcases Nat.lt_or_ge y 205 with h | h
      ·
        rcases Nat.lt_or_ge y 190 with h | h
        ·
          rcases Nat.lt_or_ge y 183 with h | h
          ·
            rcases Nat.lt_or_ge y 179 with h | h
            ·
              rcases Nat.lt_or_ge y 177 with h | h
              ·
                obtain rfl : y = 176 := by omega
                exact List.mem_filter.mpr ⟨List.mem_of_getElem? zcw_176, zcw_gd 176⟩
              ·
                rcases Nat.lt_or_ge y 178 with h | h
                ·
                  obtain rfl : y = 177 := by omega
                  exact List.mem_filter.mpr ⟨List.mem_of_getElem? zcw_177, zcw_gd 177⟩
                ·
                  obtain rfl : y = 178 := by omega
                  exact List.mem_filter.mpr ⟨List.mem_of_getElem? zcw_178, zcw_gd 178⟩
            ·
              rcases Nat.lt_or_ge y 181 with h | h
              ·
                rcases Nat.lt_or_ge y 180 with h | h
                ·
                  obtain rfl : y = 179 := by omega
                  exact List.mem_filter.mpr ⟨List.mem_of_getElem? zcw_179, zcw_gd 179⟩
                ·
                  obtain rfl : y = 180 := by omega
                  exact List.mem_filter.mpr ⟨List.mem_of_getElem? zcw_180, zcw_gd 180⟩
              ·
                rcases Nat.lt_or_ge y 182 with h | h
                ·
                  obtain rfl : y = 181 := by omega
                  exact List.mem_filter.mpr ⟨List.mem_of_getElem? zcw_181, zcw_gd 181⟩
                ·
                  obtain rfl : y = 182 := by omega
                  exact List.mem_filter.mpr ⟨List.mem_of_getElem? zcw_182, zcw_gd 182⟩
          ·
            rcases Nat.lt_or_ge y 186 with h | h
            ·
              rcases Nat.lt_or_ge y 184 with h | h
              ·
                obtain rfl : y = 183 := by omega
                exact List.mem_filter.mpr ⟨List.mem_of_getElem? zcw_183, zcw_gd 183⟩
              ·
                rcases Nat.lt_or_ge y 185 with h | h
                ·
                  obtain rfl : y = 184 := by omega
                  exact List.mem_filter.mpr ⟨List.mem_of_getElem? zcw_184, zcw_gd 184⟩
                ·
                  obtain rfl : y = 185 := by omega
                  exact List.mem_filter.mpr ⟨List.mem_of_getElem? zcw_185, zcw_gd 185⟩
            ·
              rcases Nat.lt_or_ge y 188 with h | h
              ·
                rcases Nat.lt_or_ge y 187 with h | h
                ·
                  obtain rfl : y = 186 := by omega
                  exact List.mem_filter.mpr ⟨List.mem_of_getElem? zcw_186, zcw_gd 186⟩
                ·
                  obtain rfl : y = 187 := by omega
                  exact List.mem_filter.mpr ⟨List.mem_of_getElem? zcw_187, zcw_gd 187⟩
              ·
                rcases Nat.lt_or_ge y 189 with h | h
                ·
                  obtain rfl : y = 188 := by omega
                  exact List.mem_filter.mpr ⟨List.mem_of_getElem? zcw_188, zcw_gd 188⟩
                ·
                  obtain rfl : y = 189 := by omega
                  exact List.mem_filter.mpr ⟨List.mem_of_getElem? zcw_189, zcw_gd 189⟩
        ·
          rcases Nat.lt_or_ge y 197 with h | h
          ·
            rcases Nat.lt_or_ge y 193 with h | h
            ·
              rcases Nat.lt_or_ge y 191 with h | h
              ·
                obtain rfl : y = 190 := by omega
                exact List.mem_filter.mpr ⟨List.mem_of_getElem? zcw_190, zcw_gd 190⟩
              ·
                rcases Nat.lt_or_ge y 192 with h | h
                ·
                  obtain rfl : y = 191 := by omega
                  exact List.mem_filter.mpr ⟨List.mem_of_getElem? zcw_191, zcw_gd 191⟩
                ·
                  obtain rfl : y = 192 := by omega
                  exact List.mem_filter.mpr ⟨List.mem_of_getElem? zcw_192, zcw_gd 192⟩
            ·
              rcases Nat.lt_or_ge y 195 with h | h
              ·
                rcases Nat.lt_or_ge y 194 with h | h
                ·
                  obtain rfl : y = 193 := by omega
                  exact List.mem_filter.mpr ⟨List.mem_of_getElem? zcw_193, zcw_gd 193⟩
                ·
                  obtain rfl : y = 194 := by omega
                  exact List.mem_filter.mpr ⟨List.mem_of_getElem? zcw_194, zcw_gd 194⟩
              ·
                rcases Nat.lt_or_ge y 196 with h | h
                ·
                  obtain rfl : y = 195 := by omega
                  exact List.mem_filter.mpr ⟨List.mem_of_getElem? zcw_195, zcw_gd 195⟩
                ·
                  obtain rfl : y = 196 := by omega
                  exact List.mem_filter.mpr ⟨List.mem_of_getElem? zcw_196, zcw_gd 196⟩
          ·
            rcases Nat.lt_or_ge y 201 with h | h
            ·
              rcases Nat.lt_or_ge y 199 with h | h
              ·
                rcases Nat.lt_or_ge y 198 with h | h
                ·
                  obtain rfl : y = 197 := by omega
                  exact List.mem_filter.mpr ⟨List.mem_of_getElem? zcw_197, zcw_gd 197⟩
                ·
                  obtain rfl : y = 198 := by omega
                  exact List.mem_filter.mpr ⟨List.mem_of_getElem? zcw_198, zcw_gd 198⟩
              ·
                rcases Nat.lt_or_ge y 200 with h | h
                ·
                  obtain rfl : y = 199 := by omega
                  exact List.mem_filter.mpr ⟨List.mem_of_getElem? zcw_199, zcw_gd 199⟩
                ·
                  obtain rfl : y = 200 := by omega
                  exact List.mem_filter.mpr ⟨List.mem_of_getElem? zcw_200, zcw_gd 200⟩
            ·
              rcases Nat.lt_or_ge y 203 with h | h
              ·
                rcases Nat.lt_or_ge y 202 with h | h
                ·
                  obtain rfl : y = 201 := by omega
                  exact List.mem_filter.mpr ⟨List.mem_of_getElem? zcw_201, zcw_gd 201⟩
                ·
                  obtain rfl : y = 202 := by omega
                  exact List.mem_filter.mpr ⟨List.mem_of_getElem? zcw_202, zcw_gd 202⟩
              ·
                rcases Nat.lt_or_ge y 204 with h | h
                ·
                  obtain rfl : y = 203 := by omega
                  exact List.mem_filter.mpr ⟨List.mem_of_getElem? zcw_203, zcw_gd 203⟩
                ·
                  obtain rfl : y = 204 := by omega
                  exact List.mem_filter.mpr ⟨List.mem_of_getElem? zcw_204, zcw_gd 204⟩
      ·
        rcases Nat.lt_or_ge y 220 with h | h
        ·
          rcases Nat.lt_or_ge y 212 with h | h
          ·
            rcases Nat.lt_or_ge y 208 with h | h
            ·
              rcases Nat.lt_or_ge y 206 with h | h
              ·
                obtain rfl : y = 205 := by omega
                exact List.mem_filter.mpr ⟨List.mem_of_getElem? zcw_205, zcw_gd 205⟩
              ·
                rcases Nat.lt_or_ge y 207 with h | h
                ·
                  obtain rfl : y = 206 := by omega
                  exact List.mem_filter.mpr ⟨List.mem_of_getElem? zcw_206, zcw_gd 206⟩
                ·
                  obtain rfl : y = 207 := by omega
                  exact List.mem_filter.mpr ⟨List.mem_of_getElem? zcw_207, zcw_gd 207⟩
            ·
              rcases Nat.lt_or_ge y 210 with h | h
              ·
                rcases Nat.lt_or_ge y 209 with h | h
                ·
                  obtain rfl : y = 208 := by omega
                  exact List.mem_filter.mpr ⟨List.mem_of_getElem? zcw_208, zcw_gd 208⟩
                ·
                  obtain rfl : y = 209 := by omega
                  exact List.mem_filter.mpr ⟨List.mem_of_getElem? zcw_209, zcw_gd 209⟩
              ·
                rcases Nat.lt_or_ge y 211 with h | h
                ·
                  obtain rfl : y = 210 := by omega
                  exact List.mem_filter.mpr ⟨List.mem_of_getElem? zcw_210, zcw_gd 210⟩
                ·
                  obtain rfl : y = 211 := by omega
                  exact List.mem_filter.mpr ⟨List.mem_of_getElem? zcw_211, zcw_gd 211⟩
          ·
            rcases Nat.lt_or_ge y 216 with h | h
            ·
              rcases Nat.lt_or_ge y 214 with h | h
              ·
                rcases Nat.lt_or_ge y 213 with h | h
                ·
                  obtain rfl : y = 212 := by omega
                  exact List.mem_filter.mpr ⟨List.mem_of_getElem? zcw_212, zcw_gd 212⟩
                ·
                  obtain rfl : y = 213 := by omega
                  exact List.mem_filter.mpr ⟨List.mem_of_getElem? zcw_213, zcw_gd 213⟩
              ·
                rcases Nat.lt_or_ge y 215 with h | h
                ·
                  obtain rfl : y = 214 := by omega
                  exact List.mem_filter.mpr ⟨List.mem_of_getElem? zcw_214, zcw_gd 214⟩
                ·
                  obtain rfl : y = 215 := by omega
                  exact List.mem_filter.mpr ⟨List.mem_of_getElem? zcw_215, zcw_gd 215⟩
            ·
              rcases Nat.lt_or_ge y 218 with h | h
              ·
                rcases Nat.lt_or_ge y 217 with h | h
                ·
                  obtain rfl : y = 216 := by omega
                  exact List.mem_filter.mpr ⟨List.mem_of_getElem? zcw_216, zcw_gd 216⟩
                ·
                  obtain rfl : y = 217 := by omega
                  exact List.mem_filter.mpr ⟨List.mem_of_getElem? zcw_217, zcw_gd 217⟩
              ·
                rcases Nat.lt_or_ge y 219 with h | h
                ·
                  obtain rfl : y = 218 := by omega
                  exact List.mem_filter.mpr ⟨List.mem_of_getElem? zcw_218, zcw_gd 218⟩
                ·
                  obtain rfl : y = 219 := by omega
                  exact List.mem_filter.mpr ⟨List.mem_of_getElem? zcw_219, zcw_gd 219⟩
        ·
          rcases Nat.lt_or_ge y 227 with h | h
          ·
            rcases Nat.lt_or_ge y 223 with h | h
            ·
              rcases Nat.lt_or_ge y 221 with h | h
              ·
                obtain rfl : y = 220 := by omega
                exact List.mem_filter.mpr ⟨List.mem_of_getElem? zcw_220, zcw_gd 220⟩
              ·
                rcases Nat.lt_or_ge y 222 with h | h
                ·
                  obtain rfl : y = 221 := by omega
                  exact List.mem_filter.mpr ⟨List.mem_of_getElem? zcw_221, zcw_gd 221⟩
                ·
                  obtain rfl : y = 222 := by omega
                  exact List.mem_filter.mpr ⟨List.mem_of_getElem? zcw_222, zcw_gd 222⟩
            ·
              rcases Nat.lt_or_ge y 225 with h | h
              ·
                rcases Nat.lt_or_ge y 224 with h | h
                ·
                  obtain rfl : y = 223 := by omega
                  exact List.mem_filter.mpr ⟨List.mem_of_getElem? zcw_223, zcw_gd 223⟩
                ·
                  obtain rfl : y = 224 := by omega
                  exact List.mem_filter.mpr ⟨List.mem_of_getElem? zcw_224, zcw_gd 224⟩
              ·
                rcases Nat.lt_or_ge y 226 with h | h
                ·
                  obtain rfl : y = 225 := by omega
                  exact List.mem_filter.mpr ⟨List.mem_of_getElem? zcw_225, zcw_gd 225⟩
                ·
                  obtain rfl : y = 226 := by omega
                  exact List.mem_filter.mpr ⟨List.mem_of_getElem? zcw_226, zcw_gd 226⟩
          ·
            rcases Nat.lt_or_ge y 231 with h | h
            ·
              rcases Nat.lt_or_ge y 229 with h | h
              ·
                rcases Nat.lt_or_ge y 228 with h | h
                ·
                  obtain rfl : y = 227 := by omega
                  exact List.mem_filter.mpr ⟨List.mem_of_getElem? zcw_227, zcw_gd 227⟩
                ·
                  obtain rfl : y = 228 := by omega
                  exact List.mem_filter.mpr ⟨List.mem_of_getElem? zcw_228, zcw_gd 228⟩
              ·
                rcases Nat.lt_or_ge y 230 with h | h
                ·
                  obtain rfl : y = 229 := by omega
                  exact List.mem_filter.mpr ⟨List.mem_of_getElem? zcw_229, zcw_gd 229⟩
                ·
                  obtain rfl : y = 230 := by omega
                  exact List.mem_filter.mpr ⟨List.mem_of_getElem? zcw_230, zcw_gd 230⟩
            ·
              rcases Nat.lt_or_ge y 233 with h | h
              ·
                rcases Nat.lt_or_ge y 232 with h | h
                ·
                  obtain rfl : y = 231 := by omega
                  exact List.mem_filter.mpr ⟨List.mem_of_getElem? zcw_231, zcw_gd 231⟩
                ·
                  exact absurd (show y = 232 by omega) hl
              ·
                rcases Nat.lt_or_ge y 234 with h | h
                ·
                  obtain rfl : y = 233 := by omega
                  exact List.mem_filter.mpr ⟨List.mem_of_getElem? zcw_233, zcw_gd 233⟩
                ·
                  obtain rfl : y = 234 := by omega
                  exact List.mem_filter.mpr ⟨List.mem_of_getElem? zcw_234, zcw_gd 234⟩

