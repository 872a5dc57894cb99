/-! what the tables' words say of the methods, fields, calls of the small machine -/
def zWd : List Jvm.Cond := lw_tbl.filter goodWord
def zgd (pl : Nat) (w : Jvm.Cond) : Bool := decide (lw_tbl[pl]? = some w) && goodWord w
theorem zgd_in {pl : Nat} {w : Jvm.Cond} (h : zgd pl w = true) : w ∈ zWd := by
  obtain ⟨h1, h2⟩ := Bool.and_eq_true_iff.mp h
  exact List.mem_filter.mpr ⟨List.mem_of_getElem? (of_decide_eq_true h1), h2⟩
theorem zall {n : Nat} {f : Nat → Bool} (h : (List.range n).all f = true) {k : Nat} (hk : k < n) : f k = true := List.all_eq_true.mp h k (List.mem_range.mpr hk)
def zyi (y : Nat) : Nat := (cond (Nat.ble y 116) (cond (Nat.ble y 57) (cond (Nat.ble y 28) (cond (Nat.ble y 13) (cond (Nat.ble y 6) (cond (Nat.ble y 2) (cond (Nat.ble y 0) 262 (cond (Nat.ble y 1) 1050 1062)) (cond (Nat.ble y 4) (cond (Nat.ble y 3) 1067 157) (cond (Nat.ble y 5) 792 626))) (cond (Nat.ble y 9) (cond (Nat.ble y 7) 710 (cond (Nat.ble y 8) 722 752)) (cond (Nat.ble y 11) (cond (Nat.ble y 10) 768 343) (cond (Nat.ble y 12) 366 409)))) (cond (Nat.ble y 20) (cond (Nat.ble y 16) (cond (Nat.ble y 14) 371 (cond (Nat.ble y 15) 362 358)) (cond (Nat.ble y 18) (cond (Nat.ble y 17) 387 954) (cond (Nat.ble y 19) 220 801))) (cond (Nat.ble y 24) (cond (Nat.ble y 22) (cond (Nat.ble y 21) 806 329) (cond (Nat.ble y 23) 347 396)) (cond (Nat.ble y 26) (cond (Nat.ble y 25) 466 476) (cond (Nat.ble y 27) 472 481))))) (cond (Nat.ble y 42) (cond (Nat.ble y 35) (cond (Nat.ble y 31) (cond (Nat.ble y 29) 115 (cond (Nat.ble y 30) 601 631)) (cond (Nat.ble y 33) (cond (Nat.ble y 32) 704 736) (cond (Nat.ble y 34) 742 748))) (cond (Nat.ble y 38) (cond (Nat.ble y 36) 757 (cond (Nat.ble y 37) 762 236)) (cond (Nat.ble y 40) (cond (Nat.ble y 39) 383 909) (cond (Nat.ble y 41) 853 927)))) (cond (Nat.ble y 49) (cond (Nat.ble y 45) (cond (Nat.ble y 43) 322 (cond (Nat.ble y 44) 811 336)) (cond (Nat.ble y 47) (cond (Nat.ble y 46) 355 380) (cond (Nat.ble y 48) 393 401))) (cond (Nat.ble y 53) (cond (Nat.ble y 51) (cond (Nat.ble y 50) 406 414) (cond (Nat.ble y 52) 418 446)) (cond (Nat.ble y 55) (cond (Nat.ble y 54) 431 425) (cond (Nat.ble y 56) 438 454)))))) (cond (Nat.ble y 86) (cond (Nat.ble y 71) (cond (Nat.ble y 64) (cond (Nat.ble y 60) (cond (Nat.ble y 58) 1012 (cond (Nat.ble y 59) 121 565)) (cond (Nat.ble y 62) (cond (Nat.ble y 61) 605 614) (cond (Nat.ble y 63) 617 620))) (cond (Nat.ble y 67) (cond (Nat.ble y 65) 623 (cond (Nat.ble y 66) 610 695)) (cond (Nat.ble y 69) (cond (Nat.ble y 68) 727 700) (cond (Nat.ble y 70) 643 718)))) (cond (Nat.ble y 78) (cond (Nat.ble y 74) (cond (Nat.ble y 72) 639 (cond (Nat.ble y 73) 635 714)) (cond (Nat.ble y 76) (cond (Nat.ble y 75) 731 772) (cond (Nat.ble y 77) 107 493))) (cond (Nat.ble y 82) (cond (Nat.ble y 80) (cond (Nat.ble y 79) 573 597) (cond (Nat.ble y 81) 310 314)) (cond (Nat.ble y 84) (cond (Nat.ble y 83) 818 826) (cond (Nat.ble y 85) 839 860))))) (cond (Nat.ble y 101) (cond (Nat.ble y 93) (cond (Nat.ble y 89) (cond (Nat.ble y 87) 870 (cond (Nat.ble y 88) 899 916)) (cond (Nat.ble y 91) (cond (Nat.ble y 90) 934 941) (cond (Nat.ble y 92) 950 961))) (cond (Nat.ble y 97) (cond (Nat.ble y 95) (cond (Nat.ble y 94) 970 318) (cond (Nat.ble y 96) 979 421)) (cond (Nat.ble y 99) (cond (Nat.ble y 98) 434 986) (cond (Nat.ble y 100) 1000 442)))) (cond (Nat.ble y 108) (cond (Nat.ble y 104) (cond (Nat.ble y 102) 1008 (cond (Nat.ble y 103) 450 1019)) (cond (Nat.ble y 106) (cond (Nat.ble y 105) 458 485) (cond (Nat.ble y 107) 1026 1033))) (cond (Nat.ble y 112) (cond (Nat.ble y 110) (cond (Nat.ble y 109) 1074 844) (cond (Nat.ble y 111) 831 875)) (cond (Nat.ble y 114) (cond (Nat.ble y 113) 921 904) (cond (Nat.ble y 115) 1038 351))))))) (cond (Nat.ble y 175) (cond (Nat.ble y 145) (cond (Nat.ble y 130) (cond (Nat.ble y 123) (cond (Nat.ble y 119) (cond (Nat.ble y 117) 375 (cond (Nat.ble y 118) 798 850)) (cond (Nat.ble y 121) (cond (Nat.ble y 120) 463 1047) (cond (Nat.ble y 122) 1059 1043))) (cond (Nat.ble y 126) (cond (Nat.ble y 124) 1080 (cond (Nat.ble y 125) 1205 1221)) (cond (Nat.ble y 128) (cond (Nat.ble y 127) 1214 1085) (cond (Nat.ble y 129) 1089 1093)))) (cond (Nat.ble y 137) (cond (Nat.ble y 133) (cond (Nat.ble y 131) 1101 (cond (Nat.ble y 132) 1097 1386)) (cond (Nat.ble y 135) (cond (Nat.ble y 134) 1320 1348) (cond (Nat.ble y 136) 1352 1209))) (cond (Nat.ble y 141) (cond (Nat.ble y 139) (cond (Nat.ble y 138) 1217 1233) (cond (Nat.ble y 140) 1236 1239)) (cond (Nat.ble y 143) (cond (Nat.ble y 142) 1229 1256) (cond (Nat.ble y 144) 1262 1252))))) (cond (Nat.ble y 160) (cond (Nat.ble y 152) (cond (Nat.ble y 148) (cond (Nat.ble y 146) 1248 (cond (Nat.ble y 147) 1272 1276)) (cond (Nat.ble y 150) (cond (Nat.ble y 149) 1266 1243) (cond (Nat.ble y 151) 1280 1287))) (cond (Nat.ble y 156) (cond (Nat.ble y 154) (cond (Nat.ble y 153) 1296 1292) (cond (Nat.ble y 155) 1224 1299)) (cond (Nat.ble y 158) (cond (Nat.ble y 157) 1303 1374) (cond (Nat.ble y 159) 1367 1378)))) (cond (Nat.ble y 167) (cond (Nat.ble y 163) (cond (Nat.ble y 161) 1371 (cond (Nat.ble y 162) 1364 1382)) (cond (Nat.ble y 165) (cond (Nat.ble y 164) 1360 1356) (cond (Nat.ble y 166) 1438 1450))) (cond (Nat.ble y 171) (cond (Nat.ble y 169) (cond (Nat.ble y 168) 1446 1328) (cond (Nat.ble y 170) 1316 1336)) (cond (Nat.ble y 173) (cond (Nat.ble y 172) 1344 1307) (cond (Nat.ble y 174) 1311 1323)))))) (cond (Nat.ble y 204) (cond (Nat.ble y 189) (cond (Nat.ble y 182) (cond (Nat.ble y 178) (cond (Nat.ble y 176) 1331 (cond (Nat.ble y 177) 1339 1394)) (cond (Nat.ble y 180) (cond (Nat.ble y 179) 1398 1389) (cond (Nat.ble y 181) 1406 1401))) (cond (Nat.ble y 185) (cond (Nat.ble y 183) 1409 (cond (Nat.ble y 184) 1413 1417)) (cond (Nat.ble y 187) (cond (Nat.ble y 186) 1421 1425) (cond (Nat.ble y 188) 1429 1433)))) (cond (Nat.ble y 196) (cond (Nat.ble y 192) (cond (Nat.ble y 190) 1441 (cond (Nat.ble y 191) 1458 1453)) (cond (Nat.ble y 194) (cond (Nat.ble y 193) 1461 1465) (cond (Nat.ble y 195) 1469 1478))) (cond (Nat.ble y 200) (cond (Nat.ble y 198) (cond (Nat.ble y 197) 1482 1473) (cond (Nat.ble y 199) 1485 1489)) (cond (Nat.ble y 202) (cond (Nat.ble y 201) 1498 1493) (cond (Nat.ble y 203) 1501 1505))))) (cond (Nat.ble y 219) (cond (Nat.ble y 211) (cond (Nat.ble y 207) (cond (Nat.ble y 205) 1518 (cond (Nat.ble y 206) 1514 1509)) (cond (Nat.ble y 209) (cond (Nat.ble y 208) 1521 489) (cond (Nat.ble y 210) 569 593))) (cond (Nat.ble y 215) (cond (Nat.ble y 213) (cond (Nat.ble y 212) 815 823) (cond (Nat.ble y 214) 836 857)) (cond (Nat.ble y 217) (cond (Nat.ble y 216) 866 896) (cond (Nat.ble y 218) 913 931)))) (cond (Nat.ble y 226) (cond (Nat.ble y 222) (cond (Nat.ble y 220) 938 (cond (Nat.ble y 221) 947 958)) (cond (Nat.ble y 224) (cond (Nat.ble y 223) 967 976) (cond (Nat.ble y 225) 983 997))) (cond (Nat.ble y 230) (cond (Nat.ble y 228) (cond (Nat.ble y 227) 1005 1016) (cond (Nat.ble y 229) 1023 1030)) (cond (Nat.ble y 232) (cond (Nat.ble y 231) 1071 0) (cond (Nat.ble y 233) 991 326))))))))
def zys (y : Nat) : Nat := (cond (Nat.ble y 116) (cond (Nat.ble y 57) (cond (Nat.ble y 28) (cond (Nat.ble y 13) (cond (Nat.ble y 6) (cond (Nat.ble y 2) (cond (Nat.ble y 0) 0 (cond (Nat.ble y 1) 1051 1063)) (cond (Nat.ble y 4) (cond (Nat.ble y 3) 1068 0) (cond (Nat.ble y 5) 793 627))) (cond (Nat.ble y 9) (cond (Nat.ble y 7) 711 (cond (Nat.ble y 8) 723 753)) (cond (Nat.ble y 11) (cond (Nat.ble y 10) 769 344) (cond (Nat.ble y 12) 367 410)))) (cond (Nat.ble y 20) (cond (Nat.ble y 16) (cond (Nat.ble y 14) 372 (cond (Nat.ble y 15) 363 359)) (cond (Nat.ble y 18) (cond (Nat.ble y 17) 388 955) (cond (Nat.ble y 19) 0 802))) (cond (Nat.ble y 24) (cond (Nat.ble y 22) (cond (Nat.ble y 21) 23 330) (cond (Nat.ble y 23) 348 397)) (cond (Nat.ble y 26) (cond (Nat.ble y 25) 467 477) (cond (Nat.ble y 27) 9 10))))) (cond (Nat.ble y 42) (cond (Nat.ble y 35) (cond (Nat.ble y 31) (cond (Nat.ble y 29) 0 (cond (Nat.ble y 30) 602 14)) (cond (Nat.ble y 33) (cond (Nat.ble y 32) 16 17) (cond (Nat.ble y 34) 18 19))) (cond (Nat.ble y 38) (cond (Nat.ble y 36) 20 (cond (Nat.ble y 37) 21 0)) (cond (Nat.ble y 40) (cond (Nat.ble y 39) 384 910) (cond (Nat.ble y 41) 854 928)))) (cond (Nat.ble y 49) (cond (Nat.ble y 45) (cond (Nat.ble y 43) 323 (cond (Nat.ble y 44) 812 337)) (cond (Nat.ble y 47) (cond (Nat.ble y 46) 0 1) (cond (Nat.ble y 48) 2 3))) (cond (Nat.ble y 53) (cond (Nat.ble y 51) (cond (Nat.ble y 50) 4 5) (cond (Nat.ble y 52) 6 447)) (cond (Nat.ble y 55) (cond (Nat.ble y 54) 7 426) (cond (Nat.ble y 56) 439 455)))))) (cond (Nat.ble y 86) (cond (Nat.ble y 71) (cond (Nat.ble y 64) (cond (Nat.ble y 60) (cond (Nat.ble y 58) 1013 (cond (Nat.ble y 59) 0 566)) (cond (Nat.ble y 62) (cond (Nat.ble y 61) 606 13) (cond (Nat.ble y 63) 0 0))) (cond (Nat.ble y 67) (cond (Nat.ble y 65) 0 (cond (Nat.ble y 66) 12 696)) (cond (Nat.ble y 69) (cond (Nat.ble y 68) 728 15) (cond (Nat.ble y 70) 644 719)))) (cond (Nat.ble y 78) (cond (Nat.ble y 74) (cond (Nat.ble y 72) 640 (cond (Nat.ble y 73) 636 715)) (cond (Nat.ble y 76) (cond (Nat.ble y 75) 732 773) (cond (Nat.ble y 77) 0 494))) (cond (Nat.ble y 82) (cond (Nat.ble y 80) (cond (Nat.ble y 79) 574 598) (cond (Nat.ble y 81) 311 315)) (cond (Nat.ble y 84) (cond (Nat.ble y 83) 819 827) (cond (Nat.ble y 85) 840 861))))) (cond (Nat.ble y 101) (cond (Nat.ble y 93) (cond (Nat.ble y 89) (cond (Nat.ble y 87) 871 (cond (Nat.ble y 88) 900 917)) (cond (Nat.ble y 91) (cond (Nat.ble y 90) 935 942) (cond (Nat.ble y 92) 951 962))) (cond (Nat.ble y 97) (cond (Nat.ble y 95) (cond (Nat.ble y 94) 971 319) (cond (Nat.ble y 96) 980 422)) (cond (Nat.ble y 99) (cond (Nat.ble y 98) 435 987) (cond (Nat.ble y 100) 1001 443)))) (cond (Nat.ble y 108) (cond (Nat.ble y 104) (cond (Nat.ble y 102) 1009 (cond (Nat.ble y 103) 451 1020)) (cond (Nat.ble y 106) (cond (Nat.ble y 105) 459 486) (cond (Nat.ble y 107) 1027 1034))) (cond (Nat.ble y 112) (cond (Nat.ble y 110) (cond (Nat.ble y 109) 1075 25) (cond (Nat.ble y 111) 24 27)) (cond (Nat.ble y 114) (cond (Nat.ble y 113) 29 28) (cond (Nat.ble y 115) 30 0))))))) (cond (Nat.ble y 175) (cond (Nat.ble y 145) (cond (Nat.ble y 130) (cond (Nat.ble y 123) (cond (Nat.ble y 119) (cond (Nat.ble y 117) 0 (cond (Nat.ble y 118) 22 26)) (cond (Nat.ble y 121) (cond (Nat.ble y 120) 8 32) (cond (Nat.ble y 122) 33 31))) (cond (Nat.ble y 126) (cond (Nat.ble y 124) 0 (cond (Nat.ble y 125) 1206 0)) (cond (Nat.ble y 128) (cond (Nat.ble y 127) 39 34) (cond (Nat.ble y 129) 35 36)))) (cond (Nat.ble y 137) (cond (Nat.ble y 133) (cond (Nat.ble y 131) 38 (cond (Nat.ble y 132) 37 67)) (cond (Nat.ble y 135) (cond (Nat.ble y 134) 55 59) (cond (Nat.ble y 136) 60 1210))) (cond (Nat.ble y 141) (cond (Nat.ble y 139) (cond (Nat.ble y 138) 1218 41) (cond (Nat.ble y 140) 0 0)) (cond (Nat.ble y 143) (cond (Nat.ble y 142) 40 45) (cond (Nat.ble y 144) 46 44))))) (cond (Nat.ble y 160) (cond (Nat.ble y 152) (cond (Nat.ble y 148) (cond (Nat.ble y 146) 43 (cond (Nat.ble y 147) 48 49)) (cond (Nat.ble y 150) (cond (Nat.ble y 149) 47 42) (cond (Nat.ble y 151) 50 51))) (cond (Nat.ble y 156) (cond (Nat.ble y 154) (cond (Nat.ble y 153) 53 52) (cond (Nat.ble y 155) 1225 1300)) (cond (Nat.ble y 158) (cond (Nat.ble y 157) 1304 0) (cond (Nat.ble y 159) 0 65)))) (cond (Nat.ble y 167) (cond (Nat.ble y 163) (cond (Nat.ble y 161) 64 (cond (Nat.ble y 162) 63 66)) (cond (Nat.ble y 165) (cond (Nat.ble y 164) 62 61) (cond (Nat.ble y 166) 71 73))) (cond (Nat.ble y 171) (cond (Nat.ble y 169) (cond (Nat.ble y 168) 72 56) (cond (Nat.ble y 170) 54 57)) (cond (Nat.ble y 173) (cond (Nat.ble y 172) 58 1308) (cond (Nat.ble y 174) 1312 1324)))))) (cond (Nat.ble y 204) (cond (Nat.ble y 189) (cond (Nat.ble y 182) (cond (Nat.ble y 178) (cond (Nat.ble y 176) 1332 (cond (Nat.ble y 177) 1340 68)) (cond (Nat.ble y 180) (cond (Nat.ble y 179) 69 1390) (cond (Nat.ble y 181) 70 1402))) (cond (Nat.ble y 185) (cond (Nat.ble y 183) 1410 (cond (Nat.ble y 184) 1414 1418)) (cond (Nat.ble y 187) (cond (Nat.ble y 186) 1422 1426) (cond (Nat.ble y 188) 1430 1434)))) (cond (Nat.ble y 196) (cond (Nat.ble y 192) (cond (Nat.ble y 190) 1442 (cond (Nat.ble y 191) 74 1454)) (cond (Nat.ble y 194) (cond (Nat.ble y 193) 1462 1466) (cond (Nat.ble y 195) 1470 75))) (cond (Nat.ble y 200) (cond (Nat.ble y 198) (cond (Nat.ble y 197) 76 1474) (cond (Nat.ble y 199) 1486 1490)) (cond (Nat.ble y 202) (cond (Nat.ble y 201) 77 1494) (cond (Nat.ble y 203) 1502 1506))))) (cond (Nat.ble y 219) (cond (Nat.ble y 211) (cond (Nat.ble y 207) (cond (Nat.ble y 205) 79 (cond (Nat.ble y 206) 78 1510)) (cond (Nat.ble y 209) (cond (Nat.ble y 208) 1522 0) (cond (Nat.ble y 210) 0 0))) (cond (Nat.ble y 215) (cond (Nat.ble y 213) (cond (Nat.ble y 212) 0 0) (cond (Nat.ble y 214) 0 0)) (cond (Nat.ble y 217) (cond (Nat.ble y 216) 0 0) (cond (Nat.ble y 218) 0 0)))) (cond (Nat.ble y 226) (cond (Nat.ble y 222) (cond (Nat.ble y 220) 0 (cond (Nat.ble y 221) 0 0)) (cond (Nat.ble y 224) (cond (Nat.ble y 223) 0 0) (cond (Nat.ble y 225) 0 0))) (cond (Nat.ble y 230) (cond (Nat.ble y 228) (cond (Nat.ble y 227) 0 0) (cond (Nat.ble y 229) 0 0)) (cond (Nat.ble y 232) (cond (Nat.ble y 231) 0 0) (cond (Nat.ble y 233) 0 0))))))))
def zin0 (c : Nat) : Nat := (cond (Nat.ble c 4) (cond (Nat.ble c 1) (cond (Nat.ble c 0) 87 84) (cond (Nat.ble c 2) 85 (cond (Nat.ble c 3) 82 86))) (cond (Nat.ble c 7) (cond (Nat.ble c 5) 83 (cond (Nat.ble c 6) 81 88)) (cond (Nat.ble c 8) 80 (cond (Nat.ble c 9) 103 100))))
def zyk (y : Nat) : Bool := (plainName (zY y).cls && decide ((zY y).cls = zRn (zcl y))) && ((decide ((zY y).cls ≠ "java/lang/invoke/MethodHandle" ∧ (zY y).cls ≠ "java/lang/invoke/VarHandle") && zgd (zin0 (zcl y)) (.initialized (zRn (zcl y)))) && (Nat.ble (zML y) 45 && Nat.ble (zcl y) 10))
theorem zyk_all : (List.range 235).all zyk = true := by decide +kernel
def zfk (c ix : Nat) : Bool := match zfl c ix with
  | none => true
  | some (ci, j) => (zgd (zflp c ix) (.fieldLink (zRn c) ix (zRn ci) (zT ci j).2.1 (zT ci j).2.2.1) && decide ((zT ci j).1 = zRn ci)) && (Nat.ble (j + 1) (zNF ci) && Nat.ble (ci + 1) 8)
theorem zfk_all : (List.range 11).all (fun c => (List.range 400).all (zfk c)) = true := by decide +kernel
def zpn (y n : Nat) : Bool := decide ((parseMethodDescriptor (zY y).desc).map (fun d => d.parameters.length) = some n)
def zmk (c ix : Nat) : Bool := match zml c ix with
  | none => true
  | some (0, y, n) => (zgd (zmlp c ix) (.methodLink (zRn c) ix (zY y)) && zgd (zyi y) (.instanceMethod (zY y))) && (zgd (zys y) (.selects (zY y).cls (zY y) (zY y)) && (zpn y n && Nat.ble (y + 1) 235))
  | some (1, y, n) => (zgd (zmlp c ix) (.methodLink (zRn c) ix (zY y)) && zgd (zyi y) (.static (zY y))) && (zpn y n && Nat.ble (y + 1) 235)
  | some (2, y, n) => (decide (lw_tbl[zmlp c ix]? = some (.methodLinkNest (zRn c) ix (zY y) "TrainTimetable")) && zgd (zyi y) (.static (zY y))) && (zpn y n && Nat.ble (y + 1) 235)
  | some (3, y, n) => (zgd (zmlp c ix) (.methodLink (zRn c) ix (zY y)) && zgd (zyi y) (.instanceMethod (zY y))) && (zpn y n && (decide ((zY y).name = "<init>") && (Nat.ble (y + 1) 235 && decide (zRt y = none))))
  | some (10, y, n) => (zgd (zmlp c ix) (.methodLink (zRn c) ix (zY y)) && zgd (zyi y) (.static (zY y))) && (zpn y n && Nat.ble (y + 1) 235)
  | some (4, _, _) => zgd (zmlp c ix) (.methodLink (zRn c) ix Lib.Math.max.name)
  | some (5, _, _) => zgd (zmlp c ix) (.methodLink (zRn c) ix Lib.Math.min.name)
  | some (6, _, _) => zgd (zmlp c ix) (.methodLink (zRn c) ix arraycopyName)
  | some (7, _, _) => zgd (zmlp c ix) (.methodLink (zRn c) ix yJ0_length_8abf5)
  | some (8, _, _) => zgd (zmlp c ix) (.methodLink (zRn c) ix yJ0_charAt_5068e)
  | some (9, _, _) => zgd (zmlp c ix) (.methodLink (zRn c) ix Lib.objectInit)
  | _ => false
theorem zmk_0_0 : (List.range' 0 100).all (zmk 0) = true := by decide +kernel
theorem zmk_0_100 : (List.range' 100 100).all (zmk 0) = true := by decide +kernel
theorem zmk_0_200 : (List.range' 200 100).all (zmk 0) = true := by decide +kernel
theorem zmk_0_300 : (List.range' 300 100).all (zmk 0) = true := by decide +kernel
theorem zmk_1_0 : (List.range' 0 100).all (zmk 1) = true := by decide +kernel
theorem zmk_1_100 : (List.range' 100 100).all (zmk 1) = true := by decide +kernel
theorem zmk_1_200 : (List.range' 200 100).all (zmk 1) = true := by decide +kernel
theorem zmk_1_300 : (List.range' 300 100).all (zmk 1) = true := by decide +kernel
theorem zmk_2_0 : (List.range' 0 100).all (zmk 2) = true := by decide +kernel
theorem zmk_2_100 : (List.range' 100 100).all (zmk 2) = true := by decide +kernel
theorem zmk_2_200 : (List.range' 200 100).all (zmk 2) = true := by decide +kernel
theorem zmk_2_300 : (List.range' 300 100).all (zmk 2) = true := by decide +kernel
theorem zmk_3_0 : (List.range' 0 100).all (zmk 3) = true := by decide +kernel
theorem zmk_3_100 : (List.range' 100 100).all (zmk 3) = true := by decide +kernel
theorem zmk_3_200 : (List.range' 200 100).all (zmk 3) = true := by decide +kernel
theorem zmk_3_300 : (List.range' 300 100).all (zmk 3) = true := by decide +kernel
theorem zmk_4_0 : (List.range' 0 100).all (zmk 4) = true := by decide +kernel
theorem zmk_4_100 : (List.range' 100 100).all (zmk 4) = true := by decide +kernel
theorem zmk_4_200 : (List.range' 200 100).all (zmk 4) = true := by decide +kernel
theorem zmk_4_300 : (List.range' 300 100).all (zmk 4) = true := by decide +kernel
theorem zmk_5_0 : (List.range' 0 100).all (zmk 5) = true := by decide +kernel
theorem zmk_5_100 : (List.range' 100 100).all (zmk 5) = true := by decide +kernel
theorem zmk_5_200 : (List.range' 200 100).all (zmk 5) = true := by decide +kernel
theorem zmk_5_300 : (List.range' 300 100).all (zmk 5) = true := by decide +kernel
theorem zmk_6_0 : (List.range' 0 100).all (zmk 6) = true := by decide +kernel
theorem zmk_6_100 : (List.range' 100 100).all (zmk 6) = true := by decide +kernel
theorem zmk_6_200 : (List.range' 200 100).all (zmk 6) = true := by decide +kernel
theorem zmk_6_300 : (List.range' 300 100).all (zmk 6) = true := by decide +kernel
theorem zmk_7_0 : (List.range' 0 100).all (zmk 7) = true := by decide +kernel
theorem zmk_7_100 : (List.range' 100 100).all (zmk 7) = true := by decide +kernel
theorem zmk_7_200 : (List.range' 200 100).all (zmk 7) = true := by decide +kernel
theorem zmk_7_300 : (List.range' 300 100).all (zmk 7) = true := by decide +kernel
theorem zmk_8_0 : (List.range' 0 100).all (zmk 8) = true := by decide +kernel
theorem zmk_8_100 : (List.range' 100 100).all (zmk 8) = true := by decide +kernel
theorem zmk_8_200 : (List.range' 200 100).all (zmk 8) = true := by decide +kernel
theorem zmk_8_300 : (List.range' 300 100).all (zmk 8) = true := by decide +kernel
theorem zmk_9_0 : (List.range' 0 100).all (zmk 9) = true := by decide +kernel
theorem zmk_9_100 : (List.range' 100 100).all (zmk 9) = true := by decide +kernel
theorem zmk_9_200 : (List.range' 200 100).all (zmk 9) = true := by decide +kernel
theorem zmk_9_300 : (List.range' 300 100).all (zmk 9) = true := by decide +kernel
theorem zmk_10_0 : (List.range' 0 100).all (zmk 10) = true := by decide +kernel
theorem zmk_10_100 : (List.range' 100 100).all (zmk 10) = true := by decide +kernel
theorem zmk_10_200 : (List.range' 200 100).all (zmk 10) = true := by decide +kernel
theorem zmk_10_300 : (List.range' 300 100).all (zmk 10) = true := by decide +kernel
theorem zrg' {a n : Nat} {f : Nat → Bool} (h : (List.range' a n).all f = true) {k : Nat} (h1 : a ≤ k) (h2 : k < a + n) : f k = true := List.all_eq_true.mp h k (List.mem_range'_1.mpr ⟨h1, h2⟩)
theorem zmk_all (c : Nat) (hc : c < 11) (ix : Nat) (hi : ix < 400) : zmk c ix = true := by
  rcases (show c = 0 ∨ c = 1 ∨ c = 2 ∨ c = 3 ∨ c = 4 ∨ c = 5 ∨ c = 6 ∨ c = 7 ∨ c = 8 ∨ c = 9 ∨ c = 10 by omega) with rfl | rfl | rfl | rfl | rfl | rfl | rfl | rfl | rfl | rfl | rfl
  · rcases Nat.lt_or_ge ix 100 with q | q
    · exact zrg' zmk_0_0 (by omega) (by omega)
    · rcases Nat.lt_or_ge ix 200 with q | q
      · exact zrg' zmk_0_100 (by omega) (by omega)
      · rcases Nat.lt_or_ge ix 300 with q | q
        · exact zrg' zmk_0_200 (by omega) (by omega)
        · exact zrg' zmk_0_300 (by omega) (by omega)
  · rcases Nat.lt_or_ge ix 100 with q | q
    · exact zrg' zmk_1_0 (by omega) (by omega)
    · rcases Nat.lt_or_ge ix 200 with q | q
      · exact zrg' zmk_1_100 (by omega) (by omega)
      · rcases Nat.lt_or_ge ix 300 with q | q
        · exact zrg' zmk_1_200 (by omega) (by omega)
        · exact zrg' zmk_1_300 (by omega) (by omega)
  · rcases Nat.lt_or_ge ix 100 with q | q
    · exact zrg' zmk_2_0 (by omega) (by omega)
    · rcases Nat.lt_or_ge ix 200 with q | q
      · exact zrg' zmk_2_100 (by omega) (by omega)
      · rcases Nat.lt_or_ge ix 300 with q | q
        · exact zrg' zmk_2_200 (by omega) (by omega)
        · exact zrg' zmk_2_300 (by omega) (by omega)
  · rcases Nat.lt_or_ge ix 100 with q | q
    · exact zrg' zmk_3_0 (by omega) (by omega)
    · rcases Nat.lt_or_ge ix 200 with q | q
      · exact zrg' zmk_3_100 (by omega) (by omega)
      · rcases Nat.lt_or_ge ix 300 with q | q
        · exact zrg' zmk_3_200 (by omega) (by omega)
        · exact zrg' zmk_3_300 (by omega) (by omega)
  · rcases Nat.lt_or_ge ix 100 with q | q
    · exact zrg' zmk_4_0 (by omega) (by omega)
    · rcases Nat.lt_or_ge ix 200 with q | q
      · exact zrg' zmk_4_100 (by omega) (by omega)
      · rcases Nat.lt_or_ge ix 300 with q | q
        · exact zrg' zmk_4_200 (by omega) (by omega)
        · exact zrg' zmk_4_300 (by omega) (by omega)
  · rcases Nat.lt_or_ge ix 100 with q | q
    · exact zrg' zmk_5_0 (by omega) (by omega)
    · rcases Nat.lt_or_ge ix 200 with q | q
      · exact zrg' zmk_5_100 (by omega) (by omega)
      · rcases Nat.lt_or_ge ix 300 with q | q
        · exact zrg' zmk_5_200 (by omega) (by omega)
        · exact zrg' zmk_5_300 (by omega) (by omega)
  · rcases Nat.lt_or_ge ix 100 with q | q
    · exact zrg' zmk_6_0 (by omega) (by omega)
    · rcases Nat.lt_or_ge ix 200 with q | q
      · exact zrg' zmk_6_100 (by omega) (by omega)
      · rcases Nat.lt_or_ge ix 300 with q | q
        · exact zrg' zmk_6_200 (by omega) (by omega)
        · exact zrg' zmk_6_300 (by omega) (by omega)
  · rcases Nat.lt_or_ge ix 100 with q | q
    · exact zrg' zmk_7_0 (by omega) (by omega)
    · rcases Nat.lt_or_ge ix 200 with q | q
      · exact zrg' zmk_7_100 (by omega) (by omega)
      · rcases Nat.lt_or_ge ix 300 with q | q
        · exact zrg' zmk_7_200 (by omega) (by omega)
        · exact zrg' zmk_7_300 (by omega) (by omega)
  · rcases Nat.lt_or_ge ix 100 with q | q
    · exact zrg' zmk_8_0 (by omega) (by omega)
    · rcases Nat.lt_or_ge ix 200 with q | q
      · exact zrg' zmk_8_100 (by omega) (by omega)
      · rcases Nat.lt_or_ge ix 300 with q | q
        · exact zrg' zmk_8_200 (by omega) (by omega)
        · exact zrg' zmk_8_300 (by omega) (by omega)
  · rcases Nat.lt_or_ge ix 100 with q | q
    · exact zrg' zmk_9_0 (by omega) (by omega)
    · rcases Nat.lt_or_ge ix 200 with q | q
      · exact zrg' zmk_9_100 (by omega) (by omega)
      · rcases Nat.lt_or_ge ix 300 with q | q
        · exact zrg' zmk_9_200 (by omega) (by omega)
        · exact zrg' zmk_9_300 (by omega) (by omega)
  · rcases Nat.lt_or_ge ix 100 with q | q
    · exact zrg' zmk_10_0 (by omega) (by omega)
    · rcases Nat.lt_or_ge ix 200 with q | q
      · exact zrg' zmk_10_100 (by omega) (by omega)
      · rcases Nat.lt_or_ge ix 300 with q | q
        · exact zrg' zmk_10_200 (by omega) (by omega)
        · exact zrg' zmk_10_300 (by omega) (by omega)
def zinp (c : Nat) : Nat := (cond (Nat.ble c 3) (cond (Nat.ble c 1) (cond (Nat.ble c 0) 260 155) (cond (Nat.ble c 2) 218 113)) (cond (Nat.ble c 5) (cond (Nat.ble c 4) 234 119) (cond (Nat.ble c 6) 105 1078)))
def znk (c ix : Nat) : Bool := match znw c ix with
  | none => true
  | some ci => zgd (znwp c ix) (.classLink (zRn c) ix (zRn ci)) && (zgd (zinp ci) (.instantiable (zRn ci) (zNF ci)) && (zgd (zin0 ci) (.initialized (zRn ci)) && Nat.ble (ci + 1) 8))
theorem znk_all : (List.range 11).all (fun c => (List.range 400).all (znk c)) = true := by decide +kernel
theorem zkc_all : (List.range 11).all (fun c => (List.range 400).all (fun ix => match zkc c ix with | none => true | some v => decide (Jvm.Cond.constant (zRn c) ix v ∈ zWd))) = true := by decide +kernel
theorem zws_in (c : Nat) (hc : c < 8) : ∀ w ∈ u_ws (zRn c) (zT c) (zNF c), w ∈ zWd := by
  rcases (show c = 0 ∨ c = 1 ∨ c = 2 ∨ c = 3 ∨ c = 4 ∨ c = 5 ∨ c = 6 ∨ c = 7 by omega) with rfl | rfl | rfl | rfl | rfl | rfl | rfl | rfl <;> decide +kernel
theorem zty_ok (c : Nat) (hc : c < 8) : ∀ k, k < zNF c → parseFieldDescriptor (zT c k).2.2.1 = some (zTy c k) := by
  rcases (show c = 0 ∨ c = 1 ∨ c = 2 ∨ c = 3 ∨ c = 4 ∨ c = 5 ∨ c = 6 ∨ c = 7 by omega) with rfl | rfl | rfl | rfl | rfl | rfl | rfl | rfl
  · exact tyX0_ok
  · exact tyX1_ok
  · exact tyX2_ok
  · exact tyX3_ok
  · exact tyX4_ok
  · exact tyX5_ok
  · exact tyX6_ok
  · exact tyX7_ok
theorem znm_ok (c : Nat) (hc : c < 8) : ∀ a, a < zNF c → ∀ b, b < zNF c → a ≠ b → (zT c a).2.1 ≠ (zT c b).2.1 := by
  rcases (show c = 0 ∨ c = 1 ∨ c = 2 ∨ c = 3 ∨ c = 4 ∨ c = 5 ∨ c = 6 ∨ c = 7 by omega) with rfl | rfl | rfl | rfl | rfl | rfl | rfl | rfl
  · exact nmX0
  · exact nmX1
  · exact nmX2
  · exact nmX3
  · exact nmX4
  · exact nmX5
  · exact nmX6
  · exact nmX7
theorem zcl_ok (c : Nat) (hc : c < 8) : vwCl[c]? = some (zRn c, zT c, zNF c) := by
  rcases (show c = 0 ∨ c = 1 ∨ c = 2 ∨ c = 3 ∨ c = 4 ∨ c = 5 ∨ c = 6 ∨ c = 7 by omega) with rfl | rfl | rfl | rfl | rfl | rfl | rfl | rfl <;> rfl
theorem zarr_in : ∀ ty ∈ ([.int, .byte, .boolean, .long, .double] : List FieldType), Jvm.Cond.arrayClass ty ∈ zWd := by decide +kernel
theorem zlib_in : ∀ w ∈ ([.static Lib.Math.max.name, .static Lib.Math.min.name, .initialized "java/lang/Math", .native arraycopyName, .static arraycopyName, .initialized "java/lang/System", .instanceMethod Lib.objectInit, .classLink RL 13 "java/lang/IllegalStateException"] : List Jvm.Cond), w ∈ zWd := by decide +kernel
