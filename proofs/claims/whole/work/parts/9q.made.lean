/-! law: both objects are made -/
def hE : zH := ([], fun _ _ => .null, fun _ _ => 0, fun _ _ => 0, fun _ _ => 0, fun _ _ => 0)
section
variable {ε : Nat × (Nat → Int32)} {d y pc : Nat} {l : zL} {st r : List Value} {h h2 : zH} {uc us : Nat} {Q : zQ}
theorem zW_nw {c ix n : Nat} (hI : zI y pc = some (.new ix, 3)) (ht : cond (Nat.ble pc 299) (zth y pc) none = none) (hc : znw (zcl y) ix = some c) (hn : h.1.length = n) (hok : (zoks n l st && zokh h) = true) (hl : Nat.ble (n + 1) 1000 = true) (hu : uc + 1 ≤ zMc y) (hs : us + zNF c ≤ zMs y) (he : h2 = zpO h c) (hh : zW ε true d y (pc + 3) l (.ref n :: st) h2 (uc + 1) (us + zNF c) Q) : zW ε true d y pc l st h uc us Q := by
  subst hn
  subst he
  refine zW_fold _ _ _ _ _ _ _ _ _ _ ?_
  unfold zstep
  rw [hI]
  show znew (zW ε) true d y pc l st h uc us Q (.new ix) 3
  unfold znew
  dsimp only
  rw [ht]
  dsimp only
  rw [hc]
  dsimp only
  rw [hok, hl]
  exact ⟨⟨hu, hs⟩, hh⟩
theorem zW_na {t : ArrayType} {m n : Nat} {i : Int32} (hI : zI y pc = some (.newarray t, 2)) (hm : i.toNatClampNeg = m) (h0 : (decide (¬ i < 0) && Nat.ble m 4000) = true) (ht : Nat.ble (zaty t) 5 = true) (hn : h.1.length = n) (hok : (zoks n l r && zokh h) = true) (hl : Nat.ble (n + 1) 1000 = true) (hu : uc + 1 ≤ zMc y) (hs : us + m ≤ zMs y) (he : h2 = zpN h (zaty t) m) (hh : zW ε true d y (pc + 2) l (.ref n :: r) h2 (uc + 1) (us + m) Q) : zW ε true d y pc l (.int i :: r) h uc us Q := by
  subst hm
  subst hn
  subst he
  refine zW_fold _ _ _ _ _ _ _ _ _ _ ?_
  unfold zstep
  rw [hI]
  show znew (zW ε) true d y pc l (.int i :: r) h uc us Q (.newarray t) 2
  unfold znew
  dsimp only
  rw [ht, hok, hl, h0]
  exact ⟨⟨hu, hs⟩, hh⟩
end
def kH1 : zH := zpO hE 6
def kH2 : zH := zpO kH1 3
def kH3 : zH := zpO kH2 5
def kH4 : zH := zpN kH3 2 500
def kH5 : zH := zpR kH4 2 3 (.ref 3)
def kH6 : zH := zpI kH5 2 2 ((Int32.ofInt (-1)))
def kH7 : zH := zpR kH6 1 0 (.ref 2)
def kH8 : zH := zpO kH7 1
def kH9 : zH := zpN kH8 1 8
def kH10 : zH := zpR kH9 4 6 (.ref 5)
def kH11 : zH := zpN kH10 1 64
def kH12 : zH := zpR kH11 4 7 (.ref 6)
def kH13 : zH := zpN kH12 1 64
def kH14 : zH := zpR kH13 4 8 (.ref 7)
def kH15 : zH := zpI kH14 4 0 ((Int32.ofInt (2)))
def kH16 : zH := zpI kH15 4 5 ((Int32.ofInt (3)))
def kH17 : zH := zpA kH16 5 (upd (kH16.2.2.2.1 5) (Int32.ofInt (0)).toNatClampNeg (Int32.ofInt (1)))
def kH18 : zH := zpI kH17 4 3 ((Int32.ofInt (3)))
def kH19 : zH := zpI kH18 4 4 ((Int32.ofInt (5)))
def kH20 : zH := zpR kH19 1 1 (.ref 4)
def kH21 : zH := zpR kH20 0 0 (.ref 1)
def kH22 : zH := zpO kH21 1
def kH23 : zH := zpN kH22 1 8
def kH24 : zH := zpR kH23 8 6 (.ref 9)
def kH25 : zH := zpN kH24 1 64
def kH26 : zH := zpR kH25 8 7 (.ref 10)
def kH27 : zH := zpN kH26 1 64
def kH28 : zH := zpR kH27 8 8 (.ref 11)
def kH29 : zH := zpI kH28 8 0 ((Int32.ofInt (2)))
def kH30 : zH := zpI kH29 8 5 ((Int32.ofInt (3)))
def kH31 : zH := zpA kH30 9 (upd (kH30.2.2.2.1 9) (Int32.ofInt (0)).toNatClampNeg (Int32.ofInt (1)))
def kH32 : zH := zpI kH31 8 3 ((Int32.ofInt (3)))
def kH33 : zH := zpI kH32 8 4 ((Int32.ofInt (5)))
def kH34 : zH := zpR kH33 0 1 (.ref 8)
def kH35 : zH := zpO kH34 2
def kH36 : zH := zpR kH35 12 0 (.ref 8)
def kH37 : zH := zpN kH36 1 64
def kH38 : zH := zpR kH37 12 1 (.ref 13)
def kH39 : zH := zpN kH38 1 64
def kH40 : zH := zpR kH39 12 2 (.ref 14)
def kH41 : zH := zpR kH40 0 2 (.ref 12)
def kH42 : zH := zpO kH41 2
def kH43 : zH := zpR kH42 15 0 (.ref 8)
def kH44 : zH := zpN kH43 1 64
def kH45 : zH := zpR kH44 15 1 (.ref 16)
def kH46 : zH := zpN kH45 1 64
def kH47 : zH := zpR kH46 15 2 (.ref 17)
def kH48 : zH := zpR kH47 0 3 (.ref 15)
def kH49 : zH := zpO kH48 4
def kH50 : zH := zpN kH49 1 128
def kH51 : zH := zpR kH50 18 1 (.ref 8)
def kH52 : zH := zpR kH51 18 2 (.ref 12)
def kH53 : zH := zpR kH52 18 3 (.ref 19)
def kH54 : zH := zpI kH53 18 5 ((Int32.ofInt (1)))
def kH55 : zH := zpN kH54 1 128
def kH56 : zH := zpR kH55 18 0 (.ref 20)
def kH57 : zH := zpN kH56 1 128
def kH58 : zH := zpR kH57 18 4 (.ref 21)
def kH59 : zH := zpR kH58 0 4 (.ref 18)
def kH60 : zH := zpO kH59 4
def kH61 : zH := zpR kH60 22 1 (.ref 8)
def kH62 : zH := zpR kH61 22 2 (.ref 15)
def kH63 : zH := zpR kH62 22 3 (.ref 20)
def kH64 : zH := zpI kH63 22 5 ((Int32.ofInt (0)))
def kH65 : zH := zpN kH64 1 128
def kH66 : zH := zpR kH65 22 0 (.ref 23)
def kH67 : zH := zpN kH66 1 128
def kH68 : zH := zpR kH67 22 4 (.ref 24)
def kH69 : zH := zpR kH68 0 5 (.ref 22)
def kH70 : zH := zpO kH69 4
def kH71 : zH := zpR kH70 25 1 (.ref 8)
def kH72 : zH := zpR kH71 25 2 (.ref 12)
def kH73 : zH := zpR kH72 25 3 (.ref 20)
def kH74 : zH := zpI kH73 25 5 ((Int32.ofInt (0)))
def kH75 : zH := zpN kH74 1 128
def kH76 : zH := zpR kH75 25 0 (.ref 26)
def kH77 : zH := zpN kH76 1 128
def kH78 : zH := zpR kH77 25 4 (.ref 27)
def kH79 : zH := zpR kH78 0 6 (.ref 25)
def kH80 : zH := zpO kH79 0
def kH81 : zH := zpN kH80 1 8
def kH82 : zH := zpR kH81 28 0 (.ref 29)
def kH83 : zH := zpN kH82 1 8
def kH84 : zH := zpR kH83 28 1 (.ref 30)
def kH85 : zH := zpN kH84 1 8
def kH86 : zH := zpR kH85 28 2 (.ref 31)
def kH87 : zH := zpR kH86 0 7 (.ref 28)
def kH88 : zH := zpO kH87 7
def kH89 : zH := zpN kH88 1 92
def kH90 : zH := zpR kH89 32 1 (.ref 33)
def kH91 : zH := zpN kH90 1 92
def kH92 : zH := zpR kH91 32 2 (.ref 34)
def kH93 : zH := zpN kH92 1 56
def kH94 : zH := zpR kH93 32 3 (.ref 35)
def kH95 : zH := zpN kH94 1 56
def kH96 : zH := zpR kH95 32 4 (.ref 36)
def kH97 : zH := zpN kH96 1 56
def kH98 : zH := zpR kH97 32 5 (.ref 37)
def kH99 : zH := zpN kH98 1 56
def kH100 : zH := zpR kH99 32 6 (.ref 38)
def kH101 : zH := zpN kH100 1 64
def kH102 : zH := zpR kH101 32 7 (.ref 39)
def kH103 : zH := zpN kH102 1 64
def kH104 : zH := zpR kH103 32 8 (.ref 40)
def kH105 : zH := zpN kH104 1 500
def kH106 : zH := zpR kH105 32 10 (.ref 41)
def kH107 : zH := zpI kH106 32 18 ((Int32.ofInt (-1)))
def kH108 : zH := zpN kH107 1 64
def kH109 : zH := zpR kH108 32 19 (.ref 42)
def kH110 : zH := zpN kH109 1 64
def kH111 : zH := zpR kH110 32 20 (.ref 43)
def kH112 : zH := zpN kH111 1 64
def kH113 : zH := zpR kH112 32 21 (.ref 44)
def kH114 : zH := zpN kH113 1 64
def kH115 : zH := zpR kH114 32 22 (.ref 45)
def kH116 : zH := zpN kH115 3 8
def kH117 : zH := zpR kH116 32 23 (.ref 46)
def kH118 : zH := zpN kH117 1 64
def kH119 : zH := zpR kH118 32 28 (.ref 47)
def kH120 : zH := zpN kH119 1 64
def kH121 : zH := zpR kH120 32 29 (.ref 48)
def kH122 : zH := zpN kH121 1 7
def kH123 : zH := zpR kH122 32 30 (.ref 49)
def kH124 : zH := zpN kH123 1 7
def kH125 : zH := zpR kH124 32 31 (.ref 50)
section
variable {ε : Nat × (Nat → Int32)} {d : Nat} {Q : zQ}
theorem k_made (hq : zW ε true (d + 21) 124 154 [(0, .ref 32)] [] kH125 18 1442 (zbk (zW ε) true true (d + 22) 232 12 [(0, .ref 2000), (1, .ref 0)] [.ref 32] 33 (33 + zMc 124) (2046 + zMs 124) Q)) : zW ε true (d + 22) 232 0 [(0, .ref 2000)] [] hE 0 0 Q := by
  refine zW_nw (c := 6) (n := 0) (h2 := kH1) rfl rfl rfl rfl (by decide +kernel) rfl (Nat.le_of_ble_eq_true rfl) (Nat.le_of_ble_eq_true rfl) rfl ?_
  refine zrun 2 ⟨⟨Nat.le_of_ble_eq_true rfl, Nat.le_of_ble_eq_true rfl, rfl⟩, ?_⟩
  refine zrun 2 ⟨by decide, ?_⟩
  refine zrun 1 ?_
  refine zW_nw (c := 3) (n := 1) (h2 := kH2) rfl rfl rfl rfl (by decide +kernel) rfl (Nat.le_of_ble_eq_true rfl) (Nat.le_of_ble_eq_true rfl) rfl ?_
  refine zrun 2 ⟨⟨Nat.le_of_ble_eq_true rfl, Nat.le_of_ble_eq_true rfl, rfl⟩, ?_⟩
  refine zrun 2 ⟨by decide, ?_⟩
  refine zrun 1 ?_
  refine zW_nw (c := 5) (n := 2) (h2 := kH3) rfl rfl rfl rfl (by decide +kernel) rfl (Nat.le_of_ble_eq_true rfl) (Nat.le_of_ble_eq_true rfl) rfl ?_
  refine zrun 2 ⟨⟨Nat.le_of_ble_eq_true rfl, Nat.le_of_ble_eq_true rfl, rfl⟩, ?_⟩
  refine zrun 2 ⟨by decide, ?_⟩
  refine zrun 2 ?_
  refine zW_na (m := 500) (n := 3) (h2 := kH4) rfl rfl rfl rfl rfl (by decide +kernel) rfl (Nat.le_of_ble_eq_true rfl) (Nat.le_of_ble_eq_true rfl) rfl ?_
  refine zrun 1 (?_ : zW ε true _ _ _ _ _ kH5 _ _ _)
  refine zrun 3 (?_ : zW ε true _ _ _ _ _ kH6 _ _ _)
  refine zrun 1 ⟨rfl, ?_⟩
  refine zrun 1 (?_ : zW ε true _ _ _ _ _ kH7 _ _ _)
  refine zrun 1 ?_
  refine zW_nw (c := 1) (n := 4) (h2 := kH8) rfl rfl rfl rfl (by decide +kernel) rfl (Nat.le_of_ble_eq_true rfl) (Nat.le_of_ble_eq_true rfl) rfl ?_
  refine zrun 2 ⟨⟨Nat.le_of_ble_eq_true rfl, Nat.le_of_ble_eq_true rfl, rfl⟩, ?_⟩
  refine zrun 2 ⟨by decide, ?_⟩
  refine zrun 2 ?_
  refine zW_na (m := 8) (n := 5) (h2 := kH9) rfl rfl rfl rfl rfl (by decide +kernel) rfl (Nat.le_of_ble_eq_true rfl) (Nat.le_of_ble_eq_true rfl) rfl ?_
  refine zrun 1 (?_ : zW ε true _ _ _ _ _ kH10 _ _ _)
  refine zrun 2 ?_
  refine zW_na (m := 64) (n := 6) (h2 := kH11) rfl rfl rfl rfl rfl (by decide +kernel) rfl (Nat.le_of_ble_eq_true rfl) (Nat.le_of_ble_eq_true rfl) rfl ?_
  refine zrun 1 (?_ : zW ε true _ _ _ _ _ kH12 _ _ _)
  refine zrun 2 ?_
  refine zW_na (m := 64) (n := 7) (h2 := kH13) rfl rfl rfl rfl rfl (by decide +kernel) rfl (Nat.le_of_ble_eq_true rfl) (Nat.le_of_ble_eq_true rfl) rfl ?_
  refine zrun 1 (?_ : zW ε true _ _ _ _ _ kH14 _ _ _)
  refine zrun 3 (?_ : zW ε true _ _ _ _ _ kH15 _ _ _)
  refine zrun 3 (?_ : zW ε true _ _ _ _ _ kH16 _ _ _)
  refine zrun 5 ⟨fun z => absurd z (by decide), (?_ : zW ε true _ _ _ _ _ kH17 _ _ _)⟩
  refine zrun 3 (?_ : zW ε true _ _ _ _ _ kH18 _ _ _)
  refine zrun 3 (?_ : zW ε true _ _ _ _ _ kH19 _ _ _)
  refine zrun 1 ⟨rfl, ?_⟩
  refine zrun 1 (?_ : zW ε true _ _ _ _ _ kH20 _ _ _)
  refine zrun 1 ⟨rfl, ?_⟩
  refine zrun 1 (?_ : zW ε true _ _ _ _ _ kH21 _ _ _)
  refine zrun 1 ?_
  refine zW_nw (c := 1) (n := 8) (h2 := kH22) rfl rfl rfl rfl (by decide +kernel) rfl (Nat.le_of_ble_eq_true rfl) (Nat.le_of_ble_eq_true rfl) rfl ?_
  refine zrun 2 ⟨⟨Nat.le_of_ble_eq_true rfl, Nat.le_of_ble_eq_true rfl, rfl⟩, ?_⟩
  refine zrun 2 ⟨by decide, ?_⟩
  refine zrun 2 ?_
  refine zW_na (m := 8) (n := 9) (h2 := kH23) rfl rfl rfl rfl rfl (by decide +kernel) rfl (Nat.le_of_ble_eq_true rfl) (Nat.le_of_ble_eq_true rfl) rfl ?_
  refine zrun 1 (?_ : zW ε true _ _ _ _ _ kH24 _ _ _)
  refine zrun 2 ?_
  refine zW_na (m := 64) (n := 10) (h2 := kH25) rfl rfl rfl rfl rfl (by decide +kernel) rfl (Nat.le_of_ble_eq_true rfl) (Nat.le_of_ble_eq_true rfl) rfl ?_
  refine zrun 1 (?_ : zW ε true _ _ _ _ _ kH26 _ _ _)
  refine zrun 2 ?_
  refine zW_na (m := 64) (n := 11) (h2 := kH27) rfl rfl rfl rfl rfl (by decide +kernel) rfl (Nat.le_of_ble_eq_true rfl) (Nat.le_of_ble_eq_true rfl) rfl ?_
  refine zrun 1 (?_ : zW ε true _ _ _ _ _ kH28 _ _ _)
  refine zrun 3 (?_ : zW ε true _ _ _ _ _ kH29 _ _ _)
  refine zrun 3 (?_ : zW ε true _ _ _ _ _ kH30 _ _ _)
  refine zrun 5 ⟨fun z => absurd z (by decide), (?_ : zW ε true _ _ _ _ _ kH31 _ _ _)⟩
  refine zrun 3 (?_ : zW ε true _ _ _ _ _ kH32 _ _ _)
  refine zrun 3 (?_ : zW ε true _ _ _ _ _ kH33 _ _ _)
  refine zrun 1 ⟨rfl, ?_⟩
  refine zrun 1 (?_ : zW ε true _ _ _ _ _ kH34 _ _ _)
  refine zrun 1 ?_
  refine zW_nw (c := 2) (n := 12) (h2 := kH35) rfl rfl rfl rfl (by decide +kernel) rfl (Nat.le_of_ble_eq_true rfl) (Nat.le_of_ble_eq_true rfl) rfl ?_
  refine zrun 4 ⟨⟨Nat.le_of_ble_eq_true rfl, Nat.le_of_ble_eq_true rfl, rfl⟩, ?_⟩
  refine zrun 2 ⟨by decide, ?_⟩
  refine zrun 3 (?_ : zW ε true _ _ _ _ _ kH36 _ _ _)
  refine zrun 2 ?_
  refine zW_na (m := 64) (n := 13) (h2 := kH37) rfl rfl rfl rfl rfl (by decide +kernel) rfl (Nat.le_of_ble_eq_true rfl) (Nat.le_of_ble_eq_true rfl) rfl ?_
  refine zrun 1 (?_ : zW ε true _ _ _ _ _ kH38 _ _ _)
  refine zrun 2 ?_
  refine zW_na (m := 64) (n := 14) (h2 := kH39) rfl rfl rfl rfl rfl (by decide +kernel) rfl (Nat.le_of_ble_eq_true rfl) (Nat.le_of_ble_eq_true rfl) rfl ?_
  refine zrun 1 (?_ : zW ε true _ _ _ _ _ kH40 _ _ _)
  refine zrun 1 ⟨rfl, ?_⟩
  refine zrun 1 (?_ : zW ε true _ _ _ _ _ kH41 _ _ _)
  refine zrun 1 ?_
  refine zW_nw (c := 2) (n := 15) (h2 := kH42) rfl rfl rfl rfl (by decide +kernel) rfl (Nat.le_of_ble_eq_true rfl) (Nat.le_of_ble_eq_true rfl) rfl ?_
  refine zrun 4 ⟨⟨Nat.le_of_ble_eq_true rfl, Nat.le_of_ble_eq_true rfl, rfl⟩, ?_⟩
  refine zrun 2 ⟨by decide, ?_⟩
  refine zrun 3 (?_ : zW ε true _ _ _ _ _ kH43 _ _ _)
  refine zrun 2 ?_
  refine zW_na (m := 64) (n := 16) (h2 := kH44) rfl rfl rfl rfl rfl (by decide +kernel) rfl (Nat.le_of_ble_eq_true rfl) (Nat.le_of_ble_eq_true rfl) rfl ?_
  refine zrun 1 (?_ : zW ε true _ _ _ _ _ kH45 _ _ _)
  refine zrun 2 ?_
  refine zW_na (m := 64) (n := 17) (h2 := kH46) rfl rfl rfl rfl rfl (by decide +kernel) rfl (Nat.le_of_ble_eq_true rfl) (Nat.le_of_ble_eq_true rfl) rfl ?_
  refine zrun 1 (?_ : zW ε true _ _ _ _ _ kH47 _ _ _)
  refine zrun 1 ⟨rfl, ?_⟩
  refine zrun 1 (?_ : zW ε true _ _ _ _ _ kH48 _ _ _)
  refine zrun 1 ?_
  refine zW_nw (c := 4) (n := 18) (h2 := kH49) rfl rfl rfl rfl (by decide +kernel) rfl (Nat.le_of_ble_eq_true rfl) (Nat.le_of_ble_eq_true rfl) rfl ?_
  refine zrun 6 ?_
  refine zW_na (m := 128) (n := 19) (h2 := kH50) rfl rfl rfl rfl rfl (by decide +kernel) rfl (Nat.le_of_ble_eq_true rfl) (Nat.le_of_ble_eq_true rfl) rfl ?_
  refine zrun 2 ⟨⟨Nat.le_of_ble_eq_true rfl, Nat.le_of_ble_eq_true rfl, rfl⟩, ?_⟩
  refine zrun 2 ⟨by decide, ?_⟩
  refine zrun 3 (?_ : zW ε true _ _ _ _ _ kH51 _ _ _)
  refine zrun 3 (?_ : zW ε true _ _ _ _ _ kH52 _ _ _)
  refine zrun 3 (?_ : zW ε true _ _ _ _ _ kH53 _ _ _)
  refine zrun 3 (?_ : zW ε true _ _ _ _ _ kH54 _ _ _)
  refine zrun 2 ?_
  refine zW_na (m := 128) (n := 20) (h2 := kH55) rfl rfl rfl rfl rfl (by decide +kernel) rfl (Nat.le_of_ble_eq_true rfl) (Nat.le_of_ble_eq_true rfl) rfl ?_
  refine zrun 1 (?_ : zW ε true _ _ _ _ _ kH56 _ _ _)
  refine zrun 2 ?_
  refine zW_na (m := 128) (n := 21) (h2 := kH57) rfl rfl rfl rfl rfl (by decide +kernel) rfl (Nat.le_of_ble_eq_true rfl) (Nat.le_of_ble_eq_true rfl) rfl ?_
  refine zrun 1 (?_ : zW ε true _ _ _ _ _ kH58 _ _ _)
  refine zrun 1 ⟨rfl, ?_⟩
  refine zrun 1 (?_ : zW ε true _ _ _ _ _ kH59 _ _ _)
  refine zrun 1 ?_
  refine zW_nw (c := 4) (n := 22) (h2 := kH60) rfl rfl rfl rfl (by decide +kernel) rfl (Nat.le_of_ble_eq_true rfl) (Nat.le_of_ble_eq_true rfl) rfl ?_
  refine zrun 10 ⟨⟨Nat.le_of_ble_eq_true rfl, Nat.le_of_ble_eq_true rfl, rfl⟩, ?_⟩
  refine zrun 2 ⟨by decide, ?_⟩
  refine zrun 3 (?_ : zW ε true _ _ _ _ _ kH61 _ _ _)
  refine zrun 3 (?_ : zW ε true _ _ _ _ _ kH62 _ _ _)
  refine zrun 3 (?_ : zW ε true _ _ _ _ _ kH63 _ _ _)
  refine zrun 3 (?_ : zW ε true _ _ _ _ _ kH64 _ _ _)
  refine zrun 2 ?_
  refine zW_na (m := 128) (n := 23) (h2 := kH65) rfl rfl rfl rfl rfl (by decide +kernel) rfl (Nat.le_of_ble_eq_true rfl) (Nat.le_of_ble_eq_true rfl) rfl ?_
  refine zrun 1 (?_ : zW ε true _ _ _ _ _ kH66 _ _ _)
  refine zrun 2 ?_
  refine zW_na (m := 128) (n := 24) (h2 := kH67) rfl rfl rfl rfl rfl (by decide +kernel) rfl (Nat.le_of_ble_eq_true rfl) (Nat.le_of_ble_eq_true rfl) rfl ?_
  refine zrun 1 (?_ : zW ε true _ _ _ _ _ kH68 _ _ _)
  refine zrun 1 ⟨rfl, ?_⟩
  refine zrun 1 (?_ : zW ε true _ _ _ _ _ kH69 _ _ _)
  refine zrun 1 ?_
  refine zW_nw (c := 4) (n := 25) (h2 := kH70) rfl rfl rfl rfl (by decide +kernel) rfl (Nat.le_of_ble_eq_true rfl) (Nat.le_of_ble_eq_true rfl) rfl ?_
  refine zrun 10 ⟨⟨Nat.le_of_ble_eq_true rfl, Nat.le_of_ble_eq_true rfl, rfl⟩, ?_⟩
  refine zrun 2 ⟨by decide, ?_⟩
  refine zrun 3 (?_ : zW ε true _ _ _ _ _ kH71 _ _ _)
  refine zrun 3 (?_ : zW ε true _ _ _ _ _ kH72 _ _ _)
  refine zrun 3 (?_ : zW ε true _ _ _ _ _ kH73 _ _ _)
  refine zrun 3 (?_ : zW ε true _ _ _ _ _ kH74 _ _ _)
  refine zrun 2 ?_
  refine zW_na (m := 128) (n := 26) (h2 := kH75) rfl rfl rfl rfl rfl (by decide +kernel) rfl (Nat.le_of_ble_eq_true rfl) (Nat.le_of_ble_eq_true rfl) rfl ?_
  refine zrun 1 (?_ : zW ε true _ _ _ _ _ kH76 _ _ _)
  refine zrun 2 ?_
  refine zW_na (m := 128) (n := 27) (h2 := kH77) rfl rfl rfl rfl rfl (by decide +kernel) rfl (Nat.le_of_ble_eq_true rfl) (Nat.le_of_ble_eq_true rfl) rfl ?_
  refine zrun 1 (?_ : zW ε true _ _ _ _ _ kH78 _ _ _)
  refine zrun 1 ⟨rfl, ?_⟩
  refine zrun 1 (?_ : zW ε true _ _ _ _ _ kH79 _ _ _)
  refine zrun 1 ?_
  refine zW_nw (c := 0) (n := 28) (h2 := kH80) rfl rfl rfl rfl (by decide +kernel) rfl (Nat.le_of_ble_eq_true rfl) (Nat.le_of_ble_eq_true rfl) rfl ?_
  refine zrun 2 ⟨⟨Nat.le_of_ble_eq_true rfl, Nat.le_of_ble_eq_true rfl, rfl⟩, ?_⟩
  refine zrun 2 ⟨by decide, ?_⟩
  refine zrun 2 ?_
  refine zW_na (m := 8) (n := 29) (h2 := kH81) rfl rfl rfl rfl rfl (by decide +kernel) rfl (Nat.le_of_ble_eq_true rfl) (Nat.le_of_ble_eq_true rfl) rfl ?_
  refine zrun 1 (?_ : zW ε true _ _ _ _ _ kH82 _ _ _)
  refine zrun 2 ?_
  refine zW_na (m := 8) (n := 30) (h2 := kH83) rfl rfl rfl rfl rfl (by decide +kernel) rfl (Nat.le_of_ble_eq_true rfl) (Nat.le_of_ble_eq_true rfl) rfl ?_
  refine zrun 1 (?_ : zW ε true _ _ _ _ _ kH84 _ _ _)
  refine zrun 2 ?_
  refine zW_na (m := 8) (n := 31) (h2 := kH85) rfl rfl rfl rfl rfl (by decide +kernel) rfl (Nat.le_of_ble_eq_true rfl) (Nat.le_of_ble_eq_true rfl) rfl ?_
  refine zrun 1 (?_ : zW ε true _ _ _ _ _ kH86 _ _ _)
  refine zrun 1 ⟨rfl, ?_⟩
  refine zrun 1 (?_ : zW ε true _ _ _ _ _ kH87 _ _ _)
  refine zrun 1 ⟨rfl, ?_⟩
  refine zrun 1 (zloc [(0, _), (1, _)] rfl ?_)
  refine zW_nw (c := 7) (n := 32) (h2 := kH88) rfl rfl rfl rfl (by decide +kernel) rfl (Nat.le_of_ble_eq_true rfl) (Nat.le_of_ble_eq_true rfl) rfl ?_
  refine zrun 2 ⟨⟨Nat.le_of_ble_eq_true rfl, Nat.le_of_ble_eq_true rfl, rfl⟩, ?_⟩
  refine zrun 2 ⟨by decide, ?_⟩
  refine zrun 2 ?_
  refine zW_na (m := 92) (n := 33) (h2 := kH89) rfl rfl rfl rfl rfl (by decide +kernel) rfl (Nat.le_of_ble_eq_true rfl) (Nat.le_of_ble_eq_true rfl) rfl ?_
  refine zrun 1 (?_ : zW ε true _ _ _ _ _ kH90 _ _ _)
  refine zrun 2 ?_
  refine zW_na (m := 92) (n := 34) (h2 := kH91) rfl rfl rfl rfl rfl (by decide +kernel) rfl (Nat.le_of_ble_eq_true rfl) (Nat.le_of_ble_eq_true rfl) rfl ?_
  refine zrun 1 (?_ : zW ε true _ _ _ _ _ kH92 _ _ _)
  refine zrun 2 ?_
  refine zW_na (m := 56) (n := 35) (h2 := kH93) rfl rfl rfl rfl rfl (by decide +kernel) rfl (Nat.le_of_ble_eq_true rfl) (Nat.le_of_ble_eq_true rfl) rfl ?_
  refine zrun 1 (?_ : zW ε true _ _ _ _ _ kH94 _ _ _)
  refine zrun 2 ?_
  refine zW_na (m := 56) (n := 36) (h2 := kH95) rfl rfl rfl rfl rfl (by decide +kernel) rfl (Nat.le_of_ble_eq_true rfl) (Nat.le_of_ble_eq_true rfl) rfl ?_
  refine zrun 1 (?_ : zW ε true _ _ _ _ _ kH96 _ _ _)
  refine zrun 2 ?_
  refine zW_na (m := 56) (n := 37) (h2 := kH97) rfl rfl rfl rfl rfl (by decide +kernel) rfl (Nat.le_of_ble_eq_true rfl) (Nat.le_of_ble_eq_true rfl) rfl ?_
  refine zrun 1 (?_ : zW ε true _ _ _ _ _ kH98 _ _ _)
  refine zrun 2 ?_
  refine zW_na (m := 56) (n := 38) (h2 := kH99) rfl rfl rfl rfl rfl (by decide +kernel) rfl (Nat.le_of_ble_eq_true rfl) (Nat.le_of_ble_eq_true rfl) rfl ?_
  refine zrun 1 (?_ : zW ε true _ _ _ _ _ kH100 _ _ _)
  refine zrun 2 ?_
  refine zW_na (m := 64) (n := 39) (h2 := kH101) rfl rfl rfl rfl rfl (by decide +kernel) rfl (Nat.le_of_ble_eq_true rfl) (Nat.le_of_ble_eq_true rfl) rfl ?_
  refine zrun 1 (?_ : zW ε true _ _ _ _ _ kH102 _ _ _)
  refine zrun 2 ?_
  refine zW_na (m := 64) (n := 40) (h2 := kH103) rfl rfl rfl rfl rfl (by decide +kernel) rfl (Nat.le_of_ble_eq_true rfl) (Nat.le_of_ble_eq_true rfl) rfl ?_
  refine zrun 1 (?_ : zW ε true _ _ _ _ _ kH104 _ _ _)
  refine zrun 2 ?_
  refine zW_na (m := 500) (n := 41) (h2 := kH105) rfl rfl rfl rfl rfl (by decide +kernel) rfl (Nat.le_of_ble_eq_true rfl) (Nat.le_of_ble_eq_true rfl) rfl ?_
  refine zrun 1 (?_ : zW ε true _ _ _ _ _ kH106 _ _ _)
  refine zrun 3 (?_ : zW ε true _ _ _ _ _ kH107 _ _ _)
  refine zrun 2 ?_
  refine zW_na (m := 64) (n := 42) (h2 := kH108) rfl rfl rfl rfl rfl (by decide +kernel) rfl (Nat.le_of_ble_eq_true rfl) (Nat.le_of_ble_eq_true rfl) rfl ?_
  refine zrun 1 (?_ : zW ε true _ _ _ _ _ kH109 _ _ _)
  refine zrun 2 ?_
  refine zW_na (m := 64) (n := 43) (h2 := kH110) rfl rfl rfl rfl rfl (by decide +kernel) rfl (Nat.le_of_ble_eq_true rfl) (Nat.le_of_ble_eq_true rfl) rfl ?_
  refine zrun 1 (?_ : zW ε true _ _ _ _ _ kH111 _ _ _)
  refine zrun 2 ?_
  refine zW_na (m := 64) (n := 44) (h2 := kH112) rfl rfl rfl rfl rfl (by decide +kernel) rfl (Nat.le_of_ble_eq_true rfl) (Nat.le_of_ble_eq_true rfl) rfl ?_
  refine zrun 1 (?_ : zW ε true _ _ _ _ _ kH113 _ _ _)
  refine zrun 2 ?_
  refine zW_na (m := 64) (n := 45) (h2 := kH114) rfl rfl rfl rfl rfl (by decide +kernel) rfl (Nat.le_of_ble_eq_true rfl) (Nat.le_of_ble_eq_true rfl) rfl ?_
  refine zrun 1 (?_ : zW ε true _ _ _ _ _ kH115 _ _ _)
  refine zrun 2 ?_
  refine zW_na (m := 8) (n := 46) (h2 := kH116) rfl rfl rfl rfl rfl (by decide +kernel) rfl (Nat.le_of_ble_eq_true rfl) (Nat.le_of_ble_eq_true rfl) rfl ?_
  refine zrun 1 (?_ : zW ε true _ _ _ _ _ kH117 _ _ _)
  refine zrun 2 ?_
  refine zW_na (m := 64) (n := 47) (h2 := kH118) rfl rfl rfl rfl rfl (by decide +kernel) rfl (Nat.le_of_ble_eq_true rfl) (Nat.le_of_ble_eq_true rfl) rfl ?_
  refine zrun 1 (?_ : zW ε true _ _ _ _ _ kH119 _ _ _)
  refine zrun 2 ?_
  refine zW_na (m := 64) (n := 48) (h2 := kH120) rfl rfl rfl rfl rfl (by decide +kernel) rfl (Nat.le_of_ble_eq_true rfl) (Nat.le_of_ble_eq_true rfl) rfl ?_
  refine zrun 1 (?_ : zW ε true _ _ _ _ _ kH121 _ _ _)
  refine zrun 2 ?_
  refine zW_na (m := 7) (n := 49) (h2 := kH122) rfl rfl rfl rfl rfl (by decide +kernel) rfl (Nat.le_of_ble_eq_true rfl) (Nat.le_of_ble_eq_true rfl) rfl ?_
  refine zrun 1 (?_ : zW ε true _ _ _ _ _ kH123 _ _ _)
  refine zrun 2 ?_
  refine zW_na (m := 7) (n := 50) (h2 := kH124) rfl rfl rfl rfl rfl (by decide +kernel) rfl (Nat.le_of_ble_eq_true rfl) (Nat.le_of_ble_eq_true rfl) rfl ?_
  refine zrun 1 (?_ : zW ε true _ _ _ _ _ kH125 _ _ _)
  exact hq
end
