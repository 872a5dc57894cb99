/-! the start of law: what both objects hold at first -/
/-- nothing refers from outside -/
def nB (h : zH) : Prop := ∀ k j, (53 ≤ k ∨ 33 ≤ j) → h.2.1 k j = .null
theorem nB_E : nB hE := fun _ _ _ => rfl
theorem nB_O {h : zH} {c : Nat} (hb : nB h) : nB (zpO h c) := fun k j hk => by
  show va_up h.2.1 h.1.length (fun _ => .null) k j = .null
  unfold va_up
  split
  · rfl
  · exact hb k j hk
theorem nB_R {h : zH} {k0 j0 : Nat} {v : Value} (h1 : k0 < 53) (h2 : j0 < 33) (hb : nB h) : nB (zpR h k0 j0 v) := fun k j hk => by
  show va_up h.2.1 k0 (va_up (h.2.1 k0) j0 v) k j = .null
  by_cases z : k = k0
  · rw [z, vu_s, vu_n (by omega)]
    exact hb k0 j (by omega)
  · rw [vu_n z]
    exact hb k j hk
theorem nB_N {h : zH} {t n : Nat} (hb : nB h) : nB (zpN h t n) := fun k j hk => hb k j hk
theorem nB_I {h : zH} {k0 j0 : Nat} {x : Int32} (hb : nB h) : nB (zpI h k0 j0 x) := fun k j hk => hb k j hk
theorem nB_A {h : zH} {k0 : Nat} {f : Nat → Int32} (hb : nB h) : nB (zpA h k0 f) := fun k j hk => hb k j hk
def vEq : Value → Value → Bool
  | .null, .null => true
  | .ref a, .ref b => Nat.beq a b
  | _, _ => false
theorem vEq_e : ∀ {a b : Value}, vEq a b = true → a = b
  | .null, .null, _ => rfl
  | .ref a, .ref b, h => by rw [Nat.eq_of_beq_eq_true h]
theorem cnd_n {b : Bool} {x y : Value} (h1 : b = true → x = .null) (h2 : y = .null) : cond b x y = .null := by
  cases b
  · exact h2
  · exact h1 rfl
theorem cnd_r {k j a b : Nat} {v : Value} (hk : 53 ≤ k ∨ 33 ≤ j) (ha : a < 53) (hb : b < 33) (h1 : Nat.beq k a = true) (h2 : Nat.beq j b = true) : v = .null := by
  have ea := Nat.eq_of_beq_eq_true h1
  have eb := Nat.eq_of_beq_eq_true h2
  omega
theorem nB_z {k j : Nat} (hk : 53 ≤ k ∨ 33 ≤ j) : zRF .null .null .null k j = .null := by
  unfold zRF
  repeat' (first | exact rfl | refine cnd_n ?_ ?_ | intro)
  all_goals (refine cnd_r hk ?_ ?_ (by assumption) (by assumption) <;> decide)
theorem nb1 : nB kH1 := nB_O nB_E
theorem nb2 : nB kH2 := nB_O nb1
theorem nb3 : nB kH3 := nB_O nb2
theorem nb4 : nB kH4 := nB_N nb3
theorem nb5 : nB kH5 := nB_R (by decide) (by decide) nb4
theorem nb6 : nB kH6 := nB_I nb5
theorem nb7 : nB kH7 := nB_R (by decide) (by decide) nb6
theorem nb8 : nB kH8 := nB_O nb7
theorem nb9 : nB kH9 := nB_N nb8
theorem nb10 : nB kH10 := nB_R (by decide) (by decide) nb9
theorem nb11 : nB kH11 := nB_N nb10
theorem nb12 : nB kH12 := nB_R (by decide) (by decide) nb11
theorem nb13 : nB kH13 := nB_N nb12
theorem nb14 : nB kH14 := nB_R (by decide) (by decide) nb13
theorem nb15 : nB kH15 := nB_I nb14
theorem nb16 : nB kH16 := nB_I nb15
theorem nb17 : nB kH17 := nB_A nb16
theorem nb18 : nB kH18 := nB_I nb17
theorem nb19 : nB kH19 := nB_I nb18
theorem nb20 : nB kH20 := nB_R (by decide) (by decide) nb19
theorem nb21 : nB kH21 := nB_R (by decide) (by decide) nb20
theorem nb22 : nB kH22 := nB_O nb21
theorem nb23 : nB kH23 := nB_N nb22
theorem nb24 : nB kH24 := nB_R (by decide) (by decide) nb23
theorem nb25 : nB kH25 := nB_N nb24
theorem nb26 : nB kH26 := nB_R (by decide) (by decide) nb25
theorem nb27 : nB kH27 := nB_N nb26
theorem nb28 : nB kH28 := nB_R (by decide) (by decide) nb27
theorem nb29 : nB kH29 := nB_I nb28
theorem nb30 : nB kH30 := nB_I nb29
theorem nb31 : nB kH31 := nB_A nb30
theorem nb32 : nB kH32 := nB_I nb31
theorem nb33 : nB kH33 := nB_I nb32
theorem nb34 : nB kH34 := nB_R (by decide) (by decide) nb33
theorem nb35 : nB kH35 := nB_O nb34
theorem nb36 : nB kH36 := nB_R (by decide) (by decide) nb35
theorem nb37 : nB kH37 := nB_N nb36
theorem nb38 : nB kH38 := nB_R (by decide) (by decide) nb37
theorem nb39 : nB kH39 := nB_N nb38
theorem nb40 : nB kH40 := nB_R (by decide) (by decide) nb39
theorem nb41 : nB kH41 := nB_R (by decide) (by decide) nb40
theorem nb42 : nB kH42 := nB_O nb41
theorem nb43 : nB kH43 := nB_R (by decide) (by decide) nb42
theorem nb44 : nB kH44 := nB_N nb43
theorem nb45 : nB kH45 := nB_R (by decide) (by decide) nb44
theorem nb46 : nB kH46 := nB_N nb45
theorem nb47 : nB kH47 := nB_R (by decide) (by decide) nb46
theorem nb48 : nB kH48 := nB_R (by decide) (by decide) nb47
theorem nb49 : nB kH49 := nB_O nb48
theorem nb50 : nB kH50 := nB_N nb49
theorem nb51 : nB kH51 := nB_R (by decide) (by decide) nb50
theorem nb52 : nB kH52 := nB_R (by decide) (by decide) nb51
theorem nb53 : nB kH53 := nB_R (by decide) (by decide) nb52
theorem nb54 : nB kH54 := nB_I nb53
theorem nb55 : nB kH55 := nB_N nb54
theorem nb56 : nB kH56 := nB_R (by decide) (by decide) nb55
theorem nb57 : nB kH57 := nB_N nb56
theorem nb58 : nB kH58 := nB_R (by decide) (by decide) nb57
theorem nb59 : nB kH59 := nB_R (by decide) (by decide) nb58
theorem nb60 : nB kH60 := nB_O nb59
theorem nb61 : nB kH61 := nB_R (by decide) (by decide) nb60
theorem nb62 : nB kH62 := nB_R (by decide) (by decide) nb61
theorem nb63 : nB kH63 := nB_R (by decide) (by decide) nb62
theorem nb64 : nB kH64 := nB_I nb63
theorem nb65 : nB kH65 := nB_N nb64
theorem nb66 : nB kH66 := nB_R (by decide) (by decide) nb65
theorem nb67 : nB kH67 := nB_N nb66
theorem nb68 : nB kH68 := nB_R (by decide) (by decide) nb67
theorem nb69 : nB kH69 := nB_R (by decide) (by decide) nb68
theorem nb70 : nB kH70 := nB_O nb69
theorem nb71 : nB kH71 := nB_R (by decide) (by decide) nb70
theorem nb72 : nB kH72 := nB_R (by decide) (by decide) nb71
theorem nb73 : nB kH73 := nB_R (by decide) (by decide) nb72
theorem nb74 : nB kH74 := nB_I nb73
theorem nb75 : nB kH75 := nB_N nb74
theorem nb76 : nB kH76 := nB_R (by decide) (by decide) nb75
theorem nb77 : nB kH77 := nB_N nb76
theorem nb78 : nB kH78 := nB_R (by decide) (by decide) nb77
theorem nb79 : nB kH79 := nB_R (by decide) (by decide) nb78
theorem nb80 : nB kH80 := nB_O nb79
theorem nb81 : nB kH81 := nB_N nb80
theorem nb82 : nB kH82 := nB_R (by decide) (by decide) nb81
theorem nb83 : nB kH83 := nB_N nb82
theorem nb84 : nB kH84 := nB_R (by decide) (by decide) nb83
theorem nb85 : nB kH85 := nB_N nb84
theorem nb86 : nB kH86 := nB_R (by decide) (by decide) nb85
theorem nb87 : nB kH87 := nB_R (by decide) (by decide) nb86
theorem nb88 : nB kH88 := nB_O nb87
theorem nb89 : nB kH89 := nB_N nb88
theorem nb90 : nB kH90 := nB_R (by decide) (by decide) nb89
theorem nb91 : nB kH91 := nB_N nb90
theorem nb92 : nB kH92 := nB_R (by decide) (by decide) nb91
theorem nb93 : nB kH93 := nB_N nb92
theorem nb94 : nB kH94 := nB_R (by decide) (by decide) nb93
theorem nb95 : nB kH95 := nB_N nb94
theorem nb96 : nB kH96 := nB_R (by decide) (by decide) nb95
theorem nb97 : nB kH97 := nB_N nb96
theorem nb98 : nB kH98 := nB_R (by decide) (by decide) nb97
theorem nb99 : nB kH99 := nB_N nb98
theorem nb100 : nB kH100 := nB_R (by decide) (by decide) nb99
theorem nb101 : nB kH101 := nB_N nb100
theorem nb102 : nB kH102 := nB_R (by decide) (by decide) nb101
theorem nb103 : nB kH103 := nB_N nb102
theorem nb104 : nB kH104 := nB_R (by decide) (by decide) nb103
theorem nb105 : nB kH105 := nB_N nb104
theorem nb106 : nB kH106 := nB_R (by decide) (by decide) nb105
theorem nb107 : nB kH107 := nB_I nb106
theorem nb108 : nB kH108 := nB_N nb107
theorem nb109 : nB kH109 := nB_R (by decide) (by decide) nb108
theorem nb110 : nB kH110 := nB_N nb109
theorem nb111 : nB kH111 := nB_R (by decide) (by decide) nb110
theorem nb112 : nB kH112 := nB_N nb111
theorem nb113 : nB kH113 := nB_R (by decide) (by decide) nb112
theorem nb114 : nB kH114 := nB_N nb113
theorem nb115 : nB kH115 := nB_R (by decide) (by decide) nb114
theorem nb116 : nB kH116 := nB_N nb115
theorem nb117 : nB kH117 := nB_R (by decide) (by decide) nb116
theorem nb118 : nB kH118 := nB_N nb117
theorem nb119 : nB kH119 := nB_R (by decide) (by decide) nb118
theorem nb120 : nB kH120 := nB_N nb119
theorem nb121 : nB kH121 := nB_R (by decide) (by decide) nb120
theorem nb122 : nB kH122 := nB_N nb121
theorem nb123 : nB kH123 := nB_R (by decide) (by decide) nb122
theorem nb124 : nB kH124 := nB_N nb123
theorem nb125 : nB kH125 := nB_R (by decide) (by decide) nb124
theorem k_fin : (List.range 53).all (fun k => (List.range 33).all (fun j => vEq (kH125.2.1 k j) (zRF .null .null .null k j))) = true := by decide +kernel
theorem k_rf : ∀ k j, kH125.2.1 k j = zRF .null .null .null k j := fun k j => by
  by_cases z : 53 ≤ k ∨ 33 ≤ j
  · rw [nb125 k j z, nB_z z]
  · have q := k_fin
    rw [List.all_eq_true] at q
    have q2 := q k (List.mem_range.mpr (by omega))
    rw [List.all_eq_true] at q2
    exact vEq_e (q2 j (List.mem_range.mpr (by omega)))
