theorem zi_ok_84 : zdk cX6_isSiding zi_84 0 14 = true := by decide +kernel
theorem zi_w_84 : ∀ pc i, zi_84 pc = some i → decode cX6_isSiding pc = .ok i := zdk_ok (n := 13) zi_ok_84 (fun _ h => zcn h)
theorem zi_ok_85 : zdk cX6_train zi_85 0 47 = true := by decide +kernel
theorem zi_w_85 : ∀ pc i, zi_85 pc = some i → decode cX6_train pc = .ok i := zdk_ok (n := 46) zi_ok_85 (fun _ h => zcn h)
theorem zi_ok_86 : zdk cX6_order zi_86 0 68 = true := by decide +kernel
theorem zi_w_86 : ∀ pc i, zi_86 pc = some i → decode cX6_order pc = .ok i := zdk_ok (n := 67) zi_ok_86 (fun _ h => zcn h)
theorem zi_ok_87 : zdk cX6_planned zi_87 0 18 = true := by decide +kernel
theorem zi_w_87 : ∀ pc i, zi_87 pc = some i → decode cX6_planned pc = .ok i := zdk_ok (n := 17) zi_ok_87 (fun _ h => zcn h)
theorem zi_ok_88 : zdk cX6_plan zi_88 0 55 = true := by decide +kernel
theorem zi_w_88 : ∀ pc i, zi_88 pc = some i → decode cX6_plan pc = .ok i := zdk_ok (n := 54) zi_ok_88 (fun _ h => zcn h)
theorem zi_ok_89 : zdk cX6_setSupplement zi_89 0 70 = true := by decide +kernel
theorem zi_w_89 : ∀ pc i, zi_89 pc = some i → decode cX6_setSupplement pc = .ok i := zdk_ok (n := 69) zi_ok_89 (fun _ h => zcn h)
theorem zi_ok_90 : zdk cX6_supplement zi_90 0 19 = true := by decide +kernel
theorem zi_w_90 : ∀ pc i, zi_90 pc = some i → decode cX6_supplement pc = .ok i := zdk_ok (n := 18) zi_ok_90 (fun _ h => zcn h)
theorem zi_ok_91 : zdk cX6_buffer zi_91 0 61 = true := by decide +kernel
theorem zi_w_91 : ∀ pc i, zi_91 pc = some i → decode cX6_buffer pc = .ok i := zdk_ok (n := 60) zi_ok_91 (fun _ h => zcn h)
theorem zi_ok_92 : zdk cX6_speed zi_92 0 54 = true := by decide +kernel
theorem zi_w_92 : ∀ pc i, zi_92 pc = some i → decode cX6_speed pc = .ok i := zdk_ok (n := 53) zi_ok_92 (fun _ h => zcn h)
theorem zi_ok_93 : zdk cX6_lastArrival zi_93 0 56 = true := by decide +kernel
theorem zi_w_93 : ∀ pc i, zi_93 pc = some i → decode cX6_lastArrival pc = .ok i := zdk_ok (n := 55) zi_ok_93 (fun _ h => zcn h)
theorem zi_ok_94 : zdk cX6_disturb zi_94 0 108 = true := by decide +kernel
theorem zi_w_94 : ∀ pc i, zi_94 pc = some i → decode cX6_disturb pc = .ok i := zdk_ok (n := 107) zi_ok_94 (fun _ h => zcn h)
theorem zi_ok_95 : zdk cX6_clear zi_95 0 37 = true := by decide +kernel
theorem zi_w_95 : ∀ pc i, zi_95 pc = some i → decode cX6_clear pc = .ok i := zdk_ok (n := 36) zi_ok_95 (fun _ h => zcn h)
theorem zi_ok_96 : zdk cX6_actual zi_96 0 18 = true := by decide +kernel
theorem zi_w_96 : ∀ pc i, zi_96 pc = some i → decode cX6_actual pc = .ok i := zdk_ok (n := 17) zi_ok_96 (fun _ h => zcn h)
theorem zi_ok_97 : zdk cX6_totalDelay zi_97 0 8 = true := by decide +kernel
theorem zi_w_97 : ∀ pc i, zi_97 pc = some i → decode cX6_totalDelay pc = .ok i := zdk_ok (n := 7) zi_ok_97 (fun _ h => zcn h)
theorem zi_ok_98 : zdk cX6_lateTrains zi_98 0 9 = true := by decide +kernel
theorem zi_w_98 : ∀ pc i, zi_98 pc = some i → decode cX6_lateTrains pc = .ok i := zdk_ok (n := 8) zi_ok_98 (fun _ h => zcn h)
theorem zi_ok_99 : zdk cX6_punctuality zi_99 0 72 = true := by decide +kernel
theorem zi_w_99 : ∀ pc i, zi_99 pc = some i → decode cX6_punctuality pc = .ok i := zdk_ok (n := 71) zi_ok_99 (fun _ h => zcn h)
theorem zi_ok_100 : zdk cX6_isKept zi_100 0 34 = true := by decide +kernel
theorem zi_w_100 : ∀ pc i, zi_100 pc = some i → decode cX6_isKept pc = .ok i := zdk_ok (n := 33) zi_ok_100 (fun _ h => zcn h)
theorem zi_ok_101 : zdk cX6_missed zi_101 0 37 = true := by decide +kernel
theorem zi_w_101 : ∀ pc i, zi_101 pc = some i → decode cX6_missed pc = .ok i := zdk_ok (n := 36) zi_ok_101 (fun _ h => zcn h)
theorem zi_ok_102 : zdk cX6_cause zi_102 0 18 = true := by decide +kernel
theorem zi_w_102 : ∀ pc i, zi_102 pc = some i → decode cX6_cause pc = .ok i := zdk_ok (n := 17) zi_ok_102 (fun _ h => zcn h)
theorem zi_ok_103 : zdk cX6_recovery zi_103 0 10 = true := by decide +kernel
theorem zi_w_103 : ∀ pc i, zi_103 pc = some i → decode cX6_recovery pc = .ok i := zdk_ok (n := 9) zi_ok_103 (fun _ h => zcn h)
theorem zi_ok_104 : zdk cX6_overtake zi_104 0 36 = true := by decide +kernel
theorem zi_w_104 : ∀ pc i, zi_104 pc = some i → decode cX6_overtake pc = .ok i := zdk_ok (n := 35) zi_ok_104 (fun _ h => zcn h)
theorem zi_ok_105 : zdk cX6_bestOvertaking zi_105 0 5 = true := by decide +kernel
theorem zi_w_105 : ∀ pc i, zi_105 pc = some i → decode cX6_bestOvertaking pc = .ok i := zdk_ok (n := 4) zi_ok_105 (fun _ h => zcn h)
theorem zi_ok_106 : zdk cX6_dispatch zi_106 0 58 = true := by decide +kernel
theorem zi_w_106 : ∀ pc i, zi_106 pc = some i → decode cX6_dispatch pc = .ok i := zdk_ok (n := 57) zi_ok_106 (fun _ h => zcn h)
theorem zi_ok_107 : zdk cX6_tolerance zi_107 0 77 = true := by decide +kernel
theorem zi_w_107 : ∀ pc i, zi_107 pc = some i → decode cX6_tolerance pc = .ok i := zdk_ok (n := 76) zi_ok_107 (fun _ h => zcn h)
theorem zi_ok_108 : zdk cX6_leastDelay zi_108 0 53 = true := by decide +kernel
theorem zi_w_108 : ∀ pc i, zi_108 pc = some i → decode cX6_leastDelay pc = .ok i := zdk_ok (n := 52) zi_ok_108 (fun _ h => zcn h)
theorem zi_ok_109 : zdk cX6_distribute zi_109 0 41 = true := by decide +kernel
theorem zi_w_109 : ∀ pc i, zi_109 pc = some i → decode cX6_distribute pc = .ok i := zdk_ok (n := 40) zi_ok_109 (fun _ h => zcn h)
theorem zi_ok_110 : zdk cX6_requireTrain zi_110 0 27 = true := by decide +kernel
theorem zi_w_110 : ∀ pc i, zi_110 pc = some i → decode cX6_requireTrain pc = .ok i := zdk_ok (n := 26) zi_ok_110 (fun _ h => zcn h)
theorem zi_ok_111 : zdk cX6_requireStation zi_111 0 27 = true := by decide +kernel
theorem zi_w_111 : ∀ pc i, zi_111 pc = some i → decode cX6_requireStation pc = .ok i := zdk_ok (n := 26) zi_ok_111 (fun _ h => zcn h)
theorem zi_ok_112 : zdk cX6_requireEvent zi_112 0 35 = true := by decide +kernel
theorem zi_w_112 : ∀ pc i, zi_112 pc = some i → decode cX6_requireEvent pc = .ok i := zdk_ok (n := 34) zi_ok_112 (fun _ h => zcn h)
theorem zi_ok_113 : zdk cX6_requireRun zi_113 0 29 = true := by decide +kernel
theorem zi_w_113 : ∀ pc i, zi_113 pc = some i → decode cX6_requireRun pc = .ok i := zdk_ok (n := 28) zi_ok_113 (fun _ h => zcn h)
theorem zi_ok_114 : zdk cX6_requireOvertaking zi_114 0 63 = true := by decide +kernel
theorem zi_w_114 : ∀ pc i, zi_114 pc = some i → decode cX6_requireOvertaking pc = .ok i := zdk_ok (n := 62) zi_ok_114 (fun _ h => zcn h)
theorem zi_ok_115 : zdk cX6_requireDistribution zi_115 0 26 = true := by decide +kernel
theorem zi_w_115 : ∀ pc i, zi_115 pc = some i → decode cX6_requireDistribution pc = .ok i := zdk_ok (n := 25) zi_ok_115 (fun _ h => zcn h)
theorem zi_ok_116 : zdk cX6_cell zi_116 0 13 = true := by decide +kernel
theorem zi_w_116 : ∀ pc i, zi_116 pc = some i → decode cX6_cell pc = .ok i := zdk_ok (n := 12) zi_ok_116 (fun _ h => zcn h)
theorem zi_ok_117 : zdk cX6_event zi_117 0 17 = true := by decide +kernel
theorem zi_w_117 : ∀ pc i, zi_117 pc = some i → decode cX6_event pc = .ok i := zdk_ok (n := 16) zi_ok_117 (fun _ h => zcn h)
theorem zi_ok_118 : zdk cX6_beginAnew zi_118 0 88 = true := by decide +kernel
theorem zi_w_118 : ∀ pc i, zi_118 pc = some i → decode cX6_beginAnew pc = .ok i := zdk_ok (n := 87) zi_ok_118 (fun _ h => zcn h)
theorem zi_ok_119 : zdk cX6_sumOfSupplements zi_119 0 40 = true := by decide +kernel
theorem zi_w_119 : ∀ pc i, zi_119 pc = some i → decode cX6_sumOfSupplements pc = .ok i := zdk_ok (n := 39) zi_ok_119 (fun _ h => zcn h)
theorem zi_ok_120 : zdk cX6_findBest zi_120 0 169 = true := by decide +kernel
theorem zi_w_120 : ∀ pc i, zi_120 pc = some i → decode cX6_findBest pc = .ok i := zdk_ok (n := 168) zi_ok_120 (fun _ h => zcn h)
theorem zi_ok_121 : zdk cX6_findLeast zi_121 0 133 = true := by decide +kernel
theorem zi_w_121 : ∀ pc i, zi_121 pc = some i → decode cX6_findLeast pc = .ok i := zdk_ok (n := 132) zi_ok_121 (fun _ h => zcn h)
theorem zi_ok_122 : zdk cX6_putSupplements zi_122 0 62 = true := by decide +kernel
theorem zi_w_122 : ∀ pc i, zi_122 pc = some i → decode cX6_putSupplements pc = .ok i := zdk_ok (n := 61) zi_ok_122 (fun _ h => zcn h)
theorem zi_ok_123 : zdk cX6_takeSupplements zi_123 0 62 = true := by decide +kernel
theorem zi_w_123 : ∀ pc i, zi_123 pc = some i → decode cX6_takeSupplements pc = .ok i := zdk_ok (n := 61) zi_ok_123 (fun _ h => zcn h)
theorem zi_ok_124 : zdk cX7_init zi_124 0 193 = true := by decide +kernel
theorem zi_w_124 : ∀ pc i, zi_124 pc = some i → decode cX7_init pc = .ok i := zdk_ok (n := 192) zi_ok_124 (fun _ h => zcn h)
theorem zi_ok_125 : zdk cX7_thrown zi_125 0 5 = true := by decide +kernel
theorem zi_w_125 : ∀ pc i, zi_125 pc = some i → decode cX7_thrown pc = .ok i := zdk_ok (n := 4) zi_ok_125 (fun _ h => zcn h)
theorem zi_ok_126 : zdk cX7_isIn zi_126 0 16 = true := by decide +kernel
theorem zi_w_126 : ∀ pc i, zi_126 pc = some i → decode cX7_isIn pc = .ok i := zdk_ok (n := 15) zi_ok_126 (fun _ h => zcn h)
theorem zi_ok_127 : zdk cX7_may zi_127 0 29 = true := by decide +kernel
theorem zi_w_127 : ∀ pc i, zi_127 pc = some i → decode cX7_may pc = .ok i := zdk_ok (n := 28) zi_ok_127 (fun _ h => zcn h)
theorem zi_ok_128 : zdk cX7_plain zi_128 0 36 = true := by decide +kernel
theorem zi_w_128 : ∀ pc i, zi_128 pc = some i → decode cX7_plain pc = .ok i := zdk_ok (n := 35) zi_ok_128 (fun _ h => zcn h)
theorem zi_ok_129 : zdk cX7_takes zi_129 0 163 = true := by decide +kernel
theorem zi_w_129 : ∀ pc i, zi_129 pc = some i → decode cX7_takes pc = .ok i := zdk_ok (n := 162) zi_ok_129 (fun _ h => zcn h)
theorem zi_ok_130 : zdk cX7_forgets zi_130 0 34 = true := by decide +kernel
theorem zi_w_130 : ∀ pc i, zi_130 pc = some i → decode cX7_forgets pc = .ok i := zdk_ok (n := 33) zi_ok_130 (fun _ h => zcn h)
theorem zi_ok_131 : zdk cX7_actsAsPlanned zi_131 0 27 = true := by decide +kernel
theorem zi_w_131 : ∀ pc i, zi_131 pc = some i → decode cX7_actsAsPlanned pc = .ok i := zdk_ok (n := 26) zi_ok_131 (fun _ h => zcn h)
theorem zi_ok_132 : zdk cX7_of zi_132 0 14 = true := by decide +kernel
theorem zi_w_132 : ∀ pc i, zi_132 pc = some i → decode cX7_of pc = .ok i := zdk_ok (n := 13) zi_ok_132 (fun _ h => zcn h)
theorem zi_ok_133 : zdk cX7_link zi_133 0 14 = true := by decide +kernel
theorem zi_w_133 : ∀ pc i, zi_133 pc = some i → decode cX7_link pc = .ok i := zdk_ok (n := 13) zi_ok_133 (fun _ h => zcn h)
theorem zi_ok_134 : zdk cX7_isPlain zi_134 0 17 = true := by decide +kernel
theorem zi_w_134 : ∀ pc i, zi_134 pc = some i → decode cX7_isPlain pc = .ok i := zdk_ok (n := 16) zi_ok_134 (fun _ h => zcn h)
theorem zi_ok_135 : zdk cX7_arrives zi_135 0 26 = true := by decide +kernel
theorem zi_w_135 : ∀ pc i, zi_135 pc = some i → decode cX7_arrives pc = .ok i := zdk_ok (n := 25) zi_ok_135 (fun _ h => zcn h)
theorem zi_ok_136 : zdk cX7_departs zi_136 0 26 = true := by decide +kernel
theorem zi_w_136 : ∀ pc i, zi_136 pc = some i → decode cX7_departs pc = .ok i := zdk_ok (n := 25) zi_ok_136 (fun _ h => zcn h)
theorem zi_ok_137 : zdk cX7_append zi_137 0 142 = true := by decide +kernel
theorem zi_w_137 : ∀ pc i, zi_137 pc = some i → decode cX7_append pc = .ok i := zdk_ok (n := 141) zi_ok_137 (fun _ h => zcn h)
theorem zi_ok_138 : zdk cX7_truncate zi_138 0 31 = true := by decide +kernel
theorem zi_w_138 : ∀ pc i, zi_138 pc = some i → decode cX7_truncate pc = .ok i := zdk_ok (n := 30) zi_ok_138 (fun _ h => zcn h)
theorem zi_ok_139 : zdk cX7_at zi_139 0 19 = true := by decide +kernel
theorem zi_w_139 : ∀ pc i, zi_139 pc = some i → decode cX7_at pc = .ok i := zdk_ok (n := 18) zi_ok_139 (fun _ h => zcn h)
theorem zi_ok_140 : zdk cX7_isLetter zi_140 0 18 = true := by decide +kernel
theorem zi_w_140 : ∀ pc i, zi_140 pc = some i → decode cX7_isLetter pc = .ok i := zdk_ok (n := 17) zi_ok_140 (fun _ h => zcn h)
theorem zi_ok_141 : zdk cX7_isDigit zi_141 0 18 = true := by decide +kernel
theorem zi_w_141 : ∀ pc i, zi_141 pc = some i → decode cX7_isDigit pc = .ok i := zdk_ok (n := 17) zi_ok_141 (fun _ h => zcn h)
theorem zi_ok_142 : zdk cX7_token zi_142 0 237 = true := by decide +kernel
theorem zi_w_142 : ∀ pc i, zi_142 pc = some i → decode cX7_token pc = .ok i := zdk_ok (n := 236) zi_ok_142 (fun _ h => zcn h)
theorem zi_ok_143 : zdk cX7_isWrong zi_143 0 13 = true := by decide +kernel
theorem zi_w_143 : ∀ pc i, zi_143 pc = some i → decode cX7_isWrong pc = .ok i := zdk_ok (n := 12) zi_ok_143 (fun _ h => zcn h)
theorem zi_ok_144 : zdk cX7_fails zi_144 0 22 = true := by decide +kernel
theorem zi_w_144 : ∀ pc i, zi_144 pc = some i → decode cX7_fails pc = .ok i := zdk_ok (n := 21) zi_ok_144 (fun _ h => zcn h)
theorem zi_ok_145 : zdk cX7_isWord zi_145 0 71 = true := by decide +kernel
theorem zi_w_145 : ∀ pc i, zi_145 pc = some i → decode cX7_isWord pc = .ok i := zdk_ok (n := 70) zi_ok_145 (fun _ h => zcn h)
theorem zi_ok_146 : zdk cX7_takesWord zi_146 0 16 = true := by decide +kernel
theorem zi_w_146 : ∀ pc i, zi_146 pc = some i → decode cX7_takesWord pc = .ok i := zdk_ok (n := 15) zi_ok_146 (fun _ h => zcn h)
theorem zi_ok_147 : zdk cX7_figure zi_147 0 60 = true := by decide +kernel
theorem zi_w_147 : ∀ pc i, zi_147 pc = some i → decode cX7_figure pc = .ok i := zdk_ok (n := 59) zi_ok_147 (fun _ h => zcn h)
theorem zi_ok_148 : zdk cX7_ends zi_148 0 25 = true := by decide +kernel
theorem zi_w_148 : ∀ pc i, zi_148 pc = some i → decode cX7_ends pc = .ok i := zdk_ok (n := 24) zi_ok_148 (fun _ h => zcn h)
theorem zi_ok_149 : zdk cX7_kind zi_149 0 80 = true := by decide +kernel
theorem zi_w_149 : ∀ pc i, zi_149 pc = some i → decode cX7_kind pc = .ok i := zdk_ok (n := 79) zi_ok_149 (fun _ h => zcn h)
theorem zi_ok_150 : zdk cX7_line zi_150 0 126 = true := by decide +kernel
theorem zi_w_150 : ∀ pc i, zi_150 pc = some i → decode cX7_line pc = .ok i := zdk_ok (n := 125) zi_ok_150 (fun _ h => zcn h)
theorem zi_ok_151 : zdk cX7_settings zi_151 0 104 = true := by decide +kernel
theorem zi_w_151 : ∀ pc i, zi_151 pc = some i → decode cX7_settings pc = .ok i := zdk_ok (n := 103) zi_ok_151 (fun _ h => zcn h)
theorem zi_ok_152 : zdk cX7_oneTrain zi_152 0 151 = true := by decide +kernel
theorem zi_w_152 : ∀ pc i, zi_152 pc = some i → decode cX7_oneTrain pc = .ok i := zdk_ok (n := 150) zi_ok_152 (fun _ h => zcn h)
theorem zi_ok_153 : zdk cX7_toldOf zi_153 0 14 = true := by decide +kernel
theorem zi_w_153 : ∀ pc i, zi_153 pc = some i → decode cX7_toldOf pc = .ok i := zdk_ok (n := 13) zi_ok_153 (fun _ h => zcn h)
theorem zi_ok_154 : zdk cX7_oneLink zi_154 0 283 = true := by decide +kernel
theorem zi_w_154 : ∀ pc i, zi_154 pc = some i → decode cX7_oneLink pc = .ok i := zdk_ok (n := 282) zi_ok_154 (fun _ h => zcn h)
theorem zi_ok_155 : zdk cX7_load zi_155 0 133 = true := by decide +kernel
theorem zi_w_155 : ∀ pc i, zi_155 pc = some i → decode cX7_load pc = .ok i := zdk_ok (n := 132) zi_ok_155 (fun _ h => zcn h)
