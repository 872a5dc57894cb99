theorem zi_ok_156 : zdk cX7_errorCode zi_156 0 10 = true := by decide +kernel
theorem zi_w_156 : ∀ pc i, zi_156 pc = some i → decode cX7_errorCode pc = .ok i := zdk_ok (n := 9) zi_ok_156 (fun _ h => zcn h)
theorem zi_ok_157 : zdk cX7_errorPosition zi_157 0 10 = true := by decide +kernel
theorem zi_w_157 : ∀ pc i, zi_157 pc = some i → decode cX7_errorPosition pc = .ok i := zdk_ok (n := 9) zi_ok_157 (fun _ h => zcn h)
theorem zi_ok_158 : zdk cX7_greater zi_158 0 11 = true := by decide +kernel
theorem zi_w_158 : ∀ pc i, zi_158 pc = some i → decode cX7_greater pc = .ok i := zdk_ok (n := 10) zi_ok_158 (fun _ h => zcn h)
theorem zi_ok_159 : zdk cX7_at_ zi_159 0 7 = true := by decide +kernel
theorem zi_w_159 : ∀ pc i, zi_159 pc = some i → decode cX7_at_ pc = .ok i := zdk_ok (n := 6) zi_ok_159 (fun _ h => zcn h)
theorem zi_ok_160 : zdk cX7_before zi_160 0 59 = true := by decide +kernel
theorem zi_w_160 : ∀ pc i, zi_160 pc = some i → decode cX7_before pc = .ok i := zdk_ok (n := 58) zi_ok_160 (fun _ h => zcn h)
theorem zi_ok_161 : zdk cX7_runningOf zi_161 0 17 = true := by decide +kernel
theorem zi_w_161 : ∀ pc i, zi_161 pc = some i → decode cX7_runningOf pc = .ok i := zdk_ok (n := 16) zi_ok_161 (fun _ h => zcn h)
theorem zi_ok_162 : zdk cX7_laysArrival zi_162 0 186 = true := by decide +kernel
theorem zi_w_162 : ∀ pc i, zi_162 pc = some i → decode cX7_laysArrival pc = .ok i := zdk_ok (n := 185) zi_ok_162 (fun _ h => zcn h)
theorem zi_ok_163 : zdk cX7_laysDeparture zi_163 0 266 = true := by decide +kernel
theorem zi_w_163 : ∀ pc i, zi_163 pc = some i → decode cX7_laysDeparture pc = .ok i := zdk_ok (n := 265) zi_ok_163 (fun _ h => zcn h)
theorem zi_ok_164 : zdk cX7_laysStation zi_164 0 229 = true := by decide +kernel
theorem zi_w_164 : ∀ pc i, zi_164 pc = some i → decode cX7_laysStation pc = .ok i := zdk_ok (n := 228) zi_ok_164 (fun _ h => zcn h)
theorem zi_ok_165 : zdk cX7_laysPlan zi_165 0 53 = true := by decide +kernel
theorem zi_w_165 : ∀ pc i, zi_165 pc = some i → decode cX7_laysPlan pc = .ok i := zdk_ok (n := 52) zi_ok_165 (fun _ h => zcn h)
theorem zi_ok_166 : zdk cX7_laysActual zi_166 0 57 = true := by decide +kernel
theorem zi_w_166 : ∀ pc i, zi_166 pc = some i → decode cX7_laysActual pc = .ok i := zdk_ok (n := 56) zi_ok_166 (fun _ h => zcn h)
theorem zi_ok_167 : zdk cX7_lateAt zi_167 0 22 = true := by decide +kernel
theorem zi_w_167 : ∀ pc i, zi_167 pc = some i → decode cX7_lateAt pc = .ok i := zdk_ok (n := 21) zi_ok_167 (fun _ h => zcn h)
theorem zi_ok_168 : zdk cX7_delays zi_168 0 66 = true := by decide +kernel
theorem zi_w_168 : ∀ pc i, zi_168 pc = some i → decode cX7_delays pc = .ok i := zdk_ok (n := 65) zi_ok_168 (fun _ h => zcn h)
theorem zi_ok_169 : zdk cX7_isTrain zi_169 0 14 = true := by decide +kernel
theorem zi_w_169 : ∀ pc i, zi_169 pc = some i → decode cX7_isTrain pc = .ok i := zdk_ok (n := 13) zi_ok_169 (fun _ h => zcn h)
theorem zi_ok_170 : zdk cX7_isStation zi_170 0 14 = true := by decide +kernel
theorem zi_w_170 : ∀ pc i, zi_170 pc = some i → decode cX7_isStation pc = .ok i := zdk_ok (n := 13) zi_ok_170 (fun _ h => zcn h)
theorem zi_ok_171 : zdk cX7_isSegment zi_171 0 14 = true := by decide +kernel
theorem zi_w_171 : ∀ pc i, zi_171 pc = some i → decode cX7_isSegment pc = .ok i := zdk_ok (n := 13) zi_ok_171 (fun _ h => zcn h)
theorem zi_ok_172 : zdk cX7_isEvent zi_172 0 20 = true := by decide +kernel
theorem zi_w_172 : ∀ pc i, zi_172 pc = some i → decode cX7_isEvent pc = .ok i := zdk_ok (n := 19) zi_ok_172 (fun _ h => zcn h)
theorem zi_ok_173 : zdk cX7_count zi_173 0 56 = true := by decide +kernel
theorem zi_w_173 : ∀ pc i, zi_173 pc = some i → decode cX7_count pc = .ok i := zdk_ok (n := 55) zi_ok_173 (fun _ h => zcn h)
theorem zi_ok_174 : zdk cX7_isSiding zi_174 0 32 = true := by decide +kernel
theorem zi_w_174 : ∀ pc i, zi_174 pc = some i → decode cX7_isSiding pc = .ok i := zdk_ok (n := 31) zi_ok_174 (fun _ h => zcn h)
theorem zi_ok_175 : zdk cX7_train zi_175 0 81 = true := by decide +kernel
theorem zi_w_175 : ∀ pc i, zi_175 pc = some i → decode cX7_train pc = .ok i := zdk_ok (n := 80) zi_ok_175 (fun _ h => zcn h)
theorem zi_ok_176 : zdk cX7_order zi_176 0 66 = true := by decide +kernel
theorem zi_w_176 : ∀ pc i, zi_176 pc = some i → decode cX7_order pc = .ok i := zdk_ok (n := 65) zi_ok_176 (fun _ h => zcn h)
theorem zi_ok_177 : zdk cX7_planned zi_177 0 83 = true := by decide +kernel
theorem zi_w_177 : ∀ pc i, zi_177 pc = some i → decode cX7_planned pc = .ok i := zdk_ok (n := 82) zi_ok_177 (fun _ h => zcn h)
theorem zi_ok_178 : zdk cX7_mayOvertake zi_178 0 89 = true := by decide +kernel
theorem zi_w_178 : ∀ pc i, zi_178 pc = some i → decode cX7_mayOvertake pc = .ok i := zdk_ok (n := 88) zi_ok_178 (fun _ h => zcn h)
theorem zi_ok_179 : zdk cX7_change zi_179 0 89 = true := by decide +kernel
theorem zi_w_179 : ∀ pc i, zi_179 pc = some i → decode cX7_change pc = .ok i := zdk_ok (n := 88) zi_ok_179 (fun _ h => zcn h)
theorem zi_ok_180 : zdk cX7_plan zi_180 0 98 = true := by decide +kernel
theorem zi_w_180 : ∀ pc i, zi_180 pc = some i → decode cX7_plan pc = .ok i := zdk_ok (n := 97) zi_ok_180 (fun _ h => zcn h)
theorem zi_ok_181 : zdk cX7_runs zi_181 0 31 = true := by decide +kernel
theorem zi_w_181 : ∀ pc i, zi_181 pc = some i → decode cX7_runs pc = .ok i := zdk_ok (n := 30) zi_ok_181 (fun _ h => zcn h)
theorem zi_ok_182 : zdk cX7_setSupplement zi_182 0 64 = true := by decide +kernel
theorem zi_w_182 : ∀ pc i, zi_182 pc = some i → decode cX7_setSupplement pc = .ok i := zdk_ok (n := 63) zi_ok_182 (fun _ h => zcn h)
theorem zi_ok_183 : zdk cX7_supplement zi_183 0 35 = true := by decide +kernel
theorem zi_w_183 : ∀ pc i, zi_183 pc = some i → decode cX7_supplement pc = .ok i := zdk_ok (n := 34) zi_ok_183 (fun _ h => zcn h)
theorem zi_ok_184 : zdk cX7_buffer zi_184 0 83 = true := by decide +kernel
theorem zi_w_184 : ∀ pc i, zi_184 pc = some i → decode cX7_buffer pc = .ok i := zdk_ok (n := 82) zi_ok_184 (fun _ h => zcn h)
theorem zi_ok_185 : zdk cX7_speed zi_185 0 97 = true := by decide +kernel
theorem zi_w_185 : ∀ pc i, zi_185 pc = some i → decode cX7_speed pc = .ok i := zdk_ok (n := 96) zi_ok_185 (fun _ h => zcn h)
theorem zi_ok_186 : zdk cX7_lastArrival zi_186 0 75 = true := by decide +kernel
theorem zi_w_186 : ∀ pc i, zi_186 pc = some i → decode cX7_lastArrival pc = .ok i := zdk_ok (n := 74) zi_ok_186 (fun _ h => zcn h)
theorem zi_ok_187 : zdk cX7_disturb zi_187 0 141 = true := by decide +kernel
theorem zi_w_187 : ∀ pc i, zi_187 pc = some i → decode cX7_disturb pc = .ok i := zdk_ok (n := 140) zi_ok_187 (fun _ h => zcn h)
theorem zi_ok_188 : zdk cX7_clear zi_188 0 20 = true := by decide +kernel
theorem zi_w_188 : ∀ pc i, zi_188 pc = some i → decode cX7_clear pc = .ok i := zdk_ok (n := 19) zi_ok_188 (fun _ h => zcn h)
theorem zi_ok_189 : zdk cX7_actual zi_189 0 83 = true := by decide +kernel
theorem zi_w_189 : ∀ pc i, zi_189 pc = some i → decode cX7_actual pc = .ok i := zdk_ok (n := 82) zi_ok_189 (fun _ h => zcn h)
theorem zi_ok_190 : zdk cX7_totalDelay zi_190 0 10 = true := by decide +kernel
theorem zi_w_190 : ∀ pc i, zi_190 pc = some i → decode cX7_totalDelay pc = .ok i := zdk_ok (n := 9) zi_ok_190 (fun _ h => zcn h)
theorem zi_ok_191 : zdk cX7_lateSet zi_191 0 51 = true := by decide +kernel
theorem zi_w_191 : ∀ pc i, zi_191 pc = some i → decode cX7_lateSet pc = .ok i := zdk_ok (n := 50) zi_ok_191 (fun _ h => zcn h)
theorem zi_ok_192 : zdk cX7_lateTrains zi_192 0 11 = true := by decide +kernel
theorem zi_w_192 : ∀ pc i, zi_192 pc = some i → decode cX7_lateTrains pc = .ok i := zdk_ok (n := 10) zi_ok_192 (fun _ h => zcn h)
theorem zi_ok_193 : zdk cX7_punctuality zi_193 0 94 = true := by decide +kernel
theorem zi_w_193 : ∀ pc i, zi_193 pc = some i → decode cX7_punctuality pc = .ok i := zdk_ok (n := 93) zi_ok_193 (fun _ h => zcn h)
theorem zi_ok_194 : zdk cX7_isKept zi_194 0 39 = true := by decide +kernel
theorem zi_w_194 : ∀ pc i, zi_194 pc = some i → decode cX7_isKept pc = .ok i := zdk_ok (n := 38) zi_ok_194 (fun _ h => zcn h)
theorem zi_ok_195 : zdk cX7_missed zi_195 0 48 = true := by decide +kernel
theorem zi_w_195 : ∀ pc i, zi_195 pc = some i → decode cX7_missed pc = .ok i := zdk_ok (n := 47) zi_ok_195 (fun _ h => zcn h)
theorem zi_ok_196 : zdk cX7_causeOfArrival zi_196 0 103 = true := by decide +kernel
theorem zi_w_196 : ∀ pc i, zi_196 pc = some i → decode cX7_causeOfArrival pc = .ok i := zdk_ok (n := 102) zi_ok_196 (fun _ h => zcn h)
theorem zi_ok_197 : zdk cX7_causeOfDeparture zi_197 0 138 = true := by decide +kernel
theorem zi_w_197 : ∀ pc i, zi_197 pc = some i → decode cX7_causeOfDeparture pc = .ok i := zdk_ok (n := 137) zi_ok_197 (fun _ h => zcn h)
theorem zi_ok_198 : zdk cX7_cause zi_198 0 75 = true := by decide +kernel
theorem zi_w_198 : ∀ pc i, zi_198 pc = some i → decode cX7_cause pc = .ok i := zdk_ok (n := 74) zi_ok_198 (fun _ h => zcn h)
theorem zi_ok_199 : zdk cX7_recovery zi_199 0 133 = true := by decide +kernel
theorem zi_w_199 : ∀ pc i, zi_199 pc = some i → decode cX7_recovery pc = .ok i := zdk_ok (n := 132) zi_ok_199 (fun _ h => zcn h)
theorem zi_ok_200 : zdk cX7_overtake zi_200 0 79 = true := by decide +kernel
theorem zi_w_200 : ∀ pc i, zi_200 pc = some i → decode cX7_overtake pc = .ok i := zdk_ok (n := 78) zi_ok_200 (fun _ h => zcn h)
theorem zi_ok_201 : zdk cX7_bestOf zi_201 0 155 = true := by decide +kernel
theorem zi_w_201 : ∀ pc i, zi_201 pc = some i → decode cX7_bestOf pc = .ok i := zdk_ok (n := 154) zi_ok_201 (fun _ h => zcn h)
theorem zi_ok_202 : zdk cX7_bestOvertaking zi_202 0 10 = true := by decide +kernel
theorem zi_w_202 : ∀ pc i, zi_202 pc = some i → decode cX7_bestOvertaking pc = .ok i := zdk_ok (n := 9) zi_ok_202 (fun _ h => zcn h)
theorem zi_ok_203 : zdk cX7_dispatch zi_203 0 59 = true := by decide +kernel
theorem zi_w_203 : ∀ pc i, zi_203 pc = some i → decode cX7_dispatch pc = .ok i := zdk_ok (n := 58) zi_ok_203 (fun _ h => zcn h)
theorem zi_ok_204 : zdk cX7_tolerance zi_204 0 261 = true := by decide +kernel
theorem zi_w_204 : ∀ pc i, zi_204 pc = some i → decode cX7_tolerance pc = .ok i := zdk_ok (n := 260) zi_ok_204 (fun _ h => zcn h)
theorem zi_ok_205 : zdk cX7_tries zi_205 0 130 = true := by decide +kernel
theorem zi_w_205 : ∀ pc i, zi_205 pc = some i → decode cX7_tries pc = .ok i := zdk_ok (n := 129) zi_ok_205 (fun _ h => zcn h)
theorem zi_ok_206 : zdk cX7_finds zi_206 0 79 = true := by decide +kernel
theorem zi_w_206 : ∀ pc i, zi_206 pc = some i → decode cX7_finds pc = .ok i := zdk_ok (n := 78) zi_ok_206 (fun _ h => zcn h)
theorem zi_ok_207 : zdk cX7_leastDelay zi_207 0 52 = true := by decide +kernel
theorem zi_w_207 : ∀ pc i, zi_207 pc = some i → decode cX7_leastDelay pc = .ok i := zdk_ok (n := 51) zi_ok_207 (fun _ h => zcn h)
theorem zi_ok_208 : zdk cX7_distribute zi_208 0 52 = true := by decide +kernel
theorem zi_w_208 : ∀ pc i, zi_208 pc = some i → decode cX7_distribute pc = .ok i := zdk_ok (n := 51) zi_ok_208 (fun _ h => zcn h)
theorem zi_ok_209 : zdk cL_append zi_209 0 25 = true := by decide +kernel
theorem zi_w_209 : ∀ pc i, zi_209 pc = some i → decode cL_append pc = .ok i := zdk_ok (n := 24) zi_ok_209 (fun _ h => zcn h)
theorem zi_ok_210 : zdk cL_truncate zi_210 0 17 = true := by decide +kernel
theorem zi_w_210 : ∀ pc i, zi_210 pc = some i → decode cL_truncate pc = .ok i := zdk_ok (n := 16) zi_ok_210 (fun _ h => zcn h)
theorem zi_ok_211 : zdk cL_load zi_211 0 16 = true := by decide +kernel
theorem zi_w_211 : ∀ pc i, zi_211 pc = some i → decode cL_load pc = .ok i := zdk_ok (n := 15) zi_ok_211 (fun _ h => zcn h)
theorem zi_ok_212 : zdk cL_count zi_212 0 17 = true := by decide +kernel
theorem zi_w_212 : ∀ pc i, zi_212 pc = some i → decode cL_count pc = .ok i := zdk_ok (n := 16) zi_ok_212 (fun _ h => zcn h)
theorem zi_ok_213 : zdk cL_isSiding zi_213 0 24 = true := by decide +kernel
theorem zi_w_213 : ∀ pc i, zi_213 pc = some i → decode cL_isSiding pc = .ok i := zdk_ok (n := 23) zi_ok_213 (fun _ h => zcn h)
theorem zi_ok_214 : zdk cL_train zi_214 0 23 = true := by decide +kernel
theorem zi_w_214 : ∀ pc i, zi_214 pc = some i → decode cL_train pc = .ok i := zdk_ok (n := 22) zi_ok_214 (fun _ h => zcn h)
theorem zi_ok_215 : zdk cL_order zi_215 0 21 = true := by decide +kernel
theorem zi_w_215 : ∀ pc i, zi_215 pc = some i → decode cL_order pc = .ok i := zdk_ok (n := 20) zi_ok_215 (fun _ h => zcn h)
theorem zi_ok_216 : zdk cL_planned zi_216 0 25 = true := by decide +kernel
theorem zi_w_216 : ∀ pc i, zi_216 pc = some i → decode cL_planned pc = .ok i := zdk_ok (n := 24) zi_ok_216 (fun _ h => zcn h)
