theorem ml_L_118 : Cond.methodLink RL 118 yL_append ∈ gtb := gt (inT4 (List.mem_of_getElem? (i := 17) rfl)) rfl
theorem ml_L_123 : Cond.methodLink RL 123 yX12_append ∈ gtb := gt (inT6 (List.mem_of_getElem? (i := 25) rfl)) rfl
theorem ml_L_124 : Cond.methodLink RL 124 yX12_thrown ∈ gtb := gt (inT6 (List.mem_of_getElem? (i := 21) rfl)) rfl
theorem ml_L_127 : Cond.methodLink RL 127 yL_truncate ∈ gtb := gt (inT4 (List.mem_of_getElem? (i := 97) rfl)) rfl
theorem ml_L_130 : Cond.methodLink RL 130 yX12_truncate ∈ gtb := gt (inT6 (List.mem_of_getElem? (i := 38) rfl)) rfl
theorem ml_L_131 : Cond.methodLink RL 131 yX11_setup ∈ gtb := gt (inT3 (List.mem_of_getElem? (i := 15) rfl)) rfl
theorem ml_L_134 : Cond.methodLink RL 134 yX12_setup ∈ gtb := gt (inT7 (List.mem_of_getElem? (i := 176) rfl)) rfl
theorem ml_L_135 : Cond.methodLink RL 135 yX11_errorCode ∈ gtb := gt (inT3 (List.mem_of_getElem? (i := 213) rfl)) rfl
theorem ml_L_138 : Cond.methodLink RL 138 yX12_errorCode ∈ gtb := gt (inT7 (List.mem_of_getElem? (i := 168) rfl)) rfl
theorem ml_L_139 : Cond.methodLink RL 139 yX11_errorPosition ∈ gtb := gt (inT3 (List.mem_of_getElem? (i := 217) rfl)) rfl
theorem ml_L_142 : Cond.methodLink RL 142 yX12_errorPosition ∈ gtb := gt (inT7 (List.mem_of_getElem? (i := 172) rfl)) rfl
theorem ml_L_143 : Cond.methodLink RL 143 yL_run ∈ gtb := gt (inT4 (List.mem_of_getElem? (i := 121) rfl)) rfl
theorem ml_L_145 : Cond.methodLink RL 145 yX12_run ∈ gtb := gt (inT6 (List.mem_of_getElem? (i := 158) rfl)) rfl
theorem ml_L_146 : Cond.methodLink RL 146 yL_fire ∈ gtb := gt (inT4 (List.mem_of_getElem? (i := 225) rfl)) rfl
theorem ml_L_148 : Cond.methodLink RL 148 yX12_fire ∈ gtb := gt (inT7 (List.mem_of_getElem? (i := 23) rfl)) rfl
theorem ml_L_149 : Cond.methodLink RL 149 yX11_stop ∈ gtb := gt (inT3 (List.mem_of_getElem? (i := 221) rfl)) rfl
theorem ml_L_152 : Cond.methodLink RL 152 yX12_stop ∈ gtb := gt (inT7 (List.mem_of_getElem? (i := 31) rfl)) rfl
theorem ml_L_153 : Cond.methodLink RL 153 yL_take ∈ gtb := gt (inT5 (List.mem_of_getElem? (i := 15) rfl)) rfl
theorem ml_L_156 : Cond.methodLink RL 156 yX12_take ∈ gtb := gt (inT7 (List.mem_of_getElem? (i := 35) rfl)) rfl
theorem ml_L_157 : Cond.methodLink RL 157 yL_acknowledge ∈ gtb := gt (inT5 (List.mem_of_getElem? (i := 41) rfl)) rfl
theorem ml_L_159 : Cond.methodLink RL 159 yX12_acknowledge ∈ gtb := gt (inT7 (List.mem_of_getElem? (i := 39) rfl)) rfl
theorem ml_L_160 : Cond.methodLink RL 160 yL_setSignal ∈ gtb := gt (inT5 (List.mem_of_getElem? (i := 58) rfl)) rfl
theorem ml_L_163 : Cond.methodLink RL 163 yX12_setSignal ∈ gtb := gt (inT7 (List.mem_of_getElem? (i := 47) rfl)) rfl
theorem ml_L_164 : Cond.methodLink RL 164 yL_setSample ∈ gtb := gt (inT5 (List.mem_of_getElem? (i := 75) rfl)) rfl
theorem ml_L_167 : Cond.methodLink RL 167 yX12_setSample ∈ gtb := gt (inT7 (List.mem_of_getElem? (i := 55) rfl)) rfl
theorem ml_L_168 : Cond.methodLink RL 168 yL_setWindow ∈ gtb := gt (inT5 (List.mem_of_getElem? (i := 84) rfl)) rfl
theorem ml_L_171 : Cond.methodLink RL 171 yX12_setWindow ∈ gtb := gt (inT7 (List.mem_of_getElem? (i := 59) rfl)) rfl
theorem ml_L_172 : Cond.methodLink RL 172 yL_setPace ∈ gtb := gt (inT5 (List.mem_of_getElem? (i := 93) rfl)) rfl
theorem ml_L_174 : Cond.methodLink RL 174 yX12_setPace ∈ gtb := gt (inT7 (List.mem_of_getElem? (i := 64) rfl)) rfl
theorem ml_L_175 : Cond.methodLink RL 175 yL_state ∈ gtb := gt (inT5 (List.mem_of_getElem? (i := 105) rfl)) rfl
theorem ml_L_177 : Cond.methodLink RL 177 yX12_state ∈ gtb := gt (inT7 (List.mem_of_getElem? (i := 68) rfl)) rfl
theorem ml_L_178 : Cond.methodLink RL 178 yL_sequence ∈ gtb := gt (inT5 (List.mem_of_getElem? (i := 116) rfl)) rfl
theorem ml_L_181 : Cond.methodLink RL 181 yX12_sequence ∈ gtb := gt (inT7 (List.mem_of_getElem? (i := 72) rfl)) rfl
theorem ml_L_182 : Cond.methodLink RL 182 yL_entry ∈ gtb := gt (inT5 (List.mem_of_getElem? (i := 123) rfl)) rfl
theorem ml_L_184 : Cond.methodLink RL 184 yX12_entry ∈ gtb := gt (inT7 (List.mem_of_getElem? (i := 76) rfl)) rfl
theorem ml_L_185 : Cond.methodLink RL 185 yL_channel ∈ gtb := gt (inT5 (List.mem_of_getElem? (i := 131) rfl)) rfl
theorem ml_L_187 : Cond.methodLink RL 187 yX12_channel ∈ gtb := gt (inT7 (List.mem_of_getElem? (i := 80) rfl)) rfl
theorem ml_L_188 : Cond.methodLink RL 188 yL_sum ∈ gtb := gt (inT5 (List.mem_of_getElem? (i := 138) rfl)) rfl
theorem ml_L_190 : Cond.methodLink RL 190 yX12_sum ∈ gtb := gt (inT7 (List.mem_of_getElem? (i := 84) rfl)) rfl
theorem ml_L_191 : Cond.methodLink RL 191 yL_mean ∈ gtb := gt (inT5 (List.mem_of_getElem? (i := 145) rfl)) rfl
theorem ml_L_194 : Cond.methodLink RL 194 yX12_mean ∈ gtb := gt (inT7 (List.mem_of_getElem? (i := 88) rfl)) rfl
theorem ml_L_195 : Cond.methodLink RL 195 yL_trigger ∈ gtb := gt (inT5 (List.mem_of_getElem? (i := 153) rfl)) rfl
theorem ml_L_197 : Cond.methodLink RL 197 yX12_trigger ∈ gtb := gt (inT7 (List.mem_of_getElem? (i := 92) rfl)) rfl
theorem ml_L_198 : Cond.methodLink RL 198 yL_window ∈ gtb := gt (inT5 (List.mem_of_getElem? (i := 160) rfl)) rfl
theorem ml_L_200 : Cond.methodLink RL 200 yX12_window ∈ gtb := gt (inT7 (List.mem_of_getElem? (i := 96) rfl)) rfl
theorem ml_L_201 : Cond.methodLink RL 201 yL_signal ∈ gtb := gt (inT5 (List.mem_of_getElem? (i := 167) rfl)) rfl
theorem ml_L_203 : Cond.methodLink RL 203 yX12_signal ∈ gtb := gt (inT7 (List.mem_of_getElem? (i := 100) rfl)) rfl
theorem ml_L_204 : Cond.methodLink RL 204 yL_queued ∈ gtb := gt (inT5 (List.mem_of_getElem? (i := 175) rfl)) rfl
theorem ml_L_206 : Cond.methodLink RL 206 yX12_queued ∈ gtb := gt (inT7 (List.mem_of_getElem? (i := 104) rfl)) rfl
theorem ml_L_207 : Cond.methodLink RL 207 yL_stored ∈ gtb := gt (inT5 (List.mem_of_getElem? (i := 187) rfl)) rfl
theorem ml_L_209 : Cond.methodLink RL 209 yX12_stored ∈ gtb := gt (inT7 (List.mem_of_getElem? (i := 108) rfl)) rfl
theorem ml_L_210 : Cond.methodLink RL 210 yX11_memorySize ∈ gtb := gt (inT4 (List.mem_of_getElem? (i := 1) rfl)) rfl
theorem ml_L_213 : Cond.methodLink RL 213 yX12_memorySize ∈ gtb := gt (inT7 (List.mem_of_getElem? (i := 112) rfl)) rfl
theorem ml_L_214 : Cond.methodLink RL 214 yL_injected ∈ gtb := gt (inT5 (List.mem_of_getElem? (i := 194) rfl)) rfl
theorem ml_L_216 : Cond.methodLink RL 216 yX12_injected ∈ gtb := gt (inT7 (List.mem_of_getElem? (i := 116) rfl)) rfl
theorem ml_L_217 : Cond.methodLink RL 217 yL_latency ∈ gtb := gt (inT5 (List.mem_of_getElem? (i := 202) rfl)) rfl
theorem ml_L_220 : Cond.methodLink RL 220 yX12_latency ∈ gtb := gt (inT7 (List.mem_of_getElem? (i := 120) rfl)) rfl
theorem ml_L_221 : Cond.methodLink RL 221 yL_nextResult ∈ gtb := gt (inT5 (List.mem_of_getElem? (i := 210) rfl)) rfl
theorem ml_L_223 : Cond.methodLink RL 223 yX12_nextResult ∈ gtb := gt (inT7 (List.mem_of_getElem? (i := 124) rfl)) rfl
theorem ml_L_224 : Cond.methodLink RL 224 yL_whenRaised ∈ gtb := gt (inT5 (List.mem_of_getElem? (i := 217) rfl)) rfl
theorem ml_L_226 : Cond.methodLink RL 226 yX12_whenRaised ∈ gtb := gt (inT7 (List.mem_of_getElem? (i := 140) rfl)) rfl
theorem ml_L_227 : Cond.methodLink RL 227 yL_overrunsWith ∈ gtb := gt (inT5 (List.mem_of_getElem? (i := 224) rfl)) rfl
theorem ml_L_229 : Cond.methodLink RL 229 yX12_overrunsWith ∈ gtb := gt (inT7 (List.mem_of_getElem? (i := 144) rfl)) rfl
theorem ml_L_230 : Cond.methodLink RL 230 yL_slowestPace ∈ gtb := gt (inT5 (List.mem_of_getElem? (i := 235) rfl)) rfl
theorem ml_L_232 : Cond.methodLink RL 232 yX12_slowestPace ∈ gtb := gt (inT7 (List.mem_of_getElem? (i := 152) rfl)) rfl
theorem ml_L_233 : Cond.methodLink RL 233 yX11_passLength ∈ gtb := gt (inT4 (List.mem_of_getElem? (i := 5) rfl)) rfl
theorem ml_L_237 : Cond.methodLink RL 237 yX12_passLength ∈ gtb := gt (inT7 (List.mem_of_getElem? (i := 156) rfl)) rfl
theorem ml_L_238 : Cond.methodLink RL 238 yL_save ∈ gtb := gt (inT6 (List.mem_of_getElem? (i := 2) rfl)) rfl
theorem ml_L_240 : Cond.methodLink RL 240 yX12_save ∈ gtb := gt (inT7 (List.mem_of_getElem? (i := 160) rfl)) rfl
theorem ml_L_241 : Cond.methodLink RL 241 yL_restore ∈ gtb := gt (inT6 (List.mem_of_getElem? (i := 13) rfl)) rfl
theorem ml_L_243 : Cond.methodLink RL 243 yX12_restore ∈ gtb := gt (inT7 (List.mem_of_getElem? (i := 164) rfl)) rfl
theorem my_X11_errorCode : MY yX11_errorCode cX11_errorCode 1 (some .int) 0 := ⟨gt (inT3 (List.mem_of_getElem? (i := 216) rfl)) rfl, gt (inT1 (List.mem_of_getElem? (i := 1) rfl)) rfl, ⟨by decide +kernel, by decide +kernel, by decide +kernel⟩, by decide +kernel⟩
theorem my_X11_errorPosition : MY yX11_errorPosition cX11_errorPosition 1 (some .int) 0 := ⟨gt (inT3 (List.mem_of_getElem? (i := 220) rfl)) rfl, gt (inT1 (List.mem_of_getElem? (i := 1) rfl)) rfl, ⟨by decide +kernel, by decide +kernel, by decide +kernel⟩, by decide +kernel⟩
theorem my_X11_memorySize : MY yX11_memorySize cX11_memorySize 1 (some .int) 0 := ⟨gt (inT4 (List.mem_of_getElem? (i := 4) rfl)) rfl, gt (inT1 (List.mem_of_getElem? (i := 1) rfl)) rfl, ⟨by decide +kernel, by decide +kernel, by decide +kernel⟩, by decide +kernel⟩
theorem my_X11_passLength : MY yX11_passLength cX11_passLength 5 (some .int) 1 := ⟨gt (inT4 (List.mem_of_getElem? (i := 8) rfl)) rfl, gt (inT1 (List.mem_of_getElem? (i := 1) rfl)) rfl, ⟨by decide +kernel, by decide +kernel, by decide +kernel⟩, by decide +kernel⟩
theorem my_X11_setup : MY yX11_setup cX11_setup 3 (some .int) 0 := ⟨gt (inT3 (List.mem_of_getElem? (i := 18) rfl)) rfl, gt (inT1 (List.mem_of_getElem? (i := 1) rfl)) rfl, ⟨by decide +kernel, by decide +kernel, by decide +kernel⟩, by decide +kernel⟩
theorem my_X11_stop : MY yX11_stop cX11_stop 1 (some .int) 0 := ⟨gt (inT3 (List.mem_of_getElem? (i := 224) rfl)) rfl, gt (inT1 (List.mem_of_getElem? (i := 1) rfl)) rfl, ⟨by decide +kernel, by decide +kernel, by decide +kernel⟩, by decide +kernel⟩
theorem my_X12_acknowledge : MY yX12_acknowledge cX12_acknowledge 3 (some .int) 1 := ⟨gt (inT7 (List.mem_of_getElem? (i := 42) rfl)) rfl, gt (inT1 (List.mem_of_getElem? (i := 13) rfl)) rfl, ⟨by decide +kernel, by decide +kernel, by decide +kernel⟩, by decide +kernel⟩
theorem my_X12_append : MY yX12_append cX12_append 6 (some .int) 5 := ⟨gt (inT6 (List.mem_of_getElem? (i := 28) rfl)) rfl, gt (inT1 (List.mem_of_getElem? (i := 13) rfl)) rfl, ⟨by decide +kernel, by decide +kernel, by decide +kernel⟩, by decide +kernel⟩
theorem my_X12_channel : MY yX12_channel cX12_channel 3 (some .int) 2 := ⟨gt (inT7 (List.mem_of_getElem? (i := 83) rfl)) rfl, gt (inT1 (List.mem_of_getElem? (i := 13) rfl)) rfl, ⟨by decide +kernel, by decide +kernel, by decide +kernel⟩, by decide +kernel⟩
theorem my_X12_entry : MY yX12_entry cX12_entry 4 (some .int) 2 := ⟨gt (inT7 (List.mem_of_getElem? (i := 79) rfl)) rfl, gt (inT1 (List.mem_of_getElem? (i := 13) rfl)) rfl, ⟨by decide +kernel, by decide +kernel, by decide +kernel⟩, by decide +kernel⟩
theorem my_X12_errorCode : MY yX12_errorCode cX12_errorCode 1 (some .int) 0 := ⟨gt (inT7 (List.mem_of_getElem? (i := 171) rfl)) rfl, gt (inT1 (List.mem_of_getElem? (i := 13) rfl)) rfl, ⟨by decide +kernel, by decide +kernel, by decide +kernel⟩, by decide +kernel⟩
theorem my_X12_errorPosition : MY yX12_errorPosition cX12_errorPosition 1 (some .int) 0 := ⟨gt (inT7 (List.mem_of_getElem? (i := 175) rfl)) rfl, gt (inT1 (List.mem_of_getElem? (i := 13) rfl)) rfl, ⟨by decide +kernel, by decide +kernel, by decide +kernel⟩, by decide +kernel⟩
theorem my_X12_fire : MY yX12_fire cX12_fire 2 (some .int) 1 := ⟨gt (inT7 (List.mem_of_getElem? (i := 26) rfl)) rfl, gt (inT1 (List.mem_of_getElem? (i := 13) rfl)) rfl, ⟨by decide +kernel, by decide +kernel, by decide +kernel⟩, by decide +kernel⟩
theorem my_X12_injected : MY yX12_injected cX12_injected 4 (some .int) 2 := ⟨gt (inT7 (List.mem_of_getElem? (i := 119) rfl)) rfl, gt (inT1 (List.mem_of_getElem? (i := 13) rfl)) rfl, ⟨by decide +kernel, by decide +kernel, by decide +kernel⟩, by decide +kernel⟩
theorem my_X12_latency : MY yX12_latency cX12_latency 4 (some .double) 1 := ⟨gt (inT7 (List.mem_of_getElem? (i := 123) rfl)) rfl, gt (inT1 (List.mem_of_getElem? (i := 13) rfl)) rfl, ⟨by decide +kernel, by decide +kernel, by decide +kernel⟩, by decide +kernel⟩
theorem my_X12_mean : MY yX12_mean cX12_mean 4 (some .double) 1 := ⟨gt (inT7 (List.mem_of_getElem? (i := 91) rfl)) rfl, gt (inT1 (List.mem_of_getElem? (i := 13) rfl)) rfl, ⟨by decide +kernel, by decide +kernel, by decide +kernel⟩, by decide +kernel⟩
theorem my_X12_memorySize : MY yX12_memorySize cX12_memorySize 1 (some .int) 0 := ⟨gt (inT7 (List.mem_of_getElem? (i := 115) rfl)) rfl, gt (inT1 (List.mem_of_getElem? (i := 13) rfl)) rfl, ⟨by decide +kernel, by decide +kernel, by decide +kernel⟩, by decide +kernel⟩
theorem my_X12_nextResult : MY yX12_nextResult cX12_nextResult 4 (some .int) 1 := ⟨gt (inT7 (List.mem_of_getElem? (i := 127) rfl)) rfl, gt (inT1 (List.mem_of_getElem? (i := 13) rfl)) rfl, ⟨by decide +kernel, by decide +kernel, by decide +kernel⟩, by decide +kernel⟩
theorem my_X12_overrunsWith : MY yX12_overrunsWith cX12_overrunsWith 3 (some .int) 2 := ⟨gt (inT7 (List.mem_of_getElem? (i := 147) rfl)) rfl, gt (inT1 (List.mem_of_getElem? (i := 13) rfl)) rfl, ⟨by decide +kernel, by decide +kernel, by decide +kernel⟩, by decide +kernel⟩
theorem my_X12_passLength : MY yX12_passLength cX12_passLength 5 (some .int) 1 := ⟨gt (inT7 (List.mem_of_getElem? (i := 159) rfl)) rfl, gt (inT1 (List.mem_of_getElem? (i := 13) rfl)) rfl, ⟨by decide +kernel, by decide +kernel, by decide +kernel⟩, by decide +kernel⟩
theorem my_X12_queued : MY yX12_queued cX12_queued 3 (some .int) 2 := ⟨gt (inT7 (List.mem_of_getElem? (i := 107) rfl)) rfl, gt (inT1 (List.mem_of_getElem? (i := 13) rfl)) rfl, ⟨by decide +kernel, by decide +kernel, by decide +kernel⟩, by decide +kernel⟩
theorem my_X12_restore : MY yX12_restore cX12_restore 3 (some .int) 1 := ⟨gt (inT7 (List.mem_of_getElem? (i := 167) rfl)) rfl, gt (inT1 (List.mem_of_getElem? (i := 13) rfl)) rfl, ⟨by decide +kernel, by decide +kernel, by decide +kernel⟩, by decide +kernel⟩
theorem my_X12_run : MY yX12_run cX12_run 4 (some .int) 1 := ⟨gt (inT6 (List.mem_of_getElem? (i := 161) rfl)) rfl, gt (inT1 (List.mem_of_getElem? (i := 13) rfl)) rfl, ⟨by decide +kernel, by decide +kernel, by decide +kernel⟩, by decide +kernel⟩
theorem my_X12_save : MY yX12_save cX12_save 2 (some .int) 1 := ⟨gt (inT7 (List.mem_of_getElem? (i := 163) rfl)) rfl, gt (inT1 (List.mem_of_getElem? (i := 13) rfl)) rfl, ⟨by decide +kernel, by decide +kernel, by decide +kernel⟩, by decide +kernel⟩
theorem my_X12_sequence : MY yX12_sequence cX12_sequence 4 (some .int) 2 := ⟨gt (inT7 (List.mem_of_getElem? (i := 75) rfl)) rfl, gt (inT1 (List.mem_of_getElem? (i := 13) rfl)) rfl, ⟨by decide +kernel, by decide +kernel, by decide +kernel⟩, by decide +kernel⟩
theorem my_X12_setPace : MY yX12_setPace cX12_setPace 3 (some .int) 1 := ⟨gt (inT7 (List.mem_of_getElem? (i := 67) rfl)) rfl, gt (inT1 (List.mem_of_getElem? (i := 13) rfl)) rfl, ⟨by decide +kernel, by decide +kernel, by decide +kernel⟩, by decide +kernel⟩
theorem my_X12_setSample : MY yX12_setSample cX12_setSample 4 (some .int) 2 := ⟨gt (inT7 (List.mem_of_getElem? (i := 58) rfl)) rfl, gt (inT1 (List.mem_of_getElem? (i := 13) rfl)) rfl, ⟨by decide +kernel, by decide +kernel, by decide +kernel⟩, by decide +kernel⟩
theorem my_X12_setSignal : MY yX12_setSignal cX12_setSignal 5 (some .int) 4 := ⟨gt (inT7 (List.mem_of_getElem? (i := 50) rfl)) rfl, gt (inT1 (List.mem_of_getElem? (i := 13) rfl)) rfl, ⟨by decide +kernel, by decide +kernel, by decide +kernel⟩, by decide +kernel⟩
theorem my_X12_setWindow : MY yX12_setWindow cX12_setWindow 4 (some .int) 3 := ⟨gt (inT7 (List.mem_of_getElem? (i := 62) rfl)) rfl, gt (inT1 (List.mem_of_getElem? (i := 13) rfl)) rfl, ⟨by decide +kernel, by decide +kernel, by decide +kernel⟩, by decide +kernel⟩
theorem my_X12_setup : MY yX12_setup cX12_setup 3 (some .int) 0 := ⟨gt (inT7 (List.mem_of_getElem? (i := 179) rfl)) rfl, gt (inT1 (List.mem_of_getElem? (i := 13) rfl)) rfl, ⟨by decide +kernel, by decide +kernel, by decide +kernel⟩, by decide +kernel⟩
theorem my_X12_signal : MY yX12_signal cX12_signal 3 (some .int) 2 := ⟨gt (inT7 (List.mem_of_getElem? (i := 103) rfl)) rfl, gt (inT1 (List.mem_of_getElem? (i := 13) rfl)) rfl, ⟨by decide +kernel, by decide +kernel, by decide +kernel⟩, by decide +kernel⟩
theorem my_X12_slowestPace : MY yX12_slowestPace cX12_slowestPace 3 (some .int) 1 := ⟨gt (inT7 (List.mem_of_getElem? (i := 155) rfl)) rfl, gt (inT1 (List.mem_of_getElem? (i := 13) rfl)) rfl, ⟨by decide +kernel, by decide +kernel, by decide +kernel⟩, by decide +kernel⟩
theorem my_X12_state : MY yX12_state cX12_state 2 (some .int) 1 := ⟨gt (inT7 (List.mem_of_getElem? (i := 71) rfl)) rfl, gt (inT1 (List.mem_of_getElem? (i := 13) rfl)) rfl, ⟨by decide +kernel, by decide +kernel, by decide +kernel⟩, by decide +kernel⟩
theorem my_X12_stop : MY yX12_stop cX12_stop 2 (some .int) 0 := ⟨gt (inT7 (List.mem_of_getElem? (i := 34) rfl)) rfl, gt (inT1 (List.mem_of_getElem? (i := 13) rfl)) rfl, ⟨by decide +kernel, by decide +kernel, by decide +kernel⟩, by decide +kernel⟩
theorem my_X12_stored : MY yX12_stored cX12_stored 3 (some .int) 2 := ⟨gt (inT7 (List.mem_of_getElem? (i := 111) rfl)) rfl, gt (inT1 (List.mem_of_getElem? (i := 13) rfl)) rfl, ⟨by decide +kernel, by decide +kernel, by decide +kernel⟩, by decide +kernel⟩
theorem my_X12_sum : MY yX12_sum cX12_sum 2 (some .long) 1 := ⟨gt (inT7 (List.mem_of_getElem? (i := 87) rfl)) rfl, gt (inT1 (List.mem_of_getElem? (i := 13) rfl)) rfl, ⟨by decide +kernel, by decide +kernel, by decide +kernel⟩, by decide +kernel⟩
theorem my_X12_take : MY yX12_take cX12_take 2 (some .int) 0 := ⟨gt (inT7 (List.mem_of_getElem? (i := 38) rfl)) rfl, gt (inT1 (List.mem_of_getElem? (i := 13) rfl)) rfl, ⟨by decide +kernel, by decide +kernel, by decide +kernel⟩, by decide +kernel⟩
theorem my_X12_thrown : MY yX12_thrown cX12_thrown 1 (some .int) 0 := ⟨gt (inT6 (List.mem_of_getElem? (i := 24) rfl)) rfl, gt (inT1 (List.mem_of_getElem? (i := 13) rfl)) rfl, ⟨by decide +kernel, by decide +kernel, by decide +kernel⟩, by decide +kernel⟩
theorem my_X12_trigger : MY yX12_trigger cX12_trigger 3 (some .int) 2 := ⟨gt (inT7 (List.mem_of_getElem? (i := 95) rfl)) rfl, gt (inT1 (List.mem_of_getElem? (i := 13) rfl)) rfl, ⟨by decide +kernel, by decide +kernel, by decide +kernel⟩, by decide +kernel⟩
theorem my_X12_truncate : MY yX12_truncate cX12_truncate 2 (some .int) 1 := ⟨gt (inT6 (List.mem_of_getElem? (i := 41) rfl)) rfl, gt (inT1 (List.mem_of_getElem? (i := 13) rfl)) rfl, ⟨by decide +kernel, by decide +kernel, by decide +kernel⟩, by decide +kernel⟩
theorem my_X12_whenRaised : MY yX12_whenRaised cX12_whenRaised 4 (some .int) 2 := ⟨gt (inT7 (List.mem_of_getElem? (i := 143) rfl)) rfl, gt (inT1 (List.mem_of_getElem? (i := 13) rfl)) rfl, ⟨by decide +kernel, by decide +kernel, by decide +kernel⟩, by decide +kernel⟩
theorem my_X12_window : MY yX12_window cX12_window 4 (some .int) 2 := ⟨gt (inT7 (List.mem_of_getElem? (i := 99) rfl)) rfl, gt (inT1 (List.mem_of_getElem? (i := 13) rfl)) rfl, ⟨by decide +kernel, by decide +kernel, by decide +kernel⟩, by decide +kernel⟩
theorem myh_L_acknowledge : MYH yL_acknowledge cL_acknowledge 4 (some .int) [(0, 9, 12, 27)] 3 := ⟨gt (inT5 (List.mem_of_getElem? (i := 43) rfl)) rfl, gt (inT1 (List.mem_of_getElem? (i := 0) rfl)) rfl, ⟨by decide +kernel, by decide +kernel, by decide +kernel⟩⟩
theorem myh_L_append : MYH yL_append cL_append 8 (some .int) [(0, 16, 19, 13)] 7 := ⟨gt (inT4 (List.mem_of_getElem? (i := 19) rfl)) rfl, gt (inT1 (List.mem_of_getElem? (i := 0) rfl)) rfl, ⟨by decide +kernel, by decide +kernel, by decide +kernel⟩⟩
theorem myh_L_channel : MYH yL_channel cL_channel 5 (some .int) [(0, 10, 13, 27), (0, 10, 17, 19)] 4 := ⟨gt (inT5 (List.mem_of_getElem? (i := 133) rfl)) rfl, gt (inT1 (List.mem_of_getElem? (i := 0) rfl)) rfl, ⟨by decide +kernel, by decide +kernel, by decide +kernel⟩⟩
theorem myh_L_entry : MYH yL_entry cL_entry 5 (some .int) [(0, 10, 13, 27)] 4 := ⟨gt (inT5 (List.mem_of_getElem? (i := 125) rfl)) rfl, gt (inT1 (List.mem_of_getElem? (i := 0) rfl)) rfl, ⟨by decide +kernel, by decide +kernel, by decide +kernel⟩⟩
theorem myh_L_fire : MYH yL_fire cL_fire 4 (some .int) [(0, 9, 12, 27)] 3 := ⟨gt (inT4 (List.mem_of_getElem? (i := 227) rfl)) rfl, gt (inT1 (List.mem_of_getElem? (i := 0) rfl)) rfl, ⟨by decide +kernel, by decide +kernel, by decide +kernel⟩⟩
theorem myh_L_injected : MYH yL_injected cL_injected 5 (some .int) [(0, 10, 13, 27), (0, 10, 17, 19), (0, 10, 21, 33)] 4 := ⟨gt (inT5 (List.mem_of_getElem? (i := 196) rfl)) rfl, gt (inT1 (List.mem_of_getElem? (i := 0) rfl)) rfl, ⟨by decide +kernel, by decide +kernel, by decide +kernel⟩⟩
theorem myh_L_latency : MYH yL_latency cL_latency 4 (some .int) [(0, 8, 11, 33)] 3 := ⟨gt (inT5 (List.mem_of_getElem? (i := 204) rfl)) rfl, gt (inT1 (List.mem_of_getElem? (i := 0) rfl)) rfl, ⟨by decide +kernel, by decide +kernel, by decide +kernel⟩⟩
theorem myh_L_mean : MYH yL_mean cL_mean 4 (some .int) [(0, 8, 11, 27), (0, 8, 14, 33)] 3 := ⟨gt (inT5 (List.mem_of_getElem? (i := 147) rfl)) rfl, gt (inT1 (List.mem_of_getElem? (i := 0) rfl)) rfl, ⟨by decide +kernel, by decide +kernel, by decide +kernel⟩⟩
theorem myh_L_nextResult : MYH yL_nextResult cL_nextResult 4 (some .int) [(0, 9, 12, 19)] 3 := ⟨gt (inT5 (List.mem_of_getElem? (i := 212) rfl)) rfl, gt (inT1 (List.mem_of_getElem? (i := 0) rfl)) rfl, ⟨by decide +kernel, by decide +kernel, by decide +kernel⟩⟩
theorem myh_L_overrunsWith : MYH yL_overrunsWith cL_overrunsWith 5 (some .int) [(0, 10, 13, 19)] 4 := ⟨gt (inT5 (List.mem_of_getElem? (i := 226) rfl)) rfl, gt (inT1 (List.mem_of_getElem? (i := 0) rfl)) rfl, ⟨by decide +kernel, by decide +kernel, by decide +kernel⟩⟩
theorem myh_L_queued : MYH yL_queued cL_queued 5 (some .int) [(0, 10, 13, 33), (0, 10, 17, 19)] 4 := ⟨gt (inT5 (List.mem_of_getElem? (i := 177) rfl)) rfl, gt (inT1 (List.mem_of_getElem? (i := 0) rfl)) rfl, ⟨by decide +kernel, by decide +kernel, by decide +kernel⟩⟩
theorem myh_L_restore : MYH yL_restore cL_restore 4 (some .int) [(0, 9, 12, 19), (0, 9, 15, 13)] 3 := ⟨gt (inT6 (List.mem_of_getElem? (i := 15) rfl)) rfl, gt (inT1 (List.mem_of_getElem? (i := 0) rfl)) rfl, ⟨by decide +kernel, by decide +kernel, by decide +kernel⟩⟩
theorem myh_L_run : MYH yL_run cL_run 4 (some .int) [(0, 9, 12, 19)] 3 := ⟨gt (inT4 (List.mem_of_getElem? (i := 123) rfl)) rfl, gt (inT1 (List.mem_of_getElem? (i := 0) rfl)) rfl, ⟨by decide +kernel, by decide +kernel, by decide +kernel⟩⟩
theorem myh_L_save : MYH yL_save cL_save 4 (some .int) [(0, 9, 12, 19)] 3 := ⟨gt (inT6 (List.mem_of_getElem? (i := 4) rfl)) rfl, gt (inT1 (List.mem_of_getElem? (i := 0) rfl)) rfl, ⟨by decide +kernel, by decide +kernel, by decide +kernel⟩⟩
theorem myh_L_sequence : MYH yL_sequence cL_sequence 5 (some .int) [(0, 10, 13, 19)] 4 := ⟨gt (inT5 (List.mem_of_getElem? (i := 118) rfl)) rfl, gt (inT1 (List.mem_of_getElem? (i := 0) rfl)) rfl, ⟨by decide +kernel, by decide +kernel, by decide +kernel⟩⟩
theorem myh_L_setPace : MYH yL_setPace cL_setPace 4 (some .int) [(0, 9, 12, 19)] 3 := ⟨gt (inT5 (List.mem_of_getElem? (i := 95) rfl)) rfl, gt (inT1 (List.mem_of_getElem? (i := 0) rfl)) rfl, ⟨by decide +kernel, by decide +kernel, by decide +kernel⟩⟩
theorem myh_L_setSample : MYH yL_setSample cL_setSample 5 (some .int) [(0, 10, 13, 27), (0, 10, 17, 19)] 4 := ⟨gt (inT5 (List.mem_of_getElem? (i := 77) rfl)) rfl, gt (inT1 (List.mem_of_getElem? (i := 0) rfl)) rfl, ⟨by decide +kernel, by decide +kernel, by decide +kernel⟩⟩
theorem myh_L_setSignal : MYH yL_setSignal cL_setSignal 7 (some .int) [(0, 14, 17, 27), (0, 14, 21, 19)] 6 := ⟨gt (inT5 (List.mem_of_getElem? (i := 60) rfl)) rfl, gt (inT1 (List.mem_of_getElem? (i := 0) rfl)) rfl, ⟨by decide +kernel, by decide +kernel, by decide +kernel⟩⟩
theorem myh_L_setWindow : MYH yL_setWindow cL_setWindow 6 (some .int) [(0, 12, 15, 27), (0, 12, 19, 19)] 5 := ⟨gt (inT5 (List.mem_of_getElem? (i := 86) rfl)) rfl, gt (inT1 (List.mem_of_getElem? (i := 0) rfl)) rfl, ⟨by decide +kernel, by decide +kernel, by decide +kernel⟩⟩
theorem myh_L_signal : MYH yL_signal cL_signal 5 (some .int) [(0, 10, 13, 27), (0, 10, 17, 19)] 4 := ⟨gt (inT5 (List.mem_of_getElem? (i := 169) rfl)) rfl, gt (inT1 (List.mem_of_getElem? (i := 0) rfl)) rfl, ⟨by decide +kernel, by decide +kernel, by decide +kernel⟩⟩
theorem myh_L_slowestPace : MYH yL_slowestPace cL_slowestPace 4 (some .int) [(0, 9, 12, 19)] 3 := ⟨gt (inT5 (List.mem_of_getElem? (i := 237) rfl)) rfl, gt (inT1 (List.mem_of_getElem? (i := 0) rfl)) rfl, ⟨by decide +kernel, by decide +kernel, by decide +kernel⟩⟩
theorem myh_L_state : MYH yL_state cL_state 4 (some .int) [(0, 9, 12, 19)] 3 := ⟨gt (inT5 (List.mem_of_getElem? (i := 107) rfl)) rfl, gt (inT1 (List.mem_of_getElem? (i := 0) rfl)) rfl, ⟨by decide +kernel, by decide +kernel, by decide +kernel⟩⟩
theorem myh_L_stored : MYH yL_stored cL_stored 5 (some .int) [(0, 10, 13, 33), (0, 10, 17, 19)] 4 := ⟨gt (inT5 (List.mem_of_getElem? (i := 189) rfl)) rfl, gt (inT1 (List.mem_of_getElem? (i := 0) rfl)) rfl, ⟨by decide +kernel, by decide +kernel, by decide +kernel⟩⟩
theorem myh_L_sum : MYH yL_sum cL_sum 4 (some .int) [(0, 8, 11, 27)] 3 := ⟨gt (inT5 (List.mem_of_getElem? (i := 140) rfl)) rfl, gt (inT1 (List.mem_of_getElem? (i := 0) rfl)) rfl, ⟨by decide +kernel, by decide +kernel, by decide +kernel⟩⟩
theorem myh_L_take : MYH yL_take cL_take 3 (some .int) [(0, 8, 11, 33)] 2 := ⟨gt (inT5 (List.mem_of_getElem? (i := 17) rfl)) rfl, gt (inT1 (List.mem_of_getElem? (i := 0) rfl)) rfl, ⟨by decide +kernel, by decide +kernel, by decide +kernel⟩⟩
theorem myh_L_trigger : MYH yL_trigger cL_trigger 5 (some .int) [(0, 10, 13, 27), (0, 10, 17, 19)] 4 := ⟨gt (inT5 (List.mem_of_getElem? (i := 155) rfl)) rfl, gt (inT1 (List.mem_of_getElem? (i := 0) rfl)) rfl, ⟨by decide +kernel, by decide +kernel, by decide +kernel⟩⟩
theorem myh_L_truncate : MYH yL_truncate cL_truncate 4 (some .int) [(0, 9, 12, 19)] 3 := ⟨gt (inT4 (List.mem_of_getElem? (i := 99) rfl)) rfl, gt (inT1 (List.mem_of_getElem? (i := 0) rfl)) rfl, ⟨by decide +kernel, by decide +kernel, by decide +kernel⟩⟩
theorem myh_L_whenRaised : MYH yL_whenRaised cL_whenRaised 5 (some .int) [(0, 10, 13, 27), (0, 10, 17, 19)] 4 := ⟨gt (inT5 (List.mem_of_getElem? (i := 219) rfl)) rfl, gt (inT1 (List.mem_of_getElem? (i := 0) rfl)) rfl, ⟨by decide +kernel, by decide +kernel, by decide +kernel⟩⟩
theorem myh_L_window : MYH yL_window cL_window 5 (some .int) [(0, 10, 13, 27), (0, 10, 17, 19)] 4 := ⟨gt (inT5 (List.mem_of_getElem? (i := 162) rfl)) rfl, gt (inT1 (List.mem_of_getElem? (i := 0) rfl)) rfl, ⟨by decide +kernel, by decide +kernel, by decide +kernel⟩⟩
theorem vy_X11_errorCode : VY yX11_errorCode := ⟨gt (inT3 (List.mem_of_getElem? (i := 214) rfl)) rfl, gt (inT3 (List.mem_of_getElem? (i := 215) rfl)) rfl⟩
theorem vy_X11_errorPosition : VY yX11_errorPosition := ⟨gt (inT3 (List.mem_of_getElem? (i := 218) rfl)) rfl, gt (inT3 (List.mem_of_getElem? (i := 219) rfl)) rfl⟩
theorem vy_X11_memorySize : VY yX11_memorySize := ⟨gt (inT4 (List.mem_of_getElem? (i := 2) rfl)) rfl, gt (inT4 (List.mem_of_getElem? (i := 3) rfl)) rfl⟩
theorem vy_X11_passLength : VY yX11_passLength := ⟨gt (inT4 (List.mem_of_getElem? (i := 6) rfl)) rfl, gt (inT4 (List.mem_of_getElem? (i := 7) rfl)) rfl⟩
theorem vy_X11_setup : VY yX11_setup := ⟨gt (inT3 (List.mem_of_getElem? (i := 16) rfl)) rfl, gt (inT3 (List.mem_of_getElem? (i := 17) rfl)) rfl⟩
theorem vy_X11_stop : VY yX11_stop := ⟨gt (inT3 (List.mem_of_getElem? (i := 222) rfl)) rfl, gt (inT3 (List.mem_of_getElem? (i := 223) rfl)) rfl⟩
theorem vy_X12_acknowledge : VY yX12_acknowledge := ⟨gt (inT7 (List.mem_of_getElem? (i := 40) rfl)) rfl, gt (inT7 (List.mem_of_getElem? (i := 41) rfl)) rfl⟩
theorem vy_X12_append : VY yX12_append := ⟨gt (inT6 (List.mem_of_getElem? (i := 26) rfl)) rfl, gt (inT6 (List.mem_of_getElem? (i := 27) rfl)) rfl⟩
theorem vy_X12_channel : VY yX12_channel := ⟨gt (inT7 (List.mem_of_getElem? (i := 81) rfl)) rfl, gt (inT7 (List.mem_of_getElem? (i := 82) rfl)) rfl⟩
theorem vy_X12_entry : VY yX12_entry := ⟨gt (inT7 (List.mem_of_getElem? (i := 77) rfl)) rfl, gt (inT7 (List.mem_of_getElem? (i := 78) rfl)) rfl⟩
theorem vy_X12_errorCode : VY yX12_errorCode := ⟨gt (inT7 (List.mem_of_getElem? (i := 169) rfl)) rfl, gt (inT7 (List.mem_of_getElem? (i := 170) rfl)) rfl⟩
theorem vy_X12_errorPosition : VY yX12_errorPosition := ⟨gt (inT7 (List.mem_of_getElem? (i := 173) rfl)) rfl, gt (inT7 (List.mem_of_getElem? (i := 174) rfl)) rfl⟩
theorem vy_X12_fire : VY yX12_fire := ⟨gt (inT7 (List.mem_of_getElem? (i := 24) rfl)) rfl, gt (inT7 (List.mem_of_getElem? (i := 25) rfl)) rfl⟩
theorem vy_X12_injected : VY yX12_injected := ⟨gt (inT7 (List.mem_of_getElem? (i := 117) rfl)) rfl, gt (inT7 (List.mem_of_getElem? (i := 118) rfl)) rfl⟩
theorem vy_X12_latency : VY yX12_latency := ⟨gt (inT7 (List.mem_of_getElem? (i := 121) rfl)) rfl, gt (inT7 (List.mem_of_getElem? (i := 122) rfl)) rfl⟩
theorem vy_X12_mean : VY yX12_mean := ⟨gt (inT7 (List.mem_of_getElem? (i := 89) rfl)) rfl, gt (inT7 (List.mem_of_getElem? (i := 90) rfl)) rfl⟩
theorem vy_X12_memorySize : VY yX12_memorySize := ⟨gt (inT7 (List.mem_of_getElem? (i := 113) rfl)) rfl, gt (inT7 (List.mem_of_getElem? (i := 114) rfl)) rfl⟩
theorem vy_X12_nextResult : VY yX12_nextResult := ⟨gt (inT7 (List.mem_of_getElem? (i := 125) rfl)) rfl, gt (inT7 (List.mem_of_getElem? (i := 126) rfl)) rfl⟩
theorem vy_X12_overrunsWith : VY yX12_overrunsWith := ⟨gt (inT7 (List.mem_of_getElem? (i := 145) rfl)) rfl, gt (inT7 (List.mem_of_getElem? (i := 146) rfl)) rfl⟩
theorem vy_X12_passLength : VY yX12_passLength := ⟨gt (inT7 (List.mem_of_getElem? (i := 157) rfl)) rfl, gt (inT7 (List.mem_of_getElem? (i := 158) rfl)) rfl⟩
theorem vy_X12_queued : VY yX12_queued := ⟨gt (inT7 (List.mem_of_getElem? (i := 105) rfl)) rfl, gt (inT7 (List.mem_of_getElem? (i := 106) rfl)) rfl⟩
theorem vy_X12_restore : VY yX12_restore := ⟨gt (inT7 (List.mem_of_getElem? (i := 165) rfl)) rfl, gt (inT7 (List.mem_of_getElem? (i := 166) rfl)) rfl⟩
theorem vy_X12_run : VY yX12_run := ⟨gt (inT6 (List.mem_of_getElem? (i := 159) rfl)) rfl, gt (inT6 (List.mem_of_getElem? (i := 160) rfl)) rfl⟩
theorem vy_X12_save : VY yX12_save := ⟨gt (inT7 (List.mem_of_getElem? (i := 161) rfl)) rfl, gt (inT7 (List.mem_of_getElem? (i := 162) rfl)) rfl⟩
theorem vy_X12_sequence : VY yX12_sequence := ⟨gt (inT7 (List.mem_of_getElem? (i := 73) rfl)) rfl, gt (inT7 (List.mem_of_getElem? (i := 74) rfl)) rfl⟩
theorem vy_X12_setPace : VY yX12_setPace := ⟨gt (inT7 (List.mem_of_getElem? (i := 65) rfl)) rfl, gt (inT7 (List.mem_of_getElem? (i := 66) rfl)) rfl⟩
theorem vy_X12_setSample : VY yX12_setSample := ⟨gt (inT7 (List.mem_of_getElem? (i := 56) rfl)) rfl, gt (inT7 (List.mem_of_getElem? (i := 57) rfl)) rfl⟩
theorem vy_X12_setSignal : VY yX12_setSignal := ⟨gt (inT7 (List.mem_of_getElem? (i := 48) rfl)) rfl, gt (inT7 (List.mem_of_getElem? (i := 49) rfl)) rfl⟩
theorem vy_X12_setWindow : VY yX12_setWindow := ⟨gt (inT7 (List.mem_of_getElem? (i := 60) rfl)) rfl, gt (inT7 (List.mem_of_getElem? (i := 61) rfl)) rfl⟩
theorem vy_X12_setup : VY yX12_setup := ⟨gt (inT7 (List.mem_of_getElem? (i := 177) rfl)) rfl, gt (inT7 (List.mem_of_getElem? (i := 178) rfl)) rfl⟩
theorem vy_X12_signal : VY yX12_signal := ⟨gt (inT7 (List.mem_of_getElem? (i := 101) rfl)) rfl, gt (inT7 (List.mem_of_getElem? (i := 102) rfl)) rfl⟩
theorem vy_X12_slowestPace : VY yX12_slowestPace := ⟨gt (inT7 (List.mem_of_getElem? (i := 153) rfl)) rfl, gt (inT7 (List.mem_of_getElem? (i := 154) rfl)) rfl⟩
theorem vy_X12_state : VY yX12_state := ⟨gt (inT7 (List.mem_of_getElem? (i := 69) rfl)) rfl, gt (inT7 (List.mem_of_getElem? (i := 70) rfl)) rfl⟩
theorem vy_X12_stop : VY yX12_stop := ⟨gt (inT7 (List.mem_of_getElem? (i := 32) rfl)) rfl, gt (inT7 (List.mem_of_getElem? (i := 33) rfl)) rfl⟩
theorem vy_X12_stored : VY yX12_stored := ⟨gt (inT7 (List.mem_of_getElem? (i := 109) rfl)) rfl, gt (inT7 (List.mem_of_getElem? (i := 110) rfl)) rfl⟩
theorem vy_X12_sum : VY yX12_sum := ⟨gt (inT7 (List.mem_of_getElem? (i := 85) rfl)) rfl, gt (inT7 (List.mem_of_getElem? (i := 86) rfl)) rfl⟩
theorem vy_X12_take : VY yX12_take := ⟨gt (inT7 (List.mem_of_getElem? (i := 36) rfl)) rfl, gt (inT7 (List.mem_of_getElem? (i := 37) rfl)) rfl⟩
theorem vy_X12_thrown : VY yX12_thrown := ⟨gt (inT6 (List.mem_of_getElem? (i := 22) rfl)) rfl, gt (inT6 (List.mem_of_getElem? (i := 23) rfl)) rfl⟩
theorem vy_X12_trigger : VY yX12_trigger := ⟨gt (inT7 (List.mem_of_getElem? (i := 93) rfl)) rfl, gt (inT7 (List.mem_of_getElem? (i := 94) rfl)) rfl⟩
theorem vy_X12_truncate : VY yX12_truncate := ⟨gt (inT6 (List.mem_of_getElem? (i := 39) rfl)) rfl, gt (inT6 (List.mem_of_getElem? (i := 40) rfl)) rfl⟩
theorem vy_X12_whenRaised : VY yX12_whenRaised := ⟨gt (inT7 (List.mem_of_getElem? (i := 141) rfl)) rfl, gt (inT7 (List.mem_of_getElem? (i := 142) rfl)) rfl⟩
theorem vy_X12_window : VY yX12_window := ⟨gt (inT7 (List.mem_of_getElem? (i := 97) rfl)) rfl, gt (inT7 (List.mem_of_getElem? (i := 98) rfl)) rfl⟩
theorem sy_L_acknowledge : Cond.static yL_acknowledge ∈ gtb := gt (inT5 (List.mem_of_getElem? (i := 42) rfl)) rfl
theorem sy_L_append : Cond.static yL_append ∈ gtb := gt (inT4 (List.mem_of_getElem? (i := 18) rfl)) rfl
theorem sy_L_channel : Cond.static yL_channel ∈ gtb := gt (inT5 (List.mem_of_getElem? (i := 132) rfl)) rfl
theorem sy_L_entry : Cond.static yL_entry ∈ gtb := gt (inT5 (List.mem_of_getElem? (i := 124) rfl)) rfl
theorem sy_L_fire : Cond.static yL_fire ∈ gtb := gt (inT4 (List.mem_of_getElem? (i := 226) rfl)) rfl
theorem sy_L_injected : Cond.static yL_injected ∈ gtb := gt (inT5 (List.mem_of_getElem? (i := 195) rfl)) rfl
theorem sy_L_latency : Cond.static yL_latency ∈ gtb := gt (inT5 (List.mem_of_getElem? (i := 203) rfl)) rfl
theorem sy_L_mean : Cond.static yL_mean ∈ gtb := gt (inT5 (List.mem_of_getElem? (i := 146) rfl)) rfl
theorem sy_L_nextResult : Cond.static yL_nextResult ∈ gtb := gt (inT5 (List.mem_of_getElem? (i := 211) rfl)) rfl
theorem sy_L_overrunsWith : Cond.static yL_overrunsWith ∈ gtb := gt (inT5 (List.mem_of_getElem? (i := 225) rfl)) rfl
theorem sy_L_queued : Cond.static yL_queued ∈ gtb := gt (inT5 (List.mem_of_getElem? (i := 176) rfl)) rfl
theorem sy_L_restore : Cond.static yL_restore ∈ gtb := gt (inT6 (List.mem_of_getElem? (i := 14) rfl)) rfl
theorem sy_L_run : Cond.static yL_run ∈ gtb := gt (inT4 (List.mem_of_getElem? (i := 122) rfl)) rfl
theorem sy_L_save : Cond.static yL_save ∈ gtb := gt (inT6 (List.mem_of_getElem? (i := 3) rfl)) rfl
theorem sy_L_sequence : Cond.static yL_sequence ∈ gtb := gt (inT5 (List.mem_of_getElem? (i := 117) rfl)) rfl
theorem sy_L_setPace : Cond.static yL_setPace ∈ gtb := gt (inT5 (List.mem_of_getElem? (i := 94) rfl)) rfl
theorem sy_L_setSample : Cond.static yL_setSample ∈ gtb := gt (inT5 (List.mem_of_getElem? (i := 76) rfl)) rfl
theorem sy_L_setSignal : Cond.static yL_setSignal ∈ gtb := gt (inT5 (List.mem_of_getElem? (i := 59) rfl)) rfl
theorem sy_L_setWindow : Cond.static yL_setWindow ∈ gtb := gt (inT5 (List.mem_of_getElem? (i := 85) rfl)) rfl
theorem sy_L_signal : Cond.static yL_signal ∈ gtb := gt (inT5 (List.mem_of_getElem? (i := 168) rfl)) rfl
theorem sy_L_slowestPace : Cond.static yL_slowestPace ∈ gtb := gt (inT5 (List.mem_of_getElem? (i := 236) rfl)) rfl
theorem sy_L_state : Cond.static yL_state ∈ gtb := gt (inT5 (List.mem_of_getElem? (i := 106) rfl)) rfl
theorem sy_L_stored : Cond.static yL_stored ∈ gtb := gt (inT5 (List.mem_of_getElem? (i := 188) rfl)) rfl
theorem sy_L_sum : Cond.static yL_sum ∈ gtb := gt (inT5 (List.mem_of_getElem? (i := 139) rfl)) rfl
theorem sy_L_take : Cond.static yL_take ∈ gtb := gt (inT5 (List.mem_of_getElem? (i := 16) rfl)) rfl
theorem sy_L_trigger : Cond.static yL_trigger ∈ gtb := gt (inT5 (List.mem_of_getElem? (i := 154) rfl)) rfl
theorem sy_L_truncate : Cond.static yL_truncate ∈ gtb := gt (inT4 (List.mem_of_getElem? (i := 98) rfl)) rfl
theorem sy_L_whenRaised : Cond.static yL_whenRaised ∈ gtb := gt (inT5 (List.mem_of_getElem? (i := 218) rfl)) rfl
theorem sy_L_window : Cond.static yL_window ∈ gtb := gt (inT5 (List.mem_of_getElem? (i := 161) rfl)) rfl
