theorem cl_L_13 : Cond.classLink RL 13 (exn 0) ∈ gtb := gt (inT4 (List.mem_of_getElem? (i := 20) rfl)) rfl
theorem cl_L_19 : Cond.classLink RL 19 (exn 1) ∈ gtb := gt (inT4 (List.mem_of_getElem? (i := 100) rfl)) rfl
theorem cl_L_27 : Cond.classLink RL 27 (exn 2) ∈ gtb := gt (inT4 (List.mem_of_getElem? (i := 228) rfl)) rfl
theorem cl_L_33 : Cond.classLink RL 33 (exn 3) ∈ gtb := gt (inT5 (List.mem_of_getElem? (i := 18) rfl)) rfl
theorem ml_L_7 : Cond.methodLink RL 7 yX11_append ∈ gtb := gt (inT4 (List.mem_of_getElem? (i := 21) rfl)) rfl
theorem ml_L_15 : Cond.methodLink RL 15 yX11_truncate ∈ gtb := gt (inT4 (List.mem_of_getElem? (i := 101) rfl)) rfl
theorem ml_L_21 : Cond.methodLink RL 21 yX11_run ∈ gtb := gt (inT4 (List.mem_of_getElem? (i := 124) rfl)) rfl
theorem ml_L_24 : Cond.methodLink RL 24 yX11_fire ∈ gtb := gt (inT4 (List.mem_of_getElem? (i := 229) rfl)) rfl
theorem ml_L_29 : Cond.methodLink RL 29 yX11_take ∈ gtb := gt (inT5 (List.mem_of_getElem? (i := 19) rfl)) rfl
theorem ml_L_35 : Cond.methodLink RL 35 yX11_acknowledge ∈ gtb := gt (inT5 (List.mem_of_getElem? (i := 44) rfl)) rfl
theorem ml_L_38 : Cond.methodLink RL 38 yX11_setSignal ∈ gtb := gt (inT5 (List.mem_of_getElem? (i := 61) rfl)) rfl
theorem ml_L_42 : Cond.methodLink RL 42 yX11_setSample ∈ gtb := gt (inT5 (List.mem_of_getElem? (i := 78) rfl)) rfl
theorem ml_L_46 : Cond.methodLink RL 46 yX11_setWindow ∈ gtb := gt (inT5 (List.mem_of_getElem? (i := 87) rfl)) rfl
theorem ml_L_50 : Cond.methodLink RL 50 yX11_setPace ∈ gtb := gt (inT5 (List.mem_of_getElem? (i := 96) rfl)) rfl
theorem ml_L_53 : Cond.methodLink RL 53 yX11_state ∈ gtb := gt (inT5 (List.mem_of_getElem? (i := 108) rfl)) rfl
theorem ml_L_56 : Cond.methodLink RL 56 yX11_sequence ∈ gtb := gt (inT5 (List.mem_of_getElem? (i := 119) rfl)) rfl
theorem ml_L_60 : Cond.methodLink RL 60 yX11_entry ∈ gtb := gt (inT5 (List.mem_of_getElem? (i := 126) rfl)) rfl
theorem ml_L_63 : Cond.methodLink RL 63 yX11_channel ∈ gtb := gt (inT5 (List.mem_of_getElem? (i := 134) rfl)) rfl
theorem ml_L_66 : Cond.methodLink RL 66 yX11_sum ∈ gtb := gt (inT5 (List.mem_of_getElem? (i := 141) rfl)) rfl
theorem ml_L_70 : Cond.methodLink RL 70 yX11_mean ∈ gtb := gt (inT5 (List.mem_of_getElem? (i := 148) rfl)) rfl
theorem ml_L_74 : Cond.methodLink RL 74 yX11_trigger ∈ gtb := gt (inT5 (List.mem_of_getElem? (i := 156) rfl)) rfl
theorem ml_L_77 : Cond.methodLink RL 77 yX11_window ∈ gtb := gt (inT5 (List.mem_of_getElem? (i := 163) rfl)) rfl
theorem ml_L_80 : Cond.methodLink RL 80 yX11_signal ∈ gtb := gt (inT5 (List.mem_of_getElem? (i := 170) rfl)) rfl
theorem ml_L_83 : Cond.methodLink RL 83 yX11_queued ∈ gtb := gt (inT5 (List.mem_of_getElem? (i := 178) rfl)) rfl
theorem ml_L_86 : Cond.methodLink RL 86 yX11_stored ∈ gtb := gt (inT5 (List.mem_of_getElem? (i := 190) rfl)) rfl
theorem ml_L_89 : Cond.methodLink RL 89 yX11_injected ∈ gtb := gt (inT5 (List.mem_of_getElem? (i := 197) rfl)) rfl
theorem ml_L_92 : Cond.methodLink RL 92 yX11_latency ∈ gtb := gt (inT5 (List.mem_of_getElem? (i := 205) rfl)) rfl
theorem ml_L_96 : Cond.methodLink RL 96 yX11_nextResult ∈ gtb := gt (inT5 (List.mem_of_getElem? (i := 213) rfl)) rfl
theorem ml_L_99 : Cond.methodLink RL 99 yX11_whenRaised ∈ gtb := gt (inT5 (List.mem_of_getElem? (i := 220) rfl)) rfl
theorem ml_L_102 : Cond.methodLink RL 102 yX11_overrunsWith ∈ gtb := gt (inT5 (List.mem_of_getElem? (i := 227) rfl)) rfl
theorem ml_L_105 : Cond.methodLink RL 105 yX11_slowestPace ∈ gtb := gt (inT5 (List.mem_of_getElem? (i := 238) rfl)) rfl
theorem ml_L_108 : Cond.methodLink RL 108 yX11_save ∈ gtb := gt (inT6 (List.mem_of_getElem? (i := 5) rfl)) rfl
theorem ml_L_111 : Cond.methodLink RL 111 yX11_restore ∈ gtb := gt (inT6 (List.mem_of_getElem? (i := 16) rfl)) rfl
theorem my_X11_acknowledge : MY yX11_acknowledge cX11_acknowledge 2 (some .int) 1 := ⟨gt (inT5 (List.mem_of_getElem? (i := 47) rfl)) rfl, gt (inT1 (List.mem_of_getElem? (i := 1) rfl)) rfl, ⟨by decide +kernel, by decide +kernel, by decide +kernel⟩, by decide +kernel⟩
theorem my_X11_append : MY yX11_append cX11_append 7 (some .int) 5 := ⟨gt (inT4 (List.mem_of_getElem? (i := 24) rfl)) rfl, gt (inT1 (List.mem_of_getElem? (i := 1) rfl)) rfl, ⟨by decide +kernel, by decide +kernel, by decide +kernel⟩, by decide +kernel⟩
theorem my_X11_channel : MY yX11_channel cX11_channel 4 (some .int) 2 := ⟨gt (inT5 (List.mem_of_getElem? (i := 137) rfl)) rfl, gt (inT1 (List.mem_of_getElem? (i := 1) rfl)) rfl, ⟨by decide +kernel, by decide +kernel, by decide +kernel⟩, by decide +kernel⟩
theorem my_X11_entry : MY yX11_entry cX11_entry 4 (some .int) 2 := ⟨gt (inT5 (List.mem_of_getElem? (i := 129) rfl)) rfl, gt (inT1 (List.mem_of_getElem? (i := 1) rfl)) rfl, ⟨by decide +kernel, by decide +kernel, by decide +kernel⟩, by decide +kernel⟩
theorem my_X11_fire : MY yX11_fire cX11_fire 2 (some .int) 1 := ⟨gt (inT4 (List.mem_of_getElem? (i := 232) rfl)) rfl, gt (inT1 (List.mem_of_getElem? (i := 1) rfl)) rfl, ⟨by decide +kernel, by decide +kernel, by decide +kernel⟩, by decide +kernel⟩
theorem my_X11_injected : MY yX11_injected cX11_injected 3 (some .int) 2 := ⟨gt (inT5 (List.mem_of_getElem? (i := 200) rfl)) rfl, gt (inT1 (List.mem_of_getElem? (i := 1) rfl)) rfl, ⟨by decide +kernel, by decide +kernel, by decide +kernel⟩, by decide +kernel⟩
theorem my_X11_latency : MY yX11_latency cX11_latency 3 (some .double) 1 := ⟨gt (inT5 (List.mem_of_getElem? (i := 208) rfl)) rfl, gt (inT1 (List.mem_of_getElem? (i := 1) rfl)) rfl, ⟨by decide +kernel, by decide +kernel, by decide +kernel⟩, by decide +kernel⟩
theorem my_X11_mean : MY yX11_mean cX11_mean 3 (some .double) 1 := ⟨gt (inT5 (List.mem_of_getElem? (i := 151) rfl)) rfl, gt (inT1 (List.mem_of_getElem? (i := 1) rfl)) rfl, ⟨by decide +kernel, by decide +kernel, by decide +kernel⟩, by decide +kernel⟩
theorem my_X11_nextResult : MY yX11_nextResult cX11_nextResult 5 (some .int) 1 := ⟨gt (inT5 (List.mem_of_getElem? (i := 216) rfl)) rfl, gt (inT1 (List.mem_of_getElem? (i := 1) rfl)) rfl, ⟨by decide +kernel, by decide +kernel, by decide +kernel⟩, by decide +kernel⟩
theorem my_X11_overrunsWith : MY yX11_overrunsWith cX11_overrunsWith 3 (some .int) 2 := ⟨gt (inT5 (List.mem_of_getElem? (i := 230) rfl)) rfl, gt (inT1 (List.mem_of_getElem? (i := 1) rfl)) rfl, ⟨by decide +kernel, by decide +kernel, by decide +kernel⟩, by decide +kernel⟩
theorem my_X11_queued : MY yX11_queued cX11_queued 3 (some .int) 2 := ⟨gt (inT5 (List.mem_of_getElem? (i := 181) rfl)) rfl, gt (inT1 (List.mem_of_getElem? (i := 1) rfl)) rfl, ⟨by decide +kernel, by decide +kernel, by decide +kernel⟩, by decide +kernel⟩
theorem my_X11_restore : MY yX11_restore cX11_restore 2 (some .int) 1 := ⟨gt (inT6 (List.mem_of_getElem? (i := 19) rfl)) rfl, gt (inT1 (List.mem_of_getElem? (i := 1) rfl)) rfl, ⟨by decide +kernel, by decide +kernel, by decide +kernel⟩, by decide +kernel⟩
theorem my_X11_run : MY yX11_run cX11_run 4 (some .int) 1 := ⟨gt (inT4 (List.mem_of_getElem? (i := 127) rfl)) rfl, gt (inT1 (List.mem_of_getElem? (i := 1) rfl)) rfl, ⟨by decide +kernel, by decide +kernel, by decide +kernel⟩, by decide +kernel⟩
theorem my_X11_save : MY yX11_save cX11_save 2 (some .int) 1 := ⟨gt (inT6 (List.mem_of_getElem? (i := 8) rfl)) rfl, gt (inT1 (List.mem_of_getElem? (i := 1) rfl)) rfl, ⟨by decide +kernel, by decide +kernel, by decide +kernel⟩, by decide +kernel⟩
theorem my_X11_sequence : MY yX11_sequence cX11_sequence 4 (some .int) 2 := ⟨gt (inT5 (List.mem_of_getElem? (i := 122) rfl)) rfl, gt (inT1 (List.mem_of_getElem? (i := 1) rfl)) rfl, ⟨by decide +kernel, by decide +kernel, by decide +kernel⟩, by decide +kernel⟩
theorem my_X11_setPace : MY yX11_setPace cX11_setPace 3 (some .int) 1 := ⟨gt (inT5 (List.mem_of_getElem? (i := 99) rfl)) rfl, gt (inT1 (List.mem_of_getElem? (i := 1) rfl)) rfl, ⟨by decide +kernel, by decide +kernel, by decide +kernel⟩, by decide +kernel⟩
theorem my_X11_setSample : MY yX11_setSample cX11_setSample 4 (some .int) 2 := ⟨gt (inT5 (List.mem_of_getElem? (i := 81) rfl)) rfl, gt (inT1 (List.mem_of_getElem? (i := 1) rfl)) rfl, ⟨by decide +kernel, by decide +kernel, by decide +kernel⟩, by decide +kernel⟩
theorem my_X11_setSignal : MY yX11_setSignal cX11_setSignal 6 (some .int) 4 := ⟨gt (inT5 (List.mem_of_getElem? (i := 64) rfl)) rfl, gt (inT1 (List.mem_of_getElem? (i := 1) rfl)) rfl, ⟨by decide +kernel, by decide +kernel, by decide +kernel⟩, by decide +kernel⟩
theorem my_X11_setWindow : MY yX11_setWindow cX11_setWindow 5 (some .int) 3 := ⟨gt (inT5 (List.mem_of_getElem? (i := 90) rfl)) rfl, gt (inT1 (List.mem_of_getElem? (i := 1) rfl)) rfl, ⟨by decide +kernel, by decide +kernel, by decide +kernel⟩, by decide +kernel⟩
theorem my_X11_signal : MY yX11_signal cX11_signal 3 (some .int) 2 := ⟨gt (inT5 (List.mem_of_getElem? (i := 173) rfl)) rfl, gt (inT1 (List.mem_of_getElem? (i := 1) rfl)) rfl, ⟨by decide +kernel, by decide +kernel, by decide +kernel⟩, by decide +kernel⟩
theorem my_X11_slowestPace : MY yX11_slowestPace cX11_slowestPace 3 (some .int) 1 := ⟨gt (inT6 (List.mem_of_getElem? (i := 1) rfl)) rfl, gt (inT1 (List.mem_of_getElem? (i := 1) rfl)) rfl, ⟨by decide +kernel, by decide +kernel, by decide +kernel⟩, by decide +kernel⟩
theorem my_X11_state : MY yX11_state cX11_state 4 (some .int) 1 := ⟨gt (inT5 (List.mem_of_getElem? (i := 111) rfl)) rfl, gt (inT1 (List.mem_of_getElem? (i := 1) rfl)) rfl, ⟨by decide +kernel, by decide +kernel, by decide +kernel⟩, by decide +kernel⟩
theorem my_X11_stored : MY yX11_stored cX11_stored 3 (some .int) 2 := ⟨gt (inT5 (List.mem_of_getElem? (i := 193) rfl)) rfl, gt (inT1 (List.mem_of_getElem? (i := 1) rfl)) rfl, ⟨by decide +kernel, by decide +kernel, by decide +kernel⟩, by decide +kernel⟩
theorem my_X11_sum : MY yX11_sum cX11_sum 2 (some .long) 1 := ⟨gt (inT5 (List.mem_of_getElem? (i := 144) rfl)) rfl, gt (inT1 (List.mem_of_getElem? (i := 1) rfl)) rfl, ⟨by decide +kernel, by decide +kernel, by decide +kernel⟩, by decide +kernel⟩
theorem my_X11_take : MY yX11_take cX11_take 2 (some .int) 0 := ⟨gt (inT5 (List.mem_of_getElem? (i := 22) rfl)) rfl, gt (inT1 (List.mem_of_getElem? (i := 1) rfl)) rfl, ⟨by decide +kernel, by decide +kernel, by decide +kernel⟩, by decide +kernel⟩
theorem my_X11_trigger : MY yX11_trigger cX11_trigger 4 (some .int) 2 := ⟨gt (inT5 (List.mem_of_getElem? (i := 159) rfl)) rfl, gt (inT1 (List.mem_of_getElem? (i := 1) rfl)) rfl, ⟨by decide +kernel, by decide +kernel, by decide +kernel⟩, by decide +kernel⟩
theorem my_X11_truncate : MY yX11_truncate cX11_truncate 3 (some .int) 1 := ⟨gt (inT4 (List.mem_of_getElem? (i := 104) rfl)) rfl, gt (inT1 (List.mem_of_getElem? (i := 1) rfl)) rfl, ⟨by decide +kernel, by decide +kernel, by decide +kernel⟩, by decide +kernel⟩
theorem my_X11_whenRaised : MY yX11_whenRaised cX11_whenRaised 5 (some .int) 2 := ⟨gt (inT5 (List.mem_of_getElem? (i := 223) rfl)) rfl, gt (inT1 (List.mem_of_getElem? (i := 1) rfl)) rfl, ⟨by decide +kernel, by decide +kernel, by decide +kernel⟩, by decide +kernel⟩
theorem my_X11_window : MY yX11_window cX11_window 4 (some .int) 2 := ⟨gt (inT5 (List.mem_of_getElem? (i := 166) rfl)) rfl, gt (inT1 (List.mem_of_getElem? (i := 1) rfl)) rfl, ⟨by decide +kernel, by decide +kernel, by decide +kernel⟩, by decide +kernel⟩
theorem vy_X11_acknowledge : VY yX11_acknowledge := ⟨gt (inT5 (List.mem_of_getElem? (i := 45) rfl)) rfl, gt (inT5 (List.mem_of_getElem? (i := 46) rfl)) rfl⟩
theorem vy_X11_append : VY yX11_append := ⟨gt (inT4 (List.mem_of_getElem? (i := 22) rfl)) rfl, gt (inT4 (List.mem_of_getElem? (i := 23) rfl)) rfl⟩
theorem vy_X11_channel : VY yX11_channel := ⟨gt (inT5 (List.mem_of_getElem? (i := 135) rfl)) rfl, gt (inT5 (List.mem_of_getElem? (i := 136) rfl)) rfl⟩
theorem vy_X11_entry : VY yX11_entry := ⟨gt (inT5 (List.mem_of_getElem? (i := 127) rfl)) rfl, gt (inT5 (List.mem_of_getElem? (i := 128) rfl)) rfl⟩
theorem vy_X11_fire : VY yX11_fire := ⟨gt (inT4 (List.mem_of_getElem? (i := 230) rfl)) rfl, gt (inT4 (List.mem_of_getElem? (i := 231) rfl)) rfl⟩
theorem vy_X11_injected : VY yX11_injected := ⟨gt (inT5 (List.mem_of_getElem? (i := 198) rfl)) rfl, gt (inT5 (List.mem_of_getElem? (i := 199) rfl)) rfl⟩
theorem vy_X11_latency : VY yX11_latency := ⟨gt (inT5 (List.mem_of_getElem? (i := 206) rfl)) rfl, gt (inT5 (List.mem_of_getElem? (i := 207) rfl)) rfl⟩
theorem vy_X11_mean : VY yX11_mean := ⟨gt (inT5 (List.mem_of_getElem? (i := 149) rfl)) rfl, gt (inT5 (List.mem_of_getElem? (i := 150) rfl)) rfl⟩
theorem vy_X11_nextResult : VY yX11_nextResult := ⟨gt (inT5 (List.mem_of_getElem? (i := 214) rfl)) rfl, gt (inT5 (List.mem_of_getElem? (i := 215) rfl)) rfl⟩
theorem vy_X11_overrunsWith : VY yX11_overrunsWith := ⟨gt (inT5 (List.mem_of_getElem? (i := 228) rfl)) rfl, gt (inT5 (List.mem_of_getElem? (i := 229) rfl)) rfl⟩
theorem vy_X11_queued : VY yX11_queued := ⟨gt (inT5 (List.mem_of_getElem? (i := 179) rfl)) rfl, gt (inT5 (List.mem_of_getElem? (i := 180) rfl)) rfl⟩
theorem vy_X11_restore : VY yX11_restore := ⟨gt (inT6 (List.mem_of_getElem? (i := 17) rfl)) rfl, gt (inT6 (List.mem_of_getElem? (i := 18) rfl)) rfl⟩
theorem vy_X11_run : VY yX11_run := ⟨gt (inT4 (List.mem_of_getElem? (i := 125) rfl)) rfl, gt (inT4 (List.mem_of_getElem? (i := 126) rfl)) rfl⟩
theorem vy_X11_save : VY yX11_save := ⟨gt (inT6 (List.mem_of_getElem? (i := 6) rfl)) rfl, gt (inT6 (List.mem_of_getElem? (i := 7) rfl)) rfl⟩
theorem vy_X11_sequence : VY yX11_sequence := ⟨gt (inT5 (List.mem_of_getElem? (i := 120) rfl)) rfl, gt (inT5 (List.mem_of_getElem? (i := 121) rfl)) rfl⟩
theorem vy_X11_setPace : VY yX11_setPace := ⟨gt (inT5 (List.mem_of_getElem? (i := 97) rfl)) rfl, gt (inT5 (List.mem_of_getElem? (i := 98) rfl)) rfl⟩
theorem vy_X11_setSample : VY yX11_setSample := ⟨gt (inT5 (List.mem_of_getElem? (i := 79) rfl)) rfl, gt (inT5 (List.mem_of_getElem? (i := 80) rfl)) rfl⟩
theorem vy_X11_setSignal : VY yX11_setSignal := ⟨gt (inT5 (List.mem_of_getElem? (i := 62) rfl)) rfl, gt (inT5 (List.mem_of_getElem? (i := 63) rfl)) rfl⟩
theorem vy_X11_setWindow : VY yX11_setWindow := ⟨gt (inT5 (List.mem_of_getElem? (i := 88) rfl)) rfl, gt (inT5 (List.mem_of_getElem? (i := 89) rfl)) rfl⟩
theorem vy_X11_signal : VY yX11_signal := ⟨gt (inT5 (List.mem_of_getElem? (i := 171) rfl)) rfl, gt (inT5 (List.mem_of_getElem? (i := 172) rfl)) rfl⟩
theorem vy_X11_slowestPace : VY yX11_slowestPace := ⟨gt (inT5 (List.mem_of_getElem? (i := 239) rfl)) rfl, gt (inT6 (List.mem_of_getElem? (i := 0) rfl)) rfl⟩
theorem vy_X11_state : VY yX11_state := ⟨gt (inT5 (List.mem_of_getElem? (i := 109) rfl)) rfl, gt (inT5 (List.mem_of_getElem? (i := 110) rfl)) rfl⟩
theorem vy_X11_stored : VY yX11_stored := ⟨gt (inT5 (List.mem_of_getElem? (i := 191) rfl)) rfl, gt (inT5 (List.mem_of_getElem? (i := 192) rfl)) rfl⟩
theorem vy_X11_sum : VY yX11_sum := ⟨gt (inT5 (List.mem_of_getElem? (i := 142) rfl)) rfl, gt (inT5 (List.mem_of_getElem? (i := 143) rfl)) rfl⟩
theorem vy_X11_take : VY yX11_take := ⟨gt (inT5 (List.mem_of_getElem? (i := 20) rfl)) rfl, gt (inT5 (List.mem_of_getElem? (i := 21) rfl)) rfl⟩
theorem vy_X11_trigger : VY yX11_trigger := ⟨gt (inT5 (List.mem_of_getElem? (i := 157) rfl)) rfl, gt (inT5 (List.mem_of_getElem? (i := 158) rfl)) rfl⟩
theorem vy_X11_truncate : VY yX11_truncate := ⟨gt (inT4 (List.mem_of_getElem? (i := 102) rfl)) rfl, gt (inT4 (List.mem_of_getElem? (i := 103) rfl)) rfl⟩
theorem vy_X11_whenRaised : VY yX11_whenRaised := ⟨gt (inT5 (List.mem_of_getElem? (i := 221) rfl)) rfl, gt (inT5 (List.mem_of_getElem? (i := 222) rfl)) rfl⟩
theorem vy_X11_window : VY yX11_window := ⟨gt (inT5 (List.mem_of_getElem? (i := 164) rfl)) rfl, gt (inT5 (List.mem_of_getElem? (i := 165) rfl)) rfl⟩
