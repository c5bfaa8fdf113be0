/-! ===== FACTS of the tables, by their places (written by a program) ===== -/
theorem inT1 {w : Cond} (h : w ∈ tables_1_1) : w ∈ lw_tbl := List.mem_append_right _ (show w ∈ tables_1_1 ++ (tables_1_2 ++ (tables_1_3 ++ (tables_1_4 ++ (tables_1_5 ++ (tables_1_6 ++ (tables_1_7 ++ tables_1_8)))))) from List.mem_append_left _ h)
theorem inT2 {w : Cond} (h : w ∈ tables_1_2) : w ∈ lw_tbl := List.mem_append_right _ (show w ∈ tables_1_1 ++ (tables_1_2 ++ (tables_1_3 ++ (tables_1_4 ++ (tables_1_5 ++ (tables_1_6 ++ (tables_1_7 ++ tables_1_8)))))) from List.mem_append_right _ (List.mem_append_left _ h))
theorem inT3 {w : Cond} (h : w ∈ tables_1_3) : w ∈ lw_tbl := List.mem_append_right _ (show w ∈ tables_1_1 ++ (tables_1_2 ++ (tables_1_3 ++ (tables_1_4 ++ (tables_1_5 ++ (tables_1_6 ++ (tables_1_7 ++ tables_1_8)))))) from List.mem_append_right _ (List.mem_append_right _ (List.mem_append_left _ h)))
theorem inT4 {w : Cond} (h : w ∈ tables_1_4) : w ∈ lw_tbl := List.mem_append_right _ (show w ∈ tables_1_1 ++ (tables_1_2 ++ (tables_1_3 ++ (tables_1_4 ++ (tables_1_5 ++ (tables_1_6 ++ (tables_1_7 ++ tables_1_8)))))) from List.mem_append_right _ (List.mem_append_right _ (List.mem_append_right _ (List.mem_append_left _ h))))
theorem inT5 {w : Cond} (h : w ∈ tables_1_5) : w ∈ lw_tbl := List.mem_append_right _ (show w ∈ tables_1_1 ++ (tables_1_2 ++ (tables_1_3 ++ (tables_1_4 ++ (tables_1_5 ++ (tables_1_6 ++ (tables_1_7 ++ tables_1_8)))))) from List.mem_append_right _ (List.mem_append_right _ (List.mem_append_right _ (List.mem_append_right _ (List.mem_append_left _ h)))))
theorem inT6 {w : Cond} (h : w ∈ tables_1_6) : w ∈ lw_tbl := List.mem_append_right _ (show w ∈ tables_1_1 ++ (tables_1_2 ++ (tables_1_3 ++ (tables_1_4 ++ (tables_1_5 ++ (tables_1_6 ++ (tables_1_7 ++ tables_1_8)))))) from List.mem_append_right _ (List.mem_append_right _ (List.mem_append_right _ (List.mem_append_right _ (List.mem_append_right _ (List.mem_append_left _ h))))))
theorem inT7 {w : Cond} (h : w ∈ tables_1_7) : w ∈ lw_tbl := List.mem_append_right _ (show w ∈ tables_1_1 ++ (tables_1_2 ++ (tables_1_3 ++ (tables_1_4 ++ (tables_1_5 ++ (tables_1_6 ++ (tables_1_7 ++ tables_1_8)))))) from List.mem_append_right _ (List.mem_append_right _ (List.mem_append_right _ (List.mem_append_right _ (List.mem_append_right _ (List.mem_append_right _ (List.mem_append_left _ h)))))))
theorem inT8 {w : Cond} (h : w ∈ tables_1_8) : w ∈ lw_tbl := List.mem_append_right _ (show w ∈ tables_1_1 ++ (tables_1_2 ++ (tables_1_3 ++ (tables_1_4 ++ (tables_1_5 ++ (tables_1_6 ++ (tables_1_7 ++ tables_1_8)))))) from List.mem_append_right _ (List.mem_append_right _ (List.mem_append_right _ (List.mem_append_right _ (List.mem_append_right _ (List.mem_append_right _ (List.mem_append_right _ (h))))))))
theorem inP1 {w : Cond} (h : w ∈ k2_sels lw_privs_1) : w ∈ lw_tbl := by
  obtain ⟨q, hq, rfl⟩ := List.mem_map.mp h
  refine List.mem_append_left _ (List.mem_map.mpr ⟨q, ?_, rfl⟩)
  have h := hq
  show q ∈ lw_privs_1 ++ (lw_privs_2 ++ (lw_privs_3 ++ (lw_privs_4 ++ (lw_privs_5 ++ (lw_privs_6)))))
  exact List.mem_append_left _ h
theorem inP2 {w : Cond} (h : w ∈ k2_sels lw_privs_2) : w ∈ lw_tbl := by
  obtain ⟨q, hq, rfl⟩ := List.mem_map.mp h
  refine List.mem_append_left _ (List.mem_map.mpr ⟨q, ?_, rfl⟩)
  have h := hq
  show q ∈ lw_privs_1 ++ (lw_privs_2 ++ (lw_privs_3 ++ (lw_privs_4 ++ (lw_privs_5 ++ (lw_privs_6)))))
  exact List.mem_append_right _ (List.mem_append_left _ h)
theorem inP3 {w : Cond} (h : w ∈ k2_sels lw_privs_3) : w ∈ lw_tbl := by
  obtain ⟨q, hq, rfl⟩ := List.mem_map.mp h
  refine List.mem_append_left _ (List.mem_map.mpr ⟨q, ?_, rfl⟩)
  have h := hq
  show q ∈ lw_privs_1 ++ (lw_privs_2 ++ (lw_privs_3 ++ (lw_privs_4 ++ (lw_privs_5 ++ (lw_privs_6)))))
  exact List.mem_append_right _ (List.mem_append_right _ (List.mem_append_left _ h))
theorem inP4 {w : Cond} (h : w ∈ k2_sels lw_privs_4) : w ∈ lw_tbl := by
  obtain ⟨q, hq, rfl⟩ := List.mem_map.mp h
  refine List.mem_append_left _ (List.mem_map.mpr ⟨q, ?_, rfl⟩)
  have h := hq
  show q ∈ lw_privs_1 ++ (lw_privs_2 ++ (lw_privs_3 ++ (lw_privs_4 ++ (lw_privs_5 ++ (lw_privs_6)))))
  exact List.mem_append_right _ (List.mem_append_right _ (List.mem_append_right _ (List.mem_append_left _ h)))
theorem inP5 {w : Cond} (h : w ∈ k2_sels lw_privs_5) : w ∈ lw_tbl := by
  obtain ⟨q, hq, rfl⟩ := List.mem_map.mp h
  refine List.mem_append_left _ (List.mem_map.mpr ⟨q, ?_, rfl⟩)
  have h := hq
  show q ∈ lw_privs_1 ++ (lw_privs_2 ++ (lw_privs_3 ++ (lw_privs_4 ++ (lw_privs_5 ++ (lw_privs_6)))))
  exact List.mem_append_right _ (List.mem_append_right _ (List.mem_append_right _ (List.mem_append_right _ (List.mem_append_left _ h))))
theorem inP6 {w : Cond} (h : w ∈ k2_sels lw_privs_6) : w ∈ lw_tbl := by
  obtain ⟨q, hq, rfl⟩ := List.mem_map.mp h
  refine List.mem_append_left _ (List.mem_map.mpr ⟨q, ?_, rfl⟩)
  have h := hq
  show q ∈ lw_privs_1 ++ (lw_privs_2 ++ (lw_privs_3 ++ (lw_privs_4 ++ (lw_privs_5 ++ (lw_privs_6)))))
  exact List.mem_append_right _ (List.mem_append_right _ (List.mem_append_right _ (List.mem_append_right _ (List.mem_append_right _ (h)))))
theorem fl_X11_10 : FL RX11 10 9 0 "LConverterScanner$Converter;" := ⟨(RX11, TX11, 5), rfl, by decide, gt (inT2 (List.mem_of_getElem? (i := 239) rfl)) rfl, rfl⟩
theorem fl_X11_16 : FL RX11 16 9 1 "LConverterScanner$Converter;" := ⟨(RX11, TX11, 5), rfl, by decide, gt (inT3 (List.mem_of_getElem? (i := 0) rfl)) rfl, rfl⟩
theorem fl_X11_19 : FL RX11 19 9 2 "[LConverterScanner$Converter;" := ⟨(RX11, TX11, 5), rfl, by decide, gt (inT3 (List.mem_of_getElem? (i := 1) rfl)) rfl, rfl⟩
theorem fl_X11_23 : FL RX11 23 9 3 "[Z" := ⟨(RX11, TX11, 5), rfl, by decide, gt (inT3 (List.mem_of_getElem? (i := 2) rfl)) rfl, rfl⟩
theorem fl_X11_30 : FL RX11 30 9 4 "LConverterScanner$Parser;" := ⟨(RX11, TX11, 5), rfl, by decide, gt (inT3 (List.mem_of_getElem? (i := 3) rfl)) rfl, rfl⟩
theorem fl_X11_34 : FL RX11 34 3 0 "LConverterScanner$Tokens;" := ⟨(RX4, TX4, 10), rfl, by decide, gt (inT2 (List.mem_of_getElem? (i := 205) rfl)) rfl, rfl⟩
theorem fl_X11_38 : FL RX11 38 6 1 "I" := ⟨(RX7, TX7, 8), rfl, by decide, gt (inT2 (List.mem_of_getElem? (i := 171) rfl)) rfl, rfl⟩
theorem fl_X11_64 : FL RX11 64 3 1 "LConverterScanner$Converter;" := ⟨(RX4, TX4, 10), rfl, by decide, gt (inT2 (List.mem_of_getElem? (i := 207) rfl)) rfl, rfl⟩
theorem fl_X11_71 : FL RX11 71 3 8 "I" := ⟨(RX4, TX4, 10), rfl, by decide, gt (inT2 (List.mem_of_getElem? (i := 215) rfl)) rfl, rfl⟩
theorem fl_X11_74 : FL RX11 74 3 9 "I" := ⟨(RX4, TX4, 10), rfl, by decide, gt (inT2 (List.mem_of_getElem? (i := 217) rfl)) rfl, rfl⟩
theorem fl_X11_98 : FL RX11 98 2 6 "LConverterScanner$Results;" := ⟨(RX3, TX3, 17), rfl, by decide, gt (inT2 (List.mem_of_getElem? (i := 95) rfl)) rfl, rfl⟩
theorem fl_X11_102 : FL RX11 102 4 5 "I" := ⟨(RX5, TX5, 7), rfl, by decide, gt (inT1 (List.mem_of_getElem? (i := 168) rfl)) rfl, rfl⟩
theorem fl_X11_122 : FL RX11 122 2 4 "[LConverterScanner$Window;" := ⟨(RX3, TX3, 17), rfl, by decide, gt (inT2 (List.mem_of_getElem? (i := 91) rfl)) rfl, rfl⟩
theorem fl_X11_151 : FL RX11 151 2 0 "[LConverterScanner$Channel;" := ⟨(RX3, TX3, 17), rfl, by decide, gt (inT2 (List.mem_of_getElem? (i := 80) rfl)) rfl, rfl⟩
theorem fl_X11_155 : FL RX11 155 0 2 "I" := ⟨(RX1, TX1, 9), rfl, by decide, gt (inT1 (List.mem_of_getElem? (i := 201) rfl)) rfl, rfl⟩
theorem fl_X11_160 : FL RX11 160 0 3 "I" := ⟨(RX1, TX1, 9), rfl, by decide, gt (inT1 (List.mem_of_getElem? (i := 204) rfl)) rfl, rfl⟩
theorem fl_X11_163 : FL RX11 163 0 4 "I" := ⟨(RX1, TX1, 9), rfl, by decide, gt (inT1 (List.mem_of_getElem? (i := 207) rfl)) rfl, rfl⟩
theorem fl_X11_166 : FL RX11 166 2 15 "I" := ⟨(RX3, TX3, 17), rfl, by decide, gt (inT2 (List.mem_of_getElem? (i := 116) rfl)) rfl, rfl⟩
theorem fl_X11_177 : FL RX11 177 0 0 "I" := ⟨(RX1, TX1, 9), rfl, by decide, gt (inT1 (List.mem_of_getElem? (i := 194) rfl)) rfl, rfl⟩
theorem fl_X11_183 : FL RX11 183 8 1 "I" := ⟨(RX9, TX9, 10), rfl, by decide, gt (inT2 (List.mem_of_getElem? (i := 37) rfl)) rfl, rfl⟩
theorem fl_X11_186 : FL RX11 186 8 2 "I" := ⟨(RX9, TX9, 10), rfl, by decide, gt (inT2 (List.mem_of_getElem? (i := 40) rfl)) rfl, rfl⟩
theorem fl_X11_189 : FL RX11 189 8 6 "Z" := ⟨(RX9, TX9, 10), rfl, by decide, gt (inT2 (List.mem_of_getElem? (i := 50) rfl)) rfl, rfl⟩
theorem fl_X11_196 : FL RX11 196 2 14 "I" := ⟨(RX3, TX3, 17), rfl, by decide, gt (inT2 (List.mem_of_getElem? (i := 114) rfl)) rfl, rfl⟩
theorem fl_X11_202 : FL RX11 202 2 5 "LConverterScanner$Conversion;" := ⟨(RX3, TX3, 17), rfl, by decide, gt (inT2 (List.mem_of_getElem? (i := 93) rfl)) rfl, rfl⟩
theorem fl_X11_206 : FL RX11 206 1 0 "I" := ⟨(RX2, TX2, 6), rfl, by decide, gt (inT1 (List.mem_of_getElem? (i := 122) rfl)) rfl, rfl⟩
theorem fl_X11_211 : FL RX11 211 1 1 "I" := ⟨(RX2, TX2, 6), rfl, by decide, gt (inT1 (List.mem_of_getElem? (i := 125) rfl)) rfl, rfl⟩
theorem fl_X11_214 : FL RX11 214 1 2 "I" := ⟨(RX2, TX2, 6), rfl, by decide, gt (inT1 (List.mem_of_getElem? (i := 128) rfl)) rfl, rfl⟩
theorem fl_X11_217 : FL RX11 217 1 4 "I" := ⟨(RX2, TX2, 6), rfl, by decide, gt (inT1 (List.mem_of_getElem? (i := 133) rfl)) rfl, rfl⟩
theorem fl_X11_220 : FL RX11 220 1 5 "I" := ⟨(RX2, TX2, 6), rfl, by decide, gt (inT1 (List.mem_of_getElem? (i := 136) rfl)) rfl, rfl⟩
theorem fl_X11_223 : FL RX11 223 4 6 "I" := ⟨(RX5, TX5, 7), rfl, by decide, gt (inT1 (List.mem_of_getElem? (i := 171) rfl)) rfl, rfl⟩
theorem fl_X11_226 : FL RX11 226 2 16 "I" := ⟨(RX3, TX3, 17), rfl, by decide, gt (inT2 (List.mem_of_getElem? (i := 118) rfl)) rfl, rfl⟩
theorem fl_X11_229 : FL RX11 229 4 2 "I" := ⟨(RX5, TX5, 7), rfl, by decide, gt (inT1 (List.mem_of_getElem? (i := 161) rfl)) rfl, rfl⟩
theorem fl_X11_236 : FL RX11 236 5 1 "I" := ⟨(RX6, TX6, 13), rfl, by decide, gt (inT1 (List.mem_of_getElem? (i := 51) rfl)) rfl, rfl⟩
theorem fl_X11_241 : FL RX11 241 5 3 "Z" := ⟨(RX6, TX6, 13), rfl, by decide, gt (inT1 (List.mem_of_getElem? (i := 56) rfl)) rfl, rfl⟩
theorem fl_X11_244 : FL RX11 244 5 4 "I" := ⟨(RX6, TX6, 13), rfl, by decide, gt (inT1 (List.mem_of_getElem? (i := 59) rfl)) rfl, rfl⟩
theorem fl_X11_247 : FL RX11 247 5 6 "I" := ⟨(RX6, TX6, 13), rfl, by decide, gt (inT1 (List.mem_of_getElem? (i := 64) rfl)) rfl, rfl⟩
theorem fl_X11_250 : FL RX11 250 5 7 "I" := ⟨(RX6, TX6, 13), rfl, by decide, gt (inT1 (List.mem_of_getElem? (i := 67) rfl)) rfl, rfl⟩
theorem fl_X11_253 : FL RX11 253 5 8 "I" := ⟨(RX6, TX6, 13), rfl, by decide, gt (inT1 (List.mem_of_getElem? (i := 70) rfl)) rfl, rfl⟩
theorem fl_X11_256 : FL RX11 256 5 9 "I" := ⟨(RX6, TX6, 13), rfl, by decide, gt (inT1 (List.mem_of_getElem? (i := 73) rfl)) rfl, rfl⟩
theorem fl_X11_259 : FL RX11 259 5 10 "I" := ⟨(RX6, TX6, 13), rfl, by decide, gt (inT1 (List.mem_of_getElem? (i := 76) rfl)) rfl, rfl⟩
theorem fl_X11_267 : FL RX11 267 5 0 "[I" := ⟨(RX6, TX6, 13), rfl, by decide, gt (inT1 (List.mem_of_getElem? (i := 47) rfl)) rfl, rfl⟩
theorem fl_X11_271 : FL RX11 271 0 1 "I" := ⟨(RX1, TX1, 9), rfl, by decide, gt (inT1 (List.mem_of_getElem? (i := 198) rfl)) rfl, rfl⟩
theorem fl_X11_274 : FL RX11 274 0 5 "I" := ⟨(RX1, TX1, 9), rfl, by decide, gt (inT1 (List.mem_of_getElem? (i := 209) rfl)) rfl, rfl⟩
theorem fl_X11_275 : FL RX11 275 0 6 "I" := ⟨(RX1, TX1, 9), rfl, by decide, gt (inT1 (List.mem_of_getElem? (i := 211) rfl)) rfl, rfl⟩
theorem fl_X11_278 : FL RX11 278 0 7 "I" := ⟨(RX1, TX1, 9), rfl, by decide, gt (inT1 (List.mem_of_getElem? (i := 213) rfl)) rfl, rfl⟩
theorem fl_X11_281 : FL RX11 281 0 8 "J" := ⟨(RX1, TX1, 9), rfl, by decide, gt (inT1 (List.mem_of_getElem? (i := 215) rfl)) rfl, rfl⟩
theorem fl_X11_287 : FL RX11 287 2 3 "[LConverterScanner$Trigger;" := ⟨(RX3, TX3, 17), rfl, by decide, gt (inT2 (List.mem_of_getElem? (i := 88) rfl)) rfl, rfl⟩
theorem fl_X11_291 : FL RX11 291 7 0 "I" := ⟨(RX8, TX8, 5), rfl, by decide, gt (inT2 (List.mem_of_getElem? (i := 3) rfl)) rfl, rfl⟩
theorem fl_X11_296 : FL RX11 296 7 1 "I" := ⟨(RX8, TX8, 5), rfl, by decide, gt (inT2 (List.mem_of_getElem? (i := 6) rfl)) rfl, rfl⟩
theorem fl_X11_297 : FL RX11 297 7 2 "I" := ⟨(RX8, TX8, 5), rfl, by decide, gt (inT2 (List.mem_of_getElem? (i := 9) rfl)) rfl, rfl⟩
theorem fl_X11_300 : FL RX11 300 7 3 "I" := ⟨(RX8, TX8, 5), rfl, by decide, gt (inT2 (List.mem_of_getElem? (i := 12) rfl)) rfl, rfl⟩
theorem fl_X11_303 : FL RX11 303 7 4 "I" := ⟨(RX8, TX8, 5), rfl, by decide, gt (inT2 (List.mem_of_getElem? (i := 15) rfl)) rfl, rfl⟩
theorem fl_X11_306 : FL RX11 306 8 3 "I" := ⟨(RX9, TX9, 10), rfl, by decide, gt (inT2 (List.mem_of_getElem? (i := 43) rfl)) rfl, rfl⟩
theorem fl_X11_309 : FL RX11 309 8 4 "I" := ⟨(RX9, TX9, 10), rfl, by decide, gt (inT2 (List.mem_of_getElem? (i := 46) rfl)) rfl, rfl⟩
theorem fl_X11_311 : FL RX11 311 8 5 "I" := ⟨(RX9, TX9, 10), rfl, by decide, gt (inT2 (List.mem_of_getElem? (i := 48) rfl)) rfl, rfl⟩
theorem fl_X11_312 : FL RX11 312 8 7 "I" := ⟨(RX9, TX9, 10), rfl, by decide, gt (inT2 (List.mem_of_getElem? (i := 52) rfl)) rfl, rfl⟩
theorem fl_X11_315 : FL RX11 315 8 8 "I" := ⟨(RX9, TX9, 10), rfl, by decide, gt (inT2 (List.mem_of_getElem? (i := 54) rfl)) rfl, rfl⟩
theorem fl_X11_318 : FL RX11 318 8 9 "I" := ⟨(RX9, TX9, 10), rfl, by decide, gt (inT2 (List.mem_of_getElem? (i := 56) rfl)) rfl, rfl⟩
theorem fl_X11_327 : FL RX11 327 2 7 "LConverterScanner$Results;" := ⟨(RX3, TX3, 17), rfl, by decide, gt (inT2 (List.mem_of_getElem? (i := 98) rfl)) rfl, rfl⟩
theorem fl_X11_332 : FL RX11 332 4 4 "I" := ⟨(RX5, TX5, 7), rfl, by decide, gt (inT1 (List.mem_of_getElem? (i := 166) rfl)) rfl, rfl⟩
theorem fl_X11_339 : FL RX11 339 2 2 "LConverterScanner$Sequence;" := ⟨(RX3, TX3, 17), rfl, by decide, gt (inT2 (List.mem_of_getElem? (i := 85) rfl)) rfl, rfl⟩
theorem fl_X11_345 : FL RX11 345 2 8 "LConverterScanner$Results;" := ⟨(RX3, TX3, 17), rfl, by decide, gt (inT2 (List.mem_of_getElem? (i := 100) rfl)) rfl, rfl⟩
theorem fl_X11_350 : FL RX11 350 5 12 "J" := ⟨(RX6, TX6, 13), rfl, by decide, gt (inT1 (List.mem_of_getElem? (i := 81) rfl)) rfl, rfl⟩
theorem fl_X11_360 : FL RX11 360 2 12 "I" := ⟨(RX3, TX3, 17), rfl, by decide, gt (inT2 (List.mem_of_getElem? (i := 109) rfl)) rfl, rfl⟩
theorem fl_X11_381 : FL RX11 381 8 0 "Z" := ⟨(RX9, TX9, 10), rfl, by decide, gt (inT2 (List.mem_of_getElem? (i := 34) rfl)) rfl, rfl⟩
theorem fl_X1_9 : FL RX1 9 0 0 "I" := ⟨(RX1, TX1, 9), rfl, by decide, gt (inT1 (List.mem_of_getElem? (i := 192) rfl)) rfl, rfl⟩
theorem fl_X1_15 : FL RX1 15 0 4 "I" := ⟨(RX1, TX1, 9), rfl, by decide, gt (inT1 (List.mem_of_getElem? (i := 205) rfl)) rfl, rfl⟩
theorem fl_X1_18 : FL RX1 18 0 6 "I" := ⟨(RX1, TX1, 9), rfl, by decide, gt (inT1 (List.mem_of_getElem? (i := 210) rfl)) rfl, rfl⟩
theorem fl_X1_21 : FL RX1 21 0 7 "I" := ⟨(RX1, TX1, 9), rfl, by decide, gt (inT1 (List.mem_of_getElem? (i := 212) rfl)) rfl, rfl⟩
theorem fl_X1_24 : FL RX1 24 0 1 "I" := ⟨(RX1, TX1, 9), rfl, by decide, gt (inT1 (List.mem_of_getElem? (i := 195) rfl)) rfl, rfl⟩
theorem fl_X1_27 : FL RX1 27 0 2 "I" := ⟨(RX1, TX1, 9), rfl, by decide, gt (inT1 (List.mem_of_getElem? (i := 199) rfl)) rfl, rfl⟩
theorem fl_X1_30 : FL RX1 30 0 3 "I" := ⟨(RX1, TX1, 9), rfl, by decide, gt (inT1 (List.mem_of_getElem? (i := 202) rfl)) rfl, rfl⟩
theorem fl_X1_33 : FL RX1 33 0 5 "I" := ⟨(RX1, TX1, 9), rfl, by decide, gt (inT1 (List.mem_of_getElem? (i := 208) rfl)) rfl, rfl⟩
theorem fl_X1_36 : FL RX1 36 0 8 "J" := ⟨(RX1, TX1, 9), rfl, by decide, gt (inT1 (List.mem_of_getElem? (i := 214) rfl)) rfl, rfl⟩
theorem fl_X2_9 : FL RX2 9 1 0 "I" := ⟨(RX2, TX2, 6), rfl, by decide, gt (inT1 (List.mem_of_getElem? (i := 120) rfl)) rfl, rfl⟩
theorem fl_X2_15 : FL RX2 15 1 1 "I" := ⟨(RX2, TX2, 6), rfl, by decide, gt (inT1 (List.mem_of_getElem? (i := 123) rfl)) rfl, rfl⟩
theorem fl_X2_18 : FL RX2 18 1 2 "I" := ⟨(RX2, TX2, 6), rfl, by decide, gt (inT1 (List.mem_of_getElem? (i := 126) rfl)) rfl, rfl⟩
theorem fl_X2_21 : FL RX2 21 1 3 "I" := ⟨(RX2, TX2, 6), rfl, by decide, gt (inT1 (List.mem_of_getElem? (i := 129) rfl)) rfl, rfl⟩
theorem fl_X2_24 : FL RX2 24 1 4 "I" := ⟨(RX2, TX2, 6), rfl, by decide, gt (inT1 (List.mem_of_getElem? (i := 131) rfl)) rfl, rfl⟩
theorem fl_X2_27 : FL RX2 27 1 5 "I" := ⟨(RX2, TX2, 6), rfl, by decide, gt (inT1 (List.mem_of_getElem? (i := 134) rfl)) rfl, rfl⟩
theorem fl_X3_11 : FL RX3 11 2 0 "[LConverterScanner$Channel;" := ⟨(RX3, TX3, 17), rfl, by decide, gt (inT2 (List.mem_of_getElem? (i := 78) rfl)) rfl, rfl⟩
theorem fl_X3_22 : FL RX3 22 2 1 "LConverterScanner$Sequence;" := ⟨(RX3, TX3, 17), rfl, by decide, gt (inT2 (List.mem_of_getElem? (i := 81) rfl)) rfl, rfl⟩
theorem fl_X3_26 : FL RX3 26 2 2 "LConverterScanner$Sequence;" := ⟨(RX3, TX3, 17), rfl, by decide, gt (inT2 (List.mem_of_getElem? (i := 83) rfl)) rfl, rfl⟩
theorem fl_X3_31 : FL RX3 31 2 3 "[LConverterScanner$Trigger;" := ⟨(RX3, TX3, 17), rfl, by decide, gt (inT2 (List.mem_of_getElem? (i := 86) rfl)) rfl, rfl⟩
theorem fl_X3_37 : FL RX3 37 2 4 "[LConverterScanner$Window;" := ⟨(RX3, TX3, 17), rfl, by decide, gt (inT2 (List.mem_of_getElem? (i := 89) rfl)) rfl, rfl⟩
theorem fl_X3_44 : FL RX3 44 2 5 "LConverterScanner$Conversion;" := ⟨(RX3, TX3, 17), rfl, by decide, gt (inT2 (List.mem_of_getElem? (i := 92) rfl)) rfl, rfl⟩
theorem fl_X3_51 : FL RX3 51 2 6 "LConverterScanner$Results;" := ⟨(RX3, TX3, 17), rfl, by decide, gt (inT2 (List.mem_of_getElem? (i := 94) rfl)) rfl, rfl⟩
theorem fl_X3_55 : FL RX3 55 2 7 "LConverterScanner$Results;" := ⟨(RX3, TX3, 17), rfl, by decide, gt (inT2 (List.mem_of_getElem? (i := 97) rfl)) rfl, rfl⟩
theorem fl_X3_58 : FL RX3 58 2 8 "LConverterScanner$Results;" := ⟨(RX3, TX3, 17), rfl, by decide, gt (inT2 (List.mem_of_getElem? (i := 99) rfl)) rfl, rfl⟩
theorem fl_X3_91 : FL RX3 91 2 9 "Z" := ⟨(RX3, TX3, 17), rfl, by decide, gt (inT2 (List.mem_of_getElem? (i := 101) rfl)) rfl, rfl⟩
theorem fl_X3_94 : FL RX3 94 2 10 "Z" := ⟨(RX3, TX3, 17), rfl, by decide, gt (inT2 (List.mem_of_getElem? (i := 103) rfl)) rfl, rfl⟩
theorem fl_X3_97 : FL RX3 97 2 11 "Z" := ⟨(RX3, TX3, 17), rfl, by decide, gt (inT2 (List.mem_of_getElem? (i := 105) rfl)) rfl, rfl⟩
theorem fl_X3_100 : FL RX3 100 2 12 "I" := ⟨(RX3, TX3, 17), rfl, by decide, gt (inT2 (List.mem_of_getElem? (i := 107) rfl)) rfl, rfl⟩
theorem fl_X3_103 : FL RX3 103 2 13 "I" := ⟨(RX3, TX3, 17), rfl, by decide, gt (inT2 (List.mem_of_getElem? (i := 110) rfl)) rfl, rfl⟩
theorem fl_X3_106 : FL RX3 106 2 14 "I" := ⟨(RX3, TX3, 17), rfl, by decide, gt (inT2 (List.mem_of_getElem? (i := 112) rfl)) rfl, rfl⟩
theorem fl_X3_109 : FL RX3 109 2 15 "I" := ⟨(RX3, TX3, 17), rfl, by decide, gt (inT2 (List.mem_of_getElem? (i := 115) rfl)) rfl, rfl⟩
theorem fl_X3_112 : FL RX3 112 2 16 "I" := ⟨(RX3, TX3, 17), rfl, by decide, gt (inT2 (List.mem_of_getElem? (i := 117) rfl)) rfl, rfl⟩
theorem fl_X3_115 : FL RX3 115 5 8 "I" := ⟨(RX6, TX6, 13), rfl, by decide, gt (inT1 (List.mem_of_getElem? (i := 69) rfl)) rfl, rfl⟩
theorem fl_X3_125 : FL RX3 125 1 0 "I" := ⟨(RX2, TX2, 6), rfl, by decide, gt (inT1 (List.mem_of_getElem? (i := 121) rfl)) rfl, rfl⟩
theorem fl_X3_137 : FL RX3 137 7 3 "I" := ⟨(RX8, TX8, 5), rfl, by decide, gt (inT2 (List.mem_of_getElem? (i := 11) rfl)) rfl, rfl⟩
theorem fl_X3_140 : FL RX3 140 7 0 "I" := ⟨(RX8, TX8, 5), rfl, by decide, gt (inT2 (List.mem_of_getElem? (i := 1) rfl)) rfl, rfl⟩
theorem fl_X3_151 : FL RX3 151 7 4 "I" := ⟨(RX8, TX8, 5), rfl, by decide, gt (inT2 (List.mem_of_getElem? (i := 14) rfl)) rfl, rfl⟩
theorem fl_X3_165 : FL RX3 165 1 5 "I" := ⟨(RX2, TX2, 6), rfl, by decide, gt (inT1 (List.mem_of_getElem? (i := 135) rfl)) rfl, rfl⟩
theorem fl_X3_171 : FL RX3 171 5 3 "Z" := ⟨(RX6, TX6, 13), rfl, by decide, gt (inT1 (List.mem_of_getElem? (i := 55) rfl)) rfl, rfl⟩
theorem fl_X3_177 : FL RX3 177 5 4 "I" := ⟨(RX6, TX6, 13), rfl, by decide, gt (inT1 (List.mem_of_getElem? (i := 58) rfl)) rfl, rfl⟩
theorem fl_X3_184 : FL RX3 184 1 1 "I" := ⟨(RX2, TX2, 6), rfl, by decide, gt (inT1 (List.mem_of_getElem? (i := 124) rfl)) rfl, rfl⟩
theorem fl_X3_190 : FL RX3 190 1 2 "I" := ⟨(RX2, TX2, 6), rfl, by decide, gt (inT1 (List.mem_of_getElem? (i := 127) rfl)) rfl, rfl⟩
theorem fl_X3_197 : FL RX3 197 1 3 "I" := ⟨(RX2, TX2, 6), rfl, by decide, gt (inT1 (List.mem_of_getElem? (i := 130) rfl)) rfl, rfl⟩
theorem fl_X3_200 : FL RX3 200 1 4 "I" := ⟨(RX2, TX2, 6), rfl, by decide, gt (inT1 (List.mem_of_getElem? (i := 132) rfl)) rfl, rfl⟩
theorem fl_X3_203 : FL RX3 203 5 10 "I" := ⟨(RX6, TX6, 13), rfl, by decide, gt (inT1 (List.mem_of_getElem? (i := 75) rfl)) rfl, rfl⟩
theorem fl_X3_206 : FL RX3 206 5 11 "I" := ⟨(RX6, TX6, 13), rfl, by decide, gt (inT1 (List.mem_of_getElem? (i := 78) rfl)) rfl, rfl⟩
theorem fl_X3_213 : FL RX3 213 5 5 "I" := ⟨(RX6, TX6, 13), rfl, by decide, gt (inT1 (List.mem_of_getElem? (i := 61) rfl)) rfl, rfl⟩
theorem fl_X3_219 : FL RX3 219 0 1 "I" := ⟨(RX1, TX1, 9), rfl, by decide, gt (inT1 (List.mem_of_getElem? (i := 197) rfl)) rfl, rfl⟩
theorem fl_X3_222 : FL RX3 222 5 6 "I" := ⟨(RX6, TX6, 13), rfl, by decide, gt (inT1 (List.mem_of_getElem? (i := 63) rfl)) rfl, rfl⟩
theorem fl_X3_232 : FL RX3 232 5 12 "J" := ⟨(RX6, TX6, 13), rfl, by decide, gt (inT1 (List.mem_of_getElem? (i := 80) rfl)) rfl, rfl⟩
theorem fl_X3_236 : FL RX3 236 5 7 "I" := ⟨(RX6, TX6, 13), rfl, by decide, gt (inT1 (List.mem_of_getElem? (i := 66) rfl)) rfl, rfl⟩
theorem fl_X3_246 : FL RX3 246 5 9 "I" := ⟨(RX6, TX6, 13), rfl, by decide, gt (inT1 (List.mem_of_getElem? (i := 72) rfl)) rfl, rfl⟩
theorem fl_X3_249 : FL RX3 249 5 1 "I" := ⟨(RX6, TX6, 13), rfl, by decide, gt (inT1 (List.mem_of_getElem? (i := 50) rfl)) rfl, rfl⟩
theorem fl_X3_255 : FL RX3 255 4 5 "I" := ⟨(RX5, TX5, 7), rfl, by decide, gt (inT1 (List.mem_of_getElem? (i := 169) rfl)) rfl, rfl⟩
theorem fl_X4_12 : FL RX4 12 3 0 "LConverterScanner$Tokens;" := ⟨(RX4, TX4, 10), rfl, by decide, gt (inT2 (List.mem_of_getElem? (i := 204) rfl)) rfl, rfl⟩
theorem fl_X4_21 : FL RX4 21 3 1 "LConverterScanner$Converter;" := ⟨(RX4, TX4, 10), rfl, by decide, gt (inT2 (List.mem_of_getElem? (i := 206) rfl)) rfl, rfl⟩
theorem fl_X4_25 : FL RX4 25 3 2 "LConverterScanner$Converter;" := ⟨(RX4, TX4, 10), rfl, by decide, gt (inT2 (List.mem_of_getElem? (i := 208) rfl)) rfl, rfl⟩
theorem fl_X4_35 : FL RX4 35 3 4 "I" := ⟨(RX4, TX4, 10), rfl, by decide, gt (inT2 (List.mem_of_getElem? (i := 210) rfl)) rfl, rfl⟩
theorem fl_X4_38 : FL RX4 38 3 5 "I" := ⟨(RX4, TX4, 10), rfl, by decide, gt (inT2 (List.mem_of_getElem? (i := 211) rfl)) rfl, rfl⟩
theorem fl_X4_41 : FL RX4 41 3 6 "I" := ⟨(RX4, TX4, 10), rfl, by decide, gt (inT2 (List.mem_of_getElem? (i := 212) rfl)) rfl, rfl⟩
theorem fl_X4_44 : FL RX4 44 3 7 "I" := ⟨(RX4, TX4, 10), rfl, by decide, gt (inT2 (List.mem_of_getElem? (i := 213) rfl)) rfl, rfl⟩
theorem fl_X4_54 : FL RX4 54 6 1 "I" := ⟨(RX7, TX7, 8), rfl, by decide, gt (inT2 (List.mem_of_getElem? (i := 172) rfl)) rfl, rfl⟩
theorem fl_X4_57 : FL RX4 57 6 5 "I" := ⟨(RX7, TX7, 8), rfl, by decide, gt (inT2 (List.mem_of_getElem? (i := 178) rfl)) rfl, rfl⟩
theorem fl_X4_74 : FL RX4 74 6 7 "LConverterScanner$Word;" := ⟨(RX7, TX7, 8), rfl, by decide, gt (inT2 (List.mem_of_getElem? (i := 182) rfl)) rfl, rfl⟩
theorem fl_X4_96 : FL RX4 96 2 1 "LConverterScanner$Sequence;" := ⟨(RX3, TX3, 17), rfl, by decide, gt (inT2 (List.mem_of_getElem? (i := 82) rfl)) rfl, rfl⟩
theorem fl_X4_104 : FL RX4 104 2 2 "LConverterScanner$Sequence;" := ⟨(RX3, TX3, 17), rfl, by decide, gt (inT2 (List.mem_of_getElem? (i := 84) rfl)) rfl, rfl⟩
theorem fl_X4_139 : FL RX4 139 3 3 "I" := ⟨(RX4, TX4, 10), rfl, by decide, gt (inT2 (List.mem_of_getElem? (i := 209) rfl)) rfl, rfl⟩
theorem fl_X4_142 : FL RX4 142 2 0 "[LConverterScanner$Channel;" := ⟨(RX3, TX3, 17), rfl, by decide, gt (inT2 (List.mem_of_getElem? (i := 79) rfl)) rfl, rfl⟩
theorem fl_X4_179 : FL RX4 179 5 0 "[I" := ⟨(RX6, TX6, 13), rfl, by decide, gt (inT1 (List.mem_of_getElem? (i := 46) rfl)) rfl, rfl⟩
theorem fl_X4_187 : FL RX4 187 6 6 "I" := ⟨(RX7, TX7, 8), rfl, by decide, gt (inT2 (List.mem_of_getElem? (i := 180) rfl)) rfl, rfl⟩
theorem fl_X4_225 : FL RX4 225 2 4 "[LConverterScanner$Window;" := ⟨(RX3, TX3, 17), rfl, by decide, gt (inT2 (List.mem_of_getElem? (i := 90) rfl)) rfl, rfl⟩
theorem fl_X4_237 : FL RX4 237 8 1 "I" := ⟨(RX9, TX9, 10), rfl, by decide, gt (inT2 (List.mem_of_getElem? (i := 36) rfl)) rfl, rfl⟩
theorem fl_X4_262 : FL RX4 262 8 4 "I" := ⟨(RX9, TX9, 10), rfl, by decide, gt (inT2 (List.mem_of_getElem? (i := 45) rfl)) rfl, rfl⟩
theorem fl_X4_267 : FL RX4 267 2 3 "[LConverterScanner$Trigger;" := ⟨(RX3, TX3, 17), rfl, by decide, gt (inT2 (List.mem_of_getElem? (i := 87) rfl)) rfl, rfl⟩
theorem fl_X4_295 : FL RX4 295 2 6 "LConverterScanner$Results;" := ⟨(RX3, TX3, 17), rfl, by decide, gt (inT2 (List.mem_of_getElem? (i := 96) rfl)) rfl, rfl⟩
theorem fl_X4_316 : FL RX4 316 6 4 "I" := ⟨(RX7, TX7, 8), rfl, by decide, gt (inT2 (List.mem_of_getElem? (i := 176) rfl)) rfl, rfl⟩
theorem fl_X5_9 : FL RX5 9 4 0 "[I" := ⟨(RX5, TX5, 7), rfl, by decide, gt (inT1 (List.mem_of_getElem? (i := 156) rfl)) rfl, rfl⟩
theorem fl_X5_15 : FL RX5 15 4 1 "I" := ⟨(RX5, TX5, 7), rfl, by decide, gt (inT1 (List.mem_of_getElem? (i := 157) rfl)) rfl, rfl⟩
theorem fl_X5_19 : FL RX5 19 4 2 "I" := ⟨(RX5, TX5, 7), rfl, by decide, gt (inT1 (List.mem_of_getElem? (i := 158) rfl)) rfl, rfl⟩
theorem fl_X5_28 : FL RX5 28 4 3 "Z" := ⟨(RX5, TX5, 7), rfl, by decide, gt (inT1 (List.mem_of_getElem? (i := 163) rfl)) rfl, rfl⟩
theorem fl_X5_32 : FL RX5 32 4 4 "I" := ⟨(RX5, TX5, 7), rfl, by decide, gt (inT1 (List.mem_of_getElem? (i := 165) rfl)) rfl, rfl⟩
theorem fl_X5_35 : FL RX5 35 4 5 "I" := ⟨(RX5, TX5, 7), rfl, by decide, gt (inT1 (List.mem_of_getElem? (i := 167) rfl)) rfl, rfl⟩
theorem fl_X5_38 : FL RX5 38 4 6 "I" := ⟨(RX5, TX5, 7), rfl, by decide, gt (inT1 (List.mem_of_getElem? (i := 170) rfl)) rfl, rfl⟩
theorem fl_X6_9 : FL RX6 9 5 6 "I" := ⟨(RX6, TX6, 13), rfl, by decide, gt (inT1 (List.mem_of_getElem? (i := 62) rfl)) rfl, rfl⟩
theorem fl_X6_15 : FL RX6 15 5 7 "I" := ⟨(RX6, TX6, 13), rfl, by decide, gt (inT1 (List.mem_of_getElem? (i := 65) rfl)) rfl, rfl⟩
theorem fl_X6_18 : FL RX6 18 5 0 "[I" := ⟨(RX6, TX6, 13), rfl, by decide, gt (inT1 (List.mem_of_getElem? (i := 45) rfl)) rfl, rfl⟩
theorem fl_X6_28 : FL RX6 28 5 1 "I" := ⟨(RX6, TX6, 13), rfl, by decide, gt (inT1 (List.mem_of_getElem? (i := 48) rfl)) rfl, rfl⟩
theorem fl_X6_31 : FL RX6 31 5 2 "I" := ⟨(RX6, TX6, 13), rfl, by decide, gt (inT1 (List.mem_of_getElem? (i := 52) rfl)) rfl, rfl⟩
theorem fl_X6_34 : FL RX6 34 5 3 "Z" := ⟨(RX6, TX6, 13), rfl, by decide, gt (inT1 (List.mem_of_getElem? (i := 54) rfl)) rfl, rfl⟩
theorem fl_X6_38 : FL RX6 38 5 4 "I" := ⟨(RX6, TX6, 13), rfl, by decide, gt (inT1 (List.mem_of_getElem? (i := 57) rfl)) rfl, rfl⟩
theorem fl_X6_41 : FL RX6 41 5 5 "I" := ⟨(RX6, TX6, 13), rfl, by decide, gt (inT1 (List.mem_of_getElem? (i := 60) rfl)) rfl, rfl⟩
theorem fl_X6_44 : FL RX6 44 5 8 "I" := ⟨(RX6, TX6, 13), rfl, by decide, gt (inT1 (List.mem_of_getElem? (i := 68) rfl)) rfl, rfl⟩
theorem fl_X6_47 : FL RX6 47 5 9 "I" := ⟨(RX6, TX6, 13), rfl, by decide, gt (inT1 (List.mem_of_getElem? (i := 71) rfl)) rfl, rfl⟩
theorem fl_X6_50 : FL RX6 50 5 10 "I" := ⟨(RX6, TX6, 13), rfl, by decide, gt (inT1 (List.mem_of_getElem? (i := 74) rfl)) rfl, rfl⟩
theorem fl_X6_53 : FL RX6 53 5 11 "I" := ⟨(RX6, TX6, 13), rfl, by decide, gt (inT1 (List.mem_of_getElem? (i := 77) rfl)) rfl, rfl⟩
theorem fl_X6_56 : FL RX6 56 5 12 "J" := ⟨(RX6, TX6, 13), rfl, by decide, gt (inT1 (List.mem_of_getElem? (i := 79) rfl)) rfl, rfl⟩
theorem fl_X7_9 : FL RX7 9 6 0 "[B" := ⟨(RX7, TX7, 8), rfl, by decide, gt (inT2 (List.mem_of_getElem? (i := 169) rfl)) rfl, rfl⟩
theorem fl_X7_15 : FL RX7 15 6 5 "I" := ⟨(RX7, TX7, 8), rfl, by decide, gt (inT2 (List.mem_of_getElem? (i := 177) rfl)) rfl, rfl⟩
theorem fl_X7_28 : FL RX7 28 6 1 "I" := ⟨(RX7, TX7, 8), rfl, by decide, gt (inT2 (List.mem_of_getElem? (i := 170) rfl)) rfl, rfl⟩
theorem fl_X7_31 : FL RX7 31 6 2 "I" := ⟨(RX7, TX7, 8), rfl, by decide, gt (inT2 (List.mem_of_getElem? (i := 173) rfl)) rfl, rfl⟩
theorem fl_X7_37 : FL RX7 37 6 4 "I" := ⟨(RX7, TX7, 8), rfl, by decide, gt (inT2 (List.mem_of_getElem? (i := 175) rfl)) rfl, rfl⟩
theorem fl_X7_40 : FL RX7 40 6 6 "I" := ⟨(RX7, TX7, 8), rfl, by decide, gt (inT2 (List.mem_of_getElem? (i := 179) rfl)) rfl, rfl⟩
theorem fl_X7_47 : FL RX7 47 6 3 "J" := ⟨(RX7, TX7, 8), rfl, by decide, gt (inT2 (List.mem_of_getElem? (i := 174) rfl)) rfl, rfl⟩
theorem fl_X8_9 : FL RX8 9 7 0 "I" := ⟨(RX8, TX8, 5), rfl, by decide, gt (inT2 (List.mem_of_getElem? (i := 0) rfl)) rfl, rfl⟩
theorem fl_X8_15 : FL RX8 15 7 1 "I" := ⟨(RX8, TX8, 5), rfl, by decide, gt (inT2 (List.mem_of_getElem? (i := 4) rfl)) rfl, rfl⟩
theorem fl_X8_18 : FL RX8 18 7 2 "I" := ⟨(RX8, TX8, 5), rfl, by decide, gt (inT2 (List.mem_of_getElem? (i := 7) rfl)) rfl, rfl⟩
theorem fl_X8_21 : FL RX8 21 7 3 "I" := ⟨(RX8, TX8, 5), rfl, by decide, gt (inT2 (List.mem_of_getElem? (i := 10) rfl)) rfl, rfl⟩
theorem fl_X8_24 : FL RX8 24 7 4 "I" := ⟨(RX8, TX8, 5), rfl, by decide, gt (inT2 (List.mem_of_getElem? (i := 13) rfl)) rfl, rfl⟩
theorem fl_X9_9 : FL RX9 9 8 7 "I" := ⟨(RX9, TX9, 10), rfl, by decide, gt (inT2 (List.mem_of_getElem? (i := 51) rfl)) rfl, rfl⟩
theorem fl_X9_15 : FL RX9 15 8 8 "I" := ⟨(RX9, TX9, 10), rfl, by decide, gt (inT2 (List.mem_of_getElem? (i := 53) rfl)) rfl, rfl⟩
theorem fl_X9_18 : FL RX9 18 8 9 "I" := ⟨(RX9, TX9, 10), rfl, by decide, gt (inT2 (List.mem_of_getElem? (i := 55) rfl)) rfl, rfl⟩
theorem fl_X9_21 : FL RX9 21 8 0 "Z" := ⟨(RX9, TX9, 10), rfl, by decide, gt (inT2 (List.mem_of_getElem? (i := 32) rfl)) rfl, rfl⟩
theorem fl_X9_25 : FL RX9 25 8 1 "I" := ⟨(RX9, TX9, 10), rfl, by decide, gt (inT2 (List.mem_of_getElem? (i := 35) rfl)) rfl, rfl⟩
theorem fl_X9_28 : FL RX9 28 8 2 "I" := ⟨(RX9, TX9, 10), rfl, by decide, gt (inT2 (List.mem_of_getElem? (i := 38) rfl)) rfl, rfl⟩
theorem fl_X9_31 : FL RX9 31 8 3 "I" := ⟨(RX9, TX9, 10), rfl, by decide, gt (inT2 (List.mem_of_getElem? (i := 41) rfl)) rfl, rfl⟩
theorem fl_X9_34 : FL RX9 34 8 4 "I" := ⟨(RX9, TX9, 10), rfl, by decide, gt (inT2 (List.mem_of_getElem? (i := 44) rfl)) rfl, rfl⟩
theorem fl_X9_37 : FL RX9 37 8 5 "I" := ⟨(RX9, TX9, 10), rfl, by decide, gt (inT2 (List.mem_of_getElem? (i := 47) rfl)) rfl, rfl⟩
theorem fl_X9_40 : FL RX9 40 8 6 "Z" := ⟨(RX9, TX9, 10), rfl, by decide, gt (inT2 (List.mem_of_getElem? (i := 49) rfl)) rfl, rfl⟩
theorem fl_X12_1 : FL RX12 1 10 0 "I" := ⟨(RX12, TX12, 21), rfl, by decide, gt (inT6 (List.mem_of_getElem? (i := 93) rfl)) rfl, rfl⟩
theorem fl_X12_7 : FL RX12 7 10 1 "[I" := ⟨(RX12, TX12, 21), rfl, by decide, gt (inT6 (List.mem_of_getElem? (i := 94) rfl)) rfl, rfl⟩
theorem fl_X12_11 : FL RX12 11 10 2 "I" := ⟨(RX12, TX12, 21), rfl, by decide, gt (inT6 (List.mem_of_getElem? (i := 95) rfl)) rfl, rfl⟩
theorem fl_X12_26 : FL RX12 26 10 3 "[I" := ⟨(RX12, TX12, 21), rfl, by decide, gt (inT6 (List.mem_of_getElem? (i := 96) rfl)) rfl, rfl⟩
theorem fl_X12_29 : FL RX12 29 10 4 "[I" := ⟨(RX12, TX12, 21), rfl, by decide, gt (inT6 (List.mem_of_getElem? (i := 97) rfl)) rfl, rfl⟩
theorem fl_X12_32 : FL RX12 32 10 7 "I" := ⟨(RX12, TX12, 21), rfl, by decide, gt (inT6 (List.mem_of_getElem? (i := 100) rfl)) rfl, rfl⟩
theorem fl_X12_35 : FL RX12 35 10 5 "[J" := ⟨(RX12, TX12, 21), rfl, by decide, gt (inT6 (List.mem_of_getElem? (i := 98) rfl)) rfl, rfl⟩
theorem fl_X12_56 : FL RX12 56 10 6 "[Z" := ⟨(RX12, TX12, 21), rfl, by decide, gt (inT6 (List.mem_of_getElem? (i := 99) rfl)) rfl, rfl⟩
theorem fl_X12_110 : FL RX12 110 10 8 "[J" := ⟨(RX12, TX12, 21), rfl, by decide, gt (inT6 (List.mem_of_getElem? (i := 101) rfl)) rfl, rfl⟩
theorem fl_X12_113 : FL RX12 113 10 9 "I" := ⟨(RX12, TX12, 21), rfl, by decide, gt (inT6 (List.mem_of_getElem? (i := 102) rfl)) rfl, rfl⟩
theorem fl_X12_116 : FL RX12 116 10 10 "I" := ⟨(RX12, TX12, 21), rfl, by decide, gt (inT6 (List.mem_of_getElem? (i := 103) rfl)) rfl, rfl⟩
theorem fl_X12_119 : FL RX12 119 10 11 "I" := ⟨(RX12, TX12, 21), rfl, by decide, gt (inT6 (List.mem_of_getElem? (i := 104) rfl)) rfl, rfl⟩
theorem fl_X12_122 : FL RX12 122 10 12 "I" := ⟨(RX12, TX12, 21), rfl, by decide, gt (inT6 (List.mem_of_getElem? (i := 105) rfl)) rfl, rfl⟩
theorem fl_X12_125 : FL RX12 125 10 13 "I" := ⟨(RX12, TX12, 21), rfl, by decide, gt (inT6 (List.mem_of_getElem? (i := 106) rfl)) rfl, rfl⟩
theorem fl_X12_128 : FL RX12 128 10 14 "I" := ⟨(RX12, TX12, 21), rfl, by decide, gt (inT6 (List.mem_of_getElem? (i := 107) rfl)) rfl, rfl⟩
theorem fl_X12_131 : FL RX12 131 10 15 "I" := ⟨(RX12, TX12, 21), rfl, by decide, gt (inT6 (List.mem_of_getElem? (i := 108) rfl)) rfl, rfl⟩
theorem fl_X12_134 : FL RX12 134 10 16 "I" := ⟨(RX12, TX12, 21), rfl, by decide, gt (inT6 (List.mem_of_getElem? (i := 109) rfl)) rfl, rfl⟩
theorem fl_X12_137 : FL RX12 137 10 17 "I" := ⟨(RX12, TX12, 21), rfl, by decide, gt (inT6 (List.mem_of_getElem? (i := 110) rfl)) rfl, rfl⟩
theorem fl_X12_140 : FL RX12 140 10 18 "[Z" := ⟨(RX12, TX12, 21), rfl, by decide, gt (inT6 (List.mem_of_getElem? (i := 111) rfl)) rfl, rfl⟩
theorem fl_X12_143 : FL RX12 143 10 19 "[Z" := ⟨(RX12, TX12, 21), rfl, by decide, gt (inT6 (List.mem_of_getElem? (i := 112) rfl)) rfl, rfl⟩
theorem fl_X12_146 : FL RX12 146 10 20 "[Z" := ⟨(RX12, TX12, 21), rfl, by decide, gt (inT6 (List.mem_of_getElem? (i := 113) rfl)) rfl, rfl⟩
theorem fp_X11_38 : FP RX11 38 6 1 "I" := ⟨(RX7, TX7, 8), rfl, by decide, gt (inT2 (List.mem_of_getElem? (i := 171) rfl)) rfl, rfl, rfl⟩
theorem fp_X11_155 : FP RX11 155 0 2 "I" := ⟨(RX1, TX1, 9), rfl, by decide, gt (inT1 (List.mem_of_getElem? (i := 201) rfl)) rfl, rfl, rfl⟩
theorem fp_X11_160 : FP RX11 160 0 3 "I" := ⟨(RX1, TX1, 9), rfl, by decide, gt (inT1 (List.mem_of_getElem? (i := 204) rfl)) rfl, rfl, rfl⟩
theorem fp_X11_163 : FP RX11 163 0 4 "I" := ⟨(RX1, TX1, 9), rfl, by decide, gt (inT1 (List.mem_of_getElem? (i := 207) rfl)) rfl, rfl, rfl⟩
theorem fp_X11_177 : FP RX11 177 0 0 "I" := ⟨(RX1, TX1, 9), rfl, by decide, gt (inT1 (List.mem_of_getElem? (i := 194) rfl)) rfl, rfl, rfl⟩
theorem fp_X11_183 : FP RX11 183 8 1 "I" := ⟨(RX9, TX9, 10), rfl, by decide, gt (inT2 (List.mem_of_getElem? (i := 37) rfl)) rfl, rfl, rfl⟩
theorem fp_X11_186 : FP RX11 186 8 2 "I" := ⟨(RX9, TX9, 10), rfl, by decide, gt (inT2 (List.mem_of_getElem? (i := 40) rfl)) rfl, rfl, rfl⟩
theorem fp_X11_196 : FP RX11 196 2 14 "I" := ⟨(RX3, TX3, 17), rfl, by decide, gt (inT2 (List.mem_of_getElem? (i := 114) rfl)) rfl, rfl, rfl⟩
theorem fp_X1_9 : FP RX1 9 0 0 "I" := ⟨(RX1, TX1, 9), rfl, by decide, gt (inT1 (List.mem_of_getElem? (i := 192) rfl)) rfl, rfl, rfl⟩
theorem fp_X1_15 : FP RX1 15 0 4 "I" := ⟨(RX1, TX1, 9), rfl, by decide, gt (inT1 (List.mem_of_getElem? (i := 205) rfl)) rfl, rfl, rfl⟩
theorem fp_X1_18 : FP RX1 18 0 6 "I" := ⟨(RX1, TX1, 9), rfl, by decide, gt (inT1 (List.mem_of_getElem? (i := 210) rfl)) rfl, rfl, rfl⟩
theorem fp_X1_21 : FP RX1 21 0 7 "I" := ⟨(RX1, TX1, 9), rfl, by decide, gt (inT1 (List.mem_of_getElem? (i := 212) rfl)) rfl, rfl, rfl⟩
theorem fp_X1_24 : FP RX1 24 0 1 "I" := ⟨(RX1, TX1, 9), rfl, by decide, gt (inT1 (List.mem_of_getElem? (i := 195) rfl)) rfl, rfl, rfl⟩
theorem fp_X1_27 : FP RX1 27 0 2 "I" := ⟨(RX1, TX1, 9), rfl, by decide, gt (inT1 (List.mem_of_getElem? (i := 199) rfl)) rfl, rfl, rfl⟩
theorem fp_X1_30 : FP RX1 30 0 3 "I" := ⟨(RX1, TX1, 9), rfl, by decide, gt (inT1 (List.mem_of_getElem? (i := 202) rfl)) rfl, rfl, rfl⟩
theorem fp_X1_33 : FP RX1 33 0 5 "I" := ⟨(RX1, TX1, 9), rfl, by decide, gt (inT1 (List.mem_of_getElem? (i := 208) rfl)) rfl, rfl, rfl⟩
theorem fp_X1_36 : FP RX1 36 0 8 "J" := ⟨(RX1, TX1, 9), rfl, by decide, gt (inT1 (List.mem_of_getElem? (i := 214) rfl)) rfl, rfl, rfl⟩
theorem fp_X2_9 : FP RX2 9 1 0 "I" := ⟨(RX2, TX2, 6), rfl, by decide, gt (inT1 (List.mem_of_getElem? (i := 120) rfl)) rfl, rfl, rfl⟩
theorem fp_X2_15 : FP RX2 15 1 1 "I" := ⟨(RX2, TX2, 6), rfl, by decide, gt (inT1 (List.mem_of_getElem? (i := 123) rfl)) rfl, rfl, rfl⟩
theorem fp_X2_18 : FP RX2 18 1 2 "I" := ⟨(RX2, TX2, 6), rfl, by decide, gt (inT1 (List.mem_of_getElem? (i := 126) rfl)) rfl, rfl, rfl⟩
theorem fp_X2_21 : FP RX2 21 1 3 "I" := ⟨(RX2, TX2, 6), rfl, by decide, gt (inT1 (List.mem_of_getElem? (i := 129) rfl)) rfl, rfl, rfl⟩
theorem fp_X2_24 : FP RX2 24 1 4 "I" := ⟨(RX2, TX2, 6), rfl, by decide, gt (inT1 (List.mem_of_getElem? (i := 131) rfl)) rfl, rfl, rfl⟩
theorem fp_X2_27 : FP RX2 27 1 5 "I" := ⟨(RX2, TX2, 6), rfl, by decide, gt (inT1 (List.mem_of_getElem? (i := 134) rfl)) rfl, rfl, rfl⟩
theorem fp_X3_91 : FP RX3 91 2 9 "Z" := ⟨(RX3, TX3, 17), rfl, by decide, gt (inT2 (List.mem_of_getElem? (i := 101) rfl)) rfl, rfl, rfl⟩
theorem fp_X3_94 : FP RX3 94 2 10 "Z" := ⟨(RX3, TX3, 17), rfl, by decide, gt (inT2 (List.mem_of_getElem? (i := 103) rfl)) rfl, rfl, rfl⟩
theorem fp_X3_97 : FP RX3 97 2 11 "Z" := ⟨(RX3, TX3, 17), rfl, by decide, gt (inT2 (List.mem_of_getElem? (i := 105) rfl)) rfl, rfl, rfl⟩
theorem fp_X3_100 : FP RX3 100 2 12 "I" := ⟨(RX3, TX3, 17), rfl, by decide, gt (inT2 (List.mem_of_getElem? (i := 107) rfl)) rfl, rfl, rfl⟩
theorem fp_X3_103 : FP RX3 103 2 13 "I" := ⟨(RX3, TX3, 17), rfl, by decide, gt (inT2 (List.mem_of_getElem? (i := 110) rfl)) rfl, rfl, rfl⟩
theorem fp_X3_106 : FP RX3 106 2 14 "I" := ⟨(RX3, TX3, 17), rfl, by decide, gt (inT2 (List.mem_of_getElem? (i := 112) rfl)) rfl, rfl, rfl⟩
theorem fp_X3_109 : FP RX3 109 2 15 "I" := ⟨(RX3, TX3, 17), rfl, by decide, gt (inT2 (List.mem_of_getElem? (i := 115) rfl)) rfl, rfl, rfl⟩
theorem fp_X3_112 : FP RX3 112 2 16 "I" := ⟨(RX3, TX3, 17), rfl, by decide, gt (inT2 (List.mem_of_getElem? (i := 117) rfl)) rfl, rfl, rfl⟩
theorem fp_X3_115 : FP RX3 115 5 8 "I" := ⟨(RX6, TX6, 13), rfl, by decide, gt (inT1 (List.mem_of_getElem? (i := 69) rfl)) rfl, rfl, rfl⟩
theorem fp_X3_125 : FP RX3 125 1 0 "I" := ⟨(RX2, TX2, 6), rfl, by decide, gt (inT1 (List.mem_of_getElem? (i := 121) rfl)) rfl, rfl, rfl⟩
theorem fp_X3_137 : FP RX3 137 7 3 "I" := ⟨(RX8, TX8, 5), rfl, by decide, gt (inT2 (List.mem_of_getElem? (i := 11) rfl)) rfl, rfl, rfl⟩
theorem fp_X3_151 : FP RX3 151 7 4 "I" := ⟨(RX8, TX8, 5), rfl, by decide, gt (inT2 (List.mem_of_getElem? (i := 14) rfl)) rfl, rfl, rfl⟩
theorem fp_X3_165 : FP RX3 165 1 5 "I" := ⟨(RX2, TX2, 6), rfl, by decide, gt (inT1 (List.mem_of_getElem? (i := 135) rfl)) rfl, rfl, rfl⟩
theorem fp_X3_177 : FP RX3 177 5 4 "I" := ⟨(RX6, TX6, 13), rfl, by decide, gt (inT1 (List.mem_of_getElem? (i := 58) rfl)) rfl, rfl, rfl⟩
theorem fp_X3_184 : FP RX3 184 1 1 "I" := ⟨(RX2, TX2, 6), rfl, by decide, gt (inT1 (List.mem_of_getElem? (i := 124) rfl)) rfl, rfl, rfl⟩
theorem fp_X3_190 : FP RX3 190 1 2 "I" := ⟨(RX2, TX2, 6), rfl, by decide, gt (inT1 (List.mem_of_getElem? (i := 127) rfl)) rfl, rfl, rfl⟩
theorem fp_X3_197 : FP RX3 197 1 3 "I" := ⟨(RX2, TX2, 6), rfl, by decide, gt (inT1 (List.mem_of_getElem? (i := 130) rfl)) rfl, rfl, rfl⟩
theorem fp_X3_200 : FP RX3 200 1 4 "I" := ⟨(RX2, TX2, 6), rfl, by decide, gt (inT1 (List.mem_of_getElem? (i := 132) rfl)) rfl, rfl, rfl⟩
theorem fp_X3_203 : FP RX3 203 5 10 "I" := ⟨(RX6, TX6, 13), rfl, by decide, gt (inT1 (List.mem_of_getElem? (i := 75) rfl)) rfl, rfl, rfl⟩
theorem fp_X3_206 : FP RX3 206 5 11 "I" := ⟨(RX6, TX6, 13), rfl, by decide, gt (inT1 (List.mem_of_getElem? (i := 78) rfl)) rfl, rfl, rfl⟩
theorem fp_X3_232 : FP RX3 232 5 12 "J" := ⟨(RX6, TX6, 13), rfl, by decide, gt (inT1 (List.mem_of_getElem? (i := 80) rfl)) rfl, rfl, rfl⟩
theorem fp_X3_246 : FP RX3 246 5 9 "I" := ⟨(RX6, TX6, 13), rfl, by decide, gt (inT1 (List.mem_of_getElem? (i := 72) rfl)) rfl, rfl, rfl⟩
theorem fp_X4_28 : FP RX4 28 3 8 "I" := ⟨(RX4, TX4, 10), rfl, by decide, gt (inT2 (List.mem_of_getElem? (i := 214) rfl)) rfl, rfl, rfl⟩
theorem fp_X4_32 : FP RX4 32 3 9 "I" := ⟨(RX4, TX4, 10), rfl, by decide, gt (inT2 (List.mem_of_getElem? (i := 216) rfl)) rfl, rfl, rfl⟩
theorem fp_X4_35 : FP RX4 35 3 4 "I" := ⟨(RX4, TX4, 10), rfl, by decide, gt (inT2 (List.mem_of_getElem? (i := 210) rfl)) rfl, rfl, rfl⟩
theorem fp_X4_38 : FP RX4 38 3 5 "I" := ⟨(RX4, TX4, 10), rfl, by decide, gt (inT2 (List.mem_of_getElem? (i := 211) rfl)) rfl, rfl, rfl⟩
theorem fp_X4_41 : FP RX4 41 3 6 "I" := ⟨(RX4, TX4, 10), rfl, by decide, gt (inT2 (List.mem_of_getElem? (i := 212) rfl)) rfl, rfl, rfl⟩
theorem fp_X4_44 : FP RX4 44 3 7 "I" := ⟨(RX4, TX4, 10), rfl, by decide, gt (inT2 (List.mem_of_getElem? (i := 213) rfl)) rfl, rfl, rfl⟩
theorem fp_X4_110 : FP RX4 110 2 9 "Z" := ⟨(RX3, TX3, 17), rfl, by decide, gt (inT2 (List.mem_of_getElem? (i := 102) rfl)) rfl, rfl, rfl⟩
theorem fp_X4_114 : FP RX4 114 2 10 "Z" := ⟨(RX3, TX3, 17), rfl, by decide, gt (inT2 (List.mem_of_getElem? (i := 104) rfl)) rfl, rfl, rfl⟩
theorem fp_X4_139 : FP RX4 139 3 3 "I" := ⟨(RX4, TX4, 10), rfl, by decide, gt (inT2 (List.mem_of_getElem? (i := 209) rfl)) rfl, rfl, rfl⟩
theorem fp_X4_162 : FP RX4 162 0 0 "I" := ⟨(RX1, TX1, 9), rfl, by decide, gt (inT1 (List.mem_of_getElem? (i := 193) rfl)) rfl, rfl, rfl⟩
theorem fp_X4_167 : FP RX4 167 0 1 "I" := ⟨(RX1, TX1, 9), rfl, by decide, gt (inT1 (List.mem_of_getElem? (i := 196) rfl)) rfl, rfl, rfl⟩
theorem fp_X4_170 : FP RX4 170 0 2 "I" := ⟨(RX1, TX1, 9), rfl, by decide, gt (inT1 (List.mem_of_getElem? (i := 200) rfl)) rfl, rfl, rfl⟩
theorem fp_X4_173 : FP RX4 173 0 3 "I" := ⟨(RX1, TX1, 9), rfl, by decide, gt (inT1 (List.mem_of_getElem? (i := 203) rfl)) rfl, rfl, rfl⟩
theorem fp_X4_176 : FP RX4 176 0 4 "I" := ⟨(RX1, TX1, 9), rfl, by decide, gt (inT1 (List.mem_of_getElem? (i := 206) rfl)) rfl, rfl, rfl⟩
theorem fp_X4_184 : FP RX4 184 5 1 "I" := ⟨(RX6, TX6, 13), rfl, by decide, gt (inT1 (List.mem_of_getElem? (i := 49) rfl)) rfl, rfl, rfl⟩
theorem fp_X4_194 : FP RX4 194 5 2 "I" := ⟨(RX6, TX6, 13), rfl, by decide, gt (inT1 (List.mem_of_getElem? (i := 53) rfl)) rfl, rfl, rfl⟩
theorem fp_X4_200 : FP RX4 200 2 12 "I" := ⟨(RX3, TX3, 17), rfl, by decide, gt (inT2 (List.mem_of_getElem? (i := 108) rfl)) rfl, rfl, rfl⟩
theorem fp_X4_210 : FP RX4 210 2 13 "I" := ⟨(RX3, TX3, 17), rfl, by decide, gt (inT2 (List.mem_of_getElem? (i := 111) rfl)) rfl, rfl, rfl⟩
theorem fp_X4_219 : FP RX4 219 2 11 "Z" := ⟨(RX3, TX3, 17), rfl, by decide, gt (inT2 (List.mem_of_getElem? (i := 106) rfl)) rfl, rfl, rfl⟩
theorem fp_X4_229 : FP RX4 229 8 0 "Z" := ⟨(RX9, TX9, 10), rfl, by decide, gt (inT2 (List.mem_of_getElem? (i := 33) rfl)) rfl, rfl, rfl⟩
theorem fp_X4_237 : FP RX4 237 8 1 "I" := ⟨(RX9, TX9, 10), rfl, by decide, gt (inT2 (List.mem_of_getElem? (i := 36) rfl)) rfl, rfl, rfl⟩
theorem fp_X4_246 : FP RX4 246 8 2 "I" := ⟨(RX9, TX9, 10), rfl, by decide, gt (inT2 (List.mem_of_getElem? (i := 39) rfl)) rfl, rfl, rfl⟩
theorem fp_X4_252 : FP RX4 252 8 3 "I" := ⟨(RX9, TX9, 10), rfl, by decide, gt (inT2 (List.mem_of_getElem? (i := 42) rfl)) rfl, rfl, rfl⟩
theorem fp_X4_262 : FP RX4 262 8 4 "I" := ⟨(RX9, TX9, 10), rfl, by decide, gt (inT2 (List.mem_of_getElem? (i := 45) rfl)) rfl, rfl, rfl⟩
theorem fp_X4_274 : FP RX4 274 7 0 "I" := ⟨(RX8, TX8, 5), rfl, by decide, gt (inT2 (List.mem_of_getElem? (i := 2) rfl)) rfl, rfl, rfl⟩
theorem fp_X4_285 : FP RX4 285 7 1 "I" := ⟨(RX8, TX8, 5), rfl, by decide, gt (inT2 (List.mem_of_getElem? (i := 5) rfl)) rfl, rfl, rfl⟩
theorem fp_X4_289 : FP RX4 289 7 2 "I" := ⟨(RX8, TX8, 5), rfl, by decide, gt (inT2 (List.mem_of_getElem? (i := 8) rfl)) rfl, rfl, rfl⟩
theorem fp_X4_299 : FP RX4 299 4 2 "I" := ⟨(RX5, TX5, 7), rfl, by decide, gt (inT1 (List.mem_of_getElem? (i := 160) rfl)) rfl, rfl, rfl⟩
theorem fp_X4_307 : FP RX4 307 4 3 "Z" := ⟨(RX5, TX5, 7), rfl, by decide, gt (inT1 (List.mem_of_getElem? (i := 164) rfl)) rfl, rfl, rfl⟩
theorem fp_X4_313 : FP RX4 313 2 14 "I" := ⟨(RX3, TX3, 17), rfl, by decide, gt (inT2 (List.mem_of_getElem? (i := 113) rfl)) rfl, rfl, rfl⟩
theorem fp_X5_19 : FP RX5 19 4 2 "I" := ⟨(RX5, TX5, 7), rfl, by decide, gt (inT1 (List.mem_of_getElem? (i := 158) rfl)) rfl, rfl, rfl⟩
theorem fp_X5_28 : FP RX5 28 4 3 "Z" := ⟨(RX5, TX5, 7), rfl, by decide, gt (inT1 (List.mem_of_getElem? (i := 163) rfl)) rfl, rfl, rfl⟩
theorem fp_X5_32 : FP RX5 32 4 4 "I" := ⟨(RX5, TX5, 7), rfl, by decide, gt (inT1 (List.mem_of_getElem? (i := 165) rfl)) rfl, rfl, rfl⟩
theorem fp_X5_35 : FP RX5 35 4 5 "I" := ⟨(RX5, TX5, 7), rfl, by decide, gt (inT1 (List.mem_of_getElem? (i := 167) rfl)) rfl, rfl, rfl⟩
theorem fp_X5_38 : FP RX5 38 4 6 "I" := ⟨(RX5, TX5, 7), rfl, by decide, gt (inT1 (List.mem_of_getElem? (i := 170) rfl)) rfl, rfl, rfl⟩
theorem fp_X6_9 : FP RX6 9 5 6 "I" := ⟨(RX6, TX6, 13), rfl, by decide, gt (inT1 (List.mem_of_getElem? (i := 62) rfl)) rfl, rfl, rfl⟩
theorem fp_X6_15 : FP RX6 15 5 7 "I" := ⟨(RX6, TX6, 13), rfl, by decide, gt (inT1 (List.mem_of_getElem? (i := 65) rfl)) rfl, rfl, rfl⟩
theorem fp_X6_28 : FP RX6 28 5 1 "I" := ⟨(RX6, TX6, 13), rfl, by decide, gt (inT1 (List.mem_of_getElem? (i := 48) rfl)) rfl, rfl, rfl⟩
theorem fp_X6_31 : FP RX6 31 5 2 "I" := ⟨(RX6, TX6, 13), rfl, by decide, gt (inT1 (List.mem_of_getElem? (i := 52) rfl)) rfl, rfl, rfl⟩
theorem fp_X6_34 : FP RX6 34 5 3 "Z" := ⟨(RX6, TX6, 13), rfl, by decide, gt (inT1 (List.mem_of_getElem? (i := 54) rfl)) rfl, rfl, rfl⟩
theorem fp_X6_38 : FP RX6 38 5 4 "I" := ⟨(RX6, TX6, 13), rfl, by decide, gt (inT1 (List.mem_of_getElem? (i := 57) rfl)) rfl, rfl, rfl⟩
theorem fp_X6_41 : FP RX6 41 5 5 "I" := ⟨(RX6, TX6, 13), rfl, by decide, gt (inT1 (List.mem_of_getElem? (i := 60) rfl)) rfl, rfl, rfl⟩
theorem fp_X6_44 : FP RX6 44 5 8 "I" := ⟨(RX6, TX6, 13), rfl, by decide, gt (inT1 (List.mem_of_getElem? (i := 68) rfl)) rfl, rfl, rfl⟩
theorem fp_X6_47 : FP RX6 47 5 9 "I" := ⟨(RX6, TX6, 13), rfl, by decide, gt (inT1 (List.mem_of_getElem? (i := 71) rfl)) rfl, rfl, rfl⟩
theorem fp_X6_50 : FP RX6 50 5 10 "I" := ⟨(RX6, TX6, 13), rfl, by decide, gt (inT1 (List.mem_of_getElem? (i := 74) rfl)) rfl, rfl, rfl⟩
theorem fp_X6_53 : FP RX6 53 5 11 "I" := ⟨(RX6, TX6, 13), rfl, by decide, gt (inT1 (List.mem_of_getElem? (i := 77) rfl)) rfl, rfl, rfl⟩
theorem fp_X6_56 : FP RX6 56 5 12 "J" := ⟨(RX6, TX6, 13), rfl, by decide, gt (inT1 (List.mem_of_getElem? (i := 79) rfl)) rfl, rfl, rfl⟩
theorem fp_X7_15 : FP RX7 15 6 5 "I" := ⟨(RX7, TX7, 8), rfl, by decide, gt (inT2 (List.mem_of_getElem? (i := 177) rfl)) rfl, rfl, rfl⟩
theorem fp_X7_25 : FP RX7 25 6 7 "LConverterScanner$Word;" := ⟨(RX7, TX7, 8), rfl, by decide, gt (inT2 (List.mem_of_getElem? (i := 181) rfl)) rfl, rfl, rfl⟩
theorem fp_X7_28 : FP RX7 28 6 1 "I" := ⟨(RX7, TX7, 8), rfl, by decide, gt (inT2 (List.mem_of_getElem? (i := 170) rfl)) rfl, rfl, rfl⟩
theorem fp_X7_31 : FP RX7 31 6 2 "I" := ⟨(RX7, TX7, 8), rfl, by decide, gt (inT2 (List.mem_of_getElem? (i := 173) rfl)) rfl, rfl, rfl⟩
theorem fp_X7_37 : FP RX7 37 6 4 "I" := ⟨(RX7, TX7, 8), rfl, by decide, gt (inT2 (List.mem_of_getElem? (i := 175) rfl)) rfl, rfl, rfl⟩
theorem fp_X7_40 : FP RX7 40 6 6 "I" := ⟨(RX7, TX7, 8), rfl, by decide, gt (inT2 (List.mem_of_getElem? (i := 179) rfl)) rfl, rfl, rfl⟩
theorem fp_X7_47 : FP RX7 47 6 3 "J" := ⟨(RX7, TX7, 8), rfl, by decide, gt (inT2 (List.mem_of_getElem? (i := 174) rfl)) rfl, rfl, rfl⟩
theorem fp_X8_9 : FP RX8 9 7 0 "I" := ⟨(RX8, TX8, 5), rfl, by decide, gt (inT2 (List.mem_of_getElem? (i := 0) rfl)) rfl, rfl, rfl⟩
theorem fp_X8_15 : FP RX8 15 7 1 "I" := ⟨(RX8, TX8, 5), rfl, by decide, gt (inT2 (List.mem_of_getElem? (i := 4) rfl)) rfl, rfl, rfl⟩
theorem fp_X8_18 : FP RX8 18 7 2 "I" := ⟨(RX8, TX8, 5), rfl, by decide, gt (inT2 (List.mem_of_getElem? (i := 7) rfl)) rfl, rfl, rfl⟩
theorem fp_X8_21 : FP RX8 21 7 3 "I" := ⟨(RX8, TX8, 5), rfl, by decide, gt (inT2 (List.mem_of_getElem? (i := 10) rfl)) rfl, rfl, rfl⟩
theorem fp_X8_24 : FP RX8 24 7 4 "I" := ⟨(RX8, TX8, 5), rfl, by decide, gt (inT2 (List.mem_of_getElem? (i := 13) rfl)) rfl, rfl, rfl⟩
theorem fp_X9_9 : FP RX9 9 8 7 "I" := ⟨(RX9, TX9, 10), rfl, by decide, gt (inT2 (List.mem_of_getElem? (i := 51) rfl)) rfl, rfl, rfl⟩
theorem fp_X9_15 : FP RX9 15 8 8 "I" := ⟨(RX9, TX9, 10), rfl, by decide, gt (inT2 (List.mem_of_getElem? (i := 53) rfl)) rfl, rfl, rfl⟩
theorem fp_X9_18 : FP RX9 18 8 9 "I" := ⟨(RX9, TX9, 10), rfl, by decide, gt (inT2 (List.mem_of_getElem? (i := 55) rfl)) rfl, rfl, rfl⟩
theorem fp_X9_21 : FP RX9 21 8 0 "Z" := ⟨(RX9, TX9, 10), rfl, by decide, gt (inT2 (List.mem_of_getElem? (i := 32) rfl)) rfl, rfl, rfl⟩
theorem fp_X9_25 : FP RX9 25 8 1 "I" := ⟨(RX9, TX9, 10), rfl, by decide, gt (inT2 (List.mem_of_getElem? (i := 35) rfl)) rfl, rfl, rfl⟩
theorem fp_X9_28 : FP RX9 28 8 2 "I" := ⟨(RX9, TX9, 10), rfl, by decide, gt (inT2 (List.mem_of_getElem? (i := 38) rfl)) rfl, rfl, rfl⟩
theorem fp_X9_31 : FP RX9 31 8 3 "I" := ⟨(RX9, TX9, 10), rfl, by decide, gt (inT2 (List.mem_of_getElem? (i := 41) rfl)) rfl, rfl, rfl⟩
theorem fp_X9_34 : FP RX9 34 8 4 "I" := ⟨(RX9, TX9, 10), rfl, by decide, gt (inT2 (List.mem_of_getElem? (i := 44) rfl)) rfl, rfl, rfl⟩
theorem fp_X9_37 : FP RX9 37 8 5 "I" := ⟨(RX9, TX9, 10), rfl, by decide, gt (inT2 (List.mem_of_getElem? (i := 47) rfl)) rfl, rfl, rfl⟩
theorem fp_X9_40 : FP RX9 40 8 6 "Z" := ⟨(RX9, TX9, 10), rfl, by decide, gt (inT2 (List.mem_of_getElem? (i := 49) rfl)) rfl, rfl, rfl⟩
theorem fp_X12_1 : FP RX12 1 10 0 "I" := ⟨(RX12, TX12, 21), rfl, by decide, gt (inT6 (List.mem_of_getElem? (i := 93) rfl)) rfl, rfl, rfl⟩
theorem fp_X12_11 : FP RX12 11 10 2 "I" := ⟨(RX12, TX12, 21), rfl, by decide, gt (inT6 (List.mem_of_getElem? (i := 95) rfl)) rfl, rfl, rfl⟩
theorem fp_X12_32 : FP RX12 32 10 7 "I" := ⟨(RX12, TX12, 21), rfl, by decide, gt (inT6 (List.mem_of_getElem? (i := 100) rfl)) rfl, rfl, rfl⟩
theorem fp_X12_113 : FP RX12 113 10 9 "I" := ⟨(RX12, TX12, 21), rfl, by decide, gt (inT6 (List.mem_of_getElem? (i := 102) rfl)) rfl, rfl, rfl⟩
theorem fp_X12_116 : FP RX12 116 10 10 "I" := ⟨(RX12, TX12, 21), rfl, by decide, gt (inT6 (List.mem_of_getElem? (i := 103) rfl)) rfl, rfl, rfl⟩
theorem fp_X12_119 : FP RX12 119 10 11 "I" := ⟨(RX12, TX12, 21), rfl, by decide, gt (inT6 (List.mem_of_getElem? (i := 104) rfl)) rfl, rfl, rfl⟩
theorem fp_X12_122 : FP RX12 122 10 12 "I" := ⟨(RX12, TX12, 21), rfl, by decide, gt (inT6 (List.mem_of_getElem? (i := 105) rfl)) rfl, rfl, rfl⟩
theorem fp_X12_125 : FP RX12 125 10 13 "I" := ⟨(RX12, TX12, 21), rfl, by decide, gt (inT6 (List.mem_of_getElem? (i := 106) rfl)) rfl, rfl, rfl⟩
theorem fp_X12_128 : FP RX12 128 10 14 "I" := ⟨(RX12, TX12, 21), rfl, by decide, gt (inT6 (List.mem_of_getElem? (i := 107) rfl)) rfl, rfl, rfl⟩
theorem fp_X12_131 : FP RX12 131 10 15 "I" := ⟨(RX12, TX12, 21), rfl, by decide, gt (inT6 (List.mem_of_getElem? (i := 108) rfl)) rfl, rfl, rfl⟩
theorem fp_X12_134 : FP RX12 134 10 16 "I" := ⟨(RX12, TX12, 21), rfl, by decide, gt (inT6 (List.mem_of_getElem? (i := 109) rfl)) rfl, rfl, rfl⟩
theorem fp_X12_137 : FP RX12 137 10 17 "I" := ⟨(RX12, TX12, 21), rfl, by decide, gt (inT6 (List.mem_of_getElem? (i := 110) rfl)) rfl, rfl, rfl⟩
theorem acw_X5_22 : Cond.methodLink RX5 22 arraycopyName ∈ gtb := gt (inT3 (List.mem_of_getElem? (i := 54) rfl)) rfl
theorem acw_X6_22 : Cond.methodLink RX6 22 arraycopyName ∈ gtb := gt (inT3 (List.mem_of_getElem? (i := 43) rfl)) rfl
theorem wf_X11_134 : Cond.fieldLink RX11 134 "ConverterScanner$Word" "BASE" "LConverterScanner$Word;" ∈ gtb := gt (inT5 (List.mem_of_getElem? (i := 70) rfl)) rfl
theorem wf_X11_143 : Cond.fieldLink RX11 143 "ConverterScanner$Word" "SLOPE" "LConverterScanner$Word;" ∈ gtb := gt (inT5 (List.mem_of_getElem? (i := 71) rfl)) rfl
theorem wf_X11_146 : Cond.fieldLink RX11 146 "ConverterScanner$Word" "PERIOD" "LConverterScanner$Word;" ∈ gtb := gt (inT5 (List.mem_of_getElem? (i := 72) rfl)) rfl
theorem wf_X11_172 : Cond.fieldLink RX11 172 "ConverterScanner$Word" "SAMPLE" "LConverterScanner$Word;" ∈ gtb := gt (inT5 (List.mem_of_getElem? (i := 82) rfl)) rfl
theorem wf_X11_368 : Cond.fieldLink RX11 368 "ConverterScanner$Word" "CHANNEL" "LConverterScanner$Word;" ∈ gtb := gt (inT5 (List.mem_of_getElem? (i := 68) rfl)) rfl
theorem wf_X11_373 : Cond.fieldLink RX11 373 "ConverterScanner$Word" "TRIGGER" "LConverterScanner$Word;" ∈ gtb := gt (inT4 (List.mem_of_getElem? (i := 236) rfl)) rfl
theorem wf_X11_378 : Cond.fieldLink RX11 378 "ConverterScanner$Word" "WINDOW" "LConverterScanner$Word;" ∈ gtb := gt (inT5 (List.mem_of_getElem? (i := 52) rfl)) rfl
theorem wf_X11_390 : Cond.fieldLink RX11 390 "ConverterScanner$Word" "PACE" "LConverterScanner$Word;" ∈ gtb := gt (inT5 (List.mem_of_getElem? (i := 103) rfl)) rfl
theorem wf_X4_68 : Cond.fieldLink RX4 68 "ConverterScanner$1" "$SwitchMap$ConverterScanner$Word" "[I" ∈ gtb := gt (inT3 (List.mem_of_getElem? (i := 78) rfl)) rfl
theorem wf_X4_132 : Cond.fieldLink RX4 132 "ConverterScanner$Word" "CHANNEL" "LConverterScanner$Word;" ∈ gtb := gt (inT3 (List.mem_of_getElem? (i := 91) rfl)) rfl
theorem wf_X4_149 : Cond.fieldLink RX4 149 "ConverterScanner$Word" "bit" "I" ∈ gtb := gt (inT8 (List.mem_of_getElem? (i := 71) rfl)) rfl
theorem wf_X4_152 : Cond.fieldLink RX4 152 "ConverterScanner$Word" "least" "I" ∈ gtb := gt (inT8 (List.mem_of_getElem? (i := 72) rfl)) rfl
theorem wf_X4_191 : Cond.fieldLink RX4 191 "ConverterScanner$Word" "GROUP" "LConverterScanner$Word;" ∈ gtb := gt (inT3 (List.mem_of_getElem? (i := 182) rfl)) rfl
theorem wf_X4_197 : Cond.fieldLink RX4 197 "ConverterScanner$Word" "OVER" "LConverterScanner$Word;" ∈ gtb := gt (inT3 (List.mem_of_getElem? (i := 188) rfl)) rfl
theorem wf_X4_203 : Cond.fieldLink RX4 203 "ConverterScanner$Word" "SHIFT" "LConverterScanner$Word;" ∈ gtb := gt (inT3 (List.mem_of_getElem? (i := 190) rfl)) rfl
theorem wf_X4_213 : Cond.fieldLink RX4 213 "ConverterScanner$Word" "KEEP" "LConverterScanner$Word;" ∈ gtb := gt (inT3 (List.mem_of_getElem? (i := 192) rfl)) rfl
theorem wf_X4_222 : Cond.fieldLink RX4 222 "ConverterScanner$Word" "WINDOW" "LConverterScanner$Word;" ∈ gtb := gt (inT3 (List.mem_of_getElem? (i := 130) rfl)) rfl
theorem wf_X4_234 : Cond.fieldLink RX4 234 "ConverterScanner$Word" "LOW" "LConverterScanner$Word;" ∈ gtb := gt (inT3 (List.mem_of_getElem? (i := 132) rfl)) rfl
theorem wf_X4_240 : Cond.fieldLink RX4 240 "ConverterScanner$Word" "HIGH" "LConverterScanner$Word;" ∈ gtb := gt (inT3 (List.mem_of_getElem? (i := 138) rfl)) rfl
theorem wf_X4_249 : Cond.fieldLink RX4 249 "ConverterScanner$Word" "DELAY" "LConverterScanner$Word;" ∈ gtb := gt (inT3 (List.mem_of_getElem? (i := 144) rfl)) rfl
theorem wf_X4_255 : Cond.fieldLink RX4 255 "ConverterScanner$Word" "ON" "LConverterScanner$Word;" ∈ gtb := gt (inT3 (List.mem_of_getElem? (i := 146) rfl)) rfl
theorem wf_X4_264 : Cond.fieldLink RX4 264 "ConverterScanner$Word" "TRIGGER" "LConverterScanner$Word;" ∈ gtb := gt (inT3 (List.mem_of_getElem? (i := 156) rfl)) rfl
theorem wf_X4_271 : Cond.fieldLink RX4 271 "ConverterScanner$Word" "INJECTED" "LConverterScanner$Word;" ∈ gtb := gt (inT3 (List.mem_of_getElem? (i := 158) rfl)) rfl
theorem wf_X4_279 : Cond.fieldLink RX4 279 "ConverterScanner$Word" "REGULAR" "LConverterScanner$Word;" ∈ gtb := gt (inT3 (List.mem_of_getElem? (i := 164) rfl)) rfl
theorem wf_X4_282 : Cond.fieldLink RX4 282 "ConverterScanner$Word" "EVERY" "LConverterScanner$Word;" ∈ gtb := gt (inT3 (List.mem_of_getElem? (i := 166) rfl)) rfl
theorem wf_X4_286 : Cond.fieldLink RX4 286 "ConverterScanner$Word" "FROM" "LConverterScanner$Word;" ∈ gtb := gt (inT3 (List.mem_of_getElem? (i := 168) rfl)) rfl
theorem wf_X4_292 : Cond.fieldLink RX4 292 "ConverterScanner$Word" "QUEUE" "LConverterScanner$Word;" ∈ gtb := gt (inT3 (List.mem_of_getElem? (i := 198) rfl)) rfl
theorem wf_X4_304 : Cond.fieldLink RX4 304 "ConverterScanner$Word" "NEWEST" "LConverterScanner$Word;" ∈ gtb := gt (inT3 (List.mem_of_getElem? (i := 200) rfl)) rfl
theorem wf_X4_310 : Cond.fieldLink RX4 310 "ConverterScanner$Word" "PACE" "LConverterScanner$Word;" ∈ gtb := gt (inT3 (List.mem_of_getElem? (i := 206) rfl)) rfl
theorem wf_X7_19 : Cond.fieldLink RX7 19 "ConverterScanner$Word" "OTHER" "LConverterScanner$Word;" ∈ gtb := gt (inT2 (List.mem_of_getElem? (i := 167) rfl)) rfl
theorem wf_X10_37 : Cond.fieldLink RX10 37 "ConverterScanner$Word" "SAMPLE" "LConverterScanner$Word;" ∈ gtb := gt (inT3 (List.mem_of_getElem? (i := 109) rfl)) rfl
theorem wf_X10_40 : Cond.fieldLink RX10 40 "ConverterScanner$Word" "TRIM" "LConverterScanner$Word;" ∈ gtb := gt (inT3 (List.mem_of_getElem? (i := 111) rfl)) rfl
theorem wf_X10_43 : Cond.fieldLink RX10 43 "ConverterScanner$Word" "BASE" "LConverterScanner$Word;" ∈ gtb := gt (inT3 (List.mem_of_getElem? (i := 113) rfl)) rfl
theorem wf_X10_46 : Cond.fieldLink RX10 46 "ConverterScanner$Word" "SLOPE" "LConverterScanner$Word;" ∈ gtb := gt (inT3 (List.mem_of_getElem? (i := 115) rfl)) rfl
theorem wf_X10_49 : Cond.fieldLink RX10 49 "ConverterScanner$Word" "PERIOD" "LConverterScanner$Word;" ∈ gtb := gt (inT3 (List.mem_of_getElem? (i := 117) rfl)) rfl
theorem wf_X10_79 : Cond.fieldLink RX10 79 "ConverterScanner$Word" "OTHER" "LConverterScanner$Word;" ∈ gtb := gt (inT3 (List.mem_of_getElem? (i := 73) rfl)) rfl
theorem wf_X10_117 : Cond.fieldLink RX10 117 "ConverterScanner$Word" "letters" "J" ∈ gtb := gt (inT8 (List.mem_of_getElem? (i := 67) rfl)) rfl
theorem wf_X10_121 : Cond.fieldLink RX10 121 "ConverterScanner$Word" "least" "I" ∈ gtb := gt (inT8 (List.mem_of_getElem? (i := 69) rfl)) rfl
theorem wf_X10_124 : Cond.fieldLink RX10 124 "ConverterScanner$Word" "most" "I" ∈ gtb := gt (inT8 (List.mem_of_getElem? (i := 70) rfl)) rfl
theorem wf_X10_127 : Cond.fieldLink RX10 127 "ConverterScanner$Word" "ALL" "[LConverterScanner$Word;" ∈ gtb := gt (inT3 (List.mem_of_getElem? (i := 71) rfl)) rfl
theorem ml_X11_51 : Cond.methodLink RX11 51 yX7_addBytes ∈ gtb := gt (inT4 (List.mem_of_getElem? (i := 93) rfl)) rfl
theorem ml_X11_60 : Cond.methodLink RX11 60 yX4_parse ∈ gtb := gt (inT3 (List.mem_of_getElem? (i := 19) rfl)) rfl
theorem ml_X11_67 : Cond.methodLink RX11 67 yX3_copyFrom ∈ gtb := gt (inT3 (List.mem_of_getElem? (i := 212) rfl)) rfl
theorem ml_X11_77 : Cond.methodLink RX11 77 yX11_requireCycles ∈ gtb := gt (inT4 (List.mem_of_getElem? (i := 128) rfl)) rfl
theorem ml_X11_81 : Cond.methodLink RX11 81 yX3_resultCount ∈ gtb := gt (inT4 (List.mem_of_getElem? (i := 132) rfl)) rfl
theorem ml_X11_84 : Cond.methodLink RX11 84 yX3_passCycle ∈ gtb := gt (inT4 (List.mem_of_getElem? (i := 136) rfl)) rfl
theorem ml_X11_87 : Cond.methodLink RX11 87 yX11_requireTrigger ∈ gtb := gt (inT4 (List.mem_of_getElem? (i := 233) rfl)) rfl
theorem ml_X11_90 : Cond.methodLink RX11 90 yX3_fireTrigger ∈ gtb := gt (inT5 (List.mem_of_getElem? (i := 14) rfl)) rfl
theorem ml_X11_94 : Cond.methodLink RX11 94 yX3_stopRegular ∈ gtb := gt (inT3 (List.mem_of_getElem? (i := 225) rfl)) rfl
theorem ml_X11_112 : Cond.methodLink RX11 112 yX5_oldestNumber ∈ gtb := gt (inT5 (List.mem_of_getElem? (i := 39) rfl)) rfl
theorem ml_X11_116 : Cond.methodLink RX11 116 yX5_removeOldest ∈ gtb := gt (inT5 (List.mem_of_getElem? (i := 40) rfl)) rfl
theorem ml_X11_119 : Cond.methodLink RX11 119 yX11_requireWindow ∈ gtb := gt (inT5 (List.mem_of_getElem? (i := 48) rfl)) rfl
theorem ml_X11_126 : Cond.methodLink RX11 126 yX9_calmDown ∈ gtb := gt (inT5 (List.mem_of_getElem? (i := 54) rfl)) rfl
theorem ml_X11_131 : Cond.methodLink RX11 131 yX11_requireChannel ∈ gtb := gt (inT5 (List.mem_of_getElem? (i := 65) rfl)) rfl
theorem ml_X11_140 : Cond.methodLink RX11 140 yX10_allows ∈ gtb := gt (inT4 (List.mem_of_getElem? (i := 237) rfl)) rfl
theorem ml_X11_169 : Cond.methodLink RX11 169 yX1_signalAt ∈ gtb := gt (inT5 (List.mem_of_getElem? (i := 74) rfl)) rfl
theorem ml_X11_193 : Cond.methodLink RX11 193 yX11_requirePace ∈ gtb := gt (inT5 (List.mem_of_getElem? (i := 100) rfl)) rfl
theorem ml_X11_199 : Cond.methodLink RX11 199 yX11_requireWhat ∈ gtb := gt (inT5 (List.mem_of_getElem? (i := 112) rfl)) rfl
theorem ml_X11_232 : Cond.methodLink RX11 232 yX3_sequenceOf ∈ gtb := gt (inT4 (List.mem_of_getElem? (i := 9) rfl)) rfl
theorem ml_X11_323 : Cond.methodLink RX11 323 yX11_numberOf ∈ gtb := gt (inT5 (List.mem_of_getElem? (i := 182) rfl)) rfl
theorem ml_X11_335 : Cond.methodLink RX11 335 yX5_number ∈ gtb := gt (inT5 (List.mem_of_getElem? (i := 186) rfl)) rfl
theorem ml_X11_353 : Cond.methodLink RX11 353 yX11_countOverruns ∈ gtb := gt (inT5 (List.mem_of_getElem? (i := 231) rfl)) rfl
theorem ml_X11_357 : Cond.methodLink RX11 357 yX1_conversionLength ∈ gtb := gt (inT4 (List.mem_of_getElem? (i := 13) rfl)) rfl
theorem ml_X11_363 : Cond.methodLink RX11 363 yX11_requireSlot ∈ gtb := gt (inT6 (List.mem_of_getElem? (i := 9) rfl)) rfl
theorem ml_X3_72 : Cond.methodLink RX3 72 yX1_copyFrom ∈ gtb := gt (inT3 (List.mem_of_getElem? (i := 27) rfl)) rfl
theorem ml_X3_76 : Cond.methodLink RX3 76 yX8_copyFrom ∈ gtb := gt (inT3 (List.mem_of_getElem? (i := 31) rfl)) rfl
theorem ml_X3_79 : Cond.methodLink RX3 79 yX9_copyFrom ∈ gtb := gt (inT3 (List.mem_of_getElem? (i := 35) rfl)) rfl
theorem ml_X3_82 : Cond.methodLink RX3 82 yX6_copyFrom ∈ gtb := gt (inT3 (List.mem_of_getElem? (i := 39) rfl)) rfl
theorem ml_X3_85 : Cond.methodLink RX3 85 yX2_copyFrom ∈ gtb := gt (inT3 (List.mem_of_getElem? (i := 46) rfl)) rfl
theorem ml_X3_88 : Cond.methodLink RX3 88 yX5_copyFrom ∈ gtb := gt (inT3 (List.mem_of_getElem? (i := 50) rfl)) rfl
theorem ml_X3_118 : Cond.methodLink RX3 118 yX8_isDue ∈ gtb := gt (inT4 (List.mem_of_getElem? (i := 140) rfl)) rfl
theorem ml_X3_122 : Cond.methodLink RX3 122 yX3_fireTrigger ∈ gtb := gt (inT4 (List.mem_of_getElem? (i := 144) rfl)) rfl
theorem ml_X3_128 : Cond.methodLink RX3 128 yX3_startConversion ∈ gtb := gt (inT4 (List.mem_of_getElem? (i := 165) rfl)) rfl
theorem ml_X3_131 : Cond.methodLink RX3 131 yX3_advanceConversion ∈ gtb := gt (inT4 (List.mem_of_getElem? (i := 174) rfl)) rfl
theorem ml_X3_134 : Cond.methodLink RX3 134 yX3_transferOldest ∈ gtb := gt (inT4 (List.mem_of_getElem? (i := 212) rfl)) rfl
theorem ml_X3_143 : Cond.methodLink RX3 143 yX3_sequenceOf ∈ gtb := gt (inT4 (List.mem_of_getElem? (i := 148) rfl)) rfl
theorem ml_X3_147 : Cond.methodLink RX3 147 yX6_isReady ∈ gtb := gt (inT4 (List.mem_of_getElem? (i := 149) rfl)) rfl
theorem ml_X3_154 : Cond.methodLink RX3 154 yX3_startSequence ∈ gtb := gt (inT4 (List.mem_of_getElem? (i := 153) rfl)) rfl
theorem ml_X3_158 : Cond.methodLink RX3 158 yX6_becomeBusy ∈ gtb := gt (inT4 (List.mem_of_getElem? (i := 157) rfl)) rfl
theorem ml_X3_161 : Cond.methodLink RX3 161 yX3_breakOffRegular ∈ gtb := gt (inT3 (List.mem_of_getElem? (i := 229) rfl)) rfl
theorem ml_X3_168 : Cond.methodLink RX3 168 yX6_forgetConversions ∈ gtb := gt (inT3 (List.mem_of_getElem? (i := 233) rfl)) rfl
theorem ml_X3_174 : Cond.methodLink RX3 174 yX6_becomeIdle ∈ gtb := gt (inT3 (List.mem_of_getElem? (i := 237) rfl)) rfl
theorem ml_X3_180 : Cond.methodLink RX3 180 yX6_nextChannel ∈ gtb := gt (inT4 (List.mem_of_getElem? (i := 169) rfl)) rfl
theorem ml_X3_187 : Cond.methodLink RX3 187 yX1_conversionLength ∈ gtb := gt (inT4 (List.mem_of_getElem? (i := 173) rfl)) rfl
theorem ml_X3_193 : Cond.methodLink RX3 193 yX1_signalAt ∈ gtb := gt (inT4 (List.mem_of_getElem? (i := 178) rfl)) rfl
theorem ml_X3_209 : Cond.methodLink RX3 209 yX3_finishResult ∈ gtb := gt (inT4 (List.mem_of_getElem? (i := 182) rfl)) rfl
theorem ml_X3_216 : Cond.methodLink RX3 216 yX3_endPass ∈ gtb := gt (inT4 (List.mem_of_getElem? (i := 207) rfl)) rfl
theorem ml_X3_225 : Cond.methodLink RX3 225 yX9_look ∈ gtb := gt (inT4 (List.mem_of_getElem? (i := 186) rfl)) rfl
theorem ml_X3_229 : Cond.methodLink RX3 229 yX1_addResult ∈ gtb := gt (inT4 (List.mem_of_getElem? (i := 190) rfl)) rfl
theorem ml_X3_239 : Cond.methodLink RX3 239 yX5_put ∈ gtb := gt (inT4 (List.mem_of_getElem? (i := 194) rfl)) rfl
theorem ml_X3_243 : Cond.methodLink RX3 243 yX5_add ∈ gtb := gt (inT4 (List.mem_of_getElem? (i := 198) rfl)) rfl
theorem ml_X3_252 : Cond.methodLink RX3 252 yX6_beginPass ∈ gtb := gt (inT4 (List.mem_of_getElem? (i := 211) rfl)) rfl
theorem ml_X3_258 : Cond.methodLink RX3 258 yX5_oldestNumber ∈ gtb := gt (inT4 (List.mem_of_getElem? (i := 216) rfl)) rfl
theorem ml_X3_261 : Cond.methodLink RX3 261 yX5_removeOldest ∈ gtb := gt (inT4 (List.mem_of_getElem? (i := 224) rfl)) rfl
theorem ml_X4_47 : Cond.methodLink RX4 47 yX3_copyFrom ∈ gtb := gt (inT3 (List.mem_of_getElem? (i := 23) rfl)) rfl
theorem ml_X4_51 : Cond.methodLink RX4 51 yX7_begin ∈ gtb := gt (inT3 (List.mem_of_getElem? (i := 55) rfl)) rfl
theorem ml_X4_60 : Cond.methodLink RX4 60 yX4_readStatement ∈ gtb := gt (inT3 (List.mem_of_getElem? (i := 74) rfl)) rfl
theorem ml_X4_64 : Cond.methodLink RX4 64 yX4_takeSign ∈ gtb := gt (inT3 (List.mem_of_getElem? (i := 208) rfl)) rfl
theorem ml_X4_84 : Cond.methodLink RX4 84 yX4_readChannel ∈ gtb := gt (inT3 (List.mem_of_getElem? (i := 86) rfl)) rfl
theorem ml_X4_87 : Cond.methodLink RX4 87 yX4_readWindow ∈ gtb := gt (inT3 (List.mem_of_getElem? (i := 126) rfl)) rfl
theorem ml_X4_90 : Cond.methodLink RX4 90 yX4_readTrigger ∈ gtb := gt (inT3 (List.mem_of_getElem? (i := 152) rfl)) rfl
theorem ml_X4_93 : Cond.methodLink RX4 93 yX4_takeFirstWord ∈ gtb := gt (inT3 (List.mem_of_getElem? (i := 170) rfl)) rfl
theorem ml_X4_100 : Cond.methodLink RX4 100 yX4_readEntries ∈ gtb := gt (inT3 (List.mem_of_getElem? (i := 174) rfl)) rfl
theorem ml_X4_107 : Cond.methodLink RX4 107 yX4_readGroup ∈ gtb := gt (inT3 (List.mem_of_getElem? (i := 178) rfl)) rfl
theorem ml_X4_117 : Cond.methodLink RX4 117 yX4_readOver ∈ gtb := gt (inT3 (List.mem_of_getElem? (i := 184) rfl)) rfl
theorem ml_X4_120 : Cond.methodLink RX4 120 yX4_readQueue ∈ gtb := gt (inT3 (List.mem_of_getElem? (i := 194) rfl)) rfl
theorem ml_X4_123 : Cond.methodLink RX4 123 yX4_readPace ∈ gtb := gt (inT3 (List.mem_of_getElem? (i := 202) rfl)) rfl
theorem ml_X4_126 : Cond.methodLink RX4 126 yX4_fail ∈ gtb := gt (inT3 (List.mem_of_getElem? (i := 97) rfl)) rfl
theorem ml_X4_129 : Cond.methodLink RX4 129 yX7_next ∈ gtb := gt (inT3 (List.mem_of_getElem? (i := 90) rfl)) rfl
theorem ml_X4_135 : Cond.methodLink RX4 135 yX4_takeNumber ∈ gtb := gt (inT3 (List.mem_of_getElem? (i := 93) rfl)) rfl
theorem ml_X4_146 : Cond.methodLink RX4 146 yX10_isProperty ∈ gtb := gt (inT3 (List.mem_of_getElem? (i := 105) rfl)) rfl
theorem ml_X4_155 : Cond.methodLink RX4 155 yX4_skipSign ∈ gtb := gt (inT3 (List.mem_of_getElem? (i := 119) rfl)) rfl
theorem ml_X4_158 : Cond.methodLink RX4 158 yX4_setProperty ∈ gtb := gt (inT3 (List.mem_of_getElem? (i := 123) rfl)) rfl
theorem ml_X4_188 : Cond.methodLink RX4 188 yX10_allows ∈ gtb := gt (inT3 (List.mem_of_getElem? (i := 101) rfl)) rfl
theorem ml_X4_206 : Cond.methodLink RX4 206 yX4_takeWord ∈ gtb := gt (inT3 (List.mem_of_getElem? (i := 134) rfl)) rfl
theorem ml_X4_216 : Cond.methodLink RX4 216 yX4_skipWord ∈ gtb := gt (inT3 (List.mem_of_getElem? (i := 160) rfl)) rfl
theorem ml_X4_243 : Cond.methodLink RX4 243 yX4_takeHighBound ∈ gtb := gt (inT3 (List.mem_of_getElem? (i := 140) rfl)) rfl
theorem ml_X4_258 : Cond.methodLink RX4 258 yX4_readWindowChannels ∈ gtb := gt (inT3 (List.mem_of_getElem? (i := 148) rfl)) rfl
theorem ml_X5_41 : Cond.methodLink RX5 41 yX5_removeOldest ∈ gtb := gt (inT4 (List.mem_of_getElem? (i := 202) rfl)) rfl
theorem ml_X5_44 : Cond.methodLink RX5 44 yX5_put ∈ gtb := gt (inT4 (List.mem_of_getElem? (i := 206) rfl)) rfl
theorem ml_X5_48 : Cond.methodLink RX5 48 yX5_number ∈ gtb := gt (inT4 (List.mem_of_getElem? (i := 220) rfl)) rfl
theorem ml_X6_60 : Cond.methodLink RX6 60 yX6_beginPass ∈ gtb := gt (inT4 (List.mem_of_getElem? (i := 161) rfl)) rfl
theorem ml_X7_34 : Cond.methodLink RX7 34 yX7_next ∈ gtb := gt (inT3 (List.mem_of_getElem? (i := 59) rfl)) rfl
theorem ml_X7_43 : Cond.methodLink RX7 43 yX7_readRun ∈ gtb := gt (inT3 (List.mem_of_getElem? (i := 63) rfl)) rfl
theorem ml_X7_51 : Cond.methodLink RX7 51 yX10_of ∈ gtb := gt (inT3 (List.mem_of_getElem? (i := 68) rfl)) rfl
theorem ml_X12_14 : Cond.methodLink RX12 14 yX12_fails ∈ gtb := gt (inT6 (List.mem_of_getElem? (i := 29) rfl)) rfl
theorem ml_X12_18 : Cond.methodLink RX12 18 yX12_appendWord ∈ gtb := gt (inT6 (List.mem_of_getElem? (i := 34) rfl)) rfl
theorem ml_X12_22 : Cond.methodLink RX12 22 yX12_inRange ∈ gtb := gt (inT6 (List.mem_of_getElem? (i := 42) rfl)) rfl
theorem ml_X12_39 : Cond.methodLink RX12 39 yX12_puts ∈ gtb := gt (inT6 (List.mem_of_getElem? (i := 83) rfl)) rfl
theorem ml_X12_43 : Cond.methodLink RX12 43 yX12_seq ∈ gtb := gt (inT6 (List.mem_of_getElem? (i := 87) rfl)) rfl
theorem ml_X12_47 : Cond.methodLink RX12 47 yX12_chan ∈ gtb := gt (inT6 (List.mem_of_getElem? (i := 90) rfl)) rfl
theorem ml_X12_149 : Cond.methodLink RX12 149 yX12_firstSettings ∈ gtb := gt (inT6 (List.mem_of_getElem? (i := 75) rfl)) rfl
theorem ml_X12_152 : Cond.methodLink RX12 152 yX12_first ∈ gtb := gt (inT6 (List.mem_of_getElem? (i := 79) rfl)) rfl
theorem ml_X12_155 : Cond.methodLink RX12 155 yX12_its ∈ gtb := gt (inT6 (List.mem_of_getElem? (i := 162) rfl)) rfl
theorem ml_X12_159 : Cond.methodLink RX12 159 yX12_lesser ∈ gtb := gt (inT6 (List.mem_of_getElem? (i := 197) rfl)) rfl
theorem ml_X12_162 : Cond.methodLink RX12 162 yX12_adds ∈ gtb := gt (inT6 (List.mem_of_getElem? (i := 181) rfl)) rfl
theorem ml_X12_165 : Cond.methodLink RX12 165 yX12_entries ∈ gtb := gt (inT6 (List.mem_of_getElem? (i := 185) rfl)) rfl
theorem ml_X12_168 : Cond.methodLink RX12 168 yX12_beginPass ∈ gtb := gt (inT6 (List.mem_of_getElem? (i := 193) rfl)) rfl
theorem ml_X12_171 : Cond.methodLink RX12 171 yX12_breakOff ∈ gtb := gt (inT6 (List.mem_of_getElem? (i := 200) rfl)) rfl
theorem ml_X12_174 : Cond.methodLink RX12 174 yX12_clearResult ∈ gtb := gt (inT6 (List.mem_of_getElem? (i := 204) rfl)) rfl
theorem ml_X12_177 : Cond.methodLink RX12 177 yX12_trig ∈ gtb := gt (inT6 (List.mem_of_getElem? (i := 178) rfl)) rfl
theorem ml_X12_180 : Cond.methodLink RX12 180 yX12_startSequence ∈ gtb := gt (inT6 (List.mem_of_getElem? (i := 189) rfl)) rfl
theorem ml_X12_183 : Cond.methodLink RX12 183 yX12_fires ∈ gtb := gt (inT6 (List.mem_of_getElem? (i := 174) rfl)) rfl
theorem ml_X12_187 : Cond.methodLink RX12 187 yX12_win ∈ gtb := gt (inT6 (List.mem_of_getElem? (i := 236) rfl)) rfl
theorem ml_X12_190 : Cond.methodLink RX12 190 yX12_dropOldest ∈ gtb := gt (inT7 (List.mem_of_getElem? (i := 3) rfl)) rfl
theorem ml_X12_193 : Cond.methodLink RX12 193 yX12_putRow ∈ gtb := gt (inT7 (List.mem_of_getElem? (i := 7) rfl)) rfl
theorem ml_X12_197 : Cond.methodLink RX12 197 yX12_idle ∈ gtb := gt (inT7 (List.mem_of_getElem? (i := 15) rfl)) rfl
theorem ml_X12_200 : Cond.methodLink RX12 200 yX12_countChannel ∈ gtb := gt (inT6 (List.mem_of_getElem? (i := 228) rfl)) rfl
theorem ml_X12_203 : Cond.methodLink RX12 203 yX12_lookAt ∈ gtb := gt (inT6 (List.mem_of_getElem? (i := 232) rfl)) rfl
theorem ml_X12_207 : Cond.methodLink RX12 207 yX12_enqueue ∈ gtb := gt (inT6 (List.mem_of_getElem? (i := 239) rfl)) rfl
theorem ml_X12_211 : Cond.methodLink RX12 211 yX12_endPass ∈ gtb := gt (inT7 (List.mem_of_getElem? (i := 11) rfl)) rfl
theorem ml_X12_214 : Cond.methodLink RX12 214 yX12_entryOf ∈ gtb := gt (inT6 (List.mem_of_getElem? (i := 212) rfl)) rfl
theorem ml_X12_217 : Cond.methodLink RX12 217 yX12_signalOf ∈ gtb := gt (inT6 (List.mem_of_getElem? (i := 220) rfl)) rfl
theorem ml_X12_220 : Cond.methodLink RX12 220 yX12_finishResult ∈ gtb := gt (inT6 (List.mem_of_getElem? (i := 224) rfl)) rfl
theorem ml_X12_223 : Cond.methodLink RX12 223 yX12_fireTimers ∈ gtb := gt (inT6 (List.mem_of_getElem? (i := 170) rfl)) rfl
theorem ml_X12_226 : Cond.methodLink RX12 226 yX12_startConversion ∈ gtb := gt (inT6 (List.mem_of_getElem? (i := 208) rfl)) rfl
theorem ml_X12_229 : Cond.methodLink RX12 229 yX12_convert ∈ gtb := gt (inT6 (List.mem_of_getElem? (i := 216) rfl)) rfl
theorem ml_X12_232 : Cond.methodLink RX12 232 yX12_transfer ∈ gtb := gt (inT7 (List.mem_of_getElem? (i := 19) rfl)) rfl
theorem ml_X12_235 : Cond.methodLink RX12 235 yX12_passCycle ∈ gtb := gt (inT6 (List.mem_of_getElem? (i := 166) rfl)) rfl
theorem ml_X12_238 : Cond.methodLink RX12 238 yX12_isTrigger ∈ gtb := gt (inT7 (List.mem_of_getElem? (i := 27) rfl)) rfl
theorem ml_X12_241 : Cond.methodLink RX12 241 yX12_isWindow ∈ gtb := gt (inT7 (List.mem_of_getElem? (i := 43) rfl)) rfl
theorem ml_X12_244 : Cond.methodLink RX12 244 yX12_isChannel ∈ gtb := gt (inT7 (List.mem_of_getElem? (i := 51) rfl)) rfl
theorem ml_X12_248 : Cond.methodLink RX12 248 yX12_copyBlock ∈ gtb := gt (inT7 (List.mem_of_getElem? (i := 132) rfl)) rfl
theorem ml_X12_251 : Cond.methodLink RX12 251 yX12_beginTrial ∈ gtb := gt (inT7 (List.mem_of_getElem? (i := 128) rfl)) rfl
theorem ml_X12_254 : Cond.methodLink RX12 254 yX12_endTrial ∈ gtb := gt (inT7 (List.mem_of_getElem? (i := 136) rfl)) rfl
theorem ml_X12_257 : Cond.methodLink RX12 257 yX12_overrunsAt ∈ gtb := gt (inT7 (List.mem_of_getElem? (i := 148) rfl)) rfl
theorem ml_X12_260 : Cond.methodLink RX12 260 yX12_byteAt ∈ gtb := gt (inT7 (List.mem_of_getElem? (i := 184) rfl)) rfl
theorem ml_X12_263 : Cond.methodLink RX12 263 yX12_isLetter ∈ gtb := gt (inT7 (List.mem_of_getElem? (i := 188) rfl)) rfl
theorem ml_X12_270 : Cond.methodLink RX12 270 yX12_isDigit ∈ gtb := gt (inT7 (List.mem_of_getElem? (i := 198) rfl)) rfl
theorem ml_X12_273 : Cond.methodLink RX12 273 yX12_scanWord ∈ gtb := gt (inT7 (List.mem_of_getElem? (i := 192) rfl)) rfl
theorem ml_X12_276 : Cond.methodLink RX12 276 yX12_scanNumber ∈ gtb := gt (inT7 (List.mem_of_getElem? (i := 202) rfl)) rfl
theorem ml_X12_279 : Cond.methodLink RX12 279 yX12_ok ∈ gtb := gt (inT7 (List.mem_of_getElem? (i := 206) rfl)) rfl
theorem ml_X12_283 : Cond.methodLink RX12 283 yX12_isKeyword ∈ gtb := gt (inT8 (List.mem_of_getElem? (i := 31) rfl)) rfl
theorem ml_X12_286 : Cond.methodLink RX12 286 yX12_next ∈ gtb := gt (inT7 (List.mem_of_getElem? (i := 180) rfl)) rfl
theorem ml_X12_289 : Cond.methodLink RX12 289 yX12_accepts ∈ gtb := gt (inT8 (List.mem_of_getElem? (i := 27) rfl)) rfl
theorem ml_X12_292 : Cond.methodLink RX12 292 yX12_fail ∈ gtb := gt (inT7 (List.mem_of_getElem? (i := 217) rfl)) rfl
theorem ml_X12_295 : Cond.methodLink RX12 295 yX12_isSign ∈ gtb := gt (inT8 (List.mem_of_getElem? (i := 11) rfl)) rfl
theorem ml_X12_298 : Cond.methodLink RX12 298 yX12_readNumber ∈ gtb := gt (inT8 (List.mem_of_getElem? (i := 0) rfl)) rfl
theorem ml_X12_301 : Cond.methodLink RX12 301 yX12_isThere ∈ gtb := gt (inT7 (List.mem_of_getElem? (i := 232) rfl)) rfl
theorem ml_X12_305 : Cond.methodLink RX12 305 yX12_readOnce ∈ gtb := gt (inT7 (List.mem_of_getElem? (i := 236) rfl)) rfl
theorem ml_X12_309 : Cond.methodLink RX12 309 yX12_drafts ∈ gtb := gt (inT8 (List.mem_of_getElem? (i := 4) rfl)) rfl
theorem ml_X12_312 : Cond.methodLink RX12 312 yX12_readSigned ∈ gtb := gt (inT8 (List.mem_of_getElem? (i := 7) rfl)) rfl
theorem ml_X12_315 : Cond.methodLink RX12 315 yX12_require ∈ gtb := gt (inT8 (List.mem_of_getElem? (i := 23) rfl)) rfl
theorem ml_X12_318 : Cond.methodLink RX12 318 yX12_parseMask ∈ gtb := gt (inT8 (List.mem_of_getElem? (i := 39) rfl)) rfl
theorem ml_X12_321 : Cond.methodLink RX12 321 yX12_parseChannel ∈ gtb := gt (inT7 (List.mem_of_getElem? (i := 228) rfl)) rfl
theorem ml_X12_324 : Cond.methodLink RX12 324 yX12_parseEntries ∈ gtb := gt (inT8 (List.mem_of_getElem? (i := 15) rfl)) rfl
theorem ml_X12_327 : Cond.methodLink RX12 327 yX12_parseOver ∈ gtb := gt (inT8 (List.mem_of_getElem? (i := 19) rfl)) rfl
theorem ml_X12_330 : Cond.methodLink RX12 330 yX12_parseWindow ∈ gtb := gt (inT8 (List.mem_of_getElem? (i := 35) rfl)) rfl
theorem ml_X12_333 : Cond.methodLink RX12 333 yX12_parseTrigger ∈ gtb := gt (inT8 (List.mem_of_getElem? (i := 43) rfl)) rfl
theorem ml_X12_336 : Cond.methodLink RX12 336 yX12_isStatement ∈ gtb := gt (inT7 (List.mem_of_getElem? (i := 214) rfl)) rfl
theorem ml_X12_339 : Cond.methodLink RX12 339 yX12_isManyTimes ∈ gtb := gt (inT7 (List.mem_of_getElem? (i := 221) rfl)) rfl
theorem ml_X12_342 : Cond.methodLink RX12 342 yX12_parseBehind ∈ gtb := gt (inT7 (List.mem_of_getElem? (i := 224) rfl)) rfl
theorem ml_X12_345 : Cond.methodLink RX12 345 yX12_parseStatement ∈ gtb := gt (inT7 (List.mem_of_getElem? (i := 210) rfl)) rfl
theorem ordw_X4_78 : Cond.methodLink RX4 78 ⟨"ConverterScanner$Word", "ordinal", "()I"⟩ ∈ gtb := gt (inT3 (List.mem_of_getElem? (i := 80) rfl)) rfl
theorem my_X1_addResult : MY yX1_addResult cX1_addResult 2 none 1 := ⟨gt (inT4 (List.mem_of_getElem? (i := 193) rfl)) rfl, gt (inT1 (List.mem_of_getElem? (i := 6) rfl)) rfl, ⟨by decide +kernel, by decide +kernel, by decide +kernel⟩, by decide +kernel⟩
theorem my_X1_conversionLength : MY yX1_conversionLength cX1_conversionLength 1 (some .int) 0 := ⟨gt (inT4 (List.mem_of_getElem? (i := 16) rfl)) rfl, gt (inT1 (List.mem_of_getElem? (i := 6) rfl)) rfl, ⟨by decide +kernel, by decide +kernel, by decide +kernel⟩, by decide +kernel⟩
theorem my_X1_copyFrom : MY yX1_copyFrom cX1_copyFrom 2 none 1 := ⟨gt (inT3 (List.mem_of_getElem? (i := 30) rfl)) rfl, gt (inT1 (List.mem_of_getElem? (i := 6) rfl)) rfl, ⟨by decide +kernel, by decide +kernel, by decide +kernel⟩, by decide +kernel⟩
theorem my_X1_signalAt : MY yX1_signalAt cX1_signalAt 4 (some .int) 1 := ⟨gt (inT4 (List.mem_of_getElem? (i := 181) rfl)) rfl, gt (inT1 (List.mem_of_getElem? (i := 6) rfl)) rfl, ⟨by decide +kernel, by decide +kernel, by decide +kernel⟩, by decide +kernel⟩
theorem my_X10_allows : MY yX10_allows cX10_allows 2 (some .boolean) 1 := ⟨gt (inT3 (List.mem_of_getElem? (i := 104) rfl)) rfl, gt (inT1 (List.mem_of_getElem? (i := 12) rfl)) rfl, ⟨by decide +kernel, by decide +kernel, by decide +kernel⟩, by decide +kernel⟩
theorem my_X10_isProperty : MY yX10_isProperty cX10_isProperty 1 (some .boolean) 0 := ⟨gt (inT3 (List.mem_of_getElem? (i := 108) rfl)) rfl, gt (inT1 (List.mem_of_getElem? (i := 12) rfl)) rfl, ⟨by decide +kernel, by decide +kernel, by decide +kernel⟩, by decide +kernel⟩
theorem my_X10_of : MY yX10_of cX10_of 6 (some (.object "ConverterScanner$Word")) 1 := ⟨gt (inT3 (List.mem_of_getElem? (i := 70) rfl)) rfl, gt (inT1 (List.mem_of_getElem? (i := 12) rfl)) rfl, ⟨by decide +kernel, by decide +kernel, by decide +kernel⟩, by decide +kernel⟩
theorem my_X11_countOverruns : MY yX11_countOverruns cX11_countOverruns 6 (some .int) 3 := ⟨gt (inT5 (List.mem_of_getElem? (i := 234) rfl)) rfl, gt (inT1 (List.mem_of_getElem? (i := 1) rfl)) rfl, ⟨by decide +kernel, by decide +kernel, by decide +kernel⟩, by decide +kernel⟩
theorem my_X11_numberOf : MY yX11_numberOf cX11_numberOf 3 (some .int) 3 := ⟨gt (inT5 (List.mem_of_getElem? (i := 184) rfl)) rfl, gt (inT1 (List.mem_of_getElem? (i := 1) rfl)) rfl, ⟨by decide +kernel, by decide +kernel, by decide +kernel⟩, by decide +kernel⟩
theorem my_X11_requireChannel : MY yX11_requireChannel cX11_requireChannel 1 none 1 := ⟨gt (inT5 (List.mem_of_getElem? (i := 67) rfl)) rfl, gt (inT1 (List.mem_of_getElem? (i := 1) rfl)) rfl, ⟨by decide +kernel, by decide +kernel, by decide +kernel⟩, by decide +kernel⟩
theorem my_X11_requireCycles : MY yX11_requireCycles cX11_requireCycles 2 none 2 := ⟨gt (inT4 (List.mem_of_getElem? (i := 130) rfl)) rfl, gt (inT1 (List.mem_of_getElem? (i := 1) rfl)) rfl, ⟨by decide +kernel, by decide +kernel, by decide +kernel⟩, by decide +kernel⟩
theorem my_X11_requirePace : MY yX11_requirePace cX11_requirePace 1 none 1 := ⟨gt (inT5 (List.mem_of_getElem? (i := 102) rfl)) rfl, gt (inT1 (List.mem_of_getElem? (i := 1) rfl)) rfl, ⟨by decide +kernel, by decide +kernel, by decide +kernel⟩, by decide +kernel⟩
theorem my_X11_requireSlot : MY yX11_requireSlot cX11_requireSlot 1 none 1 := ⟨gt (inT6 (List.mem_of_getElem? (i := 11) rfl)) rfl, gt (inT1 (List.mem_of_getElem? (i := 1) rfl)) rfl, ⟨by decide +kernel, by decide +kernel, by decide +kernel⟩, by decide +kernel⟩
theorem my_X11_requireTrigger : MY yX11_requireTrigger cX11_requireTrigger 1 none 1 := ⟨gt (inT4 (List.mem_of_getElem? (i := 235) rfl)) rfl, gt (inT1 (List.mem_of_getElem? (i := 1) rfl)) rfl, ⟨by decide +kernel, by decide +kernel, by decide +kernel⟩, by decide +kernel⟩
theorem my_X11_requireWhat : MY yX11_requireWhat cX11_requireWhat 2 none 2 := ⟨gt (inT5 (List.mem_of_getElem? (i := 114) rfl)) rfl, gt (inT1 (List.mem_of_getElem? (i := 1) rfl)) rfl, ⟨by decide +kernel, by decide +kernel, by decide +kernel⟩, by decide +kernel⟩
theorem my_X11_requireWindow : MY yX11_requireWindow cX11_requireWindow 2 none 1 := ⟨gt (inT5 (List.mem_of_getElem? (i := 51) rfl)) rfl, gt (inT1 (List.mem_of_getElem? (i := 1) rfl)) rfl, ⟨by decide +kernel, by decide +kernel, by decide +kernel⟩, by decide +kernel⟩
theorem my_X12_accepts : MY yX12_accepts cX12_accepts 3 (some .boolean) 1 := ⟨gt (inT8 (List.mem_of_getElem? (i := 30) rfl)) rfl, gt (inT1 (List.mem_of_getElem? (i := 13) rfl)) rfl, ⟨by decide +kernel, by decide +kernel, by decide +kernel⟩, by decide +kernel⟩
theorem my_X12_adds : MY yX12_adds cX12_adds 3 none 2 := ⟨gt (inT6 (List.mem_of_getElem? (i := 184) rfl)) rfl, gt (inT1 (List.mem_of_getElem? (i := 13) rfl)) rfl, ⟨by decide +kernel, by decide +kernel, by decide +kernel⟩, by decide +kernel⟩
theorem my_X12_appendWord : MY yX12_appendWord cX12_appendWord 3 none 1 := ⟨gt (inT6 (List.mem_of_getElem? (i := 37) rfl)) rfl, gt (inT1 (List.mem_of_getElem? (i := 13) rfl)) rfl, ⟨by decide +kernel, by decide +kernel, by decide +kernel⟩, by decide +kernel⟩
theorem my_X12_beginPass : MY yX12_beginPass cX12_beginPass 4 none 1 := ⟨gt (inT6 (List.mem_of_getElem? (i := 196) rfl)) rfl, gt (inT1 (List.mem_of_getElem? (i := 13) rfl)) rfl, ⟨by decide +kernel, by decide +kernel, by decide +kernel⟩, by decide +kernel⟩
theorem my_X12_beginTrial : MY yX12_beginTrial cX12_beginTrial 1 none 0 := ⟨gt (inT7 (List.mem_of_getElem? (i := 131) rfl)) rfl, gt (inT1 (List.mem_of_getElem? (i := 13) rfl)) rfl, ⟨by decide +kernel, by decide +kernel, by decide +kernel⟩, by decide +kernel⟩
theorem my_X12_breakOff : MY yX12_breakOff cX12_breakOff 1 none 0 := ⟨gt (inT6 (List.mem_of_getElem? (i := 203) rfl)) rfl, gt (inT1 (List.mem_of_getElem? (i := 13) rfl)) rfl, ⟨by decide +kernel, by decide +kernel, by decide +kernel⟩, by decide +kernel⟩
theorem my_X12_byteAt : MY yX12_byteAt cX12_byteAt 2 (some .int) 1 := ⟨gt (inT7 (List.mem_of_getElem? (i := 187) rfl)) rfl, gt (inT1 (List.mem_of_getElem? (i := 13) rfl)) rfl, ⟨by decide +kernel, by decide +kernel, by decide +kernel⟩, by decide +kernel⟩
theorem my_X12_chan : MY yX12_chan cX12_chan 2 (some .int) 2 := ⟨gt (inT6 (List.mem_of_getElem? (i := 92) rfl)) rfl, gt (inT1 (List.mem_of_getElem? (i := 13) rfl)) rfl, ⟨by decide +kernel, by decide +kernel, by decide +kernel⟩, by decide +kernel⟩
theorem my_X12_clearResult : MY yX12_clearResult cX12_clearResult 2 none 1 := ⟨gt (inT6 (List.mem_of_getElem? (i := 207) rfl)) rfl, gt (inT1 (List.mem_of_getElem? (i := 13) rfl)) rfl, ⟨by decide +kernel, by decide +kernel, by decide +kernel⟩, by decide +kernel⟩
theorem my_X12_convert : MY yX12_convert cX12_convert 3 none 0 := ⟨gt (inT6 (List.mem_of_getElem? (i := 219) rfl)) rfl, gt (inT1 (List.mem_of_getElem? (i := 13) rfl)) rfl, ⟨by decide +kernel, by decide +kernel, by decide +kernel⟩, by decide +kernel⟩
theorem my_X12_copyBlock : MY yX12_copyBlock cX12_copyBlock 4 none 2 := ⟨gt (inT7 (List.mem_of_getElem? (i := 135) rfl)) rfl, gt (inT1 (List.mem_of_getElem? (i := 13) rfl)) rfl, ⟨by decide +kernel, by decide +kernel, by decide +kernel⟩, by decide +kernel⟩
theorem my_X12_countChannel : MY yX12_countChannel cX12_countChannel 4 none 2 := ⟨gt (inT6 (List.mem_of_getElem? (i := 231) rfl)) rfl, gt (inT1 (List.mem_of_getElem? (i := 13) rfl)) rfl, ⟨by decide +kernel, by decide +kernel, by decide +kernel⟩, by decide +kernel⟩
theorem my_X12_drafts : MY yX12_drafts cX12_drafts 1 (some .int) 1 := ⟨gt (inT8 (List.mem_of_getElem? (i := 6) rfl)) rfl, gt (inT1 (List.mem_of_getElem? (i := 13) rfl)) rfl, ⟨by decide +kernel, by decide +kernel, by decide +kernel⟩, by decide +kernel⟩
theorem my_X12_dropOldest : MY yX12_dropOldest cX12_dropOldest 2 none 0 := ⟨gt (inT7 (List.mem_of_getElem? (i := 6) rfl)) rfl, gt (inT1 (List.mem_of_getElem? (i := 13) rfl)) rfl, ⟨by decide +kernel, by decide +kernel, by decide +kernel⟩, by decide +kernel⟩
theorem my_X12_endPass : MY yX12_endPass cX12_endPass 2 none 1 := ⟨gt (inT7 (List.mem_of_getElem? (i := 14) rfl)) rfl, gt (inT1 (List.mem_of_getElem? (i := 13) rfl)) rfl, ⟨by decide +kernel, by decide +kernel, by decide +kernel⟩, by decide +kernel⟩
theorem my_X12_endTrial : MY yX12_endTrial cX12_endTrial 2 (some .int) 1 := ⟨gt (inT7 (List.mem_of_getElem? (i := 139) rfl)) rfl, gt (inT1 (List.mem_of_getElem? (i := 13) rfl)) rfl, ⟨by decide +kernel, by decide +kernel, by decide +kernel⟩, by decide +kernel⟩
theorem my_X12_enqueue : MY yX12_enqueue cX12_enqueue 4 none 3 := ⟨gt (inT7 (List.mem_of_getElem? (i := 2) rfl)) rfl, gt (inT1 (List.mem_of_getElem? (i := 13) rfl)) rfl, ⟨by decide +kernel, by decide +kernel, by decide +kernel⟩, by decide +kernel⟩
theorem my_X12_entries : MY yX12_entries cX12_entries 2 (some .int) 1 := ⟨gt (inT6 (List.mem_of_getElem? (i := 188) rfl)) rfl, gt (inT1 (List.mem_of_getElem? (i := 13) rfl)) rfl, ⟨by decide +kernel, by decide +kernel, by decide +kernel⟩, by decide +kernel⟩
theorem my_X12_entryOf : MY yX12_entryOf cX12_entryOf 3 (some .int) 2 := ⟨gt (inT6 (List.mem_of_getElem? (i := 215) rfl)) rfl, gt (inT1 (List.mem_of_getElem? (i := 13) rfl)) rfl, ⟨by decide +kernel, by decide +kernel, by decide +kernel⟩, by decide +kernel⟩
theorem my_X12_fail : MY yX12_fail cX12_fail 2 none 1 := ⟨gt (inT7 (List.mem_of_getElem? (i := 220) rfl)) rfl, gt (inT1 (List.mem_of_getElem? (i := 13) rfl)) rfl, ⟨by decide +kernel, by decide +kernel, by decide +kernel⟩, by decide +kernel⟩
theorem my_X12_fails : MY yX12_fails cX12_fails 4 (some .boolean) 3 := ⟨gt (inT6 (List.mem_of_getElem? (i := 33) rfl)) rfl, gt (inT1 (List.mem_of_getElem? (i := 13) rfl)) rfl, ⟨by decide +kernel, by decide +kernel, by decide +kernel⟩, by decide +kernel⟩
theorem my_X12_finishResult : MY yX12_finishResult cX12_finishResult 7 none 2 := ⟨gt (inT6 (List.mem_of_getElem? (i := 227) rfl)) rfl, gt (inT1 (List.mem_of_getElem? (i := 13) rfl)) rfl, ⟨by decide +kernel, by decide +kernel, by decide +kernel⟩, by decide +kernel⟩
theorem my_X12_fireTimers : MY yX12_fireTimers cX12_fireTimers 4 none 0 := ⟨gt (inT6 (List.mem_of_getElem? (i := 173) rfl)) rfl, gt (inT1 (List.mem_of_getElem? (i := 13) rfl)) rfl, ⟨by decide +kernel, by decide +kernel, by decide +kernel⟩, by decide +kernel⟩
theorem my_X12_fires : MY yX12_fires cX12_fires 3 (some .boolean) 1 := ⟨gt (inT6 (List.mem_of_getElem? (i := 177) rfl)) rfl, gt (inT1 (List.mem_of_getElem? (i := 13) rfl)) rfl, ⟨by decide +kernel, by decide +kernel, by decide +kernel⟩, by decide +kernel⟩
theorem my_X12_first : MY yX12_first cX12_first 3 none 1 := ⟨gt (inT6 (List.mem_of_getElem? (i := 82) rfl)) rfl, gt (inT1 (List.mem_of_getElem? (i := 13) rfl)) rfl, ⟨by decide +kernel, by decide +kernel, by decide +kernel⟩, by decide +kernel⟩
theorem my_X12_firstSettings : MY yX12_firstSettings cX12_firstSettings 3 none 1 := ⟨gt (inT6 (List.mem_of_getElem? (i := 78) rfl)) rfl, gt (inT1 (List.mem_of_getElem? (i := 13) rfl)) rfl, ⟨by decide +kernel, by decide +kernel, by decide +kernel⟩, by decide +kernel⟩
theorem my_X12_idle : MY yX12_idle cX12_idle 2 none 1 := ⟨gt (inT7 (List.mem_of_getElem? (i := 18) rfl)) rfl, gt (inT1 (List.mem_of_getElem? (i := 13) rfl)) rfl, ⟨by decide +kernel, by decide +kernel, by decide +kernel⟩, by decide +kernel⟩
theorem my_X12_inRange : MY yX12_inRange cX12_inRange 3 (some .boolean) 3 := ⟨gt (inT6 (List.mem_of_getElem? (i := 44) rfl)) rfl, gt (inT1 (List.mem_of_getElem? (i := 13) rfl)) rfl, ⟨by decide +kernel, by decide +kernel, by decide +kernel⟩, by decide +kernel⟩
theorem my_X12_isChannel : MY yX12_isChannel cX12_isChannel 2 (some .boolean) 1 := ⟨gt (inT7 (List.mem_of_getElem? (i := 54) rfl)) rfl, gt (inT1 (List.mem_of_getElem? (i := 13) rfl)) rfl, ⟨by decide +kernel, by decide +kernel, by decide +kernel⟩, by decide +kernel⟩
theorem my_X12_isDigit : MY yX12_isDigit cX12_isDigit 2 (some .boolean) 1 := ⟨gt (inT7 (List.mem_of_getElem? (i := 201) rfl)) rfl, gt (inT1 (List.mem_of_getElem? (i := 13) rfl)) rfl, ⟨by decide +kernel, by decide +kernel, by decide +kernel⟩, by decide +kernel⟩
theorem my_X12_isKeyword : MY yX12_isKeyword cX12_isKeyword 2 (some .boolean) 1 := ⟨gt (inT8 (List.mem_of_getElem? (i := 34) rfl)) rfl, gt (inT1 (List.mem_of_getElem? (i := 13) rfl)) rfl, ⟨by decide +kernel, by decide +kernel, by decide +kernel⟩, by decide +kernel⟩
theorem my_X12_isLetter : MY yX12_isLetter cX12_isLetter 2 (some .boolean) 1 := ⟨gt (inT7 (List.mem_of_getElem? (i := 191) rfl)) rfl, gt (inT1 (List.mem_of_getElem? (i := 13) rfl)) rfl, ⟨by decide +kernel, by decide +kernel, by decide +kernel⟩, by decide +kernel⟩
theorem my_X12_isManyTimes : MY yX12_isManyTimes cX12_isManyTimes 1 (some .boolean) 1 := ⟨gt (inT7 (List.mem_of_getElem? (i := 223) rfl)) rfl, gt (inT1 (List.mem_of_getElem? (i := 13) rfl)) rfl, ⟨by decide +kernel, by decide +kernel, by decide +kernel⟩, by decide +kernel⟩
theorem my_X12_isSign : MY yX12_isSign cX12_isSign 2 (some .boolean) 1 := ⟨gt (inT8 (List.mem_of_getElem? (i := 14) rfl)) rfl, gt (inT1 (List.mem_of_getElem? (i := 13) rfl)) rfl, ⟨by decide +kernel, by decide +kernel, by decide +kernel⟩, by decide +kernel⟩
theorem my_X12_isStatement : MY yX12_isStatement cX12_isStatement 1 (some .boolean) 1 := ⟨gt (inT7 (List.mem_of_getElem? (i := 216) rfl)) rfl, gt (inT1 (List.mem_of_getElem? (i := 13) rfl)) rfl, ⟨by decide +kernel, by decide +kernel, by decide +kernel⟩, by decide +kernel⟩
theorem my_X12_isThere : MY yX12_isThere cX12_isThere 2 (some .boolean) 1 := ⟨gt (inT7 (List.mem_of_getElem? (i := 235) rfl)) rfl, gt (inT1 (List.mem_of_getElem? (i := 13) rfl)) rfl, ⟨by decide +kernel, by decide +kernel, by decide +kernel⟩, by decide +kernel⟩
theorem my_X12_isTrigger : MY yX12_isTrigger cX12_isTrigger 2 (some .boolean) 1 := ⟨gt (inT7 (List.mem_of_getElem? (i := 30) rfl)) rfl, gt (inT1 (List.mem_of_getElem? (i := 13) rfl)) rfl, ⟨by decide +kernel, by decide +kernel, by decide +kernel⟩, by decide +kernel⟩
theorem my_X12_isWindow : MY yX12_isWindow cX12_isWindow 2 (some .boolean) 1 := ⟨gt (inT7 (List.mem_of_getElem? (i := 46) rfl)) rfl, gt (inT1 (List.mem_of_getElem? (i := 13) rfl)) rfl, ⟨by decide +kernel, by decide +kernel, by decide +kernel⟩, by decide +kernel⟩
theorem my_X12_its : MY yX12_its cX12_its 2 (some .int) 1 := ⟨gt (inT6 (List.mem_of_getElem? (i := 165) rfl)) rfl, gt (inT1 (List.mem_of_getElem? (i := 13) rfl)) rfl, ⟨by decide +kernel, by decide +kernel, by decide +kernel⟩, by decide +kernel⟩
theorem my_X12_lesser : MY yX12_lesser cX12_lesser 2 (some .int) 2 := ⟨gt (inT6 (List.mem_of_getElem? (i := 199) rfl)) rfl, gt (inT1 (List.mem_of_getElem? (i := 13) rfl)) rfl, ⟨by decide +kernel, by decide +kernel, by decide +kernel⟩, by decide +kernel⟩
theorem my_X12_lookAt : MY yX12_lookAt cX12_lookAt 6 none 4 := ⟨gt (inT6 (List.mem_of_getElem? (i := 235) rfl)) rfl, gt (inT1 (List.mem_of_getElem? (i := 13) rfl)) rfl, ⟨by decide +kernel, by decide +kernel, by decide +kernel⟩, by decide +kernel⟩
theorem my_X12_next : MY yX12_next cX12_next 1 none 0 := ⟨gt (inT7 (List.mem_of_getElem? (i := 183) rfl)) rfl, gt (inT1 (List.mem_of_getElem? (i := 13) rfl)) rfl, ⟨by decide +kernel, by decide +kernel, by decide +kernel⟩, by decide +kernel⟩
theorem my_X12_ok : MY yX12_ok cX12_ok 1 (some .boolean) 0 := ⟨gt (inT7 (List.mem_of_getElem? (i := 209) rfl)) rfl, gt (inT1 (List.mem_of_getElem? (i := 13) rfl)) rfl, ⟨by decide +kernel, by decide +kernel, by decide +kernel⟩, by decide +kernel⟩
theorem my_X12_overrunsAt : MY yX12_overrunsAt cX12_overrunsAt 5 (some .int) 2 := ⟨gt (inT7 (List.mem_of_getElem? (i := 151) rfl)) rfl, gt (inT1 (List.mem_of_getElem? (i := 13) rfl)) rfl, ⟨by decide +kernel, by decide +kernel, by decide +kernel⟩, by decide +kernel⟩
theorem my_X12_parseBehind : MY yX12_parseBehind cX12_parseBehind 2 none 1 := ⟨gt (inT7 (List.mem_of_getElem? (i := 227) rfl)) rfl, gt (inT1 (List.mem_of_getElem? (i := 13) rfl)) rfl, ⟨by decide +kernel, by decide +kernel, by decide +kernel⟩, by decide +kernel⟩
theorem my_X12_parseChannel : MY yX12_parseChannel cX12_parseChannel 5 none 0 := ⟨gt (inT7 (List.mem_of_getElem? (i := 231) rfl)) rfl, gt (inT1 (List.mem_of_getElem? (i := 13) rfl)) rfl, ⟨by decide +kernel, by decide +kernel, by decide +kernel⟩, by decide +kernel⟩
theorem my_X12_parseEntries : MY yX12_parseEntries cX12_parseEntries 5 none 2 := ⟨gt (inT8 (List.mem_of_getElem? (i := 18) rfl)) rfl, gt (inT1 (List.mem_of_getElem? (i := 13) rfl)) rfl, ⟨by decide +kernel, by decide +kernel, by decide +kernel⟩, by decide +kernel⟩
theorem my_X12_parseMask : MY yX12_parseMask cX12_parseMask 4 none 1 := ⟨gt (inT8 (List.mem_of_getElem? (i := 42) rfl)) rfl, gt (inT1 (List.mem_of_getElem? (i := 13) rfl)) rfl, ⟨by decide +kernel, by decide +kernel, by decide +kernel⟩, by decide +kernel⟩
theorem my_X12_parseOver : MY yX12_parseOver cX12_parseOver 1 none 0 := ⟨gt (inT8 (List.mem_of_getElem? (i := 22) rfl)) rfl, gt (inT1 (List.mem_of_getElem? (i := 13) rfl)) rfl, ⟨by decide +kernel, by decide +kernel, by decide +kernel⟩, by decide +kernel⟩
theorem my_X12_parseStatement : MY yX12_parseStatement cX12_parseStatement 2 none 0 := ⟨gt (inT7 (List.mem_of_getElem? (i := 213) rfl)) rfl, gt (inT1 (List.mem_of_getElem? (i := 13) rfl)) rfl, ⟨by decide +kernel, by decide +kernel, by decide +kernel⟩, by decide +kernel⟩
theorem my_X12_parseTrigger : MY yX12_parseTrigger cX12_parseTrigger 2 none 0 := ⟨gt (inT8 (List.mem_of_getElem? (i := 46) rfl)) rfl, gt (inT1 (List.mem_of_getElem? (i := 13) rfl)) rfl, ⟨by decide +kernel, by decide +kernel, by decide +kernel⟩, by decide +kernel⟩
theorem my_X12_parseWindow : MY yX12_parseWindow cX12_parseWindow 5 none 0 := ⟨gt (inT8 (List.mem_of_getElem? (i := 38) rfl)) rfl, gt (inT1 (List.mem_of_getElem? (i := 13) rfl)) rfl, ⟨by decide +kernel, by decide +kernel, by decide +kernel⟩, by decide +kernel⟩
theorem my_X12_passCycle : MY yX12_passCycle cX12_passCycle 1 none 0 := ⟨gt (inT6 (List.mem_of_getElem? (i := 169) rfl)) rfl, gt (inT1 (List.mem_of_getElem? (i := 13) rfl)) rfl, ⟨by decide +kernel, by decide +kernel, by decide +kernel⟩, by decide +kernel⟩
theorem my_X12_putRow : MY yX12_putRow cX12_putRow 6 none 5 := ⟨gt (inT7 (List.mem_of_getElem? (i := 10) rfl)) rfl, gt (inT1 (List.mem_of_getElem? (i := 13) rfl)) rfl, ⟨by decide +kernel, by decide +kernel, by decide +kernel⟩, by decide +kernel⟩
theorem my_X12_puts : MY yX12_puts cX12_puts 3 none 2 := ⟨gt (inT6 (List.mem_of_getElem? (i := 86) rfl)) rfl, gt (inT1 (List.mem_of_getElem? (i := 13) rfl)) rfl, ⟨by decide +kernel, by decide +kernel, by decide +kernel⟩, by decide +kernel⟩
theorem my_X12_readNumber : MY yX12_readNumber cX12_readNumber 4 (some .int) 2 := ⟨gt (inT8 (List.mem_of_getElem? (i := 3) rfl)) rfl, gt (inT1 (List.mem_of_getElem? (i := 13) rfl)) rfl, ⟨by decide +kernel, by decide +kernel, by decide +kernel⟩, by decide +kernel⟩
theorem my_X12_readOnce : MY yX12_readOnce cX12_readOnce 3 (some .int) 2 := ⟨gt (inT7 (List.mem_of_getElem? (i := 239) rfl)) rfl, gt (inT1 (List.mem_of_getElem? (i := 13) rfl)) rfl, ⟨by decide +kernel, by decide +kernel, by decide +kernel⟩, by decide +kernel⟩
theorem my_X12_readSigned : MY yX12_readSigned cX12_readSigned 4 (some .int) 1 := ⟨gt (inT8 (List.mem_of_getElem? (i := 10) rfl)) rfl, gt (inT1 (List.mem_of_getElem? (i := 13) rfl)) rfl, ⟨by decide +kernel, by decide +kernel, by decide +kernel⟩, by decide +kernel⟩
theorem my_X12_require : MY yX12_require cX12_require 2 none 1 := ⟨gt (inT8 (List.mem_of_getElem? (i := 26) rfl)) rfl, gt (inT1 (List.mem_of_getElem? (i := 13) rfl)) rfl, ⟨by decide +kernel, by decide +kernel, by decide +kernel⟩, by decide +kernel⟩
theorem my_X12_scanNumber : MY yX12_scanNumber cX12_scanNumber 1 none 0 := ⟨gt (inT7 (List.mem_of_getElem? (i := 205) rfl)) rfl, gt (inT1 (List.mem_of_getElem? (i := 13) rfl)) rfl, ⟨by decide +kernel, by decide +kernel, by decide +kernel⟩, by decide +kernel⟩
theorem my_X12_scanWord : MY yX12_scanWord cX12_scanWord 4 none 0 := ⟨gt (inT7 (List.mem_of_getElem? (i := 195) rfl)) rfl, gt (inT1 (List.mem_of_getElem? (i := 13) rfl)) rfl, ⟨by decide +kernel, by decide +kernel, by decide +kernel⟩, by decide +kernel⟩
theorem my_X12_seq : MY yX12_seq cX12_seq 2 (some .int) 2 := ⟨gt (inT6 (List.mem_of_getElem? (i := 89) rfl)) rfl, gt (inT1 (List.mem_of_getElem? (i := 13) rfl)) rfl, ⟨by decide +kernel, by decide +kernel, by decide +kernel⟩, by decide +kernel⟩
theorem my_X12_signalOf : MY yX12_signalOf cX12_signalOf 4 (some .int) 2 := ⟨gt (inT6 (List.mem_of_getElem? (i := 223) rfl)) rfl, gt (inT1 (List.mem_of_getElem? (i := 13) rfl)) rfl, ⟨by decide +kernel, by decide +kernel, by decide +kernel⟩, by decide +kernel⟩
theorem my_X12_startConversion : MY yX12_startConversion cX12_startConversion 3 none 0 := ⟨gt (inT6 (List.mem_of_getElem? (i := 211) rfl)) rfl, gt (inT1 (List.mem_of_getElem? (i := 13) rfl)) rfl, ⟨by decide +kernel, by decide +kernel, by decide +kernel⟩, by decide +kernel⟩
theorem my_X12_startSequence : MY yX12_startSequence cX12_startSequence 3 none 2 := ⟨gt (inT6 (List.mem_of_getElem? (i := 192) rfl)) rfl, gt (inT1 (List.mem_of_getElem? (i := 13) rfl)) rfl, ⟨by decide +kernel, by decide +kernel, by decide +kernel⟩, by decide +kernel⟩
theorem my_X12_transfer : MY yX12_transfer cX12_transfer 3 none 0 := ⟨gt (inT7 (List.mem_of_getElem? (i := 22) rfl)) rfl, gt (inT1 (List.mem_of_getElem? (i := 13) rfl)) rfl, ⟨by decide +kernel, by decide +kernel, by decide +kernel⟩, by decide +kernel⟩
theorem my_X12_trig : MY yX12_trig cX12_trig 2 (some .int) 2 := ⟨gt (inT6 (List.mem_of_getElem? (i := 180) rfl)) rfl, gt (inT1 (List.mem_of_getElem? (i := 13) rfl)) rfl, ⟨by decide +kernel, by decide +kernel, by decide +kernel⟩, by decide +kernel⟩
theorem my_X12_win : MY yX12_win cX12_win 2 (some .int) 2 := ⟨gt (inT6 (List.mem_of_getElem? (i := 238) rfl)) rfl, gt (inT1 (List.mem_of_getElem? (i := 13) rfl)) rfl, ⟨by decide +kernel, by decide +kernel, by decide +kernel⟩, by decide +kernel⟩
theorem my_X2_copyFrom : MY yX2_copyFrom cX2_copyFrom 2 none 1 := ⟨gt (inT3 (List.mem_of_getElem? (i := 49) rfl)) rfl, gt (inT1 (List.mem_of_getElem? (i := 4) rfl)) rfl, ⟨by decide +kernel, by decide +kernel, by decide +kernel⟩, by decide +kernel⟩
theorem my_X3_advanceConversion : MY yX3_advanceConversion cX3_advanceConversion 3 none 0 := ⟨gt (inT4 (List.mem_of_getElem? (i := 177) rfl)) rfl, gt (inT1 (List.mem_of_getElem? (i := 2) rfl)) rfl, ⟨by decide +kernel, by decide +kernel, by decide +kernel⟩, by decide +kernel⟩
theorem my_X3_breakOffRegular : MY yX3_breakOffRegular cX3_breakOffRegular 2 none 1 := ⟨gt (inT3 (List.mem_of_getElem? (i := 232) rfl)) rfl, gt (inT1 (List.mem_of_getElem? (i := 2) rfl)) rfl, ⟨by decide +kernel, by decide +kernel, by decide +kernel⟩, by decide +kernel⟩
theorem my_X3_copyFrom : MY yX3_copyFrom cX3_copyFrom 3 none 1 := ⟨gt (inT3 (List.mem_of_getElem? (i := 26) rfl)) rfl, gt (inT1 (List.mem_of_getElem? (i := 2) rfl)) rfl, ⟨by decide +kernel, by decide +kernel, by decide +kernel⟩, by decide +kernel⟩
theorem my_X3_endPass : MY yX3_endPass cX3_endPass 2 none 1 := ⟨gt (inT4 (List.mem_of_getElem? (i := 210) rfl)) rfl, gt (inT1 (List.mem_of_getElem? (i := 2) rfl)) rfl, ⟨by decide +kernel, by decide +kernel, by decide +kernel⟩, by decide +kernel⟩
theorem my_X3_finishResult : MY yX3_finishResult cX3_finishResult 7 none 2 := ⟨gt (inT4 (List.mem_of_getElem? (i := 185) rfl)) rfl, gt (inT1 (List.mem_of_getElem? (i := 2) rfl)) rfl, ⟨by decide +kernel, by decide +kernel, by decide +kernel⟩, by decide +kernel⟩
theorem my_X3_fireTrigger : MY yX3_fireTrigger cX3_fireTrigger 4 (some .boolean) 1 := ⟨gt (inT4 (List.mem_of_getElem? (i := 147) rfl)) rfl, gt (inT1 (List.mem_of_getElem? (i := 2) rfl)) rfl, ⟨by decide +kernel, by decide +kernel, by decide +kernel⟩, by decide +kernel⟩
theorem my_X3_passCycle : MY yX3_passCycle cX3_passCycle 2 none 0 := ⟨gt (inT4 (List.mem_of_getElem? (i := 139) rfl)) rfl, gt (inT1 (List.mem_of_getElem? (i := 2) rfl)) rfl, ⟨by decide +kernel, by decide +kernel, by decide +kernel⟩, by decide +kernel⟩
theorem my_X3_resultCount : MY yX3_resultCount cX3_resultCount 1 (some .int) 0 := ⟨gt (inT4 (List.mem_of_getElem? (i := 135) rfl)) rfl, gt (inT1 (List.mem_of_getElem? (i := 2) rfl)) rfl, ⟨by decide +kernel, by decide +kernel, by decide +kernel⟩, by decide +kernel⟩
theorem my_X3_sequenceOf : MY yX3_sequenceOf cX3_sequenceOf 2 (some (.object "ConverterScanner$Sequence")) 1 := ⟨gt (inT4 (List.mem_of_getElem? (i := 12) rfl)) rfl, gt (inT1 (List.mem_of_getElem? (i := 2) rfl)) rfl, ⟨by decide +kernel, by decide +kernel, by decide +kernel⟩, by decide +kernel⟩
theorem my_X3_startConversion : MY yX3_startConversion cX3_startConversion 1 none 0 := ⟨gt (inT4 (List.mem_of_getElem? (i := 168) rfl)) rfl, gt (inT1 (List.mem_of_getElem? (i := 2) rfl)) rfl, ⟨by decide +kernel, by decide +kernel, by decide +kernel⟩, by decide +kernel⟩
theorem my_X3_startSequence : MY yX3_startSequence cX3_startSequence 3 none 2 := ⟨gt (inT4 (List.mem_of_getElem? (i := 156) rfl)) rfl, gt (inT1 (List.mem_of_getElem? (i := 2) rfl)) rfl, ⟨by decide +kernel, by decide +kernel, by decide +kernel⟩, by decide +kernel⟩
theorem my_X3_stopRegular : MY yX3_stopRegular cX3_stopRegular 2 (some .boolean) 0 := ⟨gt (inT3 (List.mem_of_getElem? (i := 228) rfl)) rfl, gt (inT1 (List.mem_of_getElem? (i := 2) rfl)) rfl, ⟨by decide +kernel, by decide +kernel, by decide +kernel⟩, by decide +kernel⟩
theorem my_X3_transferOldest : MY yX3_transferOldest cX3_transferOldest 1 none 0 := ⟨gt (inT4 (List.mem_of_getElem? (i := 215) rfl)) rfl, gt (inT1 (List.mem_of_getElem? (i := 2) rfl)) rfl, ⟨by decide +kernel, by decide +kernel, by decide +kernel⟩, by decide +kernel⟩
theorem my_X4_fail : MY yX4_fail cX4_fail 2 (some .boolean) 1 := ⟨gt (inT3 (List.mem_of_getElem? (i := 100) rfl)) rfl, gt (inT1 (List.mem_of_getElem? (i := 9) rfl)) rfl, ⟨by decide +kernel, by decide +kernel, by decide +kernel⟩, by decide +kernel⟩
theorem my_X4_parse : MY yX4_parse cX4_parse 3 (some .int) 0 := ⟨gt (inT3 (List.mem_of_getElem? (i := 22) rfl)) rfl, gt (inT1 (List.mem_of_getElem? (i := 9) rfl)) rfl, ⟨by decide +kernel, by decide +kernel, by decide +kernel⟩, by decide +kernel⟩
theorem my_X4_readChannel : MY yX4_readChannel cX4_readChannel 6 (some .boolean) 0 := ⟨gt (inT3 (List.mem_of_getElem? (i := 89) rfl)) rfl, gt (inT1 (List.mem_of_getElem? (i := 9) rfl)) rfl, ⟨by decide +kernel, by decide +kernel, by decide +kernel⟩, by decide +kernel⟩
theorem my_X4_readEntries : MY yX4_readEntries cX4_readEntries 4 (some .boolean) 1 := ⟨gt (inT3 (List.mem_of_getElem? (i := 177) rfl)) rfl, gt (inT1 (List.mem_of_getElem? (i := 9) rfl)) rfl, ⟨by decide +kernel, by decide +kernel, by decide +kernel⟩, by decide +kernel⟩
theorem my_X4_readGroup : MY yX4_readGroup cX4_readGroup 1 (some .boolean) 0 := ⟨gt (inT3 (List.mem_of_getElem? (i := 181) rfl)) rfl, gt (inT1 (List.mem_of_getElem? (i := 9) rfl)) rfl, ⟨by decide +kernel, by decide +kernel, by decide +kernel⟩, by decide +kernel⟩
theorem my_X4_readOver : MY yX4_readOver cX4_readOver 1 (some .boolean) 0 := ⟨gt (inT3 (List.mem_of_getElem? (i := 187) rfl)) rfl, gt (inT1 (List.mem_of_getElem? (i := 9) rfl)) rfl, ⟨by decide +kernel, by decide +kernel, by decide +kernel⟩, by decide +kernel⟩
theorem my_X4_readPace : MY yX4_readPace cX4_readPace 1 (some .boolean) 0 := ⟨gt (inT3 (List.mem_of_getElem? (i := 205) rfl)) rfl, gt (inT1 (List.mem_of_getElem? (i := 9) rfl)) rfl, ⟨by decide +kernel, by decide +kernel, by decide +kernel⟩, by decide +kernel⟩
theorem my_X4_readQueue : MY yX4_readQueue cX4_readQueue 1 (some .boolean) 0 := ⟨gt (inT3 (List.mem_of_getElem? (i := 197) rfl)) rfl, gt (inT1 (List.mem_of_getElem? (i := 9) rfl)) rfl, ⟨by decide +kernel, by decide +kernel, by decide +kernel⟩, by decide +kernel⟩
theorem my_X4_readStatement : MY yX4_readStatement cX4_readStatement 1 (some .boolean) 0 := ⟨gt (inT3 (List.mem_of_getElem? (i := 77) rfl)) rfl, gt (inT1 (List.mem_of_getElem? (i := 9) rfl)) rfl, ⟨by decide +kernel, by decide +kernel, by decide +kernel⟩, by decide +kernel⟩
theorem my_X4_readTrigger : MY yX4_readTrigger cX4_readTrigger 2 (some .boolean) 0 := ⟨gt (inT3 (List.mem_of_getElem? (i := 155) rfl)) rfl, gt (inT1 (List.mem_of_getElem? (i := 9) rfl)) rfl, ⟨by decide +kernel, by decide +kernel, by decide +kernel⟩, by decide +kernel⟩
theorem my_X4_readWindow : MY yX4_readWindow cX4_readWindow 2 (some .boolean) 0 := ⟨gt (inT3 (List.mem_of_getElem? (i := 129) rfl)) rfl, gt (inT1 (List.mem_of_getElem? (i := 9) rfl)) rfl, ⟨by decide +kernel, by decide +kernel, by decide +kernel⟩, by decide +kernel⟩
theorem my_X4_readWindowChannels : MY yX4_readWindowChannels cX4_readWindowChannels 3 (some .boolean) 1 := ⟨gt (inT3 (List.mem_of_getElem? (i := 151) rfl)) rfl, gt (inT1 (List.mem_of_getElem? (i := 9) rfl)) rfl, ⟨by decide +kernel, by decide +kernel, by decide +kernel⟩, by decide +kernel⟩
theorem my_X4_setProperty : MY yX4_setProperty cX4_setProperty 3 none 3 := ⟨gt (inT3 (List.mem_of_getElem? (i := 125) rfl)) rfl, gt (inT1 (List.mem_of_getElem? (i := 9) rfl)) rfl, ⟨by decide +kernel, by decide +kernel, by decide +kernel⟩, by decide +kernel⟩
theorem my_X4_skipSign : MY yX4_skipSign cX4_skipSign 2 (some .boolean) 1 := ⟨gt (inT3 (List.mem_of_getElem? (i := 122) rfl)) rfl, gt (inT1 (List.mem_of_getElem? (i := 9) rfl)) rfl, ⟨by decide +kernel, by decide +kernel, by decide +kernel⟩, by decide +kernel⟩
theorem my_X4_skipWord : MY yX4_skipWord cX4_skipWord 2 (some .boolean) 1 := ⟨gt (inT3 (List.mem_of_getElem? (i := 163) rfl)) rfl, gt (inT1 (List.mem_of_getElem? (i := 9) rfl)) rfl, ⟨by decide +kernel, by decide +kernel, by decide +kernel⟩, by decide +kernel⟩
theorem my_X4_takeFirstWord : MY yX4_takeFirstWord cX4_takeFirstWord 1 (some .boolean) 0 := ⟨gt (inT3 (List.mem_of_getElem? (i := 173) rfl)) rfl, gt (inT1 (List.mem_of_getElem? (i := 9) rfl)) rfl, ⟨by decide +kernel, by decide +kernel, by decide +kernel⟩, by decide +kernel⟩
theorem my_X4_takeHighBound : MY yX4_takeHighBound cX4_takeHighBound 2 (some .boolean) 1 := ⟨gt (inT3 (List.mem_of_getElem? (i := 143) rfl)) rfl, gt (inT1 (List.mem_of_getElem? (i := 9) rfl)) rfl, ⟨by decide +kernel, by decide +kernel, by decide +kernel⟩, by decide +kernel⟩
theorem my_X4_takeNumber : MY yX4_takeNumber cX4_takeNumber 3 (some .boolean) 2 := ⟨gt (inT3 (List.mem_of_getElem? (i := 96) rfl)) rfl, gt (inT1 (List.mem_of_getElem? (i := 9) rfl)) rfl, ⟨by decide +kernel, by decide +kernel, by decide +kernel⟩, by decide +kernel⟩
theorem my_X4_takeSign : MY yX4_takeSign cX4_takeSign 2 (some .boolean) 1 := ⟨gt (inT3 (List.mem_of_getElem? (i := 211) rfl)) rfl, gt (inT1 (List.mem_of_getElem? (i := 9) rfl)) rfl, ⟨by decide +kernel, by decide +kernel, by decide +kernel⟩, by decide +kernel⟩
theorem my_X4_takeWord : MY yX4_takeWord cX4_takeWord 2 (some .boolean) 1 := ⟨gt (inT3 (List.mem_of_getElem? (i := 137) rfl)) rfl, gt (inT1 (List.mem_of_getElem? (i := 9) rfl)) rfl, ⟨by decide +kernel, by decide +kernel, by decide +kernel⟩, by decide +kernel⟩
theorem my_X5_add : MY yX5_add cX5_add 5 none 4 := ⟨gt (inT4 (List.mem_of_getElem? (i := 201) rfl)) rfl, gt (inT1 (List.mem_of_getElem? (i := 5) rfl)) rfl, ⟨by decide +kernel, by decide +kernel, by decide +kernel⟩, by decide +kernel⟩
theorem my_X5_copyFrom : MY yX5_copyFrom cX5_copyFrom 2 none 1 := ⟨gt (inT3 (List.mem_of_getElem? (i := 53) rfl)) rfl, gt (inT1 (List.mem_of_getElem? (i := 5) rfl)) rfl, ⟨by decide +kernel, by decide +kernel, by decide +kernel⟩, by decide +kernel⟩
theorem my_X5_number : MY yX5_number cX5_number 3 (some .int) 2 := ⟨gt (inT4 (List.mem_of_getElem? (i := 223) rfl)) rfl, gt (inT1 (List.mem_of_getElem? (i := 5) rfl)) rfl, ⟨by decide +kernel, by decide +kernel, by decide +kernel⟩, by decide +kernel⟩
theorem my_X5_oldestNumber : MY yX5_oldestNumber cX5_oldestNumber 2 (some .int) 1 := ⟨gt (inT4 (List.mem_of_getElem? (i := 219) rfl)) rfl, gt (inT1 (List.mem_of_getElem? (i := 5) rfl)) rfl, ⟨by decide +kernel, by decide +kernel, by decide +kernel⟩, by decide +kernel⟩
theorem my_X5_put : MY yX5_put cX5_put 7 none 5 := ⟨gt (inT4 (List.mem_of_getElem? (i := 197) rfl)) rfl, gt (inT1 (List.mem_of_getElem? (i := 5) rfl)) rfl, ⟨by decide +kernel, by decide +kernel, by decide +kernel⟩, by decide +kernel⟩
theorem my_X5_removeOldest : MY yX5_removeOldest cX5_removeOldest 1 none 0 := ⟨gt (inT4 (List.mem_of_getElem? (i := 205) rfl)) rfl, gt (inT1 (List.mem_of_getElem? (i := 5) rfl)) rfl, ⟨by decide +kernel, by decide +kernel, by decide +kernel⟩, by decide +kernel⟩
theorem my_X6_becomeBusy : MY yX6_becomeBusy cX6_becomeBusy 3 none 2 := ⟨gt (inT4 (List.mem_of_getElem? (i := 160) rfl)) rfl, gt (inT1 (List.mem_of_getElem? (i := 3) rfl)) rfl, ⟨by decide +kernel, by decide +kernel, by decide +kernel⟩, by decide +kernel⟩
theorem my_X6_becomeIdle : MY yX6_becomeIdle cX6_becomeIdle 1 none 0 := ⟨gt (inT4 (List.mem_of_getElem? (i := 0) rfl)) rfl, gt (inT1 (List.mem_of_getElem? (i := 3) rfl)) rfl, ⟨by decide +kernel, by decide +kernel, by decide +kernel⟩, by decide +kernel⟩
theorem my_X6_beginPass : MY yX6_beginPass cX6_beginPass 2 none 0 := ⟨gt (inT4 (List.mem_of_getElem? (i := 164) rfl)) rfl, gt (inT1 (List.mem_of_getElem? (i := 3) rfl)) rfl, ⟨by decide +kernel, by decide +kernel, by decide +kernel⟩, by decide +kernel⟩
theorem my_X6_copyFrom : MY yX6_copyFrom cX6_copyFrom 2 none 1 := ⟨gt (inT3 (List.mem_of_getElem? (i := 42) rfl)) rfl, gt (inT1 (List.mem_of_getElem? (i := 3) rfl)) rfl, ⟨by decide +kernel, by decide +kernel, by decide +kernel⟩, by decide +kernel⟩
theorem my_X6_forgetConversions : MY yX6_forgetConversions cX6_forgetConversions 1 none 0 := ⟨gt (inT3 (List.mem_of_getElem? (i := 236) rfl)) rfl, gt (inT1 (List.mem_of_getElem? (i := 3) rfl)) rfl, ⟨by decide +kernel, by decide +kernel, by decide +kernel⟩, by decide +kernel⟩
theorem my_X6_isReady : MY yX6_isReady cX6_isReady 1 (some .boolean) 0 := ⟨gt (inT4 (List.mem_of_getElem? (i := 152) rfl)) rfl, gt (inT1 (List.mem_of_getElem? (i := 3) rfl)) rfl, ⟨by decide +kernel, by decide +kernel, by decide +kernel⟩, by decide +kernel⟩
theorem my_X6_nextChannel : MY yX6_nextChannel cX6_nextChannel 1 (some .int) 0 := ⟨gt (inT4 (List.mem_of_getElem? (i := 172) rfl)) rfl, gt (inT1 (List.mem_of_getElem? (i := 3) rfl)) rfl, ⟨by decide +kernel, by decide +kernel, by decide +kernel⟩, by decide +kernel⟩
theorem my_X7_addBytes : MY yX7_addBytes cX7_addBytes 3 none 1 := ⟨gt (inT4 (List.mem_of_getElem? (i := 96) rfl)) rfl, gt (inT1 (List.mem_of_getElem? (i := 10) rfl)) rfl, ⟨by decide +kernel, by decide +kernel, by decide +kernel⟩, by decide +kernel⟩
theorem my_X7_begin : MY yX7_begin cX7_begin 1 none 0 := ⟨gt (inT3 (List.mem_of_getElem? (i := 58) rfl)) rfl, gt (inT1 (List.mem_of_getElem? (i := 10) rfl)) rfl, ⟨by decide +kernel, by decide +kernel, by decide +kernel⟩, by decide +kernel⟩
theorem my_X7_next : MY yX7_next cX7_next 2 none 0 := ⟨gt (inT3 (List.mem_of_getElem? (i := 62) rfl)) rfl, gt (inT1 (List.mem_of_getElem? (i := 10) rfl)) rfl, ⟨by decide +kernel, by decide +kernel, by decide +kernel⟩, by decide +kernel⟩
theorem my_X7_readRun : MY yX7_readRun cX7_readRun 6 none 4 := ⟨gt (inT3 (List.mem_of_getElem? (i := 66) rfl)) rfl, gt (inT1 (List.mem_of_getElem? (i := 10) rfl)) rfl, ⟨by decide +kernel, by decide +kernel, by decide +kernel⟩, by decide +kernel⟩
theorem my_X8_copyFrom : MY yX8_copyFrom cX8_copyFrom 2 none 1 := ⟨gt (inT3 (List.mem_of_getElem? (i := 34) rfl)) rfl, gt (inT1 (List.mem_of_getElem? (i := 7) rfl)) rfl, ⟨by decide +kernel, by decide +kernel, by decide +kernel⟩, by decide +kernel⟩
theorem my_X8_isDue : MY yX8_isDue cX8_isDue 2 (some .boolean) 1 := ⟨gt (inT4 (List.mem_of_getElem? (i := 143) rfl)) rfl, gt (inT1 (List.mem_of_getElem? (i := 7) rfl)) rfl, ⟨by decide +kernel, by decide +kernel, by decide +kernel⟩, by decide +kernel⟩
theorem my_X9_calmDown : MY yX9_calmDown cX9_calmDown 2 (some .boolean) 0 := ⟨gt (inT5 (List.mem_of_getElem? (i := 57) rfl)) rfl, gt (inT1 (List.mem_of_getElem? (i := 8) rfl)) rfl, ⟨by decide +kernel, by decide +kernel, by decide +kernel⟩, by decide +kernel⟩
theorem my_X9_copyFrom : MY yX9_copyFrom cX9_copyFrom 2 none 1 := ⟨gt (inT3 (List.mem_of_getElem? (i := 38) rfl)) rfl, gt (inT1 (List.mem_of_getElem? (i := 8) rfl)) rfl, ⟨by decide +kernel, by decide +kernel, by decide +kernel⟩, by decide +kernel⟩
theorem my_X9_look : MY yX9_look cX9_look 5 none 4 := ⟨gt (inT4 (List.mem_of_getElem? (i := 189) rfl)) rfl, gt (inT1 (List.mem_of_getElem? (i := 8) rfl)) rfl, ⟨by decide +kernel, by decide +kernel, by decide +kernel⟩, by decide +kernel⟩
theorem vy_X1_addResult : VY yX1_addResult := ⟨gt (inT4 (List.mem_of_getElem? (i := 191) rfl)) rfl, gt (inT4 (List.mem_of_getElem? (i := 192) rfl)) rfl⟩
theorem vy_X1_conversionLength : VY yX1_conversionLength := ⟨gt (inT4 (List.mem_of_getElem? (i := 14) rfl)) rfl, gt (inT4 (List.mem_of_getElem? (i := 15) rfl)) rfl⟩
theorem vy_X1_copyFrom : VY yX1_copyFrom := ⟨gt (inT3 (List.mem_of_getElem? (i := 28) rfl)) rfl, gt (inT3 (List.mem_of_getElem? (i := 29) rfl)) rfl⟩
theorem vy_X1_signalAt : VY yX1_signalAt := ⟨gt (inT4 (List.mem_of_getElem? (i := 179) rfl)) rfl, gt (inT4 (List.mem_of_getElem? (i := 180) rfl)) rfl⟩
theorem vy_X10_allows : VY yX10_allows := ⟨gt (inT3 (List.mem_of_getElem? (i := 102) rfl)) rfl, gt (inT3 (List.mem_of_getElem? (i := 103) rfl)) rfl⟩
theorem vy_X10_isProperty : VY yX10_isProperty := ⟨gt (inT3 (List.mem_of_getElem? (i := 106) rfl)) rfl, gt (inT3 (List.mem_of_getElem? (i := 107) rfl)) rfl⟩
theorem vy_X11_countOverruns : VY yX11_countOverruns := ⟨gt (inT5 (List.mem_of_getElem? (i := 233) rfl)) rfl, gt (inP2 (List.mem_of_getElem? (i := 12) rfl)) rfl⟩
theorem vy_X11_requireWindow : VY yX11_requireWindow := ⟨gt (inT5 (List.mem_of_getElem? (i := 50) rfl)) rfl, gt (inP2 (List.mem_of_getElem? (i := 11) rfl)) rfl⟩
theorem vy_X12_accepts : VY yX12_accepts := ⟨gt (inT8 (List.mem_of_getElem? (i := 29) rfl)) rfl, gt (inP6 (List.mem_of_getElem? (i := 3) rfl)) rfl⟩
theorem vy_X12_adds : VY yX12_adds := ⟨gt (inT6 (List.mem_of_getElem? (i := 183) rfl)) rfl, gt (inP3 (List.mem_of_getElem? (i := 6) rfl)) rfl⟩
theorem vy_X12_appendWord : VY yX12_appendWord := ⟨gt (inT6 (List.mem_of_getElem? (i := 36) rfl)) rfl, gt (inP2 (List.mem_of_getElem? (i := 14) rfl)) rfl⟩
theorem vy_X12_beginPass : VY yX12_beginPass := ⟨gt (inT6 (List.mem_of_getElem? (i := 195) rfl)) rfl, gt (inP3 (List.mem_of_getElem? (i := 9) rfl)) rfl⟩
theorem vy_X12_beginTrial : VY yX12_beginTrial := ⟨gt (inT7 (List.mem_of_getElem? (i := 130) rfl)) rfl, gt (inP4 (List.mem_of_getElem? (i := 12) rfl)) rfl⟩
theorem vy_X12_breakOff : VY yX12_breakOff := ⟨gt (inT6 (List.mem_of_getElem? (i := 202) rfl)) rfl, gt (inP3 (List.mem_of_getElem? (i := 10) rfl)) rfl⟩
theorem vy_X12_byteAt : VY yX12_byteAt := ⟨gt (inT7 (List.mem_of_getElem? (i := 186) rfl)) rfl, gt (inP5 (List.mem_of_getElem? (i := 1) rfl)) rfl⟩
theorem vy_X12_clearResult : VY yX12_clearResult := ⟨gt (inT6 (List.mem_of_getElem? (i := 206) rfl)) rfl, gt (inP3 (List.mem_of_getElem? (i := 11) rfl)) rfl⟩
theorem vy_X12_convert : VY yX12_convert := ⟨gt (inT6 (List.mem_of_getElem? (i := 218) rfl)) rfl, gt (inP3 (List.mem_of_getElem? (i := 14) rfl)) rfl⟩
theorem vy_X12_copyBlock : VY yX12_copyBlock := ⟨gt (inT7 (List.mem_of_getElem? (i := 134) rfl)) rfl, gt (inP4 (List.mem_of_getElem? (i := 13) rfl)) rfl⟩
theorem vy_X12_countChannel : VY yX12_countChannel := ⟨gt (inT6 (List.mem_of_getElem? (i := 230) rfl)) rfl, gt (inP4 (List.mem_of_getElem? (i := 1) rfl)) rfl⟩
theorem vy_X12_dropOldest : VY yX12_dropOldest := ⟨gt (inT7 (List.mem_of_getElem? (i := 5) rfl)) rfl, gt (inP4 (List.mem_of_getElem? (i := 4) rfl)) rfl⟩
theorem vy_X12_endPass : VY yX12_endPass := ⟨gt (inT7 (List.mem_of_getElem? (i := 13) rfl)) rfl, gt (inP4 (List.mem_of_getElem? (i := 6) rfl)) rfl⟩
theorem vy_X12_endTrial : VY yX12_endTrial := ⟨gt (inT7 (List.mem_of_getElem? (i := 138) rfl)) rfl, gt (inP4 (List.mem_of_getElem? (i := 14) rfl)) rfl⟩
theorem vy_X12_enqueue : VY yX12_enqueue := ⟨gt (inT7 (List.mem_of_getElem? (i := 1) rfl)) rfl, gt (inP4 (List.mem_of_getElem? (i := 3) rfl)) rfl⟩
theorem vy_X12_entries : VY yX12_entries := ⟨gt (inT6 (List.mem_of_getElem? (i := 187) rfl)) rfl, gt (inP3 (List.mem_of_getElem? (i := 7) rfl)) rfl⟩
theorem vy_X12_entryOf : VY yX12_entryOf := ⟨gt (inT6 (List.mem_of_getElem? (i := 214) rfl)) rfl, gt (inP3 (List.mem_of_getElem? (i := 13) rfl)) rfl⟩
theorem vy_X12_fail : VY yX12_fail := ⟨gt (inT7 (List.mem_of_getElem? (i := 219) rfl)) rfl, gt (inP5 (List.mem_of_getElem? (i := 8) rfl)) rfl⟩
theorem vy_X12_fails : VY yX12_fails := ⟨gt (inT6 (List.mem_of_getElem? (i := 31) rfl)) rfl, gt (inP2 (List.mem_of_getElem? (i := 13) rfl)) rfl⟩
theorem vy_X12_finishResult : VY yX12_finishResult := ⟨gt (inT6 (List.mem_of_getElem? (i := 226) rfl)) rfl, gt (inP4 (List.mem_of_getElem? (i := 0) rfl)) rfl⟩
theorem vy_X12_fireTimers : VY yX12_fireTimers := ⟨gt (inT6 (List.mem_of_getElem? (i := 172) rfl)) rfl, gt (inP3 (List.mem_of_getElem? (i := 4) rfl)) rfl⟩
theorem vy_X12_fires : VY yX12_fires := ⟨gt (inT6 (List.mem_of_getElem? (i := 176) rfl)) rfl, gt (inP3 (List.mem_of_getElem? (i := 5) rfl)) rfl⟩
theorem vy_X12_first : VY yX12_first := ⟨gt (inT6 (List.mem_of_getElem? (i := 81) rfl)) rfl, gt (inP3 (List.mem_of_getElem? (i := 0) rfl)) rfl⟩
theorem vy_X12_firstSettings : VY yX12_firstSettings := ⟨gt (inT6 (List.mem_of_getElem? (i := 77) rfl)) rfl, gt (inP2 (List.mem_of_getElem? (i := 15) rfl)) rfl⟩
theorem vy_X12_idle : VY yX12_idle := ⟨gt (inT7 (List.mem_of_getElem? (i := 17) rfl)) rfl, gt (inP4 (List.mem_of_getElem? (i := 7) rfl)) rfl⟩
theorem vy_X12_isChannel : VY yX12_isChannel := ⟨gt (inT7 (List.mem_of_getElem? (i := 53) rfl)) rfl, gt (inP4 (List.mem_of_getElem? (i := 11) rfl)) rfl⟩
theorem vy_X12_isDigit : VY yX12_isDigit := ⟨gt (inT7 (List.mem_of_getElem? (i := 200) rfl)) rfl, gt (inP5 (List.mem_of_getElem? (i := 4) rfl)) rfl⟩
theorem vy_X12_isKeyword : VY yX12_isKeyword := ⟨gt (inT8 (List.mem_of_getElem? (i := 33) rfl)) rfl, gt (inP6 (List.mem_of_getElem? (i := 4) rfl)) rfl⟩
theorem vy_X12_isLetter : VY yX12_isLetter := ⟨gt (inT7 (List.mem_of_getElem? (i := 190) rfl)) rfl, gt (inP5 (List.mem_of_getElem? (i := 2) rfl)) rfl⟩
theorem vy_X12_isSign : VY yX12_isSign := ⟨gt (inT8 (List.mem_of_getElem? (i := 13) rfl)) rfl, gt (inP5 (List.mem_of_getElem? (i := 15) rfl)) rfl⟩
theorem vy_X12_isThere : VY yX12_isThere := ⟨gt (inT7 (List.mem_of_getElem? (i := 234) rfl)) rfl, gt (inP5 (List.mem_of_getElem? (i := 11) rfl)) rfl⟩
theorem vy_X12_isTrigger : VY yX12_isTrigger := ⟨gt (inT7 (List.mem_of_getElem? (i := 29) rfl)) rfl, gt (inP4 (List.mem_of_getElem? (i := 9) rfl)) rfl⟩
theorem vy_X12_isWindow : VY yX12_isWindow := ⟨gt (inT7 (List.mem_of_getElem? (i := 45) rfl)) rfl, gt (inP4 (List.mem_of_getElem? (i := 10) rfl)) rfl⟩
theorem vy_X12_its : VY yX12_its := ⟨gt (inT6 (List.mem_of_getElem? (i := 164) rfl)) rfl, gt (inP3 (List.mem_of_getElem? (i := 2) rfl)) rfl⟩
theorem vy_X12_lookAt : VY yX12_lookAt := ⟨gt (inT6 (List.mem_of_getElem? (i := 234) rfl)) rfl, gt (inP4 (List.mem_of_getElem? (i := 2) rfl)) rfl⟩
theorem vy_X12_next : VY yX12_next := ⟨gt (inT7 (List.mem_of_getElem? (i := 182) rfl)) rfl, gt (inP5 (List.mem_of_getElem? (i := 0) rfl)) rfl⟩
theorem vy_X12_ok : VY yX12_ok := ⟨gt (inT7 (List.mem_of_getElem? (i := 208) rfl)) rfl, gt (inP5 (List.mem_of_getElem? (i := 6) rfl)) rfl⟩
theorem vy_X12_overrunsAt : VY yX12_overrunsAt := ⟨gt (inT7 (List.mem_of_getElem? (i := 150) rfl)) rfl, gt (inP4 (List.mem_of_getElem? (i := 15) rfl)) rfl⟩
theorem vy_X12_parseBehind : VY yX12_parseBehind := ⟨gt (inT7 (List.mem_of_getElem? (i := 226) rfl)) rfl, gt (inP5 (List.mem_of_getElem? (i := 9) rfl)) rfl⟩
theorem vy_X12_parseChannel : VY yX12_parseChannel := ⟨gt (inT7 (List.mem_of_getElem? (i := 230) rfl)) rfl, gt (inP5 (List.mem_of_getElem? (i := 10) rfl)) rfl⟩
theorem vy_X12_parseEntries : VY yX12_parseEntries := ⟨gt (inT8 (List.mem_of_getElem? (i := 17) rfl)) rfl, gt (inP6 (List.mem_of_getElem? (i := 0) rfl)) rfl⟩
theorem vy_X12_parseMask : VY yX12_parseMask := ⟨gt (inT8 (List.mem_of_getElem? (i := 41) rfl)) rfl, gt (inP6 (List.mem_of_getElem? (i := 6) rfl)) rfl⟩
theorem vy_X12_parseOver : VY yX12_parseOver := ⟨gt (inT8 (List.mem_of_getElem? (i := 21) rfl)) rfl, gt (inP6 (List.mem_of_getElem? (i := 1) rfl)) rfl⟩
theorem vy_X12_parseStatement : VY yX12_parseStatement := ⟨gt (inT7 (List.mem_of_getElem? (i := 212) rfl)) rfl, gt (inP5 (List.mem_of_getElem? (i := 7) rfl)) rfl⟩
theorem vy_X12_parseTrigger : VY yX12_parseTrigger := ⟨gt (inT8 (List.mem_of_getElem? (i := 45) rfl)) rfl, gt (inP6 (List.mem_of_getElem? (i := 7) rfl)) rfl⟩
theorem vy_X12_parseWindow : VY yX12_parseWindow := ⟨gt (inT8 (List.mem_of_getElem? (i := 37) rfl)) rfl, gt (inP6 (List.mem_of_getElem? (i := 5) rfl)) rfl⟩
theorem vy_X12_passCycle : VY yX12_passCycle := ⟨gt (inT6 (List.mem_of_getElem? (i := 168) rfl)) rfl, gt (inP3 (List.mem_of_getElem? (i := 3) rfl)) rfl⟩
theorem vy_X12_putRow : VY yX12_putRow := ⟨gt (inT7 (List.mem_of_getElem? (i := 9) rfl)) rfl, gt (inP4 (List.mem_of_getElem? (i := 5) rfl)) rfl⟩
theorem vy_X12_puts : VY yX12_puts := ⟨gt (inT6 (List.mem_of_getElem? (i := 85) rfl)) rfl, gt (inP3 (List.mem_of_getElem? (i := 1) rfl)) rfl⟩
theorem vy_X12_readNumber : VY yX12_readNumber := ⟨gt (inT8 (List.mem_of_getElem? (i := 2) rfl)) rfl, gt (inP5 (List.mem_of_getElem? (i := 13) rfl)) rfl⟩
theorem vy_X12_readOnce : VY yX12_readOnce := ⟨gt (inT7 (List.mem_of_getElem? (i := 238) rfl)) rfl, gt (inP5 (List.mem_of_getElem? (i := 12) rfl)) rfl⟩
theorem vy_X12_readSigned : VY yX12_readSigned := ⟨gt (inT8 (List.mem_of_getElem? (i := 9) rfl)) rfl, gt (inP5 (List.mem_of_getElem? (i := 14) rfl)) rfl⟩
theorem vy_X12_require : VY yX12_require := ⟨gt (inT8 (List.mem_of_getElem? (i := 25) rfl)) rfl, gt (inP6 (List.mem_of_getElem? (i := 2) rfl)) rfl⟩
theorem vy_X12_scanNumber : VY yX12_scanNumber := ⟨gt (inT7 (List.mem_of_getElem? (i := 204) rfl)) rfl, gt (inP5 (List.mem_of_getElem? (i := 5) rfl)) rfl⟩
theorem vy_X12_scanWord : VY yX12_scanWord := ⟨gt (inT7 (List.mem_of_getElem? (i := 194) rfl)) rfl, gt (inP5 (List.mem_of_getElem? (i := 3) rfl)) rfl⟩
theorem vy_X12_signalOf : VY yX12_signalOf := ⟨gt (inT6 (List.mem_of_getElem? (i := 222) rfl)) rfl, gt (inP3 (List.mem_of_getElem? (i := 15) rfl)) rfl⟩
theorem vy_X12_startConversion : VY yX12_startConversion := ⟨gt (inT6 (List.mem_of_getElem? (i := 210) rfl)) rfl, gt (inP3 (List.mem_of_getElem? (i := 12) rfl)) rfl⟩
theorem vy_X12_startSequence : VY yX12_startSequence := ⟨gt (inT6 (List.mem_of_getElem? (i := 191) rfl)) rfl, gt (inP3 (List.mem_of_getElem? (i := 8) rfl)) rfl⟩
theorem vy_X12_transfer : VY yX12_transfer := ⟨gt (inT7 (List.mem_of_getElem? (i := 21) rfl)) rfl, gt (inP4 (List.mem_of_getElem? (i := 8) rfl)) rfl⟩
theorem vy_X2_copyFrom : VY yX2_copyFrom := ⟨gt (inT3 (List.mem_of_getElem? (i := 47) rfl)) rfl, gt (inT3 (List.mem_of_getElem? (i := 48) rfl)) rfl⟩
theorem vy_X3_advanceConversion : VY yX3_advanceConversion := ⟨gt (inT4 (List.mem_of_getElem? (i := 176) rfl)) rfl, gt (inP2 (List.mem_of_getElem? (i := 7) rfl)) rfl⟩
theorem vy_X3_breakOffRegular : VY yX3_breakOffRegular := ⟨gt (inT3 (List.mem_of_getElem? (i := 231) rfl)) rfl, gt (inP2 (List.mem_of_getElem? (i := 3) rfl)) rfl⟩
theorem vy_X3_copyFrom : VY yX3_copyFrom := ⟨gt (inT3 (List.mem_of_getElem? (i := 24) rfl)) rfl, gt (inT3 (List.mem_of_getElem? (i := 25) rfl)) rfl⟩
theorem vy_X3_endPass : VY yX3_endPass := ⟨gt (inT4 (List.mem_of_getElem? (i := 209) rfl)) rfl, gt (inP2 (List.mem_of_getElem? (i := 9) rfl)) rfl⟩
theorem vy_X3_finishResult : VY yX3_finishResult := ⟨gt (inT4 (List.mem_of_getElem? (i := 184) rfl)) rfl, gt (inP2 (List.mem_of_getElem? (i := 8) rfl)) rfl⟩
theorem vy_X3_fireTrigger : VY yX3_fireTrigger := ⟨gt (inT4 (List.mem_of_getElem? (i := 145) rfl)) rfl, gt (inT4 (List.mem_of_getElem? (i := 146) rfl)) rfl⟩
theorem vy_X3_passCycle : VY yX3_passCycle := ⟨gt (inT4 (List.mem_of_getElem? (i := 137) rfl)) rfl, gt (inT4 (List.mem_of_getElem? (i := 138) rfl)) rfl⟩
theorem vy_X3_resultCount : VY yX3_resultCount := ⟨gt (inT4 (List.mem_of_getElem? (i := 133) rfl)) rfl, gt (inT4 (List.mem_of_getElem? (i := 134) rfl)) rfl⟩
theorem vy_X3_sequenceOf : VY yX3_sequenceOf := ⟨gt (inT4 (List.mem_of_getElem? (i := 10) rfl)) rfl, gt (inT4 (List.mem_of_getElem? (i := 11) rfl)) rfl⟩
theorem vy_X3_startConversion : VY yX3_startConversion := ⟨gt (inT4 (List.mem_of_getElem? (i := 167) rfl)) rfl, gt (inP2 (List.mem_of_getElem? (i := 6) rfl)) rfl⟩
theorem vy_X3_startSequence : VY yX3_startSequence := ⟨gt (inT4 (List.mem_of_getElem? (i := 155) rfl)) rfl, gt (inP2 (List.mem_of_getElem? (i := 5) rfl)) rfl⟩
theorem vy_X3_stopRegular : VY yX3_stopRegular := ⟨gt (inT3 (List.mem_of_getElem? (i := 226) rfl)) rfl, gt (inT3 (List.mem_of_getElem? (i := 227) rfl)) rfl⟩
theorem vy_X3_transferOldest : VY yX3_transferOldest := ⟨gt (inT4 (List.mem_of_getElem? (i := 214) rfl)) rfl, gt (inP2 (List.mem_of_getElem? (i := 10) rfl)) rfl⟩
theorem vy_X4_fail : VY yX4_fail := ⟨gt (inT3 (List.mem_of_getElem? (i := 99) rfl)) rfl, gt (inP1 (List.mem_of_getElem? (i := 4) rfl)) rfl⟩
theorem vy_X4_parse : VY yX4_parse := ⟨gt (inT3 (List.mem_of_getElem? (i := 20) rfl)) rfl, gt (inT3 (List.mem_of_getElem? (i := 21) rfl)) rfl⟩
theorem vy_X4_readChannel : VY yX4_readChannel := ⟨gt (inT3 (List.mem_of_getElem? (i := 88) rfl)) rfl, gt (inP1 (List.mem_of_getElem? (i := 2) rfl)) rfl⟩
theorem vy_X4_readEntries : VY yX4_readEntries := ⟨gt (inT3 (List.mem_of_getElem? (i := 176) rfl)) rfl, gt (inP1 (List.mem_of_getElem? (i := 13) rfl)) rfl⟩
theorem vy_X4_readGroup : VY yX4_readGroup := ⟨gt (inT3 (List.mem_of_getElem? (i := 180) rfl)) rfl, gt (inP1 (List.mem_of_getElem? (i := 14) rfl)) rfl⟩
theorem vy_X4_readOver : VY yX4_readOver := ⟨gt (inT3 (List.mem_of_getElem? (i := 186) rfl)) rfl, gt (inP1 (List.mem_of_getElem? (i := 15) rfl)) rfl⟩
theorem vy_X4_readPace : VY yX4_readPace := ⟨gt (inT3 (List.mem_of_getElem? (i := 204) rfl)) rfl, gt (inP2 (List.mem_of_getElem? (i := 1) rfl)) rfl⟩
theorem vy_X4_readQueue : VY yX4_readQueue := ⟨gt (inT3 (List.mem_of_getElem? (i := 196) rfl)) rfl, gt (inP2 (List.mem_of_getElem? (i := 0) rfl)) rfl⟩
theorem vy_X4_readStatement : VY yX4_readStatement := ⟨gt (inT3 (List.mem_of_getElem? (i := 76) rfl)) rfl, gt (inP1 (List.mem_of_getElem? (i := 1) rfl)) rfl⟩
theorem vy_X4_readTrigger : VY yX4_readTrigger := ⟨gt (inT3 (List.mem_of_getElem? (i := 154) rfl)) rfl, gt (inP1 (List.mem_of_getElem? (i := 10) rfl)) rfl⟩
theorem vy_X4_readWindow : VY yX4_readWindow := ⟨gt (inT3 (List.mem_of_getElem? (i := 128) rfl)) rfl, gt (inP1 (List.mem_of_getElem? (i := 6) rfl)) rfl⟩
theorem vy_X4_readWindowChannels : VY yX4_readWindowChannels := ⟨gt (inT3 (List.mem_of_getElem? (i := 150) rfl)) rfl, gt (inP1 (List.mem_of_getElem? (i := 9) rfl)) rfl⟩
theorem vy_X4_skipSign : VY yX4_skipSign := ⟨gt (inT3 (List.mem_of_getElem? (i := 121) rfl)) rfl, gt (inP1 (List.mem_of_getElem? (i := 5) rfl)) rfl⟩
theorem vy_X4_skipWord : VY yX4_skipWord := ⟨gt (inT3 (List.mem_of_getElem? (i := 162) rfl)) rfl, gt (inP1 (List.mem_of_getElem? (i := 11) rfl)) rfl⟩
theorem vy_X4_takeFirstWord : VY yX4_takeFirstWord := ⟨gt (inT3 (List.mem_of_getElem? (i := 172) rfl)) rfl, gt (inP1 (List.mem_of_getElem? (i := 12) rfl)) rfl⟩
theorem vy_X4_takeHighBound : VY yX4_takeHighBound := ⟨gt (inT3 (List.mem_of_getElem? (i := 142) rfl)) rfl, gt (inP1 (List.mem_of_getElem? (i := 8) rfl)) rfl⟩
theorem vy_X4_takeNumber : VY yX4_takeNumber := ⟨gt (inT3 (List.mem_of_getElem? (i := 95) rfl)) rfl, gt (inP1 (List.mem_of_getElem? (i := 3) rfl)) rfl⟩
theorem vy_X4_takeSign : VY yX4_takeSign := ⟨gt (inT3 (List.mem_of_getElem? (i := 210) rfl)) rfl, gt (inP2 (List.mem_of_getElem? (i := 2) rfl)) rfl⟩
theorem vy_X4_takeWord : VY yX4_takeWord := ⟨gt (inT3 (List.mem_of_getElem? (i := 136) rfl)) rfl, gt (inP1 (List.mem_of_getElem? (i := 7) rfl)) rfl⟩
theorem vy_X5_add : VY yX5_add := ⟨gt (inT4 (List.mem_of_getElem? (i := 199) rfl)) rfl, gt (inT4 (List.mem_of_getElem? (i := 200) rfl)) rfl⟩
theorem vy_X5_copyFrom : VY yX5_copyFrom := ⟨gt (inT3 (List.mem_of_getElem? (i := 51) rfl)) rfl, gt (inT3 (List.mem_of_getElem? (i := 52) rfl)) rfl⟩
theorem vy_X5_number : VY yX5_number := ⟨gt (inT4 (List.mem_of_getElem? (i := 221) rfl)) rfl, gt (inT4 (List.mem_of_getElem? (i := 222) rfl)) rfl⟩
theorem vy_X5_oldestNumber : VY yX5_oldestNumber := ⟨gt (inT4 (List.mem_of_getElem? (i := 217) rfl)) rfl, gt (inT4 (List.mem_of_getElem? (i := 218) rfl)) rfl⟩
theorem vy_X5_put : VY yX5_put := ⟨gt (inT4 (List.mem_of_getElem? (i := 195) rfl)) rfl, gt (inT4 (List.mem_of_getElem? (i := 196) rfl)) rfl⟩
theorem vy_X5_removeOldest : VY yX5_removeOldest := ⟨gt (inT4 (List.mem_of_getElem? (i := 203) rfl)) rfl, gt (inT4 (List.mem_of_getElem? (i := 204) rfl)) rfl⟩
theorem vy_X6_becomeBusy : VY yX6_becomeBusy := ⟨gt (inT4 (List.mem_of_getElem? (i := 158) rfl)) rfl, gt (inT4 (List.mem_of_getElem? (i := 159) rfl)) rfl⟩
theorem vy_X6_becomeIdle : VY yX6_becomeIdle := ⟨gt (inT3 (List.mem_of_getElem? (i := 238) rfl)) rfl, gt (inT3 (List.mem_of_getElem? (i := 239) rfl)) rfl⟩
theorem vy_X6_beginPass : VY yX6_beginPass := ⟨gt (inT4 (List.mem_of_getElem? (i := 162) rfl)) rfl, gt (inT4 (List.mem_of_getElem? (i := 163) rfl)) rfl⟩
theorem vy_X6_copyFrom : VY yX6_copyFrom := ⟨gt (inT3 (List.mem_of_getElem? (i := 40) rfl)) rfl, gt (inT3 (List.mem_of_getElem? (i := 41) rfl)) rfl⟩
theorem vy_X6_forgetConversions : VY yX6_forgetConversions := ⟨gt (inT3 (List.mem_of_getElem? (i := 234) rfl)) rfl, gt (inT3 (List.mem_of_getElem? (i := 235) rfl)) rfl⟩
theorem vy_X6_isReady : VY yX6_isReady := ⟨gt (inT4 (List.mem_of_getElem? (i := 150) rfl)) rfl, gt (inT4 (List.mem_of_getElem? (i := 151) rfl)) rfl⟩
theorem vy_X6_nextChannel : VY yX6_nextChannel := ⟨gt (inT4 (List.mem_of_getElem? (i := 170) rfl)) rfl, gt (inT4 (List.mem_of_getElem? (i := 171) rfl)) rfl⟩
theorem vy_X7_addBytes : VY yX7_addBytes := ⟨gt (inT4 (List.mem_of_getElem? (i := 94) rfl)) rfl, gt (inT4 (List.mem_of_getElem? (i := 95) rfl)) rfl⟩
theorem vy_X7_begin : VY yX7_begin := ⟨gt (inT3 (List.mem_of_getElem? (i := 56) rfl)) rfl, gt (inT3 (List.mem_of_getElem? (i := 57) rfl)) rfl⟩
theorem vy_X7_next : VY yX7_next := ⟨gt (inT3 (List.mem_of_getElem? (i := 60) rfl)) rfl, gt (inT3 (List.mem_of_getElem? (i := 61) rfl)) rfl⟩
theorem vy_X7_readRun : VY yX7_readRun := ⟨gt (inT3 (List.mem_of_getElem? (i := 65) rfl)) rfl, gt (inP1 (List.mem_of_getElem? (i := 0) rfl)) rfl⟩
theorem vy_X8_copyFrom : VY yX8_copyFrom := ⟨gt (inT3 (List.mem_of_getElem? (i := 32) rfl)) rfl, gt (inT3 (List.mem_of_getElem? (i := 33) rfl)) rfl⟩
theorem vy_X8_isDue : VY yX8_isDue := ⟨gt (inT4 (List.mem_of_getElem? (i := 141) rfl)) rfl, gt (inT4 (List.mem_of_getElem? (i := 142) rfl)) rfl⟩
theorem vy_X9_calmDown : VY yX9_calmDown := ⟨gt (inT5 (List.mem_of_getElem? (i := 55) rfl)) rfl, gt (inT5 (List.mem_of_getElem? (i := 56) rfl)) rfl⟩
theorem vy_X9_copyFrom : VY yX9_copyFrom := ⟨gt (inT3 (List.mem_of_getElem? (i := 36) rfl)) rfl, gt (inT3 (List.mem_of_getElem? (i := 37) rfl)) rfl⟩
theorem vy_X9_look : VY yX9_look := ⟨gt (inT4 (List.mem_of_getElem? (i := 187) rfl)) rfl, gt (inT4 (List.mem_of_getElem? (i := 188) rfl)) rfl⟩
theorem sy_X10_of : Cond.static yX10_of ∈ gtb := gt (inT3 (List.mem_of_getElem? (i := 69) rfl)) rfl
theorem sy_X11_numberOf : Cond.static yX11_numberOf ∈ gtb := gt (inT5 (List.mem_of_getElem? (i := 183) rfl)) rfl
theorem sy_X11_requireChannel : Cond.static yX11_requireChannel ∈ gtb := gt (inT5 (List.mem_of_getElem? (i := 66) rfl)) rfl
theorem sy_X11_requireCycles : Cond.static yX11_requireCycles ∈ gtb := gt (inT4 (List.mem_of_getElem? (i := 129) rfl)) rfl
theorem sy_X11_requirePace : Cond.static yX11_requirePace ∈ gtb := gt (inT5 (List.mem_of_getElem? (i := 101) rfl)) rfl
theorem sy_X11_requireSlot : Cond.static yX11_requireSlot ∈ gtb := gt (inT6 (List.mem_of_getElem? (i := 10) rfl)) rfl
theorem sy_X11_requireTrigger : Cond.static yX11_requireTrigger ∈ gtb := gt (inT4 (List.mem_of_getElem? (i := 234) rfl)) rfl
theorem sy_X11_requireWhat : Cond.static yX11_requireWhat ∈ gtb := gt (inT5 (List.mem_of_getElem? (i := 113) rfl)) rfl
theorem sy_X12_chan : Cond.static yX12_chan ∈ gtb := gt (inT6 (List.mem_of_getElem? (i := 91) rfl)) rfl
theorem sy_X12_drafts : Cond.static yX12_drafts ∈ gtb := gt (inT8 (List.mem_of_getElem? (i := 5) rfl)) rfl
theorem sy_X12_inRange : Cond.static yX12_inRange ∈ gtb := gt (inT6 (List.mem_of_getElem? (i := 43) rfl)) rfl
theorem sy_X12_isManyTimes : Cond.static yX12_isManyTimes ∈ gtb := gt (inT7 (List.mem_of_getElem? (i := 222) rfl)) rfl
theorem sy_X12_isStatement : Cond.static yX12_isStatement ∈ gtb := gt (inT7 (List.mem_of_getElem? (i := 215) rfl)) rfl
theorem sy_X12_lesser : Cond.static yX12_lesser ∈ gtb := gt (inT6 (List.mem_of_getElem? (i := 198) rfl)) rfl
theorem sy_X12_seq : Cond.static yX12_seq ∈ gtb := gt (inT6 (List.mem_of_getElem? (i := 88) rfl)) rfl
theorem sy_X12_trig : Cond.static yX12_trig ∈ gtb := gt (inT6 (List.mem_of_getElem? (i := 179) rfl)) rfl
theorem sy_X12_win : Cond.static yX12_win ∈ gtb := gt (inT6 (List.mem_of_getElem? (i := 237) rfl)) rfl
theorem sy_X4_setProperty : Cond.static yX4_setProperty ∈ gtb := gt (inT3 (List.mem_of_getElem? (i := 124) rfl)) rfl
theorem k_X11_180 : Cond.constant RX11 180 65535 ∈ gtb := gt (inT5 (List.mem_of_getElem? (i := 91) rfl)) rfl
theorem k_X12_247 : Cond.constant RX12 247 65535 ∈ gtb := gt (inT7 (List.mem_of_getElem? (i := 63) rfl)) rfl
theorem k_X12_266 : Cond.constantLong RX12 266 32 ∈ gtb := gt (inT7 (List.mem_of_getElem? (i := 196) rfl)) rfl
theorem k_X12_268 : Cond.constantLong RX12 268 96 ∈ gtb := gt (inT7 (List.mem_of_getElem? (i := 197) rfl)) rfl
theorem k_X7_55 : Cond.constantLong RX7 55 32 ∈ gtb := gt (inT3 (List.mem_of_getElem? (i := 67) rfl)) rfl
