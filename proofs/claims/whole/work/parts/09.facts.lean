/-! ===== FACTS of the tables, by their places (written by a program) ===== -/
theorem fl_X1_9 : FL RX1 9 0 0 "I" := ⟨(RX1, TX1, 9), rfl, by decide, gt (List.mem_of_getElem? (i := 282) (by decide +kernel)) (by decide +kernel), rfl⟩
theorem fl_X1_15 : FL RX1 15 0 4 "I" := ⟨(RX1, TX1, 9), rfl, by decide, gt (List.mem_of_getElem? (i := 295) (by decide +kernel)) (by decide +kernel), rfl⟩
theorem fl_X1_18 : FL RX1 18 0 6 "I" := ⟨(RX1, TX1, 9), rfl, by decide, gt (List.mem_of_getElem? (i := 300) (by decide +kernel)) (by decide +kernel), rfl⟩
theorem fl_X1_21 : FL RX1 21 0 7 "I" := ⟨(RX1, TX1, 9), rfl, by decide, gt (List.mem_of_getElem? (i := 302) (by decide +kernel)) (by decide +kernel), rfl⟩
theorem fl_X1_24 : FL RX1 24 0 1 "I" := ⟨(RX1, TX1, 9), rfl, by decide, gt (List.mem_of_getElem? (i := 285) (by decide +kernel)) (by decide +kernel), rfl⟩
theorem fl_X1_27 : FL RX1 27 0 2 "I" := ⟨(RX1, TX1, 9), rfl, by decide, gt (List.mem_of_getElem? (i := 289) (by decide +kernel)) (by decide +kernel), rfl⟩
theorem fl_X1_30 : FL RX1 30 0 3 "I" := ⟨(RX1, TX1, 9), rfl, by decide, gt (List.mem_of_getElem? (i := 292) (by decide +kernel)) (by decide +kernel), rfl⟩
theorem fl_X1_33 : FL RX1 33 0 5 "I" := ⟨(RX1, TX1, 9), rfl, by decide, gt (List.mem_of_getElem? (i := 298) (by decide +kernel)) (by decide +kernel), rfl⟩
theorem fl_X1_36 : FL RX1 36 0 8 "J" := ⟨(RX1, TX1, 9), rfl, by decide, gt (List.mem_of_getElem? (i := 304) (by decide +kernel)) (by decide +kernel), rfl⟩
theorem fl_X2_9 : FL RX2 9 1 0 "I" := ⟨(RX2, TX2, 6), rfl, by decide, gt (List.mem_of_getElem? (i := 210) (by decide +kernel)) (by decide +kernel), rfl⟩
theorem fl_X2_15 : FL RX2 15 1 1 "I" := ⟨(RX2, TX2, 6), rfl, by decide, gt (List.mem_of_getElem? (i := 213) (by decide +kernel)) (by decide +kernel), rfl⟩
theorem fl_X2_18 : FL RX2 18 1 2 "I" := ⟨(RX2, TX2, 6), rfl, by decide, gt (List.mem_of_getElem? (i := 216) (by decide +kernel)) (by decide +kernel), rfl⟩
theorem fl_X2_21 : FL RX2 21 1 3 "I" := ⟨(RX2, TX2, 6), rfl, by decide, gt (List.mem_of_getElem? (i := 219) (by decide +kernel)) (by decide +kernel), rfl⟩
theorem fl_X2_24 : FL RX2 24 1 4 "I" := ⟨(RX2, TX2, 6), rfl, by decide, gt (List.mem_of_getElem? (i := 221) (by decide +kernel)) (by decide +kernel), rfl⟩
theorem fl_X2_27 : FL RX2 27 1 5 "I" := ⟨(RX2, TX2, 6), rfl, by decide, gt (List.mem_of_getElem? (i := 224) (by decide +kernel)) (by decide +kernel), rfl⟩
theorem fl_X5_9 : FL RX5 9 4 0 "[I" := ⟨(RX5, TX5, 7), rfl, by decide, gt (List.mem_of_getElem? (i := 246) (by decide +kernel)) (by decide +kernel), rfl⟩
theorem fl_X5_15 : FL RX5 15 4 1 "I" := ⟨(RX5, TX5, 7), rfl, by decide, gt (List.mem_of_getElem? (i := 247) (by decide +kernel)) (by decide +kernel), rfl⟩
theorem fl_X5_19 : FL RX5 19 4 2 "I" := ⟨(RX5, TX5, 7), rfl, by decide, gt (List.mem_of_getElem? (i := 248) (by decide +kernel)) (by decide +kernel), rfl⟩
theorem fl_X5_28 : FL RX5 28 4 3 "Z" := ⟨(RX5, TX5, 7), rfl, by decide, gt (List.mem_of_getElem? (i := 253) (by decide +kernel)) (by decide +kernel), rfl⟩
theorem fl_X5_32 : FL RX5 32 4 4 "I" := ⟨(RX5, TX5, 7), rfl, by decide, gt (List.mem_of_getElem? (i := 255) (by decide +kernel)) (by decide +kernel), rfl⟩
theorem fl_X5_35 : FL RX5 35 4 5 "I" := ⟨(RX5, TX5, 7), rfl, by decide, gt (List.mem_of_getElem? (i := 257) (by decide +kernel)) (by decide +kernel), rfl⟩
theorem fl_X5_38 : FL RX5 38 4 6 "I" := ⟨(RX5, TX5, 7), rfl, by decide, gt (List.mem_of_getElem? (i := 260) (by decide +kernel)) (by decide +kernel), rfl⟩
theorem fl_X6_18 : FL RX6 18 5 0 "[I" := ⟨(RX6, TX6, 13), rfl, by decide, gt (List.mem_of_getElem? (i := 134) (by decide +kernel)) (by decide +kernel), rfl⟩
theorem fl_X6_28 : FL RX6 28 5 1 "I" := ⟨(RX6, TX6, 13), rfl, by decide, gt (List.mem_of_getElem? (i := 137) (by decide +kernel)) (by decide +kernel), rfl⟩
theorem fl_X6_31 : FL RX6 31 5 2 "I" := ⟨(RX6, TX6, 13), rfl, by decide, gt (List.mem_of_getElem? (i := 141) (by decide +kernel)) (by decide +kernel), rfl⟩
theorem fl_X6_34 : FL RX6 34 5 3 "Z" := ⟨(RX6, TX6, 13), rfl, by decide, gt (List.mem_of_getElem? (i := 143) (by decide +kernel)) (by decide +kernel), rfl⟩
theorem fl_X6_38 : FL RX6 38 5 4 "I" := ⟨(RX6, TX6, 13), rfl, by decide, gt (List.mem_of_getElem? (i := 146) (by decide +kernel)) (by decide +kernel), rfl⟩
theorem fl_X8_9 : FL RX8 9 7 0 "I" := ⟨(RX8, TX8, 5), rfl, by decide, gt (List.mem_of_getElem? (i := 330) (by decide +kernel)) (by decide +kernel), rfl⟩
theorem fl_X8_15 : FL RX8 15 7 1 "I" := ⟨(RX8, TX8, 5), rfl, by decide, gt (List.mem_of_getElem? (i := 334) (by decide +kernel)) (by decide +kernel), rfl⟩
theorem fl_X8_18 : FL RX8 18 7 2 "I" := ⟨(RX8, TX8, 5), rfl, by decide, gt (List.mem_of_getElem? (i := 337) (by decide +kernel)) (by decide +kernel), rfl⟩
theorem fl_X8_21 : FL RX8 21 7 3 "I" := ⟨(RX8, TX8, 5), rfl, by decide, gt (List.mem_of_getElem? (i := 340) (by decide +kernel)) (by decide +kernel), rfl⟩
theorem fl_X8_24 : FL RX8 24 7 4 "I" := ⟨(RX8, TX8, 5), rfl, by decide, gt (List.mem_of_getElem? (i := 343) (by decide +kernel)) (by decide +kernel), rfl⟩
theorem fl_X9_9 : FL RX9 9 8 7 "I" := ⟨(RX9, TX9, 10), rfl, by decide, gt (List.mem_of_getElem? (i := 381) (by decide +kernel)) (by decide +kernel), rfl⟩
theorem fl_X9_15 : FL RX9 15 8 8 "I" := ⟨(RX9, TX9, 10), rfl, by decide, gt (List.mem_of_getElem? (i := 383) (by decide +kernel)) (by decide +kernel), rfl⟩
theorem fl_X9_18 : FL RX9 18 8 9 "I" := ⟨(RX9, TX9, 10), rfl, by decide, gt (List.mem_of_getElem? (i := 385) (by decide +kernel)) (by decide +kernel), rfl⟩
theorem fl_X9_21 : FL RX9 21 8 0 "Z" := ⟨(RX9, TX9, 10), rfl, by decide, gt (List.mem_of_getElem? (i := 362) (by decide +kernel)) (by decide +kernel), rfl⟩
theorem fl_X9_25 : FL RX9 25 8 1 "I" := ⟨(RX9, TX9, 10), rfl, by decide, gt (List.mem_of_getElem? (i := 365) (by decide +kernel)) (by decide +kernel), rfl⟩
theorem fl_X9_28 : FL RX9 28 8 2 "I" := ⟨(RX9, TX9, 10), rfl, by decide, gt (List.mem_of_getElem? (i := 368) (by decide +kernel)) (by decide +kernel), rfl⟩
theorem fl_X9_31 : FL RX9 31 8 3 "I" := ⟨(RX9, TX9, 10), rfl, by decide, gt (List.mem_of_getElem? (i := 371) (by decide +kernel)) (by decide +kernel), rfl⟩
theorem fl_X9_34 : FL RX9 34 8 4 "I" := ⟨(RX9, TX9, 10), rfl, by decide, gt (List.mem_of_getElem? (i := 374) (by decide +kernel)) (by decide +kernel), rfl⟩
theorem fl_X9_37 : FL RX9 37 8 5 "I" := ⟨(RX9, TX9, 10), rfl, by decide, gt (List.mem_of_getElem? (i := 377) (by decide +kernel)) (by decide +kernel), rfl⟩
theorem fl_X9_40 : FL RX9 40 8 6 "Z" := ⟨(RX9, TX9, 10), rfl, by decide, gt (List.mem_of_getElem? (i := 379) (by decide +kernel)) (by decide +kernel), rfl⟩
theorem fp_X1_9 : FP RX1 9 0 0 "I" := ⟨(RX1, TX1, 9), rfl, by decide, gt (List.mem_of_getElem? (i := 282) (by decide +kernel)) (by decide +kernel), rfl, rfl⟩
theorem fp_X1_15 : FP RX1 15 0 4 "I" := ⟨(RX1, TX1, 9), rfl, by decide, gt (List.mem_of_getElem? (i := 295) (by decide +kernel)) (by decide +kernel), rfl, rfl⟩
theorem fp_X1_18 : FP RX1 18 0 6 "I" := ⟨(RX1, TX1, 9), rfl, by decide, gt (List.mem_of_getElem? (i := 300) (by decide +kernel)) (by decide +kernel), rfl, rfl⟩
theorem fp_X1_21 : FP RX1 21 0 7 "I" := ⟨(RX1, TX1, 9), rfl, by decide, gt (List.mem_of_getElem? (i := 302) (by decide +kernel)) (by decide +kernel), rfl, rfl⟩
theorem fp_X1_24 : FP RX1 24 0 1 "I" := ⟨(RX1, TX1, 9), rfl, by decide, gt (List.mem_of_getElem? (i := 285) (by decide +kernel)) (by decide +kernel), rfl, rfl⟩
theorem fp_X1_27 : FP RX1 27 0 2 "I" := ⟨(RX1, TX1, 9), rfl, by decide, gt (List.mem_of_getElem? (i := 289) (by decide +kernel)) (by decide +kernel), rfl, rfl⟩
theorem fp_X1_30 : FP RX1 30 0 3 "I" := ⟨(RX1, TX1, 9), rfl, by decide, gt (List.mem_of_getElem? (i := 292) (by decide +kernel)) (by decide +kernel), rfl, rfl⟩
theorem fp_X1_33 : FP RX1 33 0 5 "I" := ⟨(RX1, TX1, 9), rfl, by decide, gt (List.mem_of_getElem? (i := 298) (by decide +kernel)) (by decide +kernel), rfl, rfl⟩
theorem fp_X1_36 : FP RX1 36 0 8 "J" := ⟨(RX1, TX1, 9), rfl, by decide, gt (List.mem_of_getElem? (i := 304) (by decide +kernel)) (by decide +kernel), rfl, rfl⟩
theorem fp_X2_9 : FP RX2 9 1 0 "I" := ⟨(RX2, TX2, 6), rfl, by decide, gt (List.mem_of_getElem? (i := 210) (by decide +kernel)) (by decide +kernel), rfl, rfl⟩
theorem fp_X2_15 : FP RX2 15 1 1 "I" := ⟨(RX2, TX2, 6), rfl, by decide, gt (List.mem_of_getElem? (i := 213) (by decide +kernel)) (by decide +kernel), rfl, rfl⟩
theorem fp_X2_18 : FP RX2 18 1 2 "I" := ⟨(RX2, TX2, 6), rfl, by decide, gt (List.mem_of_getElem? (i := 216) (by decide +kernel)) (by decide +kernel), rfl, rfl⟩
theorem fp_X2_21 : FP RX2 21 1 3 "I" := ⟨(RX2, TX2, 6), rfl, by decide, gt (List.mem_of_getElem? (i := 219) (by decide +kernel)) (by decide +kernel), rfl, rfl⟩
theorem fp_X2_24 : FP RX2 24 1 4 "I" := ⟨(RX2, TX2, 6), rfl, by decide, gt (List.mem_of_getElem? (i := 221) (by decide +kernel)) (by decide +kernel), rfl, rfl⟩
theorem fp_X2_27 : FP RX2 27 1 5 "I" := ⟨(RX2, TX2, 6), rfl, by decide, gt (List.mem_of_getElem? (i := 224) (by decide +kernel)) (by decide +kernel), rfl, rfl⟩
theorem fp_X5_32 : FP RX5 32 4 4 "I" := ⟨(RX5, TX5, 7), rfl, by decide, gt (List.mem_of_getElem? (i := 255) (by decide +kernel)) (by decide +kernel), rfl, rfl⟩
theorem fp_X5_35 : FP RX5 35 4 5 "I" := ⟨(RX5, TX5, 7), rfl, by decide, gt (List.mem_of_getElem? (i := 257) (by decide +kernel)) (by decide +kernel), rfl, rfl⟩
theorem fp_X5_38 : FP RX5 38 4 6 "I" := ⟨(RX5, TX5, 7), rfl, by decide, gt (List.mem_of_getElem? (i := 260) (by decide +kernel)) (by decide +kernel), rfl, rfl⟩
theorem fp_X6_9 : FP RX6 9 5 6 "I" := ⟨(RX6, TX6, 13), rfl, by decide, gt (List.mem_of_getElem? (i := 151) (by decide +kernel)) (by decide +kernel), rfl, rfl⟩
theorem fp_X6_15 : FP RX6 15 5 7 "I" := ⟨(RX6, TX6, 13), rfl, by decide, gt (List.mem_of_getElem? (i := 154) (by decide +kernel)) (by decide +kernel), rfl, rfl⟩
theorem fp_X6_34 : FP RX6 34 5 3 "Z" := ⟨(RX6, TX6, 13), rfl, by decide, gt (List.mem_of_getElem? (i := 143) (by decide +kernel)) (by decide +kernel), rfl, rfl⟩
theorem fp_X6_41 : FP RX6 41 5 5 "I" := ⟨(RX6, TX6, 13), rfl, by decide, gt (List.mem_of_getElem? (i := 149) (by decide +kernel)) (by decide +kernel), rfl, rfl⟩
theorem fp_X6_50 : FP RX6 50 5 10 "I" := ⟨(RX6, TX6, 13), rfl, by decide, gt (List.mem_of_getElem? (i := 163) (by decide +kernel)) (by decide +kernel), rfl, rfl⟩
theorem fp_X6_53 : FP RX6 53 5 11 "I" := ⟨(RX6, TX6, 13), rfl, by decide, gt (List.mem_of_getElem? (i := 166) (by decide +kernel)) (by decide +kernel), rfl, rfl⟩
theorem fp_X8_9 : FP RX8 9 7 0 "I" := ⟨(RX8, TX8, 5), rfl, by decide, gt (List.mem_of_getElem? (i := 330) (by decide +kernel)) (by decide +kernel), rfl, rfl⟩
theorem fp_X8_15 : FP RX8 15 7 1 "I" := ⟨(RX8, TX8, 5), rfl, by decide, gt (List.mem_of_getElem? (i := 334) (by decide +kernel)) (by decide +kernel), rfl, rfl⟩
theorem fp_X8_18 : FP RX8 18 7 2 "I" := ⟨(RX8, TX8, 5), rfl, by decide, gt (List.mem_of_getElem? (i := 337) (by decide +kernel)) (by decide +kernel), rfl, rfl⟩
theorem fp_X8_21 : FP RX8 21 7 3 "I" := ⟨(RX8, TX8, 5), rfl, by decide, gt (List.mem_of_getElem? (i := 340) (by decide +kernel)) (by decide +kernel), rfl, rfl⟩
theorem fp_X8_24 : FP RX8 24 7 4 "I" := ⟨(RX8, TX8, 5), rfl, by decide, gt (List.mem_of_getElem? (i := 343) (by decide +kernel)) (by decide +kernel), rfl, rfl⟩
theorem fp_X9_9 : FP RX9 9 8 7 "I" := ⟨(RX9, TX9, 10), rfl, by decide, gt (List.mem_of_getElem? (i := 381) (by decide +kernel)) (by decide +kernel), rfl, rfl⟩
theorem fp_X9_15 : FP RX9 15 8 8 "I" := ⟨(RX9, TX9, 10), rfl, by decide, gt (List.mem_of_getElem? (i := 383) (by decide +kernel)) (by decide +kernel), rfl, rfl⟩
theorem fp_X9_18 : FP RX9 18 8 9 "I" := ⟨(RX9, TX9, 10), rfl, by decide, gt (List.mem_of_getElem? (i := 385) (by decide +kernel)) (by decide +kernel), rfl, rfl⟩
theorem fp_X9_21 : FP RX9 21 8 0 "Z" := ⟨(RX9, TX9, 10), rfl, by decide, gt (List.mem_of_getElem? (i := 362) (by decide +kernel)) (by decide +kernel), rfl, rfl⟩
theorem fp_X9_25 : FP RX9 25 8 1 "I" := ⟨(RX9, TX9, 10), rfl, by decide, gt (List.mem_of_getElem? (i := 365) (by decide +kernel)) (by decide +kernel), rfl, rfl⟩
theorem fp_X9_28 : FP RX9 28 8 2 "I" := ⟨(RX9, TX9, 10), rfl, by decide, gt (List.mem_of_getElem? (i := 368) (by decide +kernel)) (by decide +kernel), rfl, rfl⟩
theorem fp_X9_31 : FP RX9 31 8 3 "I" := ⟨(RX9, TX9, 10), rfl, by decide, gt (List.mem_of_getElem? (i := 371) (by decide +kernel)) (by decide +kernel), rfl, rfl⟩
theorem fp_X9_34 : FP RX9 34 8 4 "I" := ⟨(RX9, TX9, 10), rfl, by decide, gt (List.mem_of_getElem? (i := 374) (by decide +kernel)) (by decide +kernel), rfl, rfl⟩
theorem fp_X9_37 : FP RX9 37 8 5 "I" := ⟨(RX9, TX9, 10), rfl, by decide, gt (List.mem_of_getElem? (i := 377) (by decide +kernel)) (by decide +kernel), rfl, rfl⟩
theorem fp_X9_40 : FP RX9 40 8 6 "Z" := ⟨(RX9, TX9, 10), rfl, by decide, gt (List.mem_of_getElem? (i := 379) (by decide +kernel)) (by decide +kernel), rfl, rfl⟩
theorem ml_X5_41 : Cond.methodLink RX5 41 yX5_removeOldest ∈ gtb := gt (List.mem_of_getElem? (i := 1010) (by decide +kernel)) (by decide +kernel)
theorem ml_X5_44 : Cond.methodLink RX5 44 yX5_put ∈ gtb := gt (List.mem_of_getElem? (i := 1014) (by decide +kernel)) (by decide +kernel)
theorem ml_X5_48 : Cond.methodLink RX5 48 yX5_number ∈ gtb := gt (List.mem_of_getElem? (i := 1028) (by decide +kernel)) (by decide +kernel)
theorem ml_X6_60 : Cond.methodLink RX6 60 yX6_beginPass ∈ gtb := gt (List.mem_of_getElem? (i := 969) (by decide +kernel)) (by decide +kernel)
theorem my_X5_number : MY yX5_number cX5_number 3 (some .int) 2 := ⟨gt (List.mem_of_getElem? (i := 1031) (by decide +kernel)) (by decide +kernel), gt (List.mem_of_getElem? (i := 94) (by decide +kernel)) (by decide +kernel), ⟨by decide +kernel, by decide +kernel, by decide +kernel⟩, by decide +kernel⟩
theorem my_X5_put : MY yX5_put cX5_put 7 none 5 := ⟨gt (List.mem_of_getElem? (i := 1005) (by decide +kernel)) (by decide +kernel), gt (List.mem_of_getElem? (i := 94) (by decide +kernel)) (by decide +kernel), ⟨by decide +kernel, by decide +kernel, by decide +kernel⟩, by decide +kernel⟩
theorem my_X5_removeOldest : MY yX5_removeOldest cX5_removeOldest 1 none 0 := ⟨gt (List.mem_of_getElem? (i := 1013) (by decide +kernel)) (by decide +kernel), gt (List.mem_of_getElem? (i := 94) (by decide +kernel)) (by decide +kernel), ⟨by decide +kernel, by decide +kernel, by decide +kernel⟩, by decide +kernel⟩
theorem my_X6_beginPass : MY yX6_beginPass cX6_beginPass 2 none 0 := ⟨gt (List.mem_of_getElem? (i := 972) (by decide +kernel)) (by decide +kernel), gt (List.mem_of_getElem? (i := 92) (by decide +kernel)) (by decide +kernel), ⟨by decide +kernel, by decide +kernel, by decide +kernel⟩, by decide +kernel⟩
theorem vy_X5_number : VY yX5_number := ⟨gt (List.mem_of_getElem? (i := 1029) (by decide +kernel)) (by decide +kernel), gt (List.mem_of_getElem? (i := 1030) (by decide +kernel)) (by decide +kernel)⟩
theorem vy_X5_put : VY yX5_put := ⟨gt (List.mem_of_getElem? (i := 1003) (by decide +kernel)) (by decide +kernel), gt (List.mem_of_getElem? (i := 1004) (by decide +kernel)) (by decide +kernel)⟩
theorem vy_X5_removeOldest : VY yX5_removeOldest := ⟨gt (List.mem_of_getElem? (i := 1011) (by decide +kernel)) (by decide +kernel), gt (List.mem_of_getElem? (i := 1012) (by decide +kernel)) (by decide +kernel)⟩
theorem vy_X6_beginPass : VY yX6_beginPass := ⟨gt (List.mem_of_getElem? (i := 970) (by decide +kernel)) (by decide +kernel), gt (List.mem_of_getElem? (i := 971) (by decide +kernel)) (by decide +kernel)⟩
