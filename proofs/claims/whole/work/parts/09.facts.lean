/-! ===== FACTS of the tables, by their places (written by a program) ===== -/
theorem fl_X1_9 : FL RX1 9 0 0 "I" := ⟨(RX1, TX1, 9), rfl, by decide, gt (List.mem_of_getElem? (i := 282) (by decide +kernel)) (by decide +kernel), rfl⟩
theorem fl_X1_15 : FL RX1 15 0 4 "I" := ⟨(RX1, TX1, 9), rfl, by decide, gt (List.mem_of_getElem? (i := 295) (by decide +kernel)) (by decide +kernel), rfl⟩
theorem fl_X1_18 : FL RX1 18 0 6 "I" := ⟨(RX1, TX1, 9), rfl, by decide, gt (List.mem_of_getElem? (i := 300) (by decide +kernel)) (by decide +kernel), rfl⟩
theorem fl_X1_21 : FL RX1 21 0 7 "I" := ⟨(RX1, TX1, 9), rfl, by decide, gt (List.mem_of_getElem? (i := 302) (by decide +kernel)) (by decide +kernel), rfl⟩
theorem fl_X1_24 : FL RX1 24 0 1 "I" := ⟨(RX1, TX1, 9), rfl, by decide, gt (List.mem_of_getElem? (i := 285) (by decide +kernel)) (by decide +kernel), rfl⟩
theorem fl_X1_27 : FL RX1 27 0 2 "I" := ⟨(RX1, TX1, 9), rfl, by decide, gt (List.mem_of_getElem? (i := 289) (by decide +kernel)) (by decide +kernel), rfl⟩
theorem fl_X1_30 : FL RX1 30 0 3 "I" := ⟨(RX1, TX1, 9), rfl, by decide, gt (List.mem_of_getElem? (i := 292) (by decide +kernel)) (by decide +kernel), rfl⟩
theorem fl_X1_33 : FL RX1 33 0 5 "I" := ⟨(RX1, TX1, 9), rfl, by decide, gt (List.mem_of_getElem? (i := 298) (by decide +kernel)) (by decide +kernel), rfl⟩
theorem fl_X1_36 : FL RX1 36 0 8 "J" := ⟨(RX1, TX1, 9), rfl, by decide, gt (List.mem_of_getElem? (i := 304) (by decide +kernel)) (by decide +kernel), rfl⟩
theorem fl_X2_9 : FL RX2 9 1 0 "I" := ⟨(RX2, TX2, 6), rfl, by decide, gt (List.mem_of_getElem? (i := 210) (by decide +kernel)) (by decide +kernel), rfl⟩
theorem fl_X2_15 : FL RX2 15 1 1 "I" := ⟨(RX2, TX2, 6), rfl, by decide, gt (List.mem_of_getElem? (i := 213) (by decide +kernel)) (by decide +kernel), rfl⟩
theorem fl_X2_18 : FL RX2 18 1 2 "I" := ⟨(RX2, TX2, 6), rfl, by decide, gt (List.mem_of_getElem? (i := 216) (by decide +kernel)) (by decide +kernel), rfl⟩
theorem fl_X2_21 : FL RX2 21 1 3 "I" := ⟨(RX2, TX2, 6), rfl, by decide, gt (List.mem_of_getElem? (i := 219) (by decide +kernel)) (by decide +kernel), rfl⟩
theorem fl_X2_24 : FL RX2 24 1 4 "I" := ⟨(RX2, TX2, 6), rfl, by decide, gt (List.mem_of_getElem? (i := 221) (by decide +kernel)) (by decide +kernel), rfl⟩
theorem fl_X2_27 : FL RX2 27 1 5 "I" := ⟨(RX2, TX2, 6), rfl, by decide, gt (List.mem_of_getElem? (i := 224) (by decide +kernel)) (by decide +kernel), rfl⟩
theorem fl_X5_9 : FL RX5 9 4 0 "[I" := ⟨(RX5, TX5, 7), rfl, by decide, gt (List.mem_of_getElem? (i := 246) (by decide +kernel)) (by decide +kernel), rfl⟩
theorem fl_X5_15 : FL RX5 15 4 1 "I" := ⟨(RX5, TX5, 7), rfl, by decide, gt (List.mem_of_getElem? (i := 247) (by decide +kernel)) (by decide +kernel), rfl⟩
theorem fl_X5_19 : FL RX5 19 4 2 "I" := ⟨(RX5, TX5, 7), rfl, by decide, gt (List.mem_of_getElem? (i := 248) (by decide +kernel)) (by decide +kernel), rfl⟩
theorem fl_X5_28 : FL RX5 28 4 3 "Z" := ⟨(RX5, TX5, 7), rfl, by decide, gt (List.mem_of_getElem? (i := 253) (by decide +kernel)) (by decide +kernel), rfl⟩
theorem fl_X5_32 : FL RX5 32 4 4 "I" := ⟨(RX5, TX5, 7), rfl, by decide, gt (List.mem_of_getElem? (i := 255) (by decide +kernel)) (by decide +kernel), rfl⟩
theorem fl_X5_35 : FL RX5 35 4 5 "I" := ⟨(RX5, TX5, 7), rfl, by decide, gt (List.mem_of_getElem? (i := 257) (by decide +kernel)) (by decide +kernel), rfl⟩
theorem fl_X5_38 : FL RX5 38 4 6 "I" := ⟨(RX5, TX5, 7), rfl, by decide, gt (List.mem_of_getElem? (i := 260) (by decide +kernel)) (by decide +kernel), rfl⟩
theorem fl_X6_18 : FL RX6 18 5 0 "[I" := ⟨(RX6, TX6, 13), rfl, by decide, gt (List.mem_of_getElem? (i := 134) (by decide +kernel)) (by decide +kernel), rfl⟩
theorem fl_X6_28 : FL RX6 28 5 1 "I" := ⟨(RX6, TX6, 13), rfl, by decide, gt (List.mem_of_getElem? (i := 137) (by decide +kernel)) (by decide +kernel), rfl⟩
theorem fl_X6_31 : FL RX6 31 5 2 "I" := ⟨(RX6, TX6, 13), rfl, by decide, gt (List.mem_of_getElem? (i := 141) (by decide +kernel)) (by decide +kernel), rfl⟩
theorem fl_X6_34 : FL RX6 34 5 3 "Z" := ⟨(RX6, TX6, 13), rfl, by decide, gt (List.mem_of_getElem? (i := 143) (by decide +kernel)) (by decide +kernel), rfl⟩
theorem fl_X6_38 : FL RX6 38 5 4 "I" := ⟨(RX6, TX6, 13), rfl, by decide, gt (List.mem_of_getElem? (i := 146) (by decide +kernel)) (by decide +kernel), rfl⟩
theorem fl_X8_9 : FL RX8 9 7 0 "I" := ⟨(RX8, TX8, 5), rfl, by decide, gt (List.mem_of_getElem? (i := 330) (by decide +kernel)) (by decide +kernel), rfl⟩
theorem fl_X8_15 : FL RX8 15 7 1 "I" := ⟨(RX8, TX8, 5), rfl, by decide, gt (List.mem_of_getElem? (i := 334) (by decide +kernel)) (by decide +kernel), rfl⟩
theorem fl_X8_18 : FL RX8 18 7 2 "I" := ⟨(RX8, TX8, 5), rfl, by decide, gt (List.mem_of_getElem? (i := 337) (by decide +kernel)) (by decide +kernel), rfl⟩
theorem fl_X8_21 : FL RX8 21 7 3 "I" := ⟨(RX8, TX8, 5), rfl, by decide, gt (List.mem_of_getElem? (i := 340) (by decide +kernel)) (by decide +kernel), rfl⟩
theorem fl_X8_24 : FL RX8 24 7 4 "I" := ⟨(RX8, TX8, 5), rfl, by decide, gt (List.mem_of_getElem? (i := 343) (by decide +kernel)) (by decide +kernel), rfl⟩
theorem fl_X9_9 : FL RX9 9 8 7 "I" := ⟨(RX9, TX9, 10), rfl, by decide, gt (List.mem_of_getElem? (i := 381) (by decide +kernel)) (by decide +kernel), rfl⟩
theorem fl_X9_15 : FL RX9 15 8 8 "I" := ⟨(RX9, TX9, 10), rfl, by decide, gt (List.mem_of_getElem? (i := 383) (by decide +kernel)) (by decide +kernel), rfl⟩
theorem fl_X9_18 : FL RX9 18 8 9 "I" := ⟨(RX9, TX9, 10), rfl, by decide, gt (List.mem_of_getElem? (i := 385) (by decide +kernel)) (by decide +kernel), rfl⟩
theorem fl_X9_21 : FL RX9 21 8 0 "Z" := ⟨(RX9, TX9, 10), rfl, by decide, gt (List.mem_of_getElem? (i := 362) (by decide +kernel)) (by decide +kernel), rfl⟩
theorem fl_X9_25 : FL RX9 25 8 1 "I" := ⟨(RX9, TX9, 10), rfl, by decide, gt (List.mem_of_getElem? (i := 365) (by decide +kernel)) (by decide +kernel), rfl⟩
theorem fl_X9_28 : FL RX9 28 8 2 "I" := ⟨(RX9, TX9, 10), rfl, by decide, gt (List.mem_of_getElem? (i := 368) (by decide +kernel)) (by decide +kernel), rfl⟩
theorem fl_X9_31 : FL RX9 31 8 3 "I" := ⟨(RX9, TX9, 10), rfl, by decide, gt (List.mem_of_getElem? (i := 371) (by decide +kernel)) (by decide +kernel), rfl⟩
theorem fl_X9_34 : FL RX9 34 8 4 "I" := ⟨(RX9, TX9, 10), rfl, by decide, gt (List.mem_of_getElem? (i := 374) (by decide +kernel)) (by decide +kernel), rfl⟩
theorem fl_X9_37 : FL RX9 37 8 5 "I" := ⟨(RX9, TX9, 10), rfl, by decide, gt (List.mem_of_getElem? (i := 377) (by decide +kernel)) (by decide +kernel), rfl⟩
theorem fl_X9_40 : FL RX9 40 8 6 "Z" := ⟨(RX9, TX9, 10), rfl, by decide, gt (List.mem_of_getElem? (i := 379) (by decide +kernel)) (by decide +kernel), rfl⟩
theorem fl_X12_1 : FL RX12 1 10 0 "I" := ⟨(RX12, TX12, 21), rfl, by decide, gt (List.mem_of_getElem? (i := 1381) (by decide +kernel)) (by decide +kernel), rfl⟩
theorem fl_X12_7 : FL RX12 7 10 1 "[I" := ⟨(RX12, TX12, 21), rfl, by decide, gt (List.mem_of_getElem? (i := 1382) (by decide +kernel)) (by decide +kernel), rfl⟩
theorem fl_X12_11 : FL RX12 11 10 2 "I" := ⟨(RX12, TX12, 21), rfl, by decide, gt (List.mem_of_getElem? (i := 1383) (by decide +kernel)) (by decide +kernel), rfl⟩
theorem fl_X12_26 : FL RX12 26 10 3 "[I" := ⟨(RX12, TX12, 21), rfl, by decide, gt (List.mem_of_getElem? (i := 1384) (by decide +kernel)) (by decide +kernel), rfl⟩
theorem fl_X12_29 : FL RX12 29 10 4 "[I" := ⟨(RX12, TX12, 21), rfl, by decide, gt (List.mem_of_getElem? (i := 1385) (by decide +kernel)) (by decide +kernel), rfl⟩
theorem fl_X12_32 : FL RX12 32 10 7 "I" := ⟨(RX12, TX12, 21), rfl, by decide, gt (List.mem_of_getElem? (i := 1388) (by decide +kernel)) (by decide +kernel), rfl⟩
theorem fl_X12_35 : FL RX12 35 10 5 "[J" := ⟨(RX12, TX12, 21), rfl, by decide, gt (List.mem_of_getElem? (i := 1386) (by decide +kernel)) (by decide +kernel), rfl⟩
theorem fl_X12_56 : FL RX12 56 10 6 "[Z" := ⟨(RX12, TX12, 21), rfl, by decide, gt (List.mem_of_getElem? (i := 1387) (by decide +kernel)) (by decide +kernel), rfl⟩
theorem fl_X12_110 : FL RX12 110 10 8 "[J" := ⟨(RX12, TX12, 21), rfl, by decide, gt (List.mem_of_getElem? (i := 1389) (by decide +kernel)) (by decide +kernel), rfl⟩
theorem fl_X12_113 : FL RX12 113 10 9 "I" := ⟨(RX12, TX12, 21), rfl, by decide, gt (List.mem_of_getElem? (i := 1390) (by decide +kernel)) (by decide +kernel), rfl⟩
theorem fl_X12_116 : FL RX12 116 10 10 "I" := ⟨(RX12, TX12, 21), rfl, by decide, gt (List.mem_of_getElem? (i := 1391) (by decide +kernel)) (by decide +kernel), rfl⟩
theorem fl_X12_119 : FL RX12 119 10 11 "I" := ⟨(RX12, TX12, 21), rfl, by decide, gt (List.mem_of_getElem? (i := 1392) (by decide +kernel)) (by decide +kernel), rfl⟩
theorem fl_X12_122 : FL RX12 122 10 12 "I" := ⟨(RX12, TX12, 21), rfl, by decide, gt (List.mem_of_getElem? (i := 1393) (by decide +kernel)) (by decide +kernel), rfl⟩
theorem fl_X12_125 : FL RX12 125 10 13 "I" := ⟨(RX12, TX12, 21), rfl, by decide, gt (List.mem_of_getElem? (i := 1394) (by decide +kernel)) (by decide +kernel), rfl⟩
theorem fl_X12_128 : FL RX12 128 10 14 "I" := ⟨(RX12, TX12, 21), rfl, by decide, gt (List.mem_of_getElem? (i := 1395) (by decide +kernel)) (by decide +kernel), rfl⟩
theorem fl_X12_131 : FL RX12 131 10 15 "I" := ⟨(RX12, TX12, 21), rfl, by decide, gt (List.mem_of_getElem? (i := 1396) (by decide +kernel)) (by decide +kernel), rfl⟩
theorem fl_X12_134 : FL RX12 134 10 16 "I" := ⟨(RX12, TX12, 21), rfl, by decide, gt (List.mem_of_getElem? (i := 1397) (by decide +kernel)) (by decide +kernel), rfl⟩
theorem fl_X12_137 : FL RX12 137 10 17 "I" := ⟨(RX12, TX12, 21), rfl, by decide, gt (List.mem_of_getElem? (i := 1398) (by decide +kernel)) (by decide +kernel), rfl⟩
theorem fl_X12_140 : FL RX12 140 10 18 "[Z" := ⟨(RX12, TX12, 21), rfl, by decide, gt (List.mem_of_getElem? (i := 1399) (by decide +kernel)) (by decide +kernel), rfl⟩
theorem fl_X12_143 : FL RX12 143 10 19 "[Z" := ⟨(RX12, TX12, 21), rfl, by decide, gt (List.mem_of_getElem? (i := 1400) (by decide +kernel)) (by decide +kernel), rfl⟩
theorem fl_X12_146 : FL RX12 146 10 20 "[Z" := ⟨(RX12, TX12, 21), rfl, by decide, gt (List.mem_of_getElem? (i := 1401) (by decide +kernel)) (by decide +kernel), rfl⟩
theorem fp_X1_9 : FP RX1 9 0 0 "I" := ⟨(RX1, TX1, 9), rfl, by decide, gt (List.mem_of_getElem? (i := 282) (by decide +kernel)) (by decide +kernel), rfl, rfl⟩
theorem fp_X1_15 : FP RX1 15 0 4 "I" := ⟨(RX1, TX1, 9), rfl, by decide, gt (List.mem_of_getElem? (i := 295) (by decide +kernel)) (by decide +kernel), rfl, rfl⟩
theorem fp_X1_18 : FP RX1 18 0 6 "I" := ⟨(RX1, TX1, 9), rfl, by decide, gt (List.mem_of_getElem? (i := 300) (by decide +kernel)) (by decide +kernel), rfl, rfl⟩
theorem fp_X1_21 : FP RX1 21 0 7 "I" := ⟨(RX1, TX1, 9), rfl, by decide, gt (List.mem_of_getElem? (i := 302) (by decide +kernel)) (by decide +kernel), rfl, rfl⟩
theorem fp_X1_24 : FP RX1 24 0 1 "I" := ⟨(RX1, TX1, 9), rfl, by decide, gt (List.mem_of_getElem? (i := 285) (by decide +kernel)) (by decide +kernel), rfl, rfl⟩
theorem fp_X1_27 : FP RX1 27 0 2 "I" := ⟨(RX1, TX1, 9), rfl, by decide, gt (List.mem_of_getElem? (i := 289) (by decide +kernel)) (by decide +kernel), rfl, rfl⟩
theorem fp_X1_30 : FP RX1 30 0 3 "I" := ⟨(RX1, TX1, 9), rfl, by decide, gt (List.mem_of_getElem? (i := 292) (by decide +kernel)) (by decide +kernel), rfl, rfl⟩
theorem fp_X1_33 : FP RX1 33 0 5 "I" := ⟨(RX1, TX1, 9), rfl, by decide, gt (List.mem_of_getElem? (i := 298) (by decide +kernel)) (by decide +kernel), rfl, rfl⟩
theorem fp_X1_36 : FP RX1 36 0 8 "J" := ⟨(RX1, TX1, 9), rfl, by decide, gt (List.mem_of_getElem? (i := 304) (by decide +kernel)) (by decide +kernel), rfl, rfl⟩
theorem fp_X2_9 : FP RX2 9 1 0 "I" := ⟨(RX2, TX2, 6), rfl, by decide, gt (List.mem_of_getElem? (i := 210) (by decide +kernel)) (by decide +kernel), rfl, rfl⟩
theorem fp_X2_15 : FP RX2 15 1 1 "I" := ⟨(RX2, TX2, 6), rfl, by decide, gt (List.mem_of_getElem? (i := 213) (by decide +kernel)) (by decide +kernel), rfl, rfl⟩
theorem fp_X2_18 : FP RX2 18 1 2 "I" := ⟨(RX2, TX2, 6), rfl, by decide, gt (List.mem_of_getElem? (i := 216) (by decide +kernel)) (by decide +kernel), rfl, rfl⟩
theorem fp_X2_21 : FP RX2 21 1 3 "I" := ⟨(RX2, TX2, 6), rfl, by decide, gt (List.mem_of_getElem? (i := 219) (by decide +kernel)) (by decide +kernel), rfl, rfl⟩
theorem fp_X2_24 : FP RX2 24 1 4 "I" := ⟨(RX2, TX2, 6), rfl, by decide, gt (List.mem_of_getElem? (i := 221) (by decide +kernel)) (by decide +kernel), rfl, rfl⟩
theorem fp_X2_27 : FP RX2 27 1 5 "I" := ⟨(RX2, TX2, 6), rfl, by decide, gt (List.mem_of_getElem? (i := 224) (by decide +kernel)) (by decide +kernel), rfl, rfl⟩
theorem fp_X5_32 : FP RX5 32 4 4 "I" := ⟨(RX5, TX5, 7), rfl, by decide, gt (List.mem_of_getElem? (i := 255) (by decide +kernel)) (by decide +kernel), rfl, rfl⟩
theorem fp_X5_35 : FP RX5 35 4 5 "I" := ⟨(RX5, TX5, 7), rfl, by decide, gt (List.mem_of_getElem? (i := 257) (by decide +kernel)) (by decide +kernel), rfl, rfl⟩
theorem fp_X5_38 : FP RX5 38 4 6 "I" := ⟨(RX5, TX5, 7), rfl, by decide, gt (List.mem_of_getElem? (i := 260) (by decide +kernel)) (by decide +kernel), rfl, rfl⟩
theorem fp_X6_9 : FP RX6 9 5 6 "I" := ⟨(RX6, TX6, 13), rfl, by decide, gt (List.mem_of_getElem? (i := 151) (by decide +kernel)) (by decide +kernel), rfl, rfl⟩
theorem fp_X6_15 : FP RX6 15 5 7 "I" := ⟨(RX6, TX6, 13), rfl, by decide, gt (List.mem_of_getElem? (i := 154) (by decide +kernel)) (by decide +kernel), rfl, rfl⟩
theorem fp_X6_34 : FP RX6 34 5 3 "Z" := ⟨(RX6, TX6, 13), rfl, by decide, gt (List.mem_of_getElem? (i := 143) (by decide +kernel)) (by decide +kernel), rfl, rfl⟩
theorem fp_X6_41 : FP RX6 41 5 5 "I" := ⟨(RX6, TX6, 13), rfl, by decide, gt (List.mem_of_getElem? (i := 149) (by decide +kernel)) (by decide +kernel), rfl, rfl⟩
theorem fp_X6_50 : FP RX6 50 5 10 "I" := ⟨(RX6, TX6, 13), rfl, by decide, gt (List.mem_of_getElem? (i := 163) (by decide +kernel)) (by decide +kernel), rfl, rfl⟩
theorem fp_X6_53 : FP RX6 53 5 11 "I" := ⟨(RX6, TX6, 13), rfl, by decide, gt (List.mem_of_getElem? (i := 166) (by decide +kernel)) (by decide +kernel), rfl, rfl⟩
theorem fp_X8_9 : FP RX8 9 7 0 "I" := ⟨(RX8, TX8, 5), rfl, by decide, gt (List.mem_of_getElem? (i := 330) (by decide +kernel)) (by decide +kernel), rfl, rfl⟩
theorem fp_X8_15 : FP RX8 15 7 1 "I" := ⟨(RX8, TX8, 5), rfl, by decide, gt (List.mem_of_getElem? (i := 334) (by decide +kernel)) (by decide +kernel), rfl, rfl⟩
theorem fp_X8_18 : FP RX8 18 7 2 "I" := ⟨(RX8, TX8, 5), rfl, by decide, gt (List.mem_of_getElem? (i := 337) (by decide +kernel)) (by decide +kernel), rfl, rfl⟩
theorem fp_X8_21 : FP RX8 21 7 3 "I" := ⟨(RX8, TX8, 5), rfl, by decide, gt (List.mem_of_getElem? (i := 340) (by decide +kernel)) (by decide +kernel), rfl, rfl⟩
theorem fp_X8_24 : FP RX8 24 7 4 "I" := ⟨(RX8, TX8, 5), rfl, by decide, gt (List.mem_of_getElem? (i := 343) (by decide +kernel)) (by decide +kernel), rfl, rfl⟩
theorem fp_X9_9 : FP RX9 9 8 7 "I" := ⟨(RX9, TX9, 10), rfl, by decide, gt (List.mem_of_getElem? (i := 381) (by decide +kernel)) (by decide +kernel), rfl, rfl⟩
theorem fp_X9_15 : FP RX9 15 8 8 "I" := ⟨(RX9, TX9, 10), rfl, by decide, gt (List.mem_of_getElem? (i := 383) (by decide +kernel)) (by decide +kernel), rfl, rfl⟩
theorem fp_X9_18 : FP RX9 18 8 9 "I" := ⟨(RX9, TX9, 10), rfl, by decide, gt (List.mem_of_getElem? (i := 385) (by decide +kernel)) (by decide +kernel), rfl, rfl⟩
theorem fp_X9_21 : FP RX9 21 8 0 "Z" := ⟨(RX9, TX9, 10), rfl, by decide, gt (List.mem_of_getElem? (i := 362) (by decide +kernel)) (by decide +kernel), rfl, rfl⟩
theorem fp_X9_25 : FP RX9 25 8 1 "I" := ⟨(RX9, TX9, 10), rfl, by decide, gt (List.mem_of_getElem? (i := 365) (by decide +kernel)) (by decide +kernel), rfl, rfl⟩
theorem fp_X9_28 : FP RX9 28 8 2 "I" := ⟨(RX9, TX9, 10), rfl, by decide, gt (List.mem_of_getElem? (i := 368) (by decide +kernel)) (by decide +kernel), rfl, rfl⟩
theorem fp_X9_31 : FP RX9 31 8 3 "I" := ⟨(RX9, TX9, 10), rfl, by decide, gt (List.mem_of_getElem? (i := 371) (by decide +kernel)) (by decide +kernel), rfl, rfl⟩
theorem fp_X9_34 : FP RX9 34 8 4 "I" := ⟨(RX9, TX9, 10), rfl, by decide, gt (List.mem_of_getElem? (i := 374) (by decide +kernel)) (by decide +kernel), rfl, rfl⟩
theorem fp_X9_37 : FP RX9 37 8 5 "I" := ⟨(RX9, TX9, 10), rfl, by decide, gt (List.mem_of_getElem? (i := 377) (by decide +kernel)) (by decide +kernel), rfl, rfl⟩
theorem fp_X9_40 : FP RX9 40 8 6 "Z" := ⟨(RX9, TX9, 10), rfl, by decide, gt (List.mem_of_getElem? (i := 379) (by decide +kernel)) (by decide +kernel), rfl, rfl⟩
theorem fp_X12_1 : FP RX12 1 10 0 "I" := ⟨(RX12, TX12, 21), rfl, by decide, gt (List.mem_of_getElem? (i := 1381) (by decide +kernel)) (by decide +kernel), rfl, rfl⟩
theorem fp_X12_11 : FP RX12 11 10 2 "I" := ⟨(RX12, TX12, 21), rfl, by decide, gt (List.mem_of_getElem? (i := 1383) (by decide +kernel)) (by decide +kernel), rfl, rfl⟩
theorem fp_X12_32 : FP RX12 32 10 7 "I" := ⟨(RX12, TX12, 21), rfl, by decide, gt (List.mem_of_getElem? (i := 1388) (by decide +kernel)) (by decide +kernel), rfl, rfl⟩
theorem fp_X12_113 : FP RX12 113 10 9 "I" := ⟨(RX12, TX12, 21), rfl, by decide, gt (List.mem_of_getElem? (i := 1390) (by decide +kernel)) (by decide +kernel), rfl, rfl⟩
theorem fp_X12_116 : FP RX12 116 10 10 "I" := ⟨(RX12, TX12, 21), rfl, by decide, gt (List.mem_of_getElem? (i := 1391) (by decide +kernel)) (by decide +kernel), rfl, rfl⟩
theorem fp_X12_119 : FP RX12 119 10 11 "I" := ⟨(RX12, TX12, 21), rfl, by decide, gt (List.mem_of_getElem? (i := 1392) (by decide +kernel)) (by decide +kernel), rfl, rfl⟩
theorem fp_X12_122 : FP RX12 122 10 12 "I" := ⟨(RX12, TX12, 21), rfl, by decide, gt (List.mem_of_getElem? (i := 1393) (by decide +kernel)) (by decide +kernel), rfl, rfl⟩
theorem fp_X12_125 : FP RX12 125 10 13 "I" := ⟨(RX12, TX12, 21), rfl, by decide, gt (List.mem_of_getElem? (i := 1394) (by decide +kernel)) (by decide +kernel), rfl, rfl⟩
theorem fp_X12_128 : FP RX12 128 10 14 "I" := ⟨(RX12, TX12, 21), rfl, by decide, gt (List.mem_of_getElem? (i := 1395) (by decide +kernel)) (by decide +kernel), rfl, rfl⟩
theorem fp_X12_131 : FP RX12 131 10 15 "I" := ⟨(RX12, TX12, 21), rfl, by decide, gt (List.mem_of_getElem? (i := 1396) (by decide +kernel)) (by decide +kernel), rfl, rfl⟩
theorem fp_X12_134 : FP RX12 134 10 16 "I" := ⟨(RX12, TX12, 21), rfl, by decide, gt (List.mem_of_getElem? (i := 1397) (by decide +kernel)) (by decide +kernel), rfl, rfl⟩
theorem fp_X12_137 : FP RX12 137 10 17 "I" := ⟨(RX12, TX12, 21), rfl, by decide, gt (List.mem_of_getElem? (i := 1398) (by decide +kernel)) (by decide +kernel), rfl, rfl⟩
theorem ml_X5_41 : Cond.methodLink RX5 41 yX5_removeOldest ∈ gtb := gt (List.mem_of_getElem? (i := 1010) (by decide +kernel)) (by decide +kernel)
theorem ml_X5_44 : Cond.methodLink RX5 44 yX5_put ∈ gtb := gt (List.mem_of_getElem? (i := 1014) (by decide +kernel)) (by decide +kernel)
theorem ml_X5_48 : Cond.methodLink RX5 48 yX5_number ∈ gtb := gt (List.mem_of_getElem? (i := 1028) (by decide +kernel)) (by decide +kernel)
theorem ml_X6_60 : Cond.methodLink RX6 60 yX6_beginPass ∈ gtb := gt (List.mem_of_getElem? (i := 969) (by decide +kernel)) (by decide +kernel)
theorem ml_X12_14 : Cond.methodLink RX12 14 yX12_fails ∈ gtb := gt (List.mem_of_getElem? (i := 1317) (by decide +kernel)) (by decide +kernel)
theorem ml_X12_18 : Cond.methodLink RX12 18 yX12_appendWord ∈ gtb := gt (List.mem_of_getElem? (i := 1322) (by decide +kernel)) (by decide +kernel)
theorem ml_X12_22 : Cond.methodLink RX12 22 yX12_inRange ∈ gtb := gt (List.mem_of_getElem? (i := 1330) (by decide +kernel)) (by decide +kernel)
theorem ml_X12_39 : Cond.methodLink RX12 39 yX12_puts ∈ gtb := gt (List.mem_of_getElem? (i := 1371) (by decide +kernel)) (by decide +kernel)
theorem ml_X12_43 : Cond.methodLink RX12 43 yX12_seq ∈ gtb := gt (List.mem_of_getElem? (i := 1375) (by decide +kernel)) (by decide +kernel)
theorem ml_X12_47 : Cond.methodLink RX12 47 yX12_chan ∈ gtb := gt (List.mem_of_getElem? (i := 1378) (by decide +kernel)) (by decide +kernel)
theorem ml_X12_149 : Cond.methodLink RX12 149 yX12_firstSettings ∈ gtb := gt (List.mem_of_getElem? (i := 1363) (by decide +kernel)) (by decide +kernel)
theorem ml_X12_152 : Cond.methodLink RX12 152 yX12_first ∈ gtb := gt (List.mem_of_getElem? (i := 1367) (by decide +kernel)) (by decide +kernel)
theorem ml_X12_155 : Cond.methodLink RX12 155 yX12_its ∈ gtb := gt (List.mem_of_getElem? (i := 1450) (by decide +kernel)) (by decide +kernel)
theorem ml_X12_159 : Cond.methodLink RX12 159 yX12_lesser ∈ gtb := gt (List.mem_of_getElem? (i := 1485) (by decide +kernel)) (by decide +kernel)
theorem ml_X12_162 : Cond.methodLink RX12 162 yX12_adds ∈ gtb := gt (List.mem_of_getElem? (i := 1469) (by decide +kernel)) (by decide +kernel)
theorem ml_X12_165 : Cond.methodLink RX12 165 yX12_entries ∈ gtb := gt (List.mem_of_getElem? (i := 1473) (by decide +kernel)) (by decide +kernel)
theorem ml_X12_168 : Cond.methodLink RX12 168 yX12_beginPass ∈ gtb := gt (List.mem_of_getElem? (i := 1481) (by decide +kernel)) (by decide +kernel)
theorem ml_X12_171 : Cond.methodLink RX12 171 yX12_breakOff ∈ gtb := gt (List.mem_of_getElem? (i := 1488) (by decide +kernel)) (by decide +kernel)
theorem ml_X12_174 : Cond.methodLink RX12 174 yX12_clearResult ∈ gtb := gt (List.mem_of_getElem? (i := 1492) (by decide +kernel)) (by decide +kernel)
theorem ml_X12_177 : Cond.methodLink RX12 177 yX12_trig ∈ gtb := gt (List.mem_of_getElem? (i := 1466) (by decide +kernel)) (by decide +kernel)
theorem ml_X12_180 : Cond.methodLink RX12 180 yX12_startSequence ∈ gtb := gt (List.mem_of_getElem? (i := 1477) (by decide +kernel)) (by decide +kernel)
theorem ml_X12_183 : Cond.methodLink RX12 183 yX12_fires ∈ gtb := gt (List.mem_of_getElem? (i := 1462) (by decide +kernel)) (by decide +kernel)
theorem ml_X12_187 : Cond.methodLink RX12 187 yX12_win ∈ gtb := gt (List.mem_of_getElem? (i := 1524) (by decide +kernel)) (by decide +kernel)
theorem ml_X12_190 : Cond.methodLink RX12 190 yX12_dropOldest ∈ gtb := gt (List.mem_of_getElem? (i := 1531) (by decide +kernel)) (by decide +kernel)
theorem ml_X12_193 : Cond.methodLink RX12 193 yX12_putRow ∈ gtb := gt (List.mem_of_getElem? (i := 1535) (by decide +kernel)) (by decide +kernel)
theorem ml_X12_197 : Cond.methodLink RX12 197 yX12_idle ∈ gtb := gt (List.mem_of_getElem? (i := 1543) (by decide +kernel)) (by decide +kernel)
theorem ml_X12_200 : Cond.methodLink RX12 200 yX12_countChannel ∈ gtb := gt (List.mem_of_getElem? (i := 1516) (by decide +kernel)) (by decide +kernel)
theorem ml_X12_203 : Cond.methodLink RX12 203 yX12_lookAt ∈ gtb := gt (List.mem_of_getElem? (i := 1520) (by decide +kernel)) (by decide +kernel)
theorem ml_X12_207 : Cond.methodLink RX12 207 yX12_enqueue ∈ gtb := gt (List.mem_of_getElem? (i := 1527) (by decide +kernel)) (by decide +kernel)
theorem ml_X12_211 : Cond.methodLink RX12 211 yX12_endPass ∈ gtb := gt (List.mem_of_getElem? (i := 1539) (by decide +kernel)) (by decide +kernel)
theorem ml_X12_214 : Cond.methodLink RX12 214 yX12_entryOf ∈ gtb := gt (List.mem_of_getElem? (i := 1500) (by decide +kernel)) (by decide +kernel)
theorem ml_X12_217 : Cond.methodLink RX12 217 yX12_signalOf ∈ gtb := gt (List.mem_of_getElem? (i := 1508) (by decide +kernel)) (by decide +kernel)
theorem ml_X12_220 : Cond.methodLink RX12 220 yX12_finishResult ∈ gtb := gt (List.mem_of_getElem? (i := 1512) (by decide +kernel)) (by decide +kernel)
theorem ml_X12_223 : Cond.methodLink RX12 223 yX12_fireTimers ∈ gtb := gt (List.mem_of_getElem? (i := 1458) (by decide +kernel)) (by decide +kernel)
theorem ml_X12_226 : Cond.methodLink RX12 226 yX12_startConversion ∈ gtb := gt (List.mem_of_getElem? (i := 1496) (by decide +kernel)) (by decide +kernel)
theorem ml_X12_229 : Cond.methodLink RX12 229 yX12_convert ∈ gtb := gt (List.mem_of_getElem? (i := 1504) (by decide +kernel)) (by decide +kernel)
theorem ml_X12_232 : Cond.methodLink RX12 232 yX12_transfer ∈ gtb := gt (List.mem_of_getElem? (i := 1547) (by decide +kernel)) (by decide +kernel)
theorem ml_X12_235 : Cond.methodLink RX12 235 yX12_passCycle ∈ gtb := gt (List.mem_of_getElem? (i := 1454) (by decide +kernel)) (by decide +kernel)
theorem ml_X12_238 : Cond.methodLink RX12 238 yX12_isTrigger ∈ gtb := gt (List.mem_of_getElem? (i := 1555) (by decide +kernel)) (by decide +kernel)
theorem ml_X12_241 : Cond.methodLink RX12 241 yX12_isWindow ∈ gtb := gt (List.mem_of_getElem? (i := 1571) (by decide +kernel)) (by decide +kernel)
theorem ml_X12_244 : Cond.methodLink RX12 244 yX12_isChannel ∈ gtb := gt (List.mem_of_getElem? (i := 1579) (by decide +kernel)) (by decide +kernel)
theorem ml_X12_248 : Cond.methodLink RX12 248 yX12_copyBlock ∈ gtb := gt (List.mem_of_getElem? (i := 1660) (by decide +kernel)) (by decide +kernel)
theorem ml_X12_251 : Cond.methodLink RX12 251 yX12_beginTrial ∈ gtb := gt (List.mem_of_getElem? (i := 1656) (by decide +kernel)) (by decide +kernel)
theorem ml_X12_254 : Cond.methodLink RX12 254 yX12_endTrial ∈ gtb := gt (List.mem_of_getElem? (i := 1664) (by decide +kernel)) (by decide +kernel)
theorem ml_X12_257 : Cond.methodLink RX12 257 yX12_overrunsAt ∈ gtb := gt (List.mem_of_getElem? (i := 1676) (by decide +kernel)) (by decide +kernel)
theorem ml_X12_260 : Cond.methodLink RX12 260 yX12_byteAt ∈ gtb := gt (List.mem_of_getElem? (i := 1712) (by decide +kernel)) (by decide +kernel)
theorem ml_X12_263 : Cond.methodLink RX12 263 yX12_isLetter ∈ gtb := gt (List.mem_of_getElem? (i := 1716) (by decide +kernel)) (by decide +kernel)
theorem ml_X12_270 : Cond.methodLink RX12 270 yX12_isDigit ∈ gtb := gt (List.mem_of_getElem? (i := 1726) (by decide +kernel)) (by decide +kernel)
theorem ml_X12_273 : Cond.methodLink RX12 273 yX12_scanWord ∈ gtb := gt (List.mem_of_getElem? (i := 1720) (by decide +kernel)) (by decide +kernel)
theorem ml_X12_276 : Cond.methodLink RX12 276 yX12_scanNumber ∈ gtb := gt (List.mem_of_getElem? (i := 1730) (by decide +kernel)) (by decide +kernel)
theorem ml_X12_279 : Cond.methodLink RX12 279 yX12_ok ∈ gtb := gt (List.mem_of_getElem? (i := 1734) (by decide +kernel)) (by decide +kernel)
theorem ml_X12_283 : Cond.methodLink RX12 283 yX12_isKeyword ∈ gtb := gt (List.mem_of_getElem? (i := 1799) (by decide +kernel)) (by decide +kernel)
theorem ml_X12_286 : Cond.methodLink RX12 286 yX12_next ∈ gtb := gt (List.mem_of_getElem? (i := 1708) (by decide +kernel)) (by decide +kernel)
theorem ml_X12_289 : Cond.methodLink RX12 289 yX12_accepts ∈ gtb := gt (List.mem_of_getElem? (i := 1795) (by decide +kernel)) (by decide +kernel)
theorem ml_X12_292 : Cond.methodLink RX12 292 yX12_fail ∈ gtb := gt (List.mem_of_getElem? (i := 1745) (by decide +kernel)) (by decide +kernel)
theorem ml_X12_295 : Cond.methodLink RX12 295 yX12_isSign ∈ gtb := gt (List.mem_of_getElem? (i := 1779) (by decide +kernel)) (by decide +kernel)
theorem ml_X12_298 : Cond.methodLink RX12 298 yX12_readNumber ∈ gtb := gt (List.mem_of_getElem? (i := 1768) (by decide +kernel)) (by decide +kernel)
theorem ml_X12_301 : Cond.methodLink RX12 301 yX12_isThere ∈ gtb := gt (List.mem_of_getElem? (i := 1760) (by decide +kernel)) (by decide +kernel)
theorem ml_X12_305 : Cond.methodLink RX12 305 yX12_readOnce ∈ gtb := gt (List.mem_of_getElem? (i := 1764) (by decide +kernel)) (by decide +kernel)
theorem ml_X12_309 : Cond.methodLink RX12 309 yX12_drafts ∈ gtb := gt (List.mem_of_getElem? (i := 1772) (by decide +kernel)) (by decide +kernel)
theorem ml_X12_312 : Cond.methodLink RX12 312 yX12_readSigned ∈ gtb := gt (List.mem_of_getElem? (i := 1775) (by decide +kernel)) (by decide +kernel)
theorem ml_X12_315 : Cond.methodLink RX12 315 yX12_require ∈ gtb := gt (List.mem_of_getElem? (i := 1791) (by decide +kernel)) (by decide +kernel)
theorem ml_X12_318 : Cond.methodLink RX12 318 yX12_parseMask ∈ gtb := gt (List.mem_of_getElem? (i := 1807) (by decide +kernel)) (by decide +kernel)
theorem ml_X12_321 : Cond.methodLink RX12 321 yX12_parseChannel ∈ gtb := gt (List.mem_of_getElem? (i := 1756) (by decide +kernel)) (by decide +kernel)
theorem ml_X12_324 : Cond.methodLink RX12 324 yX12_parseEntries ∈ gtb := gt (List.mem_of_getElem? (i := 1783) (by decide +kernel)) (by decide +kernel)
theorem ml_X12_327 : Cond.methodLink RX12 327 yX12_parseOver ∈ gtb := gt (List.mem_of_getElem? (i := 1787) (by decide +kernel)) (by decide +kernel)
theorem ml_X12_330 : Cond.methodLink RX12 330 yX12_parseWindow ∈ gtb := gt (List.mem_of_getElem? (i := 1803) (by decide +kernel)) (by decide +kernel)
theorem ml_X12_333 : Cond.methodLink RX12 333 yX12_parseTrigger ∈ gtb := gt (List.mem_of_getElem? (i := 1811) (by decide +kernel)) (by decide +kernel)
theorem ml_X12_336 : Cond.methodLink RX12 336 yX12_isStatement ∈ gtb := gt (List.mem_of_getElem? (i := 1742) (by decide +kernel)) (by decide +kernel)
theorem ml_X12_339 : Cond.methodLink RX12 339 yX12_isManyTimes ∈ gtb := gt (List.mem_of_getElem? (i := 1749) (by decide +kernel)) (by decide +kernel)
theorem ml_X12_342 : Cond.methodLink RX12 342 yX12_parseBehind ∈ gtb := gt (List.mem_of_getElem? (i := 1752) (by decide +kernel)) (by decide +kernel)
theorem ml_X12_345 : Cond.methodLink RX12 345 yX12_parseStatement ∈ gtb := gt (List.mem_of_getElem? (i := 1738) (by decide +kernel)) (by decide +kernel)
theorem my_X12_accepts : MY yX12_accepts cX12_accepts 3 (some .boolean) 1 := ⟨gt (List.mem_of_getElem? (i := 1798) (by decide +kernel)) (by decide +kernel), gt (List.mem_of_getElem? (i := 102) (by decide +kernel)) (by decide +kernel), ⟨by decide +kernel, by decide +kernel, by decide +kernel⟩, by decide +kernel⟩
theorem my_X12_adds : MY yX12_adds cX12_adds 3 none 2 := ⟨gt (List.mem_of_getElem? (i := 1472) (by decide +kernel)) (by decide +kernel), gt (List.mem_of_getElem? (i := 102) (by decide +kernel)) (by decide +kernel), ⟨by decide +kernel, by decide +kernel, by decide +kernel⟩, by decide +kernel⟩
theorem my_X12_appendWord : MY yX12_appendWord cX12_appendWord 3 none 1 := ⟨gt (List.mem_of_getElem? (i := 1325) (by decide +kernel)) (by decide +kernel), gt (List.mem_of_getElem? (i := 102) (by decide +kernel)) (by decide +kernel), ⟨by decide +kernel, by decide +kernel, by decide +kernel⟩, by decide +kernel⟩
theorem my_X12_beginPass : MY yX12_beginPass cX12_beginPass 4 none 1 := ⟨gt (List.mem_of_getElem? (i := 1484) (by decide +kernel)) (by decide +kernel), gt (List.mem_of_getElem? (i := 102) (by decide +kernel)) (by decide +kernel), ⟨by decide +kernel, by decide +kernel, by decide +kernel⟩, by decide +kernel⟩
theorem my_X12_beginTrial : MY yX12_beginTrial cX12_beginTrial 1 none 0 := ⟨gt (List.mem_of_getElem? (i := 1659) (by decide +kernel)) (by decide +kernel), gt (List.mem_of_getElem? (i := 102) (by decide +kernel)) (by decide +kernel), ⟨by decide +kernel, by decide +kernel, by decide +kernel⟩, by decide +kernel⟩
theorem my_X12_breakOff : MY yX12_breakOff cX12_breakOff 1 none 0 := ⟨gt (List.mem_of_getElem? (i := 1491) (by decide +kernel)) (by decide +kernel), gt (List.mem_of_getElem? (i := 102) (by decide +kernel)) (by decide +kernel), ⟨by decide +kernel, by decide +kernel, by decide +kernel⟩, by decide +kernel⟩
theorem my_X12_byteAt : MY yX12_byteAt cX12_byteAt 2 (some .int) 1 := ⟨gt (List.mem_of_getElem? (i := 1715) (by decide +kernel)) (by decide +kernel), gt (List.mem_of_getElem? (i := 102) (by decide +kernel)) (by decide +kernel), ⟨by decide +kernel, by decide +kernel, by decide +kernel⟩, by decide +kernel⟩
theorem my_X12_chan : MY yX12_chan cX12_chan 2 (some .int) 2 := ⟨gt (List.mem_of_getElem? (i := 1380) (by decide +kernel)) (by decide +kernel), gt (List.mem_of_getElem? (i := 102) (by decide +kernel)) (by decide +kernel), ⟨by decide +kernel, by decide +kernel, by decide +kernel⟩, by decide +kernel⟩
theorem my_X12_clearResult : MY yX12_clearResult cX12_clearResult 2 none 1 := ⟨gt (List.mem_of_getElem? (i := 1495) (by decide +kernel)) (by decide +kernel), gt (List.mem_of_getElem? (i := 102) (by decide +kernel)) (by decide +kernel), ⟨by decide +kernel, by decide +kernel, by decide +kernel⟩, by decide +kernel⟩
theorem my_X12_convert : MY yX12_convert cX12_convert 3 none 0 := ⟨gt (List.mem_of_getElem? (i := 1507) (by decide +kernel)) (by decide +kernel), gt (List.mem_of_getElem? (i := 102) (by decide +kernel)) (by decide +kernel), ⟨by decide +kernel, by decide +kernel, by decide +kernel⟩, by decide +kernel⟩
theorem my_X12_copyBlock : MY yX12_copyBlock cX12_copyBlock 4 none 2 := ⟨gt (List.mem_of_getElem? (i := 1663) (by decide +kernel)) (by decide +kernel), gt (List.mem_of_getElem? (i := 102) (by decide +kernel)) (by decide +kernel), ⟨by decide +kernel, by decide +kernel, by decide +kernel⟩, by decide +kernel⟩
theorem my_X12_countChannel : MY yX12_countChannel cX12_countChannel 4 none 2 := ⟨gt (List.mem_of_getElem? (i := 1519) (by decide +kernel)) (by decide +kernel), gt (List.mem_of_getElem? (i := 102) (by decide +kernel)) (by decide +kernel), ⟨by decide +kernel, by decide +kernel, by decide +kernel⟩, by decide +kernel⟩
theorem my_X12_drafts : MY yX12_drafts cX12_drafts 1 (some .int) 1 := ⟨gt (List.mem_of_getElem? (i := 1774) (by decide +kernel)) (by decide +kernel), gt (List.mem_of_getElem? (i := 102) (by decide +kernel)) (by decide +kernel), ⟨by decide +kernel, by decide +kernel, by decide +kernel⟩, by decide +kernel⟩
theorem my_X12_dropOldest : MY yX12_dropOldest cX12_dropOldest 2 none 0 := ⟨gt (List.mem_of_getElem? (i := 1534) (by decide +kernel)) (by decide +kernel), gt (List.mem_of_getElem? (i := 102) (by decide +kernel)) (by decide +kernel), ⟨by decide +kernel, by decide +kernel, by decide +kernel⟩, by decide +kernel⟩
theorem my_X12_endPass : MY yX12_endPass cX12_endPass 2 none 1 := ⟨gt (List.mem_of_getElem? (i := 1542) (by decide +kernel)) (by decide +kernel), gt (List.mem_of_getElem? (i := 102) (by decide +kernel)) (by decide +kernel), ⟨by decide +kernel, by decide +kernel, by decide +kernel⟩, by decide +kernel⟩
theorem my_X12_endTrial : MY yX12_endTrial cX12_endTrial 2 (some .int) 1 := ⟨gt (List.mem_of_getElem? (i := 1667) (by decide +kernel)) (by decide +kernel), gt (List.mem_of_getElem? (i := 102) (by decide +kernel)) (by decide +kernel), ⟨by decide +kernel, by decide +kernel, by decide +kernel⟩, by decide +kernel⟩
theorem my_X12_enqueue : MY yX12_enqueue cX12_enqueue 4 none 3 := ⟨gt (List.mem_of_getElem? (i := 1530) (by decide +kernel)) (by decide +kernel), gt (List.mem_of_getElem? (i := 102) (by decide +kernel)) (by decide +kernel), ⟨by decide +kernel, by decide +kernel, by decide +kernel⟩, by decide +kernel⟩
theorem my_X12_entries : MY yX12_entries cX12_entries 2 (some .int) 1 := ⟨gt (List.mem_of_getElem? (i := 1476) (by decide +kernel)) (by decide +kernel), gt (List.mem_of_getElem? (i := 102) (by decide +kernel)) (by decide +kernel), ⟨by decide +kernel, by decide +kernel, by decide +kernel⟩, by decide +kernel⟩
theorem my_X12_entryOf : MY yX12_entryOf cX12_entryOf 3 (some .int) 2 := ⟨gt (List.mem_of_getElem? (i := 1503) (by decide +kernel)) (by decide +kernel), gt (List.mem_of_getElem? (i := 102) (by decide +kernel)) (by decide +kernel), ⟨by decide +kernel, by decide +kernel, by decide +kernel⟩, by decide +kernel⟩
theorem my_X12_fail : MY yX12_fail cX12_fail 2 none 1 := ⟨gt (List.mem_of_getElem? (i := 1748) (by decide +kernel)) (by decide +kernel), gt (List.mem_of_getElem? (i := 102) (by decide +kernel)) (by decide +kernel), ⟨by decide +kernel, by decide +kernel, by decide +kernel⟩, by decide +kernel⟩
theorem my_X12_fails : MY yX12_fails cX12_fails 4 (some .boolean) 3 := ⟨gt (List.mem_of_getElem? (i := 1321) (by decide +kernel)) (by decide +kernel), gt (List.mem_of_getElem? (i := 102) (by decide +kernel)) (by decide +kernel), ⟨by decide +kernel, by decide +kernel, by decide +kernel⟩, by decide +kernel⟩
theorem my_X12_finishResult : MY yX12_finishResult cX12_finishResult 7 none 2 := ⟨gt (List.mem_of_getElem? (i := 1515) (by decide +kernel)) (by decide +kernel), gt (List.mem_of_getElem? (i := 102) (by decide +kernel)) (by decide +kernel), ⟨by decide +kernel, by decide +kernel, by decide +kernel⟩, by decide +kernel⟩
theorem my_X12_fireTimers : MY yX12_fireTimers cX12_fireTimers 4 none 0 := ⟨gt (List.mem_of_getElem? (i := 1461) (by decide +kernel)) (by decide +kernel), gt (List.mem_of_getElem? (i := 102) (by decide +kernel)) (by decide +kernel), ⟨by decide +kernel, by decide +kernel, by decide +kernel⟩, by decide +kernel⟩
theorem my_X12_fires : MY yX12_fires cX12_fires 3 (some .boolean) 1 := ⟨gt (List.mem_of_getElem? (i := 1465) (by decide +kernel)) (by decide +kernel), gt (List.mem_of_getElem? (i := 102) (by decide +kernel)) (by decide +kernel), ⟨by decide +kernel, by decide +kernel, by decide +kernel⟩, by decide +kernel⟩
theorem my_X12_first : MY yX12_first cX12_first 3 none 1 := ⟨gt (List.mem_of_getElem? (i := 1370) (by decide +kernel)) (by decide +kernel), gt (List.mem_of_getElem? (i := 102) (by decide +kernel)) (by decide +kernel), ⟨by decide +kernel, by decide +kernel, by decide +kernel⟩, by decide +kernel⟩
theorem my_X12_firstSettings : MY yX12_firstSettings cX12_firstSettings 3 none 1 := ⟨gt (List.mem_of_getElem? (i := 1366) (by decide +kernel)) (by decide +kernel), gt (List.mem_of_getElem? (i := 102) (by decide +kernel)) (by decide +kernel), ⟨by decide +kernel, by decide +kernel, by decide +kernel⟩, by decide +kernel⟩
theorem my_X12_idle : MY yX12_idle cX12_idle 2 none 1 := ⟨gt (List.mem_of_getElem? (i := 1546) (by decide +kernel)) (by decide +kernel), gt (List.mem_of_getElem? (i := 102) (by decide +kernel)) (by decide +kernel), ⟨by decide +kernel, by decide +kernel, by decide +kernel⟩, by decide +kernel⟩
theorem my_X12_inRange : MY yX12_inRange cX12_inRange 3 (some .boolean) 3 := ⟨gt (List.mem_of_getElem? (i := 1332) (by decide +kernel)) (by decide +kernel), gt (List.mem_of_getElem? (i := 102) (by decide +kernel)) (by decide +kernel), ⟨by decide +kernel, by decide +kernel, by decide +kernel⟩, by decide +kernel⟩
theorem my_X12_isChannel : MY yX12_isChannel cX12_isChannel 2 (some .boolean) 1 := ⟨gt (List.mem_of_getElem? (i := 1582) (by decide +kernel)) (by decide +kernel), gt (List.mem_of_getElem? (i := 102) (by decide +kernel)) (by decide +kernel), ⟨by decide +kernel, by decide +kernel, by decide +kernel⟩, by decide +kernel⟩
theorem my_X12_isDigit : MY yX12_isDigit cX12_isDigit 2 (some .boolean) 1 := ⟨gt (List.mem_of_getElem? (i := 1729) (by decide +kernel)) (by decide +kernel), gt (List.mem_of_getElem? (i := 102) (by decide +kernel)) (by decide +kernel), ⟨by decide +kernel, by decide +kernel, by decide +kernel⟩, by decide +kernel⟩
theorem my_X12_isKeyword : MY yX12_isKeyword cX12_isKeyword 2 (some .boolean) 1 := ⟨gt (List.mem_of_getElem? (i := 1802) (by decide +kernel)) (by decide +kernel), gt (List.mem_of_getElem? (i := 102) (by decide +kernel)) (by decide +kernel), ⟨by decide +kernel, by decide +kernel, by decide +kernel⟩, by decide +kernel⟩
theorem my_X12_isLetter : MY yX12_isLetter cX12_isLetter 2 (some .boolean) 1 := ⟨gt (List.mem_of_getElem? (i := 1719) (by decide +kernel)) (by decide +kernel), gt (List.mem_of_getElem? (i := 102) (by decide +kernel)) (by decide +kernel), ⟨by decide +kernel, by decide +kernel, by decide +kernel⟩, by decide +kernel⟩
theorem my_X12_isManyTimes : MY yX12_isManyTimes cX12_isManyTimes 1 (some .boolean) 1 := ⟨gt (List.mem_of_getElem? (i := 1751) (by decide +kernel)) (by decide +kernel), gt (List.mem_of_getElem? (i := 102) (by decide +kernel)) (by decide +kernel), ⟨by decide +kernel, by decide +kernel, by decide +kernel⟩, by decide +kernel⟩
theorem my_X12_isSign : MY yX12_isSign cX12_isSign 2 (some .boolean) 1 := ⟨gt (List.mem_of_getElem? (i := 1782) (by decide +kernel)) (by decide +kernel), gt (List.mem_of_getElem? (i := 102) (by decide +kernel)) (by decide +kernel), ⟨by decide +kernel, by decide +kernel, by decide +kernel⟩, by decide +kernel⟩
theorem my_X12_isStatement : MY yX12_isStatement cX12_isStatement 1 (some .boolean) 1 := ⟨gt (List.mem_of_getElem? (i := 1744) (by decide +kernel)) (by decide +kernel), gt (List.mem_of_getElem? (i := 102) (by decide +kernel)) (by decide +kernel), ⟨by decide +kernel, by decide +kernel, by decide +kernel⟩, by decide +kernel⟩
theorem my_X12_isThere : MY yX12_isThere cX12_isThere 2 (some .boolean) 1 := ⟨gt (List.mem_of_getElem? (i := 1763) (by decide +kernel)) (by decide +kernel), gt (List.mem_of_getElem? (i := 102) (by decide +kernel)) (by decide +kernel), ⟨by decide +kernel, by decide +kernel, by decide +kernel⟩, by decide +kernel⟩
theorem my_X12_isTrigger : MY yX12_isTrigger cX12_isTrigger 2 (some .boolean) 1 := ⟨gt (List.mem_of_getElem? (i := 1558) (by decide +kernel)) (by decide +kernel), gt (List.mem_of_getElem? (i := 102) (by decide +kernel)) (by decide +kernel), ⟨by decide +kernel, by decide +kernel, by decide +kernel⟩, by decide +kernel⟩
theorem my_X12_isWindow : MY yX12_isWindow cX12_isWindow 2 (some .boolean) 1 := ⟨gt (List.mem_of_getElem? (i := 1574) (by decide +kernel)) (by decide +kernel), gt (List.mem_of_getElem? (i := 102) (by decide +kernel)) (by decide +kernel), ⟨by decide +kernel, by decide +kernel, by decide +kernel⟩, by decide +kernel⟩
theorem my_X12_its : MY yX12_its cX12_its 2 (some .int) 1 := ⟨gt (List.mem_of_getElem? (i := 1453) (by decide +kernel)) (by decide +kernel), gt (List.mem_of_getElem? (i := 102) (by decide +kernel)) (by decide +kernel), ⟨by decide +kernel, by decide +kernel, by decide +kernel⟩, by decide +kernel⟩
theorem my_X12_lesser : MY yX12_lesser cX12_lesser 2 (some .int) 2 := ⟨gt (List.mem_of_getElem? (i := 1487) (by decide +kernel)) (by decide +kernel), gt (List.mem_of_getElem? (i := 102) (by decide +kernel)) (by decide +kernel), ⟨by decide +kernel, by decide +kernel, by decide +kernel⟩, by decide +kernel⟩
theorem my_X12_lookAt : MY yX12_lookAt cX12_lookAt 6 none 4 := ⟨gt (List.mem_of_getElem? (i := 1523) (by decide +kernel)) (by decide +kernel), gt (List.mem_of_getElem? (i := 102) (by decide +kernel)) (by decide +kernel), ⟨by decide +kernel, by decide +kernel, by decide +kernel⟩, by decide +kernel⟩
theorem my_X12_next : MY yX12_next cX12_next 1 none 0 := ⟨gt (List.mem_of_getElem? (i := 1711) (by decide +kernel)) (by decide +kernel), gt (List.mem_of_getElem? (i := 102) (by decide +kernel)) (by decide +kernel), ⟨by decide +kernel, by decide +kernel, by decide +kernel⟩, by decide +kernel⟩
theorem my_X12_ok : MY yX12_ok cX12_ok 1 (some .boolean) 0 := ⟨gt (List.mem_of_getElem? (i := 1737) (by decide +kernel)) (by decide +kernel), gt (List.mem_of_getElem? (i := 102) (by decide +kernel)) (by decide +kernel), ⟨by decide +kernel, by decide +kernel, by decide +kernel⟩, by decide +kernel⟩
theorem my_X12_overrunsAt : MY yX12_overrunsAt cX12_overrunsAt 5 (some .int) 2 := ⟨gt (List.mem_of_getElem? (i := 1679) (by decide +kernel)) (by decide +kernel), gt (List.mem_of_getElem? (i := 102) (by decide +kernel)) (by decide +kernel), ⟨by decide +kernel, by decide +kernel, by decide +kernel⟩, by decide +kernel⟩
theorem my_X12_parseBehind : MY yX12_parseBehind cX12_parseBehind 2 none 1 := ⟨gt (List.mem_of_getElem? (i := 1755) (by decide +kernel)) (by decide +kernel), gt (List.mem_of_getElem? (i := 102) (by decide +kernel)) (by decide +kernel), ⟨by decide +kernel, by decide +kernel, by decide +kernel⟩, by decide +kernel⟩
theorem my_X12_parseChannel : MY yX12_parseChannel cX12_parseChannel 5 none 0 := ⟨gt (List.mem_of_getElem? (i := 1759) (by decide +kernel)) (by decide +kernel), gt (List.mem_of_getElem? (i := 102) (by decide +kernel)) (by decide +kernel), ⟨by decide +kernel, by decide +kernel, by decide +kernel⟩, by decide +kernel⟩
theorem my_X12_parseEntries : MY yX12_parseEntries cX12_parseEntries 5 none 2 := ⟨gt (List.mem_of_getElem? (i := 1786) (by decide +kernel)) (by decide +kernel), gt (List.mem_of_getElem? (i := 102) (by decide +kernel)) (by decide +kernel), ⟨by decide +kernel, by decide +kernel, by decide +kernel⟩, by decide +kernel⟩
theorem my_X12_parseMask : MY yX12_parseMask cX12_parseMask 4 none 1 := ⟨gt (List.mem_of_getElem? (i := 1810) (by decide +kernel)) (by decide +kernel), gt (List.mem_of_getElem? (i := 102) (by decide +kernel)) (by decide +kernel), ⟨by decide +kernel, by decide +kernel, by decide +kernel⟩, by decide +kernel⟩
theorem my_X12_parseOver : MY yX12_parseOver cX12_parseOver 1 none 0 := ⟨gt (List.mem_of_getElem? (i := 1790) (by decide +kernel)) (by decide +kernel), gt (List.mem_of_getElem? (i := 102) (by decide +kernel)) (by decide +kernel), ⟨by decide +kernel, by decide +kernel, by decide +kernel⟩, by decide +kernel⟩
theorem my_X12_parseStatement : MY yX12_parseStatement cX12_parseStatement 2 none 0 := ⟨gt (List.mem_of_getElem? (i := 1741) (by decide +kernel)) (by decide +kernel), gt (List.mem_of_getElem? (i := 102) (by decide +kernel)) (by decide +kernel), ⟨by decide +kernel, by decide +kernel, by decide +kernel⟩, by decide +kernel⟩
theorem my_X12_parseTrigger : MY yX12_parseTrigger cX12_parseTrigger 2 none 0 := ⟨gt (List.mem_of_getElem? (i := 1814) (by decide +kernel)) (by decide +kernel), gt (List.mem_of_getElem? (i := 102) (by decide +kernel)) (by decide +kernel), ⟨by decide +kernel, by decide +kernel, by decide +kernel⟩, by decide +kernel⟩
theorem my_X12_parseWindow : MY yX12_parseWindow cX12_parseWindow 5 none 0 := ⟨gt (List.mem_of_getElem? (i := 1806) (by decide +kernel)) (by decide +kernel), gt (List.mem_of_getElem? (i := 102) (by decide +kernel)) (by decide +kernel), ⟨by decide +kernel, by decide +kernel, by decide +kernel⟩, by decide +kernel⟩
theorem my_X12_passCycle : MY yX12_passCycle cX12_passCycle 1 none 0 := ⟨gt (List.mem_of_getElem? (i := 1457) (by decide +kernel)) (by decide +kernel), gt (List.mem_of_getElem? (i := 102) (by decide +kernel)) (by decide +kernel), ⟨by decide +kernel, by decide +kernel, by decide +kernel⟩, by decide +kernel⟩
theorem my_X12_putRow : MY yX12_putRow cX12_putRow 6 none 5 := ⟨gt (List.mem_of_getElem? (i := 1538) (by decide +kernel)) (by decide +kernel), gt (List.mem_of_getElem? (i := 102) (by decide +kernel)) (by decide +kernel), ⟨by decide +kernel, by decide +kernel, by decide +kernel⟩, by decide +kernel⟩
theorem my_X12_puts : MY yX12_puts cX12_puts 3 none 2 := ⟨gt (List.mem_of_getElem? (i := 1374) (by decide +kernel)) (by decide +kernel), gt (List.mem_of_getElem? (i := 102) (by decide +kernel)) (by decide +kernel), ⟨by decide +kernel, by decide +kernel, by decide +kernel⟩, by decide +kernel⟩
theorem my_X12_readNumber : MY yX12_readNumber cX12_readNumber 4 (some .int) 2 := ⟨gt (List.mem_of_getElem? (i := 1771) (by decide +kernel)) (by decide +kernel), gt (List.mem_of_getElem? (i := 102) (by decide +kernel)) (by decide +kernel), ⟨by decide +kernel, by decide +kernel, by decide +kernel⟩, by decide +kernel⟩
theorem my_X12_readOnce : MY yX12_readOnce cX12_readOnce 3 (some .int) 2 := ⟨gt (List.mem_of_getElem? (i := 1767) (by decide +kernel)) (by decide +kernel), gt (List.mem_of_getElem? (i := 102) (by decide +kernel)) (by decide +kernel), ⟨by decide +kernel, by decide +kernel, by decide +kernel⟩, by decide +kernel⟩
theorem my_X12_readSigned : MY yX12_readSigned cX12_readSigned 4 (some .int) 1 := ⟨gt (List.mem_of_getElem? (i := 1778) (by decide +kernel)) (by decide +kernel), gt (List.mem_of_getElem? (i := 102) (by decide +kernel)) (by decide +kernel), ⟨by decide +kernel, by decide +kernel, by decide +kernel⟩, by decide +kernel⟩
theorem my_X12_require : MY yX12_require cX12_require 2 none 1 := ⟨gt (List.mem_of_getElem? (i := 1794) (by decide +kernel)) (by decide +kernel), gt (List.mem_of_getElem? (i := 102) (by decide +kernel)) (by decide +kernel), ⟨by decide +kernel, by decide +kernel, by decide +kernel⟩, by decide +kernel⟩
theorem my_X12_scanNumber : MY yX12_scanNumber cX12_scanNumber 1 none 0 := ⟨gt (List.mem_of_getElem? (i := 1733) (by decide +kernel)) (by decide +kernel), gt (List.mem_of_getElem? (i := 102) (by decide +kernel)) (by decide +kernel), ⟨by decide +kernel, by decide +kernel, by decide +kernel⟩, by decide +kernel⟩
theorem my_X12_scanWord : MY yX12_scanWord cX12_scanWord 4 none 0 := ⟨gt (List.mem_of_getElem? (i := 1723) (by decide +kernel)) (by decide +kernel), gt (List.mem_of_getElem? (i := 102) (by decide +kernel)) (by decide +kernel), ⟨by decide +kernel, by decide +kernel, by decide +kernel⟩, by decide +kernel⟩
theorem my_X12_seq : MY yX12_seq cX12_seq 2 (some .int) 2 := ⟨gt (List.mem_of_getElem? (i := 1377) (by decide +kernel)) (by decide +kernel), gt (List.mem_of_getElem? (i := 102) (by decide +kernel)) (by decide +kernel), ⟨by decide +kernel, by decide +kernel, by decide +kernel⟩, by decide +kernel⟩
theorem my_X12_signalOf : MY yX12_signalOf cX12_signalOf 4 (some .int) 2 := ⟨gt (List.mem_of_getElem? (i := 1511) (by decide +kernel)) (by decide +kernel), gt (List.mem_of_getElem? (i := 102) (by decide +kernel)) (by decide +kernel), ⟨by decide +kernel, by decide +kernel, by decide +kernel⟩, by decide +kernel⟩
theorem my_X12_startConversion : MY yX12_startConversion cX12_startConversion 3 none 0 := ⟨gt (List.mem_of_getElem? (i := 1499) (by decide +kernel)) (by decide +kernel), gt (List.mem_of_getElem? (i := 102) (by decide +kernel)) (by decide +kernel), ⟨by decide +kernel, by decide +kernel, by decide +kernel⟩, by decide +kernel⟩
theorem my_X12_startSequence : MY yX12_startSequence cX12_startSequence 3 none 2 := ⟨gt (List.mem_of_getElem? (i := 1480) (by decide +kernel)) (by decide +kernel), gt (List.mem_of_getElem? (i := 102) (by decide +kernel)) (by decide +kernel), ⟨by decide +kernel, by decide +kernel, by decide +kernel⟩, by decide +kernel⟩
theorem my_X12_transfer : MY yX12_transfer cX12_transfer 3 none 0 := ⟨gt (List.mem_of_getElem? (i := 1550) (by decide +kernel)) (by decide +kernel), gt (List.mem_of_getElem? (i := 102) (by decide +kernel)) (by decide +kernel), ⟨by decide +kernel, by decide +kernel, by decide +kernel⟩, by decide +kernel⟩
theorem my_X12_trig : MY yX12_trig cX12_trig 2 (some .int) 2 := ⟨gt (List.mem_of_getElem? (i := 1468) (by decide +kernel)) (by decide +kernel), gt (List.mem_of_getElem? (i := 102) (by decide +kernel)) (by decide +kernel), ⟨by decide +kernel, by decide +kernel, by decide +kernel⟩, by decide +kernel⟩
theorem my_X12_win : MY yX12_win cX12_win 2 (some .int) 2 := ⟨gt (List.mem_of_getElem? (i := 1526) (by decide +kernel)) (by decide +kernel), gt (List.mem_of_getElem? (i := 102) (by decide +kernel)) (by decide +kernel), ⟨by decide +kernel, by decide +kernel, by decide +kernel⟩, by decide +kernel⟩
theorem my_X5_number : MY yX5_number cX5_number 3 (some .int) 2 := ⟨gt (List.mem_of_getElem? (i := 1031) (by decide +kernel)) (by decide +kernel), gt (List.mem_of_getElem? (i := 94) (by decide +kernel)) (by decide +kernel), ⟨by decide +kernel, by decide +kernel, by decide +kernel⟩, by decide +kernel⟩
theorem my_X5_put : MY yX5_put cX5_put 7 none 5 := ⟨gt (List.mem_of_getElem? (i := 1005) (by decide +kernel)) (by decide +kernel), gt (List.mem_of_getElem? (i := 94) (by decide +kernel)) (by decide +kernel), ⟨by decide +kernel, by decide +kernel, by decide +kernel⟩, by decide +kernel⟩
theorem my_X5_removeOldest : MY yX5_removeOldest cX5_removeOldest 1 none 0 := ⟨gt (List.mem_of_getElem? (i := 1013) (by decide +kernel)) (by decide +kernel), gt (List.mem_of_getElem? (i := 94) (by decide +kernel)) (by decide +kernel), ⟨by decide +kernel, by decide +kernel, by decide +kernel⟩, by decide +kernel⟩
theorem my_X6_beginPass : MY yX6_beginPass cX6_beginPass 2 none 0 := ⟨gt (List.mem_of_getElem? (i := 972) (by decide +kernel)) (by decide +kernel), gt (List.mem_of_getElem? (i := 92) (by decide +kernel)) (by decide +kernel), ⟨by decide +kernel, by decide +kernel, by decide +kernel⟩, by decide +kernel⟩
theorem vy_X12_accepts : VY yX12_accepts := ⟨gt (List.mem_of_getElem? (i := 1797) (by decide +kernel)) (by decide +kernel), gt (List.mem_of_getElem? (i := 84) (by decide +kernel)) (by decide +kernel)⟩
theorem vy_X12_adds : VY yX12_adds := ⟨gt (List.mem_of_getElem? (i := 1471) (by decide +kernel)) (by decide +kernel), gt (List.mem_of_getElem? (i := 39) (by decide +kernel)) (by decide +kernel)⟩
theorem vy_X12_appendWord : VY yX12_appendWord := ⟨gt (List.mem_of_getElem? (i := 1324) (by decide +kernel)) (by decide +kernel), gt (List.mem_of_getElem? (i := 31) (by decide +kernel)) (by decide +kernel)⟩
theorem vy_X12_beginPass : VY yX12_beginPass := ⟨gt (List.mem_of_getElem? (i := 1483) (by decide +kernel)) (by decide +kernel), gt (List.mem_of_getElem? (i := 42) (by decide +kernel)) (by decide +kernel)⟩
theorem vy_X12_beginTrial : VY yX12_beginTrial := ⟨gt (List.mem_of_getElem? (i := 1658) (by decide +kernel)) (by decide +kernel), gt (List.mem_of_getElem? (i := 61) (by decide +kernel)) (by decide +kernel)⟩
theorem vy_X12_breakOff : VY yX12_breakOff := ⟨gt (List.mem_of_getElem? (i := 1490) (by decide +kernel)) (by decide +kernel), gt (List.mem_of_getElem? (i := 43) (by decide +kernel)) (by decide +kernel)⟩
theorem vy_X12_byteAt : VY yX12_byteAt := ⟨gt (List.mem_of_getElem? (i := 1714) (by decide +kernel)) (by decide +kernel), gt (List.mem_of_getElem? (i := 66) (by decide +kernel)) (by decide +kernel)⟩
theorem vy_X12_clearResult : VY yX12_clearResult := ⟨gt (List.mem_of_getElem? (i := 1494) (by decide +kernel)) (by decide +kernel), gt (List.mem_of_getElem? (i := 44) (by decide +kernel)) (by decide +kernel)⟩
theorem vy_X12_convert : VY yX12_convert := ⟨gt (List.mem_of_getElem? (i := 1506) (by decide +kernel)) (by decide +kernel), gt (List.mem_of_getElem? (i := 47) (by decide +kernel)) (by decide +kernel)⟩
theorem vy_X12_copyBlock : VY yX12_copyBlock := ⟨gt (List.mem_of_getElem? (i := 1662) (by decide +kernel)) (by decide +kernel), gt (List.mem_of_getElem? (i := 62) (by decide +kernel)) (by decide +kernel)⟩
theorem vy_X12_countChannel : VY yX12_countChannel := ⟨gt (List.mem_of_getElem? (i := 1518) (by decide +kernel)) (by decide +kernel), gt (List.mem_of_getElem? (i := 50) (by decide +kernel)) (by decide +kernel)⟩
theorem vy_X12_dropOldest : VY yX12_dropOldest := ⟨gt (List.mem_of_getElem? (i := 1533) (by decide +kernel)) (by decide +kernel), gt (List.mem_of_getElem? (i := 53) (by decide +kernel)) (by decide +kernel)⟩
theorem vy_X12_endPass : VY yX12_endPass := ⟨gt (List.mem_of_getElem? (i := 1541) (by decide +kernel)) (by decide +kernel), gt (List.mem_of_getElem? (i := 55) (by decide +kernel)) (by decide +kernel)⟩
theorem vy_X12_endTrial : VY yX12_endTrial := ⟨gt (List.mem_of_getElem? (i := 1666) (by decide +kernel)) (by decide +kernel), gt (List.mem_of_getElem? (i := 63) (by decide +kernel)) (by decide +kernel)⟩
theorem vy_X12_enqueue : VY yX12_enqueue := ⟨gt (List.mem_of_getElem? (i := 1529) (by decide +kernel)) (by decide +kernel), gt (List.mem_of_getElem? (i := 52) (by decide +kernel)) (by decide +kernel)⟩
theorem vy_X12_entries : VY yX12_entries := ⟨gt (List.mem_of_getElem? (i := 1475) (by decide +kernel)) (by decide +kernel), gt (List.mem_of_getElem? (i := 40) (by decide +kernel)) (by decide +kernel)⟩
theorem vy_X12_entryOf : VY yX12_entryOf := ⟨gt (List.mem_of_getElem? (i := 1502) (by decide +kernel)) (by decide +kernel), gt (List.mem_of_getElem? (i := 46) (by decide +kernel)) (by decide +kernel)⟩
theorem vy_X12_fail : VY yX12_fail := ⟨gt (List.mem_of_getElem? (i := 1747) (by decide +kernel)) (by decide +kernel), gt (List.mem_of_getElem? (i := 73) (by decide +kernel)) (by decide +kernel)⟩
theorem vy_X12_fails : VY yX12_fails := ⟨gt (List.mem_of_getElem? (i := 1319) (by decide +kernel)) (by decide +kernel), gt (List.mem_of_getElem? (i := 30) (by decide +kernel)) (by decide +kernel)⟩
theorem vy_X12_finishResult : VY yX12_finishResult := ⟨gt (List.mem_of_getElem? (i := 1514) (by decide +kernel)) (by decide +kernel), gt (List.mem_of_getElem? (i := 49) (by decide +kernel)) (by decide +kernel)⟩
theorem vy_X12_fireTimers : VY yX12_fireTimers := ⟨gt (List.mem_of_getElem? (i := 1460) (by decide +kernel)) (by decide +kernel), gt (List.mem_of_getElem? (i := 37) (by decide +kernel)) (by decide +kernel)⟩
theorem vy_X12_fires : VY yX12_fires := ⟨gt (List.mem_of_getElem? (i := 1464) (by decide +kernel)) (by decide +kernel), gt (List.mem_of_getElem? (i := 38) (by decide +kernel)) (by decide +kernel)⟩
theorem vy_X12_first : VY yX12_first := ⟨gt (List.mem_of_getElem? (i := 1369) (by decide +kernel)) (by decide +kernel), gt (List.mem_of_getElem? (i := 33) (by decide +kernel)) (by decide +kernel)⟩
theorem vy_X12_firstSettings : VY yX12_firstSettings := ⟨gt (List.mem_of_getElem? (i := 1365) (by decide +kernel)) (by decide +kernel), gt (List.mem_of_getElem? (i := 32) (by decide +kernel)) (by decide +kernel)⟩
theorem vy_X12_idle : VY yX12_idle := ⟨gt (List.mem_of_getElem? (i := 1545) (by decide +kernel)) (by decide +kernel), gt (List.mem_of_getElem? (i := 56) (by decide +kernel)) (by decide +kernel)⟩
theorem vy_X12_isChannel : VY yX12_isChannel := ⟨gt (List.mem_of_getElem? (i := 1581) (by decide +kernel)) (by decide +kernel), gt (List.mem_of_getElem? (i := 60) (by decide +kernel)) (by decide +kernel)⟩
theorem vy_X12_isDigit : VY yX12_isDigit := ⟨gt (List.mem_of_getElem? (i := 1728) (by decide +kernel)) (by decide +kernel), gt (List.mem_of_getElem? (i := 69) (by decide +kernel)) (by decide +kernel)⟩
theorem vy_X12_isKeyword : VY yX12_isKeyword := ⟨gt (List.mem_of_getElem? (i := 1801) (by decide +kernel)) (by decide +kernel), gt (List.mem_of_getElem? (i := 85) (by decide +kernel)) (by decide +kernel)⟩
theorem vy_X12_isLetter : VY yX12_isLetter := ⟨gt (List.mem_of_getElem? (i := 1718) (by decide +kernel)) (by decide +kernel), gt (List.mem_of_getElem? (i := 67) (by decide +kernel)) (by decide +kernel)⟩
theorem vy_X12_isSign : VY yX12_isSign := ⟨gt (List.mem_of_getElem? (i := 1781) (by decide +kernel)) (by decide +kernel), gt (List.mem_of_getElem? (i := 80) (by decide +kernel)) (by decide +kernel)⟩
theorem vy_X12_isThere : VY yX12_isThere := ⟨gt (List.mem_of_getElem? (i := 1762) (by decide +kernel)) (by decide +kernel), gt (List.mem_of_getElem? (i := 76) (by decide +kernel)) (by decide +kernel)⟩
theorem vy_X12_isTrigger : VY yX12_isTrigger := ⟨gt (List.mem_of_getElem? (i := 1557) (by decide +kernel)) (by decide +kernel), gt (List.mem_of_getElem? (i := 58) (by decide +kernel)) (by decide +kernel)⟩
theorem vy_X12_isWindow : VY yX12_isWindow := ⟨gt (List.mem_of_getElem? (i := 1573) (by decide +kernel)) (by decide +kernel), gt (List.mem_of_getElem? (i := 59) (by decide +kernel)) (by decide +kernel)⟩
theorem vy_X12_its : VY yX12_its := ⟨gt (List.mem_of_getElem? (i := 1452) (by decide +kernel)) (by decide +kernel), gt (List.mem_of_getElem? (i := 35) (by decide +kernel)) (by decide +kernel)⟩
theorem vy_X12_lookAt : VY yX12_lookAt := ⟨gt (List.mem_of_getElem? (i := 1522) (by decide +kernel)) (by decide +kernel), gt (List.mem_of_getElem? (i := 51) (by decide +kernel)) (by decide +kernel)⟩
theorem vy_X12_next : VY yX12_next := ⟨gt (List.mem_of_getElem? (i := 1710) (by decide +kernel)) (by decide +kernel), gt (List.mem_of_getElem? (i := 65) (by decide +kernel)) (by decide +kernel)⟩
theorem vy_X12_ok : VY yX12_ok := ⟨gt (List.mem_of_getElem? (i := 1736) (by decide +kernel)) (by decide +kernel), gt (List.mem_of_getElem? (i := 71) (by decide +kernel)) (by decide +kernel)⟩
theorem vy_X12_overrunsAt : VY yX12_overrunsAt := ⟨gt (List.mem_of_getElem? (i := 1678) (by decide +kernel)) (by decide +kernel), gt (List.mem_of_getElem? (i := 64) (by decide +kernel)) (by decide +kernel)⟩
theorem vy_X12_parseBehind : VY yX12_parseBehind := ⟨gt (List.mem_of_getElem? (i := 1754) (by decide +kernel)) (by decide +kernel), gt (List.mem_of_getElem? (i := 74) (by decide +kernel)) (by decide +kernel)⟩
theorem vy_X12_parseChannel : VY yX12_parseChannel := ⟨gt (List.mem_of_getElem? (i := 1758) (by decide +kernel)) (by decide +kernel), gt (List.mem_of_getElem? (i := 75) (by decide +kernel)) (by decide +kernel)⟩
theorem vy_X12_parseEntries : VY yX12_parseEntries := ⟨gt (List.mem_of_getElem? (i := 1785) (by decide +kernel)) (by decide +kernel), gt (List.mem_of_getElem? (i := 81) (by decide +kernel)) (by decide +kernel)⟩
theorem vy_X12_parseMask : VY yX12_parseMask := ⟨gt (List.mem_of_getElem? (i := 1809) (by decide +kernel)) (by decide +kernel), gt (List.mem_of_getElem? (i := 87) (by decide +kernel)) (by decide +kernel)⟩
theorem vy_X12_parseOver : VY yX12_parseOver := ⟨gt (List.mem_of_getElem? (i := 1789) (by decide +kernel)) (by decide +kernel), gt (List.mem_of_getElem? (i := 82) (by decide +kernel)) (by decide +kernel)⟩
theorem vy_X12_parseStatement : VY yX12_parseStatement := ⟨gt (List.mem_of_getElem? (i := 1740) (by decide +kernel)) (by decide +kernel), gt (List.mem_of_getElem? (i := 72) (by decide +kernel)) (by decide +kernel)⟩
theorem vy_X12_parseTrigger : VY yX12_parseTrigger := ⟨gt (List.mem_of_getElem? (i := 1813) (by decide +kernel)) (by decide +kernel), gt (List.mem_of_getElem? (i := 88) (by decide +kernel)) (by decide +kernel)⟩
theorem vy_X12_parseWindow : VY yX12_parseWindow := ⟨gt (List.mem_of_getElem? (i := 1805) (by decide +kernel)) (by decide +kernel), gt (List.mem_of_getElem? (i := 86) (by decide +kernel)) (by decide +kernel)⟩
theorem vy_X12_passCycle : VY yX12_passCycle := ⟨gt (List.mem_of_getElem? (i := 1456) (by decide +kernel)) (by decide +kernel), gt (List.mem_of_getElem? (i := 36) (by decide +kernel)) (by decide +kernel)⟩
theorem vy_X12_putRow : VY yX12_putRow := ⟨gt (List.mem_of_getElem? (i := 1537) (by decide +kernel)) (by decide +kernel), gt (List.mem_of_getElem? (i := 54) (by decide +kernel)) (by decide +kernel)⟩
theorem vy_X12_puts : VY yX12_puts := ⟨gt (List.mem_of_getElem? (i := 1373) (by decide +kernel)) (by decide +kernel), gt (List.mem_of_getElem? (i := 34) (by decide +kernel)) (by decide +kernel)⟩
theorem vy_X12_readNumber : VY yX12_readNumber := ⟨gt (List.mem_of_getElem? (i := 1770) (by decide +kernel)) (by decide +kernel), gt (List.mem_of_getElem? (i := 78) (by decide +kernel)) (by decide +kernel)⟩
theorem vy_X12_readOnce : VY yX12_readOnce := ⟨gt (List.mem_of_getElem? (i := 1766) (by decide +kernel)) (by decide +kernel), gt (List.mem_of_getElem? (i := 77) (by decide +kernel)) (by decide +kernel)⟩
theorem vy_X12_readSigned : VY yX12_readSigned := ⟨gt (List.mem_of_getElem? (i := 1777) (by decide +kernel)) (by decide +kernel), gt (List.mem_of_getElem? (i := 79) (by decide +kernel)) (by decide +kernel)⟩
theorem vy_X12_require : VY yX12_require := ⟨gt (List.mem_of_getElem? (i := 1793) (by decide +kernel)) (by decide +kernel), gt (List.mem_of_getElem? (i := 83) (by decide +kernel)) (by decide +kernel)⟩
theorem vy_X12_scanNumber : VY yX12_scanNumber := ⟨gt (List.mem_of_getElem? (i := 1732) (by decide +kernel)) (by decide +kernel), gt (List.mem_of_getElem? (i := 70) (by decide +kernel)) (by decide +kernel)⟩
theorem vy_X12_scanWord : VY yX12_scanWord := ⟨gt (List.mem_of_getElem? (i := 1722) (by decide +kernel)) (by decide +kernel), gt (List.mem_of_getElem? (i := 68) (by decide +kernel)) (by decide +kernel)⟩
theorem vy_X12_signalOf : VY yX12_signalOf := ⟨gt (List.mem_of_getElem? (i := 1510) (by decide +kernel)) (by decide +kernel), gt (List.mem_of_getElem? (i := 48) (by decide +kernel)) (by decide +kernel)⟩
theorem vy_X12_startConversion : VY yX12_startConversion := ⟨gt (List.mem_of_getElem? (i := 1498) (by decide +kernel)) (by decide +kernel), gt (List.mem_of_getElem? (i := 45) (by decide +kernel)) (by decide +kernel)⟩
theorem vy_X12_startSequence : VY yX12_startSequence := ⟨gt (List.mem_of_getElem? (i := 1479) (by decide +kernel)) (by decide +kernel), gt (List.mem_of_getElem? (i := 41) (by decide +kernel)) (by decide +kernel)⟩
theorem vy_X12_transfer : VY yX12_transfer := ⟨gt (List.mem_of_getElem? (i := 1549) (by decide +kernel)) (by decide +kernel), gt (List.mem_of_getElem? (i := 57) (by decide +kernel)) (by decide +kernel)⟩
theorem vy_X5_number : VY yX5_number := ⟨gt (List.mem_of_getElem? (i := 1029) (by decide +kernel)) (by decide +kernel), gt (List.mem_of_getElem? (i := 1030) (by decide +kernel)) (by decide +kernel)⟩
theorem vy_X5_put : VY yX5_put := ⟨gt (List.mem_of_getElem? (i := 1003) (by decide +kernel)) (by decide +kernel), gt (List.mem_of_getElem? (i := 1004) (by decide +kernel)) (by decide +kernel)⟩
theorem vy_X5_removeOldest : VY yX5_removeOldest := ⟨gt (List.mem_of_getElem? (i := 1011) (by decide +kernel)) (by decide +kernel), gt (List.mem_of_getElem? (i := 1012) (by decide +kernel)) (by decide +kernel)⟩
theorem vy_X6_beginPass : VY yX6_beginPass := ⟨gt (List.mem_of_getElem? (i := 970) (by decide +kernel)) (by decide +kernel), gt (List.mem_of_getElem? (i := 971) (by decide +kernel)) (by decide +kernel)⟩
theorem sy_X12_chan : Cond.static yX12_chan ∈ gtb := gt (List.mem_of_getElem? (i := 1379) (by decide +kernel)) (by decide +kernel)
theorem sy_X12_drafts : Cond.static yX12_drafts ∈ gtb := gt (List.mem_of_getElem? (i := 1773) (by decide +kernel)) (by decide +kernel)
theorem sy_X12_inRange : Cond.static yX12_inRange ∈ gtb := gt (List.mem_of_getElem? (i := 1331) (by decide +kernel)) (by decide +kernel)
theorem sy_X12_isManyTimes : Cond.static yX12_isManyTimes ∈ gtb := gt (List.mem_of_getElem? (i := 1750) (by decide +kernel)) (by decide +kernel)
theorem sy_X12_isStatement : Cond.static yX12_isStatement ∈ gtb := gt (List.mem_of_getElem? (i := 1743) (by decide +kernel)) (by decide +kernel)
theorem sy_X12_lesser : Cond.static yX12_lesser ∈ gtb := gt (List.mem_of_getElem? (i := 1486) (by decide +kernel)) (by decide +kernel)
theorem sy_X12_seq : Cond.static yX12_seq ∈ gtb := gt (List.mem_of_getElem? (i := 1376) (by decide +kernel)) (by decide +kernel)
theorem sy_X12_trig : Cond.static yX12_trig ∈ gtb := gt (List.mem_of_getElem? (i := 1467) (by decide +kernel)) (by decide +kernel)
theorem sy_X12_win : Cond.static yX12_win ∈ gtb := gt (List.mem_of_getElem? (i := 1525) (by decide +kernel)) (by decide +kernel)
theorem k_X12_247 : Cond.constant RX12 247 65535 ∈ gtb := gt (List.mem_of_getElem? (i := 1591) (by decide +kernel)) (by decide +kernel)
theorem k_X12_266 : Cond.constantLong RX12 266 32 ∈ gtb := gt (List.mem_of_getElem? (i := 1724) (by decide +kernel)) (by decide +kernel)
theorem k_X12_268 : Cond.constantLong RX12 268 96 ∈ gtb := gt (List.mem_of_getElem? (i := 1725) (by decide +kernel)) (by decide +kernel)
