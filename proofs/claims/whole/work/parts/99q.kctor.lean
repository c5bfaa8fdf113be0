/-! ===== CONSTRUCTORS of the class ===== -/
abbrev zCh : va_E := .inr (0, [.int 0, .int 0, .int 0, .int 0, .int 0, .int 0, .int 0, .int 0, .long 0])
theorem dfX1 : ∀ j, j < 9 → defaultValue (tyX1 j) = vp_V [.int 0, .int 0, .int 0, .int 0, .int 0, .int 0, .int 0, .int 0, .long 0] j := fun j hj => by rcases (show j = 0 ∨ j = 1 ∨ j = 2 ∨ j = 3 ∨ j = 4 ∨ j = 5 ∨ j = 6 ∨ j = 7 ∨ j = 8 by omega) with rfl | rfl | rfl | rfl | rfl | rfl | rfl | rfl | rfl <;> rfl
abbrev zCv : va_E := .inr (1, [.int 0, .int 0, .int 0, .int 0, .int 0, .int 0])
theorem dfX2 : ∀ j, j < 6 → defaultValue (tyX2 j) = vp_V [.int 0, .int 0, .int 0, .int 0, .int 0, .int 0] j := fun j hj => by rcases (show j = 0 ∨ j = 1 ∨ j = 2 ∨ j = 3 ∨ j = 4 ∨ j = 5 by omega) with rfl | rfl | rfl | rfl | rfl | rfl <;> rfl
abbrev zCo : va_E := .inr (2, [.null, .null, .null, .null, .null, .null, .null, .null, .null, .int 0, .int 0, .int 0, .int 0, .int 0, .int 0, .int 0, .int 0])
theorem dfX3 : ∀ j, j < 17 → defaultValue (tyX3 j) = vp_V [.null, .null, .null, .null, .null, .null, .null, .null, .null, .int 0, .int 0, .int 0, .int 0, .int 0, .int 0, .int 0, .int 0] j := fun j hj => by rcases (show j = 0 ∨ j = 1 ∨ j = 2 ∨ j = 3 ∨ j = 4 ∨ j = 5 ∨ j = 6 ∨ j = 7 ∨ j = 8 ∨ j = 9 ∨ j = 10 ∨ j = 11 ∨ j = 12 ∨ j = 13 ∨ j = 14 ∨ j = 15 ∨ j = 16 by omega) with rfl | rfl | rfl | rfl | rfl | rfl | rfl | rfl | rfl | rfl | rfl | rfl | rfl | rfl | rfl | rfl | rfl <;> rfl
abbrev zPa : va_E := .inr (3, [.null, .null, .null, .int 0, .int 0, .int 0, .int 0, .int 0, .int 0, .int 0])
theorem dfX4 : ∀ j, j < 10 → defaultValue (tyX4 j) = vp_V [.null, .null, .null, .int 0, .int 0, .int 0, .int 0, .int 0, .int 0, .int 0] j := fun j hj => by rcases (show j = 0 ∨ j = 1 ∨ j = 2 ∨ j = 3 ∨ j = 4 ∨ j = 5 ∨ j = 6 ∨ j = 7 ∨ j = 8 ∨ j = 9 by omega) with rfl | rfl | rfl | rfl | rfl | rfl | rfl | rfl | rfl | rfl <;> rfl
abbrev zRs : va_E := .inr (4, [.null, .int 0, .int 0, .int 0, .int 0, .int 0, .int 0])
theorem dfX5 : ∀ j, j < 7 → defaultValue (tyX5 j) = vp_V [.null, .int 0, .int 0, .int 0, .int 0, .int 0, .int 0] j := fun j hj => by rcases (show j = 0 ∨ j = 1 ∨ j = 2 ∨ j = 3 ∨ j = 4 ∨ j = 5 ∨ j = 6 by omega) with rfl | rfl | rfl | rfl | rfl | rfl | rfl <;> rfl
abbrev zSq : va_E := .inr (5, [.null, .int 0, .int 0, .int 0, .int 0, .int 0, .int 0, .int 0, .int 0, .int 0, .int 0, .int 0, .long 0])
theorem dfX6 : ∀ j, j < 13 → defaultValue (tyX6 j) = vp_V [.null, .int 0, .int 0, .int 0, .int 0, .int 0, .int 0, .int 0, .int 0, .int 0, .int 0, .int 0, .long 0] j := fun j hj => by rcases (show j = 0 ∨ j = 1 ∨ j = 2 ∨ j = 3 ∨ j = 4 ∨ j = 5 ∨ j = 6 ∨ j = 7 ∨ j = 8 ∨ j = 9 ∨ j = 10 ∨ j = 11 ∨ j = 12 by omega) with rfl | rfl | rfl | rfl | rfl | rfl | rfl | rfl | rfl | rfl | rfl | rfl | rfl <;> rfl
abbrev zTk : va_E := .inr (6, [.null, .int 0, .int 0, .long 0, .int 0, .int 0, .int 0, .null])
theorem dfX7 : ∀ j, j < 8 → defaultValue (tyX7 j) = vp_V [.null, .int 0, .int 0, .long 0, .int 0, .int 0, .int 0, .null] j := fun j hj => by rcases (show j = 0 ∨ j = 1 ∨ j = 2 ∨ j = 3 ∨ j = 4 ∨ j = 5 ∨ j = 6 ∨ j = 7 by omega) with rfl | rfl | rfl | rfl | rfl | rfl | rfl | rfl <;> rfl
abbrev zTr : va_E := .inr (7, [.int 0, .int 0, .int 0, .int 0, .int 0])
theorem dfX8 : ∀ j, j < 5 → defaultValue (tyX8 j) = vp_V [.int 0, .int 0, .int 0, .int 0, .int 0] j := fun j hj => by rcases (show j = 0 ∨ j = 1 ∨ j = 2 ∨ j = 3 ∨ j = 4 by omega) with rfl | rfl | rfl | rfl | rfl <;> rfl
abbrev zWn : va_E := .inr (8, [.int 0, .int 0, .int 0, .int 0, .int 0, .int 0, .int 0, .int 0, .int 0, .int 0])
theorem dfX9 : ∀ j, j < 10 → defaultValue (tyX9 j) = vp_V [.int 0, .int 0, .int 0, .int 0, .int 0, .int 0, .int 0, .int 0, .int 0, .int 0] j := fun j hj => by rcases (show j = 0 ∨ j = 1 ∨ j = 2 ∨ j = 3 ∨ j = 4 ∨ j = 5 ∨ j = 6 ∨ j = 7 ∨ j = 8 ∨ j = 9 by omega) with rfl | rfl | rfl | rfl | rfl | rfl | rfl | rfl | rfl | rfl <;> rfl
abbrev zSc : va_E := .inr (9, [.null, .null, .null, .null, .null])
theorem dfX11 : ∀ j, j < 5 → defaultValue (tyX11 j) = vp_V [.null, .null, .null, .null, .null] j := fun j hj => by rcases (show j = 0 ∨ j = 1 ∨ j = 2 ∨ j = 3 ∨ j = 4 by omega) with rfl | rfl | rfl | rfl | rfl <;> rfl
abbrev zMo : va_E := .inr (10, [.int 0, .null, .int 0, .null, .null, .null, .null, .int 0, .null, .int 0, .int 0, .int 0, .int 0, .int 0, .int 0, .int 0, .int 0, .int 0, .null, .null, .null])
theorem dfX12 : ∀ j, j < 21 → defaultValue (tyX12 j) = vp_V [.int 0, .null, .int 0, .null, .null, .null, .null, .int 0, .null, .int 0, .int 0, .int 0, .int 0, .int 0, .int 0, .int 0, .int 0, .int 0, .null, .null, .null] j := fun j hj => by rcases (show j = 0 ∨ j = 1 ∨ j = 2 ∨ j = 3 ∨ j = 4 ∨ j = 5 ∨ j = 6 ∨ j = 7 ∨ j = 8 ∨ j = 9 ∨ j = 10 ∨ j = 11 ∨ j = 12 ∨ j = 13 ∨ j = 14 ∨ j = 15 ∨ j = 16 ∨ j = 17 ∨ j = 18 ∨ j = 19 ∨ j = 20 by omega) with rfl | rfl | rfl | rfl | rfl | rfl | rfl | rfl | rfl | rfl | rfl | rfl | rfl | rfl | rfl | rfl | rfl | rfl | rfl | rfl | rfl <;> rfl
abbrev eCh : va_E := .inr (0, [.int 3, .int 0, .int 0, .int 0, .int 1, .int 0, .int (-1), .int (-1), .long 0])
abbrev eWn : va_E := .inr (8, [.int 0, .int 0, .int 0, .int 0, .int 0, .int 0, .int 0, .int (-1), .int (-1), .int (-1)])
abbrev eSq (q : Nat) : va_E := .inr (5, [.ref q, .int 0, .int 0, .int 0, .int 0, .int 0, .int (-1), .int (-1), .int 0, .int 0, .int 0, .int 0, .long 0])
abbrev eTk (w : Nat → Nat) (b : Nat) : va_E := .inr (6, [.ref b, .int 0, .int 0, .long 0, .int 0, .int 0, .int 0, .ref (w 25)])
abbrev ePa (t c f : Nat) : va_E := .inr (3, [.ref t, .ref c, .ref f, .int 0, .int 0, .int 0, .int 0, .int 0, .int 0, .int (-1)])
abbrev aI (ac : Nat → ClassId) (n : Nat) : va_E := .inl (ac 0, n, .inl (fun _ => 0))
abbrev aB (ac : Nat → ClassId) (n : Nat) : va_E := .inl (ac 1, n, .inl (fun _ => 0))
abbrev aZ (ac : Nat → ClassId) (n : Nat) : va_E := .inl (ac 2, n, .inl (fun _ => 0))
abbrev aL (ac : Nat → ClassId) (n : Nat) : va_E := .inl (ac 3, n, .inr (.inl (fun _ => 0)))
abbrev aF (ac : Nat → ClassId) (t n : Nat) (f : Nat → Option Nat) : va_E := .inl (ac t, n, .inr (.inr (.inr (.inr f))))
theorem kml_X1_3 : Cond.methodLink RX1 3 Lib.objectInit ∈ gtb := gt (inT1 (List.mem_of_getElem? (i := 191) rfl)) rfl
theorem koi_1 : Cond.instanceMethod Lib.objectInit ∈ gtb := gt (inT1 (List.mem_of_getElem? (i := 29) rfl)) rfl
theorem koi_2 : Cond.code Lib.objectInit ⟨#[0xb1]⟩ 1 none ∈ gtb := gt (inT1 (List.mem_of_getElem? (i := 30) rfl)) rfl
theorem kfp_X1_9 : FP RX1 9 0 0 "I" := ⟨(RX1, TX1, 9), rfl, by decide, gt (inT1 (List.mem_of_getElem? (i := 192) rfl)) rfl, rfl, rfl⟩
theorem kfp_X1_15 : FP RX1 15 0 4 "I" := ⟨(RX1, TX1, 9), rfl, by decide, gt (inT1 (List.mem_of_getElem? (i := 205) rfl)) rfl, rfl, rfl⟩
theorem kfp_X1_18 : FP RX1 18 0 6 "I" := ⟨(RX1, TX1, 9), rfl, by decide, gt (inT1 (List.mem_of_getElem? (i := 210) rfl)) rfl, rfl, rfl⟩
theorem kfp_X1_21 : FP RX1 21 0 7 "I" := ⟨(RX1, TX1, 9), rfl, by decide, gt (inT1 (List.mem_of_getElem? (i := 212) rfl)) rfl, rfl, rfl⟩
theorem kml_X2_3 : Cond.methodLink RX2 3 Lib.objectInit ∈ gtb := gt (inT1 (List.mem_of_getElem? (i := 119) rfl)) rfl
theorem kfp_X2_9 : FP RX2 9 1 0 "I" := ⟨(RX2, TX2, 6), rfl, by decide, gt (inT1 (List.mem_of_getElem? (i := 120) rfl)) rfl, rfl, rfl⟩
theorem kml_X8_3 : Cond.methodLink RX8 3 Lib.objectInit ∈ gtb := gt (inT1 (List.mem_of_getElem? (i := 239) rfl)) rfl
theorem kfp_X8_9 : FP RX8 9 7 0 "I" := ⟨(RX8, TX8, 5), rfl, by decide, gt (inT2 (List.mem_of_getElem? (i := 0) rfl)) rfl, rfl, rfl⟩
theorem kml_X9_3 : Cond.methodLink RX9 3 Lib.objectInit ∈ gtb := gt (inT2 (List.mem_of_getElem? (i := 31) rfl)) rfl
theorem kfp_X9_9 : FP RX9 9 8 7 "I" := ⟨(RX9, TX9, 10), rfl, by decide, gt (inT2 (List.mem_of_getElem? (i := 51) rfl)) rfl, rfl, rfl⟩
theorem kfp_X9_15 : FP RX9 15 8 8 "I" := ⟨(RX9, TX9, 10), rfl, by decide, gt (inT2 (List.mem_of_getElem? (i := 53) rfl)) rfl, rfl, rfl⟩
theorem kfp_X9_18 : FP RX9 18 8 9 "I" := ⟨(RX9, TX9, 10), rfl, by decide, gt (inT2 (List.mem_of_getElem? (i := 55) rfl)) rfl, rfl, rfl⟩
theorem kml_X6_3 : Cond.methodLink RX6 3 Lib.objectInit ∈ gtb := gt (inT1 (List.mem_of_getElem? (i := 44) rfl)) rfl
theorem kfp_X6_9 : FP RX6 9 5 6 "I" := ⟨(RX6, TX6, 13), rfl, by decide, gt (inT1 (List.mem_of_getElem? (i := 62) rfl)) rfl, rfl, rfl⟩
theorem kfp_X6_15 : FP RX6 15 5 7 "I" := ⟨(RX6, TX6, 13), rfl, by decide, gt (inT1 (List.mem_of_getElem? (i := 65) rfl)) rfl, rfl, rfl⟩
theorem kac_int : Cond.arrayClass FieldType.int ∈ gtb := gt (inT1 (List.mem_of_getElem? (i := 109) rfl)) rfl
theorem kff_X6_18 : FF RX6 18 5 0 "[I" := ⟨(RX6, TX6, 13), rfl, by decide, gt (inT1 (List.mem_of_getElem? (i := 45) rfl)) rfl, rfl, rfl, rfl⟩
theorem kml_X5_3 : Cond.methodLink RX5 3 Lib.objectInit ∈ gtb := gt (inT1 (List.mem_of_getElem? (i := 155) rfl)) rfl
theorem kff_X5_9 : FF RX5 9 4 0 "[I" := ⟨(RX5, TX5, 7), rfl, by decide, gt (inT1 (List.mem_of_getElem? (i := 156) rfl)) rfl, rfl, rfl, rfl⟩
theorem kff_X5_15 : FF RX5 15 4 1 "I" := ⟨(RX5, TX5, 7), rfl, by decide, gt (inT1 (List.mem_of_getElem? (i := 157) rfl)) rfl, rfl, rfl, rfl⟩
theorem kfp_X5_19 : FP RX5 19 4 2 "I" := ⟨(RX5, TX5, 7), rfl, by decide, gt (inT1 (List.mem_of_getElem? (i := 158) rfl)) rfl, rfl, rfl⟩
theorem kml_X7_3 : Cond.methodLink RX7 3 Lib.objectInit ∈ gtb := gt (inT2 (List.mem_of_getElem? (i := 166) rfl)) rfl
theorem kac_byte : Cond.arrayClass FieldType.byte ∈ gtb := gt (inT2 (List.mem_of_getElem? (i := 201) rfl)) rfl
theorem kff_X7_9 : FF RX7 9 6 0 "[B" := ⟨(RX7, TX7, 8), rfl, by decide, gt (inT2 (List.mem_of_getElem? (i := 169) rfl)) rfl, rfl, rfl, rfl⟩
theorem kfp_X7_15 : FP RX7 15 6 5 "I" := ⟨(RX7, TX7, 8), rfl, by decide, gt (inT2 (List.mem_of_getElem? (i := 177) rfl)) rfl, rfl, rfl⟩
theorem kgs_X7_19 : Cond.fieldLink RX7 19 RX10 (wNames.getD 25 "") "LConverterScanner$Word;" ∈ gtb := gt (inT2 (List.mem_of_getElem? (i := 167) rfl)) rfl
theorem kfp_X7_25 : FP RX7 25 6 7 "LConverterScanner$Word;" := ⟨(RX7, TX7, 8), rfl, by decide, gt (inT2 (List.mem_of_getElem? (i := 181) rfl)) rfl, rfl, rfl⟩
theorem kml_X3_3 : Cond.methodLink RX3 3 Lib.objectInit ∈ gtb := gt (inT1 (List.mem_of_getElem? (i := 36) rfl)) rfl
theorem kcl_X3_9 : Cond.classLink RX3 9 RX1 ∈ gtb := gt (inT1 (List.mem_of_getElem? (i := 37) rfl)) rfl
theorem kff_X3_11 : FF RX3 11 2 0 "[LConverterScanner$Channel;" := ⟨(RX3, TX3, 17), rfl, by decide, gt (inT2 (List.mem_of_getElem? (i := 78) rfl)) rfl, rfl, rfl, rfl⟩
theorem kcl_X3_17 : Cond.classLink RX3 17 RX6 ∈ gtb := gt (inT1 (List.mem_of_getElem? (i := 39) rfl)) rfl
theorem kin_X6 : Cond.instantiable RX6 13 ∈ gtb := gt (inT1 (List.mem_of_getElem? (i := 40) rfl)) rfl
theorem kii_X6 : Cond.initialized RX6 ∈ gtb := gt (inT1 (List.mem_of_getElem? (i := 3) rfl)) rfl
theorem kmy_X6 : MY yX6_init cX6_init 2 none 1 := ⟨gt (inT1 (List.mem_of_getElem? (i := 43) rfl)) rfl, gt (inT1 (List.mem_of_getElem? (i := 3) rfl)) rfl, ⟨by decide +kernel, by decide +kernel, by decide +kernel⟩, by decide +kernel⟩
theorem kvi_X6 : Cond.instanceMethod yX6_init ∈ gtb := gt (inT1 (List.mem_of_getElem? (i := 42) rfl)) rfl
theorem kml_X3_19 : Cond.methodLink RX3 19 yX6_init ∈ gtb := gt (inT1 (List.mem_of_getElem? (i := 41) rfl)) rfl
theorem kff_X3_22 : FF RX3 22 2 1 "LConverterScanner$Sequence;" := ⟨(RX3, TX3, 17), rfl, by decide, gt (inT2 (List.mem_of_getElem? (i := 81) rfl)) rfl, rfl, rfl, rfl⟩
theorem kff_X3_26 : FF RX3 26 2 2 "LConverterScanner$Sequence;" := ⟨(RX3, TX3, 17), rfl, by decide, gt (inT2 (List.mem_of_getElem? (i := 83) rfl)) rfl, rfl, rfl, rfl⟩
theorem kcl_X3_29 : Cond.classLink RX3 29 RX8 ∈ gtb := gt (inT1 (List.mem_of_getElem? (i := 110) rfl)) rfl
theorem kff_X3_31 : FF RX3 31 2 3 "[LConverterScanner$Trigger;" := ⟨(RX3, TX3, 17), rfl, by decide, gt (inT2 (List.mem_of_getElem? (i := 86) rfl)) rfl, rfl, rfl, rfl⟩
theorem kcl_X3_35 : Cond.classLink RX3 35 RX9 ∈ gtb := gt (inT1 (List.mem_of_getElem? (i := 112) rfl)) rfl
theorem kff_X3_37 : FF RX3 37 2 4 "[LConverterScanner$Window;" := ⟨(RX3, TX3, 17), rfl, by decide, gt (inT2 (List.mem_of_getElem? (i := 89) rfl)) rfl, rfl, rfl, rfl⟩
theorem kcl_X3_41 : Cond.classLink RX3 41 RX2 ∈ gtb := gt (inT1 (List.mem_of_getElem? (i := 114) rfl)) rfl
theorem kin_X2 : Cond.instantiable RX2 6 ∈ gtb := gt (inT1 (List.mem_of_getElem? (i := 115) rfl)) rfl
theorem kii_X2 : Cond.initialized RX2 ∈ gtb := gt (inT1 (List.mem_of_getElem? (i := 4) rfl)) rfl
theorem kmy_X2 : MY yX2_init cX2_init 1 none 0 := ⟨gt (inT1 (List.mem_of_getElem? (i := 118) rfl)) rfl, gt (inT1 (List.mem_of_getElem? (i := 4) rfl)) rfl, ⟨by decide +kernel, by decide +kernel, by decide +kernel⟩, by decide +kernel⟩
theorem kvi_X2 : Cond.instanceMethod yX2_init ∈ gtb := gt (inT1 (List.mem_of_getElem? (i := 117) rfl)) rfl
theorem kff_X3_44 : FF RX3 44 2 5 "LConverterScanner$Conversion;" := ⟨(RX3, TX3, 17), rfl, by decide, gt (inT2 (List.mem_of_getElem? (i := 92) rfl)) rfl, rfl, rfl, rfl⟩
theorem kcl_X3_48 : Cond.classLink RX3 48 RX5 ∈ gtb := gt (inT1 (List.mem_of_getElem? (i := 150) rfl)) rfl
theorem kin_X5 : Cond.instantiable RX5 7 ∈ gtb := gt (inT1 (List.mem_of_getElem? (i := 151) rfl)) rfl
theorem kii_X5 : Cond.initialized RX5 ∈ gtb := gt (inT1 (List.mem_of_getElem? (i := 5) rfl)) rfl
theorem kmy_X5 : MY yX5_init cX5_init 2 none 1 := ⟨gt (inT1 (List.mem_of_getElem? (i := 154) rfl)) rfl, gt (inT1 (List.mem_of_getElem? (i := 5) rfl)) rfl, ⟨by decide +kernel, by decide +kernel, by decide +kernel⟩, by decide +kernel⟩
theorem kvi_X5 : Cond.instanceMethod yX5_init ∈ gtb := gt (inT1 (List.mem_of_getElem? (i := 153) rfl)) rfl
theorem kml_X3_50 : Cond.methodLink RX3 50 yX5_init ∈ gtb := gt (inT1 (List.mem_of_getElem? (i := 152) rfl)) rfl
theorem kff_X3_51 : FF RX3 51 2 6 "LConverterScanner$Results;" := ⟨(RX3, TX3, 17), rfl, by decide, gt (inT2 (List.mem_of_getElem? (i := 94) rfl)) rfl, rfl, rfl, rfl⟩
theorem kff_X3_55 : FF RX3 55 2 7 "LConverterScanner$Results;" := ⟨(RX3, TX3, 17), rfl, by decide, gt (inT2 (List.mem_of_getElem? (i := 97) rfl)) rfl, rfl, rfl, rfl⟩
theorem kff_X3_58 : FF RX3 58 2 8 "LConverterScanner$Results;" := ⟨(RX3, TX3, 17), rfl, by decide, gt (inT2 (List.mem_of_getElem? (i := 99) rfl)) rfl, rfl, rfl, rfl⟩
theorem kmy_X1 : MY yX1_init cX1_init 1 none 0 := ⟨gt (inT1 (List.mem_of_getElem? (i := 190) rfl)) rfl, gt (inT1 (List.mem_of_getElem? (i := 6) rfl)) rfl, ⟨by decide +kernel, by decide +kernel, by decide +kernel⟩, by decide +kernel⟩
theorem kvi_X1 : Cond.instanceMethod yX1_init ∈ gtb := gt (inT1 (List.mem_of_getElem? (i := 189) rfl)) rfl
theorem kfl_X3_11 : FL RX3 11 2 0 "[LConverterScanner$Channel;" := ⟨(RX3, TX3, 17), rfl, by decide, gt (inT2 (List.mem_of_getElem? (i := 78) rfl)) rfl, rfl⟩
theorem kin_X1 : Cond.instantiable RX1 9 ∈ gtb := gt (inT1 (List.mem_of_getElem? (i := 187) rfl)) rfl
theorem kii_X1 : Cond.initialized RX1 ∈ gtb := gt (inT1 (List.mem_of_getElem? (i := 6) rfl)) rfl
theorem kmy_X8 : MY yX8_init cX8_init 1 none 0 := ⟨gt (inT1 (List.mem_of_getElem? (i := 238) rfl)) rfl, gt (inT1 (List.mem_of_getElem? (i := 7) rfl)) rfl, ⟨by decide +kernel, by decide +kernel, by decide +kernel⟩, by decide +kernel⟩
theorem kvi_X8 : Cond.instanceMethod yX8_init ∈ gtb := gt (inT1 (List.mem_of_getElem? (i := 237) rfl)) rfl
theorem kfl_X3_31 : FL RX3 31 2 3 "[LConverterScanner$Trigger;" := ⟨(RX3, TX3, 17), rfl, by decide, gt (inT2 (List.mem_of_getElem? (i := 86) rfl)) rfl, rfl⟩
theorem kin_X8 : Cond.instantiable RX8 5 ∈ gtb := gt (inT1 (List.mem_of_getElem? (i := 235) rfl)) rfl
theorem kii_X8 : Cond.initialized RX8 ∈ gtb := gt (inT1 (List.mem_of_getElem? (i := 7) rfl)) rfl
theorem kmy_X9 : MY yX9_init cX9_init 1 none 0 := ⟨gt (inT2 (List.mem_of_getElem? (i := 30) rfl)) rfl, gt (inT1 (List.mem_of_getElem? (i := 8) rfl)) rfl, ⟨by decide +kernel, by decide +kernel, by decide +kernel⟩, by decide +kernel⟩
theorem kvi_X9 : Cond.instanceMethod yX9_init ∈ gtb := gt (inT2 (List.mem_of_getElem? (i := 29) rfl)) rfl
theorem kfl_X3_37 : FL RX3 37 2 4 "[LConverterScanner$Window;" := ⟨(RX3, TX3, 17), rfl, by decide, gt (inT2 (List.mem_of_getElem? (i := 89) rfl)) rfl, rfl⟩
theorem kin_X9 : Cond.instantiable RX9 10 ∈ gtb := gt (inT2 (List.mem_of_getElem? (i := 27) rfl)) rfl
theorem kii_X9 : Cond.initialized RX9 ∈ gtb := gt (inT1 (List.mem_of_getElem? (i := 8) rfl)) rfl
theorem kfl_X3_51 : FL RX3 51 2 6 "LConverterScanner$Results;" := ⟨(RX3, TX3, 17), rfl, by decide, gt (inT2 (List.mem_of_getElem? (i := 94) rfl)) rfl, rfl⟩
theorem kfp_X3_64 : FP RX3 64 4 2 "I" := ⟨(RX5, TX5, 7), rfl, by decide, gt (inT1 (List.mem_of_getElem? (i := 159) rfl)) rfl, rfl, rfl⟩
theorem kfl_X3_55 : FL RX3 55 2 7 "LConverterScanner$Results;" := ⟨(RX3, TX3, 17), rfl, by decide, gt (inT2 (List.mem_of_getElem? (i := 97) rfl)) rfl, rfl⟩
theorem kfp_X3_68 : FP RX3 68 4 3 "Z" := ⟨(RX5, TX5, 7), rfl, by decide, gt (inT1 (List.mem_of_getElem? (i := 162) rfl)) rfl, rfl, rfl⟩
theorem kml_X4_3 : Cond.methodLink RX4 3 Lib.objectInit ∈ gtb := gt (inT2 (List.mem_of_getElem? (i := 160) rfl)) rfl
theorem kcl_X4_9 : Cond.classLink RX4 9 RX7 ∈ gtb := gt (inT2 (List.mem_of_getElem? (i := 161) rfl)) rfl
theorem kin_X7 : Cond.instantiable RX7 8 ∈ gtb := gt (inT2 (List.mem_of_getElem? (i := 162) rfl)) rfl
theorem kii_X7 : Cond.initialized RX7 ∈ gtb := gt (inT1 (List.mem_of_getElem? (i := 10) rfl)) rfl
theorem kmy_X7 : MY yX7_init cX7_init 1 none 0 := ⟨gt (inT2 (List.mem_of_getElem? (i := 165) rfl)) rfl, gt (inT1 (List.mem_of_getElem? (i := 10) rfl)) rfl, ⟨by decide +kernel, by decide +kernel, by decide +kernel⟩, by decide +kernel⟩
theorem kvi_X7 : Cond.instanceMethod yX7_init ∈ gtb := gt (inT2 (List.mem_of_getElem? (i := 164) rfl)) rfl
theorem kff_X4_12 : FF RX4 12 3 0 "LConverterScanner$Tokens;" := ⟨(RX4, TX4, 10), rfl, by decide, gt (inT2 (List.mem_of_getElem? (i := 204) rfl)) rfl, rfl, rfl, rfl⟩
theorem kcl_X4_18 : Cond.classLink RX4 18 RX3 ∈ gtb := gt (inT2 (List.mem_of_getElem? (i := 202) rfl)) rfl
theorem kin_X3 : Cond.instantiable RX3 17 ∈ gtb := gt (inT1 (List.mem_of_getElem? (i := 32) rfl)) rfl
theorem kii_X3 : Cond.initialized RX3 ∈ gtb := gt (inT1 (List.mem_of_getElem? (i := 2) rfl)) rfl
theorem kmy_X3 : MY yX3_init cX3_init 2 none 0 := ⟨gt (inT1 (List.mem_of_getElem? (i := 35) rfl)) rfl, gt (inT1 (List.mem_of_getElem? (i := 2) rfl)) rfl, ⟨by decide +kernel, by decide +kernel, by decide +kernel⟩, by decide +kernel⟩
theorem kvi_X3 : Cond.instanceMethod yX3_init ∈ gtb := gt (inT1 (List.mem_of_getElem? (i := 34) rfl)) rfl
theorem kml_X4_20 : Cond.methodLink RX4 20 yX3_init ∈ gtb := gt (inT2 (List.mem_of_getElem? (i := 203) rfl)) rfl
theorem kff_X4_21 : FF RX4 21 3 1 "LConverterScanner$Converter;" := ⟨(RX4, TX4, 10), rfl, by decide, gt (inT2 (List.mem_of_getElem? (i := 206) rfl)) rfl, rfl, rfl, rfl⟩
theorem kff_X4_25 : FF RX4 25 3 2 "LConverterScanner$Converter;" := ⟨(RX4, TX4, 10), rfl, by decide, gt (inT2 (List.mem_of_getElem? (i := 208) rfl)) rfl, rfl, rfl, rfl⟩
theorem kfp_X4_28 : FP RX4 28 3 8 "I" := ⟨(RX4, TX4, 10), rfl, by decide, gt (inT2 (List.mem_of_getElem? (i := 214) rfl)) rfl, rfl, rfl⟩
theorem kfp_X4_32 : FP RX4 32 3 9 "I" := ⟨(RX4, TX4, 10), rfl, by decide, gt (inT2 (List.mem_of_getElem? (i := 216) rfl)) rfl, rfl, rfl⟩
set_option maxHeartbeats 4000000 in
set_option maxRecDepth 100000 in
theorem kc_X1 {D : va_G} {ac : Nat → ClassId} {w : Nat → Nat} {l : Launch} {sz a : Nat}  : Met l yX1_init (wsO yX1_init cX1_init 1 none) (rmK 1 0 0) (PcK D ac w [.ref a] [(a, zCh)] sz) (QvK D [(a, zCh)] sz (fun w1 => w1 = [(a, eCh)])) 0 0 (va_A [(a, zCh)] sz) := by
  refine kmet (own := RX1) rfl (by decide +kernel) (Nat.le_of_ble_eq_true rfl) (fun p e s m args below meth c X hin2 hr hlk => ?_)
  show TK D _ p l e _ s m args below meth c _ 0 0 _ 0 [(0, .ref a)] [] [(a, .inr (0, [.int 0, .int 0, .int 0, .int 0, .int 0, .int 0, .int 0, .int 0, .long 0]))]
  refine k_aload_n (pc := 0) X dX1_init_0 rfl ?_
  refine k_objInit (pc := 1) X kml_X1_3 koi_1 koi_2 ⟨Nat.le_of_ble_eq_true rfl, Nat.le_of_ble_eq_true rfl⟩ dX1_init_1 ?_
  refine k_aload_n (pc := 4) X dX1_init_4 rfl ?_
  refine k_iconst (pc := 5) X (v := 3) dX1_init_5 (by first | decide | simp) ?_
  refine k_put (pc := 6) X (v := .int 3) (ws' := [(a, .inr (0, [.int 3, .int 0, .int 0, .int 0, .int 0, .int 0, .int 0, .int 0, .long 0]))]) 0 rfl kfp_X1_9 (tyX1_ok 0 (by first | decide | simp)) rfl rfl (by first | decide | simp) rfl dX1_init_6 ?_
  refine k_aload_n (pc := 9) X dX1_init_9 rfl ?_
  refine k_iconst (pc := 10) X (v := 1) dX1_init_10 (by first | decide | simp) ?_
  refine k_put (pc := 11) X (v := .int 1) (ws' := [(a, .inr (0, [.int 3, .int 0, .int 0, .int 0, .int 1, .int 0, .int 0, .int 0, .long 0]))]) 0 rfl kfp_X1_15 (tyX1_ok 4 (by first | decide | simp)) rfl rfl (by first | decide | simp) rfl dX1_init_11 ?_
  refine k_aload_n (pc := 14) X dX1_init_14 rfl ?_
  refine k_iconst (pc := 15) X (v := -1) dX1_init_15 (by first | decide | simp) ?_
  refine k_put (pc := 16) X (v := .int (-1)) (ws' := [(a, .inr (0, [.int 3, .int 0, .int 0, .int 0, .int 1, .int 0, .int (-1), .int 0, .long 0]))]) 0 rfl kfp_X1_18 (tyX1_ok 6 (by first | decide | simp)) rfl rfl (by first | decide | simp) rfl dX1_init_16 ?_
  refine k_aload_n (pc := 19) X dX1_init_19 rfl ?_
  refine k_iconst (pc := 20) X (v := -1) dX1_init_20 (by first | decide | simp) ?_
  refine k_put (pc := 21) X (v := .int (-1)) (ws' := [(a, .inr (0, [.int 3, .int 0, .int 0, .int 0, .int 1, .int 0, .int (-1), .int (-1), .long 0]))]) 0 rfl kfp_X1_21 (tyX1_ok 7 (by first | decide | simp)) rfl rfl (by first | decide | simp) rfl dX1_init_21 ?_
  exact k_ret (pc := 24) X hr hlk rfl rfl ⟨Nat.le_of_ble_eq_true rfl, Nat.le_of_ble_eq_true rfl⟩ dX1_init_24

set_option maxHeartbeats 4000000 in
set_option maxRecDepth 100000 in
theorem kc_X2 {D : va_G} {ac : Nat → ClassId} {w : Nat → Nat} {l : Launch} {sz a : Nat}  : Met l yX2_init (wsO yX2_init cX2_init 1 none) (rmK 1 0 0) (PcK D ac w [.ref a] [(a, zCv)] sz) (QvK D [(a, zCv)] sz (fun w1 => w1 = [(a, zCv)])) 0 0 (va_A [(a, zCv)] sz) := by
  refine kmet (own := RX2) rfl (by decide +kernel) (Nat.le_of_ble_eq_true rfl) (fun p e s m args below meth c X hin2 hr hlk => ?_)
  show TK D _ p l e _ s m args below meth c _ 0 0 _ 0 [(0, .ref a)] [] [(a, .inr (1, [.int 0, .int 0, .int 0, .int 0, .int 0, .int 0]))]
  refine k_aload_n (pc := 0) X dX2_init_0 rfl ?_
  refine k_objInit (pc := 1) X kml_X2_3 koi_1 koi_2 ⟨Nat.le_of_ble_eq_true rfl, Nat.le_of_ble_eq_true rfl⟩ dX2_init_1 ?_
  refine k_aload_n (pc := 4) X dX2_init_4 rfl ?_
  refine k_iconst (pc := 5) X (v := 0) dX2_init_5 (by first | decide | simp) ?_
  refine k_put (pc := 6) X (v := .int 0) (ws' := [(a, .inr (1, [.int 0, .int 0, .int 0, .int 0, .int 0, .int 0]))]) 0 rfl kfp_X2_9 (tyX2_ok 0 (by first | decide | simp)) rfl rfl (by first | decide | simp) rfl dX2_init_6 ?_
  exact k_ret (pc := 9) X hr hlk rfl rfl ⟨Nat.le_of_ble_eq_true rfl, Nat.le_of_ble_eq_true rfl⟩ dX2_init_9

set_option maxHeartbeats 4000000 in
set_option maxRecDepth 100000 in
theorem kc_X8 {D : va_G} {ac : Nat → ClassId} {w : Nat → Nat} {l : Launch} {sz a : Nat}  : Met l yX8_init (wsO yX8_init cX8_init 1 none) (rmK 1 0 0) (PcK D ac w [.ref a] [(a, zTr)] sz) (QvK D [(a, zTr)] sz (fun w1 => w1 = [(a, zTr)])) 0 0 (va_A [(a, zTr)] sz) := by
  refine kmet (own := RX8) rfl (by decide +kernel) (Nat.le_of_ble_eq_true rfl) (fun p e s m args below meth c X hin2 hr hlk => ?_)
  show TK D _ p l e _ s m args below meth c _ 0 0 _ 0 [(0, .ref a)] [] [(a, .inr (7, [.int 0, .int 0, .int 0, .int 0, .int 0]))]
  refine k_aload_n (pc := 0) X dX8_init_0 rfl ?_
  refine k_objInit (pc := 1) X kml_X8_3 koi_1 koi_2 ⟨Nat.le_of_ble_eq_true rfl, Nat.le_of_ble_eq_true rfl⟩ dX8_init_1 ?_
  refine k_aload_n (pc := 4) X dX8_init_4 rfl ?_
  refine k_iconst (pc := 5) X (v := 0) dX8_init_5 (by first | decide | simp) ?_
  refine k_put (pc := 6) X (v := .int 0) (ws' := [(a, .inr (7, [.int 0, .int 0, .int 0, .int 0, .int 0]))]) 0 rfl kfp_X8_9 (tyX8_ok 0 (by first | decide | simp)) rfl rfl (by first | decide | simp) rfl dX8_init_6 ?_
  exact k_ret (pc := 9) X hr hlk rfl rfl ⟨Nat.le_of_ble_eq_true rfl, Nat.le_of_ble_eq_true rfl⟩ dX8_init_9

set_option maxHeartbeats 4000000 in
set_option maxRecDepth 100000 in
theorem kc_X9 {D : va_G} {ac : Nat → ClassId} {w : Nat → Nat} {l : Launch} {sz a : Nat}  : Met l yX9_init (wsO yX9_init cX9_init 1 none) (rmK 1 0 0) (PcK D ac w [.ref a] [(a, zWn)] sz) (QvK D [(a, zWn)] sz (fun w1 => w1 = [(a, eWn)])) 0 0 (va_A [(a, zWn)] sz) := by
  refine kmet (own := RX9) rfl (by decide +kernel) (Nat.le_of_ble_eq_true rfl) (fun p e s m args below meth c X hin2 hr hlk => ?_)
  show TK D _ p l e _ s m args below meth c _ 0 0 _ 0 [(0, .ref a)] [] [(a, .inr (8, [.int 0, .int 0, .int 0, .int 0, .int 0, .int 0, .int 0, .int 0, .int 0, .int 0]))]
  refine k_aload_n (pc := 0) X dX9_init_0 rfl ?_
  refine k_objInit (pc := 1) X kml_X9_3 koi_1 koi_2 ⟨Nat.le_of_ble_eq_true rfl, Nat.le_of_ble_eq_true rfl⟩ dX9_init_1 ?_
  refine k_aload_n (pc := 4) X dX9_init_4 rfl ?_
  refine k_iconst (pc := 5) X (v := -1) dX9_init_5 (by first | decide | simp) ?_
  refine k_put (pc := 6) X (v := .int (-1)) (ws' := [(a, .inr (8, [.int 0, .int 0, .int 0, .int 0, .int 0, .int 0, .int 0, .int (-1), .int 0, .int 0]))]) 0 rfl kfp_X9_9 (tyX9_ok 7 (by first | decide | simp)) rfl rfl (by first | decide | simp) rfl dX9_init_6 ?_
  refine k_aload_n (pc := 9) X dX9_init_9 rfl ?_
  refine k_iconst (pc := 10) X (v := -1) dX9_init_10 (by first | decide | simp) ?_
  refine k_put (pc := 11) X (v := .int (-1)) (ws' := [(a, .inr (8, [.int 0, .int 0, .int 0, .int 0, .int 0, .int 0, .int 0, .int (-1), .int (-1), .int 0]))]) 0 rfl kfp_X9_15 (tyX9_ok 8 (by first | decide | simp)) rfl rfl (by first | decide | simp) rfl dX9_init_11 ?_
  refine k_aload_n (pc := 14) X dX9_init_14 rfl ?_
  refine k_iconst (pc := 15) X (v := -1) dX9_init_15 (by first | decide | simp) ?_
  refine k_put (pc := 16) X (v := .int (-1)) (ws' := [(a, .inr (8, [.int 0, .int 0, .int 0, .int 0, .int 0, .int 0, .int 0, .int (-1), .int (-1), .int (-1)]))]) 0 rfl kfp_X9_18 (tyX9_ok 9 (by first | decide | simp)) rfl rfl (by first | decide | simp) rfl dX9_init_16 ?_
  exact k_ret (pc := 19) X hr hlk rfl rfl ⟨Nat.le_of_ble_eq_true rfl, Nat.le_of_ble_eq_true rfl⟩ dX9_init_19

set_option maxHeartbeats 4000000 in
set_option maxRecDepth 100000 in
theorem kc_X6 {D : va_G} {ac : Nat → ClassId} {w : Nat → Nat} {l : Launch} {sz a : Nat} {n : Int32} {N' : Nat} (hn : ¬ n < 0) (hN : n.toNatClampNeg = N') (hb : N' * componentBytes FieldType.int ≤ 536870912) : Met l yX6_init (wsO yX6_init cX6_init 2 none) (rmK 1 1 N') (PcK D ac w [.ref a, .int n] [(a, zSq)] sz) (QvK D [(a, zSq)] sz (fun w1 => ∃ g, w1 = [(a, eSq g), (g, aI ac N')])) 1 N' (va_A [(a, zSq)] sz) := by
  refine kmet (own := RX6) rfl (by decide +kernel) (Nat.le_of_ble_eq_true rfl) (fun p e s m args below meth c X hin2 hr hlk => ?_)
  show TK D _ p l e _ s m args below meth c _ 0 0 _ 0 [(0, .ref a), (1, .int n)] [] [(a, .inr (5, [.null, .int 0, .int 0, .int 0, .int 0, .int 0, .int 0, .int 0, .int 0, .int 0, .int 0, .int 0, .long 0]))]
  refine k_aload_n (pc := 0) X dX6_init_0 rfl ?_
  refine k_objInit (pc := 1) X kml_X6_3 koi_1 koi_2 ⟨Nat.le_of_ble_eq_true rfl, Nat.le_of_ble_eq_true rfl⟩ dX6_init_1 ?_
  refine k_aload_n (pc := 4) X dX6_init_4 rfl ?_
  refine k_iconst (pc := 5) X (v := -1) dX6_init_5 (by first | decide | simp) ?_
  refine k_put (pc := 6) X (v := .int (-1)) (ws' := [(a, .inr (5, [.null, .int 0, .int 0, .int 0, .int 0, .int 0, .int (-1), .int 0, .int 0, .int 0, .int 0, .int 0, .long 0]))]) 0 rfl kfp_X6_9 (tyX6_ok 6 (by first | decide | simp)) rfl rfl (by first | decide | simp) rfl dX6_init_6 ?_
  refine k_aload_n (pc := 9) X dX6_init_9 rfl ?_
  refine k_iconst (pc := 10) X (v := -1) dX6_init_10 (by first | decide | simp) ?_
  refine k_put (pc := 11) X (v := .int (-1)) (ws' := [(a, .inr (5, [.null, .int 0, .int 0, .int 0, .int 0, .int 0, .int (-1), .int (-1), .int 0, .int 0, .int 0, .int 0, .long 0]))]) 0 rfl kfp_X6_15 (tyX6_ok 7 (by first | decide | simp)) rfl rfl (by first | decide | simp) rfl dX6_init_11 ?_
  refine k_aload_n (pc := 14) X dX6_init_14 rfl ?_
  refine k_iload_n (pc := 15) X dX6_init_15 rfl ?_
  refine k_newa (pc := 16) X (atype := .int) (N' := N') (a0 := (N', .inl (fun _ => 0))) kac_int rfl 0 (by first | decide | simp) rfl (fun _ _ => rfl) (fun _ => rfl) hn hN hb ⟨Nat.le_refl _, by show 0 + N' ≤ N'; omega⟩ dX6_init_16 (fun g1 => ?_)
  refine k_putF (pc := 18) X hin2 (v := .ref g1) (ws' := [(a, .inr (5, [.ref g1, .int 0, .int 0, .int 0, .int 0, .int 0, .int (-1), .int (-1), .int 0, .int 0, .int 0, .int 0, .long 0])), (g1, aI ac N')]) 0 rfl kff_X6_18 (tyX6_ok 0 (by first | decide | simp)) rfl rfl (by first | decide | simp) rfl dX6_init_18 ?_
  exact k_ret (pc := 21) X hr hlk rfl ⟨_, rfl⟩ ⟨Nat.le_refl _, by omega⟩ dX6_init_21

set_option maxHeartbeats 4000000 in
set_option maxRecDepth 100000 in
theorem kc_X5 {D : va_G} {ac : Nat → ClassId} {w : Nat → Nat} {l : Launch} {sz a : Nat} {n n4 mk : Int32} {N' : Nat} (h4 : n * 4 = n4) (hmk : n - 1 = mk) (hn : ¬ n4 < 0) (hN : n4.toNatClampNeg = N') (hb : N' * componentBytes FieldType.int ≤ 536870912) : Met l yX5_init (wsO yX5_init cX5_init 2 none) (rmK 1 1 N') (PcK D ac w [.ref a, .int n] [(a, zRs)] sz) (QvK D [(a, zRs)] sz (fun w1 => ∃ g, w1 = [(a, .inr (4, [.ref g, .int mk, .int n, .int 0, .int 0, .int 0, .int 0])), (g, aI ac N')])) 1 N' (va_A [(a, zRs)] sz) := by
  refine kmet (own := RX5) rfl (by decide +kernel) (Nat.le_of_ble_eq_true rfl) (fun p e s m args below meth c X hin2 hr hlk => ?_)
  show TK D _ p l e _ s m args below meth c _ 0 0 _ 0 [(0, .ref a), (1, .int n)] [] [(a, .inr (4, [.null, .int 0, .int 0, .int 0, .int 0, .int 0, .int 0]))]
  refine k_aload_n (pc := 0) X dX5_init_0 rfl ?_
  refine k_objInit (pc := 1) X kml_X5_3 koi_1 koi_2 ⟨Nat.le_of_ble_eq_true rfl, Nat.le_of_ble_eq_true rfl⟩ dX5_init_1 ?_
  refine k_aload_n (pc := 4) X dX5_init_4 rfl ?_
  refine k_iload_n (pc := 5) X dX5_init_5 rfl ?_
  refine k_iconst (pc := 6) X (v := 4) dX5_init_6 (by first | decide | simp) ?_
  refine k_imul (pc := 7) X h4 dX5_init_7 ?_
  refine k_newa (pc := 8) X (atype := .int) (N' := N') (a0 := (N', .inl (fun _ => 0))) kac_int rfl 0 (by first | decide | simp) rfl (fun _ _ => rfl) (fun _ => rfl) hn hN hb ⟨Nat.le_refl _, by show 0 + N' ≤ N'; omega⟩ dX5_init_8 (fun g1 => ?_)
  refine k_putF (pc := 10) X hin2 (v := .ref g1) (ws' := [(a, .inr (4, [.ref g1, .int 0, .int 0, .int 0, .int 0, .int 0, .int 0])), (g1, aI ac N')]) 0 rfl kff_X5_9 (tyX5_ok 0 (by first | decide | simp)) rfl rfl (by first | decide | simp) rfl dX5_init_10 ?_
  refine k_aload_n (pc := 13) X dX5_init_13 rfl ?_
  refine k_iload_n (pc := 14) X dX5_init_14 rfl ?_
  refine k_iconst (pc := 15) X (v := 1) dX5_init_15 (by first | decide | simp) ?_
  refine k_isub (pc := 16) X hmk dX5_init_16 ?_
  refine k_putF (pc := 17) X hin2 (v := .int mk) (ws' := [(a, .inr (4, [.ref g1, .int mk, .int 0, .int 0, .int 0, .int 0, .int 0])), (g1, aI ac N')]) 0 rfl kff_X5_15 (tyX5_ok 1 (by first | decide | simp)) rfl rfl (by first | decide | simp) rfl dX5_init_17 ?_
  refine k_aload_n (pc := 20) X dX5_init_20 rfl ?_
  refine k_iload_n (pc := 21) X dX5_init_21 rfl ?_
  refine k_put (pc := 22) X (v := .int n) (ws' := [(a, .inr (4, [.ref g1, .int mk, .int n, .int 0, .int 0, .int 0, .int 0])), (g1, aI ac N')]) 0 rfl kfp_X5_19 (tyX5_ok 2 (by first | decide | simp)) rfl rfl (by first | decide | simp) rfl dX5_init_22 ?_
  exact k_ret (pc := 25) X hr hlk rfl ⟨_, rfl⟩ ⟨Nat.le_refl _, by omega⟩ dX5_init_25

set_option maxHeartbeats 4000000 in
set_option maxRecDepth 100000 in
theorem kc_X7 {D : va_G} {ac : Nat → ClassId} {w : Nat → Nat} {l : Launch} {sz a : Nat}  : Met l yX7_init (wsO yX7_init cX7_init 1 none) (rmK 1 1 900) (PcK D ac w [.ref a] [(a, zTk)] sz) (QvK D [(a, zTk)] sz (fun w1 => ∃ g, w1 = [(a, eTk w g), (g, aB ac 900)])) 1 900 (va_A [(a, zTk)] sz) := by
  refine kmet (own := RX7) rfl (by decide +kernel) (Nat.le_of_ble_eq_true rfl) (fun p e s m args below meth c X hin2 hr hlk => ?_)
  show TK D _ p l e _ s m args below meth c _ 0 0 _ 0 [(0, .ref a)] [] [(a, .inr (6, [.null, .int 0, .int 0, .long 0, .int 0, .int 0, .int 0, .null]))]
  refine k_aload_n (pc := 0) X dX7_init_0 rfl ?_
  refine k_objInit (pc := 1) X kml_X7_3 koi_1 koi_2 ⟨Nat.le_of_ble_eq_true rfl, Nat.le_of_ble_eq_true rfl⟩ dX7_init_1 ?_
  refine k_aload_n (pc := 4) X dX7_init_4 rfl ?_
  refine k_sipush (pc := 5) X (v := 900) dX7_init_5 (by first | decide | simp) ?_
  refine k_newa (pc := 8) X (atype := .byte) (N' := 900) (a0 := (900, .inl (fun _ => 0))) kac_byte rfl 1 (by first | decide | simp) rfl (fun _ _ => rfl) (fun _ => rfl) (by first | decide | simp) (by first | decide | simp) (Nat.le_of_ble_eq_true rfl) ⟨Nat.le_of_ble_eq_true rfl, Nat.le_of_ble_eq_true rfl⟩ dX7_init_8 (fun g1 => ?_)
  refine k_putF (pc := 10) X hin2 (v := .ref g1) (ws' := [(a, .inr (6, [.ref g1, .int 0, .int 0, .long 0, .int 0, .int 0, .int 0, .null])), (g1, aB ac 900)]) 0 rfl kff_X7_9 (tyX7_ok 0 (by first | decide | simp)) rfl rfl (by first | decide | simp) rfl dX7_init_10 ?_
  refine k_aload_n (pc := 13) X dX7_init_13 rfl ?_
  refine k_iconst (pc := 14) X (v := 0) dX7_init_14 (by first | decide | simp) ?_
  refine k_put (pc := 15) X (v := .int 0) (ws' := [(a, .inr (6, [.ref g1, .int 0, .int 0, .long 0, .int 0, .int 0, .int 0, .null])), (g1, aB ac 900)]) 0 rfl kfp_X7_15 (tyX7_ok 5 (by first | decide | simp)) rfl rfl (by first | decide | simp) rfl dX7_init_15 ?_
  refine k_aload_n (pc := 18) X dX7_init_18 rfl ?_
  refine k_getsW (pc := 19) X 25 (by first | decide | simp) kgs_X7_19 dX7_init_19 ?_
  refine k_put (pc := 22) X (v := .ref (w 25)) (ws' := [(a, .inr (6, [.ref g1, .int 0, .int 0, .long 0, .int 0, .int 0, .int 0, .ref (w 25)])), (g1, aB ac 900)]) 0 rfl kfp_X7_25 (tyX7_ok 7 (by first | decide | simp)) rfl rfl (by first | decide | simp) rfl dX7_init_22 ?_
  exact k_ret (pc := 25) X hr hlk rfl ⟨_, rfl⟩ ⟨Nat.le_of_ble_eq_true rfl, Nat.le_of_ble_eq_true rfl⟩ dX7_init_25

/-- an array's contents matter within its length alone -/
theorem arr_same {cA : ClassId} {n : Nat} {f g : Nat → Option Nat} (h : ∀ j, j < n → f j = g j) : vp_cell cA (n, .inr (.inr (.inr (.inr f)))) = vp_cell cA (n, .inr (.inr (.inr (.inr g)))) := by
  rw [vp_cell_q, vp_cell_q]
  unfold arrV
  congr 1
  apply Array.ext
  · simp
  · intro i h1 h2
    simp at h1
    simp [h i h1]
theorem TK_arr {D : va_G} {A : Nat → Prop} {p : Program} {l : Launch} {e : Env} {R : Room} {s : State} {m : MethodId} {args : Array Value} {below : List Frame} {meth : Method} {c : Code} {nL ce sl : Nat} {Q : State → Prop} {pc : Nat} {lo : List (Nat × Value)} {st : List Value} {ws ws' : va_W} {cA : ClassId} {a n : Nat} {f g : Nat → Option Nat} (i : Nat) (he : ws[i]? = some (a, .inl (cA, n, .inr (.inr (.inr (.inr f)))))) (h : ∀ j, j < n → f j = g j) (hw : ws.set i (a, .inl (cA, n, .inr (.inr (.inr (.inr g))))) = ws')
    (k : TK D A p l e R s m args below meth c nL ce sl Q pc lo st ws') : TK D A p l e R s m args below meth c nL ce sl Q pc lo st ws := by
  intro H locs ls hS hP hD hl
  subst hw
  refine k H locs ls hS (hP.set hD he ?_ (fun _ _ => rfl)) (hD.set he) hl
  have q := hP i _ he
  unfold va_at at q ⊢
  dsimp only at q ⊢
  rw [← arr_same h]
  exact q
abbrev aR (ac : Nat → ClassId) (t n : Nat) (as : List Nat) : va_E := aF ac t n (fun j => some (as.getD j 0))
theorem as_get {as : List Nat} {f : Nat → Option Nat} {n : Nat} (hf : ∀ j, f j = as[j]?) (hl : as.length = n) : ∀ j, j < n → f j = some (as.getD j 0) := fun j hj => by
  rw [hf, List.getD_eq_getElem?_getD, List.getElem?_eq_getElem (by omega)]
  rfl
abbrev pC_ch (ac : Nat → ClassId) (a g1 g2 g3 g4 g5 g6 g7 g8 g9 g10 g11 g12 g13 g14 : Nat) (f : Nat → Option Nat) : va_W := [(a, .inr (2, [.ref g1, .ref g2, .ref g4, .ref g6, .ref g7, .ref g8, .ref g9, .ref g11, .ref g13, .int 0, .int 0, .int 0, .int 0, .int 0, .int 0, .int 0, .int 0])), (g1, aF ac 5 8 f), (g2, eSq g3), (g3, aI ac 8), (g4, eSq g5), (g5, aI ac 4), (g6, aF ac 6 4 (fun _ => none)), (g7, aF ac 7 3 (fun _ => none)), (g8, zCv), (g9, .inr (4, [.ref g10, .int 15, .int 16, .int 0, .int 0, .int 0, .int 0])), (g10, aI ac 64), (g11, .inr (4, [.ref g12, .int 63, .int 64, .int 0, .int 0, .int 0, .int 0])), (g12, aI ac 256), (g13, .inr (4, [.ref g14, .int 3, .int 4, .int 0, .int 0, .int 0, .int 0])), (g14, aI ac 16)]
set_option maxHeartbeats 4000000 in
set_option maxRecDepth 100000 in
theorem kl_ch {D : va_G} {ac : Nat → ClassId} {w : Nat → Nat} {A : Nat → Prop} {p : Program} {l : Launch} {e : Env} {R : Room} {s : State} {m : MethodId} {args : Array Value} {below : List Frame} {meth : Method} {c : Code} {Q : State → Prop} (X : CK D ac w A p s m args meth c RX3 cX3_init 2) (hR : 2 ≤ R.frames ∧ 64 ≤ R.locals ∧ 22 ≤ R.cells ∧ 488 ≤ R.slots) {a g1 g2 g3 g4 g5 g6 g7 g8 g9 g10 g11 g12 g13 g14 : Nat} {Y : va_W}
    (K : ∀ (f : Nat → Option Nat) (as : List Nat), as.length = 8 → (∀ j, f j = as[j]?) → TK D A p l e R s m args below meth c 2 22 488 Q 130 [(1, .int (nI 8)), (0, .ref a)] [] ((pC_ch ac a g1 g2 g3 g4 g5 g6 g7 g8 g9 g10 g11 g12 g13 g14  f) ++ (Y ++ as.map (fun z => (z, eCh))))) :
    ∀ (r i : Nat) (f : Nat → Option Nat) (as : List Nat), i + r = 8 → as.length = i → (∀ j, f j = as[j]?) → TK D A p l e R s m args below meth c 2 (14 + i) (416 + 9 * i) Q 105 [(1, .int (nI i)), (0, .ref a)] [] ((pC_ch ac a g1 g2 g3 g4 g5 g6 g7 g8 g9 g10 g11 g12 g13 g14  f) ++ (Y ++ as.map (fun z => (z, eCh)))) := by
  intro r
  induction r with
  | zero =>
    intro i f as hi hl hf
    have e8 : i = 8 := by omega
    subst e8
    refine k_iload_n (pc := 105) X dX3_init_105 rfl ?_
    refine k_bipush (pc := 106) X (v := 8) dX3_init_106 (by first | decide | simp) ?_
    exact k_icmp_ge (pc := 108) X (tgt := 130) dX3_init_108 (by first | decide | simp) (fun _ => K f as hl hf) (fun h => absurd (show (8 : Int32) ≤ nI 8 by decide) h)
  | succ r ih =>
    intro i f as hi hl hf
    refine k_iload_n (pc := 105) X dX3_init_105 rfl ?_
    refine k_bipush (pc := 106) X (v := 8) dX3_init_106 (by first | decide | simp) ?_
    refine k_icmp_ge (pc := 108) X (tgt := 130) dX3_init_108 (by first | decide | simp) (fun h => absurd h (nI_ge (b := 8) (by omega) (by first | decide | simp))) (fun _ => ?_)
    refine k_aload_n (pc := 111) X dX3_init_111 rfl ?_
    refine k_get (pc := 112) X (v := .ref g1) 0 rfl kfl_X3_11 rfl dX3_init_112 ?_
    refine k_iload_n (pc := 115) X dX3_init_115 rfl ?_
    refine k_new (pc := 116) X (ci := 0) (C := RX1) (TT := TX1) (N := 9) rfl tyX1 tyX1_ok dfX1 kcl_X3_9 kin_X1 kii_X1 ⟨by have := hR.2.2.1; omega, by have := hR.2.2.2; omega⟩ dX3_init_116 (fun q => ?_)
    refine k_dup (pc := 119) X dX3_init_119 rfl ?_
    refine k_initN (pc := 120) X (mc := 0) (ms := 0) (wc := [(q, zCh)]) (As := []) kmy_X1 rfl kvi_X1 (List.mem_of_getElem? (i := 1) rfl) rfl rfl ⟨hR.1, by have := hR.2.1; show 8 + (1 + 11) + 36 * 1 ≤ _; omega, by have := hR.2.2.1; omega, by have := hR.2.2.2; omega⟩ (fun sz => kc_X1) rfl rfl (Nat.le_of_ble_eq_true rfl) dX3_init_120 (fun w1 hw => ?_)
    subst hw
    have hmid : ((pC_ch ac a g1 g2 g3 g4 g5 g6 g7 g8 g9 g10 g11 g12 g13 g14  f) ++ (Y ++ as.map (fun z => (z, eCh))) ++ [(q, eCh)])[((pC_ch ac a g1 g2 g3 g4 g5 g6 g7 g8 g9 g10 g11 g12 g13 g14  f) ++ (Y ++ as.map (fun z => (z, eCh)))).length]? = some (q, eCh) := at_mid
    refine k_aast (pc := 123) X (ci := 0) (q := (RX1, TX1, 9)) (t := 5) (n := 8) (ws' := (pC_ch ac a g1 g2 g3 g4 g5 g6 g7 g8 g9 g10 g11 g12 g13 g14  (va_up f (nI i).toNatClampNeg (some q))) ++ (Y ++ (as ++ [q]).map (fun z => (z, eCh)))) 1 _ rfl (by first | decide | simp) rfl rfl hmid (vp_in_nI (by omega) (by first | decide | simp)) (by rw [List.append_assoc, List.append_assoc, List.map_append]; rfl) dX3_init_123 ?_
    refine k_iinc (pc := 124) X (v := nI (i + 1)) rfl (nI_1 i) (by first | decide | simp) dX3_init_124 ?_
    refine k_goto (pc := 127) X (tgt := 105) dX3_init_127 (by first | decide | simp) ?_
    refine TK_wide (TK_sub (ih (i + 1) (va_up f (nI i).toNatClampNeg (some q)) (as ++ [q]) (by omega) (by rw [List.length_append, hl]; rfl) (fun j => ?_)) ⟨rfl, rfl, trivial⟩) (by omega) (by omega)
    rw [nI_clamp (by omega), ← hl]
    by_cases z : j = as.length
    · subst z
      rw [va_up_self, List.getElem?_append_right (Nat.le_refl _), Nat.sub_self]
      rfl
    · rw [va_up_ne _ _ z, hf j]
      by_cases y : j < as.length
      · rw [List.getElem?_append_left y]
      · rw [List.getElem?_eq_none (by omega), List.getElem?_eq_none (by rw [List.length_append]; show as.length + 1 ≤ j; omega)]

abbrev pC_tr (ac : Nat → ClassId) (a g1 g2 g3 g4 g5 g6 g7 g8 g9 g10 g11 g12 g13 g14 : Nat) (chs : List Nat) (f : Nat → Option Nat) : va_W := [(a, .inr (2, [.ref g1, .ref g2, .ref g4, .ref g6, .ref g7, .ref g8, .ref g9, .ref g11, .ref g13, .int 0, .int 0, .int 0, .int 0, .int 0, .int 0, .int 0, .int 0])), (g1, aR ac 5 8 chs), (g2, eSq g3), (g3, aI ac 8), (g4, eSq g5), (g5, aI ac 4), (g6, aF ac 6 4 f), (g7, aF ac 7 3 (fun _ => none)), (g8, zCv), (g9, .inr (4, [.ref g10, .int 15, .int 16, .int 0, .int 0, .int 0, .int 0])), (g10, aI ac 64), (g11, .inr (4, [.ref g12, .int 63, .int 64, .int 0, .int 0, .int 0, .int 0])), (g12, aI ac 256), (g13, .inr (4, [.ref g14, .int 3, .int 4, .int 0, .int 0, .int 0, .int 0])), (g14, aI ac 16)]
set_option maxHeartbeats 4000000 in
set_option maxRecDepth 100000 in
theorem kl_tr {D : va_G} {ac : Nat → ClassId} {w : Nat → Nat} {A : Nat → Prop} {p : Program} {l : Launch} {e : Env} {R : Room} {s : State} {m : MethodId} {args : Array Value} {below : List Frame} {meth : Method} {c : Code} {Q : State → Prop} (X : CK D ac w A p s m args meth c RX3 cX3_init 2) (hR : 2 ≤ R.frames ∧ 64 ≤ R.locals ∧ 26 ≤ R.cells ∧ 508 ≤ R.slots) {a g1 g2 g3 g4 g5 g6 g7 g8 g9 g10 g11 g12 g13 g14 : Nat} {chs : List Nat} {Y : va_W}
    (K : ∀ (f : Nat → Option Nat) (as : List Nat), as.length = 4 → (∀ j, f j = as[j]?) → TK D A p l e R s m args below meth c 2 26 508 Q 156 [(1, .int (nI 4)), (0, .ref a)] [] ((pC_tr ac a g1 g2 g3 g4 g5 g6 g7 g8 g9 g10 g11 g12 g13 g14 chs f) ++ (Y ++ as.map (fun z => (z, zTr))))) :
    ∀ (r i : Nat) (f : Nat → Option Nat) (as : List Nat), i + r = 4 → as.length = i → (∀ j, f j = as[j]?) → TK D A p l e R s m args below meth c 2 (22 + i) (488 + 5 * i) Q 132 [(1, .int (nI i)), (0, .ref a)] [] ((pC_tr ac a g1 g2 g3 g4 g5 g6 g7 g8 g9 g10 g11 g12 g13 g14 chs f) ++ (Y ++ as.map (fun z => (z, zTr)))) := by
  intro r
  induction r with
  | zero =>
    intro i f as hi hl hf
    have e8 : i = 4 := by omega
    subst e8
    refine k_iload_n (pc := 132) X dX3_init_132 rfl ?_
    refine k_iconst (pc := 133) X (v := 4) dX3_init_133 (by first | decide | simp) ?_
    exact k_icmp_ge (pc := 134) X (tgt := 156) dX3_init_134 (by first | decide | simp) (fun _ => K f as hl hf) (fun h => absurd (show (4 : Int32) ≤ nI 4 by decide) h)
  | succ r ih =>
    intro i f as hi hl hf
    refine k_iload_n (pc := 132) X dX3_init_132 rfl ?_
    refine k_iconst (pc := 133) X (v := 4) dX3_init_133 (by first | decide | simp) ?_
    refine k_icmp_ge (pc := 134) X (tgt := 156) dX3_init_134 (by first | decide | simp) (fun h => absurd h (nI_ge (b := 4) (by omega) (by first | decide | simp))) (fun _ => ?_)
    refine k_aload_n (pc := 137) X dX3_init_137 rfl ?_
    refine k_get (pc := 138) X (v := .ref g6) 0 rfl kfl_X3_31 rfl dX3_init_138 ?_
    refine k_iload_n (pc := 141) X dX3_init_141 rfl ?_
    refine k_new (pc := 142) X (ci := 7) (C := RX8) (TT := TX8) (N := 5) rfl tyX8 tyX8_ok dfX8 kcl_X3_29 kin_X8 kii_X8 ⟨by have := hR.2.2.1; omega, by have := hR.2.2.2; omega⟩ dX3_init_142 (fun q => ?_)
    refine k_dup (pc := 145) X dX3_init_145 rfl ?_
    refine k_initN (pc := 146) X (mc := 0) (ms := 0) (wc := [(q, zTr)]) (As := []) kmy_X8 rfl kvi_X8 (List.mem_of_getElem? (i := 2) rfl) rfl rfl ⟨hR.1, by have := hR.2.1; show 8 + (1 + 11) + 36 * 1 ≤ _; omega, by have := hR.2.2.1; omega, by have := hR.2.2.2; omega⟩ (fun sz => kc_X8) rfl rfl (Nat.le_of_ble_eq_true rfl) dX3_init_146 (fun w1 hw => ?_)
    subst hw
    have hmid : ((pC_tr ac a g1 g2 g3 g4 g5 g6 g7 g8 g9 g10 g11 g12 g13 g14 chs f) ++ (Y ++ as.map (fun z => (z, zTr))) ++ [(q, zTr)])[((pC_tr ac a g1 g2 g3 g4 g5 g6 g7 g8 g9 g10 g11 g12 g13 g14 chs f) ++ (Y ++ as.map (fun z => (z, zTr)))).length]? = some (q, zTr) := at_mid
    refine k_aast (pc := 149) X (ci := 7) (q := (RX8, TX8, 5)) (t := 6) (n := 4) (ws' := (pC_tr ac a g1 g2 g3 g4 g5 g6 g7 g8 g9 g10 g11 g12 g13 g14 chs (va_up f (nI i).toNatClampNeg (some q))) ++ (Y ++ (as ++ [q]).map (fun z => (z, zTr)))) 6 _ rfl (by first | decide | simp) rfl rfl hmid (vp_in_nI (by omega) (by first | decide | simp)) (by rw [List.append_assoc, List.append_assoc, List.map_append]; rfl) dX3_init_149 ?_
    refine k_iinc (pc := 150) X (v := nI (i + 1)) rfl (nI_1 i) (by first | decide | simp) dX3_init_150 ?_
    refine k_goto (pc := 153) X (tgt := 132) dX3_init_153 (by first | decide | simp) ?_
    refine TK_wide (TK_sub (ih (i + 1) (va_up f (nI i).toNatClampNeg (some q)) (as ++ [q]) (by omega) (by rw [List.length_append, hl]; rfl) (fun j => ?_)) ⟨rfl, rfl, trivial⟩) (by omega) (by omega)
    rw [nI_clamp (by omega), ← hl]
    by_cases z : j = as.length
    · subst z
      rw [va_up_self, List.getElem?_append_right (Nat.le_refl _), Nat.sub_self]
      rfl
    · rw [va_up_ne _ _ z, hf j]
      by_cases y : j < as.length
      · rw [List.getElem?_append_left y]
      · rw [List.getElem?_eq_none (by omega), List.getElem?_eq_none (by rw [List.length_append]; show as.length + 1 ≤ j; omega)]

abbrev pC_wn (ac : Nat → ClassId) (a g1 g2 g3 g4 g5 g6 g7 g8 g9 g10 g11 g12 g13 g14 : Nat) (chs trs : List Nat) (f : Nat → Option Nat) : va_W := [(a, .inr (2, [.ref g1, .ref g2, .ref g4, .ref g6, .ref g7, .ref g8, .ref g9, .ref g11, .ref g13, .int 0, .int 0, .int 0, .int 0, .int 0, .int 0, .int 0, .int 0])), (g1, aR ac 5 8 chs), (g2, eSq g3), (g3, aI ac 8), (g4, eSq g5), (g5, aI ac 4), (g6, aR ac 6 4 trs), (g7, aF ac 7 3 f), (g8, zCv), (g9, .inr (4, [.ref g10, .int 15, .int 16, .int 0, .int 0, .int 0, .int 0])), (g10, aI ac 64), (g11, .inr (4, [.ref g12, .int 63, .int 64, .int 0, .int 0, .int 0, .int 0])), (g12, aI ac 256), (g13, .inr (4, [.ref g14, .int 3, .int 4, .int 0, .int 0, .int 0, .int 0])), (g14, aI ac 16)]
set_option maxHeartbeats 4000000 in
set_option maxRecDepth 100000 in
theorem kl_wn {D : va_G} {ac : Nat → ClassId} {w : Nat → Nat} {A : Nat → Prop} {p : Program} {l : Launch} {e : Env} {R : Room} {s : State} {m : MethodId} {args : Array Value} {below : List Frame} {meth : Method} {c : Code} {Q : State → Prop} (X : CK D ac w A p s m args meth c RX3 cX3_init 2) (hR : 2 ≤ R.frames ∧ 64 ≤ R.locals ∧ 29 ≤ R.cells ∧ 538 ≤ R.slots) {a g1 g2 g3 g4 g5 g6 g7 g8 g9 g10 g11 g12 g13 g14 : Nat} {chs trs : List Nat} {Y : va_W}
    (K : ∀ (f : Nat → Option Nat) (as : List Nat), as.length = 3 → (∀ j, f j = as[j]?) → TK D A p l e R s m args below meth c 2 29 538 Q 182 [(1, .int (nI 3)), (0, .ref a)] [] ((pC_wn ac a g1 g2 g3 g4 g5 g6 g7 g8 g9 g10 g11 g12 g13 g14 chs trs f) ++ (Y ++ as.map (fun z => (z, eWn))))) :
    ∀ (r i : Nat) (f : Nat → Option Nat) (as : List Nat), i + r = 3 → as.length = i → (∀ j, f j = as[j]?) → TK D A p l e R s m args below meth c 2 (26 + i) (508 + 10 * i) Q 158 [(1, .int (nI i)), (0, .ref a)] [] ((pC_wn ac a g1 g2 g3 g4 g5 g6 g7 g8 g9 g10 g11 g12 g13 g14 chs trs f) ++ (Y ++ as.map (fun z => (z, eWn)))) := by
  intro r
  induction r with
  | zero =>
    intro i f as hi hl hf
    have e8 : i = 3 := by omega
    subst e8
    refine k_iload_n (pc := 158) X dX3_init_158 rfl ?_
    refine k_iconst (pc := 159) X (v := 3) dX3_init_159 (by first | decide | simp) ?_
    exact k_icmp_ge (pc := 160) X (tgt := 182) dX3_init_160 (by first | decide | simp) (fun _ => K f as hl hf) (fun h => absurd (show (3 : Int32) ≤ nI 3 by decide) h)
  | succ r ih =>
    intro i f as hi hl hf
    refine k_iload_n (pc := 158) X dX3_init_158 rfl ?_
    refine k_iconst (pc := 159) X (v := 3) dX3_init_159 (by first | decide | simp) ?_
    refine k_icmp_ge (pc := 160) X (tgt := 182) dX3_init_160 (by first | decide | simp) (fun h => absurd h (nI_ge (b := 3) (by omega) (by first | decide | simp))) (fun _ => ?_)
    refine k_aload_n (pc := 163) X dX3_init_163 rfl ?_
    refine k_get (pc := 164) X (v := .ref g7) 0 rfl kfl_X3_37 rfl dX3_init_164 ?_
    refine k_iload_n (pc := 167) X dX3_init_167 rfl ?_
    refine k_new (pc := 168) X (ci := 8) (C := RX9) (TT := TX9) (N := 10) rfl tyX9 tyX9_ok dfX9 kcl_X3_35 kin_X9 kii_X9 ⟨by have := hR.2.2.1; omega, by have := hR.2.2.2; omega⟩ dX3_init_168 (fun q => ?_)
    refine k_dup (pc := 171) X dX3_init_171 rfl ?_
    refine k_initN (pc := 172) X (mc := 0) (ms := 0) (wc := [(q, zWn)]) (As := []) kmy_X9 rfl kvi_X9 (List.mem_of_getElem? (i := 3) rfl) rfl rfl ⟨hR.1, by have := hR.2.1; show 8 + (1 + 11) + 36 * 1 ≤ _; omega, by have := hR.2.2.1; omega, by have := hR.2.2.2; omega⟩ (fun sz => kc_X9) rfl rfl (Nat.le_of_ble_eq_true rfl) dX3_init_172 (fun w1 hw => ?_)
    subst hw
    have hmid : ((pC_wn ac a g1 g2 g3 g4 g5 g6 g7 g8 g9 g10 g11 g12 g13 g14 chs trs f) ++ (Y ++ as.map (fun z => (z, eWn))) ++ [(q, eWn)])[((pC_wn ac a g1 g2 g3 g4 g5 g6 g7 g8 g9 g10 g11 g12 g13 g14 chs trs f) ++ (Y ++ as.map (fun z => (z, eWn)))).length]? = some (q, eWn) := at_mid
    refine k_aast (pc := 175) X (ci := 8) (q := (RX9, TX9, 10)) (t := 7) (n := 3) (ws' := (pC_wn ac a g1 g2 g3 g4 g5 g6 g7 g8 g9 g10 g11 g12 g13 g14 chs trs (va_up f (nI i).toNatClampNeg (some q))) ++ (Y ++ (as ++ [q]).map (fun z => (z, eWn)))) 7 _ rfl (by first | decide | simp) rfl rfl hmid (vp_in_nI (by omega) (by first | decide | simp)) (by rw [List.append_assoc, List.append_assoc, List.map_append]; rfl) dX3_init_175 ?_
    refine k_iinc (pc := 176) X (v := nI (i + 1)) rfl (nI_1 i) (by first | decide | simp) dX3_init_176 ?_
    refine k_goto (pc := 179) X (tgt := 158) dX3_init_179 (by first | decide | simp) ?_
    refine TK_wide (TK_sub (ih (i + 1) (va_up f (nI i).toNatClampNeg (some q)) (as ++ [q]) (by omega) (by rw [List.length_append, hl]; rfl) (fun j => ?_)) ⟨rfl, rfl, trivial⟩) (by omega) (by omega)
    rw [nI_clamp (by omega), ← hl]
    by_cases z : j = as.length
    · subst z
      rw [va_up_self, List.getElem?_append_right (Nat.le_refl _), Nat.sub_self]
      rfl
    · rw [va_up_ne _ _ z, hf j]
      by_cases y : j < as.length
      · rw [List.getElem?_append_left y]
      · rw [List.getElem?_eq_none (by omega), List.getElem?_eq_none (by rw [List.length_append]; show as.length + 1 ≤ j; omega)]

/-- a new converter -/
abbrev cvW (ac : Nat → ClassId) (q : Nat → Nat) (chs trs wns : List Nat) : va_W := [(q 0, .inr (2, [.ref (q 1), .ref (q 2), .ref (q 4), .ref (q 6), .ref (q 7), .ref (q 8), .ref (q 9), .ref (q 11), .ref (q 13), .int 0, .int 0, .int 0, .int 0, .int 0, .int 0, .int 0, .int 0])), (q 1, aR ac 5 8 chs), (q 2, eSq (q 3)), (q 3, aI ac 8), (q 4, eSq (q 5)), (q 5, aI ac 4), (q 6, aR ac 6 4 trs), (q 7, aR ac 7 3 wns), (q 8, zCv), (q 9, .inr (4, [.ref (q 10), .int 15, .int 4, .int 0, .int 0, .int 0, .int 0])), (q 10, aI ac 64), (q 11, .inr (4, [.ref (q 12), .int 63, .int 64, .int 1, .int 0, .int 0, .int 0])), (q 12, aI ac 256), (q 13, .inr (4, [.ref (q 14), .int 3, .int 4, .int 0, .int 0, .int 0, .int 0])), (q 14, aI ac 16)] ++ ((chs.map (fun z => (z, eCh)) ++ trs.map (fun z => (z, zTr))) ++ wns.map (fun z => (z, eWn)))
set_option maxHeartbeats 8000000 in
set_option maxRecDepth 100000 in
theorem kc_X3 {D : va_G} {ac : Nat → ClassId} {w : Nat → Nat} {l : Launch} {sz a : Nat} : Met l yX3_init (wsO yX3_init cX3_init 2 none) (rmK 2 29 538) (PcK D ac w [.ref a] [(a, zCo)] sz) (QvK D [(a, zCo)] sz (fun w1 => ∃ (q : Nat → Nat) (chs trs wns : List Nat), q 0 = a ∧ chs.length = 8 ∧ trs.length = 4 ∧ wns.length = 3 ∧ w1 = cvW ac q chs trs wns)) 29 538 (va_A [(a, zCo)] sz) := by
  refine kmet (own := RX3) rfl (by decide +kernel) (Nat.le_of_ble_eq_true rfl) (fun p e s m args below meth c X hin2 hr hlk => ?_)
  show TK D _ p l e _ s m args below meth c _ 0 0 _ 0 [(0, .ref a)] [] [(a, .inr (2, [.null, .null, .null, .null, .null, .null, .null, .null, .null, .int 0, .int 0, .int 0, .int 0, .int 0, .int 0, .int 0, .int 0]))]
  refine k_aload_n (pc := 0) X dX3_init_0 rfl ?_
  refine k_objInit (pc := 1) X kml_X3_3 koi_1 koi_2 ⟨Nat.le_of_ble_eq_true rfl, Nat.le_of_ble_eq_true rfl⟩ dX3_init_1 ?_
  refine k_aload_n (pc := 4) X dX3_init_4 rfl ?_
  refine k_bipush (pc := 5) X (v := 8) dX3_init_5 (by first | decide | simp) ?_
  refine k_newq (pc := 7) X (C := RX1) (N' := 8) kcl_X3_9 (List.mem_of_getElem? (i := 0) rfl) 5 (by first | decide | simp) rfl (by first | decide | simp) (by first | decide | simp) (Nat.le_of_ble_eq_true rfl) ⟨Nat.le_of_ble_eq_true rfl, Nat.le_of_ble_eq_true rfl⟩ dX3_init_7 (fun g1 => ?_)
  refine k_putF (pc := 10) X hin2 (v := .ref g1) (ws' := [(a, .inr (2, [.ref g1, .null, .null, .null, .null, .null, .null, .null, .null, .int 0, .int 0, .int 0, .int 0, .int 0, .int 0, .int 0, .int 0])), (g1, aF ac 5 8 (fun _ => none))]) 0 rfl kff_X3_11 (tyX3_ok 0 (by first | decide | simp)) rfl rfl (by first | decide | simp) rfl dX3_init_10 ?_
  refine k_aload_n (pc := 13) X dX3_init_13 rfl ?_
  refine k_new (pc := 14) X (ci := 5) (C := RX6) (TT := TX6) (N := 13) rfl tyX6 tyX6_ok dfX6 kcl_X3_17 kin_X6 kii_X6 ⟨Nat.le_of_ble_eq_true rfl, Nat.le_of_ble_eq_true rfl⟩ dX3_init_14 (fun g2 => ?_)
  refine k_dup (pc := 17) X dX3_init_17 rfl ?_
  refine k_bipush (pc := 18) X (v := 8) dX3_init_18 (by first | decide | simp) ?_
  refine k_init (pc := 20) X (mc := 1) (ms := 8) (X0 := [(a, .inr (2, [.ref g1, .null, .null, .null, .null, .null, .null, .null, .null, .int 0, .int 0, .int 0, .int 0, .int 0, .int 0, .int 0, .int 0])), (g1, aF ac 5 8 (fun _ => none))]) (wc := [(g2, zSq)]) (As := [.int 8]) kmy_X6 rfl kvi_X6 kml_X3_19 rfl rfl ⟨Nat.le_of_ble_eq_true rfl, Nat.le_of_ble_eq_true rfl, Nat.le_of_ble_eq_true rfl, Nat.le_of_ble_eq_true rfl⟩ (fun sz => kc_X6 (n := 8) (N' := 8) (by first | decide | simp) (by first | decide | simp) (Nat.le_of_ble_eq_true rfl)) rfl rfl (Nat.le_of_ble_eq_true rfl) dX3_init_20 (fun w1 hw => ?_)
  obtain ⟨g3, rfl⟩ := hw
  refine k_putF (pc := 23) X hin2 (v := .ref g2) (ws' := [(a, .inr (2, [.ref g1, .ref g2, .null, .null, .null, .null, .null, .null, .null, .int 0, .int 0, .int 0, .int 0, .int 0, .int 0, .int 0, .int 0])), (g1, aF ac 5 8 (fun _ => none)), (g2, eSq g3), (g3, aI ac 8)]) 0 rfl kff_X3_22 (tyX3_ok 1 (by first | decide | simp)) rfl rfl (by first | decide | simp) rfl dX3_init_23 ?_
  refine k_aload_n (pc := 26) X dX3_init_26 rfl ?_
  refine k_new (pc := 27) X (ci := 5) (C := RX6) (TT := TX6) (N := 13) rfl tyX6 tyX6_ok dfX6 kcl_X3_17 kin_X6 kii_X6 ⟨Nat.le_of_ble_eq_true rfl, Nat.le_of_ble_eq_true rfl⟩ dX3_init_27 (fun g4 => ?_)
  refine k_dup (pc := 30) X dX3_init_30 rfl ?_
  refine k_iconst (pc := 31) X (v := 4) dX3_init_31 (by first | decide | simp) ?_
  refine k_init (pc := 32) X (mc := 1) (ms := 4) (X0 := [(a, .inr (2, [.ref g1, .ref g2, .null, .null, .null, .null, .null, .null, .null, .int 0, .int 0, .int 0, .int 0, .int 0, .int 0, .int 0, .int 0])), (g1, aF ac 5 8 (fun _ => none)), (g2, eSq g3), (g3, aI ac 8)]) (wc := [(g4, zSq)]) (As := [.int 4]) kmy_X6 rfl kvi_X6 kml_X3_19 rfl rfl ⟨Nat.le_of_ble_eq_true rfl, Nat.le_of_ble_eq_true rfl, Nat.le_of_ble_eq_true rfl, Nat.le_of_ble_eq_true rfl⟩ (fun sz => kc_X6 (n := 4) (N' := 4) (by first | decide | simp) (by first | decide | simp) (Nat.le_of_ble_eq_true rfl)) rfl rfl (Nat.le_of_ble_eq_true rfl) dX3_init_32 (fun w1 hw => ?_)
  obtain ⟨g5, rfl⟩ := hw
  refine k_putF (pc := 35) X hin2 (v := .ref g4) (ws' := [(a, .inr (2, [.ref g1, .ref g2, .ref g4, .null, .null, .null, .null, .null, .null, .int 0, .int 0, .int 0, .int 0, .int 0, .int 0, .int 0, .int 0])), (g1, aF ac 5 8 (fun _ => none)), (g2, eSq g3), (g3, aI ac 8), (g4, eSq g5), (g5, aI ac 4)]) 0 rfl kff_X3_26 (tyX3_ok 2 (by first | decide | simp)) rfl rfl (by first | decide | simp) rfl dX3_init_35 ?_
  refine k_aload_n (pc := 38) X dX3_init_38 rfl ?_
  refine k_iconst (pc := 39) X (v := 4) dX3_init_39 (by first | decide | simp) ?_
  refine k_newq (pc := 40) X (C := RX8) (N' := 4) kcl_X3_29 (List.mem_of_getElem? (i := 1) rfl) 6 (by first | decide | simp) rfl (by first | decide | simp) (by first | decide | simp) (Nat.le_of_ble_eq_true rfl) ⟨Nat.le_of_ble_eq_true rfl, Nat.le_of_ble_eq_true rfl⟩ dX3_init_40 (fun g6 => ?_)
  refine k_putF (pc := 43) X hin2 (v := .ref g6) (ws' := [(a, .inr (2, [.ref g1, .ref g2, .ref g4, .ref g6, .null, .null, .null, .null, .null, .int 0, .int 0, .int 0, .int 0, .int 0, .int 0, .int 0, .int 0])), (g1, aF ac 5 8 (fun _ => none)), (g2, eSq g3), (g3, aI ac 8), (g4, eSq g5), (g5, aI ac 4), (g6, aF ac 6 4 (fun _ => none))]) 0 rfl kff_X3_31 (tyX3_ok 3 (by first | decide | simp)) rfl rfl (by first | decide | simp) rfl dX3_init_43 ?_
  refine k_aload_n (pc := 46) X dX3_init_46 rfl ?_
  refine k_iconst (pc := 47) X (v := 3) dX3_init_47 (by first | decide | simp) ?_
  refine k_newq (pc := 48) X (C := RX9) (N' := 3) kcl_X3_35 (List.mem_of_getElem? (i := 2) rfl) 7 (by first | decide | simp) rfl (by first | decide | simp) (by first | decide | simp) (Nat.le_of_ble_eq_true rfl) ⟨Nat.le_of_ble_eq_true rfl, Nat.le_of_ble_eq_true rfl⟩ dX3_init_48 (fun g7 => ?_)
  refine k_putF (pc := 51) X hin2 (v := .ref g7) (ws' := [(a, .inr (2, [.ref g1, .ref g2, .ref g4, .ref g6, .ref g7, .null, .null, .null, .null, .int 0, .int 0, .int 0, .int 0, .int 0, .int 0, .int 0, .int 0])), (g1, aF ac 5 8 (fun _ => none)), (g2, eSq g3), (g3, aI ac 8), (g4, eSq g5), (g5, aI ac 4), (g6, aF ac 6 4 (fun _ => none)), (g7, aF ac 7 3 (fun _ => none))]) 0 rfl kff_X3_37 (tyX3_ok 4 (by first | decide | simp)) rfl rfl (by first | decide | simp) rfl dX3_init_51 ?_
  refine k_aload_n (pc := 54) X dX3_init_54 rfl ?_
  refine k_new (pc := 55) X (ci := 1) (C := RX2) (TT := TX2) (N := 6) rfl tyX2 tyX2_ok dfX2 kcl_X3_41 kin_X2 kii_X2 ⟨Nat.le_of_ble_eq_true rfl, Nat.le_of_ble_eq_true rfl⟩ dX3_init_55 (fun g8 => ?_)
  refine k_dup (pc := 58) X dX3_init_58 rfl ?_
  refine k_initN (pc := 59) X (mc := 0) (ms := 0) (X0 := [(a, .inr (2, [.ref g1, .ref g2, .ref g4, .ref g6, .ref g7, .null, .null, .null, .null, .int 0, .int 0, .int 0, .int 0, .int 0, .int 0, .int 0, .int 0])), (g1, aF ac 5 8 (fun _ => none)), (g2, eSq g3), (g3, aI ac 8), (g4, eSq g5), (g5, aI ac 4), (g6, aF ac 6 4 (fun _ => none)), (g7, aF ac 7 3 (fun _ => none))]) (wc := [(g8, zCv)]) (As := []) kmy_X2 rfl kvi_X2 (List.mem_of_getElem? (i := 0) rfl) rfl rfl ⟨Nat.le_of_ble_eq_true rfl, Nat.le_of_ble_eq_true rfl, Nat.le_of_ble_eq_true rfl, Nat.le_of_ble_eq_true rfl⟩ (fun sz => kc_X2) rfl rfl (Nat.le_of_ble_eq_true rfl) dX3_init_59 (fun w1 hw => ?_)
  subst hw
  refine k_putF (pc := 62) X hin2 (v := .ref g8) (ws' := [(a, .inr (2, [.ref g1, .ref g2, .ref g4, .ref g6, .ref g7, .ref g8, .null, .null, .null, .int 0, .int 0, .int 0, .int 0, .int 0, .int 0, .int 0, .int 0])), (g1, aF ac 5 8 (fun _ => none)), (g2, eSq g3), (g3, aI ac 8), (g4, eSq g5), (g5, aI ac 4), (g6, aF ac 6 4 (fun _ => none)), (g7, aF ac 7 3 (fun _ => none)), (g8, zCv)]) 0 rfl kff_X3_44 (tyX3_ok 5 (by first | decide | simp)) rfl rfl (by first | decide | simp) rfl dX3_init_62 ?_
  refine k_aload_n (pc := 65) X dX3_init_65 rfl ?_
  refine k_new (pc := 66) X (ci := 4) (C := RX5) (TT := TX5) (N := 7) rfl tyX5 tyX5_ok dfX5 kcl_X3_48 kin_X5 kii_X5 ⟨Nat.le_of_ble_eq_true rfl, Nat.le_of_ble_eq_true rfl⟩ dX3_init_66 (fun g9 => ?_)
  refine k_dup (pc := 69) X dX3_init_69 rfl ?_
  refine k_bipush (pc := 70) X (v := 16) dX3_init_70 (by first | decide | simp) ?_
  refine k_init (pc := 72) X (mc := 1) (ms := 64) (X0 := [(a, .inr (2, [.ref g1, .ref g2, .ref g4, .ref g6, .ref g7, .ref g8, .null, .null, .null, .int 0, .int 0, .int 0, .int 0, .int 0, .int 0, .int 0, .int 0])), (g1, aF ac 5 8 (fun _ => none)), (g2, eSq g3), (g3, aI ac 8), (g4, eSq g5), (g5, aI ac 4), (g6, aF ac 6 4 (fun _ => none)), (g7, aF ac 7 3 (fun _ => none)), (g8, zCv)]) (wc := [(g9, zRs)]) (As := [.int 16]) kmy_X5 rfl kvi_X5 kml_X3_50 rfl rfl ⟨Nat.le_of_ble_eq_true rfl, Nat.le_of_ble_eq_true rfl, Nat.le_of_ble_eq_true rfl, Nat.le_of_ble_eq_true rfl⟩ (fun sz => kc_X5 (n := 16) (n4 := 64) (mk := 15) (N' := 64) (by first | decide | simp) (by first | decide | simp) (by first | decide | simp) (by first | decide | simp) (Nat.le_of_ble_eq_true rfl)) rfl rfl (Nat.le_of_ble_eq_true rfl) dX3_init_72 (fun w1 hw => ?_)
  obtain ⟨g10, rfl⟩ := hw
  refine k_putF (pc := 75) X hin2 (v := .ref g9) (ws' := [(a, .inr (2, [.ref g1, .ref g2, .ref g4, .ref g6, .ref g7, .ref g8, .ref g9, .null, .null, .int 0, .int 0, .int 0, .int 0, .int 0, .int 0, .int 0, .int 0])), (g1, aF ac 5 8 (fun _ => none)), (g2, eSq g3), (g3, aI ac 8), (g4, eSq g5), (g5, aI ac 4), (g6, aF ac 6 4 (fun _ => none)), (g7, aF ac 7 3 (fun _ => none)), (g8, zCv), (g9, .inr (4, [.ref g10, .int 15, .int 16, .int 0, .int 0, .int 0, .int 0])), (g10, aI ac 64)]) 0 rfl kff_X3_51 (tyX3_ok 6 (by first | decide | simp)) rfl rfl (by first | decide | simp) rfl dX3_init_75 ?_
  refine k_aload_n (pc := 78) X dX3_init_78 rfl ?_
  refine k_new (pc := 79) X (ci := 4) (C := RX5) (TT := TX5) (N := 7) rfl tyX5 tyX5_ok dfX5 kcl_X3_48 kin_X5 kii_X5 ⟨Nat.le_of_ble_eq_true rfl, Nat.le_of_ble_eq_true rfl⟩ dX3_init_79 (fun g11 => ?_)
  refine k_dup (pc := 82) X dX3_init_82 rfl ?_
  refine k_bipush (pc := 83) X (v := 64) dX3_init_83 (by first | decide | simp) ?_
  refine k_init (pc := 85) X (mc := 1) (ms := 256) (X0 := [(a, .inr (2, [.ref g1, .ref g2, .ref g4, .ref g6, .ref g7, .ref g8, .ref g9, .null, .null, .int 0, .int 0, .int 0, .int 0, .int 0, .int 0, .int 0, .int 0])), (g1, aF ac 5 8 (fun _ => none)), (g2, eSq g3), (g3, aI ac 8), (g4, eSq g5), (g5, aI ac 4), (g6, aF ac 6 4 (fun _ => none)), (g7, aF ac 7 3 (fun _ => none)), (g8, zCv), (g9, .inr (4, [.ref g10, .int 15, .int 16, .int 0, .int 0, .int 0, .int 0])), (g10, aI ac 64)]) (wc := [(g11, zRs)]) (As := [.int 64]) kmy_X5 rfl kvi_X5 kml_X3_50 rfl rfl ⟨Nat.le_of_ble_eq_true rfl, Nat.le_of_ble_eq_true rfl, Nat.le_of_ble_eq_true rfl, Nat.le_of_ble_eq_true rfl⟩ (fun sz => kc_X5 (n := 64) (n4 := 256) (mk := 63) (N' := 256) (by first | decide | simp) (by first | decide | simp) (by first | decide | simp) (by first | decide | simp) (Nat.le_of_ble_eq_true rfl)) rfl rfl (Nat.le_of_ble_eq_true rfl) dX3_init_85 (fun w1 hw => ?_)
  obtain ⟨g12, rfl⟩ := hw
  refine k_putF (pc := 88) X hin2 (v := .ref g11) (ws' := [(a, .inr (2, [.ref g1, .ref g2, .ref g4, .ref g6, .ref g7, .ref g8, .ref g9, .ref g11, .null, .int 0, .int 0, .int 0, .int 0, .int 0, .int 0, .int 0, .int 0])), (g1, aF ac 5 8 (fun _ => none)), (g2, eSq g3), (g3, aI ac 8), (g4, eSq g5), (g5, aI ac 4), (g6, aF ac 6 4 (fun _ => none)), (g7, aF ac 7 3 (fun _ => none)), (g8, zCv), (g9, .inr (4, [.ref g10, .int 15, .int 16, .int 0, .int 0, .int 0, .int 0])), (g10, aI ac 64), (g11, .inr (4, [.ref g12, .int 63, .int 64, .int 0, .int 0, .int 0, .int 0])), (g12, aI ac 256)]) 0 rfl kff_X3_55 (tyX3_ok 7 (by first | decide | simp)) rfl rfl (by first | decide | simp) rfl dX3_init_88 ?_
  refine k_aload_n (pc := 91) X dX3_init_91 rfl ?_
  refine k_new (pc := 92) X (ci := 4) (C := RX5) (TT := TX5) (N := 7) rfl tyX5 tyX5_ok dfX5 kcl_X3_48 kin_X5 kii_X5 ⟨Nat.le_of_ble_eq_true rfl, Nat.le_of_ble_eq_true rfl⟩ dX3_init_92 (fun g13 => ?_)
  refine k_dup (pc := 95) X dX3_init_95 rfl ?_
  refine k_iconst (pc := 96) X (v := 4) dX3_init_96 (by first | decide | simp) ?_
  refine k_init (pc := 97) X (mc := 1) (ms := 16) (X0 := [(a, .inr (2, [.ref g1, .ref g2, .ref g4, .ref g6, .ref g7, .ref g8, .ref g9, .ref g11, .null, .int 0, .int 0, .int 0, .int 0, .int 0, .int 0, .int 0, .int 0])), (g1, aF ac 5 8 (fun _ => none)), (g2, eSq g3), (g3, aI ac 8), (g4, eSq g5), (g5, aI ac 4), (g6, aF ac 6 4 (fun _ => none)), (g7, aF ac 7 3 (fun _ => none)), (g8, zCv), (g9, .inr (4, [.ref g10, .int 15, .int 16, .int 0, .int 0, .int 0, .int 0])), (g10, aI ac 64), (g11, .inr (4, [.ref g12, .int 63, .int 64, .int 0, .int 0, .int 0, .int 0])), (g12, aI ac 256)]) (wc := [(g13, zRs)]) (As := [.int 4]) kmy_X5 rfl kvi_X5 kml_X3_50 rfl rfl ⟨Nat.le_of_ble_eq_true rfl, Nat.le_of_ble_eq_true rfl, Nat.le_of_ble_eq_true rfl, Nat.le_of_ble_eq_true rfl⟩ (fun sz => kc_X5 (n := 4) (n4 := 16) (mk := 3) (N' := 16) (by first | decide | simp) (by first | decide | simp) (by first | decide | simp) (by first | decide | simp) (Nat.le_of_ble_eq_true rfl)) rfl rfl (Nat.le_of_ble_eq_true rfl) dX3_init_97 (fun w1 hw => ?_)
  obtain ⟨g14, rfl⟩ := hw
  refine k_putF (pc := 100) X hin2 (v := .ref g13) (ws' := [(a, .inr (2, [.ref g1, .ref g2, .ref g4, .ref g6, .ref g7, .ref g8, .ref g9, .ref g11, .ref g13, .int 0, .int 0, .int 0, .int 0, .int 0, .int 0, .int 0, .int 0])), (g1, aF ac 5 8 (fun _ => none)), (g2, eSq g3), (g3, aI ac 8), (g4, eSq g5), (g5, aI ac 4), (g6, aF ac 6 4 (fun _ => none)), (g7, aF ac 7 3 (fun _ => none)), (g8, zCv), (g9, .inr (4, [.ref g10, .int 15, .int 16, .int 0, .int 0, .int 0, .int 0])), (g10, aI ac 64), (g11, .inr (4, [.ref g12, .int 63, .int 64, .int 0, .int 0, .int 0, .int 0])), (g12, aI ac 256), (g13, .inr (4, [.ref g14, .int 3, .int 4, .int 0, .int 0, .int 0, .int 0])), (g14, aI ac 16)]) 0 rfl kff_X3_58 (tyX3_ok 8 (by first | decide | simp)) rfl rfl (by first | decide | simp) rfl dX3_init_100 ?_
  refine k_iconst (pc := 103) X (v := 0) dX3_init_103 (by first | decide | simp) ?_
  refine k_istore_n (pc := 104) X (by first | decide | simp) dX3_init_104 ?_
  refine TK_eq (TK_sub (kl_ch (Y := []) X ⟨Nat.le_of_ble_eq_true rfl, Nat.le_of_ble_eq_true rfl, Nat.le_of_ble_eq_true rfl, Nat.le_of_ble_eq_true rfl⟩ (fun fch chs hch1 hch2 => ?_) 8 0 (fun _ => none) [] rfl rfl (fun j => by simp)) ⟨rfl, rfl, trivial⟩) rfl
  refine TK_arr (ws' := pC_tr ac a g1 g2 g3 g4 g5 g6 g7 g8 g9 g10 g11 g12 g13 g14 chs (fun _ => none) ++ (chs.map (fun z => (z, eCh)))) 1 rfl (as_get hch2 hch1) rfl ?_
  refine k_iconst (pc := 130) X (v := 0) dX3_init_130 (by first | decide | simp) ?_
  refine k_istore_n (pc := 131) X (by first | decide | simp) dX3_init_131 ?_
  refine TK_eq (TK_sub (kl_tr (Y := chs.map (fun z => (z, eCh))) X ⟨Nat.le_of_ble_eq_true rfl, Nat.le_of_ble_eq_true rfl, Nat.le_of_ble_eq_true rfl, Nat.le_of_ble_eq_true rfl⟩ (fun ftr trs htr1 htr2 => ?_) 4 0 (fun _ => none) [] rfl rfl (fun j => by simp)) ⟨rfl, rfl, trivial⟩) (by rw [List.map_nil, List.append_nil])
  refine TK_arr (ws' := pC_wn ac a g1 g2 g3 g4 g5 g6 g7 g8 g9 g10 g11 g12 g13 g14 chs trs (fun _ => none) ++ (chs.map (fun z => (z, eCh)) ++ trs.map (fun z => (z, zTr)))) 6 rfl (as_get htr2 htr1) rfl ?_
  refine k_iconst (pc := 156) X (v := 0) dX3_init_156 (by first | decide | simp) ?_
  refine k_istore_n (pc := 157) X (by first | decide | simp) dX3_init_157 ?_
  refine TK_eq (TK_sub (kl_wn (Y := chs.map (fun z => (z, eCh)) ++ trs.map (fun z => (z, zTr))) X ⟨Nat.le_of_ble_eq_true rfl, Nat.le_of_ble_eq_true rfl, Nat.le_of_ble_eq_true rfl, Nat.le_of_ble_eq_true rfl⟩ (fun fwn wns hwn1 hwn2 => ?_) 3 0 (fun _ => none) [] rfl rfl (fun j => by simp)) ⟨rfl, rfl, trivial⟩) (by rw [List.map_nil, List.append_nil])
  refine TK_arr (ws' := [(a, .inr (2, [.ref g1, .ref g2, .ref g4, .ref g6, .ref g7, .ref g8, .ref g9, .ref g11, .ref g13, .int 0, .int 0, .int 0, .int 0, .int 0, .int 0, .int 0, .int 0])), (g1, aR ac 5 8 chs), (g2, eSq g3), (g3, aI ac 8), (g4, eSq g5), (g5, aI ac 4), (g6, aR ac 6 4 trs), (g7, aR ac 7 3 wns), (g8, zCv), (g9, .inr (4, [.ref g10, .int 15, .int 16, .int 0, .int 0, .int 0, .int 0])), (g10, aI ac 64), (g11, .inr (4, [.ref g12, .int 63, .int 64, .int 0, .int 0, .int 0, .int 0])), (g12, aI ac 256), (g13, .inr (4, [.ref g14, .int 3, .int 4, .int 0, .int 0, .int 0, .int 0])), (g14, aI ac 16)] ++ ((chs.map (fun z => (z, eCh)) ++ trs.map (fun z => (z, zTr))) ++ wns.map (fun z => (z, eWn)))) 7 rfl (as_get hwn2 hwn1) rfl ?_
  refine k_aload_n (pc := 182) X dX3_init_182 rfl ?_
  refine k_get (pc := 183) X (v := .ref g9) 0 rfl kfl_X3_51 rfl dX3_init_183 ?_
  refine k_iconst (pc := 186) X (v := 4) dX3_init_186 (by first | decide | simp) ?_
  refine k_put (pc := 187) X (v := .int 4) (ws' := [(a, .inr (2, [.ref g1, .ref g2, .ref g4, .ref g6, .ref g7, .ref g8, .ref g9, .ref g11, .ref g13, .int 0, .int 0, .int 0, .int 0, .int 0, .int 0, .int 0, .int 0])), (g1, aR ac 5 8 chs), (g2, eSq g3), (g3, aI ac 8), (g4, eSq g5), (g5, aI ac 4), (g6, aR ac 6 4 trs), (g7, aR ac 7 3 wns), (g8, zCv), (g9, .inr (4, [.ref g10, .int 15, .int 4, .int 0, .int 0, .int 0, .int 0])), (g10, aI ac 64), (g11, .inr (4, [.ref g12, .int 63, .int 64, .int 0, .int 0, .int 0, .int 0])), (g12, aI ac 256), (g13, .inr (4, [.ref g14, .int 3, .int 4, .int 0, .int 0, .int 0, .int 0])), (g14, aI ac 16)] ++ ((chs.map (fun z => (z, eCh)) ++ trs.map (fun z => (z, zTr))) ++ wns.map (fun z => (z, eWn)))) 9 rfl kfp_X3_64 (tyX5_ok 2 (by first | decide | simp)) rfl rfl (by first | decide | simp) rfl dX3_init_187 ?_
  refine k_aload_n (pc := 190) X dX3_init_190 rfl ?_
  refine k_get (pc := 191) X (v := .ref g11) 0 rfl kfl_X3_55 rfl dX3_init_191 ?_
  refine k_iconst (pc := 194) X (v := 1) dX3_init_194 (by first | decide | simp) ?_
  refine k_put (pc := 195) X (v := .int 1) (ws' := [(a, .inr (2, [.ref g1, .ref g2, .ref g4, .ref g6, .ref g7, .ref g8, .ref g9, .ref g11, .ref g13, .int 0, .int 0, .int 0, .int 0, .int 0, .int 0, .int 0, .int 0])), (g1, aR ac 5 8 chs), (g2, eSq g3), (g3, aI ac 8), (g4, eSq g5), (g5, aI ac 4), (g6, aR ac 6 4 trs), (g7, aR ac 7 3 wns), (g8, zCv), (g9, .inr (4, [.ref g10, .int 15, .int 4, .int 0, .int 0, .int 0, .int 0])), (g10, aI ac 64), (g11, .inr (4, [.ref g12, .int 63, .int 64, .int 1, .int 0, .int 0, .int 0])), (g12, aI ac 256), (g13, .inr (4, [.ref g14, .int 3, .int 4, .int 0, .int 0, .int 0, .int 0])), (g14, aI ac 16)] ++ ((chs.map (fun z => (z, eCh)) ++ trs.map (fun z => (z, zTr))) ++ wns.map (fun z => (z, eWn)))) 11 rfl kfp_X3_68 (tyX5_ok 3 (by first | decide | simp)) rfl rfl (by first | decide | simp) rfl dX3_init_195 ?_
  exact k_ret (pc := 198) X hr hlk rfl ⟨fun k => [a, g1, g2, g3, g4, g5, g6, g7, g8, g9, g10, g11, g12, g13, g14].getD k 0, chs, trs, wns, rfl, hch1, htr1, hwn1, rfl⟩ ⟨Nat.le_of_ble_eq_true rfl, Nat.le_of_ble_eq_true rfl⟩ dX3_init_198

/-- a new parser -/
abbrev paW (ac : Nat → ClassId) (w : Nat → Nat) (a tk b : Nat) (q0 : Nat → Nat) (ch0 tr0 wn0 : List Nat) (q1 : Nat → Nat) (ch1 tr1 wn1 : List Nat) : va_W := ([(a, ePa tk (q0 0) (q1 0)), (tk, eTk w b), (b, aB ac 900)] ++ cvW ac q0 ch0 tr0 wn0) ++ cvW ac q1 ch1 tr1 wn1
set_option maxHeartbeats 8000000 in
set_option maxRecDepth 100000 in
theorem kc_X4 {D : va_G} {ac : Nat → ClassId} {w : Nat → Nat} {l : Launch} {sz a : Nat} : Met l yX4_init (wsO yX4_init cX4_init 1 none) (rmK 3 62 2018) (PcK D ac w [.ref a] [(a, zPa)] sz) (QvK D [(a, zPa)] sz (fun w1 => ∃ (tk b : Nat) (q0 : Nat → Nat) (ch0 tr0 wn0 : List Nat) (q1 : Nat → Nat) (ch1 tr1 wn1 : List Nat), (ch0.length = 8 ∧ tr0.length = 4 ∧ wn0.length = 3) ∧ (ch1.length = 8 ∧ tr1.length = 4 ∧ wn1.length = 3) ∧ w1 = paW ac w a tk b q0 ch0 tr0 wn0 q1 ch1 tr1 wn1)) 62 2018 (va_A [(a, zPa)] sz) := by
  refine kmet (own := RX4) rfl (by decide +kernel) (Nat.le_of_ble_eq_true rfl) (fun p e s m args below meth c X hin2 hr hlk => ?_)
  show TK D _ p l e _ s m args below meth c _ 0 0 _ 0 [(0, .ref a)] [] [(a, .inr (3, [.null, .null, .null, .int 0, .int 0, .int 0, .int 0, .int 0, .int 0, .int 0]))]
  refine k_aload_n (pc := 0) X dX4_init_0 rfl ?_
  refine k_objInit (pc := 1) X kml_X4_3 koi_1 koi_2 ⟨Nat.le_of_ble_eq_true rfl, Nat.le_of_ble_eq_true rfl⟩ dX4_init_1 ?_
  refine k_aload_n (pc := 4) X dX4_init_4 rfl ?_
  refine k_new (pc := 5) X (ci := 6) (C := RX7) (TT := TX7) (N := 8) rfl tyX7 tyX7_ok dfX7 kcl_X4_9 kin_X7 kii_X7 ⟨Nat.le_of_ble_eq_true rfl, Nat.le_of_ble_eq_true rfl⟩ dX4_init_5 (fun g1 => ?_)
  refine k_dup (pc := 8) X dX4_init_8 rfl ?_
  refine k_initN (pc := 9) X (mc := 1) (ms := 900) (X0 := [(a, .inr (3, [.null, .null, .null, .int 0, .int 0, .int 0, .int 0, .int 0, .int 0, .int 0]))]) (wc := [(g1, zTk)]) (As := []) kmy_X7 rfl kvi_X7 (List.mem_of_getElem? (i := 5) rfl) rfl rfl ⟨Nat.le_of_ble_eq_true rfl, Nat.le_of_ble_eq_true rfl, Nat.le_of_ble_eq_true rfl, Nat.le_of_ble_eq_true rfl⟩ (fun sz => kc_X7) rfl rfl (Nat.le_of_ble_eq_true rfl) dX4_init_9 (fun w1 hw => ?_)
  obtain ⟨g2, rfl⟩ := hw
  refine k_putF (pc := 12) X hin2 (v := .ref g1) (ws' := [(a, .inr (3, [.ref g1, .null, .null, .int 0, .int 0, .int 0, .int 0, .int 0, .int 0, .int 0])), (g1, eTk w g2), (g2, aB ac 900)]) 0 rfl kff_X4_12 (tyX4_ok 0 (by first | decide | simp)) rfl rfl (by first | decide | simp) rfl dX4_init_12 ?_
  refine k_aload_n (pc := 15) X dX4_init_15 rfl ?_
  refine k_new (pc := 16) X (ci := 2) (C := RX3) (TT := TX3) (N := 17) rfl tyX3 tyX3_ok dfX3 kcl_X4_18 kin_X3 kii_X3 ⟨Nat.le_of_ble_eq_true rfl, Nat.le_of_ble_eq_true rfl⟩ dX4_init_16 (fun h0 => ?_)
  refine k_dup (pc := 19) X dX4_init_19 rfl ?_
  refine k_init (pc := 20) X (mc := 29) (ms := 538) (X0 := [(a, .inr (3, [.ref g1, .null, .null, .int 0, .int 0, .int 0, .int 0, .int 0, .int 0, .int 0])), (g1, eTk w g2), (g2, aB ac 900)]) (wc := [(h0, zCo)]) (As := []) kmy_X3 rfl kvi_X3 kml_X4_20 rfl rfl ⟨Nat.le_of_ble_eq_true rfl, Nat.le_of_ble_eq_true rfl, Nat.le_of_ble_eq_true rfl, Nat.le_of_ble_eq_true rfl⟩ (fun sz => kc_X3) rfl rfl (Nat.le_of_ble_eq_true rfl) dX4_init_20 (fun w1 hw => ?_)
  obtain ⟨q0, ch0, tr0, wn0, hq0, hc0, ht0, hw0, rfl⟩ := hw
  subst hq0
  refine k_putF (pc := 23) X hin2 (v := .ref (q0 0)) (ws' := ([(a, .inr (3, [.ref g1, .ref (q0 0), .null, .int 0, .int 0, .int 0, .int 0, .int 0, .int 0, .int 0])), (g1, eTk w g2), (g2, aB ac 900)] ++ cvW ac q0 ch0 tr0 wn0)) 0 rfl kff_X4_21 (tyX4_ok 1 (by first | decide | simp)) rfl rfl (by first | decide | simp) rfl dX4_init_23 ?_
  refine k_aload_n (pc := 26) X dX4_init_26 rfl ?_
  refine k_new (pc := 27) X (ci := 2) (C := RX3) (TT := TX3) (N := 17) rfl tyX3 tyX3_ok dfX3 kcl_X4_18 kin_X3 kii_X3 ⟨Nat.le_of_ble_eq_true rfl, Nat.le_of_ble_eq_true rfl⟩ dX4_init_27 (fun h1 => ?_)
  refine k_dup (pc := 30) X dX4_init_30 rfl ?_
  refine k_init (pc := 31) X (mc := 29) (ms := 538) (X0 := ([(a, .inr (3, [.ref g1, .ref (q0 0), .null, .int 0, .int 0, .int 0, .int 0, .int 0, .int 0, .int 0])), (g1, eTk w g2), (g2, aB ac 900)] ++ cvW ac q0 ch0 tr0 wn0)) (wc := [(h1, zCo)]) (As := []) kmy_X3 rfl kvi_X3 kml_X4_20 rfl rfl ⟨Nat.le_of_ble_eq_true rfl, Nat.le_of_ble_eq_true rfl, Nat.le_of_ble_eq_true rfl, Nat.le_of_ble_eq_true rfl⟩ (fun sz => kc_X3) rfl rfl (Nat.le_of_ble_eq_true rfl) dX4_init_31 (fun w1 hw => ?_)
  obtain ⟨q1, ch1, tr1, wn1, hq1, hc1, ht1, hw1, rfl⟩ := hw
  subst hq1
  refine k_putF (pc := 34) X hin2 (v := .ref (q1 0)) (ws' := (([(a, .inr (3, [.ref g1, .ref (q0 0), .ref (q1 0), .int 0, .int 0, .int 0, .int 0, .int 0, .int 0, .int 0])), (g1, eTk w g2), (g2, aB ac 900)] ++ cvW ac q0 ch0 tr0 wn0) ++ cvW ac q1 ch1 tr1 wn1)) 0 rfl kff_X4_25 (tyX4_ok 2 (by first | decide | simp)) rfl rfl (by first | decide | simp) rfl dX4_init_34 ?_
  refine k_aload_n (pc := 37) X dX4_init_37 rfl ?_
  refine k_iconst (pc := 38) X (v := 0) dX4_init_38 (by first | decide | simp) ?_
  refine k_put (pc := 39) X (v := .int 0) (ws' := (([(a, .inr (3, [.ref g1, .ref (q0 0), .ref (q1 0), .int 0, .int 0, .int 0, .int 0, .int 0, .int 0, .int 0])), (g1, eTk w g2), (g2, aB ac 900)] ++ cvW ac q0 ch0 tr0 wn0) ++ cvW ac q1 ch1 tr1 wn1)) 0 rfl kfp_X4_28 (tyX4_ok 8 (by first | decide | simp)) rfl rfl (by first | decide | simp) rfl dX4_init_39 ?_
  refine k_aload_n (pc := 42) X dX4_init_42 rfl ?_
  refine k_iconst (pc := 43) X (v := (-1)) dX4_init_43 (by first | decide | simp) ?_
  refine k_put (pc := 44) X (v := .int (-1)) (ws' := (([(a, .inr (3, [.ref g1, .ref (q0 0), .ref (q1 0), .int 0, .int 0, .int 0, .int 0, .int 0, .int 0, .int (-1)])), (g1, eTk w g2), (g2, aB ac 900)] ++ cvW ac q0 ch0 tr0 wn0) ++ cvW ac q1 ch1 tr1 wn1)) 0 rfl kfp_X4_32 (tyX4_ok 9 (by first | decide | simp)) rfl rfl (by first | decide | simp) rfl dX4_init_44 ?_
  exact k_ret (pc := 47) X hr hlk rfl ⟨g1, g2, q0, ch0, tr0, wn0, q1, ch1, tr1, wn1, ⟨hc0, ht0, hw0⟩, ⟨hc1, ht1, hw1⟩, rfl⟩ ⟨Nat.le_of_ble_eq_true rfl, Nat.le_of_ble_eq_true rfl⟩ dX4_init_47
