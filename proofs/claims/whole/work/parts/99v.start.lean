/-! ===== what the Statement gives of the start ===== -/
def flN : List Cond := flatC narrow_1
abbrev dWd : String := "LConverterScanner$Word;"
abbrev tWd (i : Nat) : Term := .static RX10 (wNames.getD i "") dWd
abbrev tAll : Term := .static RX10 "ALL" "[LConverterScanner$Word;"
abbrev tSwm : Term := .static RX0 "$SwitchMap$ConverterScanner$Word" "[I"
def pEx : List Nat := [68, 146, 140, 164, 208, 214, 170, 104, 134, 188, 200, 74, 80, 86, 92, 98, 176, 182, 110, 116, 122, 128, 152, 158, 194, 2]
def pOr : List Nat := [69, 147, 141, 165, 209, 215, 171, 105, 135, 189, 201, 75, 81, 87, 93, 99, 177, 183, 111, 117, 123, 129, 153, 159, 195, 3]
def pBi : List Nat := [70, 148, 142, 166, 210, 216, 172, 106, 136, 190, 202, 76, 82, 88, 94, 100, 178, 184, 112, 118, 124, 130, 154, 160, 196, 4]
def pLe : List Nat := [72, 150, 144, 168, 212, 218, 174, 108, 138, 192, 204, 78, 84, 90, 96, 102, 180, 186, 114, 120, 126, 132, 156, 162, 198, 6]
def pMo : List Nat := [73, 151, 145, 169, 213, 219, 175, 109, 139, 193, 205, 79, 85, 91, 97, 103, 181, 187, 115, 121, 127, 133, 157, 163, 199, 7]
def pLt : List Nat := [71, 149, 143, 167, 211, 217, 173, 107, 137, 191, 203, 77, 83, 89, 95, 101, 179, 185, 113, 119, 125, 131, 155, 161, 197, 5]
def pAl : List Nat := [13, 14, 15, 16, 17, 18, 19, 20, 21, 22, 23, 24, 25, 26, 27, 28, 29, 30, 31, 32, 33, 34, 35, 36, 37, 38]
def pSw : List Nat := [42, 43, 44, 45, 46, 47, 48, 49, 50, 51, 52, 53, 54, 55, 56, 57, 58, 59, 60, 61, 62, 63, 64, 65, 66, 67]
def pLay : List Nat := [660, 733, 727, 751, 1841, 1842, 757, 699, 725, 767, 775, 678, 680, 682, 684, 686, 759, 761, 701, 707, 713, 715, 735, 737, 769, 496]
def pSr : List Nat := [875, 922, 939, 1055, 1080, 1101, 1117, 1121, 1131, 1140, 1152, 1163, 1178, 1200, 1222, 1233, 1249, 1257, 1300, 1308]
def pSx : List Nat := [348, 385, 430, 470, 499, 521, 548, 577, 630, 664, 691, 719, 757, 783, 820, 845, 872, 903, 941, 967]
def pNc : List Nat := [0, 247, 262, 277, 232, 0, 263, 278, 233, 248, 0, 279, 234, 249, 264, 0]
theorem n_ex : ∀ i, i < 26 → flN[pEx.getD i 0]? = some (Cond.exactly (tWd i) RX10) := by decide +kernel
theorem n_or : ∀ i, i < 26 → flN[pOr.getD i 0]? = some (Cond.eq (.field (tWd i) "java/lang/Enum" "ordinal" "I") (.int (wOrd.getD i 0))) := by decide +kernel
theorem n_bi : ∀ i, i < 26 → flN[pBi.getD i 0]? = some (Cond.eq (.field (tWd i) RX10 "bit" "I") (.int (wBit.getD i 0))) := by decide +kernel
theorem n_le : ∀ i, i < 26 → flN[pLe.getD i 0]? = some (Cond.eq (.field (tWd i) RX10 "least" "I") (.int (wLeast.getD i 0))) := by decide +kernel
theorem n_mo : ∀ i, i < 26 → flN[pMo.getD i 0]? = some (Cond.eq (.field (tWd i) RX10 "most" "I") (.int (wMost.getD i 0))) := by decide +kernel
theorem n_lt : ∀ i, i < 26 → flN[pLt.getD i 0]? = some (Cond.eq (.field (tWd i) RX10 "letters" "J") (.long (wLet.getD i 0))) := by decide +kernel
theorem n_al : ∀ i, i < 26 → flN[pAl.getD i 0]? = some (Cond.eq (.elem tAll (.int (Int32.ofNat i))) (tWd i)) := by decide +kernel
theorem n_sw : ∀ i, i < 26 → flN[pSw.getD i 0]? = some (Cond.eq (.elem tSwm (.int (Int32.ofNat i))) (.int (wSw.getD i 0))) := by decide +kernel
theorem n_one : flN[10]? = some (Cond.arrayOf tAll (.object RX10)) ∧ flN[11]? = some (Cond.eq (.length tAll) (.int 26)) ∧ flN[40]? = some (Cond.arrayOf tSwm .int) ∧ flN[41]? = some (Cond.eq (.length tSwm) (.int 26)) ∧
    flN[206]? = some (Cond.isRef (.static Bundle.tN "UNASSIGNED_STACK" Bundle.steD)) ∧ flN[207]? = some (Cond.isRef (.static Bundle.tN "SUPPRESSED_SENTINEL" Bundle.listD)) := by decide +kernel
theorem n_sx : ∀ k, k < 20 → flN[pSx.getD k 0]? = some (Cond.exactly (.string RX11 (strL.getD k (0, "")).1) "java/lang/String") := by decide +kernel
theorem n_nc : ∀ i, i < 4 → ∀ j, j < 4 → i ≠ j → flN[pNc.getD (4 * i + j) 0]? = some (Cond.not (.castable (exn i) (exn j))) := by decide +kernel
theorem l_lay : ∀ i, i < 26 → lw_tbl[pLay.getD i 0]? = some (Cond.laysStatic RX10 (wNames.getD i "") dWd) := by decide +kernel
theorem l_sr : ∀ k, k < 20 → lw_tbl[pSr.getD k 0]? = some (Cond.stringRef RX11 (strL.getD k (0, "")).1 (strL.getD k (0, "")).2) := by decide +kernel
theorem l_one : lw_tbl[100]? = some (Cond.initialized RX10) ∧ lw_tbl[108]? = some (Cond.initialized RX0) ∧ lw_tbl[102]? = some (Cond.initialized Bundle.tN) ∧
    lw_tbl[640]? = some (Cond.laysStatic RX10 "ALL" "[LConverterScanner$Word;") ∧ lw_tbl[647]? = some (Cond.laysStatic RX0 "$SwitchMap$ConverterScanner$Word" "[I") ∧
    lw_tbl[860]? = some (Cond.laysStatic Bundle.tN "UNASSIGNED_STACK" Bundle.steD) ∧ lw_tbl[862]? = some (Cond.laysStatic Bundle.tN "SUPPRESSED_SENTINEL" Bundle.listD) ∧
    lw_tbl[197]? = some (Cond.arrayClass .int) ∧ lw_tbl[529]? = some (Cond.arrayClass .byte) ∧ lw_tbl[528]? = some (Cond.arrayClass .boolean) ∧ lw_tbl[1445]? = some (Cond.arrayClass .long) ∧ lw_tbl[1815]? = some (Cond.arrayClass .double) := by decide +kernel
def pOv : List Nat := [126, 199, 201, 482]
theorem l_ov : ∀ k, k < 4 → lw_tbl[pOv.getD k 0]? = some (Cond.arrayOver (.object (overL.getD k ""))) := by decide +kernel
def pNl : List Nat := [204, 276, 324, 356, 485, 491]
theorem l_nl : ∀ k, k < 6 → lw_tbl[pNl.getD k 0]? = some (Cond.methodLinkNest (nestL.getD k ("", 0, yX1_init)).1 (nestL.getD k ("", 0, yX1_init)).2.1 (nestL.getD k ("", 0, yX1_init)).2.2 "ConverterScanner") := by decide +kernel
theorem l_cd (k : Nat) (hk : k < 4) : (atX k).all (fun w => !isCD w || decide (w ∈ lw_tbl)) = true := by
  match k, hk with
  | 0, _ => decide +kernel
  | 1, _ => decide +kernel
  | 2, _ => decide +kernel
  | 3, _ => decide +kernel
theorem kin_X11 : Cond.instantiable RX11 5 ∈ gtb := gt (inT1 (List.mem_of_getElem? (i := 24) rfl)) rfl
theorem kin_X12 : Cond.instantiable RX12 21 ∈ gtb := gt (inT6 (List.mem_of_getElem? (i := 32) rfl)) rfl
theorem kii_X11 : Cond.initialized RX11 ∈ gtb := gt (inT1 (List.mem_of_getElem? (i := 1) rfl)) rfl
theorem kii_X12 : Cond.initialized RX12 ∈ gtb := gt (inT1 (List.mem_of_getElem? (i := 13) rfl)) rfl
