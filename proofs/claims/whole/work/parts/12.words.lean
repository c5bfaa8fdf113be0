/-! ===== THE WORDS: constants' rows; copying of arrays ===== -/
section WORDS
variable {G : GG} {A : Nat → Prop} {p : Program} {l : Launch} {e : Env} {R : Room} {s : State} {m : MethodId} {args : Array Value} {below : List Frame} {meth : Method} {c : Code} {nL ce sl : Nat} {Q : State → Prop} {own : String} {cc : ByteArray}
  {pc : Nat} {lo : List (Nat × Value)} {st : List Value} {M : Mem}
theorem Cx_EN (X : Cx G A p s m args meth c own cc nL) : EN G.2.2.2.1 A s s.heap := X.2.2.2.2.2.2.2.2.2
theorem r_getsW (X : Cx G A p s m args meth c own cc nL) {index : Nat} (i : Nat) (hi : i < wNames.length) (hw : Cond.fieldLink own index RX10 (wNames.getD i "") "LConverterScanner$Word;" ∈ gtb) (d : decode cc pc = .ok (.getstatic index, 3)) (kk : T G A p l e R s m args below meth c nL ce sl Q (pc + 3) lo (.ref (G.2.2.2.1 i) :: st) M) : T G A p l e R s m args below meth c nL ce sl Q pc lo st M :=
  fun H locs ls hS hP hl => va_gets X.1 X.2.1 ((Cx_EN X).1.1 i hi).1 hS X.2.2.2.1 (X.2.2.2.2.1 _ hw) (fun _ h => h) d (kk H locs ls hS hP hl)
theorem r_getsAll (X : Cx G A p s m args meth c own cc nL) {index : Nat} (hw : Cond.fieldLink own index RX10 "ALL" "[LConverterScanner$Word;" ∈ gtb) (d : decode cc pc = .ok (.getstatic index, 3)) (kk : T G A p l e R s m args below meth c nL ce sl Q (pc + 3) lo (.ref (G.2.2.2.1 26) :: st) M) : T G A p l e R s m args below meth c nL ce sl Q pc lo st M :=
  fun H locs ls hS hP hl => va_gets X.1 X.2.1 (Cx_EN X).2.2.1 hS X.2.2.2.1 (X.2.2.2.2.1 _ hw) (fun _ h => h) d (kk H locs ls hS hP hl)
theorem r_getsSw (X : Cx G A p s m args meth c own cc nL) {index : Nat} (hw : Cond.fieldLink own index RX0 "$SwitchMap$ConverterScanner$Word" "[I" ∈ gtb) (d : decode cc pc = .ok (.getstatic index, 3)) (kk : T G A p l e R s m args below meth c nL ce sl Q (pc + 3) lo (.ref (G.2.2.2.1 27) :: st) M) : T G A p l e R s m args below meth c nL ce sl Q pc lo st M :=
  fun H locs ls hS hP hl => va_gets X.1 X.2.1 (Cx_EN X).2.2.2.2.1 hS X.2.2.2.1 (X.2.2.2.2.1 _ hw) (fun _ h => h) d (kk H locs ls hS hP hl)
theorem nIin {w N : Nat} (h : w < N) (hN : N < 2 ^ 31) : vp_in (nI w) N := vp_in_nI h hN
theorem r_swld (X : Cx G A p s m args meth c own cc nL) {w : Nat} (hw : w < 26) (d : decode cc pc = .ok (.iaload, 1)) (kk : T G A p l e R s m args below meth c nL ce sl Q (pc + 1) lo (.int (wSw.getD w 0) :: st) M) : T G A p l e R s m args below meth c nL ce sl Q pc lo (.int (nI w) :: .ref (G.2.2.2.1 27) :: st) M :=
  fun H locs ls hS hP hl => va_ti X.1 X.2.1 (Cx_EN X).2.2.2.2.2 hS (vp_in_nI hw (by decide)) (v := .int (wSw.getD w 0)) (by rw [nI_clamp (by omega)]) d (kk H locs ls hS hP hl)
theorem r_allld (X : Cx G A p s m args meth c own cc nL) {i : Int32} {α : Type} {F : Option α} {r : α} (d : decode cc pc = .ok (.aaload, 1)) (h : (if bad i 26 then none else F) = some r) (kk : ¬ bad i 26 → F = some r → T G A p l e R s m args below meth c nL ce sl Q (pc + 1) lo (.ref (G.2.2.2.1 i.toNatClampNeg) :: st) M) : T G A p l e R s m args below meth c nL ce sl Q pc lo (.int i :: .ref (G.2.2.2.1 26) :: st) M :=
  fun H locs ls hS hP hl => ck h fun hb h => vb_tq X.1 X.2.1 (Cx_EN X).2.2.2.1 hS hb (v := .ref (G.2.2.2.1 i.toNatClampNeg)) rfl d (kk hb h H locs ls hS hP hl)
theorem r_alllen (X : Cx G A p s m args meth c own cc nL) (d : decode cc pc = .ok (.arraylength, 1)) (kk : T G A p l e R s m args below meth c nL ce sl Q (pc + 1) lo (.int 26 :: st) M) : T G A p l e R s m args below meth c nL ce sl Q pc lo (.ref (G.2.2.2.1 26) :: st) M :=
  fun H locs ls hS hP hl => va_tlen X.1 X.2.1 (Cx_EN X).2.2.2.1 hS (v := 26) (by decide) d (kk H locs ls hS hP hl)
theorem r_getw_bit (X : Cx G A p s m args meth c own cc nL) {index w : Nat} (hw : w < 26) (hl0 : Cond.fieldLink own index RX10 "bit" "I" ∈ gtb) (d : decode cc pc = .ok (.getfield index, 3)) (kk : T G A p l e R s m args below meth c nL ce sl Q (pc + 3) lo (.int (wBit.getD w 0) :: st) M) : T G A p l e R s m args below meth c nL ce sl Q pc lo (.ref (G.2.2.2.1 w) :: st) M :=
  fun H locs ls hS hP hl => va_getEc X.1 X.2.1 (Cx_EN X).1 hw hS X.2.2.2.1 (q := (RX10, "bit", "I", wBit)) (List.mem_of_getElem? (i := 1) rfl) (X.2.2.2.2.1 _ hl0) (fun _ h => h) d (kk H locs ls hS hP hl)
theorem r_getw_least (X : Cx G A p s m args meth c own cc nL) {index w : Nat} (hw : w < 26) (hl0 : Cond.fieldLink own index RX10 "least" "I" ∈ gtb) (d : decode cc pc = .ok (.getfield index, 3)) (kk : T G A p l e R s m args below meth c nL ce sl Q (pc + 3) lo (.int (wLeast.getD w 0) :: st) M) : T G A p l e R s m args below meth c nL ce sl Q pc lo (.ref (G.2.2.2.1 w) :: st) M :=
  fun H locs ls hS hP hl => va_getEc X.1 X.2.1 (Cx_EN X).1 hw hS X.2.2.2.1 (q := (RX10, "least", "I", wLeast)) (List.mem_of_getElem? (i := 2) rfl) (X.2.2.2.2.1 _ hl0) (fun _ h => h) d (kk H locs ls hS hP hl)
theorem r_getw_most (X : Cx G A p s m args meth c own cc nL) {index w : Nat} (hw : w < 26) (hl0 : Cond.fieldLink own index RX10 "most" "I" ∈ gtb) (d : decode cc pc = .ok (.getfield index, 3)) (kk : T G A p l e R s m args below meth c nL ce sl Q (pc + 3) lo (.int (wMost.getD w 0) :: st) M) : T G A p l e R s m args below meth c nL ce sl Q pc lo (.ref (G.2.2.2.1 w) :: st) M :=
  fun H locs ls hS hP hl => va_getEc X.1 X.2.1 (Cx_EN X).1 hw hS X.2.2.2.1 (q := (RX10, "most", "I", wMost)) (List.mem_of_getElem? (i := 3) rfl) (X.2.2.2.2.1 _ hl0) (fun _ h => h) d (kk H locs ls hS hP hl)
theorem r_getw_letters (X : Cx G A p s m args meth c own cc nL) {index w : Nat} (hw : w < 26) (hl0 : Cond.fieldLink own index RX10 "letters" "J" ∈ gtb) (d : decode cc pc = .ok (.getfield index, 3)) (kk : T G A p l e R s m args below meth c nL ce sl Q (pc + 3) lo (.long (wLet.getD w 0) :: st) M) : T G A p l e R s m args below meth c nL ce sl Q pc lo (.ref (G.2.2.2.1 w) :: st) M :=
  fun H locs ls hS hP hl => va_getX X.1 X.2.1 (Cx_EN X).2.1 hw hS X.2.2.2.1 (X.2.2.2.2.1 _ hl0) (fun _ h => h) d (kk H locs ls hS hP hl)
theorem EN_inj {w : Nat → Nat} {U : State} {H : Heap} (h : EN w A U H) {i j : Nat} (hi : i < 26) (hj : j < 26) (he : w i = w j) : i = j := h.1.2 i j hi hj he
theorem r_acmp_eq (X : Cx G A p s m args meth c own cc nL) {x y : Nat} (hx : x < 26) (hy : y < 26) {off : Int} {tgt : Nat} {α : Type} {F1 F2 : Option α} {o : α} (d : decode cc pc = .ok (.if_acmp .eq off, 3)) (ht : (pc : Int) + off = (tgt : Int)) (h : (if x = y then F1 else F2) = some o) (kt : F1 = some o → T G A p l e R s m args below meth c nL ce sl Q tgt lo st M) (kf : F2 = some o → T G A p l e R s m args below meth c nL ce sl Q (pc + 3) lo st M) : T G A p l e R s m args below meth c nL ce sl Q pc lo (.ref (G.2.2.2.1 y) :: .ref (G.2.2.2.1 x) :: st) M :=
  fun H locs ls hS hP hl => lv_acmp_eq (rx := some (G.2.2.2.1 x)) (ry := some (G.2.2.2.1 y)) X.1 X.2.1 d ht (fun hc => kt (by rw [if_pos (EN_inj (Cx_EN X) hx hy (Option.some.inj hc))] at h; exact h) H locs ls hS hP hl) (fun hc => kf (by rw [if_neg (fun q => hc (by rw [q]))] at h; exact h) H locs ls hS hP hl)
theorem r_acmp_ne (X : Cx G A p s m args meth c own cc nL) {x y : Nat} (hx : x < 26) (hy : y < 26) {off : Int} {tgt : Nat} {α : Type} {F1 F2 : Option α} {o : α} (d : decode cc pc = .ok (.if_acmp .ne off, 3)) (ht : (pc : Int) + off = (tgt : Int)) (h : (if x = y then F2 else F1) = some o) (kt : F1 = some o → T G A p l e R s m args below meth c nL ce sl Q tgt lo st M) (kf : F2 = some o → T G A p l e R s m args below meth c nL ce sl Q (pc + 3) lo st M) : T G A p l e R s m args below meth c nL ce sl Q pc lo (.ref (G.2.2.2.1 y) :: .ref (G.2.2.2.1 x) :: st) M :=
  fun H locs ls hS hP hl => lv_acmp_ne (rx := some (G.2.2.2.1 x)) (ry := some (G.2.2.2.1 y)) X.1 X.2.1 d ht (fun hc => kt (by rw [if_neg (fun q => hc (by rw [q]))] at h; exact h) H locs ls hS hP hl) (fun hc => kf (by rw [if_pos (EN_inj (Cx_EN X) hx hy (Option.some.inj hc))] at h; exact h) H locs ls hS hP hl)
theorem recv_w (X : Cx G A p s m args meth c own cc nL) {H : Heap} {locs : List Loc} {w : Nat} (hS : va_S A s.heap H locs) (hw : w < 26) : ∃ cell : Cell, H[G.2.2.2.1 w]? = some cell ∧ cell.vm.isStatics = false ∧ s.vm.findClass RX10 = some cell.cls := va_recvEc (Cx_EN X).1 hw hS
theorem r_callWi (X : Cx G A p s m args meth c own cc nL) {w : Nat} {y : MethodName} {cb : ByteArray} {n k idx d : Nat} {As st0 : List Value} {r : Int32} {rt : FieldType} {M' : Mem} (hw : w < 26) (hC : y.cls = RX10) (vy : VY y) (my : MY y cb n (some rt) k) (ml : Cond.methodLink own idx y ∈ gtb) (hR : d + 1 ≤ R.frames ∧ 8 + (n + 11) + 36 * d ≤ R.locals ∧ ce + 0 ≤ R.cells ∧ sl + 0 ≤ R.slots)
    (hM : Met l y (wsO y cb n (some rt)) (rmO d) (PcO G (.ref (G.2.2.2.1 w) :: As) M) (QiO G (AA G) r M') 0 0 (AA G)) (hn : As.length = k) (hst : st0 = As.reverse ++ .ref (G.2.2.2.1 w) :: st) (hcat : (st.map fun v => v.category).sum ≤ 8) (d : decode cc pc = .ok (.invokevirtual idx, 3))
    (kk : T G A p l e R s m args below meth c nL ce sl Q (pc + 3) lo (.int r :: st) M') : T G A p l e R s m args below meth c nL ce sl Q pc lo st0 M := by
  intro H locs ls hS hP hl
  exact va_calli (va_runV (As := As) (rest := st) ⟨X.1, X.2.1, X.2.2.1, X.2.2.2.1, X.2.2.2.2.1⟩ hM ⟨callB_tbl X my ml ⟨hR.1, hR.2.1⟩, X.2.2.2.2.1 _ vy.1, X.2.2.2.2.1 _ vy.2⟩ ⟨PcO_blind, by rw [hC]; exact recv_w X hS hw, PcO_at X hS hP⟩ rfl hn hl.1 hst (lv_room hcat) d ⟨hR.2.2.1, hR.2.2.2⟩) hS (fun q _ h => X.2.2.2.2.2.2.1 q h) (fun q h => X.2.2.2.2.2.2.1 q h) (fun r1 u t H1 locs1 ht hvm hw hB hz hk hS1 => by
    subst hw
    rw [ht] at hB
    exact kk H1 locs1 ls hS1 hB hl)
theorem r_callWi0 (X : Cx G A p s m args meth c own cc nL) {w : Nat} {y : MethodName} {cb : ByteArray} {n idx d : Nat} {r : Int32} {rt : FieldType} {M' : Mem} (hw : w < 26) (hC : y.cls = RX10) (vy : VY y) (my : MY y cb n (some rt) 0) (ml : Cond.methodLink own idx y ∈ gtb) (hR : d + 1 ≤ R.frames ∧ 8 + (n + 11) + 36 * d ≤ R.locals ∧ ce + 0 ≤ R.cells ∧ sl + 0 ≤ R.slots)
    (hM : Met l y (wsO y cb n (some rt)) (rmO d) (PcO G [.ref (G.2.2.2.1 w)] M) (QiO G (AA G) r M') 0 0 (AA G)) (hcat : (st.map fun v => v.category).sum ≤ 8) (d : decode cc pc = .ok (.invokevirtual idx, 3))
    (kk : T G A p l e R s m args below meth c nL ce sl Q (pc + 3) lo (.int r :: st) M') : T G A p l e R s m args below meth c nL ce sl Q pc lo (.ref (G.2.2.2.1 w) :: st) M := r_callWi X (As := []) hw hC vy my ml hR hM rfl rfl hcat d kk
theorem r_callWi1 (X : Cx G A p s m args meth c own cc nL) {w : Nat} {y : MethodName} {cb : ByteArray} {n idx d : Nat} {v1 : Value} {r : Int32} {rt : FieldType} {M' : Mem} (hw : w < 26) (hC : y.cls = RX10) (vy : VY y) (my : MY y cb n (some rt) 1) (ml : Cond.methodLink own idx y ∈ gtb) (hR : d + 1 ≤ R.frames ∧ 8 + (n + 11) + 36 * d ≤ R.locals ∧ ce + 0 ≤ R.cells ∧ sl + 0 ≤ R.slots)
    (hM : Met l y (wsO y cb n (some rt)) (rmO d) (PcO G [.ref (G.2.2.2.1 w), v1] M) (QiO G (AA G) r M') 0 0 (AA G)) (hcat : (st.map fun v => v.category).sum ≤ 8) (d : decode cc pc = .ok (.invokevirtual idx, 3))
    (kk : T G A p l e R s m args below meth c nL ce sl Q (pc + 3) lo (.int r :: st) M') : T G A p l e R s m args below meth c nL ce sl Q pc lo (v1 :: .ref (G.2.2.2.1 w) :: st) M := r_callWi X (As := [v1]) hw hC vy my ml hR hM rfl rfl hcat d kk
theorem wOrd_at {w : Nat} (hw : w < 26) : wOrd.getD w 0 = nI w := by
  unfold wOrd
  rw [List.getD_eq_getElem?_getD, List.getElem?_map, List.getElem?_range hw]; rfl
theorem dOrd_0 : decode cJx29ce0_ordinal_8abf5 0 = .ok (.aload_n 0, 1) := by decide +kernel
theorem dOrd_1 : decode cJx29ce0_ordinal_8abf5 1 = .ok (.getfield 7, 3) := by decide +kernel
theorem dOrd_4 : decode cJx29ce0_ordinal_8abf5 4 = .ok (.ireturn, 1) := by decide +kernel
theorem c_ordinal {w : Nat} (hw : w < 26) : Met l yJx29ce0_ordinal_8abf5 (wsO yJx29ce0_ordinal_8abf5 cJx29ce0_ordinal_8abf5 1 (some .int)) (rmO 0) (PcO G [.ref (G.2.2.2.1 w)] M) (QiO G (AA G) (nI w) M) 0 0 (AA G) :=
  met_of (own := "java/lang/Enum") rfl (by decide +kernel) (Nat.le_of_ble_eq_true rfl) (fun p e s m args below meth c X hr => by
    refine r_aload_n (pc := 0) X dOrd_0 rfl ?_
    intro H locs ls hS hP hl
    refine va_getEc X.1 X.2.1 (Cx_EN X).1 hw hS X.2.2.2.1 (q := ("java/lang/Enum", "ordinal", "I", wOrd)) (List.mem_of_getElem? (i := 0) rfl) (X.2.2.2.2.1 _ (gt (List.mem_of_getElem? (i := 1836) (by decide +kernel)) (by decide +kernel))) (fun _ h => h) dOrd_1 ?_
    rw [show (("java/lang/Enum", "ordinal", "I", wOrd) : String × String × String × List Int32).2.2.2.getD w 0 = nI w from wOrd_at hw]
    exact r_iret (pc := 4) X hr dOrd_4 H locs ls hS hP hl)
theorem r_ordinal (X : Cx G A p s m args meth c own cc nL) {w idx : Nat} (hw : w < 26) (ml : Cond.methodLink own idx ⟨"ConverterScanner$Word", "ordinal", "()I"⟩ ∈ gtb) (hR : 0 + 1 ≤ R.frames ∧ 8 + (1 + 11) + 36 * 0 ≤ R.locals ∧ ce + 0 ≤ R.cells ∧ sl + 0 ≤ R.slots) (hcat : (st.map fun v => v.category).sum ≤ 8) (d : decode cc pc = .ok (.invokevirtual idx, 3))
    (kk : T G A p l e R s m args below meth c nL ce sl Q (pc + 3) lo (.int (nI w) :: st) M) : T G A p l e R s m args below meth c nL ce sl Q pc lo (.ref (G.2.2.2.1 w) :: st) M := by
  intro H locs ls hS hP hl
  have hG : ∀ v ∈ va_wsU own idx RX10 "java/lang/Enum" ⟨"ConverterScanner$Word", "ordinal", "()I"⟩ yJx29ce0_ordinal_8abf5 (wsO yJx29ce0_ordinal_8abf5 cJx29ce0_ordinal_8abf5 1 (some .int)), v ∈ gtb := by
    intro v hv
    rcases List.mem_append.mp hv with hv | hv
    · simp only [List.mem_cons, List.not_mem_nil, or_false] at hv
      rcases hv with rfl | rfl | rfl | rfl | rfl
      · exact ml
      · exact gt (List.mem_of_getElem? (i := 649) (by decide +kernel)) (by decide +kernel)
      · exact gt (List.mem_of_getElem? (i := 651) (by decide +kernel)) (by decide +kernel)
      · exact gt (List.mem_of_getElem? (i := 652) (by decide +kernel)) (by decide +kernel)
      · exact gt (List.mem_of_getElem? (i := 99) (by decide +kernel)) (by decide +kernel)
    · rcases List.mem_cons.mp hv with rfl | hv
      · exact gt (List.mem_of_getElem? (i := 653) (by decide +kernel)) (by decide +kernel)
      · exact hv
  exact va_calli (va_runU (As := []) (rest := st) ⟨X.1, X.2.1, X.2.2.1, X.2.2.2.1, X.2.2.2.2.1⟩ (c_ordinal hw) (va_cwU 0 X.2.2.2.2.1 (fun v hv => ⟨hG v hv, good_tbl (hG v hv)⟩) rfl rfl rfl rfl (by decide +kernel) ⟨hR.1, hR.2.1⟩) ⟨PcO_blind, recv_w X hS hw, PcO_at X hS hP⟩ rfl rfl hl.1 rfl (lv_room hcat) d ⟨hR.2.2.1, hR.2.2.2⟩) hS (fun q _ h => X.2.2.2.2.2.2.1 q h) (fun q h => X.2.2.2.2.2.2.1 q h) (fun r1 u t H1 locs1 ht hvm hw hB hz hk hS1 => by
    subst hw
    rw [ht] at hB
    exact kk H1 locs1 ls hS1 hB hl)
/-- the first n places of one array of ints go into another -/
def uC (M : Mem) (o q : Oid) (n : Nat) : Mem := (fun z j => if z = q ∧ j < n then M.1 o j else M.1 z j, M.2)
theorem akO_small (o : Oid) : (akO o).2 < 2 ^ 31 := by
  unfold akO
  split <;> (try split) <;> decide
theorem r_acopy (X : Cx G A p s m args meth c own cc nL) {o q : Oid} {n0 n1 : Nat} {idx : Nat} {α : Type} {k : Mem → Option α} {r : α} (ho : okO G.2.2.2.2 o) (hq : okO G.2.2.2.2 q) (h20 : ¬ o.1 < 20) (h21 : ¬ q.1 < 20) (ha : akO o = (0, n0)) (hb : akO q = (0, n1)) (ml : Cond.methodLink own idx arraycopyName ∈ gtb) (hR : 1 ≤ R.frames ∧ (st.map fun v => v.category).sum + (nativeFrameWords "java/lang/System" "arraycopy" 5 + 11) ≤ R.locals) (d : decode cc pc = .ok (.invokestatic idx, 3))
    (h : (if n0 < n1 then none else nm (uC M o q n1) k) = some r) (K : ∀ M1 : Mem, k M1 = some r → T G A p l e R s m args below meth c nL ce sl Q (pc + 3) lo st M1) : T G A p l e R s m args below meth c nL ce sl Q pc lo (.int (Int32.ofNat n1) :: .int 0 :: .ref (G.2.1 q) :: .int 0 :: .ref (G.2.1 o) :: st) M := by
  intro H locs ls hS hP hl
  refine ck h fun hlt h => ?_
  obtain ⟨i, hio, hi⟩ := arr_at (G := G) ho h20 ha
  obtain ⟨j, hjo, hj⟩ := arr_at (G := G) hq h21 hb
  have hn : n1 < 2 ^ 31 := by have := akO_small q; rw [hb] at this; exact this
  have hz : (0 : Int32).toNatClampNeg = 0 := by decide
  have hc : (Int32.ofNat n1).toNatClampNeg = n1 := nI_clamp hn
  refine va_copyi X.1 X.2.1 (X.2.2.1.trans hl.1.symm) X.2.2.2.1 (X.2.2.2.2.1 _ ml) (X.2.2.2.2.1 _ (gt (List.mem_of_getElem? (i := 613) (by decide +kernel)) (by decide +kernel))) (X.2.2.2.2.1 _ (gt (List.mem_of_getElem? (i := 612) (by decide +kernel)) (by decide +kernel))) (X.2.2.2.2.1 _ (gt (List.mem_of_getElem? (i := 107) (by decide +kernel)) (by decide +kernel))) X.2.2.2.2.2.2.2.2.1 hP (Cx_D X) hS i j 0 0 (hi M) (hj M) (tys_at (by decide)) (tys_at (by decide)) rfl (by decide) (by decide) (nI_pos hn) (by rw [hz, hc]; omega) (by rw [hz, hc]; omega) (fun _ _ => rfl) hR.1 hR.2 d ?_
  intro H1 locs1 hP1 hD1 hS1
  refine K _ h H1 locs1 ls hS1 ?_ hl
  rw [← wl_set (M := M) (M' := uC M o q n1) hjo (fun z hz => ent_congr (by funext j; simp [uC, hz]) rfl rfl)]
  refine Eq.mp (congrArg (fun z => va_P G.1 gcl ((wl G M).set j (G.2.1 q, z)) H1) ?_) hP1
  rw [ent_arr h21, hb, hc, hz]
  simp only [acO, uC]
  congr 4
  funext z
  simp [va_cpy]
end WORDS
