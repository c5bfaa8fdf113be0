-- ConverterScanner$Parser.fail
def f_X4_fail (x1 : Int32) (M : Mem) : Option (Int32 × Mem) :=
  nm (uI M (3, 0, 0) 8 x1) (fun M1 => nm (uI M1 (3, 0, 0) 9 (M1.1 (6, 0, 0) 4)) (fun M2 => some (0, M2)))
set_option maxHeartbeats 4000000 in
set_option maxRecDepth 100000 in
theorem t_X4_fail {G : GG} {A : Nat → Prop} {p : Program} {l : Launch} {e : Env} {s : State} {m : MethodId} {args : Array Value} {below : List Frame} {meth : Method} {c : Code} {r : Int32} {M' : Mem} (X : Cx G A p s m args meth c RX4 cX4_fail 2) (hr : meth.sig.returnType = some .boolean) {x1 : Int32} {M : Mem}  (h : f_X4_fail x1 M = some (r, M')) : T G A p l e (rmO 0) s m args below meth c 2 0 0 (MQ below (QiO G A r M') args s 0 0 A) 0 [(0, .ref (G.2.1 (3, 0, 0))), (1, .int x1)] [] M := by
  unfold f_X4_fail at h
  refine r_aload_n (pc := 0) X dX4_fail_0 rfl ?_
  refine r_iload_n (pc := 1) X dX4_fail_1 rfl ?_
  refine r_putIN (pc := 2) X ⟨(ltb rfl), (ltb rfl)⟩ fp_X4_28 rfl dX4_fail_2 h (fun M1 h => ?_)
  refine r_aload_n (pc := 5) X dX4_fail_5 rfl ?_
  refine r_aload_n (pc := 6) X dX4_fail_6 rfl ?_
  refine r_getR (q := (6, 0, 0)) (pc := 7) X ⟨(ltb rfl), (ltb rfl)⟩ fl_X4_12 rfl dX4_fail_7 ?_
  refine r_getI (pc := 10) X ⟨(ltb rfl), (ltb rfl)⟩ fl_X4_316 rfl dX4_fail_10 ?_
  refine r_putIN (pc := 13) X ⟨(ltb rfl), (ltb rfl)⟩ fp_X4_32 rfl dX4_fail_13 h (fun M2 h => ?_)
  refine r_iconst (pc := 16) X (v := 0) dX4_fail_16 (by decide) ?_
  cases h
  exact r_zretc (pc := 17) X hr (by decide +kernel) dX4_fail_17
theorem c_X4_fail {G : GG} {l : Launch} {x1 : Int32} {r : Int32} {M M' : Mem}  (h : f_X4_fail x1 M = some (r, M')) : Met l yX4_fail (wsO yX4_fail cX4_fail 2 (some .boolean)) (rmO 0) (PcO G [.ref (G.2.1 (3, 0, 0)), .int x1] M) (QiO G (AA G) r M') 0 0 (AA G) :=
  met_of (own := RX4) rfl (by decide +kernel) (Nat.le_of_ble_eq_true rfl) (fun p e s m args below meth c X hr => t_X4_fail X hr  h)
-- ConverterScanner$Word.isProperty
def f_X10_isProperty_35  (M : Mem) : Option (Int32 × Mem) :=
  some (1, M)
set_option maxHeartbeats 4000000 in
set_option maxRecDepth 100000 in
theorem t_X10_isProperty_35 {G : GG} {A : Nat → Prop} {p : Program} {l : Launch} {e : Env} {s : State} {m : MethodId} {args : Array Value} {below : List Frame} {meth : Method} {c : Code} {r : Int32} {M' : Mem} (X : Cx G A p s m args meth c RX10 cX10_isProperty 1) (hr : meth.sig.returnType = some .boolean) {M : Mem}  (h : f_X10_isProperty_35 M = some (r, M')) : T G A p l e (rmO 0) s m args below meth c 1 0 0 (MQ below (QiO G A r M') args s 0 0 A) 35 [] [] M := by
  unfold f_X10_isProperty_35 at h
  refine r_iconst (pc := 35) X (v := 1) dX10_isProperty_35 (by decide) ?_
  refine r_goto (pc := 36) X (tgt := 40) dX10_isProperty_36 (by decide) ?_
  cases h
  exact r_zretc (pc := 40) X hr (by decide +kernel) dX10_isProperty_40
def f_X10_isProperty (w0 : Nat) (M : Mem) : Option (Int32 × Mem) :=
  if w0 = 11 then f_X10_isProperty_35  M else if w0 = 12 then f_X10_isProperty_35  M else if w0 = 13 then f_X10_isProperty_35  M else if w0 = 14 then f_X10_isProperty_35  M else if w0 = 15 then f_X10_isProperty_35  M else some (0, M)
set_option maxHeartbeats 4000000 in
set_option maxRecDepth 100000 in
theorem t_X10_isProperty {G : GG} {A : Nat → Prop} {p : Program} {l : Launch} {e : Env} {s : State} {m : MethodId} {args : Array Value} {below : List Frame} {meth : Method} {c : Code} {r : Int32} {M' : Mem} (X : Cx G A p s m args meth c RX10 cX10_isProperty 1) (hr : meth.sig.returnType = some .boolean) {w0 : Nat} {M : Mem} (hw0 : w0 < 26) (h : f_X10_isProperty w0 M = some (r, M')) : T G A p l e (rmO 0) s m args below meth c 1 0 0 (MQ below (QiO G A r M') args s 0 0 A) 0 [(0, .ref (G.2.2.2.1 w0))] [] M := by
  unfold f_X10_isProperty at h
  refine r_aload_n (pc := 0) X dX10_isProperty_0 rfl ?_
  refine r_getsW (pc := 1) X 11 (by decide) wf_X10_37 dX10_isProperty_1 ?_
  refine r_acmp_eq (pc := 4) X hw0 (by decide) (tgt := 35) dX10_isProperty_4 (by decide) h (fun h => ?_) (fun h => ?_)
  · exact T_sub (t_X10_isProperty_35 X hr h) trivial
  · refine r_aload_n (pc := 7) X dX10_isProperty_7 rfl ?_
    refine r_getsW (pc := 8) X 12 (by decide) wf_X10_40 dX10_isProperty_8 ?_
    refine r_acmp_eq (pc := 11) X hw0 (by decide) (tgt := 35) dX10_isProperty_11 (by decide) h (fun h => ?_) (fun h => ?_)
    · exact T_sub (t_X10_isProperty_35 X hr h) trivial
    · refine r_aload_n (pc := 14) X dX10_isProperty_14 rfl ?_
      refine r_getsW (pc := 15) X 13 (by decide) wf_X10_43 dX10_isProperty_15 ?_
      refine r_acmp_eq (pc := 18) X hw0 (by decide) (tgt := 35) dX10_isProperty_18 (by decide) h (fun h => ?_) (fun h => ?_)
      · exact T_sub (t_X10_isProperty_35 X hr h) trivial
      · refine r_aload_n (pc := 21) X dX10_isProperty_21 rfl ?_
        refine r_getsW (pc := 22) X 14 (by decide) wf_X10_46 dX10_isProperty_22 ?_
        refine r_acmp_eq (pc := 25) X hw0 (by decide) (tgt := 35) dX10_isProperty_25 (by decide) h (fun h => ?_) (fun h => ?_)
        · exact T_sub (t_X10_isProperty_35 X hr h) trivial
        · refine r_aload_n (pc := 28) X dX10_isProperty_28 rfl ?_
          refine r_getsW (pc := 29) X 15 (by decide) wf_X10_49 dX10_isProperty_29 ?_
          refine r_acmp_ne (pc := 32) X hw0 (by decide) (tgt := 39) dX10_isProperty_32 (by decide) h (fun h => ?_) (fun h => ?_)
          · refine r_iconst (pc := 39) X (v := 0) dX10_isProperty_39 (by decide) ?_
            cases h
            exact r_zretc (pc := 40) X hr (by decide +kernel) dX10_isProperty_40
          · exact T_sub (t_X10_isProperty_35 X hr h) trivial
theorem c_X10_isProperty {G : GG} {l : Launch} {w0 : Nat} {r : Int32} {M M' : Mem} (hw0 : w0 < 26) (h : f_X10_isProperty w0 M = some (r, M')) : Met l yX10_isProperty (wsO yX10_isProperty cX10_isProperty 1 (some .boolean)) (rmO 0) (PcO G [.ref (G.2.2.2.1 w0)] M) (QiO G (AA G) r M') 0 0 (AA G) :=
  met_of (own := RX10) rfl (by decide +kernel) (Nat.le_of_ble_eq_true rfl) (fun p e s m args below meth c X hr => t_X10_isProperty X hr hw0 h)
-- ConverterScanner$Parser.setProperty
def f_X4_setProperty (c0 : Nat) (j0 : Nat) (w1 : Nat) (x2 : Int32) (M : Mem) : Option (Unit × Mem) :=
  if (wSw.getD w1 0) = 12 then nm (uI M (0, c0, j0) 0 x2) (fun M1 => some ((), M1)) else if (wSw.getD w1 0) = 13 then nm (uI M (0, c0, j0) 1 x2) (fun M2 => some ((), M2)) else if (wSw.getD w1 0) = 14 then nm (uI M (0, c0, j0) 2 x2) (fun M3 => some ((), M3)) else if (wSw.getD w1 0) = 15 then nm (uI M (0, c0, j0) 3 x2) (fun M4 => some ((), M4)) else nm (uI M (0, c0, j0) 4 x2) (fun M5 => some ((), M5))
set_option maxHeartbeats 4000000 in
set_option maxRecDepth 100000 in
theorem t_X4_setProperty {G : GG} {A : Nat → Prop} {p : Program} {l : Launch} {e : Env} {s : State} {m : MethodId} {args : Array Value} {below : List Frame} {meth : Method} {c : Code} {r : Unit} {M' : Mem} (X : Cx G A p s m args meth c RX4 cX4_setProperty 3) (hr : meth.sig.returnType = none) {c0 : Nat} {j0 : Nat} {w1 : Nat} {x2 : Int32} {M : Mem} (hc0 : c0 < 6) (hj0 : j0 < 8) (hw1 : w1 < 26) (h : f_X4_setProperty c0 j0 w1 x2 M = some (r, M')) : T G A p l e (rmO 1) s m args below meth c 3 0 0 (MQ below (QvO G A M') args s 0 0 A) 0 [(0, .ref (G.2.1 (0, c0, j0))), (1, .ref (G.2.2.2.1 w1)), (2, .int x2)] [] M := by
  unfold f_X4_setProperty at h
  refine r_getsSw (pc := 0) X wf_X4_68 dX4_setProperty_0 ?_
  refine r_aload_n (pc := 3) X dX4_setProperty_3 rfl ?_
  refine r_ordinal (pc := 4) X hw1 ordw_X4_78 ⟨Nat.le_of_ble_eq_true rfl, Nat.le_of_ble_eq_true rfl, Nat.le_of_ble_eq_true rfl, Nat.le_of_ble_eq_true rfl⟩ (Nat.le_of_ble_eq_true rfl) dX4_setProperty_4 ?_
  refine r_swld (pc := 7) X hw1 dX4_setProperty_7 ?_
  refine swc h (fun hq h => ?_) (fun hs12 h => ?_)
  · refine r_swInE (pc := 8) X hq (off := 32) (tgt := 40) dX4_setProperty_8 (by decide) (by decide) (by decide) (by decide) ?_
    refine r_aload_n (pc := 40) X dX4_setProperty_40 rfl ?_
    refine r_iload_n (pc := 41) X dX4_setProperty_41 rfl ?_
    refine r_putIN (pc := 42) X ⟨hc0, hj0⟩ fp_X4_162 rfl dX4_setProperty_42 h (fun M1 h => ?_)
    refine r_goto (pc := 45) X (tgt := 77) dX4_setProperty_45 (by decide) ?_
    cases h
    exact r_vret (pc := 77) X hr dX4_setProperty_77
  refine swc h (fun hq h => ?_) (fun hs13 h => ?_)
  · refine r_swInE (pc := 8) X hq (off := 40) (tgt := 48) dX4_setProperty_8 (by decide) (by decide) (by decide) (by decide) ?_
    refine r_aload_n (pc := 48) X dX4_setProperty_48 rfl ?_
    refine r_iload_n (pc := 49) X dX4_setProperty_49 rfl ?_
    refine r_putIN (pc := 50) X ⟨hc0, hj0⟩ fp_X4_167 rfl dX4_setProperty_50 h (fun M2 h => ?_)
    refine r_goto (pc := 53) X (tgt := 77) dX4_setProperty_53 (by decide) ?_
    cases h
    exact r_vret (pc := 77) X hr dX4_setProperty_77
  refine swc h (fun hq h => ?_) (fun hs14 h => ?_)
  · refine r_swInE (pc := 8) X hq (off := 48) (tgt := 56) dX4_setProperty_8 (by decide) (by decide) (by decide) (by decide) ?_
    refine r_aload_n (pc := 56) X dX4_setProperty_56 rfl ?_
    refine r_iload_n (pc := 57) X dX4_setProperty_57 rfl ?_
    refine r_putIN (pc := 58) X ⟨hc0, hj0⟩ fp_X4_170 rfl dX4_setProperty_58 h (fun M3 h => ?_)
    refine r_goto (pc := 61) X (tgt := 77) dX4_setProperty_61 (by decide) ?_
    cases h
    exact r_vret (pc := 77) X hr dX4_setProperty_77
  refine swc h (fun hq h => ?_) (fun hs15 h => ?_)
  · refine r_swInE (pc := 8) X hq (off := 56) (tgt := 64) dX4_setProperty_8 (by decide) (by decide) (by decide) (by decide) ?_
    refine r_aload_n (pc := 64) X dX4_setProperty_64 rfl ?_
    refine r_iload_n (pc := 65) X dX4_setProperty_65 rfl ?_
    refine r_putIN (pc := 66) X ⟨hc0, hj0⟩ fp_X4_173 rfl dX4_setProperty_66 h (fun M4 h => ?_)
    refine r_goto (pc := 69) X (tgt := 77) dX4_setProperty_69 (by decide) ?_
    cases h
    exact r_vret (pc := 77) X hr dX4_setProperty_77
  · refine r_swOut (pc := 8) X (tgt := 72) dX4_setProperty_8 (by have z12 := lv_neT (a := 12) hs12 (by decide); have z13 := lv_neT (a := 13) hs13 (by decide); have z14 := lv_neT (a := 14) hs14 (by decide); have z15 := lv_neT (a := 15) hs15 (by decide); omega) (by decide) ?_
    refine r_aload_n (pc := 72) X dX4_setProperty_72 rfl ?_
    refine r_iload_n (pc := 73) X dX4_setProperty_73 rfl ?_
    refine r_putIN (pc := 74) X ⟨hc0, hj0⟩ fp_X4_176 rfl dX4_setProperty_74 h (fun M5 h => ?_)
    cases h
    exact r_vret (pc := 77) X hr dX4_setProperty_77
theorem c_X4_setProperty {G : GG} {l : Launch} {c0 : Nat} {j0 : Nat} {w1 : Nat} {x2 : Int32} {r : Unit} {M M' : Mem} (hc0 : c0 < 6) (hj0 : j0 < 8) (hw1 : w1 < 26) (h : f_X4_setProperty c0 j0 w1 x2 M = some (r, M')) : Met l yX4_setProperty (wsO yX4_setProperty cX4_setProperty 3 none) (rmO 1) (PcO G [.ref (G.2.1 (0, c0, j0)), .ref (G.2.2.2.1 w1), .int x2] M) (QvO G (AA G) M') 0 0 (AA G) :=
  met_of (own := RX4) rfl (by decide +kernel) (Nat.le_of_ble_eq_true rfl) (fun p e s m args below meth c X hr => t_X4_setProperty X hr hc0 hj0 hw1 h)
-- ConverterScanner$Word.of
def f_X10_of_10 : Nat → Int64 → Int32 → Int32 → Mem → Option (Nat × Mem)
  | 0 => fun _ _ _ _ => none
  | n + 1 => fun y0 x3 x4 M => if x3 ≤ x4 then some (25, M) else if bad x4 26 then none else if (lg_cmp (wLet.getD (Int32.toNatClampNeg x4) 0) y0) = 0 then some ((Int32.toNatClampNeg x4), M) else nm (x4 + 1) (fun e2 => (f_X10_of_10 n) y0 x3 e2 M)
set_option maxHeartbeats 4000000 in
set_option maxRecDepth 100000 in
theorem t_X10_of_10 {G : GG} {A : Nat → Prop} {p : Program} {l : Launch} {e : Env} {s : State} {m : MethodId} {args : Array Value} {below : List Frame} {meth : Method} {c : Code} {r : Nat} {M' : Mem} (X : Cx G A p s m args meth c RX10 cX10_of 6) (hr : meth.sig.returnType = some (.object "ConverterScanner$Word")) : ∀ (n : Nat) (y0 : Int64) (x3 : Int32) (x4 : Int32) (M : Mem), f_X10_of_10 n y0 x3 x4 M = some (r, M') → T G A p l e (rmO 0) s m args below meth c 6 0 0 (MQ below (QrO G A (G.2.2.2.1 r) M') args s 0 0 A) 10 [(0, .long y0), (2, .ref (G.2.2.2.1 26)), (3, .int x3), (4, .int x4)] [] M := by
  intro n
  induction n with
  | zero =>
    intro y0 x3 x4 M  h
    cases h
  | succ n ih =>
    intro y0 x3 x4 M  h
    unfold f_X10_of_10 at h
    refine r_iload (pc := 10) X dX10_of_10 rfl ?_
    refine r_iload_n (pc := 12) X dX10_of_12 rfl ?_
    refine r_icmp_ge (pc := 13) X (tgt := 41) dX10_of_13 (by decide) h (fun h => ?_) (fun h => ?_)
    · refine r_getsW (pc := 41) X 25 (by decide) wf_X10_79 dX10_of_41 ?_
      cases h
      exact r_aret (pc := 44) X hr dX10_of_44
    · refine r_aload_n (pc := 16) X dX10_of_16 rfl ?_
      refine r_iload (pc := 17) X dX10_of_17 rfl ?_
      refine r_allld (pc := 19) X dX10_of_19 h (fun hb1 h => ?_)
      refine r_astore (pc := 20) X (by decide) dX10_of_20 ?_
      refine r_aload (pc := 22) X dX10_of_22 rfl ?_
      refine r_getw_letters (pc := 24) X (bad_lt hb1) wf_X10_117 dX10_of_24 ?_
      refine r_lload_n (pc := 27) X dX10_of_27 rfl ?_
      refine r_lcmp (pc := 28) X dX10_of_28 ?_
      refine r_if_ne (pc := 29) X (tgt := 35) dX10_of_29 (by decide) h (fun h => ?_) (fun h => ?_)
      · refine r_iincN (pc := 35) X (v0 := 1) rfl (by decide) (by decide) dX10_of_35 h (fun e2 h => ?_)
        refine r_goto (pc := 38) X (tgt := 10) dX10_of_38 (by decide) ?_
        exact T_sub (ih _ _ _ _ h) ⟨rfl, rfl, rfl, rfl, trivial⟩
      · refine r_aload (pc := 32) X dX10_of_32 rfl ?_
        cases h
        exact r_aret (pc := 34) X hr dX10_of_34
def f_X10_of (y0 : Int64) (M : Mem) : Option (Nat × Mem) :=
  f_X10_of_10 fuelN y0 26 0 M
set_option maxHeartbeats 4000000 in
set_option maxRecDepth 100000 in
theorem t_X10_of {G : GG} {A : Nat → Prop} {p : Program} {l : Launch} {e : Env} {s : State} {m : MethodId} {args : Array Value} {below : List Frame} {meth : Method} {c : Code} {r : Nat} {M' : Mem} (X : Cx G A p s m args meth c RX10 cX10_of 6) (hr : meth.sig.returnType = some (.object "ConverterScanner$Word")) {y0 : Int64} {M : Mem}  (h : f_X10_of y0 M = some (r, M')) : T G A p l e (rmO 0) s m args below meth c 6 0 0 (MQ below (QrO G A (G.2.2.2.1 r) M') args s 0 0 A) 0 [(0, .long y0)] [] M := by
  unfold f_X10_of at h
  refine r_getsAll (pc := 0) X wf_X10_127 dX10_of_0 ?_
  refine r_astore_n (pc := 3) X (by decide) dX10_of_3 ?_
  refine r_aload_n (pc := 4) X dX10_of_4 rfl ?_
  refine r_alllen (pc := 5) X dX10_of_5 ?_
  refine r_istore_n (pc := 6) X (by decide) dX10_of_6 ?_
  refine r_iconst (pc := 7) X (v := 0) dX10_of_7 (by decide) ?_
  refine r_istore (pc := 8) X (by decide) dX10_of_8 ?_
  exact T_sub (t_X10_of_10 X hr _ _ _ _ _ h) ⟨rfl, rfl, rfl, rfl, trivial⟩
theorem c_X10_of {G : GG} {l : Launch} {y0 : Int64} {r : Nat} {M M' : Mem}  (h : f_X10_of y0 M = some (r, M')) : Met l yX10_of (wsO yX10_of cX10_of 6 (some (.object "ConverterScanner$Word"))) (rmO 0) (PcO G [.long y0] M) (QrO G (AA G) (G.2.2.2.1 r) M') 0 0 (AA G) :=
  met_of (own := RX10) rfl (by decide +kernel) (Nat.le_of_ble_eq_true rfl) (fun p e s m args below meth c X hr => t_X10_of X hr  h)
theorem okr_X10_of_10 : ∀ (n : Nat) (y0 : Int64) (x3 x4 : Int32) (M : Mem) (r : Nat) (M' : Mem), f_X10_of_10 n y0 x3 x4 M = some (r, M') → r < 26 := by
  intro n
  induction n with
  | zero => intro y0 x3 x4 M r M' h; cases h
  | succ n ih =>
    intro y0 x3 x4 M r M' h
    unfold f_X10_of_10 at h
    split at h
    · cases h; decide
    · split at h
      · cases h
      · rename_i hb
        split at h
        · cases h; exact bad_lt hb
        · exact ih _ _ _ _ _ _ h
theorem okr_X10_of {y0 : Int64} {r : Nat} {M M' : Mem} (h : f_X10_of y0 M = some (r, M')) : r < 26 := by
  unfold f_X10_of at h
  exact okr_X10_of_10 _ _ _ _ _ _ _ h
-- ConverterScanner$Tokens.readRun
def f_X7_readRun_99 (x1 : Int32) (x4 : Int32) (x5 : Int32) (M : Mem) : Option (Unit × Mem) :=
  nm (uI M (6, 0, 0) 2 x5) (fun M1 => if (x5 - (M1.1 (6, 0, 0) 4)) ≤ x4 then nm (uI M1 (6, 0, 0) 5 x1) (fun M2 => some ((), M2)) else nm (uI M1 (6, 0, 0) 5 4) (fun M3 => some ((), M3)))
set_option maxHeartbeats 4000000 in
set_option maxRecDepth 100000 in
theorem t_X7_readRun_99 {G : GG} {A : Nat → Prop} {p : Program} {l : Launch} {e : Env} {s : State} {m : MethodId} {args : Array Value} {below : List Frame} {meth : Method} {c : Code} {r : Unit} {M' : Mem} (X : Cx G A p s m args meth c RX7 cX7_readRun 6) (hr : meth.sig.returnType = none) {x1 : Int32} {x4 : Int32} {x5 : Int32} {M : Mem}  (h : f_X7_readRun_99 x1 x4 x5 M = some (r, M')) : T G A p l e (rmO 0) s m args below meth c 6 0 0 (MQ below (QvO G A M') args s 0 0 A) 99 [(0, .ref (G.2.1 (6, 0, 0))), (1, .int x1), (4, .int x4), (5, .int x5)] [] M := by
  unfold f_X7_readRun_99 at h
  refine r_aload_n (pc := 99) X dX7_readRun_99 rfl ?_
  refine r_iload (pc := 100) X dX7_readRun_100 rfl ?_
  refine r_putIN (pc := 102) X ⟨(ltb rfl), (ltb rfl)⟩ fp_X7_31 rfl dX7_readRun_102 h (fun M1 h => ?_)
  refine r_aload_n (pc := 105) X dX7_readRun_105 rfl ?_
  refine r_iload (pc := 106) X dX7_readRun_106 rfl ?_
  refine r_aload_n (pc := 108) X dX7_readRun_108 rfl ?_
  refine r_getI (pc := 109) X ⟨(ltb rfl), (ltb rfl)⟩ fl_X7_37 rfl dX7_readRun_109 ?_
  refine r_isub (pc := 112) X dX7_readRun_112 ?_
  refine r_iload (pc := 113) X dX7_readRun_113 rfl ?_
  refine r_icmp_le (pc := 115) X (tgt := 122) dX7_readRun_115 (by decide) h (fun h => ?_) (fun h => ?_)
  · refine r_iload_n (pc := 122) X dX7_readRun_122 rfl ?_
    refine r_putIN (pc := 123) X ⟨(ltb rfl), (ltb rfl)⟩ fp_X7_15 rfl dX7_readRun_123 h (fun M2 h => ?_)
    cases h
    exact r_vret (pc := 126) X hr dX7_readRun_126
  · refine r_iconst (pc := 118) X (v := 4) dX7_readRun_118 (by decide) ?_
    refine r_goto (pc := 119) X (tgt := 123) dX7_readRun_119 (by decide) ?_
    refine r_putIN (pc := 123) X ⟨(ltb rfl), (ltb rfl)⟩ fp_X7_15 rfl dX7_readRun_123 h (fun M3 h => ?_)
    cases h
    exact r_vret (pc := 126) X hr dX7_readRun_126
def f_X7_readRun_16 : Nat → Int32 → Int32 → Int32 → Int32 → Int32 → Mem → Option (Unit × Mem)
  | 0 => fun _ _ _ _ _ _ => none
  | n + 1 => fun x1 x2 x3 x4 x5 M => if (M.1 (6, 0, 0) 1) ≤ x5 then f_X7_readRun_99 x1 x4 x5 M else if bad x5 900 then none else if (M.1 (22, 0, 0) (Int32.toNatClampNeg x5)) < x2 then f_X7_readRun_99 x1 x4 x5 M else if bad x5 900 then none else if x3 < (M.1 (22, 0, 0) (Int32.toNatClampNeg x5)) then f_X7_readRun_99 x1 x4 x5 M else if bad x5 900 then none else nm (uL M (6, 0, 0) 3 ((32 * (M.2.1 (6, 0, 0) 3)) + (Int32.toInt64 (((M.1 (22, 0, 0) (Int32.toNatClampNeg x5)) - x2) + 1)))) (fun M1 => if bad x5 900 then none else nm (uI M1 (6, 0, 0) 6 ((10 * (M1.1 (6, 0, 0) 6)) + ((M1.1 (22, 0, 0) (Int32.toNatClampNeg x5)) - x2))) (fun M2 => nm (x5 + 1) (fun e3 => (f_X7_readRun_16 n) x1 x2 x3 x4 e3 M2)))
set_option maxHeartbeats 4000000 in
set_option maxRecDepth 100000 in
theorem t_X7_readRun_16 {G : GG} {A : Nat → Prop} {p : Program} {l : Launch} {e : Env} {s : State} {m : MethodId} {args : Array Value} {below : List Frame} {meth : Method} {c : Code} {r : Unit} {M' : Mem} (X : Cx G A p s m args meth c RX7 cX7_readRun 6) (hr : meth.sig.returnType = none) : ∀ (n : Nat) (x1 : Int32) (x2 : Int32) (x3 : Int32) (x4 : Int32) (x5 : Int32) (M : Mem), f_X7_readRun_16 n x1 x2 x3 x4 x5 M = some (r, M') → T G A p l e (rmO 0) s m args below meth c 6 0 0 (MQ below (QvO G A M') args s 0 0 A) 16 [(0, .ref (G.2.1 (6, 0, 0))), (1, .int x1), (2, .int x2), (3, .int x3), (4, .int x4), (5, .int x5)] [] M := by
  intro n
  induction n with
  | zero =>
    intro x1 x2 x3 x4 x5 M  h
    cases h
  | succ n ih =>
    intro x1 x2 x3 x4 x5 M  h
    unfold f_X7_readRun_16 at h
    refine r_iload (pc := 16) X dX7_readRun_16 rfl ?_
    refine r_aload_n (pc := 18) X dX7_readRun_18 rfl ?_
    refine r_getI (pc := 19) X ⟨(ltb rfl), (ltb rfl)⟩ fl_X7_28 rfl dX7_readRun_19 ?_
    refine r_icmp_ge (pc := 22) X (tgt := 99) dX7_readRun_22 (by decide) h (fun h => ?_) (fun h => ?_)
    · exact T_sub (t_X7_readRun_99 X hr h) ⟨rfl, rfl, rfl, rfl, trivial⟩
    · refine r_aload_n (pc := 25) X dX7_readRun_25 rfl ?_
      refine r_getR (q := (22, 0, 0)) (pc := 26) X ⟨(ltb rfl), (ltb rfl)⟩ fl_X7_9 rfl dX7_readRun_26 ?_
      refine r_iload (pc := 29) X dX7_readRun_29 rfl ?_
      refine r_bald (pc := 31) X (n := 900) ⟨(ltb rfl), (ltb rfl)⟩ rfl (nlt rfl) dX7_readRun_31 h (fun h => ?_)
      refine r_iload_n (pc := 32) X dX7_readRun_32 rfl ?_
      refine r_icmp_lt (pc := 33) X (tgt := 99) dX7_readRun_33 (by decide) h (fun h => ?_) (fun h => ?_)
      · exact T_sub (t_X7_readRun_99 X hr h) ⟨rfl, rfl, rfl, rfl, trivial⟩
      · refine r_aload_n (pc := 36) X dX7_readRun_36 rfl ?_
        refine r_getR (q := (22, 0, 0)) (pc := 37) X ⟨(ltb rfl), (ltb rfl)⟩ fl_X7_9 rfl dX7_readRun_37 ?_
        refine r_iload (pc := 40) X dX7_readRun_40 rfl ?_
        refine r_bald (pc := 42) X (n := 900) ⟨(ltb rfl), (ltb rfl)⟩ rfl (nlt rfl) dX7_readRun_42 h (fun h => ?_)
        refine r_iload_n (pc := 43) X dX7_readRun_43 rfl ?_
        refine r_icmp_gt (pc := 44) X (tgt := 99) dX7_readRun_44 (by decide) h (fun h => ?_) (fun h => ?_)
        · exact T_sub (t_X7_readRun_99 X hr h) ⟨rfl, rfl, rfl, rfl, trivial⟩
        · refine r_aload_n (pc := 47) X dX7_readRun_47 rfl ?_
          refine r_ldc2 (pc := 48) X k_X7_55 dX7_readRun_48 ?_
          refine r_aload_n (pc := 51) X dX7_readRun_51 rfl ?_
          refine r_getL (pc := 52) X ⟨(ltb rfl), (ltb rfl)⟩ fl_X7_47 rfl dX7_readRun_52 ?_
          refine r_lmul (pc := 55) X dX7_readRun_55 ?_
          refine r_aload_n (pc := 56) X dX7_readRun_56 rfl ?_
          refine r_getR (q := (22, 0, 0)) (pc := 57) X ⟨(ltb rfl), (ltb rfl)⟩ fl_X7_9 rfl dX7_readRun_57 ?_
          refine r_iload (pc := 60) X dX7_readRun_60 rfl ?_
          refine r_bald (pc := 62) X (n := 900) ⟨(ltb rfl), (ltb rfl)⟩ rfl (nlt rfl) dX7_readRun_62 h (fun h => ?_)
          refine r_iload_n (pc := 63) X dX7_readRun_63 rfl ?_
          refine r_isub (pc := 64) X dX7_readRun_64 ?_
          refine r_iconst (pc := 65) X (v := 1) dX7_readRun_65 (by decide) ?_
          refine r_iadd (pc := 66) X dX7_readRun_66 ?_
          refine r_i2l (pc := 67) X dX7_readRun_67 ?_
          refine r_ladd (pc := 68) X dX7_readRun_68 ?_
          refine r_putLN (pc := 69) X ⟨(ltb rfl), (ltb rfl)⟩ fp_X7_47 rfl dX7_readRun_69 h (fun M1 h => ?_)
          refine r_aload_n (pc := 72) X dX7_readRun_72 rfl ?_
          refine r_bipush (pc := 73) X (v := 10) dX7_readRun_73 (by decide) ?_
          refine r_aload_n (pc := 75) X dX7_readRun_75 rfl ?_
          refine r_getI (pc := 76) X ⟨(ltb rfl), (ltb rfl)⟩ fl_X7_40 rfl dX7_readRun_76 ?_
          refine r_imul (pc := 79) X dX7_readRun_79 ?_
          refine r_aload_n (pc := 80) X dX7_readRun_80 rfl ?_
          refine r_getR (q := (22, 0, 0)) (pc := 81) X ⟨(ltb rfl), (ltb rfl)⟩ fl_X7_9 rfl dX7_readRun_81 ?_
          refine r_iload (pc := 84) X dX7_readRun_84 rfl ?_
          refine r_bald (pc := 86) X (n := 900) ⟨(ltb rfl), (ltb rfl)⟩ rfl (nlt rfl) dX7_readRun_86 h (fun h => ?_)
          refine r_iload_n (pc := 87) X dX7_readRun_87 rfl ?_
          refine r_isub (pc := 88) X dX7_readRun_88 ?_
          refine r_iadd (pc := 89) X dX7_readRun_89 ?_
          refine r_putIN (pc := 90) X ⟨(ltb rfl), (ltb rfl)⟩ fp_X7_40 rfl dX7_readRun_90 h (fun M2 h => ?_)
          refine r_iincN (pc := 93) X (v0 := 1) rfl (by decide) (by decide) dX7_readRun_93 h (fun e3 h => ?_)
          refine r_goto (pc := 96) X (tgt := 16) dX7_readRun_96 (by decide) ?_
          exact T_sub (ih _ _ _ _ _ _ h) ⟨rfl, rfl, rfl, rfl, rfl, rfl, trivial⟩
def f_X7_readRun (x1 : Int32) (x2 : Int32) (x3 : Int32) (x4 : Int32) (M : Mem) : Option (Unit × Mem) :=
  nm (uL M (6, 0, 0) 3 0) (fun M1 => nm (uI M1 (6, 0, 0) 6 0) (fun M2 => nm (M2.1 (6, 0, 0) 4) (fun e3 => f_X7_readRun_16 fuelN x1 x2 x3 x4 e3 M2)))
set_option maxHeartbeats 4000000 in
set_option maxRecDepth 100000 in
theorem t_X7_readRun {G : GG} {A : Nat → Prop} {p : Program} {l : Launch} {e : Env} {s : State} {m : MethodId} {args : Array Value} {below : List Frame} {meth : Method} {c : Code} {r : Unit} {M' : Mem} (X : Cx G A p s m args meth c RX7 cX7_readRun 6) (hr : meth.sig.returnType = none) {x1 : Int32} {x2 : Int32} {x3 : Int32} {x4 : Int32} {M : Mem}  (h : f_X7_readRun x1 x2 x3 x4 M = some (r, M')) : T G A p l e (rmO 0) s m args below meth c 6 0 0 (MQ below (QvO G A M') args s 0 0 A) 0 [(0, .ref (G.2.1 (6, 0, 0))), (1, .int x1), (2, .int x2), (3, .int x3), (4, .int x4)] [] M := by
  unfold f_X7_readRun at h
  refine r_aload_n (pc := 0) X dX7_readRun_0 rfl ?_
  refine r_lconst (pc := 1) X (v := 0) dX7_readRun_1 (by decide) ?_
  refine r_putLN (pc := 2) X ⟨(ltb rfl), (ltb rfl)⟩ fp_X7_47 rfl dX7_readRun_2 h (fun M1 h => ?_)
  refine r_aload_n (pc := 5) X dX7_readRun_5 rfl ?_
  refine r_iconst (pc := 6) X (v := 0) dX7_readRun_6 (by decide) ?_
  refine r_putIN (pc := 7) X ⟨(ltb rfl), (ltb rfl)⟩ fp_X7_40 rfl dX7_readRun_7 h (fun M2 h => ?_)
  refine r_aload_n (pc := 10) X dX7_readRun_10 rfl ?_
  refine r_getI (pc := 11) X ⟨(ltb rfl), (ltb rfl)⟩ fl_X7_37 rfl dX7_readRun_11 ?_
  refine r_istoreN (pc := 14) X (by decide) dX7_readRun_14 h (fun e3 h => ?_)
  exact T_sub (t_X7_readRun_16 X hr _ _ _ _ _ _ _ h) ⟨rfl, rfl, rfl, rfl, rfl, rfl, trivial⟩
theorem c_X7_readRun {G : GG} {l : Launch} {x1 : Int32} {x2 : Int32} {x3 : Int32} {x4 : Int32} {r : Unit} {M M' : Mem}  (h : f_X7_readRun x1 x2 x3 x4 M = some (r, M')) : Met l yX7_readRun (wsO yX7_readRun cX7_readRun 6 none) (rmO 0) (PcO G [.ref (G.2.1 (6, 0, 0)), .int x1, .int x2, .int x3, .int x4] M) (QvO G (AA G) M') 0 0 (AA G) :=
  met_of (own := RX7) rfl (by decide +kernel) (Nat.le_of_ble_eq_true rfl) (fun p e s m args below meth c X hr => t_X7_readRun X hr  h)
-- ConverterScanner$Tokens.next
def f_X7_next_170 (x1 : Int32) (M : Mem) : Option (Unit × Mem) :=
  nm (uI M (6, 0, 0) 5 3) (fun M1 => nm (uI M1 (6, 0, 0) 2 (x1 + 1)) (fun M2 => some ((), M2)))
set_option maxHeartbeats 4000000 in
set_option maxRecDepth 100000 in
theorem t_X7_next_170 {G : GG} {A : Nat → Prop} {p : Program} {l : Launch} {e : Env} {s : State} {m : MethodId} {args : Array Value} {below : List Frame} {meth : Method} {c : Code} {r : Unit} {M' : Mem} (X : Cx G A p s m args meth c RX7 cX7_next 2) (hr : meth.sig.returnType = none) {x1 : Int32} {M : Mem}  (h : f_X7_next_170 x1 M = some (r, M')) : T G A p l e (rmO 1) s m args below meth c 2 0 0 (MQ below (QvO G A M') args s 0 0 A) 170 [(0, .ref (G.2.1 (6, 0, 0))), (1, .int x1)] [] M := by
  unfold f_X7_next_170 at h
  refine r_aload_n (pc := 170) X dX7_next_170 rfl ?_
  refine r_iconst (pc := 171) X (v := 3) dX7_next_171 (by decide) ?_
  refine r_putIN (pc := 172) X ⟨(ltb rfl), (ltb rfl)⟩ fp_X7_15 rfl dX7_next_172 h (fun M1 h => ?_)
  refine r_aload_n (pc := 175) X dX7_next_175 rfl ?_
  refine r_iload_n (pc := 176) X dX7_next_176 rfl ?_
  refine r_iconst (pc := 177) X (v := 1) dX7_next_177 (by decide) ?_
  refine r_iadd (pc := 178) X dX7_next_178 ?_
  refine r_putIN (pc := 179) X ⟨(ltb rfl), (ltb rfl)⟩ fp_X7_31 rfl dX7_next_179 h (fun M2 h => ?_)
  cases h
  exact r_vret (pc := 182) X hr dX7_next_182
def f_X7_next_139 (x1 : Int32) (M : Mem) : Option (Unit × Mem) :=
  if (M.1 (6, 0, 0) 6) < 48 then f_X7_next_170 x1 M else if 57 < (M.1 (6, 0, 0) 6) then f_X7_next_170 x1 M else bnd (f_X7_readRun 2 48 57 5 M) (fun r1 M2 => some ((), M2))
set_option maxHeartbeats 4000000 in
set_option maxRecDepth 100000 in
theorem t_X7_next_139 {G : GG} {A : Nat → Prop} {p : Program} {l : Launch} {e : Env} {s : State} {m : MethodId} {args : Array Value} {below : List Frame} {meth : Method} {c : Code} {r : Unit} {M' : Mem} (X : Cx G A p s m args meth c RX7 cX7_next 2) (hr : meth.sig.returnType = none) {x1 : Int32} {M : Mem}  (h : f_X7_next_139 x1 M = some (r, M')) : T G A p l e (rmO 1) s m args below meth c 2 0 0 (MQ below (QvO G A M') args s 0 0 A) 139 [(0, .ref (G.2.1 (6, 0, 0))), (1, .int x1)] [] M := by
  unfold f_X7_next_139 at h
  refine r_aload_n (pc := 139) X dX7_next_139 rfl ?_
  refine r_getI (pc := 140) X ⟨(ltb rfl), (ltb rfl)⟩ fl_X7_40 rfl dX7_next_140 ?_
  refine r_bipush (pc := 143) X (v := 48) dX7_next_143 (by decide) ?_
  refine r_icmp_lt (pc := 145) X (tgt := 170) dX7_next_145 (by decide) h (fun h => ?_) (fun h => ?_)
  · exact T_sub (t_X7_next_170 X hr h) ⟨rfl, rfl, trivial⟩
  · refine r_aload_n (pc := 148) X dX7_next_148 rfl ?_
    refine r_getI (pc := 149) X ⟨(ltb rfl), (ltb rfl)⟩ fl_X7_40 rfl dX7_next_149 ?_
    refine r_bipush (pc := 152) X (v := 57) dX7_next_152 (by decide) ?_
    refine r_icmp_gt (pc := 154) X (tgt := 170) dX7_next_154 (by decide) h (fun h => ?_) (fun h => ?_)
    · exact T_sub (t_X7_next_170 X hr h) ⟨rfl, rfl, trivial⟩
    · refine r_aload_n (pc := 157) X dX7_next_157 rfl ?_
      refine r_iconst (pc := 158) X (v := 2) dX7_next_158 (by decide) ?_
      refine r_bipush (pc := 159) X (v := 48) dX7_next_159 (by decide) ?_
      refine r_bipush (pc := 161) X (v := 57) dX7_next_161 (by decide) ?_
      refine r_iconst (pc := 163) X (v := 5) dX7_next_163 (by decide) ?_
      refine bndE h (fun r1 M2 h3 h => ?_)
      refine r_callVv4 (pc := 164) X ⟨(ltb rfl), (ltb rfl)⟩ rfl vy_X7_readRun my_X7_readRun ml_X7_43 ⟨Nat.le_of_ble_eq_true rfl, Nat.le_of_ble_eq_true rfl, Nat.le_of_ble_eq_true rfl, Nat.le_of_ble_eq_true rfl⟩ (c_X7_readRun  h3) (Nat.le_of_ble_eq_true rfl) dX7_next_164 ?_
      refine r_goto (pc := 167) X (tgt := 182) dX7_next_167 (by decide) ?_
      cases h
      exact r_vret (pc := 182) X hr dX7_next_182
def f_X7_next_133 (ws0 : Nat) (M : Mem) : Option (Unit × Mem) :=
  nm (uI M (6, 0, 0) 7 (nI ws0)) (fun M1 => some ((), M1))
set_option maxHeartbeats 4000000 in
set_option maxRecDepth 100000 in
theorem t_X7_next_133 {G : GG} {A : Nat → Prop} {p : Program} {l : Launch} {e : Env} {s : State} {m : MethodId} {args : Array Value} {below : List Frame} {meth : Method} {c : Code} {r : Unit} {M' : Mem} (X : Cx G A p s m args meth c RX7 cX7_next 2) (hr : meth.sig.returnType = none) {ws0 : Nat} {M : Mem} (hws0 : ws0 < 26) (h : f_X7_next_133 ws0 M = some (r, M')) : T G A p l e (rmO 1) s m args below meth c 2 0 0 (MQ below (QvO G A M') args s 0 0 A) 133 [] [.ref (G.2.2.2.1 ws0), .ref (G.2.1 (6, 0, 0))] M := by
  unfold f_X7_next_133 at h
  refine r_putWN (pc := 133) X ⟨(ltb rfl), (ltb rfl)⟩ hws0 fp_X7_25 rfl dX7_next_133 h (fun M1 h => ?_)
  refine r_goto (pc := 136) X (tgt := 182) dX7_next_136 (by decide) ?_
  cases h
  exact r_vret (pc := 182) X hr dX7_next_182
def f_X7_next_41 (x1 : Int32) (M : Mem) : Option (Unit × Mem) :=
  nm (uI M (6, 0, 0) 4 x1) (fun M1 => nm (uI M1 (6, 0, 0) 7 (nI 25)) (fun M2 => if x1 < (M2.1 (6, 0, 0) 1) then if bad x1 900 then none else nm (uI M2 (6, 0, 0) 6 (M2.1 (22, 0, 0) (Int32.toNatClampNeg x1))) (fun M3 => if (M3.1 (6, 0, 0) 6) < 97 then f_X7_next_139 x1 M3 else if 122 < (M3.1 (6, 0, 0) 6) then f_X7_next_139 x1 M3 else bnd (f_X7_readRun 1 97 122 10 M3) (fun r4 M5 => if (M5.1 (6, 0, 0) 5) = 1 then bnd (f_X10_of (M5.2.1 (6, 0, 0) 3) M5) (fun r7 M8 => f_X7_next_133 r7 M8) else f_X7_next_133 25 M5)) else nm (uI M2 (6, 0, 0) 2 x1) (fun M10 => nm (uI M10 (6, 0, 0) 5 0) (fun M11 => some ((), M11)))))
set_option maxHeartbeats 4000000 in
set_option maxRecDepth 100000 in
theorem t_X7_next_41 {G : GG} {A : Nat → Prop} {p : Program} {l : Launch} {e : Env} {s : State} {m : MethodId} {args : Array Value} {below : List Frame} {meth : Method} {c : Code} {r : Unit} {M' : Mem} (X : Cx G A p s m args meth c RX7 cX7_next 2) (hr : meth.sig.returnType = none) {x1 : Int32} {M : Mem}  (h : f_X7_next_41 x1 M = some (r, M')) : T G A p l e (rmO 1) s m args below meth c 2 0 0 (MQ below (QvO G A M') args s 0 0 A) 41 [(0, .ref (G.2.1 (6, 0, 0))), (1, .int x1)] [] M := by
  unfold f_X7_next_41 at h
  refine r_aload_n (pc := 41) X dX7_next_41 rfl ?_
  refine r_iload_n (pc := 42) X dX7_next_42 rfl ?_
  refine r_putIN (pc := 43) X ⟨(ltb rfl), (ltb rfl)⟩ fp_X7_37 rfl dX7_next_43 h (fun M1 h => ?_)
  refine r_aload_n (pc := 46) X dX7_next_46 rfl ?_
  refine r_getsW (pc := 47) X 25 (by decide) wf_X7_19 dX7_next_47 ?_
  refine r_putWN (pc := 50) X ⟨(ltb rfl), (ltb rfl)⟩ (by decide) fp_X7_25 rfl dX7_next_50 h (fun M2 h => ?_)
  refine r_iload_n (pc := 53) X dX7_next_53 rfl ?_
  refine r_aload_n (pc := 54) X dX7_next_54 rfl ?_
  refine r_getI (pc := 55) X ⟨(ltb rfl), (ltb rfl)⟩ fl_X7_28 rfl dX7_next_55 ?_
  refine r_icmp_lt (pc := 58) X (tgt := 72) dX7_next_58 (by decide) h (fun h => ?_) (fun h => ?_)
  · refine r_aload_n (pc := 72) X dX7_next_72 rfl ?_
    refine r_aload_n (pc := 73) X dX7_next_73 rfl ?_
    refine r_getR (q := (22, 0, 0)) (pc := 74) X ⟨(ltb rfl), (ltb rfl)⟩ fl_X7_9 rfl dX7_next_74 ?_
    refine r_iload_n (pc := 77) X dX7_next_77 rfl ?_
    refine r_bald (pc := 78) X (n := 900) ⟨(ltb rfl), (ltb rfl)⟩ rfl (nlt rfl) dX7_next_78 h (fun h => ?_)
    refine r_putIN (pc := 79) X ⟨(ltb rfl), (ltb rfl)⟩ fp_X7_40 rfl dX7_next_79 h (fun M3 h => ?_)
    refine r_aload_n (pc := 82) X dX7_next_82 rfl ?_
    refine r_getI (pc := 83) X ⟨(ltb rfl), (ltb rfl)⟩ fl_X7_40 rfl dX7_next_83 ?_
    refine r_bipush (pc := 86) X (v := 97) dX7_next_86 (by decide) ?_
    refine r_icmp_lt (pc := 88) X (tgt := 139) dX7_next_88 (by decide) h (fun h => ?_) (fun h => ?_)
    · exact T_sub (t_X7_next_139 X hr h) ⟨rfl, rfl, trivial⟩
    · refine r_aload_n (pc := 91) X dX7_next_91 rfl ?_
      refine r_getI (pc := 92) X ⟨(ltb rfl), (ltb rfl)⟩ fl_X7_40 rfl dX7_next_92 ?_
      refine r_bipush (pc := 95) X (v := 122) dX7_next_95 (by decide) ?_
      refine r_icmp_gt (pc := 97) X (tgt := 139) dX7_next_97 (by decide) h (fun h => ?_) (fun h => ?_)
      · exact T_sub (t_X7_next_139 X hr h) ⟨rfl, rfl, trivial⟩
      · refine r_aload_n (pc := 100) X dX7_next_100 rfl ?_
        refine r_iconst (pc := 101) X (v := 1) dX7_next_101 (by decide) ?_
        refine r_bipush (pc := 102) X (v := 97) dX7_next_102 (by decide) ?_
        refine r_bipush (pc := 104) X (v := 122) dX7_next_104 (by decide) ?_
        refine r_bipush (pc := 106) X (v := 10) dX7_next_106 (by decide) ?_
        refine bndE h (fun r4 M5 h6 h => ?_)
        refine r_callVv4 (pc := 108) X ⟨(ltb rfl), (ltb rfl)⟩ rfl vy_X7_readRun my_X7_readRun ml_X7_43 ⟨Nat.le_of_ble_eq_true rfl, Nat.le_of_ble_eq_true rfl, Nat.le_of_ble_eq_true rfl, Nat.le_of_ble_eq_true rfl⟩ (c_X7_readRun  h6) (Nat.le_of_ble_eq_true rfl) dX7_next_108 ?_
        refine r_aload_n (pc := 111) X dX7_next_111 rfl ?_
        refine r_aload_n (pc := 112) X dX7_next_112 rfl ?_
        refine r_getI (pc := 113) X ⟨(ltb rfl), (ltb rfl)⟩ fl_X7_15 rfl dX7_next_113 ?_
        refine r_iconst (pc := 116) X (v := 1) dX7_next_116 (by decide) ?_
        refine r_icmp_ne (pc := 117) X (tgt := 130) dX7_next_117 (by decide) h (fun h => ?_) (fun h => ?_)
        · refine r_getsW (pc := 130) X 25 (by decide) wf_X7_19 dX7_next_130 ?_
          exact T_sub (t_X7_next_133 X hr (by decide) h) trivial
        · refine r_aload_n (pc := 120) X dX7_next_120 rfl ?_
          refine r_getL (pc := 121) X ⟨(ltb rfl), (ltb rfl)⟩ fl_X7_47 rfl dX7_next_121 ?_
          refine bndE h (fun r7 M8 h9 h => ?_)
          refine r_callSr1 (pc := 124) X sy_X10_of my_X10_of ml_X7_51 ⟨Nat.le_of_ble_eq_true rfl, Nat.le_of_ble_eq_true rfl, Nat.le_of_ble_eq_true rfl, Nat.le_of_ble_eq_true rfl⟩ (c_X10_of  h9) (Nat.le_of_ble_eq_true rfl) dX7_next_124 ?_
          refine r_goto (pc := 127) X (tgt := 133) dX7_next_127 (by decide) ?_
          exact T_sub (t_X7_next_133 X hr (okr_X10_of h9) h) trivial
  · refine r_aload_n (pc := 61) X dX7_next_61 rfl ?_
    refine r_iload_n (pc := 62) X dX7_next_62 rfl ?_
    refine r_putIN (pc := 63) X ⟨(ltb rfl), (ltb rfl)⟩ fp_X7_31 rfl dX7_next_63 h (fun M10 h => ?_)
    refine r_aload_n (pc := 66) X dX7_next_66 rfl ?_
    refine r_iconst (pc := 67) X (v := 0) dX7_next_67 (by decide) ?_
    refine r_putIN (pc := 68) X ⟨(ltb rfl), (ltb rfl)⟩ fp_X7_15 rfl dX7_next_68 h (fun M11 h => ?_)
    cases h
    exact r_vret (pc := 71) X hr dX7_next_71
def f_X7_next_35 (r5 : Int32 → Mem → Option (Unit × Mem)) (x1 : Int32) (M : Mem) : Option (Unit × Mem) :=
  nm (x1 + 1) (fun e1 => r5 e1 M)
set_option maxHeartbeats 4000000 in
set_option maxRecDepth 100000 in
theorem t_X7_next_35 {G : GG} {A : Nat → Prop} {p : Program} {l : Launch} {e : Env} {s : State} {m : MethodId} {args : Array Value} {below : List Frame} {meth : Method} {c : Code} {r : Unit} {M' : Mem} (X : Cx G A p s m args meth c RX7 cX7_next 2) (hr : meth.sig.returnType = none) {r5 : Int32 → Mem → Option (Unit × Mem)} (hr5 : ∀ (x1 : Int32) (M : Mem), r5 x1 M = some (r, M') → T G A p l e (rmO 1) s m args below meth c 2 0 0 (MQ below (QvO G A M') args s 0 0 A) 5 [(0, .ref (G.2.1 (6, 0, 0))), (1, .int x1)] [] M) {x1 : Int32} {M : Mem}  (h : f_X7_next_35 r5 x1 M = some (r, M')) : T G A p l e (rmO 1) s m args below meth c 2 0 0 (MQ below (QvO G A M') args s 0 0 A) 35 [(0, .ref (G.2.1 (6, 0, 0))), (1, .int x1)] [] M := by
  unfold f_X7_next_35 at h
  refine r_iincN (pc := 35) X (v0 := 1) rfl (by decide) (by decide) dX7_next_35 h (fun e1 h => ?_)
  refine r_goto (pc := 38) X (tgt := 5) dX7_next_38 (by decide) ?_
  exact T_sub (hr5 _ _ h) ⟨rfl, rfl, trivial⟩
def f_X7_next_5 : Nat → Int32 → Mem → Option (Unit × Mem)
  | 0 => fun _ _ => none
  | n + 1 => fun x1 M => if (M.1 (6, 0, 0) 1) ≤ x1 then f_X7_next_41 x1 M else if bad x1 900 then none else if (M.1 (22, 0, 0) (Int32.toNatClampNeg x1)) = 32 then f_X7_next_35 (f_X7_next_5 n) x1 M else if bad x1 900 then none else if (M.1 (22, 0, 0) (Int32.toNatClampNeg x1)) = 10 then f_X7_next_35 (f_X7_next_5 n) x1 M else f_X7_next_41 x1 M
set_option maxHeartbeats 4000000 in
set_option maxRecDepth 100000 in
theorem t_X7_next_5 {G : GG} {A : Nat → Prop} {p : Program} {l : Launch} {e : Env} {s : State} {m : MethodId} {args : Array Value} {below : List Frame} {meth : Method} {c : Code} {r : Unit} {M' : Mem} (X : Cx G A p s m args meth c RX7 cX7_next 2) (hr : meth.sig.returnType = none) : ∀ (n : Nat) (x1 : Int32) (M : Mem), f_X7_next_5 n x1 M = some (r, M') → T G A p l e (rmO 1) s m args below meth c 2 0 0 (MQ below (QvO G A M') args s 0 0 A) 5 [(0, .ref (G.2.1 (6, 0, 0))), (1, .int x1)] [] M := by
  intro n
  induction n with
  | zero =>
    intro x1 M  h
    cases h
  | succ n ih =>
    intro x1 M  h
    unfold f_X7_next_5 at h
    refine r_iload_n (pc := 5) X dX7_next_5 rfl ?_
    refine r_aload_n (pc := 6) X dX7_next_6 rfl ?_
    refine r_getI (pc := 7) X ⟨(ltb rfl), (ltb rfl)⟩ fl_X7_28 rfl dX7_next_7 ?_
    refine r_icmp_ge (pc := 10) X (tgt := 41) dX7_next_10 (by decide) h (fun h => ?_) (fun h => ?_)
    · exact T_sub (t_X7_next_41 X hr h) ⟨rfl, rfl, trivial⟩
    · refine r_aload_n (pc := 13) X dX7_next_13 rfl ?_
      refine r_getR (q := (22, 0, 0)) (pc := 14) X ⟨(ltb rfl), (ltb rfl)⟩ fl_X7_9 rfl dX7_next_14 ?_
      refine r_iload_n (pc := 17) X dX7_next_17 rfl ?_
      refine r_bald (pc := 18) X (n := 900) ⟨(ltb rfl), (ltb rfl)⟩ rfl (nlt rfl) dX7_next_18 h (fun h => ?_)
      refine r_bipush (pc := 19) X (v := 32) dX7_next_19 (by decide) ?_
      refine r_icmp_eq (pc := 21) X (tgt := 35) dX7_next_21 (by decide) h (fun h => ?_) (fun h => ?_)
      · exact T_sub (t_X7_next_35 X hr ih h) ⟨rfl, rfl, trivial⟩
      · refine r_aload_n (pc := 24) X dX7_next_24 rfl ?_
        refine r_getR (q := (22, 0, 0)) (pc := 25) X ⟨(ltb rfl), (ltb rfl)⟩ fl_X7_9 rfl dX7_next_25 ?_
        refine r_iload_n (pc := 28) X dX7_next_28 rfl ?_
        refine r_bald (pc := 29) X (n := 900) ⟨(ltb rfl), (ltb rfl)⟩ rfl (nlt rfl) dX7_next_29 h (fun h => ?_)
        refine r_bipush (pc := 30) X (v := 10) dX7_next_30 (by decide) ?_
        refine r_icmp_ne (pc := 32) X (tgt := 41) dX7_next_32 (by decide) h (fun h => ?_) (fun h => ?_)
        · exact T_sub (t_X7_next_41 X hr h) ⟨rfl, rfl, trivial⟩
        · exact T_sub (t_X7_next_35 X hr ih h) ⟨rfl, rfl, trivial⟩
def f_X7_next  (M : Mem) : Option (Unit × Mem) :=
  nm (M.1 (6, 0, 0) 2) (fun e1 => f_X7_next_5 fuelN e1 M)
set_option maxHeartbeats 4000000 in
set_option maxRecDepth 100000 in
theorem t_X7_next {G : GG} {A : Nat → Prop} {p : Program} {l : Launch} {e : Env} {s : State} {m : MethodId} {args : Array Value} {below : List Frame} {meth : Method} {c : Code} {r : Unit} {M' : Mem} (X : Cx G A p s m args meth c RX7 cX7_next 2) (hr : meth.sig.returnType = none) {M : Mem}  (h : f_X7_next M = some (r, M')) : T G A p l e (rmO 1) s m args below meth c 2 0 0 (MQ below (QvO G A M') args s 0 0 A) 0 [(0, .ref (G.2.1 (6, 0, 0)))] [] M := by
  unfold f_X7_next at h
  refine r_aload_n (pc := 0) X dX7_next_0 rfl ?_
  refine r_getI (pc := 1) X ⟨(ltb rfl), (ltb rfl)⟩ fl_X7_31 rfl dX7_next_1 ?_
  refine r_istore_nN (pc := 4) X (by decide) dX7_next_4 h (fun e1 h => ?_)
  exact T_sub (t_X7_next_5 X hr _ _ _ h) ⟨rfl, rfl, trivial⟩
theorem c_X7_next {G : GG} {l : Launch} {r : Unit} {M M' : Mem}  (h : f_X7_next  M = some (r, M')) : Met l yX7_next (wsO yX7_next cX7_next 2 none) (rmO 1) (PcO G [.ref (G.2.1 (6, 0, 0))] M) (QvO G (AA G) M') 0 0 (AA G) :=
  met_of (own := RX7) rfl (by decide +kernel) (Nat.le_of_ble_eq_true rfl) (fun p e s m args below meth c X hr => t_X7_next X hr  h)
-- ConverterScanner$Parser.skipSign
def f_X4_skipSign (x1 : Int32) (M : Mem) : Option (Int32 × Mem) :=
  if (M.1 (6, 0, 0) 5) = 3 then if (M.1 (6, 0, 0) 6) = x1 then bnd (f_X7_next  M) (fun r1 M2 => some (1, M2)) else some (0, M) else some (0, M)
set_option maxHeartbeats 4000000 in
set_option maxRecDepth 100000 in
theorem t_X4_skipSign {G : GG} {A : Nat → Prop} {p : Program} {l : Launch} {e : Env} {s : State} {m : MethodId} {args : Array Value} {below : List Frame} {meth : Method} {c : Code} {r : Int32} {M' : Mem} (X : Cx G A p s m args meth c RX4 cX4_skipSign 2) (hr : meth.sig.returnType = some .boolean) {x1 : Int32} {M : Mem}  (h : f_X4_skipSign x1 M = some (r, M')) : T G A p l e (rmO 2) s m args below meth c 2 0 0 (MQ below (QiO G A r M') args s 0 0 A) 0 [(0, .ref (G.2.1 (3, 0, 0))), (1, .int x1)] [] M := by
  unfold f_X4_skipSign at h
  refine r_aload_n (pc := 0) X dX4_skipSign_0 rfl ?_
  refine r_getR (q := (6, 0, 0)) (pc := 1) X ⟨(ltb rfl), (ltb rfl)⟩ fl_X4_12 rfl dX4_skipSign_1 ?_
  refine r_getI (pc := 4) X ⟨(ltb rfl), (ltb rfl)⟩ fl_X4_57 rfl dX4_skipSign_4 ?_
  refine r_iconst (pc := 7) X (v := 3) dX4_skipSign_7 (by decide) ?_
  refine r_icmp_ne (pc := 8) X (tgt := 22) dX4_skipSign_8 (by decide) h (fun h => ?_) (fun h => ?_)
  · refine r_iconst (pc := 22) X (v := 0) dX4_skipSign_22 (by decide) ?_
    cases h
    exact r_zretc (pc := 23) X hr (by decide +kernel) dX4_skipSign_23
  · refine r_aload_n (pc := 11) X dX4_skipSign_11 rfl ?_
    refine r_getR (q := (6, 0, 0)) (pc := 12) X ⟨(ltb rfl), (ltb rfl)⟩ fl_X4_12 rfl dX4_skipSign_12 ?_
    refine r_getI (pc := 15) X ⟨(ltb rfl), (ltb rfl)⟩ fl_X4_187 rfl dX4_skipSign_15 ?_
    refine r_iload_n (pc := 18) X dX4_skipSign_18 rfl ?_
    refine r_icmp_eq (pc := 19) X (tgt := 24) dX4_skipSign_19 (by decide) h (fun h => ?_) (fun h => ?_)
    · refine r_aload_n (pc := 24) X dX4_skipSign_24 rfl ?_
      refine r_getR (q := (6, 0, 0)) (pc := 25) X ⟨(ltb rfl), (ltb rfl)⟩ fl_X4_12 rfl dX4_skipSign_25 ?_
      refine bndE h (fun r1 M2 h3 h => ?_)
      refine r_callVv0 (pc := 28) X ⟨(ltb rfl), (ltb rfl)⟩ rfl vy_X7_next my_X7_next ml_X4_129 ⟨Nat.le_of_ble_eq_true rfl, Nat.le_of_ble_eq_true rfl, Nat.le_of_ble_eq_true rfl, Nat.le_of_ble_eq_true rfl⟩ (c_X7_next  h3) (Nat.le_of_ble_eq_true rfl) dX4_skipSign_28 ?_
      refine r_iconst (pc := 31) X (v := 1) dX4_skipSign_31 (by decide) ?_
      cases h
      exact r_zretc (pc := 32) X hr (by decide +kernel) dX4_skipSign_32
    · refine r_iconst (pc := 22) X (v := 0) dX4_skipSign_22 (by decide) ?_
      cases h
      exact r_zretc (pc := 23) X hr (by decide +kernel) dX4_skipSign_23
theorem c_X4_skipSign {G : GG} {l : Launch} {x1 : Int32} {r : Int32} {M M' : Mem}  (h : f_X4_skipSign x1 M = some (r, M')) : Met l yX4_skipSign (wsO yX4_skipSign cX4_skipSign 2 (some .boolean)) (rmO 2) (PcO G [.ref (G.2.1 (3, 0, 0)), .int x1] M) (QiO G (AA G) r M') 0 0 (AA G) :=
  met_of (own := RX4) rfl (by decide +kernel) (Nat.le_of_ble_eq_true rfl) (fun p e s m args below meth c X hr => t_X4_skipSign X hr  h)
-- ConverterScanner$Word.allows
def f_X10_allows_20  (M : Mem) : Option (Int32 × Mem) :=
  some (0, M)
set_option maxHeartbeats 4000000 in
set_option maxRecDepth 100000 in
theorem t_X10_allows_20 {G : GG} {A : Nat → Prop} {p : Program} {l : Launch} {e : Env} {s : State} {m : MethodId} {args : Array Value} {below : List Frame} {meth : Method} {c : Code} {r : Int32} {M' : Mem} (X : Cx G A p s m args meth c RX10 cX10_allows 2) (hr : meth.sig.returnType = some .boolean) {M : Mem}  (h : f_X10_allows_20 M = some (r, M')) : T G A p l e (rmO 0) s m args below meth c 2 0 0 (MQ below (QiO G A r M') args s 0 0 A) 20 [] [] M := by
  unfold f_X10_allows_20 at h
  refine r_iconst (pc := 20) X (v := 0) dX10_allows_20 (by decide) ?_
  cases h
  exact r_zretc (pc := 21) X hr (by decide +kernel) dX10_allows_21
def f_X10_allows (w0 : Nat) (x1 : Int32) (M : Mem) : Option (Int32 × Mem) :=
  if x1 < (wLeast.getD w0 0) then f_X10_allows_20  M else if (wMost.getD w0 0) < x1 then f_X10_allows_20  M else some (1, M)
set_option maxHeartbeats 4000000 in
set_option maxRecDepth 100000 in
theorem t_X10_allows {G : GG} {A : Nat → Prop} {p : Program} {l : Launch} {e : Env} {s : State} {m : MethodId} {args : Array Value} {below : List Frame} {meth : Method} {c : Code} {r : Int32} {M' : Mem} (X : Cx G A p s m args meth c RX10 cX10_allows 2) (hr : meth.sig.returnType = some .boolean) {w0 : Nat} {x1 : Int32} {M : Mem} (hw0 : w0 < 26) (h : f_X10_allows w0 x1 M = some (r, M')) : T G A p l e (rmO 0) s m args below meth c 2 0 0 (MQ below (QiO G A r M') args s 0 0 A) 0 [(0, .ref (G.2.2.2.1 w0)), (1, .int x1)] [] M := by
  unfold f_X10_allows at h
  refine r_iload_n (pc := 0) X dX10_allows_0 rfl ?_
  refine r_aload_n (pc := 1) X dX10_allows_1 rfl ?_
  refine r_getw_least (pc := 2) X hw0 wf_X10_121 dX10_allows_2 ?_
  refine r_icmp_lt (pc := 5) X (tgt := 20) dX10_allows_5 (by decide) h (fun h => ?_) (fun h => ?_)
  · exact T_sub (t_X10_allows_20 X hr h) trivial
  · refine r_iload_n (pc := 8) X dX10_allows_8 rfl ?_
    refine r_aload_n (pc := 9) X dX10_allows_9 rfl ?_
    refine r_getw_most (pc := 10) X hw0 wf_X10_124 dX10_allows_10 ?_
    refine r_icmp_gt (pc := 13) X (tgt := 20) dX10_allows_13 (by decide) h (fun h => ?_) (fun h => ?_)
    · exact T_sub (t_X10_allows_20 X hr h) trivial
    · refine r_iconst (pc := 16) X (v := 1) dX10_allows_16 (by decide) ?_
      refine r_goto (pc := 17) X (tgt := 21) dX10_allows_17 (by decide) ?_
      cases h
      exact r_zretc (pc := 21) X hr (by decide +kernel) dX10_allows_21
theorem c_X10_allows {G : GG} {l : Launch} {w0 : Nat} {x1 : Int32} {r : Int32} {M M' : Mem} (hw0 : w0 < 26) (h : f_X10_allows w0 x1 M = some (r, M')) : Met l yX10_allows (wsO yX10_allows cX10_allows 2 (some .boolean)) (rmO 0) (PcO G [.ref (G.2.2.2.1 w0), .int x1] M) (QiO G (AA G) r M') 0 0 (AA G) :=
  met_of (own := RX10) rfl (by decide +kernel) (Nat.le_of_ble_eq_true rfl) (fun p e s m args below meth c X hr => t_X10_allows X hr hw0 h)
-- ConverterScanner$Parser.takeNumber
def f_X4_takeNumber (w1 : Nat) (x2 : Int32) (M : Mem) : Option (Int32 × Mem) :=
  if (M.1 (6, 0, 0) 5) = 2 then bnd (f_X10_allows w1 (M.1 (6, 0, 0) 6) M) (fun r1 M2 => if r1 = 0 then bnd (f_X4_fail 2 M2) (fun r11 M12 => if ¬ (r11 = 0 ∨ r11 = 1) then none else some (r11, M12)) else if ((x2 >>> ((M2.1 (6, 0, 0) 6) &&& 31)) &&& 1) = 0 then nm (uI M2 (3, 0, 0) 3 (M2.1 (6, 0, 0) 6)) (fun M4 => bnd (f_X7_next  M4) (fun r5 M6 => some (1, M6))) else bnd (f_X4_fail 3 M2) (fun r8 M9 => if ¬ (r8 = 0 ∨ r8 = 1) then none else some (r8, M9))) else bnd (f_X4_fail 1 M) (fun r14 M15 => if ¬ (r14 = 0 ∨ r14 = 1) then none else some (r14, M15))
set_option maxHeartbeats 4000000 in
set_option maxRecDepth 100000 in
theorem t_X4_takeNumber {G : GG} {A : Nat → Prop} {p : Program} {l : Launch} {e : Env} {s : State} {m : MethodId} {args : Array Value} {below : List Frame} {meth : Method} {c : Code} {r : Int32} {M' : Mem} (X : Cx G A p s m args meth c RX4 cX4_takeNumber 3) (hr : meth.sig.returnType = some .boolean) {w1 : Nat} {x2 : Int32} {M : Mem} (hw1 : w1 < 26) (h : f_X4_takeNumber w1 x2 M = some (r, M')) : T G A p l e (rmO 2) s m args below meth c 3 0 0 (MQ below (QiO G A r M') args s 0 0 A) 0 [(0, .ref (G.2.1 (3, 0, 0))), (1, .ref (G.2.2.2.1 w1)), (2, .int x2)] [] M := by
  unfold f_X4_takeNumber at h
  refine r_aload_n (pc := 0) X dX4_takeNumber_0 rfl ?_
  refine r_getR (q := (6, 0, 0)) (pc := 1) X ⟨(ltb rfl), (ltb rfl)⟩ fl_X4_12 rfl dX4_takeNumber_1 ?_
  refine r_getI (pc := 4) X ⟨(ltb rfl), (ltb rfl)⟩ fl_X4_57 rfl dX4_takeNumber_4 ?_
  refine r_iconst (pc := 7) X (v := 2) dX4_takeNumber_7 (by decide) ?_
  refine r_icmp_eq (pc := 8) X (tgt := 17) dX4_takeNumber_8 (by decide) h (fun h => ?_) (fun h => ?_)
  · refine r_aload_n (pc := 17) X dX4_takeNumber_17 rfl ?_
    refine r_aload_n (pc := 18) X dX4_takeNumber_18 rfl ?_
    refine r_getR (q := (6, 0, 0)) (pc := 19) X ⟨(ltb rfl), (ltb rfl)⟩ fl_X4_12 rfl dX4_takeNumber_19 ?_
    refine r_getI (pc := 22) X ⟨(ltb rfl), (ltb rfl)⟩ fl_X4_187 rfl dX4_takeNumber_22 ?_
    refine bndE h (fun r1 M2 h3 h => ?_)
    refine r_callWi1 (pc := 25) X hw1 rfl vy_X10_allows my_X10_allows ml_X4_188 ⟨Nat.le_of_ble_eq_true rfl, Nat.le_of_ble_eq_true rfl, Nat.le_of_ble_eq_true rfl, Nat.le_of_ble_eq_true rfl⟩ (c_X10_allows hw1 h3) (Nat.le_of_ble_eq_true rfl) dX4_takeNumber_25 ?_
    refine r_if_ne (pc := 28) X (tgt := 37) dX4_takeNumber_28 (by decide) h (fun h => ?_) (fun h => ?_)
    · refine r_iload_n (pc := 37) X dX4_takeNumber_37 rfl ?_
      refine r_aload_n (pc := 38) X dX4_takeNumber_38 rfl ?_
      refine r_getR (q := (6, 0, 0)) (pc := 39) X ⟨(ltb rfl), (ltb rfl)⟩ fl_X4_12 rfl dX4_takeNumber_39 ?_
      refine r_getI (pc := 42) X ⟨(ltb rfl), (ltb rfl)⟩ fl_X4_187 rfl dX4_takeNumber_42 ?_
      refine r_ishr (pc := 45) X dX4_takeNumber_45 ?_
      refine r_iconst (pc := 46) X (v := 1) dX4_takeNumber_46 (by decide) ?_
      refine r_iand (pc := 47) X dX4_takeNumber_47 ?_
      refine r_if_eq (pc := 48) X (tgt := 57) dX4_takeNumber_48 (by decide) h (fun h => ?_) (fun h => ?_)
      · refine r_aload_n (pc := 57) X dX4_takeNumber_57 rfl ?_
        refine r_aload_n (pc := 58) X dX4_takeNumber_58 rfl ?_
        refine r_getR (q := (6, 0, 0)) (pc := 59) X ⟨(ltb rfl), (ltb rfl)⟩ fl_X4_12 rfl dX4_takeNumber_59 ?_
        refine r_getI (pc := 62) X ⟨(ltb rfl), (ltb rfl)⟩ fl_X4_187 rfl dX4_takeNumber_62 ?_
        refine r_putIN (pc := 65) X ⟨(ltb rfl), (ltb rfl)⟩ fp_X4_139 rfl dX4_takeNumber_65 h (fun M4 h => ?_)
        refine r_aload_n (pc := 68) X dX4_takeNumber_68 rfl ?_
        refine r_getR (q := (6, 0, 0)) (pc := 69) X ⟨(ltb rfl), (ltb rfl)⟩ fl_X4_12 rfl dX4_takeNumber_69 ?_
        refine bndE h (fun r5 M6 h7 h => ?_)
        refine r_callVv0 (pc := 72) X ⟨(ltb rfl), (ltb rfl)⟩ rfl vy_X7_next my_X7_next ml_X4_129 ⟨Nat.le_of_ble_eq_true rfl, Nat.le_of_ble_eq_true rfl, Nat.le_of_ble_eq_true rfl, Nat.le_of_ble_eq_true rfl⟩ (c_X7_next  h7) (Nat.le_of_ble_eq_true rfl) dX4_takeNumber_72 ?_
        refine r_iconst (pc := 75) X (v := 1) dX4_takeNumber_75 (by decide) ?_
        cases h
        exact r_zretc (pc := 76) X hr (by decide +kernel) dX4_takeNumber_76
      · refine r_aload_n (pc := 51) X dX4_takeNumber_51 rfl ?_
        refine r_iconst (pc := 52) X (v := 3) dX4_takeNumber_52 (by decide) ?_
        refine bndE h (fun r8 M9 h10 h => ?_)
        refine r_callVi1 (pc := 53) X ⟨(ltb rfl), (ltb rfl)⟩ rfl vy_X4_fail my_X4_fail ml_X4_126 ⟨Nat.le_of_ble_eq_true rfl, Nat.le_of_ble_eq_true rfl, Nat.le_of_ble_eq_true rfl, Nat.le_of_ble_eq_true rfl⟩ (c_X4_fail  h10) (Nat.le_of_ble_eq_true rfl) dX4_takeNumber_53 ?_
        exact r_zret (pc := 56) X hr dX4_takeNumber_56 h
    · refine r_aload_n (pc := 31) X dX4_takeNumber_31 rfl ?_
      refine r_iconst (pc := 32) X (v := 2) dX4_takeNumber_32 (by decide) ?_
      refine bndE h (fun r11 M12 h13 h => ?_)
      refine r_callVi1 (pc := 33) X ⟨(ltb rfl), (ltb rfl)⟩ rfl vy_X4_fail my_X4_fail ml_X4_126 ⟨Nat.le_of_ble_eq_true rfl, Nat.le_of_ble_eq_true rfl, Nat.le_of_ble_eq_true rfl, Nat.le_of_ble_eq_true rfl⟩ (c_X4_fail  h13) (Nat.le_of_ble_eq_true rfl) dX4_takeNumber_33 ?_
      exact r_zret (pc := 36) X hr dX4_takeNumber_36 h
  · refine r_aload_n (pc := 11) X dX4_takeNumber_11 rfl ?_
    refine r_iconst (pc := 12) X (v := 1) dX4_takeNumber_12 (by decide) ?_
    refine bndE h (fun r14 M15 h16 h => ?_)
    refine r_callVi1 (pc := 13) X ⟨(ltb rfl), (ltb rfl)⟩ rfl vy_X4_fail my_X4_fail ml_X4_126 ⟨Nat.le_of_ble_eq_true rfl, Nat.le_of_ble_eq_true rfl, Nat.le_of_ble_eq_true rfl, Nat.le_of_ble_eq_true rfl⟩ (c_X4_fail  h16) (Nat.le_of_ble_eq_true rfl) dX4_takeNumber_13 ?_
    exact r_zret (pc := 16) X hr dX4_takeNumber_16 h
theorem c_X4_takeNumber {G : GG} {l : Launch} {w1 : Nat} {x2 : Int32} {r : Int32} {M M' : Mem} (hw1 : w1 < 26) (h : f_X4_takeNumber w1 x2 M = some (r, M')) : Met l yX4_takeNumber (wsO yX4_takeNumber cX4_takeNumber 3 (some .boolean)) (rmO 2) (PcO G [.ref (G.2.1 (3, 0, 0)), .ref (G.2.2.2.1 w1), .int x2] M) (QiO G (AA G) r M') 0 0 (AA G) :=
  met_of (own := RX4) rfl (by decide +kernel) (Nat.le_of_ble_eq_true rfl) (fun p e s m args below meth c X hr => t_X4_takeNumber X hr hw1 h)
-- ConverterScanner$Parser.readChannel
def f_X4_readChannel_169 (r55 : Nat → Nat → Int32 → Int32 → Mem → Option (Int32 × Mem)) (c1 : Nat) (j1 : Nat) (x2 : Int32) (x3 : Int32) (xs0 : Int32) (ws1 : Nat) (cs2 : Nat) (js2 : Nat) (M : Mem) : Option (Int32 × Mem) :=
  bnd (f_X4_setProperty cs2 js2 ws1 xs0 M) (fun r1 M2 => nm (x3 + 1) (fun e4 => r55 c1 j1 x2 e4 M2))
set_option maxHeartbeats 4000000 in
set_option maxRecDepth 100000 in
theorem t_X4_readChannel_169 {G : GG} {A : Nat → Prop} {p : Program} {l : Launch} {e : Env} {s : State} {m : MethodId} {args : Array Value} {below : List Frame} {meth : Method} {c : Code} {r : Int32} {M' : Mem} (X : Cx G A p s m args meth c RX4 cX4_readChannel 6) (hr : meth.sig.returnType = some .boolean) {r55 : Nat → Nat → Int32 → Int32 → Mem → Option (Int32 × Mem)} (hr55 : ∀ (c1 : Nat) (j1 : Nat) (x2 : Int32) (x3 : Int32) (M : Mem), c1 < 6 → j1 < 8 → r55 c1 j1 x2 x3 M = some (r, M') → T G A p l e (rmO 3) s m args below meth c 6 0 0 (MQ below (QiO G A r M') args s 0 0 A) 55 [(0, .ref (G.2.1 (3, 0, 0))), (1, .ref (G.2.1 (0, c1, j1))), (2, .int x2), (3, .int x3)] [] M) {c1 : Nat} {j1 : Nat} {x2 : Int32} {x3 : Int32} {xs0 : Int32} {ws1 : Nat} {cs2 : Nat} {js2 : Nat} {M : Mem} (hc1 : c1 < 6) (hj1 : j1 < 8) (hws1 : ws1 < 26) (hcs2 : cs2 < 6) (hjs2 : js2 < 8) (h : f_X4_readChannel_169 r55 c1 j1 x2 x3 xs0 ws1 cs2 js2 M = some (r, M')) : T G A p l e (rmO 3) s m args below meth c 6 0 0 (MQ below (QiO G A r M') args s 0 0 A) 169 [(0, .ref (G.2.1 (3, 0, 0))), (1, .ref (G.2.1 (0, c1, j1))), (2, .int x2), (3, .int x3)] [.int xs0, .ref (G.2.2.2.1 ws1), .ref (G.2.1 (0, cs2, js2))] M := by
  unfold f_X4_readChannel_169 at h
  refine bndE h (fun r1 M2 h3 h => ?_)
  refine r_callSv3 (pc := 169) X sy_X4_setProperty my_X4_setProperty ml_X4_158 ⟨Nat.le_of_ble_eq_true rfl, Nat.le_of_ble_eq_true rfl, Nat.le_of_ble_eq_true rfl, Nat.le_of_ble_eq_true rfl⟩ (c_X4_setProperty hcs2 hjs2 hws1 h3) (Nat.le_of_ble_eq_true rfl) dX4_readChannel_169 ?_
  refine r_iincN (pc := 172) X (v0 := 1) rfl (by decide) (by decide) dX4_readChannel_172 h (fun e4 h => ?_)
  refine r_goto (pc := 175) X (tgt := 55) dX4_readChannel_175 (by decide) ?_
  exact T_sub (hr55 _ _ _ _ _ hc1 hj1 h) ⟨rfl, rfl, rfl, rfl, trivial⟩
def f_X4_readChannel_135 (r55 : Nat → Nat → Int32 → Int32 → Mem → Option (Int32 × Mem)) (c1 : Nat) (j1 : Nat) (x2 : Int32) (x3 : Int32) (w4 : Nat) (xs0 : Int32) (M : Mem) : Option (Int32 × Mem) :=
  bnd (f_X4_takeNumber w4 0 M) (fun r1 M2 => if r1 = 0 then some (0, M2) else if xs0 = 0 then f_X4_readChannel_169 r55 c1 j1 x2 x3 (M2.1 (3, 0, 0) 3) w4 c1 j1 M2 else f_X4_readChannel_169 r55 c1 j1 x2 x3 (-(M2.1 (3, 0, 0) 3)) w4 c1 j1 M2)
set_option maxHeartbeats 4000000 in
set_option maxRecDepth 100000 in
theorem t_X4_readChannel_135 {G : GG} {A : Nat → Prop} {p : Program} {l : Launch} {e : Env} {s : State} {m : MethodId} {args : Array Value} {below : List Frame} {meth : Method} {c : Code} {r : Int32} {M' : Mem} (X : Cx G A p s m args meth c RX4 cX4_readChannel 6) (hr : meth.sig.returnType = some .boolean) {r55 : Nat → Nat → Int32 → Int32 → Mem → Option (Int32 × Mem)} (hr55 : ∀ (c1 : Nat) (j1 : Nat) (x2 : Int32) (x3 : Int32) (M : Mem), c1 < 6 → j1 < 8 → r55 c1 j1 x2 x3 M = some (r, M') → T G A p l e (rmO 3) s m args below meth c 6 0 0 (MQ below (QiO G A r M') args s 0 0 A) 55 [(0, .ref (G.2.1 (3, 0, 0))), (1, .ref (G.2.1 (0, c1, j1))), (2, .int x2), (3, .int x3)] [] M) {c1 : Nat} {j1 : Nat} {x2 : Int32} {x3 : Int32} {w4 : Nat} {xs0 : Int32} {M : Mem} (hc1 : c1 < 6) (hj1 : j1 < 8) (hw4 : w4 < 26) (h : f_X4_readChannel_135 r55 c1 j1 x2 x3 w4 xs0 M = some (r, M')) : T G A p l e (rmO 3) s m args below meth c 6 0 0 (MQ below (QiO G A r M') args s 0 0 A) 135 [(0, .ref (G.2.1 (3, 0, 0))), (1, .ref (G.2.1 (0, c1, j1))), (2, .int x2), (3, .int x3), (4, .ref (G.2.2.2.1 w4))] [.int xs0] M := by
  unfold f_X4_readChannel_135 at h
  refine r_istore (pc := 135) X (by decide) dX4_readChannel_135 ?_
  refine r_aload_n (pc := 137) X dX4_readChannel_137 rfl ?_
  refine r_aload (pc := 138) X dX4_readChannel_138 rfl ?_
  refine r_iconst (pc := 140) X (v := 0) dX4_readChannel_140 (by decide) ?_
  refine bndE h (fun r1 M2 h3 h => ?_)
  refine r_callVi2 (pc := 141) X ⟨(ltb rfl), (ltb rfl)⟩ rfl vy_X4_takeNumber my_X4_takeNumber ml_X4_135 ⟨Nat.le_of_ble_eq_true rfl, Nat.le_of_ble_eq_true rfl, Nat.le_of_ble_eq_true rfl, Nat.le_of_ble_eq_true rfl⟩ (c_X4_takeNumber hw4 h3) (Nat.le_of_ble_eq_true rfl) dX4_readChannel_141 ?_
  refine r_if_ne (pc := 144) X (tgt := 149) dX4_readChannel_144 (by decide) h (fun h => ?_) (fun h => ?_)
  · refine r_aload_n (pc := 149) X dX4_readChannel_149 rfl ?_
    refine r_aload (pc := 150) X dX4_readChannel_150 rfl ?_
    refine r_iload (pc := 152) X dX4_readChannel_152 rfl ?_
    refine r_if_eq (pc := 154) X (tgt := 165) dX4_readChannel_154 (by decide) h (fun h => ?_) (fun h => ?_)
    · refine r_aload_n (pc := 165) X dX4_readChannel_165 rfl ?_
      refine r_getI (pc := 166) X ⟨(ltb rfl), (ltb rfl)⟩ fl_X4_139 rfl dX4_readChannel_166 ?_
      exact T_sub (t_X4_readChannel_169 X hr hr55 hc1 hj1 hw4 hc1 hj1 h) ⟨rfl, rfl, rfl, rfl, trivial⟩
    · refine r_aload_n (pc := 157) X dX4_readChannel_157 rfl ?_
      refine r_getI (pc := 158) X ⟨(ltb rfl), (ltb rfl)⟩ fl_X4_139 rfl dX4_readChannel_158 ?_
      refine r_ineg (pc := 161) X dX4_readChannel_161 ?_
      refine r_goto (pc := 162) X (tgt := 169) dX4_readChannel_162 (by decide) ?_
      exact T_sub (t_X4_readChannel_169 X hr hr55 hc1 hj1 hw4 hc1 hj1 h) ⟨rfl, rfl, rfl, rfl, trivial⟩
  · refine r_iconst (pc := 147) X (v := 0) dX4_readChannel_147 (by decide) ?_
    cases h
    exact r_zretc (pc := 148) X hr (by decide +kernel) dX4_readChannel_148
def f_X4_readChannel_134 (r55 : Nat → Nat → Int32 → Int32 → Mem → Option (Int32 × Mem)) (c1 : Nat) (j1 : Nat) (x2 : Int32) (x3 : Int32) (w4 : Nat) (M : Mem) : Option (Int32 × Mem) :=
  f_X4_readChannel_135 r55 c1 j1 x2 x3 w4 0 M
set_option maxHeartbeats 4000000 in
set_option maxRecDepth 100000 in
theorem t_X4_readChannel_134 {G : GG} {A : Nat → Prop} {p : Program} {l : Launch} {e : Env} {s : State} {m : MethodId} {args : Array Value} {below : List Frame} {meth : Method} {c : Code} {r : Int32} {M' : Mem} (X : Cx G A p s m args meth c RX4 cX4_readChannel 6) (hr : meth.sig.returnType = some .boolean) {r55 : Nat → Nat → Int32 → Int32 → Mem → Option (Int32 × Mem)} (hr55 : ∀ (c1 : Nat) (j1 : Nat) (x2 : Int32) (x3 : Int32) (M : Mem), c1 < 6 → j1 < 8 → r55 c1 j1 x2 x3 M = some (r, M') → T G A p l e (rmO 3) s m args below meth c 6 0 0 (MQ below (QiO G A r M') args s 0 0 A) 55 [(0, .ref (G.2.1 (3, 0, 0))), (1, .ref (G.2.1 (0, c1, j1))), (2, .int x2), (3, .int x3)] [] M) {c1 : Nat} {j1 : Nat} {x2 : Int32} {x3 : Int32} {w4 : Nat} {M : Mem} (hc1 : c1 < 6) (hj1 : j1 < 8) (hw4 : w4 < 26) (h : f_X4_readChannel_134 r55 c1 j1 x2 x3 w4 M = some (r, M')) : T G A p l e (rmO 3) s m args below meth c 6 0 0 (MQ below (QiO G A r M') args s 0 0 A) 134 [(0, .ref (G.2.1 (3, 0, 0))), (1, .ref (G.2.1 (0, c1, j1))), (2, .int x2), (3, .int x3), (4, .ref (G.2.2.2.1 w4))] [] M := by
  unfold f_X4_readChannel_134 at h
  refine r_iconst (pc := 134) X (v := 0) dX4_readChannel_134 (by decide) ?_
  exact T_sub (t_X4_readChannel_135 X hr hr55 hc1 hj1 hw4 h) ⟨rfl, rfl, rfl, rfl, rfl, trivial⟩
def f_X4_readChannel_55 : Nat → Nat → Nat → Int32 → Int32 → Mem → Option (Int32 × Mem)
  | 0 => fun _ _ _ _ _ => none
  | n + 1 => fun c1 j1 x2 x3 M => if 5 < x3 then some (1, M) else wck (M.1 (6, 0, 0) 7) (fun v1 => bnd (f_X10_isProperty v1 M) (fun r2 M3 => if r2 = 0 then some (1, M3) else wck (M3.1 (6, 0, 0) 7) (fun v5 => if (x2 &&& (wBit.getD v5 0)) = 0 then nm (x2 ||| (wBit.getD v5 0)) (fun e6 => bnd (f_X7_next  M3) (fun r7 M8 => if 0 ≤ (wLeast.getD v5 0) then f_X4_readChannel_134 (f_X4_readChannel_55 n) c1 j1 e6 x3 v5 M8 else bnd (f_X4_skipSign 45 M8) (fun r10 M11 => if r10 = 0 then f_X4_readChannel_134 (f_X4_readChannel_55 n) c1 j1 e6 x3 v5 M11 else f_X4_readChannel_135 (f_X4_readChannel_55 n) c1 j1 e6 x3 v5 1 M11))) else bnd (f_X4_fail 3 M3) (fun r13 M14 => if ¬ (r13 = 0 ∨ r13 = 1) then none else some (r13, M14)))))
set_option maxHeartbeats 4000000 in
set_option maxRecDepth 100000 in
theorem t_X4_readChannel_55 {G : GG} {A : Nat → Prop} {p : Program} {l : Launch} {e : Env} {s : State} {m : MethodId} {args : Array Value} {below : List Frame} {meth : Method} {c : Code} {r : Int32} {M' : Mem} (X : Cx G A p s m args meth c RX4 cX4_readChannel 6) (hr : meth.sig.returnType = some .boolean) : ∀ (n : Nat) (c1 : Nat) (j1 : Nat) (x2 : Int32) (x3 : Int32) (M : Mem), c1 < 6 → j1 < 8 → f_X4_readChannel_55 n c1 j1 x2 x3 M = some (r, M') → T G A p l e (rmO 3) s m args below meth c 6 0 0 (MQ below (QiO G A r M') args s 0 0 A) 55 [(0, .ref (G.2.1 (3, 0, 0))), (1, .ref (G.2.1 (0, c1, j1))), (2, .int x2), (3, .int x3)] [] M := by
  intro n
  induction n with
  | zero =>
    intro c1 j1 x2 x3 M hc1 hj1 h
    cases h
  | succ n ih =>
    intro c1 j1 x2 x3 M hc1 hj1 h
    unfold f_X4_readChannel_55 at h
    refine r_iload_n (pc := 55) X dX4_readChannel_55 rfl ?_
    refine r_iconst (pc := 56) X (v := 5) dX4_readChannel_56 (by decide) ?_
    refine r_icmp_gt (pc := 57) X (tgt := 178) dX4_readChannel_57 (by decide) h (fun h => ?_) (fun h => ?_)
    · refine r_iconst (pc := 178) X (v := 1) dX4_readChannel_178 (by decide) ?_
      cases h
      exact r_zretc (pc := 179) X hr (by decide +kernel) dX4_readChannel_179
    · refine r_aload_n (pc := 60) X dX4_readChannel_60 rfl ?_
      refine r_getR (q := (6, 0, 0)) (pc := 61) X ⟨(ltb rfl), (ltb rfl)⟩ fl_X4_12 rfl dX4_readChannel_61 ?_
      refine r_getW (pc := 64) X ⟨(ltb rfl), (ltb rfl)⟩ fl_X4_74 rfl dX4_readChannel_64 h (fun v1 hv1 h => ?_)
      refine bndE h (fun r2 M3 h4 h => ?_)
      refine r_callWi0 (pc := 67) X hv1 rfl vy_X10_isProperty my_X10_isProperty ml_X4_146 ⟨Nat.le_of_ble_eq_true rfl, Nat.le_of_ble_eq_true rfl, Nat.le_of_ble_eq_true rfl, Nat.le_of_ble_eq_true rfl⟩ (c_X10_isProperty hv1 h4) (Nat.le_of_ble_eq_true rfl) dX4_readChannel_67 ?_
      refine r_if_eq (pc := 70) X (tgt := 178) dX4_readChannel_70 (by decide) h (fun h => ?_) (fun h => ?_)
      · refine r_iconst (pc := 178) X (v := 1) dX4_readChannel_178 (by decide) ?_
        cases h
        exact r_zretc (pc := 179) X hr (by decide +kernel) dX4_readChannel_179
      · refine r_aload_n (pc := 73) X dX4_readChannel_73 rfl ?_
        refine r_getR (q := (6, 0, 0)) (pc := 74) X ⟨(ltb rfl), (ltb rfl)⟩ fl_X4_12 rfl dX4_readChannel_74 ?_
        refine r_getW (pc := 77) X ⟨(ltb rfl), (ltb rfl)⟩ fl_X4_74 rfl dX4_readChannel_77 h (fun v5 hv5 h => ?_)
        refine r_astore (pc := 80) X (by decide) dX4_readChannel_80 ?_
        refine r_iload_n (pc := 82) X dX4_readChannel_82 rfl ?_
        refine r_aload (pc := 83) X dX4_readChannel_83 rfl ?_
        refine r_getw_bit (pc := 85) X hv5 wf_X4_149 dX4_readChannel_85 ?_
        refine r_iand (pc := 88) X dX4_readChannel_88 ?_
        refine r_if_eq (pc := 89) X (tgt := 98) dX4_readChannel_89 (by decide) h (fun h => ?_) (fun h => ?_)
        · refine r_iload_n (pc := 98) X dX4_readChannel_98 rfl ?_
          refine r_aload (pc := 99) X dX4_readChannel_99 rfl ?_
          refine r_getw_bit (pc := 101) X hv5 wf_X4_149 dX4_readChannel_101 ?_
          refine r_ior (pc := 104) X dX4_readChannel_104 ?_
          refine r_istore_nN (pc := 105) X (by decide) dX4_readChannel_105 h (fun e6 h => ?_)
          refine r_aload_n (pc := 106) X dX4_readChannel_106 rfl ?_
          refine r_getR (q := (6, 0, 0)) (pc := 107) X ⟨(ltb rfl), (ltb rfl)⟩ fl_X4_12 rfl dX4_readChannel_107 ?_
          refine bndE h (fun r7 M8 h9 h => ?_)
          refine r_callVv0 (pc := 110) X ⟨(ltb rfl), (ltb rfl)⟩ rfl vy_X7_next my_X7_next ml_X4_129 ⟨Nat.le_of_ble_eq_true rfl, Nat.le_of_ble_eq_true rfl, Nat.le_of_ble_eq_true rfl, Nat.le_of_ble_eq_true rfl⟩ (c_X7_next  h9) (Nat.le_of_ble_eq_true rfl) dX4_readChannel_110 ?_
          refine r_aload (pc := 113) X dX4_readChannel_113 rfl ?_
          refine r_getw_least (pc := 115) X hv5 wf_X4_152 dX4_readChannel_115 ?_
          refine r_if_ge (pc := 118) X (tgt := 134) dX4_readChannel_118 (by decide) h (fun h => ?_) (fun h => ?_)
          · exact T_sub (t_X4_readChannel_134 X hr ih hc1 hj1 hv5 h) ⟨rfl, rfl, rfl, rfl, rfl, trivial⟩
          · refine r_aload_n (pc := 121) X dX4_readChannel_121 rfl ?_
            refine r_bipush (pc := 122) X (v := 45) dX4_readChannel_122 (by decide) ?_
            refine bndE h (fun r10 M11 h12 h => ?_)
            refine r_callVi1 (pc := 124) X ⟨(ltb rfl), (ltb rfl)⟩ rfl vy_X4_skipSign my_X4_skipSign ml_X4_155 ⟨Nat.le_of_ble_eq_true rfl, Nat.le_of_ble_eq_true rfl, Nat.le_of_ble_eq_true rfl, Nat.le_of_ble_eq_true rfl⟩ (c_X4_skipSign  h12) (Nat.le_of_ble_eq_true rfl) dX4_readChannel_124 ?_
            refine r_if_eq (pc := 127) X (tgt := 134) dX4_readChannel_127 (by decide) h (fun h => ?_) (fun h => ?_)
            · exact T_sub (t_X4_readChannel_134 X hr ih hc1 hj1 hv5 h) ⟨rfl, rfl, rfl, rfl, rfl, trivial⟩
            · refine r_iconst (pc := 130) X (v := 1) dX4_readChannel_130 (by decide) ?_
              refine r_goto (pc := 131) X (tgt := 135) dX4_readChannel_131 (by decide) ?_
              exact T_sub (t_X4_readChannel_135 X hr ih hc1 hj1 hv5 h) ⟨rfl, rfl, rfl, rfl, rfl, trivial⟩
        · refine r_aload_n (pc := 92) X dX4_readChannel_92 rfl ?_
          refine r_iconst (pc := 93) X (v := 3) dX4_readChannel_93 (by decide) ?_
          refine bndE h (fun r13 M14 h15 h => ?_)
          refine r_callVi1 (pc := 94) X ⟨(ltb rfl), (ltb rfl)⟩ rfl vy_X4_fail my_X4_fail ml_X4_126 ⟨Nat.le_of_ble_eq_true rfl, Nat.le_of_ble_eq_true rfl, Nat.le_of_ble_eq_true rfl, Nat.le_of_ble_eq_true rfl⟩ (c_X4_fail  h15) (Nat.le_of_ble_eq_true rfl) dX4_readChannel_94 ?_
          exact r_zret (pc := 97) X hr dX4_readChannel_97 h
def f_X4_readChannel  (M : Mem) : Option (Int32 × Mem) :=
  bnd (f_X7_next  M) (fun r1 M2 => bnd (f_X4_takeNumber 0 (M2.1 (3, 0, 0) 5) M2) (fun r4 M5 => if r4 = 0 then some (0, M5) else nm (uI M5 (3, 0, 0) 5 ((M5.1 (3, 0, 0) 5) ||| (1 <<< ((M5.1 (3, 0, 0) 3) &&& 31)))) (fun M7 => if bad (M7.1 (3, 0, 0) 3) 8 then none else f_X4_readChannel_55 fuelN 2 (Int32.toNatClampNeg (M7.1 (3, 0, 0) 3)) 0 0 M7)))
set_option maxHeartbeats 4000000 in
set_option maxRecDepth 100000 in
theorem t_X4_readChannel {G : GG} {A : Nat → Prop} {p : Program} {l : Launch} {e : Env} {s : State} {m : MethodId} {args : Array Value} {below : List Frame} {meth : Method} {c : Code} {r : Int32} {M' : Mem} (X : Cx G A p s m args meth c RX4 cX4_readChannel 6) (hr : meth.sig.returnType = some .boolean) {M : Mem}  (h : f_X4_readChannel M = some (r, M')) : T G A p l e (rmO 3) s m args below meth c 6 0 0 (MQ below (QiO G A r M') args s 0 0 A) 0 [(0, .ref (G.2.1 (3, 0, 0)))] [] M := by
  unfold f_X4_readChannel at h
  refine r_aload_n (pc := 0) X dX4_readChannel_0 rfl ?_
  refine r_getR (q := (6, 0, 0)) (pc := 1) X ⟨(ltb rfl), (ltb rfl)⟩ fl_X4_12 rfl dX4_readChannel_1 ?_
  refine bndE h (fun r1 M2 h3 h => ?_)
  refine r_callVv0 (pc := 4) X ⟨(ltb rfl), (ltb rfl)⟩ rfl vy_X7_next my_X7_next ml_X4_129 ⟨Nat.le_of_ble_eq_true rfl, Nat.le_of_ble_eq_true rfl, Nat.le_of_ble_eq_true rfl, Nat.le_of_ble_eq_true rfl⟩ (c_X7_next  h3) (Nat.le_of_ble_eq_true rfl) dX4_readChannel_4 ?_
  refine r_aload_n (pc := 7) X dX4_readChannel_7 rfl ?_
  refine r_getsW (pc := 8) X 0 (by decide) wf_X4_132 dX4_readChannel_8 ?_
  refine r_aload_n (pc := 11) X dX4_readChannel_11 rfl ?_
  refine r_getI (pc := 12) X ⟨(ltb rfl), (ltb rfl)⟩ fl_X4_38 rfl dX4_readChannel_12 ?_
  refine bndE h (fun r4 M5 h6 h => ?_)
  refine r_callVi2 (pc := 15) X ⟨(ltb rfl), (ltb rfl)⟩ rfl vy_X4_takeNumber my_X4_takeNumber ml_X4_135 ⟨Nat.le_of_ble_eq_true rfl, Nat.le_of_ble_eq_true rfl, Nat.le_of_ble_eq_true rfl, Nat.le_of_ble_eq_true rfl⟩ (c_X4_takeNumber (by decide) h6) (Nat.le_of_ble_eq_true rfl) dX4_readChannel_15 ?_
  refine r_if_ne (pc := 18) X (tgt := 23) dX4_readChannel_18 (by decide) h (fun h => ?_) (fun h => ?_)
  · refine r_aload_n (pc := 23) X dX4_readChannel_23 rfl ?_
    refine r_dup (pc := 24) X dX4_readChannel_24 rfl ?_
    refine r_getI (pc := 25) X ⟨(ltb rfl), (ltb rfl)⟩ fl_X4_38 rfl dX4_readChannel_25 ?_
    refine r_iconst (pc := 28) X (v := 1) dX4_readChannel_28 (by decide) ?_
    refine r_aload_n (pc := 29) X dX4_readChannel_29 rfl ?_
    refine r_getI (pc := 30) X ⟨(ltb rfl), (ltb rfl)⟩ fl_X4_139 rfl dX4_readChannel_30 ?_
    refine r_ishl (pc := 33) X dX4_readChannel_33 ?_
    refine r_ior (pc := 34) X dX4_readChannel_34 ?_
    refine r_putIN (pc := 35) X ⟨(ltb rfl), (ltb rfl)⟩ fp_X4_38 rfl dX4_readChannel_35 h (fun M7 h => ?_)
    refine r_aload_n (pc := 38) X dX4_readChannel_38 rfl ?_
    refine r_getR (q := (2, 2, 0)) (pc := 39) X ⟨(ltb rfl), (ltb rfl)⟩ fl_X4_21 rfl dX4_readChannel_39 ?_
    refine r_getR (q := (24, 2, 0)) (pc := 42) X ⟨(ltb rfl), (ltb rfl)⟩ fl_X4_142 rfl dX4_readChannel_42 ?_
    refine r_aload_n (pc := 45) X dX4_readChannel_45 rfl ?_
    refine r_getI (pc := 46) X ⟨(ltb rfl), (ltb rfl)⟩ fl_X4_139 rfl dX4_readChannel_46 ?_
    refine r_aald (pc := 49) X (t := 0) (n := 8) ⟨(ltb rfl), (ltb rfl)⟩ rfl (ltb rfl) (nlt rfl) dX4_readChannel_49 h (fun hb8 h => ?_)
    refine r_astore_n (pc := 50) X (by decide) dX4_readChannel_50 ?_
    refine r_iconst (pc := 51) X (v := 0) dX4_readChannel_51 (by decide) ?_
    refine r_istore_n (pc := 52) X (by decide) dX4_readChannel_52 ?_
    refine r_iconst (pc := 53) X (v := 0) dX4_readChannel_53 (by decide) ?_
    refine r_istore_n (pc := 54) X (by decide) dX4_readChannel_54 ?_
    exact T_sub (t_X4_readChannel_55 X hr _ _ _ _ _ _ (ltb rfl) (bad_lt hb8) h) ⟨rfl, rfl, rfl, rfl, trivial⟩
  · refine r_iconst (pc := 21) X (v := 0) dX4_readChannel_21 (by decide) ?_
    cases h
    exact r_zretc (pc := 22) X hr (by decide +kernel) dX4_readChannel_22
theorem c_X4_readChannel {G : GG} {l : Launch} {r : Int32} {M M' : Mem}  (h : f_X4_readChannel  M = some (r, M')) : Met l yX4_readChannel (wsO yX4_readChannel cX4_readChannel 6 (some .boolean)) (rmO 3) (PcO G [.ref (G.2.1 (3, 0, 0))] M) (QiO G (AA G) r M') 0 0 (AA G) :=
  met_of (own := RX4) rfl (by decide +kernel) (Nat.le_of_ble_eq_true rfl) (fun p e s m args below meth c X hr => t_X4_readChannel X hr  h)
-- ConverterScanner$Parser.readEntries
def f_X4_readEntries_30 (r8 : Nat → Nat → Int32 → Int32 → Mem → Option (Int32 × Mem)) (c1 : Nat) (j1 : Nat) (x2 : Int32) (x3 : Int32) (M : Mem) : Option (Int32 × Mem) :=
  bnd (f_X4_takeNumber 0 0 M) (fun r1 M2 => if r1 = 0 then some (0, M2) else if bad x3 (akO (20, c1, j1)).2 then none else nm (uI M2 (20, c1, j1) (Int32.toNatClampNeg x3) (M2.1 (3, 0, 0) 3)) (fun M4 => nm (uI M4 (5, c1, j1) 1 (x3 + 1)) (fun M5 => nm (x3 + 1) (fun e6 => r8 c1 j1 x2 e6 M5))))
set_option maxHeartbeats 4000000 in
set_option maxRecDepth 100000 in
theorem t_X4_readEntries_30 {G : GG} {A : Nat → Prop} {p : Program} {l : Launch} {e : Env} {s : State} {m : MethodId} {args : Array Value} {below : List Frame} {meth : Method} {c : Code} {r : Int32} {M' : Mem} (X : Cx G A p s m args meth c RX4 cX4_readEntries 4) (hr : meth.sig.returnType = some .boolean) {r8 : Nat → Nat → Int32 → Int32 → Mem → Option (Int32 × Mem)} (hr8 : ∀ (c1 : Nat) (j1 : Nat) (x2 : Int32) (x3 : Int32) (M : Mem), c1 < 6 → j1 < 2 → r8 c1 j1 x2 x3 M = some (r, M') → T G A p l e (rmO 3) s m args below meth c 4 0 0 (MQ below (QiO G A r M') args s 0 0 A) 8 [(0, .ref (G.2.1 (3, 0, 0))), (1, .ref (G.2.1 (5, c1, j1))), (2, .int x2), (3, .int x3)] [] M) {c1 : Nat} {j1 : Nat} {x2 : Int32} {x3 : Int32} {M : Mem} (hc1 : c1 < 6) (hj1 : j1 < 2) (h : f_X4_readEntries_30 r8 c1 j1 x2 x3 M = some (r, M')) : T G A p l e (rmO 3) s m args below meth c 4 0 0 (MQ below (QiO G A r M') args s 0 0 A) 30 [(0, .ref (G.2.1 (3, 0, 0))), (1, .ref (G.2.1 (5, c1, j1))), (2, .int x2), (3, .int x3)] [] M := by
  unfold f_X4_readEntries_30 at h
  refine r_aload_n (pc := 30) X dX4_readEntries_30 rfl ?_
  refine r_getsW (pc := 31) X 0 (by decide) wf_X4_132 dX4_readEntries_31 ?_
  refine r_iconst (pc := 34) X (v := 0) dX4_readEntries_34 (by decide) ?_
  refine bndE h (fun r1 M2 h3 h => ?_)
  refine r_callVi2 (pc := 35) X ⟨(ltb rfl), (ltb rfl)⟩ rfl vy_X4_takeNumber my_X4_takeNumber ml_X4_135 ⟨Nat.le_of_ble_eq_true rfl, Nat.le_of_ble_eq_true rfl, Nat.le_of_ble_eq_true rfl, Nat.le_of_ble_eq_true rfl⟩ (c_X4_takeNumber (by decide) h3) (Nat.le_of_ble_eq_true rfl) dX4_readEntries_35 ?_
  refine r_if_ne (pc := 38) X (tgt := 43) dX4_readEntries_38 (by decide) h (fun h => ?_) (fun h => ?_)
  · refine r_aload_n (pc := 43) X dX4_readEntries_43 rfl ?_
    refine r_getR (q := (20, c1, j1)) (pc := 44) X ⟨hc1, hj1⟩ fl_X4_179 rfl dX4_readEntries_44 ?_
    refine r_iload_n (pc := 47) X dX4_readEntries_47 rfl ?_
    refine r_aload_n (pc := 48) X dX4_readEntries_48 rfl ?_
    refine r_getI (pc := 49) X ⟨(ltb rfl), (ltb rfl)⟩ fl_X4_139 rfl dX4_readEntries_49 ?_
    refine r_iastN (pc := 52) X (n := (akO (20, c1, j1)).2) ⟨hc1, hj1⟩ rfl (nlt rfl) dX4_readEntries_52 h (fun M4 h => ?_)
    refine r_aload_n (pc := 53) X dX4_readEntries_53 rfl ?_
    refine r_iload_n (pc := 54) X dX4_readEntries_54 rfl ?_
    refine r_iconst (pc := 55) X (v := 1) dX4_readEntries_55 (by decide) ?_
    refine r_iadd (pc := 56) X dX4_readEntries_56 ?_
    refine r_putIN (pc := 57) X ⟨hc1, hj1⟩ fp_X4_184 rfl dX4_readEntries_57 h (fun M5 h => ?_)
    refine r_iincN (pc := 60) X (v0 := 1) rfl (by decide) (by decide) dX4_readEntries_60 h (fun e6 h => ?_)
    refine r_goto (pc := 63) X (tgt := 8) dX4_readEntries_63 (by decide) ?_
    exact T_sub (hr8 _ _ _ _ _ hc1 hj1 h) ⟨rfl, rfl, rfl, rfl, trivial⟩
  · refine r_iconst (pc := 41) X (v := 0) dX4_readEntries_41 (by decide) ?_
    cases h
    exact r_zretc (pc := 42) X hr (by decide +kernel) dX4_readEntries_42
def f_X4_readEntries_8 : Nat → Nat → Nat → Int32 → Int32 → Mem → Option (Int32 × Mem)
  | 0 => fun _ _ _ _ _ => none
  | n + 1 => fun c1 j1 x2 x3 M => if x2 ≤ x3 then if (M.1 (6, 0, 0) 5) = 2 then bnd (f_X10_allows 0 (M.1 (6, 0, 0) 6) M) (fun r1 M2 => if r1 = 0 then bnd (f_X4_fail 2 M2) (fun r4 M5 => if ¬ (r4 = 0 ∨ r4 = 1) then none else some (r4, M5)) else bnd (f_X4_fail 4 M2) (fun r7 M8 => if ¬ (r7 = 0 ∨ r7 = 1) then none else some (r7, M8))) else some (1, M) else if x3 ≤ 0 then f_X4_readEntries_30 (f_X4_readEntries_8 n) c1 j1 x2 x3 M else if (M.1 (6, 0, 0) 5) = 2 then f_X4_readEntries_30 (f_X4_readEntries_8 n) c1 j1 x2 x3 M else some (1, M)
set_option maxHeartbeats 4000000 in
set_option maxRecDepth 100000 in
theorem t_X4_readEntries_8 {G : GG} {A : Nat → Prop} {p : Program} {l : Launch} {e : Env} {s : State} {m : MethodId} {args : Array Value} {below : List Frame} {meth : Method} {c : Code} {r : Int32} {M' : Mem} (X : Cx G A p s m args meth c RX4 cX4_readEntries 4) (hr : meth.sig.returnType = some .boolean) : ∀ (n : Nat) (c1 : Nat) (j1 : Nat) (x2 : Int32) (x3 : Int32) (M : Mem), c1 < 6 → j1 < 2 → f_X4_readEntries_8 n c1 j1 x2 x3 M = some (r, M') → T G A p l e (rmO 3) s m args below meth c 4 0 0 (MQ below (QiO G A r M') args s 0 0 A) 8 [(0, .ref (G.2.1 (3, 0, 0))), (1, .ref (G.2.1 (5, c1, j1))), (2, .int x2), (3, .int x3)] [] M := by
  intro n
  induction n with
  | zero =>
    intro c1 j1 x2 x3 M hc1 hj1 h
    cases h
  | succ n ih =>
    intro c1 j1 x2 x3 M hc1 hj1 h
    unfold f_X4_readEntries_8 at h
    refine r_iload_n (pc := 8) X dX4_readEntries_8 rfl ?_
    refine r_iload_n (pc := 9) X dX4_readEntries_9 rfl ?_
    refine r_icmp_ge (pc := 10) X (tgt := 66) dX4_readEntries_10 (by decide) h (fun h => ?_) (fun h => ?_)
    · refine r_aload_n (pc := 66) X dX4_readEntries_66 rfl ?_
      refine r_getR (q := (6, 0, 0)) (pc := 67) X ⟨(ltb rfl), (ltb rfl)⟩ fl_X4_12 rfl dX4_readEntries_67 ?_
      refine r_getI (pc := 70) X ⟨(ltb rfl), (ltb rfl)⟩ fl_X4_57 rfl dX4_readEntries_70 ?_
      refine r_iconst (pc := 73) X (v := 2) dX4_readEntries_73 (by decide) ?_
      refine r_icmp_eq (pc := 74) X (tgt := 79) dX4_readEntries_74 (by decide) h (fun h => ?_) (fun h => ?_)
      · refine r_aload_n (pc := 79) X dX4_readEntries_79 rfl ?_
        refine r_getsW (pc := 80) X 0 (by decide) wf_X4_132 dX4_readEntries_80 ?_
        refine r_aload_n (pc := 83) X dX4_readEntries_83 rfl ?_
        refine r_getR (q := (6, 0, 0)) (pc := 84) X ⟨(ltb rfl), (ltb rfl)⟩ fl_X4_12 rfl dX4_readEntries_84 ?_
        refine r_getI (pc := 87) X ⟨(ltb rfl), (ltb rfl)⟩ fl_X4_187 rfl dX4_readEntries_87 ?_
        refine bndE h (fun r1 M2 h3 h => ?_)
        refine r_callWi1 (pc := 90) X (by decide) rfl vy_X10_allows my_X10_allows ml_X4_188 ⟨Nat.le_of_ble_eq_true rfl, Nat.le_of_ble_eq_true rfl, Nat.le_of_ble_eq_true rfl, Nat.le_of_ble_eq_true rfl⟩ (c_X10_allows (by decide) h3) (Nat.le_of_ble_eq_true rfl) dX4_readEntries_90 ?_
        refine r_if_eq (pc := 93) X (tgt := 100) dX4_readEntries_93 (by decide) h (fun h => ?_) (fun h => ?_)
        · refine r_iconst (pc := 100) X (v := 2) dX4_readEntries_100 (by decide) ?_
          refine bndE h (fun r4 M5 h6 h => ?_)
          refine r_callVi1 (pc := 101) X ⟨(ltb rfl), (ltb rfl)⟩ rfl vy_X4_fail my_X4_fail ml_X4_126 ⟨Nat.le_of_ble_eq_true rfl, Nat.le_of_ble_eq_true rfl, Nat.le_of_ble_eq_true rfl, Nat.le_of_ble_eq_true rfl⟩ (c_X4_fail  h6) (Nat.le_of_ble_eq_true rfl) dX4_readEntries_101 ?_
          exact r_zret (pc := 104) X hr dX4_readEntries_104 h
        · refine r_iconst (pc := 96) X (v := 4) dX4_readEntries_96 (by decide) ?_
          refine r_goto (pc := 97) X (tgt := 101) dX4_readEntries_97 (by decide) ?_
          refine bndE h (fun r7 M8 h9 h => ?_)
          refine r_callVi1 (pc := 101) X ⟨(ltb rfl), (ltb rfl)⟩ rfl vy_X4_fail my_X4_fail ml_X4_126 ⟨Nat.le_of_ble_eq_true rfl, Nat.le_of_ble_eq_true rfl, Nat.le_of_ble_eq_true rfl, Nat.le_of_ble_eq_true rfl⟩ (c_X4_fail  h9) (Nat.le_of_ble_eq_true rfl) dX4_readEntries_101 ?_
          exact r_zret (pc := 104) X hr dX4_readEntries_104 h
      · refine r_iconst (pc := 77) X (v := 1) dX4_readEntries_77 (by decide) ?_
        cases h
        exact r_zretc (pc := 78) X hr (by decide +kernel) dX4_readEntries_78
    · refine r_iload_n (pc := 13) X dX4_readEntries_13 rfl ?_
      refine r_if_le (pc := 14) X (tgt := 30) dX4_readEntries_14 (by decide) h (fun h => ?_) (fun h => ?_)
      · exact T_sub (t_X4_readEntries_30 X hr ih hc1 hj1 h) ⟨rfl, rfl, rfl, rfl, trivial⟩
      · refine r_aload_n (pc := 17) X dX4_readEntries_17 rfl ?_
        refine r_getR (q := (6, 0, 0)) (pc := 18) X ⟨(ltb rfl), (ltb rfl)⟩ fl_X4_12 rfl dX4_readEntries_18 ?_
        refine r_getI (pc := 21) X ⟨(ltb rfl), (ltb rfl)⟩ fl_X4_57 rfl dX4_readEntries_21 ?_
        refine r_iconst (pc := 24) X (v := 2) dX4_readEntries_24 (by decide) ?_
        refine r_icmp_eq (pc := 25) X (tgt := 30) dX4_readEntries_25 (by decide) h (fun h => ?_) (fun h => ?_)
        · exact T_sub (t_X4_readEntries_30 X hr ih hc1 hj1 h) ⟨rfl, rfl, rfl, rfl, trivial⟩
        · refine r_iconst (pc := 28) X (v := 1) dX4_readEntries_28 (by decide) ?_
          cases h
          exact r_zretc (pc := 29) X hr (by decide +kernel) dX4_readEntries_29
def f_X4_readEntries (c1 : Nat) (j1 : Nat) (M : Mem) : Option (Int32 × Mem) :=
  nm (Int32.ofNat (akO (20, c1, j1)).2) (fun e1 => f_X4_readEntries_8 fuelN c1 j1 e1 0 M)
set_option maxHeartbeats 4000000 in
set_option maxRecDepth 100000 in
theorem t_X4_readEntries {G : GG} {A : Nat → Prop} {p : Program} {l : Launch} {e : Env} {s : State} {m : MethodId} {args : Array Value} {below : List Frame} {meth : Method} {c : Code} {r : Int32} {M' : Mem} (X : Cx G A p s m args meth c RX4 cX4_readEntries 4) (hr : meth.sig.returnType = some .boolean) {c1 : Nat} {j1 : Nat} {M : Mem} (hc1 : c1 < 6) (hj1 : j1 < 2) (h : f_X4_readEntries c1 j1 M = some (r, M')) : T G A p l e (rmO 3) s m args below meth c 4 0 0 (MQ below (QiO G A r M') args s 0 0 A) 0 [(0, .ref (G.2.1 (3, 0, 0))), (1, .ref (G.2.1 (5, c1, j1)))] [] M := by
  unfold f_X4_readEntries at h
  refine r_aload_n (pc := 0) X dX4_readEntries_0 rfl ?_
  refine r_getR (q := (20, c1, j1)) (pc := 1) X ⟨hc1, hj1⟩ fl_X4_179 rfl dX4_readEntries_1 ?_
  refine r_alen (pc := 4) X (v := (Int32.ofNat (akO (20, c1, j1)).2)) (n := (akO (20, c1, j1)).2) (t := 0) ⟨hc1, hj1⟩ rfl (ltb rfl) (nlt rfl) rfl dX4_readEntries_4 ?_
  refine r_istore_nN (pc := 5) X (by decide) dX4_readEntries_5 h (fun e1 h => ?_)
  refine r_iconst (pc := 6) X (v := 0) dX4_readEntries_6 (by decide) ?_
  refine r_istore_n (pc := 7) X (by decide) dX4_readEntries_7 ?_
  exact T_sub (t_X4_readEntries_8 X hr _ _ _ _ _ _ hc1 hj1 h) ⟨rfl, rfl, rfl, rfl, trivial⟩
theorem c_X4_readEntries {G : GG} {l : Launch} {c1 : Nat} {j1 : Nat} {r : Int32} {M M' : Mem} (hc1 : c1 < 6) (hj1 : j1 < 2) (h : f_X4_readEntries c1 j1 M = some (r, M')) : Met l yX4_readEntries (wsO yX4_readEntries cX4_readEntries 4 (some .boolean)) (rmO 3) (PcO G [.ref (G.2.1 (3, 0, 0)), .ref (G.2.1 (5, c1, j1))] M) (QiO G (AA G) r M') 0 0 (AA G) :=
  met_of (own := RX4) rfl (by decide +kernel) (Nat.le_of_ble_eq_true rfl) (fun p e s m args below meth c X hr => t_X4_readEntries X hr hc1 hj1 h)
-- ConverterScanner$Parser.readGroup
def f_X4_readGroup  (M : Mem) : Option (Int32 × Mem) :=
  bnd (f_X4_takeNumber 3 0 M) (fun r1 M2 => if r1 = 0 then some (0, M2) else nm (uI M2 (5, 2, 0) 2 (M2.1 (3, 0, 0) 3)) (fun M4 => some (1, M4)))
set_option maxHeartbeats 4000000 in
set_option maxRecDepth 100000 in
theorem t_X4_readGroup {G : GG} {A : Nat → Prop} {p : Program} {l : Launch} {e : Env} {s : State} {m : MethodId} {args : Array Value} {below : List Frame} {meth : Method} {c : Code} {r : Int32} {M' : Mem} (X : Cx G A p s m args meth c RX4 cX4_readGroup 1) (hr : meth.sig.returnType = some .boolean) {M : Mem}  (h : f_X4_readGroup M = some (r, M')) : T G A p l e (rmO 3) s m args below meth c 1 0 0 (MQ below (QiO G A r M') args s 0 0 A) 0 [(0, .ref (G.2.1 (3, 0, 0)))] [] M := by
  unfold f_X4_readGroup at h
  refine r_aload_n (pc := 0) X dX4_readGroup_0 rfl ?_
  refine r_getsW (pc := 1) X 3 (by decide) wf_X4_191 dX4_readGroup_1 ?_
  refine r_iconst (pc := 4) X (v := 0) dX4_readGroup_4 (by decide) ?_
  refine bndE h (fun r1 M2 h3 h => ?_)
  refine r_callVi2 (pc := 5) X ⟨(ltb rfl), (ltb rfl)⟩ rfl vy_X4_takeNumber my_X4_takeNumber ml_X4_135 ⟨Nat.le_of_ble_eq_true rfl, Nat.le_of_ble_eq_true rfl, Nat.le_of_ble_eq_true rfl, Nat.le_of_ble_eq_true rfl⟩ (c_X4_takeNumber (by decide) h3) (Nat.le_of_ble_eq_true rfl) dX4_readGroup_5 ?_
  refine r_if_ne (pc := 8) X (tgt := 13) dX4_readGroup_8 (by decide) h (fun h => ?_) (fun h => ?_)
  · refine r_aload_n (pc := 13) X dX4_readGroup_13 rfl ?_
    refine r_getR (q := (2, 2, 0)) (pc := 14) X ⟨(ltb rfl), (ltb rfl)⟩ fl_X4_21 rfl dX4_readGroup_14 ?_
    refine r_getR (q := (5, 2, 0)) (pc := 17) X ⟨(ltb rfl), (ltb rfl)⟩ fl_X4_96 rfl dX4_readGroup_17 ?_
    refine r_aload_n (pc := 20) X dX4_readGroup_20 rfl ?_
    refine r_getI (pc := 21) X ⟨(ltb rfl), (ltb rfl)⟩ fl_X4_139 rfl dX4_readGroup_21 ?_
    refine r_putIN (pc := 24) X ⟨(ltb rfl), (ltb rfl)⟩ fp_X4_194 rfl dX4_readGroup_24 h (fun M4 h => ?_)
    refine r_iconst (pc := 27) X (v := 1) dX4_readGroup_27 (by decide) ?_
    cases h
    exact r_zretc (pc := 28) X hr (by decide +kernel) dX4_readGroup_28
  · refine r_iconst (pc := 11) X (v := 0) dX4_readGroup_11 (by decide) ?_
    cases h
    exact r_zretc (pc := 12) X hr (by decide +kernel) dX4_readGroup_12
theorem c_X4_readGroup {G : GG} {l : Launch} {r : Int32} {M M' : Mem}  (h : f_X4_readGroup  M = some (r, M')) : Met l yX4_readGroup (wsO yX4_readGroup cX4_readGroup 1 (some .boolean)) (rmO 3) (PcO G [.ref (G.2.1 (3, 0, 0))] M) (QiO G (AA G) r M') 0 0 (AA G) :=
  met_of (own := RX4) rfl (by decide +kernel) (Nat.le_of_ble_eq_true rfl) (fun p e s m args below meth c X hr => t_X4_readGroup X hr  h)
-- ConverterScanner$Parser.skipWord
def f_X4_skipWord (w1 : Nat) (M : Mem) : Option (Int32 × Mem) :=
  wck (M.1 (6, 0, 0) 7) (fun v1 => if v1 = w1 then bnd (f_X7_next  M) (fun r2 M3 => some (1, M3)) else some (0, M))
set_option maxHeartbeats 4000000 in
set_option maxRecDepth 100000 in
theorem t_X4_skipWord {G : GG} {A : Nat → Prop} {p : Program} {l : Launch} {e : Env} {s : State} {m : MethodId} {args : Array Value} {below : List Frame} {meth : Method} {c : Code} {r : Int32} {M' : Mem} (X : Cx G A p s m args meth c RX4 cX4_skipWord 2) (hr : meth.sig.returnType = some .boolean) {w1 : Nat} {M : Mem} (hw1 : w1 < 26) (h : f_X4_skipWord w1 M = some (r, M')) : T G A p l e (rmO 2) s m args below meth c 2 0 0 (MQ below (QiO G A r M') args s 0 0 A) 0 [(0, .ref (G.2.1 (3, 0, 0))), (1, .ref (G.2.2.2.1 w1))] [] M := by
  unfold f_X4_skipWord at h
  refine r_aload_n (pc := 0) X dX4_skipWord_0 rfl ?_
  refine r_getR (q := (6, 0, 0)) (pc := 1) X ⟨(ltb rfl), (ltb rfl)⟩ fl_X4_12 rfl dX4_skipWord_1 ?_
  refine r_getW (pc := 4) X ⟨(ltb rfl), (ltb rfl)⟩ fl_X4_74 rfl dX4_skipWord_4 h (fun v1 hv1 h => ?_)
  refine r_aload_n (pc := 7) X dX4_skipWord_7 rfl ?_
  refine r_acmp_eq (pc := 8) X hv1 hw1 (tgt := 13) dX4_skipWord_8 (by decide) h (fun h => ?_) (fun h => ?_)
  · refine r_aload_n (pc := 13) X dX4_skipWord_13 rfl ?_
    refine r_getR (q := (6, 0, 0)) (pc := 14) X ⟨(ltb rfl), (ltb rfl)⟩ fl_X4_12 rfl dX4_skipWord_14 ?_
    refine bndE h (fun r2 M3 h4 h => ?_)
    refine r_callVv0 (pc := 17) X ⟨(ltb rfl), (ltb rfl)⟩ rfl vy_X7_next my_X7_next ml_X4_129 ⟨Nat.le_of_ble_eq_true rfl, Nat.le_of_ble_eq_true rfl, Nat.le_of_ble_eq_true rfl, Nat.le_of_ble_eq_true rfl⟩ (c_X7_next  h4) (Nat.le_of_ble_eq_true rfl) dX4_skipWord_17 ?_
    refine r_iconst (pc := 20) X (v := 1) dX4_skipWord_20 (by decide) ?_
    cases h
    exact r_zretc (pc := 21) X hr (by decide +kernel) dX4_skipWord_21
  · refine r_iconst (pc := 11) X (v := 0) dX4_skipWord_11 (by decide) ?_
    cases h
    exact r_zretc (pc := 12) X hr (by decide +kernel) dX4_skipWord_12
theorem c_X4_skipWord {G : GG} {l : Launch} {w1 : Nat} {r : Int32} {M M' : Mem} (hw1 : w1 < 26) (h : f_X4_skipWord w1 M = some (r, M')) : Met l yX4_skipWord (wsO yX4_skipWord cX4_skipWord 2 (some .boolean)) (rmO 2) (PcO G [.ref (G.2.1 (3, 0, 0)), .ref (G.2.2.2.1 w1)] M) (QiO G (AA G) r M') 0 0 (AA G) :=
  met_of (own := RX4) rfl (by decide +kernel) (Nat.le_of_ble_eq_true rfl) (fun p e s m args below meth c X hr => t_X4_skipWord X hr hw1 h)
-- ConverterScanner$Parser.takeWord
def f_X4_takeWord (w1 : Nat) (M : Mem) : Option (Int32 × Mem) :=
  wck (M.1 (6, 0, 0) 7) (fun v1 => if v1 = w1 then bnd (f_X7_next  M) (fun r2 M3 => some (1, M3)) else bnd (f_X4_fail 1 M) (fun r5 M6 => if ¬ (r5 = 0 ∨ r5 = 1) then none else some (r5, M6)))
set_option maxHeartbeats 4000000 in
set_option maxRecDepth 100000 in
theorem t_X4_takeWord {G : GG} {A : Nat → Prop} {p : Program} {l : Launch} {e : Env} {s : State} {m : MethodId} {args : Array Value} {below : List Frame} {meth : Method} {c : Code} {r : Int32} {M' : Mem} (X : Cx G A p s m args meth c RX4 cX4_takeWord 2) (hr : meth.sig.returnType = some .boolean) {w1 : Nat} {M : Mem} (hw1 : w1 < 26) (h : f_X4_takeWord w1 M = some (r, M')) : T G A p l e (rmO 2) s m args below meth c 2 0 0 (MQ below (QiO G A r M') args s 0 0 A) 0 [(0, .ref (G.2.1 (3, 0, 0))), (1, .ref (G.2.2.2.1 w1))] [] M := by
  unfold f_X4_takeWord at h
  refine r_aload_n (pc := 0) X dX4_takeWord_0 rfl ?_
  refine r_getR (q := (6, 0, 0)) (pc := 1) X ⟨(ltb rfl), (ltb rfl)⟩ fl_X4_12 rfl dX4_takeWord_1 ?_
  refine r_getW (pc := 4) X ⟨(ltb rfl), (ltb rfl)⟩ fl_X4_74 rfl dX4_takeWord_4 h (fun v1 hv1 h => ?_)
  refine r_aload_n (pc := 7) X dX4_takeWord_7 rfl ?_
  refine r_acmp_eq (pc := 8) X hv1 hw1 (tgt := 17) dX4_takeWord_8 (by decide) h (fun h => ?_) (fun h => ?_)
  · refine r_aload_n (pc := 17) X dX4_takeWord_17 rfl ?_
    refine r_getR (q := (6, 0, 0)) (pc := 18) X ⟨(ltb rfl), (ltb rfl)⟩ fl_X4_12 rfl dX4_takeWord_18 ?_
    refine bndE h (fun r2 M3 h4 h => ?_)
    refine r_callVv0 (pc := 21) X ⟨(ltb rfl), (ltb rfl)⟩ rfl vy_X7_next my_X7_next ml_X4_129 ⟨Nat.le_of_ble_eq_true rfl, Nat.le_of_ble_eq_true rfl, Nat.le_of_ble_eq_true rfl, Nat.le_of_ble_eq_true rfl⟩ (c_X7_next  h4) (Nat.le_of_ble_eq_true rfl) dX4_takeWord_21 ?_
    refine r_iconst (pc := 24) X (v := 1) dX4_takeWord_24 (by decide) ?_
    cases h
    exact r_zretc (pc := 25) X hr (by decide +kernel) dX4_takeWord_25
  · refine r_aload_n (pc := 11) X dX4_takeWord_11 rfl ?_
    refine r_iconst (pc := 12) X (v := 1) dX4_takeWord_12 (by decide) ?_
    refine bndE h (fun r5 M6 h7 h => ?_)
    refine r_callVi1 (pc := 13) X ⟨(ltb rfl), (ltb rfl)⟩ rfl vy_X4_fail my_X4_fail ml_X4_126 ⟨Nat.le_of_ble_eq_true rfl, Nat.le_of_ble_eq_true rfl, Nat.le_of_ble_eq_true rfl, Nat.le_of_ble_eq_true rfl⟩ (c_X4_fail  h7) (Nat.le_of_ble_eq_true rfl) dX4_takeWord_13 ?_
    exact r_zret (pc := 16) X hr dX4_takeWord_16 h
theorem c_X4_takeWord {G : GG} {l : Launch} {w1 : Nat} {r : Int32} {M M' : Mem} (hw1 : w1 < 26) (h : f_X4_takeWord w1 M = some (r, M')) : Met l yX4_takeWord (wsO yX4_takeWord cX4_takeWord 2 (some .boolean)) (rmO 2) (PcO G [.ref (G.2.1 (3, 0, 0)), .ref (G.2.2.2.1 w1)] M) (QiO G (AA G) r M') 0 0 (AA G) :=
  met_of (own := RX4) rfl (by decide +kernel) (Nat.le_of_ble_eq_true rfl) (fun p e s m args below meth c X hr => t_X4_takeWord X hr hw1 h)
-- ConverterScanner$Parser.readOver
def f_X4_readOver  (M : Mem) : Option (Int32 × Mem) :=
  bnd (f_X4_takeNumber 6 0 M) (fun r1 M2 => if r1 = 0 then some (0, M2) else nm (uI M2 (2, 2, 0) 12 (M2.1 (3, 0, 0) 3)) (fun M4 => bnd (f_X4_takeWord 16 M4) (fun r5 M6 => if r5 = 0 then some (0, M6) else bnd (f_X4_takeNumber 16 0 M6) (fun r8 M9 => if r8 = 0 then some (0, M9) else nm (uI M9 (2, 2, 0) 13 (M9.1 (3, 0, 0) 3)) (fun M11 => bnd (f_X4_skipWord 17 M11) (fun r12 M13 => if ¬ (r12 = 0 ∨ r12 = 1) then none else nm (uI M13 (2, 2, 0) 11 r12) (fun M15 => some (1, M15))))))))
set_option maxHeartbeats 4000000 in
set_option maxRecDepth 100000 in
theorem t_X4_readOver {G : GG} {A : Nat → Prop} {p : Program} {l : Launch} {e : Env} {s : State} {m : MethodId} {args : Array Value} {below : List Frame} {meth : Method} {c : Code} {r : Int32} {M' : Mem} (X : Cx G A p s m args meth c RX4 cX4_readOver 1) (hr : meth.sig.returnType = some .boolean) {M : Mem}  (h : f_X4_readOver M = some (r, M')) : T G A p l e (rmO 3) s m args below meth c 1 0 0 (MQ below (QiO G A r M') args s 0 0 A) 0 [(0, .ref (G.2.1 (3, 0, 0)))] [] M := by
  unfold f_X4_readOver at h
  refine r_aload_n (pc := 0) X dX4_readOver_0 rfl ?_
  refine r_getsW (pc := 1) X 6 (by decide) wf_X4_197 dX4_readOver_1 ?_
  refine r_iconst (pc := 4) X (v := 0) dX4_readOver_4 (by decide) ?_
  refine bndE h (fun r1 M2 h3 h => ?_)
  refine r_callVi2 (pc := 5) X ⟨(ltb rfl), (ltb rfl)⟩ rfl vy_X4_takeNumber my_X4_takeNumber ml_X4_135 ⟨Nat.le_of_ble_eq_true rfl, Nat.le_of_ble_eq_true rfl, Nat.le_of_ble_eq_true rfl, Nat.le_of_ble_eq_true rfl⟩ (c_X4_takeNumber (by decide) h3) (Nat.le_of_ble_eq_true rfl) dX4_readOver_5 ?_
  refine r_if_ne (pc := 8) X (tgt := 13) dX4_readOver_8 (by decide) h (fun h => ?_) (fun h => ?_)
  · refine r_aload_n (pc := 13) X dX4_readOver_13 rfl ?_
    refine r_getR (q := (2, 2, 0)) (pc := 14) X ⟨(ltb rfl), (ltb rfl)⟩ fl_X4_21 rfl dX4_readOver_14 ?_
    refine r_aload_n (pc := 17) X dX4_readOver_17 rfl ?_
    refine r_getI (pc := 18) X ⟨(ltb rfl), (ltb rfl)⟩ fl_X4_139 rfl dX4_readOver_18 ?_
    refine r_putIN (pc := 21) X ⟨(ltb rfl), (ltb rfl)⟩ fp_X4_200 rfl dX4_readOver_21 h (fun M4 h => ?_)
    refine r_aload_n (pc := 24) X dX4_readOver_24 rfl ?_
    refine r_getsW (pc := 25) X 16 (by decide) wf_X4_203 dX4_readOver_25 ?_
    refine bndE h (fun r5 M6 h7 h => ?_)
    refine r_callVi1 (pc := 28) X ⟨(ltb rfl), (ltb rfl)⟩ rfl vy_X4_takeWord my_X4_takeWord ml_X4_206 ⟨Nat.le_of_ble_eq_true rfl, Nat.le_of_ble_eq_true rfl, Nat.le_of_ble_eq_true rfl, Nat.le_of_ble_eq_true rfl⟩ (c_X4_takeWord (by decide) h7) (Nat.le_of_ble_eq_true rfl) dX4_readOver_28 ?_
    refine r_if_eq (pc := 31) X (tgt := 45) dX4_readOver_31 (by decide) h (fun h => ?_) (fun h => ?_)
    · refine r_iconst (pc := 45) X (v := 0) dX4_readOver_45 (by decide) ?_
      cases h
      exact r_zretc (pc := 46) X hr (by decide +kernel) dX4_readOver_46
    · refine r_aload_n (pc := 34) X dX4_readOver_34 rfl ?_
      refine r_getsW (pc := 35) X 16 (by decide) wf_X4_203 dX4_readOver_35 ?_
      refine r_iconst (pc := 38) X (v := 0) dX4_readOver_38 (by decide) ?_
      refine bndE h (fun r8 M9 h10 h => ?_)
      refine r_callVi2 (pc := 39) X ⟨(ltb rfl), (ltb rfl)⟩ rfl vy_X4_takeNumber my_X4_takeNumber ml_X4_135 ⟨Nat.le_of_ble_eq_true rfl, Nat.le_of_ble_eq_true rfl, Nat.le_of_ble_eq_true rfl, Nat.le_of_ble_eq_true rfl⟩ (c_X4_takeNumber (by decide) h10) (Nat.le_of_ble_eq_true rfl) dX4_readOver_39 ?_
      refine r_if_ne (pc := 42) X (tgt := 47) dX4_readOver_42 (by decide) h (fun h => ?_) (fun h => ?_)
      · refine r_aload_n (pc := 47) X dX4_readOver_47 rfl ?_
        refine r_getR (q := (2, 2, 0)) (pc := 48) X ⟨(ltb rfl), (ltb rfl)⟩ fl_X4_21 rfl dX4_readOver_48 ?_
        refine r_aload_n (pc := 51) X dX4_readOver_51 rfl ?_
        refine r_getI (pc := 52) X ⟨(ltb rfl), (ltb rfl)⟩ fl_X4_139 rfl dX4_readOver_52 ?_
        refine r_putIN (pc := 55) X ⟨(ltb rfl), (ltb rfl)⟩ fp_X4_210 rfl dX4_readOver_55 h (fun M11 h => ?_)
        refine r_aload_n (pc := 58) X dX4_readOver_58 rfl ?_
        refine r_getR (q := (2, 2, 0)) (pc := 59) X ⟨(ltb rfl), (ltb rfl)⟩ fl_X4_21 rfl dX4_readOver_59 ?_
        refine r_aload_n (pc := 62) X dX4_readOver_62 rfl ?_
        refine r_getsW (pc := 63) X 17 (by decide) wf_X4_213 dX4_readOver_63 ?_
        refine bndE h (fun r12 M13 h14 h => ?_)
        refine r_callVi1 (pc := 66) X ⟨(ltb rfl), (ltb rfl)⟩ rfl vy_X4_skipWord my_X4_skipWord ml_X4_216 ⟨Nat.le_of_ble_eq_true rfl, Nat.le_of_ble_eq_true rfl, Nat.le_of_ble_eq_true rfl, Nat.le_of_ble_eq_true rfl⟩ (c_X4_skipWord (by decide) h14) (Nat.le_of_ble_eq_true rfl) dX4_readOver_66 ?_
        refine r_putZN (pc := 69) X ⟨(ltb rfl), (ltb rfl)⟩ fp_X4_219 rfl dX4_readOver_69 h (fun M15 h => ?_)
        refine r_iconst (pc := 72) X (v := 1) dX4_readOver_72 (by decide) ?_
        cases h
        exact r_zretc (pc := 73) X hr (by decide +kernel) dX4_readOver_73
      · refine r_iconst (pc := 45) X (v := 0) dX4_readOver_45 (by decide) ?_
        cases h
        exact r_zretc (pc := 46) X hr (by decide +kernel) dX4_readOver_46
  · refine r_iconst (pc := 11) X (v := 0) dX4_readOver_11 (by decide) ?_
    cases h
    exact r_zretc (pc := 12) X hr (by decide +kernel) dX4_readOver_12
theorem c_X4_readOver {G : GG} {l : Launch} {r : Int32} {M M' : Mem}  (h : f_X4_readOver  M = some (r, M')) : Met l yX4_readOver (wsO yX4_readOver cX4_readOver 1 (some .boolean)) (rmO 3) (PcO G [.ref (G.2.1 (3, 0, 0))] M) (QiO G (AA G) r M') 0 0 (AA G) :=
  met_of (own := RX4) rfl (by decide +kernel) (Nat.le_of_ble_eq_true rfl) (fun p e s m args below meth c X hr => t_X4_readOver X hr  h)
-- ConverterScanner$Parser.readPace
def f_X4_readPace  (M : Mem) : Option (Int32 × Mem) :=
  bnd (f_X4_takeNumber 10 0 M) (fun r1 M2 => if r1 = 0 then some (0, M2) else nm (uI M2 (2, 2, 0) 14 (M2.1 (3, 0, 0) 3)) (fun M4 => some (1, M4)))
set_option maxHeartbeats 4000000 in
set_option maxRecDepth 100000 in
theorem t_X4_readPace {G : GG} {A : Nat → Prop} {p : Program} {l : Launch} {e : Env} {s : State} {m : MethodId} {args : Array Value} {below : List Frame} {meth : Method} {c : Code} {r : Int32} {M' : Mem} (X : Cx G A p s m args meth c RX4 cX4_readPace 1) (hr : meth.sig.returnType = some .boolean) {M : Mem}  (h : f_X4_readPace M = some (r, M')) : T G A p l e (rmO 3) s m args below meth c 1 0 0 (MQ below (QiO G A r M') args s 0 0 A) 0 [(0, .ref (G.2.1 (3, 0, 0)))] [] M := by
  unfold f_X4_readPace at h
  refine r_aload_n (pc := 0) X dX4_readPace_0 rfl ?_
  refine r_getsW (pc := 1) X 10 (by decide) wf_X4_310 dX4_readPace_1 ?_
  refine r_iconst (pc := 4) X (v := 0) dX4_readPace_4 (by decide) ?_
  refine bndE h (fun r1 M2 h3 h => ?_)
  refine r_callVi2 (pc := 5) X ⟨(ltb rfl), (ltb rfl)⟩ rfl vy_X4_takeNumber my_X4_takeNumber ml_X4_135 ⟨Nat.le_of_ble_eq_true rfl, Nat.le_of_ble_eq_true rfl, Nat.le_of_ble_eq_true rfl, Nat.le_of_ble_eq_true rfl⟩ (c_X4_takeNumber (by decide) h3) (Nat.le_of_ble_eq_true rfl) dX4_readPace_5 ?_
  refine r_if_ne (pc := 8) X (tgt := 13) dX4_readPace_8 (by decide) h (fun h => ?_) (fun h => ?_)
  · refine r_aload_n (pc := 13) X dX4_readPace_13 rfl ?_
    refine r_getR (q := (2, 2, 0)) (pc := 14) X ⟨(ltb rfl), (ltb rfl)⟩ fl_X4_21 rfl dX4_readPace_14 ?_
    refine r_aload_n (pc := 17) X dX4_readPace_17 rfl ?_
    refine r_getI (pc := 18) X ⟨(ltb rfl), (ltb rfl)⟩ fl_X4_139 rfl dX4_readPace_18 ?_
    refine r_putIN (pc := 21) X ⟨(ltb rfl), (ltb rfl)⟩ fp_X4_313 rfl dX4_readPace_21 h (fun M4 h => ?_)
    refine r_iconst (pc := 24) X (v := 1) dX4_readPace_24 (by decide) ?_
    cases h
    exact r_zretc (pc := 25) X hr (by decide +kernel) dX4_readPace_25
  · refine r_iconst (pc := 11) X (v := 0) dX4_readPace_11 (by decide) ?_
    cases h
    exact r_zretc (pc := 12) X hr (by decide +kernel) dX4_readPace_12
theorem c_X4_readPace {G : GG} {l : Launch} {r : Int32} {M M' : Mem}  (h : f_X4_readPace  M = some (r, M')) : Met l yX4_readPace (wsO yX4_readPace cX4_readPace 1 (some .boolean)) (rmO 3) (PcO G [.ref (G.2.1 (3, 0, 0))] M) (QiO G (AA G) r M') 0 0 (AA G) :=
  met_of (own := RX4) rfl (by decide +kernel) (Nat.le_of_ble_eq_true rfl) (fun p e s m args below meth c X hr => t_X4_readPace X hr  h)
-- ConverterScanner$Parser.readQueue
def f_X4_readQueue  (M : Mem) : Option (Int32 × Mem) :=
  bnd (f_X4_takeNumber 9 0 M) (fun r1 M2 => if r1 = 0 then some (0, M2) else nm (uI M2 (4, 2, 0) 2 (M2.1 (3, 0, 0) 3)) (fun M4 => bnd (f_X4_skipWord 24 M4) (fun r5 M6 => if ¬ (r5 = 0 ∨ r5 = 1) then none else nm (uI M6 (4, 2, 0) 3 r5) (fun M8 => some (1, M8)))))
set_option maxHeartbeats 4000000 in
set_option maxRecDepth 100000 in
theorem t_X4_readQueue {G : GG} {A : Nat → Prop} {p : Program} {l : Launch} {e : Env} {s : State} {m : MethodId} {args : Array Value} {below : List Frame} {meth : Method} {c : Code} {r : Int32} {M' : Mem} (X : Cx G A p s m args meth c RX4 cX4_readQueue 1) (hr : meth.sig.returnType = some .boolean) {M : Mem}  (h : f_X4_readQueue M = some (r, M')) : T G A p l e (rmO 3) s m args below meth c 1 0 0 (MQ below (QiO G A r M') args s 0 0 A) 0 [(0, .ref (G.2.1 (3, 0, 0)))] [] M := by
  unfold f_X4_readQueue at h
  refine r_aload_n (pc := 0) X dX4_readQueue_0 rfl ?_
  refine r_getsW (pc := 1) X 9 (by decide) wf_X4_292 dX4_readQueue_1 ?_
  refine r_iconst (pc := 4) X (v := 0) dX4_readQueue_4 (by decide) ?_
  refine bndE h (fun r1 M2 h3 h => ?_)
  refine r_callVi2 (pc := 5) X ⟨(ltb rfl), (ltb rfl)⟩ rfl vy_X4_takeNumber my_X4_takeNumber ml_X4_135 ⟨Nat.le_of_ble_eq_true rfl, Nat.le_of_ble_eq_true rfl, Nat.le_of_ble_eq_true rfl, Nat.le_of_ble_eq_true rfl⟩ (c_X4_takeNumber (by decide) h3) (Nat.le_of_ble_eq_true rfl) dX4_readQueue_5 ?_
  refine r_if_ne (pc := 8) X (tgt := 13) dX4_readQueue_8 (by decide) h (fun h => ?_) (fun h => ?_)
  · refine r_aload_n (pc := 13) X dX4_readQueue_13 rfl ?_
    refine r_getR (q := (2, 2, 0)) (pc := 14) X ⟨(ltb rfl), (ltb rfl)⟩ fl_X4_21 rfl dX4_readQueue_14 ?_
    refine r_getR (q := (4, 2, 0)) (pc := 17) X ⟨(ltb rfl), (ltb rfl)⟩ fl_X4_295 rfl dX4_readQueue_17 ?_
    refine r_aload_n (pc := 20) X dX4_readQueue_20 rfl ?_
    refine r_getI (pc := 21) X ⟨(ltb rfl), (ltb rfl)⟩ fl_X4_139 rfl dX4_readQueue_21 ?_
    refine r_putIN (pc := 24) X ⟨(ltb rfl), (ltb rfl)⟩ fp_X4_299 rfl dX4_readQueue_24 h (fun M4 h => ?_)
    refine r_aload_n (pc := 27) X dX4_readQueue_27 rfl ?_
    refine r_getR (q := (2, 2, 0)) (pc := 28) X ⟨(ltb rfl), (ltb rfl)⟩ fl_X4_21 rfl dX4_readQueue_28 ?_
    refine r_getR (q := (4, 2, 0)) (pc := 31) X ⟨(ltb rfl), (ltb rfl)⟩ fl_X4_295 rfl dX4_readQueue_31 ?_
    refine r_aload_n (pc := 34) X dX4_readQueue_34 rfl ?_
    refine r_getsW (pc := 35) X 24 (by decide) wf_X4_304 dX4_readQueue_35 ?_
    refine bndE h (fun r5 M6 h7 h => ?_)
    refine r_callVi1 (pc := 38) X ⟨(ltb rfl), (ltb rfl)⟩ rfl vy_X4_skipWord my_X4_skipWord ml_X4_216 ⟨Nat.le_of_ble_eq_true rfl, Nat.le_of_ble_eq_true rfl, Nat.le_of_ble_eq_true rfl, Nat.le_of_ble_eq_true rfl⟩ (c_X4_skipWord (by decide) h7) (Nat.le_of_ble_eq_true rfl) dX4_readQueue_38 ?_
    refine r_putZN (pc := 41) X ⟨(ltb rfl), (ltb rfl)⟩ fp_X4_307 rfl dX4_readQueue_41 h (fun M8 h => ?_)
    refine r_iconst (pc := 44) X (v := 1) dX4_readQueue_44 (by decide) ?_
    cases h
    exact r_zretc (pc := 45) X hr (by decide +kernel) dX4_readQueue_45
  · refine r_iconst (pc := 11) X (v := 0) dX4_readQueue_11 (by decide) ?_
    cases h
    exact r_zretc (pc := 12) X hr (by decide +kernel) dX4_readQueue_12
theorem c_X4_readQueue {G : GG} {l : Launch} {r : Int32} {M M' : Mem}  (h : f_X4_readQueue  M = some (r, M')) : Met l yX4_readQueue (wsO yX4_readQueue cX4_readQueue 1 (some .boolean)) (rmO 3) (PcO G [.ref (G.2.1 (3, 0, 0))] M) (QiO G (AA G) r M') 0 0 (AA G) :=
  met_of (own := RX4) rfl (by decide +kernel) (Nat.le_of_ble_eq_true rfl) (fun p e s m args below meth c X hr => t_X4_readQueue X hr  h)
-- ConverterScanner$Parser.readTrigger
def f_X4_readTrigger_89 (c1 : Nat) (j1 : Nat) (M : Mem) : Option (Int32 × Mem) :=
  bnd (f_X4_skipWord 22 M) (fun r1 M2 => if r1 = 0 then some (1, M2) else bnd (f_X4_takeNumber 22 0 M2) (fun r4 M5 => if r4 = 0 then some (0, M5) else nm (uI M5 (7, c1, j1) 1 (M5.1 (3, 0, 0) 3)) (fun M7 => bnd (f_X4_skipWord 23 M7) (fun r8 M9 => if r8 = 0 then some (1, M9) else bnd (f_X4_takeNumber 23 0 M9) (fun r11 M12 => if r11 = 0 then some (0, M12) else nm (uI M12 (7, c1, j1) 2 (M12.1 (3, 0, 0) 3)) (fun M14 => some (1, M14)))))))
set_option maxHeartbeats 4000000 in
set_option maxRecDepth 100000 in
theorem t_X4_readTrigger_89 {G : GG} {A : Nat → Prop} {p : Program} {l : Launch} {e : Env} {s : State} {m : MethodId} {args : Array Value} {below : List Frame} {meth : Method} {c : Code} {r : Int32} {M' : Mem} (X : Cx G A p s m args meth c RX4 cX4_readTrigger 2) (hr : meth.sig.returnType = some .boolean) {c1 : Nat} {j1 : Nat} {M : Mem} (hc1 : c1 < 6) (hj1 : j1 < 4) (h : f_X4_readTrigger_89 c1 j1 M = some (r, M')) : T G A p l e (rmO 3) s m args below meth c 2 0 0 (MQ below (QiO G A r M') args s 0 0 A) 89 [(0, .ref (G.2.1 (3, 0, 0))), (1, .ref (G.2.1 (7, c1, j1)))] [] M := by
  unfold f_X4_readTrigger_89 at h
  refine r_aload_n (pc := 89) X dX4_readTrigger_89 rfl ?_
  refine r_getsW (pc := 90) X 22 (by decide) wf_X4_282 dX4_readTrigger_90 ?_
  refine bndE h (fun r1 M2 h3 h => ?_)
  refine r_callVi1 (pc := 93) X ⟨(ltb rfl), (ltb rfl)⟩ rfl vy_X4_skipWord my_X4_skipWord ml_X4_216 ⟨Nat.le_of_ble_eq_true rfl, Nat.le_of_ble_eq_true rfl, Nat.le_of_ble_eq_true rfl, Nat.le_of_ble_eq_true rfl⟩ (c_X4_skipWord (by decide) h3) (Nat.le_of_ble_eq_true rfl) dX4_readTrigger_93 ?_
  refine r_if_ne (pc := 96) X (tgt := 101) dX4_readTrigger_96 (by decide) h (fun h => ?_) (fun h => ?_)
  · refine r_aload_n (pc := 101) X dX4_readTrigger_101 rfl ?_
    refine r_getsW (pc := 102) X 22 (by decide) wf_X4_282 dX4_readTrigger_102 ?_
    refine r_iconst (pc := 105) X (v := 0) dX4_readTrigger_105 (by decide) ?_
    refine bndE h (fun r4 M5 h6 h => ?_)
    refine r_callVi2 (pc := 106) X ⟨(ltb rfl), (ltb rfl)⟩ rfl vy_X4_takeNumber my_X4_takeNumber ml_X4_135 ⟨Nat.le_of_ble_eq_true rfl, Nat.le_of_ble_eq_true rfl, Nat.le_of_ble_eq_true rfl, Nat.le_of_ble_eq_true rfl⟩ (c_X4_takeNumber (by decide) h6) (Nat.le_of_ble_eq_true rfl) dX4_readTrigger_106 ?_
    refine r_if_ne (pc := 109) X (tgt := 114) dX4_readTrigger_109 (by decide) h (fun h => ?_) (fun h => ?_)
    · refine r_aload_n (pc := 114) X dX4_readTrigger_114 rfl ?_
      refine r_aload_n (pc := 115) X dX4_readTrigger_115 rfl ?_
      refine r_getI (pc := 116) X ⟨(ltb rfl), (ltb rfl)⟩ fl_X4_139 rfl dX4_readTrigger_116 ?_
      refine r_putIN (pc := 119) X ⟨hc1, hj1⟩ fp_X4_285 rfl dX4_readTrigger_119 h (fun M7 h => ?_)
      refine r_aload_n (pc := 122) X dX4_readTrigger_122 rfl ?_
      refine r_getsW (pc := 123) X 23 (by decide) wf_X4_286 dX4_readTrigger_123 ?_
      refine bndE h (fun r8 M9 h10 h => ?_)
      refine r_callVi1 (pc := 126) X ⟨(ltb rfl), (ltb rfl)⟩ rfl vy_X4_skipWord my_X4_skipWord ml_X4_216 ⟨Nat.le_of_ble_eq_true rfl, Nat.le_of_ble_eq_true rfl, Nat.le_of_ble_eq_true rfl, Nat.le_of_ble_eq_true rfl⟩ (c_X4_skipWord (by decide) h10) (Nat.le_of_ble_eq_true rfl) dX4_readTrigger_126 ?_
      refine r_if_ne (pc := 129) X (tgt := 134) dX4_readTrigger_129 (by decide) h (fun h => ?_) (fun h => ?_)
      · refine r_aload_n (pc := 134) X dX4_readTrigger_134 rfl ?_
        refine r_getsW (pc := 135) X 23 (by decide) wf_X4_286 dX4_readTrigger_135 ?_
        refine r_iconst (pc := 138) X (v := 0) dX4_readTrigger_138 (by decide) ?_
        refine bndE h (fun r11 M12 h13 h => ?_)
        refine r_callVi2 (pc := 139) X ⟨(ltb rfl), (ltb rfl)⟩ rfl vy_X4_takeNumber my_X4_takeNumber ml_X4_135 ⟨Nat.le_of_ble_eq_true rfl, Nat.le_of_ble_eq_true rfl, Nat.le_of_ble_eq_true rfl, Nat.le_of_ble_eq_true rfl⟩ (c_X4_takeNumber (by decide) h13) (Nat.le_of_ble_eq_true rfl) dX4_readTrigger_139 ?_
        refine r_if_ne (pc := 142) X (tgt := 147) dX4_readTrigger_142 (by decide) h (fun h => ?_) (fun h => ?_)
        · refine r_aload_n (pc := 147) X dX4_readTrigger_147 rfl ?_
          refine r_aload_n (pc := 148) X dX4_readTrigger_148 rfl ?_
          refine r_getI (pc := 149) X ⟨(ltb rfl), (ltb rfl)⟩ fl_X4_139 rfl dX4_readTrigger_149 ?_
          refine r_putIN (pc := 152) X ⟨hc1, hj1⟩ fp_X4_289 rfl dX4_readTrigger_152 h (fun M14 h => ?_)
          refine r_iconst (pc := 155) X (v := 1) dX4_readTrigger_155 (by decide) ?_
          cases h
          exact r_zretc (pc := 156) X hr (by decide +kernel) dX4_readTrigger_156
        · refine r_iconst (pc := 145) X (v := 0) dX4_readTrigger_145 (by decide) ?_
          cases h
          exact r_zretc (pc := 146) X hr (by decide +kernel) dX4_readTrigger_146
      · refine r_iconst (pc := 132) X (v := 1) dX4_readTrigger_132 (by decide) ?_
        cases h
        exact r_zretc (pc := 133) X hr (by decide +kernel) dX4_readTrigger_133
    · refine r_iconst (pc := 112) X (v := 0) dX4_readTrigger_112 (by decide) ?_
      cases h
      exact r_zretc (pc := 113) X hr (by decide +kernel) dX4_readTrigger_113
  · refine r_iconst (pc := 99) X (v := 1) dX4_readTrigger_99 (by decide) ?_
    cases h
    exact r_zretc (pc := 100) X hr (by decide +kernel) dX4_readTrigger_100
def f_X4_readTrigger  (M : Mem) : Option (Int32 × Mem) :=
  bnd (f_X7_next  M) (fun r1 M2 => bnd (f_X4_takeNumber 8 (M2.1 (3, 0, 0) 7) M2) (fun r4 M5 => if r4 = 0 then some (0, M5) else nm (uI M5 (3, 0, 0) 7 ((M5.1 (3, 0, 0) 7) ||| (1 <<< ((M5.1 (3, 0, 0) 3) &&& 31)))) (fun M7 => if bad (M7.1 (3, 0, 0) 3) 4 then none else bnd (f_X4_skipWord 2 M7) (fun r9 M10 => if r9 = 0 then bnd (f_X4_takeWord 1 M10) (fun r12 M13 => if r12 = 0 then some (0, M13) else nm (uI M13 (7, 2, (Int32.toNatClampNeg (M7.1 (3, 0, 0) 3))) 0 1) (fun M15 => f_X4_readTrigger_89 2 (Int32.toNatClampNeg (M7.1 (3, 0, 0) 3)) M15)) else nm (uI M10 (7, 2, (Int32.toNatClampNeg (M7.1 (3, 0, 0) 3))) 0 2) (fun M16 => f_X4_readTrigger_89 2 (Int32.toNatClampNeg (M7.1 (3, 0, 0) 3)) M16)))))
set_option maxHeartbeats 4000000 in
set_option maxRecDepth 100000 in
theorem t_X4_readTrigger {G : GG} {A : Nat → Prop} {p : Program} {l : Launch} {e : Env} {s : State} {m : MethodId} {args : Array Value} {below : List Frame} {meth : Method} {c : Code} {r : Int32} {M' : Mem} (X : Cx G A p s m args meth c RX4 cX4_readTrigger 2) (hr : meth.sig.returnType = some .boolean) {M : Mem}  (h : f_X4_readTrigger M = some (r, M')) : T G A p l e (rmO 3) s m args below meth c 2 0 0 (MQ below (QiO G A r M') args s 0 0 A) 0 [(0, .ref (G.2.1 (3, 0, 0)))] [] M := by
  unfold f_X4_readTrigger at h
  refine r_aload_n (pc := 0) X dX4_readTrigger_0 rfl ?_
  refine r_getR (q := (6, 0, 0)) (pc := 1) X ⟨(ltb rfl), (ltb rfl)⟩ fl_X4_12 rfl dX4_readTrigger_1 ?_
  refine bndE h (fun r1 M2 h3 h => ?_)
  refine r_callVv0 (pc := 4) X ⟨(ltb rfl), (ltb rfl)⟩ rfl vy_X7_next my_X7_next ml_X4_129 ⟨Nat.le_of_ble_eq_true rfl, Nat.le_of_ble_eq_true rfl, Nat.le_of_ble_eq_true rfl, Nat.le_of_ble_eq_true rfl⟩ (c_X7_next  h3) (Nat.le_of_ble_eq_true rfl) dX4_readTrigger_4 ?_
  refine r_aload_n (pc := 7) X dX4_readTrigger_7 rfl ?_
  refine r_getsW (pc := 8) X 8 (by decide) wf_X4_264 dX4_readTrigger_8 ?_
  refine r_aload_n (pc := 11) X dX4_readTrigger_11 rfl ?_
  refine r_getI (pc := 12) X ⟨(ltb rfl), (ltb rfl)⟩ fl_X4_44 rfl dX4_readTrigger_12 ?_
  refine bndE h (fun r4 M5 h6 h => ?_)
  refine r_callVi2 (pc := 15) X ⟨(ltb rfl), (ltb rfl)⟩ rfl vy_X4_takeNumber my_X4_takeNumber ml_X4_135 ⟨Nat.le_of_ble_eq_true rfl, Nat.le_of_ble_eq_true rfl, Nat.le_of_ble_eq_true rfl, Nat.le_of_ble_eq_true rfl⟩ (c_X4_takeNumber (by decide) h6) (Nat.le_of_ble_eq_true rfl) dX4_readTrigger_15 ?_
  refine r_if_ne (pc := 18) X (tgt := 23) dX4_readTrigger_18 (by decide) h (fun h => ?_) (fun h => ?_)
  · refine r_aload_n (pc := 23) X dX4_readTrigger_23 rfl ?_
    refine r_dup (pc := 24) X dX4_readTrigger_24 rfl ?_
    refine r_getI (pc := 25) X ⟨(ltb rfl), (ltb rfl)⟩ fl_X4_44 rfl dX4_readTrigger_25 ?_
    refine r_iconst (pc := 28) X (v := 1) dX4_readTrigger_28 (by decide) ?_
    refine r_aload_n (pc := 29) X dX4_readTrigger_29 rfl ?_
    refine r_getI (pc := 30) X ⟨(ltb rfl), (ltb rfl)⟩ fl_X4_139 rfl dX4_readTrigger_30 ?_
    refine r_ishl (pc := 33) X dX4_readTrigger_33 ?_
    refine r_ior (pc := 34) X dX4_readTrigger_34 ?_
    refine r_putIN (pc := 35) X ⟨(ltb rfl), (ltb rfl)⟩ fp_X4_44 rfl dX4_readTrigger_35 h (fun M7 h => ?_)
    refine r_aload_n (pc := 38) X dX4_readTrigger_38 rfl ?_
    refine r_getR (q := (2, 2, 0)) (pc := 39) X ⟨(ltb rfl), (ltb rfl)⟩ fl_X4_21 rfl dX4_readTrigger_39 ?_
    refine r_getR (q := (25, 2, 0)) (pc := 42) X ⟨(ltb rfl), (ltb rfl)⟩ fl_X4_267 rfl dX4_readTrigger_42 ?_
    refine r_aload_n (pc := 45) X dX4_readTrigger_45 rfl ?_
    refine r_getI (pc := 46) X ⟨(ltb rfl), (ltb rfl)⟩ fl_X4_139 rfl dX4_readTrigger_46 ?_
    refine r_aald (pc := 49) X (t := 1) (n := 4) ⟨(ltb rfl), (ltb rfl)⟩ rfl (ltb rfl) (nlt rfl) dX4_readTrigger_49 h (fun hb8 h => ?_)
    refine r_astore_n (pc := 50) X (by decide) dX4_readTrigger_50 ?_
    refine r_aload_n (pc := 51) X dX4_readTrigger_51 rfl ?_
    refine r_getsW (pc := 52) X 2 (by decide) wf_X4_271 dX4_readTrigger_52 ?_
    refine bndE h (fun r9 M10 h11 h => ?_)
    refine r_callVi1 (pc := 55) X ⟨(ltb rfl), (ltb rfl)⟩ rfl vy_X4_skipWord my_X4_skipWord ml_X4_216 ⟨Nat.le_of_ble_eq_true rfl, Nat.le_of_ble_eq_true rfl, Nat.le_of_ble_eq_true rfl, Nat.le_of_ble_eq_true rfl⟩ (c_X4_skipWord (by decide) h11) (Nat.le_of_ble_eq_true rfl) dX4_readTrigger_55 ?_
    refine r_if_eq (pc := 58) X (tgt := 69) dX4_readTrigger_58 (by decide) h (fun h => ?_) (fun h => ?_)
    · refine r_aload_n (pc := 69) X dX4_readTrigger_69 rfl ?_
      refine r_getsW (pc := 70) X 1 (by decide) wf_X4_279 dX4_readTrigger_70 ?_
      refine bndE h (fun r12 M13 h14 h => ?_)
      refine r_callVi1 (pc := 73) X ⟨(ltb rfl), (ltb rfl)⟩ rfl vy_X4_takeWord my_X4_takeWord ml_X4_206 ⟨Nat.le_of_ble_eq_true rfl, Nat.le_of_ble_eq_true rfl, Nat.le_of_ble_eq_true rfl, Nat.le_of_ble_eq_true rfl⟩ (c_X4_takeWord (by decide) h14) (Nat.le_of_ble_eq_true rfl) dX4_readTrigger_73 ?_
      refine r_if_eq (pc := 76) X (tgt := 87) dX4_readTrigger_76 (by decide) h (fun h => ?_) (fun h => ?_)
      · refine r_iconst (pc := 87) X (v := 0) dX4_readTrigger_87 (by decide) ?_
        cases h
        exact r_zretc (pc := 88) X hr (by decide +kernel) dX4_readTrigger_88
      · refine r_aload_n (pc := 79) X dX4_readTrigger_79 rfl ?_
        refine r_iconst (pc := 80) X (v := 1) dX4_readTrigger_80 (by decide) ?_
        refine r_putIN (pc := 81) X ⟨(ltb rfl), (bad_lt hb8)⟩ fp_X4_274 rfl dX4_readTrigger_81 h (fun M15 h => ?_)
        refine r_goto (pc := 84) X (tgt := 89) dX4_readTrigger_84 (by decide) ?_
        exact T_sub (t_X4_readTrigger_89 X hr (ltb rfl) (bad_lt hb8) h) ⟨rfl, rfl, trivial⟩
    · refine r_aload_n (pc := 61) X dX4_readTrigger_61 rfl ?_
      refine r_iconst (pc := 62) X (v := 2) dX4_readTrigger_62 (by decide) ?_
      refine r_putIN (pc := 63) X ⟨(ltb rfl), (bad_lt hb8)⟩ fp_X4_274 rfl dX4_readTrigger_63 h (fun M16 h => ?_)
      refine r_goto (pc := 66) X (tgt := 89) dX4_readTrigger_66 (by decide) ?_
      exact T_sub (t_X4_readTrigger_89 X hr (ltb rfl) (bad_lt hb8) h) ⟨rfl, rfl, trivial⟩
  · refine r_iconst (pc := 21) X (v := 0) dX4_readTrigger_21 (by decide) ?_
    cases h
    exact r_zretc (pc := 22) X hr (by decide +kernel) dX4_readTrigger_22
theorem c_X4_readTrigger {G : GG} {l : Launch} {r : Int32} {M M' : Mem}  (h : f_X4_readTrigger  M = some (r, M')) : Met l yX4_readTrigger (wsO yX4_readTrigger cX4_readTrigger 2 (some .boolean)) (rmO 3) (PcO G [.ref (G.2.1 (3, 0, 0))] M) (QiO G (AA G) r M') 0 0 (AA G) :=
  met_of (own := RX4) rfl (by decide +kernel) (Nat.le_of_ble_eq_true rfl) (fun p e s m args below meth c X hr => t_X4_readTrigger X hr  h)
-- ConverterScanner$Parser.readWindowChannels
def f_X4_readWindowChannels_25 (r2 : Nat → Nat → Int32 → Mem → Option (Int32 × Mem)) (c1 : Nat) (j1 : Nat) (x2 : Int32) (M : Mem) : Option (Int32 × Mem) :=
  bnd (f_X4_takeNumber 0 (M.1 (8, c1, j1) 4) M) (fun r1 M2 => if r1 = 0 then some (0, M2) else nm (uI M2 (8, c1, j1) 4 ((M2.1 (8, c1, j1) 4) ||| (1 <<< ((M2.1 (3, 0, 0) 3) &&& 31)))) (fun M4 => nm (x2 + 1) (fun e5 => r2 c1 j1 e5 M4)))
set_option maxHeartbeats 4000000 in
set_option maxRecDepth 100000 in
theorem t_X4_readWindowChannels_25 {G : GG} {A : Nat → Prop} {p : Program} {l : Launch} {e : Env} {s : State} {m : MethodId} {args : Array Value} {below : List Frame} {meth : Method} {c : Code} {r : Int32} {M' : Mem} (X : Cx G A p s m args meth c RX4 cX4_readWindowChannels 3) (hr : meth.sig.returnType = some .boolean) {r2 : Nat → Nat → Int32 → Mem → Option (Int32 × Mem)} (hr2 : ∀ (c1 : Nat) (j1 : Nat) (x2 : Int32) (M : Mem), c1 < 6 → j1 < 3 → r2 c1 j1 x2 M = some (r, M') → T G A p l e (rmO 3) s m args below meth c 3 0 0 (MQ below (QiO G A r M') args s 0 0 A) 2 [(0, .ref (G.2.1 (3, 0, 0))), (1, .ref (G.2.1 (8, c1, j1))), (2, .int x2)] [] M) {c1 : Nat} {j1 : Nat} {x2 : Int32} {M : Mem} (hc1 : c1 < 6) (hj1 : j1 < 3) (h : f_X4_readWindowChannels_25 r2 c1 j1 x2 M = some (r, M')) : T G A p l e (rmO 3) s m args below meth c 3 0 0 (MQ below (QiO G A r M') args s 0 0 A) 25 [(0, .ref (G.2.1 (3, 0, 0))), (1, .ref (G.2.1 (8, c1, j1))), (2, .int x2)] [] M := by
  unfold f_X4_readWindowChannels_25 at h
  refine r_aload_n (pc := 25) X dX4_readWindowChannels_25 rfl ?_
  refine r_getsW (pc := 26) X 0 (by decide) wf_X4_132 dX4_readWindowChannels_26 ?_
  refine r_aload_n (pc := 29) X dX4_readWindowChannels_29 rfl ?_
  refine r_getI (pc := 30) X ⟨hc1, hj1⟩ fl_X4_262 rfl dX4_readWindowChannels_30 ?_
  refine bndE h (fun r1 M2 h3 h => ?_)
  refine r_callVi2 (pc := 33) X ⟨(ltb rfl), (ltb rfl)⟩ rfl vy_X4_takeNumber my_X4_takeNumber ml_X4_135 ⟨Nat.le_of_ble_eq_true rfl, Nat.le_of_ble_eq_true rfl, Nat.le_of_ble_eq_true rfl, Nat.le_of_ble_eq_true rfl⟩ (c_X4_takeNumber (by decide) h3) (Nat.le_of_ble_eq_true rfl) dX4_readWindowChannels_33 ?_
  refine r_if_ne (pc := 36) X (tgt := 41) dX4_readWindowChannels_36 (by decide) h (fun h => ?_) (fun h => ?_)
  · refine r_aload_n (pc := 41) X dX4_readWindowChannels_41 rfl ?_
    refine r_dup (pc := 42) X dX4_readWindowChannels_42 rfl ?_
    refine r_getI (pc := 43) X ⟨hc1, hj1⟩ fl_X4_262 rfl dX4_readWindowChannels_43 ?_
    refine r_iconst (pc := 46) X (v := 1) dX4_readWindowChannels_46 (by decide) ?_
    refine r_aload_n (pc := 47) X dX4_readWindowChannels_47 rfl ?_
    refine r_getI (pc := 48) X ⟨(ltb rfl), (ltb rfl)⟩ fl_X4_139 rfl dX4_readWindowChannels_48 ?_
    refine r_ishl (pc := 51) X dX4_readWindowChannels_51 ?_
    refine r_ior (pc := 52) X dX4_readWindowChannels_52 ?_
    refine r_putIN (pc := 53) X ⟨hc1, hj1⟩ fp_X4_262 rfl dX4_readWindowChannels_53 h (fun M4 h => ?_)
    refine r_iincN (pc := 56) X (v0 := 1) rfl (by decide) (by decide) dX4_readWindowChannels_56 h (fun e5 h => ?_)
    refine r_goto (pc := 59) X (tgt := 2) dX4_readWindowChannels_59 (by decide) ?_
    exact T_sub (hr2 _ _ _ _ hc1 hj1 h) ⟨rfl, rfl, rfl, trivial⟩
  · refine r_iconst (pc := 39) X (v := 0) dX4_readWindowChannels_39 (by decide) ?_
    cases h
    exact r_zretc (pc := 40) X hr (by decide +kernel) dX4_readWindowChannels_40
def f_X4_readWindowChannels_2 : Nat → Nat → Nat → Int32 → Mem → Option (Int32 × Mem)
  | 0 => fun _ _ _ _ => none
  | n + 1 => fun c1 j1 x2 M => if 8 < x2 then some (1, M) else if x2 ≤ 0 then f_X4_readWindowChannels_25 (f_X4_readWindowChannels_2 n) c1 j1 x2 M else if (M.1 (6, 0, 0) 5) = 2 then f_X4_readWindowChannels_25 (f_X4_readWindowChannels_2 n) c1 j1 x2 M else some (1, M)
set_option maxHeartbeats 4000000 in
set_option maxRecDepth 100000 in
theorem t_X4_readWindowChannels_2 {G : GG} {A : Nat → Prop} {p : Program} {l : Launch} {e : Env} {s : State} {m : MethodId} {args : Array Value} {below : List Frame} {meth : Method} {c : Code} {r : Int32} {M' : Mem} (X : Cx G A p s m args meth c RX4 cX4_readWindowChannels 3) (hr : meth.sig.returnType = some .boolean) : ∀ (n : Nat) (c1 : Nat) (j1 : Nat) (x2 : Int32) (M : Mem), c1 < 6 → j1 < 3 → f_X4_readWindowChannels_2 n c1 j1 x2 M = some (r, M') → T G A p l e (rmO 3) s m args below meth c 3 0 0 (MQ below (QiO G A r M') args s 0 0 A) 2 [(0, .ref (G.2.1 (3, 0, 0))), (1, .ref (G.2.1 (8, c1, j1))), (2, .int x2)] [] M := by
  intro n
  induction n with
  | zero =>
    intro c1 j1 x2 M hc1 hj1 h
    cases h
  | succ n ih =>
    intro c1 j1 x2 M hc1 hj1 h
    unfold f_X4_readWindowChannels_2 at h
    refine r_iload_n (pc := 2) X dX4_readWindowChannels_2 rfl ?_
    refine r_bipush (pc := 3) X (v := 8) dX4_readWindowChannels_3 (by decide) ?_
    refine r_icmp_gt (pc := 5) X (tgt := 62) dX4_readWindowChannels_5 (by decide) h (fun h => ?_) (fun h => ?_)
    · refine r_iconst (pc := 62) X (v := 1) dX4_readWindowChannels_62 (by decide) ?_
      cases h
      exact r_zretc (pc := 63) X hr (by decide +kernel) dX4_readWindowChannels_63
    · refine r_iload_n (pc := 8) X dX4_readWindowChannels_8 rfl ?_
      refine r_if_le (pc := 9) X (tgt := 25) dX4_readWindowChannels_9 (by decide) h (fun h => ?_) (fun h => ?_)
      · exact T_sub (t_X4_readWindowChannels_25 X hr ih hc1 hj1 h) ⟨rfl, rfl, rfl, trivial⟩
      · refine r_aload_n (pc := 12) X dX4_readWindowChannels_12 rfl ?_
        refine r_getR (q := (6, 0, 0)) (pc := 13) X ⟨(ltb rfl), (ltb rfl)⟩ fl_X4_12 rfl dX4_readWindowChannels_13 ?_
        refine r_getI (pc := 16) X ⟨(ltb rfl), (ltb rfl)⟩ fl_X4_57 rfl dX4_readWindowChannels_16 ?_
        refine r_iconst (pc := 19) X (v := 2) dX4_readWindowChannels_19 (by decide) ?_
        refine r_icmp_eq (pc := 20) X (tgt := 25) dX4_readWindowChannels_20 (by decide) h (fun h => ?_) (fun h => ?_)
        · exact T_sub (t_X4_readWindowChannels_25 X hr ih hc1 hj1 h) ⟨rfl, rfl, rfl, trivial⟩
        · refine r_iconst (pc := 23) X (v := 1) dX4_readWindowChannels_23 (by decide) ?_
          cases h
          exact r_zretc (pc := 24) X hr (by decide +kernel) dX4_readWindowChannels_24
def f_X4_readWindowChannels (c1 : Nat) (j1 : Nat) (M : Mem) : Option (Int32 × Mem) :=
  f_X4_readWindowChannels_2 fuelN c1 j1 0 M
set_option maxHeartbeats 4000000 in
set_option maxRecDepth 100000 in
theorem t_X4_readWindowChannels {G : GG} {A : Nat → Prop} {p : Program} {l : Launch} {e : Env} {s : State} {m : MethodId} {args : Array Value} {below : List Frame} {meth : Method} {c : Code} {r : Int32} {M' : Mem} (X : Cx G A p s m args meth c RX4 cX4_readWindowChannels 3) (hr : meth.sig.returnType = some .boolean) {c1 : Nat} {j1 : Nat} {M : Mem} (hc1 : c1 < 6) (hj1 : j1 < 3) (h : f_X4_readWindowChannels c1 j1 M = some (r, M')) : T G A p l e (rmO 3) s m args below meth c 3 0 0 (MQ below (QiO G A r M') args s 0 0 A) 0 [(0, .ref (G.2.1 (3, 0, 0))), (1, .ref (G.2.1 (8, c1, j1)))] [] M := by
  unfold f_X4_readWindowChannels at h
  refine r_iconst (pc := 0) X (v := 0) dX4_readWindowChannels_0 (by decide) ?_
  refine r_istore_n (pc := 1) X (by decide) dX4_readWindowChannels_1 ?_
  exact T_sub (t_X4_readWindowChannels_2 X hr _ _ _ _ _ hc1 hj1 h) ⟨rfl, rfl, rfl, trivial⟩
theorem c_X4_readWindowChannels {G : GG} {l : Launch} {c1 : Nat} {j1 : Nat} {r : Int32} {M M' : Mem} (hc1 : c1 < 6) (hj1 : j1 < 3) (h : f_X4_readWindowChannels c1 j1 M = some (r, M')) : Met l yX4_readWindowChannels (wsO yX4_readWindowChannels cX4_readWindowChannels 3 (some .boolean)) (rmO 3) (PcO G [.ref (G.2.1 (3, 0, 0)), .ref (G.2.1 (8, c1, j1))] M) (QiO G (AA G) r M') 0 0 (AA G) :=
  met_of (own := RX4) rfl (by decide +kernel) (Nat.le_of_ble_eq_true rfl) (fun p e s m args below meth c X hr => t_X4_readWindowChannels X hr hc1 hj1 h)
-- ConverterScanner$Parser.takeHighBound
def f_X4_takeHighBound (x1 : Int32) (M : Mem) : Option (Int32 × Mem) :=
  if (M.1 (6, 0, 0) 5) = 2 then if x1 ≤ (M.1 (6, 0, 0) 6) then bnd (f_X4_takeNumber 19 0 M) (fun r4 M5 => if ¬ (r4 = 0 ∨ r4 = 1) then none else some (r4, M5)) else bnd (f_X4_fail 2 M) (fun r7 M8 => if ¬ (r7 = 0 ∨ r7 = 1) then none else some (r7, M8)) else bnd (f_X4_takeNumber 19 0 M) (fun r1 M2 => if ¬ (r1 = 0 ∨ r1 = 1) then none else some (r1, M2))
set_option maxHeartbeats 4000000 in
set_option maxRecDepth 100000 in
theorem t_X4_takeHighBound {G : GG} {A : Nat → Prop} {p : Program} {l : Launch} {e : Env} {s : State} {m : MethodId} {args : Array Value} {below : List Frame} {meth : Method} {c : Code} {r : Int32} {M' : Mem} (X : Cx G A p s m args meth c RX4 cX4_takeHighBound 2) (hr : meth.sig.returnType = some .boolean) {x1 : Int32} {M : Mem}  (h : f_X4_takeHighBound x1 M = some (r, M')) : T G A p l e (rmO 3) s m args below meth c 2 0 0 (MQ below (QiO G A r M') args s 0 0 A) 0 [(0, .ref (G.2.1 (3, 0, 0))), (1, .int x1)] [] M := by
  unfold f_X4_takeHighBound at h
  refine r_aload_n (pc := 0) X dX4_takeHighBound_0 rfl ?_
  refine r_getR (q := (6, 0, 0)) (pc := 1) X ⟨(ltb rfl), (ltb rfl)⟩ fl_X4_12 rfl dX4_takeHighBound_1 ?_
  refine r_getI (pc := 4) X ⟨(ltb rfl), (ltb rfl)⟩ fl_X4_57 rfl dX4_takeHighBound_4 ?_
  refine r_iconst (pc := 7) X (v := 2) dX4_takeHighBound_7 (by decide) ?_
  refine r_icmp_ne (pc := 8) X (tgt := 28) dX4_takeHighBound_8 (by decide) h (fun h => ?_) (fun h => ?_)
  · refine r_aload_n (pc := 28) X dX4_takeHighBound_28 rfl ?_
    refine r_getsW (pc := 29) X 19 (by decide) wf_X4_240 dX4_takeHighBound_29 ?_
    refine r_iconst (pc := 32) X (v := 0) dX4_takeHighBound_32 (by decide) ?_
    refine bndE h (fun r1 M2 h3 h => ?_)
    refine r_callVi2 (pc := 33) X ⟨(ltb rfl), (ltb rfl)⟩ rfl vy_X4_takeNumber my_X4_takeNumber ml_X4_135 ⟨Nat.le_of_ble_eq_true rfl, Nat.le_of_ble_eq_true rfl, Nat.le_of_ble_eq_true rfl, Nat.le_of_ble_eq_true rfl⟩ (c_X4_takeNumber (by decide) h3) (Nat.le_of_ble_eq_true rfl) dX4_takeHighBound_33 ?_
    exact r_zret (pc := 36) X hr dX4_takeHighBound_36 h
  · refine r_aload_n (pc := 11) X dX4_takeHighBound_11 rfl ?_
    refine r_getR (q := (6, 0, 0)) (pc := 12) X ⟨(ltb rfl), (ltb rfl)⟩ fl_X4_12 rfl dX4_takeHighBound_12 ?_
    refine r_getI (pc := 15) X ⟨(ltb rfl), (ltb rfl)⟩ fl_X4_187 rfl dX4_takeHighBound_15 ?_
    refine r_iload_n (pc := 18) X dX4_takeHighBound_18 rfl ?_
    refine r_icmp_ge (pc := 19) X (tgt := 28) dX4_takeHighBound_19 (by decide) h (fun h => ?_) (fun h => ?_)
    · refine r_aload_n (pc := 28) X dX4_takeHighBound_28 rfl ?_
      refine r_getsW (pc := 29) X 19 (by decide) wf_X4_240 dX4_takeHighBound_29 ?_
      refine r_iconst (pc := 32) X (v := 0) dX4_takeHighBound_32 (by decide) ?_
      refine bndE h (fun r4 M5 h6 h => ?_)
      refine r_callVi2 (pc := 33) X ⟨(ltb rfl), (ltb rfl)⟩ rfl vy_X4_takeNumber my_X4_takeNumber ml_X4_135 ⟨Nat.le_of_ble_eq_true rfl, Nat.le_of_ble_eq_true rfl, Nat.le_of_ble_eq_true rfl, Nat.le_of_ble_eq_true rfl⟩ (c_X4_takeNumber (by decide) h6) (Nat.le_of_ble_eq_true rfl) dX4_takeHighBound_33 ?_
      exact r_zret (pc := 36) X hr dX4_takeHighBound_36 h
    · refine r_aload_n (pc := 22) X dX4_takeHighBound_22 rfl ?_
      refine r_iconst (pc := 23) X (v := 2) dX4_takeHighBound_23 (by decide) ?_
      refine bndE h (fun r7 M8 h9 h => ?_)
      refine r_callVi1 (pc := 24) X ⟨(ltb rfl), (ltb rfl)⟩ rfl vy_X4_fail my_X4_fail ml_X4_126 ⟨Nat.le_of_ble_eq_true rfl, Nat.le_of_ble_eq_true rfl, Nat.le_of_ble_eq_true rfl, Nat.le_of_ble_eq_true rfl⟩ (c_X4_fail  h9) (Nat.le_of_ble_eq_true rfl) dX4_takeHighBound_24 ?_
      exact r_zret (pc := 27) X hr dX4_takeHighBound_27 h
theorem c_X4_takeHighBound {G : GG} {l : Launch} {x1 : Int32} {r : Int32} {M M' : Mem}  (h : f_X4_takeHighBound x1 M = some (r, M')) : Met l yX4_takeHighBound (wsO yX4_takeHighBound cX4_takeHighBound 2 (some .boolean)) (rmO 3) (PcO G [.ref (G.2.1 (3, 0, 0)), .int x1] M) (QiO G (AA G) r M') 0 0 (AA G) :=
  met_of (own := RX4) rfl (by decide +kernel) (Nat.le_of_ble_eq_true rfl) (fun p e s m args below meth c X hr => t_X4_takeHighBound X hr  h)
-- ConverterScanner$Parser.readWindow
def f_X4_readWindow_171  (M : Mem) : Option (Int32 × Mem) :=
  some (0, M)
set_option maxHeartbeats 4000000 in
set_option maxRecDepth 100000 in
theorem t_X4_readWindow_171 {G : GG} {A : Nat → Prop} {p : Program} {l : Launch} {e : Env} {s : State} {m : MethodId} {args : Array Value} {below : List Frame} {meth : Method} {c : Code} {r : Int32} {M' : Mem} (X : Cx G A p s m args meth c RX4 cX4_readWindow 2) (hr : meth.sig.returnType = some .boolean) {M : Mem}  (h : f_X4_readWindow_171 M = some (r, M')) : T G A p l e (rmO 4) s m args below meth c 2 0 0 (MQ below (QiO G A r M') args s 0 0 A) 171 [] [] M := by
  unfold f_X4_readWindow_171 at h
  refine r_iconst (pc := 171) X (v := 0) dX4_readWindow_171 (by decide) ?_
  cases h
  exact r_zretc (pc := 172) X hr (by decide +kernel) dX4_readWindow_172
def f_X4_readWindow  (M : Mem) : Option (Int32 × Mem) :=
  bnd (f_X7_next  M) (fun r1 M2 => bnd (f_X4_takeNumber 7 (M2.1 (3, 0, 0) 6) M2) (fun r4 M5 => if r4 = 0 then some (0, M5) else nm (uI M5 (3, 0, 0) 6 ((M5.1 (3, 0, 0) 6) ||| (1 <<< ((M5.1 (3, 0, 0) 3) &&& 31)))) (fun M7 => if bad (M7.1 (3, 0, 0) 3) 3 then none else nm (uI M7 (8, 2, (Int32.toNatClampNeg (M7.1 (3, 0, 0) 3))) 0 1) (fun M9 => bnd (f_X4_takeWord 18 M9) (fun r10 M11 => if r10 = 0 then some (0, M11) else bnd (f_X4_takeNumber 18 0 M11) (fun r13 M14 => if r13 = 0 then some (0, M14) else nm (uI M14 (8, 2, (Int32.toNatClampNeg (M7.1 (3, 0, 0) 3))) 1 (M14.1 (3, 0, 0) 3)) (fun M16 => bnd (f_X4_takeWord 19 M16) (fun r17 M18 => if r17 = 0 then some (0, M18) else bnd (f_X4_takeHighBound (M18.1 (8, 2, (Int32.toNatClampNeg (M7.1 (3, 0, 0) 3))) 1) M18) (fun r20 M21 => if r20 = 0 then some (0, M21) else nm (uI M21 (8, 2, (Int32.toNatClampNeg (M7.1 (3, 0, 0) 3))) 2 (M21.1 (3, 0, 0) 3)) (fun M23 => bnd (f_X4_takeWord 20 M23) (fun r24 M25 => if r24 = 0 then some (0, M25) else bnd (f_X4_takeNumber 20 0 M25) (fun r27 M28 => if r27 = 0 then some (0, M28) else nm (uI M28 (8, 2, (Int32.toNatClampNeg (M7.1 (3, 0, 0) 3))) 3 (M28.1 (3, 0, 0) 3)) (fun M30 => bnd (f_X4_takeWord 21 M30) (fun r31 M32 => if r31 = 0 then f_X4_readWindow_171  M32 else bnd (f_X4_readWindowChannels 2 (Int32.toNatClampNeg (M7.1 (3, 0, 0) 3)) M32) (fun r34 M35 => if r34 = 0 then f_X4_readWindow_171  M35 else some (1, M35))))))))))))))))
set_option maxHeartbeats 4000000 in
set_option maxRecDepth 100000 in
theorem t_X4_readWindow {G : GG} {A : Nat → Prop} {p : Program} {l : Launch} {e : Env} {s : State} {m : MethodId} {args : Array Value} {below : List Frame} {meth : Method} {c : Code} {r : Int32} {M' : Mem} (X : Cx G A p s m args meth c RX4 cX4_readWindow 2) (hr : meth.sig.returnType = some .boolean) {M : Mem}  (h : f_X4_readWindow M = some (r, M')) : T G A p l e (rmO 4) s m args below meth c 2 0 0 (MQ below (QiO G A r M') args s 0 0 A) 0 [(0, .ref (G.2.1 (3, 0, 0)))] [] M := by
  unfold f_X4_readWindow at h
  refine r_aload_n (pc := 0) X dX4_readWindow_0 rfl ?_
  refine r_getR (q := (6, 0, 0)) (pc := 1) X ⟨(ltb rfl), (ltb rfl)⟩ fl_X4_12 rfl dX4_readWindow_1 ?_
  refine bndE h (fun r1 M2 h3 h => ?_)
  refine r_callVv0 (pc := 4) X ⟨(ltb rfl), (ltb rfl)⟩ rfl vy_X7_next my_X7_next ml_X4_129 ⟨Nat.le_of_ble_eq_true rfl, Nat.le_of_ble_eq_true rfl, Nat.le_of_ble_eq_true rfl, Nat.le_of_ble_eq_true rfl⟩ (c_X7_next  h3) (Nat.le_of_ble_eq_true rfl) dX4_readWindow_4 ?_
  refine r_aload_n (pc := 7) X dX4_readWindow_7 rfl ?_
  refine r_getsW (pc := 8) X 7 (by decide) wf_X4_222 dX4_readWindow_8 ?_
  refine r_aload_n (pc := 11) X dX4_readWindow_11 rfl ?_
  refine r_getI (pc := 12) X ⟨(ltb rfl), (ltb rfl)⟩ fl_X4_41 rfl dX4_readWindow_12 ?_
  refine bndE h (fun r4 M5 h6 h => ?_)
  refine r_callVi2 (pc := 15) X ⟨(ltb rfl), (ltb rfl)⟩ rfl vy_X4_takeNumber my_X4_takeNumber ml_X4_135 ⟨Nat.le_of_ble_eq_true rfl, Nat.le_of_ble_eq_true rfl, Nat.le_of_ble_eq_true rfl, Nat.le_of_ble_eq_true rfl⟩ (c_X4_takeNumber (by decide) h6) (Nat.le_of_ble_eq_true rfl) dX4_readWindow_15 ?_
  refine r_if_ne (pc := 18) X (tgt := 23) dX4_readWindow_18 (by decide) h (fun h => ?_) (fun h => ?_)
  · refine r_aload_n (pc := 23) X dX4_readWindow_23 rfl ?_
    refine r_dup (pc := 24) X dX4_readWindow_24 rfl ?_
    refine r_getI (pc := 25) X ⟨(ltb rfl), (ltb rfl)⟩ fl_X4_41 rfl dX4_readWindow_25 ?_
    refine r_iconst (pc := 28) X (v := 1) dX4_readWindow_28 (by decide) ?_
    refine r_aload_n (pc := 29) X dX4_readWindow_29 rfl ?_
    refine r_getI (pc := 30) X ⟨(ltb rfl), (ltb rfl)⟩ fl_X4_139 rfl dX4_readWindow_30 ?_
    refine r_ishl (pc := 33) X dX4_readWindow_33 ?_
    refine r_ior (pc := 34) X dX4_readWindow_34 ?_
    refine r_putIN (pc := 35) X ⟨(ltb rfl), (ltb rfl)⟩ fp_X4_41 rfl dX4_readWindow_35 h (fun M7 h => ?_)
    refine r_aload_n (pc := 38) X dX4_readWindow_38 rfl ?_
    refine r_getR (q := (2, 2, 0)) (pc := 39) X ⟨(ltb rfl), (ltb rfl)⟩ fl_X4_21 rfl dX4_readWindow_39 ?_
    refine r_getR (q := (26, 2, 0)) (pc := 42) X ⟨(ltb rfl), (ltb rfl)⟩ fl_X4_225 rfl dX4_readWindow_42 ?_
    refine r_aload_n (pc := 45) X dX4_readWindow_45 rfl ?_
    refine r_getI (pc := 46) X ⟨(ltb rfl), (ltb rfl)⟩ fl_X4_139 rfl dX4_readWindow_46 ?_
    refine r_aald (pc := 49) X (t := 2) (n := 3) ⟨(ltb rfl), (ltb rfl)⟩ rfl (ltb rfl) (nlt rfl) dX4_readWindow_49 h (fun hb8 h => ?_)
    refine r_astore_n (pc := 50) X (by decide) dX4_readWindow_50 ?_
    refine r_aload_n (pc := 51) X dX4_readWindow_51 rfl ?_
    refine r_iconst (pc := 52) X (v := 1) dX4_readWindow_52 (by decide) ?_
    refine r_putZc (pc := 53) X ⟨(ltb rfl), (bad_lt hb8)⟩ fp_X4_229 rfl (by decide) dX4_readWindow_53 h (fun M9 h => ?_)
    refine r_aload_n (pc := 56) X dX4_readWindow_56 rfl ?_
    refine r_getsW (pc := 57) X 18 (by decide) wf_X4_234 dX4_readWindow_57 ?_
    refine bndE h (fun r10 M11 h12 h => ?_)
    refine r_callVi1 (pc := 60) X ⟨(ltb rfl), (ltb rfl)⟩ rfl vy_X4_takeWord my_X4_takeWord ml_X4_206 ⟨Nat.le_of_ble_eq_true rfl, Nat.le_of_ble_eq_true rfl, Nat.le_of_ble_eq_true rfl, Nat.le_of_ble_eq_true rfl⟩ (c_X4_takeWord (by decide) h12) (Nat.le_of_ble_eq_true rfl) dX4_readWindow_60 ?_
    refine r_if_eq (pc := 63) X (tgt := 77) dX4_readWindow_63 (by decide) h (fun h => ?_) (fun h => ?_)
    · refine r_iconst (pc := 77) X (v := 0) dX4_readWindow_77 (by decide) ?_
      cases h
      exact r_zretc (pc := 78) X hr (by decide +kernel) dX4_readWindow_78
    · refine r_aload_n (pc := 66) X dX4_readWindow_66 rfl ?_
      refine r_getsW (pc := 67) X 18 (by decide) wf_X4_234 dX4_readWindow_67 ?_
      refine r_iconst (pc := 70) X (v := 0) dX4_readWindow_70 (by decide) ?_
      refine bndE h (fun r13 M14 h15 h => ?_)
      refine r_callVi2 (pc := 71) X ⟨(ltb rfl), (ltb rfl)⟩ rfl vy_X4_takeNumber my_X4_takeNumber ml_X4_135 ⟨Nat.le_of_ble_eq_true rfl, Nat.le_of_ble_eq_true rfl, Nat.le_of_ble_eq_true rfl, Nat.le_of_ble_eq_true rfl⟩ (c_X4_takeNumber (by decide) h15) (Nat.le_of_ble_eq_true rfl) dX4_readWindow_71 ?_
      refine r_if_ne (pc := 74) X (tgt := 79) dX4_readWindow_74 (by decide) h (fun h => ?_) (fun h => ?_)
      · refine r_aload_n (pc := 79) X dX4_readWindow_79 rfl ?_
        refine r_aload_n (pc := 80) X dX4_readWindow_80 rfl ?_
        refine r_getI (pc := 81) X ⟨(ltb rfl), (ltb rfl)⟩ fl_X4_139 rfl dX4_readWindow_81 ?_
        refine r_putIN (pc := 84) X ⟨(ltb rfl), (bad_lt hb8)⟩ fp_X4_237 rfl dX4_readWindow_84 h (fun M16 h => ?_)
        refine r_aload_n (pc := 87) X dX4_readWindow_87 rfl ?_
        refine r_getsW (pc := 88) X 19 (by decide) wf_X4_240 dX4_readWindow_88 ?_
        refine bndE h (fun r17 M18 h19 h => ?_)
        refine r_callVi1 (pc := 91) X ⟨(ltb rfl), (ltb rfl)⟩ rfl vy_X4_takeWord my_X4_takeWord ml_X4_206 ⟨Nat.le_of_ble_eq_true rfl, Nat.le_of_ble_eq_true rfl, Nat.le_of_ble_eq_true rfl, Nat.le_of_ble_eq_true rfl⟩ (c_X4_takeWord (by decide) h19) (Nat.le_of_ble_eq_true rfl) dX4_readWindow_91 ?_
        refine r_if_eq (pc := 94) X (tgt := 108) dX4_readWindow_94 (by decide) h (fun h => ?_) (fun h => ?_)
        · refine r_iconst (pc := 108) X (v := 0) dX4_readWindow_108 (by decide) ?_
          cases h
          exact r_zretc (pc := 109) X hr (by decide +kernel) dX4_readWindow_109
        · refine r_aload_n (pc := 97) X dX4_readWindow_97 rfl ?_
          refine r_aload_n (pc := 98) X dX4_readWindow_98 rfl ?_
          refine r_getI (pc := 99) X ⟨(ltb rfl), (bad_lt hb8)⟩ fl_X4_237 rfl dX4_readWindow_99 ?_
          refine bndE h (fun r20 M21 h22 h => ?_)
          refine r_callVi1 (pc := 102) X ⟨(ltb rfl), (ltb rfl)⟩ rfl vy_X4_takeHighBound my_X4_takeHighBound ml_X4_243 ⟨Nat.le_of_ble_eq_true rfl, Nat.le_of_ble_eq_true rfl, Nat.le_of_ble_eq_true rfl, Nat.le_of_ble_eq_true rfl⟩ (c_X4_takeHighBound  h22) (Nat.le_of_ble_eq_true rfl) dX4_readWindow_102 ?_
          refine r_if_ne (pc := 105) X (tgt := 110) dX4_readWindow_105 (by decide) h (fun h => ?_) (fun h => ?_)
          · refine r_aload_n (pc := 110) X dX4_readWindow_110 rfl ?_
            refine r_aload_n (pc := 111) X dX4_readWindow_111 rfl ?_
            refine r_getI (pc := 112) X ⟨(ltb rfl), (ltb rfl)⟩ fl_X4_139 rfl dX4_readWindow_112 ?_
            refine r_putIN (pc := 115) X ⟨(ltb rfl), (bad_lt hb8)⟩ fp_X4_246 rfl dX4_readWindow_115 h (fun M23 h => ?_)
            refine r_aload_n (pc := 118) X dX4_readWindow_118 rfl ?_
            refine r_getsW (pc := 119) X 20 (by decide) wf_X4_249 dX4_readWindow_119 ?_
            refine bndE h (fun r24 M25 h26 h => ?_)
            refine r_callVi1 (pc := 122) X ⟨(ltb rfl), (ltb rfl)⟩ rfl vy_X4_takeWord my_X4_takeWord ml_X4_206 ⟨Nat.le_of_ble_eq_true rfl, Nat.le_of_ble_eq_true rfl, Nat.le_of_ble_eq_true rfl, Nat.le_of_ble_eq_true rfl⟩ (c_X4_takeWord (by decide) h26) (Nat.le_of_ble_eq_true rfl) dX4_readWindow_122 ?_
            refine r_if_eq (pc := 125) X (tgt := 139) dX4_readWindow_125 (by decide) h (fun h => ?_) (fun h => ?_)
            · refine r_iconst (pc := 139) X (v := 0) dX4_readWindow_139 (by decide) ?_
              cases h
              exact r_zretc (pc := 140) X hr (by decide +kernel) dX4_readWindow_140
            · refine r_aload_n (pc := 128) X dX4_readWindow_128 rfl ?_
              refine r_getsW (pc := 129) X 20 (by decide) wf_X4_249 dX4_readWindow_129 ?_
              refine r_iconst (pc := 132) X (v := 0) dX4_readWindow_132 (by decide) ?_
              refine bndE h (fun r27 M28 h29 h => ?_)
              refine r_callVi2 (pc := 133) X ⟨(ltb rfl), (ltb rfl)⟩ rfl vy_X4_takeNumber my_X4_takeNumber ml_X4_135 ⟨Nat.le_of_ble_eq_true rfl, Nat.le_of_ble_eq_true rfl, Nat.le_of_ble_eq_true rfl, Nat.le_of_ble_eq_true rfl⟩ (c_X4_takeNumber (by decide) h29) (Nat.le_of_ble_eq_true rfl) dX4_readWindow_133 ?_
              refine r_if_ne (pc := 136) X (tgt := 141) dX4_readWindow_136 (by decide) h (fun h => ?_) (fun h => ?_)
              · refine r_aload_n (pc := 141) X dX4_readWindow_141 rfl ?_
                refine r_aload_n (pc := 142) X dX4_readWindow_142 rfl ?_
                refine r_getI (pc := 143) X ⟨(ltb rfl), (ltb rfl)⟩ fl_X4_139 rfl dX4_readWindow_143 ?_
                refine r_putIN (pc := 146) X ⟨(ltb rfl), (bad_lt hb8)⟩ fp_X4_252 rfl dX4_readWindow_146 h (fun M30 h => ?_)
                refine r_aload_n (pc := 149) X dX4_readWindow_149 rfl ?_
                refine r_getsW (pc := 150) X 21 (by decide) wf_X4_255 dX4_readWindow_150 ?_
                refine bndE h (fun r31 M32 h33 h => ?_)
                refine r_callVi1 (pc := 153) X ⟨(ltb rfl), (ltb rfl)⟩ rfl vy_X4_takeWord my_X4_takeWord ml_X4_206 ⟨Nat.le_of_ble_eq_true rfl, Nat.le_of_ble_eq_true rfl, Nat.le_of_ble_eq_true rfl, Nat.le_of_ble_eq_true rfl⟩ (c_X4_takeWord (by decide) h33) (Nat.le_of_ble_eq_true rfl) dX4_readWindow_153 ?_
                refine r_if_eq (pc := 156) X (tgt := 171) dX4_readWindow_156 (by decide) h (fun h => ?_) (fun h => ?_)
                · exact T_sub (t_X4_readWindow_171 X hr h) trivial
                · refine r_aload_n (pc := 159) X dX4_readWindow_159 rfl ?_
                  refine r_aload_n (pc := 160) X dX4_readWindow_160 rfl ?_
                  refine bndE h (fun r34 M35 h36 h => ?_)
                  refine r_callVi1 (pc := 161) X ⟨(ltb rfl), (ltb rfl)⟩ rfl vy_X4_readWindowChannels my_X4_readWindowChannels ml_X4_258 ⟨Nat.le_of_ble_eq_true rfl, Nat.le_of_ble_eq_true rfl, Nat.le_of_ble_eq_true rfl, Nat.le_of_ble_eq_true rfl⟩ (c_X4_readWindowChannels (ltb rfl) (bad_lt hb8) h36) (Nat.le_of_ble_eq_true rfl) dX4_readWindow_161 ?_
                  refine r_if_eq (pc := 164) X (tgt := 171) dX4_readWindow_164 (by decide) h (fun h => ?_) (fun h => ?_)
                  · exact T_sub (t_X4_readWindow_171 X hr h) trivial
                  · refine r_iconst (pc := 167) X (v := 1) dX4_readWindow_167 (by decide) ?_
                    refine r_goto (pc := 168) X (tgt := 172) dX4_readWindow_168 (by decide) ?_
                    cases h
                    exact r_zretc (pc := 172) X hr (by decide +kernel) dX4_readWindow_172
              · refine r_iconst (pc := 139) X (v := 0) dX4_readWindow_139 (by decide) ?_
                cases h
                exact r_zretc (pc := 140) X hr (by decide +kernel) dX4_readWindow_140
          · refine r_iconst (pc := 108) X (v := 0) dX4_readWindow_108 (by decide) ?_
            cases h
            exact r_zretc (pc := 109) X hr (by decide +kernel) dX4_readWindow_109
      · refine r_iconst (pc := 77) X (v := 0) dX4_readWindow_77 (by decide) ?_
        cases h
        exact r_zretc (pc := 78) X hr (by decide +kernel) dX4_readWindow_78
  · refine r_iconst (pc := 21) X (v := 0) dX4_readWindow_21 (by decide) ?_
    cases h
    exact r_zretc (pc := 22) X hr (by decide +kernel) dX4_readWindow_22
theorem c_X4_readWindow {G : GG} {l : Launch} {r : Int32} {M M' : Mem}  (h : f_X4_readWindow  M = some (r, M')) : Met l yX4_readWindow (wsO yX4_readWindow cX4_readWindow 2 (some .boolean)) (rmO 4) (PcO G [.ref (G.2.1 (3, 0, 0))] M) (QiO G (AA G) r M') 0 0 (AA G) :=
  met_of (own := RX4) rfl (by decide +kernel) (Nat.le_of_ble_eq_true rfl) (fun p e s m args below meth c X hr => t_X4_readWindow X hr  h)
-- ConverterScanner$Parser.takeFirstWord
def f_X4_takeFirstWord  (M : Mem) : Option (Int32 × Mem) :=
  wck (M.1 (6, 0, 0) 7) (fun v1 => if ((M.1 (3, 0, 0) 4) &&& (wBit.getD v1 0)) = 0 then wck (M.1 (6, 0, 0) 7) (fun v2 => nm (uI M (3, 0, 0) 4 ((M.1 (3, 0, 0) 4) ||| (wBit.getD v2 0))) (fun M3 => bnd (f_X7_next  M3) (fun r4 M5 => some (1, M5)))) else bnd (f_X4_fail 3 M) (fun r7 M8 => if ¬ (r7 = 0 ∨ r7 = 1) then none else some (r7, M8)))
set_option maxHeartbeats 4000000 in
set_option maxRecDepth 100000 in
theorem t_X4_takeFirstWord {G : GG} {A : Nat → Prop} {p : Program} {l : Launch} {e : Env} {s : State} {m : MethodId} {args : Array Value} {below : List Frame} {meth : Method} {c : Code} {r : Int32} {M' : Mem} (X : Cx G A p s m args meth c RX4 cX4_takeFirstWord 1) (hr : meth.sig.returnType = some .boolean) {M : Mem}  (h : f_X4_takeFirstWord M = some (r, M')) : T G A p l e (rmO 2) s m args below meth c 1 0 0 (MQ below (QiO G A r M') args s 0 0 A) 0 [(0, .ref (G.2.1 (3, 0, 0)))] [] M := by
  unfold f_X4_takeFirstWord at h
  refine r_aload_n (pc := 0) X dX4_takeFirstWord_0 rfl ?_
  refine r_getI (pc := 1) X ⟨(ltb rfl), (ltb rfl)⟩ fl_X4_35 rfl dX4_takeFirstWord_1 ?_
  refine r_aload_n (pc := 4) X dX4_takeFirstWord_4 rfl ?_
  refine r_getR (q := (6, 0, 0)) (pc := 5) X ⟨(ltb rfl), (ltb rfl)⟩ fl_X4_12 rfl dX4_takeFirstWord_5 ?_
  refine r_getW (pc := 8) X ⟨(ltb rfl), (ltb rfl)⟩ fl_X4_74 rfl dX4_takeFirstWord_8 h (fun v1 hv1 h => ?_)
  refine r_getw_bit (pc := 11) X hv1 wf_X4_149 dX4_takeFirstWord_11 ?_
  refine r_iand (pc := 14) X dX4_takeFirstWord_14 ?_
  refine r_if_eq (pc := 15) X (tgt := 24) dX4_takeFirstWord_15 (by decide) h (fun h => ?_) (fun h => ?_)
  · refine r_aload_n (pc := 24) X dX4_takeFirstWord_24 rfl ?_
    refine r_dup (pc := 25) X dX4_takeFirstWord_25 rfl ?_
    refine r_getI (pc := 26) X ⟨(ltb rfl), (ltb rfl)⟩ fl_X4_35 rfl dX4_takeFirstWord_26 ?_
    refine r_aload_n (pc := 29) X dX4_takeFirstWord_29 rfl ?_
    refine r_getR (q := (6, 0, 0)) (pc := 30) X ⟨(ltb rfl), (ltb rfl)⟩ fl_X4_12 rfl dX4_takeFirstWord_30 ?_
    refine r_getW (pc := 33) X ⟨(ltb rfl), (ltb rfl)⟩ fl_X4_74 rfl dX4_takeFirstWord_33 h (fun v2 hv2 h => ?_)
    refine r_getw_bit (pc := 36) X hv2 wf_X4_149 dX4_takeFirstWord_36 ?_
    refine r_ior (pc := 39) X dX4_takeFirstWord_39 ?_
    refine r_putIN (pc := 40) X ⟨(ltb rfl), (ltb rfl)⟩ fp_X4_35 rfl dX4_takeFirstWord_40 h (fun M3 h => ?_)
    refine r_aload_n (pc := 43) X dX4_takeFirstWord_43 rfl ?_
    refine r_getR (q := (6, 0, 0)) (pc := 44) X ⟨(ltb rfl), (ltb rfl)⟩ fl_X4_12 rfl dX4_takeFirstWord_44 ?_
    refine bndE h (fun r4 M5 h6 h => ?_)
    refine r_callVv0 (pc := 47) X ⟨(ltb rfl), (ltb rfl)⟩ rfl vy_X7_next my_X7_next ml_X4_129 ⟨Nat.le_of_ble_eq_true rfl, Nat.le_of_ble_eq_true rfl, Nat.le_of_ble_eq_true rfl, Nat.le_of_ble_eq_true rfl⟩ (c_X7_next  h6) (Nat.le_of_ble_eq_true rfl) dX4_takeFirstWord_47 ?_
    refine r_iconst (pc := 50) X (v := 1) dX4_takeFirstWord_50 (by decide) ?_
    cases h
    exact r_zretc (pc := 51) X hr (by decide +kernel) dX4_takeFirstWord_51
  · refine r_aload_n (pc := 18) X dX4_takeFirstWord_18 rfl ?_
    refine r_iconst (pc := 19) X (v := 3) dX4_takeFirstWord_19 (by decide) ?_
    refine bndE h (fun r7 M8 h9 h => ?_)
    refine r_callVi1 (pc := 20) X ⟨(ltb rfl), (ltb rfl)⟩ rfl vy_X4_fail my_X4_fail ml_X4_126 ⟨Nat.le_of_ble_eq_true rfl, Nat.le_of_ble_eq_true rfl, Nat.le_of_ble_eq_true rfl, Nat.le_of_ble_eq_true rfl⟩ (c_X4_fail  h9) (Nat.le_of_ble_eq_true rfl) dX4_takeFirstWord_20 ?_
    exact r_zret (pc := 23) X hr dX4_takeFirstWord_23 h
theorem c_X4_takeFirstWord {G : GG} {l : Launch} {r : Int32} {M M' : Mem}  (h : f_X4_takeFirstWord  M = some (r, M')) : Met l yX4_takeFirstWord (wsO yX4_takeFirstWord cX4_takeFirstWord 1 (some .boolean)) (rmO 2) (PcO G [.ref (G.2.1 (3, 0, 0))] M) (QiO G (AA G) r M') 0 0 (AA G) :=
  met_of (own := RX4) rfl (by decide +kernel) (Nat.le_of_ble_eq_true rfl) (fun p e s m args below meth c X hr => t_X4_takeFirstWord X hr  h)
-- ConverterScanner$Parser.readStatement
def f_X4_readStatement_112  (M : Mem) : Option (Int32 × Mem) :=
  some (0, M)
set_option maxHeartbeats 4000000 in
set_option maxRecDepth 100000 in
theorem t_X4_readStatement_112 {G : GG} {A : Nat → Prop} {p : Program} {l : Launch} {e : Env} {s : State} {m : MethodId} {args : Array Value} {below : List Frame} {meth : Method} {c : Code} {r : Int32} {M' : Mem} (X : Cx G A p s m args meth c RX4 cX4_readStatement 1) (hr : meth.sig.returnType = some .boolean) {M : Mem}  (h : f_X4_readStatement_112 M = some (r, M')) : T G A p l e (rmO 5) s m args below meth c 1 0 0 (MQ below (QiO G A r M') args s 0 0 A) 112 [] [] M := by
  unfold f_X4_readStatement_112 at h
  refine r_iconst (pc := 112) X (v := 0) dX4_readStatement_112 (by decide) ?_
  cases h
  exact r_zretc (pc := 113) X hr (by decide +kernel) dX4_readStatement_113
def f_X4_readStatement_139  (M : Mem) : Option (Int32 × Mem) :=
  some (0, M)
set_option maxHeartbeats 4000000 in
set_option maxRecDepth 100000 in
theorem t_X4_readStatement_139 {G : GG} {A : Nat → Prop} {p : Program} {l : Launch} {e : Env} {s : State} {m : MethodId} {args : Array Value} {below : List Frame} {meth : Method} {c : Code} {r : Int32} {M' : Mem} (X : Cx G A p s m args meth c RX4 cX4_readStatement 1) (hr : meth.sig.returnType = some .boolean) {M : Mem}  (h : f_X4_readStatement_139 M = some (r, M')) : T G A p l e (rmO 5) s m args below meth c 1 0 0 (MQ below (QiO G A r M') args s 0 0 A) 139 [] [] M := by
  unfold f_X4_readStatement_139 at h
  refine r_iconst (pc := 139) X (v := 0) dX4_readStatement_139 (by decide) ?_
  cases h
  exact r_zretc (pc := 140) X hr (by decide +kernel) dX4_readStatement_140
def f_X4_readStatement_159  (M : Mem) : Option (Int32 × Mem) :=
  some (0, M)
set_option maxHeartbeats 4000000 in
set_option maxRecDepth 100000 in
theorem t_X4_readStatement_159 {G : GG} {A : Nat → Prop} {p : Program} {l : Launch} {e : Env} {s : State} {m : MethodId} {args : Array Value} {below : List Frame} {meth : Method} {c : Code} {r : Int32} {M' : Mem} (X : Cx G A p s m args meth c RX4 cX4_readStatement 1) (hr : meth.sig.returnType = some .boolean) {M : Mem}  (h : f_X4_readStatement_159 M = some (r, M')) : T G A p l e (rmO 5) s m args below meth c 1 0 0 (MQ below (QiO G A r M') args s 0 0 A) 159 [] [] M := by
  unfold f_X4_readStatement_159 at h
  refine r_iconst (pc := 159) X (v := 0) dX4_readStatement_159 (by decide) ?_
  cases h
  exact r_zretc (pc := 160) X hr (by decide +kernel) dX4_readStatement_160
def f_X4_readStatement_205  (M : Mem) : Option (Int32 × Mem) :=
  some (0, M)
set_option maxHeartbeats 4000000 in
set_option maxRecDepth 100000 in
theorem t_X4_readStatement_205 {G : GG} {A : Nat → Prop} {p : Program} {l : Launch} {e : Env} {s : State} {m : MethodId} {args : Array Value} {below : List Frame} {meth : Method} {c : Code} {r : Int32} {M' : Mem} (X : Cx G A p s m args meth c RX4 cX4_readStatement 1) (hr : meth.sig.returnType = some .boolean) {M : Mem}  (h : f_X4_readStatement_205 M = some (r, M')) : T G A p l e (rmO 5) s m args below meth c 1 0 0 (MQ below (QiO G A r M') args s 0 0 A) 205 [] [] M := by
  unfold f_X4_readStatement_205 at h
  refine r_iconst (pc := 205) X (v := 0) dX4_readStatement_205 (by decide) ?_
  cases h
  exact r_zretc (pc := 206) X hr (by decide +kernel) dX4_readStatement_206
def f_X4_readStatement_225  (M : Mem) : Option (Int32 × Mem) :=
  some (0, M)
set_option maxHeartbeats 4000000 in
set_option maxRecDepth 100000 in
theorem t_X4_readStatement_225 {G : GG} {A : Nat → Prop} {p : Program} {l : Launch} {e : Env} {s : State} {m : MethodId} {args : Array Value} {below : List Frame} {meth : Method} {c : Code} {r : Int32} {M' : Mem} (X : Cx G A p s m args meth c RX4 cX4_readStatement 1) (hr : meth.sig.returnType = some .boolean) {M : Mem}  (h : f_X4_readStatement_225 M = some (r, M')) : T G A p l e (rmO 5) s m args below meth c 1 0 0 (MQ below (QiO G A r M') args s 0 0 A) 225 [] [] M := by
  unfold f_X4_readStatement_225 at h
  refine r_iconst (pc := 225) X (v := 0) dX4_readStatement_225 (by decide) ?_
  cases h
  exact r_zretc (pc := 226) X hr (by decide +kernel) dX4_readStatement_226
def f_X4_readStatement_245  (M : Mem) : Option (Int32 × Mem) :=
  some (0, M)
set_option maxHeartbeats 4000000 in
set_option maxRecDepth 100000 in
theorem t_X4_readStatement_245 {G : GG} {A : Nat → Prop} {p : Program} {l : Launch} {e : Env} {s : State} {m : MethodId} {args : Array Value} {below : List Frame} {meth : Method} {c : Code} {r : Int32} {M' : Mem} (X : Cx G A p s m args meth c RX4 cX4_readStatement 1) (hr : meth.sig.returnType = some .boolean) {M : Mem}  (h : f_X4_readStatement_245 M = some (r, M')) : T G A p l e (rmO 5) s m args below meth c 1 0 0 (MQ below (QiO G A r M') args s 0 0 A) 245 [] [] M := by
  unfold f_X4_readStatement_245 at h
  refine r_iconst (pc := 245) X (v := 0) dX4_readStatement_245 (by decide) ?_
  cases h
  exact r_zretc (pc := 246) X hr (by decide +kernel) dX4_readStatement_246
def f_X4_readStatement  (M : Mem) : Option (Int32 × Mem) :=
  wck (M.1 (6, 0, 0) 7) (fun v1 => if (wSw.getD v1 0) = 1 then bnd (f_X4_readChannel  M) (fun r2 M3 => if ¬ (r2 = 0 ∨ r2 = 1) then none else some (r2, M3)) else if (wSw.getD v1 0) = 2 then bnd (f_X4_readWindow  M) (fun r5 M6 => if ¬ (r5 = 0 ∨ r5 = 1) then none else some (r5, M6)) else if (wSw.getD v1 0) = 3 then bnd (f_X4_readTrigger  M) (fun r8 M9 => if ¬ (r8 = 0 ∨ r8 = 1) then none else some (r8, M9)) else if (wSw.getD v1 0) = 4 then bnd (f_X4_takeFirstWord  M) (fun r11 M12 => if r11 = 0 then f_X4_readStatement_112  M12 else bnd (f_X4_readEntries 2 0 M12) (fun r14 M15 => if r14 = 0 then f_X4_readStatement_112  M15 else some (1, M15))) else if (wSw.getD v1 0) = 5 then bnd (f_X4_takeFirstWord  M) (fun r17 M18 => if r17 = 0 then f_X4_readStatement_139  M18 else bnd (f_X4_readEntries 2 1 M18) (fun r20 M21 => if r20 = 0 then f_X4_readStatement_139  M21 else some (1, M21))) else if (wSw.getD v1 0) = 6 then bnd (f_X4_takeFirstWord  M) (fun r23 M24 => if r23 = 0 then f_X4_readStatement_159  M24 else bnd (f_X4_readGroup  M24) (fun r26 M27 => if r26 = 0 then f_X4_readStatement_159  M27 else some (1, M27))) else if (wSw.getD v1 0) = 7 then nm (uI M (2, 2, 0) 9 1) (fun M29 => bnd (f_X4_takeFirstWord  M29) (fun r30 M31 => if ¬ (r30 = 0 ∨ r30 = 1) then none else some (r30, M31))) else if (wSw.getD v1 0) = 8 then nm (uI M (2, 2, 0) 10 1) (fun M33 => bnd (f_X4_takeFirstWord  M33) (fun r34 M35 => if ¬ (r34 = 0 ∨ r34 = 1) then none else some (r34, M35))) else if (wSw.getD v1 0) = 9 then bnd (f_X4_takeFirstWord  M) (fun r37 M38 => if r37 = 0 then f_X4_readStatement_205  M38 else bnd (f_X4_readOver  M38) (fun r40 M41 => if r40 = 0 then f_X4_readStatement_205  M41 else some (1, M41))) else if (wSw.getD v1 0) = 10 then bnd (f_X4_takeFirstWord  M) (fun r43 M44 => if r43 = 0 then f_X4_readStatement_225  M44 else bnd (f_X4_readQueue  M44) (fun r46 M47 => if r46 = 0 then f_X4_readStatement_225  M47 else some (1, M47))) else if (wSw.getD v1 0) = 11 then bnd (f_X4_takeFirstWord  M) (fun r49 M50 => if r49 = 0 then f_X4_readStatement_245  M50 else bnd (f_X4_readPace  M50) (fun r52 M53 => if r52 = 0 then f_X4_readStatement_245  M53 else some (1, M53))) else bnd (f_X4_fail 1 M) (fun r55 M56 => if ¬ (r55 = 0 ∨ r55 = 1) then none else some (r55, M56)))
set_option maxHeartbeats 4000000 in
set_option maxRecDepth 100000 in
theorem t_X4_readStatement {G : GG} {A : Nat → Prop} {p : Program} {l : Launch} {e : Env} {s : State} {m : MethodId} {args : Array Value} {below : List Frame} {meth : Method} {c : Code} {r : Int32} {M' : Mem} (X : Cx G A p s m args meth c RX4 cX4_readStatement 1) (hr : meth.sig.returnType = some .boolean) {M : Mem}  (h : f_X4_readStatement M = some (r, M')) : T G A p l e (rmO 5) s m args below meth c 1 0 0 (MQ below (QiO G A r M') args s 0 0 A) 0 [(0, .ref (G.2.1 (3, 0, 0)))] [] M := by
  unfold f_X4_readStatement at h
  refine r_getsSw (pc := 0) X wf_X4_68 dX4_readStatement_0 ?_
  refine r_aload_n (pc := 3) X dX4_readStatement_3 rfl ?_
  refine r_getR (q := (6, 0, 0)) (pc := 4) X ⟨(ltb rfl), (ltb rfl)⟩ fl_X4_12 rfl dX4_readStatement_4 ?_
  refine r_getW (pc := 7) X ⟨(ltb rfl), (ltb rfl)⟩ fl_X4_74 rfl dX4_readStatement_7 h (fun v1 hv1 h => ?_)
  refine r_ordinal (pc := 10) X hv1 ordw_X4_78 ⟨Nat.le_of_ble_eq_true rfl, Nat.le_of_ble_eq_true rfl, Nat.le_of_ble_eq_true rfl, Nat.le_of_ble_eq_true rfl⟩ (Nat.le_of_ble_eq_true rfl) dX4_readStatement_10 ?_
  refine r_swld (pc := 13) X hv1 dX4_readStatement_13 ?_
  refine swc h (fun hq h => ?_) (fun hs1 h => ?_)
  · refine r_swInE (pc := 14) X hq (off := 58) (tgt := 72) dX4_readStatement_14 (by decide) (by decide) (by decide) (by decide) ?_
    refine r_aload_n (pc := 72) X dX4_readStatement_72 rfl ?_
    refine bndE h (fun r2 M3 h4 h => ?_)
    refine r_callVi0 (pc := 73) X ⟨(ltb rfl), (ltb rfl)⟩ rfl vy_X4_readChannel my_X4_readChannel ml_X4_84 ⟨Nat.le_of_ble_eq_true rfl, Nat.le_of_ble_eq_true rfl, Nat.le_of_ble_eq_true rfl, Nat.le_of_ble_eq_true rfl⟩ (c_X4_readChannel  h4) (Nat.le_of_ble_eq_true rfl) dX4_readStatement_73 ?_
    exact r_zret (pc := 76) X hr dX4_readStatement_76 h
  refine swc h (fun hq h => ?_) (fun hs2 h => ?_)
  · refine r_swInE (pc := 14) X hq (off := 63) (tgt := 77) dX4_readStatement_14 (by decide) (by decide) (by decide) (by decide) ?_
    refine r_aload_n (pc := 77) X dX4_readStatement_77 rfl ?_
    refine bndE h (fun r5 M6 h7 h => ?_)
    refine r_callVi0 (pc := 78) X ⟨(ltb rfl), (ltb rfl)⟩ rfl vy_X4_readWindow my_X4_readWindow ml_X4_87 ⟨Nat.le_of_ble_eq_true rfl, Nat.le_of_ble_eq_true rfl, Nat.le_of_ble_eq_true rfl, Nat.le_of_ble_eq_true rfl⟩ (c_X4_readWindow  h7) (Nat.le_of_ble_eq_true rfl) dX4_readStatement_78 ?_
    exact r_zret (pc := 81) X hr dX4_readStatement_81 h
  refine swc h (fun hq h => ?_) (fun hs3 h => ?_)
  · refine r_swInE (pc := 14) X hq (off := 68) (tgt := 82) dX4_readStatement_14 (by decide) (by decide) (by decide) (by decide) ?_
    refine r_aload_n (pc := 82) X dX4_readStatement_82 rfl ?_
    refine bndE h (fun r8 M9 h10 h => ?_)
    refine r_callVi0 (pc := 83) X ⟨(ltb rfl), (ltb rfl)⟩ rfl vy_X4_readTrigger my_X4_readTrigger ml_X4_90 ⟨Nat.le_of_ble_eq_true rfl, Nat.le_of_ble_eq_true rfl, Nat.le_of_ble_eq_true rfl, Nat.le_of_ble_eq_true rfl⟩ (c_X4_readTrigger  h10) (Nat.le_of_ble_eq_true rfl) dX4_readStatement_83 ?_
    exact r_zret (pc := 86) X hr dX4_readStatement_86 h
  refine swc h (fun hq h => ?_) (fun hs4 h => ?_)
  · refine r_swInE (pc := 14) X hq (off := 73) (tgt := 87) dX4_readStatement_14 (by decide) (by decide) (by decide) (by decide) ?_
    refine r_aload_n (pc := 87) X dX4_readStatement_87 rfl ?_
    refine bndE h (fun r11 M12 h13 h => ?_)
    refine r_callVi0 (pc := 88) X ⟨(ltb rfl), (ltb rfl)⟩ rfl vy_X4_takeFirstWord my_X4_takeFirstWord ml_X4_93 ⟨Nat.le_of_ble_eq_true rfl, Nat.le_of_ble_eq_true rfl, Nat.le_of_ble_eq_true rfl, Nat.le_of_ble_eq_true rfl⟩ (c_X4_takeFirstWord  h13) (Nat.le_of_ble_eq_true rfl) dX4_readStatement_88 ?_
    refine r_if_eq (pc := 91) X (tgt := 112) dX4_readStatement_91 (by decide) h (fun h => ?_) (fun h => ?_)
    · exact T_sub (t_X4_readStatement_112 X hr h) trivial
    · refine r_aload_n (pc := 94) X dX4_readStatement_94 rfl ?_
      refine r_aload_n (pc := 95) X dX4_readStatement_95 rfl ?_
      refine r_getR (q := (2, 2, 0)) (pc := 96) X ⟨(ltb rfl), (ltb rfl)⟩ fl_X4_21 rfl dX4_readStatement_96 ?_
      refine r_getR (q := (5, 2, 0)) (pc := 99) X ⟨(ltb rfl), (ltb rfl)⟩ fl_X4_96 rfl dX4_readStatement_99 ?_
      refine bndE h (fun r14 M15 h16 h => ?_)
      refine r_callVi1 (pc := 102) X ⟨(ltb rfl), (ltb rfl)⟩ rfl vy_X4_readEntries my_X4_readEntries ml_X4_100 ⟨Nat.le_of_ble_eq_true rfl, Nat.le_of_ble_eq_true rfl, Nat.le_of_ble_eq_true rfl, Nat.le_of_ble_eq_true rfl⟩ (c_X4_readEntries (ltb rfl) (ltb rfl) h16) (Nat.le_of_ble_eq_true rfl) dX4_readStatement_102 ?_
      refine r_if_eq (pc := 105) X (tgt := 112) dX4_readStatement_105 (by decide) h (fun h => ?_) (fun h => ?_)
      · exact T_sub (t_X4_readStatement_112 X hr h) trivial
      · refine r_iconst (pc := 108) X (v := 1) dX4_readStatement_108 (by decide) ?_
        refine r_goto (pc := 109) X (tgt := 113) dX4_readStatement_109 (by decide) ?_
        cases h
        exact r_zretc (pc := 113) X hr (by decide +kernel) dX4_readStatement_113
  refine swc h (fun hq h => ?_) (fun hs5 h => ?_)
  · refine r_swInE (pc := 14) X hq (off := 100) (tgt := 114) dX4_readStatement_14 (by decide) (by decide) (by decide) (by decide) ?_
    refine r_aload_n (pc := 114) X dX4_readStatement_114 rfl ?_
    refine bndE h (fun r17 M18 h19 h => ?_)
    refine r_callVi0 (pc := 115) X ⟨(ltb rfl), (ltb rfl)⟩ rfl vy_X4_takeFirstWord my_X4_takeFirstWord ml_X4_93 ⟨Nat.le_of_ble_eq_true rfl, Nat.le_of_ble_eq_true rfl, Nat.le_of_ble_eq_true rfl, Nat.le_of_ble_eq_true rfl⟩ (c_X4_takeFirstWord  h19) (Nat.le_of_ble_eq_true rfl) dX4_readStatement_115 ?_
    refine r_if_eq (pc := 118) X (tgt := 139) dX4_readStatement_118 (by decide) h (fun h => ?_) (fun h => ?_)
    · exact T_sub (t_X4_readStatement_139 X hr h) trivial
    · refine r_aload_n (pc := 121) X dX4_readStatement_121 rfl ?_
      refine r_aload_n (pc := 122) X dX4_readStatement_122 rfl ?_
      refine r_getR (q := (2, 2, 0)) (pc := 123) X ⟨(ltb rfl), (ltb rfl)⟩ fl_X4_21 rfl dX4_readStatement_123 ?_
      refine r_getR (q := (5, 2, 1)) (pc := 126) X ⟨(ltb rfl), (ltb rfl)⟩ fl_X4_104 rfl dX4_readStatement_126 ?_
      refine bndE h (fun r20 M21 h22 h => ?_)
      refine r_callVi1 (pc := 129) X ⟨(ltb rfl), (ltb rfl)⟩ rfl vy_X4_readEntries my_X4_readEntries ml_X4_100 ⟨Nat.le_of_ble_eq_true rfl, Nat.le_of_ble_eq_true rfl, Nat.le_of_ble_eq_true rfl, Nat.le_of_ble_eq_true rfl⟩ (c_X4_readEntries (ltb rfl) (ltb rfl) h22) (Nat.le_of_ble_eq_true rfl) dX4_readStatement_129 ?_
      refine r_if_eq (pc := 132) X (tgt := 139) dX4_readStatement_132 (by decide) h (fun h => ?_) (fun h => ?_)
      · exact T_sub (t_X4_readStatement_139 X hr h) trivial
      · refine r_iconst (pc := 135) X (v := 1) dX4_readStatement_135 (by decide) ?_
        refine r_goto (pc := 136) X (tgt := 140) dX4_readStatement_136 (by decide) ?_
        cases h
        exact r_zretc (pc := 140) X hr (by decide +kernel) dX4_readStatement_140
  refine swc h (fun hq h => ?_) (fun hs6 h => ?_)
  · refine r_swInE (pc := 14) X hq (off := 127) (tgt := 141) dX4_readStatement_14 (by decide) (by decide) (by decide) (by decide) ?_
    refine r_aload_n (pc := 141) X dX4_readStatement_141 rfl ?_
    refine bndE h (fun r23 M24 h25 h => ?_)
    refine r_callVi0 (pc := 142) X ⟨(ltb rfl), (ltb rfl)⟩ rfl vy_X4_takeFirstWord my_X4_takeFirstWord ml_X4_93 ⟨Nat.le_of_ble_eq_true rfl, Nat.le_of_ble_eq_true rfl, Nat.le_of_ble_eq_true rfl, Nat.le_of_ble_eq_true rfl⟩ (c_X4_takeFirstWord  h25) (Nat.le_of_ble_eq_true rfl) dX4_readStatement_142 ?_
    refine r_if_eq (pc := 145) X (tgt := 159) dX4_readStatement_145 (by decide) h (fun h => ?_) (fun h => ?_)
    · exact T_sub (t_X4_readStatement_159 X hr h) trivial
    · refine r_aload_n (pc := 148) X dX4_readStatement_148 rfl ?_
      refine bndE h (fun r26 M27 h28 h => ?_)
      refine r_callVi0 (pc := 149) X ⟨(ltb rfl), (ltb rfl)⟩ rfl vy_X4_readGroup my_X4_readGroup ml_X4_107 ⟨Nat.le_of_ble_eq_true rfl, Nat.le_of_ble_eq_true rfl, Nat.le_of_ble_eq_true rfl, Nat.le_of_ble_eq_true rfl⟩ (c_X4_readGroup  h28) (Nat.le_of_ble_eq_true rfl) dX4_readStatement_149 ?_
      refine r_if_eq (pc := 152) X (tgt := 159) dX4_readStatement_152 (by decide) h (fun h => ?_) (fun h => ?_)
      · exact T_sub (t_X4_readStatement_159 X hr h) trivial
      · refine r_iconst (pc := 155) X (v := 1) dX4_readStatement_155 (by decide) ?_
        refine r_goto (pc := 156) X (tgt := 160) dX4_readStatement_156 (by decide) ?_
        cases h
        exact r_zretc (pc := 160) X hr (by decide +kernel) dX4_readStatement_160
  refine swc h (fun hq h => ?_) (fun hs7 h => ?_)
  · refine r_swInE (pc := 14) X hq (off := 147) (tgt := 161) dX4_readStatement_14 (by decide) (by decide) (by decide) (by decide) ?_
    refine r_aload_n (pc := 161) X dX4_readStatement_161 rfl ?_
    refine r_getR (q := (2, 2, 0)) (pc := 162) X ⟨(ltb rfl), (ltb rfl)⟩ fl_X4_21 rfl dX4_readStatement_162 ?_
    refine r_iconst (pc := 165) X (v := 1) dX4_readStatement_165 (by decide) ?_
    refine r_putZc (pc := 166) X ⟨(ltb rfl), (ltb rfl)⟩ fp_X4_110 rfl (by decide) dX4_readStatement_166 h (fun M29 h => ?_)
    refine r_aload_n (pc := 169) X dX4_readStatement_169 rfl ?_
    refine bndE h (fun r30 M31 h32 h => ?_)
    refine r_callVi0 (pc := 170) X ⟨(ltb rfl), (ltb rfl)⟩ rfl vy_X4_takeFirstWord my_X4_takeFirstWord ml_X4_93 ⟨Nat.le_of_ble_eq_true rfl, Nat.le_of_ble_eq_true rfl, Nat.le_of_ble_eq_true rfl, Nat.le_of_ble_eq_true rfl⟩ (c_X4_takeFirstWord  h32) (Nat.le_of_ble_eq_true rfl) dX4_readStatement_170 ?_
    exact r_zret (pc := 173) X hr dX4_readStatement_173 h
  refine swc h (fun hq h => ?_) (fun hs8 h => ?_)
  · refine r_swInE (pc := 14) X hq (off := 160) (tgt := 174) dX4_readStatement_14 (by decide) (by decide) (by decide) (by decide) ?_
    refine r_aload_n (pc := 174) X dX4_readStatement_174 rfl ?_
    refine r_getR (q := (2, 2, 0)) (pc := 175) X ⟨(ltb rfl), (ltb rfl)⟩ fl_X4_21 rfl dX4_readStatement_175 ?_
    refine r_iconst (pc := 178) X (v := 1) dX4_readStatement_178 (by decide) ?_
    refine r_putZc (pc := 179) X ⟨(ltb rfl), (ltb rfl)⟩ fp_X4_114 rfl (by decide) dX4_readStatement_179 h (fun M33 h => ?_)
    refine r_aload_n (pc := 182) X dX4_readStatement_182 rfl ?_
    refine bndE h (fun r34 M35 h36 h => ?_)
    refine r_callVi0 (pc := 183) X ⟨(ltb rfl), (ltb rfl)⟩ rfl vy_X4_takeFirstWord my_X4_takeFirstWord ml_X4_93 ⟨Nat.le_of_ble_eq_true rfl, Nat.le_of_ble_eq_true rfl, Nat.le_of_ble_eq_true rfl, Nat.le_of_ble_eq_true rfl⟩ (c_X4_takeFirstWord  h36) (Nat.le_of_ble_eq_true rfl) dX4_readStatement_183 ?_
    exact r_zret (pc := 186) X hr dX4_readStatement_186 h
  refine swc h (fun hq h => ?_) (fun hs9 h => ?_)
  · refine r_swInE (pc := 14) X hq (off := 173) (tgt := 187) dX4_readStatement_14 (by decide) (by decide) (by decide) (by decide) ?_
    refine r_aload_n (pc := 187) X dX4_readStatement_187 rfl ?_
    refine bndE h (fun r37 M38 h39 h => ?_)
    refine r_callVi0 (pc := 188) X ⟨(ltb rfl), (ltb rfl)⟩ rfl vy_X4_takeFirstWord my_X4_takeFirstWord ml_X4_93 ⟨Nat.le_of_ble_eq_true rfl, Nat.le_of_ble_eq_true rfl, Nat.le_of_ble_eq_true rfl, Nat.le_of_ble_eq_true rfl⟩ (c_X4_takeFirstWord  h39) (Nat.le_of_ble_eq_true rfl) dX4_readStatement_188 ?_
    refine r_if_eq (pc := 191) X (tgt := 205) dX4_readStatement_191 (by decide) h (fun h => ?_) (fun h => ?_)
    · exact T_sub (t_X4_readStatement_205 X hr h) trivial
    · refine r_aload_n (pc := 194) X dX4_readStatement_194 rfl ?_
      refine bndE h (fun r40 M41 h42 h => ?_)
      refine r_callVi0 (pc := 195) X ⟨(ltb rfl), (ltb rfl)⟩ rfl vy_X4_readOver my_X4_readOver ml_X4_117 ⟨Nat.le_of_ble_eq_true rfl, Nat.le_of_ble_eq_true rfl, Nat.le_of_ble_eq_true rfl, Nat.le_of_ble_eq_true rfl⟩ (c_X4_readOver  h42) (Nat.le_of_ble_eq_true rfl) dX4_readStatement_195 ?_
      refine r_if_eq (pc := 198) X (tgt := 205) dX4_readStatement_198 (by decide) h (fun h => ?_) (fun h => ?_)
      · exact T_sub (t_X4_readStatement_205 X hr h) trivial
      · refine r_iconst (pc := 201) X (v := 1) dX4_readStatement_201 (by decide) ?_
        refine r_goto (pc := 202) X (tgt := 206) dX4_readStatement_202 (by decide) ?_
        cases h
        exact r_zretc (pc := 206) X hr (by decide +kernel) dX4_readStatement_206
  refine swc h (fun hq h => ?_) (fun hs10 h => ?_)
  · refine r_swInE (pc := 14) X hq (off := 193) (tgt := 207) dX4_readStatement_14 (by decide) (by decide) (by decide) (by decide) ?_
    refine r_aload_n (pc := 207) X dX4_readStatement_207 rfl ?_
    refine bndE h (fun r43 M44 h45 h => ?_)
    refine r_callVi0 (pc := 208) X ⟨(ltb rfl), (ltb rfl)⟩ rfl vy_X4_takeFirstWord my_X4_takeFirstWord ml_X4_93 ⟨Nat.le_of_ble_eq_true rfl, Nat.le_of_ble_eq_true rfl, Nat.le_of_ble_eq_true rfl, Nat.le_of_ble_eq_true rfl⟩ (c_X4_takeFirstWord  h45) (Nat.le_of_ble_eq_true rfl) dX4_readStatement_208 ?_
    refine r_if_eq (pc := 211) X (tgt := 225) dX4_readStatement_211 (by decide) h (fun h => ?_) (fun h => ?_)
    · exact T_sub (t_X4_readStatement_225 X hr h) trivial
    · refine r_aload_n (pc := 214) X dX4_readStatement_214 rfl ?_
      refine bndE h (fun r46 M47 h48 h => ?_)
      refine r_callVi0 (pc := 215) X ⟨(ltb rfl), (ltb rfl)⟩ rfl vy_X4_readQueue my_X4_readQueue ml_X4_120 ⟨Nat.le_of_ble_eq_true rfl, Nat.le_of_ble_eq_true rfl, Nat.le_of_ble_eq_true rfl, Nat.le_of_ble_eq_true rfl⟩ (c_X4_readQueue  h48) (Nat.le_of_ble_eq_true rfl) dX4_readStatement_215 ?_
      refine r_if_eq (pc := 218) X (tgt := 225) dX4_readStatement_218 (by decide) h (fun h => ?_) (fun h => ?_)
      · exact T_sub (t_X4_readStatement_225 X hr h) trivial
      · refine r_iconst (pc := 221) X (v := 1) dX4_readStatement_221 (by decide) ?_
        refine r_goto (pc := 222) X (tgt := 226) dX4_readStatement_222 (by decide) ?_
        cases h
        exact r_zretc (pc := 226) X hr (by decide +kernel) dX4_readStatement_226
  refine swc h (fun hq h => ?_) (fun hs11 h => ?_)
  · refine r_swInE (pc := 14) X hq (off := 213) (tgt := 227) dX4_readStatement_14 (by decide) (by decide) (by decide) (by decide) ?_
    refine r_aload_n (pc := 227) X dX4_readStatement_227 rfl ?_
    refine bndE h (fun r49 M50 h51 h => ?_)
    refine r_callVi0 (pc := 228) X ⟨(ltb rfl), (ltb rfl)⟩ rfl vy_X4_takeFirstWord my_X4_takeFirstWord ml_X4_93 ⟨Nat.le_of_ble_eq_true rfl, Nat.le_of_ble_eq_true rfl, Nat.le_of_ble_eq_true rfl, Nat.le_of_ble_eq_true rfl⟩ (c_X4_takeFirstWord  h51) (Nat.le_of_ble_eq_true rfl) dX4_readStatement_228 ?_
    refine r_if_eq (pc := 231) X (tgt := 245) dX4_readStatement_231 (by decide) h (fun h => ?_) (fun h => ?_)
    · exact T_sub (t_X4_readStatement_245 X hr h) trivial
    · refine r_aload_n (pc := 234) X dX4_readStatement_234 rfl ?_
      refine bndE h (fun r52 M53 h54 h => ?_)
      refine r_callVi0 (pc := 235) X ⟨(ltb rfl), (ltb rfl)⟩ rfl vy_X4_readPace my_X4_readPace ml_X4_123 ⟨Nat.le_of_ble_eq_true rfl, Nat.le_of_ble_eq_true rfl, Nat.le_of_ble_eq_true rfl, Nat.le_of_ble_eq_true rfl⟩ (c_X4_readPace  h54) (Nat.le_of_ble_eq_true rfl) dX4_readStatement_235 ?_
      refine r_if_eq (pc := 238) X (tgt := 245) dX4_readStatement_238 (by decide) h (fun h => ?_) (fun h => ?_)
      · exact T_sub (t_X4_readStatement_245 X hr h) trivial
      · refine r_iconst (pc := 241) X (v := 1) dX4_readStatement_241 (by decide) ?_
        refine r_goto (pc := 242) X (tgt := 246) dX4_readStatement_242 (by decide) ?_
        cases h
        exact r_zretc (pc := 246) X hr (by decide +kernel) dX4_readStatement_246
  · refine r_swOut (pc := 14) X (tgt := 247) dX4_readStatement_14 (by have z1 := lv_neT (a := 1) hs1 (by decide); have z2 := lv_neT (a := 2) hs2 (by decide); have z3 := lv_neT (a := 3) hs3 (by decide); have z4 := lv_neT (a := 4) hs4 (by decide); have z5 := lv_neT (a := 5) hs5 (by decide); have z6 := lv_neT (a := 6) hs6 (by decide); have z7 := lv_neT (a := 7) hs7 (by decide); have z8 := lv_neT (a := 8) hs8 (by decide); have z9 := lv_neT (a := 9) hs9 (by decide); have z10 := lv_neT (a := 10) hs10 (by decide); have z11 := lv_neT (a := 11) hs11 (by decide); omega) (by decide) ?_
    refine r_aload_n (pc := 247) X dX4_readStatement_247 rfl ?_
    refine r_iconst (pc := 248) X (v := 1) dX4_readStatement_248 (by decide) ?_
    refine bndE h (fun r55 M56 h57 h => ?_)
    refine r_callVi1 (pc := 249) X ⟨(ltb rfl), (ltb rfl)⟩ rfl vy_X4_fail my_X4_fail ml_X4_126 ⟨Nat.le_of_ble_eq_true rfl, Nat.le_of_ble_eq_true rfl, Nat.le_of_ble_eq_true rfl, Nat.le_of_ble_eq_true rfl⟩ (c_X4_fail  h57) (Nat.le_of_ble_eq_true rfl) dX4_readStatement_249 ?_
    exact r_zret (pc := 252) X hr dX4_readStatement_252 h
theorem c_X4_readStatement {G : GG} {l : Launch} {r : Int32} {M M' : Mem}  (h : f_X4_readStatement  M = some (r, M')) : Met l yX4_readStatement (wsO yX4_readStatement cX4_readStatement 1 (some .boolean)) (rmO 5) (PcO G [.ref (G.2.1 (3, 0, 0))] M) (QiO G (AA G) r M') 0 0 (AA G) :=
  met_of (own := RX4) rfl (by decide +kernel) (Nat.le_of_ble_eq_true rfl) (fun p e s m args below meth c X hr => t_X4_readStatement X hr  h)
-- ConverterScanner$Parser.takeSign
def f_X4_takeSign_16  (M : Mem) : Option (Int32 × Mem) :=
  some (1, M)
set_option maxHeartbeats 4000000 in
set_option maxRecDepth 100000 in
theorem t_X4_takeSign_16 {G : GG} {A : Nat → Prop} {p : Program} {l : Launch} {e : Env} {s : State} {m : MethodId} {args : Array Value} {below : List Frame} {meth : Method} {c : Code} {r : Int32} {M' : Mem} (X : Cx G A p s m args meth c RX4 cX4_takeSign 2) (hr : meth.sig.returnType = some .boolean) {M : Mem}  (h : f_X4_takeSign_16 M = some (r, M')) : T G A p l e (rmO 3) s m args below meth c 2 0 0 (MQ below (QiO G A r M') args s 0 0 A) 16 [] [] M := by
  unfold f_X4_takeSign_16 at h
  refine r_iconst (pc := 16) X (v := 1) dX4_takeSign_16 (by decide) ?_
  refine r_goto (pc := 17) X (tgt := 21) dX4_takeSign_17 (by decide) ?_
  cases h
  exact r_zretc (pc := 21) X hr (by decide +kernel) dX4_takeSign_21
def f_X4_takeSign (x1 : Int32) (M : Mem) : Option (Int32 × Mem) :=
  bnd (f_X4_skipSign x1 M) (fun r1 M2 => if r1 = 0 then bnd (f_X4_fail 1 M2) (fun r4 M5 => if r4 = 0 then some (0, M5) else f_X4_takeSign_16  M5) else f_X4_takeSign_16  M2)
set_option maxHeartbeats 4000000 in
set_option maxRecDepth 100000 in
theorem t_X4_takeSign {G : GG} {A : Nat → Prop} {p : Program} {l : Launch} {e : Env} {s : State} {m : MethodId} {args : Array Value} {below : List Frame} {meth : Method} {c : Code} {r : Int32} {M' : Mem} (X : Cx G A p s m args meth c RX4 cX4_takeSign 2) (hr : meth.sig.returnType = some .boolean) {x1 : Int32} {M : Mem}  (h : f_X4_takeSign x1 M = some (r, M')) : T G A p l e (rmO 3) s m args below meth c 2 0 0 (MQ below (QiO G A r M') args s 0 0 A) 0 [(0, .ref (G.2.1 (3, 0, 0))), (1, .int x1)] [] M := by
  unfold f_X4_takeSign at h
  refine r_aload_n (pc := 0) X dX4_takeSign_0 rfl ?_
  refine r_iload_n (pc := 1) X dX4_takeSign_1 rfl ?_
  refine bndE h (fun r1 M2 h3 h => ?_)
  refine r_callVi1 (pc := 2) X ⟨(ltb rfl), (ltb rfl)⟩ rfl vy_X4_skipSign my_X4_skipSign ml_X4_155 ⟨Nat.le_of_ble_eq_true rfl, Nat.le_of_ble_eq_true rfl, Nat.le_of_ble_eq_true rfl, Nat.le_of_ble_eq_true rfl⟩ (c_X4_skipSign  h3) (Nat.le_of_ble_eq_true rfl) dX4_takeSign_2 ?_
  refine r_if_ne (pc := 5) X (tgt := 16) dX4_takeSign_5 (by decide) h (fun h => ?_) (fun h => ?_)
  · exact T_sub (t_X4_takeSign_16 X hr h) trivial
  · refine r_aload_n (pc := 8) X dX4_takeSign_8 rfl ?_
    refine r_iconst (pc := 9) X (v := 1) dX4_takeSign_9 (by decide) ?_
    refine bndE h (fun r4 M5 h6 h => ?_)
    refine r_callVi1 (pc := 10) X ⟨(ltb rfl), (ltb rfl)⟩ rfl vy_X4_fail my_X4_fail ml_X4_126 ⟨Nat.le_of_ble_eq_true rfl, Nat.le_of_ble_eq_true rfl, Nat.le_of_ble_eq_true rfl, Nat.le_of_ble_eq_true rfl⟩ (c_X4_fail  h6) (Nat.le_of_ble_eq_true rfl) dX4_takeSign_10 ?_
    refine r_if_eq (pc := 13) X (tgt := 20) dX4_takeSign_13 (by decide) h (fun h => ?_) (fun h => ?_)
    · refine r_iconst (pc := 20) X (v := 0) dX4_takeSign_20 (by decide) ?_
      cases h
      exact r_zretc (pc := 21) X hr (by decide +kernel) dX4_takeSign_21
    · exact T_sub (t_X4_takeSign_16 X hr h) trivial
theorem c_X4_takeSign {G : GG} {l : Launch} {x1 : Int32} {r : Int32} {M M' : Mem}  (h : f_X4_takeSign x1 M = some (r, M')) : Met l yX4_takeSign (wsO yX4_takeSign cX4_takeSign 2 (some .boolean)) (rmO 3) (PcO G [.ref (G.2.1 (3, 0, 0)), .int x1] M) (QiO G (AA G) r M') 0 0 (AA G) :=
  met_of (own := RX4) rfl (by decide +kernel) (Nat.le_of_ble_eq_true rfl) (fun p e s m args below meth c X hr => t_X4_takeSign X hr  h)
-- ConverterScanner$Tokens.begin
def f_X7_begin  (M : Mem) : Option (Unit × Mem) :=
  nm (uI M (6, 0, 0) 2 0) (fun M1 => bnd (f_X7_next  M1) (fun r2 M3 => some ((), M3)))
set_option maxHeartbeats 4000000 in
set_option maxRecDepth 100000 in
theorem t_X7_begin {G : GG} {A : Nat → Prop} {p : Program} {l : Launch} {e : Env} {s : State} {m : MethodId} {args : Array Value} {below : List Frame} {meth : Method} {c : Code} {r : Unit} {M' : Mem} (X : Cx G A p s m args meth c RX7 cX7_begin 1) (hr : meth.sig.returnType = none) {M : Mem}  (h : f_X7_begin M = some (r, M')) : T G A p l e (rmO 2) s m args below meth c 1 0 0 (MQ below (QvO G A M') args s 0 0 A) 0 [(0, .ref (G.2.1 (6, 0, 0)))] [] M := by
  unfold f_X7_begin at h
  refine r_aload_n (pc := 0) X dX7_begin_0 rfl ?_
  refine r_iconst (pc := 1) X (v := 0) dX7_begin_1 (by decide) ?_
  refine r_putIN (pc := 2) X ⟨(ltb rfl), (ltb rfl)⟩ fp_X7_31 rfl dX7_begin_2 h (fun M1 h => ?_)
  refine r_aload_n (pc := 5) X dX7_begin_5 rfl ?_
  refine bndE h (fun r2 M3 h4 h => ?_)
  refine r_callVv0 (pc := 6) X ⟨(ltb rfl), (ltb rfl)⟩ rfl vy_X7_next my_X7_next ml_X7_34 ⟨Nat.le_of_ble_eq_true rfl, Nat.le_of_ble_eq_true rfl, Nat.le_of_ble_eq_true rfl, Nat.le_of_ble_eq_true rfl⟩ (c_X7_next  h4) (Nat.le_of_ble_eq_true rfl) dX7_begin_6 ?_
  cases h
  exact r_vret (pc := 9) X hr dX7_begin_9
theorem c_X7_begin {G : GG} {l : Launch} {r : Unit} {M M' : Mem}  (h : f_X7_begin  M = some (r, M')) : Met l yX7_begin (wsO yX7_begin cX7_begin 1 none) (rmO 2) (PcO G [.ref (G.2.1 (6, 0, 0))] M) (QvO G (AA G) M') 0 0 (AA G) :=
  met_of (own := RX7) rfl (by decide +kernel) (Nat.le_of_ble_eq_true rfl) (fun p e s m args below meth c X hr => t_X7_begin X hr  h)
-- ConverterScanner$Parser.parse
def f_X4_parse_52 : Nat → Int32 → Int32 → Mem → Option (Int32 × Mem)
  | 0 => fun _ _ _ => none
  | n + 1 => fun x1 x2 M => if (M.1 (6, 0, 0) 1) ≤ x2 then some (x1, M) else if (M.1 (6, 0, 0) 5) = 0 then some (x1, M) else bnd (f_X4_readStatement  M) (fun r1 M2 => if r1 = 0 then some ((-1), M2) else bnd (f_X4_takeSign 59 M2) (fun r4 M5 => if r4 = 0 then some ((-1), M5) else nm (x1 + 1) (fun e7 => nm (x2 + 1) (fun e8 => (f_X4_parse_52 n) e7 e8 M5))))
set_option maxHeartbeats 4000000 in
set_option maxRecDepth 100000 in
theorem t_X4_parse_52 {G : GG} {A : Nat → Prop} {p : Program} {l : Launch} {e : Env} {s : State} {m : MethodId} {args : Array Value} {below : List Frame} {meth : Method} {c : Code} {r : Int32} {M' : Mem} (X : Cx G A p s m args meth c RX4 cX4_parse 3) (hr : meth.sig.returnType = some .int) : ∀ (n : Nat) (x1 : Int32) (x2 : Int32) (M : Mem), f_X4_parse_52 n x1 x2 M = some (r, M') → T G A p l e (rmO 6) s m args below meth c 3 0 0 (MQ below (QiO G A r M') args s 0 0 A) 52 [(0, .ref (G.2.1 (3, 0, 0))), (1, .int x1), (2, .int x2)] [] M := by
  intro n
  induction n with
  | zero =>
    intro x1 x2 M  h
    cases h
  | succ n ih =>
    intro x1 x2 M  h
    unfold f_X4_parse_52 at h
    refine r_iload_n (pc := 52) X dX4_parse_52 rfl ?_
    refine r_aload_n (pc := 53) X dX4_parse_53 rfl ?_
    refine r_getR (q := (6, 0, 0)) (pc := 54) X ⟨(ltb rfl), (ltb rfl)⟩ fl_X4_12 rfl dX4_parse_54 ?_
    refine r_getI (pc := 57) X ⟨(ltb rfl), (ltb rfl)⟩ fl_X4_54 rfl dX4_parse_57 ?_
    refine r_icmp_ge (pc := 60) X (tgt := 100) dX4_parse_60 (by decide) h (fun h => ?_) (fun h => ?_)
    · refine r_iload_n (pc := 100) X dX4_parse_100 rfl ?_
      cases h
      exact r_iret (pc := 101) X hr dX4_parse_101
    · refine r_aload_n (pc := 63) X dX4_parse_63 rfl ?_
      refine r_getR (q := (6, 0, 0)) (pc := 64) X ⟨(ltb rfl), (ltb rfl)⟩ fl_X4_12 rfl dX4_parse_64 ?_
      refine r_getI (pc := 67) X ⟨(ltb rfl), (ltb rfl)⟩ fl_X4_57 rfl dX4_parse_67 ?_
      refine r_if_eq (pc := 70) X (tgt := 100) dX4_parse_70 (by decide) h (fun h => ?_) (fun h => ?_)
      · refine r_iload_n (pc := 100) X dX4_parse_100 rfl ?_
        cases h
        exact r_iret (pc := 101) X hr dX4_parse_101
      · refine r_aload_n (pc := 73) X dX4_parse_73 rfl ?_
        refine bndE h (fun r1 M2 h3 h => ?_)
        refine r_callVi0 (pc := 74) X ⟨(ltb rfl), (ltb rfl)⟩ rfl vy_X4_readStatement my_X4_readStatement ml_X4_60 ⟨Nat.le_of_ble_eq_true rfl, Nat.le_of_ble_eq_true rfl, Nat.le_of_ble_eq_true rfl, Nat.le_of_ble_eq_true rfl⟩ (c_X4_readStatement  h3) (Nat.le_of_ble_eq_true rfl) dX4_parse_74 ?_
        refine r_if_eq (pc := 77) X (tgt := 89) dX4_parse_77 (by decide) h (fun h => ?_) (fun h => ?_)
        · refine r_iconst (pc := 89) X (v := (-1)) dX4_parse_89 (by decide) ?_
          cases h
          exact r_iret (pc := 90) X hr dX4_parse_90
        · refine r_aload_n (pc := 80) X dX4_parse_80 rfl ?_
          refine r_bipush (pc := 81) X (v := 59) dX4_parse_81 (by decide) ?_
          refine bndE h (fun r4 M5 h6 h => ?_)
          refine r_callVi1 (pc := 83) X ⟨(ltb rfl), (ltb rfl)⟩ rfl vy_X4_takeSign my_X4_takeSign ml_X4_64 ⟨Nat.le_of_ble_eq_true rfl, Nat.le_of_ble_eq_true rfl, Nat.le_of_ble_eq_true rfl, Nat.le_of_ble_eq_true rfl⟩ (c_X4_takeSign  h6) (Nat.le_of_ble_eq_true rfl) dX4_parse_83 ?_
          refine r_if_ne (pc := 86) X (tgt := 91) dX4_parse_86 (by decide) h (fun h => ?_) (fun h => ?_)
          · refine r_iincN (pc := 91) X (v0 := 1) rfl (by decide) (by decide) dX4_parse_91 h (fun e7 h => ?_)
            refine r_iincN (pc := 94) X (v0 := 1) rfl (by decide) (by decide) dX4_parse_94 h (fun e8 h => ?_)
            refine r_goto (pc := 97) X (tgt := 52) dX4_parse_97 (by decide) ?_
            exact T_sub (ih _ _ _ h) ⟨rfl, rfl, rfl, trivial⟩
          · refine r_iconst (pc := 89) X (v := (-1)) dX4_parse_89 (by decide) ?_
            cases h
            exact r_iret (pc := 90) X hr dX4_parse_90
def f_X4_parse  (M : Mem) : Option (Int32 × Mem) :=
  nm (uI M (3, 0, 0) 8 0) (fun M1 => nm (uI M1 (3, 0, 0) 9 (-1)) (fun M2 => nm (uI M2 (3, 0, 0) 4 0) (fun M3 => nm (uI M3 (3, 0, 0) 5 0) (fun M4 => nm (uI M4 (3, 0, 0) 6 0) (fun M5 => nm (uI M5 (3, 0, 0) 7 0) (fun M6 => bnd (f_X3_copyFrom 2 0 M6) (fun r7 M8 => bnd (f_X7_begin  M8) (fun r10 M11 => f_X4_parse_52 fuelN 0 0 M11))))))))
set_option maxHeartbeats 4000000 in
set_option maxRecDepth 100000 in
theorem t_X4_parse {G : GG} {A : Nat → Prop} {p : Program} {l : Launch} {e : Env} {s : State} {m : MethodId} {args : Array Value} {below : List Frame} {meth : Method} {c : Code} {r : Int32} {M' : Mem} (X : Cx G A p s m args meth c RX4 cX4_parse 3) (hr : meth.sig.returnType = some .int) {M : Mem}  (h : f_X4_parse M = some (r, M')) : T G A p l e (rmO 6) s m args below meth c 3 0 0 (MQ below (QiO G A r M') args s 0 0 A) 0 [(0, .ref (G.2.1 (3, 0, 0)))] [] M := by
  unfold f_X4_parse at h
  refine r_aload_n (pc := 0) X dX4_parse_0 rfl ?_
  refine r_iconst (pc := 1) X (v := 0) dX4_parse_1 (by decide) ?_
  refine r_putIN (pc := 2) X ⟨(ltb rfl), (ltb rfl)⟩ fp_X4_28 rfl dX4_parse_2 h (fun M1 h => ?_)
  refine r_aload_n (pc := 5) X dX4_parse_5 rfl ?_
  refine r_iconst (pc := 6) X (v := (-1)) dX4_parse_6 (by decide) ?_
  refine r_putIN (pc := 7) X ⟨(ltb rfl), (ltb rfl)⟩ fp_X4_32 rfl dX4_parse_7 h (fun M2 h => ?_)
  refine r_aload_n (pc := 10) X dX4_parse_10 rfl ?_
  refine r_iconst (pc := 11) X (v := 0) dX4_parse_11 (by decide) ?_
  refine r_putIN (pc := 12) X ⟨(ltb rfl), (ltb rfl)⟩ fp_X4_35 rfl dX4_parse_12 h (fun M3 h => ?_)
  refine r_aload_n (pc := 15) X dX4_parse_15 rfl ?_
  refine r_iconst (pc := 16) X (v := 0) dX4_parse_16 (by decide) ?_
  refine r_putIN (pc := 17) X ⟨(ltb rfl), (ltb rfl)⟩ fp_X4_38 rfl dX4_parse_17 h (fun M4 h => ?_)
  refine r_aload_n (pc := 20) X dX4_parse_20 rfl ?_
  refine r_iconst (pc := 21) X (v := 0) dX4_parse_21 (by decide) ?_
  refine r_putIN (pc := 22) X ⟨(ltb rfl), (ltb rfl)⟩ fp_X4_41 rfl dX4_parse_22 h (fun M5 h => ?_)
  refine r_aload_n (pc := 25) X dX4_parse_25 rfl ?_
  refine r_iconst (pc := 26) X (v := 0) dX4_parse_26 (by decide) ?_
  refine r_putIN (pc := 27) X ⟨(ltb rfl), (ltb rfl)⟩ fp_X4_44 rfl dX4_parse_27 h (fun M6 h => ?_)
  refine r_aload_n (pc := 30) X dX4_parse_30 rfl ?_
  refine r_getR (q := (2, 2, 0)) (pc := 31) X ⟨(ltb rfl), (ltb rfl)⟩ fl_X4_21 rfl dX4_parse_31 ?_
  refine r_aload_n (pc := 34) X dX4_parse_34 rfl ?_
  refine r_getR (q := (2, 0, 0)) (pc := 35) X ⟨(ltb rfl), (ltb rfl)⟩ fl_X4_25 rfl dX4_parse_35 ?_
  refine bndE h (fun r7 M8 h9 h => ?_)
  refine r_callVv1 (pc := 38) X ⟨(ltb rfl), (ltb rfl)⟩ rfl vy_X3_copyFrom my_X3_copyFrom ml_X4_47 ⟨Nat.le_of_ble_eq_true rfl, Nat.le_of_ble_eq_true rfl, Nat.le_of_ble_eq_true rfl, Nat.le_of_ble_eq_true rfl⟩ (c_X3_copyFrom (ltb rfl) (ltb rfl) h9) (Nat.le_of_ble_eq_true rfl) dX4_parse_38 ?_
  refine r_aload_n (pc := 41) X dX4_parse_41 rfl ?_
  refine r_getR (q := (6, 0, 0)) (pc := 42) X ⟨(ltb rfl), (ltb rfl)⟩ fl_X4_12 rfl dX4_parse_42 ?_
  refine bndE h (fun r10 M11 h12 h => ?_)
  refine r_callVv0 (pc := 45) X ⟨(ltb rfl), (ltb rfl)⟩ rfl vy_X7_begin my_X7_begin ml_X4_51 ⟨Nat.le_of_ble_eq_true rfl, Nat.le_of_ble_eq_true rfl, Nat.le_of_ble_eq_true rfl, Nat.le_of_ble_eq_true rfl⟩ (c_X7_begin  h12) (Nat.le_of_ble_eq_true rfl) dX4_parse_45 ?_
  refine r_iconst (pc := 48) X (v := 0) dX4_parse_48 (by decide) ?_
  refine r_istore_n (pc := 49) X (by decide) dX4_parse_49 ?_
  refine r_iconst (pc := 50) X (v := 0) dX4_parse_50 (by decide) ?_
  refine r_istore_n (pc := 51) X (by decide) dX4_parse_51 ?_
  exact T_sub (t_X4_parse_52 X hr _ _ _ _ h) ⟨rfl, rfl, rfl, trivial⟩
theorem c_X4_parse {G : GG} {l : Launch} {r : Int32} {M M' : Mem}  (h : f_X4_parse  M = some (r, M')) : Met l yX4_parse (wsO yX4_parse cX4_parse 3 (some .int)) (rmO 6) (PcO G [.ref (G.2.1 (3, 0, 0))] M) (QiO G (AA G) r M') 0 0 (AA G) :=
  met_of (own := RX4) rfl (by decide +kernel) (Nat.le_of_ble_eq_true rfl) (fun p e s m args below meth c X hr => t_X4_parse X hr  h)
-- ConverterScanner$Tokens.addBytes
def f_X7_addBytes_3 : Nat → Int32 → Int32 → Mem → Option (Unit × Mem)
  | 0 => fun _ _ _ => none
  | n + 1 => fun x1 x2 M => if x2 < 0 then some ((), M) else if 900 ≤ (M.1 (6, 0, 0) 1) then some ((), M) else if bad (M.1 (6, 0, 0) 1) 900 then none else nm (uI M (22, 0, 0) (Int32.toNatClampNeg (M.1 (6, 0, 0) 1)) (Int8.toInt32 (Int32.toInt8 (Int8.toInt32 (Int32.toInt8 (x1 >>> (x2 &&& 31))))))) (fun M1 => nm (uI M1 (6, 0, 0) 1 ((M1.1 (6, 0, 0) 1) + 1)) (fun M2 => nm (x2 + (-8)) (fun e3 => (f_X7_addBytes_3 n) x1 e3 M2)))
set_option maxHeartbeats 4000000 in
set_option maxRecDepth 100000 in
theorem t_X7_addBytes_3 {G : GG} {A : Nat → Prop} {p : Program} {l : Launch} {e : Env} {s : State} {m : MethodId} {args : Array Value} {below : List Frame} {meth : Method} {c : Code} {r : Unit} {M' : Mem} (X : Cx G A p s m args meth c RX7 cX7_addBytes 3) (hr : meth.sig.returnType = none) : ∀ (n : Nat) (x1 : Int32) (x2 : Int32) (M : Mem), f_X7_addBytes_3 n x1 x2 M = some (r, M') → T G A p l e (rmO 0) s m args below meth c 3 0 0 (MQ below (QvO G A M') args s 0 0 A) 3 [(0, .ref (G.2.1 (6, 0, 0))), (1, .int x1), (2, .int x2)] [] M := by
  intro n
  induction n with
  | zero =>
    intro x1 x2 M  h
    cases h
  | succ n ih =>
    intro x1 x2 M  h
    unfold f_X7_addBytes_3 at h
    refine r_iload_n (pc := 3) X dX7_addBytes_3 rfl ?_
    refine r_if_lt (pc := 4) X (tgt := 48) dX7_addBytes_4 (by decide) h (fun h => ?_) (fun h => ?_)
    · cases h
      exact r_vret (pc := 48) X hr dX7_addBytes_48
    · refine r_aload_n (pc := 7) X dX7_addBytes_7 rfl ?_
      refine r_getI (pc := 8) X ⟨(ltb rfl), (ltb rfl)⟩ fl_X7_28 rfl dX7_addBytes_8 ?_
      refine r_aload_n (pc := 11) X dX7_addBytes_11 rfl ?_
      refine r_getR (q := (22, 0, 0)) (pc := 12) X ⟨(ltb rfl), (ltb rfl)⟩ fl_X7_9 rfl dX7_addBytes_12 ?_
      refine r_alen (pc := 15) X (v := 900) (n := 900) (t := 1) ⟨(ltb rfl), (ltb rfl)⟩ rfl (ltb rfl) (nlt rfl) (by decide) dX7_addBytes_15 ?_
      refine r_icmp_ge (pc := 16) X (tgt := 48) dX7_addBytes_16 (by decide) h (fun h => ?_) (fun h => ?_)
      · cases h
        exact r_vret (pc := 48) X hr dX7_addBytes_48
      · refine r_aload_n (pc := 19) X dX7_addBytes_19 rfl ?_
        refine r_getR (q := (22, 0, 0)) (pc := 20) X ⟨(ltb rfl), (ltb rfl)⟩ fl_X7_9 rfl dX7_addBytes_20 ?_
        refine r_aload_n (pc := 23) X dX7_addBytes_23 rfl ?_
        refine r_getI (pc := 24) X ⟨(ltb rfl), (ltb rfl)⟩ fl_X7_28 rfl dX7_addBytes_24 ?_
        refine r_iload_n (pc := 27) X dX7_addBytes_27 rfl ?_
        refine r_iload_n (pc := 28) X dX7_addBytes_28 rfl ?_
        refine r_ishr (pc := 29) X dX7_addBytes_29 ?_
        refine r_i2b (pc := 30) X dX7_addBytes_30 ?_
        refine r_bastN (pc := 31) X (n := 900) ⟨(ltb rfl), (ltb rfl)⟩ rfl (nlt rfl) dX7_addBytes_31 h (fun M1 h => ?_)
        refine r_aload_n (pc := 32) X dX7_addBytes_32 rfl ?_
        refine r_dup (pc := 33) X dX7_addBytes_33 rfl ?_
        refine r_getI (pc := 34) X ⟨(ltb rfl), (ltb rfl)⟩ fl_X7_28 rfl dX7_addBytes_34 ?_
        refine r_iconst (pc := 37) X (v := 1) dX7_addBytes_37 (by decide) ?_
        refine r_iadd (pc := 38) X dX7_addBytes_38 ?_
        refine r_putIN (pc := 39) X ⟨(ltb rfl), (ltb rfl)⟩ fp_X7_28 rfl dX7_addBytes_39 h (fun M2 h => ?_)
        refine r_iincN (pc := 42) X (v0 := (-8)) rfl (by decide) (by decide) dX7_addBytes_42 h (fun e3 h => ?_)
        refine r_goto (pc := 45) X (tgt := 3) dX7_addBytes_45 (by decide) ?_
        exact T_sub (ih _ _ _ h) ⟨rfl, rfl, rfl, trivial⟩
def f_X7_addBytes (x1 : Int32) (M : Mem) : Option (Unit × Mem) :=
  f_X7_addBytes_3 fuelN x1 24 M
set_option maxHeartbeats 4000000 in
set_option maxRecDepth 100000 in
theorem t_X7_addBytes {G : GG} {A : Nat → Prop} {p : Program} {l : Launch} {e : Env} {s : State} {m : MethodId} {args : Array Value} {below : List Frame} {meth : Method} {c : Code} {r : Unit} {M' : Mem} (X : Cx G A p s m args meth c RX7 cX7_addBytes 3) (hr : meth.sig.returnType = none) {x1 : Int32} {M : Mem}  (h : f_X7_addBytes x1 M = some (r, M')) : T G A p l e (rmO 0) s m args below meth c 3 0 0 (MQ below (QvO G A M') args s 0 0 A) 0 [(0, .ref (G.2.1 (6, 0, 0))), (1, .int x1)] [] M := by
  unfold f_X7_addBytes at h
  refine r_bipush (pc := 0) X (v := 24) dX7_addBytes_0 (by decide) ?_
  refine r_istore_n (pc := 2) X (by decide) dX7_addBytes_2 ?_
  exact T_sub (t_X7_addBytes_3 X hr _ _ _ _ h) ⟨rfl, rfl, rfl, trivial⟩
theorem c_X7_addBytes {G : GG} {l : Launch} {x1 : Int32} {r : Unit} {M M' : Mem}  (h : f_X7_addBytes x1 M = some (r, M')) : Met l yX7_addBytes (wsO yX7_addBytes cX7_addBytes 3 none) (rmO 0) (PcO G [.ref (G.2.1 (6, 0, 0)), .int x1] M) (QvO G (AA G) M') 0 0 (AA G) :=
  met_of (own := RX7) rfl (by decide +kernel) (Nat.le_of_ble_eq_true rfl) (fun p e s m args below meth c X hr => t_X7_addBytes X hr  h)
