-- ConverterScanner$Channel.copyFrom
def f_X1_copyFrom (c0 : Nat) (j0 : Nat) (c1 : Nat) (j1 : Nat) (M : Mem) : Option (Unit × Mem) :=
  nm (uI M (0, c0, j0) 0 (M.1 (0, c1, j1) 0)) (fun M1 => nm (uI M1 (0, c0, j0) 1 (M1.1 (0, c1, j1) 1)) (fun M2 => nm (uI M2 (0, c0, j0) 2 (M2.1 (0, c1, j1) 2)) (fun M3 => nm (uI M3 (0, c0, j0) 3 (M3.1 (0, c1, j1) 3)) (fun M4 => nm (uI M4 (0, c0, j0) 4 (M4.1 (0, c1, j1) 4)) (fun M5 => nm (uI M5 (0, c0, j0) 5 (M5.1 (0, c1, j1) 5)) (fun M6 => nm (uI M6 (0, c0, j0) 6 (M6.1 (0, c1, j1) 6)) (fun M7 => nm (uI M7 (0, c0, j0) 7 (M7.1 (0, c1, j1) 7)) (fun M8 => nm (uL M8 (0, c0, j0) 8 (M8.2.1 (0, c1, j1) 8)) (fun M9 => some ((), M9))))))))))
set_option maxHeartbeats 4000000 in
set_option maxRecDepth 100000 in
theorem t_X1_copyFrom {G : GG} {A : Nat → Prop} {p : Program} {l : Launch} {e : Env} {s : State} {m : MethodId} {args : Array Value} {below : List Frame} {meth : Method} {c : Code} {r : Unit} {M' : Mem} (X : Cx G A p s m args meth c RX1 cX1_copyFrom 2) (hr : meth.sig.returnType = none) {c0 : Nat} {j0 : Nat} {c1 : Nat} {j1 : Nat} {M : Mem} (hc0 : c0 < 6) (hj0 : j0 < 8) (hc1 : c1 < 6) (hj1 : j1 < 8) (h : f_X1_copyFrom c0 j0 c1 j1 M = some (r, M')) : T G A p l e (rmO 0) s m args below meth c 2 0 0 (MQ below (QvO G A M') args s 0 0 A) 0 [(0, .ref (G.2.1 (0, c0, j0))), (1, .ref (G.2.1 (0, c1, j1)))] [] M := by
  unfold f_X1_copyFrom at h
  refine r_aload_n (pc := 0) X dX1_copyFrom_0 rfl ?_
  refine r_aload_n (pc := 1) X dX1_copyFrom_1 rfl ?_
  refine r_getI (pc := 2) X ⟨hc1, hj1⟩ fl_X1_9 rfl dX1_copyFrom_2 ?_
  refine r_putIN (pc := 5) X ⟨hc0, hj0⟩ fp_X1_9 rfl dX1_copyFrom_5 h (fun M1 h => ?_)
  refine r_aload_n (pc := 8) X dX1_copyFrom_8 rfl ?_
  refine r_aload_n (pc := 9) X dX1_copyFrom_9 rfl ?_
  refine r_getI (pc := 10) X ⟨hc1, hj1⟩ fl_X1_24 rfl dX1_copyFrom_10 ?_
  refine r_putIN (pc := 13) X ⟨hc0, hj0⟩ fp_X1_24 rfl dX1_copyFrom_13 h (fun M2 h => ?_)
  refine r_aload_n (pc := 16) X dX1_copyFrom_16 rfl ?_
  refine r_aload_n (pc := 17) X dX1_copyFrom_17 rfl ?_
  refine r_getI (pc := 18) X ⟨hc1, hj1⟩ fl_X1_27 rfl dX1_copyFrom_18 ?_
  refine r_putIN (pc := 21) X ⟨hc0, hj0⟩ fp_X1_27 rfl dX1_copyFrom_21 h (fun M3 h => ?_)
  refine r_aload_n (pc := 24) X dX1_copyFrom_24 rfl ?_
  refine r_aload_n (pc := 25) X dX1_copyFrom_25 rfl ?_
  refine r_getI (pc := 26) X ⟨hc1, hj1⟩ fl_X1_30 rfl dX1_copyFrom_26 ?_
  refine r_putIN (pc := 29) X ⟨hc0, hj0⟩ fp_X1_30 rfl dX1_copyFrom_29 h (fun M4 h => ?_)
  refine r_aload_n (pc := 32) X dX1_copyFrom_32 rfl ?_
  refine r_aload_n (pc := 33) X dX1_copyFrom_33 rfl ?_
  refine r_getI (pc := 34) X ⟨hc1, hj1⟩ fl_X1_15 rfl dX1_copyFrom_34 ?_
  refine r_putIN (pc := 37) X ⟨hc0, hj0⟩ fp_X1_15 rfl dX1_copyFrom_37 h (fun M5 h => ?_)
  refine r_aload_n (pc := 40) X dX1_copyFrom_40 rfl ?_
  refine r_aload_n (pc := 41) X dX1_copyFrom_41 rfl ?_
  refine r_getI (pc := 42) X ⟨hc1, hj1⟩ fl_X1_33 rfl dX1_copyFrom_42 ?_
  refine r_putIN (pc := 45) X ⟨hc0, hj0⟩ fp_X1_33 rfl dX1_copyFrom_45 h (fun M6 h => ?_)
  refine r_aload_n (pc := 48) X dX1_copyFrom_48 rfl ?_
  refine r_aload_n (pc := 49) X dX1_copyFrom_49 rfl ?_
  refine r_getI (pc := 50) X ⟨hc1, hj1⟩ fl_X1_18 rfl dX1_copyFrom_50 ?_
  refine r_putIN (pc := 53) X ⟨hc0, hj0⟩ fp_X1_18 rfl dX1_copyFrom_53 h (fun M7 h => ?_)
  refine r_aload_n (pc := 56) X dX1_copyFrom_56 rfl ?_
  refine r_aload_n (pc := 57) X dX1_copyFrom_57 rfl ?_
  refine r_getI (pc := 58) X ⟨hc1, hj1⟩ fl_X1_21 rfl dX1_copyFrom_58 ?_
  refine r_putIN (pc := 61) X ⟨hc0, hj0⟩ fp_X1_21 rfl dX1_copyFrom_61 h (fun M8 h => ?_)
  refine r_aload_n (pc := 64) X dX1_copyFrom_64 rfl ?_
  refine r_aload_n (pc := 65) X dX1_copyFrom_65 rfl ?_
  refine r_getL (pc := 66) X ⟨hc1, hj1⟩ fl_X1_36 rfl dX1_copyFrom_66 ?_
  refine r_putLN (pc := 69) X ⟨hc0, hj0⟩ fp_X1_36 rfl dX1_copyFrom_69 h (fun M9 h => ?_)
  cases h
  exact r_vret (pc := 72) X hr dX1_copyFrom_72
theorem c_X1_copyFrom {G : GG} {l : Launch} {c0 : Nat} {j0 : Nat} {c1 : Nat} {j1 : Nat} {r : Unit} {M M' : Mem} (hc0 : c0 < 6) (hj0 : j0 < 8) (hc1 : c1 < 6) (hj1 : j1 < 8) (h : f_X1_copyFrom c0 j0 c1 j1 M = some (r, M')) : Met l yX1_copyFrom (wsO yX1_copyFrom cX1_copyFrom 2 none) (rmO 0) (PcO G [.ref (G.2.1 (0, c0, j0)), .ref (G.2.1 (0, c1, j1))] M) (QvO G (AA G) M') 0 0 (AA G) :=
  met_of (own := RX1) rfl (by decide +kernel) (Nat.le_of_ble_eq_true rfl) (fun p e s m args below meth c X hr => t_X1_copyFrom X hr hc0 hj0 hc1 hj1 h)
-- ConverterScanner$Channel.signalAt
def f_X1_signalAt_17 (c0 : Nat) (j0 : Nat) (xs0 : Int32) (M : Mem) : Option (Int32 × Mem) :=
  nm ((M.1 (0, c0, j0) 2) + ((M.1 (0, c0, j0) 3) * xs0)) (fun e1 => if 0 ≤ e1 then if e1 ≤ 4095 then some (e1, M) else some (4095, M) else some (0, M))
set_option maxHeartbeats 4000000 in
set_option maxRecDepth 100000 in
theorem t_X1_signalAt_17 {G : GG} {A : Nat → Prop} {p : Program} {l : Launch} {e : Env} {s : State} {m : MethodId} {args : Array Value} {below : List Frame} {meth : Method} {c : Code} {r : Int32} {M' : Mem} (X : Cx G A p s m args meth c RX1 cX1_signalAt 4) (hr : meth.sig.returnType = some .int) {c0 : Nat} {j0 : Nat} {xs0 : Int32} {M : Mem} (hc0 : c0 < 6) (hj0 : j0 < 8) (h : f_X1_signalAt_17 c0 j0 xs0 M = some (r, M')) : T G A p l e (rmO 0) s m args below meth c 4 0 0 (MQ below (QiO G A r M') args s 0 0 A) 17 [(0, .ref (G.2.1 (0, c0, j0)))] [.int xs0] M := by
  unfold f_X1_signalAt_17 at h
  refine r_istore_n (pc := 17) X (by decide) dX1_signalAt_17 ?_
  refine r_aload_n (pc := 18) X dX1_signalAt_18 rfl ?_
  refine r_getI (pc := 19) X ⟨hc0, hj0⟩ fl_X1_27 rfl dX1_signalAt_19 ?_
  refine r_aload_n (pc := 22) X dX1_signalAt_22 rfl ?_
  refine r_getI (pc := 23) X ⟨hc0, hj0⟩ fl_X1_30 rfl dX1_signalAt_23 ?_
  refine r_iload_n (pc := 26) X dX1_signalAt_26 rfl ?_
  refine r_imul (pc := 27) X dX1_signalAt_27 ?_
  refine r_iadd (pc := 28) X dX1_signalAt_28 ?_
  refine r_istore_nN (pc := 29) X (by decide) dX1_signalAt_29 h (fun e1 h => ?_)
  refine r_iload_n (pc := 30) X dX1_signalAt_30 rfl ?_
  refine r_if_ge (pc := 31) X (tgt := 36) dX1_signalAt_31 (by decide) h (fun h => ?_) (fun h => ?_)
  · refine r_iload_n (pc := 36) X dX1_signalAt_36 rfl ?_
    refine r_sipush (pc := 37) X (v := 4095) dX1_signalAt_37 (by decide) ?_
    refine r_icmp_le (pc := 40) X (tgt := 49) dX1_signalAt_40 (by decide) h (fun h => ?_) (fun h => ?_)
    · refine r_iload_n (pc := 49) X dX1_signalAt_49 rfl ?_
      cases h
      exact r_iret (pc := 50) X hr dX1_signalAt_50
    · refine r_sipush (pc := 43) X (v := 4095) dX1_signalAt_43 (by decide) ?_
      refine r_goto (pc := 46) X (tgt := 50) dX1_signalAt_46 (by decide) ?_
      cases h
      exact r_iret (pc := 50) X hr dX1_signalAt_50
  · refine r_iconst (pc := 34) X (v := 0) dX1_signalAt_34 (by decide) ?_
    cases h
    exact r_iret (pc := 35) X hr dX1_signalAt_35
def f_X1_signalAt (c0 : Nat) (j0 : Nat) (x1 : Int32) (M : Mem) : Option (Int32 × Mem) :=
  if (M.1 (0, c0, j0) 4) ≤ 0 then f_X1_signalAt_17 c0 j0 0 M else if (M.1 (0, c0, j0) 4) = 0 then none else f_X1_signalAt_17 c0 j0 (x1 - x1 / (M.1 (0, c0, j0) 4) * (M.1 (0, c0, j0) 4)) M
set_option maxHeartbeats 4000000 in
set_option maxRecDepth 100000 in
theorem t_X1_signalAt {G : GG} {A : Nat → Prop} {p : Program} {l : Launch} {e : Env} {s : State} {m : MethodId} {args : Array Value} {below : List Frame} {meth : Method} {c : Code} {r : Int32} {M' : Mem} (X : Cx G A p s m args meth c RX1 cX1_signalAt 4) (hr : meth.sig.returnType = some .int) {c0 : Nat} {j0 : Nat} {x1 : Int32} {M : Mem} (hc0 : c0 < 6) (hj0 : j0 < 8) (h : f_X1_signalAt c0 j0 x1 M = some (r, M')) : T G A p l e (rmO 0) s m args below meth c 4 0 0 (MQ below (QiO G A r M') args s 0 0 A) 0 [(0, .ref (G.2.1 (0, c0, j0))), (1, .int x1)] [] M := by
  unfold f_X1_signalAt at h
  refine r_aload_n (pc := 0) X dX1_signalAt_0 rfl ?_
  refine r_getI (pc := 1) X ⟨hc0, hj0⟩ fl_X1_15 rfl dX1_signalAt_1 ?_
  refine r_if_le (pc := 4) X (tgt := 16) dX1_signalAt_4 (by decide) h (fun h => ?_) (fun h => ?_)
  · refine r_iconst (pc := 16) X (v := 0) dX1_signalAt_16 (by decide) ?_
    exact T_sub (t_X1_signalAt_17 X hr hc0 hj0 h) ⟨rfl, trivial⟩
  · refine r_iload_n (pc := 7) X dX1_signalAt_7 rfl ?_
    refine r_aload_n (pc := 8) X dX1_signalAt_8 rfl ?_
    refine r_getI (pc := 9) X ⟨hc0, hj0⟩ fl_X1_15 rfl dX1_signalAt_9 ?_
    refine ck h (fun hz h => ?_)
    refine r_irem (pc := 12) X hz dX1_signalAt_12 ?_
    refine r_goto (pc := 13) X (tgt := 17) dX1_signalAt_13 (by decide) ?_
    exact T_sub (t_X1_signalAt_17 X hr hc0 hj0 h) ⟨rfl, trivial⟩
theorem c_X1_signalAt {G : GG} {l : Launch} {c0 : Nat} {j0 : Nat} {x1 : Int32} {r : Int32} {M M' : Mem} (hc0 : c0 < 6) (hj0 : j0 < 8) (h : f_X1_signalAt c0 j0 x1 M = some (r, M')) : Met l yX1_signalAt (wsO yX1_signalAt cX1_signalAt 4 (some .int)) (rmO 0) (PcO G [.ref (G.2.1 (0, c0, j0)), .int x1] M) (QiO G (AA G) r M') 0 0 (AA G) :=
  met_of (own := RX1) rfl (by decide +kernel) (Nat.le_of_ble_eq_true rfl) (fun p e s m args below meth c X hr => t_X1_signalAt X hr hc0 hj0 h)
-- ConverterScanner$Channel.conversionLength
def f_X1_conversionLength (c0 : Nat) (j0 : Nat) (M : Mem) : Option (Int32 × Mem) :=
  some (((M.1 (0, c0, j0) 0) + 12), M)
set_option maxHeartbeats 4000000 in
set_option maxRecDepth 100000 in
theorem t_X1_conversionLength {G : GG} {A : Nat → Prop} {p : Program} {l : Launch} {e : Env} {s : State} {m : MethodId} {args : Array Value} {below : List Frame} {meth : Method} {c : Code} {r : Int32} {M' : Mem} (X : Cx G A p s m args meth c RX1 cX1_conversionLength 1) (hr : meth.sig.returnType = some .int) {c0 : Nat} {j0 : Nat} {M : Mem} (hc0 : c0 < 6) (hj0 : j0 < 8) (h : f_X1_conversionLength c0 j0 M = some (r, M')) : T G A p l e (rmO 0) s m args below meth c 1 0 0 (MQ below (QiO G A r M') args s 0 0 A) 0 [(0, .ref (G.2.1 (0, c0, j0)))] [] M := by
  unfold f_X1_conversionLength at h
  refine r_aload_n (pc := 0) X dX1_conversionLength_0 rfl ?_
  refine r_getI (pc := 1) X ⟨hc0, hj0⟩ fl_X1_9 rfl dX1_conversionLength_1 ?_
  refine r_bipush (pc := 4) X (v := 12) dX1_conversionLength_4 (by decide) ?_
  refine r_iadd (pc := 6) X dX1_conversionLength_6 ?_
  cases h
  exact r_iret (pc := 7) X hr dX1_conversionLength_7
theorem c_X1_conversionLength {G : GG} {l : Launch} {c0 : Nat} {j0 : Nat} {r : Int32} {M M' : Mem} (hc0 : c0 < 6) (hj0 : j0 < 8) (h : f_X1_conversionLength c0 j0 M = some (r, M')) : Met l yX1_conversionLength (wsO yX1_conversionLength cX1_conversionLength 1 (some .int)) (rmO 0) (PcO G [.ref (G.2.1 (0, c0, j0))] M) (QiO G (AA G) r M') 0 0 (AA G) :=
  met_of (own := RX1) rfl (by decide +kernel) (Nat.le_of_ble_eq_true rfl) (fun p e s m args below meth c X hr => t_X1_conversionLength X hr hc0 hj0 h)
-- ConverterScanner$Channel.addResult
def f_X1_addResult_40 (c0 : Nat) (j0 : Nat) (x1 : Int32) (M : Mem) : Option (Unit × Mem) :=
  nm (uI M (0, c0, j0) 5 ((M.1 (0, c0, j0) 5) + 1)) (fun M1 => nm (uL M1 (0, c0, j0) 8 ((M1.2.1 (0, c0, j0) 8) + (Int32.toInt64 x1))) (fun M2 => some ((), M2)))
set_option maxHeartbeats 4000000 in
set_option maxRecDepth 100000 in
theorem t_X1_addResult_40 {G : GG} {A : Nat → Prop} {p : Program} {l : Launch} {e : Env} {s : State} {m : MethodId} {args : Array Value} {below : List Frame} {meth : Method} {c : Code} {r : Unit} {M' : Mem} (X : Cx G A p s m args meth c RX1 cX1_addResult 2) (hr : meth.sig.returnType = none) {c0 : Nat} {j0 : Nat} {x1 : Int32} {M : Mem} (hc0 : c0 < 6) (hj0 : j0 < 8) (h : f_X1_addResult_40 c0 j0 x1 M = some (r, M')) : T G A p l e (rmO 0) s m args below meth c 2 0 0 (MQ below (QvO G A M') args s 0 0 A) 40 [(0, .ref (G.2.1 (0, c0, j0))), (1, .int x1)] [] M := by
  unfold f_X1_addResult_40 at h
  refine r_aload_n (pc := 40) X dX1_addResult_40 rfl ?_
  refine r_dup (pc := 41) X dX1_addResult_41 rfl ?_
  refine r_getI (pc := 42) X ⟨hc0, hj0⟩ fl_X1_33 rfl dX1_addResult_42 ?_
  refine r_iconst (pc := 45) X (v := 1) dX1_addResult_45 (by decide) ?_
  refine r_iadd (pc := 46) X dX1_addResult_46 ?_
  refine r_putIN (pc := 47) X ⟨hc0, hj0⟩ fp_X1_33 rfl dX1_addResult_47 h (fun M1 h => ?_)
  refine r_aload_n (pc := 50) X dX1_addResult_50 rfl ?_
  refine r_dup (pc := 51) X dX1_addResult_51 rfl ?_
  refine r_getL (pc := 52) X ⟨hc0, hj0⟩ fl_X1_36 rfl dX1_addResult_52 ?_
  refine r_iload_n (pc := 55) X dX1_addResult_55 rfl ?_
  refine r_i2l (pc := 56) X dX1_addResult_56 ?_
  refine r_ladd (pc := 57) X dX1_addResult_57 ?_
  refine r_putLN (pc := 58) X ⟨hc0, hj0⟩ fp_X1_36 rfl dX1_addResult_58 h (fun M2 h => ?_)
  cases h
  exact r_vret (pc := 61) X hr dX1_addResult_61
def f_X1_addResult_35 (c0 : Nat) (j0 : Nat) (x1 : Int32) (M : Mem) : Option (Unit × Mem) :=
  nm (uI M (0, c0, j0) 7 x1) (fun M1 => f_X1_addResult_40 c0 j0 x1 M1)
set_option maxHeartbeats 4000000 in
set_option maxRecDepth 100000 in
theorem t_X1_addResult_35 {G : GG} {A : Nat → Prop} {p : Program} {l : Launch} {e : Env} {s : State} {m : MethodId} {args : Array Value} {below : List Frame} {meth : Method} {c : Code} {r : Unit} {M' : Mem} (X : Cx G A p s m args meth c RX1 cX1_addResult 2) (hr : meth.sig.returnType = none) {c0 : Nat} {j0 : Nat} {x1 : Int32} {M : Mem} (hc0 : c0 < 6) (hj0 : j0 < 8) (h : f_X1_addResult_35 c0 j0 x1 M = some (r, M')) : T G A p l e (rmO 0) s m args below meth c 2 0 0 (MQ below (QvO G A M') args s 0 0 A) 35 [(0, .ref (G.2.1 (0, c0, j0))), (1, .int x1)] [] M := by
  unfold f_X1_addResult_35 at h
  refine r_aload_n (pc := 35) X dX1_addResult_35 rfl ?_
  refine r_iload_n (pc := 36) X dX1_addResult_36 rfl ?_
  refine r_putIN (pc := 37) X ⟨hc0, hj0⟩ fp_X1_21 rfl dX1_addResult_37 h (fun M1 h => ?_)
  exact T_sub (t_X1_addResult_40 X hr hc0 hj0 h) ⟨rfl, rfl, trivial⟩
def f_X1_addResult_20 (c0 : Nat) (j0 : Nat) (x1 : Int32) (M : Mem) : Option (Unit × Mem) :=
  if (M.1 (0, c0, j0) 5) = 0 then f_X1_addResult_35 c0 j0 x1 M else if x1 ≤ (M.1 (0, c0, j0) 7) then f_X1_addResult_40 c0 j0 x1 M else f_X1_addResult_35 c0 j0 x1 M
set_option maxHeartbeats 4000000 in
set_option maxRecDepth 100000 in
theorem t_X1_addResult_20 {G : GG} {A : Nat → Prop} {p : Program} {l : Launch} {e : Env} {s : State} {m : MethodId} {args : Array Value} {below : List Frame} {meth : Method} {c : Code} {r : Unit} {M' : Mem} (X : Cx G A p s m args meth c RX1 cX1_addResult 2) (hr : meth.sig.returnType = none) {c0 : Nat} {j0 : Nat} {x1 : Int32} {M : Mem} (hc0 : c0 < 6) (hj0 : j0 < 8) (h : f_X1_addResult_20 c0 j0 x1 M = some (r, M')) : T G A p l e (rmO 0) s m args below meth c 2 0 0 (MQ below (QvO G A M') args s 0 0 A) 20 [(0, .ref (G.2.1 (0, c0, j0))), (1, .int x1)] [] M := by
  unfold f_X1_addResult_20 at h
  refine r_aload_n (pc := 20) X dX1_addResult_20 rfl ?_
  refine r_getI (pc := 21) X ⟨hc0, hj0⟩ fl_X1_33 rfl dX1_addResult_21 ?_
  refine r_if_eq (pc := 24) X (tgt := 35) dX1_addResult_24 (by decide) h (fun h => ?_) (fun h => ?_)
  · exact T_sub (t_X1_addResult_35 X hr hc0 hj0 h) ⟨rfl, rfl, trivial⟩
  · refine r_iload_n (pc := 27) X dX1_addResult_27 rfl ?_
    refine r_aload_n (pc := 28) X dX1_addResult_28 rfl ?_
    refine r_getI (pc := 29) X ⟨hc0, hj0⟩ fl_X1_21 rfl dX1_addResult_29 ?_
    refine r_icmp_le (pc := 32) X (tgt := 40) dX1_addResult_32 (by decide) h (fun h => ?_) (fun h => ?_)
    · exact T_sub (t_X1_addResult_40 X hr hc0 hj0 h) ⟨rfl, rfl, trivial⟩
    · exact T_sub (t_X1_addResult_35 X hr hc0 hj0 h) ⟨rfl, rfl, trivial⟩
def f_X1_addResult_15 (c0 : Nat) (j0 : Nat) (x1 : Int32) (M : Mem) : Option (Unit × Mem) :=
  nm (uI M (0, c0, j0) 6 x1) (fun M1 => f_X1_addResult_20 c0 j0 x1 M1)
set_option maxHeartbeats 4000000 in
set_option maxRecDepth 100000 in
theorem t_X1_addResult_15 {G : GG} {A : Nat → Prop} {p : Program} {l : Launch} {e : Env} {s : State} {m : MethodId} {args : Array Value} {below : List Frame} {meth : Method} {c : Code} {r : Unit} {M' : Mem} (X : Cx G A p s m args meth c RX1 cX1_addResult 2) (hr : meth.sig.returnType = none) {c0 : Nat} {j0 : Nat} {x1 : Int32} {M : Mem} (hc0 : c0 < 6) (hj0 : j0 < 8) (h : f_X1_addResult_15 c0 j0 x1 M = some (r, M')) : T G A p l e (rmO 0) s m args below meth c 2 0 0 (MQ below (QvO G A M') args s 0 0 A) 15 [(0, .ref (G.2.1 (0, c0, j0))), (1, .int x1)] [] M := by
  unfold f_X1_addResult_15 at h
  refine r_aload_n (pc := 15) X dX1_addResult_15 rfl ?_
  refine r_iload_n (pc := 16) X dX1_addResult_16 rfl ?_
  refine r_putIN (pc := 17) X ⟨hc0, hj0⟩ fp_X1_18 rfl dX1_addResult_17 h (fun M1 h => ?_)
  exact T_sub (t_X1_addResult_20 X hr hc0 hj0 h) ⟨rfl, rfl, trivial⟩
def f_X1_addResult (c0 : Nat) (j0 : Nat) (x1 : Int32) (M : Mem) : Option (Unit × Mem) :=
  if (M.1 (0, c0, j0) 5) = 0 then f_X1_addResult_15 c0 j0 x1 M else if (M.1 (0, c0, j0) 6) ≤ x1 then f_X1_addResult_20 c0 j0 x1 M else f_X1_addResult_15 c0 j0 x1 M
set_option maxHeartbeats 4000000 in
set_option maxRecDepth 100000 in
theorem t_X1_addResult {G : GG} {A : Nat → Prop} {p : Program} {l : Launch} {e : Env} {s : State} {m : MethodId} {args : Array Value} {below : List Frame} {meth : Method} {c : Code} {r : Unit} {M' : Mem} (X : Cx G A p s m args meth c RX1 cX1_addResult 2) (hr : meth.sig.returnType = none) {c0 : Nat} {j0 : Nat} {x1 : Int32} {M : Mem} (hc0 : c0 < 6) (hj0 : j0 < 8) (h : f_X1_addResult c0 j0 x1 M = some (r, M')) : T G A p l e (rmO 0) s m args below meth c 2 0 0 (MQ below (QvO G A M') args s 0 0 A) 0 [(0, .ref (G.2.1 (0, c0, j0))), (1, .int x1)] [] M := by
  unfold f_X1_addResult at h
  refine r_aload_n (pc := 0) X dX1_addResult_0 rfl ?_
  refine r_getI (pc := 1) X ⟨hc0, hj0⟩ fl_X1_33 rfl dX1_addResult_1 ?_
  refine r_if_eq (pc := 4) X (tgt := 15) dX1_addResult_4 (by decide) h (fun h => ?_) (fun h => ?_)
  · exact T_sub (t_X1_addResult_15 X hr hc0 hj0 h) ⟨rfl, rfl, trivial⟩
  · refine r_iload_n (pc := 7) X dX1_addResult_7 rfl ?_
    refine r_aload_n (pc := 8) X dX1_addResult_8 rfl ?_
    refine r_getI (pc := 9) X ⟨hc0, hj0⟩ fl_X1_18 rfl dX1_addResult_9 ?_
    refine r_icmp_ge (pc := 12) X (tgt := 20) dX1_addResult_12 (by decide) h (fun h => ?_) (fun h => ?_)
    · exact T_sub (t_X1_addResult_20 X hr hc0 hj0 h) ⟨rfl, rfl, trivial⟩
    · exact T_sub (t_X1_addResult_15 X hr hc0 hj0 h) ⟨rfl, rfl, trivial⟩
theorem c_X1_addResult {G : GG} {l : Launch} {c0 : Nat} {j0 : Nat} {x1 : Int32} {r : Unit} {M M' : Mem} (hc0 : c0 < 6) (hj0 : j0 < 8) (h : f_X1_addResult c0 j0 x1 M = some (r, M')) : Met l yX1_addResult (wsO yX1_addResult cX1_addResult 2 none) (rmO 0) (PcO G [.ref (G.2.1 (0, c0, j0)), .int x1] M) (QvO G (AA G) M') 0 0 (AA G) :=
  met_of (own := RX1) rfl (by decide +kernel) (Nat.le_of_ble_eq_true rfl) (fun p e s m args below meth c X hr => t_X1_addResult X hr hc0 hj0 h)
-- ConverterScanner$Conversion.copyFrom
def f_X2_copyFrom (c0 : Nat) (c1 : Nat) (M : Mem) : Option (Unit × Mem) :=
  nm (uI M (1, c0, 0) 0 (M.1 (1, c1, 0) 0)) (fun M1 => nm (uI M1 (1, c0, 0) 1 (M1.1 (1, c1, 0) 1)) (fun M2 => nm (uI M2 (1, c0, 0) 2 (M2.1 (1, c1, 0) 2)) (fun M3 => nm (uI M3 (1, c0, 0) 3 (M3.1 (1, c1, 0) 3)) (fun M4 => nm (uI M4 (1, c0, 0) 4 (M4.1 (1, c1, 0) 4)) (fun M5 => nm (uI M5 (1, c0, 0) 5 (M5.1 (1, c1, 0) 5)) (fun M6 => some ((), M6)))))))
set_option maxHeartbeats 4000000 in
set_option maxRecDepth 100000 in
theorem t_X2_copyFrom {G : GG} {A : Nat → Prop} {p : Program} {l : Launch} {e : Env} {s : State} {m : MethodId} {args : Array Value} {below : List Frame} {meth : Method} {c : Code} {r : Unit} {M' : Mem} (X : Cx G A p s m args meth c RX2 cX2_copyFrom 2) (hr : meth.sig.returnType = none) {c0 : Nat} {c1 : Nat} {M : Mem} (hc0 : c0 < 6) (hc1 : c1 < 6) (h : f_X2_copyFrom c0 c1 M = some (r, M')) : T G A p l e (rmO 0) s m args below meth c 2 0 0 (MQ below (QvO G A M') args s 0 0 A) 0 [(0, .ref (G.2.1 (1, c0, 0))), (1, .ref (G.2.1 (1, c1, 0)))] [] M := by
  unfold f_X2_copyFrom at h
  refine r_aload_n (pc := 0) X dX2_copyFrom_0 rfl ?_
  refine r_aload_n (pc := 1) X dX2_copyFrom_1 rfl ?_
  refine r_getI (pc := 2) X ⟨hc1, (ltb rfl)⟩ fl_X2_9 rfl dX2_copyFrom_2 ?_
  refine r_putIN (pc := 5) X ⟨hc0, (ltb rfl)⟩ fp_X2_9 rfl dX2_copyFrom_5 h (fun M1 h => ?_)
  refine r_aload_n (pc := 8) X dX2_copyFrom_8 rfl ?_
  refine r_aload_n (pc := 9) X dX2_copyFrom_9 rfl ?_
  refine r_getI (pc := 10) X ⟨hc1, (ltb rfl)⟩ fl_X2_15 rfl dX2_copyFrom_10 ?_
  refine r_putIN (pc := 13) X ⟨hc0, (ltb rfl)⟩ fp_X2_15 rfl dX2_copyFrom_13 h (fun M2 h => ?_)
  refine r_aload_n (pc := 16) X dX2_copyFrom_16 rfl ?_
  refine r_aload_n (pc := 17) X dX2_copyFrom_17 rfl ?_
  refine r_getI (pc := 18) X ⟨hc1, (ltb rfl)⟩ fl_X2_18 rfl dX2_copyFrom_18 ?_
  refine r_putIN (pc := 21) X ⟨hc0, (ltb rfl)⟩ fp_X2_18 rfl dX2_copyFrom_21 h (fun M3 h => ?_)
  refine r_aload_n (pc := 24) X dX2_copyFrom_24 rfl ?_
  refine r_aload_n (pc := 25) X dX2_copyFrom_25 rfl ?_
  refine r_getI (pc := 26) X ⟨hc1, (ltb rfl)⟩ fl_X2_21 rfl dX2_copyFrom_26 ?_
  refine r_putIN (pc := 29) X ⟨hc0, (ltb rfl)⟩ fp_X2_21 rfl dX2_copyFrom_29 h (fun M4 h => ?_)
  refine r_aload_n (pc := 32) X dX2_copyFrom_32 rfl ?_
  refine r_aload_n (pc := 33) X dX2_copyFrom_33 rfl ?_
  refine r_getI (pc := 34) X ⟨hc1, (ltb rfl)⟩ fl_X2_24 rfl dX2_copyFrom_34 ?_
  refine r_putIN (pc := 37) X ⟨hc0, (ltb rfl)⟩ fp_X2_24 rfl dX2_copyFrom_37 h (fun M5 h => ?_)
  refine r_aload_n (pc := 40) X dX2_copyFrom_40 rfl ?_
  refine r_aload_n (pc := 41) X dX2_copyFrom_41 rfl ?_
  refine r_getI (pc := 42) X ⟨hc1, (ltb rfl)⟩ fl_X2_27 rfl dX2_copyFrom_42 ?_
  refine r_putIN (pc := 45) X ⟨hc0, (ltb rfl)⟩ fp_X2_27 rfl dX2_copyFrom_45 h (fun M6 h => ?_)
  cases h
  exact r_vret (pc := 48) X hr dX2_copyFrom_48
theorem c_X2_copyFrom {G : GG} {l : Launch} {c0 : Nat} {c1 : Nat} {r : Unit} {M M' : Mem} (hc0 : c0 < 6) (hc1 : c1 < 6) (h : f_X2_copyFrom c0 c1 M = some (r, M')) : Met l yX2_copyFrom (wsO yX2_copyFrom cX2_copyFrom 2 none) (rmO 0) (PcO G [.ref (G.2.1 (1, c0, 0)), .ref (G.2.1 (1, c1, 0))] M) (QvO G (AA G) M') 0 0 (AA G) :=
  met_of (own := RX2) rfl (by decide +kernel) (Nat.le_of_ble_eq_true rfl) (fun p e s m args below meth c X hr => t_X2_copyFrom X hr hc0 hc1 h)
-- ConverterScanner$Results.put
def f_X5_put (c0 : Nat) (j0 : Nat) (x1 : Int32) (x2 : Int32) (x3 : Int32) (x4 : Int32) (x5 : Int32) (M : Mem) : Option (Unit × Mem) :=
  nm ((x1 &&& (M.1 (4, c0, j0) 1)) * 4) (fun e1 => if bad e1 (akO (21, c0, j0)).2 then none else nm (uI M (21, c0, j0) (Int32.toNatClampNeg e1) x2) (fun M2 => if bad (e1 + 1) (akO (21, c0, j0)).2 then none else nm (uI M2 (21, c0, j0) (Int32.toNatClampNeg (e1 + 1)) x3) (fun M3 => if bad (e1 + 2) (akO (21, c0, j0)).2 then none else nm (uI M3 (21, c0, j0) (Int32.toNatClampNeg (e1 + 2)) x4) (fun M4 => if bad (e1 + 3) (akO (21, c0, j0)).2 then none else nm (uI M4 (21, c0, j0) (Int32.toNatClampNeg (e1 + 3)) x5) (fun M5 => some ((), M5))))))
set_option maxHeartbeats 4000000 in
set_option maxRecDepth 100000 in
theorem t_X5_put {G : GG} {A : Nat → Prop} {p : Program} {l : Launch} {e : Env} {s : State} {m : MethodId} {args : Array Value} {below : List Frame} {meth : Method} {c : Code} {r : Unit} {M' : Mem} (X : Cx G A p s m args meth c RX5 cX5_put 7) (hr : meth.sig.returnType = none) {c0 : Nat} {j0 : Nat} {x1 : Int32} {x2 : Int32} {x3 : Int32} {x4 : Int32} {x5 : Int32} {M : Mem} (hc0 : c0 < 6) (hj0 : j0 < 3) (h : f_X5_put c0 j0 x1 x2 x3 x4 x5 M = some (r, M')) : T G A p l e (rmO 0) s m args below meth c 7 0 0 (MQ below (QvO G A M') args s 0 0 A) 0 [(0, .ref (G.2.1 (4, c0, j0))), (1, .int x1), (2, .int x2), (3, .int x3), (4, .int x4), (5, .int x5)] [] M := by
  unfold f_X5_put at h
  refine r_iload_n (pc := 0) X dX5_put_0 rfl ?_
  refine r_aload_n (pc := 1) X dX5_put_1 rfl ?_
  refine r_getI (pc := 2) X ⟨hc0, hj0⟩ fl_X5_15 rfl dX5_put_2 ?_
  refine r_iand (pc := 5) X dX5_put_5 ?_
  refine r_iconst (pc := 6) X (v := 4) dX5_put_6 (by decide) ?_
  refine r_imul (pc := 7) X dX5_put_7 ?_
  refine r_istoreN (pc := 8) X (by decide) dX5_put_8 h (fun e1 h => ?_)
  refine r_aload_n (pc := 10) X dX5_put_10 rfl ?_
  refine r_getR (q := (21, c0, j0)) (pc := 11) X ⟨hc0, hj0⟩ fl_X5_9 rfl dX5_put_11 ?_
  refine r_iload (pc := 14) X dX5_put_14 rfl ?_
  refine r_iload_n (pc := 16) X dX5_put_16 rfl ?_
  refine r_iastN (pc := 17) X (n := (akO (21, c0, j0)).2) ⟨hc0, hj0⟩ rfl (nlt rfl) dX5_put_17 h (fun M2 h => ?_)
  refine r_aload_n (pc := 18) X dX5_put_18 rfl ?_
  refine r_getR (q := (21, c0, j0)) (pc := 19) X ⟨hc0, hj0⟩ fl_X5_9 rfl dX5_put_19 ?_
  refine r_iload (pc := 22) X dX5_put_22 rfl ?_
  refine r_iconst (pc := 24) X (v := 1) dX5_put_24 (by decide) ?_
  refine r_iadd (pc := 25) X dX5_put_25 ?_
  refine r_iload_n (pc := 26) X dX5_put_26 rfl ?_
  refine r_iastN (pc := 27) X (n := (akO (21, c0, j0)).2) ⟨hc0, hj0⟩ rfl (nlt rfl) dX5_put_27 h (fun M3 h => ?_)
  refine r_aload_n (pc := 28) X dX5_put_28 rfl ?_
  refine r_getR (q := (21, c0, j0)) (pc := 29) X ⟨hc0, hj0⟩ fl_X5_9 rfl dX5_put_29 ?_
  refine r_iload (pc := 32) X dX5_put_32 rfl ?_
  refine r_iconst (pc := 34) X (v := 2) dX5_put_34 (by decide) ?_
  refine r_iadd (pc := 35) X dX5_put_35 ?_
  refine r_iload (pc := 36) X dX5_put_36 rfl ?_
  refine r_iastN (pc := 38) X (n := (akO (21, c0, j0)).2) ⟨hc0, hj0⟩ rfl (nlt rfl) dX5_put_38 h (fun M4 h => ?_)
  refine r_aload_n (pc := 39) X dX5_put_39 rfl ?_
  refine r_getR (q := (21, c0, j0)) (pc := 40) X ⟨hc0, hj0⟩ fl_X5_9 rfl dX5_put_40 ?_
  refine r_iload (pc := 43) X dX5_put_43 rfl ?_
  refine r_iconst (pc := 45) X (v := 3) dX5_put_45 (by decide) ?_
  refine r_iadd (pc := 46) X dX5_put_46 ?_
  refine r_iload (pc := 47) X dX5_put_47 rfl ?_
  refine r_iastN (pc := 49) X (n := (akO (21, c0, j0)).2) ⟨hc0, hj0⟩ rfl (nlt rfl) dX5_put_49 h (fun M5 h => ?_)
  cases h
  exact r_vret (pc := 50) X hr dX5_put_50
theorem c_X5_put {G : GG} {l : Launch} {c0 : Nat} {j0 : Nat} {x1 : Int32} {x2 : Int32} {x3 : Int32} {x4 : Int32} {x5 : Int32} {r : Unit} {M M' : Mem} (hc0 : c0 < 6) (hj0 : j0 < 3) (h : f_X5_put c0 j0 x1 x2 x3 x4 x5 M = some (r, M')) : Met l yX5_put (wsO yX5_put cX5_put 7 none) (rmO 0) (PcO G [.ref (G.2.1 (4, c0, j0)), .int x1, .int x2, .int x3, .int x4, .int x5] M) (QvO G (AA G) M') 0 0 (AA G) :=
  met_of (own := RX5) rfl (by decide +kernel) (Nat.le_of_ble_eq_true rfl) (fun p e s m args below meth c X hr => t_X5_put X hr hc0 hj0 h)
-- ConverterScanner$Results.removeOldest
def f_X5_removeOldest (c0 : Nat) (j0 : Nat) (M : Mem) : Option (Unit × Mem) :=
  nm (uI M (4, c0, j0) 4 (((M.1 (4, c0, j0) 4) + 1) &&& (M.1 (4, c0, j0) 1))) (fun M1 => nm (uI M1 (4, c0, j0) 5 ((M1.1 (4, c0, j0) 5) - 1)) (fun M2 => some ((), M2)))
set_option maxHeartbeats 4000000 in
set_option maxRecDepth 100000 in
theorem t_X5_removeOldest {G : GG} {A : Nat → Prop} {p : Program} {l : Launch} {e : Env} {s : State} {m : MethodId} {args : Array Value} {below : List Frame} {meth : Method} {c : Code} {r : Unit} {M' : Mem} (X : Cx G A p s m args meth c RX5 cX5_removeOldest 1) (hr : meth.sig.returnType = none) {c0 : Nat} {j0 : Nat} {M : Mem} (hc0 : c0 < 6) (hj0 : j0 < 3) (h : f_X5_removeOldest c0 j0 M = some (r, M')) : T G A p l e (rmO 0) s m args below meth c 1 0 0 (MQ below (QvO G A M') args s 0 0 A) 0 [(0, .ref (G.2.1 (4, c0, j0)))] [] M := by
  unfold f_X5_removeOldest at h
  refine r_aload_n (pc := 0) X dX5_removeOldest_0 rfl ?_
  refine r_aload_n (pc := 1) X dX5_removeOldest_1 rfl ?_
  refine r_getI (pc := 2) X ⟨hc0, hj0⟩ fl_X5_32 rfl dX5_removeOldest_2 ?_
  refine r_iconst (pc := 5) X (v := 1) dX5_removeOldest_5 (by decide) ?_
  refine r_iadd (pc := 6) X dX5_removeOldest_6 ?_
  refine r_aload_n (pc := 7) X dX5_removeOldest_7 rfl ?_
  refine r_getI (pc := 8) X ⟨hc0, hj0⟩ fl_X5_15 rfl dX5_removeOldest_8 ?_
  refine r_iand (pc := 11) X dX5_removeOldest_11 ?_
  refine r_putIN (pc := 12) X ⟨hc0, hj0⟩ fp_X5_32 rfl dX5_removeOldest_12 h (fun M1 h => ?_)
  refine r_aload_n (pc := 15) X dX5_removeOldest_15 rfl ?_
  refine r_dup (pc := 16) X dX5_removeOldest_16 rfl ?_
  refine r_getI (pc := 17) X ⟨hc0, hj0⟩ fl_X5_35 rfl dX5_removeOldest_17 ?_
  refine r_iconst (pc := 20) X (v := 1) dX5_removeOldest_20 (by decide) ?_
  refine r_isub (pc := 21) X dX5_removeOldest_21 ?_
  refine r_putIN (pc := 22) X ⟨hc0, hj0⟩ fp_X5_35 rfl dX5_removeOldest_22 h (fun M2 h => ?_)
  cases h
  exact r_vret (pc := 25) X hr dX5_removeOldest_25
theorem c_X5_removeOldest {G : GG} {l : Launch} {c0 : Nat} {j0 : Nat} {r : Unit} {M M' : Mem} (hc0 : c0 < 6) (hj0 : j0 < 3) (h : f_X5_removeOldest c0 j0 M = some (r, M')) : Met l yX5_removeOldest (wsO yX5_removeOldest cX5_removeOldest 1 none) (rmO 0) (PcO G [.ref (G.2.1 (4, c0, j0))] M) (QvO G (AA G) M') 0 0 (AA G) :=
  met_of (own := RX5) rfl (by decide +kernel) (Nat.le_of_ble_eq_true rfl) (fun p e s m args below meth c X hr => t_X5_removeOldest X hr hc0 hj0 h)
-- ConverterScanner$Results.add
def f_X5_add_33 (c0 : Nat) (j0 : Nat) (x1 : Int32) (x2 : Int32) (x3 : Int32) (x4 : Int32) (M : Mem) : Option (Unit × Mem) :=
  bnd (f_X5_put c0 j0 ((M.1 (4, c0, j0) 4) + (M.1 (4, c0, j0) 5)) x1 x2 x3 x4 M) (fun r1 M2 => nm (uI M2 (4, c0, j0) 5 ((M2.1 (4, c0, j0) 5) + 1)) (fun M4 => some ((), M4)))
set_option maxHeartbeats 4000000 in
set_option maxRecDepth 100000 in
theorem t_X5_add_33 {G : GG} {A : Nat → Prop} {p : Program} {l : Launch} {e : Env} {s : State} {m : MethodId} {args : Array Value} {below : List Frame} {meth : Method} {c : Code} {r : Unit} {M' : Mem} (X : Cx G A p s m args meth c RX5 cX5_add 5) (hr : meth.sig.returnType = none) {c0 : Nat} {j0 : Nat} {x1 : Int32} {x2 : Int32} {x3 : Int32} {x4 : Int32} {M : Mem} (hc0 : c0 < 6) (hj0 : j0 < 3) (h : f_X5_add_33 c0 j0 x1 x2 x3 x4 M = some (r, M')) : T G A p l e (rmO 1) s m args below meth c 5 0 0 (MQ below (QvO G A M') args s 0 0 A) 33 [(0, .ref (G.2.1 (4, c0, j0))), (1, .int x1), (2, .int x2), (3, .int x3), (4, .int x4)] [] M := by
  unfold f_X5_add_33 at h
  refine r_aload_n (pc := 33) X dX5_add_33 rfl ?_
  refine r_aload_n (pc := 34) X dX5_add_34 rfl ?_
  refine r_getI (pc := 35) X ⟨hc0, hj0⟩ fl_X5_32 rfl dX5_add_35 ?_
  refine r_aload_n (pc := 38) X dX5_add_38 rfl ?_
  refine r_getI (pc := 39) X ⟨hc0, hj0⟩ fl_X5_35 rfl dX5_add_39 ?_
  refine r_iadd (pc := 42) X dX5_add_42 ?_
  refine r_iload_n (pc := 43) X dX5_add_43 rfl ?_
  refine r_iload_n (pc := 44) X dX5_add_44 rfl ?_
  refine r_iload_n (pc := 45) X dX5_add_45 rfl ?_
  refine r_iload (pc := 46) X dX5_add_46 rfl ?_
  refine bndE h (fun r1 M2 h3 h => ?_)
  refine r_callVv5 (pc := 48) X ⟨hc0, hj0⟩ rfl vy_X5_put my_X5_put ml_X5_44 ⟨Nat.le_of_ble_eq_true rfl, Nat.le_of_ble_eq_true rfl, Nat.le_of_ble_eq_true rfl, Nat.le_of_ble_eq_true rfl⟩ (c_X5_put hc0 hj0 h3) (Nat.le_of_ble_eq_true rfl) dX5_add_48 ?_
  refine r_aload_n (pc := 51) X dX5_add_51 rfl ?_
  refine r_dup (pc := 52) X dX5_add_52 rfl ?_
  refine r_getI (pc := 53) X ⟨hc0, hj0⟩ fl_X5_35 rfl dX5_add_53 ?_
  refine r_iconst (pc := 56) X (v := 1) dX5_add_56 (by decide) ?_
  refine r_iadd (pc := 57) X dX5_add_57 ?_
  refine r_putIN (pc := 58) X ⟨hc0, hj0⟩ fp_X5_35 rfl dX5_add_58 h (fun M4 h => ?_)
  cases h
  exact r_vret (pc := 61) X hr dX5_add_61
def f_X5_add (c0 : Nat) (j0 : Nat) (x1 : Int32) (x2 : Int32) (x3 : Int32) (x4 : Int32) (M : Mem) : Option (Unit × Mem) :=
  if (M.1 (4, c0, j0) 5) < (M.1 (4, c0, j0) 2) then f_X5_add_33 c0 j0 x1 x2 x3 x4 M else nm (uI M (4, c0, j0) 6 ((M.1 (4, c0, j0) 6) + 1)) (fun M1 => if (M1.1 (4, c0, j0) 3) = 0 then some ((), M1) else bnd (f_X5_removeOldest c0 j0 M1) (fun r2 M3 => f_X5_add_33 c0 j0 x1 x2 x3 x4 M3))
set_option maxHeartbeats 4000000 in
set_option maxRecDepth 100000 in
theorem t_X5_add {G : GG} {A : Nat → Prop} {p : Program} {l : Launch} {e : Env} {s : State} {m : MethodId} {args : Array Value} {below : List Frame} {meth : Method} {c : Code} {r : Unit} {M' : Mem} (X : Cx G A p s m args meth c RX5 cX5_add 5) (hr : meth.sig.returnType = none) {c0 : Nat} {j0 : Nat} {x1 : Int32} {x2 : Int32} {x3 : Int32} {x4 : Int32} {M : Mem} (hc0 : c0 < 6) (hj0 : j0 < 3) (h : f_X5_add c0 j0 x1 x2 x3 x4 M = some (r, M')) : T G A p l e (rmO 1) s m args below meth c 5 0 0 (MQ below (QvO G A M') args s 0 0 A) 0 [(0, .ref (G.2.1 (4, c0, j0))), (1, .int x1), (2, .int x2), (3, .int x3), (4, .int x4)] [] M := by
  unfold f_X5_add at h
  refine r_aload_n (pc := 0) X dX5_add_0 rfl ?_
  refine r_getI (pc := 1) X ⟨hc0, hj0⟩ fl_X5_35 rfl dX5_add_1 ?_
  refine r_aload_n (pc := 4) X dX5_add_4 rfl ?_
  refine r_getI (pc := 5) X ⟨hc0, hj0⟩ fl_X5_19 rfl dX5_add_5 ?_
  refine r_icmp_lt (pc := 8) X (tgt := 33) dX5_add_8 (by decide) h (fun h => ?_) (fun h => ?_)
  · exact T_sub (t_X5_add_33 X hr hc0 hj0 h) ⟨rfl, rfl, rfl, rfl, rfl, trivial⟩
  · refine r_aload_n (pc := 11) X dX5_add_11 rfl ?_
    refine r_dup (pc := 12) X dX5_add_12 rfl ?_
    refine r_getI (pc := 13) X ⟨hc0, hj0⟩ fl_X5_38 rfl dX5_add_13 ?_
    refine r_iconst (pc := 16) X (v := 1) dX5_add_16 (by decide) ?_
    refine r_iadd (pc := 17) X dX5_add_17 ?_
    refine r_putIN (pc := 18) X ⟨hc0, hj0⟩ fp_X5_38 rfl dX5_add_18 h (fun M1 h => ?_)
    refine r_aload_n (pc := 21) X dX5_add_21 rfl ?_
    refine r_getI (pc := 22) X ⟨hc0, hj0⟩ fl_X5_28 rfl dX5_add_22 ?_
    refine r_if_ne (pc := 25) X (tgt := 29) dX5_add_25 (by decide) h (fun h => ?_) (fun h => ?_)
    · refine r_aload_n (pc := 29) X dX5_add_29 rfl ?_
      refine bndE h (fun r2 M3 h4 h => ?_)
      refine r_callVv0 (pc := 30) X ⟨hc0, hj0⟩ rfl vy_X5_removeOldest my_X5_removeOldest ml_X5_41 ⟨Nat.le_of_ble_eq_true rfl, Nat.le_of_ble_eq_true rfl, Nat.le_of_ble_eq_true rfl, Nat.le_of_ble_eq_true rfl⟩ (c_X5_removeOldest hc0 hj0 h4) (Nat.le_of_ble_eq_true rfl) dX5_add_30 ?_
      exact T_sub (t_X5_add_33 X hr hc0 hj0 h) ⟨rfl, rfl, rfl, rfl, rfl, trivial⟩
    · cases h
      exact r_vret (pc := 28) X hr dX5_add_28
theorem c_X5_add {G : GG} {l : Launch} {c0 : Nat} {j0 : Nat} {x1 : Int32} {x2 : Int32} {x3 : Int32} {x4 : Int32} {r : Unit} {M M' : Mem} (hc0 : c0 < 6) (hj0 : j0 < 3) (h : f_X5_add c0 j0 x1 x2 x3 x4 M = some (r, M')) : Met l yX5_add (wsO yX5_add cX5_add 5 none) (rmO 1) (PcO G [.ref (G.2.1 (4, c0, j0)), .int x1, .int x2, .int x3, .int x4] M) (QvO G (AA G) M') 0 0 (AA G) :=
  met_of (own := RX5) rfl (by decide +kernel) (Nat.le_of_ble_eq_true rfl) (fun p e s m args below meth c X hr => t_X5_add X hr hc0 hj0 h)
-- ConverterScanner$Results.number
def f_X5_number (c0 : Nat) (j0 : Nat) (x1 : Int32) (x2 : Int32) (M : Mem) : Option (Int32 × Mem) :=
  if bad (((x1 &&& (M.1 (4, c0, j0) 1)) * 4) + x2) (akO (21, c0, j0)).2 then none else some ((M.1 (21, c0, j0) (Int32.toNatClampNeg (((x1 &&& (M.1 (4, c0, j0) 1)) * 4) + x2))), M)
set_option maxHeartbeats 4000000 in
set_option maxRecDepth 100000 in
theorem t_X5_number {G : GG} {A : Nat → Prop} {p : Program} {l : Launch} {e : Env} {s : State} {m : MethodId} {args : Array Value} {below : List Frame} {meth : Method} {c : Code} {r : Int32} {M' : Mem} (X : Cx G A p s m args meth c RX5 cX5_number 3) (hr : meth.sig.returnType = some .int) {c0 : Nat} {j0 : Nat} {x1 : Int32} {x2 : Int32} {M : Mem} (hc0 : c0 < 6) (hj0 : j0 < 3) (h : f_X5_number c0 j0 x1 x2 M = some (r, M')) : T G A p l e (rmO 0) s m args below meth c 3 0 0 (MQ below (QiO G A r M') args s 0 0 A) 0 [(0, .ref (G.2.1 (4, c0, j0))), (1, .int x1), (2, .int x2)] [] M := by
  unfold f_X5_number at h
  refine r_aload_n (pc := 0) X dX5_number_0 rfl ?_
  refine r_getR (q := (21, c0, j0)) (pc := 1) X ⟨hc0, hj0⟩ fl_X5_9 rfl dX5_number_1 ?_
  refine r_iload_n (pc := 4) X dX5_number_4 rfl ?_
  refine r_aload_n (pc := 5) X dX5_number_5 rfl ?_
  refine r_getI (pc := 6) X ⟨hc0, hj0⟩ fl_X5_15 rfl dX5_number_6 ?_
  refine r_iand (pc := 9) X dX5_number_9 ?_
  refine r_iconst (pc := 10) X (v := 4) dX5_number_10 (by decide) ?_
  refine r_imul (pc := 11) X dX5_number_11 ?_
  refine r_iload_n (pc := 12) X dX5_number_12 rfl ?_
  refine r_iadd (pc := 13) X dX5_number_13 ?_
  refine r_iald (pc := 14) X (n := (akO (21, c0, j0)).2) ⟨hc0, hj0⟩ rfl (nlt rfl) dX5_number_14 h (fun h => ?_)
  cases h
  exact r_iret (pc := 15) X hr dX5_number_15
theorem c_X5_number {G : GG} {l : Launch} {c0 : Nat} {j0 : Nat} {x1 : Int32} {x2 : Int32} {r : Int32} {M M' : Mem} (hc0 : c0 < 6) (hj0 : j0 < 3) (h : f_X5_number c0 j0 x1 x2 M = some (r, M')) : Met l yX5_number (wsO yX5_number cX5_number 3 (some .int)) (rmO 0) (PcO G [.ref (G.2.1 (4, c0, j0)), .int x1, .int x2] M) (QiO G (AA G) r M') 0 0 (AA G) :=
  met_of (own := RX5) rfl (by decide +kernel) (Nat.le_of_ble_eq_true rfl) (fun p e s m args below meth c X hr => t_X5_number X hr hc0 hj0 h)
-- ConverterScanner$Results.oldestNumber
def f_X5_oldestNumber (c0 : Nat) (j0 : Nat) (x1 : Int32) (M : Mem) : Option (Int32 × Mem) :=
  bnd (f_X5_number c0 j0 (M.1 (4, c0, j0) 4) x1 M) (fun r1 M2 => some (r1, M2))
set_option maxHeartbeats 4000000 in
set_option maxRecDepth 100000 in
theorem t_X5_oldestNumber {G : GG} {A : Nat → Prop} {p : Program} {l : Launch} {e : Env} {s : State} {m : MethodId} {args : Array Value} {below : List Frame} {meth : Method} {c : Code} {r : Int32} {M' : Mem} (X : Cx G A p s m args meth c RX5 cX5_oldestNumber 2) (hr : meth.sig.returnType = some .int) {c0 : Nat} {j0 : Nat} {x1 : Int32} {M : Mem} (hc0 : c0 < 6) (hj0 : j0 < 3) (h : f_X5_oldestNumber c0 j0 x1 M = some (r, M')) : T G A p l e (rmO 1) s m args below meth c 2 0 0 (MQ below (QiO G A r M') args s 0 0 A) 0 [(0, .ref (G.2.1 (4, c0, j0))), (1, .int x1)] [] M := by
  unfold f_X5_oldestNumber at h
  refine r_aload_n (pc := 0) X dX5_oldestNumber_0 rfl ?_
  refine r_aload_n (pc := 1) X dX5_oldestNumber_1 rfl ?_
  refine r_getI (pc := 2) X ⟨hc0, hj0⟩ fl_X5_32 rfl dX5_oldestNumber_2 ?_
  refine r_iload_n (pc := 5) X dX5_oldestNumber_5 rfl ?_
  refine bndE h (fun r1 M2 h3 h => ?_)
  refine r_callVi2 (pc := 6) X ⟨hc0, hj0⟩ rfl vy_X5_number my_X5_number ml_X5_48 ⟨Nat.le_of_ble_eq_true rfl, Nat.le_of_ble_eq_true rfl, Nat.le_of_ble_eq_true rfl, Nat.le_of_ble_eq_true rfl⟩ (c_X5_number hc0 hj0 h3) (Nat.le_of_ble_eq_true rfl) dX5_oldestNumber_6 ?_
  cases h
  exact r_iret (pc := 9) X hr dX5_oldestNumber_9
theorem c_X5_oldestNumber {G : GG} {l : Launch} {c0 : Nat} {j0 : Nat} {x1 : Int32} {r : Int32} {M M' : Mem} (hc0 : c0 < 6) (hj0 : j0 < 3) (h : f_X5_oldestNumber c0 j0 x1 M = some (r, M')) : Met l yX5_oldestNumber (wsO yX5_oldestNumber cX5_oldestNumber 2 (some .int)) (rmO 1) (PcO G [.ref (G.2.1 (4, c0, j0)), .int x1] M) (QiO G (AA G) r M') 0 0 (AA G) :=
  met_of (own := RX5) rfl (by decide +kernel) (Nat.le_of_ble_eq_true rfl) (fun p e s m args below meth c X hr => t_X5_oldestNumber X hr hc0 hj0 h)
-- ConverterScanner$Sequence.isReady
def f_X6_isReady_18  (M : Mem) : Option (Int32 × Mem) :=
  some (0, M)
set_option maxHeartbeats 4000000 in
set_option maxRecDepth 100000 in
theorem t_X6_isReady_18 {G : GG} {A : Nat → Prop} {p : Program} {l : Launch} {e : Env} {s : State} {m : MethodId} {args : Array Value} {below : List Frame} {meth : Method} {c : Code} {r : Int32} {M' : Mem} (X : Cx G A p s m args meth c RX6 cX6_isReady 1) (hr : meth.sig.returnType = some .boolean) {M : Mem}  (h : f_X6_isReady_18 M = some (r, M')) : T G A p l e (rmO 0) s m args below meth c 1 0 0 (MQ below (QiO G A r M') args s 0 0 A) 18 [] [] M := by
  unfold f_X6_isReady_18 at h
  refine r_iconst (pc := 18) X (v := 0) dX6_isReady_18 (by decide) ?_
  cases h
  exact r_zretc (pc := 19) X hr (by decide +kernel) dX6_isReady_19
def f_X6_isReady (c0 : Nat) (j0 : Nat) (M : Mem) : Option (Int32 × Mem) :=
  if (M.1 (5, c0, j0) 1) ≤ 0 then f_X6_isReady_18  M else if (M.1 (5, c0, j0) 3) = 0 then some (1, M) else f_X6_isReady_18  M
set_option maxHeartbeats 4000000 in
set_option maxRecDepth 100000 in
theorem t_X6_isReady {G : GG} {A : Nat → Prop} {p : Program} {l : Launch} {e : Env} {s : State} {m : MethodId} {args : Array Value} {below : List Frame} {meth : Method} {c : Code} {r : Int32} {M' : Mem} (X : Cx G A p s m args meth c RX6 cX6_isReady 1) (hr : meth.sig.returnType = some .boolean) {c0 : Nat} {j0 : Nat} {M : Mem} (hc0 : c0 < 6) (hj0 : j0 < 2) (h : f_X6_isReady c0 j0 M = some (r, M')) : T G A p l e (rmO 0) s m args below meth c 1 0 0 (MQ below (QiO G A r M') args s 0 0 A) 0 [(0, .ref (G.2.1 (5, c0, j0)))] [] M := by
  unfold f_X6_isReady at h
  refine r_aload_n (pc := 0) X dX6_isReady_0 rfl ?_
  refine r_getI (pc := 1) X ⟨hc0, hj0⟩ fl_X6_28 rfl dX6_isReady_1 ?_
  refine r_if_le (pc := 4) X (tgt := 18) dX6_isReady_4 (by decide) h (fun h => ?_) (fun h => ?_)
  · exact T_sub (t_X6_isReady_18 X hr h) trivial
  · refine r_aload_n (pc := 7) X dX6_isReady_7 rfl ?_
    refine r_getI (pc := 8) X ⟨hc0, hj0⟩ fl_X6_34 rfl dX6_isReady_8 ?_
    refine r_if_ne (pc := 11) X (tgt := 18) dX6_isReady_11 (by decide) h (fun h => ?_) (fun h => ?_)
    · exact T_sub (t_X6_isReady_18 X hr h) trivial
    · refine r_iconst (pc := 14) X (v := 1) dX6_isReady_14 (by decide) ?_
      refine r_goto (pc := 15) X (tgt := 19) dX6_isReady_15 (by decide) ?_
      cases h
      exact r_zretc (pc := 19) X hr (by decide +kernel) dX6_isReady_19
theorem c_X6_isReady {G : GG} {l : Launch} {c0 : Nat} {j0 : Nat} {r : Int32} {M M' : Mem} (hc0 : c0 < 6) (hj0 : j0 < 2) (h : f_X6_isReady c0 j0 M = some (r, M')) : Met l yX6_isReady (wsO yX6_isReady cX6_isReady 1 (some .boolean)) (rmO 0) (PcO G [.ref (G.2.1 (5, c0, j0))] M) (QiO G (AA G) r M') 0 0 (AA G) :=
  met_of (own := RX6) rfl (by decide +kernel) (Nat.le_of_ble_eq_true rfl) (fun p e s m args below meth c X hr => t_X6_isReady X hr hc0 hj0 h)
-- ConverterScanner$Sequence.beginPass
def f_X6_beginPass_28 (c0 : Nat) (j0 : Nat) (xs0 : Int32) (M : Mem) : Option (Unit × Mem) :=
  if xs0 = 0 then nm (uI M (5, c0, j0) 5 (M.1 (5, c0, j0) 1)) (fun M1 => some ((), M1)) else nm (uI M (5, c0, j0) 5 ((M.1 (5, c0, j0) 4) + (M.1 (5, c0, j0) 2))) (fun M2 => some ((), M2))
set_option maxHeartbeats 4000000 in
set_option maxRecDepth 100000 in
theorem t_X6_beginPass_28 {G : GG} {A : Nat → Prop} {p : Program} {l : Launch} {e : Env} {s : State} {m : MethodId} {args : Array Value} {below : List Frame} {meth : Method} {c : Code} {r : Unit} {M' : Mem} (X : Cx G A p s m args meth c RX6 cX6_beginPass 2) (hr : meth.sig.returnType = none) {c0 : Nat} {j0 : Nat} {xs0 : Int32} {M : Mem} (hc0 : c0 < 6) (hj0 : j0 < 2) (h : f_X6_beginPass_28 c0 j0 xs0 M = some (r, M')) : T G A p l e (rmO 0) s m args below meth c 2 0 0 (MQ below (QvO G A M') args s 0 0 A) 28 [(0, .ref (G.2.1 (5, c0, j0)))] [.int xs0] M := by
  unfold f_X6_beginPass_28 at h
  refine r_istore_n (pc := 28) X (by decide) dX6_beginPass_28 ?_
  refine r_aload_n (pc := 29) X dX6_beginPass_29 rfl ?_
  refine r_iload_n (pc := 30) X dX6_beginPass_30 rfl ?_
  refine r_if_eq (pc := 31) X (tgt := 46) dX6_beginPass_31 (by decide) h (fun h => ?_) (fun h => ?_)
  · refine r_aload_n (pc := 46) X dX6_beginPass_46 rfl ?_
    refine r_getI (pc := 47) X ⟨hc0, hj0⟩ fl_X6_28 rfl dX6_beginPass_47 ?_
    refine r_putIN (pc := 50) X ⟨hc0, hj0⟩ fp_X6_41 rfl dX6_beginPass_50 h (fun M1 h => ?_)
    cases h
    exact r_vret (pc := 53) X hr dX6_beginPass_53
  · refine r_aload_n (pc := 34) X dX6_beginPass_34 rfl ?_
    refine r_getI (pc := 35) X ⟨hc0, hj0⟩ fl_X6_38 rfl dX6_beginPass_35 ?_
    refine r_aload_n (pc := 38) X dX6_beginPass_38 rfl ?_
    refine r_getI (pc := 39) X ⟨hc0, hj0⟩ fl_X6_31 rfl dX6_beginPass_39 ?_
    refine r_iadd (pc := 42) X dX6_beginPass_42 ?_
    refine r_goto (pc := 43) X (tgt := 50) dX6_beginPass_43 (by decide) ?_
    refine r_putIN (pc := 50) X ⟨hc0, hj0⟩ fp_X6_41 rfl dX6_beginPass_50 h (fun M2 h => ?_)
    cases h
    exact r_vret (pc := 53) X hr dX6_beginPass_53
def f_X6_beginPass_27 (c0 : Nat) (j0 : Nat) (M : Mem) : Option (Unit × Mem) :=
  f_X6_beginPass_28 c0 j0 0 M
set_option maxHeartbeats 4000000 in
set_option maxRecDepth 100000 in
theorem t_X6_beginPass_27 {G : GG} {A : Nat → Prop} {p : Program} {l : Launch} {e : Env} {s : State} {m : MethodId} {args : Array Value} {below : List Frame} {meth : Method} {c : Code} {r : Unit} {M' : Mem} (X : Cx G A p s m args meth c RX6 cX6_beginPass 2) (hr : meth.sig.returnType = none) {c0 : Nat} {j0 : Nat} {M : Mem} (hc0 : c0 < 6) (hj0 : j0 < 2) (h : f_X6_beginPass_27 c0 j0 M = some (r, M')) : T G A p l e (rmO 0) s m args below meth c 2 0 0 (MQ below (QvO G A M') args s 0 0 A) 27 [(0, .ref (G.2.1 (5, c0, j0)))] [] M := by
  unfold f_X6_beginPass_27 at h
  refine r_iconst (pc := 27) X (v := 0) dX6_beginPass_27 (by decide) ?_
  exact T_sub (t_X6_beginPass_28 X hr hc0 hj0 h) ⟨rfl, trivial⟩
def f_X6_beginPass (c0 : Nat) (j0 : Nat) (M : Mem) : Option (Unit × Mem) :=
  if (M.1 (5, c0, j0) 2) ≤ 0 then f_X6_beginPass_27 c0 j0 M else if (M.1 (5, c0, j0) 1) ≤ ((M.1 (5, c0, j0) 4) + (M.1 (5, c0, j0) 2)) then f_X6_beginPass_27 c0 j0 M else f_X6_beginPass_28 c0 j0 1 M
set_option maxHeartbeats 4000000 in
set_option maxRecDepth 100000 in
theorem t_X6_beginPass {G : GG} {A : Nat → Prop} {p : Program} {l : Launch} {e : Env} {s : State} {m : MethodId} {args : Array Value} {below : List Frame} {meth : Method} {c : Code} {r : Unit} {M' : Mem} (X : Cx G A p s m args meth c RX6 cX6_beginPass 2) (hr : meth.sig.returnType = none) {c0 : Nat} {j0 : Nat} {M : Mem} (hc0 : c0 < 6) (hj0 : j0 < 2) (h : f_X6_beginPass c0 j0 M = some (r, M')) : T G A p l e (rmO 0) s m args below meth c 2 0 0 (MQ below (QvO G A M') args s 0 0 A) 0 [(0, .ref (G.2.1 (5, c0, j0)))] [] M := by
  unfold f_X6_beginPass at h
  refine r_aload_n (pc := 0) X dX6_beginPass_0 rfl ?_
  refine r_getI (pc := 1) X ⟨hc0, hj0⟩ fl_X6_31 rfl dX6_beginPass_1 ?_
  refine r_if_le (pc := 4) X (tgt := 27) dX6_beginPass_4 (by decide) h (fun h => ?_) (fun h => ?_)
  · exact T_sub (t_X6_beginPass_27 X hr hc0 hj0 h) ⟨rfl, trivial⟩
  · refine r_aload_n (pc := 7) X dX6_beginPass_7 rfl ?_
    refine r_getI (pc := 8) X ⟨hc0, hj0⟩ fl_X6_38 rfl dX6_beginPass_8 ?_
    refine r_aload_n (pc := 11) X dX6_beginPass_11 rfl ?_
    refine r_getI (pc := 12) X ⟨hc0, hj0⟩ fl_X6_31 rfl dX6_beginPass_12 ?_
    refine r_iadd (pc := 15) X dX6_beginPass_15 ?_
    refine r_aload_n (pc := 16) X dX6_beginPass_16 rfl ?_
    refine r_getI (pc := 17) X ⟨hc0, hj0⟩ fl_X6_28 rfl dX6_beginPass_17 ?_
    refine r_icmp_ge (pc := 20) X (tgt := 27) dX6_beginPass_20 (by decide) h (fun h => ?_) (fun h => ?_)
    · exact T_sub (t_X6_beginPass_27 X hr hc0 hj0 h) ⟨rfl, trivial⟩
    · refine r_iconst (pc := 23) X (v := 1) dX6_beginPass_23 (by decide) ?_
      refine r_goto (pc := 24) X (tgt := 28) dX6_beginPass_24 (by decide) ?_
      exact T_sub (t_X6_beginPass_28 X hr hc0 hj0 h) ⟨rfl, trivial⟩
theorem c_X6_beginPass {G : GG} {l : Launch} {c0 : Nat} {j0 : Nat} {r : Unit} {M M' : Mem} (hc0 : c0 < 6) (hj0 : j0 < 2) (h : f_X6_beginPass c0 j0 M = some (r, M')) : Met l yX6_beginPass (wsO yX6_beginPass cX6_beginPass 2 none) (rmO 0) (PcO G [.ref (G.2.1 (5, c0, j0))] M) (QvO G (AA G) M') 0 0 (AA G) :=
  met_of (own := RX6) rfl (by decide +kernel) (Nat.le_of_ble_eq_true rfl) (fun p e s m args below meth c X hr => t_X6_beginPass X hr hc0 hj0 h)
-- ConverterScanner$Sequence.becomeBusy
def f_X6_becomeBusy (c0 : Nat) (j0 : Nat) (x1 : Int32) (x2 : Int32) (M : Mem) : Option (Unit × Mem) :=
  nm (uI M (5, c0, j0) 3 1) (fun M1 => nm (uI M1 (5, c0, j0) 6 x1) (fun M2 => nm (uI M2 (5, c0, j0) 7 x2) (fun M3 => bnd (f_X6_beginPass c0 j0 M3) (fun r4 M5 => some ((), M5)))))
set_option maxHeartbeats 4000000 in
set_option maxRecDepth 100000 in
theorem t_X6_becomeBusy {G : GG} {A : Nat → Prop} {p : Program} {l : Launch} {e : Env} {s : State} {m : MethodId} {args : Array Value} {below : List Frame} {meth : Method} {c : Code} {r : Unit} {M' : Mem} (X : Cx G A p s m args meth c RX6 cX6_becomeBusy 3) (hr : meth.sig.returnType = none) {c0 : Nat} {j0 : Nat} {x1 : Int32} {x2 : Int32} {M : Mem} (hc0 : c0 < 6) (hj0 : j0 < 2) (h : f_X6_becomeBusy c0 j0 x1 x2 M = some (r, M')) : T G A p l e (rmO 1) s m args below meth c 3 0 0 (MQ below (QvO G A M') args s 0 0 A) 0 [(0, .ref (G.2.1 (5, c0, j0))), (1, .int x1), (2, .int x2)] [] M := by
  unfold f_X6_becomeBusy at h
  refine r_aload_n (pc := 0) X dX6_becomeBusy_0 rfl ?_
  refine r_iconst (pc := 1) X (v := 1) dX6_becomeBusy_1 (by decide) ?_
  refine r_putZc (pc := 2) X ⟨hc0, hj0⟩ fp_X6_34 rfl (by decide) dX6_becomeBusy_2 h (fun M1 h => ?_)
  refine r_aload_n (pc := 5) X dX6_becomeBusy_5 rfl ?_
  refine r_iload_n (pc := 6) X dX6_becomeBusy_6 rfl ?_
  refine r_putIN (pc := 7) X ⟨hc0, hj0⟩ fp_X6_9 rfl dX6_becomeBusy_7 h (fun M2 h => ?_)
  refine r_aload_n (pc := 10) X dX6_becomeBusy_10 rfl ?_
  refine r_iload_n (pc := 11) X dX6_becomeBusy_11 rfl ?_
  refine r_putIN (pc := 12) X ⟨hc0, hj0⟩ fp_X6_15 rfl dX6_becomeBusy_12 h (fun M3 h => ?_)
  refine r_aload_n (pc := 15) X dX6_becomeBusy_15 rfl ?_
  refine bndE h (fun r4 M5 h6 h => ?_)
  refine r_callVv0 (pc := 16) X ⟨hc0, hj0⟩ rfl vy_X6_beginPass my_X6_beginPass ml_X6_60 ⟨Nat.le_of_ble_eq_true rfl, Nat.le_of_ble_eq_true rfl, Nat.le_of_ble_eq_true rfl, Nat.le_of_ble_eq_true rfl⟩ (c_X6_beginPass hc0 hj0 h6) (Nat.le_of_ble_eq_true rfl) dX6_becomeBusy_16 ?_
  cases h
  exact r_vret (pc := 19) X hr dX6_becomeBusy_19
theorem c_X6_becomeBusy {G : GG} {l : Launch} {c0 : Nat} {j0 : Nat} {x1 : Int32} {x2 : Int32} {r : Unit} {M M' : Mem} (hc0 : c0 < 6) (hj0 : j0 < 2) (h : f_X6_becomeBusy c0 j0 x1 x2 M = some (r, M')) : Met l yX6_becomeBusy (wsO yX6_becomeBusy cX6_becomeBusy 3 none) (rmO 1) (PcO G [.ref (G.2.1 (5, c0, j0)), .int x1, .int x2] M) (QvO G (AA G) M') 0 0 (AA G) :=
  met_of (own := RX6) rfl (by decide +kernel) (Nat.le_of_ble_eq_true rfl) (fun p e s m args below meth c X hr => t_X6_becomeBusy X hr hc0 hj0 h)
-- ConverterScanner$Sequence.becomeIdle
def f_X6_becomeIdle (c0 : Nat) (j0 : Nat) (M : Mem) : Option (Unit × Mem) :=
  nm (uI M (5, c0, j0) 3 0) (fun M1 => nm (uI M1 (5, c0, j0) 6 (-1)) (fun M2 => nm (uI M2 (5, c0, j0) 7 (-1)) (fun M3 => some ((), M3))))
set_option maxHeartbeats 4000000 in
set_option maxRecDepth 100000 in
theorem t_X6_becomeIdle {G : GG} {A : Nat → Prop} {p : Program} {l : Launch} {e : Env} {s : State} {m : MethodId} {args : Array Value} {below : List Frame} {meth : Method} {c : Code} {r : Unit} {M' : Mem} (X : Cx G A p s m args meth c RX6 cX6_becomeIdle 1) (hr : meth.sig.returnType = none) {c0 : Nat} {j0 : Nat} {M : Mem} (hc0 : c0 < 6) (hj0 : j0 < 2) (h : f_X6_becomeIdle c0 j0 M = some (r, M')) : T G A p l e (rmO 0) s m args below meth c 1 0 0 (MQ below (QvO G A M') args s 0 0 A) 0 [(0, .ref (G.2.1 (5, c0, j0)))] [] M := by
  unfold f_X6_becomeIdle at h
  refine r_aload_n (pc := 0) X dX6_becomeIdle_0 rfl ?_
  refine r_iconst (pc := 1) X (v := 0) dX6_becomeIdle_1 (by decide) ?_
  refine r_putZc (pc := 2) X ⟨hc0, hj0⟩ fp_X6_34 rfl (by decide) dX6_becomeIdle_2 h (fun M1 h => ?_)
  refine r_aload_n (pc := 5) X dX6_becomeIdle_5 rfl ?_
  refine r_iconst (pc := 6) X (v := (-1)) dX6_becomeIdle_6 (by decide) ?_
  refine r_putIN (pc := 7) X ⟨hc0, hj0⟩ fp_X6_9 rfl dX6_becomeIdle_7 h (fun M2 h => ?_)
  refine r_aload_n (pc := 10) X dX6_becomeIdle_10 rfl ?_
  refine r_iconst (pc := 11) X (v := (-1)) dX6_becomeIdle_11 (by decide) ?_
  refine r_putIN (pc := 12) X ⟨hc0, hj0⟩ fp_X6_15 rfl dX6_becomeIdle_12 h (fun M3 h => ?_)
  cases h
  exact r_vret (pc := 15) X hr dX6_becomeIdle_15
theorem c_X6_becomeIdle {G : GG} {l : Launch} {c0 : Nat} {j0 : Nat} {r : Unit} {M M' : Mem} (hc0 : c0 < 6) (hj0 : j0 < 2) (h : f_X6_becomeIdle c0 j0 M = some (r, M')) : Met l yX6_becomeIdle (wsO yX6_becomeIdle cX6_becomeIdle 1 none) (rmO 0) (PcO G [.ref (G.2.1 (5, c0, j0))] M) (QvO G (AA G) M') 0 0 (AA G) :=
  met_of (own := RX6) rfl (by decide +kernel) (Nat.le_of_ble_eq_true rfl) (fun p e s m args below meth c X hr => t_X6_becomeIdle X hr hc0 hj0 h)
-- ConverterScanner$Sequence.nextChannel
def f_X6_nextChannel_31  (M : Mem) : Option (Int32 × Mem) :=
  some (0, M)
set_option maxHeartbeats 4000000 in
set_option maxRecDepth 100000 in
theorem t_X6_nextChannel_31 {G : GG} {A : Nat → Prop} {p : Program} {l : Launch} {e : Env} {s : State} {m : MethodId} {args : Array Value} {below : List Frame} {meth : Method} {c : Code} {r : Int32} {M' : Mem} (X : Cx G A p s m args meth c RX6 cX6_nextChannel 1) (hr : meth.sig.returnType = some .int) {M : Mem}  (h : f_X6_nextChannel_31 M = some (r, M')) : T G A p l e (rmO 0) s m args below meth c 1 0 0 (MQ below (QiO G A r M') args s 0 0 A) 31 [] [] M := by
  unfold f_X6_nextChannel_31 at h
  refine r_iconst (pc := 31) X (v := 0) dX6_nextChannel_31 (by decide) ?_
  cases h
  exact r_iret (pc := 32) X hr dX6_nextChannel_32
def f_X6_nextChannel (c0 : Nat) (j0 : Nat) (M : Mem) : Option (Int32 × Mem) :=
  if (M.1 (5, c0, j0) 4) < 0 then f_X6_nextChannel_31  M else if (Int32.ofNat (akO (20, c0, j0)).2) ≤ (M.1 (5, c0, j0) 4) then f_X6_nextChannel_31  M else if bad (M.1 (5, c0, j0) 4) (akO (20, c0, j0)).2 then none else some ((M.1 (20, c0, j0) (Int32.toNatClampNeg (M.1 (5, c0, j0) 4))), M)
set_option maxHeartbeats 4000000 in
set_option maxRecDepth 100000 in
theorem t_X6_nextChannel {G : GG} {A : Nat → Prop} {p : Program} {l : Launch} {e : Env} {s : State} {m : MethodId} {args : Array Value} {below : List Frame} {meth : Method} {c : Code} {r : Int32} {M' : Mem} (X : Cx G A p s m args meth c RX6 cX6_nextChannel 1) (hr : meth.sig.returnType = some .int) {c0 : Nat} {j0 : Nat} {M : Mem} (hc0 : c0 < 6) (hj0 : j0 < 2) (h : f_X6_nextChannel c0 j0 M = some (r, M')) : T G A p l e (rmO 0) s m args below meth c 1 0 0 (MQ below (QiO G A r M') args s 0 0 A) 0 [(0, .ref (G.2.1 (5, c0, j0)))] [] M := by
  unfold f_X6_nextChannel at h
  refine r_aload_n (pc := 0) X dX6_nextChannel_0 rfl ?_
  refine r_getI (pc := 1) X ⟨hc0, hj0⟩ fl_X6_38 rfl dX6_nextChannel_1 ?_
  refine r_if_lt (pc := 4) X (tgt := 31) dX6_nextChannel_4 (by decide) h (fun h => ?_) (fun h => ?_)
  · exact T_sub (t_X6_nextChannel_31 X hr h) trivial
  · refine r_aload_n (pc := 7) X dX6_nextChannel_7 rfl ?_
    refine r_getI (pc := 8) X ⟨hc0, hj0⟩ fl_X6_38 rfl dX6_nextChannel_8 ?_
    refine r_aload_n (pc := 11) X dX6_nextChannel_11 rfl ?_
    refine r_getR (q := (20, c0, j0)) (pc := 12) X ⟨hc0, hj0⟩ fl_X6_18 rfl dX6_nextChannel_12 ?_
    refine r_alen (pc := 15) X (v := (Int32.ofNat (akO (20, c0, j0)).2)) (n := (akO (20, c0, j0)).2) (t := 0) ⟨hc0, hj0⟩ rfl (ltb rfl) (nlt rfl) rfl dX6_nextChannel_15 ?_
    refine r_icmp_ge (pc := 16) X (tgt := 31) dX6_nextChannel_16 (by decide) h (fun h => ?_) (fun h => ?_)
    · exact T_sub (t_X6_nextChannel_31 X hr h) trivial
    · refine r_aload_n (pc := 19) X dX6_nextChannel_19 rfl ?_
      refine r_getR (q := (20, c0, j0)) (pc := 20) X ⟨hc0, hj0⟩ fl_X6_18 rfl dX6_nextChannel_20 ?_
      refine r_aload_n (pc := 23) X dX6_nextChannel_23 rfl ?_
      refine r_getI (pc := 24) X ⟨hc0, hj0⟩ fl_X6_38 rfl dX6_nextChannel_24 ?_
      refine r_iald (pc := 27) X (n := (akO (20, c0, j0)).2) ⟨hc0, hj0⟩ rfl (nlt rfl) dX6_nextChannel_27 h (fun h => ?_)
      refine r_goto (pc := 28) X (tgt := 32) dX6_nextChannel_28 (by decide) ?_
      cases h
      exact r_iret (pc := 32) X hr dX6_nextChannel_32
theorem c_X6_nextChannel {G : GG} {l : Launch} {c0 : Nat} {j0 : Nat} {r : Int32} {M M' : Mem} (hc0 : c0 < 6) (hj0 : j0 < 2) (h : f_X6_nextChannel c0 j0 M = some (r, M')) : Met l yX6_nextChannel (wsO yX6_nextChannel cX6_nextChannel 1 (some .int)) (rmO 0) (PcO G [.ref (G.2.1 (5, c0, j0))] M) (QiO G (AA G) r M') 0 0 (AA G) :=
  met_of (own := RX6) rfl (by decide +kernel) (Nat.le_of_ble_eq_true rfl) (fun p e s m args below meth c X hr => t_X6_nextChannel X hr hc0 hj0 h)
-- ConverterScanner$Sequence.forgetConversions
def f_X6_forgetConversions (c0 : Nat) (j0 : Nat) (M : Mem) : Option (Unit × Mem) :=
  nm (uI M (5, c0, j0) 10 0) (fun M1 => nm (uI M1 (5, c0, j0) 11 0) (fun M2 => some ((), M2)))
set_option maxHeartbeats 4000000 in
set_option maxRecDepth 100000 in
theorem t_X6_forgetConversions {G : GG} {A : Nat → Prop} {p : Program} {l : Launch} {e : Env} {s : State} {m : MethodId} {args : Array Value} {below : List Frame} {meth : Method} {c : Code} {r : Unit} {M' : Mem} (X : Cx G A p s m args meth c RX6 cX6_forgetConversions 1) (hr : meth.sig.returnType = none) {c0 : Nat} {j0 : Nat} {M : Mem} (hc0 : c0 < 6) (hj0 : j0 < 2) (h : f_X6_forgetConversions c0 j0 M = some (r, M')) : T G A p l e (rmO 0) s m args below meth c 1 0 0 (MQ below (QvO G A M') args s 0 0 A) 0 [(0, .ref (G.2.1 (5, c0, j0)))] [] M := by
  unfold f_X6_forgetConversions at h
  refine r_aload_n (pc := 0) X dX6_forgetConversions_0 rfl ?_
  refine r_iconst (pc := 1) X (v := 0) dX6_forgetConversions_1 (by decide) ?_
  refine r_putIN (pc := 2) X ⟨hc0, hj0⟩ fp_X6_50 rfl dX6_forgetConversions_2 h (fun M1 h => ?_)
  refine r_aload_n (pc := 5) X dX6_forgetConversions_5 rfl ?_
  refine r_iconst (pc := 6) X (v := 0) dX6_forgetConversions_6 (by decide) ?_
  refine r_putIN (pc := 7) X ⟨hc0, hj0⟩ fp_X6_53 rfl dX6_forgetConversions_7 h (fun M2 h => ?_)
  cases h
  exact r_vret (pc := 10) X hr dX6_forgetConversions_10
theorem c_X6_forgetConversions {G : GG} {l : Launch} {c0 : Nat} {j0 : Nat} {r : Unit} {M M' : Mem} (hc0 : c0 < 6) (hj0 : j0 < 2) (h : f_X6_forgetConversions c0 j0 M = some (r, M')) : Met l yX6_forgetConversions (wsO yX6_forgetConversions cX6_forgetConversions 1 none) (rmO 0) (PcO G [.ref (G.2.1 (5, c0, j0))] M) (QvO G (AA G) M') 0 0 (AA G) :=
  met_of (own := RX6) rfl (by decide +kernel) (Nat.le_of_ble_eq_true rfl) (fun p e s m args below meth c X hr => t_X6_forgetConversions X hr hc0 hj0 h)
-- ConverterScanner$Trigger.copyFrom
def f_X8_copyFrom (c0 : Nat) (j0 : Nat) (c1 : Nat) (j1 : Nat) (M : Mem) : Option (Unit × Mem) :=
  nm (uI M (7, c0, j0) 0 (M.1 (7, c1, j1) 0)) (fun M1 => nm (uI M1 (7, c0, j0) 1 (M1.1 (7, c1, j1) 1)) (fun M2 => nm (uI M2 (7, c0, j0) 2 (M2.1 (7, c1, j1) 2)) (fun M3 => nm (uI M3 (7, c0, j0) 3 (M3.1 (7, c1, j1) 3)) (fun M4 => nm (uI M4 (7, c0, j0) 4 (M4.1 (7, c1, j1) 4)) (fun M5 => some ((), M5))))))
set_option maxHeartbeats 4000000 in
set_option maxRecDepth 100000 in
theorem t_X8_copyFrom {G : GG} {A : Nat → Prop} {p : Program} {l : Launch} {e : Env} {s : State} {m : MethodId} {args : Array Value} {below : List Frame} {meth : Method} {c : Code} {r : Unit} {M' : Mem} (X : Cx G A p s m args meth c RX8 cX8_copyFrom 2) (hr : meth.sig.returnType = none) {c0 : Nat} {j0 : Nat} {c1 : Nat} {j1 : Nat} {M : Mem} (hc0 : c0 < 6) (hj0 : j0 < 4) (hc1 : c1 < 6) (hj1 : j1 < 4) (h : f_X8_copyFrom c0 j0 c1 j1 M = some (r, M')) : T G A p l e (rmO 0) s m args below meth c 2 0 0 (MQ below (QvO G A M') args s 0 0 A) 0 [(0, .ref (G.2.1 (7, c0, j0))), (1, .ref (G.2.1 (7, c1, j1)))] [] M := by
  unfold f_X8_copyFrom at h
  refine r_aload_n (pc := 0) X dX8_copyFrom_0 rfl ?_
  refine r_aload_n (pc := 1) X dX8_copyFrom_1 rfl ?_
  refine r_getI (pc := 2) X ⟨hc1, hj1⟩ fl_X8_9 rfl dX8_copyFrom_2 ?_
  refine r_putIN (pc := 5) X ⟨hc0, hj0⟩ fp_X8_9 rfl dX8_copyFrom_5 h (fun M1 h => ?_)
  refine r_aload_n (pc := 8) X dX8_copyFrom_8 rfl ?_
  refine r_aload_n (pc := 9) X dX8_copyFrom_9 rfl ?_
  refine r_getI (pc := 10) X ⟨hc1, hj1⟩ fl_X8_15 rfl dX8_copyFrom_10 ?_
  refine r_putIN (pc := 13) X ⟨hc0, hj0⟩ fp_X8_15 rfl dX8_copyFrom_13 h (fun M2 h => ?_)
  refine r_aload_n (pc := 16) X dX8_copyFrom_16 rfl ?_
  refine r_aload_n (pc := 17) X dX8_copyFrom_17 rfl ?_
  refine r_getI (pc := 18) X ⟨hc1, hj1⟩ fl_X8_18 rfl dX8_copyFrom_18 ?_
  refine r_putIN (pc := 21) X ⟨hc0, hj0⟩ fp_X8_18 rfl dX8_copyFrom_21 h (fun M3 h => ?_)
  refine r_aload_n (pc := 24) X dX8_copyFrom_24 rfl ?_
  refine r_aload_n (pc := 25) X dX8_copyFrom_25 rfl ?_
  refine r_getI (pc := 26) X ⟨hc1, hj1⟩ fl_X8_21 rfl dX8_copyFrom_26 ?_
  refine r_putIN (pc := 29) X ⟨hc0, hj0⟩ fp_X8_21 rfl dX8_copyFrom_29 h (fun M4 h => ?_)
  refine r_aload_n (pc := 32) X dX8_copyFrom_32 rfl ?_
  refine r_aload_n (pc := 33) X dX8_copyFrom_33 rfl ?_
  refine r_getI (pc := 34) X ⟨hc1, hj1⟩ fl_X8_24 rfl dX8_copyFrom_34 ?_
  refine r_putIN (pc := 37) X ⟨hc0, hj0⟩ fp_X8_24 rfl dX8_copyFrom_37 h (fun M5 h => ?_)
  cases h
  exact r_vret (pc := 40) X hr dX8_copyFrom_40
theorem c_X8_copyFrom {G : GG} {l : Launch} {c0 : Nat} {j0 : Nat} {c1 : Nat} {j1 : Nat} {r : Unit} {M M' : Mem} (hc0 : c0 < 6) (hj0 : j0 < 4) (hc1 : c1 < 6) (hj1 : j1 < 4) (h : f_X8_copyFrom c0 j0 c1 j1 M = some (r, M')) : Met l yX8_copyFrom (wsO yX8_copyFrom cX8_copyFrom 2 none) (rmO 0) (PcO G [.ref (G.2.1 (7, c0, j0)), .ref (G.2.1 (7, c1, j1))] M) (QvO G (AA G) M') 0 0 (AA G) :=
  met_of (own := RX8) rfl (by decide +kernel) (Nat.le_of_ble_eq_true rfl) (fun p e s m args below meth c X hr => t_X8_copyFrom X hr hc0 hj0 hc1 hj1 h)
-- ConverterScanner$Trigger.isDue
def f_X8_isDue_33  (M : Mem) : Option (Int32 × Mem) :=
  some (0, M)
set_option maxHeartbeats 4000000 in
set_option maxRecDepth 100000 in
theorem t_X8_isDue_33 {G : GG} {A : Nat → Prop} {p : Program} {l : Launch} {e : Env} {s : State} {m : MethodId} {args : Array Value} {below : List Frame} {meth : Method} {c : Code} {r : Int32} {M' : Mem} (X : Cx G A p s m args meth c RX8 cX8_isDue 2) (hr : meth.sig.returnType = some .boolean) {M : Mem}  (h : f_X8_isDue_33 M = some (r, M')) : T G A p l e (rmO 0) s m args below meth c 2 0 0 (MQ below (QiO G A r M') args s 0 0 A) 33 [] [] M := by
  unfold f_X8_isDue_33 at h
  refine r_iconst (pc := 33) X (v := 0) dX8_isDue_33 (by decide) ?_
  cases h
  exact r_zretc (pc := 34) X hr (by decide +kernel) dX8_isDue_34
def f_X8_isDue (c0 : Nat) (j0 : Nat) (x1 : Int32) (M : Mem) : Option (Int32 × Mem) :=
  if (M.1 (7, c0, j0) 1) ≤ 0 then f_X8_isDue_33  M else if x1 < (M.1 (7, c0, j0) 2) then f_X8_isDue_33  M else if (M.1 (7, c0, j0) 1) = 0 then none else if ((x1 - (M.1 (7, c0, j0) 2)) - (x1 - (M.1 (7, c0, j0) 2)) / (M.1 (7, c0, j0) 1) * (M.1 (7, c0, j0) 1)) = 0 then some (1, M) else f_X8_isDue_33  M
set_option maxHeartbeats 4000000 in
set_option maxRecDepth 100000 in
theorem t_X8_isDue {G : GG} {A : Nat → Prop} {p : Program} {l : Launch} {e : Env} {s : State} {m : MethodId} {args : Array Value} {below : List Frame} {meth : Method} {c : Code} {r : Int32} {M' : Mem} (X : Cx G A p s m args meth c RX8 cX8_isDue 2) (hr : meth.sig.returnType = some .boolean) {c0 : Nat} {j0 : Nat} {x1 : Int32} {M : Mem} (hc0 : c0 < 6) (hj0 : j0 < 4) (h : f_X8_isDue c0 j0 x1 M = some (r, M')) : T G A p l e (rmO 0) s m args below meth c 2 0 0 (MQ below (QiO G A r M') args s 0 0 A) 0 [(0, .ref (G.2.1 (7, c0, j0))), (1, .int x1)] [] M := by
  unfold f_X8_isDue at h
  refine r_aload_n (pc := 0) X dX8_isDue_0 rfl ?_
  refine r_getI (pc := 1) X ⟨hc0, hj0⟩ fl_X8_15 rfl dX8_isDue_1 ?_
  refine r_if_le (pc := 4) X (tgt := 33) dX8_isDue_4 (by decide) h (fun h => ?_) (fun h => ?_)
  · exact T_sub (t_X8_isDue_33 X hr h) trivial
  · refine r_iload_n (pc := 7) X dX8_isDue_7 rfl ?_
    refine r_aload_n (pc := 8) X dX8_isDue_8 rfl ?_
    refine r_getI (pc := 9) X ⟨hc0, hj0⟩ fl_X8_18 rfl dX8_isDue_9 ?_
    refine r_icmp_lt (pc := 12) X (tgt := 33) dX8_isDue_12 (by decide) h (fun h => ?_) (fun h => ?_)
    · exact T_sub (t_X8_isDue_33 X hr h) trivial
    · refine r_iload_n (pc := 15) X dX8_isDue_15 rfl ?_
      refine r_aload_n (pc := 16) X dX8_isDue_16 rfl ?_
      refine r_getI (pc := 17) X ⟨hc0, hj0⟩ fl_X8_18 rfl dX8_isDue_17 ?_
      refine r_isub (pc := 20) X dX8_isDue_20 ?_
      refine r_aload_n (pc := 21) X dX8_isDue_21 rfl ?_
      refine r_getI (pc := 22) X ⟨hc0, hj0⟩ fl_X8_15 rfl dX8_isDue_22 ?_
      refine ck h (fun hz h => ?_)
      refine r_irem (pc := 25) X hz dX8_isDue_25 ?_
      refine r_if_ne (pc := 26) X (tgt := 33) dX8_isDue_26 (by decide) h (fun h => ?_) (fun h => ?_)
      · exact T_sub (t_X8_isDue_33 X hr h) trivial
      · refine r_iconst (pc := 29) X (v := 1) dX8_isDue_29 (by decide) ?_
        refine r_goto (pc := 30) X (tgt := 34) dX8_isDue_30 (by decide) ?_
        cases h
        exact r_zretc (pc := 34) X hr (by decide +kernel) dX8_isDue_34
theorem c_X8_isDue {G : GG} {l : Launch} {c0 : Nat} {j0 : Nat} {x1 : Int32} {r : Int32} {M M' : Mem} (hc0 : c0 < 6) (hj0 : j0 < 4) (h : f_X8_isDue c0 j0 x1 M = some (r, M')) : Met l yX8_isDue (wsO yX8_isDue cX8_isDue 2 (some .boolean)) (rmO 0) (PcO G [.ref (G.2.1 (7, c0, j0)), .int x1] M) (QiO G (AA G) r M') 0 0 (AA G) :=
  met_of (own := RX8) rfl (by decide +kernel) (Nat.le_of_ble_eq_true rfl) (fun p e s m args below meth c X hr => t_X8_isDue X hr hc0 hj0 h)
-- ConverterScanner$Window.copyFrom
def f_X9_copyFrom (c0 : Nat) (j0 : Nat) (c1 : Nat) (j1 : Nat) (M : Mem) : Option (Unit × Mem) :=
  if ¬ ((M.1 (8, c1, j1) 0) = 0 ∨ (M.1 (8, c1, j1) 0) = 1) then none else nm (uI M (8, c0, j0) 0 (M.1 (8, c1, j1) 0)) (fun M1 => nm (uI M1 (8, c0, j0) 1 (M1.1 (8, c1, j1) 1)) (fun M2 => nm (uI M2 (8, c0, j0) 2 (M2.1 (8, c1, j1) 2)) (fun M3 => nm (uI M3 (8, c0, j0) 3 (M3.1 (8, c1, j1) 3)) (fun M4 => nm (uI M4 (8, c0, j0) 4 (M4.1 (8, c1, j1) 4)) (fun M5 => nm (uI M5 (8, c0, j0) 5 (M5.1 (8, c1, j1) 5)) (fun M6 => if ¬ ((M6.1 (8, c1, j1) 6) = 0 ∨ (M6.1 (8, c1, j1) 6) = 1) then none else nm (uI M6 (8, c0, j0) 6 (M6.1 (8, c1, j1) 6)) (fun M7 => nm (uI M7 (8, c0, j0) 7 (M7.1 (8, c1, j1) 7)) (fun M8 => nm (uI M8 (8, c0, j0) 8 (M8.1 (8, c1, j1) 8)) (fun M9 => nm (uI M9 (8, c0, j0) 9 (M9.1 (8, c1, j1) 9)) (fun M10 => some ((), M10)))))))))))
set_option maxHeartbeats 4000000 in
set_option maxRecDepth 100000 in
theorem t_X9_copyFrom {G : GG} {A : Nat → Prop} {p : Program} {l : Launch} {e : Env} {s : State} {m : MethodId} {args : Array Value} {below : List Frame} {meth : Method} {c : Code} {r : Unit} {M' : Mem} (X : Cx G A p s m args meth c RX9 cX9_copyFrom 2) (hr : meth.sig.returnType = none) {c0 : Nat} {j0 : Nat} {c1 : Nat} {j1 : Nat} {M : Mem} (hc0 : c0 < 6) (hj0 : j0 < 3) (hc1 : c1 < 6) (hj1 : j1 < 3) (h : f_X9_copyFrom c0 j0 c1 j1 M = some (r, M')) : T G A p l e (rmO 0) s m args below meth c 2 0 0 (MQ below (QvO G A M') args s 0 0 A) 0 [(0, .ref (G.2.1 (8, c0, j0))), (1, .ref (G.2.1 (8, c1, j1)))] [] M := by
  unfold f_X9_copyFrom at h
  refine r_aload_n (pc := 0) X dX9_copyFrom_0 rfl ?_
  refine r_aload_n (pc := 1) X dX9_copyFrom_1 rfl ?_
  refine r_getI (pc := 2) X ⟨hc1, hj1⟩ fl_X9_21 rfl dX9_copyFrom_2 ?_
  refine r_putZN (pc := 5) X ⟨hc0, hj0⟩ fp_X9_21 rfl dX9_copyFrom_5 h (fun M1 h => ?_)
  refine r_aload_n (pc := 8) X dX9_copyFrom_8 rfl ?_
  refine r_aload_n (pc := 9) X dX9_copyFrom_9 rfl ?_
  refine r_getI (pc := 10) X ⟨hc1, hj1⟩ fl_X9_25 rfl dX9_copyFrom_10 ?_
  refine r_putIN (pc := 13) X ⟨hc0, hj0⟩ fp_X9_25 rfl dX9_copyFrom_13 h (fun M2 h => ?_)
  refine r_aload_n (pc := 16) X dX9_copyFrom_16 rfl ?_
  refine r_aload_n (pc := 17) X dX9_copyFrom_17 rfl ?_
  refine r_getI (pc := 18) X ⟨hc1, hj1⟩ fl_X9_28 rfl dX9_copyFrom_18 ?_
  refine r_putIN (pc := 21) X ⟨hc0, hj0⟩ fp_X9_28 rfl dX9_copyFrom_21 h (fun M3 h => ?_)
  refine r_aload_n (pc := 24) X dX9_copyFrom_24 rfl ?_
  refine r_aload_n (pc := 25) X dX9_copyFrom_25 rfl ?_
  refine r_getI (pc := 26) X ⟨hc1, hj1⟩ fl_X9_31 rfl dX9_copyFrom_26 ?_
  refine r_putIN (pc := 29) X ⟨hc0, hj0⟩ fp_X9_31 rfl dX9_copyFrom_29 h (fun M4 h => ?_)
  refine r_aload_n (pc := 32) X dX9_copyFrom_32 rfl ?_
  refine r_aload_n (pc := 33) X dX9_copyFrom_33 rfl ?_
  refine r_getI (pc := 34) X ⟨hc1, hj1⟩ fl_X9_34 rfl dX9_copyFrom_34 ?_
  refine r_putIN (pc := 37) X ⟨hc0, hj0⟩ fp_X9_34 rfl dX9_copyFrom_37 h (fun M5 h => ?_)
  refine r_aload_n (pc := 40) X dX9_copyFrom_40 rfl ?_
  refine r_aload_n (pc := 41) X dX9_copyFrom_41 rfl ?_
  refine r_getI (pc := 42) X ⟨hc1, hj1⟩ fl_X9_37 rfl dX9_copyFrom_42 ?_
  refine r_putIN (pc := 45) X ⟨hc0, hj0⟩ fp_X9_37 rfl dX9_copyFrom_45 h (fun M6 h => ?_)
  refine r_aload_n (pc := 48) X dX9_copyFrom_48 rfl ?_
  refine r_aload_n (pc := 49) X dX9_copyFrom_49 rfl ?_
  refine r_getI (pc := 50) X ⟨hc1, hj1⟩ fl_X9_40 rfl dX9_copyFrom_50 ?_
  refine r_putZN (pc := 53) X ⟨hc0, hj0⟩ fp_X9_40 rfl dX9_copyFrom_53 h (fun M7 h => ?_)
  refine r_aload_n (pc := 56) X dX9_copyFrom_56 rfl ?_
  refine r_aload_n (pc := 57) X dX9_copyFrom_57 rfl ?_
  refine r_getI (pc := 58) X ⟨hc1, hj1⟩ fl_X9_9 rfl dX9_copyFrom_58 ?_
  refine r_putIN (pc := 61) X ⟨hc0, hj0⟩ fp_X9_9 rfl dX9_copyFrom_61 h (fun M8 h => ?_)
  refine r_aload_n (pc := 64) X dX9_copyFrom_64 rfl ?_
  refine r_aload_n (pc := 65) X dX9_copyFrom_65 rfl ?_
  refine r_getI (pc := 66) X ⟨hc1, hj1⟩ fl_X9_15 rfl dX9_copyFrom_66 ?_
  refine r_putIN (pc := 69) X ⟨hc0, hj0⟩ fp_X9_15 rfl dX9_copyFrom_69 h (fun M9 h => ?_)
  refine r_aload_n (pc := 72) X dX9_copyFrom_72 rfl ?_
  refine r_aload_n (pc := 73) X dX9_copyFrom_73 rfl ?_
  refine r_getI (pc := 74) X ⟨hc1, hj1⟩ fl_X9_18 rfl dX9_copyFrom_74 ?_
  refine r_putIN (pc := 77) X ⟨hc0, hj0⟩ fp_X9_18 rfl dX9_copyFrom_77 h (fun M10 h => ?_)
  cases h
  exact r_vret (pc := 80) X hr dX9_copyFrom_80
theorem c_X9_copyFrom {G : GG} {l : Launch} {c0 : Nat} {j0 : Nat} {c1 : Nat} {j1 : Nat} {r : Unit} {M M' : Mem} (hc0 : c0 < 6) (hj0 : j0 < 3) (hc1 : c1 < 6) (hj1 : j1 < 3) (h : f_X9_copyFrom c0 j0 c1 j1 M = some (r, M')) : Met l yX9_copyFrom (wsO yX9_copyFrom cX9_copyFrom 2 none) (rmO 0) (PcO G [.ref (G.2.1 (8, c0, j0)), .ref (G.2.1 (8, c1, j1))] M) (QvO G (AA G) M') 0 0 (AA G) :=
  met_of (own := RX9) rfl (by decide +kernel) (Nat.le_of_ble_eq_true rfl) (fun p e s m args below meth c X hr => t_X9_copyFrom X hr hc0 hj0 hc1 hj1 h)
-- ConverterScanner$Window.look
def f_X9_look_41 (c0 : Nat) (j0 : Nat) (x1 : Int32) (x2 : Int32) (x3 : Int32) (xs0 : Int32) (cs1 : Nat) (js1 : Nat) (M : Mem) : Option (Unit × Mem) :=
  nm (uI M (8, cs1, js1) 5 xs0) (fun M1 => if (M1.1 (8, c0, j0) 5) < (M1.1 (8, c0, j0) 3) then some ((), M1) else if (M1.1 (8, c0, j0) 6) = 0 then nm (uI M1 (8, c0, j0) 6 1) (fun M2 => nm (uI M2 (8, c0, j0) 7 x3) (fun M3 => nm (uI M3 (8, c0, j0) 8 x1) (fun M4 => nm (uI M4 (8, c0, j0) 9 x2) (fun M5 => some ((), M5))))) else some ((), M1))
set_option maxHeartbeats 4000000 in
set_option maxRecDepth 100000 in
theorem t_X9_look_41 {G : GG} {A : Nat → Prop} {p : Program} {l : Launch} {e : Env} {s : State} {m : MethodId} {args : Array Value} {below : List Frame} {meth : Method} {c : Code} {r : Unit} {M' : Mem} (X : Cx G A p s m args meth c RX9 cX9_look 5) (hr : meth.sig.returnType = none) {c0 : Nat} {j0 : Nat} {x1 : Int32} {x2 : Int32} {x3 : Int32} {xs0 : Int32} {cs1 : Nat} {js1 : Nat} {M : Mem} (hc0 : c0 < 6) (hj0 : j0 < 3) (hcs1 : cs1 < 6) (hjs1 : js1 < 3) (h : f_X9_look_41 c0 j0 x1 x2 x3 xs0 cs1 js1 M = some (r, M')) : T G A p l e (rmO 0) s m args below meth c 5 0 0 (MQ below (QvO G A M') args s 0 0 A) 41 [(0, .ref (G.2.1 (8, c0, j0))), (1, .int x1), (2, .int x2), (3, .int x3)] [.int xs0, .ref (G.2.1 (8, cs1, js1))] M := by
  unfold f_X9_look_41 at h
  refine r_putIN (pc := 41) X ⟨hcs1, hjs1⟩ fp_X9_37 rfl dX9_look_41 h (fun M1 h => ?_)
  refine r_aload_n (pc := 44) X dX9_look_44 rfl ?_
  refine r_getI (pc := 45) X ⟨hc0, hj0⟩ fl_X9_37 rfl dX9_look_45 ?_
  refine r_aload_n (pc := 48) X dX9_look_48 rfl ?_
  refine r_getI (pc := 49) X ⟨hc0, hj0⟩ fl_X9_31 rfl dX9_look_49 ?_
  refine r_icmp_lt (pc := 52) X (tgt := 82) dX9_look_52 (by decide) h (fun h => ?_) (fun h => ?_)
  · cases h
    exact r_vret (pc := 82) X hr dX9_look_82
  · refine r_aload_n (pc := 55) X dX9_look_55 rfl ?_
    refine r_getI (pc := 56) X ⟨hc0, hj0⟩ fl_X9_40 rfl dX9_look_56 ?_
    refine r_if_ne (pc := 59) X (tgt := 82) dX9_look_59 (by decide) h (fun h => ?_) (fun h => ?_)
    · cases h
      exact r_vret (pc := 82) X hr dX9_look_82
    · refine r_aload_n (pc := 62) X dX9_look_62 rfl ?_
      refine r_iconst (pc := 63) X (v := 1) dX9_look_63 (by decide) ?_
      refine r_putZc (pc := 64) X ⟨hc0, hj0⟩ fp_X9_40 rfl (by decide) dX9_look_64 h (fun M2 h => ?_)
      refine r_aload_n (pc := 67) X dX9_look_67 rfl ?_
      refine r_iload_n (pc := 68) X dX9_look_68 rfl ?_
      refine r_putIN (pc := 69) X ⟨hc0, hj0⟩ fp_X9_9 rfl dX9_look_69 h (fun M3 h => ?_)
      refine r_aload_n (pc := 72) X dX9_look_72 rfl ?_
      refine r_iload_n (pc := 73) X dX9_look_73 rfl ?_
      refine r_putIN (pc := 74) X ⟨hc0, hj0⟩ fp_X9_15 rfl dX9_look_74 h (fun M4 h => ?_)
      refine r_aload_n (pc := 77) X dX9_look_77 rfl ?_
      refine r_iload_n (pc := 78) X dX9_look_78 rfl ?_
      refine r_putIN (pc := 79) X ⟨hc0, hj0⟩ fp_X9_18 rfl dX9_look_79 h (fun M5 h => ?_)
      cases h
      exact r_vret (pc := 82) X hr dX9_look_82
def f_X9_look_31 (c0 : Nat) (j0 : Nat) (x1 : Int32) (x2 : Int32) (x3 : Int32) (cs0 : Nat) (js0 : Nat) (M : Mem) : Option (Unit × Mem) :=
  f_X9_look_41 c0 j0 x1 x2 x3 ((M.1 (8, c0, j0) 5) + 1) cs0 js0 M
set_option maxHeartbeats 4000000 in
set_option maxRecDepth 100000 in
theorem t_X9_look_31 {G : GG} {A : Nat → Prop} {p : Program} {l : Launch} {e : Env} {s : State} {m : MethodId} {args : Array Value} {below : List Frame} {meth : Method} {c : Code} {r : Unit} {M' : Mem} (X : Cx G A p s m args meth c RX9 cX9_look 5) (hr : meth.sig.returnType = none) {c0 : Nat} {j0 : Nat} {x1 : Int32} {x2 : Int32} {x3 : Int32} {cs0 : Nat} {js0 : Nat} {M : Mem} (hc0 : c0 < 6) (hj0 : j0 < 3) (hcs0 : cs0 < 6) (hjs0 : js0 < 3) (h : f_X9_look_31 c0 j0 x1 x2 x3 cs0 js0 M = some (r, M')) : T G A p l e (rmO 0) s m args below meth c 5 0 0 (MQ below (QvO G A M') args s 0 0 A) 31 [(0, .ref (G.2.1 (8, c0, j0))), (1, .int x1), (2, .int x2), (3, .int x3)] [.ref (G.2.1 (8, cs0, js0))] M := by
  unfold f_X9_look_31 at h
  refine r_aload_n (pc := 31) X dX9_look_31 rfl ?_
  refine r_getI (pc := 32) X ⟨hc0, hj0⟩ fl_X9_37 rfl dX9_look_32 ?_
  refine r_iconst (pc := 35) X (v := 1) dX9_look_35 (by decide) ?_
  refine r_iadd (pc := 36) X dX9_look_36 ?_
  refine r_goto (pc := 37) X (tgt := 41) dX9_look_37 (by decide) ?_
  exact T_sub (t_X9_look_41 X hr hc0 hj0 hcs0 hjs0 h) ⟨rfl, rfl, rfl, rfl, trivial⟩
def f_X9_look (c0 : Nat) (j0 : Nat) (x1 : Int32) (x2 : Int32) (x3 : Int32) (x4 : Int32) (M : Mem) : Option (Unit × Mem) :=
  if (((M.1 (8, c0, j0) 4) >>> (x1 &&& 31)) &&& 1) = 0 then some ((), M) else if x4 < (M.1 (8, c0, j0) 1) then f_X9_look_31 c0 j0 x1 x2 x3 c0 j0 M else if x4 ≤ (M.1 (8, c0, j0) 2) then f_X9_look_41 c0 j0 x1 x2 x3 0 c0 j0 M else f_X9_look_31 c0 j0 x1 x2 x3 c0 j0 M
set_option maxHeartbeats 4000000 in
set_option maxRecDepth 100000 in
theorem t_X9_look {G : GG} {A : Nat → Prop} {p : Program} {l : Launch} {e : Env} {s : State} {m : MethodId} {args : Array Value} {below : List Frame} {meth : Method} {c : Code} {r : Unit} {M' : Mem} (X : Cx G A p s m args meth c RX9 cX9_look 5) (hr : meth.sig.returnType = none) {c0 : Nat} {j0 : Nat} {x1 : Int32} {x2 : Int32} {x3 : Int32} {x4 : Int32} {M : Mem} (hc0 : c0 < 6) (hj0 : j0 < 3) (h : f_X9_look c0 j0 x1 x2 x3 x4 M = some (r, M')) : T G A p l e (rmO 0) s m args below meth c 5 0 0 (MQ below (QvO G A M') args s 0 0 A) 0 [(0, .ref (G.2.1 (8, c0, j0))), (1, .int x1), (2, .int x2), (3, .int x3), (4, .int x4)] [] M := by
  unfold f_X9_look at h
  refine r_aload_n (pc := 0) X dX9_look_0 rfl ?_
  refine r_getI (pc := 1) X ⟨hc0, hj0⟩ fl_X9_34 rfl dX9_look_1 ?_
  refine r_iload_n (pc := 4) X dX9_look_4 rfl ?_
  refine r_ishr (pc := 5) X dX9_look_5 ?_
  refine r_iconst (pc := 6) X (v := 1) dX9_look_6 (by decide) ?_
  refine r_iand (pc := 7) X dX9_look_7 ?_
  refine r_if_ne (pc := 8) X (tgt := 12) dX9_look_8 (by decide) h (fun h => ?_) (fun h => ?_)
  · refine r_aload_n (pc := 12) X dX9_look_12 rfl ?_
    refine r_iload (pc := 13) X dX9_look_13 rfl ?_
    refine r_aload_n (pc := 15) X dX9_look_15 rfl ?_
    refine r_getI (pc := 16) X ⟨hc0, hj0⟩ fl_X9_25 rfl dX9_look_16 ?_
    refine r_icmp_lt (pc := 19) X (tgt := 31) dX9_look_19 (by decide) h (fun h => ?_) (fun h => ?_)
    · exact T_sub (t_X9_look_31 X hr hc0 hj0 hc0 hj0 h) ⟨rfl, rfl, rfl, rfl, trivial⟩
    · refine r_iload (pc := 22) X dX9_look_22 rfl ?_
      refine r_aload_n (pc := 24) X dX9_look_24 rfl ?_
      refine r_getI (pc := 25) X ⟨hc0, hj0⟩ fl_X9_28 rfl dX9_look_25 ?_
      refine r_icmp_le (pc := 28) X (tgt := 40) dX9_look_28 (by decide) h (fun h => ?_) (fun h => ?_)
      · refine r_iconst (pc := 40) X (v := 0) dX9_look_40 (by decide) ?_
        exact T_sub (t_X9_look_41 X hr hc0 hj0 hc0 hj0 h) ⟨rfl, rfl, rfl, rfl, trivial⟩
      · exact T_sub (t_X9_look_31 X hr hc0 hj0 hc0 hj0 h) ⟨rfl, rfl, rfl, rfl, trivial⟩
  · cases h
    exact r_vret (pc := 11) X hr dX9_look_11
theorem c_X9_look {G : GG} {l : Launch} {c0 : Nat} {j0 : Nat} {x1 : Int32} {x2 : Int32} {x3 : Int32} {x4 : Int32} {r : Unit} {M M' : Mem} (hc0 : c0 < 6) (hj0 : j0 < 3) (h : f_X9_look c0 j0 x1 x2 x3 x4 M = some (r, M')) : Met l yX9_look (wsO yX9_look cX9_look 5 none) (rmO 0) (PcO G [.ref (G.2.1 (8, c0, j0)), .int x1, .int x2, .int x3, .int x4] M) (QvO G (AA G) M') 0 0 (AA G) :=
  met_of (own := RX9) rfl (by decide +kernel) (Nat.le_of_ble_eq_true rfl) (fun p e s m args below meth c X hr => t_X9_look X hr hc0 hj0 h)
-- ConverterScanner$Window.calmDown
def f_X9_calmDown (c0 : Nat) (j0 : Nat) (M : Mem) : Option (Int32 × Mem) :=
  nm (M.1 (8, c0, j0) 6) (fun e1 => nm (uI M (8, c0, j0) 6 0) (fun M2 => nm (uI M2 (8, c0, j0) 5 0) (fun M3 => nm (uI M3 (8, c0, j0) 7 (-1)) (fun M4 => nm (uI M4 (8, c0, j0) 8 (-1)) (fun M5 => nm (uI M5 (8, c0, j0) 9 (-1)) (fun M6 => if ¬ (e1 = 0 ∨ e1 = 1) then none else some (e1, M6)))))))
set_option maxHeartbeats 4000000 in
set_option maxRecDepth 100000 in
theorem t_X9_calmDown {G : GG} {A : Nat → Prop} {p : Program} {l : Launch} {e : Env} {s : State} {m : MethodId} {args : Array Value} {below : List Frame} {meth : Method} {c : Code} {r : Int32} {M' : Mem} (X : Cx G A p s m args meth c RX9 cX9_calmDown 2) (hr : meth.sig.returnType = some .boolean) {c0 : Nat} {j0 : Nat} {M : Mem} (hc0 : c0 < 6) (hj0 : j0 < 3) (h : f_X9_calmDown c0 j0 M = some (r, M')) : T G A p l e (rmO 0) s m args below meth c 2 0 0 (MQ below (QiO G A r M') args s 0 0 A) 0 [(0, .ref (G.2.1 (8, c0, j0)))] [] M := by
  unfold f_X9_calmDown at h
  refine r_aload_n (pc := 0) X dX9_calmDown_0 rfl ?_
  refine r_getI (pc := 1) X ⟨hc0, hj0⟩ fl_X9_40 rfl dX9_calmDown_1 ?_
  refine r_istore_nN (pc := 4) X (by decide) dX9_calmDown_4 h (fun e1 h => ?_)
  refine r_aload_n (pc := 5) X dX9_calmDown_5 rfl ?_
  refine r_iconst (pc := 6) X (v := 0) dX9_calmDown_6 (by decide) ?_
  refine r_putZc (pc := 7) X ⟨hc0, hj0⟩ fp_X9_40 rfl (by decide) dX9_calmDown_7 h (fun M2 h => ?_)
  refine r_aload_n (pc := 10) X dX9_calmDown_10 rfl ?_
  refine r_iconst (pc := 11) X (v := 0) dX9_calmDown_11 (by decide) ?_
  refine r_putIN (pc := 12) X ⟨hc0, hj0⟩ fp_X9_37 rfl dX9_calmDown_12 h (fun M3 h => ?_)
  refine r_aload_n (pc := 15) X dX9_calmDown_15 rfl ?_
  refine r_iconst (pc := 16) X (v := (-1)) dX9_calmDown_16 (by decide) ?_
  refine r_putIN (pc := 17) X ⟨hc0, hj0⟩ fp_X9_9 rfl dX9_calmDown_17 h (fun M4 h => ?_)
  refine r_aload_n (pc := 20) X dX9_calmDown_20 rfl ?_
  refine r_iconst (pc := 21) X (v := (-1)) dX9_calmDown_21 (by decide) ?_
  refine r_putIN (pc := 22) X ⟨hc0, hj0⟩ fp_X9_15 rfl dX9_calmDown_22 h (fun M5 h => ?_)
  refine r_aload_n (pc := 25) X dX9_calmDown_25 rfl ?_
  refine r_iconst (pc := 26) X (v := (-1)) dX9_calmDown_26 (by decide) ?_
  refine r_putIN (pc := 27) X ⟨hc0, hj0⟩ fp_X9_18 rfl dX9_calmDown_27 h (fun M6 h => ?_)
  refine r_iload_n (pc := 30) X dX9_calmDown_30 rfl ?_
  exact r_zret (pc := 31) X hr dX9_calmDown_31 h
theorem c_X9_calmDown {G : GG} {l : Launch} {c0 : Nat} {j0 : Nat} {r : Int32} {M M' : Mem} (hc0 : c0 < 6) (hj0 : j0 < 3) (h : f_X9_calmDown c0 j0 M = some (r, M')) : Met l yX9_calmDown (wsO yX9_calmDown cX9_calmDown 2 (some .boolean)) (rmO 0) (PcO G [.ref (G.2.1 (8, c0, j0))] M) (QiO G (AA G) r M') 0 0 (AA G) :=
  met_of (own := RX9) rfl (by decide +kernel) (Nat.le_of_ble_eq_true rfl) (fun p e s m args below meth c X hr => t_X9_calmDown X hr hc0 hj0 h)
