-- ConverterScannerModel.sum
def f_X12_sum_14 (x1 : Int32) (xs0 : Int32) (M : Mem) : Option (Int64 × Mem) :=
  bnd (f_X12_fails xs0 0 0 M) (fun r1 M2 => if r1 = 0 then if bad (((10 * (M2.1 (10, 0, 0) 7)) + 2) + x1) 50 then none else some ((M2.2.1 (33, 0, 0) (Int32.toNatClampNeg (((10 * (M2.1 (10, 0, 0) 7)) + 2) + x1))), M2) else some (0, M2))
set_option maxHeartbeats 4000000 in
set_option maxRecDepth 100000 in
theorem t_X12_sum_14 {G : GG} {A : Nat → Prop} {p : Program} {l : Launch} {e : Env} {s : State} {m : MethodId} {args : Array Value} {below : List Frame} {meth : Method} {c : Code} {r : Int64} {M' : Mem} (X : Cx G A p s m args meth c RX12 cX12_sum 2) (hr : meth.sig.returnType = some .long) {x1 : Int32} {xs0 : Int32} {M : Mem}  (h : f_X12_sum_14 x1 xs0 M = some (r, M')) : T G A p l e (rmO 2) s m args below meth c 2 0 0 (MQ below (QlO G A r M') args s 0 0 A) 14 [(0, .ref (G.2.1 (10, 0, 0))), (1, .int x1)] [.int xs0, .ref (G.2.1 (10, 0, 0))] M := by
  unfold f_X12_sum_14 at h
  refine r_iconst (pc := 14) X (v := 0) dX12_sum_14 (by decide) ?_
  refine r_iconst (pc := 15) X (v := 0) dX12_sum_15 (by decide) ?_
  refine bndE h (fun r1 M2 h3 h => ?_)
  refine r_callVi3 (pc := 16) X ⟨(ltb rfl), (ltb rfl)⟩ rfl vy_X12_fails my_X12_fails ml_X12_14 ⟨Nat.le_of_ble_eq_true rfl, Nat.le_of_ble_eq_true rfl, Nat.le_of_ble_eq_true rfl, Nat.le_of_ble_eq_true rfl⟩ (c_X12_fails  h3) (Nat.le_of_ble_eq_true rfl) dX12_sum_16 ?_
  refine r_if_eq (pc := 19) X (tgt := 26) dX12_sum_19 (by decide) h (fun h => ?_) (fun h => ?_)
  · refine r_aload_n (pc := 26) X dX12_sum_26 rfl ?_
    refine r_getR (q := (33, 0, 0)) (pc := 27) X ⟨(ltb rfl), (ltb rfl)⟩ fl_X12_35 rfl dX12_sum_27 ?_
    refine r_bipush (pc := 30) X (v := 10) dX12_sum_30 (by decide) ?_
    refine r_aload_n (pc := 32) X dX12_sum_32 rfl ?_
    refine r_getI (pc := 33) X ⟨(ltb rfl), (ltb rfl)⟩ fl_X12_32 rfl dX12_sum_33 ?_
    refine r_imul (pc := 36) X dX12_sum_36 ?_
    refine r_iconst (pc := 37) X (v := 2) dX12_sum_37 (by decide) ?_
    refine r_iadd (pc := 38) X dX12_sum_38 ?_
    refine r_iload_n (pc := 39) X dX12_sum_39 rfl ?_
    refine r_iadd (pc := 40) X dX12_sum_40 ?_
    refine r_lald (pc := 41) X (n := 50) ⟨(ltb rfl), (ltb rfl)⟩ rfl (nlt rfl) dX12_sum_41 h (fun h => ?_)
    cases h
    exact r_lret (pc := 42) X hr dX12_sum_42
  · refine r_lconst (pc := 22) X (v := 0) dX12_sum_22 (by decide) ?_
    refine r_goto (pc := 23) X (tgt := 42) dX12_sum_23 (by decide) ?_
    cases h
    exact r_lret (pc := 42) X hr dX12_sum_42
def f_X12_sum (x1 : Int32) (M : Mem) : Option (Int64 × Mem) :=
  bnd (f_X12_isChannel x1 M) (fun r1 M2 => if r1 = 0 then f_X12_sum_14 x1 1 M2 else f_X12_sum_14 x1 0 M2)
set_option maxHeartbeats 4000000 in
set_option maxRecDepth 100000 in
theorem t_X12_sum {G : GG} {A : Nat → Prop} {p : Program} {l : Launch} {e : Env} {s : State} {m : MethodId} {args : Array Value} {below : List Frame} {meth : Method} {c : Code} {r : Int64} {M' : Mem} (X : Cx G A p s m args meth c RX12 cX12_sum 2) (hr : meth.sig.returnType = some .long) {x1 : Int32} {M : Mem}  (h : f_X12_sum x1 M = some (r, M')) : T G A p l e (rmO 2) s m args below meth c 2 0 0 (MQ below (QlO G A r M') args s 0 0 A) 0 [(0, .ref (G.2.1 (10, 0, 0))), (1, .int x1)] [] M := by
  unfold f_X12_sum at h
  refine r_aload_n (pc := 0) X dX12_sum_0 rfl ?_
  refine r_aload_n (pc := 1) X dX12_sum_1 rfl ?_
  refine r_iload_n (pc := 2) X dX12_sum_2 rfl ?_
  refine bndE h (fun r1 M2 h3 h => ?_)
  refine r_callVi1 (pc := 3) X ⟨(ltb rfl), (ltb rfl)⟩ rfl vy_X12_isChannel my_X12_isChannel ml_X12_244 ⟨Nat.le_of_ble_eq_true rfl, Nat.le_of_ble_eq_true rfl, Nat.le_of_ble_eq_true rfl, Nat.le_of_ble_eq_true rfl⟩ (c_X12_isChannel  h3) (Nat.le_of_ble_eq_true rfl) dX12_sum_3 ?_
  refine r_if_ne (pc := 6) X (tgt := 13) dX12_sum_6 (by decide) h (fun h => ?_) (fun h => ?_)
  · refine r_iconst (pc := 13) X (v := 0) dX12_sum_13 (by decide) ?_
    exact T_sub (t_X12_sum_14 X hr h) ⟨rfl, rfl, trivial⟩
  · refine r_iconst (pc := 9) X (v := 1) dX12_sum_9 (by decide) ?_
    refine r_goto (pc := 10) X (tgt := 14) dX12_sum_10 (by decide) ?_
    exact T_sub (t_X12_sum_14 X hr h) ⟨rfl, rfl, trivial⟩
theorem c_X12_sum {G : GG} {l : Launch} {x1 : Int32} {r : Int64} {M M' : Mem}  (h : f_X12_sum x1 M = some (r, M')) : Met l yX12_sum (wsO yX12_sum cX12_sum 2 (some .long)) (rmO 2) (PcO G [.ref (G.2.1 (10, 0, 0)), .int x1] M) (QlO G (AA G) r M') 0 0 (AA G) :=
  met_of (own := RX12) rfl (by decide +kernel) (Nat.le_of_ble_eq_true rfl) (fun p e s m args below meth c X hr => t_X12_sum X hr  h)
-- ConverterScannerModel.trigger
def f_X12_trigger_28 (x1 : Int32) (x2 : Int32) (xs0 : Int32) (xs1 : Int32) (M : Mem) : Option (Int32 × Mem) :=
  bnd (f_X12_fails xs1 xs0 0 M) (fun r1 M2 => if r1 = 0 then if x2 = 0 then if bad (30 + x1) 104 then none else some ((M2.1 (31, 0, 0) (Int32.toNatClampNeg (30 + x1))), M2) else if x2 = 1 then if bad (34 + x1) 104 then none else some ((M2.1 (31, 0, 0) (Int32.toNatClampNeg (34 + x1))), M2) else if x2 = 2 then if bad (38 + x1) 104 then none else some ((M2.1 (31, 0, 0) (Int32.toNatClampNeg (38 + x1))), M2) else bnd (f_X12_trig x1 (x2 - 3) M2) (fun r4 M5 => bnd (f_X12_its r4 M5) (fun r7 M8 => some (r7, M8))) else some (0, M2))
set_option maxHeartbeats 4000000 in
set_option maxRecDepth 100000 in
theorem t_X12_trigger_28 {G : GG} {A : Nat → Prop} {p : Program} {l : Launch} {e : Env} {s : State} {m : MethodId} {args : Array Value} {below : List Frame} {meth : Method} {c : Code} {r : Int32} {M' : Mem} (X : Cx G A p s m args meth c RX12 cX12_trigger 3) (hr : meth.sig.returnType = some .int) {x1 : Int32} {x2 : Int32} {xs0 : Int32} {xs1 : Int32} {M : Mem}  (h : f_X12_trigger_28 x1 x2 xs0 xs1 M = some (r, M')) : T G A p l e (rmO 2) s m args below meth c 3 0 0 (MQ below (QiO G A r M') args s 0 0 A) 28 [(0, .ref (G.2.1 (10, 0, 0))), (1, .int x1), (2, .int x2)] [.int xs0, .int xs1, .ref (G.2.1 (10, 0, 0))] M := by
  unfold f_X12_trigger_28 at h
  refine r_iconst (pc := 28) X (v := 0) dX12_trigger_28 (by decide) ?_
  refine bndE h (fun r1 M2 h3 h => ?_)
  refine r_callVi3 (pc := 29) X ⟨(ltb rfl), (ltb rfl)⟩ rfl vy_X12_fails my_X12_fails ml_X12_14 ⟨Nat.le_of_ble_eq_true rfl, Nat.le_of_ble_eq_true rfl, Nat.le_of_ble_eq_true rfl, Nat.le_of_ble_eq_true rfl⟩ (c_X12_fails  h3) (Nat.le_of_ble_eq_true rfl) dX12_trigger_29 ?_
  refine r_if_eq (pc := 32) X (tgt := 37) dX12_trigger_32 (by decide) h (fun h => ?_) (fun h => ?_)
  · refine r_iload_n (pc := 37) X dX12_trigger_37 rfl ?_
    refine swc h (fun hq h => ?_) (fun hs0 h => ?_)
    · refine r_swInE (pc := 38) X hq (off := 26) (tgt := 64) dX12_trigger_38 (by decide) (by decide) (by decide) (by decide) ?_
      refine r_aload_n (pc := 64) X dX12_trigger_64 rfl ?_
      refine r_getR (q := (31, 0, 0)) (pc := 65) X ⟨(ltb rfl), (ltb rfl)⟩ fl_X12_26 rfl dX12_trigger_65 ?_
      refine r_bipush (pc := 68) X (v := 30) dX12_trigger_68 (by decide) ?_
      refine r_iload_n (pc := 70) X dX12_trigger_70 rfl ?_
      refine r_iadd (pc := 71) X dX12_trigger_71 ?_
      refine r_iald (pc := 72) X (n := 104) ⟨(ltb rfl), (ltb rfl)⟩ rfl (nlt rfl) dX12_trigger_72 h (fun h => ?_)
      cases h
      exact r_iret (pc := 73) X hr dX12_trigger_73
    refine swc h (fun hq h => ?_) (fun hs1 h => ?_)
    · refine r_swInE (pc := 38) X hq (off := 36) (tgt := 74) dX12_trigger_38 (by decide) (by decide) (by decide) (by decide) ?_
      refine r_aload_n (pc := 74) X dX12_trigger_74 rfl ?_
      refine r_getR (q := (31, 0, 0)) (pc := 75) X ⟨(ltb rfl), (ltb rfl)⟩ fl_X12_26 rfl dX12_trigger_75 ?_
      refine r_bipush (pc := 78) X (v := 34) dX12_trigger_78 (by decide) ?_
      refine r_iload_n (pc := 80) X dX12_trigger_80 rfl ?_
      refine r_iadd (pc := 81) X dX12_trigger_81 ?_
      refine r_iald (pc := 82) X (n := 104) ⟨(ltb rfl), (ltb rfl)⟩ rfl (nlt rfl) dX12_trigger_82 h (fun h => ?_)
      cases h
      exact r_iret (pc := 83) X hr dX12_trigger_83
    refine swc h (fun hq h => ?_) (fun hs2 h => ?_)
    · refine r_swInE (pc := 38) X hq (off := 46) (tgt := 84) dX12_trigger_38 (by decide) (by decide) (by decide) (by decide) ?_
      refine r_aload_n (pc := 84) X dX12_trigger_84 rfl ?_
      refine r_getR (q := (31, 0, 0)) (pc := 85) X ⟨(ltb rfl), (ltb rfl)⟩ fl_X12_26 rfl dX12_trigger_85 ?_
      refine r_bipush (pc := 88) X (v := 38) dX12_trigger_88 (by decide) ?_
      refine r_iload_n (pc := 90) X dX12_trigger_90 rfl ?_
      refine r_iadd (pc := 91) X dX12_trigger_91 ?_
      refine r_iald (pc := 92) X (n := 104) ⟨(ltb rfl), (ltb rfl)⟩ rfl (nlt rfl) dX12_trigger_92 h (fun h => ?_)
      cases h
      exact r_iret (pc := 93) X hr dX12_trigger_93
    · refine r_swOut (pc := 38) X (tgt := 94) dX12_trigger_38 (by have z0 := lv_neT (a := 0) hs0 (by decide); have z1 := lv_neT (a := 1) hs1 (by decide); have z2 := lv_neT (a := 2) hs2 (by decide); omega) (by decide) ?_
      refine r_aload_n (pc := 94) X dX12_trigger_94 rfl ?_
      refine r_iload_n (pc := 95) X dX12_trigger_95 rfl ?_
      refine r_iload_n (pc := 96) X dX12_trigger_96 rfl ?_
      refine r_iconst (pc := 97) X (v := 3) dX12_trigger_97 (by decide) ?_
      refine r_isub (pc := 98) X dX12_trigger_98 ?_
      refine bndE h (fun r4 M5 h6 h => ?_)
      refine r_callSi2 (pc := 99) X sy_X12_trig my_X12_trig ml_X12_177 ⟨Nat.le_of_ble_eq_true rfl, Nat.le_of_ble_eq_true rfl, Nat.le_of_ble_eq_true rfl, Nat.le_of_ble_eq_true rfl⟩ (c_X12_trig  h6) (Nat.le_of_ble_eq_true rfl) dX12_trigger_99 ?_
      refine bndE h (fun r7 M8 h9 h => ?_)
      refine r_callVi1 (pc := 102) X ⟨(ltb rfl), (ltb rfl)⟩ rfl vy_X12_its my_X12_its ml_X12_155 ⟨Nat.le_of_ble_eq_true rfl, Nat.le_of_ble_eq_true rfl, Nat.le_of_ble_eq_true rfl, Nat.le_of_ble_eq_true rfl⟩ (c_X12_its  h9) (Nat.le_of_ble_eq_true rfl) dX12_trigger_102 ?_
      cases h
      exact r_iret (pc := 105) X hr dX12_trigger_105
  · refine r_iconst (pc := 35) X (v := 0) dX12_trigger_35 (by decide) ?_
    cases h
    exact r_iret (pc := 36) X hr dX12_trigger_36
def f_X12_trigger_14 (x1 : Int32) (x2 : Int32) (xs0 : Int32) (M : Mem) : Option (Int32 × Mem) :=
  bnd (f_X12_inRange x2 0 4 M) (fun r1 M2 => if r1 = 0 then f_X12_trigger_28 x1 x2 1 xs0 M2 else f_X12_trigger_28 x1 x2 0 xs0 M2)
set_option maxHeartbeats 4000000 in
set_option maxRecDepth 100000 in
theorem t_X12_trigger_14 {G : GG} {A : Nat → Prop} {p : Program} {l : Launch} {e : Env} {s : State} {m : MethodId} {args : Array Value} {below : List Frame} {meth : Method} {c : Code} {r : Int32} {M' : Mem} (X : Cx G A p s m args meth c RX12 cX12_trigger 3) (hr : meth.sig.returnType = some .int) {x1 : Int32} {x2 : Int32} {xs0 : Int32} {M : Mem}  (h : f_X12_trigger_14 x1 x2 xs0 M = some (r, M')) : T G A p l e (rmO 2) s m args below meth c 3 0 0 (MQ below (QiO G A r M') args s 0 0 A) 14 [(0, .ref (G.2.1 (10, 0, 0))), (1, .int x1), (2, .int x2)] [.int xs0, .ref (G.2.1 (10, 0, 0))] M := by
  unfold f_X12_trigger_14 at h
  refine r_iload_n (pc := 14) X dX12_trigger_14 rfl ?_
  refine r_iconst (pc := 15) X (v := 0) dX12_trigger_15 (by decide) ?_
  refine r_iconst (pc := 16) X (v := 4) dX12_trigger_16 (by decide) ?_
  refine bndE h (fun r1 M2 h3 h => ?_)
  refine r_callSi3 (pc := 17) X sy_X12_inRange my_X12_inRange ml_X12_22 ⟨Nat.le_of_ble_eq_true rfl, Nat.le_of_ble_eq_true rfl, Nat.le_of_ble_eq_true rfl, Nat.le_of_ble_eq_true rfl⟩ (c_X12_inRange  h3) (Nat.le_of_ble_eq_true rfl) dX12_trigger_17 ?_
  refine r_if_ne (pc := 20) X (tgt := 27) dX12_trigger_20 (by decide) h (fun h => ?_) (fun h => ?_)
  · refine r_iconst (pc := 27) X (v := 0) dX12_trigger_27 (by decide) ?_
    exact T_sub (t_X12_trigger_28 X hr h) ⟨rfl, rfl, rfl, trivial⟩
  · refine r_iconst (pc := 23) X (v := 1) dX12_trigger_23 (by decide) ?_
    refine r_goto (pc := 24) X (tgt := 28) dX12_trigger_24 (by decide) ?_
    exact T_sub (t_X12_trigger_28 X hr h) ⟨rfl, rfl, rfl, trivial⟩
def f_X12_trigger (x1 : Int32) (x2 : Int32) (M : Mem) : Option (Int32 × Mem) :=
  bnd (f_X12_isTrigger x1 M) (fun r1 M2 => if r1 = 0 then f_X12_trigger_14 x1 x2 1 M2 else f_X12_trigger_14 x1 x2 0 M2)
set_option maxHeartbeats 4000000 in
set_option maxRecDepth 100000 in
theorem t_X12_trigger {G : GG} {A : Nat → Prop} {p : Program} {l : Launch} {e : Env} {s : State} {m : MethodId} {args : Array Value} {below : List Frame} {meth : Method} {c : Code} {r : Int32} {M' : Mem} (X : Cx G A p s m args meth c RX12 cX12_trigger 3) (hr : meth.sig.returnType = some .int) {x1 : Int32} {x2 : Int32} {M : Mem}  (h : f_X12_trigger x1 x2 M = some (r, M')) : T G A p l e (rmO 2) s m args below meth c 3 0 0 (MQ below (QiO G A r M') args s 0 0 A) 0 [(0, .ref (G.2.1 (10, 0, 0))), (1, .int x1), (2, .int x2)] [] M := by
  unfold f_X12_trigger at h
  refine r_aload_n (pc := 0) X dX12_trigger_0 rfl ?_
  refine r_aload_n (pc := 1) X dX12_trigger_1 rfl ?_
  refine r_iload_n (pc := 2) X dX12_trigger_2 rfl ?_
  refine bndE h (fun r1 M2 h3 h => ?_)
  refine r_callVi1 (pc := 3) X ⟨(ltb rfl), (ltb rfl)⟩ rfl vy_X12_isTrigger my_X12_isTrigger ml_X12_238 ⟨Nat.le_of_ble_eq_true rfl, Nat.le_of_ble_eq_true rfl, Nat.le_of_ble_eq_true rfl, Nat.le_of_ble_eq_true rfl⟩ (c_X12_isTrigger  h3) (Nat.le_of_ble_eq_true rfl) dX12_trigger_3 ?_
  refine r_if_ne (pc := 6) X (tgt := 13) dX12_trigger_6 (by decide) h (fun h => ?_) (fun h => ?_)
  · refine r_iconst (pc := 13) X (v := 0) dX12_trigger_13 (by decide) ?_
    exact T_sub (t_X12_trigger_14 X hr h) ⟨rfl, rfl, rfl, trivial⟩
  · refine r_iconst (pc := 9) X (v := 1) dX12_trigger_9 (by decide) ?_
    refine r_goto (pc := 10) X (tgt := 14) dX12_trigger_10 (by decide) ?_
    exact T_sub (t_X12_trigger_14 X hr h) ⟨rfl, rfl, rfl, trivial⟩
theorem c_X12_trigger {G : GG} {l : Launch} {x1 : Int32} {x2 : Int32} {r : Int32} {M M' : Mem}  (h : f_X12_trigger x1 x2 M = some (r, M')) : Met l yX12_trigger (wsO yX12_trigger cX12_trigger 3 (some .int)) (rmO 2) (PcO G [.ref (G.2.1 (10, 0, 0)), .int x1, .int x2] M) (QiO G (AA G) r M') 0 0 (AA G) :=
  met_of (own := RX12) rfl (by decide +kernel) (Nat.le_of_ble_eq_true rfl) (fun p e s m args below meth c X hr => t_X12_trigger X hr  h)
-- ConverterScannerModel.window
def f_X12_window_56 (x1 : Int32) (x2 : Int32) (xs0 : Int32) (M : Mem) : Option (Int32 × Mem) :=
  if x2 = 0 then bnd (f_X12_win x1 x2 M) (fun r1 M2 => bnd (f_X12_its r1 M2) (fun r4 M5 => some (r4, M5))) else if x2 = 1 then bnd (f_X12_win x1 x2 M) (fun r7 M8 => bnd (f_X12_its r7 M8) (fun r10 M11 => some (r10, M11))) else if x2 = 2 then if bad (42 + x1) 104 then none else some ((M.1 (31, 0, 0) (Int32.toNatClampNeg (42 + x1))), M) else if x2 = 3 then if bad (45 + x1) 104 then none else some ((M.1 (31, 0, 0) (Int32.toNatClampNeg (45 + x1))), M) else if x2 = 4 then bnd (f_X12_win x1 2 M) (fun r13 M14 => bnd (f_X12_its r13 M14) (fun r16 M17 => some (r16, M17))) else if x2 = 5 then if xs0 = 0 then some (0, M) else some (1, M) else if xs0 = 0 then some ((-1), M) else bnd (f_X12_win x1 ((4 + x2) - 6) M) (fun r19 M20 => bnd (f_X12_its r19 M20) (fun r22 M23 => some (r22, M23)))
set_option maxHeartbeats 4000000 in
set_option maxRecDepth 100000 in
theorem t_X12_window_56 {G : GG} {A : Nat → Prop} {p : Program} {l : Launch} {e : Env} {s : State} {m : MethodId} {args : Array Value} {below : List Frame} {meth : Method} {c : Code} {r : Int32} {M' : Mem} (X : Cx G A p s m args meth c RX12 cX12_window 4) (hr : meth.sig.returnType = some .int) {x1 : Int32} {x2 : Int32} {xs0 : Int32} {M : Mem}  (h : f_X12_window_56 x1 x2 xs0 M = some (r, M')) : T G A p l e (rmO 2) s m args below meth c 4 0 0 (MQ below (QiO G A r M') args s 0 0 A) 56 [(0, .ref (G.2.1 (10, 0, 0))), (1, .int x1), (2, .int x2)] [.int xs0] M := by
  unfold f_X12_window_56 at h
  refine r_istore_n (pc := 56) X (by decide) dX12_window_56 ?_
  refine r_iload_n (pc := 57) X dX12_window_57 rfl ?_
  refine swc h (fun hq h => ?_) (fun hs0 h => ?_)
  · refine r_swInE (pc := 58) X hq (off := 38) (tgt := 96) dX12_window_58 (by decide) (by decide) (by decide) (by decide) ?_
    refine r_aload_n (pc := 96) X dX12_window_96 rfl ?_
    refine r_iload_n (pc := 97) X dX12_window_97 rfl ?_
    refine r_iload_n (pc := 98) X dX12_window_98 rfl ?_
    refine bndE h (fun r1 M2 h3 h => ?_)
    refine r_callSi2 (pc := 99) X sy_X12_win my_X12_win ml_X12_187 ⟨Nat.le_of_ble_eq_true rfl, Nat.le_of_ble_eq_true rfl, Nat.le_of_ble_eq_true rfl, Nat.le_of_ble_eq_true rfl⟩ (c_X12_win  h3) (Nat.le_of_ble_eq_true rfl) dX12_window_99 ?_
    refine bndE h (fun r4 M5 h6 h => ?_)
    refine r_callVi1 (pc := 102) X ⟨(ltb rfl), (ltb rfl)⟩ rfl vy_X12_its my_X12_its ml_X12_155 ⟨Nat.le_of_ble_eq_true rfl, Nat.le_of_ble_eq_true rfl, Nat.le_of_ble_eq_true rfl, Nat.le_of_ble_eq_true rfl⟩ (c_X12_its  h6) (Nat.le_of_ble_eq_true rfl) dX12_window_102 ?_
    cases h
    exact r_iret (pc := 105) X hr dX12_window_105
  refine swc h (fun hq h => ?_) (fun hs1 h => ?_)
  · refine r_swInE (pc := 58) X hq (off := 38) (tgt := 96) dX12_window_58 (by decide) (by decide) (by decide) (by decide) ?_
    refine r_aload_n (pc := 96) X dX12_window_96 rfl ?_
    refine r_iload_n (pc := 97) X dX12_window_97 rfl ?_
    refine r_iload_n (pc := 98) X dX12_window_98 rfl ?_
    refine bndE h (fun r7 M8 h9 h => ?_)
    refine r_callSi2 (pc := 99) X sy_X12_win my_X12_win ml_X12_187 ⟨Nat.le_of_ble_eq_true rfl, Nat.le_of_ble_eq_true rfl, Nat.le_of_ble_eq_true rfl, Nat.le_of_ble_eq_true rfl⟩ (c_X12_win  h9) (Nat.le_of_ble_eq_true rfl) dX12_window_99 ?_
    refine bndE h (fun r10 M11 h12 h => ?_)
    refine r_callVi1 (pc := 102) X ⟨(ltb rfl), (ltb rfl)⟩ rfl vy_X12_its my_X12_its ml_X12_155 ⟨Nat.le_of_ble_eq_true rfl, Nat.le_of_ble_eq_true rfl, Nat.le_of_ble_eq_true rfl, Nat.le_of_ble_eq_true rfl⟩ (c_X12_its  h12) (Nat.le_of_ble_eq_true rfl) dX12_window_102 ?_
    cases h
    exact r_iret (pc := 105) X hr dX12_window_105
  refine swc h (fun hq h => ?_) (fun hs2 h => ?_)
  · refine r_swInE (pc := 58) X hq (off := 48) (tgt := 106) dX12_window_58 (by decide) (by decide) (by decide) (by decide) ?_
    refine r_aload_n (pc := 106) X dX12_window_106 rfl ?_
    refine r_getR (q := (31, 0, 0)) (pc := 107) X ⟨(ltb rfl), (ltb rfl)⟩ fl_X12_26 rfl dX12_window_107 ?_
    refine r_bipush (pc := 110) X (v := 42) dX12_window_110 (by decide) ?_
    refine r_iload_n (pc := 112) X dX12_window_112 rfl ?_
    refine r_iadd (pc := 113) X dX12_window_113 ?_
    refine r_iald (pc := 114) X (n := 104) ⟨(ltb rfl), (ltb rfl)⟩ rfl (nlt rfl) dX12_window_114 h (fun h => ?_)
    cases h
    exact r_iret (pc := 115) X hr dX12_window_115
  refine swc h (fun hq h => ?_) (fun hs3 h => ?_)
  · refine r_swInE (pc := 58) X hq (off := 58) (tgt := 116) dX12_window_58 (by decide) (by decide) (by decide) (by decide) ?_
    refine r_aload_n (pc := 116) X dX12_window_116 rfl ?_
    refine r_getR (q := (31, 0, 0)) (pc := 117) X ⟨(ltb rfl), (ltb rfl)⟩ fl_X12_26 rfl dX12_window_117 ?_
    refine r_bipush (pc := 120) X (v := 45) dX12_window_120 (by decide) ?_
    refine r_iload_n (pc := 122) X dX12_window_122 rfl ?_
    refine r_iadd (pc := 123) X dX12_window_123 ?_
    refine r_iald (pc := 124) X (n := 104) ⟨(ltb rfl), (ltb rfl)⟩ rfl (nlt rfl) dX12_window_124 h (fun h => ?_)
    cases h
    exact r_iret (pc := 125) X hr dX12_window_125
  refine swc h (fun hq h => ?_) (fun hs4 h => ?_)
  · refine r_swInE (pc := 58) X hq (off := 68) (tgt := 126) dX12_window_58 (by decide) (by decide) (by decide) (by decide) ?_
    refine r_aload_n (pc := 126) X dX12_window_126 rfl ?_
    refine r_iload_n (pc := 127) X dX12_window_127 rfl ?_
    refine r_iconst (pc := 128) X (v := 2) dX12_window_128 (by decide) ?_
    refine bndE h (fun r13 M14 h15 h => ?_)
    refine r_callSi2 (pc := 129) X sy_X12_win my_X12_win ml_X12_187 ⟨Nat.le_of_ble_eq_true rfl, Nat.le_of_ble_eq_true rfl, Nat.le_of_ble_eq_true rfl, Nat.le_of_ble_eq_true rfl⟩ (c_X12_win  h15) (Nat.le_of_ble_eq_true rfl) dX12_window_129 ?_
    refine bndE h (fun r16 M17 h18 h => ?_)
    refine r_callVi1 (pc := 132) X ⟨(ltb rfl), (ltb rfl)⟩ rfl vy_X12_its my_X12_its ml_X12_155 ⟨Nat.le_of_ble_eq_true rfl, Nat.le_of_ble_eq_true rfl, Nat.le_of_ble_eq_true rfl, Nat.le_of_ble_eq_true rfl⟩ (c_X12_its  h18) (Nat.le_of_ble_eq_true rfl) dX12_window_132 ?_
    cases h
    exact r_iret (pc := 135) X hr dX12_window_135
  refine swc h (fun hq h => ?_) (fun hs5 h => ?_)
  · refine r_swInE (pc := 58) X hq (off := 78) (tgt := 136) dX12_window_58 (by decide) (by decide) (by decide) (by decide) ?_
    refine r_iload_n (pc := 136) X dX12_window_136 rfl ?_
    refine r_if_eq (pc := 137) X (tgt := 144) dX12_window_137 (by decide) h (fun h => ?_) (fun h => ?_)
    · refine r_iconst (pc := 144) X (v := 0) dX12_window_144 (by decide) ?_
      cases h
      exact r_iret (pc := 145) X hr dX12_window_145
    · refine r_iconst (pc := 140) X (v := 1) dX12_window_140 (by decide) ?_
      refine r_goto (pc := 141) X (tgt := 145) dX12_window_141 (by decide) ?_
      cases h
      exact r_iret (pc := 145) X hr dX12_window_145
  · refine r_swOut (pc := 58) X (tgt := 146) dX12_window_58 (by have z0 := lv_neT (a := 0) hs0 (by decide); have z1 := lv_neT (a := 1) hs1 (by decide); have z2 := lv_neT (a := 2) hs2 (by decide); have z3 := lv_neT (a := 3) hs3 (by decide); have z4 := lv_neT (a := 4) hs4 (by decide); have z5 := lv_neT (a := 5) hs5 (by decide); omega) (by decide) ?_
    refine r_iload_n (pc := 146) X dX12_window_146 rfl ?_
    refine r_if_eq (pc := 147) X (tgt := 167) dX12_window_147 (by decide) h (fun h => ?_) (fun h => ?_)
    · refine r_iconst (pc := 167) X (v := (-1)) dX12_window_167 (by decide) ?_
      cases h
      exact r_iret (pc := 168) X hr dX12_window_168
    · refine r_aload_n (pc := 150) X dX12_window_150 rfl ?_
      refine r_iload_n (pc := 151) X dX12_window_151 rfl ?_
      refine r_iconst (pc := 152) X (v := 4) dX12_window_152 (by decide) ?_
      refine r_iload_n (pc := 153) X dX12_window_153 rfl ?_
      refine r_iadd (pc := 154) X dX12_window_154 ?_
      refine r_bipush (pc := 155) X (v := 6) dX12_window_155 (by decide) ?_
      refine r_isub (pc := 157) X dX12_window_157 ?_
      refine bndE h (fun r19 M20 h21 h => ?_)
      refine r_callSi2 (pc := 158) X sy_X12_win my_X12_win ml_X12_187 ⟨Nat.le_of_ble_eq_true rfl, Nat.le_of_ble_eq_true rfl, Nat.le_of_ble_eq_true rfl, Nat.le_of_ble_eq_true rfl⟩ (c_X12_win  h21) (Nat.le_of_ble_eq_true rfl) dX12_window_158 ?_
      refine bndE h (fun r22 M23 h24 h => ?_)
      refine r_callVi1 (pc := 161) X ⟨(ltb rfl), (ltb rfl)⟩ rfl vy_X12_its my_X12_its ml_X12_155 ⟨Nat.le_of_ble_eq_true rfl, Nat.le_of_ble_eq_true rfl, Nat.le_of_ble_eq_true rfl, Nat.le_of_ble_eq_true rfl⟩ (c_X12_its  h24) (Nat.le_of_ble_eq_true rfl) dX12_window_161 ?_
      refine r_goto (pc := 164) X (tgt := 168) dX12_window_164 (by decide) ?_
      cases h
      exact r_iret (pc := 168) X hr dX12_window_168
def f_X12_window_29 (x1 : Int32) (x2 : Int32) (xs0 : Int32) (xs1 : Int32) (M : Mem) : Option (Int32 × Mem) :=
  bnd (f_X12_fails xs1 xs0 0 M) (fun r1 M2 => if r1 = 0 then bnd (f_X12_win x1 3 M2) (fun r4 M5 => bnd (f_X12_its r4 M5) (fun r7 M8 => if r7 = 1 then f_X12_window_56 x1 x2 1 M8 else f_X12_window_56 x1 x2 0 M8)) else some (0, M2))
set_option maxHeartbeats 4000000 in
set_option maxRecDepth 100000 in
theorem t_X12_window_29 {G : GG} {A : Nat → Prop} {p : Program} {l : Launch} {e : Env} {s : State} {m : MethodId} {args : Array Value} {below : List Frame} {meth : Method} {c : Code} {r : Int32} {M' : Mem} (X : Cx G A p s m args meth c RX12 cX12_window 4) (hr : meth.sig.returnType = some .int) {x1 : Int32} {x2 : Int32} {xs0 : Int32} {xs1 : Int32} {M : Mem}  (h : f_X12_window_29 x1 x2 xs0 xs1 M = some (r, M')) : T G A p l e (rmO 2) s m args below meth c 4 0 0 (MQ below (QiO G A r M') args s 0 0 A) 29 [(0, .ref (G.2.1 (10, 0, 0))), (1, .int x1), (2, .int x2)] [.int xs0, .int xs1, .ref (G.2.1 (10, 0, 0))] M := by
  unfold f_X12_window_29 at h
  refine r_iconst (pc := 29) X (v := 0) dX12_window_29 (by decide) ?_
  refine bndE h (fun r1 M2 h3 h => ?_)
  refine r_callVi3 (pc := 30) X ⟨(ltb rfl), (ltb rfl)⟩ rfl vy_X12_fails my_X12_fails ml_X12_14 ⟨Nat.le_of_ble_eq_true rfl, Nat.le_of_ble_eq_true rfl, Nat.le_of_ble_eq_true rfl, Nat.le_of_ble_eq_true rfl⟩ (c_X12_fails  h3) (Nat.le_of_ble_eq_true rfl) dX12_window_30 ?_
  refine r_if_eq (pc := 33) X (tgt := 38) dX12_window_33 (by decide) h (fun h => ?_) (fun h => ?_)
  · refine r_aload_n (pc := 38) X dX12_window_38 rfl ?_
    refine r_iload_n (pc := 39) X dX12_window_39 rfl ?_
    refine r_iconst (pc := 40) X (v := 3) dX12_window_40 (by decide) ?_
    refine bndE h (fun r4 M5 h6 h => ?_)
    refine r_callSi2 (pc := 41) X sy_X12_win my_X12_win ml_X12_187 ⟨Nat.le_of_ble_eq_true rfl, Nat.le_of_ble_eq_true rfl, Nat.le_of_ble_eq_true rfl, Nat.le_of_ble_eq_true rfl⟩ (c_X12_win  h6) (Nat.le_of_ble_eq_true rfl) dX12_window_41 ?_
    refine bndE h (fun r7 M8 h9 h => ?_)
    refine r_callVi1 (pc := 44) X ⟨(ltb rfl), (ltb rfl)⟩ rfl vy_X12_its my_X12_its ml_X12_155 ⟨Nat.le_of_ble_eq_true rfl, Nat.le_of_ble_eq_true rfl, Nat.le_of_ble_eq_true rfl, Nat.le_of_ble_eq_true rfl⟩ (c_X12_its  h9) (Nat.le_of_ble_eq_true rfl) dX12_window_44 ?_
    refine r_iconst (pc := 47) X (v := 1) dX12_window_47 (by decide) ?_
    refine r_icmp_ne (pc := 48) X (tgt := 55) dX12_window_48 (by decide) h (fun h => ?_) (fun h => ?_)
    · refine r_iconst (pc := 55) X (v := 0) dX12_window_55 (by decide) ?_
      exact T_sub (t_X12_window_56 X hr h) ⟨rfl, rfl, rfl, trivial⟩
    · refine r_iconst (pc := 51) X (v := 1) dX12_window_51 (by decide) ?_
      refine r_goto (pc := 52) X (tgt := 56) dX12_window_52 (by decide) ?_
      exact T_sub (t_X12_window_56 X hr h) ⟨rfl, rfl, rfl, trivial⟩
  · refine r_iconst (pc := 36) X (v := 0) dX12_window_36 (by decide) ?_
    cases h
    exact r_iret (pc := 37) X hr dX12_window_37
def f_X12_window_14 (x1 : Int32) (x2 : Int32) (xs0 : Int32) (M : Mem) : Option (Int32 × Mem) :=
  bnd (f_X12_inRange x2 0 8 M) (fun r1 M2 => if r1 = 0 then f_X12_window_29 x1 x2 1 xs0 M2 else f_X12_window_29 x1 x2 0 xs0 M2)
set_option maxHeartbeats 4000000 in
set_option maxRecDepth 100000 in
theorem t_X12_window_14 {G : GG} {A : Nat → Prop} {p : Program} {l : Launch} {e : Env} {s : State} {m : MethodId} {args : Array Value} {below : List Frame} {meth : Method} {c : Code} {r : Int32} {M' : Mem} (X : Cx G A p s m args meth c RX12 cX12_window 4) (hr : meth.sig.returnType = some .int) {x1 : Int32} {x2 : Int32} {xs0 : Int32} {M : Mem}  (h : f_X12_window_14 x1 x2 xs0 M = some (r, M')) : T G A p l e (rmO 2) s m args below meth c 4 0 0 (MQ below (QiO G A r M') args s 0 0 A) 14 [(0, .ref (G.2.1 (10, 0, 0))), (1, .int x1), (2, .int x2)] [.int xs0, .ref (G.2.1 (10, 0, 0))] M := by
  unfold f_X12_window_14 at h
  refine r_iload_n (pc := 14) X dX12_window_14 rfl ?_
  refine r_iconst (pc := 15) X (v := 0) dX12_window_15 (by decide) ?_
  refine r_bipush (pc := 16) X (v := 8) dX12_window_16 (by decide) ?_
  refine bndE h (fun r1 M2 h3 h => ?_)
  refine r_callSi3 (pc := 18) X sy_X12_inRange my_X12_inRange ml_X12_22 ⟨Nat.le_of_ble_eq_true rfl, Nat.le_of_ble_eq_true rfl, Nat.le_of_ble_eq_true rfl, Nat.le_of_ble_eq_true rfl⟩ (c_X12_inRange  h3) (Nat.le_of_ble_eq_true rfl) dX12_window_18 ?_
  refine r_if_ne (pc := 21) X (tgt := 28) dX12_window_21 (by decide) h (fun h => ?_) (fun h => ?_)
  · refine r_iconst (pc := 28) X (v := 0) dX12_window_28 (by decide) ?_
    exact T_sub (t_X12_window_29 X hr h) ⟨rfl, rfl, rfl, trivial⟩
  · refine r_iconst (pc := 24) X (v := 1) dX12_window_24 (by decide) ?_
    refine r_goto (pc := 25) X (tgt := 29) dX12_window_25 (by decide) ?_
    exact T_sub (t_X12_window_29 X hr h) ⟨rfl, rfl, rfl, trivial⟩
def f_X12_window (x1 : Int32) (x2 : Int32) (M : Mem) : Option (Int32 × Mem) :=
  bnd (f_X12_isWindow x1 M) (fun r1 M2 => if r1 = 0 then f_X12_window_14 x1 x2 1 M2 else f_X12_window_14 x1 x2 0 M2)
set_option maxHeartbeats 4000000 in
set_option maxRecDepth 100000 in
theorem t_X12_window {G : GG} {A : Nat → Prop} {p : Program} {l : Launch} {e : Env} {s : State} {m : MethodId} {args : Array Value} {below : List Frame} {meth : Method} {c : Code} {r : Int32} {M' : Mem} (X : Cx G A p s m args meth c RX12 cX12_window 4) (hr : meth.sig.returnType = some .int) {x1 : Int32} {x2 : Int32} {M : Mem}  (h : f_X12_window x1 x2 M = some (r, M')) : T G A p l e (rmO 2) s m args below meth c 4 0 0 (MQ below (QiO G A r M') args s 0 0 A) 0 [(0, .ref (G.2.1 (10, 0, 0))), (1, .int x1), (2, .int x2)] [] M := by
  unfold f_X12_window at h
  refine r_aload_n (pc := 0) X dX12_window_0 rfl ?_
  refine r_aload_n (pc := 1) X dX12_window_1 rfl ?_
  refine r_iload_n (pc := 2) X dX12_window_2 rfl ?_
  refine bndE h (fun r1 M2 h3 h => ?_)
  refine r_callVi1 (pc := 3) X ⟨(ltb rfl), (ltb rfl)⟩ rfl vy_X12_isWindow my_X12_isWindow ml_X12_241 ⟨Nat.le_of_ble_eq_true rfl, Nat.le_of_ble_eq_true rfl, Nat.le_of_ble_eq_true rfl, Nat.le_of_ble_eq_true rfl⟩ (c_X12_isWindow  h3) (Nat.le_of_ble_eq_true rfl) dX12_window_3 ?_
  refine r_if_ne (pc := 6) X (tgt := 13) dX12_window_6 (by decide) h (fun h => ?_) (fun h => ?_)
  · refine r_iconst (pc := 13) X (v := 0) dX12_window_13 (by decide) ?_
    exact T_sub (t_X12_window_14 X hr h) ⟨rfl, rfl, rfl, trivial⟩
  · refine r_iconst (pc := 9) X (v := 1) dX12_window_9 (by decide) ?_
    refine r_goto (pc := 10) X (tgt := 14) dX12_window_10 (by decide) ?_
    exact T_sub (t_X12_window_14 X hr h) ⟨rfl, rfl, rfl, trivial⟩
theorem c_X12_window {G : GG} {l : Launch} {x1 : Int32} {x2 : Int32} {r : Int32} {M M' : Mem}  (h : f_X12_window x1 x2 M = some (r, M')) : Met l yX12_window (wsO yX12_window cX12_window 4 (some .int)) (rmO 2) (PcO G [.ref (G.2.1 (10, 0, 0)), .int x1, .int x2] M) (QiO G (AA G) r M') 0 0 (AA G) :=
  met_of (own := RX12) rfl (by decide +kernel) (Nat.le_of_ble_eq_true rfl) (fun p e s m args below meth c X hr => t_X12_window X hr  h)
-- ConverterScannerModel.signal
def f_X12_signal_23 (x1 : Int32) (x2 : Int32) (xs0 : Int32) (xs1 : Int32) (M : Mem) : Option (Int32 × Mem) :=
  bnd (f_X12_fails xs1 xs0 0 M) (fun r1 M2 => if r1 = 0 then bnd (f_X12_signalOf x1 x2 M2) (fun r4 M5 => some (r4, M5)) else some (0, M2))
set_option maxHeartbeats 4000000 in
set_option maxRecDepth 100000 in
theorem t_X12_signal_23 {G : GG} {A : Nat → Prop} {p : Program} {l : Launch} {e : Env} {s : State} {m : MethodId} {args : Array Value} {below : List Frame} {meth : Method} {c : Code} {r : Int32} {M' : Mem} (X : Cx G A p s m args meth c RX12 cX12_signal 3) (hr : meth.sig.returnType = some .int) {x1 : Int32} {x2 : Int32} {xs0 : Int32} {xs1 : Int32} {M : Mem}  (h : f_X12_signal_23 x1 x2 xs0 xs1 M = some (r, M')) : T G A p l e (rmO 2) s m args below meth c 3 0 0 (MQ below (QiO G A r M') args s 0 0 A) 23 [(0, .ref (G.2.1 (10, 0, 0))), (1, .int x1), (2, .int x2)] [.int xs0, .int xs1, .ref (G.2.1 (10, 0, 0))] M := by
  unfold f_X12_signal_23 at h
  refine r_iconst (pc := 23) X (v := 0) dX12_signal_23 (by decide) ?_
  refine bndE h (fun r1 M2 h3 h => ?_)
  refine r_callVi3 (pc := 24) X ⟨(ltb rfl), (ltb rfl)⟩ rfl vy_X12_fails my_X12_fails ml_X12_14 ⟨Nat.le_of_ble_eq_true rfl, Nat.le_of_ble_eq_true rfl, Nat.le_of_ble_eq_true rfl, Nat.le_of_ble_eq_true rfl⟩ (c_X12_fails  h3) (Nat.le_of_ble_eq_true rfl) dX12_signal_24 ?_
  refine r_if_eq (pc := 27) X (tgt := 34) dX12_signal_27 (by decide) h (fun h => ?_) (fun h => ?_)
  · refine r_aload_n (pc := 34) X dX12_signal_34 rfl ?_
    refine r_iload_n (pc := 35) X dX12_signal_35 rfl ?_
    refine r_iload_n (pc := 36) X dX12_signal_36 rfl ?_
    refine bndE h (fun r4 M5 h6 h => ?_)
    refine r_callVi2 (pc := 37) X ⟨(ltb rfl), (ltb rfl)⟩ rfl vy_X12_signalOf my_X12_signalOf ml_X12_217 ⟨Nat.le_of_ble_eq_true rfl, Nat.le_of_ble_eq_true rfl, Nat.le_of_ble_eq_true rfl, Nat.le_of_ble_eq_true rfl⟩ (c_X12_signalOf  h6) (Nat.le_of_ble_eq_true rfl) dX12_signal_37 ?_
    cases h
    exact r_iret (pc := 40) X hr dX12_signal_40
  · refine r_iconst (pc := 30) X (v := 0) dX12_signal_30 (by decide) ?_
    refine r_goto (pc := 31) X (tgt := 40) dX12_signal_31 (by decide) ?_
    cases h
    exact r_iret (pc := 40) X hr dX12_signal_40
def f_X12_signal_14 (x1 : Int32) (x2 : Int32) (xs0 : Int32) (M : Mem) : Option (Int32 × Mem) :=
  if 0 ≤ x2 then f_X12_signal_23 x1 x2 0 xs0 M else f_X12_signal_23 x1 x2 1 xs0 M
set_option maxHeartbeats 4000000 in
set_option maxRecDepth 100000 in
theorem t_X12_signal_14 {G : GG} {A : Nat → Prop} {p : Program} {l : Launch} {e : Env} {s : State} {m : MethodId} {args : Array Value} {below : List Frame} {meth : Method} {c : Code} {r : Int32} {M' : Mem} (X : Cx G A p s m args meth c RX12 cX12_signal 3) (hr : meth.sig.returnType = some .int) {x1 : Int32} {x2 : Int32} {xs0 : Int32} {M : Mem}  (h : f_X12_signal_14 x1 x2 xs0 M = some (r, M')) : T G A p l e (rmO 2) s m args below meth c 3 0 0 (MQ below (QiO G A r M') args s 0 0 A) 14 [(0, .ref (G.2.1 (10, 0, 0))), (1, .int x1), (2, .int x2)] [.int xs0, .ref (G.2.1 (10, 0, 0))] M := by
  unfold f_X12_signal_14 at h
  refine r_iload_n (pc := 14) X dX12_signal_14 rfl ?_
  refine r_if_ge (pc := 15) X (tgt := 22) dX12_signal_15 (by decide) h (fun h => ?_) (fun h => ?_)
  · refine r_iconst (pc := 22) X (v := 0) dX12_signal_22 (by decide) ?_
    exact T_sub (t_X12_signal_23 X hr h) ⟨rfl, rfl, rfl, trivial⟩
  · refine r_iconst (pc := 18) X (v := 1) dX12_signal_18 (by decide) ?_
    refine r_goto (pc := 19) X (tgt := 23) dX12_signal_19 (by decide) ?_
    exact T_sub (t_X12_signal_23 X hr h) ⟨rfl, rfl, rfl, trivial⟩
def f_X12_signal (x1 : Int32) (x2 : Int32) (M : Mem) : Option (Int32 × Mem) :=
  bnd (f_X12_isChannel x1 M) (fun r1 M2 => if r1 = 0 then f_X12_signal_14 x1 x2 1 M2 else f_X12_signal_14 x1 x2 0 M2)
set_option maxHeartbeats 4000000 in
set_option maxRecDepth 100000 in
theorem t_X12_signal {G : GG} {A : Nat → Prop} {p : Program} {l : Launch} {e : Env} {s : State} {m : MethodId} {args : Array Value} {below : List Frame} {meth : Method} {c : Code} {r : Int32} {M' : Mem} (X : Cx G A p s m args meth c RX12 cX12_signal 3) (hr : meth.sig.returnType = some .int) {x1 : Int32} {x2 : Int32} {M : Mem}  (h : f_X12_signal x1 x2 M = some (r, M')) : T G A p l e (rmO 2) s m args below meth c 3 0 0 (MQ below (QiO G A r M') args s 0 0 A) 0 [(0, .ref (G.2.1 (10, 0, 0))), (1, .int x1), (2, .int x2)] [] M := by
  unfold f_X12_signal at h
  refine r_aload_n (pc := 0) X dX12_signal_0 rfl ?_
  refine r_aload_n (pc := 1) X dX12_signal_1 rfl ?_
  refine r_iload_n (pc := 2) X dX12_signal_2 rfl ?_
  refine bndE h (fun r1 M2 h3 h => ?_)
  refine r_callVi1 (pc := 3) X ⟨(ltb rfl), (ltb rfl)⟩ rfl vy_X12_isChannel my_X12_isChannel ml_X12_244 ⟨Nat.le_of_ble_eq_true rfl, Nat.le_of_ble_eq_true rfl, Nat.le_of_ble_eq_true rfl, Nat.le_of_ble_eq_true rfl⟩ (c_X12_isChannel  h3) (Nat.le_of_ble_eq_true rfl) dX12_signal_3 ?_
  refine r_if_ne (pc := 6) X (tgt := 13) dX12_signal_6 (by decide) h (fun h => ?_) (fun h => ?_)
  · refine r_iconst (pc := 13) X (v := 0) dX12_signal_13 (by decide) ?_
    exact T_sub (t_X12_signal_14 X hr h) ⟨rfl, rfl, rfl, trivial⟩
  · refine r_iconst (pc := 9) X (v := 1) dX12_signal_9 (by decide) ?_
    refine r_goto (pc := 10) X (tgt := 14) dX12_signal_10 (by decide) ?_
    exact T_sub (t_X12_signal_14 X hr h) ⟨rfl, rfl, rfl, trivial⟩
theorem c_X12_signal {G : GG} {l : Launch} {x1 : Int32} {x2 : Int32} {r : Int32} {M M' : Mem}  (h : f_X12_signal x1 x2 M = some (r, M')) : Met l yX12_signal (wsO yX12_signal cX12_signal 3 (some .int)) (rmO 2) (PcO G [.ref (G.2.1 (10, 0, 0)), .int x1, .int x2] M) (QiO G (AA G) r M') 0 0 (AA G) :=
  met_of (own := RX12) rfl (by decide +kernel) (Nat.le_of_ble_eq_true rfl) (fun p e s m args below meth c X hr => t_X12_signal X hr  h)
-- ConverterScannerModel.queued
def f_X12_queued_36 (x1 : Int32) (x2 : Int32) (xs0 : Int32) (xs1 : Int32) (M : Mem) : Option (Int32 × Mem) :=
  bnd (f_X12_fails xs1 xs0 0 M) (fun r1 M2 => if r1 = 0 then bnd (f_X12_its ((152 + (4 * x1)) + x2) M2) (fun r4 M5 => some (r4, M5)) else some (0, M2))
set_option maxHeartbeats 4000000 in
set_option maxRecDepth 100000 in
theorem t_X12_queued_36 {G : GG} {A : Nat → Prop} {p : Program} {l : Launch} {e : Env} {s : State} {m : MethodId} {args : Array Value} {below : List Frame} {meth : Method} {c : Code} {r : Int32} {M' : Mem} (X : Cx G A p s m args meth c RX12 cX12_queued 3) (hr : meth.sig.returnType = some .int) {x1 : Int32} {x2 : Int32} {xs0 : Int32} {xs1 : Int32} {M : Mem}  (h : f_X12_queued_36 x1 x2 xs0 xs1 M = some (r, M')) : T G A p l e (rmO 1) s m args below meth c 3 0 0 (MQ below (QiO G A r M') args s 0 0 A) 36 [(0, .ref (G.2.1 (10, 0, 0))), (1, .int x1), (2, .int x2)] [.int xs0, .int xs1, .ref (G.2.1 (10, 0, 0))] M := by
  unfold f_X12_queued_36 at h
  refine r_iconst (pc := 36) X (v := 0) dX12_queued_36 (by decide) ?_
  refine bndE h (fun r1 M2 h3 h => ?_)
  refine r_callVi3 (pc := 37) X ⟨(ltb rfl), (ltb rfl)⟩ rfl vy_X12_fails my_X12_fails ml_X12_14 ⟨Nat.le_of_ble_eq_true rfl, Nat.le_of_ble_eq_true rfl, Nat.le_of_ble_eq_true rfl, Nat.le_of_ble_eq_true rfl⟩ (c_X12_fails  h3) (Nat.le_of_ble_eq_true rfl) dX12_queued_37 ?_
  refine r_if_eq (pc := 40) X (tgt := 45) dX12_queued_40 (by decide) h (fun h => ?_) (fun h => ?_)
  · refine r_aload_n (pc := 45) X dX12_queued_45 rfl ?_
    refine r_sipush (pc := 46) X (v := 152) dX12_queued_46 (by decide) ?_
    refine r_iconst (pc := 49) X (v := 4) dX12_queued_49 (by decide) ?_
    refine r_iload_n (pc := 50) X dX12_queued_50 rfl ?_
    refine r_imul (pc := 51) X dX12_queued_51 ?_
    refine r_iadd (pc := 52) X dX12_queued_52 ?_
    refine r_iload_n (pc := 53) X dX12_queued_53 rfl ?_
    refine r_iadd (pc := 54) X dX12_queued_54 ?_
    refine bndE h (fun r4 M5 h6 h => ?_)
    refine r_callVi1 (pc := 55) X ⟨(ltb rfl), (ltb rfl)⟩ rfl vy_X12_its my_X12_its ml_X12_155 ⟨Nat.le_of_ble_eq_true rfl, Nat.le_of_ble_eq_true rfl, Nat.le_of_ble_eq_true rfl, Nat.le_of_ble_eq_true rfl⟩ (c_X12_its  h6) (Nat.le_of_ble_eq_true rfl) dX12_queued_55 ?_
    cases h
    exact r_iret (pc := 58) X hr dX12_queued_58
  · refine r_iconst (pc := 43) X (v := 0) dX12_queued_43 (by decide) ?_
    cases h
    exact r_iret (pc := 44) X hr dX12_queued_44
def f_X12_queued_22 (x1 : Int32) (x2 : Int32) (xs0 : Int32) (M : Mem) : Option (Int32 × Mem) :=
  bnd (f_X12_inRange x2 0 3 M) (fun r1 M2 => if r1 = 0 then f_X12_queued_36 x1 x2 1 xs0 M2 else f_X12_queued_36 x1 x2 0 xs0 M2)
set_option maxHeartbeats 4000000 in
set_option maxRecDepth 100000 in
theorem t_X12_queued_22 {G : GG} {A : Nat → Prop} {p : Program} {l : Launch} {e : Env} {s : State} {m : MethodId} {args : Array Value} {below : List Frame} {meth : Method} {c : Code} {r : Int32} {M' : Mem} (X : Cx G A p s m args meth c RX12 cX12_queued 3) (hr : meth.sig.returnType = some .int) {x1 : Int32} {x2 : Int32} {xs0 : Int32} {M : Mem}  (h : f_X12_queued_22 x1 x2 xs0 M = some (r, M')) : T G A p l e (rmO 1) s m args below meth c 3 0 0 (MQ below (QiO G A r M') args s 0 0 A) 22 [(0, .ref (G.2.1 (10, 0, 0))), (1, .int x1), (2, .int x2)] [.int xs0, .ref (G.2.1 (10, 0, 0))] M := by
  unfold f_X12_queued_22 at h
  refine r_iload_n (pc := 22) X dX12_queued_22 rfl ?_
  refine r_iconst (pc := 23) X (v := 0) dX12_queued_23 (by decide) ?_
  refine r_iconst (pc := 24) X (v := 3) dX12_queued_24 (by decide) ?_
  refine bndE h (fun r1 M2 h3 h => ?_)
  refine r_callSi3 (pc := 25) X sy_X12_inRange my_X12_inRange ml_X12_22 ⟨Nat.le_of_ble_eq_true rfl, Nat.le_of_ble_eq_true rfl, Nat.le_of_ble_eq_true rfl, Nat.le_of_ble_eq_true rfl⟩ (c_X12_inRange  h3) (Nat.le_of_ble_eq_true rfl) dX12_queued_25 ?_
  refine r_if_ne (pc := 28) X (tgt := 35) dX12_queued_28 (by decide) h (fun h => ?_) (fun h => ?_)
  · refine r_iconst (pc := 35) X (v := 0) dX12_queued_35 (by decide) ?_
    exact T_sub (t_X12_queued_36 X hr h) ⟨rfl, rfl, rfl, trivial⟩
  · refine r_iconst (pc := 31) X (v := 1) dX12_queued_31 (by decide) ?_
    refine r_goto (pc := 32) X (tgt := 36) dX12_queued_32 (by decide) ?_
    exact T_sub (t_X12_queued_36 X hr h) ⟨rfl, rfl, rfl, trivial⟩
def f_X12_queued (x1 : Int32) (x2 : Int32) (M : Mem) : Option (Int32 × Mem) :=
  bnd (f_X12_its 11 M) (fun r1 M2 => bnd (f_X12_inRange x1 0 (r1 - 1) M2) (fun r4 M5 => if r4 = 0 then f_X12_queued_22 x1 x2 1 M5 else f_X12_queued_22 x1 x2 0 M5))
set_option maxHeartbeats 4000000 in
set_option maxRecDepth 100000 in
theorem t_X12_queued {G : GG} {A : Nat → Prop} {p : Program} {l : Launch} {e : Env} {s : State} {m : MethodId} {args : Array Value} {below : List Frame} {meth : Method} {c : Code} {r : Int32} {M' : Mem} (X : Cx G A p s m args meth c RX12 cX12_queued 3) (hr : meth.sig.returnType = some .int) {x1 : Int32} {x2 : Int32} {M : Mem}  (h : f_X12_queued x1 x2 M = some (r, M')) : T G A p l e (rmO 1) s m args below meth c 3 0 0 (MQ below (QiO G A r M') args s 0 0 A) 0 [(0, .ref (G.2.1 (10, 0, 0))), (1, .int x1), (2, .int x2)] [] M := by
  unfold f_X12_queued at h
  refine r_aload_n (pc := 0) X dX12_queued_0 rfl ?_
  refine r_iload_n (pc := 1) X dX12_queued_1 rfl ?_
  refine r_iconst (pc := 2) X (v := 0) dX12_queued_2 (by decide) ?_
  refine r_aload_n (pc := 3) X dX12_queued_3 rfl ?_
  refine r_bipush (pc := 4) X (v := 11) dX12_queued_4 (by decide) ?_
  refine bndE h (fun r1 M2 h3 h => ?_)
  refine r_callVi1 (pc := 6) X ⟨(ltb rfl), (ltb rfl)⟩ rfl vy_X12_its my_X12_its ml_X12_155 ⟨Nat.le_of_ble_eq_true rfl, Nat.le_of_ble_eq_true rfl, Nat.le_of_ble_eq_true rfl, Nat.le_of_ble_eq_true rfl⟩ (c_X12_its  h3) (Nat.le_of_ble_eq_true rfl) dX12_queued_6 ?_
  refine r_iconst (pc := 9) X (v := 1) dX12_queued_9 (by decide) ?_
  refine r_isub (pc := 10) X dX12_queued_10 ?_
  refine bndE h (fun r4 M5 h6 h => ?_)
  refine r_callSi3 (pc := 11) X sy_X12_inRange my_X12_inRange ml_X12_22 ⟨Nat.le_of_ble_eq_true rfl, Nat.le_of_ble_eq_true rfl, Nat.le_of_ble_eq_true rfl, Nat.le_of_ble_eq_true rfl⟩ (c_X12_inRange  h6) (Nat.le_of_ble_eq_true rfl) dX12_queued_11 ?_
  refine r_if_ne (pc := 14) X (tgt := 21) dX12_queued_14 (by decide) h (fun h => ?_) (fun h => ?_)
  · refine r_iconst (pc := 21) X (v := 0) dX12_queued_21 (by decide) ?_
    exact T_sub (t_X12_queued_22 X hr h) ⟨rfl, rfl, rfl, trivial⟩
  · refine r_iconst (pc := 17) X (v := 1) dX12_queued_17 (by decide) ?_
    refine r_goto (pc := 18) X (tgt := 22) dX12_queued_18 (by decide) ?_
    exact T_sub (t_X12_queued_22 X hr h) ⟨rfl, rfl, rfl, trivial⟩
theorem c_X12_queued {G : GG} {l : Launch} {x1 : Int32} {x2 : Int32} {r : Int32} {M M' : Mem}  (h : f_X12_queued x1 x2 M = some (r, M')) : Met l yX12_queued (wsO yX12_queued cX12_queued 3 (some .int)) (rmO 1) (PcO G [.ref (G.2.1 (10, 0, 0)), .int x1, .int x2] M) (QiO G (AA G) r M') 0 0 (AA G) :=
  met_of (own := RX12) rfl (by decide +kernel) (Nat.le_of_ble_eq_true rfl) (fun p e s m args below meth c X hr => t_X12_queued X hr  h)
-- ConverterScannerModel.stored
def f_X12_stored_36 (x1 : Int32) (x2 : Int32) (xs0 : Int32) (xs1 : Int32) (M : Mem) : Option (Int32 × Mem) :=
  bnd (f_X12_fails xs1 xs0 0 M) (fun r1 M2 => if r1 = 0 then bnd (f_X12_its ((216 + (4 * x1)) + x2) M2) (fun r4 M5 => some (r4, M5)) else some (0, M2))
set_option maxHeartbeats 4000000 in
set_option maxRecDepth 100000 in
theorem t_X12_stored_36 {G : GG} {A : Nat → Prop} {p : Program} {l : Launch} {e : Env} {s : State} {m : MethodId} {args : Array Value} {below : List Frame} {meth : Method} {c : Code} {r : Int32} {M' : Mem} (X : Cx G A p s m args meth c RX12 cX12_stored 3) (hr : meth.sig.returnType = some .int) {x1 : Int32} {x2 : Int32} {xs0 : Int32} {xs1 : Int32} {M : Mem}  (h : f_X12_stored_36 x1 x2 xs0 xs1 M = some (r, M')) : T G A p l e (rmO 1) s m args below meth c 3 0 0 (MQ below (QiO G A r M') args s 0 0 A) 36 [(0, .ref (G.2.1 (10, 0, 0))), (1, .int x1), (2, .int x2)] [.int xs0, .int xs1, .ref (G.2.1 (10, 0, 0))] M := by
  unfold f_X12_stored_36 at h
  refine r_iconst (pc := 36) X (v := 0) dX12_stored_36 (by decide) ?_
  refine bndE h (fun r1 M2 h3 h => ?_)
  refine r_callVi3 (pc := 37) X ⟨(ltb rfl), (ltb rfl)⟩ rfl vy_X12_fails my_X12_fails ml_X12_14 ⟨Nat.le_of_ble_eq_true rfl, Nat.le_of_ble_eq_true rfl, Nat.le_of_ble_eq_true rfl, Nat.le_of_ble_eq_true rfl⟩ (c_X12_fails  h3) (Nat.le_of_ble_eq_true rfl) dX12_stored_37 ?_
  refine r_if_eq (pc := 40) X (tgt := 45) dX12_stored_40 (by decide) h (fun h => ?_) (fun h => ?_)
  · refine r_aload_n (pc := 45) X dX12_stored_45 rfl ?_
    refine r_sipush (pc := 46) X (v := 216) dX12_stored_46 (by decide) ?_
    refine r_iconst (pc := 49) X (v := 4) dX12_stored_49 (by decide) ?_
    refine r_iload_n (pc := 50) X dX12_stored_50 rfl ?_
    refine r_imul (pc := 51) X dX12_stored_51 ?_
    refine r_iadd (pc := 52) X dX12_stored_52 ?_
    refine r_iload_n (pc := 53) X dX12_stored_53 rfl ?_
    refine r_iadd (pc := 54) X dX12_stored_54 ?_
    refine bndE h (fun r4 M5 h6 h => ?_)
    refine r_callVi1 (pc := 55) X ⟨(ltb rfl), (ltb rfl)⟩ rfl vy_X12_its my_X12_its ml_X12_155 ⟨Nat.le_of_ble_eq_true rfl, Nat.le_of_ble_eq_true rfl, Nat.le_of_ble_eq_true rfl, Nat.le_of_ble_eq_true rfl⟩ (c_X12_its  h6) (Nat.le_of_ble_eq_true rfl) dX12_stored_55 ?_
    cases h
    exact r_iret (pc := 58) X hr dX12_stored_58
  · refine r_iconst (pc := 43) X (v := 0) dX12_stored_43 (by decide) ?_
    cases h
    exact r_iret (pc := 44) X hr dX12_stored_44
def f_X12_stored_22 (x1 : Int32) (x2 : Int32) (xs0 : Int32) (M : Mem) : Option (Int32 × Mem) :=
  bnd (f_X12_inRange x2 0 3 M) (fun r1 M2 => if r1 = 0 then f_X12_stored_36 x1 x2 1 xs0 M2 else f_X12_stored_36 x1 x2 0 xs0 M2)
set_option maxHeartbeats 4000000 in
set_option maxRecDepth 100000 in
theorem t_X12_stored_22 {G : GG} {A : Nat → Prop} {p : Program} {l : Launch} {e : Env} {s : State} {m : MethodId} {args : Array Value} {below : List Frame} {meth : Method} {c : Code} {r : Int32} {M' : Mem} (X : Cx G A p s m args meth c RX12 cX12_stored 3) (hr : meth.sig.returnType = some .int) {x1 : Int32} {x2 : Int32} {xs0 : Int32} {M : Mem}  (h : f_X12_stored_22 x1 x2 xs0 M = some (r, M')) : T G A p l e (rmO 1) s m args below meth c 3 0 0 (MQ below (QiO G A r M') args s 0 0 A) 22 [(0, .ref (G.2.1 (10, 0, 0))), (1, .int x1), (2, .int x2)] [.int xs0, .ref (G.2.1 (10, 0, 0))] M := by
  unfold f_X12_stored_22 at h
  refine r_iload_n (pc := 22) X dX12_stored_22 rfl ?_
  refine r_iconst (pc := 23) X (v := 0) dX12_stored_23 (by decide) ?_
  refine r_iconst (pc := 24) X (v := 3) dX12_stored_24 (by decide) ?_
  refine bndE h (fun r1 M2 h3 h => ?_)
  refine r_callSi3 (pc := 25) X sy_X12_inRange my_X12_inRange ml_X12_22 ⟨Nat.le_of_ble_eq_true rfl, Nat.le_of_ble_eq_true rfl, Nat.le_of_ble_eq_true rfl, Nat.le_of_ble_eq_true rfl⟩ (c_X12_inRange  h3) (Nat.le_of_ble_eq_true rfl) dX12_stored_25 ?_
  refine r_if_ne (pc := 28) X (tgt := 35) dX12_stored_28 (by decide) h (fun h => ?_) (fun h => ?_)
  · refine r_iconst (pc := 35) X (v := 0) dX12_stored_35 (by decide) ?_
    exact T_sub (t_X12_stored_36 X hr h) ⟨rfl, rfl, rfl, trivial⟩
  · refine r_iconst (pc := 31) X (v := 1) dX12_stored_31 (by decide) ?_
    refine r_goto (pc := 32) X (tgt := 36) dX12_stored_32 (by decide) ?_
    exact T_sub (t_X12_stored_36 X hr h) ⟨rfl, rfl, rfl, trivial⟩
def f_X12_stored (x1 : Int32) (x2 : Int32) (M : Mem) : Option (Int32 × Mem) :=
  bnd (f_X12_its 12 M) (fun r1 M2 => bnd (f_X12_inRange x1 0 (r1 - 1) M2) (fun r4 M5 => if r4 = 0 then f_X12_stored_22 x1 x2 1 M5 else f_X12_stored_22 x1 x2 0 M5))
set_option maxHeartbeats 4000000 in
set_option maxRecDepth 100000 in
theorem t_X12_stored {G : GG} {A : Nat → Prop} {p : Program} {l : Launch} {e : Env} {s : State} {m : MethodId} {args : Array Value} {below : List Frame} {meth : Method} {c : Code} {r : Int32} {M' : Mem} (X : Cx G A p s m args meth c RX12 cX12_stored 3) (hr : meth.sig.returnType = some .int) {x1 : Int32} {x2 : Int32} {M : Mem}  (h : f_X12_stored x1 x2 M = some (r, M')) : T G A p l e (rmO 1) s m args below meth c 3 0 0 (MQ below (QiO G A r M') args s 0 0 A) 0 [(0, .ref (G.2.1 (10, 0, 0))), (1, .int x1), (2, .int x2)] [] M := by
  unfold f_X12_stored at h
  refine r_aload_n (pc := 0) X dX12_stored_0 rfl ?_
  refine r_iload_n (pc := 1) X dX12_stored_1 rfl ?_
  refine r_iconst (pc := 2) X (v := 0) dX12_stored_2 (by decide) ?_
  refine r_aload_n (pc := 3) X dX12_stored_3 rfl ?_
  refine r_bipush (pc := 4) X (v := 12) dX12_stored_4 (by decide) ?_
  refine bndE h (fun r1 M2 h3 h => ?_)
  refine r_callVi1 (pc := 6) X ⟨(ltb rfl), (ltb rfl)⟩ rfl vy_X12_its my_X12_its ml_X12_155 ⟨Nat.le_of_ble_eq_true rfl, Nat.le_of_ble_eq_true rfl, Nat.le_of_ble_eq_true rfl, Nat.le_of_ble_eq_true rfl⟩ (c_X12_its  h3) (Nat.le_of_ble_eq_true rfl) dX12_stored_6 ?_
  refine r_iconst (pc := 9) X (v := 1) dX12_stored_9 (by decide) ?_
  refine r_isub (pc := 10) X dX12_stored_10 ?_
  refine bndE h (fun r4 M5 h6 h => ?_)
  refine r_callSi3 (pc := 11) X sy_X12_inRange my_X12_inRange ml_X12_22 ⟨Nat.le_of_ble_eq_true rfl, Nat.le_of_ble_eq_true rfl, Nat.le_of_ble_eq_true rfl, Nat.le_of_ble_eq_true rfl⟩ (c_X12_inRange  h6) (Nat.le_of_ble_eq_true rfl) dX12_stored_11 ?_
  refine r_if_ne (pc := 14) X (tgt := 21) dX12_stored_14 (by decide) h (fun h => ?_) (fun h => ?_)
  · refine r_iconst (pc := 21) X (v := 0) dX12_stored_21 (by decide) ?_
    exact T_sub (t_X12_stored_22 X hr h) ⟨rfl, rfl, rfl, trivial⟩
  · refine r_iconst (pc := 17) X (v := 1) dX12_stored_17 (by decide) ?_
    refine r_goto (pc := 18) X (tgt := 22) dX12_stored_18 (by decide) ?_
    exact T_sub (t_X12_stored_22 X hr h) ⟨rfl, rfl, rfl, trivial⟩
theorem c_X12_stored {G : GG} {l : Launch} {x1 : Int32} {x2 : Int32} {r : Int32} {M M' : Mem}  (h : f_X12_stored x1 x2 M = some (r, M')) : Met l yX12_stored (wsO yX12_stored cX12_stored 3 (some .int)) (rmO 1) (PcO G [.ref (G.2.1 (10, 0, 0)), .int x1, .int x2] M) (QiO G (AA G) r M') 0 0 (AA G) :=
  met_of (own := RX12) rfl (by decide +kernel) (Nat.le_of_ble_eq_true rfl) (fun p e s m args below meth c X hr => t_X12_stored X hr  h)
-- ConverterScannerModel.memorySize
def f_X12_memorySize  (M : Mem) : Option (Int32 × Mem) :=
  nm (uI M (10, 0, 0) 0 0) (fun M1 => bnd (f_X12_its 12 M1) (fun r2 M3 => some (r2, M3)))
set_option maxHeartbeats 4000000 in
set_option maxRecDepth 100000 in
theorem t_X12_memorySize {G : GG} {A : Nat → Prop} {p : Program} {l : Launch} {e : Env} {s : State} {m : MethodId} {args : Array Value} {below : List Frame} {meth : Method} {c : Code} {r : Int32} {M' : Mem} (X : Cx G A p s m args meth c RX12 cX12_memorySize 1) (hr : meth.sig.returnType = some .int) {M : Mem}  (h : f_X12_memorySize M = some (r, M')) : T G A p l e (rmO 1) s m args below meth c 1 0 0 (MQ below (QiO G A r M') args s 0 0 A) 0 [(0, .ref (G.2.1 (10, 0, 0)))] [] M := by
  unfold f_X12_memorySize at h
  refine r_aload_n (pc := 0) X dX12_memorySize_0 rfl ?_
  refine r_iconst (pc := 1) X (v := 0) dX12_memorySize_1 (by decide) ?_
  refine r_putIN (pc := 2) X ⟨(ltb rfl), (ltb rfl)⟩ fp_X12_1 rfl dX12_memorySize_2 h (fun M1 h => ?_)
  refine r_aload_n (pc := 5) X dX12_memorySize_5 rfl ?_
  refine r_bipush (pc := 6) X (v := 12) dX12_memorySize_6 (by decide) ?_
  refine bndE h (fun r2 M3 h4 h => ?_)
  refine r_callVi1 (pc := 8) X ⟨(ltb rfl), (ltb rfl)⟩ rfl vy_X12_its my_X12_its ml_X12_155 ⟨Nat.le_of_ble_eq_true rfl, Nat.le_of_ble_eq_true rfl, Nat.le_of_ble_eq_true rfl, Nat.le_of_ble_eq_true rfl⟩ (c_X12_its  h4) (Nat.le_of_ble_eq_true rfl) dX12_memorySize_8 ?_
  cases h
  exact r_iret (pc := 11) X hr dX12_memorySize_11
theorem c_X12_memorySize {G : GG} {l : Launch} {r : Int32} {M M' : Mem}  (h : f_X12_memorySize  M = some (r, M')) : Met l yX12_memorySize (wsO yX12_memorySize cX12_memorySize 1 (some .int)) (rmO 1) (PcO G [.ref (G.2.1 (10, 0, 0))] M) (QiO G (AA G) r M') 0 0 (AA G) :=
  met_of (own := RX12) rfl (by decide +kernel) (Nat.le_of_ble_eq_true rfl) (fun p e s m args below meth c X hr => t_X12_memorySize X hr  h)
-- ConverterScannerModel.injected
def f_X12_injected_60 (x1 : Int32) (x2 : Int32) (xs0 : Int32) (xs1 : Int32) (xs2 : Int32) (M : Mem) : Option (Int32 × Mem) :=
  bnd (f_X12_fails xs2 xs1 xs0 M) (fun r1 M2 => if r1 = 0 then bnd (f_X12_its (((132 + (5 * x1)) + 1) + x2) M2) (fun r4 M5 => some (r4, M5)) else some (0, M2))
set_option maxHeartbeats 4000000 in
set_option maxRecDepth 100000 in
theorem t_X12_injected_60 {G : GG} {A : Nat → Prop} {p : Program} {l : Launch} {e : Env} {s : State} {m : MethodId} {args : Array Value} {below : List Frame} {meth : Method} {c : Code} {r : Int32} {M' : Mem} (X : Cx G A p s m args meth c RX12 cX12_injected 4) (hr : meth.sig.returnType = some .int) {x1 : Int32} {x2 : Int32} {xs0 : Int32} {xs1 : Int32} {xs2 : Int32} {M : Mem}  (h : f_X12_injected_60 x1 x2 xs0 xs1 xs2 M = some (r, M')) : T G A p l e (rmO 1) s m args below meth c 4 0 0 (MQ below (QiO G A r M') args s 0 0 A) 60 [(0, .ref (G.2.1 (10, 0, 0))), (1, .int x1), (2, .int x2)] [.int xs0, .int xs1, .int xs2, .ref (G.2.1 (10, 0, 0))] M := by
  unfold f_X12_injected_60 at h
  refine bndE h (fun r1 M2 h3 h => ?_)
  refine r_callVi3 (pc := 60) X ⟨(ltb rfl), (ltb rfl)⟩ rfl vy_X12_fails my_X12_fails ml_X12_14 ⟨Nat.le_of_ble_eq_true rfl, Nat.le_of_ble_eq_true rfl, Nat.le_of_ble_eq_true rfl, Nat.le_of_ble_eq_true rfl⟩ (c_X12_fails  h3) (Nat.le_of_ble_eq_true rfl) dX12_injected_60 ?_
  refine r_if_eq (pc := 63) X (tgt := 68) dX12_injected_63 (by decide) h (fun h => ?_) (fun h => ?_)
  · refine r_aload_n (pc := 68) X dX12_injected_68 rfl ?_
    refine r_sipush (pc := 69) X (v := 132) dX12_injected_69 (by decide) ?_
    refine r_iconst (pc := 72) X (v := 5) dX12_injected_72 (by decide) ?_
    refine r_iload_n (pc := 73) X dX12_injected_73 rfl ?_
    refine r_imul (pc := 74) X dX12_injected_74 ?_
    refine r_iadd (pc := 75) X dX12_injected_75 ?_
    refine r_iconst (pc := 76) X (v := 1) dX12_injected_76 (by decide) ?_
    refine r_iadd (pc := 77) X dX12_injected_77 ?_
    refine r_iload_n (pc := 78) X dX12_injected_78 rfl ?_
    refine r_iadd (pc := 79) X dX12_injected_79 ?_
    refine bndE h (fun r4 M5 h6 h => ?_)
    refine r_callVi1 (pc := 80) X ⟨(ltb rfl), (ltb rfl)⟩ rfl vy_X12_its my_X12_its ml_X12_155 ⟨Nat.le_of_ble_eq_true rfl, Nat.le_of_ble_eq_true rfl, Nat.le_of_ble_eq_true rfl, Nat.le_of_ble_eq_true rfl⟩ (c_X12_its  h6) (Nat.le_of_ble_eq_true rfl) dX12_injected_80 ?_
    cases h
    exact r_iret (pc := 83) X hr dX12_injected_83
  · refine r_iconst (pc := 66) X (v := 0) dX12_injected_66 (by decide) ?_
    cases h
    exact r_iret (pc := 67) X hr dX12_injected_67
def f_X12_injected_59 (x1 : Int32) (x2 : Int32) (xs0 : Int32) (xs1 : Int32) (M : Mem) : Option (Int32 × Mem) :=
  f_X12_injected_60 x1 x2 0 xs0 xs1 M
set_option maxHeartbeats 4000000 in
set_option maxRecDepth 100000 in
theorem t_X12_injected_59 {G : GG} {A : Nat → Prop} {p : Program} {l : Launch} {e : Env} {s : State} {m : MethodId} {args : Array Value} {below : List Frame} {meth : Method} {c : Code} {r : Int32} {M' : Mem} (X : Cx G A p s m args meth c RX12 cX12_injected 4) (hr : meth.sig.returnType = some .int) {x1 : Int32} {x2 : Int32} {xs0 : Int32} {xs1 : Int32} {M : Mem}  (h : f_X12_injected_59 x1 x2 xs0 xs1 M = some (r, M')) : T G A p l e (rmO 1) s m args below meth c 4 0 0 (MQ below (QiO G A r M') args s 0 0 A) 59 [(0, .ref (G.2.1 (10, 0, 0))), (1, .int x1), (2, .int x2)] [.int xs0, .int xs1, .ref (G.2.1 (10, 0, 0))] M := by
  unfold f_X12_injected_59 at h
  refine r_iconst (pc := 59) X (v := 0) dX12_injected_59 (by decide) ?_
  exact T_sub (t_X12_injected_60 X hr h) ⟨rfl, rfl, rfl, trivial⟩
def f_X12_injected_37 (x1 : Int32) (x2 : Int32) (x3 : Int32) (xs0 : Int32) (xs1 : Int32) (M : Mem) : Option (Int32 × Mem) :=
  if x3 = 0 then f_X12_injected_59 x1 x2 xs0 xs1 M else bnd (f_X12_its (132 + (5 * x1)) M) (fun r1 M2 => if r1 = 0 then f_X12_injected_60 x1 x2 1 xs0 xs1 M2 else f_X12_injected_59 x1 x2 xs0 xs1 M2)
set_option maxHeartbeats 4000000 in
set_option maxRecDepth 100000 in
theorem t_X12_injected_37 {G : GG} {A : Nat → Prop} {p : Program} {l : Launch} {e : Env} {s : State} {m : MethodId} {args : Array Value} {below : List Frame} {meth : Method} {c : Code} {r : Int32} {M' : Mem} (X : Cx G A p s m args meth c RX12 cX12_injected 4) (hr : meth.sig.returnType = some .int) {x1 : Int32} {x2 : Int32} {x3 : Int32} {xs0 : Int32} {xs1 : Int32} {M : Mem}  (h : f_X12_injected_37 x1 x2 x3 xs0 xs1 M = some (r, M')) : T G A p l e (rmO 1) s m args below meth c 4 0 0 (MQ below (QiO G A r M') args s 0 0 A) 37 [(0, .ref (G.2.1 (10, 0, 0))), (1, .int x1), (2, .int x2), (3, .int x3)] [.int xs0, .int xs1, .ref (G.2.1 (10, 0, 0))] M := by
  unfold f_X12_injected_37 at h
  refine r_iload_n (pc := 37) X dX12_injected_37 rfl ?_
  refine r_if_eq (pc := 38) X (tgt := 59) dX12_injected_38 (by decide) h (fun h => ?_) (fun h => ?_)
  · exact T_sub (t_X12_injected_59 X hr h) ⟨rfl, rfl, rfl, trivial⟩
  · refine r_aload_n (pc := 41) X dX12_injected_41 rfl ?_
    refine r_sipush (pc := 42) X (v := 132) dX12_injected_42 (by decide) ?_
    refine r_iconst (pc := 45) X (v := 5) dX12_injected_45 (by decide) ?_
    refine r_iload_n (pc := 46) X dX12_injected_46 rfl ?_
    refine r_imul (pc := 47) X dX12_injected_47 ?_
    refine r_iadd (pc := 48) X dX12_injected_48 ?_
    refine bndE h (fun r1 M2 h3 h => ?_)
    refine r_callVi1 (pc := 49) X ⟨(ltb rfl), (ltb rfl)⟩ rfl vy_X12_its my_X12_its ml_X12_155 ⟨Nat.le_of_ble_eq_true rfl, Nat.le_of_ble_eq_true rfl, Nat.le_of_ble_eq_true rfl, Nat.le_of_ble_eq_true rfl⟩ (c_X12_its  h3) (Nat.le_of_ble_eq_true rfl) dX12_injected_49 ?_
    refine r_if_ne (pc := 52) X (tgt := 59) dX12_injected_52 (by decide) h (fun h => ?_) (fun h => ?_)
    · exact T_sub (t_X12_injected_59 X hr h) ⟨rfl, rfl, rfl, trivial⟩
    · refine r_iconst (pc := 55) X (v := 1) dX12_injected_55 (by decide) ?_
      refine r_goto (pc := 56) X (tgt := 60) dX12_injected_56 (by decide) ?_
      exact T_sub (t_X12_injected_60 X hr h) ⟨rfl, rfl, rfl, trivial⟩
def f_X12_injected_23 (x1 : Int32) (x2 : Int32) (x3 : Int32) (xs0 : Int32) (M : Mem) : Option (Int32 × Mem) :=
  bnd (f_X12_inRange x2 0 3 M) (fun r1 M2 => if r1 = 0 then f_X12_injected_37 x1 x2 x3 1 xs0 M2 else f_X12_injected_37 x1 x2 x3 0 xs0 M2)
set_option maxHeartbeats 4000000 in
set_option maxRecDepth 100000 in
theorem t_X12_injected_23 {G : GG} {A : Nat → Prop} {p : Program} {l : Launch} {e : Env} {s : State} {m : MethodId} {args : Array Value} {below : List Frame} {meth : Method} {c : Code} {r : Int32} {M' : Mem} (X : Cx G A p s m args meth c RX12 cX12_injected 4) (hr : meth.sig.returnType = some .int) {x1 : Int32} {x2 : Int32} {x3 : Int32} {xs0 : Int32} {M : Mem}  (h : f_X12_injected_23 x1 x2 x3 xs0 M = some (r, M')) : T G A p l e (rmO 1) s m args below meth c 4 0 0 (MQ below (QiO G A r M') args s 0 0 A) 23 [(0, .ref (G.2.1 (10, 0, 0))), (1, .int x1), (2, .int x2), (3, .int x3)] [.int xs0, .ref (G.2.1 (10, 0, 0))] M := by
  unfold f_X12_injected_23 at h
  refine r_iload_n (pc := 23) X dX12_injected_23 rfl ?_
  refine r_iconst (pc := 24) X (v := 0) dX12_injected_24 (by decide) ?_
  refine r_iconst (pc := 25) X (v := 3) dX12_injected_25 (by decide) ?_
  refine bndE h (fun r1 M2 h3 h => ?_)
  refine r_callSi3 (pc := 26) X sy_X12_inRange my_X12_inRange ml_X12_22 ⟨Nat.le_of_ble_eq_true rfl, Nat.le_of_ble_eq_true rfl, Nat.le_of_ble_eq_true rfl, Nat.le_of_ble_eq_true rfl⟩ (c_X12_inRange  h3) (Nat.le_of_ble_eq_true rfl) dX12_injected_26 ?_
  refine r_if_ne (pc := 29) X (tgt := 36) dX12_injected_29 (by decide) h (fun h => ?_) (fun h => ?_)
  · refine r_iconst (pc := 36) X (v := 0) dX12_injected_36 (by decide) ?_
    exact T_sub (t_X12_injected_37 X hr h) ⟨rfl, rfl, rfl, rfl, trivial⟩
  · refine r_iconst (pc := 32) X (v := 1) dX12_injected_32 (by decide) ?_
    refine r_goto (pc := 33) X (tgt := 37) dX12_injected_33 (by decide) ?_
    exact T_sub (t_X12_injected_37 X hr h) ⟨rfl, rfl, rfl, rfl, trivial⟩
def f_X12_injected (x1 : Int32) (x2 : Int32) (M : Mem) : Option (Int32 × Mem) :=
  bnd (f_X12_entries 1 M) (fun r1 M2 => bnd (f_X12_inRange x1 0 (r1 - 1) M2) (fun r4 M5 => if r4 = 0 then f_X12_injected_23 x1 x2 r4 1 M5 else f_X12_injected_23 x1 x2 r4 0 M5))
set_option maxHeartbeats 4000000 in
set_option maxRecDepth 100000 in
theorem t_X12_injected {G : GG} {A : Nat → Prop} {p : Program} {l : Launch} {e : Env} {s : State} {m : MethodId} {args : Array Value} {below : List Frame} {meth : Method} {c : Code} {r : Int32} {M' : Mem} (X : Cx G A p s m args meth c RX12 cX12_injected 4) (hr : meth.sig.returnType = some .int) {x1 : Int32} {x2 : Int32} {M : Mem}  (h : f_X12_injected x1 x2 M = some (r, M')) : T G A p l e (rmO 1) s m args below meth c 4 0 0 (MQ below (QiO G A r M') args s 0 0 A) 0 [(0, .ref (G.2.1 (10, 0, 0))), (1, .int x1), (2, .int x2)] [] M := by
  unfold f_X12_injected at h
  refine r_iload_n (pc := 0) X dX12_injected_0 rfl ?_
  refine r_iconst (pc := 1) X (v := 0) dX12_injected_1 (by decide) ?_
  refine r_aload_n (pc := 2) X dX12_injected_2 rfl ?_
  refine r_iconst (pc := 3) X (v := 1) dX12_injected_3 (by decide) ?_
  refine bndE h (fun r1 M2 h3 h => ?_)
  refine r_callVi1 (pc := 4) X ⟨(ltb rfl), (ltb rfl)⟩ rfl vy_X12_entries my_X12_entries ml_X12_165 ⟨Nat.le_of_ble_eq_true rfl, Nat.le_of_ble_eq_true rfl, Nat.le_of_ble_eq_true rfl, Nat.le_of_ble_eq_true rfl⟩ (c_X12_entries  h3) (Nat.le_of_ble_eq_true rfl) dX12_injected_4 ?_
  refine r_iconst (pc := 7) X (v := 1) dX12_injected_7 (by decide) ?_
  refine r_isub (pc := 8) X dX12_injected_8 ?_
  refine bndE h (fun r4 M5 h6 h => ?_)
  refine r_callSi3 (pc := 9) X sy_X12_inRange my_X12_inRange ml_X12_22 ⟨Nat.le_of_ble_eq_true rfl, Nat.le_of_ble_eq_true rfl, Nat.le_of_ble_eq_true rfl, Nat.le_of_ble_eq_true rfl⟩ (c_X12_inRange  h6) (Nat.le_of_ble_eq_true rfl) dX12_injected_9 ?_
  refine r_istore_n (pc := 12) X (by decide) dX12_injected_12 ?_
  refine r_aload_n (pc := 13) X dX12_injected_13 rfl ?_
  refine r_iload_n (pc := 14) X dX12_injected_14 rfl ?_
  refine r_if_ne (pc := 15) X (tgt := 22) dX12_injected_15 (by decide) h (fun h => ?_) (fun h => ?_)
  · refine r_iconst (pc := 22) X (v := 0) dX12_injected_22 (by decide) ?_
    exact T_sub (t_X12_injected_23 X hr h) ⟨rfl, rfl, rfl, rfl, trivial⟩
  · refine r_iconst (pc := 18) X (v := 1) dX12_injected_18 (by decide) ?_
    refine r_goto (pc := 19) X (tgt := 23) dX12_injected_19 (by decide) ?_
    exact T_sub (t_X12_injected_23 X hr h) ⟨rfl, rfl, rfl, rfl, trivial⟩
theorem c_X12_injected {G : GG} {l : Launch} {x1 : Int32} {x2 : Int32} {r : Int32} {M M' : Mem}  (h : f_X12_injected x1 x2 M = some (r, M')) : Met l yX12_injected (wsO yX12_injected cX12_injected 4 (some .int)) (rmO 1) (PcO G [.ref (G.2.1 (10, 0, 0)), .int x1, .int x2] M) (QiO G (AA G) r M') 0 0 (AA G) :=
  met_of (own := RX12) rfl (by decide +kernel) (Nat.le_of_ble_eq_true rfl) (fun p e s m args below meth c X hr => t_X12_injected X hr  h)
-- ConverterScannerModel.beginTrial
def f_X12_beginTrial  (M : Mem) : Option (Unit × Mem) :=
  bnd (f_X12_copyBlock 0 3 M) (fun r1 M2 => nm (uI M2 (10, 0, 0) 7 3) (fun M4 => some ((), M4)))
set_option maxHeartbeats 4000000 in
set_option maxRecDepth 100000 in
theorem t_X12_beginTrial {G : GG} {A : Nat → Prop} {p : Program} {l : Launch} {e : Env} {s : State} {m : MethodId} {args : Array Value} {below : List Frame} {meth : Method} {c : Code} {r : Unit} {M' : Mem} (X : Cx G A p s m args meth c RX12 cX12_beginTrial 1) (hr : meth.sig.returnType = none) {M : Mem}  (h : f_X12_beginTrial M = some (r, M')) : T G A p l e (rmO 1) s m args below meth c 1 0 0 (MQ below (QvO G A M') args s 0 0 A) 0 [(0, .ref (G.2.1 (10, 0, 0)))] [] M := by
  unfold f_X12_beginTrial at h
  refine r_aload_n (pc := 0) X dX12_beginTrial_0 rfl ?_
  refine r_iconst (pc := 1) X (v := 0) dX12_beginTrial_1 (by decide) ?_
  refine r_iconst (pc := 2) X (v := 3) dX12_beginTrial_2 (by decide) ?_
  refine bndE h (fun r1 M2 h3 h => ?_)
  refine r_callVv2 (pc := 3) X ⟨(ltb rfl), (ltb rfl)⟩ rfl vy_X12_copyBlock my_X12_copyBlock ml_X12_248 ⟨Nat.le_of_ble_eq_true rfl, Nat.le_of_ble_eq_true rfl, Nat.le_of_ble_eq_true rfl, Nat.le_of_ble_eq_true rfl⟩ (c_X12_copyBlock  h3) (Nat.le_of_ble_eq_true rfl) dX12_beginTrial_3 ?_
  refine r_aload_n (pc := 6) X dX12_beginTrial_6 rfl ?_
  refine r_iconst (pc := 7) X (v := 3) dX12_beginTrial_7 (by decide) ?_
  refine r_putIN (pc := 8) X ⟨(ltb rfl), (ltb rfl)⟩ fp_X12_32 rfl dX12_beginTrial_8 h (fun M4 h => ?_)
  cases h
  exact r_vret (pc := 11) X hr dX12_beginTrial_11
theorem c_X12_beginTrial {G : GG} {l : Launch} {r : Unit} {M M' : Mem}  (h : f_X12_beginTrial  M = some (r, M')) : Met l yX12_beginTrial (wsO yX12_beginTrial cX12_beginTrial 1 none) (rmO 1) (PcO G [.ref (G.2.1 (10, 0, 0))] M) (QvO G (AA G) M') 0 0 (AA G) :=
  met_of (own := RX12) rfl (by decide +kernel) (Nat.le_of_ble_eq_true rfl) (fun p e s m args below meth c X hr => t_X12_beginTrial X hr  h)
-- ConverterScannerModel.endTrial
def f_X12_endTrial (x1 : Int32) (M : Mem) : Option (Int32 × Mem) :=
  nm (uI M (10, 0, 0) 7 0) (fun M1 => some (x1, M1))
set_option maxHeartbeats 4000000 in
set_option maxRecDepth 100000 in
theorem t_X12_endTrial {G : GG} {A : Nat → Prop} {p : Program} {l : Launch} {e : Env} {s : State} {m : MethodId} {args : Array Value} {below : List Frame} {meth : Method} {c : Code} {r : Int32} {M' : Mem} (X : Cx G A p s m args meth c RX12 cX12_endTrial 2) (hr : meth.sig.returnType = some .int) {x1 : Int32} {M : Mem}  (h : f_X12_endTrial x1 M = some (r, M')) : T G A p l e (rmO 0) s m args below meth c 2 0 0 (MQ below (QiO G A r M') args s 0 0 A) 0 [(0, .ref (G.2.1 (10, 0, 0))), (1, .int x1)] [] M := by
  unfold f_X12_endTrial at h
  refine r_aload_n (pc := 0) X dX12_endTrial_0 rfl ?_
  refine r_iconst (pc := 1) X (v := 0) dX12_endTrial_1 (by decide) ?_
  refine r_putIN (pc := 2) X ⟨(ltb rfl), (ltb rfl)⟩ fp_X12_32 rfl dX12_endTrial_2 h (fun M1 h => ?_)
  refine r_iload_n (pc := 5) X dX12_endTrial_5 rfl ?_
  cases h
  exact r_iret (pc := 6) X hr dX12_endTrial_6
theorem c_X12_endTrial {G : GG} {l : Launch} {x1 : Int32} {r : Int32} {M M' : Mem}  (h : f_X12_endTrial x1 M = some (r, M')) : Met l yX12_endTrial (wsO yX12_endTrial cX12_endTrial 2 (some .int)) (rmO 0) (PcO G [.ref (G.2.1 (10, 0, 0)), .int x1] M) (QiO G (AA G) r M') 0 0 (AA G) :=
  met_of (own := RX12) rfl (by decide +kernel) (Nat.le_of_ble_eq_true rfl) (fun p e s m args below meth c X hr => t_X12_endTrial X hr  h)
-- ConverterScannerModel.nextResult
def f_X12_nextResult_65 (x2 : Int32) (M : Mem) : Option (Int32 × Mem) :=
  bnd (f_X12_its 13 M) (fun r1 M2 => if r1 = x2 then bnd (f_X12_endTrial (-1) M2) (fun r10 M11 => some (r10, M11)) else bnd (f_X12_its 0 M2) (fun r4 M5 => bnd (f_X12_endTrial (r4 - 1) M5) (fun r7 M8 => some (r7, M8))))
set_option maxHeartbeats 4000000 in
set_option maxRecDepth 100000 in
theorem t_X12_nextResult_65 {G : GG} {A : Nat → Prop} {p : Program} {l : Launch} {e : Env} {s : State} {m : MethodId} {args : Array Value} {below : List Frame} {meth : Method} {c : Code} {r : Int32} {M' : Mem} (X : Cx G A p s m args meth c RX12 cX12_nextResult 4) (hr : meth.sig.returnType = some .int) {x2 : Int32} {M : Mem}  (h : f_X12_nextResult_65 x2 M = some (r, M')) : T G A p l e (rmO 7) s m args below meth c 4 0 0 (MQ below (QiO G A r M') args s 0 0 A) 65 [(0, .ref (G.2.1 (10, 0, 0))), (2, .int x2)] [] M := by
  unfold f_X12_nextResult_65 at h
  refine r_aload_n (pc := 65) X dX12_nextResult_65 rfl ?_
  refine r_aload_n (pc := 66) X dX12_nextResult_66 rfl ?_
  refine r_bipush (pc := 67) X (v := 13) dX12_nextResult_67 (by decide) ?_
  refine bndE h (fun r1 M2 h3 h => ?_)
  refine r_callVi1 (pc := 69) X ⟨(ltb rfl), (ltb rfl)⟩ rfl vy_X12_its my_X12_its ml_X12_155 ⟨Nat.le_of_ble_eq_true rfl, Nat.le_of_ble_eq_true rfl, Nat.le_of_ble_eq_true rfl, Nat.le_of_ble_eq_true rfl⟩ (c_X12_its  h3) (Nat.le_of_ble_eq_true rfl) dX12_nextResult_69 ?_
  refine r_iload_n (pc := 72) X dX12_nextResult_72 rfl ?_
  refine r_icmp_ne (pc := 73) X (tgt := 80) dX12_nextResult_73 (by decide) h (fun h => ?_) (fun h => ?_)
  · refine r_aload_n (pc := 80) X dX12_nextResult_80 rfl ?_
    refine r_iconst (pc := 81) X (v := 0) dX12_nextResult_81 (by decide) ?_
    refine bndE h (fun r4 M5 h6 h => ?_)
    refine r_callVi1 (pc := 82) X ⟨(ltb rfl), (ltb rfl)⟩ rfl vy_X12_its my_X12_its ml_X12_155 ⟨Nat.le_of_ble_eq_true rfl, Nat.le_of_ble_eq_true rfl, Nat.le_of_ble_eq_true rfl, Nat.le_of_ble_eq_true rfl⟩ (c_X12_its  h6) (Nat.le_of_ble_eq_true rfl) dX12_nextResult_82 ?_
    refine r_iconst (pc := 85) X (v := 1) dX12_nextResult_85 (by decide) ?_
    refine r_isub (pc := 86) X dX12_nextResult_86 ?_
    refine bndE h (fun r7 M8 h9 h => ?_)
    refine r_callVi1 (pc := 87) X ⟨(ltb rfl), (ltb rfl)⟩ rfl vy_X12_endTrial my_X12_endTrial ml_X12_254 ⟨Nat.le_of_ble_eq_true rfl, Nat.le_of_ble_eq_true rfl, Nat.le_of_ble_eq_true rfl, Nat.le_of_ble_eq_true rfl⟩ (c_X12_endTrial  h9) (Nat.le_of_ble_eq_true rfl) dX12_nextResult_87 ?_
    cases h
    exact r_iret (pc := 90) X hr dX12_nextResult_90
  · refine r_iconst (pc := 76) X (v := (-1)) dX12_nextResult_76 (by decide) ?_
    refine r_goto (pc := 77) X (tgt := 87) dX12_nextResult_77 (by decide) ?_
    refine bndE h (fun r10 M11 h12 h => ?_)
    refine r_callVi1 (pc := 87) X ⟨(ltb rfl), (ltb rfl)⟩ rfl vy_X12_endTrial my_X12_endTrial ml_X12_254 ⟨Nat.le_of_ble_eq_true rfl, Nat.le_of_ble_eq_true rfl, Nat.le_of_ble_eq_true rfl, Nat.le_of_ble_eq_true rfl⟩ (c_X12_endTrial  h12) (Nat.le_of_ble_eq_true rfl) dX12_nextResult_87 ?_
    cases h
    exact r_iret (pc := 90) X hr dX12_nextResult_90
def f_X12_nextResult_40 : Nat → Int32 → Int32 → Int32 → Mem → Option (Int32 × Mem)
  | 0 => fun _ _ _ _ => none
  | n + 1 => fun x1 x2 x3 M => if x1 ≤ x3 then f_X12_nextResult_65 x2 M else bnd (f_X12_its 13 M) (fun r1 M2 => if r1 = x2 then bnd (f_X12_passCycle  M2) (fun r4 M5 => nm (x3 + 1) (fun e7 => (f_X12_nextResult_40 n) x1 x2 e7 M5)) else f_X12_nextResult_65 x2 M2)
set_option maxHeartbeats 4000000 in
set_option maxRecDepth 100000 in
theorem t_X12_nextResult_40 {G : GG} {A : Nat → Prop} {p : Program} {l : Launch} {e : Env} {s : State} {m : MethodId} {args : Array Value} {below : List Frame} {meth : Method} {c : Code} {r : Int32} {M' : Mem} (X : Cx G A p s m args meth c RX12 cX12_nextResult 4) (hr : meth.sig.returnType = some .int) : ∀ (n : Nat) (x1 : Int32) (x2 : Int32) (x3 : Int32) (M : Mem), f_X12_nextResult_40 n x1 x2 x3 M = some (r, M') → T G A p l e (rmO 7) s m args below meth c 4 0 0 (MQ below (QiO G A r M') args s 0 0 A) 40 [(0, .ref (G.2.1 (10, 0, 0))), (1, .int x1), (2, .int x2), (3, .int x3)] [] M := by
  intro n
  induction n with
  | zero =>
    intro x1 x2 x3 M  h
    cases h
  | succ n ih =>
    intro x1 x2 x3 M  h
    unfold f_X12_nextResult_40 at h
    refine r_iload_n (pc := 40) X dX12_nextResult_40 rfl ?_
    refine r_iload_n (pc := 41) X dX12_nextResult_41 rfl ?_
    refine r_icmp_ge (pc := 42) X (tgt := 65) dX12_nextResult_42 (by decide) h (fun h => ?_) (fun h => ?_)
    · exact T_sub (t_X12_nextResult_65 X hr h) ⟨rfl, rfl, trivial⟩
    · refine r_aload_n (pc := 45) X dX12_nextResult_45 rfl ?_
      refine r_bipush (pc := 46) X (v := 13) dX12_nextResult_46 (by decide) ?_
      refine bndE h (fun r1 M2 h3 h => ?_)
      refine r_callVi1 (pc := 48) X ⟨(ltb rfl), (ltb rfl)⟩ rfl vy_X12_its my_X12_its ml_X12_155 ⟨Nat.le_of_ble_eq_true rfl, Nat.le_of_ble_eq_true rfl, Nat.le_of_ble_eq_true rfl, Nat.le_of_ble_eq_true rfl⟩ (c_X12_its  h3) (Nat.le_of_ble_eq_true rfl) dX12_nextResult_48 ?_
      refine r_iload_n (pc := 51) X dX12_nextResult_51 rfl ?_
      refine r_icmp_ne (pc := 52) X (tgt := 65) dX12_nextResult_52 (by decide) h (fun h => ?_) (fun h => ?_)
      · exact T_sub (t_X12_nextResult_65 X hr h) ⟨rfl, rfl, trivial⟩
      · refine r_aload_n (pc := 55) X dX12_nextResult_55 rfl ?_
        refine bndE h (fun r4 M5 h6 h => ?_)
        refine r_callVv0 (pc := 56) X ⟨(ltb rfl), (ltb rfl)⟩ rfl vy_X12_passCycle my_X12_passCycle ml_X12_235 ⟨Nat.le_of_ble_eq_true rfl, Nat.le_of_ble_eq_true rfl, Nat.le_of_ble_eq_true rfl, Nat.le_of_ble_eq_true rfl⟩ (c_X12_passCycle  h6) (Nat.le_of_ble_eq_true rfl) dX12_nextResult_56 ?_
        refine r_iincN (pc := 59) X (v0 := 1) rfl (by decide) (by decide) dX12_nextResult_59 h (fun e7 h => ?_)
        refine r_goto (pc := 62) X (tgt := 40) dX12_nextResult_62 (by decide) ?_
        exact T_sub (ih _ _ _ _ h) ⟨rfl, rfl, rfl, rfl, trivial⟩
def f_X12_nextResult_17 (x1 : Int32) (xs0 : Int32) (M : Mem) : Option (Int32 × Mem) :=
  bnd (f_X12_fails xs0 0 0 M) (fun r1 M2 => if r1 = 0 then bnd (f_X12_beginTrial  M2) (fun r4 M5 => bnd (f_X12_its 13 M5) (fun r7 M8 => f_X12_nextResult_40 fuelN x1 r7 0 M8)) else some (0, M2))
set_option maxHeartbeats 4000000 in
set_option maxRecDepth 100000 in
theorem t_X12_nextResult_17 {G : GG} {A : Nat → Prop} {p : Program} {l : Launch} {e : Env} {s : State} {m : MethodId} {args : Array Value} {below : List Frame} {meth : Method} {c : Code} {r : Int32} {M' : Mem} (X : Cx G A p s m args meth c RX12 cX12_nextResult 4) (hr : meth.sig.returnType = some .int) {x1 : Int32} {xs0 : Int32} {M : Mem}  (h : f_X12_nextResult_17 x1 xs0 M = some (r, M')) : T G A p l e (rmO 7) s m args below meth c 4 0 0 (MQ below (QiO G A r M') args s 0 0 A) 17 [(0, .ref (G.2.1 (10, 0, 0))), (1, .int x1)] [.int xs0, .ref (G.2.1 (10, 0, 0))] M := by
  unfold f_X12_nextResult_17 at h
  refine r_iconst (pc := 17) X (v := 0) dX12_nextResult_17 (by decide) ?_
  refine r_iconst (pc := 18) X (v := 0) dX12_nextResult_18 (by decide) ?_
  refine bndE h (fun r1 M2 h3 h => ?_)
  refine r_callVi3 (pc := 19) X ⟨(ltb rfl), (ltb rfl)⟩ rfl vy_X12_fails my_X12_fails ml_X12_14 ⟨Nat.le_of_ble_eq_true rfl, Nat.le_of_ble_eq_true rfl, Nat.le_of_ble_eq_true rfl, Nat.le_of_ble_eq_true rfl⟩ (c_X12_fails  h3) (Nat.le_of_ble_eq_true rfl) dX12_nextResult_19 ?_
  refine r_if_eq (pc := 22) X (tgt := 27) dX12_nextResult_22 (by decide) h (fun h => ?_) (fun h => ?_)
  · refine r_aload_n (pc := 27) X dX12_nextResult_27 rfl ?_
    refine bndE h (fun r4 M5 h6 h => ?_)
    refine r_callVv0 (pc := 28) X ⟨(ltb rfl), (ltb rfl)⟩ rfl vy_X12_beginTrial my_X12_beginTrial ml_X12_251 ⟨Nat.le_of_ble_eq_true rfl, Nat.le_of_ble_eq_true rfl, Nat.le_of_ble_eq_true rfl, Nat.le_of_ble_eq_true rfl⟩ (c_X12_beginTrial  h6) (Nat.le_of_ble_eq_true rfl) dX12_nextResult_28 ?_
    refine r_aload_n (pc := 31) X dX12_nextResult_31 rfl ?_
    refine r_bipush (pc := 32) X (v := 13) dX12_nextResult_32 (by decide) ?_
    refine bndE h (fun r7 M8 h9 h => ?_)
    refine r_callVi1 (pc := 34) X ⟨(ltb rfl), (ltb rfl)⟩ rfl vy_X12_its my_X12_its ml_X12_155 ⟨Nat.le_of_ble_eq_true rfl, Nat.le_of_ble_eq_true rfl, Nat.le_of_ble_eq_true rfl, Nat.le_of_ble_eq_true rfl⟩ (c_X12_its  h9) (Nat.le_of_ble_eq_true rfl) dX12_nextResult_34 ?_
    refine r_istore_n (pc := 37) X (by decide) dX12_nextResult_37 ?_
    refine r_iconst (pc := 38) X (v := 0) dX12_nextResult_38 (by decide) ?_
    refine r_istore_n (pc := 39) X (by decide) dX12_nextResult_39 ?_
    exact T_sub (t_X12_nextResult_40 X hr _ _ _ _ _ h) ⟨rfl, rfl, rfl, rfl, trivial⟩
  · refine r_iconst (pc := 25) X (v := 0) dX12_nextResult_25 (by decide) ?_
    cases h
    exact r_iret (pc := 26) X hr dX12_nextResult_26
def f_X12_nextResult (x1 : Int32) (M : Mem) : Option (Int32 × Mem) :=
  bnd (f_X12_inRange x1 1 5000 M) (fun r1 M2 => if r1 = 0 then f_X12_nextResult_17 x1 1 M2 else f_X12_nextResult_17 x1 0 M2)
set_option maxHeartbeats 4000000 in
set_option maxRecDepth 100000 in
theorem t_X12_nextResult {G : GG} {A : Nat → Prop} {p : Program} {l : Launch} {e : Env} {s : State} {m : MethodId} {args : Array Value} {below : List Frame} {meth : Method} {c : Code} {r : Int32} {M' : Mem} (X : Cx G A p s m args meth c RX12 cX12_nextResult 4) (hr : meth.sig.returnType = some .int) {x1 : Int32} {M : Mem}  (h : f_X12_nextResult x1 M = some (r, M')) : T G A p l e (rmO 7) s m args below meth c 4 0 0 (MQ below (QiO G A r M') args s 0 0 A) 0 [(0, .ref (G.2.1 (10, 0, 0))), (1, .int x1)] [] M := by
  unfold f_X12_nextResult at h
  refine r_aload_n (pc := 0) X dX12_nextResult_0 rfl ?_
  refine r_iload_n (pc := 1) X dX12_nextResult_1 rfl ?_
  refine r_iconst (pc := 2) X (v := 1) dX12_nextResult_2 (by decide) ?_
  refine r_sipush (pc := 3) X (v := 5000) dX12_nextResult_3 (by decide) ?_
  refine bndE h (fun r1 M2 h3 h => ?_)
  refine r_callSi3 (pc := 6) X sy_X12_inRange my_X12_inRange ml_X12_22 ⟨Nat.le_of_ble_eq_true rfl, Nat.le_of_ble_eq_true rfl, Nat.le_of_ble_eq_true rfl, Nat.le_of_ble_eq_true rfl⟩ (c_X12_inRange  h3) (Nat.le_of_ble_eq_true rfl) dX12_nextResult_6 ?_
  refine r_if_ne (pc := 9) X (tgt := 16) dX12_nextResult_9 (by decide) h (fun h => ?_) (fun h => ?_)
  · refine r_iconst (pc := 16) X (v := 0) dX12_nextResult_16 (by decide) ?_
    exact T_sub (t_X12_nextResult_17 X hr h) ⟨rfl, rfl, trivial⟩
  · refine r_iconst (pc := 12) X (v := 1) dX12_nextResult_12 (by decide) ?_
    refine r_goto (pc := 13) X (tgt := 17) dX12_nextResult_13 (by decide) ?_
    exact T_sub (t_X12_nextResult_17 X hr h) ⟨rfl, rfl, trivial⟩
theorem c_X12_nextResult {G : GG} {l : Launch} {x1 : Int32} {r : Int32} {M M' : Mem}  (h : f_X12_nextResult x1 M = some (r, M')) : Met l yX12_nextResult (wsO yX12_nextResult cX12_nextResult 4 (some .int)) (rmO 7) (PcO G [.ref (G.2.1 (10, 0, 0)), .int x1] M) (QiO G (AA G) r M') 0 0 (AA G) :=
  met_of (own := RX12) rfl (by decide +kernel) (Nat.le_of_ble_eq_true rfl) (fun p e s m args below meth c X hr => t_X12_nextResult X hr  h)
-- ConverterScannerModel.whenRaised
def f_X12_whenRaised_87 (x1 : Int32) (M : Mem) : Option (Int32 × Mem) :=
  bnd (f_X12_win x1 3 M) (fun r1 M2 => bnd (f_X12_its r1 M2) (fun r4 M5 => if r4 = 0 then bnd (f_X12_endTrial (-1) M5) (fun r16 M17 => some (r16, M17)) else bnd (f_X12_win x1 4 M5) (fun r7 M8 => bnd (f_X12_its r7 M8) (fun r10 M11 => bnd (f_X12_endTrial r10 M11) (fun r13 M14 => some (r13, M14))))))
set_option maxHeartbeats 4000000 in
set_option maxRecDepth 100000 in
theorem t_X12_whenRaised_87 {G : GG} {A : Nat → Prop} {p : Program} {l : Launch} {e : Env} {s : State} {m : MethodId} {args : Array Value} {below : List Frame} {meth : Method} {c : Code} {r : Int32} {M' : Mem} (X : Cx G A p s m args meth c RX12 cX12_whenRaised 4) (hr : meth.sig.returnType = some .int) {x1 : Int32} {M : Mem}  (h : f_X12_whenRaised_87 x1 M = some (r, M')) : T G A p l e (rmO 7) s m args below meth c 4 0 0 (MQ below (QiO G A r M') args s 0 0 A) 87 [(0, .ref (G.2.1 (10, 0, 0))), (1, .int x1)] [] M := by
  unfold f_X12_whenRaised_87 at h
  refine r_aload_n (pc := 87) X dX12_whenRaised_87 rfl ?_
  refine r_aload_n (pc := 88) X dX12_whenRaised_88 rfl ?_
  refine r_iload_n (pc := 89) X dX12_whenRaised_89 rfl ?_
  refine r_iconst (pc := 90) X (v := 3) dX12_whenRaised_90 (by decide) ?_
  refine bndE h (fun r1 M2 h3 h => ?_)
  refine r_callSi2 (pc := 91) X sy_X12_win my_X12_win ml_X12_187 ⟨Nat.le_of_ble_eq_true rfl, Nat.le_of_ble_eq_true rfl, Nat.le_of_ble_eq_true rfl, Nat.le_of_ble_eq_true rfl⟩ (c_X12_win  h3) (Nat.le_of_ble_eq_true rfl) dX12_whenRaised_91 ?_
  refine bndE h (fun r4 M5 h6 h => ?_)
  refine r_callVi1 (pc := 94) X ⟨(ltb rfl), (ltb rfl)⟩ rfl vy_X12_its my_X12_its ml_X12_155 ⟨Nat.le_of_ble_eq_true rfl, Nat.le_of_ble_eq_true rfl, Nat.le_of_ble_eq_true rfl, Nat.le_of_ble_eq_true rfl⟩ (c_X12_its  h6) (Nat.le_of_ble_eq_true rfl) dX12_whenRaised_94 ?_
  refine r_if_ne (pc := 97) X (tgt := 104) dX12_whenRaised_97 (by decide) h (fun h => ?_) (fun h => ?_)
  · refine r_aload_n (pc := 104) X dX12_whenRaised_104 rfl ?_
    refine r_iload_n (pc := 105) X dX12_whenRaised_105 rfl ?_
    refine r_iconst (pc := 106) X (v := 4) dX12_whenRaised_106 (by decide) ?_
    refine bndE h (fun r7 M8 h9 h => ?_)
    refine r_callSi2 (pc := 107) X sy_X12_win my_X12_win ml_X12_187 ⟨Nat.le_of_ble_eq_true rfl, Nat.le_of_ble_eq_true rfl, Nat.le_of_ble_eq_true rfl, Nat.le_of_ble_eq_true rfl⟩ (c_X12_win  h9) (Nat.le_of_ble_eq_true rfl) dX12_whenRaised_107 ?_
    refine bndE h (fun r10 M11 h12 h => ?_)
    refine r_callVi1 (pc := 110) X ⟨(ltb rfl), (ltb rfl)⟩ rfl vy_X12_its my_X12_its ml_X12_155 ⟨Nat.le_of_ble_eq_true rfl, Nat.le_of_ble_eq_true rfl, Nat.le_of_ble_eq_true rfl, Nat.le_of_ble_eq_true rfl⟩ (c_X12_its  h12) (Nat.le_of_ble_eq_true rfl) dX12_whenRaised_110 ?_
    refine bndE h (fun r13 M14 h15 h => ?_)
    refine r_callVi1 (pc := 113) X ⟨(ltb rfl), (ltb rfl)⟩ rfl vy_X12_endTrial my_X12_endTrial ml_X12_254 ⟨Nat.le_of_ble_eq_true rfl, Nat.le_of_ble_eq_true rfl, Nat.le_of_ble_eq_true rfl, Nat.le_of_ble_eq_true rfl⟩ (c_X12_endTrial  h15) (Nat.le_of_ble_eq_true rfl) dX12_whenRaised_113 ?_
    cases h
    exact r_iret (pc := 116) X hr dX12_whenRaised_116
  · refine r_iconst (pc := 100) X (v := (-1)) dX12_whenRaised_100 (by decide) ?_
    refine r_goto (pc := 101) X (tgt := 113) dX12_whenRaised_101 (by decide) ?_
    refine bndE h (fun r16 M17 h18 h => ?_)
    refine r_callVi1 (pc := 113) X ⟨(ltb rfl), (ltb rfl)⟩ rfl vy_X12_endTrial my_X12_endTrial ml_X12_254 ⟨Nat.le_of_ble_eq_true rfl, Nat.le_of_ble_eq_true rfl, Nat.le_of_ble_eq_true rfl, Nat.le_of_ble_eq_true rfl⟩ (c_X12_endTrial  h18) (Nat.le_of_ble_eq_true rfl) dX12_whenRaised_113 ?_
    cases h
    exact r_iret (pc := 116) X hr dX12_whenRaised_116
def f_X12_whenRaised_60 : Nat → Int32 → Int32 → Int32 → Mem → Option (Int32 × Mem)
  | 0 => fun _ _ _ _ => none
  | n + 1 => fun x1 x2 x3 M => if x2 ≤ x3 then f_X12_whenRaised_87 x1 M else bnd (f_X12_win x1 3 M) (fun r1 M2 => bnd (f_X12_its r1 M2) (fun r4 M5 => if r4 = 0 then bnd (f_X12_passCycle  M5) (fun r7 M8 => nm (x3 + 1) (fun e10 => (f_X12_whenRaised_60 n) x1 x2 e10 M8)) else f_X12_whenRaised_87 x1 M5))
set_option maxHeartbeats 4000000 in
set_option maxRecDepth 100000 in
theorem t_X12_whenRaised_60 {G : GG} {A : Nat → Prop} {p : Program} {l : Launch} {e : Env} {s : State} {m : MethodId} {args : Array Value} {below : List Frame} {meth : Method} {c : Code} {r : Int32} {M' : Mem} (X : Cx G A p s m args meth c RX12 cX12_whenRaised 4) (hr : meth.sig.returnType = some .int) : ∀ (n : Nat) (x1 : Int32) (x2 : Int32) (x3 : Int32) (M : Mem), f_X12_whenRaised_60 n x1 x2 x3 M = some (r, M') → T G A p l e (rmO 7) s m args below meth c 4 0 0 (MQ below (QiO G A r M') args s 0 0 A) 60 [(0, .ref (G.2.1 (10, 0, 0))), (1, .int x1), (2, .int x2), (3, .int x3)] [] M := by
  intro n
  induction n with
  | zero =>
    intro x1 x2 x3 M  h
    cases h
  | succ n ih =>
    intro x1 x2 x3 M  h
    unfold f_X12_whenRaised_60 at h
    refine r_iload_n (pc := 60) X dX12_whenRaised_60 rfl ?_
    refine r_iload_n (pc := 61) X dX12_whenRaised_61 rfl ?_
    refine r_icmp_ge (pc := 62) X (tgt := 87) dX12_whenRaised_62 (by decide) h (fun h => ?_) (fun h => ?_)
    · exact T_sub (t_X12_whenRaised_87 X hr h) ⟨rfl, rfl, trivial⟩
    · refine r_aload_n (pc := 65) X dX12_whenRaised_65 rfl ?_
      refine r_iload_n (pc := 66) X dX12_whenRaised_66 rfl ?_
      refine r_iconst (pc := 67) X (v := 3) dX12_whenRaised_67 (by decide) ?_
      refine bndE h (fun r1 M2 h3 h => ?_)
      refine r_callSi2 (pc := 68) X sy_X12_win my_X12_win ml_X12_187 ⟨Nat.le_of_ble_eq_true rfl, Nat.le_of_ble_eq_true rfl, Nat.le_of_ble_eq_true rfl, Nat.le_of_ble_eq_true rfl⟩ (c_X12_win  h3) (Nat.le_of_ble_eq_true rfl) dX12_whenRaised_68 ?_
      refine bndE h (fun r4 M5 h6 h => ?_)
      refine r_callVi1 (pc := 71) X ⟨(ltb rfl), (ltb rfl)⟩ rfl vy_X12_its my_X12_its ml_X12_155 ⟨Nat.le_of_ble_eq_true rfl, Nat.le_of_ble_eq_true rfl, Nat.le_of_ble_eq_true rfl, Nat.le_of_ble_eq_true rfl⟩ (c_X12_its  h6) (Nat.le_of_ble_eq_true rfl) dX12_whenRaised_71 ?_
      refine r_if_ne (pc := 74) X (tgt := 87) dX12_whenRaised_74 (by decide) h (fun h => ?_) (fun h => ?_)
      · exact T_sub (t_X12_whenRaised_87 X hr h) ⟨rfl, rfl, trivial⟩
      · refine r_aload_n (pc := 77) X dX12_whenRaised_77 rfl ?_
        refine bndE h (fun r7 M8 h9 h => ?_)
        refine r_callVv0 (pc := 78) X ⟨(ltb rfl), (ltb rfl)⟩ rfl vy_X12_passCycle my_X12_passCycle ml_X12_235 ⟨Nat.le_of_ble_eq_true rfl, Nat.le_of_ble_eq_true rfl, Nat.le_of_ble_eq_true rfl, Nat.le_of_ble_eq_true rfl⟩ (c_X12_passCycle  h9) (Nat.le_of_ble_eq_true rfl) dX12_whenRaised_78 ?_
        refine r_iincN (pc := 81) X (v0 := 1) rfl (by decide) (by decide) dX12_whenRaised_81 h (fun e10 h => ?_)
        refine r_goto (pc := 84) X (tgt := 60) dX12_whenRaised_84 (by decide) ?_
        exact T_sub (ih _ _ _ _ h) ⟨rfl, rfl, rfl, rfl, trivial⟩
def f_X12_whenRaised_30 (x1 : Int32) (x2 : Int32) (xs0 : Int32) (xs1 : Int32) (M : Mem) : Option (Int32 × Mem) :=
  bnd (f_X12_fails xs1 xs0 0 M) (fun r1 M2 => if r1 = 0 then bnd (f_X12_win x1 3 M2) (fun r4 M5 => bnd (f_X12_its r4 M5) (fun r7 M8 => if r7 = 1 then some ((-1), M8) else bnd (f_X12_beginTrial  M8) (fun r10 M11 => f_X12_whenRaised_60 fuelN x1 x2 0 M11))) else some (0, M2))
set_option maxHeartbeats 4000000 in
set_option maxRecDepth 100000 in
theorem t_X12_whenRaised_30 {G : GG} {A : Nat → Prop} {p : Program} {l : Launch} {e : Env} {s : State} {m : MethodId} {args : Array Value} {below : List Frame} {meth : Method} {c : Code} {r : Int32} {M' : Mem} (X : Cx G A p s m args meth c RX12 cX12_whenRaised 4) (hr : meth.sig.returnType = some .int) {x1 : Int32} {x2 : Int32} {xs0 : Int32} {xs1 : Int32} {M : Mem}  (h : f_X12_whenRaised_30 x1 x2 xs0 xs1 M = some (r, M')) : T G A p l e (rmO 7) s m args below meth c 4 0 0 (MQ below (QiO G A r M') args s 0 0 A) 30 [(0, .ref (G.2.1 (10, 0, 0))), (1, .int x1), (2, .int x2)] [.int xs0, .int xs1, .ref (G.2.1 (10, 0, 0))] M := by
  unfold f_X12_whenRaised_30 at h
  refine r_iconst (pc := 30) X (v := 0) dX12_whenRaised_30 (by decide) ?_
  refine bndE h (fun r1 M2 h3 h => ?_)
  refine r_callVi3 (pc := 31) X ⟨(ltb rfl), (ltb rfl)⟩ rfl vy_X12_fails my_X12_fails ml_X12_14 ⟨Nat.le_of_ble_eq_true rfl, Nat.le_of_ble_eq_true rfl, Nat.le_of_ble_eq_true rfl, Nat.le_of_ble_eq_true rfl⟩ (c_X12_fails  h3) (Nat.le_of_ble_eq_true rfl) dX12_whenRaised_31 ?_
  refine r_if_eq (pc := 34) X (tgt := 39) dX12_whenRaised_34 (by decide) h (fun h => ?_) (fun h => ?_)
  · refine r_aload_n (pc := 39) X dX12_whenRaised_39 rfl ?_
    refine r_iload_n (pc := 40) X dX12_whenRaised_40 rfl ?_
    refine r_iconst (pc := 41) X (v := 3) dX12_whenRaised_41 (by decide) ?_
    refine bndE h (fun r4 M5 h6 h => ?_)
    refine r_callSi2 (pc := 42) X sy_X12_win my_X12_win ml_X12_187 ⟨Nat.le_of_ble_eq_true rfl, Nat.le_of_ble_eq_true rfl, Nat.le_of_ble_eq_true rfl, Nat.le_of_ble_eq_true rfl⟩ (c_X12_win  h6) (Nat.le_of_ble_eq_true rfl) dX12_whenRaised_42 ?_
    refine bndE h (fun r7 M8 h9 h => ?_)
    refine r_callVi1 (pc := 45) X ⟨(ltb rfl), (ltb rfl)⟩ rfl vy_X12_its my_X12_its ml_X12_155 ⟨Nat.le_of_ble_eq_true rfl, Nat.le_of_ble_eq_true rfl, Nat.le_of_ble_eq_true rfl, Nat.le_of_ble_eq_true rfl⟩ (c_X12_its  h9) (Nat.le_of_ble_eq_true rfl) dX12_whenRaised_45 ?_
    refine r_iconst (pc := 48) X (v := 1) dX12_whenRaised_48 (by decide) ?_
    refine r_icmp_ne (pc := 49) X (tgt := 54) dX12_whenRaised_49 (by decide) h (fun h => ?_) (fun h => ?_)
    · refine r_aload_n (pc := 54) X dX12_whenRaised_54 rfl ?_
      refine bndE h (fun r10 M11 h12 h => ?_)
      refine r_callVv0 (pc := 55) X ⟨(ltb rfl), (ltb rfl)⟩ rfl vy_X12_beginTrial my_X12_beginTrial ml_X12_251 ⟨Nat.le_of_ble_eq_true rfl, Nat.le_of_ble_eq_true rfl, Nat.le_of_ble_eq_true rfl, Nat.le_of_ble_eq_true rfl⟩ (c_X12_beginTrial  h12) (Nat.le_of_ble_eq_true rfl) dX12_whenRaised_55 ?_
      refine r_iconst (pc := 58) X (v := 0) dX12_whenRaised_58 (by decide) ?_
      refine r_istore_n (pc := 59) X (by decide) dX12_whenRaised_59 ?_
      exact T_sub (t_X12_whenRaised_60 X hr _ _ _ _ _ h) ⟨rfl, rfl, rfl, rfl, trivial⟩
    · refine r_iconst (pc := 52) X (v := (-1)) dX12_whenRaised_52 (by decide) ?_
      cases h
      exact r_iret (pc := 53) X hr dX12_whenRaised_53
  · refine r_iconst (pc := 37) X (v := 0) dX12_whenRaised_37 (by decide) ?_
    cases h
    exact r_iret (pc := 38) X hr dX12_whenRaised_38
def f_X12_whenRaised_14 (x1 : Int32) (x2 : Int32) (xs0 : Int32) (M : Mem) : Option (Int32 × Mem) :=
  bnd (f_X12_inRange x2 1 5000 M) (fun r1 M2 => if r1 = 0 then f_X12_whenRaised_30 x1 x2 1 xs0 M2 else f_X12_whenRaised_30 x1 x2 0 xs0 M2)
set_option maxHeartbeats 4000000 in
set_option maxRecDepth 100000 in
theorem t_X12_whenRaised_14 {G : GG} {A : Nat → Prop} {p : Program} {l : Launch} {e : Env} {s : State} {m : MethodId} {args : Array Value} {below : List Frame} {meth : Method} {c : Code} {r : Int32} {M' : Mem} (X : Cx G A p s m args meth c RX12 cX12_whenRaised 4) (hr : meth.sig.returnType = some .int) {x1 : Int32} {x2 : Int32} {xs0 : Int32} {M : Mem}  (h : f_X12_whenRaised_14 x1 x2 xs0 M = some (r, M')) : T G A p l e (rmO 7) s m args below meth c 4 0 0 (MQ below (QiO G A r M') args s 0 0 A) 14 [(0, .ref (G.2.1 (10, 0, 0))), (1, .int x1), (2, .int x2)] [.int xs0, .ref (G.2.1 (10, 0, 0))] M := by
  unfold f_X12_whenRaised_14 at h
  refine r_iload_n (pc := 14) X dX12_whenRaised_14 rfl ?_
  refine r_iconst (pc := 15) X (v := 1) dX12_whenRaised_15 (by decide) ?_
  refine r_sipush (pc := 16) X (v := 5000) dX12_whenRaised_16 (by decide) ?_
  refine bndE h (fun r1 M2 h3 h => ?_)
  refine r_callSi3 (pc := 19) X sy_X12_inRange my_X12_inRange ml_X12_22 ⟨Nat.le_of_ble_eq_true rfl, Nat.le_of_ble_eq_true rfl, Nat.le_of_ble_eq_true rfl, Nat.le_of_ble_eq_true rfl⟩ (c_X12_inRange  h3) (Nat.le_of_ble_eq_true rfl) dX12_whenRaised_19 ?_
  refine r_if_ne (pc := 22) X (tgt := 29) dX12_whenRaised_22 (by decide) h (fun h => ?_) (fun h => ?_)
  · refine r_iconst (pc := 29) X (v := 0) dX12_whenRaised_29 (by decide) ?_
    exact T_sub (t_X12_whenRaised_30 X hr h) ⟨rfl, rfl, rfl, trivial⟩
  · refine r_iconst (pc := 25) X (v := 1) dX12_whenRaised_25 (by decide) ?_
    refine r_goto (pc := 26) X (tgt := 30) dX12_whenRaised_26 (by decide) ?_
    exact T_sub (t_X12_whenRaised_30 X hr h) ⟨rfl, rfl, rfl, trivial⟩
def f_X12_whenRaised (x1 : Int32) (x2 : Int32) (M : Mem) : Option (Int32 × Mem) :=
  bnd (f_X12_isWindow x1 M) (fun r1 M2 => if r1 = 0 then f_X12_whenRaised_14 x1 x2 1 M2 else f_X12_whenRaised_14 x1 x2 0 M2)
set_option maxHeartbeats 4000000 in
set_option maxRecDepth 100000 in
theorem t_X12_whenRaised {G : GG} {A : Nat → Prop} {p : Program} {l : Launch} {e : Env} {s : State} {m : MethodId} {args : Array Value} {below : List Frame} {meth : Method} {c : Code} {r : Int32} {M' : Mem} (X : Cx G A p s m args meth c RX12 cX12_whenRaised 4) (hr : meth.sig.returnType = some .int) {x1 : Int32} {x2 : Int32} {M : Mem}  (h : f_X12_whenRaised x1 x2 M = some (r, M')) : T G A p l e (rmO 7) s m args below meth c 4 0 0 (MQ below (QiO G A r M') args s 0 0 A) 0 [(0, .ref (G.2.1 (10, 0, 0))), (1, .int x1), (2, .int x2)] [] M := by
  unfold f_X12_whenRaised at h
  refine r_aload_n (pc := 0) X dX12_whenRaised_0 rfl ?_
  refine r_aload_n (pc := 1) X dX12_whenRaised_1 rfl ?_
  refine r_iload_n (pc := 2) X dX12_whenRaised_2 rfl ?_
  refine bndE h (fun r1 M2 h3 h => ?_)
  refine r_callVi1 (pc := 3) X ⟨(ltb rfl), (ltb rfl)⟩ rfl vy_X12_isWindow my_X12_isWindow ml_X12_241 ⟨Nat.le_of_ble_eq_true rfl, Nat.le_of_ble_eq_true rfl, Nat.le_of_ble_eq_true rfl, Nat.le_of_ble_eq_true rfl⟩ (c_X12_isWindow  h3) (Nat.le_of_ble_eq_true rfl) dX12_whenRaised_3 ?_
  refine r_if_ne (pc := 6) X (tgt := 13) dX12_whenRaised_6 (by decide) h (fun h => ?_) (fun h => ?_)
  · refine r_iconst (pc := 13) X (v := 0) dX12_whenRaised_13 (by decide) ?_
    exact T_sub (t_X12_whenRaised_14 X hr h) ⟨rfl, rfl, rfl, trivial⟩
  · refine r_iconst (pc := 9) X (v := 1) dX12_whenRaised_9 (by decide) ?_
    refine r_goto (pc := 10) X (tgt := 14) dX12_whenRaised_10 (by decide) ?_
    exact T_sub (t_X12_whenRaised_14 X hr h) ⟨rfl, rfl, rfl, trivial⟩
theorem c_X12_whenRaised {G : GG} {l : Launch} {x1 : Int32} {x2 : Int32} {r : Int32} {M M' : Mem}  (h : f_X12_whenRaised x1 x2 M = some (r, M')) : Met l yX12_whenRaised (wsO yX12_whenRaised cX12_whenRaised 4 (some .int)) (rmO 7) (PcO G [.ref (G.2.1 (10, 0, 0)), .int x1, .int x2] M) (QiO G (AA G) r M') 0 0 (AA G) :=
  met_of (own := RX12) rfl (by decide +kernel) (Nat.le_of_ble_eq_true rfl) (fun p e s m args below meth c X hr => t_X12_whenRaised X hr  h)
-- ConverterScannerModel.overrunsAt
def f_X12_overrunsAt_21 : Nat → Int32 → Int32 → Int32 → Mem → Option (Int32 × Mem)
  | 0 => fun _ _ _ _ => none
  | n + 1 => fun x2 x3 x4 M => if x2 ≤ x4 then bnd (f_X12_its 8 M) (fun r1 M2 => bnd (f_X12_endTrial (r1 - x3) M2) (fun r4 M5 => some (r4, M5))) else bnd (f_X12_passCycle  M) (fun r7 M8 => nm (x4 + 1) (fun e10 => (f_X12_overrunsAt_21 n) x2 x3 e10 M8))
set_option maxHeartbeats 4000000 in
set_option maxRecDepth 100000 in
theorem t_X12_overrunsAt_21 {G : GG} {A : Nat → Prop} {p : Program} {l : Launch} {e : Env} {s : State} {m : MethodId} {args : Array Value} {below : List Frame} {meth : Method} {c : Code} {r : Int32} {M' : Mem} (X : Cx G A p s m args meth c RX12 cX12_overrunsAt 5) (hr : meth.sig.returnType = some .int) : ∀ (n : Nat) (x2 : Int32) (x3 : Int32) (x4 : Int32) (M : Mem), f_X12_overrunsAt_21 n x2 x3 x4 M = some (r, M') → T G A p l e (rmO 7) s m args below meth c 5 0 0 (MQ below (QiO G A r M') args s 0 0 A) 21 [(0, .ref (G.2.1 (10, 0, 0))), (2, .int x2), (3, .int x3), (4, .int x4)] [] M := by
  intro n
  induction n with
  | zero =>
    intro x2 x3 x4 M  h
    cases h
  | succ n ih =>
    intro x2 x3 x4 M  h
    unfold f_X12_overrunsAt_21 at h
    refine r_iload (pc := 21) X dX12_overrunsAt_21 rfl ?_
    refine r_iload_n (pc := 23) X dX12_overrunsAt_23 rfl ?_
    refine r_icmp_ge (pc := 24) X (tgt := 37) dX12_overrunsAt_24 (by decide) h (fun h => ?_) (fun h => ?_)
    · refine r_aload_n (pc := 37) X dX12_overrunsAt_37 rfl ?_
      refine r_aload_n (pc := 38) X dX12_overrunsAt_38 rfl ?_
      refine r_bipush (pc := 39) X (v := 8) dX12_overrunsAt_39 (by decide) ?_
      refine bndE h (fun r1 M2 h3 h => ?_)
      refine r_callVi1 (pc := 41) X ⟨(ltb rfl), (ltb rfl)⟩ rfl vy_X12_its my_X12_its ml_X12_155 ⟨Nat.le_of_ble_eq_true rfl, Nat.le_of_ble_eq_true rfl, Nat.le_of_ble_eq_true rfl, Nat.le_of_ble_eq_true rfl⟩ (c_X12_its  h3) (Nat.le_of_ble_eq_true rfl) dX12_overrunsAt_41 ?_
      refine r_iload_n (pc := 44) X dX12_overrunsAt_44 rfl ?_
      refine r_isub (pc := 45) X dX12_overrunsAt_45 ?_
      refine bndE h (fun r4 M5 h6 h => ?_)
      refine r_callVi1 (pc := 46) X ⟨(ltb rfl), (ltb rfl)⟩ rfl vy_X12_endTrial my_X12_endTrial ml_X12_254 ⟨Nat.le_of_ble_eq_true rfl, Nat.le_of_ble_eq_true rfl, Nat.le_of_ble_eq_true rfl, Nat.le_of_ble_eq_true rfl⟩ (c_X12_endTrial  h6) (Nat.le_of_ble_eq_true rfl) dX12_overrunsAt_46 ?_
      cases h
      exact r_iret (pc := 49) X hr dX12_overrunsAt_49
    · refine r_aload_n (pc := 27) X dX12_overrunsAt_27 rfl ?_
      refine bndE h (fun r7 M8 h9 h => ?_)
      refine r_callVv0 (pc := 28) X ⟨(ltb rfl), (ltb rfl)⟩ rfl vy_X12_passCycle my_X12_passCycle ml_X12_235 ⟨Nat.le_of_ble_eq_true rfl, Nat.le_of_ble_eq_true rfl, Nat.le_of_ble_eq_true rfl, Nat.le_of_ble_eq_true rfl⟩ (c_X12_passCycle  h9) (Nat.le_of_ble_eq_true rfl) dX12_overrunsAt_28 ?_
      refine r_iincN (pc := 31) X (v0 := 1) rfl (by decide) (by decide) dX12_overrunsAt_31 h (fun e10 h => ?_)
      refine r_goto (pc := 34) X (tgt := 21) dX12_overrunsAt_34 (by decide) ?_
      exact T_sub (ih _ _ _ _ h) ⟨rfl, rfl, rfl, rfl, trivial⟩
def f_X12_overrunsAt (x1 : Int32) (x2 : Int32) (M : Mem) : Option (Int32 × Mem) :=
  bnd (f_X12_beginTrial  M) (fun r1 M2 => bnd (f_X12_its 8 M2) (fun r4 M5 => bnd (f_X12_puts 10 x1 M5) (fun r7 M8 => f_X12_overrunsAt_21 fuelN x2 r4 0 M8)))
set_option maxHeartbeats 4000000 in
set_option maxRecDepth 100000 in
theorem t_X12_overrunsAt {G : GG} {A : Nat → Prop} {p : Program} {l : Launch} {e : Env} {s : State} {m : MethodId} {args : Array Value} {below : List Frame} {meth : Method} {c : Code} {r : Int32} {M' : Mem} (X : Cx G A p s m args meth c RX12 cX12_overrunsAt 5) (hr : meth.sig.returnType = some .int) {x1 : Int32} {x2 : Int32} {M : Mem}  (h : f_X12_overrunsAt x1 x2 M = some (r, M')) : T G A p l e (rmO 7) s m args below meth c 5 0 0 (MQ below (QiO G A r M') args s 0 0 A) 0 [(0, .ref (G.2.1 (10, 0, 0))), (1, .int x1), (2, .int x2)] [] M := by
  unfold f_X12_overrunsAt at h
  refine r_aload_n (pc := 0) X dX12_overrunsAt_0 rfl ?_
  refine bndE h (fun r1 M2 h3 h => ?_)
  refine r_callVv0 (pc := 1) X ⟨(ltb rfl), (ltb rfl)⟩ rfl vy_X12_beginTrial my_X12_beginTrial ml_X12_251 ⟨Nat.le_of_ble_eq_true rfl, Nat.le_of_ble_eq_true rfl, Nat.le_of_ble_eq_true rfl, Nat.le_of_ble_eq_true rfl⟩ (c_X12_beginTrial  h3) (Nat.le_of_ble_eq_true rfl) dX12_overrunsAt_1 ?_
  refine r_aload_n (pc := 4) X dX12_overrunsAt_4 rfl ?_
  refine r_bipush (pc := 5) X (v := 8) dX12_overrunsAt_5 (by decide) ?_
  refine bndE h (fun r4 M5 h6 h => ?_)
  refine r_callVi1 (pc := 7) X ⟨(ltb rfl), (ltb rfl)⟩ rfl vy_X12_its my_X12_its ml_X12_155 ⟨Nat.le_of_ble_eq_true rfl, Nat.le_of_ble_eq_true rfl, Nat.le_of_ble_eq_true rfl, Nat.le_of_ble_eq_true rfl⟩ (c_X12_its  h6) (Nat.le_of_ble_eq_true rfl) dX12_overrunsAt_7 ?_
  refine r_istore_n (pc := 10) X (by decide) dX12_overrunsAt_10 ?_
  refine r_aload_n (pc := 11) X dX12_overrunsAt_11 rfl ?_
  refine r_bipush (pc := 12) X (v := 10) dX12_overrunsAt_12 (by decide) ?_
  refine r_iload_n (pc := 14) X dX12_overrunsAt_14 rfl ?_
  refine bndE h (fun r7 M8 h9 h => ?_)
  refine r_callVv2 (pc := 15) X ⟨(ltb rfl), (ltb rfl)⟩ rfl vy_X12_puts my_X12_puts ml_X12_39 ⟨Nat.le_of_ble_eq_true rfl, Nat.le_of_ble_eq_true rfl, Nat.le_of_ble_eq_true rfl, Nat.le_of_ble_eq_true rfl⟩ (c_X12_puts  h9) (Nat.le_of_ble_eq_true rfl) dX12_overrunsAt_15 ?_
  refine r_iconst (pc := 18) X (v := 0) dX12_overrunsAt_18 (by decide) ?_
  refine r_istore (pc := 19) X (by decide) dX12_overrunsAt_19 ?_
  exact T_sub (t_X12_overrunsAt_21 X hr _ _ _ _ _ h) ⟨rfl, rfl, rfl, rfl, trivial⟩
theorem c_X12_overrunsAt {G : GG} {l : Launch} {x1 : Int32} {x2 : Int32} {r : Int32} {M M' : Mem}  (h : f_X12_overrunsAt x1 x2 M = some (r, M')) : Met l yX12_overrunsAt (wsO yX12_overrunsAt cX12_overrunsAt 5 (some .int)) (rmO 7) (PcO G [.ref (G.2.1 (10, 0, 0)), .int x1, .int x2] M) (QiO G (AA G) r M') 0 0 (AA G) :=
  met_of (own := RX12) rfl (by decide +kernel) (Nat.le_of_ble_eq_true rfl) (fun p e s m args below meth c X hr => t_X12_overrunsAt X hr  h)
-- ConverterScannerModel.overrunsWith
def f_X12_overrunsWith_28 (x1 : Int32) (x2 : Int32) (xs0 : Int32) (M : Mem) : Option (Int32 × Mem) :=
  bnd (f_X12_fails xs0 0 0 M) (fun r1 M2 => if r1 = 0 then bnd (f_X12_overrunsAt x1 x2 M2) (fun r4 M5 => some (r4, M5)) else some (0, M2))
set_option maxHeartbeats 4000000 in
set_option maxRecDepth 100000 in
theorem t_X12_overrunsWith_28 {G : GG} {A : Nat → Prop} {p : Program} {l : Launch} {e : Env} {s : State} {m : MethodId} {args : Array Value} {below : List Frame} {meth : Method} {c : Code} {r : Int32} {M' : Mem} (X : Cx G A p s m args meth c RX12 cX12_overrunsWith 3) (hr : meth.sig.returnType = some .int) {x1 : Int32} {x2 : Int32} {xs0 : Int32} {M : Mem}  (h : f_X12_overrunsWith_28 x1 x2 xs0 M = some (r, M')) : T G A p l e (rmO 8) s m args below meth c 3 0 0 (MQ below (QiO G A r M') args s 0 0 A) 28 [(0, .ref (G.2.1 (10, 0, 0))), (1, .int x1), (2, .int x2)] [.int xs0, .ref (G.2.1 (10, 0, 0))] M := by
  unfold f_X12_overrunsWith_28 at h
  refine r_iconst (pc := 28) X (v := 0) dX12_overrunsWith_28 (by decide) ?_
  refine r_iconst (pc := 29) X (v := 0) dX12_overrunsWith_29 (by decide) ?_
  refine bndE h (fun r1 M2 h3 h => ?_)
  refine r_callVi3 (pc := 30) X ⟨(ltb rfl), (ltb rfl)⟩ rfl vy_X12_fails my_X12_fails ml_X12_14 ⟨Nat.le_of_ble_eq_true rfl, Nat.le_of_ble_eq_true rfl, Nat.le_of_ble_eq_true rfl, Nat.le_of_ble_eq_true rfl⟩ (c_X12_fails  h3) (Nat.le_of_ble_eq_true rfl) dX12_overrunsWith_30 ?_
  refine r_if_eq (pc := 33) X (tgt := 38) dX12_overrunsWith_33 (by decide) h (fun h => ?_) (fun h => ?_)
  · refine r_aload_n (pc := 38) X dX12_overrunsWith_38 rfl ?_
    refine r_iload_n (pc := 39) X dX12_overrunsWith_39 rfl ?_
    refine r_iload_n (pc := 40) X dX12_overrunsWith_40 rfl ?_
    refine bndE h (fun r4 M5 h6 h => ?_)
    refine r_callVi2 (pc := 41) X ⟨(ltb rfl), (ltb rfl)⟩ rfl vy_X12_overrunsAt my_X12_overrunsAt ml_X12_257 ⟨Nat.le_of_ble_eq_true rfl, Nat.le_of_ble_eq_true rfl, Nat.le_of_ble_eq_true rfl, Nat.le_of_ble_eq_true rfl⟩ (c_X12_overrunsAt  h6) (Nat.le_of_ble_eq_true rfl) dX12_overrunsWith_41 ?_
    cases h
    exact r_iret (pc := 44) X hr dX12_overrunsWith_44
  · refine r_iconst (pc := 36) X (v := 0) dX12_overrunsWith_36 (by decide) ?_
    cases h
    exact r_iret (pc := 37) X hr dX12_overrunsWith_37
def f_X12_overrunsWith_23 (x1 : Int32) (x2 : Int32) (M : Mem) : Option (Int32 × Mem) :=
  f_X12_overrunsWith_28 x1 x2 1 M
set_option maxHeartbeats 4000000 in
set_option maxRecDepth 100000 in
theorem t_X12_overrunsWith_23 {G : GG} {A : Nat → Prop} {p : Program} {l : Launch} {e : Env} {s : State} {m : MethodId} {args : Array Value} {below : List Frame} {meth : Method} {c : Code} {r : Int32} {M' : Mem} (X : Cx G A p s m args meth c RX12 cX12_overrunsWith 3) (hr : meth.sig.returnType = some .int) {x1 : Int32} {x2 : Int32} {M : Mem}  (h : f_X12_overrunsWith_23 x1 x2 M = some (r, M')) : T G A p l e (rmO 8) s m args below meth c 3 0 0 (MQ below (QiO G A r M') args s 0 0 A) 23 [(0, .ref (G.2.1 (10, 0, 0))), (1, .int x1), (2, .int x2)] [.ref (G.2.1 (10, 0, 0))] M := by
  unfold f_X12_overrunsWith_23 at h
  refine r_iconst (pc := 23) X (v := 1) dX12_overrunsWith_23 (by decide) ?_
  refine r_goto (pc := 24) X (tgt := 28) dX12_overrunsWith_24 (by decide) ?_
  exact T_sub (t_X12_overrunsWith_28 X hr h) ⟨rfl, rfl, rfl, trivial⟩
def f_X12_overrunsWith (x1 : Int32) (x2 : Int32) (M : Mem) : Option (Int32 × Mem) :=
  bnd (f_X12_inRange x1 0 999 M) (fun r1 M2 => if r1 = 0 then f_X12_overrunsWith_23 x1 x2 M2 else bnd (f_X12_inRange x2 1 5000 M2) (fun r4 M5 => if r4 = 0 then f_X12_overrunsWith_23 x1 x2 M5 else f_X12_overrunsWith_28 x1 x2 0 M5))
set_option maxHeartbeats 4000000 in
set_option maxRecDepth 100000 in
theorem t_X12_overrunsWith {G : GG} {A : Nat → Prop} {p : Program} {l : Launch} {e : Env} {s : State} {m : MethodId} {args : Array Value} {below : List Frame} {meth : Method} {c : Code} {r : Int32} {M' : Mem} (X : Cx G A p s m args meth c RX12 cX12_overrunsWith 3) (hr : meth.sig.returnType = some .int) {x1 : Int32} {x2 : Int32} {M : Mem}  (h : f_X12_overrunsWith x1 x2 M = some (r, M')) : T G A p l e (rmO 8) s m args below meth c 3 0 0 (MQ below (QiO G A r M') args s 0 0 A) 0 [(0, .ref (G.2.1 (10, 0, 0))), (1, .int x1), (2, .int x2)] [] M := by
  unfold f_X12_overrunsWith at h
  refine r_aload_n (pc := 0) X dX12_overrunsWith_0 rfl ?_
  refine r_iload_n (pc := 1) X dX12_overrunsWith_1 rfl ?_
  refine r_iconst (pc := 2) X (v := 0) dX12_overrunsWith_2 (by decide) ?_
  refine r_sipush (pc := 3) X (v := 999) dX12_overrunsWith_3 (by decide) ?_
  refine bndE h (fun r1 M2 h3 h => ?_)
  refine r_callSi3 (pc := 6) X sy_X12_inRange my_X12_inRange ml_X12_22 ⟨Nat.le_of_ble_eq_true rfl, Nat.le_of_ble_eq_true rfl, Nat.le_of_ble_eq_true rfl, Nat.le_of_ble_eq_true rfl⟩ (c_X12_inRange  h3) (Nat.le_of_ble_eq_true rfl) dX12_overrunsWith_6 ?_
  refine r_if_eq (pc := 9) X (tgt := 23) dX12_overrunsWith_9 (by decide) h (fun h => ?_) (fun h => ?_)
  · exact T_sub (t_X12_overrunsWith_23 X hr h) ⟨rfl, rfl, rfl, trivial⟩
  · refine r_iload_n (pc := 12) X dX12_overrunsWith_12 rfl ?_
    refine r_iconst (pc := 13) X (v := 1) dX12_overrunsWith_13 (by decide) ?_
    refine r_sipush (pc := 14) X (v := 5000) dX12_overrunsWith_14 (by decide) ?_
    refine bndE h (fun r4 M5 h6 h => ?_)
    refine r_callSi3 (pc := 17) X sy_X12_inRange my_X12_inRange ml_X12_22 ⟨Nat.le_of_ble_eq_true rfl, Nat.le_of_ble_eq_true rfl, Nat.le_of_ble_eq_true rfl, Nat.le_of_ble_eq_true rfl⟩ (c_X12_inRange  h6) (Nat.le_of_ble_eq_true rfl) dX12_overrunsWith_17 ?_
    refine r_if_ne (pc := 20) X (tgt := 27) dX12_overrunsWith_20 (by decide) h (fun h => ?_) (fun h => ?_)
    · refine r_iconst (pc := 27) X (v := 0) dX12_overrunsWith_27 (by decide) ?_
      exact T_sub (t_X12_overrunsWith_28 X hr h) ⟨rfl, rfl, rfl, trivial⟩
    · exact T_sub (t_X12_overrunsWith_23 X hr h) ⟨rfl, rfl, rfl, trivial⟩
theorem c_X12_overrunsWith {G : GG} {l : Launch} {x1 : Int32} {x2 : Int32} {r : Int32} {M M' : Mem}  (h : f_X12_overrunsWith x1 x2 M = some (r, M')) : Met l yX12_overrunsWith (wsO yX12_overrunsWith cX12_overrunsWith 3 (some .int)) (rmO 8) (PcO G [.ref (G.2.1 (10, 0, 0)), .int x1, .int x2] M) (QiO G (AA G) r M') 0 0 (AA G) :=
  met_of (own := RX12) rfl (by decide +kernel) (Nat.le_of_ble_eq_true rfl) (fun p e s m args below meth c X hr => t_X12_overrunsWith X hr  h)
-- ConverterScannerModel.slowestPace
def f_X12_slowestPace_30 : Nat → Int32 → Int32 → Mem → Option (Int32 × Mem)
  | 0 => fun _ _ _ => none
  | n + 1 => fun x1 x2 M => if x2 < 1 then some ((-1), M) else bnd (f_X12_overrunsAt x2 x1 M) (fun r1 M2 => if r1 = 0 then some (x2, M2) else nm (x2 + (-1)) (fun e4 => (f_X12_slowestPace_30 n) x1 e4 M2))
set_option maxHeartbeats 4000000 in
set_option maxRecDepth 100000 in
theorem t_X12_slowestPace_30 {G : GG} {A : Nat → Prop} {p : Program} {l : Launch} {e : Env} {s : State} {m : MethodId} {args : Array Value} {below : List Frame} {meth : Method} {c : Code} {r : Int32} {M' : Mem} (X : Cx G A p s m args meth c RX12 cX12_slowestPace 3) (hr : meth.sig.returnType = some .int) : ∀ (n : Nat) (x1 : Int32) (x2 : Int32) (M : Mem), f_X12_slowestPace_30 n x1 x2 M = some (r, M') → T G A p l e (rmO 8) s m args below meth c 3 0 0 (MQ below (QiO G A r M') args s 0 0 A) 30 [(0, .ref (G.2.1 (10, 0, 0))), (1, .int x1), (2, .int x2)] [] M := by
  intro n
  induction n with
  | zero =>
    intro x1 x2 M  h
    cases h
  | succ n ih =>
    intro x1 x2 M  h
    unfold f_X12_slowestPace_30 at h
    refine r_iload_n (pc := 30) X dX12_slowestPace_30 rfl ?_
    refine r_iconst (pc := 31) X (v := 1) dX12_slowestPace_31 (by decide) ?_
    refine r_icmp_lt (pc := 32) X (tgt := 52) dX12_slowestPace_32 (by decide) h (fun h => ?_) (fun h => ?_)
    · refine r_iconst (pc := 52) X (v := (-1)) dX12_slowestPace_52 (by decide) ?_
      cases h
      exact r_iret (pc := 53) X hr dX12_slowestPace_53
    · refine r_aload_n (pc := 35) X dX12_slowestPace_35 rfl ?_
      refine r_iload_n (pc := 36) X dX12_slowestPace_36 rfl ?_
      refine r_iload_n (pc := 37) X dX12_slowestPace_37 rfl ?_
      refine bndE h (fun r1 M2 h3 h => ?_)
      refine r_callVi2 (pc := 38) X ⟨(ltb rfl), (ltb rfl)⟩ rfl vy_X12_overrunsAt my_X12_overrunsAt ml_X12_257 ⟨Nat.le_of_ble_eq_true rfl, Nat.le_of_ble_eq_true rfl, Nat.le_of_ble_eq_true rfl, Nat.le_of_ble_eq_true rfl⟩ (c_X12_overrunsAt  h3) (Nat.le_of_ble_eq_true rfl) dX12_slowestPace_38 ?_
      refine r_if_ne (pc := 41) X (tgt := 46) dX12_slowestPace_41 (by decide) h (fun h => ?_) (fun h => ?_)
      · refine r_iincN (pc := 46) X (v0 := (-1)) rfl (by decide) (by decide) dX12_slowestPace_46 h (fun e4 h => ?_)
        refine r_goto (pc := 49) X (tgt := 30) dX12_slowestPace_49 (by decide) ?_
        exact T_sub (ih _ _ _ h) ⟨rfl, rfl, rfl, trivial⟩
      · refine r_iload_n (pc := 44) X dX12_slowestPace_44 rfl ?_
        cases h
        exact r_iret (pc := 45) X hr dX12_slowestPace_45
def f_X12_slowestPace_17 (x1 : Int32) (xs0 : Int32) (M : Mem) : Option (Int32 × Mem) :=
  bnd (f_X12_fails xs0 0 0 M) (fun r1 M2 => if r1 = 0 then f_X12_slowestPace_30 fuelN x1 60 M2 else some (0, M2))
set_option maxHeartbeats 4000000 in
set_option maxRecDepth 100000 in
theorem t_X12_slowestPace_17 {G : GG} {A : Nat → Prop} {p : Program} {l : Launch} {e : Env} {s : State} {m : MethodId} {args : Array Value} {below : List Frame} {meth : Method} {c : Code} {r : Int32} {M' : Mem} (X : Cx G A p s m args meth c RX12 cX12_slowestPace 3) (hr : meth.sig.returnType = some .int) {x1 : Int32} {xs0 : Int32} {M : Mem}  (h : f_X12_slowestPace_17 x1 xs0 M = some (r, M')) : T G A p l e (rmO 8) s m args below meth c 3 0 0 (MQ below (QiO G A r M') args s 0 0 A) 17 [(0, .ref (G.2.1 (10, 0, 0))), (1, .int x1)] [.int xs0, .ref (G.2.1 (10, 0, 0))] M := by
  unfold f_X12_slowestPace_17 at h
  refine r_iconst (pc := 17) X (v := 0) dX12_slowestPace_17 (by decide) ?_
  refine r_iconst (pc := 18) X (v := 0) dX12_slowestPace_18 (by decide) ?_
  refine bndE h (fun r1 M2 h3 h => ?_)
  refine r_callVi3 (pc := 19) X ⟨(ltb rfl), (ltb rfl)⟩ rfl vy_X12_fails my_X12_fails ml_X12_14 ⟨Nat.le_of_ble_eq_true rfl, Nat.le_of_ble_eq_true rfl, Nat.le_of_ble_eq_true rfl, Nat.le_of_ble_eq_true rfl⟩ (c_X12_fails  h3) (Nat.le_of_ble_eq_true rfl) dX12_slowestPace_19 ?_
  refine r_if_eq (pc := 22) X (tgt := 27) dX12_slowestPace_22 (by decide) h (fun h => ?_) (fun h => ?_)
  · refine r_bipush (pc := 27) X (v := 60) dX12_slowestPace_27 (by decide) ?_
    refine r_istore_n (pc := 29) X (by decide) dX12_slowestPace_29 ?_
    exact T_sub (t_X12_slowestPace_30 X hr _ _ _ _ h) ⟨rfl, rfl, rfl, trivial⟩
  · refine r_iconst (pc := 25) X (v := 0) dX12_slowestPace_25 (by decide) ?_
    cases h
    exact r_iret (pc := 26) X hr dX12_slowestPace_26
def f_X12_slowestPace (x1 : Int32) (M : Mem) : Option (Int32 × Mem) :=
  bnd (f_X12_inRange x1 1 500 M) (fun r1 M2 => if r1 = 0 then f_X12_slowestPace_17 x1 1 M2 else f_X12_slowestPace_17 x1 0 M2)
set_option maxHeartbeats 4000000 in
set_option maxRecDepth 100000 in
theorem t_X12_slowestPace {G : GG} {A : Nat → Prop} {p : Program} {l : Launch} {e : Env} {s : State} {m : MethodId} {args : Array Value} {below : List Frame} {meth : Method} {c : Code} {r : Int32} {M' : Mem} (X : Cx G A p s m args meth c RX12 cX12_slowestPace 3) (hr : meth.sig.returnType = some .int) {x1 : Int32} {M : Mem}  (h : f_X12_slowestPace x1 M = some (r, M')) : T G A p l e (rmO 8) s m args below meth c 3 0 0 (MQ below (QiO G A r M') args s 0 0 A) 0 [(0, .ref (G.2.1 (10, 0, 0))), (1, .int x1)] [] M := by
  unfold f_X12_slowestPace at h
  refine r_aload_n (pc := 0) X dX12_slowestPace_0 rfl ?_
  refine r_iload_n (pc := 1) X dX12_slowestPace_1 rfl ?_
  refine r_iconst (pc := 2) X (v := 1) dX12_slowestPace_2 (by decide) ?_
  refine r_sipush (pc := 3) X (v := 500) dX12_slowestPace_3 (by decide) ?_
  refine bndE h (fun r1 M2 h3 h => ?_)
  refine r_callSi3 (pc := 6) X sy_X12_inRange my_X12_inRange ml_X12_22 ⟨Nat.le_of_ble_eq_true rfl, Nat.le_of_ble_eq_true rfl, Nat.le_of_ble_eq_true rfl, Nat.le_of_ble_eq_true rfl⟩ (c_X12_inRange  h3) (Nat.le_of_ble_eq_true rfl) dX12_slowestPace_6 ?_
  refine r_if_ne (pc := 9) X (tgt := 16) dX12_slowestPace_9 (by decide) h (fun h => ?_) (fun h => ?_)
  · refine r_iconst (pc := 16) X (v := 0) dX12_slowestPace_16 (by decide) ?_
    exact T_sub (t_X12_slowestPace_17 X hr h) ⟨rfl, rfl, trivial⟩
  · refine r_iconst (pc := 12) X (v := 1) dX12_slowestPace_12 (by decide) ?_
    refine r_goto (pc := 13) X (tgt := 17) dX12_slowestPace_13 (by decide) ?_
    exact T_sub (t_X12_slowestPace_17 X hr h) ⟨rfl, rfl, trivial⟩
theorem c_X12_slowestPace {G : GG} {l : Launch} {x1 : Int32} {r : Int32} {M M' : Mem}  (h : f_X12_slowestPace x1 M = some (r, M')) : Met l yX12_slowestPace (wsO yX12_slowestPace cX12_slowestPace 3 (some .int)) (rmO 8) (PcO G [.ref (G.2.1 (10, 0, 0)), .int x1] M) (QiO G (AA G) r M') 0 0 (AA G) :=
  met_of (own := RX12) rfl (by decide +kernel) (Nat.le_of_ble_eq_true rfl) (fun p e s m args below meth c X hr => t_X12_slowestPace X hr  h)
-- ConverterScannerModel.passLength
def f_X12_passLength_20 : Nat → Int32 → Int32 → Int32 → Mem → Option (Int32 × Mem)
  | 0 => fun _ _ _ _ => none
  | n + 1 => fun x2 x3 x4 M => bnd (f_X12_entries x2 M) (fun r1 M2 => if r1 ≤ x4 then some (x3, M2) else bnd (f_X12_entryOf x2 x4 M2) (fun r4 M5 => bnd (f_X12_chan r4 0 M5) (fun r7 M8 => bnd (f_X12_its r7 M8) (fun r10 M11 => if bad 2 104 then none else nm (x3 + ((r10 + 12) <<< ((M11.1 (31, 0, 0) (Int32.toNatClampNeg 2)) &&& 31))) (fun e13 => nm (x4 + 1) (fun e14 => (f_X12_passLength_20 n) x2 e13 e14 M11))))))
set_option maxHeartbeats 4000000 in
set_option maxRecDepth 100000 in
theorem t_X12_passLength_20 {G : GG} {A : Nat → Prop} {p : Program} {l : Launch} {e : Env} {s : State} {m : MethodId} {args : Array Value} {below : List Frame} {meth : Method} {c : Code} {r : Int32} {M' : Mem} (X : Cx G A p s m args meth c RX12 cX12_passLength 5) (hr : meth.sig.returnType = some .int) : ∀ (n : Nat) (x2 : Int32) (x3 : Int32) (x4 : Int32) (M : Mem), f_X12_passLength_20 n x2 x3 x4 M = some (r, M') → T G A p l e (rmO 1) s m args below meth c 5 0 0 (MQ below (QiO G A r M') args s 0 0 A) 20 [(0, .ref (G.2.1 (10, 0, 0))), (2, .int x2), (3, .int x3), (4, .int x4)] [] M := by
  intro n
  induction n with
  | zero =>
    intro x2 x3 x4 M  h
    cases h
  | succ n ih =>
    intro x2 x3 x4 M  h
    unfold f_X12_passLength_20 at h
    refine r_iload (pc := 20) X dX12_passLength_20 rfl ?_
    refine r_aload_n (pc := 22) X dX12_passLength_22 rfl ?_
    refine r_iload_n (pc := 23) X dX12_passLength_23 rfl ?_
    refine bndE h (fun r1 M2 h3 h => ?_)
    refine r_callVi1 (pc := 24) X ⟨(ltb rfl), (ltb rfl)⟩ rfl vy_X12_entries my_X12_entries ml_X12_165 ⟨Nat.le_of_ble_eq_true rfl, Nat.le_of_ble_eq_true rfl, Nat.le_of_ble_eq_true rfl, Nat.le_of_ble_eq_true rfl⟩ (c_X12_entries  h3) (Nat.le_of_ble_eq_true rfl) dX12_passLength_24 ?_
    refine r_icmp_ge (pc := 27) X (tgt := 64) dX12_passLength_27 (by decide) h (fun h => ?_) (fun h => ?_)
    · refine r_iload_n (pc := 64) X dX12_passLength_64 rfl ?_
      cases h
      exact r_iret (pc := 65) X hr dX12_passLength_65
    · refine r_iload_n (pc := 30) X dX12_passLength_30 rfl ?_
      refine r_aload_n (pc := 31) X dX12_passLength_31 rfl ?_
      refine r_aload_n (pc := 32) X dX12_passLength_32 rfl ?_
      refine r_iload_n (pc := 33) X dX12_passLength_33 rfl ?_
      refine r_iload (pc := 34) X dX12_passLength_34 rfl ?_
      refine bndE h (fun r4 M5 h6 h => ?_)
      refine r_callVi2 (pc := 36) X ⟨(ltb rfl), (ltb rfl)⟩ rfl vy_X12_entryOf my_X12_entryOf ml_X12_214 ⟨Nat.le_of_ble_eq_true rfl, Nat.le_of_ble_eq_true rfl, Nat.le_of_ble_eq_true rfl, Nat.le_of_ble_eq_true rfl⟩ (c_X12_entryOf  h6) (Nat.le_of_ble_eq_true rfl) dX12_passLength_36 ?_
      refine r_iconst (pc := 39) X (v := 0) dX12_passLength_39 (by decide) ?_
      refine bndE h (fun r7 M8 h9 h => ?_)
      refine r_callSi2 (pc := 40) X sy_X12_chan my_X12_chan ml_X12_47 ⟨Nat.le_of_ble_eq_true rfl, Nat.le_of_ble_eq_true rfl, Nat.le_of_ble_eq_true rfl, Nat.le_of_ble_eq_true rfl⟩ (c_X12_chan  h9) (Nat.le_of_ble_eq_true rfl) dX12_passLength_40 ?_
      refine bndE h (fun r10 M11 h12 h => ?_)
      refine r_callVi1 (pc := 43) X ⟨(ltb rfl), (ltb rfl)⟩ rfl vy_X12_its my_X12_its ml_X12_155 ⟨Nat.le_of_ble_eq_true rfl, Nat.le_of_ble_eq_true rfl, Nat.le_of_ble_eq_true rfl, Nat.le_of_ble_eq_true rfl⟩ (c_X12_its  h12) (Nat.le_of_ble_eq_true rfl) dX12_passLength_43 ?_
      refine r_bipush (pc := 46) X (v := 12) dX12_passLength_46 (by decide) ?_
      refine r_iadd (pc := 48) X dX12_passLength_48 ?_
      refine r_aload_n (pc := 49) X dX12_passLength_49 rfl ?_
      refine r_getR (q := (31, 0, 0)) (pc := 50) X ⟨(ltb rfl), (ltb rfl)⟩ fl_X12_26 rfl dX12_passLength_50 ?_
      refine r_iconst (pc := 53) X (v := 2) dX12_passLength_53 (by decide) ?_
      refine r_iald (pc := 54) X (n := 104) ⟨(ltb rfl), (ltb rfl)⟩ rfl (nlt rfl) dX12_passLength_54 h (fun h => ?_)
      refine r_ishl (pc := 55) X dX12_passLength_55 ?_
      refine r_iadd (pc := 56) X dX12_passLength_56 ?_
      refine r_istore_nN (pc := 57) X (by decide) dX12_passLength_57 h (fun e13 h => ?_)
      refine r_iincN (pc := 58) X (v0 := 1) rfl (by decide) (by decide) dX12_passLength_58 h (fun e14 h => ?_)
      refine r_goto (pc := 61) X (tgt := 20) dX12_passLength_61 (by decide) ?_
      exact T_sub (ih _ _ _ _ h) ⟨rfl, rfl, rfl, rfl, trivial⟩
def f_X12_passLength_14 (xs0 : Int32) (M : Mem) : Option (Int32 × Mem) :=
  f_X12_passLength_20 fuelN xs0 0 0 M
set_option maxHeartbeats 4000000 in
set_option maxRecDepth 100000 in
theorem t_X12_passLength_14 {G : GG} {A : Nat → Prop} {p : Program} {l : Launch} {e : Env} {s : State} {m : MethodId} {args : Array Value} {below : List Frame} {meth : Method} {c : Code} {r : Int32} {M' : Mem} (X : Cx G A p s m args meth c RX12 cX12_passLength 5) (hr : meth.sig.returnType = some .int) {xs0 : Int32} {M : Mem}  (h : f_X12_passLength_14 xs0 M = some (r, M')) : T G A p l e (rmO 1) s m args below meth c 5 0 0 (MQ below (QiO G A r M') args s 0 0 A) 14 [(0, .ref (G.2.1 (10, 0, 0)))] [.int xs0] M := by
  unfold f_X12_passLength_14 at h
  refine r_istore_n (pc := 14) X (by decide) dX12_passLength_14 ?_
  refine r_iconst (pc := 15) X (v := 0) dX12_passLength_15 (by decide) ?_
  refine r_istore_n (pc := 16) X (by decide) dX12_passLength_16 ?_
  refine r_iconst (pc := 17) X (v := 0) dX12_passLength_17 (by decide) ?_
  refine r_istore (pc := 18) X (by decide) dX12_passLength_18 ?_
  exact T_sub (t_X12_passLength_20 X hr _ _ _ _ _ h) ⟨rfl, rfl, rfl, rfl, trivial⟩
def f_X12_passLength (x1 : Int32) (M : Mem) : Option (Int32 × Mem) :=
  nm (uI M (10, 0, 0) 0 0) (fun M1 => if x1 = 0 then f_X12_passLength_14 0 M1 else f_X12_passLength_14 1 M1)
set_option maxHeartbeats 4000000 in
set_option maxRecDepth 100000 in
theorem t_X12_passLength {G : GG} {A : Nat → Prop} {p : Program} {l : Launch} {e : Env} {s : State} {m : MethodId} {args : Array Value} {below : List Frame} {meth : Method} {c : Code} {r : Int32} {M' : Mem} (X : Cx G A p s m args meth c RX12 cX12_passLength 5) (hr : meth.sig.returnType = some .int) {x1 : Int32} {M : Mem}  (h : f_X12_passLength x1 M = some (r, M')) : T G A p l e (rmO 1) s m args below meth c 5 0 0 (MQ below (QiO G A r M') args s 0 0 A) 0 [(0, .ref (G.2.1 (10, 0, 0))), (1, .int x1)] [] M := by
  unfold f_X12_passLength at h
  refine r_aload_n (pc := 0) X dX12_passLength_0 rfl ?_
  refine r_iconst (pc := 1) X (v := 0) dX12_passLength_1 (by decide) ?_
  refine r_putIN (pc := 2) X ⟨(ltb rfl), (ltb rfl)⟩ fp_X12_1 rfl dX12_passLength_2 h (fun M1 h => ?_)
  refine r_iload_n (pc := 5) X dX12_passLength_5 rfl ?_
  refine r_if_eq (pc := 6) X (tgt := 13) dX12_passLength_6 (by decide) h (fun h => ?_) (fun h => ?_)
  · refine r_iconst (pc := 13) X (v := 0) dX12_passLength_13 (by decide) ?_
    exact T_sub (t_X12_passLength_14 X hr h) ⟨rfl, trivial⟩
  · refine r_iconst (pc := 9) X (v := 1) dX12_passLength_9 (by decide) ?_
    refine r_goto (pc := 10) X (tgt := 14) dX12_passLength_10 (by decide) ?_
    exact T_sub (t_X12_passLength_14 X hr h) ⟨rfl, trivial⟩
theorem c_X12_passLength {G : GG} {l : Launch} {x1 : Int32} {r : Int32} {M M' : Mem}  (h : f_X12_passLength x1 M = some (r, M')) : Met l yX12_passLength (wsO yX12_passLength cX12_passLength 5 (some .int)) (rmO 1) (PcO G [.ref (G.2.1 (10, 0, 0)), .int x1] M) (QiO G (AA G) r M') 0 0 (AA G) :=
  met_of (own := RX12) rfl (by decide +kernel) (Nat.le_of_ble_eq_true rfl) (fun p e s m args below meth c X hr => t_X12_passLength X hr  h)
-- ConverterScannerModel.save
def f_X12_save_15 (x1 : Int32) (xs0 : Int32) (M : Mem) : Option (Int32 × Mem) :=
  bnd (f_X12_fails xs0 0 0 M) (fun r1 M2 => if r1 = 0 then if bad x1 2 then none else nm (uI M2 (34, 0, 0) (Int32.toNatClampNeg x1) (1 &&& 1)) (fun M4 => bnd (f_X12_copyBlock 0 (1 + x1) M4) (fun r5 M6 => bnd (f_X12_its 0 M6) (fun r8 M9 => some (r8, M9)))) else some (0, M2))
set_option maxHeartbeats 4000000 in
set_option maxRecDepth 100000 in
theorem t_X12_save_15 {G : GG} {A : Nat → Prop} {p : Program} {l : Launch} {e : Env} {s : State} {m : MethodId} {args : Array Value} {below : List Frame} {meth : Method} {c : Code} {r : Int32} {M' : Mem} (X : Cx G A p s m args meth c RX12 cX12_save 2) (hr : meth.sig.returnType = some .int) {x1 : Int32} {xs0 : Int32} {M : Mem}  (h : f_X12_save_15 x1 xs0 M = some (r, M')) : T G A p l e (rmO 1) s m args below meth c 2 0 0 (MQ below (QiO G A r M') args s 0 0 A) 15 [(0, .ref (G.2.1 (10, 0, 0))), (1, .int x1)] [.int xs0, .ref (G.2.1 (10, 0, 0))] M := by
  unfold f_X12_save_15 at h
  refine r_iconst (pc := 15) X (v := 0) dX12_save_15 (by decide) ?_
  refine r_iconst (pc := 16) X (v := 0) dX12_save_16 (by decide) ?_
  refine bndE h (fun r1 M2 h3 h => ?_)
  refine r_callVi3 (pc := 17) X ⟨(ltb rfl), (ltb rfl)⟩ rfl vy_X12_fails my_X12_fails ml_X12_14 ⟨Nat.le_of_ble_eq_true rfl, Nat.le_of_ble_eq_true rfl, Nat.le_of_ble_eq_true rfl, Nat.le_of_ble_eq_true rfl⟩ (c_X12_fails  h3) (Nat.le_of_ble_eq_true rfl) dX12_save_17 ?_
  refine r_if_eq (pc := 20) X (tgt := 25) dX12_save_20 (by decide) h (fun h => ?_) (fun h => ?_)
  · refine r_aload_n (pc := 25) X dX12_save_25 rfl ?_
    refine r_getR (q := (34, 0, 0)) (pc := 26) X ⟨(ltb rfl), (ltb rfl)⟩ fl_X12_56 rfl dX12_save_26 ?_
    refine r_iload_n (pc := 29) X dX12_save_29 rfl ?_
    refine r_iconst (pc := 30) X (v := 1) dX12_save_30 (by decide) ?_
    refine r_zastN (pc := 31) X (n := 2) ⟨(ltb rfl), (ltb rfl)⟩ rfl (nlt rfl) dX12_save_31 h (fun M4 h => ?_)
    refine r_aload_n (pc := 32) X dX12_save_32 rfl ?_
    refine r_iconst (pc := 33) X (v := 0) dX12_save_33 (by decide) ?_
    refine r_iconst (pc := 34) X (v := 1) dX12_save_34 (by decide) ?_
    refine r_iload_n (pc := 35) X dX12_save_35 rfl ?_
    refine r_iadd (pc := 36) X dX12_save_36 ?_
    refine bndE h (fun r5 M6 h7 h => ?_)
    refine r_callVv2 (pc := 37) X ⟨(ltb rfl), (ltb rfl)⟩ rfl vy_X12_copyBlock my_X12_copyBlock ml_X12_248 ⟨Nat.le_of_ble_eq_true rfl, Nat.le_of_ble_eq_true rfl, Nat.le_of_ble_eq_true rfl, Nat.le_of_ble_eq_true rfl⟩ (c_X12_copyBlock  h7) (Nat.le_of_ble_eq_true rfl) dX12_save_37 ?_
    refine r_aload_n (pc := 40) X dX12_save_40 rfl ?_
    refine r_iconst (pc := 41) X (v := 0) dX12_save_41 (by decide) ?_
    refine bndE h (fun r8 M9 h10 h => ?_)
    refine r_callVi1 (pc := 42) X ⟨(ltb rfl), (ltb rfl)⟩ rfl vy_X12_its my_X12_its ml_X12_155 ⟨Nat.le_of_ble_eq_true rfl, Nat.le_of_ble_eq_true rfl, Nat.le_of_ble_eq_true rfl, Nat.le_of_ble_eq_true rfl⟩ (c_X12_its  h10) (Nat.le_of_ble_eq_true rfl) dX12_save_42 ?_
    cases h
    exact r_iret (pc := 45) X hr dX12_save_45
  · refine r_iconst (pc := 23) X (v := 0) dX12_save_23 (by decide) ?_
    cases h
    exact r_iret (pc := 24) X hr dX12_save_24
def f_X12_save (x1 : Int32) (M : Mem) : Option (Int32 × Mem) :=
  bnd (f_X12_inRange x1 0 1 M) (fun r1 M2 => if r1 = 0 then f_X12_save_15 x1 1 M2 else f_X12_save_15 x1 0 M2)
set_option maxHeartbeats 4000000 in
set_option maxRecDepth 100000 in
theorem t_X12_save {G : GG} {A : Nat → Prop} {p : Program} {l : Launch} {e : Env} {s : State} {m : MethodId} {args : Array Value} {below : List Frame} {meth : Method} {c : Code} {r : Int32} {M' : Mem} (X : Cx G A p s m args meth c RX12 cX12_save 2) (hr : meth.sig.returnType = some .int) {x1 : Int32} {M : Mem}  (h : f_X12_save x1 M = some (r, M')) : T G A p l e (rmO 1) s m args below meth c 2 0 0 (MQ below (QiO G A r M') args s 0 0 A) 0 [(0, .ref (G.2.1 (10, 0, 0))), (1, .int x1)] [] M := by
  unfold f_X12_save at h
  refine r_aload_n (pc := 0) X dX12_save_0 rfl ?_
  refine r_iload_n (pc := 1) X dX12_save_1 rfl ?_
  refine r_iconst (pc := 2) X (v := 0) dX12_save_2 (by decide) ?_
  refine r_iconst (pc := 3) X (v := 1) dX12_save_3 (by decide) ?_
  refine bndE h (fun r1 M2 h3 h => ?_)
  refine r_callSi3 (pc := 4) X sy_X12_inRange my_X12_inRange ml_X12_22 ⟨Nat.le_of_ble_eq_true rfl, Nat.le_of_ble_eq_true rfl, Nat.le_of_ble_eq_true rfl, Nat.le_of_ble_eq_true rfl⟩ (c_X12_inRange  h3) (Nat.le_of_ble_eq_true rfl) dX12_save_4 ?_
  refine r_if_ne (pc := 7) X (tgt := 14) dX12_save_7 (by decide) h (fun h => ?_) (fun h => ?_)
  · refine r_iconst (pc := 14) X (v := 0) dX12_save_14 (by decide) ?_
    exact T_sub (t_X12_save_15 X hr h) ⟨rfl, rfl, trivial⟩
  · refine r_iconst (pc := 10) X (v := 1) dX12_save_10 (by decide) ?_
    refine r_goto (pc := 11) X (tgt := 15) dX12_save_11 (by decide) ?_
    exact T_sub (t_X12_save_15 X hr h) ⟨rfl, rfl, trivial⟩
theorem c_X12_save {G : GG} {l : Launch} {x1 : Int32} {r : Int32} {M M' : Mem}  (h : f_X12_save x1 M = some (r, M')) : Met l yX12_save (wsO yX12_save cX12_save 2 (some .int)) (rmO 1) (PcO G [.ref (G.2.1 (10, 0, 0)), .int x1] M) (QiO G (AA G) r M') 0 0 (AA G) :=
  met_of (own := RX12) rfl (by decide +kernel) (Nat.le_of_ble_eq_true rfl) (fun p e s m args below meth c X hr => t_X12_save X hr  h)
-- ConverterScannerModel.restore
def f_X12_restore_35 (x1 : Int32) (xs0 : Int32) (xs1 : Int32) (M : Mem) : Option (Int32 × Mem) :=
  bnd (f_X12_fails xs1 xs0 0 M) (fun r1 M2 => if r1 = 0 then bnd (f_X12_copyBlock (1 + x1) 0 M2) (fun r4 M5 => bnd (f_X12_its 0 M5) (fun r7 M8 => some (r7, M8))) else some (0, M2))
set_option maxHeartbeats 4000000 in
set_option maxRecDepth 100000 in
theorem t_X12_restore_35 {G : GG} {A : Nat → Prop} {p : Program} {l : Launch} {e : Env} {s : State} {m : MethodId} {args : Array Value} {below : List Frame} {meth : Method} {c : Code} {r : Int32} {M' : Mem} (X : Cx G A p s m args meth c RX12 cX12_restore 3) (hr : meth.sig.returnType = some .int) {x1 : Int32} {xs0 : Int32} {xs1 : Int32} {M : Mem}  (h : f_X12_restore_35 x1 xs0 xs1 M = some (r, M')) : T G A p l e (rmO 1) s m args below meth c 3 0 0 (MQ below (QiO G A r M') args s 0 0 A) 35 [(0, .ref (G.2.1 (10, 0, 0))), (1, .int x1)] [.int xs0, .int xs1, .ref (G.2.1 (10, 0, 0))] M := by
  unfold f_X12_restore_35 at h
  refine r_iconst (pc := 35) X (v := 0) dX12_restore_35 (by decide) ?_
  refine bndE h (fun r1 M2 h3 h => ?_)
  refine r_callVi3 (pc := 36) X ⟨(ltb rfl), (ltb rfl)⟩ rfl vy_X12_fails my_X12_fails ml_X12_14 ⟨Nat.le_of_ble_eq_true rfl, Nat.le_of_ble_eq_true rfl, Nat.le_of_ble_eq_true rfl, Nat.le_of_ble_eq_true rfl⟩ (c_X12_fails  h3) (Nat.le_of_ble_eq_true rfl) dX12_restore_36 ?_
  refine r_if_eq (pc := 39) X (tgt := 44) dX12_restore_39 (by decide) h (fun h => ?_) (fun h => ?_)
  · refine r_aload_n (pc := 44) X dX12_restore_44 rfl ?_
    refine r_iconst (pc := 45) X (v := 1) dX12_restore_45 (by decide) ?_
    refine r_iload_n (pc := 46) X dX12_restore_46 rfl ?_
    refine r_iadd (pc := 47) X dX12_restore_47 ?_
    refine r_iconst (pc := 48) X (v := 0) dX12_restore_48 (by decide) ?_
    refine bndE h (fun r4 M5 h6 h => ?_)
    refine r_callVv2 (pc := 49) X ⟨(ltb rfl), (ltb rfl)⟩ rfl vy_X12_copyBlock my_X12_copyBlock ml_X12_248 ⟨Nat.le_of_ble_eq_true rfl, Nat.le_of_ble_eq_true rfl, Nat.le_of_ble_eq_true rfl, Nat.le_of_ble_eq_true rfl⟩ (c_X12_copyBlock  h6) (Nat.le_of_ble_eq_true rfl) dX12_restore_49 ?_
    refine r_aload_n (pc := 52) X dX12_restore_52 rfl ?_
    refine r_iconst (pc := 53) X (v := 0) dX12_restore_53 (by decide) ?_
    refine bndE h (fun r7 M8 h9 h => ?_)
    refine r_callVi1 (pc := 54) X ⟨(ltb rfl), (ltb rfl)⟩ rfl vy_X12_its my_X12_its ml_X12_155 ⟨Nat.le_of_ble_eq_true rfl, Nat.le_of_ble_eq_true rfl, Nat.le_of_ble_eq_true rfl, Nat.le_of_ble_eq_true rfl⟩ (c_X12_its  h9) (Nat.le_of_ble_eq_true rfl) dX12_restore_54 ?_
    cases h
    exact r_iret (pc := 57) X hr dX12_restore_57
  · refine r_iconst (pc := 42) X (v := 0) dX12_restore_42 (by decide) ?_
    cases h
    exact r_iret (pc := 43) X hr dX12_restore_43
def f_X12_restore_34 (x1 : Int32) (xs0 : Int32) (M : Mem) : Option (Int32 × Mem) :=
  f_X12_restore_35 x1 0 xs0 M
set_option maxHeartbeats 4000000 in
set_option maxRecDepth 100000 in
theorem t_X12_restore_34 {G : GG} {A : Nat → Prop} {p : Program} {l : Launch} {e : Env} {s : State} {m : MethodId} {args : Array Value} {below : List Frame} {meth : Method} {c : Code} {r : Int32} {M' : Mem} (X : Cx G A p s m args meth c RX12 cX12_restore 3) (hr : meth.sig.returnType = some .int) {x1 : Int32} {xs0 : Int32} {M : Mem}  (h : f_X12_restore_34 x1 xs0 M = some (r, M')) : T G A p l e (rmO 1) s m args below meth c 3 0 0 (MQ below (QiO G A r M') args s 0 0 A) 34 [(0, .ref (G.2.1 (10, 0, 0))), (1, .int x1)] [.int xs0, .ref (G.2.1 (10, 0, 0))] M := by
  unfold f_X12_restore_34 at h
  refine r_iconst (pc := 34) X (v := 0) dX12_restore_34 (by decide) ?_
  exact T_sub (t_X12_restore_35 X hr h) ⟨rfl, rfl, trivial⟩
def f_X12_restore_17 (x1 : Int32) (x2 : Int32) (xs0 : Int32) (M : Mem) : Option (Int32 × Mem) :=
  if x2 = 0 then f_X12_restore_34 x1 xs0 M else if bad x1 2 then none else if (M.1 (34, 0, 0) (Int32.toNatClampNeg x1)) = 0 then f_X12_restore_35 x1 1 xs0 M else f_X12_restore_34 x1 xs0 M
set_option maxHeartbeats 4000000 in
set_option maxRecDepth 100000 in
theorem t_X12_restore_17 {G : GG} {A : Nat → Prop} {p : Program} {l : Launch} {e : Env} {s : State} {m : MethodId} {args : Array Value} {below : List Frame} {meth : Method} {c : Code} {r : Int32} {M' : Mem} (X : Cx G A p s m args meth c RX12 cX12_restore 3) (hr : meth.sig.returnType = some .int) {x1 : Int32} {x2 : Int32} {xs0 : Int32} {M : Mem}  (h : f_X12_restore_17 x1 x2 xs0 M = some (r, M')) : T G A p l e (rmO 1) s m args below meth c 3 0 0 (MQ below (QiO G A r M') args s 0 0 A) 17 [(0, .ref (G.2.1 (10, 0, 0))), (1, .int x1), (2, .int x2)] [.int xs0, .ref (G.2.1 (10, 0, 0))] M := by
  unfold f_X12_restore_17 at h
  refine r_iload_n (pc := 17) X dX12_restore_17 rfl ?_
  refine r_if_eq (pc := 18) X (tgt := 34) dX12_restore_18 (by decide) h (fun h => ?_) (fun h => ?_)
  · exact T_sub (t_X12_restore_34 X hr h) ⟨rfl, rfl, trivial⟩
  · refine r_aload_n (pc := 21) X dX12_restore_21 rfl ?_
    refine r_getR (q := (34, 0, 0)) (pc := 22) X ⟨(ltb rfl), (ltb rfl)⟩ fl_X12_56 rfl dX12_restore_22 ?_
    refine r_iload_n (pc := 25) X dX12_restore_25 rfl ?_
    refine r_zald (pc := 26) X (n := 2) ⟨(ltb rfl), (ltb rfl)⟩ rfl (nlt rfl) dX12_restore_26 h (fun h => ?_)
    refine r_if_ne (pc := 27) X (tgt := 34) dX12_restore_27 (by decide) h (fun h => ?_) (fun h => ?_)
    · exact T_sub (t_X12_restore_34 X hr h) ⟨rfl, rfl, trivial⟩
    · refine r_iconst (pc := 30) X (v := 1) dX12_restore_30 (by decide) ?_
      refine r_goto (pc := 31) X (tgt := 35) dX12_restore_31 (by decide) ?_
      exact T_sub (t_X12_restore_35 X hr h) ⟨rfl, rfl, trivial⟩
def f_X12_restore (x1 : Int32) (M : Mem) : Option (Int32 × Mem) :=
  bnd (f_X12_inRange x1 0 1 M) (fun r1 M2 => if r1 = 0 then f_X12_restore_17 x1 r1 1 M2 else f_X12_restore_17 x1 r1 0 M2)
set_option maxHeartbeats 4000000 in
set_option maxRecDepth 100000 in
theorem t_X12_restore {G : GG} {A : Nat → Prop} {p : Program} {l : Launch} {e : Env} {s : State} {m : MethodId} {args : Array Value} {below : List Frame} {meth : Method} {c : Code} {r : Int32} {M' : Mem} (X : Cx G A p s m args meth c RX12 cX12_restore 3) (hr : meth.sig.returnType = some .int) {x1 : Int32} {M : Mem}  (h : f_X12_restore x1 M = some (r, M')) : T G A p l e (rmO 1) s m args below meth c 3 0 0 (MQ below (QiO G A r M') args s 0 0 A) 0 [(0, .ref (G.2.1 (10, 0, 0))), (1, .int x1)] [] M := by
  unfold f_X12_restore at h
  refine r_iload_n (pc := 0) X dX12_restore_0 rfl ?_
  refine r_iconst (pc := 1) X (v := 0) dX12_restore_1 (by decide) ?_
  refine r_iconst (pc := 2) X (v := 1) dX12_restore_2 (by decide) ?_
  refine bndE h (fun r1 M2 h3 h => ?_)
  refine r_callSi3 (pc := 3) X sy_X12_inRange my_X12_inRange ml_X12_22 ⟨Nat.le_of_ble_eq_true rfl, Nat.le_of_ble_eq_true rfl, Nat.le_of_ble_eq_true rfl, Nat.le_of_ble_eq_true rfl⟩ (c_X12_inRange  h3) (Nat.le_of_ble_eq_true rfl) dX12_restore_3 ?_
  refine r_istore_n (pc := 6) X (by decide) dX12_restore_6 ?_
  refine r_aload_n (pc := 7) X dX12_restore_7 rfl ?_
  refine r_iload_n (pc := 8) X dX12_restore_8 rfl ?_
  refine r_if_ne (pc := 9) X (tgt := 16) dX12_restore_9 (by decide) h (fun h => ?_) (fun h => ?_)
  · refine r_iconst (pc := 16) X (v := 0) dX12_restore_16 (by decide) ?_
    exact T_sub (t_X12_restore_17 X hr h) ⟨rfl, rfl, rfl, trivial⟩
  · refine r_iconst (pc := 12) X (v := 1) dX12_restore_12 (by decide) ?_
    refine r_goto (pc := 13) X (tgt := 17) dX12_restore_13 (by decide) ?_
    exact T_sub (t_X12_restore_17 X hr h) ⟨rfl, rfl, rfl, trivial⟩
theorem c_X12_restore {G : GG} {l : Launch} {x1 : Int32} {r : Int32} {M M' : Mem}  (h : f_X12_restore x1 M = some (r, M')) : Met l yX12_restore (wsO yX12_restore cX12_restore 3 (some .int)) (rmO 1) (PcO G [.ref (G.2.1 (10, 0, 0)), .int x1] M) (QiO G (AA G) r M') 0 0 (AA G) :=
  met_of (own := RX12) rfl (by decide +kernel) (Nat.le_of_ble_eq_true rfl) (fun p e s m args below meth c X hr => t_X12_restore X hr  h)
-- ConverterScannerModel.byteAt
def f_X12_byteAt (x1 : Int32) (M : Mem) : Option (Int32 × Mem) :=
  if (M.1 (10, 0, 0) 9) ≤ x1 then some ((-1), M) else if bad x1 900 then none else some ((M.1 (30, 0, 0) (Int32.toNatClampNeg x1)), M)
set_option maxHeartbeats 4000000 in
set_option maxRecDepth 100000 in
theorem t_X12_byteAt {G : GG} {A : Nat → Prop} {p : Program} {l : Launch} {e : Env} {s : State} {m : MethodId} {args : Array Value} {below : List Frame} {meth : Method} {c : Code} {r : Int32} {M' : Mem} (X : Cx G A p s m args meth c RX12 cX12_byteAt 2) (hr : meth.sig.returnType = some .int) {x1 : Int32} {M : Mem}  (h : f_X12_byteAt x1 M = some (r, M')) : T G A p l e (rmO 0) s m args below meth c 2 0 0 (MQ below (QiO G A r M') args s 0 0 A) 0 [(0, .ref (G.2.1 (10, 0, 0))), (1, .int x1)] [] M := by
  unfold f_X12_byteAt at h
  refine r_iload_n (pc := 0) X dX12_byteAt_0 rfl ?_
  refine r_aload_n (pc := 1) X dX12_byteAt_1 rfl ?_
  refine r_getI (pc := 2) X ⟨(ltb rfl), (ltb rfl)⟩ fl_X12_113 rfl dX12_byteAt_2 ?_
  refine r_icmp_ge (pc := 5) X (tgt := 17) dX12_byteAt_5 (by decide) h (fun h => ?_) (fun h => ?_)
  · refine r_iconst (pc := 17) X (v := (-1)) dX12_byteAt_17 (by decide) ?_
    cases h
    exact r_iret (pc := 18) X hr dX12_byteAt_18
  · refine r_aload_n (pc := 8) X dX12_byteAt_8 rfl ?_
    refine r_getR (q := (30, 0, 0)) (pc := 9) X ⟨(ltb rfl), (ltb rfl)⟩ fl_X12_7 rfl dX12_byteAt_9 ?_
    refine r_iload_n (pc := 12) X dX12_byteAt_12 rfl ?_
    refine r_iald (pc := 13) X (n := 900) ⟨(ltb rfl), (ltb rfl)⟩ rfl (nlt rfl) dX12_byteAt_13 h (fun h => ?_)
    refine r_goto (pc := 14) X (tgt := 18) dX12_byteAt_14 (by decide) ?_
    cases h
    exact r_iret (pc := 18) X hr dX12_byteAt_18
theorem c_X12_byteAt {G : GG} {l : Launch} {x1 : Int32} {r : Int32} {M M' : Mem}  (h : f_X12_byteAt x1 M = some (r, M')) : Met l yX12_byteAt (wsO yX12_byteAt cX12_byteAt 2 (some .int)) (rmO 0) (PcO G [.ref (G.2.1 (10, 0, 0)), .int x1] M) (QiO G (AA G) r M') 0 0 (AA G) :=
  met_of (own := RX12) rfl (by decide +kernel) (Nat.le_of_ble_eq_true rfl) (fun p e s m args below meth c X hr => t_X12_byteAt X hr  h)
-- ConverterScannerModel.isLetter
def f_X12_isLetter (x1 : Int32) (M : Mem) : Option (Int32 × Mem) :=
  bnd (f_X12_byteAt x1 M) (fun r1 M2 => bnd (f_X12_inRange r1 97 122 M2) (fun r4 M5 => if ¬ (r4 = 0 ∨ r4 = 1) then none else some (r4, M5)))
set_option maxHeartbeats 4000000 in
set_option maxRecDepth 100000 in
theorem t_X12_isLetter {G : GG} {A : Nat → Prop} {p : Program} {l : Launch} {e : Env} {s : State} {m : MethodId} {args : Array Value} {below : List Frame} {meth : Method} {c : Code} {r : Int32} {M' : Mem} (X : Cx G A p s m args meth c RX12 cX12_isLetter 2) (hr : meth.sig.returnType = some .boolean) {x1 : Int32} {M : Mem}  (h : f_X12_isLetter x1 M = some (r, M')) : T G A p l e (rmO 1) s m args below meth c 2 0 0 (MQ below (QiO G A r M') args s 0 0 A) 0 [(0, .ref (G.2.1 (10, 0, 0))), (1, .int x1)] [] M := by
  unfold f_X12_isLetter at h
  refine r_aload_n (pc := 0) X dX12_isLetter_0 rfl ?_
  refine r_iload_n (pc := 1) X dX12_isLetter_1 rfl ?_
  refine bndE h (fun r1 M2 h3 h => ?_)
  refine r_callVi1 (pc := 2) X ⟨(ltb rfl), (ltb rfl)⟩ rfl vy_X12_byteAt my_X12_byteAt ml_X12_260 ⟨Nat.le_of_ble_eq_true rfl, Nat.le_of_ble_eq_true rfl, Nat.le_of_ble_eq_true rfl, Nat.le_of_ble_eq_true rfl⟩ (c_X12_byteAt  h3) (Nat.le_of_ble_eq_true rfl) dX12_isLetter_2 ?_
  refine r_bipush (pc := 5) X (v := 97) dX12_isLetter_5 (by decide) ?_
  refine r_bipush (pc := 7) X (v := 122) dX12_isLetter_7 (by decide) ?_
  refine bndE h (fun r4 M5 h6 h => ?_)
  refine r_callSi3 (pc := 9) X sy_X12_inRange my_X12_inRange ml_X12_22 ⟨Nat.le_of_ble_eq_true rfl, Nat.le_of_ble_eq_true rfl, Nat.le_of_ble_eq_true rfl, Nat.le_of_ble_eq_true rfl⟩ (c_X12_inRange  h6) (Nat.le_of_ble_eq_true rfl) dX12_isLetter_9 ?_
  exact r_zret (pc := 12) X hr dX12_isLetter_12 h
theorem c_X12_isLetter {G : GG} {l : Launch} {x1 : Int32} {r : Int32} {M M' : Mem}  (h : f_X12_isLetter x1 M = some (r, M')) : Met l yX12_isLetter (wsO yX12_isLetter cX12_isLetter 2 (some .boolean)) (rmO 1) (PcO G [.ref (G.2.1 (10, 0, 0)), .int x1] M) (QiO G (AA G) r M') 0 0 (AA G) :=
  met_of (own := RX12) rfl (by decide +kernel) (Nat.le_of_ble_eq_true rfl) (fun p e s m args below meth c X hr => t_X12_isLetter X hr  h)
-- ConverterScannerModel.isDigit
def f_X12_isDigit (x1 : Int32) (M : Mem) : Option (Int32 × Mem) :=
  bnd (f_X12_byteAt x1 M) (fun r1 M2 => bnd (f_X12_inRange r1 48 57 M2) (fun r4 M5 => if ¬ (r4 = 0 ∨ r4 = 1) then none else some (r4, M5)))
set_option maxHeartbeats 4000000 in
set_option maxRecDepth 100000 in
theorem t_X12_isDigit {G : GG} {A : Nat → Prop} {p : Program} {l : Launch} {e : Env} {s : State} {m : MethodId} {args : Array Value} {below : List Frame} {meth : Method} {c : Code} {r : Int32} {M' : Mem} (X : Cx G A p s m args meth c RX12 cX12_isDigit 2) (hr : meth.sig.returnType = some .boolean) {x1 : Int32} {M : Mem}  (h : f_X12_isDigit x1 M = some (r, M')) : T G A p l e (rmO 1) s m args below meth c 2 0 0 (MQ below (QiO G A r M') args s 0 0 A) 0 [(0, .ref (G.2.1 (10, 0, 0))), (1, .int x1)] [] M := by
  unfold f_X12_isDigit at h
  refine r_aload_n (pc := 0) X dX12_isDigit_0 rfl ?_
  refine r_iload_n (pc := 1) X dX12_isDigit_1 rfl ?_
  refine bndE h (fun r1 M2 h3 h => ?_)
  refine r_callVi1 (pc := 2) X ⟨(ltb rfl), (ltb rfl)⟩ rfl vy_X12_byteAt my_X12_byteAt ml_X12_260 ⟨Nat.le_of_ble_eq_true rfl, Nat.le_of_ble_eq_true rfl, Nat.le_of_ble_eq_true rfl, Nat.le_of_ble_eq_true rfl⟩ (c_X12_byteAt  h3) (Nat.le_of_ble_eq_true rfl) dX12_isDigit_2 ?_
  refine r_bipush (pc := 5) X (v := 48) dX12_isDigit_5 (by decide) ?_
  refine r_bipush (pc := 7) X (v := 57) dX12_isDigit_7 (by decide) ?_
  refine bndE h (fun r4 M5 h6 h => ?_)
  refine r_callSi3 (pc := 9) X sy_X12_inRange my_X12_inRange ml_X12_22 ⟨Nat.le_of_ble_eq_true rfl, Nat.le_of_ble_eq_true rfl, Nat.le_of_ble_eq_true rfl, Nat.le_of_ble_eq_true rfl⟩ (c_X12_inRange  h6) (Nat.le_of_ble_eq_true rfl) dX12_isDigit_9 ?_
  exact r_zret (pc := 12) X hr dX12_isDigit_12 h
theorem c_X12_isDigit {G : GG} {l : Launch} {x1 : Int32} {r : Int32} {M M' : Mem}  (h : f_X12_isDigit x1 M = some (r, M')) : Met l yX12_isDigit (wsO yX12_isDigit cX12_isDigit 2 (some .boolean)) (rmO 1) (PcO G [.ref (G.2.1 (10, 0, 0)), .int x1] M) (QiO G (AA G) r M') 0 0 (AA G) :=
  met_of (own := RX12) rfl (by decide +kernel) (Nat.le_of_ble_eq_true rfl) (fun p e s m args below meth c X hr => t_X12_isDigit X hr  h)
-- ConverterScannerModel.scanWord
def f_X12_scanWord_108 (r86 : Int64 → Int32 → Mem → Option (Unit × Mem)) (y1 : Int64) (x3 : Int32) (M : Mem) : Option (Unit × Mem) :=
  nm (x3 + 1) (fun e1 => r86 y1 e1 M)
set_option maxHeartbeats 4000000 in
set_option maxRecDepth 100000 in
theorem t_X12_scanWord_108 {G : GG} {A : Nat → Prop} {p : Program} {l : Launch} {e : Env} {s : State} {m : MethodId} {args : Array Value} {below : List Frame} {meth : Method} {c : Code} {r : Unit} {M' : Mem} (X : Cx G A p s m args meth c RX12 cX12_scanWord 4) (hr : meth.sig.returnType = none) {r86 : Int64 → Int32 → Mem → Option (Unit × Mem)} (hr86 : ∀ (y1 : Int64) (x3 : Int32) (M : Mem), r86 y1 x3 M = some (r, M') → T G A p l e (rmO 2) s m args below meth c 4 0 0 (MQ below (QvO G A M') args s 0 0 A) 86 [(0, .ref (G.2.1 (10, 0, 0))), (1, .long y1), (3, .int x3)] [] M) {y1 : Int64} {x3 : Int32} {M : Mem}  (h : f_X12_scanWord_108 r86 y1 x3 M = some (r, M')) : T G A p l e (rmO 2) s m args below meth c 4 0 0 (MQ below (QvO G A M') args s 0 0 A) 108 [(0, .ref (G.2.1 (10, 0, 0))), (1, .long y1), (3, .int x3)] [] M := by
  unfold f_X12_scanWord_108 at h
  refine r_iincN (pc := 108) X (v0 := 1) rfl (by decide) (by decide) dX12_scanWord_108 h (fun e1 h => ?_)
  refine r_goto (pc := 111) X (tgt := 86) dX12_scanWord_111 (by decide) ?_
  exact T_sub (hr86 _ _ _ h) ⟨rfl, rfl, rfl, trivial⟩
def f_X12_scanWord_86 : Nat → Int64 → Int32 → Mem → Option (Unit × Mem)
  | 0 => fun _ _ _ => none
  | n + 1 => fun y1 x3 M => if 25 ≤ x3 then some ((), M) else if bad x3 25 then none else if (lg_cmp (M.2.1 (35, 0, 0) (Int32.toNatClampNeg x3)) y1) = 0 then nm (uI M (10, 0, 0) 15 x3) (fun M1 => f_X12_scanWord_108 (f_X12_scanWord_86 n) y1 x3 M1) else f_X12_scanWord_108 (f_X12_scanWord_86 n) y1 x3 M
set_option maxHeartbeats 4000000 in
set_option maxRecDepth 100000 in
theorem t_X12_scanWord_86 {G : GG} {A : Nat → Prop} {p : Program} {l : Launch} {e : Env} {s : State} {m : MethodId} {args : Array Value} {below : List Frame} {meth : Method} {c : Code} {r : Unit} {M' : Mem} (X : Cx G A p s m args meth c RX12 cX12_scanWord 4) (hr : meth.sig.returnType = none) : ∀ (n : Nat) (y1 : Int64) (x3 : Int32) (M : Mem), f_X12_scanWord_86 n y1 x3 M = some (r, M') → T G A p l e (rmO 2) s m args below meth c 4 0 0 (MQ below (QvO G A M') args s 0 0 A) 86 [(0, .ref (G.2.1 (10, 0, 0))), (1, .long y1), (3, .int x3)] [] M := by
  intro n
  induction n with
  | zero =>
    intro y1 x3 M  h
    cases h
  | succ n ih =>
    intro y1 x3 M  h
    unfold f_X12_scanWord_86 at h
    refine r_iload_n (pc := 86) X dX12_scanWord_86 rfl ?_
    refine r_bipush (pc := 87) X (v := 25) dX12_scanWord_87 (by decide) ?_
    refine r_icmp_ge (pc := 89) X (tgt := 114) dX12_scanWord_89 (by decide) h (fun h => ?_) (fun h => ?_)
    · cases h
      exact r_vret (pc := 114) X hr dX12_scanWord_114
    · refine r_aload_n (pc := 92) X dX12_scanWord_92 rfl ?_
      refine r_getR (q := (35, 0, 0)) (pc := 93) X ⟨(ltb rfl), (ltb rfl)⟩ fl_X12_110 rfl dX12_scanWord_93 ?_
      refine r_iload_n (pc := 96) X dX12_scanWord_96 rfl ?_
      refine r_lald (pc := 97) X (n := 25) ⟨(ltb rfl), (ltb rfl)⟩ rfl (nlt rfl) dX12_scanWord_97 h (fun h => ?_)
      refine r_lload_n (pc := 98) X dX12_scanWord_98 rfl ?_
      refine r_lcmp (pc := 99) X dX12_scanWord_99 ?_
      refine r_if_ne (pc := 100) X (tgt := 108) dX12_scanWord_100 (by decide) h (fun h => ?_) (fun h => ?_)
      · exact T_sub (t_X12_scanWord_108 X hr ih h) ⟨rfl, rfl, rfl, trivial⟩
      · refine r_aload_n (pc := 103) X dX12_scanWord_103 rfl ?_
        refine r_iload_n (pc := 104) X dX12_scanWord_104 rfl ?_
        refine r_putIN (pc := 105) X ⟨(ltb rfl), (ltb rfl)⟩ fp_X12_131 rfl dX12_scanWord_105 h (fun M1 h => ?_)
        exact T_sub (t_X12_scanWord_108 X hr ih h) ⟨rfl, rfl, rfl, trivial⟩
def f_X12_scanWord_84 (y1 : Int64) (M : Mem) : Option (Unit × Mem) :=
  f_X12_scanWord_86 fuelN y1 0 M
set_option maxHeartbeats 4000000 in
set_option maxRecDepth 100000 in
theorem t_X12_scanWord_84 {G : GG} {A : Nat → Prop} {p : Program} {l : Launch} {e : Env} {s : State} {m : MethodId} {args : Array Value} {below : List Frame} {meth : Method} {c : Code} {r : Unit} {M' : Mem} (X : Cx G A p s m args meth c RX12 cX12_scanWord 4) (hr : meth.sig.returnType = none) {y1 : Int64} {M : Mem}  (h : f_X12_scanWord_84 y1 M = some (r, M')) : T G A p l e (rmO 2) s m args below meth c 4 0 0 (MQ below (QvO G A M') args s 0 0 A) 84 [(0, .ref (G.2.1 (10, 0, 0))), (1, .long y1)] [] M := by
  unfold f_X12_scanWord_84 at h
  refine r_iconst (pc := 84) X (v := 0) dX12_scanWord_84 (by decide) ?_
  refine r_istore_n (pc := 85) X (by decide) dX12_scanWord_85 ?_
  exact T_sub (t_X12_scanWord_86 X hr _ _ _ _ h) ⟨rfl, rfl, rfl, trivial⟩
def f_X12_scanWord_52 (r7 : Int64 → Mem → Option (Unit × Mem)) (y1 : Int64) (M : Mem) : Option (Unit × Mem) :=
  nm (uI M (10, 0, 0) 10 ((M.1 (10, 0, 0) 10) + 1)) (fun M1 => r7 y1 M1)
set_option maxHeartbeats 4000000 in
set_option maxRecDepth 100000 in
theorem t_X12_scanWord_52 {G : GG} {A : Nat → Prop} {p : Program} {l : Launch} {e : Env} {s : State} {m : MethodId} {args : Array Value} {below : List Frame} {meth : Method} {c : Code} {r : Unit} {M' : Mem} (X : Cx G A p s m args meth c RX12 cX12_scanWord 4) (hr : meth.sig.returnType = none) {r7 : Int64 → Mem → Option (Unit × Mem)} (hr7 : ∀ (y1 : Int64) (M : Mem), r7 y1 M = some (r, M') → T G A p l e (rmO 2) s m args below meth c 4 0 0 (MQ below (QvO G A M') args s 0 0 A) 7 [(0, .ref (G.2.1 (10, 0, 0))), (1, .long y1)] [] M) {y1 : Int64} {M : Mem}  (h : f_X12_scanWord_52 r7 y1 M = some (r, M')) : T G A p l e (rmO 2) s m args below meth c 4 0 0 (MQ below (QvO G A M') args s 0 0 A) 52 [(0, .ref (G.2.1 (10, 0, 0))), (1, .long y1)] [] M := by
  unfold f_X12_scanWord_52 at h
  refine r_aload_n (pc := 52) X dX12_scanWord_52 rfl ?_
  refine r_dup (pc := 53) X dX12_scanWord_53 rfl ?_
  refine r_getI (pc := 54) X ⟨(ltb rfl), (ltb rfl)⟩ fl_X12_116 rfl dX12_scanWord_54 ?_
  refine r_iconst (pc := 57) X (v := 1) dX12_scanWord_57 (by decide) ?_
  refine r_iadd (pc := 58) X dX12_scanWord_58 ?_
  refine r_putIN (pc := 59) X ⟨(ltb rfl), (ltb rfl)⟩ fp_X12_116 rfl dX12_scanWord_59 h (fun M1 h => ?_)
  refine r_goto (pc := 62) X (tgt := 7) dX12_scanWord_62 (by decide) ?_
  exact T_sub (hr7 _ _ h) ⟨rfl, rfl, trivial⟩
def f_X12_scanWord_7 : Nat → Int64 → Mem → Option (Unit × Mem)
  | 0 => fun _ _ => none
  | n + 1 => fun y1 M => bnd (f_X12_isLetter (M.1 (10, 0, 0) 10) M) (fun r1 M2 => if r1 = 0 then if ((M2.1 (10, 0, 0) 10) - (M2.1 (10, 0, 0) 12)) ≤ 10 then f_X12_scanWord_84 y1 M2 else nm (uI M2 (10, 0, 0) 11 4) (fun M4 => f_X12_scanWord_84 y1 M4) else if 10 ≤ ((M2.1 (10, 0, 0) 10) - (M2.1 (10, 0, 0) 12)) then f_X12_scanWord_52 (f_X12_scanWord_7 n) y1 M2 else bnd (f_X12_byteAt (M2.1 (10, 0, 0) 10) M2) (fun r5 M6 => nm (((y1 * 32) + (Int32.toInt64 r5)) - 96) (fun e8 => f_X12_scanWord_52 (f_X12_scanWord_7 n) e8 M6)))
set_option maxHeartbeats 4000000 in
set_option maxRecDepth 100000 in
theorem t_X12_scanWord_7 {G : GG} {A : Nat → Prop} {p : Program} {l : Launch} {e : Env} {s : State} {m : MethodId} {args : Array Value} {below : List Frame} {meth : Method} {c : Code} {r : Unit} {M' : Mem} (X : Cx G A p s m args meth c RX12 cX12_scanWord 4) (hr : meth.sig.returnType = none) : ∀ (n : Nat) (y1 : Int64) (M : Mem), f_X12_scanWord_7 n y1 M = some (r, M') → T G A p l e (rmO 2) s m args below meth c 4 0 0 (MQ below (QvO G A M') args s 0 0 A) 7 [(0, .ref (G.2.1 (10, 0, 0))), (1, .long y1)] [] M := by
  intro n
  induction n with
  | zero =>
    intro y1 M  h
    cases h
  | succ n ih =>
    intro y1 M  h
    unfold f_X12_scanWord_7 at h
    refine r_aload_n (pc := 7) X dX12_scanWord_7 rfl ?_
    refine r_aload_n (pc := 8) X dX12_scanWord_8 rfl ?_
    refine r_getI (pc := 9) X ⟨(ltb rfl), (ltb rfl)⟩ fl_X12_116 rfl dX12_scanWord_9 ?_
    refine bndE h (fun r1 M2 h3 h => ?_)
    refine r_callVi1 (pc := 12) X ⟨(ltb rfl), (ltb rfl)⟩ rfl vy_X12_isLetter my_X12_isLetter ml_X12_263 ⟨Nat.le_of_ble_eq_true rfl, Nat.le_of_ble_eq_true rfl, Nat.le_of_ble_eq_true rfl, Nat.le_of_ble_eq_true rfl⟩ (c_X12_isLetter  h3) (Nat.le_of_ble_eq_true rfl) dX12_scanWord_12 ?_
    refine r_if_eq (pc := 15) X (tgt := 65) dX12_scanWord_15 (by decide) h (fun h => ?_) (fun h => ?_)
    · refine r_aload_n (pc := 65) X dX12_scanWord_65 rfl ?_
      refine r_getI (pc := 66) X ⟨(ltb rfl), (ltb rfl)⟩ fl_X12_116 rfl dX12_scanWord_66 ?_
      refine r_aload_n (pc := 69) X dX12_scanWord_69 rfl ?_
      refine r_getI (pc := 70) X ⟨(ltb rfl), (ltb rfl)⟩ fl_X12_122 rfl dX12_scanWord_70 ?_
      refine r_isub (pc := 73) X dX12_scanWord_73 ?_
      refine r_bipush (pc := 74) X (v := 10) dX12_scanWord_74 (by decide) ?_
      refine r_icmp_le (pc := 76) X (tgt := 84) dX12_scanWord_76 (by decide) h (fun h => ?_) (fun h => ?_)
      · exact T_sub (t_X12_scanWord_84 X hr h) ⟨rfl, rfl, trivial⟩
      · refine r_aload_n (pc := 79) X dX12_scanWord_79 rfl ?_
        refine r_iconst (pc := 80) X (v := 4) dX12_scanWord_80 (by decide) ?_
        refine r_putIN (pc := 81) X ⟨(ltb rfl), (ltb rfl)⟩ fp_X12_119 rfl dX12_scanWord_81 h (fun M4 h => ?_)
        exact T_sub (t_X12_scanWord_84 X hr h) ⟨rfl, rfl, trivial⟩
    · refine r_aload_n (pc := 18) X dX12_scanWord_18 rfl ?_
      refine r_getI (pc := 19) X ⟨(ltb rfl), (ltb rfl)⟩ fl_X12_116 rfl dX12_scanWord_19 ?_
      refine r_aload_n (pc := 22) X dX12_scanWord_22 rfl ?_
      refine r_getI (pc := 23) X ⟨(ltb rfl), (ltb rfl)⟩ fl_X12_122 rfl dX12_scanWord_23 ?_
      refine r_isub (pc := 26) X dX12_scanWord_26 ?_
      refine r_bipush (pc := 27) X (v := 10) dX12_scanWord_27 (by decide) ?_
      refine r_icmp_ge (pc := 29) X (tgt := 52) dX12_scanWord_29 (by decide) h (fun h => ?_) (fun h => ?_)
      · exact T_sub (t_X12_scanWord_52 X hr ih h) ⟨rfl, rfl, trivial⟩
      · refine r_lload_n (pc := 32) X dX12_scanWord_32 rfl ?_
        refine r_ldc2 (pc := 33) X k_X12_266 dX12_scanWord_33 ?_
        refine r_lmul (pc := 36) X dX12_scanWord_36 ?_
        refine r_aload_n (pc := 37) X dX12_scanWord_37 rfl ?_
        refine r_aload_n (pc := 38) X dX12_scanWord_38 rfl ?_
        refine r_getI (pc := 39) X ⟨(ltb rfl), (ltb rfl)⟩ fl_X12_116 rfl dX12_scanWord_39 ?_
        refine bndE h (fun r5 M6 h7 h => ?_)
        refine r_callVi1 (pc := 42) X ⟨(ltb rfl), (ltb rfl)⟩ rfl vy_X12_byteAt my_X12_byteAt ml_X12_260 ⟨Nat.le_of_ble_eq_true rfl, Nat.le_of_ble_eq_true rfl, Nat.le_of_ble_eq_true rfl, Nat.le_of_ble_eq_true rfl⟩ (c_X12_byteAt  h7) (Nat.le_of_ble_eq_true rfl) dX12_scanWord_42 ?_
        refine r_i2l (pc := 45) X dX12_scanWord_45 ?_
        refine r_ladd (pc := 46) X dX12_scanWord_46 ?_
        refine r_ldc2 (pc := 47) X k_X12_268 dX12_scanWord_47 ?_
        refine r_lsub (pc := 50) X dX12_scanWord_50 ?_
        refine r_lstore_nN (pc := 51) X (by decide) dX12_scanWord_51 h (fun e8 h => ?_)
        exact T_sub (t_X12_scanWord_52 X hr ih h) ⟨rfl, rfl, trivial⟩
def f_X12_scanWord  (M : Mem) : Option (Unit × Mem) :=
  nm (uI M (10, 0, 0) 11 1) (fun M1 => f_X12_scanWord_7 fuelN 0 M1)
set_option maxHeartbeats 4000000 in
set_option maxRecDepth 100000 in
theorem t_X12_scanWord {G : GG} {A : Nat → Prop} {p : Program} {l : Launch} {e : Env} {s : State} {m : MethodId} {args : Array Value} {below : List Frame} {meth : Method} {c : Code} {r : Unit} {M' : Mem} (X : Cx G A p s m args meth c RX12 cX12_scanWord 4) (hr : meth.sig.returnType = none) {M : Mem}  (h : f_X12_scanWord M = some (r, M')) : T G A p l e (rmO 2) s m args below meth c 4 0 0 (MQ below (QvO G A M') args s 0 0 A) 0 [(0, .ref (G.2.1 (10, 0, 0)))] [] M := by
  unfold f_X12_scanWord at h
  refine r_aload_n (pc := 0) X dX12_scanWord_0 rfl ?_
  refine r_iconst (pc := 1) X (v := 1) dX12_scanWord_1 (by decide) ?_
  refine r_putIN (pc := 2) X ⟨(ltb rfl), (ltb rfl)⟩ fp_X12_119 rfl dX12_scanWord_2 h (fun M1 h => ?_)
  refine r_lconst (pc := 5) X (v := 0) dX12_scanWord_5 (by decide) ?_
  refine r_lstore_n (pc := 6) X (by decide) dX12_scanWord_6 ?_
  exact T_sub (t_X12_scanWord_7 X hr _ _ _ h) ⟨rfl, rfl, trivial⟩
theorem c_X12_scanWord {G : GG} {l : Launch} {r : Unit} {M M' : Mem}  (h : f_X12_scanWord  M = some (r, M')) : Met l yX12_scanWord (wsO yX12_scanWord cX12_scanWord 4 none) (rmO 2) (PcO G [.ref (G.2.1 (10, 0, 0))] M) (QvO G (AA G) M') 0 0 (AA G) :=
  met_of (own := RX12) rfl (by decide +kernel) (Nat.le_of_ble_eq_true rfl) (fun p e s m args below meth c X hr => t_X12_scanWord X hr  h)
-- ConverterScannerModel.scanNumber
def f_X12_scanNumber_57 (r10 : Mem → Option (Unit × Mem))  (M : Mem) : Option (Unit × Mem) :=
  nm (uI M (10, 0, 0) 10 ((M.1 (10, 0, 0) 10) + 1)) (fun M1 => r10  M1)
set_option maxHeartbeats 4000000 in
set_option maxRecDepth 100000 in
theorem t_X12_scanNumber_57 {G : GG} {A : Nat → Prop} {p : Program} {l : Launch} {e : Env} {s : State} {m : MethodId} {args : Array Value} {below : List Frame} {meth : Method} {c : Code} {r : Unit} {M' : Mem} (X : Cx G A p s m args meth c RX12 cX12_scanNumber 1) (hr : meth.sig.returnType = none) {r10 : Mem → Option (Unit × Mem)} (hr10 : ∀  (M : Mem), r10  M = some (r, M') → T G A p l e (rmO 2) s m args below meth c 1 0 0 (MQ below (QvO G A M') args s 0 0 A) 10 [(0, .ref (G.2.1 (10, 0, 0)))] [] M) {M : Mem}  (h : f_X12_scanNumber_57 r10 M = some (r, M')) : T G A p l e (rmO 2) s m args below meth c 1 0 0 (MQ below (QvO G A M') args s 0 0 A) 57 [(0, .ref (G.2.1 (10, 0, 0)))] [] M := by
  unfold f_X12_scanNumber_57 at h
  refine r_aload_n (pc := 57) X dX12_scanNumber_57 rfl ?_
  refine r_dup (pc := 58) X dX12_scanNumber_58 rfl ?_
  refine r_getI (pc := 59) X ⟨(ltb rfl), (ltb rfl)⟩ fl_X12_116 rfl dX12_scanNumber_59 ?_
  refine r_iconst (pc := 62) X (v := 1) dX12_scanNumber_62 (by decide) ?_
  refine r_iadd (pc := 63) X dX12_scanNumber_63 ?_
  refine r_putIN (pc := 64) X ⟨(ltb rfl), (ltb rfl)⟩ fp_X12_116 rfl dX12_scanNumber_64 h (fun M1 h => ?_)
  refine r_goto (pc := 67) X (tgt := 10) dX12_scanNumber_67 (by decide) ?_
  exact T_sub (hr10 _ h) ⟨rfl, trivial⟩
def f_X12_scanNumber_10 : Nat → Mem → Option (Unit × Mem)
  | 0 => fun  _ => none
  | n + 1 => fun  M => bnd (f_X12_isDigit (M.1 (10, 0, 0) 10) M) (fun r1 M2 => if r1 = 0 then if ((M2.1 (10, 0, 0) 10) - (M2.1 (10, 0, 0) 12)) ≤ 5 then some ((), M2) else nm (uI M2 (10, 0, 0) 11 4) (fun M4 => some ((), M4)) else if 5 ≤ ((M2.1 (10, 0, 0) 10) - (M2.1 (10, 0, 0) 12)) then f_X12_scanNumber_57 (f_X12_scanNumber_10 n)  M2 else bnd (f_X12_byteAt (M2.1 (10, 0, 0) 10) M2) (fun r5 M6 => nm (uI M6 (10, 0, 0) 13 (((10 * (M2.1 (10, 0, 0) 13)) + r5) - 48)) (fun M8 => f_X12_scanNumber_57 (f_X12_scanNumber_10 n)  M8)))
set_option maxHeartbeats 4000000 in
set_option maxRecDepth 100000 in
theorem t_X12_scanNumber_10 {G : GG} {A : Nat → Prop} {p : Program} {l : Launch} {e : Env} {s : State} {m : MethodId} {args : Array Value} {below : List Frame} {meth : Method} {c : Code} {r : Unit} {M' : Mem} (X : Cx G A p s m args meth c RX12 cX12_scanNumber 1) (hr : meth.sig.returnType = none) : ∀ (n : Nat)  (M : Mem), f_X12_scanNumber_10 n  M = some (r, M') → T G A p l e (rmO 2) s m args below meth c 1 0 0 (MQ below (QvO G A M') args s 0 0 A) 10 [(0, .ref (G.2.1 (10, 0, 0)))] [] M := by
  intro n
  induction n with
  | zero =>
    intro  M  h
    cases h
  | succ n ih =>
    intro  M  h
    unfold f_X12_scanNumber_10 at h
    refine r_aload_n (pc := 10) X dX12_scanNumber_10 rfl ?_
    refine r_aload_n (pc := 11) X dX12_scanNumber_11 rfl ?_
    refine r_getI (pc := 12) X ⟨(ltb rfl), (ltb rfl)⟩ fl_X12_116 rfl dX12_scanNumber_12 ?_
    refine bndE h (fun r1 M2 h3 h => ?_)
    refine r_callVi1 (pc := 15) X ⟨(ltb rfl), (ltb rfl)⟩ rfl vy_X12_isDigit my_X12_isDigit ml_X12_270 ⟨Nat.le_of_ble_eq_true rfl, Nat.le_of_ble_eq_true rfl, Nat.le_of_ble_eq_true rfl, Nat.le_of_ble_eq_true rfl⟩ (c_X12_isDigit  h3) (Nat.le_of_ble_eq_true rfl) dX12_scanNumber_15 ?_
    refine r_if_eq (pc := 18) X (tgt := 70) dX12_scanNumber_18 (by decide) h (fun h => ?_) (fun h => ?_)
    · refine r_aload_n (pc := 70) X dX12_scanNumber_70 rfl ?_
      refine r_getI (pc := 71) X ⟨(ltb rfl), (ltb rfl)⟩ fl_X12_116 rfl dX12_scanNumber_71 ?_
      refine r_aload_n (pc := 74) X dX12_scanNumber_74 rfl ?_
      refine r_getI (pc := 75) X ⟨(ltb rfl), (ltb rfl)⟩ fl_X12_122 rfl dX12_scanNumber_75 ?_
      refine r_isub (pc := 78) X dX12_scanNumber_78 ?_
      refine r_iconst (pc := 79) X (v := 5) dX12_scanNumber_79 (by decide) ?_
      refine r_icmp_le (pc := 80) X (tgt := 88) dX12_scanNumber_80 (by decide) h (fun h => ?_) (fun h => ?_)
      · cases h
        exact r_vret (pc := 88) X hr dX12_scanNumber_88
      · refine r_aload_n (pc := 83) X dX12_scanNumber_83 rfl ?_
        refine r_iconst (pc := 84) X (v := 4) dX12_scanNumber_84 (by decide) ?_
        refine r_putIN (pc := 85) X ⟨(ltb rfl), (ltb rfl)⟩ fp_X12_119 rfl dX12_scanNumber_85 h (fun M4 h => ?_)
        cases h
        exact r_vret (pc := 88) X hr dX12_scanNumber_88
    · refine r_aload_n (pc := 21) X dX12_scanNumber_21 rfl ?_
      refine r_getI (pc := 22) X ⟨(ltb rfl), (ltb rfl)⟩ fl_X12_116 rfl dX12_scanNumber_22 ?_
      refine r_aload_n (pc := 25) X dX12_scanNumber_25 rfl ?_
      refine r_getI (pc := 26) X ⟨(ltb rfl), (ltb rfl)⟩ fl_X12_122 rfl dX12_scanNumber_26 ?_
      refine r_isub (pc := 29) X dX12_scanNumber_29 ?_
      refine r_iconst (pc := 30) X (v := 5) dX12_scanNumber_30 (by decide) ?_
      refine r_icmp_ge (pc := 31) X (tgt := 57) dX12_scanNumber_31 (by decide) h (fun h => ?_) (fun h => ?_)
      · exact T_sub (t_X12_scanNumber_57 X hr ih h) ⟨rfl, trivial⟩
      · refine r_aload_n (pc := 34) X dX12_scanNumber_34 rfl ?_
        refine r_bipush (pc := 35) X (v := 10) dX12_scanNumber_35 (by decide) ?_
        refine r_aload_n (pc := 37) X dX12_scanNumber_37 rfl ?_
        refine r_getI (pc := 38) X ⟨(ltb rfl), (ltb rfl)⟩ fl_X12_125 rfl dX12_scanNumber_38 ?_
        refine r_imul (pc := 41) X dX12_scanNumber_41 ?_
        refine r_aload_n (pc := 42) X dX12_scanNumber_42 rfl ?_
        refine r_aload_n (pc := 43) X dX12_scanNumber_43 rfl ?_
        refine r_getI (pc := 44) X ⟨(ltb rfl), (ltb rfl)⟩ fl_X12_116 rfl dX12_scanNumber_44 ?_
        refine bndE h (fun r5 M6 h7 h => ?_)
        refine r_callVi1 (pc := 47) X ⟨(ltb rfl), (ltb rfl)⟩ rfl vy_X12_byteAt my_X12_byteAt ml_X12_260 ⟨Nat.le_of_ble_eq_true rfl, Nat.le_of_ble_eq_true rfl, Nat.le_of_ble_eq_true rfl, Nat.le_of_ble_eq_true rfl⟩ (c_X12_byteAt  h7) (Nat.le_of_ble_eq_true rfl) dX12_scanNumber_47 ?_
        refine r_iadd (pc := 50) X dX12_scanNumber_50 ?_
        refine r_bipush (pc := 51) X (v := 48) dX12_scanNumber_51 (by decide) ?_
        refine r_isub (pc := 53) X dX12_scanNumber_53 ?_
        refine r_putIN (pc := 54) X ⟨(ltb rfl), (ltb rfl)⟩ fp_X12_125 rfl dX12_scanNumber_54 h (fun M8 h => ?_)
        exact T_sub (t_X12_scanNumber_57 X hr ih h) ⟨rfl, trivial⟩
def f_X12_scanNumber  (M : Mem) : Option (Unit × Mem) :=
  nm (uI M (10, 0, 0) 11 2) (fun M1 => nm (uI M1 (10, 0, 0) 13 0) (fun M2 => f_X12_scanNumber_10 fuelN  M2))
set_option maxHeartbeats 4000000 in
set_option maxRecDepth 100000 in
theorem t_X12_scanNumber {G : GG} {A : Nat → Prop} {p : Program} {l : Launch} {e : Env} {s : State} {m : MethodId} {args : Array Value} {below : List Frame} {meth : Method} {c : Code} {r : Unit} {M' : Mem} (X : Cx G A p s m args meth c RX12 cX12_scanNumber 1) (hr : meth.sig.returnType = none) {M : Mem}  (h : f_X12_scanNumber M = some (r, M')) : T G A p l e (rmO 2) s m args below meth c 1 0 0 (MQ below (QvO G A M') args s 0 0 A) 0 [(0, .ref (G.2.1 (10, 0, 0)))] [] M := by
  unfold f_X12_scanNumber at h
  refine r_aload_n (pc := 0) X dX12_scanNumber_0 rfl ?_
  refine r_iconst (pc := 1) X (v := 2) dX12_scanNumber_1 (by decide) ?_
  refine r_putIN (pc := 2) X ⟨(ltb rfl), (ltb rfl)⟩ fp_X12_119 rfl dX12_scanNumber_2 h (fun M1 h => ?_)
  refine r_aload_n (pc := 5) X dX12_scanNumber_5 rfl ?_
  refine r_iconst (pc := 6) X (v := 0) dX12_scanNumber_6 (by decide) ?_
  refine r_putIN (pc := 7) X ⟨(ltb rfl), (ltb rfl)⟩ fp_X12_125 rfl dX12_scanNumber_7 h (fun M2 h => ?_)
  exact T_sub (t_X12_scanNumber_10 X hr _ _ h) ⟨rfl, trivial⟩
theorem c_X12_scanNumber {G : GG} {l : Launch} {r : Unit} {M M' : Mem}  (h : f_X12_scanNumber  M = some (r, M')) : Met l yX12_scanNumber (wsO yX12_scanNumber cX12_scanNumber 1 none) (rmO 2) (PcO G [.ref (G.2.1 (10, 0, 0))] M) (QvO G (AA G) M') 0 0 (AA G) :=
  met_of (own := RX12) rfl (by decide +kernel) (Nat.le_of_ble_eq_true rfl) (fun p e s m args below meth c X hr => t_X12_scanNumber X hr  h)
-- ConverterScannerModel.next
def f_X12_next_26 (r0 : Mem → Option (Unit × Mem))  (M : Mem) : Option (Unit × Mem) :=
  nm (uI M (10, 0, 0) 10 ((M.1 (10, 0, 0) 10) + 1)) (fun M1 => r0  M1)
set_option maxHeartbeats 4000000 in
set_option maxRecDepth 100000 in
theorem t_X12_next_26 {G : GG} {A : Nat → Prop} {p : Program} {l : Launch} {e : Env} {s : State} {m : MethodId} {args : Array Value} {below : List Frame} {meth : Method} {c : Code} {r : Unit} {M' : Mem} (X : Cx G A p s m args meth c RX12 cX12_next 1) (hr : meth.sig.returnType = none) {r0 : Mem → Option (Unit × Mem)} (hr0 : ∀  (M : Mem), r0  M = some (r, M') → T G A p l e (rmO 3) s m args below meth c 1 0 0 (MQ below (QvO G A M') args s 0 0 A) 0 [(0, .ref (G.2.1 (10, 0, 0)))] [] M) {M : Mem}  (h : f_X12_next_26 r0 M = some (r, M')) : T G A p l e (rmO 3) s m args below meth c 1 0 0 (MQ below (QvO G A M') args s 0 0 A) 26 [(0, .ref (G.2.1 (10, 0, 0)))] [] M := by
  unfold f_X12_next_26 at h
  refine r_aload_n (pc := 26) X dX12_next_26 rfl ?_
  refine r_dup (pc := 27) X dX12_next_27 rfl ?_
  refine r_getI (pc := 28) X ⟨(ltb rfl), (ltb rfl)⟩ fl_X12_116 rfl dX12_next_28 ?_
  refine r_iconst (pc := 31) X (v := 1) dX12_next_31 (by decide) ?_
  refine r_iadd (pc := 32) X dX12_next_32 ?_
  refine r_putIN (pc := 33) X ⟨(ltb rfl), (ltb rfl)⟩ fp_X12_116 rfl dX12_next_33 h (fun M1 h => ?_)
  refine r_goto (pc := 36) X (tgt := 0) dX12_next_36 (by decide) ?_
  exact T_sub (hr0 _ h) ⟨rfl, trivial⟩
def f_X12_next_0 : Nat → Mem → Option (Unit × Mem)
  | 0 => fun  _ => none
  | n + 1 => fun  M => bnd (f_X12_byteAt (M.1 (10, 0, 0) 10) M) (fun r1 M2 => if r1 = 32 then f_X12_next_26 (f_X12_next_0 n)  M2 else bnd (f_X12_byteAt (M2.1 (10, 0, 0) 10) M2) (fun r4 M5 => if r4 = 10 then f_X12_next_26 (f_X12_next_0 n)  M5 else nm (uI M5 (10, 0, 0) 12 (M5.1 (10, 0, 0) 10)) (fun M7 => nm (uI M7 (10, 0, 0) 15 (-1)) (fun M8 => bnd (f_X12_byteAt (M8.1 (10, 0, 0) 10) M8) (fun r9 M10 => if 0 ≤ r9 then bnd (f_X12_isLetter (M10.1 (10, 0, 0) 10) M10) (fun r12 M13 => if r12 = 0 then bnd (f_X12_isDigit (M13.1 (10, 0, 0) 10) M13) (fun r15 M16 => if r15 = 0 then nm (uI M16 (10, 0, 0) 11 3) (fun M18 => bnd (f_X12_byteAt (M18.1 (10, 0, 0) 10) M18) (fun r19 M20 => nm (uI M20 (10, 0, 0) 14 r19) (fun M22 => nm (uI M22 (10, 0, 0) 10 ((M22.1 (10, 0, 0) 10) + 1)) (fun M23 => some ((), M23))))) else bnd (f_X12_scanNumber  M16) (fun r24 M25 => some ((), M25))) else bnd (f_X12_scanWord  M13) (fun r27 M28 => some ((), M28))) else nm (uI M10 (10, 0, 0) 11 0) (fun M30 => some ((), M30)))))))
set_option maxHeartbeats 4000000 in
set_option maxRecDepth 100000 in
theorem t_X12_next_0 {G : GG} {A : Nat → Prop} {p : Program} {l : Launch} {e : Env} {s : State} {m : MethodId} {args : Array Value} {below : List Frame} {meth : Method} {c : Code} {r : Unit} {M' : Mem} (X : Cx G A p s m args meth c RX12 cX12_next 1) (hr : meth.sig.returnType = none) : ∀ (n : Nat)  (M : Mem), f_X12_next_0 n  M = some (r, M') → T G A p l e (rmO 3) s m args below meth c 1 0 0 (MQ below (QvO G A M') args s 0 0 A) 0 [(0, .ref (G.2.1 (10, 0, 0)))] [] M := by
  intro n
  induction n with
  | zero =>
    intro  M  h
    cases h
  | succ n ih =>
    intro  M  h
    unfold f_X12_next_0 at h
    refine r_aload_n (pc := 0) X dX12_next_0 rfl ?_
    refine r_aload_n (pc := 1) X dX12_next_1 rfl ?_
    refine r_getI (pc := 2) X ⟨(ltb rfl), (ltb rfl)⟩ fl_X12_116 rfl dX12_next_2 ?_
    refine bndE h (fun r1 M2 h3 h => ?_)
    refine r_callVi1 (pc := 5) X ⟨(ltb rfl), (ltb rfl)⟩ rfl vy_X12_byteAt my_X12_byteAt ml_X12_260 ⟨Nat.le_of_ble_eq_true rfl, Nat.le_of_ble_eq_true rfl, Nat.le_of_ble_eq_true rfl, Nat.le_of_ble_eq_true rfl⟩ (c_X12_byteAt  h3) (Nat.le_of_ble_eq_true rfl) dX12_next_5 ?_
    refine r_bipush (pc := 8) X (v := 32) dX12_next_8 (by decide) ?_
    refine r_icmp_eq (pc := 10) X (tgt := 26) dX12_next_10 (by decide) h (fun h => ?_) (fun h => ?_)
    · exact T_sub (t_X12_next_26 X hr ih h) ⟨rfl, trivial⟩
    · refine r_aload_n (pc := 13) X dX12_next_13 rfl ?_
      refine r_aload_n (pc := 14) X dX12_next_14 rfl ?_
      refine r_getI (pc := 15) X ⟨(ltb rfl), (ltb rfl)⟩ fl_X12_116 rfl dX12_next_15 ?_
      refine bndE h (fun r4 M5 h6 h => ?_)
      refine r_callVi1 (pc := 18) X ⟨(ltb rfl), (ltb rfl)⟩ rfl vy_X12_byteAt my_X12_byteAt ml_X12_260 ⟨Nat.le_of_ble_eq_true rfl, Nat.le_of_ble_eq_true rfl, Nat.le_of_ble_eq_true rfl, Nat.le_of_ble_eq_true rfl⟩ (c_X12_byteAt  h6) (Nat.le_of_ble_eq_true rfl) dX12_next_18 ?_
      refine r_bipush (pc := 21) X (v := 10) dX12_next_21 (by decide) ?_
      refine r_icmp_ne (pc := 23) X (tgt := 39) dX12_next_23 (by decide) h (fun h => ?_) (fun h => ?_)
      · refine r_aload_n (pc := 39) X dX12_next_39 rfl ?_
        refine r_aload_n (pc := 40) X dX12_next_40 rfl ?_
        refine r_getI (pc := 41) X ⟨(ltb rfl), (ltb rfl)⟩ fl_X12_116 rfl dX12_next_41 ?_
        refine r_putIN (pc := 44) X ⟨(ltb rfl), (ltb rfl)⟩ fp_X12_122 rfl dX12_next_44 h (fun M7 h => ?_)
        refine r_aload_n (pc := 47) X dX12_next_47 rfl ?_
        refine r_iconst (pc := 48) X (v := (-1)) dX12_next_48 (by decide) ?_
        refine r_putIN (pc := 49) X ⟨(ltb rfl), (ltb rfl)⟩ fp_X12_131 rfl dX12_next_49 h (fun M8 h => ?_)
        refine r_aload_n (pc := 52) X dX12_next_52 rfl ?_
        refine r_aload_n (pc := 53) X dX12_next_53 rfl ?_
        refine r_getI (pc := 54) X ⟨(ltb rfl), (ltb rfl)⟩ fl_X12_116 rfl dX12_next_54 ?_
        refine bndE h (fun r9 M10 h11 h => ?_)
        refine r_callVi1 (pc := 57) X ⟨(ltb rfl), (ltb rfl)⟩ rfl vy_X12_byteAt my_X12_byteAt ml_X12_260 ⟨Nat.le_of_ble_eq_true rfl, Nat.le_of_ble_eq_true rfl, Nat.le_of_ble_eq_true rfl, Nat.le_of_ble_eq_true rfl⟩ (c_X12_byteAt  h11) (Nat.le_of_ble_eq_true rfl) dX12_next_57 ?_
        refine r_if_ge (pc := 60) X (tgt := 71) dX12_next_60 (by decide) h (fun h => ?_) (fun h => ?_)
        · refine r_aload_n (pc := 71) X dX12_next_71 rfl ?_
          refine r_aload_n (pc := 72) X dX12_next_72 rfl ?_
          refine r_getI (pc := 73) X ⟨(ltb rfl), (ltb rfl)⟩ fl_X12_116 rfl dX12_next_73 ?_
          refine bndE h (fun r12 M13 h14 h => ?_)
          refine r_callVi1 (pc := 76) X ⟨(ltb rfl), (ltb rfl)⟩ rfl vy_X12_isLetter my_X12_isLetter ml_X12_263 ⟨Nat.le_of_ble_eq_true rfl, Nat.le_of_ble_eq_true rfl, Nat.le_of_ble_eq_true rfl, Nat.le_of_ble_eq_true rfl⟩ (c_X12_isLetter  h14) (Nat.le_of_ble_eq_true rfl) dX12_next_76 ?_
          refine r_if_eq (pc := 79) X (tgt := 89) dX12_next_79 (by decide) h (fun h => ?_) (fun h => ?_)
          · refine r_aload_n (pc := 89) X dX12_next_89 rfl ?_
            refine r_aload_n (pc := 90) X dX12_next_90 rfl ?_
            refine r_getI (pc := 91) X ⟨(ltb rfl), (ltb rfl)⟩ fl_X12_116 rfl dX12_next_91 ?_
            refine bndE h (fun r15 M16 h17 h => ?_)
            refine r_callVi1 (pc := 94) X ⟨(ltb rfl), (ltb rfl)⟩ rfl vy_X12_isDigit my_X12_isDigit ml_X12_270 ⟨Nat.le_of_ble_eq_true rfl, Nat.le_of_ble_eq_true rfl, Nat.le_of_ble_eq_true rfl, Nat.le_of_ble_eq_true rfl⟩ (c_X12_isDigit  h17) (Nat.le_of_ble_eq_true rfl) dX12_next_94 ?_
            refine r_if_eq (pc := 97) X (tgt := 107) dX12_next_97 (by decide) h (fun h => ?_) (fun h => ?_)
            · refine r_aload_n (pc := 107) X dX12_next_107 rfl ?_
              refine r_iconst (pc := 108) X (v := 3) dX12_next_108 (by decide) ?_
              refine r_putIN (pc := 109) X ⟨(ltb rfl), (ltb rfl)⟩ fp_X12_119 rfl dX12_next_109 h (fun M18 h => ?_)
              refine r_aload_n (pc := 112) X dX12_next_112 rfl ?_
              refine r_aload_n (pc := 113) X dX12_next_113 rfl ?_
              refine r_aload_n (pc := 114) X dX12_next_114 rfl ?_
              refine r_getI (pc := 115) X ⟨(ltb rfl), (ltb rfl)⟩ fl_X12_116 rfl dX12_next_115 ?_
              refine bndE h (fun r19 M20 h21 h => ?_)
              refine r_callVi1 (pc := 118) X ⟨(ltb rfl), (ltb rfl)⟩ rfl vy_X12_byteAt my_X12_byteAt ml_X12_260 ⟨Nat.le_of_ble_eq_true rfl, Nat.le_of_ble_eq_true rfl, Nat.le_of_ble_eq_true rfl, Nat.le_of_ble_eq_true rfl⟩ (c_X12_byteAt  h21) (Nat.le_of_ble_eq_true rfl) dX12_next_118 ?_
              refine r_putIN (pc := 121) X ⟨(ltb rfl), (ltb rfl)⟩ fp_X12_128 rfl dX12_next_121 h (fun M22 h => ?_)
              refine r_aload_n (pc := 124) X dX12_next_124 rfl ?_
              refine r_dup (pc := 125) X dX12_next_125 rfl ?_
              refine r_getI (pc := 126) X ⟨(ltb rfl), (ltb rfl)⟩ fl_X12_116 rfl dX12_next_126 ?_
              refine r_iconst (pc := 129) X (v := 1) dX12_next_129 (by decide) ?_
              refine r_iadd (pc := 130) X dX12_next_130 ?_
              refine r_putIN (pc := 131) X ⟨(ltb rfl), (ltb rfl)⟩ fp_X12_116 rfl dX12_next_131 h (fun M23 h => ?_)
              cases h
              exact r_vret (pc := 134) X hr dX12_next_134
            · refine r_aload_n (pc := 100) X dX12_next_100 rfl ?_
              refine bndE h (fun r24 M25 h26 h => ?_)
              refine r_callVv0 (pc := 101) X ⟨(ltb rfl), (ltb rfl)⟩ rfl vy_X12_scanNumber my_X12_scanNumber ml_X12_276 ⟨Nat.le_of_ble_eq_true rfl, Nat.le_of_ble_eq_true rfl, Nat.le_of_ble_eq_true rfl, Nat.le_of_ble_eq_true rfl⟩ (c_X12_scanNumber  h26) (Nat.le_of_ble_eq_true rfl) dX12_next_101 ?_
              refine r_goto (pc := 104) X (tgt := 134) dX12_next_104 (by decide) ?_
              cases h
              exact r_vret (pc := 134) X hr dX12_next_134
          · refine r_aload_n (pc := 82) X dX12_next_82 rfl ?_
            refine bndE h (fun r27 M28 h29 h => ?_)
            refine r_callVv0 (pc := 83) X ⟨(ltb rfl), (ltb rfl)⟩ rfl vy_X12_scanWord my_X12_scanWord ml_X12_273 ⟨Nat.le_of_ble_eq_true rfl, Nat.le_of_ble_eq_true rfl, Nat.le_of_ble_eq_true rfl, Nat.le_of_ble_eq_true rfl⟩ (c_X12_scanWord  h29) (Nat.le_of_ble_eq_true rfl) dX12_next_83 ?_
            refine r_goto (pc := 86) X (tgt := 134) dX12_next_86 (by decide) ?_
            cases h
            exact r_vret (pc := 134) X hr dX12_next_134
        · refine r_aload_n (pc := 63) X dX12_next_63 rfl ?_
          refine r_iconst (pc := 64) X (v := 0) dX12_next_64 (by decide) ?_
          refine r_putIN (pc := 65) X ⟨(ltb rfl), (ltb rfl)⟩ fp_X12_119 rfl dX12_next_65 h (fun M30 h => ?_)
          refine r_goto (pc := 68) X (tgt := 134) dX12_next_68 (by decide) ?_
          cases h
          exact r_vret (pc := 134) X hr dX12_next_134
      · exact T_sub (t_X12_next_26 X hr ih h) ⟨rfl, trivial⟩
def f_X12_next  (M : Mem) : Option (Unit × Mem) := f_X12_next_0 fuelN  M
theorem c_X12_next {G : GG} {l : Launch} {r : Unit} {M M' : Mem}  (h : f_X12_next  M = some (r, M')) : Met l yX12_next (wsO yX12_next cX12_next 1 none) (rmO 3) (PcO G [.ref (G.2.1 (10, 0, 0))] M) (QvO G (AA G) M') 0 0 (AA G) :=
  met_of (own := RX12) rfl (by decide +kernel) (Nat.le_of_ble_eq_true rfl) (fun p e s m args below meth c X hr => t_X12_next_0 X hr fuelN  _  h)
-- ConverterScannerModel.ok
def f_X12_ok  (M : Mem) : Option (Int32 × Mem) :=
  if (M.1 (10, 0, 0) 16) = 0 then some (1, M) else some (0, M)
set_option maxHeartbeats 4000000 in
set_option maxRecDepth 100000 in
theorem t_X12_ok {G : GG} {A : Nat → Prop} {p : Program} {l : Launch} {e : Env} {s : State} {m : MethodId} {args : Array Value} {below : List Frame} {meth : Method} {c : Code} {r : Int32} {M' : Mem} (X : Cx G A p s m args meth c RX12 cX12_ok 1) (hr : meth.sig.returnType = some .boolean) {M : Mem}  (h : f_X12_ok M = some (r, M')) : T G A p l e (rmO 0) s m args below meth c 1 0 0 (MQ below (QiO G A r M') args s 0 0 A) 0 [(0, .ref (G.2.1 (10, 0, 0)))] [] M := by
  unfold f_X12_ok at h
  refine r_aload_n (pc := 0) X dX12_ok_0 rfl ?_
  refine r_getI (pc := 1) X ⟨(ltb rfl), (ltb rfl)⟩ fl_X12_134 rfl dX12_ok_1 ?_
  refine r_if_ne (pc := 4) X (tgt := 11) dX12_ok_4 (by decide) h (fun h => ?_) (fun h => ?_)
  · refine r_iconst (pc := 11) X (v := 0) dX12_ok_11 (by decide) ?_
    cases h
    exact r_zretc (pc := 12) X hr (by decide +kernel) dX12_ok_12
  · refine r_iconst (pc := 7) X (v := 1) dX12_ok_7 (by decide) ?_
    refine r_goto (pc := 8) X (tgt := 12) dX12_ok_8 (by decide) ?_
    cases h
    exact r_zretc (pc := 12) X hr (by decide +kernel) dX12_ok_12
theorem c_X12_ok {G : GG} {l : Launch} {r : Int32} {M M' : Mem}  (h : f_X12_ok  M = some (r, M')) : Met l yX12_ok (wsO yX12_ok cX12_ok 1 (some .boolean)) (rmO 0) (PcO G [.ref (G.2.1 (10, 0, 0))] M) (QiO G (AA G) r M') 0 0 (AA G) :=
  met_of (own := RX12) rfl (by decide +kernel) (Nat.le_of_ble_eq_true rfl) (fun p e s m args below meth c X hr => t_X12_ok X hr  h)
-- ConverterScannerModel.fail
def f_X12_fail (x1 : Int32) (M : Mem) : Option (Unit × Mem) :=
  if (M.1 (10, 0, 0) 16) = 0 then nm (uI M (10, 0, 0) 16 x1) (fun M1 => nm (uI M1 (10, 0, 0) 17 (M1.1 (10, 0, 0) 12)) (fun M2 => some ((), M2))) else some ((), M)
set_option maxHeartbeats 4000000 in
set_option maxRecDepth 100000 in
theorem t_X12_fail {G : GG} {A : Nat → Prop} {p : Program} {l : Launch} {e : Env} {s : State} {m : MethodId} {args : Array Value} {below : List Frame} {meth : Method} {c : Code} {r : Unit} {M' : Mem} (X : Cx G A p s m args meth c RX12 cX12_fail 2) (hr : meth.sig.returnType = none) {x1 : Int32} {M : Mem}  (h : f_X12_fail x1 M = some (r, M')) : T G A p l e (rmO 0) s m args below meth c 2 0 0 (MQ below (QvO G A M') args s 0 0 A) 0 [(0, .ref (G.2.1 (10, 0, 0))), (1, .int x1)] [] M := by
  unfold f_X12_fail at h
  refine r_aload_n (pc := 0) X dX12_fail_0 rfl ?_
  refine r_getI (pc := 1) X ⟨(ltb rfl), (ltb rfl)⟩ fl_X12_134 rfl dX12_fail_1 ?_
  refine r_if_eq (pc := 4) X (tgt := 8) dX12_fail_4 (by decide) h (fun h => ?_) (fun h => ?_)
  · refine r_aload_n (pc := 8) X dX12_fail_8 rfl ?_
    refine r_iload_n (pc := 9) X dX12_fail_9 rfl ?_
    refine r_putIN (pc := 10) X ⟨(ltb rfl), (ltb rfl)⟩ fp_X12_134 rfl dX12_fail_10 h (fun M1 h => ?_)
    refine r_aload_n (pc := 13) X dX12_fail_13 rfl ?_
    refine r_aload_n (pc := 14) X dX12_fail_14 rfl ?_
    refine r_getI (pc := 15) X ⟨(ltb rfl), (ltb rfl)⟩ fl_X12_122 rfl dX12_fail_15 ?_
    refine r_putIN (pc := 18) X ⟨(ltb rfl), (ltb rfl)⟩ fp_X12_137 rfl dX12_fail_18 h (fun M2 h => ?_)
    cases h
    exact r_vret (pc := 21) X hr dX12_fail_21
  · cases h
    exact r_vret (pc := 7) X hr dX12_fail_7
theorem c_X12_fail {G : GG} {l : Launch} {x1 : Int32} {r : Unit} {M M' : Mem}  (h : f_X12_fail x1 M = some (r, M')) : Met l yX12_fail (wsO yX12_fail cX12_fail 2 none) (rmO 0) (PcO G [.ref (G.2.1 (10, 0, 0)), .int x1] M) (QvO G (AA G) M') 0 0 (AA G) :=
  met_of (own := RX12) rfl (by decide +kernel) (Nat.le_of_ble_eq_true rfl) (fun p e s m args below meth c X hr => t_X12_fail X hr  h)
-- ConverterScannerModel.isKeyword
def f_X12_isKeyword_20  (M : Mem) : Option (Int32 × Mem) :=
  some (0, M)
set_option maxHeartbeats 4000000 in
set_option maxRecDepth 100000 in
theorem t_X12_isKeyword_20 {G : GG} {A : Nat → Prop} {p : Program} {l : Launch} {e : Env} {s : State} {m : MethodId} {args : Array Value} {below : List Frame} {meth : Method} {c : Code} {r : Int32} {M' : Mem} (X : Cx G A p s m args meth c RX12 cX12_isKeyword 2) (hr : meth.sig.returnType = some .boolean) {M : Mem}  (h : f_X12_isKeyword_20 M = some (r, M')) : T G A p l e (rmO 0) s m args below meth c 2 0 0 (MQ below (QiO G A r M') args s 0 0 A) 20 [] [] M := by
  unfold f_X12_isKeyword_20 at h
  refine r_iconst (pc := 20) X (v := 0) dX12_isKeyword_20 (by decide) ?_
  cases h
  exact r_zretc (pc := 21) X hr (by decide +kernel) dX12_isKeyword_21
def f_X12_isKeyword (x1 : Int32) (M : Mem) : Option (Int32 × Mem) :=
  if (M.1 (10, 0, 0) 11) = 1 then if (M.1 (10, 0, 0) 15) = x1 then some (1, M) else f_X12_isKeyword_20  M else f_X12_isKeyword_20  M
set_option maxHeartbeats 4000000 in
set_option maxRecDepth 100000 in
theorem t_X12_isKeyword {G : GG} {A : Nat → Prop} {p : Program} {l : Launch} {e : Env} {s : State} {m : MethodId} {args : Array Value} {below : List Frame} {meth : Method} {c : Code} {r : Int32} {M' : Mem} (X : Cx G A p s m args meth c RX12 cX12_isKeyword 2) (hr : meth.sig.returnType = some .boolean) {x1 : Int32} {M : Mem}  (h : f_X12_isKeyword x1 M = some (r, M')) : T G A p l e (rmO 0) s m args below meth c 2 0 0 (MQ below (QiO G A r M') args s 0 0 A) 0 [(0, .ref (G.2.1 (10, 0, 0))), (1, .int x1)] [] M := by
  unfold f_X12_isKeyword at h
  refine r_aload_n (pc := 0) X dX12_isKeyword_0 rfl ?_
  refine r_getI (pc := 1) X ⟨(ltb rfl), (ltb rfl)⟩ fl_X12_119 rfl dX12_isKeyword_1 ?_
  refine r_iconst (pc := 4) X (v := 1) dX12_isKeyword_4 (by decide) ?_
  refine r_icmp_ne (pc := 5) X (tgt := 20) dX12_isKeyword_5 (by decide) h (fun h => ?_) (fun h => ?_)
  · exact T_sub (t_X12_isKeyword_20 X hr h) trivial
  · refine r_aload_n (pc := 8) X dX12_isKeyword_8 rfl ?_
    refine r_getI (pc := 9) X ⟨(ltb rfl), (ltb rfl)⟩ fl_X12_131 rfl dX12_isKeyword_9 ?_
    refine r_iload_n (pc := 12) X dX12_isKeyword_12 rfl ?_
    refine r_icmp_ne (pc := 13) X (tgt := 20) dX12_isKeyword_13 (by decide) h (fun h => ?_) (fun h => ?_)
    · exact T_sub (t_X12_isKeyword_20 X hr h) trivial
    · refine r_iconst (pc := 16) X (v := 1) dX12_isKeyword_16 (by decide) ?_
      refine r_goto (pc := 17) X (tgt := 21) dX12_isKeyword_17 (by decide) ?_
      cases h
      exact r_zretc (pc := 21) X hr (by decide +kernel) dX12_isKeyword_21
theorem c_X12_isKeyword {G : GG} {l : Launch} {x1 : Int32} {r : Int32} {M M' : Mem}  (h : f_X12_isKeyword x1 M = some (r, M')) : Met l yX12_isKeyword (wsO yX12_isKeyword cX12_isKeyword 2 (some .boolean)) (rmO 0) (PcO G [.ref (G.2.1 (10, 0, 0)), .int x1] M) (QiO G (AA G) r M') 0 0 (AA G) :=
  met_of (own := RX12) rfl (by decide +kernel) (Nat.le_of_ble_eq_true rfl) (fun p e s m args below meth c X hr => t_X12_isKeyword X hr  h)
-- ConverterScannerModel.isSign
def f_X12_isSign_20  (M : Mem) : Option (Int32 × Mem) :=
  some (0, M)
set_option maxHeartbeats 4000000 in
set_option maxRecDepth 100000 in
theorem t_X12_isSign_20 {G : GG} {A : Nat → Prop} {p : Program} {l : Launch} {e : Env} {s : State} {m : MethodId} {args : Array Value} {below : List Frame} {meth : Method} {c : Code} {r : Int32} {M' : Mem} (X : Cx G A p s m args meth c RX12 cX12_isSign 2) (hr : meth.sig.returnType = some .boolean) {M : Mem}  (h : f_X12_isSign_20 M = some (r, M')) : T G A p l e (rmO 0) s m args below meth c 2 0 0 (MQ below (QiO G A r M') args s 0 0 A) 20 [] [] M := by
  unfold f_X12_isSign_20 at h
  refine r_iconst (pc := 20) X (v := 0) dX12_isSign_20 (by decide) ?_
  cases h
  exact r_zretc (pc := 21) X hr (by decide +kernel) dX12_isSign_21
def f_X12_isSign (x1 : Int32) (M : Mem) : Option (Int32 × Mem) :=
  if (M.1 (10, 0, 0) 11) = 3 then if (M.1 (10, 0, 0) 14) = x1 then some (1, M) else f_X12_isSign_20  M else f_X12_isSign_20  M
set_option maxHeartbeats 4000000 in
set_option maxRecDepth 100000 in
theorem t_X12_isSign {G : GG} {A : Nat → Prop} {p : Program} {l : Launch} {e : Env} {s : State} {m : MethodId} {args : Array Value} {below : List Frame} {meth : Method} {c : Code} {r : Int32} {M' : Mem} (X : Cx G A p s m args meth c RX12 cX12_isSign 2) (hr : meth.sig.returnType = some .boolean) {x1 : Int32} {M : Mem}  (h : f_X12_isSign x1 M = some (r, M')) : T G A p l e (rmO 0) s m args below meth c 2 0 0 (MQ below (QiO G A r M') args s 0 0 A) 0 [(0, .ref (G.2.1 (10, 0, 0))), (1, .int x1)] [] M := by
  unfold f_X12_isSign at h
  refine r_aload_n (pc := 0) X dX12_isSign_0 rfl ?_
  refine r_getI (pc := 1) X ⟨(ltb rfl), (ltb rfl)⟩ fl_X12_119 rfl dX12_isSign_1 ?_
  refine r_iconst (pc := 4) X (v := 3) dX12_isSign_4 (by decide) ?_
  refine r_icmp_ne (pc := 5) X (tgt := 20) dX12_isSign_5 (by decide) h (fun h => ?_) (fun h => ?_)
  · exact T_sub (t_X12_isSign_20 X hr h) trivial
  · refine r_aload_n (pc := 8) X dX12_isSign_8 rfl ?_
    refine r_getI (pc := 9) X ⟨(ltb rfl), (ltb rfl)⟩ fl_X12_128 rfl dX12_isSign_9 ?_
    refine r_iload_n (pc := 12) X dX12_isSign_12 rfl ?_
    refine r_icmp_ne (pc := 13) X (tgt := 20) dX12_isSign_13 (by decide) h (fun h => ?_) (fun h => ?_)
    · exact T_sub (t_X12_isSign_20 X hr h) trivial
    · refine r_iconst (pc := 16) X (v := 1) dX12_isSign_16 (by decide) ?_
      refine r_goto (pc := 17) X (tgt := 21) dX12_isSign_17 (by decide) ?_
      cases h
      exact r_zretc (pc := 21) X hr (by decide +kernel) dX12_isSign_21
theorem c_X12_isSign {G : GG} {l : Launch} {x1 : Int32} {r : Int32} {M M' : Mem}  (h : f_X12_isSign x1 M = some (r, M')) : Met l yX12_isSign (wsO yX12_isSign cX12_isSign 2 (some .boolean)) (rmO 0) (PcO G [.ref (G.2.1 (10, 0, 0)), .int x1] M) (QiO G (AA G) r M') 0 0 (AA G) :=
  met_of (own := RX12) rfl (by decide +kernel) (Nat.le_of_ble_eq_true rfl) (fun p e s m args below meth c X hr => t_X12_isSign X hr  h)
-- ConverterScannerModel.accepts
def f_X12_accepts_20 (xs0 : Int32) (M : Mem) : Option (Int32 × Mem) :=
  if xs0 = 0 then if ¬ (xs0 = 0 ∨ xs0 = 1) then none else some (xs0, M) else bnd (f_X12_next  M) (fun r1 M2 => if ¬ (xs0 = 0 ∨ xs0 = 1) then none else some (xs0, M2))
set_option maxHeartbeats 4000000 in
set_option maxRecDepth 100000 in
theorem t_X12_accepts_20 {G : GG} {A : Nat → Prop} {p : Program} {l : Launch} {e : Env} {s : State} {m : MethodId} {args : Array Value} {below : List Frame} {meth : Method} {c : Code} {r : Int32} {M' : Mem} (X : Cx G A p s m args meth c RX12 cX12_accepts 3) (hr : meth.sig.returnType = some .boolean) {xs0 : Int32} {M : Mem}  (h : f_X12_accepts_20 xs0 M = some (r, M')) : T G A p l e (rmO 4) s m args below meth c 3 0 0 (MQ below (QiO G A r M') args s 0 0 A) 20 [(0, .ref (G.2.1 (10, 0, 0)))] [.int xs0] M := by
  unfold f_X12_accepts_20 at h
  refine r_istore_n (pc := 20) X (by decide) dX12_accepts_20 ?_
  refine r_iload_n (pc := 21) X dX12_accepts_21 rfl ?_
  refine r_if_eq (pc := 22) X (tgt := 29) dX12_accepts_22 (by decide) h (fun h => ?_) (fun h => ?_)
  · refine r_iload_n (pc := 29) X dX12_accepts_29 rfl ?_
    exact r_zret (pc := 30) X hr dX12_accepts_30 h
  · refine r_aload_n (pc := 25) X dX12_accepts_25 rfl ?_
    refine bndE h (fun r1 M2 h3 h => ?_)
    refine r_callVv0 (pc := 26) X ⟨(ltb rfl), (ltb rfl)⟩ rfl vy_X12_next my_X12_next ml_X12_286 ⟨Nat.le_of_ble_eq_true rfl, Nat.le_of_ble_eq_true rfl, Nat.le_of_ble_eq_true rfl, Nat.le_of_ble_eq_true rfl⟩ (c_X12_next  h3) (Nat.le_of_ble_eq_true rfl) dX12_accepts_26 ?_
    refine r_iload_n (pc := 29) X dX12_accepts_29 rfl ?_
    exact r_zret (pc := 30) X hr dX12_accepts_30 h
def f_X12_accepts_19  (M : Mem) : Option (Int32 × Mem) :=
  f_X12_accepts_20 0 M
set_option maxHeartbeats 4000000 in
set_option maxRecDepth 100000 in
theorem t_X12_accepts_19 {G : GG} {A : Nat → Prop} {p : Program} {l : Launch} {e : Env} {s : State} {m : MethodId} {args : Array Value} {below : List Frame} {meth : Method} {c : Code} {r : Int32} {M' : Mem} (X : Cx G A p s m args meth c RX12 cX12_accepts 3) (hr : meth.sig.returnType = some .boolean) {M : Mem}  (h : f_X12_accepts_19 M = some (r, M')) : T G A p l e (rmO 4) s m args below meth c 3 0 0 (MQ below (QiO G A r M') args s 0 0 A) 19 [(0, .ref (G.2.1 (10, 0, 0)))] [] M := by
  unfold f_X12_accepts_19 at h
  refine r_iconst (pc := 19) X (v := 0) dX12_accepts_19 (by decide) ?_
  exact T_sub (t_X12_accepts_20 X hr h) ⟨rfl, trivial⟩
def f_X12_accepts (x1 : Int32) (M : Mem) : Option (Int32 × Mem) :=
  bnd (f_X12_ok  M) (fun r1 M2 => if r1 = 0 then f_X12_accepts_19  M2 else bnd (f_X12_isKeyword x1 M2) (fun r4 M5 => if r4 = 0 then f_X12_accepts_19  M5 else f_X12_accepts_20 1 M5))
set_option maxHeartbeats 4000000 in
set_option maxRecDepth 100000 in
theorem t_X12_accepts {G : GG} {A : Nat → Prop} {p : Program} {l : Launch} {e : Env} {s : State} {m : MethodId} {args : Array Value} {below : List Frame} {meth : Method} {c : Code} {r : Int32} {M' : Mem} (X : Cx G A p s m args meth c RX12 cX12_accepts 3) (hr : meth.sig.returnType = some .boolean) {x1 : Int32} {M : Mem}  (h : f_X12_accepts x1 M = some (r, M')) : T G A p l e (rmO 4) s m args below meth c 3 0 0 (MQ below (QiO G A r M') args s 0 0 A) 0 [(0, .ref (G.2.1 (10, 0, 0))), (1, .int x1)] [] M := by
  unfold f_X12_accepts at h
  refine r_aload_n (pc := 0) X dX12_accepts_0 rfl ?_
  refine bndE h (fun r1 M2 h3 h => ?_)
  refine r_callVi0 (pc := 1) X ⟨(ltb rfl), (ltb rfl)⟩ rfl vy_X12_ok my_X12_ok ml_X12_279 ⟨Nat.le_of_ble_eq_true rfl, Nat.le_of_ble_eq_true rfl, Nat.le_of_ble_eq_true rfl, Nat.le_of_ble_eq_true rfl⟩ (c_X12_ok  h3) (Nat.le_of_ble_eq_true rfl) dX12_accepts_1 ?_
  refine r_if_eq (pc := 4) X (tgt := 19) dX12_accepts_4 (by decide) h (fun h => ?_) (fun h => ?_)
  · exact T_sub (t_X12_accepts_19 X hr h) ⟨rfl, trivial⟩
  · refine r_aload_n (pc := 7) X dX12_accepts_7 rfl ?_
    refine r_iload_n (pc := 8) X dX12_accepts_8 rfl ?_
    refine bndE h (fun r4 M5 h6 h => ?_)
    refine r_callVi1 (pc := 9) X ⟨(ltb rfl), (ltb rfl)⟩ rfl vy_X12_isKeyword my_X12_isKeyword ml_X12_283 ⟨Nat.le_of_ble_eq_true rfl, Nat.le_of_ble_eq_true rfl, Nat.le_of_ble_eq_true rfl, Nat.le_of_ble_eq_true rfl⟩ (c_X12_isKeyword  h6) (Nat.le_of_ble_eq_true rfl) dX12_accepts_9 ?_
    refine r_if_eq (pc := 12) X (tgt := 19) dX12_accepts_12 (by decide) h (fun h => ?_) (fun h => ?_)
    · exact T_sub (t_X12_accepts_19 X hr h) ⟨rfl, trivial⟩
    · refine r_iconst (pc := 15) X (v := 1) dX12_accepts_15 (by decide) ?_
      refine r_goto (pc := 16) X (tgt := 20) dX12_accepts_16 (by decide) ?_
      exact T_sub (t_X12_accepts_20 X hr h) ⟨rfl, trivial⟩
theorem c_X12_accepts {G : GG} {l : Launch} {x1 : Int32} {r : Int32} {M M' : Mem}  (h : f_X12_accepts x1 M = some (r, M')) : Met l yX12_accepts (wsO yX12_accepts cX12_accepts 3 (some .boolean)) (rmO 4) (PcO G [.ref (G.2.1 (10, 0, 0)), .int x1] M) (QiO G (AA G) r M') 0 0 (AA G) :=
  met_of (own := RX12) rfl (by decide +kernel) (Nat.le_of_ble_eq_true rfl) (fun p e s m args below meth c X hr => t_X12_accepts X hr  h)
-- ConverterScannerModel.require
def f_X12_require (x1 : Int32) (M : Mem) : Option (Unit × Mem) :=
  bnd (f_X12_ok  M) (fun r1 M2 => if r1 = 0 then some ((), M2) else bnd (f_X12_accepts x1 M2) (fun r4 M5 => if r4 = 0 then bnd (f_X12_fail 1 M5) (fun r7 M8 => some ((), M8)) else some ((), M5)))
set_option maxHeartbeats 4000000 in
set_option maxRecDepth 100000 in
theorem t_X12_require {G : GG} {A : Nat → Prop} {p : Program} {l : Launch} {e : Env} {s : State} {m : MethodId} {args : Array Value} {below : List Frame} {meth : Method} {c : Code} {r : Unit} {M' : Mem} (X : Cx G A p s m args meth c RX12 cX12_require 2) (hr : meth.sig.returnType = none) {x1 : Int32} {M : Mem}  (h : f_X12_require x1 M = some (r, M')) : T G A p l e (rmO 5) s m args below meth c 2 0 0 (MQ below (QvO G A M') args s 0 0 A) 0 [(0, .ref (G.2.1 (10, 0, 0))), (1, .int x1)] [] M := by
  unfold f_X12_require at h
  refine r_aload_n (pc := 0) X dX12_require_0 rfl ?_
  refine bndE h (fun r1 M2 h3 h => ?_)
  refine r_callVi0 (pc := 1) X ⟨(ltb rfl), (ltb rfl)⟩ rfl vy_X12_ok my_X12_ok ml_X12_279 ⟨Nat.le_of_ble_eq_true rfl, Nat.le_of_ble_eq_true rfl, Nat.le_of_ble_eq_true rfl, Nat.le_of_ble_eq_true rfl⟩ (c_X12_ok  h3) (Nat.le_of_ble_eq_true rfl) dX12_require_1 ?_
  refine r_if_eq (pc := 4) X (tgt := 20) dX12_require_4 (by decide) h (fun h => ?_) (fun h => ?_)
  · cases h
    exact r_vret (pc := 20) X hr dX12_require_20
  · refine r_aload_n (pc := 7) X dX12_require_7 rfl ?_
    refine r_iload_n (pc := 8) X dX12_require_8 rfl ?_
    refine bndE h (fun r4 M5 h6 h => ?_)
    refine r_callVi1 (pc := 9) X ⟨(ltb rfl), (ltb rfl)⟩ rfl vy_X12_accepts my_X12_accepts ml_X12_289 ⟨Nat.le_of_ble_eq_true rfl, Nat.le_of_ble_eq_true rfl, Nat.le_of_ble_eq_true rfl, Nat.le_of_ble_eq_true rfl⟩ (c_X12_accepts  h6) (Nat.le_of_ble_eq_true rfl) dX12_require_9 ?_
    refine r_if_ne (pc := 12) X (tgt := 20) dX12_require_12 (by decide) h (fun h => ?_) (fun h => ?_)
    · cases h
      exact r_vret (pc := 20) X hr dX12_require_20
    · refine r_aload_n (pc := 15) X dX12_require_15 rfl ?_
      refine r_iconst (pc := 16) X (v := 1) dX12_require_16 (by decide) ?_
      refine bndE h (fun r7 M8 h9 h => ?_)
      refine r_callVv1 (pc := 17) X ⟨(ltb rfl), (ltb rfl)⟩ rfl vy_X12_fail my_X12_fail ml_X12_292 ⟨Nat.le_of_ble_eq_true rfl, Nat.le_of_ble_eq_true rfl, Nat.le_of_ble_eq_true rfl, Nat.le_of_ble_eq_true rfl⟩ (c_X12_fail  h9) (Nat.le_of_ble_eq_true rfl) dX12_require_17 ?_
      cases h
      exact r_vret (pc := 20) X hr dX12_require_20
theorem c_X12_require {G : GG} {l : Launch} {x1 : Int32} {r : Unit} {M M' : Mem}  (h : f_X12_require x1 M = some (r, M')) : Met l yX12_require (wsO yX12_require cX12_require 2 none) (rmO 5) (PcO G [.ref (G.2.1 (10, 0, 0)), .int x1] M) (QvO G (AA G) M') 0 0 (AA G) :=
  met_of (own := RX12) rfl (by decide +kernel) (Nat.le_of_ble_eq_true rfl) (fun p e s m args below meth c X hr => t_X12_require X hr  h)
