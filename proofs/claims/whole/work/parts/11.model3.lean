-- ConverterScannerModel.readNumber
def f_X12_readNumber_58 (x1 : Int32) (x3 : Int32) (M : Mem) : Option (Int32 × Mem) :=
  bnd (f_X12_ok  M) (fun r1 M2 => if r1 = 0 then some (x1, M2) else some (x3, M2))
set_option maxHeartbeats 4000000 in
set_option maxRecDepth 100000 in
theorem t_X12_readNumber_58 {G : GG} {A : Nat → Prop} {p : Program} {l : Launch} {e : Env} {s : State} {m : MethodId} {args : Array Value} {below : List Frame} {meth : Method} {c : Code} {r : Int32} {M' : Mem} (X : Cx G A p s m args meth c RX12 cX12_readNumber 4) (hr : meth.sig.returnType = some .int) {x1 : Int32} {x3 : Int32} {M : Mem}  (h : f_X12_readNumber_58 x1 x3 M = some (r, M')) : T G A p l e (rmO 4) s m args below meth c 4 0 0 (MQ below (QiO G A r M') args s 0 0 A) 58 [(0, .ref (G.2.1 (10, 0, 0))), (1, .int x1), (3, .int x3)] [] M := by
  unfold f_X12_readNumber_58 at h
  refine r_aload_n (pc := 58) X dX12_readNumber_58 rfl ?_
  refine bndE h (fun r1 M2 h3 h => ?_)
  refine r_callVi0 (pc := 59) X ⟨(ltb rfl), (ltb rfl)⟩ rfl vy_X12_ok my_X12_ok ml_X12_279 ⟨Nat.le_of_ble_eq_true rfl, Nat.le_of_ble_eq_true rfl, Nat.le_of_ble_eq_true rfl, Nat.le_of_ble_eq_true rfl⟩ (c_X12_ok  h3) (Nat.le_of_ble_eq_true rfl) dX12_readNumber_59 ?_
  refine r_if_eq (pc := 62) X (tgt := 69) dX12_readNumber_62 (by decide) h (fun h => ?_) (fun h => ?_)
  · refine r_iload_n (pc := 69) X dX12_readNumber_69 rfl ?_
    cases h
    exact r_iret (pc := 70) X hr dX12_readNumber_70
  · refine r_iload_n (pc := 65) X dX12_readNumber_65 rfl ?_
    refine r_goto (pc := 66) X (tgt := 70) dX12_readNumber_66 (by decide) ?_
    cases h
    exact r_iret (pc := 70) X hr dX12_readNumber_70
def f_X12_readNumber_42 (x1 : Int32) (M : Mem) : Option (Int32 × Mem) :=
  nm (M.1 (10, 0, 0) 13) (fun e1 => bnd (f_X12_ok  M) (fun r2 M3 => if r2 = 0 then f_X12_readNumber_58 x1 e1 M3 else bnd (f_X12_next  M3) (fun r5 M6 => f_X12_readNumber_58 x1 e1 M6)))
set_option maxHeartbeats 4000000 in
set_option maxRecDepth 100000 in
theorem t_X12_readNumber_42 {G : GG} {A : Nat → Prop} {p : Program} {l : Launch} {e : Env} {s : State} {m : MethodId} {args : Array Value} {below : List Frame} {meth : Method} {c : Code} {r : Int32} {M' : Mem} (X : Cx G A p s m args meth c RX12 cX12_readNumber 4) (hr : meth.sig.returnType = some .int) {x1 : Int32} {M : Mem}  (h : f_X12_readNumber_42 x1 M = some (r, M')) : T G A p l e (rmO 4) s m args below meth c 4 0 0 (MQ below (QiO G A r M') args s 0 0 A) 42 [(0, .ref (G.2.1 (10, 0, 0))), (1, .int x1)] [] M := by
  unfold f_X12_readNumber_42 at h
  refine r_aload_n (pc := 42) X dX12_readNumber_42 rfl ?_
  refine r_getI (pc := 43) X ⟨(ltb rfl), (ltb rfl)⟩ fl_X12_125 rfl dX12_readNumber_43 ?_
  refine r_istore_nN (pc := 46) X (by decide) dX12_readNumber_46 h (fun e1 h => ?_)
  refine r_aload_n (pc := 47) X dX12_readNumber_47 rfl ?_
  refine bndE h (fun r2 M3 h4 h => ?_)
  refine r_callVi0 (pc := 48) X ⟨(ltb rfl), (ltb rfl)⟩ rfl vy_X12_ok my_X12_ok ml_X12_279 ⟨Nat.le_of_ble_eq_true rfl, Nat.le_of_ble_eq_true rfl, Nat.le_of_ble_eq_true rfl, Nat.le_of_ble_eq_true rfl⟩ (c_X12_ok  h4) (Nat.le_of_ble_eq_true rfl) dX12_readNumber_48 ?_
  refine r_if_eq (pc := 51) X (tgt := 58) dX12_readNumber_51 (by decide) h (fun h => ?_) (fun h => ?_)
  · exact T_sub (t_X12_readNumber_58 X hr h) ⟨rfl, rfl, rfl, trivial⟩
  · refine r_aload_n (pc := 54) X dX12_readNumber_54 rfl ?_
    refine bndE h (fun r5 M6 h7 h => ?_)
    refine r_callVv0 (pc := 55) X ⟨(ltb rfl), (ltb rfl)⟩ rfl vy_X12_next my_X12_next ml_X12_286 ⟨Nat.le_of_ble_eq_true rfl, Nat.le_of_ble_eq_true rfl, Nat.le_of_ble_eq_true rfl, Nat.le_of_ble_eq_true rfl⟩ (c_X12_next  h7) (Nat.le_of_ble_eq_true rfl) dX12_readNumber_55 ?_
    exact T_sub (t_X12_readNumber_58 X hr h) ⟨rfl, rfl, rfl, trivial⟩
def f_X12_readNumber (x1 : Int32) (x2 : Int32) (M : Mem) : Option (Int32 × Mem) :=
  bnd (f_X12_ok  M) (fun r1 M2 => if r1 = 0 then some (x1, M2) else if (M2.1 (10, 0, 0) 11) = 2 then bnd (f_X12_inRange (M2.1 (10, 0, 0) 13) x1 x2 M2) (fun r4 M5 => if r4 = 0 then bnd (f_X12_fail 2 M5) (fun r7 M8 => f_X12_readNumber_42 x1 M8) else f_X12_readNumber_42 x1 M5) else bnd (f_X12_fail 1 M2) (fun r10 M11 => f_X12_readNumber_42 x1 M11))
set_option maxHeartbeats 4000000 in
set_option maxRecDepth 100000 in
theorem t_X12_readNumber {G : GG} {A : Nat → Prop} {p : Program} {l : Launch} {e : Env} {s : State} {m : MethodId} {args : Array Value} {below : List Frame} {meth : Method} {c : Code} {r : Int32} {M' : Mem} (X : Cx G A p s m args meth c RX12 cX12_readNumber 4) (hr : meth.sig.returnType = some .int) {x1 : Int32} {x2 : Int32} {M : Mem}  (h : f_X12_readNumber x1 x2 M = some (r, M')) : T G A p l e (rmO 4) s m args below meth c 4 0 0 (MQ below (QiO G A r M') args s 0 0 A) 0 [(0, .ref (G.2.1 (10, 0, 0))), (1, .int x1), (2, .int x2)] [] M := by
  unfold f_X12_readNumber at h
  refine r_aload_n (pc := 0) X dX12_readNumber_0 rfl ?_
  refine bndE h (fun r1 M2 h3 h => ?_)
  refine r_callVi0 (pc := 1) X ⟨(ltb rfl), (ltb rfl)⟩ rfl vy_X12_ok my_X12_ok ml_X12_279 ⟨Nat.le_of_ble_eq_true rfl, Nat.le_of_ble_eq_true rfl, Nat.le_of_ble_eq_true rfl, Nat.le_of_ble_eq_true rfl⟩ (c_X12_ok  h3) (Nat.le_of_ble_eq_true rfl) dX12_readNumber_1 ?_
  refine r_if_ne (pc := 4) X (tgt := 9) dX12_readNumber_4 (by decide) h (fun h => ?_) (fun h => ?_)
  · refine r_aload_n (pc := 9) X dX12_readNumber_9 rfl ?_
    refine r_getI (pc := 10) X ⟨(ltb rfl), (ltb rfl)⟩ fl_X12_119 rfl dX12_readNumber_10 ?_
    refine r_iconst (pc := 13) X (v := 2) dX12_readNumber_13 (by decide) ?_
    refine r_icmp_eq (pc := 14) X (tgt := 25) dX12_readNumber_14 (by decide) h (fun h => ?_) (fun h => ?_)
    · refine r_aload_n (pc := 25) X dX12_readNumber_25 rfl ?_
      refine r_getI (pc := 26) X ⟨(ltb rfl), (ltb rfl)⟩ fl_X12_125 rfl dX12_readNumber_26 ?_
      refine r_iload_n (pc := 29) X dX12_readNumber_29 rfl ?_
      refine r_iload_n (pc := 30) X dX12_readNumber_30 rfl ?_
      refine bndE h (fun r4 M5 h6 h => ?_)
      refine r_callSi3 (pc := 31) X sy_X12_inRange my_X12_inRange ml_X12_22 ⟨Nat.le_of_ble_eq_true rfl, Nat.le_of_ble_eq_true rfl, Nat.le_of_ble_eq_true rfl, Nat.le_of_ble_eq_true rfl⟩ (c_X12_inRange  h6) (Nat.le_of_ble_eq_true rfl) dX12_readNumber_31 ?_
      refine r_if_ne (pc := 34) X (tgt := 42) dX12_readNumber_34 (by decide) h (fun h => ?_) (fun h => ?_)
      · exact T_sub (t_X12_readNumber_42 X hr h) ⟨rfl, rfl, trivial⟩
      · refine r_aload_n (pc := 37) X dX12_readNumber_37 rfl ?_
        refine r_iconst (pc := 38) X (v := 2) dX12_readNumber_38 (by decide) ?_
        refine bndE h (fun r7 M8 h9 h => ?_)
        refine r_callVv1 (pc := 39) X ⟨(ltb rfl), (ltb rfl)⟩ rfl vy_X12_fail my_X12_fail ml_X12_292 ⟨Nat.le_of_ble_eq_true rfl, Nat.le_of_ble_eq_true rfl, Nat.le_of_ble_eq_true rfl, Nat.le_of_ble_eq_true rfl⟩ (c_X12_fail  h9) (Nat.le_of_ble_eq_true rfl) dX12_readNumber_39 ?_
        exact T_sub (t_X12_readNumber_42 X hr h) ⟨rfl, rfl, trivial⟩
    · refine r_aload_n (pc := 17) X dX12_readNumber_17 rfl ?_
      refine r_iconst (pc := 18) X (v := 1) dX12_readNumber_18 (by decide) ?_
      refine bndE h (fun r10 M11 h12 h => ?_)
      refine r_callVv1 (pc := 19) X ⟨(ltb rfl), (ltb rfl)⟩ rfl vy_X12_fail my_X12_fail ml_X12_292 ⟨Nat.le_of_ble_eq_true rfl, Nat.le_of_ble_eq_true rfl, Nat.le_of_ble_eq_true rfl, Nat.le_of_ble_eq_true rfl⟩ (c_X12_fail  h12) (Nat.le_of_ble_eq_true rfl) dX12_readNumber_19 ?_
      refine r_goto (pc := 22) X (tgt := 42) dX12_readNumber_22 (by decide) ?_
      exact T_sub (t_X12_readNumber_42 X hr h) ⟨rfl, rfl, trivial⟩
  · refine r_iload_n (pc := 7) X dX12_readNumber_7 rfl ?_
    cases h
    exact r_iret (pc := 8) X hr dX12_readNumber_8
theorem c_X12_readNumber {G : GG} {l : Launch} {x1 : Int32} {x2 : Int32} {r : Int32} {M M' : Mem}  (h : f_X12_readNumber x1 x2 M = some (r, M')) : Met l yX12_readNumber (wsO yX12_readNumber cX12_readNumber 4 (some .int)) (rmO 4) (PcO G [.ref (G.2.1 (10, 0, 0)), .int x1, .int x2] M) (QiO G (AA G) r M') 0 0 (AA G) :=
  met_of (own := RX12) rfl (by decide +kernel) (Nat.le_of_ble_eq_true rfl) (fun p e s m args below meth c X hr => t_X12_readNumber X hr  h)
-- ConverterScannerModel.readSigned
def f_X12_readSigned_30 (x1 : Int32) (x2 : Int32) (M : Mem) : Option (Int32 × Mem) :=
  bnd (f_X12_readNumber 0 x1 M) (fun r1 M2 => if x2 = 0 then some (r1, M2) else some ((-r1), M2))
set_option maxHeartbeats 4000000 in
set_option maxRecDepth 100000 in
theorem t_X12_readSigned_30 {G : GG} {A : Nat → Prop} {p : Program} {l : Launch} {e : Env} {s : State} {m : MethodId} {args : Array Value} {below : List Frame} {meth : Method} {c : Code} {r : Int32} {M' : Mem} (X : Cx G A p s m args meth c RX12 cX12_readSigned 4) (hr : meth.sig.returnType = some .int) {x1 : Int32} {x2 : Int32} {M : Mem}  (h : f_X12_readSigned_30 x1 x2 M = some (r, M')) : T G A p l e (rmO 5) s m args below meth c 4 0 0 (MQ below (QiO G A r M') args s 0 0 A) 30 [(0, .ref (G.2.1 (10, 0, 0))), (1, .int x1), (2, .int x2)] [] M := by
  unfold f_X12_readSigned_30 at h
  refine r_aload_n (pc := 30) X dX12_readSigned_30 rfl ?_
  refine r_iconst (pc := 31) X (v := 0) dX12_readSigned_31 (by decide) ?_
  refine r_iload_n (pc := 32) X dX12_readSigned_32 rfl ?_
  refine bndE h (fun r1 M2 h3 h => ?_)
  refine r_callVi2 (pc := 33) X ⟨(ltb rfl), (ltb rfl)⟩ rfl vy_X12_readNumber my_X12_readNumber ml_X12_298 ⟨Nat.le_of_ble_eq_true rfl, Nat.le_of_ble_eq_true rfl, Nat.le_of_ble_eq_true rfl, Nat.le_of_ble_eq_true rfl⟩ (c_X12_readNumber  h3) (Nat.le_of_ble_eq_true rfl) dX12_readSigned_33 ?_
  refine r_istore_n (pc := 36) X (by decide) dX12_readSigned_36 ?_
  refine r_iload_n (pc := 37) X dX12_readSigned_37 rfl ?_
  refine r_if_eq (pc := 38) X (tgt := 46) dX12_readSigned_38 (by decide) h (fun h => ?_) (fun h => ?_)
  · refine r_iload_n (pc := 46) X dX12_readSigned_46 rfl ?_
    cases h
    exact r_iret (pc := 47) X hr dX12_readSigned_47
  · refine r_iload_n (pc := 41) X dX12_readSigned_41 rfl ?_
    refine r_ineg (pc := 42) X dX12_readSigned_42 ?_
    refine r_goto (pc := 43) X (tgt := 47) dX12_readSigned_43 (by decide) ?_
    cases h
    exact r_iret (pc := 47) X hr dX12_readSigned_47
def f_X12_readSigned_21 (x1 : Int32) (xs0 : Int32) (M : Mem) : Option (Int32 × Mem) :=
  if xs0 = 0 then f_X12_readSigned_30 x1 xs0 M else bnd (f_X12_next  M) (fun r1 M2 => f_X12_readSigned_30 x1 xs0 M2)
set_option maxHeartbeats 4000000 in
set_option maxRecDepth 100000 in
theorem t_X12_readSigned_21 {G : GG} {A : Nat → Prop} {p : Program} {l : Launch} {e : Env} {s : State} {m : MethodId} {args : Array Value} {below : List Frame} {meth : Method} {c : Code} {r : Int32} {M' : Mem} (X : Cx G A p s m args meth c RX12 cX12_readSigned 4) (hr : meth.sig.returnType = some .int) {x1 : Int32} {xs0 : Int32} {M : Mem}  (h : f_X12_readSigned_21 x1 xs0 M = some (r, M')) : T G A p l e (rmO 5) s m args below meth c 4 0 0 (MQ below (QiO G A r M') args s 0 0 A) 21 [(0, .ref (G.2.1 (10, 0, 0))), (1, .int x1)] [.int xs0] M := by
  unfold f_X12_readSigned_21 at h
  refine r_istore_n (pc := 21) X (by decide) dX12_readSigned_21 ?_
  refine r_iload_n (pc := 22) X dX12_readSigned_22 rfl ?_
  refine r_if_eq (pc := 23) X (tgt := 30) dX12_readSigned_23 (by decide) h (fun h => ?_) (fun h => ?_)
  · exact T_sub (t_X12_readSigned_30 X hr h) ⟨rfl, rfl, rfl, trivial⟩
  · refine r_aload_n (pc := 26) X dX12_readSigned_26 rfl ?_
    refine bndE h (fun r1 M2 h3 h => ?_)
    refine r_callVv0 (pc := 27) X ⟨(ltb rfl), (ltb rfl)⟩ rfl vy_X12_next my_X12_next ml_X12_286 ⟨Nat.le_of_ble_eq_true rfl, Nat.le_of_ble_eq_true rfl, Nat.le_of_ble_eq_true rfl, Nat.le_of_ble_eq_true rfl⟩ (c_X12_next  h3) (Nat.le_of_ble_eq_true rfl) dX12_readSigned_27 ?_
    exact T_sub (t_X12_readSigned_30 X hr h) ⟨rfl, rfl, rfl, trivial⟩
def f_X12_readSigned_20 (x1 : Int32) (M : Mem) : Option (Int32 × Mem) :=
  f_X12_readSigned_21 x1 0 M
set_option maxHeartbeats 4000000 in
set_option maxRecDepth 100000 in
theorem t_X12_readSigned_20 {G : GG} {A : Nat → Prop} {p : Program} {l : Launch} {e : Env} {s : State} {m : MethodId} {args : Array Value} {below : List Frame} {meth : Method} {c : Code} {r : Int32} {M' : Mem} (X : Cx G A p s m args meth c RX12 cX12_readSigned 4) (hr : meth.sig.returnType = some .int) {x1 : Int32} {M : Mem}  (h : f_X12_readSigned_20 x1 M = some (r, M')) : T G A p l e (rmO 5) s m args below meth c 4 0 0 (MQ below (QiO G A r M') args s 0 0 A) 20 [(0, .ref (G.2.1 (10, 0, 0))), (1, .int x1)] [] M := by
  unfold f_X12_readSigned_20 at h
  refine r_iconst (pc := 20) X (v := 0) dX12_readSigned_20 (by decide) ?_
  exact T_sub (t_X12_readSigned_21 X hr h) ⟨rfl, rfl, trivial⟩
def f_X12_readSigned (x1 : Int32) (M : Mem) : Option (Int32 × Mem) :=
  bnd (f_X12_ok  M) (fun r1 M2 => if r1 = 0 then f_X12_readSigned_20 x1 M2 else bnd (f_X12_isSign 45 M2) (fun r4 M5 => if r4 = 0 then f_X12_readSigned_20 x1 M5 else f_X12_readSigned_21 x1 1 M5))
set_option maxHeartbeats 4000000 in
set_option maxRecDepth 100000 in
theorem t_X12_readSigned {G : GG} {A : Nat → Prop} {p : Program} {l : Launch} {e : Env} {s : State} {m : MethodId} {args : Array Value} {below : List Frame} {meth : Method} {c : Code} {r : Int32} {M' : Mem} (X : Cx G A p s m args meth c RX12 cX12_readSigned 4) (hr : meth.sig.returnType = some .int) {x1 : Int32} {M : Mem}  (h : f_X12_readSigned x1 M = some (r, M')) : T G A p l e (rmO 5) s m args below meth c 4 0 0 (MQ below (QiO G A r M') args s 0 0 A) 0 [(0, .ref (G.2.1 (10, 0, 0))), (1, .int x1)] [] M := by
  unfold f_X12_readSigned at h
  refine r_aload_n (pc := 0) X dX12_readSigned_0 rfl ?_
  refine bndE h (fun r1 M2 h3 h => ?_)
  refine r_callVi0 (pc := 1) X ⟨(ltb rfl), (ltb rfl)⟩ rfl vy_X12_ok my_X12_ok ml_X12_279 ⟨Nat.le_of_ble_eq_true rfl, Nat.le_of_ble_eq_true rfl, Nat.le_of_ble_eq_true rfl, Nat.le_of_ble_eq_true rfl⟩ (c_X12_ok  h3) (Nat.le_of_ble_eq_true rfl) dX12_readSigned_1 ?_
  refine r_if_eq (pc := 4) X (tgt := 20) dX12_readSigned_4 (by decide) h (fun h => ?_) (fun h => ?_)
  · exact T_sub (t_X12_readSigned_20 X hr h) ⟨rfl, rfl, trivial⟩
  · refine r_aload_n (pc := 7) X dX12_readSigned_7 rfl ?_
    refine r_bipush (pc := 8) X (v := 45) dX12_readSigned_8 (by decide) ?_
    refine bndE h (fun r4 M5 h6 h => ?_)
    refine r_callVi1 (pc := 10) X ⟨(ltb rfl), (ltb rfl)⟩ rfl vy_X12_isSign my_X12_isSign ml_X12_295 ⟨Nat.le_of_ble_eq_true rfl, Nat.le_of_ble_eq_true rfl, Nat.le_of_ble_eq_true rfl, Nat.le_of_ble_eq_true rfl⟩ (c_X12_isSign  h6) (Nat.le_of_ble_eq_true rfl) dX12_readSigned_10 ?_
    refine r_if_eq (pc := 13) X (tgt := 20) dX12_readSigned_13 (by decide) h (fun h => ?_) (fun h => ?_)
    · exact T_sub (t_X12_readSigned_20 X hr h) ⟨rfl, rfl, trivial⟩
    · refine r_iconst (pc := 16) X (v := 1) dX12_readSigned_16 (by decide) ?_
      refine r_goto (pc := 17) X (tgt := 21) dX12_readSigned_17 (by decide) ?_
      exact T_sub (t_X12_readSigned_21 X hr h) ⟨rfl, rfl, trivial⟩
theorem c_X12_readSigned {G : GG} {l : Launch} {x1 : Int32} {r : Int32} {M M' : Mem}  (h : f_X12_readSigned x1 M = some (r, M')) : Met l yX12_readSigned (wsO yX12_readSigned cX12_readSigned 4 (some .int)) (rmO 5) (PcO G [.ref (G.2.1 (10, 0, 0)), .int x1] M) (QiO G (AA G) r M') 0 0 (AA G) :=
  met_of (own := RX12) rfl (by decide +kernel) (Nat.le_of_ble_eq_true rfl) (fun p e s m args below meth c X hr => t_X12_readSigned X hr  h)
-- ConverterScannerModel.errorCode
def f_X12_errorCode  (M : Mem) : Option (Int32 × Mem) :=
  nm (uI M (10, 0, 0) 0 0) (fun M1 => some ((M1.1 (10, 0, 0) 16), M1))
set_option maxHeartbeats 4000000 in
set_option maxRecDepth 100000 in
theorem t_X12_errorCode {G : GG} {A : Nat → Prop} {p : Program} {l : Launch} {e : Env} {s : State} {m : MethodId} {args : Array Value} {below : List Frame} {meth : Method} {c : Code} {r : Int32} {M' : Mem} (X : Cx G A p s m args meth c RX12 cX12_errorCode 1) (hr : meth.sig.returnType = some .int) {M : Mem}  (h : f_X12_errorCode M = some (r, M')) : T G A p l e (rmO 0) s m args below meth c 1 0 0 (MQ below (QiO G A r M') args s 0 0 A) 0 [(0, .ref (G.2.1 (10, 0, 0)))] [] M := by
  unfold f_X12_errorCode at h
  refine r_aload_n (pc := 0) X dX12_errorCode_0 rfl ?_
  refine r_iconst (pc := 1) X (v := 0) dX12_errorCode_1 (by decide) ?_
  refine r_putIN (pc := 2) X ⟨(ltb rfl), (ltb rfl)⟩ fp_X12_1 rfl dX12_errorCode_2 h (fun M1 h => ?_)
  refine r_aload_n (pc := 5) X dX12_errorCode_5 rfl ?_
  refine r_getI (pc := 6) X ⟨(ltb rfl), (ltb rfl)⟩ fl_X12_134 rfl dX12_errorCode_6 ?_
  cases h
  exact r_iret (pc := 9) X hr dX12_errorCode_9
theorem c_X12_errorCode {G : GG} {l : Launch} {r : Int32} {M M' : Mem}  (h : f_X12_errorCode  M = some (r, M')) : Met l yX12_errorCode (wsO yX12_errorCode cX12_errorCode 1 (some .int)) (rmO 0) (PcO G [.ref (G.2.1 (10, 0, 0))] M) (QiO G (AA G) r M') 0 0 (AA G) :=
  met_of (own := RX12) rfl (by decide +kernel) (Nat.le_of_ble_eq_true rfl) (fun p e s m args below meth c X hr => t_X12_errorCode X hr  h)
-- ConverterScannerModel.errorPosition
def f_X12_errorPosition  (M : Mem) : Option (Int32 × Mem) :=
  nm (uI M (10, 0, 0) 0 0) (fun M1 => some ((M1.1 (10, 0, 0) 17), M1))
set_option maxHeartbeats 4000000 in
set_option maxRecDepth 100000 in
theorem t_X12_errorPosition {G : GG} {A : Nat → Prop} {p : Program} {l : Launch} {e : Env} {s : State} {m : MethodId} {args : Array Value} {below : List Frame} {meth : Method} {c : Code} {r : Int32} {M' : Mem} (X : Cx G A p s m args meth c RX12 cX12_errorPosition 1) (hr : meth.sig.returnType = some .int) {M : Mem}  (h : f_X12_errorPosition M = some (r, M')) : T G A p l e (rmO 0) s m args below meth c 1 0 0 (MQ below (QiO G A r M') args s 0 0 A) 0 [(0, .ref (G.2.1 (10, 0, 0)))] [] M := by
  unfold f_X12_errorPosition at h
  refine r_aload_n (pc := 0) X dX12_errorPosition_0 rfl ?_
  refine r_iconst (pc := 1) X (v := 0) dX12_errorPosition_1 (by decide) ?_
  refine r_putIN (pc := 2) X ⟨(ltb rfl), (ltb rfl)⟩ fp_X12_1 rfl dX12_errorPosition_2 h (fun M1 h => ?_)
  refine r_aload_n (pc := 5) X dX12_errorPosition_5 rfl ?_
  refine r_getI (pc := 6) X ⟨(ltb rfl), (ltb rfl)⟩ fl_X12_137 rfl dX12_errorPosition_6 ?_
  cases h
  exact r_iret (pc := 9) X hr dX12_errorPosition_9
theorem c_X12_errorPosition {G : GG} {l : Launch} {r : Int32} {M M' : Mem}  (h : f_X12_errorPosition  M = some (r, M')) : Met l yX12_errorPosition (wsO yX12_errorPosition cX12_errorPosition 1 (some .int)) (rmO 0) (PcO G [.ref (G.2.1 (10, 0, 0))] M) (QiO G (AA G) r M') 0 0 (AA G) :=
  met_of (own := RX12) rfl (by decide +kernel) (Nat.le_of_ble_eq_true rfl) (fun p e s m args below meth c X hr => t_X12_errorPosition X hr  h)
-- ConverterScannerModel.drafts
def f_X12_drafts (x0 : Int32) (M : Mem) : Option (Int32 × Mem) :=
  some ((52 + x0), M)
set_option maxHeartbeats 4000000 in
set_option maxRecDepth 100000 in
theorem t_X12_drafts {G : GG} {A : Nat → Prop} {p : Program} {l : Launch} {e : Env} {s : State} {m : MethodId} {args : Array Value} {below : List Frame} {meth : Method} {c : Code} {r : Int32} {M' : Mem} (X : Cx G A p s m args meth c RX12 cX12_drafts 1) (hr : meth.sig.returnType = some .int) {x0 : Int32} {M : Mem}  (h : f_X12_drafts x0 M = some (r, M')) : T G A p l e (rmO 0) s m args below meth c 1 0 0 (MQ below (QiO G A r M') args s 0 0 A) 0 [(0, .int x0)] [] M := by
  unfold f_X12_drafts at h
  refine r_bipush (pc := 0) X (v := 52) dX12_drafts_0 (by decide) ?_
  refine r_iload_n (pc := 2) X dX12_drafts_2 rfl ?_
  refine r_iadd (pc := 3) X dX12_drafts_3 ?_
  cases h
  exact r_iret (pc := 4) X hr dX12_drafts_4
theorem c_X12_drafts {G : GG} {l : Launch} {x0 : Int32} {r : Int32} {M M' : Mem}  (h : f_X12_drafts x0 M = some (r, M')) : Met l yX12_drafts (wsO yX12_drafts cX12_drafts 1 (some .int)) (rmO 0) (PcO G [.int x0] M) (QiO G (AA G) r M') 0 0 (AA G) :=
  met_of (own := RX12) rfl (by decide +kernel) (Nat.le_of_ble_eq_true rfl) (fun p e s m args below meth c X hr => t_X12_drafts X hr  h)
-- ConverterScannerModel.readOnce
def f_X12_readOnce (x1 : Int32) (x2 : Int32) (M : Mem) : Option (Int32 × Mem) :=
  bnd (f_X12_ok  M) (fun r1 M2 => if r1 = 0 then some (0, M2) else if (M2.1 (10, 0, 0) 11) = 2 then if x1 < (M2.1 (10, 0, 0) 13) then bnd (f_X12_readNumber 0 x1 M2) (fun r7 M8 => some (r7, M8)) else if x2 = 0 then bnd (f_X12_readNumber 0 x1 M2) (fun r10 M11 => some (r10, M11)) else bnd (f_X12_fail 3 M2) (fun r13 M14 => bnd (f_X12_readNumber 0 x1 M14) (fun r16 M17 => some (r16, M17))) else bnd (f_X12_readNumber 0 x1 M2) (fun r4 M5 => some (r4, M5)))
set_option maxHeartbeats 4000000 in
set_option maxRecDepth 100000 in
theorem t_X12_readOnce {G : GG} {A : Nat → Prop} {p : Program} {l : Launch} {e : Env} {s : State} {m : MethodId} {args : Array Value} {below : List Frame} {meth : Method} {c : Code} {r : Int32} {M' : Mem} (X : Cx G A p s m args meth c RX12 cX12_readOnce 3) (hr : meth.sig.returnType = some .int) {x1 : Int32} {x2 : Int32} {M : Mem}  (h : f_X12_readOnce x1 x2 M = some (r, M')) : T G A p l e (rmO 5) s m args below meth c 3 0 0 (MQ below (QiO G A r M') args s 0 0 A) 0 [(0, .ref (G.2.1 (10, 0, 0))), (1, .int x1), (2, .int x2)] [] M := by
  unfold f_X12_readOnce at h
  refine r_aload_n (pc := 0) X dX12_readOnce_0 rfl ?_
  refine bndE h (fun r1 M2 h3 h => ?_)
  refine r_callVi0 (pc := 1) X ⟨(ltb rfl), (ltb rfl)⟩ rfl vy_X12_ok my_X12_ok ml_X12_279 ⟨Nat.le_of_ble_eq_true rfl, Nat.le_of_ble_eq_true rfl, Nat.le_of_ble_eq_true rfl, Nat.le_of_ble_eq_true rfl⟩ (c_X12_ok  h3) (Nat.le_of_ble_eq_true rfl) dX12_readOnce_1 ?_
  refine r_if_ne (pc := 4) X (tgt := 9) dX12_readOnce_4 (by decide) h (fun h => ?_) (fun h => ?_)
  · refine r_aload_n (pc := 9) X dX12_readOnce_9 rfl ?_
    refine r_getI (pc := 10) X ⟨(ltb rfl), (ltb rfl)⟩ fl_X12_119 rfl dX12_readOnce_10 ?_
    refine r_iconst (pc := 13) X (v := 2) dX12_readOnce_13 (by decide) ?_
    refine r_icmp_ne (pc := 14) X (tgt := 34) dX12_readOnce_14 (by decide) h (fun h => ?_) (fun h => ?_)
    · refine r_aload_n (pc := 34) X dX12_readOnce_34 rfl ?_
      refine r_iconst (pc := 35) X (v := 0) dX12_readOnce_35 (by decide) ?_
      refine r_iload_n (pc := 36) X dX12_readOnce_36 rfl ?_
      refine bndE h (fun r4 M5 h6 h => ?_)
      refine r_callVi2 (pc := 37) X ⟨(ltb rfl), (ltb rfl)⟩ rfl vy_X12_readNumber my_X12_readNumber ml_X12_298 ⟨Nat.le_of_ble_eq_true rfl, Nat.le_of_ble_eq_true rfl, Nat.le_of_ble_eq_true rfl, Nat.le_of_ble_eq_true rfl⟩ (c_X12_readNumber  h6) (Nat.le_of_ble_eq_true rfl) dX12_readOnce_37 ?_
      cases h
      exact r_iret (pc := 40) X hr dX12_readOnce_40
    · refine r_aload_n (pc := 17) X dX12_readOnce_17 rfl ?_
      refine r_getI (pc := 18) X ⟨(ltb rfl), (ltb rfl)⟩ fl_X12_125 rfl dX12_readOnce_18 ?_
      refine r_iload_n (pc := 21) X dX12_readOnce_21 rfl ?_
      refine r_icmp_gt (pc := 22) X (tgt := 34) dX12_readOnce_22 (by decide) h (fun h => ?_) (fun h => ?_)
      · refine r_aload_n (pc := 34) X dX12_readOnce_34 rfl ?_
        refine r_iconst (pc := 35) X (v := 0) dX12_readOnce_35 (by decide) ?_
        refine r_iload_n (pc := 36) X dX12_readOnce_36 rfl ?_
        refine bndE h (fun r7 M8 h9 h => ?_)
        refine r_callVi2 (pc := 37) X ⟨(ltb rfl), (ltb rfl)⟩ rfl vy_X12_readNumber my_X12_readNumber ml_X12_298 ⟨Nat.le_of_ble_eq_true rfl, Nat.le_of_ble_eq_true rfl, Nat.le_of_ble_eq_true rfl, Nat.le_of_ble_eq_true rfl⟩ (c_X12_readNumber  h9) (Nat.le_of_ble_eq_true rfl) dX12_readOnce_37 ?_
        cases h
        exact r_iret (pc := 40) X hr dX12_readOnce_40
      · refine r_iload_n (pc := 25) X dX12_readOnce_25 rfl ?_
        refine r_if_eq (pc := 26) X (tgt := 34) dX12_readOnce_26 (by decide) h (fun h => ?_) (fun h => ?_)
        · refine r_aload_n (pc := 34) X dX12_readOnce_34 rfl ?_
          refine r_iconst (pc := 35) X (v := 0) dX12_readOnce_35 (by decide) ?_
          refine r_iload_n (pc := 36) X dX12_readOnce_36 rfl ?_
          refine bndE h (fun r10 M11 h12 h => ?_)
          refine r_callVi2 (pc := 37) X ⟨(ltb rfl), (ltb rfl)⟩ rfl vy_X12_readNumber my_X12_readNumber ml_X12_298 ⟨Nat.le_of_ble_eq_true rfl, Nat.le_of_ble_eq_true rfl, Nat.le_of_ble_eq_true rfl, Nat.le_of_ble_eq_true rfl⟩ (c_X12_readNumber  h12) (Nat.le_of_ble_eq_true rfl) dX12_readOnce_37 ?_
          cases h
          exact r_iret (pc := 40) X hr dX12_readOnce_40
        · refine r_aload_n (pc := 29) X dX12_readOnce_29 rfl ?_
          refine r_iconst (pc := 30) X (v := 3) dX12_readOnce_30 (by decide) ?_
          refine bndE h (fun r13 M14 h15 h => ?_)
          refine r_callVv1 (pc := 31) X ⟨(ltb rfl), (ltb rfl)⟩ rfl vy_X12_fail my_X12_fail ml_X12_292 ⟨Nat.le_of_ble_eq_true rfl, Nat.le_of_ble_eq_true rfl, Nat.le_of_ble_eq_true rfl, Nat.le_of_ble_eq_true rfl⟩ (c_X12_fail  h15) (Nat.le_of_ble_eq_true rfl) dX12_readOnce_31 ?_
          refine r_aload_n (pc := 34) X dX12_readOnce_34 rfl ?_
          refine r_iconst (pc := 35) X (v := 0) dX12_readOnce_35 (by decide) ?_
          refine r_iload_n (pc := 36) X dX12_readOnce_36 rfl ?_
          refine bndE h (fun r16 M17 h18 h => ?_)
          refine r_callVi2 (pc := 37) X ⟨(ltb rfl), (ltb rfl)⟩ rfl vy_X12_readNumber my_X12_readNumber ml_X12_298 ⟨Nat.le_of_ble_eq_true rfl, Nat.le_of_ble_eq_true rfl, Nat.le_of_ble_eq_true rfl, Nat.le_of_ble_eq_true rfl⟩ (c_X12_readNumber  h18) (Nat.le_of_ble_eq_true rfl) dX12_readOnce_37 ?_
          cases h
          exact r_iret (pc := 40) X hr dX12_readOnce_40
  · refine r_iconst (pc := 7) X (v := 0) dX12_readOnce_7 (by decide) ?_
    cases h
    exact r_iret (pc := 8) X hr dX12_readOnce_8
theorem c_X12_readOnce {G : GG} {l : Launch} {x1 : Int32} {x2 : Int32} {r : Int32} {M M' : Mem}  (h : f_X12_readOnce x1 x2 M = some (r, M')) : Met l yX12_readOnce (wsO yX12_readOnce cX12_readOnce 3 (some .int)) (rmO 5) (PcO G [.ref (G.2.1 (10, 0, 0)), .int x1, .int x2] M) (QiO G (AA G) r M') 0 0 (AA G) :=
  met_of (own := RX12) rfl (by decide +kernel) (Nat.le_of_ble_eq_true rfl) (fun p e s m args below meth c X hr => t_X12_readOnce X hr  h)
def f_X12_isThere37_30  (M : Mem) : Option (Int32 × Mem) :=
  some (0, M)
set_option maxHeartbeats 4000000 in
set_option maxRecDepth 100000 in
theorem t_X12_isThere37_30 {G : GG} {A : Nat → Prop} {p : Program} {l : Launch} {e : Env} {s : State} {m : MethodId} {args : Array Value} {below : List Frame} {meth : Method} {c : Code} {r : Int32} {M' : Mem} (X : Cx G A p s m args meth c RX12 cX12_isThere 2) (hr : meth.sig.returnType = some .boolean) {M : Mem}  (h : f_X12_isThere37_30 M = some (r, M')) : T G A p l e (rmO 0) s m args below meth c 2 0 0 (MQ below (QiO G A r M') args s 0 0 A) 30 [] [] M := by
  unfold f_X12_isThere37_30 at h
  refine r_iconst (pc := 30) X (v := 0) dX12_isThere_30 (by decide) ?_
  cases h
  exact r_zretc (pc := 31) X hr (by decide +kernel) dX12_isThere_31
def f_X12_isThere37  (M : Mem) : Option (Int32 × Mem) :=
  if (M.1 (10, 0, 0) 11) = 2 then if 8 ≤ (M.1 (10, 0, 0) 13) then f_X12_isThere37_30  M else if bad (M.1 (10, 0, 0) 13) 8 then none else if (M.1 (37, 0, 0) (Int32.toNatClampNeg (M.1 (10, 0, 0) 13))) = 0 then f_X12_isThere37_30  M else some (1, M) else f_X12_isThere37_30  M
set_option maxHeartbeats 4000000 in
set_option maxRecDepth 100000 in
theorem t_X12_isThere37 {G : GG} {A : Nat → Prop} {p : Program} {l : Launch} {e : Env} {s : State} {m : MethodId} {args : Array Value} {below : List Frame} {meth : Method} {c : Code} {r : Int32} {M' : Mem} (X : Cx G A p s m args meth c RX12 cX12_isThere 2) (hr : meth.sig.returnType = some .boolean) {M : Mem}  (h : f_X12_isThere37 M = some (r, M')) : T G A p l e (rmO 0) s m args below meth c 2 0 0 (MQ below (QiO G A r M') args s 0 0 A) 0 [(0, .ref (G.2.1 (10, 0, 0))), (1, .ref (G.2.1 (37, 0, 0)))] [] M := by
  unfold f_X12_isThere37 at h
  refine r_aload_n (pc := 0) X dX12_isThere_0 rfl ?_
  refine r_getI (pc := 1) X ⟨(ltb rfl), (ltb rfl)⟩ fl_X12_119 rfl dX12_isThere_1 ?_
  refine r_iconst (pc := 4) X (v := 2) dX12_isThere_4 (by decide) ?_
  refine r_icmp_ne (pc := 5) X (tgt := 30) dX12_isThere_5 (by decide) h (fun h => ?_) (fun h => ?_)
  · exact T_sub (t_X12_isThere37_30 X hr h) trivial
  · refine r_aload_n (pc := 8) X dX12_isThere_8 rfl ?_
    refine r_getI (pc := 9) X ⟨(ltb rfl), (ltb rfl)⟩ fl_X12_125 rfl dX12_isThere_9 ?_
    refine r_aload_n (pc := 12) X dX12_isThere_12 rfl ?_
    refine r_alen (pc := 13) X (v := 8) (n := 8) (t := 2) ⟨(ltb rfl), (ltb rfl)⟩ rfl (ltb rfl) (nlt rfl) (by decide) dX12_isThere_13 ?_
    refine r_icmp_ge (pc := 14) X (tgt := 30) dX12_isThere_14 (by decide) h (fun h => ?_) (fun h => ?_)
    · exact T_sub (t_X12_isThere37_30 X hr h) trivial
    · refine r_aload_n (pc := 17) X dX12_isThere_17 rfl ?_
      refine r_aload_n (pc := 18) X dX12_isThere_18 rfl ?_
      refine r_getI (pc := 19) X ⟨(ltb rfl), (ltb rfl)⟩ fl_X12_125 rfl dX12_isThere_19 ?_
      refine r_zald (pc := 22) X (n := 8) ⟨(ltb rfl), (ltb rfl)⟩ rfl (nlt rfl) dX12_isThere_22 h (fun h => ?_)
      refine r_if_eq (pc := 23) X (tgt := 30) dX12_isThere_23 (by decide) h (fun h => ?_) (fun h => ?_)
      · exact T_sub (t_X12_isThere37_30 X hr h) trivial
      · refine r_iconst (pc := 26) X (v := 1) dX12_isThere_26 (by decide) ?_
        refine r_goto (pc := 27) X (tgt := 31) dX12_isThere_27 (by decide) ?_
        cases h
        exact r_zretc (pc := 31) X hr (by decide +kernel) dX12_isThere_31
theorem c_X12_isThere37 {G : GG} {l : Launch} {r : Int32} {M M' : Mem}  (h : f_X12_isThere37  M = some (r, M')) : Met l yX12_isThere (wsO yX12_isThere cX12_isThere 2 (some .boolean)) (rmO 0) (PcO G [.ref (G.2.1 (10, 0, 0)), .ref (G.2.1 (37, 0, 0))] M) (QiO G (AA G) r M') 0 0 (AA G) :=
  met_of (own := RX12) rfl (by decide +kernel) (Nat.le_of_ble_eq_true rfl) (fun p e s m args below meth c X hr => t_X12_isThere37 X hr  h)
def f_X12_isThere38_30  (M : Mem) : Option (Int32 × Mem) :=
  some (0, M)
set_option maxHeartbeats 4000000 in
set_option maxRecDepth 100000 in
theorem t_X12_isThere38_30 {G : GG} {A : Nat → Prop} {p : Program} {l : Launch} {e : Env} {s : State} {m : MethodId} {args : Array Value} {below : List Frame} {meth : Method} {c : Code} {r : Int32} {M' : Mem} (X : Cx G A p s m args meth c RX12 cX12_isThere 2) (hr : meth.sig.returnType = some .boolean) {M : Mem}  (h : f_X12_isThere38_30 M = some (r, M')) : T G A p l e (rmO 0) s m args below meth c 2 0 0 (MQ below (QiO G A r M') args s 0 0 A) 30 [] [] M := by
  unfold f_X12_isThere38_30 at h
  refine r_iconst (pc := 30) X (v := 0) dX12_isThere_30 (by decide) ?_
  cases h
  exact r_zretc (pc := 31) X hr (by decide +kernel) dX12_isThere_31
def f_X12_isThere38  (M : Mem) : Option (Int32 × Mem) :=
  if (M.1 (10, 0, 0) 11) = 2 then if 4 ≤ (M.1 (10, 0, 0) 13) then f_X12_isThere38_30  M else if bad (M.1 (10, 0, 0) 13) 4 then none else if (M.1 (38, 0, 0) (Int32.toNatClampNeg (M.1 (10, 0, 0) 13))) = 0 then f_X12_isThere38_30  M else some (1, M) else f_X12_isThere38_30  M
set_option maxHeartbeats 4000000 in
set_option maxRecDepth 100000 in
theorem t_X12_isThere38 {G : GG} {A : Nat → Prop} {p : Program} {l : Launch} {e : Env} {s : State} {m : MethodId} {args : Array Value} {below : List Frame} {meth : Method} {c : Code} {r : Int32} {M' : Mem} (X : Cx G A p s m args meth c RX12 cX12_isThere 2) (hr : meth.sig.returnType = some .boolean) {M : Mem}  (h : f_X12_isThere38 M = some (r, M')) : T G A p l e (rmO 0) s m args below meth c 2 0 0 (MQ below (QiO G A r M') args s 0 0 A) 0 [(0, .ref (G.2.1 (10, 0, 0))), (1, .ref (G.2.1 (38, 0, 0)))] [] M := by
  unfold f_X12_isThere38 at h
  refine r_aload_n (pc := 0) X dX12_isThere_0 rfl ?_
  refine r_getI (pc := 1) X ⟨(ltb rfl), (ltb rfl)⟩ fl_X12_119 rfl dX12_isThere_1 ?_
  refine r_iconst (pc := 4) X (v := 2) dX12_isThere_4 (by decide) ?_
  refine r_icmp_ne (pc := 5) X (tgt := 30) dX12_isThere_5 (by decide) h (fun h => ?_) (fun h => ?_)
  · exact T_sub (t_X12_isThere38_30 X hr h) trivial
  · refine r_aload_n (pc := 8) X dX12_isThere_8 rfl ?_
    refine r_getI (pc := 9) X ⟨(ltb rfl), (ltb rfl)⟩ fl_X12_125 rfl dX12_isThere_9 ?_
    refine r_aload_n (pc := 12) X dX12_isThere_12 rfl ?_
    refine r_alen (pc := 13) X (v := 4) (n := 4) (t := 2) ⟨(ltb rfl), (ltb rfl)⟩ rfl (ltb rfl) (nlt rfl) (by decide) dX12_isThere_13 ?_
    refine r_icmp_ge (pc := 14) X (tgt := 30) dX12_isThere_14 (by decide) h (fun h => ?_) (fun h => ?_)
    · exact T_sub (t_X12_isThere38_30 X hr h) trivial
    · refine r_aload_n (pc := 17) X dX12_isThere_17 rfl ?_
      refine r_aload_n (pc := 18) X dX12_isThere_18 rfl ?_
      refine r_getI (pc := 19) X ⟨(ltb rfl), (ltb rfl)⟩ fl_X12_125 rfl dX12_isThere_19 ?_
      refine r_zald (pc := 22) X (n := 4) ⟨(ltb rfl), (ltb rfl)⟩ rfl (nlt rfl) dX12_isThere_22 h (fun h => ?_)
      refine r_if_eq (pc := 23) X (tgt := 30) dX12_isThere_23 (by decide) h (fun h => ?_) (fun h => ?_)
      · exact T_sub (t_X12_isThere38_30 X hr h) trivial
      · refine r_iconst (pc := 26) X (v := 1) dX12_isThere_26 (by decide) ?_
        refine r_goto (pc := 27) X (tgt := 31) dX12_isThere_27 (by decide) ?_
        cases h
        exact r_zretc (pc := 31) X hr (by decide +kernel) dX12_isThere_31
theorem c_X12_isThere38 {G : GG} {l : Launch} {r : Int32} {M M' : Mem}  (h : f_X12_isThere38  M = some (r, M')) : Met l yX12_isThere (wsO yX12_isThere cX12_isThere 2 (some .boolean)) (rmO 0) (PcO G [.ref (G.2.1 (10, 0, 0)), .ref (G.2.1 (38, 0, 0))] M) (QiO G (AA G) r M') 0 0 (AA G) :=
  met_of (own := RX12) rfl (by decide +kernel) (Nat.le_of_ble_eq_true rfl) (fun p e s m args below meth c X hr => t_X12_isThere38 X hr  h)
-- ConverterScannerModel.parseChannel
def f_X12_parseChannel_233 (r36 : Int32 → Int32 → Int32 → Mem → Option (Unit × Mem)) (x1 : Int32) (x2 : Int32) (x3 : Int32) (M : Mem) : Option (Unit × Mem) :=
  r36 x1 x2 x3 M
set_option maxHeartbeats 4000000 in
set_option maxRecDepth 100000 in
theorem t_X12_parseChannel_233 {G : GG} {A : Nat → Prop} {p : Program} {l : Launch} {e : Env} {s : State} {m : MethodId} {args : Array Value} {below : List Frame} {meth : Method} {c : Code} {r : Unit} {M' : Mem} (X : Cx G A p s m args meth c RX12 cX12_parseChannel 5) (hr : meth.sig.returnType = none) {r36 : Int32 → Int32 → Int32 → Mem → Option (Unit × Mem)} (hr36 : ∀ (x1 : Int32) (x2 : Int32) (x3 : Int32) (M : Mem), r36 x1 x2 x3 M = some (r, M') → T G A p l e (rmO 6) s m args below meth c 5 0 0 (MQ below (QvO G A M') args s 0 0 A) 36 [(0, .ref (G.2.1 (10, 0, 0))), (1, .int x1), (2, .int x2), (3, .int x3)] [] M) {x1 : Int32} {x2 : Int32} {x3 : Int32} {M : Mem}  (h : f_X12_parseChannel_233 r36 x1 x2 x3 M = some (r, M')) : T G A p l e (rmO 6) s m args below meth c 5 0 0 (MQ below (QvO G A M') args s 0 0 A) 233 [(0, .ref (G.2.1 (10, 0, 0))), (1, .int x1), (2, .int x2), (3, .int x3)] [] M := by
  unfold f_X12_parseChannel_233 at h
  refine r_goto (pc := 233) X (tgt := 36) dX12_parseChannel_233 (by decide) ?_
  exact T_sub (hr36 _ _ _ _ h) ⟨rfl, rfl, rfl, rfl, trivial⟩
def f_X12_parseChannel_102 (r36 : Int32 → Int32 → Int32 → Mem → Option (Unit × Mem)) (x1 : Int32) (x2 : Int32) (x3 : Int32) (x4 : Int32) (M : Mem) : Option (Unit × Mem) :=
  if x4 = 1 then bnd (f_X12_chan x1 0 M) (fun r29 M30 => bnd (f_X12_readNumber 1 99 M30) (fun r32 M33 => if bad (x3 + r29) 2360 then none else nm (uI M33 (32, 0, 0) (Int32.toNatClampNeg (x3 + r29)) r32) (fun M35 => f_X12_parseChannel_233 r36 x1 x2 x3 M35))) else if x4 = 2 then bnd (f_X12_drafts (22 + x1) M) (fun r22 M23 => bnd (f_X12_readSigned 99 M23) (fun r25 M26 => if bad r22 104 then none else nm (uI M26 (31, 0, 0) (Int32.toNatClampNeg r22) r25) (fun M28 => f_X12_parseChannel_233 r36 x1 x2 x3 M28))) else if x4 = 3 then bnd (f_X12_chan x1 1 M) (fun r15 M16 => bnd (f_X12_readNumber 0 4095 M16) (fun r18 M19 => if bad (x3 + r15) 2360 then none else nm (uI M19 (32, 0, 0) (Int32.toNatClampNeg (x3 + r15)) r18) (fun M21 => f_X12_parseChannel_233 r36 x1 x2 x3 M21))) else if x4 = 4 then bnd (f_X12_chan x1 2 M) (fun r8 M9 => bnd (f_X12_readSigned 99 M9) (fun r11 M12 => if bad (x3 + r8) 2360 then none else nm (uI M12 (32, 0, 0) (Int32.toNatClampNeg (x3 + r8)) r11) (fun M14 => f_X12_parseChannel_233 r36 x1 x2 x3 M14))) else bnd (f_X12_chan x1 3 M) (fun r1 M2 => bnd (f_X12_readNumber 1 9999 M2) (fun r4 M5 => if bad (x3 + r1) 2360 then none else nm (uI M5 (32, 0, 0) (Int32.toNatClampNeg (x3 + r1)) r4) (fun M7 => f_X12_parseChannel_233 r36 x1 x2 x3 M7)))
set_option maxHeartbeats 4000000 in
set_option maxRecDepth 100000 in
theorem t_X12_parseChannel_102 {G : GG} {A : Nat → Prop} {p : Program} {l : Launch} {e : Env} {s : State} {m : MethodId} {args : Array Value} {below : List Frame} {meth : Method} {c : Code} {r : Unit} {M' : Mem} (X : Cx G A p s m args meth c RX12 cX12_parseChannel 5) (hr : meth.sig.returnType = none) {r36 : Int32 → Int32 → Int32 → Mem → Option (Unit × Mem)} (hr36 : ∀ (x1 : Int32) (x2 : Int32) (x3 : Int32) (M : Mem), r36 x1 x2 x3 M = some (r, M') → T G A p l e (rmO 6) s m args below meth c 5 0 0 (MQ below (QvO G A M') args s 0 0 A) 36 [(0, .ref (G.2.1 (10, 0, 0))), (1, .int x1), (2, .int x2), (3, .int x3)] [] M) {x1 : Int32} {x2 : Int32} {x3 : Int32} {x4 : Int32} {M : Mem}  (h : f_X12_parseChannel_102 r36 x1 x2 x3 x4 M = some (r, M')) : T G A p l e (rmO 6) s m args below meth c 5 0 0 (MQ below (QvO G A M') args s 0 0 A) 102 [(0, .ref (G.2.1 (10, 0, 0))), (1, .int x1), (2, .int x2), (3, .int x3), (4, .int x4)] [] M := by
  unfold f_X12_parseChannel_102 at h
  refine r_iload (pc := 102) X dX12_parseChannel_102 rfl ?_
  refine r_iconst (pc := 104) X (v := 1) dX12_parseChannel_104 (by decide) ?_
  refine r_icmp_ne (pc := 105) X (tgt := 130) dX12_parseChannel_105 (by decide) h (fun h => ?_) (fun h => ?_)
  · refine r_iload (pc := 130) X dX12_parseChannel_130 rfl ?_
    refine r_iconst (pc := 132) X (v := 2) dX12_parseChannel_132 (by decide) ?_
    refine r_icmp_ne (pc := 133) X (tgt := 157) dX12_parseChannel_133 (by decide) h (fun h => ?_) (fun h => ?_)
    · refine r_iload (pc := 157) X dX12_parseChannel_157 rfl ?_
      refine r_iconst (pc := 159) X (v := 3) dX12_parseChannel_159 (by decide) ?_
      refine r_icmp_ne (pc := 160) X (tgt := 186) dX12_parseChannel_160 (by decide) h (fun h => ?_) (fun h => ?_)
      · refine r_iload (pc := 186) X dX12_parseChannel_186 rfl ?_
        refine r_iconst (pc := 188) X (v := 4) dX12_parseChannel_188 (by decide) ?_
        refine r_icmp_ne (pc := 189) X (tgt := 213) dX12_parseChannel_189 (by decide) h (fun h => ?_) (fun h => ?_)
        · refine r_aload_n (pc := 213) X dX12_parseChannel_213 rfl ?_
          refine r_getR (q := (32, 0, 0)) (pc := 214) X ⟨(ltb rfl), (ltb rfl)⟩ fl_X12_29 rfl dX12_parseChannel_214 ?_
          refine r_iload_n (pc := 217) X dX12_parseChannel_217 rfl ?_
          refine r_iload_n (pc := 218) X dX12_parseChannel_218 rfl ?_
          refine r_iconst (pc := 219) X (v := 3) dX12_parseChannel_219 (by decide) ?_
          refine bndE h (fun r1 M2 h3 h => ?_)
          refine r_callSi2 (pc := 220) X sy_X12_chan my_X12_chan ml_X12_47 ⟨Nat.le_of_ble_eq_true rfl, Nat.le_of_ble_eq_true rfl, Nat.le_of_ble_eq_true rfl, Nat.le_of_ble_eq_true rfl⟩ (c_X12_chan  h3) (Nat.le_of_ble_eq_true rfl) dX12_parseChannel_220 ?_
          refine r_iadd (pc := 223) X dX12_parseChannel_223 ?_
          refine r_aload_n (pc := 224) X dX12_parseChannel_224 rfl ?_
          refine r_iconst (pc := 225) X (v := 1) dX12_parseChannel_225 (by decide) ?_
          refine r_sipush (pc := 226) X (v := 9999) dX12_parseChannel_226 (by decide) ?_
          refine bndE h (fun r4 M5 h6 h => ?_)
          refine r_callVi2 (pc := 229) X ⟨(ltb rfl), (ltb rfl)⟩ rfl vy_X12_readNumber my_X12_readNumber ml_X12_298 ⟨Nat.le_of_ble_eq_true rfl, Nat.le_of_ble_eq_true rfl, Nat.le_of_ble_eq_true rfl, Nat.le_of_ble_eq_true rfl⟩ (c_X12_readNumber  h6) (Nat.le_of_ble_eq_true rfl) dX12_parseChannel_229 ?_
          refine r_iastN (pc := 232) X (n := 2360) ⟨(ltb rfl), (ltb rfl)⟩ rfl (nlt rfl) dX12_parseChannel_232 h (fun M7 h => ?_)
          exact T_sub (t_X12_parseChannel_233 X hr hr36 h) ⟨rfl, rfl, rfl, rfl, trivial⟩
        · refine r_aload_n (pc := 192) X dX12_parseChannel_192 rfl ?_
          refine r_getR (q := (32, 0, 0)) (pc := 193) X ⟨(ltb rfl), (ltb rfl)⟩ fl_X12_29 rfl dX12_parseChannel_193 ?_
          refine r_iload_n (pc := 196) X dX12_parseChannel_196 rfl ?_
          refine r_iload_n (pc := 197) X dX12_parseChannel_197 rfl ?_
          refine r_iconst (pc := 198) X (v := 2) dX12_parseChannel_198 (by decide) ?_
          refine bndE h (fun r8 M9 h10 h => ?_)
          refine r_callSi2 (pc := 199) X sy_X12_chan my_X12_chan ml_X12_47 ⟨Nat.le_of_ble_eq_true rfl, Nat.le_of_ble_eq_true rfl, Nat.le_of_ble_eq_true rfl, Nat.le_of_ble_eq_true rfl⟩ (c_X12_chan  h10) (Nat.le_of_ble_eq_true rfl) dX12_parseChannel_199 ?_
          refine r_iadd (pc := 202) X dX12_parseChannel_202 ?_
          refine r_aload_n (pc := 203) X dX12_parseChannel_203 rfl ?_
          refine r_bipush (pc := 204) X (v := 99) dX12_parseChannel_204 (by decide) ?_
          refine bndE h (fun r11 M12 h13 h => ?_)
          refine r_callVi1 (pc := 206) X ⟨(ltb rfl), (ltb rfl)⟩ rfl vy_X12_readSigned my_X12_readSigned ml_X12_312 ⟨Nat.le_of_ble_eq_true rfl, Nat.le_of_ble_eq_true rfl, Nat.le_of_ble_eq_true rfl, Nat.le_of_ble_eq_true rfl⟩ (c_X12_readSigned  h13) (Nat.le_of_ble_eq_true rfl) dX12_parseChannel_206 ?_
          refine r_iastN (pc := 209) X (n := 2360) ⟨(ltb rfl), (ltb rfl)⟩ rfl (nlt rfl) dX12_parseChannel_209 h (fun M14 h => ?_)
          refine r_goto (pc := 210) X (tgt := 233) dX12_parseChannel_210 (by decide) ?_
          exact T_sub (t_X12_parseChannel_233 X hr hr36 h) ⟨rfl, rfl, rfl, rfl, trivial⟩
      · refine r_aload_n (pc := 163) X dX12_parseChannel_163 rfl ?_
        refine r_getR (q := (32, 0, 0)) (pc := 164) X ⟨(ltb rfl), (ltb rfl)⟩ fl_X12_29 rfl dX12_parseChannel_164 ?_
        refine r_iload_n (pc := 167) X dX12_parseChannel_167 rfl ?_
        refine r_iload_n (pc := 168) X dX12_parseChannel_168 rfl ?_
        refine r_iconst (pc := 169) X (v := 1) dX12_parseChannel_169 (by decide) ?_
        refine bndE h (fun r15 M16 h17 h => ?_)
        refine r_callSi2 (pc := 170) X sy_X12_chan my_X12_chan ml_X12_47 ⟨Nat.le_of_ble_eq_true rfl, Nat.le_of_ble_eq_true rfl, Nat.le_of_ble_eq_true rfl, Nat.le_of_ble_eq_true rfl⟩ (c_X12_chan  h17) (Nat.le_of_ble_eq_true rfl) dX12_parseChannel_170 ?_
        refine r_iadd (pc := 173) X dX12_parseChannel_173 ?_
        refine r_aload_n (pc := 174) X dX12_parseChannel_174 rfl ?_
        refine r_iconst (pc := 175) X (v := 0) dX12_parseChannel_175 (by decide) ?_
        refine r_sipush (pc := 176) X (v := 4095) dX12_parseChannel_176 (by decide) ?_
        refine bndE h (fun r18 M19 h20 h => ?_)
        refine r_callVi2 (pc := 179) X ⟨(ltb rfl), (ltb rfl)⟩ rfl vy_X12_readNumber my_X12_readNumber ml_X12_298 ⟨Nat.le_of_ble_eq_true rfl, Nat.le_of_ble_eq_true rfl, Nat.le_of_ble_eq_true rfl, Nat.le_of_ble_eq_true rfl⟩ (c_X12_readNumber  h20) (Nat.le_of_ble_eq_true rfl) dX12_parseChannel_179 ?_
        refine r_iastN (pc := 182) X (n := 2360) ⟨(ltb rfl), (ltb rfl)⟩ rfl (nlt rfl) dX12_parseChannel_182 h (fun M21 h => ?_)
        refine r_goto (pc := 183) X (tgt := 233) dX12_parseChannel_183 (by decide) ?_
        exact T_sub (t_X12_parseChannel_233 X hr hr36 h) ⟨rfl, rfl, rfl, rfl, trivial⟩
    · refine r_aload_n (pc := 136) X dX12_parseChannel_136 rfl ?_
      refine r_getR (q := (31, 0, 0)) (pc := 137) X ⟨(ltb rfl), (ltb rfl)⟩ fl_X12_26 rfl dX12_parseChannel_137 ?_
      refine r_bipush (pc := 140) X (v := 22) dX12_parseChannel_140 (by decide) ?_
      refine r_iload_n (pc := 142) X dX12_parseChannel_142 rfl ?_
      refine r_iadd (pc := 143) X dX12_parseChannel_143 ?_
      refine bndE h (fun r22 M23 h24 h => ?_)
      refine r_callSi1 (pc := 144) X sy_X12_drafts my_X12_drafts ml_X12_309 ⟨Nat.le_of_ble_eq_true rfl, Nat.le_of_ble_eq_true rfl, Nat.le_of_ble_eq_true rfl, Nat.le_of_ble_eq_true rfl⟩ (c_X12_drafts  h24) (Nat.le_of_ble_eq_true rfl) dX12_parseChannel_144 ?_
      refine r_aload_n (pc := 147) X dX12_parseChannel_147 rfl ?_
      refine r_bipush (pc := 148) X (v := 99) dX12_parseChannel_148 (by decide) ?_
      refine bndE h (fun r25 M26 h27 h => ?_)
      refine r_callVi1 (pc := 150) X ⟨(ltb rfl), (ltb rfl)⟩ rfl vy_X12_readSigned my_X12_readSigned ml_X12_312 ⟨Nat.le_of_ble_eq_true rfl, Nat.le_of_ble_eq_true rfl, Nat.le_of_ble_eq_true rfl, Nat.le_of_ble_eq_true rfl⟩ (c_X12_readSigned  h27) (Nat.le_of_ble_eq_true rfl) dX12_parseChannel_150 ?_
      refine r_iastN (pc := 153) X (n := 104) ⟨(ltb rfl), (ltb rfl)⟩ rfl (nlt rfl) dX12_parseChannel_153 h (fun M28 h => ?_)
      refine r_goto (pc := 154) X (tgt := 233) dX12_parseChannel_154 (by decide) ?_
      exact T_sub (t_X12_parseChannel_233 X hr hr36 h) ⟨rfl, rfl, rfl, rfl, trivial⟩
  · refine r_aload_n (pc := 108) X dX12_parseChannel_108 rfl ?_
    refine r_getR (q := (32, 0, 0)) (pc := 109) X ⟨(ltb rfl), (ltb rfl)⟩ fl_X12_29 rfl dX12_parseChannel_109 ?_
    refine r_iload_n (pc := 112) X dX12_parseChannel_112 rfl ?_
    refine r_iload_n (pc := 113) X dX12_parseChannel_113 rfl ?_
    refine r_iconst (pc := 114) X (v := 0) dX12_parseChannel_114 (by decide) ?_
    refine bndE h (fun r29 M30 h31 h => ?_)
    refine r_callSi2 (pc := 115) X sy_X12_chan my_X12_chan ml_X12_47 ⟨Nat.le_of_ble_eq_true rfl, Nat.le_of_ble_eq_true rfl, Nat.le_of_ble_eq_true rfl, Nat.le_of_ble_eq_true rfl⟩ (c_X12_chan  h31) (Nat.le_of_ble_eq_true rfl) dX12_parseChannel_115 ?_
    refine r_iadd (pc := 118) X dX12_parseChannel_118 ?_
    refine r_aload_n (pc := 119) X dX12_parseChannel_119 rfl ?_
    refine r_iconst (pc := 120) X (v := 1) dX12_parseChannel_120 (by decide) ?_
    refine r_bipush (pc := 121) X (v := 99) dX12_parseChannel_121 (by decide) ?_
    refine bndE h (fun r32 M33 h34 h => ?_)
    refine r_callVi2 (pc := 123) X ⟨(ltb rfl), (ltb rfl)⟩ rfl vy_X12_readNumber my_X12_readNumber ml_X12_298 ⟨Nat.le_of_ble_eq_true rfl, Nat.le_of_ble_eq_true rfl, Nat.le_of_ble_eq_true rfl, Nat.le_of_ble_eq_true rfl⟩ (c_X12_readNumber  h34) (Nat.le_of_ble_eq_true rfl) dX12_parseChannel_123 ?_
    refine r_iastN (pc := 126) X (n := 2360) ⟨(ltb rfl), (ltb rfl)⟩ rfl (nlt rfl) dX12_parseChannel_126 h (fun M35 h => ?_)
    refine r_goto (pc := 127) X (tgt := 233) dX12_parseChannel_127 (by decide) ?_
    exact T_sub (t_X12_parseChannel_233 X hr hr36 h) ⟨rfl, rfl, rfl, rfl, trivial⟩
def f_X12_parseChannel_84 (r36 : Int32 → Int32 → Int32 → Mem → Option (Unit × Mem)) (x1 : Int32) (x2 : Int32) (x3 : Int32) (x4 : Int32) (M : Mem) : Option (Unit × Mem) :=
  nm (x2 ||| (1 <<< (x4 &&& 31))) (fun e1 => bnd (f_X12_ok  M) (fun r2 M3 => if r2 = 0 then f_X12_parseChannel_102 r36 x1 e1 x3 x4 M3 else bnd (f_X12_next  M3) (fun r5 M6 => f_X12_parseChannel_102 r36 x1 e1 x3 x4 M6)))
set_option maxHeartbeats 4000000 in
set_option maxRecDepth 100000 in
theorem t_X12_parseChannel_84 {G : GG} {A : Nat → Prop} {p : Program} {l : Launch} {e : Env} {s : State} {m : MethodId} {args : Array Value} {below : List Frame} {meth : Method} {c : Code} {r : Unit} {M' : Mem} (X : Cx G A p s m args meth c RX12 cX12_parseChannel 5) (hr : meth.sig.returnType = none) {r36 : Int32 → Int32 → Int32 → Mem → Option (Unit × Mem)} (hr36 : ∀ (x1 : Int32) (x2 : Int32) (x3 : Int32) (M : Mem), r36 x1 x2 x3 M = some (r, M') → T G A p l e (rmO 6) s m args below meth c 5 0 0 (MQ below (QvO G A M') args s 0 0 A) 36 [(0, .ref (G.2.1 (10, 0, 0))), (1, .int x1), (2, .int x2), (3, .int x3)] [] M) {x1 : Int32} {x2 : Int32} {x3 : Int32} {x4 : Int32} {M : Mem}  (h : f_X12_parseChannel_84 r36 x1 x2 x3 x4 M = some (r, M')) : T G A p l e (rmO 6) s m args below meth c 5 0 0 (MQ below (QvO G A M') args s 0 0 A) 84 [(0, .ref (G.2.1 (10, 0, 0))), (1, .int x1), (2, .int x2), (3, .int x3), (4, .int x4)] [] M := by
  unfold f_X12_parseChannel_84 at h
  refine r_iload_n (pc := 84) X dX12_parseChannel_84 rfl ?_
  refine r_iconst (pc := 85) X (v := 1) dX12_parseChannel_85 (by decide) ?_
  refine r_iload (pc := 86) X dX12_parseChannel_86 rfl ?_
  refine r_ishl (pc := 88) X dX12_parseChannel_88 ?_
  refine r_ior (pc := 89) X dX12_parseChannel_89 ?_
  refine r_istore_nN (pc := 90) X (by decide) dX12_parseChannel_90 h (fun e1 h => ?_)
  refine r_aload_n (pc := 91) X dX12_parseChannel_91 rfl ?_
  refine bndE h (fun r2 M3 h4 h => ?_)
  refine r_callVi0 (pc := 92) X ⟨(ltb rfl), (ltb rfl)⟩ rfl vy_X12_ok my_X12_ok ml_X12_279 ⟨Nat.le_of_ble_eq_true rfl, Nat.le_of_ble_eq_true rfl, Nat.le_of_ble_eq_true rfl, Nat.le_of_ble_eq_true rfl⟩ (c_X12_ok  h4) (Nat.le_of_ble_eq_true rfl) dX12_parseChannel_92 ?_
  refine r_if_eq (pc := 95) X (tgt := 102) dX12_parseChannel_95 (by decide) h (fun h => ?_) (fun h => ?_)
  · exact T_sub (t_X12_parseChannel_102 X hr hr36 h) ⟨rfl, rfl, rfl, rfl, rfl, trivial⟩
  · refine r_aload_n (pc := 98) X dX12_parseChannel_98 rfl ?_
    refine bndE h (fun r5 M6 h7 h => ?_)
    refine r_callVv0 (pc := 99) X ⟨(ltb rfl), (ltb rfl)⟩ rfl vy_X12_next my_X12_next ml_X12_286 ⟨Nat.le_of_ble_eq_true rfl, Nat.le_of_ble_eq_true rfl, Nat.le_of_ble_eq_true rfl, Nat.le_of_ble_eq_true rfl⟩ (c_X12_next  h7) (Nat.le_of_ble_eq_true rfl) dX12_parseChannel_99 ?_
    exact T_sub (t_X12_parseChannel_102 X hr hr36 h) ⟨rfl, rfl, rfl, rfl, rfl, trivial⟩
def f_X12_parseChannel_36 : Nat → Int32 → Int32 → Int32 → Mem → Option (Unit × Mem)
  | 0 => fun _ _ _ _ => none
  | n + 1 => fun x1 x2 x3 M => bnd (f_X12_ok  M) (fun r1 M2 => if r1 = 0 then some ((), M2) else if (M2.1 (10, 0, 0) 11) = 1 then bnd (f_X12_inRange (M2.1 (10, 0, 0) 15) 1 5 M2) (fun r4 M5 => if r4 = 0 then some ((), M5) else nm (M5.1 (10, 0, 0) 15) (fun e7 => if ((x2 >>> (e7 &&& 31)) &&& 1) = 1 then bnd (f_X12_fail 3 M5) (fun r8 M9 => f_X12_parseChannel_84 (f_X12_parseChannel_36 n) x1 x2 x3 e7 M9) else f_X12_parseChannel_84 (f_X12_parseChannel_36 n) x1 x2 x3 e7 M5)) else some ((), M2))
set_option maxHeartbeats 4000000 in
set_option maxRecDepth 100000 in
theorem t_X12_parseChannel_36 {G : GG} {A : Nat → Prop} {p : Program} {l : Launch} {e : Env} {s : State} {m : MethodId} {args : Array Value} {below : List Frame} {meth : Method} {c : Code} {r : Unit} {M' : Mem} (X : Cx G A p s m args meth c RX12 cX12_parseChannel 5) (hr : meth.sig.returnType = none) : ∀ (n : Nat) (x1 : Int32) (x2 : Int32) (x3 : Int32) (M : Mem), f_X12_parseChannel_36 n x1 x2 x3 M = some (r, M') → T G A p l e (rmO 6) s m args below meth c 5 0 0 (MQ below (QvO G A M') args s 0 0 A) 36 [(0, .ref (G.2.1 (10, 0, 0))), (1, .int x1), (2, .int x2), (3, .int x3)] [] M := by
  intro n
  induction n with
  | zero =>
    intro x1 x2 x3 M  h
    cases h
  | succ n ih =>
    intro x1 x2 x3 M  h
    unfold f_X12_parseChannel_36 at h
    refine r_aload_n (pc := 36) X dX12_parseChannel_36 rfl ?_
    refine bndE h (fun r1 M2 h3 h => ?_)
    refine r_callVi0 (pc := 37) X ⟨(ltb rfl), (ltb rfl)⟩ rfl vy_X12_ok my_X12_ok ml_X12_279 ⟨Nat.le_of_ble_eq_true rfl, Nat.le_of_ble_eq_true rfl, Nat.le_of_ble_eq_true rfl, Nat.le_of_ble_eq_true rfl⟩ (c_X12_ok  h3) (Nat.le_of_ble_eq_true rfl) dX12_parseChannel_37 ?_
    refine r_if_eq (pc := 40) X (tgt := 236) dX12_parseChannel_40 (by decide) h (fun h => ?_) (fun h => ?_)
    · cases h
      exact r_vret (pc := 236) X hr dX12_parseChannel_236
    · refine r_aload_n (pc := 43) X dX12_parseChannel_43 rfl ?_
      refine r_getI (pc := 44) X ⟨(ltb rfl), (ltb rfl)⟩ fl_X12_119 rfl dX12_parseChannel_44 ?_
      refine r_iconst (pc := 47) X (v := 1) dX12_parseChannel_47 (by decide) ?_
      refine r_icmp_ne (pc := 48) X (tgt := 236) dX12_parseChannel_48 (by decide) h (fun h => ?_) (fun h => ?_)
      · cases h
        exact r_vret (pc := 236) X hr dX12_parseChannel_236
      · refine r_aload_n (pc := 51) X dX12_parseChannel_51 rfl ?_
        refine r_getI (pc := 52) X ⟨(ltb rfl), (ltb rfl)⟩ fl_X12_131 rfl dX12_parseChannel_52 ?_
        refine r_iconst (pc := 55) X (v := 1) dX12_parseChannel_55 (by decide) ?_
        refine r_iconst (pc := 56) X (v := 5) dX12_parseChannel_56 (by decide) ?_
        refine bndE h (fun r4 M5 h6 h => ?_)
        refine r_callSi3 (pc := 57) X sy_X12_inRange my_X12_inRange ml_X12_22 ⟨Nat.le_of_ble_eq_true rfl, Nat.le_of_ble_eq_true rfl, Nat.le_of_ble_eq_true rfl, Nat.le_of_ble_eq_true rfl⟩ (c_X12_inRange  h6) (Nat.le_of_ble_eq_true rfl) dX12_parseChannel_57 ?_
        refine r_if_eq (pc := 60) X (tgt := 236) dX12_parseChannel_60 (by decide) h (fun h => ?_) (fun h => ?_)
        · cases h
          exact r_vret (pc := 236) X hr dX12_parseChannel_236
        · refine r_aload_n (pc := 63) X dX12_parseChannel_63 rfl ?_
          refine r_getI (pc := 64) X ⟨(ltb rfl), (ltb rfl)⟩ fl_X12_131 rfl dX12_parseChannel_64 ?_
          refine r_istoreN (pc := 67) X (by decide) dX12_parseChannel_67 h (fun e7 h => ?_)
          refine r_iload_n (pc := 69) X dX12_parseChannel_69 rfl ?_
          refine r_iload (pc := 70) X dX12_parseChannel_70 rfl ?_
          refine r_ishr (pc := 72) X dX12_parseChannel_72 ?_
          refine r_iconst (pc := 73) X (v := 1) dX12_parseChannel_73 (by decide) ?_
          refine r_iand (pc := 74) X dX12_parseChannel_74 ?_
          refine r_iconst (pc := 75) X (v := 1) dX12_parseChannel_75 (by decide) ?_
          refine r_icmp_ne (pc := 76) X (tgt := 84) dX12_parseChannel_76 (by decide) h (fun h => ?_) (fun h => ?_)
          · exact T_sub (t_X12_parseChannel_84 X hr ih h) ⟨rfl, rfl, rfl, rfl, rfl, trivial⟩
          · refine r_aload_n (pc := 79) X dX12_parseChannel_79 rfl ?_
            refine r_iconst (pc := 80) X (v := 3) dX12_parseChannel_80 (by decide) ?_
            refine bndE h (fun r8 M9 h10 h => ?_)
            refine r_callVv1 (pc := 81) X ⟨(ltb rfl), (ltb rfl)⟩ rfl vy_X12_fail my_X12_fail ml_X12_292 ⟨Nat.le_of_ble_eq_true rfl, Nat.le_of_ble_eq_true rfl, Nat.le_of_ble_eq_true rfl, Nat.le_of_ble_eq_true rfl⟩ (c_X12_fail  h10) (Nat.le_of_ble_eq_true rfl) dX12_parseChannel_81 ?_
            exact T_sub (t_X12_parseChannel_84 X hr ih h) ⟨rfl, rfl, rfl, rfl, rfl, trivial⟩
def f_X12_parseChannel  (M : Mem) : Option (Unit × Mem) :=
  bnd (f_X12_isThere37  M) (fun r1 M2 => bnd (f_X12_readOnce 7 r1 M2) (fun r4 M5 => bnd (f_X12_ok  M5) (fun r7 M8 => if r7 = 0 then some ((), M8) else if bad r4 8 then none else nm (uI M8 (37, 0, 0) (Int32.toNatClampNeg r4) (1 &&& 1)) (fun M10 => f_X12_parseChannel_36 fuelN r4 0 1888 M10))))
set_option maxHeartbeats 4000000 in
set_option maxRecDepth 100000 in
theorem t_X12_parseChannel {G : GG} {A : Nat → Prop} {p : Program} {l : Launch} {e : Env} {s : State} {m : MethodId} {args : Array Value} {below : List Frame} {meth : Method} {c : Code} {r : Unit} {M' : Mem} (X : Cx G A p s m args meth c RX12 cX12_parseChannel 5) (hr : meth.sig.returnType = none) {M : Mem}  (h : f_X12_parseChannel M = some (r, M')) : T G A p l e (rmO 6) s m args below meth c 5 0 0 (MQ below (QvO G A M') args s 0 0 A) 0 [(0, .ref (G.2.1 (10, 0, 0)))] [] M := by
  unfold f_X12_parseChannel at h
  refine r_aload_n (pc := 0) X dX12_parseChannel_0 rfl ?_
  refine r_bipush (pc := 1) X (v := 7) dX12_parseChannel_1 (by decide) ?_
  refine r_aload_n (pc := 3) X dX12_parseChannel_3 rfl ?_
  refine r_aload_n (pc := 4) X dX12_parseChannel_4 rfl ?_
  refine r_getR (q := (37, 0, 0)) (pc := 5) X ⟨(ltb rfl), (ltb rfl)⟩ fl_X12_143 rfl dX12_parseChannel_5 ?_
  refine bndE h (fun r1 M2 h3 h => ?_)
  refine r_callVi1 (pc := 8) X ⟨(ltb rfl), (ltb rfl)⟩ rfl vy_X12_isThere my_X12_isThere ml_X12_301 ⟨Nat.le_of_ble_eq_true rfl, Nat.le_of_ble_eq_true rfl, Nat.le_of_ble_eq_true rfl, Nat.le_of_ble_eq_true rfl⟩ (c_X12_isThere37  h3) (Nat.le_of_ble_eq_true rfl) dX12_parseChannel_8 ?_
  refine bndE h (fun r4 M5 h6 h => ?_)
  refine r_callVi2 (pc := 11) X ⟨(ltb rfl), (ltb rfl)⟩ rfl vy_X12_readOnce my_X12_readOnce ml_X12_305 ⟨Nat.le_of_ble_eq_true rfl, Nat.le_of_ble_eq_true rfl, Nat.le_of_ble_eq_true rfl, Nat.le_of_ble_eq_true rfl⟩ (c_X12_readOnce  h6) (Nat.le_of_ble_eq_true rfl) dX12_parseChannel_11 ?_
  refine r_istore_n (pc := 14) X (by decide) dX12_parseChannel_14 ?_
  refine r_aload_n (pc := 15) X dX12_parseChannel_15 rfl ?_
  refine bndE h (fun r7 M8 h9 h => ?_)
  refine r_callVi0 (pc := 16) X ⟨(ltb rfl), (ltb rfl)⟩ rfl vy_X12_ok my_X12_ok ml_X12_279 ⟨Nat.le_of_ble_eq_true rfl, Nat.le_of_ble_eq_true rfl, Nat.le_of_ble_eq_true rfl, Nat.le_of_ble_eq_true rfl⟩ (c_X12_ok  h9) (Nat.le_of_ble_eq_true rfl) dX12_parseChannel_16 ?_
  refine r_if_ne (pc := 19) X (tgt := 23) dX12_parseChannel_19 (by decide) h (fun h => ?_) (fun h => ?_)
  · refine r_aload_n (pc := 23) X dX12_parseChannel_23 rfl ?_
    refine r_getR (q := (37, 0, 0)) (pc := 24) X ⟨(ltb rfl), (ltb rfl)⟩ fl_X12_143 rfl dX12_parseChannel_24 ?_
    refine r_iload_n (pc := 27) X dX12_parseChannel_27 rfl ?_
    refine r_iconst (pc := 28) X (v := 1) dX12_parseChannel_28 (by decide) ?_
    refine r_zastN (pc := 29) X (n := 8) ⟨(ltb rfl), (ltb rfl)⟩ rfl (nlt rfl) dX12_parseChannel_29 h (fun M10 h => ?_)
    refine r_iconst (pc := 30) X (v := 0) dX12_parseChannel_30 (by decide) ?_
    refine r_istore_n (pc := 31) X (by decide) dX12_parseChannel_31 ?_
    refine r_sipush (pc := 32) X (v := 1888) dX12_parseChannel_32 (by decide) ?_
    refine r_istore_n (pc := 35) X (by decide) dX12_parseChannel_35 ?_
    exact T_sub (t_X12_parseChannel_36 X hr _ _ _ _ _ h) ⟨rfl, rfl, rfl, rfl, trivial⟩
  · cases h
    exact r_vret (pc := 22) X hr dX12_parseChannel_22
theorem c_X12_parseChannel {G : GG} {l : Launch} {r : Unit} {M M' : Mem}  (h : f_X12_parseChannel  M = some (r, M')) : Met l yX12_parseChannel (wsO yX12_parseChannel cX12_parseChannel 5 none) (rmO 6) (PcO G [.ref (G.2.1 (10, 0, 0))] M) (QvO G (AA G) M') 0 0 (AA G) :=
  met_of (own := RX12) rfl (by decide +kernel) (Nat.le_of_ble_eq_true rfl) (fun p e s m args below meth c X hr => t_X12_parseChannel X hr  h)
-- ConverterScannerModel.parseEntries
def f_X12_parseEntries_122 (x1 : Int32) (x3 : Int32) (M : Mem) : Option (Unit × Mem) :=
  bnd (f_X12_drafts (0 + x1) M) (fun r1 M2 => if bad r1 104 then none else nm (uI M2 (31, 0, 0) (Int32.toNatClampNeg r1) x3) (fun M4 => some ((), M4)))
set_option maxHeartbeats 4000000 in
set_option maxRecDepth 100000 in
theorem t_X12_parseEntries_122 {G : GG} {A : Nat → Prop} {p : Program} {l : Launch} {e : Env} {s : State} {m : MethodId} {args : Array Value} {below : List Frame} {meth : Method} {c : Code} {r : Unit} {M' : Mem} (X : Cx G A p s m args meth c RX12 cX12_parseEntries 5) (hr : meth.sig.returnType = none) {x1 : Int32} {x3 : Int32} {M : Mem}  (h : f_X12_parseEntries_122 x1 x3 M = some (r, M')) : T G A p l e (rmO 4) s m args below meth c 5 0 0 (MQ below (QvO G A M') args s 0 0 A) 122 [(0, .ref (G.2.1 (10, 0, 0))), (1, .int x1), (3, .int x3)] [] M := by
  unfold f_X12_parseEntries_122 at h
  refine r_aload_n (pc := 122) X dX12_parseEntries_122 rfl ?_
  refine r_getR (q := (31, 0, 0)) (pc := 123) X ⟨(ltb rfl), (ltb rfl)⟩ fl_X12_26 rfl dX12_parseEntries_123 ?_
  refine r_iconst (pc := 126) X (v := 0) dX12_parseEntries_126 (by decide) ?_
  refine r_iload_n (pc := 127) X dX12_parseEntries_127 rfl ?_
  refine r_iadd (pc := 128) X dX12_parseEntries_128 ?_
  refine bndE h (fun r1 M2 h3 h => ?_)
  refine r_callSi1 (pc := 129) X sy_X12_drafts my_X12_drafts ml_X12_309 ⟨Nat.le_of_ble_eq_true rfl, Nat.le_of_ble_eq_true rfl, Nat.le_of_ble_eq_true rfl, Nat.le_of_ble_eq_true rfl⟩ (c_X12_drafts  h3) (Nat.le_of_ble_eq_true rfl) dX12_parseEntries_129 ?_
  refine r_iload_n (pc := 132) X dX12_parseEntries_132 rfl ?_
  refine r_iastN (pc := 133) X (n := 104) ⟨(ltb rfl), (ltb rfl)⟩ rfl (nlt rfl) dX12_parseEntries_133 h (fun M4 h => ?_)
  cases h
  exact r_vret (pc := 134) X hr dX12_parseEntries_134
def f_X12_parseEntries_117 (r5 : Int32 → Int32 → Int32 → Int32 → Mem → Option (Unit × Mem)) (x1 : Int32) (x2 : Int32) (x3 : Int32) (xs0 : Int32) (M : Mem) : Option (Unit × Mem) :=
  r5 x1 x2 x3 xs0 M
set_option maxHeartbeats 4000000 in
set_option maxRecDepth 100000 in
theorem t_X12_parseEntries_117 {G : GG} {A : Nat → Prop} {p : Program} {l : Launch} {e : Env} {s : State} {m : MethodId} {args : Array Value} {below : List Frame} {meth : Method} {c : Code} {r : Unit} {M' : Mem} (X : Cx G A p s m args meth c RX12 cX12_parseEntries 5) (hr : meth.sig.returnType = none) {r5 : Int32 → Int32 → Int32 → Int32 → Mem → Option (Unit × Mem)} (hr5 : ∀ (x1 : Int32) (x2 : Int32) (x3 : Int32) (x4 : Int32) (M : Mem), r5 x1 x2 x3 x4 M = some (r, M') → T G A p l e (rmO 4) s m args below meth c 5 0 0 (MQ below (QvO G A M') args s 0 0 A) 5 [(0, .ref (G.2.1 (10, 0, 0))), (1, .int x1), (2, .int x2), (3, .int x3), (4, .int x4)] [] M) {x1 : Int32} {x2 : Int32} {x3 : Int32} {xs0 : Int32} {M : Mem}  (h : f_X12_parseEntries_117 r5 x1 x2 x3 xs0 M = some (r, M')) : T G A p l e (rmO 4) s m args below meth c 5 0 0 (MQ below (QvO G A M') args s 0 0 A) 117 [(0, .ref (G.2.1 (10, 0, 0))), (1, .int x1), (2, .int x2), (3, .int x3)] [.int xs0] M := by
  unfold f_X12_parseEntries_117 at h
  refine r_istore (pc := 117) X (by decide) dX12_parseEntries_117 ?_
  refine r_goto (pc := 119) X (tgt := 5) dX12_parseEntries_119 (by decide) ?_
  exact T_sub (hr5 _ _ _ _ _ h) ⟨rfl, rfl, rfl, rfl, rfl, trivial⟩
def f_X12_parseEntries_112 (r5 : Int32 → Int32 → Int32 → Int32 → Mem → Option (Unit × Mem)) (x1 : Int32) (x2 : Int32) (x3 : Int32) (M : Mem) : Option (Unit × Mem) :=
  f_X12_parseEntries_117 r5 x1 x2 x3 1 M
set_option maxHeartbeats 4000000 in
set_option maxRecDepth 100000 in
theorem t_X12_parseEntries_112 {G : GG} {A : Nat → Prop} {p : Program} {l : Launch} {e : Env} {s : State} {m : MethodId} {args : Array Value} {below : List Frame} {meth : Method} {c : Code} {r : Unit} {M' : Mem} (X : Cx G A p s m args meth c RX12 cX12_parseEntries 5) (hr : meth.sig.returnType = none) {r5 : Int32 → Int32 → Int32 → Int32 → Mem → Option (Unit × Mem)} (hr5 : ∀ (x1 : Int32) (x2 : Int32) (x3 : Int32) (x4 : Int32) (M : Mem), r5 x1 x2 x3 x4 M = some (r, M') → T G A p l e (rmO 4) s m args below meth c 5 0 0 (MQ below (QvO G A M') args s 0 0 A) 5 [(0, .ref (G.2.1 (10, 0, 0))), (1, .int x1), (2, .int x2), (3, .int x3), (4, .int x4)] [] M) {x1 : Int32} {x2 : Int32} {x3 : Int32} {M : Mem}  (h : f_X12_parseEntries_112 r5 x1 x2 x3 M = some (r, M')) : T G A p l e (rmO 4) s m args below meth c 5 0 0 (MQ below (QvO G A M') args s 0 0 A) 112 [(0, .ref (G.2.1 (10, 0, 0))), (1, .int x1), (2, .int x2), (3, .int x3)] [] M := by
  unfold f_X12_parseEntries_112 at h
  refine r_iconst (pc := 112) X (v := 1) dX12_parseEntries_112 (by decide) ?_
  refine r_goto (pc := 113) X (tgt := 117) dX12_parseEntries_113 (by decide) ?_
  exact T_sub (t_X12_parseEntries_117 X hr hr5 h) ⟨rfl, rfl, rfl, rfl, trivial⟩
def f_X12_parseEntries_60 (r5 : Int32 → Int32 → Int32 → Int32 → Mem → Option (Unit × Mem)) (x1 : Int32) (x2 : Int32) (x3 : Int32) (M : Mem) : Option (Unit × Mem) :=
  bnd (f_X12_ok  M) (fun r1 M2 => if r1 = 0 then some ((), M2) else bnd (f_X12_drafts ((10 + (8 * x1)) + x3) M2) (fun r4 M5 => if bad r4 104 then none else nm (uI M5 (31, 0, 0) (Int32.toNatClampNeg r4) (M5.1 (10, 0, 0) 13)) (fun M7 => nm (x3 + 1) (fun e8 => bnd (f_X12_next  M7) (fun r9 M10 => if (M10.1 (10, 0, 0) 11) = 2 then f_X12_parseEntries_112 r5 x1 x2 e8 M10 else if (M10.1 (10, 0, 0) 11) = 4 then f_X12_parseEntries_112 r5 x1 x2 e8 M10 else f_X12_parseEntries_117 r5 x1 x2 e8 0 M10)))))
set_option maxHeartbeats 4000000 in
set_option maxRecDepth 100000 in
theorem t_X12_parseEntries_60 {G : GG} {A : Nat → Prop} {p : Program} {l : Launch} {e : Env} {s : State} {m : MethodId} {args : Array Value} {below : List Frame} {meth : Method} {c : Code} {r : Unit} {M' : Mem} (X : Cx G A p s m args meth c RX12 cX12_parseEntries 5) (hr : meth.sig.returnType = none) {r5 : Int32 → Int32 → Int32 → Int32 → Mem → Option (Unit × Mem)} (hr5 : ∀ (x1 : Int32) (x2 : Int32) (x3 : Int32) (x4 : Int32) (M : Mem), r5 x1 x2 x3 x4 M = some (r, M') → T G A p l e (rmO 4) s m args below meth c 5 0 0 (MQ below (QvO G A M') args s 0 0 A) 5 [(0, .ref (G.2.1 (10, 0, 0))), (1, .int x1), (2, .int x2), (3, .int x3), (4, .int x4)] [] M) {x1 : Int32} {x2 : Int32} {x3 : Int32} {M : Mem}  (h : f_X12_parseEntries_60 r5 x1 x2 x3 M = some (r, M')) : T G A p l e (rmO 4) s m args below meth c 5 0 0 (MQ below (QvO G A M') args s 0 0 A) 60 [(0, .ref (G.2.1 (10, 0, 0))), (1, .int x1), (2, .int x2), (3, .int x3)] [] M := by
  unfold f_X12_parseEntries_60 at h
  refine r_aload_n (pc := 60) X dX12_parseEntries_60 rfl ?_
  refine bndE h (fun r1 M2 h3 h => ?_)
  refine r_callVi0 (pc := 61) X ⟨(ltb rfl), (ltb rfl)⟩ rfl vy_X12_ok my_X12_ok ml_X12_279 ⟨Nat.le_of_ble_eq_true rfl, Nat.le_of_ble_eq_true rfl, Nat.le_of_ble_eq_true rfl, Nat.le_of_ble_eq_true rfl⟩ (c_X12_ok  h3) (Nat.le_of_ble_eq_true rfl) dX12_parseEntries_61 ?_
  refine r_if_ne (pc := 64) X (tgt := 68) dX12_parseEntries_64 (by decide) h (fun h => ?_) (fun h => ?_)
  · refine r_aload_n (pc := 68) X dX12_parseEntries_68 rfl ?_
    refine r_getR (q := (31, 0, 0)) (pc := 69) X ⟨(ltb rfl), (ltb rfl)⟩ fl_X12_26 rfl dX12_parseEntries_69 ?_
    refine r_bipush (pc := 72) X (v := 10) dX12_parseEntries_72 (by decide) ?_
    refine r_bipush (pc := 74) X (v := 8) dX12_parseEntries_74 (by decide) ?_
    refine r_iload_n (pc := 76) X dX12_parseEntries_76 rfl ?_
    refine r_imul (pc := 77) X dX12_parseEntries_77 ?_
    refine r_iadd (pc := 78) X dX12_parseEntries_78 ?_
    refine r_iload_n (pc := 79) X dX12_parseEntries_79 rfl ?_
    refine r_iadd (pc := 80) X dX12_parseEntries_80 ?_
    refine bndE h (fun r4 M5 h6 h => ?_)
    refine r_callSi1 (pc := 81) X sy_X12_drafts my_X12_drafts ml_X12_309 ⟨Nat.le_of_ble_eq_true rfl, Nat.le_of_ble_eq_true rfl, Nat.le_of_ble_eq_true rfl, Nat.le_of_ble_eq_true rfl⟩ (c_X12_drafts  h6) (Nat.le_of_ble_eq_true rfl) dX12_parseEntries_81 ?_
    refine r_aload_n (pc := 84) X dX12_parseEntries_84 rfl ?_
    refine r_getI (pc := 85) X ⟨(ltb rfl), (ltb rfl)⟩ fl_X12_125 rfl dX12_parseEntries_85 ?_
    refine r_iastN (pc := 88) X (n := 104) ⟨(ltb rfl), (ltb rfl)⟩ rfl (nlt rfl) dX12_parseEntries_88 h (fun M7 h => ?_)
    refine r_iincN (pc := 89) X (v0 := 1) rfl (by decide) (by decide) dX12_parseEntries_89 h (fun e8 h => ?_)
    refine r_aload_n (pc := 92) X dX12_parseEntries_92 rfl ?_
    refine bndE h (fun r9 M10 h11 h => ?_)
    refine r_callVv0 (pc := 93) X ⟨(ltb rfl), (ltb rfl)⟩ rfl vy_X12_next my_X12_next ml_X12_286 ⟨Nat.le_of_ble_eq_true rfl, Nat.le_of_ble_eq_true rfl, Nat.le_of_ble_eq_true rfl, Nat.le_of_ble_eq_true rfl⟩ (c_X12_next  h11) (Nat.le_of_ble_eq_true rfl) dX12_parseEntries_93 ?_
    refine r_aload_n (pc := 96) X dX12_parseEntries_96 rfl ?_
    refine r_getI (pc := 97) X ⟨(ltb rfl), (ltb rfl)⟩ fl_X12_119 rfl dX12_parseEntries_97 ?_
    refine r_iconst (pc := 100) X (v := 2) dX12_parseEntries_100 (by decide) ?_
    refine r_icmp_eq (pc := 101) X (tgt := 112) dX12_parseEntries_101 (by decide) h (fun h => ?_) (fun h => ?_)
    · exact T_sub (t_X12_parseEntries_112 X hr hr5 h) ⟨rfl, rfl, rfl, rfl, trivial⟩
    · refine r_aload_n (pc := 104) X dX12_parseEntries_104 rfl ?_
      refine r_getI (pc := 105) X ⟨(ltb rfl), (ltb rfl)⟩ fl_X12_119 rfl dX12_parseEntries_105 ?_
      refine r_iconst (pc := 108) X (v := 4) dX12_parseEntries_108 (by decide) ?_
      refine r_icmp_ne (pc := 109) X (tgt := 116) dX12_parseEntries_109 (by decide) h (fun h => ?_) (fun h => ?_)
      · refine r_iconst (pc := 116) X (v := 0) dX12_parseEntries_116 (by decide) ?_
        exact T_sub (t_X12_parseEntries_117 X hr hr5 h) ⟨rfl, rfl, rfl, rfl, trivial⟩
      · exact T_sub (t_X12_parseEntries_112 X hr hr5 h) ⟨rfl, rfl, rfl, rfl, trivial⟩
  · cases h
    exact r_vret (pc := 67) X hr dX12_parseEntries_67
def f_X12_parseEntries_5 : Nat → Int32 → Int32 → Int32 → Int32 → Mem → Option (Unit × Mem)
  | 0 => fun _ _ _ _ _ => none
  | n + 1 => fun x1 x2 x3 x4 M => bnd (f_X12_ok  M) (fun r1 M2 => if r1 = 0 then f_X12_parseEntries_122 x1 x3 M2 else if x4 = 0 then f_X12_parseEntries_122 x1 x3 M2 else if (M2.1 (10, 0, 0) 11) = 2 then if (M2.1 (10, 0, 0) 13) < 8 then if x3 = x2 then bnd (f_X12_fail 4 M2) (fun r4 M5 => f_X12_parseEntries_60 (f_X12_parseEntries_5 n) x1 x2 x3 M5) else f_X12_parseEntries_60 (f_X12_parseEntries_5 n) x1 x2 x3 M2 else bnd (f_X12_fail 2 M2) (fun r7 M8 => f_X12_parseEntries_60 (f_X12_parseEntries_5 n) x1 x2 x3 M8) else bnd (f_X12_fail 1 M2) (fun r10 M11 => f_X12_parseEntries_60 (f_X12_parseEntries_5 n) x1 x2 x3 M11))
set_option maxHeartbeats 4000000 in
set_option maxRecDepth 100000 in
theorem t_X12_parseEntries_5 {G : GG} {A : Nat → Prop} {p : Program} {l : Launch} {e : Env} {s : State} {m : MethodId} {args : Array Value} {below : List Frame} {meth : Method} {c : Code} {r : Unit} {M' : Mem} (X : Cx G A p s m args meth c RX12 cX12_parseEntries 5) (hr : meth.sig.returnType = none) : ∀ (n : Nat) (x1 : Int32) (x2 : Int32) (x3 : Int32) (x4 : Int32) (M : Mem), f_X12_parseEntries_5 n x1 x2 x3 x4 M = some (r, M') → T G A p l e (rmO 4) s m args below meth c 5 0 0 (MQ below (QvO G A M') args s 0 0 A) 5 [(0, .ref (G.2.1 (10, 0, 0))), (1, .int x1), (2, .int x2), (3, .int x3), (4, .int x4)] [] M := by
  intro n
  induction n with
  | zero =>
    intro x1 x2 x3 x4 M  h
    cases h
  | succ n ih =>
    intro x1 x2 x3 x4 M  h
    unfold f_X12_parseEntries_5 at h
    refine r_aload_n (pc := 5) X dX12_parseEntries_5 rfl ?_
    refine bndE h (fun r1 M2 h3 h => ?_)
    refine r_callVi0 (pc := 6) X ⟨(ltb rfl), (ltb rfl)⟩ rfl vy_X12_ok my_X12_ok ml_X12_279 ⟨Nat.le_of_ble_eq_true rfl, Nat.le_of_ble_eq_true rfl, Nat.le_of_ble_eq_true rfl, Nat.le_of_ble_eq_true rfl⟩ (c_X12_ok  h3) (Nat.le_of_ble_eq_true rfl) dX12_parseEntries_6 ?_
    refine r_if_eq (pc := 9) X (tgt := 122) dX12_parseEntries_9 (by decide) h (fun h => ?_) (fun h => ?_)
    · exact T_sub (t_X12_parseEntries_122 X hr h) ⟨rfl, rfl, rfl, trivial⟩
    · refine r_iload (pc := 12) X dX12_parseEntries_12 rfl ?_
      refine r_if_eq (pc := 14) X (tgt := 122) dX12_parseEntries_14 (by decide) h (fun h => ?_) (fun h => ?_)
      · exact T_sub (t_X12_parseEntries_122 X hr h) ⟨rfl, rfl, rfl, trivial⟩
      · refine r_aload_n (pc := 17) X dX12_parseEntries_17 rfl ?_
        refine r_getI (pc := 18) X ⟨(ltb rfl), (ltb rfl)⟩ fl_X12_119 rfl dX12_parseEntries_18 ?_
        refine r_iconst (pc := 21) X (v := 2) dX12_parseEntries_21 (by decide) ?_
        refine r_icmp_eq (pc := 22) X (tgt := 33) dX12_parseEntries_22 (by decide) h (fun h => ?_) (fun h => ?_)
        · refine r_aload_n (pc := 33) X dX12_parseEntries_33 rfl ?_
          refine r_getI (pc := 34) X ⟨(ltb rfl), (ltb rfl)⟩ fl_X12_125 rfl dX12_parseEntries_34 ?_
          refine r_bipush (pc := 37) X (v := 8) dX12_parseEntries_37 (by decide) ?_
          refine r_icmp_lt (pc := 39) X (tgt := 50) dX12_parseEntries_39 (by decide) h (fun h => ?_) (fun h => ?_)
          · refine r_iload_n (pc := 50) X dX12_parseEntries_50 rfl ?_
            refine r_iload_n (pc := 51) X dX12_parseEntries_51 rfl ?_
            refine r_icmp_ne (pc := 52) X (tgt := 60) dX12_parseEntries_52 (by decide) h (fun h => ?_) (fun h => ?_)
            · exact T_sub (t_X12_parseEntries_60 X hr ih h) ⟨rfl, rfl, rfl, rfl, trivial⟩
            · refine r_aload_n (pc := 55) X dX12_parseEntries_55 rfl ?_
              refine r_iconst (pc := 56) X (v := 4) dX12_parseEntries_56 (by decide) ?_
              refine bndE h (fun r4 M5 h6 h => ?_)
              refine r_callVv1 (pc := 57) X ⟨(ltb rfl), (ltb rfl)⟩ rfl vy_X12_fail my_X12_fail ml_X12_292 ⟨Nat.le_of_ble_eq_true rfl, Nat.le_of_ble_eq_true rfl, Nat.le_of_ble_eq_true rfl, Nat.le_of_ble_eq_true rfl⟩ (c_X12_fail  h6) (Nat.le_of_ble_eq_true rfl) dX12_parseEntries_57 ?_
              exact T_sub (t_X12_parseEntries_60 X hr ih h) ⟨rfl, rfl, rfl, rfl, trivial⟩
          · refine r_aload_n (pc := 42) X dX12_parseEntries_42 rfl ?_
            refine r_iconst (pc := 43) X (v := 2) dX12_parseEntries_43 (by decide) ?_
            refine bndE h (fun r7 M8 h9 h => ?_)
            refine r_callVv1 (pc := 44) X ⟨(ltb rfl), (ltb rfl)⟩ rfl vy_X12_fail my_X12_fail ml_X12_292 ⟨Nat.le_of_ble_eq_true rfl, Nat.le_of_ble_eq_true rfl, Nat.le_of_ble_eq_true rfl, Nat.le_of_ble_eq_true rfl⟩ (c_X12_fail  h9) (Nat.le_of_ble_eq_true rfl) dX12_parseEntries_44 ?_
            refine r_goto (pc := 47) X (tgt := 60) dX12_parseEntries_47 (by decide) ?_
            exact T_sub (t_X12_parseEntries_60 X hr ih h) ⟨rfl, rfl, rfl, rfl, trivial⟩
        · refine r_aload_n (pc := 25) X dX12_parseEntries_25 rfl ?_
          refine r_iconst (pc := 26) X (v := 1) dX12_parseEntries_26 (by decide) ?_
          refine bndE h (fun r10 M11 h12 h => ?_)
          refine r_callVv1 (pc := 27) X ⟨(ltb rfl), (ltb rfl)⟩ rfl vy_X12_fail my_X12_fail ml_X12_292 ⟨Nat.le_of_ble_eq_true rfl, Nat.le_of_ble_eq_true rfl, Nat.le_of_ble_eq_true rfl, Nat.le_of_ble_eq_true rfl⟩ (c_X12_fail  h12) (Nat.le_of_ble_eq_true rfl) dX12_parseEntries_27 ?_
          refine r_goto (pc := 30) X (tgt := 60) dX12_parseEntries_30 (by decide) ?_
          exact T_sub (t_X12_parseEntries_60 X hr ih h) ⟨rfl, rfl, rfl, rfl, trivial⟩
def f_X12_parseEntries (x1 : Int32) (x2 : Int32) (M : Mem) : Option (Unit × Mem) :=
  f_X12_parseEntries_5 fuelN x1 x2 0 1 M
set_option maxHeartbeats 4000000 in
set_option maxRecDepth 100000 in
theorem t_X12_parseEntries {G : GG} {A : Nat → Prop} {p : Program} {l : Launch} {e : Env} {s : State} {m : MethodId} {args : Array Value} {below : List Frame} {meth : Method} {c : Code} {r : Unit} {M' : Mem} (X : Cx G A p s m args meth c RX12 cX12_parseEntries 5) (hr : meth.sig.returnType = none) {x1 : Int32} {x2 : Int32} {M : Mem}  (h : f_X12_parseEntries x1 x2 M = some (r, M')) : T G A p l e (rmO 4) s m args below meth c 5 0 0 (MQ below (QvO G A M') args s 0 0 A) 0 [(0, .ref (G.2.1 (10, 0, 0))), (1, .int x1), (2, .int x2)] [] M := by
  unfold f_X12_parseEntries at h
  refine r_iconst (pc := 0) X (v := 0) dX12_parseEntries_0 (by decide) ?_
  refine r_istore_n (pc := 1) X (by decide) dX12_parseEntries_1 ?_
  refine r_iconst (pc := 2) X (v := 1) dX12_parseEntries_2 (by decide) ?_
  refine r_istore (pc := 3) X (by decide) dX12_parseEntries_3 ?_
  exact T_sub (t_X12_parseEntries_5 X hr _ _ _ _ _ _ h) ⟨rfl, rfl, rfl, rfl, rfl, trivial⟩
theorem c_X12_parseEntries {G : GG} {l : Launch} {x1 : Int32} {x2 : Int32} {r : Unit} {M M' : Mem}  (h : f_X12_parseEntries x1 x2 M = some (r, M')) : Met l yX12_parseEntries (wsO yX12_parseEntries cX12_parseEntries 5 none) (rmO 4) (PcO G [.ref (G.2.1 (10, 0, 0)), .int x1, .int x2] M) (QvO G (AA G) M') 0 0 (AA G) :=
  met_of (own := RX12) rfl (by decide +kernel) (Nat.le_of_ble_eq_true rfl) (fun p e s m args below meth c X hr => t_X12_parseEntries X hr  h)
-- ConverterScannerModel.parseOver
def f_X12_parseOver  (M : Mem) : Option (Unit × Mem) :=
  bnd (f_X12_drafts 2 M) (fun r1 M2 => bnd (f_X12_readNumber 0 4 M2) (fun r4 M5 => if bad r1 104 then none else nm (uI M5 (31, 0, 0) (Int32.toNatClampNeg r1) r4) (fun M7 => bnd (f_X12_require 12 M7) (fun r8 M9 => bnd (f_X12_drafts 3 M9) (fun r11 M12 => bnd (f_X12_readNumber 0 4 M12) (fun r14 M15 => if bad r11 104 then none else nm (uI M15 (31, 0, 0) (Int32.toNatClampNeg r11) r14) (fun M17 => bnd (f_X12_drafts 4 M17) (fun r18 M19 => bnd (f_X12_accepts 13 M19) (fun r21 M22 => if r21 = 0 then if bad r18 104 then none else nm (uI M22 (31, 0, 0) (Int32.toNatClampNeg r18) 0) (fun M24 => some ((), M24)) else if bad r18 104 then none else nm (uI M22 (31, 0, 0) (Int32.toNatClampNeg r18) 1) (fun M25 => some ((), M25)))))))))))
set_option maxHeartbeats 4000000 in
set_option maxRecDepth 100000 in
theorem t_X12_parseOver {G : GG} {A : Nat → Prop} {p : Program} {l : Launch} {e : Env} {s : State} {m : MethodId} {args : Array Value} {below : List Frame} {meth : Method} {c : Code} {r : Unit} {M' : Mem} (X : Cx G A p s m args meth c RX12 cX12_parseOver 1) (hr : meth.sig.returnType = none) {M : Mem}  (h : f_X12_parseOver M = some (r, M')) : T G A p l e (rmO 6) s m args below meth c 1 0 0 (MQ below (QvO G A M') args s 0 0 A) 0 [(0, .ref (G.2.1 (10, 0, 0)))] [] M := by
  unfold f_X12_parseOver at h
  refine r_aload_n (pc := 0) X dX12_parseOver_0 rfl ?_
  refine r_getR (q := (31, 0, 0)) (pc := 1) X ⟨(ltb rfl), (ltb rfl)⟩ fl_X12_26 rfl dX12_parseOver_1 ?_
  refine r_iconst (pc := 4) X (v := 2) dX12_parseOver_4 (by decide) ?_
  refine bndE h (fun r1 M2 h3 h => ?_)
  refine r_callSi1 (pc := 5) X sy_X12_drafts my_X12_drafts ml_X12_309 ⟨Nat.le_of_ble_eq_true rfl, Nat.le_of_ble_eq_true rfl, Nat.le_of_ble_eq_true rfl, Nat.le_of_ble_eq_true rfl⟩ (c_X12_drafts  h3) (Nat.le_of_ble_eq_true rfl) dX12_parseOver_5 ?_
  refine r_aload_n (pc := 8) X dX12_parseOver_8 rfl ?_
  refine r_iconst (pc := 9) X (v := 0) dX12_parseOver_9 (by decide) ?_
  refine r_iconst (pc := 10) X (v := 4) dX12_parseOver_10 (by decide) ?_
  refine bndE h (fun r4 M5 h6 h => ?_)
  refine r_callVi2 (pc := 11) X ⟨(ltb rfl), (ltb rfl)⟩ rfl vy_X12_readNumber my_X12_readNumber ml_X12_298 ⟨Nat.le_of_ble_eq_true rfl, Nat.le_of_ble_eq_true rfl, Nat.le_of_ble_eq_true rfl, Nat.le_of_ble_eq_true rfl⟩ (c_X12_readNumber  h6) (Nat.le_of_ble_eq_true rfl) dX12_parseOver_11 ?_
  refine r_iastN (pc := 14) X (n := 104) ⟨(ltb rfl), (ltb rfl)⟩ rfl (nlt rfl) dX12_parseOver_14 h (fun M7 h => ?_)
  refine r_aload_n (pc := 15) X dX12_parseOver_15 rfl ?_
  refine r_bipush (pc := 16) X (v := 12) dX12_parseOver_16 (by decide) ?_
  refine bndE h (fun r8 M9 h10 h => ?_)
  refine r_callVv1 (pc := 18) X ⟨(ltb rfl), (ltb rfl)⟩ rfl vy_X12_require my_X12_require ml_X12_315 ⟨Nat.le_of_ble_eq_true rfl, Nat.le_of_ble_eq_true rfl, Nat.le_of_ble_eq_true rfl, Nat.le_of_ble_eq_true rfl⟩ (c_X12_require  h10) (Nat.le_of_ble_eq_true rfl) dX12_parseOver_18 ?_
  refine r_aload_n (pc := 21) X dX12_parseOver_21 rfl ?_
  refine r_getR (q := (31, 0, 0)) (pc := 22) X ⟨(ltb rfl), (ltb rfl)⟩ fl_X12_26 rfl dX12_parseOver_22 ?_
  refine r_iconst (pc := 25) X (v := 3) dX12_parseOver_25 (by decide) ?_
  refine bndE h (fun r11 M12 h13 h => ?_)
  refine r_callSi1 (pc := 26) X sy_X12_drafts my_X12_drafts ml_X12_309 ⟨Nat.le_of_ble_eq_true rfl, Nat.le_of_ble_eq_true rfl, Nat.le_of_ble_eq_true rfl, Nat.le_of_ble_eq_true rfl⟩ (c_X12_drafts  h13) (Nat.le_of_ble_eq_true rfl) dX12_parseOver_26 ?_
  refine r_aload_n (pc := 29) X dX12_parseOver_29 rfl ?_
  refine r_iconst (pc := 30) X (v := 0) dX12_parseOver_30 (by decide) ?_
  refine r_iconst (pc := 31) X (v := 4) dX12_parseOver_31 (by decide) ?_
  refine bndE h (fun r14 M15 h16 h => ?_)
  refine r_callVi2 (pc := 32) X ⟨(ltb rfl), (ltb rfl)⟩ rfl vy_X12_readNumber my_X12_readNumber ml_X12_298 ⟨Nat.le_of_ble_eq_true rfl, Nat.le_of_ble_eq_true rfl, Nat.le_of_ble_eq_true rfl, Nat.le_of_ble_eq_true rfl⟩ (c_X12_readNumber  h16) (Nat.le_of_ble_eq_true rfl) dX12_parseOver_32 ?_
  refine r_iastN (pc := 35) X (n := 104) ⟨(ltb rfl), (ltb rfl)⟩ rfl (nlt rfl) dX12_parseOver_35 h (fun M17 h => ?_)
  refine r_aload_n (pc := 36) X dX12_parseOver_36 rfl ?_
  refine r_getR (q := (31, 0, 0)) (pc := 37) X ⟨(ltb rfl), (ltb rfl)⟩ fl_X12_26 rfl dX12_parseOver_37 ?_
  refine r_iconst (pc := 40) X (v := 4) dX12_parseOver_40 (by decide) ?_
  refine bndE h (fun r18 M19 h20 h => ?_)
  refine r_callSi1 (pc := 41) X sy_X12_drafts my_X12_drafts ml_X12_309 ⟨Nat.le_of_ble_eq_true rfl, Nat.le_of_ble_eq_true rfl, Nat.le_of_ble_eq_true rfl, Nat.le_of_ble_eq_true rfl⟩ (c_X12_drafts  h20) (Nat.le_of_ble_eq_true rfl) dX12_parseOver_41 ?_
  refine r_aload_n (pc := 44) X dX12_parseOver_44 rfl ?_
  refine r_bipush (pc := 45) X (v := 13) dX12_parseOver_45 (by decide) ?_
  refine bndE h (fun r21 M22 h23 h => ?_)
  refine r_callVi1 (pc := 47) X ⟨(ltb rfl), (ltb rfl)⟩ rfl vy_X12_accepts my_X12_accepts ml_X12_289 ⟨Nat.le_of_ble_eq_true rfl, Nat.le_of_ble_eq_true rfl, Nat.le_of_ble_eq_true rfl, Nat.le_of_ble_eq_true rfl⟩ (c_X12_accepts  h23) (Nat.le_of_ble_eq_true rfl) dX12_parseOver_47 ?_
  refine r_if_eq (pc := 50) X (tgt := 57) dX12_parseOver_50 (by decide) h (fun h => ?_) (fun h => ?_)
  · refine r_iconst (pc := 57) X (v := 0) dX12_parseOver_57 (by decide) ?_
    refine r_iastN (pc := 58) X (n := 104) ⟨(ltb rfl), (ltb rfl)⟩ rfl (nlt rfl) dX12_parseOver_58 h (fun M24 h => ?_)
    cases h
    exact r_vret (pc := 59) X hr dX12_parseOver_59
  · refine r_iconst (pc := 53) X (v := 1) dX12_parseOver_53 (by decide) ?_
    refine r_goto (pc := 54) X (tgt := 58) dX12_parseOver_54 (by decide) ?_
    refine r_iastN (pc := 58) X (n := 104) ⟨(ltb rfl), (ltb rfl)⟩ rfl (nlt rfl) dX12_parseOver_58 h (fun M25 h => ?_)
    cases h
    exact r_vret (pc := 59) X hr dX12_parseOver_59
theorem c_X12_parseOver {G : GG} {l : Launch} {r : Unit} {M M' : Mem}  (h : f_X12_parseOver  M = some (r, M')) : Met l yX12_parseOver (wsO yX12_parseOver cX12_parseOver 1 none) (rmO 6) (PcO G [.ref (G.2.1 (10, 0, 0))] M) (QvO G (AA G) M') 0 0 (AA G) :=
  met_of (own := RX12) rfl (by decide +kernel) (Nat.le_of_ble_eq_true rfl) (fun p e s m args below meth c X hr => t_X12_parseOver X hr  h)
-- ConverterScannerModel.parseMask
def f_X12_parseMask_111 (x1 : Int32) (x2 : Int32) (M : Mem) : Option (Unit × Mem) :=
  bnd (f_X12_drafts (45 + x1) M) (fun r1 M2 => if bad r1 104 then none else nm (uI M2 (31, 0, 0) (Int32.toNatClampNeg r1) x2) (fun M4 => some ((), M4)))
set_option maxHeartbeats 4000000 in
set_option maxRecDepth 100000 in
theorem t_X12_parseMask_111 {G : GG} {A : Nat → Prop} {p : Program} {l : Launch} {e : Env} {s : State} {m : MethodId} {args : Array Value} {below : List Frame} {meth : Method} {c : Code} {r : Unit} {M' : Mem} (X : Cx G A p s m args meth c RX12 cX12_parseMask 4) (hr : meth.sig.returnType = none) {x1 : Int32} {x2 : Int32} {M : Mem}  (h : f_X12_parseMask_111 x1 x2 M = some (r, M')) : T G A p l e (rmO 4) s m args below meth c 4 0 0 (MQ below (QvO G A M') args s 0 0 A) 111 [(0, .ref (G.2.1 (10, 0, 0))), (1, .int x1), (2, .int x2)] [] M := by
  unfold f_X12_parseMask_111 at h
  refine r_aload_n (pc := 111) X dX12_parseMask_111 rfl ?_
  refine r_getR (q := (31, 0, 0)) (pc := 112) X ⟨(ltb rfl), (ltb rfl)⟩ fl_X12_26 rfl dX12_parseMask_112 ?_
  refine r_bipush (pc := 115) X (v := 45) dX12_parseMask_115 (by decide) ?_
  refine r_iload_n (pc := 117) X dX12_parseMask_117 rfl ?_
  refine r_iadd (pc := 118) X dX12_parseMask_118 ?_
  refine bndE h (fun r1 M2 h3 h => ?_)
  refine r_callSi1 (pc := 119) X sy_X12_drafts my_X12_drafts ml_X12_309 ⟨Nat.le_of_ble_eq_true rfl, Nat.le_of_ble_eq_true rfl, Nat.le_of_ble_eq_true rfl, Nat.le_of_ble_eq_true rfl⟩ (c_X12_drafts  h3) (Nat.le_of_ble_eq_true rfl) dX12_parseMask_119 ?_
  refine r_iload_n (pc := 122) X dX12_parseMask_122 rfl ?_
  refine r_iastN (pc := 123) X (n := 104) ⟨(ltb rfl), (ltb rfl)⟩ rfl (nlt rfl) dX12_parseMask_123 h (fun M4 h => ?_)
  cases h
  exact r_vret (pc := 124) X hr dX12_parseMask_124
def f_X12_parseMask_107 (r4 : Int32 → Int32 → Int32 → Mem → Option (Unit × Mem)) (x1 : Int32) (x2 : Int32) (xs0 : Int32) (M : Mem) : Option (Unit × Mem) :=
  r4 x1 x2 xs0 M
set_option maxHeartbeats 4000000 in
set_option maxRecDepth 100000 in
theorem t_X12_parseMask_107 {G : GG} {A : Nat → Prop} {p : Program} {l : Launch} {e : Env} {s : State} {m : MethodId} {args : Array Value} {below : List Frame} {meth : Method} {c : Code} {r : Unit} {M' : Mem} (X : Cx G A p s m args meth c RX12 cX12_parseMask 4) (hr : meth.sig.returnType = none) {r4 : Int32 → Int32 → Int32 → Mem → Option (Unit × Mem)} (hr4 : ∀ (x1 : Int32) (x2 : Int32) (x3 : Int32) (M : Mem), r4 x1 x2 x3 M = some (r, M') → T G A p l e (rmO 4) s m args below meth c 4 0 0 (MQ below (QvO G A M') args s 0 0 A) 4 [(0, .ref (G.2.1 (10, 0, 0))), (1, .int x1), (2, .int x2), (3, .int x3)] [] M) {x1 : Int32} {x2 : Int32} {xs0 : Int32} {M : Mem}  (h : f_X12_parseMask_107 r4 x1 x2 xs0 M = some (r, M')) : T G A p l e (rmO 4) s m args below meth c 4 0 0 (MQ below (QvO G A M') args s 0 0 A) 107 [(0, .ref (G.2.1 (10, 0, 0))), (1, .int x1), (2, .int x2)] [.int xs0] M := by
  unfold f_X12_parseMask_107 at h
  refine r_istore_n (pc := 107) X (by decide) dX12_parseMask_107 ?_
  refine r_goto (pc := 108) X (tgt := 4) dX12_parseMask_108 (by decide) ?_
  exact T_sub (hr4 _ _ _ _ h) ⟨rfl, rfl, rfl, rfl, trivial⟩
def f_X12_parseMask_102 (r4 : Int32 → Int32 → Int32 → Mem → Option (Unit × Mem)) (x1 : Int32) (x2 : Int32) (M : Mem) : Option (Unit × Mem) :=
  f_X12_parseMask_107 r4 x1 x2 1 M
set_option maxHeartbeats 4000000 in
set_option maxRecDepth 100000 in
theorem t_X12_parseMask_102 {G : GG} {A : Nat → Prop} {p : Program} {l : Launch} {e : Env} {s : State} {m : MethodId} {args : Array Value} {below : List Frame} {meth : Method} {c : Code} {r : Unit} {M' : Mem} (X : Cx G A p s m args meth c RX12 cX12_parseMask 4) (hr : meth.sig.returnType = none) {r4 : Int32 → Int32 → Int32 → Mem → Option (Unit × Mem)} (hr4 : ∀ (x1 : Int32) (x2 : Int32) (x3 : Int32) (M : Mem), r4 x1 x2 x3 M = some (r, M') → T G A p l e (rmO 4) s m args below meth c 4 0 0 (MQ below (QvO G A M') args s 0 0 A) 4 [(0, .ref (G.2.1 (10, 0, 0))), (1, .int x1), (2, .int x2), (3, .int x3)] [] M) {x1 : Int32} {x2 : Int32} {M : Mem}  (h : f_X12_parseMask_102 r4 x1 x2 M = some (r, M')) : T G A p l e (rmO 4) s m args below meth c 4 0 0 (MQ below (QvO G A M') args s 0 0 A) 102 [(0, .ref (G.2.1 (10, 0, 0))), (1, .int x1), (2, .int x2)] [] M := by
  unfold f_X12_parseMask_102 at h
  refine r_iconst (pc := 102) X (v := 1) dX12_parseMask_102 (by decide) ?_
  refine r_goto (pc := 103) X (tgt := 107) dX12_parseMask_103 (by decide) ?_
  exact T_sub (t_X12_parseMask_107 X hr hr4 h) ⟨rfl, rfl, rfl, trivial⟩
def f_X12_parseMask_65 (r4 : Int32 → Int32 → Int32 → Mem → Option (Unit × Mem)) (x1 : Int32) (x2 : Int32) (M : Mem) : Option (Unit × Mem) :=
  bnd (f_X12_ok  M) (fun r1 M2 => if r1 = 0 then some ((), M2) else nm (x2 ||| (1 <<< ((M2.1 (10, 0, 0) 13) &&& 31))) (fun e4 => bnd (f_X12_next  M2) (fun r5 M6 => if (M6.1 (10, 0, 0) 11) = 2 then f_X12_parseMask_102 r4 x1 e4 M6 else if (M6.1 (10, 0, 0) 11) = 4 then f_X12_parseMask_102 r4 x1 e4 M6 else f_X12_parseMask_107 r4 x1 e4 0 M6)))
set_option maxHeartbeats 4000000 in
set_option maxRecDepth 100000 in
theorem t_X12_parseMask_65 {G : GG} {A : Nat → Prop} {p : Program} {l : Launch} {e : Env} {s : State} {m : MethodId} {args : Array Value} {below : List Frame} {meth : Method} {c : Code} {r : Unit} {M' : Mem} (X : Cx G A p s m args meth c RX12 cX12_parseMask 4) (hr : meth.sig.returnType = none) {r4 : Int32 → Int32 → Int32 → Mem → Option (Unit × Mem)} (hr4 : ∀ (x1 : Int32) (x2 : Int32) (x3 : Int32) (M : Mem), r4 x1 x2 x3 M = some (r, M') → T G A p l e (rmO 4) s m args below meth c 4 0 0 (MQ below (QvO G A M') args s 0 0 A) 4 [(0, .ref (G.2.1 (10, 0, 0))), (1, .int x1), (2, .int x2), (3, .int x3)] [] M) {x1 : Int32} {x2 : Int32} {M : Mem}  (h : f_X12_parseMask_65 r4 x1 x2 M = some (r, M')) : T G A p l e (rmO 4) s m args below meth c 4 0 0 (MQ below (QvO G A M') args s 0 0 A) 65 [(0, .ref (G.2.1 (10, 0, 0))), (1, .int x1), (2, .int x2)] [] M := by
  unfold f_X12_parseMask_65 at h
  refine r_aload_n (pc := 65) X dX12_parseMask_65 rfl ?_
  refine bndE h (fun r1 M2 h3 h => ?_)
  refine r_callVi0 (pc := 66) X ⟨(ltb rfl), (ltb rfl)⟩ rfl vy_X12_ok my_X12_ok ml_X12_279 ⟨Nat.le_of_ble_eq_true rfl, Nat.le_of_ble_eq_true rfl, Nat.le_of_ble_eq_true rfl, Nat.le_of_ble_eq_true rfl⟩ (c_X12_ok  h3) (Nat.le_of_ble_eq_true rfl) dX12_parseMask_66 ?_
  refine r_if_ne (pc := 69) X (tgt := 73) dX12_parseMask_69 (by decide) h (fun h => ?_) (fun h => ?_)
  · refine r_iload_n (pc := 73) X dX12_parseMask_73 rfl ?_
    refine r_iconst (pc := 74) X (v := 1) dX12_parseMask_74 (by decide) ?_
    refine r_aload_n (pc := 75) X dX12_parseMask_75 rfl ?_
    refine r_getI (pc := 76) X ⟨(ltb rfl), (ltb rfl)⟩ fl_X12_125 rfl dX12_parseMask_76 ?_
    refine r_ishl (pc := 79) X dX12_parseMask_79 ?_
    refine r_ior (pc := 80) X dX12_parseMask_80 ?_
    refine r_istore_nN (pc := 81) X (by decide) dX12_parseMask_81 h (fun e4 h => ?_)
    refine r_aload_n (pc := 82) X dX12_parseMask_82 rfl ?_
    refine bndE h (fun r5 M6 h7 h => ?_)
    refine r_callVv0 (pc := 83) X ⟨(ltb rfl), (ltb rfl)⟩ rfl vy_X12_next my_X12_next ml_X12_286 ⟨Nat.le_of_ble_eq_true rfl, Nat.le_of_ble_eq_true rfl, Nat.le_of_ble_eq_true rfl, Nat.le_of_ble_eq_true rfl⟩ (c_X12_next  h7) (Nat.le_of_ble_eq_true rfl) dX12_parseMask_83 ?_
    refine r_aload_n (pc := 86) X dX12_parseMask_86 rfl ?_
    refine r_getI (pc := 87) X ⟨(ltb rfl), (ltb rfl)⟩ fl_X12_119 rfl dX12_parseMask_87 ?_
    refine r_iconst (pc := 90) X (v := 2) dX12_parseMask_90 (by decide) ?_
    refine r_icmp_eq (pc := 91) X (tgt := 102) dX12_parseMask_91 (by decide) h (fun h => ?_) (fun h => ?_)
    · exact T_sub (t_X12_parseMask_102 X hr hr4 h) ⟨rfl, rfl, rfl, trivial⟩
    · refine r_aload_n (pc := 94) X dX12_parseMask_94 rfl ?_
      refine r_getI (pc := 95) X ⟨(ltb rfl), (ltb rfl)⟩ fl_X12_119 rfl dX12_parseMask_95 ?_
      refine r_iconst (pc := 98) X (v := 4) dX12_parseMask_98 (by decide) ?_
      refine r_icmp_ne (pc := 99) X (tgt := 106) dX12_parseMask_99 (by decide) h (fun h => ?_) (fun h => ?_)
      · refine r_iconst (pc := 106) X (v := 0) dX12_parseMask_106 (by decide) ?_
        exact T_sub (t_X12_parseMask_107 X hr hr4 h) ⟨rfl, rfl, rfl, trivial⟩
      · exact T_sub (t_X12_parseMask_102 X hr hr4 h) ⟨rfl, rfl, rfl, trivial⟩
  · cases h
    exact r_vret (pc := 72) X hr dX12_parseMask_72
def f_X12_parseMask_4 : Nat → Int32 → Int32 → Int32 → Mem → Option (Unit × Mem)
  | 0 => fun _ _ _ _ => none
  | n + 1 => fun x1 x2 x3 M => bnd (f_X12_ok  M) (fun r1 M2 => if r1 = 0 then f_X12_parseMask_111 x1 x2 M2 else if x3 = 0 then f_X12_parseMask_111 x1 x2 M2 else if (M2.1 (10, 0, 0) 11) = 2 then if (M2.1 (10, 0, 0) 13) < 8 then if ((x2 >>> ((M2.1 (10, 0, 0) 13) &&& 31)) &&& 1) = 1 then bnd (f_X12_fail 3 M2) (fun r4 M5 => f_X12_parseMask_65 (f_X12_parseMask_4 n) x1 x2 M5) else f_X12_parseMask_65 (f_X12_parseMask_4 n) x1 x2 M2 else bnd (f_X12_fail 2 M2) (fun r7 M8 => f_X12_parseMask_65 (f_X12_parseMask_4 n) x1 x2 M8) else bnd (f_X12_fail 1 M2) (fun r10 M11 => f_X12_parseMask_65 (f_X12_parseMask_4 n) x1 x2 M11))
set_option maxHeartbeats 4000000 in
set_option maxRecDepth 100000 in
theorem t_X12_parseMask_4 {G : GG} {A : Nat → Prop} {p : Program} {l : Launch} {e : Env} {s : State} {m : MethodId} {args : Array Value} {below : List Frame} {meth : Method} {c : Code} {r : Unit} {M' : Mem} (X : Cx G A p s m args meth c RX12 cX12_parseMask 4) (hr : meth.sig.returnType = none) : ∀ (n : Nat) (x1 : Int32) (x2 : Int32) (x3 : Int32) (M : Mem), f_X12_parseMask_4 n x1 x2 x3 M = some (r, M') → T G A p l e (rmO 4) s m args below meth c 4 0 0 (MQ below (QvO G A M') args s 0 0 A) 4 [(0, .ref (G.2.1 (10, 0, 0))), (1, .int x1), (2, .int x2), (3, .int x3)] [] M := by
  intro n
  induction n with
  | zero =>
    intro x1 x2 x3 M  h
    cases h
  | succ n ih =>
    intro x1 x2 x3 M  h
    unfold f_X12_parseMask_4 at h
    refine r_aload_n (pc := 4) X dX12_parseMask_4 rfl ?_
    refine bndE h (fun r1 M2 h3 h => ?_)
    refine r_callVi0 (pc := 5) X ⟨(ltb rfl), (ltb rfl)⟩ rfl vy_X12_ok my_X12_ok ml_X12_279 ⟨Nat.le_of_ble_eq_true rfl, Nat.le_of_ble_eq_true rfl, Nat.le_of_ble_eq_true rfl, Nat.le_of_ble_eq_true rfl⟩ (c_X12_ok  h3) (Nat.le_of_ble_eq_true rfl) dX12_parseMask_5 ?_
    refine r_if_eq (pc := 8) X (tgt := 111) dX12_parseMask_8 (by decide) h (fun h => ?_) (fun h => ?_)
    · exact T_sub (t_X12_parseMask_111 X hr h) ⟨rfl, rfl, rfl, trivial⟩
    · refine r_iload_n (pc := 11) X dX12_parseMask_11 rfl ?_
      refine r_if_eq (pc := 12) X (tgt := 111) dX12_parseMask_12 (by decide) h (fun h => ?_) (fun h => ?_)
      · exact T_sub (t_X12_parseMask_111 X hr h) ⟨rfl, rfl, rfl, trivial⟩
      · refine r_aload_n (pc := 15) X dX12_parseMask_15 rfl ?_
        refine r_getI (pc := 16) X ⟨(ltb rfl), (ltb rfl)⟩ fl_X12_119 rfl dX12_parseMask_16 ?_
        refine r_iconst (pc := 19) X (v := 2) dX12_parseMask_19 (by decide) ?_
        refine r_icmp_eq (pc := 20) X (tgt := 31) dX12_parseMask_20 (by decide) h (fun h => ?_) (fun h => ?_)
        · refine r_aload_n (pc := 31) X dX12_parseMask_31 rfl ?_
          refine r_getI (pc := 32) X ⟨(ltb rfl), (ltb rfl)⟩ fl_X12_125 rfl dX12_parseMask_32 ?_
          refine r_bipush (pc := 35) X (v := 8) dX12_parseMask_35 (by decide) ?_
          refine r_icmp_lt (pc := 37) X (tgt := 48) dX12_parseMask_37 (by decide) h (fun h => ?_) (fun h => ?_)
          · refine r_iload_n (pc := 48) X dX12_parseMask_48 rfl ?_
            refine r_aload_n (pc := 49) X dX12_parseMask_49 rfl ?_
            refine r_getI (pc := 50) X ⟨(ltb rfl), (ltb rfl)⟩ fl_X12_125 rfl dX12_parseMask_50 ?_
            refine r_ishr (pc := 53) X dX12_parseMask_53 ?_
            refine r_iconst (pc := 54) X (v := 1) dX12_parseMask_54 (by decide) ?_
            refine r_iand (pc := 55) X dX12_parseMask_55 ?_
            refine r_iconst (pc := 56) X (v := 1) dX12_parseMask_56 (by decide) ?_
            refine r_icmp_ne (pc := 57) X (tgt := 65) dX12_parseMask_57 (by decide) h (fun h => ?_) (fun h => ?_)
            · exact T_sub (t_X12_parseMask_65 X hr ih h) ⟨rfl, rfl, rfl, trivial⟩
            · refine r_aload_n (pc := 60) X dX12_parseMask_60 rfl ?_
              refine r_iconst (pc := 61) X (v := 3) dX12_parseMask_61 (by decide) ?_
              refine bndE h (fun r4 M5 h6 h => ?_)
              refine r_callVv1 (pc := 62) X ⟨(ltb rfl), (ltb rfl)⟩ rfl vy_X12_fail my_X12_fail ml_X12_292 ⟨Nat.le_of_ble_eq_true rfl, Nat.le_of_ble_eq_true rfl, Nat.le_of_ble_eq_true rfl, Nat.le_of_ble_eq_true rfl⟩ (c_X12_fail  h6) (Nat.le_of_ble_eq_true rfl) dX12_parseMask_62 ?_
              exact T_sub (t_X12_parseMask_65 X hr ih h) ⟨rfl, rfl, rfl, trivial⟩
          · refine r_aload_n (pc := 40) X dX12_parseMask_40 rfl ?_
            refine r_iconst (pc := 41) X (v := 2) dX12_parseMask_41 (by decide) ?_
            refine bndE h (fun r7 M8 h9 h => ?_)
            refine r_callVv1 (pc := 42) X ⟨(ltb rfl), (ltb rfl)⟩ rfl vy_X12_fail my_X12_fail ml_X12_292 ⟨Nat.le_of_ble_eq_true rfl, Nat.le_of_ble_eq_true rfl, Nat.le_of_ble_eq_true rfl, Nat.le_of_ble_eq_true rfl⟩ (c_X12_fail  h9) (Nat.le_of_ble_eq_true rfl) dX12_parseMask_42 ?_
            refine r_goto (pc := 45) X (tgt := 65) dX12_parseMask_45 (by decide) ?_
            exact T_sub (t_X12_parseMask_65 X hr ih h) ⟨rfl, rfl, rfl, trivial⟩
        · refine r_aload_n (pc := 23) X dX12_parseMask_23 rfl ?_
          refine r_iconst (pc := 24) X (v := 1) dX12_parseMask_24 (by decide) ?_
          refine bndE h (fun r10 M11 h12 h => ?_)
          refine r_callVv1 (pc := 25) X ⟨(ltb rfl), (ltb rfl)⟩ rfl vy_X12_fail my_X12_fail ml_X12_292 ⟨Nat.le_of_ble_eq_true rfl, Nat.le_of_ble_eq_true rfl, Nat.le_of_ble_eq_true rfl, Nat.le_of_ble_eq_true rfl⟩ (c_X12_fail  h12) (Nat.le_of_ble_eq_true rfl) dX12_parseMask_25 ?_
          refine r_goto (pc := 28) X (tgt := 65) dX12_parseMask_28 (by decide) ?_
          exact T_sub (t_X12_parseMask_65 X hr ih h) ⟨rfl, rfl, rfl, trivial⟩
def f_X12_parseMask (x1 : Int32) (M : Mem) : Option (Unit × Mem) :=
  f_X12_parseMask_4 fuelN x1 0 1 M
set_option maxHeartbeats 4000000 in
set_option maxRecDepth 100000 in
theorem t_X12_parseMask {G : GG} {A : Nat → Prop} {p : Program} {l : Launch} {e : Env} {s : State} {m : MethodId} {args : Array Value} {below : List Frame} {meth : Method} {c : Code} {r : Unit} {M' : Mem} (X : Cx G A p s m args meth c RX12 cX12_parseMask 4) (hr : meth.sig.returnType = none) {x1 : Int32} {M : Mem}  (h : f_X12_parseMask x1 M = some (r, M')) : T G A p l e (rmO 4) s m args below meth c 4 0 0 (MQ below (QvO G A M') args s 0 0 A) 0 [(0, .ref (G.2.1 (10, 0, 0))), (1, .int x1)] [] M := by
  unfold f_X12_parseMask at h
  refine r_iconst (pc := 0) X (v := 0) dX12_parseMask_0 (by decide) ?_
  refine r_istore_n (pc := 1) X (by decide) dX12_parseMask_1 ?_
  refine r_iconst (pc := 2) X (v := 1) dX12_parseMask_2 (by decide) ?_
  refine r_istore_n (pc := 3) X (by decide) dX12_parseMask_3 ?_
  exact T_sub (t_X12_parseMask_4 X hr _ _ _ _ _ h) ⟨rfl, rfl, rfl, rfl, trivial⟩
theorem c_X12_parseMask {G : GG} {l : Launch} {x1 : Int32} {r : Unit} {M M' : Mem}  (h : f_X12_parseMask x1 M = some (r, M')) : Met l yX12_parseMask (wsO yX12_parseMask cX12_parseMask 4 none) (rmO 4) (PcO G [.ref (G.2.1 (10, 0, 0)), .int x1] M) (QvO G (AA G) M') 0 0 (AA G) :=
  met_of (own := RX12) rfl (by decide +kernel) (Nat.le_of_ble_eq_true rfl) (fun p e s m args below meth c X hr => t_X12_parseMask X hr  h)
-- ConverterScannerModel.parseWindow
def f_X12_parseWindow_40 (xs0 : Int32) (M : Mem) : Option (Unit × Mem) :=
  bnd (f_X12_readOnce 2 xs0 M) (fun r1 M2 => bnd (f_X12_ok  M2) (fun r4 M5 => if r4 = 0 then some ((), M5) else bnd (f_X12_drafts (48 + r1) M5) (fun r7 M8 => if bad r7 104 then none else nm (uI M8 (31, 0, 0) (Int32.toNatClampNeg r7) 1) (fun M10 => bnd (f_X12_require 15 M10) (fun r11 M12 => bnd (f_X12_readNumber 0 65535 M12) (fun r14 M15 => bnd (f_X12_require 16 M15) (fun r17 M18 => bnd (f_X12_readNumber r14 65535 M18) (fun r20 M21 => bnd (f_X12_win r1 0 M21) (fun r23 M24 => if bad (1888 + r23) 2360 then none else nm (uI M24 (32, 0, 0) (Int32.toNatClampNeg (1888 + r23)) r14) (fun M26 => bnd (f_X12_win r1 1 M26) (fun r27 M28 => if bad (1888 + r27) 2360 then none else nm (uI M28 (32, 0, 0) (Int32.toNatClampNeg (1888 + r27)) r20) (fun M30 => bnd (f_X12_require 17 M30) (fun r31 M32 => bnd (f_X12_drafts (42 + r1) M32) (fun r34 M35 => bnd (f_X12_readNumber 1 15 M35) (fun r37 M38 => if bad r34 104 then none else nm (uI M38 (31, 0, 0) (Int32.toNatClampNeg r34) r37) (fun M40 => bnd (f_X12_require 18 M40) (fun r41 M42 => bnd (f_X12_parseMask r1 M42) (fun r44 M45 => some ((), M45)))))))))))))))))))
set_option maxHeartbeats 4000000 in
set_option maxRecDepth 100000 in
theorem t_X12_parseWindow_40 {G : GG} {A : Nat → Prop} {p : Program} {l : Launch} {e : Env} {s : State} {m : MethodId} {args : Array Value} {below : List Frame} {meth : Method} {c : Code} {r : Unit} {M' : Mem} (X : Cx G A p s m args meth c RX12 cX12_parseWindow 5) (hr : meth.sig.returnType = none) {xs0 : Int32} {M : Mem}  (h : f_X12_parseWindow_40 xs0 M = some (r, M')) : T G A p l e (rmO 6) s m args below meth c 5 0 0 (MQ below (QvO G A M') args s 0 0 A) 40 [(0, .ref (G.2.1 (10, 0, 0)))] [.int xs0] M := by
  unfold f_X12_parseWindow_40 at h
  refine r_istore_n (pc := 40) X (by decide) dX12_parseWindow_40 ?_
  refine r_aload_n (pc := 41) X dX12_parseWindow_41 rfl ?_
  refine r_iconst (pc := 42) X (v := 2) dX12_parseWindow_42 (by decide) ?_
  refine r_iload_n (pc := 43) X dX12_parseWindow_43 rfl ?_
  refine bndE h (fun r1 M2 h3 h => ?_)
  refine r_callVi2 (pc := 44) X ⟨(ltb rfl), (ltb rfl)⟩ rfl vy_X12_readOnce my_X12_readOnce ml_X12_305 ⟨Nat.le_of_ble_eq_true rfl, Nat.le_of_ble_eq_true rfl, Nat.le_of_ble_eq_true rfl, Nat.le_of_ble_eq_true rfl⟩ (c_X12_readOnce  h3) (Nat.le_of_ble_eq_true rfl) dX12_parseWindow_44 ?_
  refine r_istore_n (pc := 47) X (by decide) dX12_parseWindow_47 ?_
  refine r_aload_n (pc := 48) X dX12_parseWindow_48 rfl ?_
  refine bndE h (fun r4 M5 h6 h => ?_)
  refine r_callVi0 (pc := 49) X ⟨(ltb rfl), (ltb rfl)⟩ rfl vy_X12_ok my_X12_ok ml_X12_279 ⟨Nat.le_of_ble_eq_true rfl, Nat.le_of_ble_eq_true rfl, Nat.le_of_ble_eq_true rfl, Nat.le_of_ble_eq_true rfl⟩ (c_X12_ok  h6) (Nat.le_of_ble_eq_true rfl) dX12_parseWindow_49 ?_
  refine r_if_ne (pc := 52) X (tgt := 56) dX12_parseWindow_52 (by decide) h (fun h => ?_) (fun h => ?_)
  · refine r_aload_n (pc := 56) X dX12_parseWindow_56 rfl ?_
    refine r_getR (q := (31, 0, 0)) (pc := 57) X ⟨(ltb rfl), (ltb rfl)⟩ fl_X12_26 rfl dX12_parseWindow_57 ?_
    refine r_bipush (pc := 60) X (v := 48) dX12_parseWindow_60 (by decide) ?_
    refine r_iload_n (pc := 62) X dX12_parseWindow_62 rfl ?_
    refine r_iadd (pc := 63) X dX12_parseWindow_63 ?_
    refine bndE h (fun r7 M8 h9 h => ?_)
    refine r_callSi1 (pc := 64) X sy_X12_drafts my_X12_drafts ml_X12_309 ⟨Nat.le_of_ble_eq_true rfl, Nat.le_of_ble_eq_true rfl, Nat.le_of_ble_eq_true rfl, Nat.le_of_ble_eq_true rfl⟩ (c_X12_drafts  h9) (Nat.le_of_ble_eq_true rfl) dX12_parseWindow_64 ?_
    refine r_iconst (pc := 67) X (v := 1) dX12_parseWindow_67 (by decide) ?_
    refine r_iastN (pc := 68) X (n := 104) ⟨(ltb rfl), (ltb rfl)⟩ rfl (nlt rfl) dX12_parseWindow_68 h (fun M10 h => ?_)
    refine r_aload_n (pc := 69) X dX12_parseWindow_69 rfl ?_
    refine r_bipush (pc := 70) X (v := 15) dX12_parseWindow_70 (by decide) ?_
    refine bndE h (fun r11 M12 h13 h => ?_)
    refine r_callVv1 (pc := 72) X ⟨(ltb rfl), (ltb rfl)⟩ rfl vy_X12_require my_X12_require ml_X12_315 ⟨Nat.le_of_ble_eq_true rfl, Nat.le_of_ble_eq_true rfl, Nat.le_of_ble_eq_true rfl, Nat.le_of_ble_eq_true rfl⟩ (c_X12_require  h13) (Nat.le_of_ble_eq_true rfl) dX12_parseWindow_72 ?_
    refine r_aload_n (pc := 75) X dX12_parseWindow_75 rfl ?_
    refine r_iconst (pc := 76) X (v := 0) dX12_parseWindow_76 (by decide) ?_
    refine r_ldc (pc := 77) X k_X12_247 dX12_parseWindow_77 ?_
    refine bndE h (fun r14 M15 h16 h => ?_)
    refine r_callVi2 (pc := 79) X ⟨(ltb rfl), (ltb rfl)⟩ rfl vy_X12_readNumber my_X12_readNumber ml_X12_298 ⟨Nat.le_of_ble_eq_true rfl, Nat.le_of_ble_eq_true rfl, Nat.le_of_ble_eq_true rfl, Nat.le_of_ble_eq_true rfl⟩ (c_X12_readNumber  h16) (Nat.le_of_ble_eq_true rfl) dX12_parseWindow_79 ?_
    refine r_istore_n (pc := 82) X (by decide) dX12_parseWindow_82 ?_
    refine r_aload_n (pc := 83) X dX12_parseWindow_83 rfl ?_
    refine r_bipush (pc := 84) X (v := 16) dX12_parseWindow_84 (by decide) ?_
    refine bndE h (fun r17 M18 h19 h => ?_)
    refine r_callVv1 (pc := 86) X ⟨(ltb rfl), (ltb rfl)⟩ rfl vy_X12_require my_X12_require ml_X12_315 ⟨Nat.le_of_ble_eq_true rfl, Nat.le_of_ble_eq_true rfl, Nat.le_of_ble_eq_true rfl, Nat.le_of_ble_eq_true rfl⟩ (c_X12_require  h19) (Nat.le_of_ble_eq_true rfl) dX12_parseWindow_86 ?_
    refine r_aload_n (pc := 89) X dX12_parseWindow_89 rfl ?_
    refine r_iload_n (pc := 90) X dX12_parseWindow_90 rfl ?_
    refine r_ldc (pc := 91) X k_X12_247 dX12_parseWindow_91 ?_
    refine bndE h (fun r20 M21 h22 h => ?_)
    refine r_callVi2 (pc := 93) X ⟨(ltb rfl), (ltb rfl)⟩ rfl vy_X12_readNumber my_X12_readNumber ml_X12_298 ⟨Nat.le_of_ble_eq_true rfl, Nat.le_of_ble_eq_true rfl, Nat.le_of_ble_eq_true rfl, Nat.le_of_ble_eq_true rfl⟩ (c_X12_readNumber  h22) (Nat.le_of_ble_eq_true rfl) dX12_parseWindow_93 ?_
    refine r_istore (pc := 96) X (by decide) dX12_parseWindow_96 ?_
    refine r_aload_n (pc := 98) X dX12_parseWindow_98 rfl ?_
    refine r_getR (q := (32, 0, 0)) (pc := 99) X ⟨(ltb rfl), (ltb rfl)⟩ fl_X12_29 rfl dX12_parseWindow_99 ?_
    refine r_sipush (pc := 102) X (v := 1888) dX12_parseWindow_102 (by decide) ?_
    refine r_iload_n (pc := 105) X dX12_parseWindow_105 rfl ?_
    refine r_iconst (pc := 106) X (v := 0) dX12_parseWindow_106 (by decide) ?_
    refine bndE h (fun r23 M24 h25 h => ?_)
    refine r_callSi2 (pc := 107) X sy_X12_win my_X12_win ml_X12_187 ⟨Nat.le_of_ble_eq_true rfl, Nat.le_of_ble_eq_true rfl, Nat.le_of_ble_eq_true rfl, Nat.le_of_ble_eq_true rfl⟩ (c_X12_win  h25) (Nat.le_of_ble_eq_true rfl) dX12_parseWindow_107 ?_
    refine r_iadd (pc := 110) X dX12_parseWindow_110 ?_
    refine r_iload_n (pc := 111) X dX12_parseWindow_111 rfl ?_
    refine r_iastN (pc := 112) X (n := 2360) ⟨(ltb rfl), (ltb rfl)⟩ rfl (nlt rfl) dX12_parseWindow_112 h (fun M26 h => ?_)
    refine r_aload_n (pc := 113) X dX12_parseWindow_113 rfl ?_
    refine r_getR (q := (32, 0, 0)) (pc := 114) X ⟨(ltb rfl), (ltb rfl)⟩ fl_X12_29 rfl dX12_parseWindow_114 ?_
    refine r_sipush (pc := 117) X (v := 1888) dX12_parseWindow_117 (by decide) ?_
    refine r_iload_n (pc := 120) X dX12_parseWindow_120 rfl ?_
    refine r_iconst (pc := 121) X (v := 1) dX12_parseWindow_121 (by decide) ?_
    refine bndE h (fun r27 M28 h29 h => ?_)
    refine r_callSi2 (pc := 122) X sy_X12_win my_X12_win ml_X12_187 ⟨Nat.le_of_ble_eq_true rfl, Nat.le_of_ble_eq_true rfl, Nat.le_of_ble_eq_true rfl, Nat.le_of_ble_eq_true rfl⟩ (c_X12_win  h29) (Nat.le_of_ble_eq_true rfl) dX12_parseWindow_122 ?_
    refine r_iadd (pc := 125) X dX12_parseWindow_125 ?_
    refine r_iload (pc := 126) X dX12_parseWindow_126 rfl ?_
    refine r_iastN (pc := 128) X (n := 2360) ⟨(ltb rfl), (ltb rfl)⟩ rfl (nlt rfl) dX12_parseWindow_128 h (fun M30 h => ?_)
    refine r_aload_n (pc := 129) X dX12_parseWindow_129 rfl ?_
    refine r_bipush (pc := 130) X (v := 17) dX12_parseWindow_130 (by decide) ?_
    refine bndE h (fun r31 M32 h33 h => ?_)
    refine r_callVv1 (pc := 132) X ⟨(ltb rfl), (ltb rfl)⟩ rfl vy_X12_require my_X12_require ml_X12_315 ⟨Nat.le_of_ble_eq_true rfl, Nat.le_of_ble_eq_true rfl, Nat.le_of_ble_eq_true rfl, Nat.le_of_ble_eq_true rfl⟩ (c_X12_require  h33) (Nat.le_of_ble_eq_true rfl) dX12_parseWindow_132 ?_
    refine r_aload_n (pc := 135) X dX12_parseWindow_135 rfl ?_
    refine r_getR (q := (31, 0, 0)) (pc := 136) X ⟨(ltb rfl), (ltb rfl)⟩ fl_X12_26 rfl dX12_parseWindow_136 ?_
    refine r_bipush (pc := 139) X (v := 42) dX12_parseWindow_139 (by decide) ?_
    refine r_iload_n (pc := 141) X dX12_parseWindow_141 rfl ?_
    refine r_iadd (pc := 142) X dX12_parseWindow_142 ?_
    refine bndE h (fun r34 M35 h36 h => ?_)
    refine r_callSi1 (pc := 143) X sy_X12_drafts my_X12_drafts ml_X12_309 ⟨Nat.le_of_ble_eq_true rfl, Nat.le_of_ble_eq_true rfl, Nat.le_of_ble_eq_true rfl, Nat.le_of_ble_eq_true rfl⟩ (c_X12_drafts  h36) (Nat.le_of_ble_eq_true rfl) dX12_parseWindow_143 ?_
    refine r_aload_n (pc := 146) X dX12_parseWindow_146 rfl ?_
    refine r_iconst (pc := 147) X (v := 1) dX12_parseWindow_147 (by decide) ?_
    refine r_bipush (pc := 148) X (v := 15) dX12_parseWindow_148 (by decide) ?_
    refine bndE h (fun r37 M38 h39 h => ?_)
    refine r_callVi2 (pc := 150) X ⟨(ltb rfl), (ltb rfl)⟩ rfl vy_X12_readNumber my_X12_readNumber ml_X12_298 ⟨Nat.le_of_ble_eq_true rfl, Nat.le_of_ble_eq_true rfl, Nat.le_of_ble_eq_true rfl, Nat.le_of_ble_eq_true rfl⟩ (c_X12_readNumber  h39) (Nat.le_of_ble_eq_true rfl) dX12_parseWindow_150 ?_
    refine r_iastN (pc := 153) X (n := 104) ⟨(ltb rfl), (ltb rfl)⟩ rfl (nlt rfl) dX12_parseWindow_153 h (fun M40 h => ?_)
    refine r_aload_n (pc := 154) X dX12_parseWindow_154 rfl ?_
    refine r_bipush (pc := 155) X (v := 18) dX12_parseWindow_155 (by decide) ?_
    refine bndE h (fun r41 M42 h43 h => ?_)
    refine r_callVv1 (pc := 157) X ⟨(ltb rfl), (ltb rfl)⟩ rfl vy_X12_require my_X12_require ml_X12_315 ⟨Nat.le_of_ble_eq_true rfl, Nat.le_of_ble_eq_true rfl, Nat.le_of_ble_eq_true rfl, Nat.le_of_ble_eq_true rfl⟩ (c_X12_require  h43) (Nat.le_of_ble_eq_true rfl) dX12_parseWindow_157 ?_
    refine r_aload_n (pc := 160) X dX12_parseWindow_160 rfl ?_
    refine r_iload_n (pc := 161) X dX12_parseWindow_161 rfl ?_
    refine bndE h (fun r44 M45 h46 h => ?_)
    refine r_callVv1 (pc := 162) X ⟨(ltb rfl), (ltb rfl)⟩ rfl vy_X12_parseMask my_X12_parseMask ml_X12_318 ⟨Nat.le_of_ble_eq_true rfl, Nat.le_of_ble_eq_true rfl, Nat.le_of_ble_eq_true rfl, Nat.le_of_ble_eq_true rfl⟩ (c_X12_parseMask  h46) (Nat.le_of_ble_eq_true rfl) dX12_parseWindow_162 ?_
    cases h
    exact r_vret (pc := 165) X hr dX12_parseWindow_165
  · cases h
    exact r_vret (pc := 55) X hr dX12_parseWindow_55
def f_X12_parseWindow_39  (M : Mem) : Option (Unit × Mem) :=
  f_X12_parseWindow_40 0 M
set_option maxHeartbeats 4000000 in
set_option maxRecDepth 100000 in
theorem t_X12_parseWindow_39 {G : GG} {A : Nat → Prop} {p : Program} {l : Launch} {e : Env} {s : State} {m : MethodId} {args : Array Value} {below : List Frame} {meth : Method} {c : Code} {r : Unit} {M' : Mem} (X : Cx G A p s m args meth c RX12 cX12_parseWindow 5) (hr : meth.sig.returnType = none) {M : Mem}  (h : f_X12_parseWindow_39 M = some (r, M')) : T G A p l e (rmO 6) s m args below meth c 5 0 0 (MQ below (QvO G A M') args s 0 0 A) 39 [(0, .ref (G.2.1 (10, 0, 0)))] [] M := by
  unfold f_X12_parseWindow_39 at h
  refine r_iconst (pc := 39) X (v := 0) dX12_parseWindow_39 (by decide) ?_
  exact T_sub (t_X12_parseWindow_40 X hr h) ⟨rfl, trivial⟩
def f_X12_parseWindow  (M : Mem) : Option (Unit × Mem) :=
  if (M.1 (10, 0, 0) 11) = 2 then if 3 ≤ (M.1 (10, 0, 0) 13) then f_X12_parseWindow_39  M else bnd (f_X12_drafts (48 + (M.1 (10, 0, 0) 13)) M) (fun r1 M2 => if bad r1 104 then none else if (M2.1 (31, 0, 0) (Int32.toNatClampNeg r1)) = 1 then f_X12_parseWindow_40 1 M2 else f_X12_parseWindow_39  M2) else f_X12_parseWindow_39  M
set_option maxHeartbeats 4000000 in
set_option maxRecDepth 100000 in
theorem t_X12_parseWindow {G : GG} {A : Nat → Prop} {p : Program} {l : Launch} {e : Env} {s : State} {m : MethodId} {args : Array Value} {below : List Frame} {meth : Method} {c : Code} {r : Unit} {M' : Mem} (X : Cx G A p s m args meth c RX12 cX12_parseWindow 5) (hr : meth.sig.returnType = none) {M : Mem}  (h : f_X12_parseWindow M = some (r, M')) : T G A p l e (rmO 6) s m args below meth c 5 0 0 (MQ below (QvO G A M') args s 0 0 A) 0 [(0, .ref (G.2.1 (10, 0, 0)))] [] M := by
  unfold f_X12_parseWindow at h
  refine r_aload_n (pc := 0) X dX12_parseWindow_0 rfl ?_
  refine r_getI (pc := 1) X ⟨(ltb rfl), (ltb rfl)⟩ fl_X12_119 rfl dX12_parseWindow_1 ?_
  refine r_iconst (pc := 4) X (v := 2) dX12_parseWindow_4 (by decide) ?_
  refine r_icmp_ne (pc := 5) X (tgt := 39) dX12_parseWindow_5 (by decide) h (fun h => ?_) (fun h => ?_)
  · exact T_sub (t_X12_parseWindow_39 X hr h) ⟨rfl, trivial⟩
  · refine r_aload_n (pc := 8) X dX12_parseWindow_8 rfl ?_
    refine r_getI (pc := 9) X ⟨(ltb rfl), (ltb rfl)⟩ fl_X12_125 rfl dX12_parseWindow_9 ?_
    refine r_iconst (pc := 12) X (v := 3) dX12_parseWindow_12 (by decide) ?_
    refine r_icmp_ge (pc := 13) X (tgt := 39) dX12_parseWindow_13 (by decide) h (fun h => ?_) (fun h => ?_)
    · exact T_sub (t_X12_parseWindow_39 X hr h) ⟨rfl, trivial⟩
    · refine r_aload_n (pc := 16) X dX12_parseWindow_16 rfl ?_
      refine r_getR (q := (31, 0, 0)) (pc := 17) X ⟨(ltb rfl), (ltb rfl)⟩ fl_X12_26 rfl dX12_parseWindow_17 ?_
      refine r_bipush (pc := 20) X (v := 48) dX12_parseWindow_20 (by decide) ?_
      refine r_aload_n (pc := 22) X dX12_parseWindow_22 rfl ?_
      refine r_getI (pc := 23) X ⟨(ltb rfl), (ltb rfl)⟩ fl_X12_125 rfl dX12_parseWindow_23 ?_
      refine r_iadd (pc := 26) X dX12_parseWindow_26 ?_
      refine bndE h (fun r1 M2 h3 h => ?_)
      refine r_callSi1 (pc := 27) X sy_X12_drafts my_X12_drafts ml_X12_309 ⟨Nat.le_of_ble_eq_true rfl, Nat.le_of_ble_eq_true rfl, Nat.le_of_ble_eq_true rfl, Nat.le_of_ble_eq_true rfl⟩ (c_X12_drafts  h3) (Nat.le_of_ble_eq_true rfl) dX12_parseWindow_27 ?_
      refine r_iald (pc := 30) X (n := 104) ⟨(ltb rfl), (ltb rfl)⟩ rfl (nlt rfl) dX12_parseWindow_30 h (fun h => ?_)
      refine r_iconst (pc := 31) X (v := 1) dX12_parseWindow_31 (by decide) ?_
      refine r_icmp_ne (pc := 32) X (tgt := 39) dX12_parseWindow_32 (by decide) h (fun h => ?_) (fun h => ?_)
      · exact T_sub (t_X12_parseWindow_39 X hr h) ⟨rfl, trivial⟩
      · refine r_iconst (pc := 35) X (v := 1) dX12_parseWindow_35 (by decide) ?_
        refine r_goto (pc := 36) X (tgt := 40) dX12_parseWindow_36 (by decide) ?_
        exact T_sub (t_X12_parseWindow_40 X hr h) ⟨rfl, trivial⟩
theorem c_X12_parseWindow {G : GG} {l : Launch} {r : Unit} {M M' : Mem}  (h : f_X12_parseWindow  M = some (r, M')) : Met l yX12_parseWindow (wsO yX12_parseWindow cX12_parseWindow 5 none) (rmO 6) (PcO G [.ref (G.2.1 (10, 0, 0))] M) (QvO G (AA G) M') 0 0 (AA G) :=
  met_of (own := RX12) rfl (by decide +kernel) (Nat.le_of_ble_eq_true rfl) (fun p e s m args below meth c X hr => t_X12_parseWindow X hr  h)
-- ConverterScannerModel.parseTrigger
def f_X12_parseTrigger_89 (x1 : Int32) (M : Mem) : Option (Unit × Mem) :=
  bnd (f_X12_accepts 20 M) (fun r1 M2 => if r1 = 0 then some ((), M2) else bnd (f_X12_drafts (34 + x1) M2) (fun r4 M5 => bnd (f_X12_readNumber 1 9999 M5) (fun r7 M8 => if bad r4 104 then none else nm (uI M8 (31, 0, 0) (Int32.toNatClampNeg r4) r7) (fun M10 => bnd (f_X12_accepts 21 M10) (fun r11 M12 => if r11 = 0 then some ((), M12) else bnd (f_X12_drafts (38 + x1) M12) (fun r14 M15 => bnd (f_X12_readNumber 0 9999 M15) (fun r17 M18 => if bad r14 104 then none else nm (uI M18 (31, 0, 0) (Int32.toNatClampNeg r14) r17) (fun M20 => some ((), M20)))))))))
set_option maxHeartbeats 4000000 in
set_option maxRecDepth 100000 in
theorem t_X12_parseTrigger_89 {G : GG} {A : Nat → Prop} {p : Program} {l : Launch} {e : Env} {s : State} {m : MethodId} {args : Array Value} {below : List Frame} {meth : Method} {c : Code} {r : Unit} {M' : Mem} (X : Cx G A p s m args meth c RX12 cX12_parseTrigger 2) (hr : meth.sig.returnType = none) {x1 : Int32} {M : Mem}  (h : f_X12_parseTrigger_89 x1 M = some (r, M')) : T G A p l e (rmO 6) s m args below meth c 2 0 0 (MQ below (QvO G A M') args s 0 0 A) 89 [(0, .ref (G.2.1 (10, 0, 0))), (1, .int x1)] [] M := by
  unfold f_X12_parseTrigger_89 at h
  refine r_aload_n (pc := 89) X dX12_parseTrigger_89 rfl ?_
  refine r_bipush (pc := 90) X (v := 20) dX12_parseTrigger_90 (by decide) ?_
  refine bndE h (fun r1 M2 h3 h => ?_)
  refine r_callVi1 (pc := 92) X ⟨(ltb rfl), (ltb rfl)⟩ rfl vy_X12_accepts my_X12_accepts ml_X12_289 ⟨Nat.le_of_ble_eq_true rfl, Nat.le_of_ble_eq_true rfl, Nat.le_of_ble_eq_true rfl, Nat.le_of_ble_eq_true rfl⟩ (c_X12_accepts  h3) (Nat.le_of_ble_eq_true rfl) dX12_parseTrigger_92 ?_
  refine r_if_ne (pc := 95) X (tgt := 99) dX12_parseTrigger_95 (by decide) h (fun h => ?_) (fun h => ?_)
  · refine r_aload_n (pc := 99) X dX12_parseTrigger_99 rfl ?_
    refine r_getR (q := (31, 0, 0)) (pc := 100) X ⟨(ltb rfl), (ltb rfl)⟩ fl_X12_26 rfl dX12_parseTrigger_100 ?_
    refine r_bipush (pc := 103) X (v := 34) dX12_parseTrigger_103 (by decide) ?_
    refine r_iload_n (pc := 105) X dX12_parseTrigger_105 rfl ?_
    refine r_iadd (pc := 106) X dX12_parseTrigger_106 ?_
    refine bndE h (fun r4 M5 h6 h => ?_)
    refine r_callSi1 (pc := 107) X sy_X12_drafts my_X12_drafts ml_X12_309 ⟨Nat.le_of_ble_eq_true rfl, Nat.le_of_ble_eq_true rfl, Nat.le_of_ble_eq_true rfl, Nat.le_of_ble_eq_true rfl⟩ (c_X12_drafts  h6) (Nat.le_of_ble_eq_true rfl) dX12_parseTrigger_107 ?_
    refine r_aload_n (pc := 110) X dX12_parseTrigger_110 rfl ?_
    refine r_iconst (pc := 111) X (v := 1) dX12_parseTrigger_111 (by decide) ?_
    refine r_sipush (pc := 112) X (v := 9999) dX12_parseTrigger_112 (by decide) ?_
    refine bndE h (fun r7 M8 h9 h => ?_)
    refine r_callVi2 (pc := 115) X ⟨(ltb rfl), (ltb rfl)⟩ rfl vy_X12_readNumber my_X12_readNumber ml_X12_298 ⟨Nat.le_of_ble_eq_true rfl, Nat.le_of_ble_eq_true rfl, Nat.le_of_ble_eq_true rfl, Nat.le_of_ble_eq_true rfl⟩ (c_X12_readNumber  h9) (Nat.le_of_ble_eq_true rfl) dX12_parseTrigger_115 ?_
    refine r_iastN (pc := 118) X (n := 104) ⟨(ltb rfl), (ltb rfl)⟩ rfl (nlt rfl) dX12_parseTrigger_118 h (fun M10 h => ?_)
    refine r_aload_n (pc := 119) X dX12_parseTrigger_119 rfl ?_
    refine r_bipush (pc := 120) X (v := 21) dX12_parseTrigger_120 (by decide) ?_
    refine bndE h (fun r11 M12 h13 h => ?_)
    refine r_callVi1 (pc := 122) X ⟨(ltb rfl), (ltb rfl)⟩ rfl vy_X12_accepts my_X12_accepts ml_X12_289 ⟨Nat.le_of_ble_eq_true rfl, Nat.le_of_ble_eq_true rfl, Nat.le_of_ble_eq_true rfl, Nat.le_of_ble_eq_true rfl⟩ (c_X12_accepts  h13) (Nat.le_of_ble_eq_true rfl) dX12_parseTrigger_122 ?_
    refine r_if_eq (pc := 125) X (tgt := 148) dX12_parseTrigger_125 (by decide) h (fun h => ?_) (fun h => ?_)
    · cases h
      exact r_vret (pc := 148) X hr dX12_parseTrigger_148
    · refine r_aload_n (pc := 128) X dX12_parseTrigger_128 rfl ?_
      refine r_getR (q := (31, 0, 0)) (pc := 129) X ⟨(ltb rfl), (ltb rfl)⟩ fl_X12_26 rfl dX12_parseTrigger_129 ?_
      refine r_bipush (pc := 132) X (v := 38) dX12_parseTrigger_132 (by decide) ?_
      refine r_iload_n (pc := 134) X dX12_parseTrigger_134 rfl ?_
      refine r_iadd (pc := 135) X dX12_parseTrigger_135 ?_
      refine bndE h (fun r14 M15 h16 h => ?_)
      refine r_callSi1 (pc := 136) X sy_X12_drafts my_X12_drafts ml_X12_309 ⟨Nat.le_of_ble_eq_true rfl, Nat.le_of_ble_eq_true rfl, Nat.le_of_ble_eq_true rfl, Nat.le_of_ble_eq_true rfl⟩ (c_X12_drafts  h16) (Nat.le_of_ble_eq_true rfl) dX12_parseTrigger_136 ?_
      refine r_aload_n (pc := 139) X dX12_parseTrigger_139 rfl ?_
      refine r_iconst (pc := 140) X (v := 0) dX12_parseTrigger_140 (by decide) ?_
      refine r_sipush (pc := 141) X (v := 9999) dX12_parseTrigger_141 (by decide) ?_
      refine bndE h (fun r17 M18 h19 h => ?_)
      refine r_callVi2 (pc := 144) X ⟨(ltb rfl), (ltb rfl)⟩ rfl vy_X12_readNumber my_X12_readNumber ml_X12_298 ⟨Nat.le_of_ble_eq_true rfl, Nat.le_of_ble_eq_true rfl, Nat.le_of_ble_eq_true rfl, Nat.le_of_ble_eq_true rfl⟩ (c_X12_readNumber  h19) (Nat.le_of_ble_eq_true rfl) dX12_parseTrigger_144 ?_
      refine r_iastN (pc := 147) X (n := 104) ⟨(ltb rfl), (ltb rfl)⟩ rfl (nlt rfl) dX12_parseTrigger_147 h (fun M20 h => ?_)
      cases h
      exact r_vret (pc := 148) X hr dX12_parseTrigger_148
  · cases h
    exact r_vret (pc := 98) X hr dX12_parseTrigger_98
def f_X12_parseTrigger_77 (x1 : Int32) (xs0 : Int32) (xs1 : Int32) (M : Mem) : Option (Unit × Mem) :=
  if bad xs1 104 then none else nm (uI M (31, 0, 0) (Int32.toNatClampNeg xs1) xs0) (fun M1 => bnd (f_X12_ok  M1) (fun r2 M3 => if r2 = 0 then f_X12_parseTrigger_89 x1 M3 else bnd (f_X12_next  M3) (fun r5 M6 => f_X12_parseTrigger_89 x1 M6)))
set_option maxHeartbeats 4000000 in
set_option maxRecDepth 100000 in
theorem t_X12_parseTrigger_77 {G : GG} {A : Nat → Prop} {p : Program} {l : Launch} {e : Env} {s : State} {m : MethodId} {args : Array Value} {below : List Frame} {meth : Method} {c : Code} {r : Unit} {M' : Mem} (X : Cx G A p s m args meth c RX12 cX12_parseTrigger 2) (hr : meth.sig.returnType = none) {x1 : Int32} {xs0 : Int32} {xs1 : Int32} {M : Mem}  (h : f_X12_parseTrigger_77 x1 xs0 xs1 M = some (r, M')) : T G A p l e (rmO 6) s m args below meth c 2 0 0 (MQ below (QvO G A M') args s 0 0 A) 77 [(0, .ref (G.2.1 (10, 0, 0))), (1, .int x1)] [.int xs0, .int xs1, .ref (G.2.1 (31, 0, 0))] M := by
  unfold f_X12_parseTrigger_77 at h
  refine r_iastN (pc := 77) X (n := 104) ⟨(ltb rfl), (ltb rfl)⟩ rfl (nlt rfl) dX12_parseTrigger_77 h (fun M1 h => ?_)
  refine r_aload_n (pc := 78) X dX12_parseTrigger_78 rfl ?_
  refine bndE h (fun r2 M3 h4 h => ?_)
  refine r_callVi0 (pc := 79) X ⟨(ltb rfl), (ltb rfl)⟩ rfl vy_X12_ok my_X12_ok ml_X12_279 ⟨Nat.le_of_ble_eq_true rfl, Nat.le_of_ble_eq_true rfl, Nat.le_of_ble_eq_true rfl, Nat.le_of_ble_eq_true rfl⟩ (c_X12_ok  h4) (Nat.le_of_ble_eq_true rfl) dX12_parseTrigger_79 ?_
  refine r_if_eq (pc := 82) X (tgt := 89) dX12_parseTrigger_82 (by decide) h (fun h => ?_) (fun h => ?_)
  · exact T_sub (t_X12_parseTrigger_89 X hr h) ⟨rfl, rfl, trivial⟩
  · refine r_aload_n (pc := 85) X dX12_parseTrigger_85 rfl ?_
    refine bndE h (fun r5 M6 h7 h => ?_)
    refine r_callVv0 (pc := 86) X ⟨(ltb rfl), (ltb rfl)⟩ rfl vy_X12_next my_X12_next ml_X12_286 ⟨Nat.le_of_ble_eq_true rfl, Nat.le_of_ble_eq_true rfl, Nat.le_of_ble_eq_true rfl, Nat.le_of_ble_eq_true rfl⟩ (c_X12_next  h7) (Nat.le_of_ble_eq_true rfl) dX12_parseTrigger_86 ?_
    exact T_sub (t_X12_parseTrigger_89 X hr h) ⟨rfl, rfl, trivial⟩
def f_X12_parseTrigger_52 (x1 : Int32) (M : Mem) : Option (Unit × Mem) :=
  bnd (f_X12_drafts (30 + x1) M) (fun r1 M2 => bnd (f_X12_isKeyword 7 M2) (fun r4 M5 => if r4 = 0 then f_X12_parseTrigger_77 x1 1 r1 M5 else f_X12_parseTrigger_77 x1 2 r1 M5))
set_option maxHeartbeats 4000000 in
set_option maxRecDepth 100000 in
theorem t_X12_parseTrigger_52 {G : GG} {A : Nat → Prop} {p : Program} {l : Launch} {e : Env} {s : State} {m : MethodId} {args : Array Value} {below : List Frame} {meth : Method} {c : Code} {r : Unit} {M' : Mem} (X : Cx G A p s m args meth c RX12 cX12_parseTrigger 2) (hr : meth.sig.returnType = none) {x1 : Int32} {M : Mem}  (h : f_X12_parseTrigger_52 x1 M = some (r, M')) : T G A p l e (rmO 6) s m args below meth c 2 0 0 (MQ below (QvO G A M') args s 0 0 A) 52 [(0, .ref (G.2.1 (10, 0, 0))), (1, .int x1)] [] M := by
  unfold f_X12_parseTrigger_52 at h
  refine r_aload_n (pc := 52) X dX12_parseTrigger_52 rfl ?_
  refine r_getR (q := (31, 0, 0)) (pc := 53) X ⟨(ltb rfl), (ltb rfl)⟩ fl_X12_26 rfl dX12_parseTrigger_53 ?_
  refine r_bipush (pc := 56) X (v := 30) dX12_parseTrigger_56 (by decide) ?_
  refine r_iload_n (pc := 58) X dX12_parseTrigger_58 rfl ?_
  refine r_iadd (pc := 59) X dX12_parseTrigger_59 ?_
  refine bndE h (fun r1 M2 h3 h => ?_)
  refine r_callSi1 (pc := 60) X sy_X12_drafts my_X12_drafts ml_X12_309 ⟨Nat.le_of_ble_eq_true rfl, Nat.le_of_ble_eq_true rfl, Nat.le_of_ble_eq_true rfl, Nat.le_of_ble_eq_true rfl⟩ (c_X12_drafts  h3) (Nat.le_of_ble_eq_true rfl) dX12_parseTrigger_60 ?_
  refine r_aload_n (pc := 63) X dX12_parseTrigger_63 rfl ?_
  refine r_bipush (pc := 64) X (v := 7) dX12_parseTrigger_64 (by decide) ?_
  refine bndE h (fun r4 M5 h6 h => ?_)
  refine r_callVi1 (pc := 66) X ⟨(ltb rfl), (ltb rfl)⟩ rfl vy_X12_isKeyword my_X12_isKeyword ml_X12_283 ⟨Nat.le_of_ble_eq_true rfl, Nat.le_of_ble_eq_true rfl, Nat.le_of_ble_eq_true rfl, Nat.le_of_ble_eq_true rfl⟩ (c_X12_isKeyword  h6) (Nat.le_of_ble_eq_true rfl) dX12_parseTrigger_66 ?_
  refine r_if_eq (pc := 69) X (tgt := 76) dX12_parseTrigger_69 (by decide) h (fun h => ?_) (fun h => ?_)
  · refine r_iconst (pc := 76) X (v := 1) dX12_parseTrigger_76 (by decide) ?_
    exact T_sub (t_X12_parseTrigger_77 X hr h) ⟨rfl, rfl, trivial⟩
  · refine r_iconst (pc := 72) X (v := 2) dX12_parseTrigger_72 (by decide) ?_
    refine r_goto (pc := 73) X (tgt := 77) dX12_parseTrigger_73 (by decide) ?_
    exact T_sub (t_X12_parseTrigger_77 X hr h) ⟨rfl, rfl, trivial⟩
def f_X12_parseTrigger  (M : Mem) : Option (Unit × Mem) :=
  bnd (f_X12_isThere38  M) (fun r1 M2 => bnd (f_X12_readOnce 3 r1 M2) (fun r4 M5 => bnd (f_X12_ok  M5) (fun r7 M8 => if r7 = 0 then some ((), M8) else if bad r4 4 then none else nm (uI M8 (38, 0, 0) (Int32.toNatClampNeg r4) (1 &&& 1)) (fun M10 => bnd (f_X12_isKeyword 6 M10) (fun r11 M12 => if r11 = 0 then bnd (f_X12_isKeyword 7 M12) (fun r14 M15 => if r14 = 0 then bnd (f_X12_fail 1 M15) (fun r17 M18 => f_X12_parseTrigger_52 r4 M18) else f_X12_parseTrigger_52 r4 M15) else f_X12_parseTrigger_52 r4 M12)))))
set_option maxHeartbeats 4000000 in
set_option maxRecDepth 100000 in
theorem t_X12_parseTrigger {G : GG} {A : Nat → Prop} {p : Program} {l : Launch} {e : Env} {s : State} {m : MethodId} {args : Array Value} {below : List Frame} {meth : Method} {c : Code} {r : Unit} {M' : Mem} (X : Cx G A p s m args meth c RX12 cX12_parseTrigger 2) (hr : meth.sig.returnType = none) {M : Mem}  (h : f_X12_parseTrigger M = some (r, M')) : T G A p l e (rmO 6) s m args below meth c 2 0 0 (MQ below (QvO G A M') args s 0 0 A) 0 [(0, .ref (G.2.1 (10, 0, 0)))] [] M := by
  unfold f_X12_parseTrigger at h
  refine r_aload_n (pc := 0) X dX12_parseTrigger_0 rfl ?_
  refine r_iconst (pc := 1) X (v := 3) dX12_parseTrigger_1 (by decide) ?_
  refine r_aload_n (pc := 2) X dX12_parseTrigger_2 rfl ?_
  refine r_aload_n (pc := 3) X dX12_parseTrigger_3 rfl ?_
  refine r_getR (q := (38, 0, 0)) (pc := 4) X ⟨(ltb rfl), (ltb rfl)⟩ fl_X12_146 rfl dX12_parseTrigger_4 ?_
  refine bndE h (fun r1 M2 h3 h => ?_)
  refine r_callVi1 (pc := 7) X ⟨(ltb rfl), (ltb rfl)⟩ rfl vy_X12_isThere my_X12_isThere ml_X12_301 ⟨Nat.le_of_ble_eq_true rfl, Nat.le_of_ble_eq_true rfl, Nat.le_of_ble_eq_true rfl, Nat.le_of_ble_eq_true rfl⟩ (c_X12_isThere38  h3) (Nat.le_of_ble_eq_true rfl) dX12_parseTrigger_7 ?_
  refine bndE h (fun r4 M5 h6 h => ?_)
  refine r_callVi2 (pc := 10) X ⟨(ltb rfl), (ltb rfl)⟩ rfl vy_X12_readOnce my_X12_readOnce ml_X12_305 ⟨Nat.le_of_ble_eq_true rfl, Nat.le_of_ble_eq_true rfl, Nat.le_of_ble_eq_true rfl, Nat.le_of_ble_eq_true rfl⟩ (c_X12_readOnce  h6) (Nat.le_of_ble_eq_true rfl) dX12_parseTrigger_10 ?_
  refine r_istore_n (pc := 13) X (by decide) dX12_parseTrigger_13 ?_
  refine r_aload_n (pc := 14) X dX12_parseTrigger_14 rfl ?_
  refine bndE h (fun r7 M8 h9 h => ?_)
  refine r_callVi0 (pc := 15) X ⟨(ltb rfl), (ltb rfl)⟩ rfl vy_X12_ok my_X12_ok ml_X12_279 ⟨Nat.le_of_ble_eq_true rfl, Nat.le_of_ble_eq_true rfl, Nat.le_of_ble_eq_true rfl, Nat.le_of_ble_eq_true rfl⟩ (c_X12_ok  h9) (Nat.le_of_ble_eq_true rfl) dX12_parseTrigger_15 ?_
  refine r_if_ne (pc := 18) X (tgt := 22) dX12_parseTrigger_18 (by decide) h (fun h => ?_) (fun h => ?_)
  · refine r_aload_n (pc := 22) X dX12_parseTrigger_22 rfl ?_
    refine r_getR (q := (38, 0, 0)) (pc := 23) X ⟨(ltb rfl), (ltb rfl)⟩ fl_X12_146 rfl dX12_parseTrigger_23 ?_
    refine r_iload_n (pc := 26) X dX12_parseTrigger_26 rfl ?_
    refine r_iconst (pc := 27) X (v := 1) dX12_parseTrigger_27 (by decide) ?_
    refine r_zastN (pc := 28) X (n := 4) ⟨(ltb rfl), (ltb rfl)⟩ rfl (nlt rfl) dX12_parseTrigger_28 h (fun M10 h => ?_)
    refine r_aload_n (pc := 29) X dX12_parseTrigger_29 rfl ?_
    refine r_bipush (pc := 30) X (v := 6) dX12_parseTrigger_30 (by decide) ?_
    refine bndE h (fun r11 M12 h13 h => ?_)
    refine r_callVi1 (pc := 32) X ⟨(ltb rfl), (ltb rfl)⟩ rfl vy_X12_isKeyword my_X12_isKeyword ml_X12_283 ⟨Nat.le_of_ble_eq_true rfl, Nat.le_of_ble_eq_true rfl, Nat.le_of_ble_eq_true rfl, Nat.le_of_ble_eq_true rfl⟩ (c_X12_isKeyword  h13) (Nat.le_of_ble_eq_true rfl) dX12_parseTrigger_32 ?_
    refine r_if_ne (pc := 35) X (tgt := 52) dX12_parseTrigger_35 (by decide) h (fun h => ?_) (fun h => ?_)
    · exact T_sub (t_X12_parseTrigger_52 X hr h) ⟨rfl, rfl, trivial⟩
    · refine r_aload_n (pc := 38) X dX12_parseTrigger_38 rfl ?_
      refine r_bipush (pc := 39) X (v := 7) dX12_parseTrigger_39 (by decide) ?_
      refine bndE h (fun r14 M15 h16 h => ?_)
      refine r_callVi1 (pc := 41) X ⟨(ltb rfl), (ltb rfl)⟩ rfl vy_X12_isKeyword my_X12_isKeyword ml_X12_283 ⟨Nat.le_of_ble_eq_true rfl, Nat.le_of_ble_eq_true rfl, Nat.le_of_ble_eq_true rfl, Nat.le_of_ble_eq_true rfl⟩ (c_X12_isKeyword  h16) (Nat.le_of_ble_eq_true rfl) dX12_parseTrigger_41 ?_
      refine r_if_ne (pc := 44) X (tgt := 52) dX12_parseTrigger_44 (by decide) h (fun h => ?_) (fun h => ?_)
      · exact T_sub (t_X12_parseTrigger_52 X hr h) ⟨rfl, rfl, trivial⟩
      · refine r_aload_n (pc := 47) X dX12_parseTrigger_47 rfl ?_
        refine r_iconst (pc := 48) X (v := 1) dX12_parseTrigger_48 (by decide) ?_
        refine bndE h (fun r17 M18 h19 h => ?_)
        refine r_callVv1 (pc := 49) X ⟨(ltb rfl), (ltb rfl)⟩ rfl vy_X12_fail my_X12_fail ml_X12_292 ⟨Nat.le_of_ble_eq_true rfl, Nat.le_of_ble_eq_true rfl, Nat.le_of_ble_eq_true rfl, Nat.le_of_ble_eq_true rfl⟩ (c_X12_fail  h19) (Nat.le_of_ble_eq_true rfl) dX12_parseTrigger_49 ?_
        exact T_sub (t_X12_parseTrigger_52 X hr h) ⟨rfl, rfl, trivial⟩
  · cases h
    exact r_vret (pc := 21) X hr dX12_parseTrigger_21
theorem c_X12_parseTrigger {G : GG} {l : Launch} {r : Unit} {M M' : Mem}  (h : f_X12_parseTrigger  M = some (r, M')) : Met l yX12_parseTrigger (wsO yX12_parseTrigger cX12_parseTrigger 2 none) (rmO 6) (PcO G [.ref (G.2.1 (10, 0, 0))] M) (QvO G (AA G) M') 0 0 (AA G) :=
  met_of (own := RX12) rfl (by decide +kernel) (Nat.le_of_ble_eq_true rfl) (fun p e s m args below meth c X hr => t_X12_parseTrigger X hr  h)
-- ConverterScannerModel.isStatement
def f_X12_isStatement_39  (M : Mem) : Option (Int32 × Mem) :=
  some (1, M)
set_option maxHeartbeats 4000000 in
set_option maxRecDepth 100000 in
theorem t_X12_isStatement_39 {G : GG} {A : Nat → Prop} {p : Program} {l : Launch} {e : Env} {s : State} {m : MethodId} {args : Array Value} {below : List Frame} {meth : Method} {c : Code} {r : Int32} {M' : Mem} (X : Cx G A p s m args meth c RX12 cX12_isStatement 1) (hr : meth.sig.returnType = some .boolean) {M : Mem}  (h : f_X12_isStatement_39 M = some (r, M')) : T G A p l e (rmO 1) s m args below meth c 1 0 0 (MQ below (QiO G A r M') args s 0 0 A) 39 [] [] M := by
  unfold f_X12_isStatement_39 at h
  refine r_iconst (pc := 39) X (v := 1) dX12_isStatement_39 (by decide) ?_
  refine r_goto (pc := 40) X (tgt := 44) dX12_isStatement_40 (by decide) ?_
  cases h
  exact r_zretc (pc := 44) X hr (by decide +kernel) dX12_isStatement_44
def f_X12_isStatement (x0 : Int32) (M : Mem) : Option (Int32 × Mem) :=
  if x0 = 0 then f_X12_isStatement_39  M else bnd (f_X12_inRange x0 6 11 M) (fun r1 M2 => if r1 = 0 then if x0 = 14 then f_X12_isStatement_39  M2 else if x0 = 19 then f_X12_isStatement_39  M2 else if x0 = 22 then f_X12_isStatement_39  M2 else if x0 = 24 then f_X12_isStatement_39  M2 else some (0, M2) else f_X12_isStatement_39  M2)
set_option maxHeartbeats 4000000 in
set_option maxRecDepth 100000 in
theorem t_X12_isStatement {G : GG} {A : Nat → Prop} {p : Program} {l : Launch} {e : Env} {s : State} {m : MethodId} {args : Array Value} {below : List Frame} {meth : Method} {c : Code} {r : Int32} {M' : Mem} (X : Cx G A p s m args meth c RX12 cX12_isStatement 1) (hr : meth.sig.returnType = some .boolean) {x0 : Int32} {M : Mem}  (h : f_X12_isStatement x0 M = some (r, M')) : T G A p l e (rmO 1) s m args below meth c 1 0 0 (MQ below (QiO G A r M') args s 0 0 A) 0 [(0, .int x0)] [] M := by
  unfold f_X12_isStatement at h
  refine r_iload_n (pc := 0) X dX12_isStatement_0 rfl ?_
  refine r_if_eq (pc := 1) X (tgt := 39) dX12_isStatement_1 (by decide) h (fun h => ?_) (fun h => ?_)
  · exact T_sub (t_X12_isStatement_39 X hr h) trivial
  · refine r_iload_n (pc := 4) X dX12_isStatement_4 rfl ?_
    refine r_bipush (pc := 5) X (v := 6) dX12_isStatement_5 (by decide) ?_
    refine r_bipush (pc := 7) X (v := 11) dX12_isStatement_7 (by decide) ?_
    refine bndE h (fun r1 M2 h3 h => ?_)
    refine r_callSi3 (pc := 9) X sy_X12_inRange my_X12_inRange ml_X12_22 ⟨Nat.le_of_ble_eq_true rfl, Nat.le_of_ble_eq_true rfl, Nat.le_of_ble_eq_true rfl, Nat.le_of_ble_eq_true rfl⟩ (c_X12_inRange  h3) (Nat.le_of_ble_eq_true rfl) dX12_isStatement_9 ?_
    refine r_if_ne (pc := 12) X (tgt := 39) dX12_isStatement_12 (by decide) h (fun h => ?_) (fun h => ?_)
    · exact T_sub (t_X12_isStatement_39 X hr h) trivial
    · refine r_iload_n (pc := 15) X dX12_isStatement_15 rfl ?_
      refine r_bipush (pc := 16) X (v := 14) dX12_isStatement_16 (by decide) ?_
      refine r_icmp_eq (pc := 18) X (tgt := 39) dX12_isStatement_18 (by decide) h (fun h => ?_) (fun h => ?_)
      · exact T_sub (t_X12_isStatement_39 X hr h) trivial
      · refine r_iload_n (pc := 21) X dX12_isStatement_21 rfl ?_
        refine r_bipush (pc := 22) X (v := 19) dX12_isStatement_22 (by decide) ?_
        refine r_icmp_eq (pc := 24) X (tgt := 39) dX12_isStatement_24 (by decide) h (fun h => ?_) (fun h => ?_)
        · exact T_sub (t_X12_isStatement_39 X hr h) trivial
        · refine r_iload_n (pc := 27) X dX12_isStatement_27 rfl ?_
          refine r_bipush (pc := 28) X (v := 22) dX12_isStatement_28 (by decide) ?_
          refine r_icmp_eq (pc := 30) X (tgt := 39) dX12_isStatement_30 (by decide) h (fun h => ?_) (fun h => ?_)
          · exact T_sub (t_X12_isStatement_39 X hr h) trivial
          · refine r_iload_n (pc := 33) X dX12_isStatement_33 rfl ?_
            refine r_bipush (pc := 34) X (v := 24) dX12_isStatement_34 (by decide) ?_
            refine r_icmp_ne (pc := 36) X (tgt := 43) dX12_isStatement_36 (by decide) h (fun h => ?_) (fun h => ?_)
            · refine r_iconst (pc := 43) X (v := 0) dX12_isStatement_43 (by decide) ?_
              cases h
              exact r_zretc (pc := 44) X hr (by decide +kernel) dX12_isStatement_44
            · exact T_sub (t_X12_isStatement_39 X hr h) trivial
theorem c_X12_isStatement {G : GG} {l : Launch} {x0 : Int32} {r : Int32} {M M' : Mem}  (h : f_X12_isStatement x0 M = some (r, M')) : Met l yX12_isStatement (wsO yX12_isStatement cX12_isStatement 1 (some .boolean)) (rmO 1) (PcO G [.int x0] M) (QiO G (AA G) r M') 0 0 (AA G) :=
  met_of (own := RX12) rfl (by decide +kernel) (Nat.le_of_ble_eq_true rfl) (fun p e s m args below meth c X hr => t_X12_isStatement X hr  h)
-- ConverterScannerModel.isManyTimes
def f_X12_isManyTimes_16  (M : Mem) : Option (Int32 × Mem) :=
  some (1, M)
set_option maxHeartbeats 4000000 in
set_option maxRecDepth 100000 in
theorem t_X12_isManyTimes_16 {G : GG} {A : Nat → Prop} {p : Program} {l : Launch} {e : Env} {s : State} {m : MethodId} {args : Array Value} {below : List Frame} {meth : Method} {c : Code} {r : Int32} {M' : Mem} (X : Cx G A p s m args meth c RX12 cX12_isManyTimes 1) (hr : meth.sig.returnType = some .boolean) {M : Mem}  (h : f_X12_isManyTimes_16 M = some (r, M')) : T G A p l e (rmO 0) s m args below meth c 1 0 0 (MQ below (QiO G A r M') args s 0 0 A) 16 [] [] M := by
  unfold f_X12_isManyTimes_16 at h
  refine r_iconst (pc := 16) X (v := 1) dX12_isManyTimes_16 (by decide) ?_
  refine r_goto (pc := 17) X (tgt := 21) dX12_isManyTimes_17 (by decide) ?_
  cases h
  exact r_zretc (pc := 21) X hr (by decide +kernel) dX12_isManyTimes_21
def f_X12_isManyTimes (x0 : Int32) (M : Mem) : Option (Int32 × Mem) :=
  if x0 = 0 then f_X12_isManyTimes_16  M else if x0 = 14 then f_X12_isManyTimes_16  M else if x0 = 19 then f_X12_isManyTimes_16  M else some (0, M)
set_option maxHeartbeats 4000000 in
set_option maxRecDepth 100000 in
theorem t_X12_isManyTimes {G : GG} {A : Nat → Prop} {p : Program} {l : Launch} {e : Env} {s : State} {m : MethodId} {args : Array Value} {below : List Frame} {meth : Method} {c : Code} {r : Int32} {M' : Mem} (X : Cx G A p s m args meth c RX12 cX12_isManyTimes 1) (hr : meth.sig.returnType = some .boolean) {x0 : Int32} {M : Mem}  (h : f_X12_isManyTimes x0 M = some (r, M')) : T G A p l e (rmO 0) s m args below meth c 1 0 0 (MQ below (QiO G A r M') args s 0 0 A) 0 [(0, .int x0)] [] M := by
  unfold f_X12_isManyTimes at h
  refine r_iload_n (pc := 0) X dX12_isManyTimes_0 rfl ?_
  refine r_if_eq (pc := 1) X (tgt := 16) dX12_isManyTimes_1 (by decide) h (fun h => ?_) (fun h => ?_)
  · exact T_sub (t_X12_isManyTimes_16 X hr h) trivial
  · refine r_iload_n (pc := 4) X dX12_isManyTimes_4 rfl ?_
    refine r_bipush (pc := 5) X (v := 14) dX12_isManyTimes_5 (by decide) ?_
    refine r_icmp_eq (pc := 7) X (tgt := 16) dX12_isManyTimes_7 (by decide) h (fun h => ?_) (fun h => ?_)
    · exact T_sub (t_X12_isManyTimes_16 X hr h) trivial
    · refine r_iload_n (pc := 10) X dX12_isManyTimes_10 rfl ?_
      refine r_bipush (pc := 11) X (v := 19) dX12_isManyTimes_11 (by decide) ?_
      refine r_icmp_ne (pc := 13) X (tgt := 20) dX12_isManyTimes_13 (by decide) h (fun h => ?_) (fun h => ?_)
      · refine r_iconst (pc := 20) X (v := 0) dX12_isManyTimes_20 (by decide) ?_
        cases h
        exact r_zretc (pc := 21) X hr (by decide +kernel) dX12_isManyTimes_21
      · exact T_sub (t_X12_isManyTimes_16 X hr h) trivial
theorem c_X12_isManyTimes {G : GG} {l : Launch} {x0 : Int32} {r : Int32} {M M' : Mem}  (h : f_X12_isManyTimes x0 M = some (r, M')) : Met l yX12_isManyTimes (wsO yX12_isManyTimes cX12_isManyTimes 1 (some .boolean)) (rmO 0) (PcO G [.int x0] M) (QiO G (AA G) r M') 0 0 (AA G) :=
  met_of (own := RX12) rfl (by decide +kernel) (Nat.le_of_ble_eq_true rfl) (fun p e s m args below meth c X hr => t_X12_isManyTimes X hr  h)
-- ConverterScannerModel.parseBehind
def f_X12_parseBehind_242 (xs0 : Int32) (xs1 : Int32) (M : Mem) : Option (Unit × Mem) :=
  if bad xs1 104 then none else nm (uI M (31, 0, 0) (Int32.toNatClampNeg xs1) xs0) (fun M1 => some ((), M1))
set_option maxHeartbeats 4000000 in
set_option maxRecDepth 100000 in
theorem t_X12_parseBehind_242 {G : GG} {A : Nat → Prop} {p : Program} {l : Launch} {e : Env} {s : State} {m : MethodId} {args : Array Value} {below : List Frame} {meth : Method} {c : Code} {r : Unit} {M' : Mem} (X : Cx G A p s m args meth c RX12 cX12_parseBehind 2) (hr : meth.sig.returnType = none) {xs0 : Int32} {xs1 : Int32} {M : Mem}  (h : f_X12_parseBehind_242 xs0 xs1 M = some (r, M')) : T G A p l e (rmO 7) s m args below meth c 2 0 0 (MQ below (QvO G A M') args s 0 0 A) 242 [] [.int xs0, .int xs1, .ref (G.2.1 (31, 0, 0))] M := by
  unfold f_X12_parseBehind_242 at h
  refine r_iastN (pc := 242) X (n := 104) ⟨(ltb rfl), (ltb rfl)⟩ rfl (nlt rfl) dX12_parseBehind_242 h (fun M1 h => ?_)
  refine r_goto (pc := 243) X (tgt := 262) dX12_parseBehind_243 (by decide) ?_
  cases h
  exact r_vret (pc := 262) X hr dX12_parseBehind_262
def f_X12_parseBehind (x1 : Int32) (M : Mem) : Option (Unit × Mem) :=
  if x1 = 0 then bnd (f_X12_parseChannel  M) (fun r1 M2 => some ((), M2)) else if x1 = 6 then bnd (f_X12_parseEntries 0 8 M) (fun r4 M5 => some ((), M5)) else if x1 = 7 then bnd (f_X12_parseEntries 1 4 M) (fun r7 M8 => some ((), M8)) else if x1 = 8 then bnd (f_X12_drafts 5 M) (fun r10 M11 => bnd (f_X12_readNumber 1 8 M11) (fun r13 M14 => if bad r10 104 then none else nm (uI M14 (31, 0, 0) (Int32.toNatClampNeg r10) r13) (fun M16 => some ((), M16)))) else if x1 = 9 then bnd (f_X12_drafts 6 M) (fun r17 M18 => if bad r17 104 then none else nm (uI M18 (31, 0, 0) (Int32.toNatClampNeg r17) 1) (fun M20 => some ((), M20))) else if x1 = 10 then bnd (f_X12_drafts 7 M) (fun r21 M22 => if bad r21 104 then none else nm (uI M22 (31, 0, 0) (Int32.toNatClampNeg r21) 1) (fun M24 => some ((), M24))) else if x1 = 11 then bnd (f_X12_parseOver  M) (fun r25 M26 => some ((), M26)) else if x1 = 14 then bnd (f_X12_parseWindow  M) (fun r28 M29 => some ((), M29)) else if x1 = 19 then bnd (f_X12_parseTrigger  M) (fun r31 M32 => some ((), M32)) else if x1 = 22 then bnd (f_X12_drafts 8 M) (fun r34 M35 => bnd (f_X12_readNumber 1 16 M35) (fun r37 M38 => if bad r34 104 then none else nm (uI M38 (31, 0, 0) (Int32.toNatClampNeg r34) r37) (fun M40 => bnd (f_X12_drafts 9 M40) (fun r41 M42 => bnd (f_X12_accepts 23 M42) (fun r44 M45 => if r44 = 0 then f_X12_parseBehind_242 0 r41 M45 else f_X12_parseBehind_242 1 r41 M45))))) else bnd (f_X12_readNumber 0 999 M) (fun r47 M48 => if bad 1898 2360 then none else nm (uI M48 (32, 0, 0) (Int32.toNatClampNeg 1898) r47) (fun M50 => some ((), M50)))
set_option maxHeartbeats 4000000 in
set_option maxRecDepth 100000 in
theorem t_X12_parseBehind {G : GG} {A : Nat → Prop} {p : Program} {l : Launch} {e : Env} {s : State} {m : MethodId} {args : Array Value} {below : List Frame} {meth : Method} {c : Code} {r : Unit} {M' : Mem} (X : Cx G A p s m args meth c RX12 cX12_parseBehind 2) (hr : meth.sig.returnType = none) {x1 : Int32} {M : Mem}  (h : f_X12_parseBehind x1 M = some (r, M')) : T G A p l e (rmO 7) s m args below meth c 2 0 0 (MQ below (QvO G A M') args s 0 0 A) 0 [(0, .ref (G.2.1 (10, 0, 0))), (1, .int x1)] [] M := by
  unfold f_X12_parseBehind at h
  refine r_iload_n (pc := 0) X dX12_parseBehind_0 rfl ?_
  refine swc h (fun hq h => ?_) (fun hs0 h => ?_)
  · refine r_swInE (pc := 1) X hq (off := 107) (tgt := 108) dX12_parseBehind_1 (by decide) (by decide) (by decide) (by decide) ?_
    refine r_aload_n (pc := 108) X dX12_parseBehind_108 rfl ?_
    refine bndE h (fun r1 M2 h3 h => ?_)
    refine r_callVv0 (pc := 109) X ⟨(ltb rfl), (ltb rfl)⟩ rfl vy_X12_parseChannel my_X12_parseChannel ml_X12_321 ⟨Nat.le_of_ble_eq_true rfl, Nat.le_of_ble_eq_true rfl, Nat.le_of_ble_eq_true rfl, Nat.le_of_ble_eq_true rfl⟩ (c_X12_parseChannel  h3) (Nat.le_of_ble_eq_true rfl) dX12_parseBehind_109 ?_
    refine r_goto (pc := 112) X (tgt := 262) dX12_parseBehind_112 (by decide) ?_
    cases h
    exact r_vret (pc := 262) X hr dX12_parseBehind_262
  refine swc h (fun hq h => ?_) (fun hs6 h => ?_)
  · refine r_swInE (pc := 1) X hq (off := 114) (tgt := 115) dX12_parseBehind_1 (by decide) (by decide) (by decide) (by decide) ?_
    refine r_aload_n (pc := 115) X dX12_parseBehind_115 rfl ?_
    refine r_iconst (pc := 116) X (v := 0) dX12_parseBehind_116 (by decide) ?_
    refine r_bipush (pc := 117) X (v := 8) dX12_parseBehind_117 (by decide) ?_
    refine bndE h (fun r4 M5 h6 h => ?_)
    refine r_callVv2 (pc := 119) X ⟨(ltb rfl), (ltb rfl)⟩ rfl vy_X12_parseEntries my_X12_parseEntries ml_X12_324 ⟨Nat.le_of_ble_eq_true rfl, Nat.le_of_ble_eq_true rfl, Nat.le_of_ble_eq_true rfl, Nat.le_of_ble_eq_true rfl⟩ (c_X12_parseEntries  h6) (Nat.le_of_ble_eq_true rfl) dX12_parseBehind_119 ?_
    refine r_goto (pc := 122) X (tgt := 262) dX12_parseBehind_122 (by decide) ?_
    cases h
    exact r_vret (pc := 262) X hr dX12_parseBehind_262
  refine swc h (fun hq h => ?_) (fun hs7 h => ?_)
  · refine r_swInE (pc := 1) X hq (off := 124) (tgt := 125) dX12_parseBehind_1 (by decide) (by decide) (by decide) (by decide) ?_
    refine r_aload_n (pc := 125) X dX12_parseBehind_125 rfl ?_
    refine r_iconst (pc := 126) X (v := 1) dX12_parseBehind_126 (by decide) ?_
    refine r_iconst (pc := 127) X (v := 4) dX12_parseBehind_127 (by decide) ?_
    refine bndE h (fun r7 M8 h9 h => ?_)
    refine r_callVv2 (pc := 128) X ⟨(ltb rfl), (ltb rfl)⟩ rfl vy_X12_parseEntries my_X12_parseEntries ml_X12_324 ⟨Nat.le_of_ble_eq_true rfl, Nat.le_of_ble_eq_true rfl, Nat.le_of_ble_eq_true rfl, Nat.le_of_ble_eq_true rfl⟩ (c_X12_parseEntries  h9) (Nat.le_of_ble_eq_true rfl) dX12_parseBehind_128 ?_
    refine r_goto (pc := 131) X (tgt := 262) dX12_parseBehind_131 (by decide) ?_
    cases h
    exact r_vret (pc := 262) X hr dX12_parseBehind_262
  refine swc h (fun hq h => ?_) (fun hs8 h => ?_)
  · refine r_swInE (pc := 1) X hq (off := 133) (tgt := 134) dX12_parseBehind_1 (by decide) (by decide) (by decide) (by decide) ?_
    refine r_aload_n (pc := 134) X dX12_parseBehind_134 rfl ?_
    refine r_getR (q := (31, 0, 0)) (pc := 135) X ⟨(ltb rfl), (ltb rfl)⟩ fl_X12_26 rfl dX12_parseBehind_135 ?_
    refine r_iconst (pc := 138) X (v := 5) dX12_parseBehind_138 (by decide) ?_
    refine bndE h (fun r10 M11 h12 h => ?_)
    refine r_callSi1 (pc := 139) X sy_X12_drafts my_X12_drafts ml_X12_309 ⟨Nat.le_of_ble_eq_true rfl, Nat.le_of_ble_eq_true rfl, Nat.le_of_ble_eq_true rfl, Nat.le_of_ble_eq_true rfl⟩ (c_X12_drafts  h12) (Nat.le_of_ble_eq_true rfl) dX12_parseBehind_139 ?_
    refine r_aload_n (pc := 142) X dX12_parseBehind_142 rfl ?_
    refine r_iconst (pc := 143) X (v := 1) dX12_parseBehind_143 (by decide) ?_
    refine r_bipush (pc := 144) X (v := 8) dX12_parseBehind_144 (by decide) ?_
    refine bndE h (fun r13 M14 h15 h => ?_)
    refine r_callVi2 (pc := 146) X ⟨(ltb rfl), (ltb rfl)⟩ rfl vy_X12_readNumber my_X12_readNumber ml_X12_298 ⟨Nat.le_of_ble_eq_true rfl, Nat.le_of_ble_eq_true rfl, Nat.le_of_ble_eq_true rfl, Nat.le_of_ble_eq_true rfl⟩ (c_X12_readNumber  h15) (Nat.le_of_ble_eq_true rfl) dX12_parseBehind_146 ?_
    refine r_iastN (pc := 149) X (n := 104) ⟨(ltb rfl), (ltb rfl)⟩ rfl (nlt rfl) dX12_parseBehind_149 h (fun M16 h => ?_)
    refine r_goto (pc := 150) X (tgt := 262) dX12_parseBehind_150 (by decide) ?_
    cases h
    exact r_vret (pc := 262) X hr dX12_parseBehind_262
  refine swc h (fun hq h => ?_) (fun hs9 h => ?_)
  · refine r_swInE (pc := 1) X hq (off := 152) (tgt := 153) dX12_parseBehind_1 (by decide) (by decide) (by decide) (by decide) ?_
    refine r_aload_n (pc := 153) X dX12_parseBehind_153 rfl ?_
    refine r_getR (q := (31, 0, 0)) (pc := 154) X ⟨(ltb rfl), (ltb rfl)⟩ fl_X12_26 rfl dX12_parseBehind_154 ?_
    refine r_bipush (pc := 157) X (v := 6) dX12_parseBehind_157 (by decide) ?_
    refine bndE h (fun r17 M18 h19 h => ?_)
    refine r_callSi1 (pc := 159) X sy_X12_drafts my_X12_drafts ml_X12_309 ⟨Nat.le_of_ble_eq_true rfl, Nat.le_of_ble_eq_true rfl, Nat.le_of_ble_eq_true rfl, Nat.le_of_ble_eq_true rfl⟩ (c_X12_drafts  h19) (Nat.le_of_ble_eq_true rfl) dX12_parseBehind_159 ?_
    refine r_iconst (pc := 162) X (v := 1) dX12_parseBehind_162 (by decide) ?_
    refine r_iastN (pc := 163) X (n := 104) ⟨(ltb rfl), (ltb rfl)⟩ rfl (nlt rfl) dX12_parseBehind_163 h (fun M20 h => ?_)
    refine r_goto (pc := 164) X (tgt := 262) dX12_parseBehind_164 (by decide) ?_
    cases h
    exact r_vret (pc := 262) X hr dX12_parseBehind_262
  refine swc h (fun hq h => ?_) (fun hs10 h => ?_)
  · refine r_swInE (pc := 1) X hq (off := 166) (tgt := 167) dX12_parseBehind_1 (by decide) (by decide) (by decide) (by decide) ?_
    refine r_aload_n (pc := 167) X dX12_parseBehind_167 rfl ?_
    refine r_getR (q := (31, 0, 0)) (pc := 168) X ⟨(ltb rfl), (ltb rfl)⟩ fl_X12_26 rfl dX12_parseBehind_168 ?_
    refine r_bipush (pc := 171) X (v := 7) dX12_parseBehind_171 (by decide) ?_
    refine bndE h (fun r21 M22 h23 h => ?_)
    refine r_callSi1 (pc := 173) X sy_X12_drafts my_X12_drafts ml_X12_309 ⟨Nat.le_of_ble_eq_true rfl, Nat.le_of_ble_eq_true rfl, Nat.le_of_ble_eq_true rfl, Nat.le_of_ble_eq_true rfl⟩ (c_X12_drafts  h23) (Nat.le_of_ble_eq_true rfl) dX12_parseBehind_173 ?_
    refine r_iconst (pc := 176) X (v := 1) dX12_parseBehind_176 (by decide) ?_
    refine r_iastN (pc := 177) X (n := 104) ⟨(ltb rfl), (ltb rfl)⟩ rfl (nlt rfl) dX12_parseBehind_177 h (fun M24 h => ?_)
    refine r_goto (pc := 178) X (tgt := 262) dX12_parseBehind_178 (by decide) ?_
    cases h
    exact r_vret (pc := 262) X hr dX12_parseBehind_262
  refine swc h (fun hq h => ?_) (fun hs11 h => ?_)
  · refine r_swInE (pc := 1) X hq (off := 180) (tgt := 181) dX12_parseBehind_1 (by decide) (by decide) (by decide) (by decide) ?_
    refine r_aload_n (pc := 181) X dX12_parseBehind_181 rfl ?_
    refine bndE h (fun r25 M26 h27 h => ?_)
    refine r_callVv0 (pc := 182) X ⟨(ltb rfl), (ltb rfl)⟩ rfl vy_X12_parseOver my_X12_parseOver ml_X12_327 ⟨Nat.le_of_ble_eq_true rfl, Nat.le_of_ble_eq_true rfl, Nat.le_of_ble_eq_true rfl, Nat.le_of_ble_eq_true rfl⟩ (c_X12_parseOver  h27) (Nat.le_of_ble_eq_true rfl) dX12_parseBehind_182 ?_
    refine r_goto (pc := 185) X (tgt := 262) dX12_parseBehind_185 (by decide) ?_
    cases h
    exact r_vret (pc := 262) X hr dX12_parseBehind_262
  refine swc h (fun hq h => ?_) (fun hs14 h => ?_)
  · refine r_swInE (pc := 1) X hq (off := 187) (tgt := 188) dX12_parseBehind_1 (by decide) (by decide) (by decide) (by decide) ?_
    refine r_aload_n (pc := 188) X dX12_parseBehind_188 rfl ?_
    refine bndE h (fun r28 M29 h30 h => ?_)
    refine r_callVv0 (pc := 189) X ⟨(ltb rfl), (ltb rfl)⟩ rfl vy_X12_parseWindow my_X12_parseWindow ml_X12_330 ⟨Nat.le_of_ble_eq_true rfl, Nat.le_of_ble_eq_true rfl, Nat.le_of_ble_eq_true rfl, Nat.le_of_ble_eq_true rfl⟩ (c_X12_parseWindow  h30) (Nat.le_of_ble_eq_true rfl) dX12_parseBehind_189 ?_
    refine r_goto (pc := 192) X (tgt := 262) dX12_parseBehind_192 (by decide) ?_
    cases h
    exact r_vret (pc := 262) X hr dX12_parseBehind_262
  refine swc h (fun hq h => ?_) (fun hs19 h => ?_)
  · refine r_swInE (pc := 1) X hq (off := 194) (tgt := 195) dX12_parseBehind_1 (by decide) (by decide) (by decide) (by decide) ?_
    refine r_aload_n (pc := 195) X dX12_parseBehind_195 rfl ?_
    refine bndE h (fun r31 M32 h33 h => ?_)
    refine r_callVv0 (pc := 196) X ⟨(ltb rfl), (ltb rfl)⟩ rfl vy_X12_parseTrigger my_X12_parseTrigger ml_X12_333 ⟨Nat.le_of_ble_eq_true rfl, Nat.le_of_ble_eq_true rfl, Nat.le_of_ble_eq_true rfl, Nat.le_of_ble_eq_true rfl⟩ (c_X12_parseTrigger  h33) (Nat.le_of_ble_eq_true rfl) dX12_parseBehind_196 ?_
    refine r_goto (pc := 199) X (tgt := 262) dX12_parseBehind_199 (by decide) ?_
    cases h
    exact r_vret (pc := 262) X hr dX12_parseBehind_262
  refine swc h (fun hq h => ?_) (fun hs22 h => ?_)
  · refine r_swInE (pc := 1) X hq (off := 201) (tgt := 202) dX12_parseBehind_1 (by decide) (by decide) (by decide) (by decide) ?_
    refine r_aload_n (pc := 202) X dX12_parseBehind_202 rfl ?_
    refine r_getR (q := (31, 0, 0)) (pc := 203) X ⟨(ltb rfl), (ltb rfl)⟩ fl_X12_26 rfl dX12_parseBehind_203 ?_
    refine r_bipush (pc := 206) X (v := 8) dX12_parseBehind_206 (by decide) ?_
    refine bndE h (fun r34 M35 h36 h => ?_)
    refine r_callSi1 (pc := 208) X sy_X12_drafts my_X12_drafts ml_X12_309 ⟨Nat.le_of_ble_eq_true rfl, Nat.le_of_ble_eq_true rfl, Nat.le_of_ble_eq_true rfl, Nat.le_of_ble_eq_true rfl⟩ (c_X12_drafts  h36) (Nat.le_of_ble_eq_true rfl) dX12_parseBehind_208 ?_
    refine r_aload_n (pc := 211) X dX12_parseBehind_211 rfl ?_
    refine r_iconst (pc := 212) X (v := 1) dX12_parseBehind_212 (by decide) ?_
    refine r_bipush (pc := 213) X (v := 16) dX12_parseBehind_213 (by decide) ?_
    refine bndE h (fun r37 M38 h39 h => ?_)
    refine r_callVi2 (pc := 215) X ⟨(ltb rfl), (ltb rfl)⟩ rfl vy_X12_readNumber my_X12_readNumber ml_X12_298 ⟨Nat.le_of_ble_eq_true rfl, Nat.le_of_ble_eq_true rfl, Nat.le_of_ble_eq_true rfl, Nat.le_of_ble_eq_true rfl⟩ (c_X12_readNumber  h39) (Nat.le_of_ble_eq_true rfl) dX12_parseBehind_215 ?_
    refine r_iastN (pc := 218) X (n := 104) ⟨(ltb rfl), (ltb rfl)⟩ rfl (nlt rfl) dX12_parseBehind_218 h (fun M40 h => ?_)
    refine r_aload_n (pc := 219) X dX12_parseBehind_219 rfl ?_
    refine r_getR (q := (31, 0, 0)) (pc := 220) X ⟨(ltb rfl), (ltb rfl)⟩ fl_X12_26 rfl dX12_parseBehind_220 ?_
    refine r_bipush (pc := 223) X (v := 9) dX12_parseBehind_223 (by decide) ?_
    refine bndE h (fun r41 M42 h43 h => ?_)
    refine r_callSi1 (pc := 225) X sy_X12_drafts my_X12_drafts ml_X12_309 ⟨Nat.le_of_ble_eq_true rfl, Nat.le_of_ble_eq_true rfl, Nat.le_of_ble_eq_true rfl, Nat.le_of_ble_eq_true rfl⟩ (c_X12_drafts  h43) (Nat.le_of_ble_eq_true rfl) dX12_parseBehind_225 ?_
    refine r_aload_n (pc := 228) X dX12_parseBehind_228 rfl ?_
    refine r_bipush (pc := 229) X (v := 23) dX12_parseBehind_229 (by decide) ?_
    refine bndE h (fun r44 M45 h46 h => ?_)
    refine r_callVi1 (pc := 231) X ⟨(ltb rfl), (ltb rfl)⟩ rfl vy_X12_accepts my_X12_accepts ml_X12_289 ⟨Nat.le_of_ble_eq_true rfl, Nat.le_of_ble_eq_true rfl, Nat.le_of_ble_eq_true rfl, Nat.le_of_ble_eq_true rfl⟩ (c_X12_accepts  h46) (Nat.le_of_ble_eq_true rfl) dX12_parseBehind_231 ?_
    refine r_if_eq (pc := 234) X (tgt := 241) dX12_parseBehind_234 (by decide) h (fun h => ?_) (fun h => ?_)
    · refine r_iconst (pc := 241) X (v := 0) dX12_parseBehind_241 (by decide) ?_
      exact T_sub (t_X12_parseBehind_242 X hr h) trivial
    · refine r_iconst (pc := 237) X (v := 1) dX12_parseBehind_237 (by decide) ?_
      refine r_goto (pc := 238) X (tgt := 242) dX12_parseBehind_238 (by decide) ?_
      exact T_sub (t_X12_parseBehind_242 X hr h) trivial
  refine byc (x1 = 1) (fun hq => ?_) (fun hs1 => ?_)
  · refine r_swInE (pc := 1) X hq (off := 245) (tgt := 246) dX12_parseBehind_1 (by decide) (by decide) (by decide) (by decide) ?_
    refine r_aload_n (pc := 246) X dX12_parseBehind_246 rfl ?_
    refine r_getR (q := (32, 0, 0)) (pc := 247) X ⟨(ltb rfl), (ltb rfl)⟩ fl_X12_29 rfl dX12_parseBehind_247 ?_
    refine r_sipush (pc := 250) X (v := 1898) dX12_parseBehind_250 (by decide) ?_
    refine r_aload_n (pc := 253) X dX12_parseBehind_253 rfl ?_
    refine r_iconst (pc := 254) X (v := 0) dX12_parseBehind_254 (by decide) ?_
    refine r_sipush (pc := 255) X (v := 999) dX12_parseBehind_255 (by decide) ?_
    refine bndE h (fun r47 M48 h49 h => ?_)
    refine r_callVi2 (pc := 258) X ⟨(ltb rfl), (ltb rfl)⟩ rfl vy_X12_readNumber my_X12_readNumber ml_X12_298 ⟨Nat.le_of_ble_eq_true rfl, Nat.le_of_ble_eq_true rfl, Nat.le_of_ble_eq_true rfl, Nat.le_of_ble_eq_true rfl⟩ (c_X12_readNumber  h49) (Nat.le_of_ble_eq_true rfl) dX12_parseBehind_258 ?_
    refine r_iastN (pc := 261) X (n := 2360) ⟨(ltb rfl), (ltb rfl)⟩ rfl (nlt rfl) dX12_parseBehind_261 h (fun M50 h => ?_)
    cases h
    exact r_vret (pc := 262) X hr dX12_parseBehind_262
  refine byc (x1 = 2) (fun hq => ?_) (fun hs2 => ?_)
  · refine r_swInE (pc := 1) X hq (off := 245) (tgt := 246) dX12_parseBehind_1 (by decide) (by decide) (by decide) (by decide) ?_
    refine r_aload_n (pc := 246) X dX12_parseBehind_246 rfl ?_
    refine r_getR (q := (32, 0, 0)) (pc := 247) X ⟨(ltb rfl), (ltb rfl)⟩ fl_X12_29 rfl dX12_parseBehind_247 ?_
    refine r_sipush (pc := 250) X (v := 1898) dX12_parseBehind_250 (by decide) ?_
    refine r_aload_n (pc := 253) X dX12_parseBehind_253 rfl ?_
    refine r_iconst (pc := 254) X (v := 0) dX12_parseBehind_254 (by decide) ?_
    refine r_sipush (pc := 255) X (v := 999) dX12_parseBehind_255 (by decide) ?_
    refine bndE h (fun r47 M48 h49 h => ?_)
    refine r_callVi2 (pc := 258) X ⟨(ltb rfl), (ltb rfl)⟩ rfl vy_X12_readNumber my_X12_readNumber ml_X12_298 ⟨Nat.le_of_ble_eq_true rfl, Nat.le_of_ble_eq_true rfl, Nat.le_of_ble_eq_true rfl, Nat.le_of_ble_eq_true rfl⟩ (c_X12_readNumber  h49) (Nat.le_of_ble_eq_true rfl) dX12_parseBehind_258 ?_
    refine r_iastN (pc := 261) X (n := 2360) ⟨(ltb rfl), (ltb rfl)⟩ rfl (nlt rfl) dX12_parseBehind_261 h (fun M50 h => ?_)
    cases h
    exact r_vret (pc := 262) X hr dX12_parseBehind_262
  refine byc (x1 = 3) (fun hq => ?_) (fun hs3 => ?_)
  · refine r_swInE (pc := 1) X hq (off := 245) (tgt := 246) dX12_parseBehind_1 (by decide) (by decide) (by decide) (by decide) ?_
    refine r_aload_n (pc := 246) X dX12_parseBehind_246 rfl ?_
    refine r_getR (q := (32, 0, 0)) (pc := 247) X ⟨(ltb rfl), (ltb rfl)⟩ fl_X12_29 rfl dX12_parseBehind_247 ?_
    refine r_sipush (pc := 250) X (v := 1898) dX12_parseBehind_250 (by decide) ?_
    refine r_aload_n (pc := 253) X dX12_parseBehind_253 rfl ?_
    refine r_iconst (pc := 254) X (v := 0) dX12_parseBehind_254 (by decide) ?_
    refine r_sipush (pc := 255) X (v := 999) dX12_parseBehind_255 (by decide) ?_
    refine bndE h (fun r47 M48 h49 h => ?_)
    refine r_callVi2 (pc := 258) X ⟨(ltb rfl), (ltb rfl)⟩ rfl vy_X12_readNumber my_X12_readNumber ml_X12_298 ⟨Nat.le_of_ble_eq_true rfl, Nat.le_of_ble_eq_true rfl, Nat.le_of_ble_eq_true rfl, Nat.le_of_ble_eq_true rfl⟩ (c_X12_readNumber  h49) (Nat.le_of_ble_eq_true rfl) dX12_parseBehind_258 ?_
    refine r_iastN (pc := 261) X (n := 2360) ⟨(ltb rfl), (ltb rfl)⟩ rfl (nlt rfl) dX12_parseBehind_261 h (fun M50 h => ?_)
    cases h
    exact r_vret (pc := 262) X hr dX12_parseBehind_262
  refine byc (x1 = 4) (fun hq => ?_) (fun hs4 => ?_)
  · refine r_swInE (pc := 1) X hq (off := 245) (tgt := 246) dX12_parseBehind_1 (by decide) (by decide) (by decide) (by decide) ?_
    refine r_aload_n (pc := 246) X dX12_parseBehind_246 rfl ?_
    refine r_getR (q := (32, 0, 0)) (pc := 247) X ⟨(ltb rfl), (ltb rfl)⟩ fl_X12_29 rfl dX12_parseBehind_247 ?_
    refine r_sipush (pc := 250) X (v := 1898) dX12_parseBehind_250 (by decide) ?_
    refine r_aload_n (pc := 253) X dX12_parseBehind_253 rfl ?_
    refine r_iconst (pc := 254) X (v := 0) dX12_parseBehind_254 (by decide) ?_
    refine r_sipush (pc := 255) X (v := 999) dX12_parseBehind_255 (by decide) ?_
    refine bndE h (fun r47 M48 h49 h => ?_)
    refine r_callVi2 (pc := 258) X ⟨(ltb rfl), (ltb rfl)⟩ rfl vy_X12_readNumber my_X12_readNumber ml_X12_298 ⟨Nat.le_of_ble_eq_true rfl, Nat.le_of_ble_eq_true rfl, Nat.le_of_ble_eq_true rfl, Nat.le_of_ble_eq_true rfl⟩ (c_X12_readNumber  h49) (Nat.le_of_ble_eq_true rfl) dX12_parseBehind_258 ?_
    refine r_iastN (pc := 261) X (n := 2360) ⟨(ltb rfl), (ltb rfl)⟩ rfl (nlt rfl) dX12_parseBehind_261 h (fun M50 h => ?_)
    cases h
    exact r_vret (pc := 262) X hr dX12_parseBehind_262
  refine byc (x1 = 5) (fun hq => ?_) (fun hs5 => ?_)
  · refine r_swInE (pc := 1) X hq (off := 245) (tgt := 246) dX12_parseBehind_1 (by decide) (by decide) (by decide) (by decide) ?_
    refine r_aload_n (pc := 246) X dX12_parseBehind_246 rfl ?_
    refine r_getR (q := (32, 0, 0)) (pc := 247) X ⟨(ltb rfl), (ltb rfl)⟩ fl_X12_29 rfl dX12_parseBehind_247 ?_
    refine r_sipush (pc := 250) X (v := 1898) dX12_parseBehind_250 (by decide) ?_
    refine r_aload_n (pc := 253) X dX12_parseBehind_253 rfl ?_
    refine r_iconst (pc := 254) X (v := 0) dX12_parseBehind_254 (by decide) ?_
    refine r_sipush (pc := 255) X (v := 999) dX12_parseBehind_255 (by decide) ?_
    refine bndE h (fun r47 M48 h49 h => ?_)
    refine r_callVi2 (pc := 258) X ⟨(ltb rfl), (ltb rfl)⟩ rfl vy_X12_readNumber my_X12_readNumber ml_X12_298 ⟨Nat.le_of_ble_eq_true rfl, Nat.le_of_ble_eq_true rfl, Nat.le_of_ble_eq_true rfl, Nat.le_of_ble_eq_true rfl⟩ (c_X12_readNumber  h49) (Nat.le_of_ble_eq_true rfl) dX12_parseBehind_258 ?_
    refine r_iastN (pc := 261) X (n := 2360) ⟨(ltb rfl), (ltb rfl)⟩ rfl (nlt rfl) dX12_parseBehind_261 h (fun M50 h => ?_)
    cases h
    exact r_vret (pc := 262) X hr dX12_parseBehind_262
  refine byc (x1 = 12) (fun hq => ?_) (fun hs12 => ?_)
  · refine r_swInE (pc := 1) X hq (off := 245) (tgt := 246) dX12_parseBehind_1 (by decide) (by decide) (by decide) (by decide) ?_
    refine r_aload_n (pc := 246) X dX12_parseBehind_246 rfl ?_
    refine r_getR (q := (32, 0, 0)) (pc := 247) X ⟨(ltb rfl), (ltb rfl)⟩ fl_X12_29 rfl dX12_parseBehind_247 ?_
    refine r_sipush (pc := 250) X (v := 1898) dX12_parseBehind_250 (by decide) ?_
    refine r_aload_n (pc := 253) X dX12_parseBehind_253 rfl ?_
    refine r_iconst (pc := 254) X (v := 0) dX12_parseBehind_254 (by decide) ?_
    refine r_sipush (pc := 255) X (v := 999) dX12_parseBehind_255 (by decide) ?_
    refine bndE h (fun r47 M48 h49 h => ?_)
    refine r_callVi2 (pc := 258) X ⟨(ltb rfl), (ltb rfl)⟩ rfl vy_X12_readNumber my_X12_readNumber ml_X12_298 ⟨Nat.le_of_ble_eq_true rfl, Nat.le_of_ble_eq_true rfl, Nat.le_of_ble_eq_true rfl, Nat.le_of_ble_eq_true rfl⟩ (c_X12_readNumber  h49) (Nat.le_of_ble_eq_true rfl) dX12_parseBehind_258 ?_
    refine r_iastN (pc := 261) X (n := 2360) ⟨(ltb rfl), (ltb rfl)⟩ rfl (nlt rfl) dX12_parseBehind_261 h (fun M50 h => ?_)
    cases h
    exact r_vret (pc := 262) X hr dX12_parseBehind_262
  refine byc (x1 = 13) (fun hq => ?_) (fun hs13 => ?_)
  · refine r_swInE (pc := 1) X hq (off := 245) (tgt := 246) dX12_parseBehind_1 (by decide) (by decide) (by decide) (by decide) ?_
    refine r_aload_n (pc := 246) X dX12_parseBehind_246 rfl ?_
    refine r_getR (q := (32, 0, 0)) (pc := 247) X ⟨(ltb rfl), (ltb rfl)⟩ fl_X12_29 rfl dX12_parseBehind_247 ?_
    refine r_sipush (pc := 250) X (v := 1898) dX12_parseBehind_250 (by decide) ?_
    refine r_aload_n (pc := 253) X dX12_parseBehind_253 rfl ?_
    refine r_iconst (pc := 254) X (v := 0) dX12_parseBehind_254 (by decide) ?_
    refine r_sipush (pc := 255) X (v := 999) dX12_parseBehind_255 (by decide) ?_
    refine bndE h (fun r47 M48 h49 h => ?_)
    refine r_callVi2 (pc := 258) X ⟨(ltb rfl), (ltb rfl)⟩ rfl vy_X12_readNumber my_X12_readNumber ml_X12_298 ⟨Nat.le_of_ble_eq_true rfl, Nat.le_of_ble_eq_true rfl, Nat.le_of_ble_eq_true rfl, Nat.le_of_ble_eq_true rfl⟩ (c_X12_readNumber  h49) (Nat.le_of_ble_eq_true rfl) dX12_parseBehind_258 ?_
    refine r_iastN (pc := 261) X (n := 2360) ⟨(ltb rfl), (ltb rfl)⟩ rfl (nlt rfl) dX12_parseBehind_261 h (fun M50 h => ?_)
    cases h
    exact r_vret (pc := 262) X hr dX12_parseBehind_262
  refine byc (x1 = 15) (fun hq => ?_) (fun hs15 => ?_)
  · refine r_swInE (pc := 1) X hq (off := 245) (tgt := 246) dX12_parseBehind_1 (by decide) (by decide) (by decide) (by decide) ?_
    refine r_aload_n (pc := 246) X dX12_parseBehind_246 rfl ?_
    refine r_getR (q := (32, 0, 0)) (pc := 247) X ⟨(ltb rfl), (ltb rfl)⟩ fl_X12_29 rfl dX12_parseBehind_247 ?_
    refine r_sipush (pc := 250) X (v := 1898) dX12_parseBehind_250 (by decide) ?_
    refine r_aload_n (pc := 253) X dX12_parseBehind_253 rfl ?_
    refine r_iconst (pc := 254) X (v := 0) dX12_parseBehind_254 (by decide) ?_
    refine r_sipush (pc := 255) X (v := 999) dX12_parseBehind_255 (by decide) ?_
    refine bndE h (fun r47 M48 h49 h => ?_)
    refine r_callVi2 (pc := 258) X ⟨(ltb rfl), (ltb rfl)⟩ rfl vy_X12_readNumber my_X12_readNumber ml_X12_298 ⟨Nat.le_of_ble_eq_true rfl, Nat.le_of_ble_eq_true rfl, Nat.le_of_ble_eq_true rfl, Nat.le_of_ble_eq_true rfl⟩ (c_X12_readNumber  h49) (Nat.le_of_ble_eq_true rfl) dX12_parseBehind_258 ?_
    refine r_iastN (pc := 261) X (n := 2360) ⟨(ltb rfl), (ltb rfl)⟩ rfl (nlt rfl) dX12_parseBehind_261 h (fun M50 h => ?_)
    cases h
    exact r_vret (pc := 262) X hr dX12_parseBehind_262
  refine byc (x1 = 16) (fun hq => ?_) (fun hs16 => ?_)
  · refine r_swInE (pc := 1) X hq (off := 245) (tgt := 246) dX12_parseBehind_1 (by decide) (by decide) (by decide) (by decide) ?_
    refine r_aload_n (pc := 246) X dX12_parseBehind_246 rfl ?_
    refine r_getR (q := (32, 0, 0)) (pc := 247) X ⟨(ltb rfl), (ltb rfl)⟩ fl_X12_29 rfl dX12_parseBehind_247 ?_
    refine r_sipush (pc := 250) X (v := 1898) dX12_parseBehind_250 (by decide) ?_
    refine r_aload_n (pc := 253) X dX12_parseBehind_253 rfl ?_
    refine r_iconst (pc := 254) X (v := 0) dX12_parseBehind_254 (by decide) ?_
    refine r_sipush (pc := 255) X (v := 999) dX12_parseBehind_255 (by decide) ?_
    refine bndE h (fun r47 M48 h49 h => ?_)
    refine r_callVi2 (pc := 258) X ⟨(ltb rfl), (ltb rfl)⟩ rfl vy_X12_readNumber my_X12_readNumber ml_X12_298 ⟨Nat.le_of_ble_eq_true rfl, Nat.le_of_ble_eq_true rfl, Nat.le_of_ble_eq_true rfl, Nat.le_of_ble_eq_true rfl⟩ (c_X12_readNumber  h49) (Nat.le_of_ble_eq_true rfl) dX12_parseBehind_258 ?_
    refine r_iastN (pc := 261) X (n := 2360) ⟨(ltb rfl), (ltb rfl)⟩ rfl (nlt rfl) dX12_parseBehind_261 h (fun M50 h => ?_)
    cases h
    exact r_vret (pc := 262) X hr dX12_parseBehind_262
  refine byc (x1 = 17) (fun hq => ?_) (fun hs17 => ?_)
  · refine r_swInE (pc := 1) X hq (off := 245) (tgt := 246) dX12_parseBehind_1 (by decide) (by decide) (by decide) (by decide) ?_
    refine r_aload_n (pc := 246) X dX12_parseBehind_246 rfl ?_
    refine r_getR (q := (32, 0, 0)) (pc := 247) X ⟨(ltb rfl), (ltb rfl)⟩ fl_X12_29 rfl dX12_parseBehind_247 ?_
    refine r_sipush (pc := 250) X (v := 1898) dX12_parseBehind_250 (by decide) ?_
    refine r_aload_n (pc := 253) X dX12_parseBehind_253 rfl ?_
    refine r_iconst (pc := 254) X (v := 0) dX12_parseBehind_254 (by decide) ?_
    refine r_sipush (pc := 255) X (v := 999) dX12_parseBehind_255 (by decide) ?_
    refine bndE h (fun r47 M48 h49 h => ?_)
    refine r_callVi2 (pc := 258) X ⟨(ltb rfl), (ltb rfl)⟩ rfl vy_X12_readNumber my_X12_readNumber ml_X12_298 ⟨Nat.le_of_ble_eq_true rfl, Nat.le_of_ble_eq_true rfl, Nat.le_of_ble_eq_true rfl, Nat.le_of_ble_eq_true rfl⟩ (c_X12_readNumber  h49) (Nat.le_of_ble_eq_true rfl) dX12_parseBehind_258 ?_
    refine r_iastN (pc := 261) X (n := 2360) ⟨(ltb rfl), (ltb rfl)⟩ rfl (nlt rfl) dX12_parseBehind_261 h (fun M50 h => ?_)
    cases h
    exact r_vret (pc := 262) X hr dX12_parseBehind_262
  refine byc (x1 = 18) (fun hq => ?_) (fun hs18 => ?_)
  · refine r_swInE (pc := 1) X hq (off := 245) (tgt := 246) dX12_parseBehind_1 (by decide) (by decide) (by decide) (by decide) ?_
    refine r_aload_n (pc := 246) X dX12_parseBehind_246 rfl ?_
    refine r_getR (q := (32, 0, 0)) (pc := 247) X ⟨(ltb rfl), (ltb rfl)⟩ fl_X12_29 rfl dX12_parseBehind_247 ?_
    refine r_sipush (pc := 250) X (v := 1898) dX12_parseBehind_250 (by decide) ?_
    refine r_aload_n (pc := 253) X dX12_parseBehind_253 rfl ?_
    refine r_iconst (pc := 254) X (v := 0) dX12_parseBehind_254 (by decide) ?_
    refine r_sipush (pc := 255) X (v := 999) dX12_parseBehind_255 (by decide) ?_
    refine bndE h (fun r47 M48 h49 h => ?_)
    refine r_callVi2 (pc := 258) X ⟨(ltb rfl), (ltb rfl)⟩ rfl vy_X12_readNumber my_X12_readNumber ml_X12_298 ⟨Nat.le_of_ble_eq_true rfl, Nat.le_of_ble_eq_true rfl, Nat.le_of_ble_eq_true rfl, Nat.le_of_ble_eq_true rfl⟩ (c_X12_readNumber  h49) (Nat.le_of_ble_eq_true rfl) dX12_parseBehind_258 ?_
    refine r_iastN (pc := 261) X (n := 2360) ⟨(ltb rfl), (ltb rfl)⟩ rfl (nlt rfl) dX12_parseBehind_261 h (fun M50 h => ?_)
    cases h
    exact r_vret (pc := 262) X hr dX12_parseBehind_262
  refine byc (x1 = 20) (fun hq => ?_) (fun hs20 => ?_)
  · refine r_swInE (pc := 1) X hq (off := 245) (tgt := 246) dX12_parseBehind_1 (by decide) (by decide) (by decide) (by decide) ?_
    refine r_aload_n (pc := 246) X dX12_parseBehind_246 rfl ?_
    refine r_getR (q := (32, 0, 0)) (pc := 247) X ⟨(ltb rfl), (ltb rfl)⟩ fl_X12_29 rfl dX12_parseBehind_247 ?_
    refine r_sipush (pc := 250) X (v := 1898) dX12_parseBehind_250 (by decide) ?_
    refine r_aload_n (pc := 253) X dX12_parseBehind_253 rfl ?_
    refine r_iconst (pc := 254) X (v := 0) dX12_parseBehind_254 (by decide) ?_
    refine r_sipush (pc := 255) X (v := 999) dX12_parseBehind_255 (by decide) ?_
    refine bndE h (fun r47 M48 h49 h => ?_)
    refine r_callVi2 (pc := 258) X ⟨(ltb rfl), (ltb rfl)⟩ rfl vy_X12_readNumber my_X12_readNumber ml_X12_298 ⟨Nat.le_of_ble_eq_true rfl, Nat.le_of_ble_eq_true rfl, Nat.le_of_ble_eq_true rfl, Nat.le_of_ble_eq_true rfl⟩ (c_X12_readNumber  h49) (Nat.le_of_ble_eq_true rfl) dX12_parseBehind_258 ?_
    refine r_iastN (pc := 261) X (n := 2360) ⟨(ltb rfl), (ltb rfl)⟩ rfl (nlt rfl) dX12_parseBehind_261 h (fun M50 h => ?_)
    cases h
    exact r_vret (pc := 262) X hr dX12_parseBehind_262
  refine byc (x1 = 21) (fun hq => ?_) (fun hs21 => ?_)
  · refine r_swInE (pc := 1) X hq (off := 245) (tgt := 246) dX12_parseBehind_1 (by decide) (by decide) (by decide) (by decide) ?_
    refine r_aload_n (pc := 246) X dX12_parseBehind_246 rfl ?_
    refine r_getR (q := (32, 0, 0)) (pc := 247) X ⟨(ltb rfl), (ltb rfl)⟩ fl_X12_29 rfl dX12_parseBehind_247 ?_
    refine r_sipush (pc := 250) X (v := 1898) dX12_parseBehind_250 (by decide) ?_
    refine r_aload_n (pc := 253) X dX12_parseBehind_253 rfl ?_
    refine r_iconst (pc := 254) X (v := 0) dX12_parseBehind_254 (by decide) ?_
    refine r_sipush (pc := 255) X (v := 999) dX12_parseBehind_255 (by decide) ?_
    refine bndE h (fun r47 M48 h49 h => ?_)
    refine r_callVi2 (pc := 258) X ⟨(ltb rfl), (ltb rfl)⟩ rfl vy_X12_readNumber my_X12_readNumber ml_X12_298 ⟨Nat.le_of_ble_eq_true rfl, Nat.le_of_ble_eq_true rfl, Nat.le_of_ble_eq_true rfl, Nat.le_of_ble_eq_true rfl⟩ (c_X12_readNumber  h49) (Nat.le_of_ble_eq_true rfl) dX12_parseBehind_258 ?_
    refine r_iastN (pc := 261) X (n := 2360) ⟨(ltb rfl), (ltb rfl)⟩ rfl (nlt rfl) dX12_parseBehind_261 h (fun M50 h => ?_)
    cases h
    exact r_vret (pc := 262) X hr dX12_parseBehind_262
  · refine r_swOut (pc := 1) X (tgt := 246) dX12_parseBehind_1 (by have z0 := lv_neT (a := 0) hs0 (by decide); have z6 := lv_neT (a := 6) hs6 (by decide); have z7 := lv_neT (a := 7) hs7 (by decide); have z8 := lv_neT (a := 8) hs8 (by decide); have z9 := lv_neT (a := 9) hs9 (by decide); have z10 := lv_neT (a := 10) hs10 (by decide); have z11 := lv_neT (a := 11) hs11 (by decide); have z14 := lv_neT (a := 14) hs14 (by decide); have z19 := lv_neT (a := 19) hs19 (by decide); have z22 := lv_neT (a := 22) hs22 (by decide); have z1 := lv_neT (a := 1) hs1 (by decide); have z2 := lv_neT (a := 2) hs2 (by decide); have z3 := lv_neT (a := 3) hs3 (by decide); have z4 := lv_neT (a := 4) hs4 (by decide); have z5 := lv_neT (a := 5) hs5 (by decide); have z12 := lv_neT (a := 12) hs12 (by decide); have z13 := lv_neT (a := 13) hs13 (by decide); have z15 := lv_neT (a := 15) hs15 (by decide); have z16 := lv_neT (a := 16) hs16 (by decide); have z17 := lv_neT (a := 17) hs17 (by decide); have z18 := lv_neT (a := 18) hs18 (by decide); have z20 := lv_neT (a := 20) hs20 (by decide); have z21 := lv_neT (a := 21) hs21 (by decide); omega) (by decide) ?_
    refine r_aload_n (pc := 246) X dX12_parseBehind_246 rfl ?_
    refine r_getR (q := (32, 0, 0)) (pc := 247) X ⟨(ltb rfl), (ltb rfl)⟩ fl_X12_29 rfl dX12_parseBehind_247 ?_
    refine r_sipush (pc := 250) X (v := 1898) dX12_parseBehind_250 (by decide) ?_
    refine r_aload_n (pc := 253) X dX12_parseBehind_253 rfl ?_
    refine r_iconst (pc := 254) X (v := 0) dX12_parseBehind_254 (by decide) ?_
    refine r_sipush (pc := 255) X (v := 999) dX12_parseBehind_255 (by decide) ?_
    refine bndE h (fun r47 M48 h49 h => ?_)
    refine r_callVi2 (pc := 258) X ⟨(ltb rfl), (ltb rfl)⟩ rfl vy_X12_readNumber my_X12_readNumber ml_X12_298 ⟨Nat.le_of_ble_eq_true rfl, Nat.le_of_ble_eq_true rfl, Nat.le_of_ble_eq_true rfl, Nat.le_of_ble_eq_true rfl⟩ (c_X12_readNumber  h49) (Nat.le_of_ble_eq_true rfl) dX12_parseBehind_258 ?_
    refine r_iastN (pc := 261) X (n := 2360) ⟨(ltb rfl), (ltb rfl)⟩ rfl (nlt rfl) dX12_parseBehind_261 h (fun M50 h => ?_)
    cases h
    exact r_vret (pc := 262) X hr dX12_parseBehind_262
theorem c_X12_parseBehind {G : GG} {l : Launch} {x1 : Int32} {r : Unit} {M M' : Mem}  (h : f_X12_parseBehind x1 M = some (r, M')) : Met l yX12_parseBehind (wsO yX12_parseBehind cX12_parseBehind 2 none) (rmO 7) (PcO G [.ref (G.2.1 (10, 0, 0)), .int x1] M) (QvO G (AA G) M') 0 0 (AA G) :=
  met_of (own := RX12) rfl (by decide +kernel) (Nat.le_of_ble_eq_true rfl) (fun p e s m args below meth c X hr => t_X12_parseBehind X hr  h)
-- ConverterScannerModel.parseStatement
def f_X12_parseStatement_50 (x1 : Int32) (M : Mem) : Option (Unit × Mem) :=
  if bad x1 25 then none else nm (uI M (36, 0, 0) (Int32.toNatClampNeg x1) (1 &&& 1)) (fun M1 => bnd (f_X12_ok  M1) (fun r2 M3 => if r2 = 0 then some ((), M3) else bnd (f_X12_next  M3) (fun r5 M6 => bnd (f_X12_parseBehind x1 M6) (fun r8 M9 => bnd (f_X12_ok  M9) (fun r11 M12 => if r11 = 0 then some ((), M12) else bnd (f_X12_isSign 59 M12) (fun r14 M15 => if r14 = 0 then bnd (f_X12_fail 1 M15) (fun r17 M18 => some ((), M18)) else bnd (f_X12_next  M15) (fun r20 M21 => some ((), M21))))))))
set_option maxHeartbeats 4000000 in
set_option maxRecDepth 100000 in
theorem t_X12_parseStatement_50 {G : GG} {A : Nat → Prop} {p : Program} {l : Launch} {e : Env} {s : State} {m : MethodId} {args : Array Value} {below : List Frame} {meth : Method} {c : Code} {r : Unit} {M' : Mem} (X : Cx G A p s m args meth c RX12 cX12_parseStatement 2) (hr : meth.sig.returnType = none) {x1 : Int32} {M : Mem}  (h : f_X12_parseStatement_50 x1 M = some (r, M')) : T G A p l e (rmO 8) s m args below meth c 2 0 0 (MQ below (QvO G A M') args s 0 0 A) 50 [(0, .ref (G.2.1 (10, 0, 0))), (1, .int x1)] [] M := by
  unfold f_X12_parseStatement_50 at h
  refine r_aload_n (pc := 50) X dX12_parseStatement_50 rfl ?_
  refine r_getR (q := (36, 0, 0)) (pc := 51) X ⟨(ltb rfl), (ltb rfl)⟩ fl_X12_140 rfl dX12_parseStatement_51 ?_
  refine r_iload_n (pc := 54) X dX12_parseStatement_54 rfl ?_
  refine r_iconst (pc := 55) X (v := 1) dX12_parseStatement_55 (by decide) ?_
  refine r_zastN (pc := 56) X (n := 25) ⟨(ltb rfl), (ltb rfl)⟩ rfl (nlt rfl) dX12_parseStatement_56 h (fun M1 h => ?_)
  refine r_aload_n (pc := 57) X dX12_parseStatement_57 rfl ?_
  refine bndE h (fun r2 M3 h4 h => ?_)
  refine r_callVi0 (pc := 58) X ⟨(ltb rfl), (ltb rfl)⟩ rfl vy_X12_ok my_X12_ok ml_X12_279 ⟨Nat.le_of_ble_eq_true rfl, Nat.le_of_ble_eq_true rfl, Nat.le_of_ble_eq_true rfl, Nat.le_of_ble_eq_true rfl⟩ (c_X12_ok  h4) (Nat.le_of_ble_eq_true rfl) dX12_parseStatement_58 ?_
  refine r_if_ne (pc := 61) X (tgt := 65) dX12_parseStatement_61 (by decide) h (fun h => ?_) (fun h => ?_)
  · refine r_aload_n (pc := 65) X dX12_parseStatement_65 rfl ?_
    refine bndE h (fun r5 M6 h7 h => ?_)
    refine r_callVv0 (pc := 66) X ⟨(ltb rfl), (ltb rfl)⟩ rfl vy_X12_next my_X12_next ml_X12_286 ⟨Nat.le_of_ble_eq_true rfl, Nat.le_of_ble_eq_true rfl, Nat.le_of_ble_eq_true rfl, Nat.le_of_ble_eq_true rfl⟩ (c_X12_next  h7) (Nat.le_of_ble_eq_true rfl) dX12_parseStatement_66 ?_
    refine r_aload_n (pc := 69) X dX12_parseStatement_69 rfl ?_
    refine r_iload_n (pc := 70) X dX12_parseStatement_70 rfl ?_
    refine bndE h (fun r8 M9 h10 h => ?_)
    refine r_callVv1 (pc := 71) X ⟨(ltb rfl), (ltb rfl)⟩ rfl vy_X12_parseBehind my_X12_parseBehind ml_X12_342 ⟨Nat.le_of_ble_eq_true rfl, Nat.le_of_ble_eq_true rfl, Nat.le_of_ble_eq_true rfl, Nat.le_of_ble_eq_true rfl⟩ (c_X12_parseBehind  h10) (Nat.le_of_ble_eq_true rfl) dX12_parseStatement_71 ?_
    refine r_aload_n (pc := 74) X dX12_parseStatement_74 rfl ?_
    refine bndE h (fun r11 M12 h13 h => ?_)
    refine r_callVi0 (pc := 75) X ⟨(ltb rfl), (ltb rfl)⟩ rfl vy_X12_ok my_X12_ok ml_X12_279 ⟨Nat.le_of_ble_eq_true rfl, Nat.le_of_ble_eq_true rfl, Nat.le_of_ble_eq_true rfl, Nat.le_of_ble_eq_true rfl⟩ (c_X12_ok  h13) (Nat.le_of_ble_eq_true rfl) dX12_parseStatement_75 ?_
    refine r_if_ne (pc := 78) X (tgt := 82) dX12_parseStatement_78 (by decide) h (fun h => ?_) (fun h => ?_)
    · refine r_aload_n (pc := 82) X dX12_parseStatement_82 rfl ?_
      refine r_bipush (pc := 83) X (v := 59) dX12_parseStatement_83 (by decide) ?_
      refine bndE h (fun r14 M15 h16 h => ?_)
      refine r_callVi1 (pc := 85) X ⟨(ltb rfl), (ltb rfl)⟩ rfl vy_X12_isSign my_X12_isSign ml_X12_295 ⟨Nat.le_of_ble_eq_true rfl, Nat.le_of_ble_eq_true rfl, Nat.le_of_ble_eq_true rfl, Nat.le_of_ble_eq_true rfl⟩ (c_X12_isSign  h16) (Nat.le_of_ble_eq_true rfl) dX12_parseStatement_85 ?_
      refine r_if_eq (pc := 88) X (tgt := 98) dX12_parseStatement_88 (by decide) h (fun h => ?_) (fun h => ?_)
      · refine r_aload_n (pc := 98) X dX12_parseStatement_98 rfl ?_
        refine r_iconst (pc := 99) X (v := 1) dX12_parseStatement_99 (by decide) ?_
        refine bndE h (fun r17 M18 h19 h => ?_)
        refine r_callVv1 (pc := 100) X ⟨(ltb rfl), (ltb rfl)⟩ rfl vy_X12_fail my_X12_fail ml_X12_292 ⟨Nat.le_of_ble_eq_true rfl, Nat.le_of_ble_eq_true rfl, Nat.le_of_ble_eq_true rfl, Nat.le_of_ble_eq_true rfl⟩ (c_X12_fail  h19) (Nat.le_of_ble_eq_true rfl) dX12_parseStatement_100 ?_
        cases h
        exact r_vret (pc := 103) X hr dX12_parseStatement_103
      · refine r_aload_n (pc := 91) X dX12_parseStatement_91 rfl ?_
        refine bndE h (fun r20 M21 h22 h => ?_)
        refine r_callVv0 (pc := 92) X ⟨(ltb rfl), (ltb rfl)⟩ rfl vy_X12_next my_X12_next ml_X12_286 ⟨Nat.le_of_ble_eq_true rfl, Nat.le_of_ble_eq_true rfl, Nat.le_of_ble_eq_true rfl, Nat.le_of_ble_eq_true rfl⟩ (c_X12_next  h22) (Nat.le_of_ble_eq_true rfl) dX12_parseStatement_92 ?_
        refine r_goto (pc := 95) X (tgt := 103) dX12_parseStatement_95 (by decide) ?_
        cases h
        exact r_vret (pc := 103) X hr dX12_parseStatement_103
    · cases h
      exact r_vret (pc := 81) X hr dX12_parseStatement_81
  · cases h
    exact r_vret (pc := 64) X hr dX12_parseStatement_64
def f_X12_parseStatement  (M : Mem) : Option (Unit × Mem) :=
  if (M.1 (10, 0, 0) 11) = 1 then bnd (f_X12_isStatement (M.1 (10, 0, 0) 15) M) (fun r4 M5 => if r4 = 0 then bnd (f_X12_fail 1 M5) (fun r14 M15 => some ((), M15)) else nm (M5.1 (10, 0, 0) 15) (fun e7 => if bad e7 25 then none else if (M5.1 (36, 0, 0) (Int32.toNatClampNeg e7)) = 0 then f_X12_parseStatement_50 e7 M5 else bnd (f_X12_isManyTimes e7 M5) (fun r8 M9 => if r8 = 0 then bnd (f_X12_fail 3 M9) (fun r11 M12 => f_X12_parseStatement_50 e7 M12) else f_X12_parseStatement_50 e7 M9))) else bnd (f_X12_fail 1 M) (fun r1 M2 => some ((), M2))
set_option maxHeartbeats 4000000 in
set_option maxRecDepth 100000 in
theorem t_X12_parseStatement {G : GG} {A : Nat → Prop} {p : Program} {l : Launch} {e : Env} {s : State} {m : MethodId} {args : Array Value} {below : List Frame} {meth : Method} {c : Code} {r : Unit} {M' : Mem} (X : Cx G A p s m args meth c RX12 cX12_parseStatement 2) (hr : meth.sig.returnType = none) {M : Mem}  (h : f_X12_parseStatement M = some (r, M')) : T G A p l e (rmO 8) s m args below meth c 2 0 0 (MQ below (QvO G A M') args s 0 0 A) 0 [(0, .ref (G.2.1 (10, 0, 0)))] [] M := by
  unfold f_X12_parseStatement at h
  refine r_aload_n (pc := 0) X dX12_parseStatement_0 rfl ?_
  refine r_getI (pc := 1) X ⟨(ltb rfl), (ltb rfl)⟩ fl_X12_119 rfl dX12_parseStatement_1 ?_
  refine r_iconst (pc := 4) X (v := 1) dX12_parseStatement_4 (by decide) ?_
  refine r_icmp_ne (pc := 5) X (tgt := 18) dX12_parseStatement_5 (by decide) h (fun h => ?_) (fun h => ?_)
  · refine r_aload_n (pc := 18) X dX12_parseStatement_18 rfl ?_
    refine r_iconst (pc := 19) X (v := 1) dX12_parseStatement_19 (by decide) ?_
    refine bndE h (fun r1 M2 h3 h => ?_)
    refine r_callVv1 (pc := 20) X ⟨(ltb rfl), (ltb rfl)⟩ rfl vy_X12_fail my_X12_fail ml_X12_292 ⟨Nat.le_of_ble_eq_true rfl, Nat.le_of_ble_eq_true rfl, Nat.le_of_ble_eq_true rfl, Nat.le_of_ble_eq_true rfl⟩ (c_X12_fail  h3) (Nat.le_of_ble_eq_true rfl) dX12_parseStatement_20 ?_
    cases h
    exact r_vret (pc := 23) X hr dX12_parseStatement_23
  · refine r_aload_n (pc := 8) X dX12_parseStatement_8 rfl ?_
    refine r_getI (pc := 9) X ⟨(ltb rfl), (ltb rfl)⟩ fl_X12_131 rfl dX12_parseStatement_9 ?_
    refine bndE h (fun r4 M5 h6 h => ?_)
    refine r_callSi1 (pc := 12) X sy_X12_isStatement my_X12_isStatement ml_X12_336 ⟨Nat.le_of_ble_eq_true rfl, Nat.le_of_ble_eq_true rfl, Nat.le_of_ble_eq_true rfl, Nat.le_of_ble_eq_true rfl⟩ (c_X12_isStatement  h6) (Nat.le_of_ble_eq_true rfl) dX12_parseStatement_12 ?_
    refine r_if_ne (pc := 15) X (tgt := 24) dX12_parseStatement_15 (by decide) h (fun h => ?_) (fun h => ?_)
    · refine r_aload_n (pc := 24) X dX12_parseStatement_24 rfl ?_
      refine r_getI (pc := 25) X ⟨(ltb rfl), (ltb rfl)⟩ fl_X12_131 rfl dX12_parseStatement_25 ?_
      refine r_istore_nN (pc := 28) X (by decide) dX12_parseStatement_28 h (fun e7 h => ?_)
      refine r_aload_n (pc := 29) X dX12_parseStatement_29 rfl ?_
      refine r_getR (q := (36, 0, 0)) (pc := 30) X ⟨(ltb rfl), (ltb rfl)⟩ fl_X12_140 rfl dX12_parseStatement_30 ?_
      refine r_iload_n (pc := 33) X dX12_parseStatement_33 rfl ?_
      refine r_zald (pc := 34) X (n := 25) ⟨(ltb rfl), (ltb rfl)⟩ rfl (nlt rfl) dX12_parseStatement_34 h (fun h => ?_)
      refine r_if_eq (pc := 35) X (tgt := 50) dX12_parseStatement_35 (by decide) h (fun h => ?_) (fun h => ?_)
      · exact T_sub (t_X12_parseStatement_50 X hr h) ⟨rfl, rfl, trivial⟩
      · refine r_iload_n (pc := 38) X dX12_parseStatement_38 rfl ?_
        refine bndE h (fun r8 M9 h10 h => ?_)
        refine r_callSi1 (pc := 39) X sy_X12_isManyTimes my_X12_isManyTimes ml_X12_339 ⟨Nat.le_of_ble_eq_true rfl, Nat.le_of_ble_eq_true rfl, Nat.le_of_ble_eq_true rfl, Nat.le_of_ble_eq_true rfl⟩ (c_X12_isManyTimes  h10) (Nat.le_of_ble_eq_true rfl) dX12_parseStatement_39 ?_
        refine r_if_ne (pc := 42) X (tgt := 50) dX12_parseStatement_42 (by decide) h (fun h => ?_) (fun h => ?_)
        · exact T_sub (t_X12_parseStatement_50 X hr h) ⟨rfl, rfl, trivial⟩
        · refine r_aload_n (pc := 45) X dX12_parseStatement_45 rfl ?_
          refine r_iconst (pc := 46) X (v := 3) dX12_parseStatement_46 (by decide) ?_
          refine bndE h (fun r11 M12 h13 h => ?_)
          refine r_callVv1 (pc := 47) X ⟨(ltb rfl), (ltb rfl)⟩ rfl vy_X12_fail my_X12_fail ml_X12_292 ⟨Nat.le_of_ble_eq_true rfl, Nat.le_of_ble_eq_true rfl, Nat.le_of_ble_eq_true rfl, Nat.le_of_ble_eq_true rfl⟩ (c_X12_fail  h13) (Nat.le_of_ble_eq_true rfl) dX12_parseStatement_47 ?_
          exact T_sub (t_X12_parseStatement_50 X hr h) ⟨rfl, rfl, trivial⟩
    · refine r_aload_n (pc := 18) X dX12_parseStatement_18 rfl ?_
      refine r_iconst (pc := 19) X (v := 1) dX12_parseStatement_19 (by decide) ?_
      refine bndE h (fun r14 M15 h16 h => ?_)
      refine r_callVv1 (pc := 20) X ⟨(ltb rfl), (ltb rfl)⟩ rfl vy_X12_fail my_X12_fail ml_X12_292 ⟨Nat.le_of_ble_eq_true rfl, Nat.le_of_ble_eq_true rfl, Nat.le_of_ble_eq_true rfl, Nat.le_of_ble_eq_true rfl⟩ (c_X12_fail  h16) (Nat.le_of_ble_eq_true rfl) dX12_parseStatement_20 ?_
      cases h
      exact r_vret (pc := 23) X hr dX12_parseStatement_23
theorem c_X12_parseStatement {G : GG} {l : Launch} {r : Unit} {M M' : Mem}  (h : f_X12_parseStatement  M = some (r, M')) : Met l yX12_parseStatement (wsO yX12_parseStatement cX12_parseStatement 2 none) (rmO 8) (PcO G [.ref (G.2.1 (10, 0, 0))] M) (QvO G (AA G) M') 0 0 (AA G) :=
  met_of (own := RX12) rfl (by decide +kernel) (Nat.le_of_ble_eq_true rfl) (fun p e s m args below meth c X hr => t_X12_parseStatement X hr  h)
-- ConverterScannerModel.setup
def f_X12_setup_147 : Nat → Int32 → Int32 → Mem → Option (Int32 × Mem)
  | 0 => fun _ _ _ => none
  | n + 1 => fun x1 x2 M => if 52 ≤ x2 then bnd (f_X12_copyBlock 4 0 M) (fun r1 M2 => if bad 0 2 then none else nm (uI M2 (34, 0, 0) (Int32.toNatClampNeg 0) (0 &&& 1)) (fun M4 => if bad 1 2 then none else nm (uI M4 (34, 0, 0) (Int32.toNatClampNeg 1) (0 &&& 1)) (fun M5 => some (x1, M5)))) else if bad (52 + x2) 104 then none else if bad x2 104 then none else nm (uI M (31, 0, 0) (Int32.toNatClampNeg x2) (M.1 (31, 0, 0) (Int32.toNatClampNeg (52 + x2)))) (fun M6 => nm (x2 + 1) (fun e7 => (f_X12_setup_147 n) x1 e7 M6))
set_option maxHeartbeats 4000000 in
set_option maxRecDepth 100000 in
theorem t_X12_setup_147 {G : GG} {A : Nat → Prop} {p : Program} {l : Launch} {e : Env} {s : State} {m : MethodId} {args : Array Value} {below : List Frame} {meth : Method} {c : Code} {r : Int32} {M' : Mem} (X : Cx G A p s m args meth c RX12 cX12_setup 3) (hr : meth.sig.returnType = some .int) : ∀ (n : Nat) (x1 : Int32) (x2 : Int32) (M : Mem), f_X12_setup_147 n x1 x2 M = some (r, M') → T G A p l e (rmO 9) s m args below meth c 3 0 0 (MQ below (QiO G A r M') args s 0 0 A) 147 [(0, .ref (G.2.1 (10, 0, 0))), (1, .int x1), (2, .int x2)] [] M := by
  intro n
  induction n with
  | zero =>
    intro x1 x2 M  h
    cases h
  | succ n ih =>
    intro x1 x2 M  h
    unfold f_X12_setup_147 at h
    refine r_iload_n (pc := 147) X dX12_setup_147 rfl ?_
    refine r_bipush (pc := 148) X (v := 52) dX12_setup_148 (by decide) ?_
    refine r_icmp_ge (pc := 150) X (tgt := 174) dX12_setup_150 (by decide) h (fun h => ?_) (fun h => ?_)
    · refine r_aload_n (pc := 174) X dX12_setup_174 rfl ?_
      refine r_iconst (pc := 175) X (v := 4) dX12_setup_175 (by decide) ?_
      refine r_iconst (pc := 176) X (v := 0) dX12_setup_176 (by decide) ?_
      refine bndE h (fun r1 M2 h3 h => ?_)
      refine r_callVv2 (pc := 177) X ⟨(ltb rfl), (ltb rfl)⟩ rfl vy_X12_copyBlock my_X12_copyBlock ml_X12_248 ⟨Nat.le_of_ble_eq_true rfl, Nat.le_of_ble_eq_true rfl, Nat.le_of_ble_eq_true rfl, Nat.le_of_ble_eq_true rfl⟩ (c_X12_copyBlock  h3) (Nat.le_of_ble_eq_true rfl) dX12_setup_177 ?_
      refine r_aload_n (pc := 180) X dX12_setup_180 rfl ?_
      refine r_getR (q := (34, 0, 0)) (pc := 181) X ⟨(ltb rfl), (ltb rfl)⟩ fl_X12_56 rfl dX12_setup_181 ?_
      refine r_iconst (pc := 184) X (v := 0) dX12_setup_184 (by decide) ?_
      refine r_iconst (pc := 185) X (v := 0) dX12_setup_185 (by decide) ?_
      refine r_zastN (pc := 186) X (n := 2) ⟨(ltb rfl), (ltb rfl)⟩ rfl (nlt rfl) dX12_setup_186 h (fun M4 h => ?_)
      refine r_aload_n (pc := 187) X dX12_setup_187 rfl ?_
      refine r_getR (q := (34, 0, 0)) (pc := 188) X ⟨(ltb rfl), (ltb rfl)⟩ fl_X12_56 rfl dX12_setup_188 ?_
      refine r_iconst (pc := 191) X (v := 1) dX12_setup_191 (by decide) ?_
      refine r_iconst (pc := 192) X (v := 0) dX12_setup_192 (by decide) ?_
      refine r_zastN (pc := 193) X (n := 2) ⟨(ltb rfl), (ltb rfl)⟩ rfl (nlt rfl) dX12_setup_193 h (fun M5 h => ?_)
      refine r_iload_n (pc := 194) X dX12_setup_194 rfl ?_
      cases h
      exact r_iret (pc := 195) X hr dX12_setup_195
    · refine r_aload_n (pc := 153) X dX12_setup_153 rfl ?_
      refine r_getR (q := (31, 0, 0)) (pc := 154) X ⟨(ltb rfl), (ltb rfl)⟩ fl_X12_26 rfl dX12_setup_154 ?_
      refine r_iload_n (pc := 157) X dX12_setup_157 rfl ?_
      refine r_aload_n (pc := 158) X dX12_setup_158 rfl ?_
      refine r_getR (q := (31, 0, 0)) (pc := 159) X ⟨(ltb rfl), (ltb rfl)⟩ fl_X12_26 rfl dX12_setup_159 ?_
      refine r_bipush (pc := 162) X (v := 52) dX12_setup_162 (by decide) ?_
      refine r_iload_n (pc := 164) X dX12_setup_164 rfl ?_
      refine r_iadd (pc := 165) X dX12_setup_165 ?_
      refine r_iald (pc := 166) X (n := 104) ⟨(ltb rfl), (ltb rfl)⟩ rfl (nlt rfl) dX12_setup_166 h (fun h => ?_)
      refine r_iastN (pc := 167) X (n := 104) ⟨(ltb rfl), (ltb rfl)⟩ rfl (nlt rfl) dX12_setup_167 h (fun M6 h => ?_)
      refine r_iincN (pc := 168) X (v0 := 1) rfl (by decide) (by decide) dX12_setup_168 h (fun e7 h => ?_)
      refine r_goto (pc := 171) X (tgt := 147) dX12_setup_171 (by decide) ?_
      exact T_sub (ih _ _ _ h) ⟨rfl, rfl, rfl, trivial⟩
def f_X12_setup_136 (x1 : Int32) (M : Mem) : Option (Int32 × Mem) :=
  bnd (f_X12_ok  M) (fun r1 M2 => if r1 = 0 then some ((-1), M2) else f_X12_setup_147 fuelN x1 0 M2)
set_option maxHeartbeats 4000000 in
set_option maxRecDepth 100000 in
theorem t_X12_setup_136 {G : GG} {A : Nat → Prop} {p : Program} {l : Launch} {e : Env} {s : State} {m : MethodId} {args : Array Value} {below : List Frame} {meth : Method} {c : Code} {r : Int32} {M' : Mem} (X : Cx G A p s m args meth c RX12 cX12_setup 3) (hr : meth.sig.returnType = some .int) {x1 : Int32} {M : Mem}  (h : f_X12_setup_136 x1 M = some (r, M')) : T G A p l e (rmO 9) s m args below meth c 3 0 0 (MQ below (QiO G A r M') args s 0 0 A) 136 [(0, .ref (G.2.1 (10, 0, 0))), (1, .int x1)] [] M := by
  unfold f_X12_setup_136 at h
  refine r_aload_n (pc := 136) X dX12_setup_136 rfl ?_
  refine bndE h (fun r1 M2 h3 h => ?_)
  refine r_callVi0 (pc := 137) X ⟨(ltb rfl), (ltb rfl)⟩ rfl vy_X12_ok my_X12_ok ml_X12_279 ⟨Nat.le_of_ble_eq_true rfl, Nat.le_of_ble_eq_true rfl, Nat.le_of_ble_eq_true rfl, Nat.le_of_ble_eq_true rfl⟩ (c_X12_ok  h3) (Nat.le_of_ble_eq_true rfl) dX12_setup_137 ?_
  refine r_if_ne (pc := 140) X (tgt := 145) dX12_setup_140 (by decide) h (fun h => ?_) (fun h => ?_)
  · refine r_iconst (pc := 145) X (v := 0) dX12_setup_145 (by decide) ?_
    refine r_istore_n (pc := 146) X (by decide) dX12_setup_146 ?_
    exact T_sub (t_X12_setup_147 X hr _ _ _ _ h) ⟨rfl, rfl, rfl, trivial⟩
  · refine r_iconst (pc := 143) X (v := (-1)) dX12_setup_143 (by decide) ?_
    cases h
    exact r_iret (pc := 144) X hr dX12_setup_144
def f_X12_setup_112 : Nat → Int32 → Mem → Option (Int32 × Mem)
  | 0 => fun _ _ => none
  | n + 1 => fun x1 M => bnd (f_X12_ok  M) (fun r1 M2 => if r1 = 0 then f_X12_setup_136 x1 M2 else if (M2.1 (10, 0, 0) 11) = 0 then f_X12_setup_136 x1 M2 else bnd (f_X12_parseStatement  M2) (fun r4 M5 => nm (x1 + 1) (fun e7 => (f_X12_setup_112 n) e7 M5)))
set_option maxHeartbeats 4000000 in
set_option maxRecDepth 100000 in
theorem t_X12_setup_112 {G : GG} {A : Nat → Prop} {p : Program} {l : Launch} {e : Env} {s : State} {m : MethodId} {args : Array Value} {below : List Frame} {meth : Method} {c : Code} {r : Int32} {M' : Mem} (X : Cx G A p s m args meth c RX12 cX12_setup 3) (hr : meth.sig.returnType = some .int) : ∀ (n : Nat) (x1 : Int32) (M : Mem), f_X12_setup_112 n x1 M = some (r, M') → T G A p l e (rmO 9) s m args below meth c 3 0 0 (MQ below (QiO G A r M') args s 0 0 A) 112 [(0, .ref (G.2.1 (10, 0, 0))), (1, .int x1)] [] M := by
  intro n
  induction n with
  | zero =>
    intro x1 M  h
    cases h
  | succ n ih =>
    intro x1 M  h
    unfold f_X12_setup_112 at h
    refine r_aload_n (pc := 112) X dX12_setup_112 rfl ?_
    refine bndE h (fun r1 M2 h3 h => ?_)
    refine r_callVi0 (pc := 113) X ⟨(ltb rfl), (ltb rfl)⟩ rfl vy_X12_ok my_X12_ok ml_X12_279 ⟨Nat.le_of_ble_eq_true rfl, Nat.le_of_ble_eq_true rfl, Nat.le_of_ble_eq_true rfl, Nat.le_of_ble_eq_true rfl⟩ (c_X12_ok  h3) (Nat.le_of_ble_eq_true rfl) dX12_setup_113 ?_
    refine r_if_eq (pc := 116) X (tgt := 136) dX12_setup_116 (by decide) h (fun h => ?_) (fun h => ?_)
    · exact T_sub (t_X12_setup_136 X hr h) ⟨rfl, rfl, trivial⟩
    · refine r_aload_n (pc := 119) X dX12_setup_119 rfl ?_
      refine r_getI (pc := 120) X ⟨(ltb rfl), (ltb rfl)⟩ fl_X12_119 rfl dX12_setup_120 ?_
      refine r_if_eq (pc := 123) X (tgt := 136) dX12_setup_123 (by decide) h (fun h => ?_) (fun h => ?_)
      · exact T_sub (t_X12_setup_136 X hr h) ⟨rfl, rfl, trivial⟩
      · refine r_aload_n (pc := 126) X dX12_setup_126 rfl ?_
        refine bndE h (fun r4 M5 h6 h => ?_)
        refine r_callVv0 (pc := 127) X ⟨(ltb rfl), (ltb rfl)⟩ rfl vy_X12_parseStatement my_X12_parseStatement ml_X12_345 ⟨Nat.le_of_ble_eq_true rfl, Nat.le_of_ble_eq_true rfl, Nat.le_of_ble_eq_true rfl, Nat.le_of_ble_eq_true rfl⟩ (c_X12_parseStatement  h6) (Nat.le_of_ble_eq_true rfl) dX12_setup_127 ?_
        refine r_iincN (pc := 130) X (v0 := 1) rfl (by decide) (by decide) dX12_setup_130 h (fun e7 h => ?_)
        refine r_goto (pc := 133) X (tgt := 112) dX12_setup_133 (by decide) ?_
        exact T_sub (ih _ _ h) ⟨rfl, rfl, trivial⟩
def f_X12_setup_81 : Nat → Int32 → Mem → Option (Int32 × Mem)
  | 0 => fun _ _ => none
  | n + 1 => fun x1 M => if 4 ≤ x1 then bnd (f_X12_firstSettings 52 M) (fun r1 M2 => bnd (f_X12_first 4 M2) (fun r4 M5 => f_X12_setup_112 fuelN 0 M5)) else if bad x1 4 then none else nm (uI M (38, 0, 0) (Int32.toNatClampNeg x1) (0 &&& 1)) (fun M7 => nm (x1 + 1) (fun e8 => (f_X12_setup_81 n) e8 M7))
set_option maxHeartbeats 4000000 in
set_option maxRecDepth 100000 in
theorem t_X12_setup_81 {G : GG} {A : Nat → Prop} {p : Program} {l : Launch} {e : Env} {s : State} {m : MethodId} {args : Array Value} {below : List Frame} {meth : Method} {c : Code} {r : Int32} {M' : Mem} (X : Cx G A p s m args meth c RX12 cX12_setup 3) (hr : meth.sig.returnType = some .int) : ∀ (n : Nat) (x1 : Int32) (M : Mem), f_X12_setup_81 n x1 M = some (r, M') → T G A p l e (rmO 9) s m args below meth c 3 0 0 (MQ below (QiO G A r M') args s 0 0 A) 81 [(0, .ref (G.2.1 (10, 0, 0))), (1, .int x1)] [] M := by
  intro n
  induction n with
  | zero =>
    intro x1 M  h
    cases h
  | succ n ih =>
    intro x1 M  h
    unfold f_X12_setup_81 at h
    refine r_iload_n (pc := 81) X dX12_setup_81 rfl ?_
    refine r_iconst (pc := 82) X (v := 4) dX12_setup_82 (by decide) ?_
    refine r_icmp_ge (pc := 83) X (tgt := 99) dX12_setup_83 (by decide) h (fun h => ?_) (fun h => ?_)
    · refine r_aload_n (pc := 99) X dX12_setup_99 rfl ?_
      refine r_bipush (pc := 100) X (v := 52) dX12_setup_100 (by decide) ?_
      refine bndE h (fun r1 M2 h3 h => ?_)
      refine r_callVv1 (pc := 102) X ⟨(ltb rfl), (ltb rfl)⟩ rfl vy_X12_firstSettings my_X12_firstSettings ml_X12_149 ⟨Nat.le_of_ble_eq_true rfl, Nat.le_of_ble_eq_true rfl, Nat.le_of_ble_eq_true rfl, Nat.le_of_ble_eq_true rfl⟩ (c_X12_firstSettings  h3) (Nat.le_of_ble_eq_true rfl) dX12_setup_102 ?_
      refine r_aload_n (pc := 105) X dX12_setup_105 rfl ?_
      refine r_iconst (pc := 106) X (v := 4) dX12_setup_106 (by decide) ?_
      refine bndE h (fun r4 M5 h6 h => ?_)
      refine r_callVv1 (pc := 107) X ⟨(ltb rfl), (ltb rfl)⟩ rfl vy_X12_first my_X12_first ml_X12_152 ⟨Nat.le_of_ble_eq_true rfl, Nat.le_of_ble_eq_true rfl, Nat.le_of_ble_eq_true rfl, Nat.le_of_ble_eq_true rfl⟩ (c_X12_first  h6) (Nat.le_of_ble_eq_true rfl) dX12_setup_107 ?_
      refine r_iconst (pc := 110) X (v := 0) dX12_setup_110 (by decide) ?_
      refine r_istore_n (pc := 111) X (by decide) dX12_setup_111 ?_
      exact T_sub (t_X12_setup_112 X hr _ _ _ h) ⟨rfl, rfl, trivial⟩
    · refine r_aload_n (pc := 86) X dX12_setup_86 rfl ?_
      refine r_getR (q := (38, 0, 0)) (pc := 87) X ⟨(ltb rfl), (ltb rfl)⟩ fl_X12_146 rfl dX12_setup_87 ?_
      refine r_iload_n (pc := 90) X dX12_setup_90 rfl ?_
      refine r_iconst (pc := 91) X (v := 0) dX12_setup_91 (by decide) ?_
      refine r_zastN (pc := 92) X (n := 4) ⟨(ltb rfl), (ltb rfl)⟩ rfl (nlt rfl) dX12_setup_92 h (fun M7 h => ?_)
      refine r_iincN (pc := 93) X (v0 := 1) rfl (by decide) (by decide) dX12_setup_93 h (fun e8 h => ?_)
      refine r_goto (pc := 96) X (tgt := 81) dX12_setup_96 (by decide) ?_
      exact T_sub (ih _ _ h) ⟨rfl, rfl, trivial⟩
def f_X12_setup_60 : Nat → Int32 → Mem → Option (Int32 × Mem)
  | 0 => fun _ _ => none
  | n + 1 => fun x1 M => if 8 ≤ x1 then f_X12_setup_81 fuelN 0 M else if bad x1 8 then none else nm (uI M (37, 0, 0) (Int32.toNatClampNeg x1) (0 &&& 1)) (fun M1 => nm (x1 + 1) (fun e2 => (f_X12_setup_60 n) e2 M1))
set_option maxHeartbeats 4000000 in
set_option maxRecDepth 100000 in
theorem t_X12_setup_60 {G : GG} {A : Nat → Prop} {p : Program} {l : Launch} {e : Env} {s : State} {m : MethodId} {args : Array Value} {below : List Frame} {meth : Method} {c : Code} {r : Int32} {M' : Mem} (X : Cx G A p s m args meth c RX12 cX12_setup 3) (hr : meth.sig.returnType = some .int) : ∀ (n : Nat) (x1 : Int32) (M : Mem), f_X12_setup_60 n x1 M = some (r, M') → T G A p l e (rmO 9) s m args below meth c 3 0 0 (MQ below (QiO G A r M') args s 0 0 A) 60 [(0, .ref (G.2.1 (10, 0, 0))), (1, .int x1)] [] M := by
  intro n
  induction n with
  | zero =>
    intro x1 M  h
    cases h
  | succ n ih =>
    intro x1 M  h
    unfold f_X12_setup_60 at h
    refine r_iload_n (pc := 60) X dX12_setup_60 rfl ?_
    refine r_bipush (pc := 61) X (v := 8) dX12_setup_61 (by decide) ?_
    refine r_icmp_ge (pc := 63) X (tgt := 79) dX12_setup_63 (by decide) h (fun h => ?_) (fun h => ?_)
    · refine r_iconst (pc := 79) X (v := 0) dX12_setup_79 (by decide) ?_
      refine r_istore_n (pc := 80) X (by decide) dX12_setup_80 ?_
      exact T_sub (t_X12_setup_81 X hr _ _ _ h) ⟨rfl, rfl, trivial⟩
    · refine r_aload_n (pc := 66) X dX12_setup_66 rfl ?_
      refine r_getR (q := (37, 0, 0)) (pc := 67) X ⟨(ltb rfl), (ltb rfl)⟩ fl_X12_143 rfl dX12_setup_67 ?_
      refine r_iload_n (pc := 70) X dX12_setup_70 rfl ?_
      refine r_iconst (pc := 71) X (v := 0) dX12_setup_71 (by decide) ?_
      refine r_zastN (pc := 72) X (n := 8) ⟨(ltb rfl), (ltb rfl)⟩ rfl (nlt rfl) dX12_setup_72 h (fun M1 h => ?_)
      refine r_iincN (pc := 73) X (v0 := 1) rfl (by decide) (by decide) dX12_setup_73 h (fun e2 h => ?_)
      refine r_goto (pc := 76) X (tgt := 60) dX12_setup_76 (by decide) ?_
      exact T_sub (ih _ _ h) ⟨rfl, rfl, trivial⟩
def f_X12_setup_39 : Nat → Int32 → Mem → Option (Int32 × Mem)
  | 0 => fun _ _ => none
  | n + 1 => fun x1 M => if 25 ≤ x1 then f_X12_setup_60 fuelN 0 M else if bad x1 25 then none else nm (uI M (36, 0, 0) (Int32.toNatClampNeg x1) (0 &&& 1)) (fun M1 => nm (x1 + 1) (fun e2 => (f_X12_setup_39 n) e2 M1))
set_option maxHeartbeats 4000000 in
set_option maxRecDepth 100000 in
theorem t_X12_setup_39 {G : GG} {A : Nat → Prop} {p : Program} {l : Launch} {e : Env} {s : State} {m : MethodId} {args : Array Value} {below : List Frame} {meth : Method} {c : Code} {r : Int32} {M' : Mem} (X : Cx G A p s m args meth c RX12 cX12_setup 3) (hr : meth.sig.returnType = some .int) : ∀ (n : Nat) (x1 : Int32) (M : Mem), f_X12_setup_39 n x1 M = some (r, M') → T G A p l e (rmO 9) s m args below meth c 3 0 0 (MQ below (QiO G A r M') args s 0 0 A) 39 [(0, .ref (G.2.1 (10, 0, 0))), (1, .int x1)] [] M := by
  intro n
  induction n with
  | zero =>
    intro x1 M  h
    cases h
  | succ n ih =>
    intro x1 M  h
    unfold f_X12_setup_39 at h
    refine r_iload_n (pc := 39) X dX12_setup_39 rfl ?_
    refine r_bipush (pc := 40) X (v := 25) dX12_setup_40 (by decide) ?_
    refine r_icmp_ge (pc := 42) X (tgt := 58) dX12_setup_42 (by decide) h (fun h => ?_) (fun h => ?_)
    · refine r_iconst (pc := 58) X (v := 0) dX12_setup_58 (by decide) ?_
      refine r_istore_n (pc := 59) X (by decide) dX12_setup_59 ?_
      exact T_sub (t_X12_setup_60 X hr _ _ _ h) ⟨rfl, rfl, trivial⟩
    · refine r_aload_n (pc := 45) X dX12_setup_45 rfl ?_
      refine r_getR (q := (36, 0, 0)) (pc := 46) X ⟨(ltb rfl), (ltb rfl)⟩ fl_X12_140 rfl dX12_setup_46 ?_
      refine r_iload_n (pc := 49) X dX12_setup_49 rfl ?_
      refine r_iconst (pc := 50) X (v := 0) dX12_setup_50 (by decide) ?_
      refine r_zastN (pc := 51) X (n := 25) ⟨(ltb rfl), (ltb rfl)⟩ rfl (nlt rfl) dX12_setup_51 h (fun M1 h => ?_)
      refine r_iincN (pc := 52) X (v0 := 1) rfl (by decide) (by decide) dX12_setup_52 h (fun e2 h => ?_)
      refine r_goto (pc := 55) X (tgt := 39) dX12_setup_55 (by decide) ?_
      exact T_sub (ih _ _ h) ⟨rfl, rfl, trivial⟩
def f_X12_setup  (M : Mem) : Option (Int32 × Mem) :=
  nm (uI M (10, 0, 0) 0 0) (fun M1 => nm (uI M1 (10, 0, 0) 16 0) (fun M2 => nm (uI M2 (10, 0, 0) 17 (-1)) (fun M3 => nm (uI M3 (10, 0, 0) 9 (M3.1 (10, 0, 0) 2)) (fun M4 => nm (uI M4 (10, 0, 0) 2 0) (fun M5 => nm (uI M5 (10, 0, 0) 10 0) (fun M6 => bnd (f_X12_next  M6) (fun r7 M8 => f_X12_setup_39 fuelN 0 M8)))))))
set_option maxHeartbeats 4000000 in
set_option maxRecDepth 100000 in
theorem t_X12_setup {G : GG} {A : Nat → Prop} {p : Program} {l : Launch} {e : Env} {s : State} {m : MethodId} {args : Array Value} {below : List Frame} {meth : Method} {c : Code} {r : Int32} {M' : Mem} (X : Cx G A p s m args meth c RX12 cX12_setup 3) (hr : meth.sig.returnType = some .int) {M : Mem}  (h : f_X12_setup M = some (r, M')) : T G A p l e (rmO 9) s m args below meth c 3 0 0 (MQ below (QiO G A r M') args s 0 0 A) 0 [(0, .ref (G.2.1 (10, 0, 0)))] [] M := by
  unfold f_X12_setup at h
  refine r_aload_n (pc := 0) X dX12_setup_0 rfl ?_
  refine r_iconst (pc := 1) X (v := 0) dX12_setup_1 (by decide) ?_
  refine r_putIN (pc := 2) X ⟨(ltb rfl), (ltb rfl)⟩ fp_X12_1 rfl dX12_setup_2 h (fun M1 h => ?_)
  refine r_aload_n (pc := 5) X dX12_setup_5 rfl ?_
  refine r_iconst (pc := 6) X (v := 0) dX12_setup_6 (by decide) ?_
  refine r_putIN (pc := 7) X ⟨(ltb rfl), (ltb rfl)⟩ fp_X12_134 rfl dX12_setup_7 h (fun M2 h => ?_)
  refine r_aload_n (pc := 10) X dX12_setup_10 rfl ?_
  refine r_iconst (pc := 11) X (v := (-1)) dX12_setup_11 (by decide) ?_
  refine r_putIN (pc := 12) X ⟨(ltb rfl), (ltb rfl)⟩ fp_X12_137 rfl dX12_setup_12 h (fun M3 h => ?_)
  refine r_aload_n (pc := 15) X dX12_setup_15 rfl ?_
  refine r_aload_n (pc := 16) X dX12_setup_16 rfl ?_
  refine r_getI (pc := 17) X ⟨(ltb rfl), (ltb rfl)⟩ fl_X12_11 rfl dX12_setup_17 ?_
  refine r_putIN (pc := 20) X ⟨(ltb rfl), (ltb rfl)⟩ fp_X12_113 rfl dX12_setup_20 h (fun M4 h => ?_)
  refine r_aload_n (pc := 23) X dX12_setup_23 rfl ?_
  refine r_iconst (pc := 24) X (v := 0) dX12_setup_24 (by decide) ?_
  refine r_putIN (pc := 25) X ⟨(ltb rfl), (ltb rfl)⟩ fp_X12_11 rfl dX12_setup_25 h (fun M5 h => ?_)
  refine r_aload_n (pc := 28) X dX12_setup_28 rfl ?_
  refine r_iconst (pc := 29) X (v := 0) dX12_setup_29 (by decide) ?_
  refine r_putIN (pc := 30) X ⟨(ltb rfl), (ltb rfl)⟩ fp_X12_116 rfl dX12_setup_30 h (fun M6 h => ?_)
  refine r_aload_n (pc := 33) X dX12_setup_33 rfl ?_
  refine bndE h (fun r7 M8 h9 h => ?_)
  refine r_callVv0 (pc := 34) X ⟨(ltb rfl), (ltb rfl)⟩ rfl vy_X12_next my_X12_next ml_X12_286 ⟨Nat.le_of_ble_eq_true rfl, Nat.le_of_ble_eq_true rfl, Nat.le_of_ble_eq_true rfl, Nat.le_of_ble_eq_true rfl⟩ (c_X12_next  h9) (Nat.le_of_ble_eq_true rfl) dX12_setup_34 ?_
  refine r_iconst (pc := 37) X (v := 0) dX12_setup_37 (by decide) ?_
  refine r_istore_n (pc := 38) X (by decide) dX12_setup_38 ?_
  exact T_sub (t_X12_setup_39 X hr _ _ _ h) ⟨rfl, rfl, trivial⟩
theorem c_X12_setup {G : GG} {l : Launch} {r : Int32} {M M' : Mem}  (h : f_X12_setup  M = some (r, M')) : Met l yX12_setup (wsO yX12_setup cX12_setup 3 (some .int)) (rmO 9) (PcO G [.ref (G.2.1 (10, 0, 0))] M) (QiO G (AA G) r M') 0 0 (AA G) :=
  met_of (own := RX12) rfl (by decide +kernel) (Nat.le_of_ble_eq_true rfl) (fun p e s m args below meth c X hr => t_X12_setup X hr  h)
