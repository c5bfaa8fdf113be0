-- ConverterScannerLaw.append
def f_L_append (x1 : Int32) (x2 : Int32) (x3 : Int32) (x4 : Int32) (x5 : Int32) (M : Mem) : Option (Int32 × Mem) :=
  catchX (f_X11_append x1 x2 x3 x4 x5 M) (fun r1 M2 => if bad 0 1 then none else nm (uL M2 (40, 0, 0) (Int32.toNatClampNeg 0) (Int32.toInt64 r1)) (fun M4 => some (0, M4))) (fun e9 M2 => if e9 = 0 then some (1, M2) else none)
set_option maxHeartbeats 4000000 in
set_option maxRecDepth 100000 in
theorem t_L_append {G : GG} {A : Nat → Prop} {p : Program} {l : Launch} {e : Env} {s : State} {m : MethodId} {args : Array Value} {below : List Frame} {meth : Method} {c : Code} {r : Int32} {M' : Mem} (X : Cx G A p s m args meth c RL cL_append 8) (Y : CxH G A l s) (ht : c.exceptionTable.toList = tableOf [(0, 16, 19, 13)]) (hr : meth.sig.returnType = some .int) (hfl : G.2.2.2.2 = true) {x1 : Int32} {x2 : Int32} {x3 : Int32} {x4 : Int32} {x5 : Int32} {M : Mem}  (h : f_L_append x1 x2 x3 x4 x5 M = some (r, M')) : T G A p l e (rmX 7 1) s m args below meth c 8 0 0 (MQ below (QiO G A r M') args s 1 6 A) 0 [(0, .ref (G.2.1 (9, 0, 0))), (1, .int x1), (2, .int x2), (3, .int x3), (4, .int x4), (5, .int x5), (6, .ref (G.2.1 (40, 0, 0)))] [] M := by
  unfold f_L_append at h
  refine r_aload (pc := 0) X dL_append_0 rfl ?_
  refine r_iconst (pc := 2) X (v := 0) dL_append_2 (by decide) ?_
  refine r_aload_n (pc := 3) X dL_append_3 rfl ?_
  refine r_iload_n (pc := 4) X dL_append_4 rfl ?_
  refine r_iload_n (pc := 5) X dL_append_5 rfl ?_
  refine r_iload_n (pc := 6) X dL_append_6 rfl ?_
  refine r_iload (pc := 7) X dL_append_7 rfl ?_
  refine r_iload (pc := 9) X dL_append_9 rfl ?_
  refine catchXE h (fun r1x M2 h3 h => ?_)
  refine r_callHi5 (pc := 11) X Y ⟨(ltb rfl), (ltb rfl)⟩ rfl vy_X11_append my_X11_append ml_L_7 ⟨Nat.le_of_ble_eq_true rfl, Nat.le_of_ble_eq_true rfl, Nat.le_of_ble_eq_true rfl, Nat.le_of_ble_eq_true rfl⟩ (fun sz => c_X11_append Y.1  h3) h (Nat.le_of_ble_eq_true rfl) dL_append_11 (fun r1 hvr1 h => ?_) (fun k9 q9 hk9 h => ?_)
  · refine r_i2l (pc := 14) X dL_append_14 ?_
    refine r_lastN (pc := 15) X (n := 1) ⟨(ltb rfl), (ltb rfl), hfl⟩ rfl (nlt rfl) dL_append_15 h (fun M4 h => ?_)
    refine r_goto (pc := 16) X (tgt := 23) dL_append_16 (by decide) ?_
    refine r_iconst (pc := 23) X (v := 0) dL_append_23 (by decide) ?_
    cases h
    exact T_widen (k := 1) (n := 6) (Nat.le_of_ble_eq_true rfl) (Nat.le_of_ble_eq_true rfl) (r_iret (pc := 24) X hr dL_append_24)
  · refine swN h (fun hq h => ?_) (fun hq0 h => ?_)
    · subst hq
      refine r_catch X Y ht (by decide) 0 rfl (fun z hz => by simp only [List.take, List.not_mem_nil] at hz) (by decide) (by decide) cl_L_13 ?_
      refine r_astore (pc := 19) X (by decide) dL_append_19 ?_
      refine r_iconst (pc := 21) X (v := 1) dL_append_21 (by decide) ?_
      cases h
      exact T_widen (k := 1) (n := 6) (Nat.le_of_ble_eq_true rfl) (Nat.le_of_ble_eq_true rfl) (r_iret (pc := 22) X hr dL_append_22)
    cases h
theorem c_L_append {G : GG} {l : Launch} {sz : Nat} (hlf : l.stackTraces = false) (hfl : G.2.2.2.2 = true) {x1 : Int32} {x2 : Int32} {x3 : Int32} {x4 : Int32} {x5 : Int32} {r : Int32} {M M' : Mem}  (h : f_L_append x1 x2 x3 x4 x5 M = some (r, M')) : Met l yL_append (wsH yL_append cL_append 8 (some .int) [(0, 16, 19, 13)]) (rmX 7 1) (PcX G sz [.ref (G.2.1 (9, 0, 0)), .int x1, .int x2, .int x3, .int x4, .int x5, .ref (G.2.1 (40, 0, 0))] M) (QiO G (AX G sz) r M') 1 6 (AX G sz) :=
  metH_of (k := 1) (own := RL) hlf rfl (by decide +kernel) (Nat.le_of_ble_eq_true rfl) (fun p e s m args below meth c X Y ht hr => t_L_append X Y ht hr hfl  h)
-- ConverterScannerLaw.truncate
def f_L_truncate (x1 : Int32) (M : Mem) : Option (Int32 × Mem) :=
  catchX (f_X11_truncate x1 M) (fun r1 M2 => if bad 0 1 then none else nm (uL M2 (40, 0, 0) (Int32.toNatClampNeg 0) (Int32.toInt64 r1)) (fun M4 => some (0, M4))) (fun e9 M2 => if e9 = 1 then some (1, M2) else none)
set_option maxHeartbeats 4000000 in
set_option maxRecDepth 100000 in
theorem t_L_truncate {G : GG} {A : Nat → Prop} {p : Program} {l : Launch} {e : Env} {s : State} {m : MethodId} {args : Array Value} {below : List Frame} {meth : Method} {c : Code} {r : Int32} {M' : Mem} (X : Cx G A p s m args meth c RL cL_truncate 4) (Y : CxH G A l s) (ht : c.exceptionTable.toList = tableOf [(0, 9, 12, 19)]) (hr : meth.sig.returnType = some .int) (hfl : G.2.2.2.2 = true) {x1 : Int32} {M : Mem}  (h : f_L_truncate x1 M = some (r, M')) : T G A p l e (rmX 7 1) s m args below meth c 4 0 0 (MQ below (QiO G A r M') args s 1 6 A) 0 [(0, .ref (G.2.1 (9, 0, 0))), (1, .int x1), (2, .ref (G.2.1 (40, 0, 0)))] [] M := by
  unfold f_L_truncate at h
  refine r_aload_n (pc := 0) X dL_truncate_0 rfl ?_
  refine r_iconst (pc := 1) X (v := 0) dL_truncate_1 (by decide) ?_
  refine r_aload_n (pc := 2) X dL_truncate_2 rfl ?_
  refine r_iload_n (pc := 3) X dL_truncate_3 rfl ?_
  refine catchXE h (fun r1x M2 h3 h => ?_)
  refine r_callHi1 (pc := 4) X Y ⟨(ltb rfl), (ltb rfl)⟩ rfl vy_X11_truncate my_X11_truncate ml_L_15 ⟨Nat.le_of_ble_eq_true rfl, Nat.le_of_ble_eq_true rfl, Nat.le_of_ble_eq_true rfl, Nat.le_of_ble_eq_true rfl⟩ (fun sz => c_X11_truncate Y.1  h3) h (Nat.le_of_ble_eq_true rfl) dL_truncate_4 (fun r1 hvr1 h => ?_) (fun k9 q9 hk9 h => ?_)
  · refine r_i2l (pc := 7) X dL_truncate_7 ?_
    refine r_lastN (pc := 8) X (n := 1) ⟨(ltb rfl), (ltb rfl), hfl⟩ rfl (nlt rfl) dL_truncate_8 h (fun M4 h => ?_)
    refine r_goto (pc := 9) X (tgt := 15) dL_truncate_9 (by decide) ?_
    refine r_iconst (pc := 15) X (v := 0) dL_truncate_15 (by decide) ?_
    cases h
    exact T_widen (k := 1) (n := 6) (Nat.le_of_ble_eq_true rfl) (Nat.le_of_ble_eq_true rfl) (r_iret (pc := 16) X hr dL_truncate_16)
  · refine swN h (fun hq h => ?_) (fun hq0 h => ?_)
    · subst hq
      refine r_catch X Y ht (by decide) 0 rfl (fun z hz => by simp only [List.take, List.not_mem_nil] at hz) (by decide) (by decide) cl_L_19 ?_
      refine r_astore_n (pc := 12) X (by decide) dL_truncate_12 ?_
      refine r_iconst (pc := 13) X (v := 1) dL_truncate_13 (by decide) ?_
      cases h
      exact T_widen (k := 1) (n := 6) (Nat.le_of_ble_eq_true rfl) (Nat.le_of_ble_eq_true rfl) (r_iret (pc := 14) X hr dL_truncate_14)
    cases h
theorem c_L_truncate {G : GG} {l : Launch} {sz : Nat} (hlf : l.stackTraces = false) (hfl : G.2.2.2.2 = true) {x1 : Int32} {r : Int32} {M M' : Mem}  (h : f_L_truncate x1 M = some (r, M')) : Met l yL_truncate (wsH yL_truncate cL_truncate 4 (some .int) [(0, 9, 12, 19)]) (rmX 7 1) (PcX G sz [.ref (G.2.1 (9, 0, 0)), .int x1, .ref (G.2.1 (40, 0, 0))] M) (QiO G (AX G sz) r M') 1 6 (AX G sz) :=
  metH_of (k := 1) (own := RL) hlf rfl (by decide +kernel) (Nat.le_of_ble_eq_true rfl) (fun p e s m args below meth c X Y ht hr => t_L_truncate X Y ht hr hfl  h)
-- ConverterScannerLaw.run
def f_L_run (x1 : Int32) (M : Mem) : Option (Int32 × Mem) :=
  catchX (f_X11_run x1 M) (fun r1 M2 => if bad 0 1 then none else nm (uL M2 (40, 0, 0) (Int32.toNatClampNeg 0) (Int32.toInt64 r1)) (fun M4 => some (0, M4))) (fun e9 M2 => if e9 = 1 then some (1, M2) else none)
set_option maxHeartbeats 4000000 in
set_option maxRecDepth 100000 in
theorem t_L_run {G : GG} {A : Nat → Prop} {p : Program} {l : Launch} {e : Env} {s : State} {m : MethodId} {args : Array Value} {below : List Frame} {meth : Method} {c : Code} {r : Int32} {M' : Mem} (X : Cx G A p s m args meth c RL cL_run 4) (Y : CxH G A l s) (ht : c.exceptionTable.toList = tableOf [(0, 9, 12, 19)]) (hr : meth.sig.returnType = some .int) (hfl : G.2.2.2.2 = true) {x1 : Int32} {M : Mem}  (h : f_L_run x1 M = some (r, M')) : T G A p l e (rmX 8 1) s m args below meth c 4 0 0 (MQ below (QiO G A r M') args s 1 6 A) 0 [(0, .ref (G.2.1 (9, 0, 0))), (1, .int x1), (2, .ref (G.2.1 (40, 0, 0)))] [] M := by
  unfold f_L_run at h
  refine r_aload_n (pc := 0) X dL_run_0 rfl ?_
  refine r_iconst (pc := 1) X (v := 0) dL_run_1 (by decide) ?_
  refine r_aload_n (pc := 2) X dL_run_2 rfl ?_
  refine r_iload_n (pc := 3) X dL_run_3 rfl ?_
  refine catchXE h (fun r1x M2 h3 h => ?_)
  refine r_callHi1 (pc := 4) X Y ⟨(ltb rfl), (ltb rfl)⟩ rfl vy_X11_run my_X11_run ml_L_21 ⟨Nat.le_of_ble_eq_true rfl, Nat.le_of_ble_eq_true rfl, Nat.le_of_ble_eq_true rfl, Nat.le_of_ble_eq_true rfl⟩ (fun sz => c_X11_run Y.1  h3) h (Nat.le_of_ble_eq_true rfl) dL_run_4 (fun r1 hvr1 h => ?_) (fun k9 q9 hk9 h => ?_)
  · refine r_i2l (pc := 7) X dL_run_7 ?_
    refine r_lastN (pc := 8) X (n := 1) ⟨(ltb rfl), (ltb rfl), hfl⟩ rfl (nlt rfl) dL_run_8 h (fun M4 h => ?_)
    refine r_goto (pc := 9) X (tgt := 15) dL_run_9 (by decide) ?_
    refine r_iconst (pc := 15) X (v := 0) dL_run_15 (by decide) ?_
    cases h
    exact T_widen (k := 1) (n := 6) (Nat.le_of_ble_eq_true rfl) (Nat.le_of_ble_eq_true rfl) (r_iret (pc := 16) X hr dL_run_16)
  · refine swN h (fun hq h => ?_) (fun hq0 h => ?_)
    · subst hq
      refine r_catch X Y ht (by decide) 0 rfl (fun z hz => by simp only [List.take, List.not_mem_nil] at hz) (by decide) (by decide) cl_L_19 ?_
      refine r_astore_n (pc := 12) X (by decide) dL_run_12 ?_
      refine r_iconst (pc := 13) X (v := 1) dL_run_13 (by decide) ?_
      cases h
      exact T_widen (k := 1) (n := 6) (Nat.le_of_ble_eq_true rfl) (Nat.le_of_ble_eq_true rfl) (r_iret (pc := 14) X hr dL_run_14)
    cases h
theorem c_L_run {G : GG} {l : Launch} {sz : Nat} (hlf : l.stackTraces = false) (hfl : G.2.2.2.2 = true) {x1 : Int32} {r : Int32} {M M' : Mem}  (h : f_L_run x1 M = some (r, M')) : Met l yL_run (wsH yL_run cL_run 4 (some .int) [(0, 9, 12, 19)]) (rmX 8 1) (PcX G sz [.ref (G.2.1 (9, 0, 0)), .int x1, .ref (G.2.1 (40, 0, 0))] M) (QiO G (AX G sz) r M') 1 6 (AX G sz) :=
  metH_of (k := 1) (own := RL) hlf rfl (by decide +kernel) (Nat.le_of_ble_eq_true rfl) (fun p e s m args below meth c X Y ht hr => t_L_run X Y ht hr hfl  h)
-- ConverterScannerLaw.fire
def f_L_fire (x1 : Int32) (M : Mem) : Option (Int32 × Mem) :=
  catchX (f_X11_fire x1 M) (fun r1 M2 => if bad 0 1 then none else nm (uL M2 (40, 0, 0) (Int32.toNatClampNeg 0) (Int32.toInt64 r1)) (fun M4 => some (0, M4))) (fun e9 M2 => if e9 = 2 then some (1, M2) else none)
set_option maxHeartbeats 4000000 in
set_option maxRecDepth 100000 in
theorem t_L_fire {G : GG} {A : Nat → Prop} {p : Program} {l : Launch} {e : Env} {s : State} {m : MethodId} {args : Array Value} {below : List Frame} {meth : Method} {c : Code} {r : Int32} {M' : Mem} (X : Cx G A p s m args meth c RL cL_fire 4) (Y : CxH G A l s) (ht : c.exceptionTable.toList = tableOf [(0, 9, 12, 27)]) (hr : meth.sig.returnType = some .int) (hfl : G.2.2.2.2 = true) {x1 : Int32} {M : Mem}  (h : f_L_fire x1 M = some (r, M')) : T G A p l e (rmX 8 1) s m args below meth c 4 0 0 (MQ below (QiO G A r M') args s 1 6 A) 0 [(0, .ref (G.2.1 (9, 0, 0))), (1, .int x1), (2, .ref (G.2.1 (40, 0, 0)))] [] M := by
  unfold f_L_fire at h
  refine r_aload_n (pc := 0) X dL_fire_0 rfl ?_
  refine r_iconst (pc := 1) X (v := 0) dL_fire_1 (by decide) ?_
  refine r_aload_n (pc := 2) X dL_fire_2 rfl ?_
  refine r_iload_n (pc := 3) X dL_fire_3 rfl ?_
  refine catchXE h (fun r1x M2 h3 h => ?_)
  refine r_callHi1 (pc := 4) X Y ⟨(ltb rfl), (ltb rfl)⟩ rfl vy_X11_fire my_X11_fire ml_L_24 ⟨Nat.le_of_ble_eq_true rfl, Nat.le_of_ble_eq_true rfl, Nat.le_of_ble_eq_true rfl, Nat.le_of_ble_eq_true rfl⟩ (fun sz => c_X11_fire Y.1  h3) h (Nat.le_of_ble_eq_true rfl) dL_fire_4 (fun r1 hvr1 h => ?_) (fun k9 q9 hk9 h => ?_)
  · refine r_i2l (pc := 7) X dL_fire_7 ?_
    refine r_lastN (pc := 8) X (n := 1) ⟨(ltb rfl), (ltb rfl), hfl⟩ rfl (nlt rfl) dL_fire_8 h (fun M4 h => ?_)
    refine r_goto (pc := 9) X (tgt := 15) dL_fire_9 (by decide) ?_
    refine r_iconst (pc := 15) X (v := 0) dL_fire_15 (by decide) ?_
    cases h
    exact T_widen (k := 1) (n := 6) (Nat.le_of_ble_eq_true rfl) (Nat.le_of_ble_eq_true rfl) (r_iret (pc := 16) X hr dL_fire_16)
  · refine swN h (fun hq h => ?_) (fun hq0 h => ?_)
    · subst hq
      refine r_catch X Y ht (by decide) 0 rfl (fun z hz => by simp only [List.take, List.not_mem_nil] at hz) (by decide) (by decide) cl_L_27 ?_
      refine r_astore_n (pc := 12) X (by decide) dL_fire_12 ?_
      refine r_iconst (pc := 13) X (v := 1) dL_fire_13 (by decide) ?_
      cases h
      exact T_widen (k := 1) (n := 6) (Nat.le_of_ble_eq_true rfl) (Nat.le_of_ble_eq_true rfl) (r_iret (pc := 14) X hr dL_fire_14)
    cases h
theorem c_L_fire {G : GG} {l : Launch} {sz : Nat} (hlf : l.stackTraces = false) (hfl : G.2.2.2.2 = true) {x1 : Int32} {r : Int32} {M M' : Mem}  (h : f_L_fire x1 M = some (r, M')) : Met l yL_fire (wsH yL_fire cL_fire 4 (some .int) [(0, 9, 12, 27)]) (rmX 8 1) (PcX G sz [.ref (G.2.1 (9, 0, 0)), .int x1, .ref (G.2.1 (40, 0, 0))] M) (QiO G (AX G sz) r M') 1 6 (AX G sz) :=
  metH_of (k := 1) (own := RL) hlf rfl (by decide +kernel) (Nat.le_of_ble_eq_true rfl) (fun p e s m args below meth c X Y ht hr => t_L_fire X Y ht hr hfl  h)
-- ConverterScannerLaw.take
def f_L_take  (M : Mem) : Option (Int32 × Mem) :=
  catchX (f_X11_take  M) (fun r1 M2 => if bad 0 1 then none else nm (uL M2 (40, 0, 0) (Int32.toNatClampNeg 0) (Int32.toInt64 r1)) (fun M4 => some (0, M4))) (fun e9 M2 => if e9 = 3 then some (1, M2) else none)
set_option maxHeartbeats 4000000 in
set_option maxRecDepth 100000 in
theorem t_L_take {G : GG} {A : Nat → Prop} {p : Program} {l : Launch} {e : Env} {s : State} {m : MethodId} {args : Array Value} {below : List Frame} {meth : Method} {c : Code} {r : Int32} {M' : Mem} (X : Cx G A p s m args meth c RL cL_take 3) (Y : CxH G A l s) (ht : c.exceptionTable.toList = tableOf [(0, 8, 11, 33)]) (hr : meth.sig.returnType = some .int) (hfl : G.2.2.2.2 = true) {M : Mem}  (h : f_L_take M = some (r, M')) : T G A p l e (rmX 7 1) s m args below meth c 3 0 0 (MQ below (QiO G A r M') args s 1 6 A) 0 [(0, .ref (G.2.1 (9, 0, 0))), (1, .ref (G.2.1 (40, 0, 0)))] [] M := by
  unfold f_L_take at h
  refine r_aload_n (pc := 0) X dL_take_0 rfl ?_
  refine r_iconst (pc := 1) X (v := 0) dL_take_1 (by decide) ?_
  refine r_aload_n (pc := 2) X dL_take_2 rfl ?_
  refine catchXE h (fun r1x M2 h3 h => ?_)
  refine r_callHi0 (pc := 3) X Y ⟨(ltb rfl), (ltb rfl)⟩ rfl vy_X11_take my_X11_take ml_L_29 ⟨Nat.le_of_ble_eq_true rfl, Nat.le_of_ble_eq_true rfl, Nat.le_of_ble_eq_true rfl, Nat.le_of_ble_eq_true rfl⟩ (fun sz => c_X11_take Y.1  h3) h (Nat.le_of_ble_eq_true rfl) dL_take_3 (fun r1 hvr1 h => ?_) (fun k9 q9 hk9 h => ?_)
  · refine r_i2l (pc := 6) X dL_take_6 ?_
    refine r_lastN (pc := 7) X (n := 1) ⟨(ltb rfl), (ltb rfl), hfl⟩ rfl (nlt rfl) dL_take_7 h (fun M4 h => ?_)
    refine r_goto (pc := 8) X (tgt := 14) dL_take_8 (by decide) ?_
    refine r_iconst (pc := 14) X (v := 0) dL_take_14 (by decide) ?_
    cases h
    exact T_widen (k := 1) (n := 6) (Nat.le_of_ble_eq_true rfl) (Nat.le_of_ble_eq_true rfl) (r_iret (pc := 15) X hr dL_take_15)
  · refine swN h (fun hq h => ?_) (fun hq0 h => ?_)
    · subst hq
      refine r_catch X Y ht (by decide) 0 rfl (fun z hz => by simp only [List.take, List.not_mem_nil] at hz) (by decide) (by decide) cl_L_33 ?_
      refine r_astore_n (pc := 11) X (by decide) dL_take_11 ?_
      refine r_iconst (pc := 12) X (v := 1) dL_take_12 (by decide) ?_
      cases h
      exact T_widen (k := 1) (n := 6) (Nat.le_of_ble_eq_true rfl) (Nat.le_of_ble_eq_true rfl) (r_iret (pc := 13) X hr dL_take_13)
    cases h
theorem c_L_take {G : GG} {l : Launch} {sz : Nat} (hlf : l.stackTraces = false) (hfl : G.2.2.2.2 = true) {r : Int32} {M M' : Mem}  (h : f_L_take  M = some (r, M')) : Met l yL_take (wsH yL_take cL_take 3 (some .int) [(0, 8, 11, 33)]) (rmX 7 1) (PcX G sz [.ref (G.2.1 (9, 0, 0)), .ref (G.2.1 (40, 0, 0))] M) (QiO G (AX G sz) r M') 1 6 (AX G sz) :=
  metH_of (k := 1) (own := RL) hlf rfl (by decide +kernel) (Nat.le_of_ble_eq_true rfl) (fun p e s m args below meth c X Y ht hr => t_L_take X Y ht hr hfl  h)
-- ConverterScannerLaw.acknowledge
def f_L_acknowledge (x1 : Int32) (M : Mem) : Option (Int32 × Mem) :=
  catchX (f_X11_acknowledge x1 M) (fun r1 M2 => if bad 0 1 then none else nm (uL M2 (40, 0, 0) (Int32.toNatClampNeg 0) (Int32.toInt64 r1)) (fun M4 => some (0, M4))) (fun e9 M2 => if e9 = 2 then some (1, M2) else none)
set_option maxHeartbeats 4000000 in
set_option maxRecDepth 100000 in
theorem t_L_acknowledge {G : GG} {A : Nat → Prop} {p : Program} {l : Launch} {e : Env} {s : State} {m : MethodId} {args : Array Value} {below : List Frame} {meth : Method} {c : Code} {r : Int32} {M' : Mem} (X : Cx G A p s m args meth c RL cL_acknowledge 4) (Y : CxH G A l s) (ht : c.exceptionTable.toList = tableOf [(0, 9, 12, 27)]) (hr : meth.sig.returnType = some .int) (hfl : G.2.2.2.2 = true) {x1 : Int32} {M : Mem}  (h : f_L_acknowledge x1 M = some (r, M')) : T G A p l e (rmX 8 1) s m args below meth c 4 0 0 (MQ below (QiO G A r M') args s 1 6 A) 0 [(0, .ref (G.2.1 (9, 0, 0))), (1, .int x1), (2, .ref (G.2.1 (40, 0, 0)))] [] M := by
  unfold f_L_acknowledge at h
  refine r_aload_n (pc := 0) X dL_acknowledge_0 rfl ?_
  refine r_iconst (pc := 1) X (v := 0) dL_acknowledge_1 (by decide) ?_
  refine r_aload_n (pc := 2) X dL_acknowledge_2 rfl ?_
  refine r_iload_n (pc := 3) X dL_acknowledge_3 rfl ?_
  refine catchXE h (fun r1x M2 h3 h => ?_)
  refine r_callHi1 (pc := 4) X Y ⟨(ltb rfl), (ltb rfl)⟩ rfl vy_X11_acknowledge my_X11_acknowledge ml_L_35 ⟨Nat.le_of_ble_eq_true rfl, Nat.le_of_ble_eq_true rfl, Nat.le_of_ble_eq_true rfl, Nat.le_of_ble_eq_true rfl⟩ (fun sz => c_X11_acknowledge Y.1  h3) h (Nat.le_of_ble_eq_true rfl) dL_acknowledge_4 (fun r1 hvr1 h => ?_) (fun k9 q9 hk9 h => ?_)
  · refine r_i2l (pc := 7) X dL_acknowledge_7 ?_
    refine r_lastN (pc := 8) X (n := 1) ⟨(ltb rfl), (ltb rfl), hfl⟩ rfl (nlt rfl) dL_acknowledge_8 h (fun M4 h => ?_)
    refine r_goto (pc := 9) X (tgt := 15) dL_acknowledge_9 (by decide) ?_
    refine r_iconst (pc := 15) X (v := 0) dL_acknowledge_15 (by decide) ?_
    cases h
    exact T_widen (k := 1) (n := 6) (Nat.le_of_ble_eq_true rfl) (Nat.le_of_ble_eq_true rfl) (r_iret (pc := 16) X hr dL_acknowledge_16)
  · refine swN h (fun hq h => ?_) (fun hq0 h => ?_)
    · subst hq
      refine r_catch X Y ht (by decide) 0 rfl (fun z hz => by simp only [List.take, List.not_mem_nil] at hz) (by decide) (by decide) cl_L_27 ?_
      refine r_astore_n (pc := 12) X (by decide) dL_acknowledge_12 ?_
      refine r_iconst (pc := 13) X (v := 1) dL_acknowledge_13 (by decide) ?_
      cases h
      exact T_widen (k := 1) (n := 6) (Nat.le_of_ble_eq_true rfl) (Nat.le_of_ble_eq_true rfl) (r_iret (pc := 14) X hr dL_acknowledge_14)
    cases h
theorem c_L_acknowledge {G : GG} {l : Launch} {sz : Nat} (hlf : l.stackTraces = false) (hfl : G.2.2.2.2 = true) {x1 : Int32} {r : Int32} {M M' : Mem}  (h : f_L_acknowledge x1 M = some (r, M')) : Met l yL_acknowledge (wsH yL_acknowledge cL_acknowledge 4 (some .int) [(0, 9, 12, 27)]) (rmX 8 1) (PcX G sz [.ref (G.2.1 (9, 0, 0)), .int x1, .ref (G.2.1 (40, 0, 0))] M) (QiO G (AX G sz) r M') 1 6 (AX G sz) :=
  metH_of (k := 1) (own := RL) hlf rfl (by decide +kernel) (Nat.le_of_ble_eq_true rfl) (fun p e s m args below meth c X Y ht hr => t_L_acknowledge X Y ht hr hfl  h)
-- ConverterScannerLaw.setSignal
def f_L_setSignal (x1 : Int32) (x2 : Int32) (x3 : Int32) (x4 : Int32) (M : Mem) : Option (Int32 × Mem) :=
  catchX (f_X11_setSignal x1 x2 x3 x4 M) (fun r1 M2 => if bad 0 1 then none else nm (uL M2 (40, 0, 0) (Int32.toNatClampNeg 0) (Int32.toInt64 r1)) (fun M4 => some (0, M4))) (fun e9 M2 => if e9 = 2 then some (1, M2) else if e9 = 1 then some (2, M2) else none)
set_option maxHeartbeats 4000000 in
set_option maxRecDepth 100000 in
theorem t_L_setSignal {G : GG} {A : Nat → Prop} {p : Program} {l : Launch} {e : Env} {s : State} {m : MethodId} {args : Array Value} {below : List Frame} {meth : Method} {c : Code} {r : Int32} {M' : Mem} (X : Cx G A p s m args meth c RL cL_setSignal 7) (Y : CxH G A l s) (ht : c.exceptionTable.toList = tableOf [(0, 14, 17, 27), (0, 14, 21, 19)]) (hr : meth.sig.returnType = some .int) (hfl : G.2.2.2.2 = true) {x1 : Int32} {x2 : Int32} {x3 : Int32} {x4 : Int32} {M : Mem}  (h : f_L_setSignal x1 x2 x3 x4 M = some (r, M')) : T G A p l e (rmX 8 2) s m args below meth c 7 0 0 (MQ below (QiO G A r M') args s 2 12 A) 0 [(0, .ref (G.2.1 (9, 0, 0))), (1, .int x1), (2, .int x2), (3, .int x3), (4, .int x4), (5, .ref (G.2.1 (40, 0, 0)))] [] M := by
  unfold f_L_setSignal at h
  refine r_aload (pc := 0) X dL_setSignal_0 rfl ?_
  refine r_iconst (pc := 2) X (v := 0) dL_setSignal_2 (by decide) ?_
  refine r_aload_n (pc := 3) X dL_setSignal_3 rfl ?_
  refine r_iload_n (pc := 4) X dL_setSignal_4 rfl ?_
  refine r_iload_n (pc := 5) X dL_setSignal_5 rfl ?_
  refine r_iload_n (pc := 6) X dL_setSignal_6 rfl ?_
  refine r_iload (pc := 7) X dL_setSignal_7 rfl ?_
  refine catchXE h (fun r1x M2 h3 h => ?_)
  refine r_callHi4 (pc := 9) X Y ⟨(ltb rfl), (ltb rfl)⟩ rfl vy_X11_setSignal my_X11_setSignal ml_L_38 ⟨Nat.le_of_ble_eq_true rfl, Nat.le_of_ble_eq_true rfl, Nat.le_of_ble_eq_true rfl, Nat.le_of_ble_eq_true rfl⟩ (fun sz => c_X11_setSignal Y.1  h3) h (Nat.le_of_ble_eq_true rfl) dL_setSignal_9 (fun r1 hvr1 h => ?_) (fun k9 q9 hk9 h => ?_)
  · refine r_i2l (pc := 12) X dL_setSignal_12 ?_
    refine r_lastN (pc := 13) X (n := 1) ⟨(ltb rfl), (ltb rfl), hfl⟩ rfl (nlt rfl) dL_setSignal_13 h (fun M4 h => ?_)
    refine r_goto (pc := 14) X (tgt := 25) dL_setSignal_14 (by decide) ?_
    refine r_iconst (pc := 25) X (v := 0) dL_setSignal_25 (by decide) ?_
    cases h
    exact T_widen (k := 2) (n := 12) (Nat.le_of_ble_eq_true rfl) (Nat.le_of_ble_eq_true rfl) (r_iret (pc := 26) X hr dL_setSignal_26)
  · refine swN h (fun hq h => ?_) (fun hq0 h => ?_)
    · subst hq
      refine r_catch X Y ht (by decide) 0 rfl (fun z hz => by simp only [List.take, List.not_mem_nil] at hz) (by decide) (by decide) cl_L_27 ?_
      refine r_astore (pc := 17) X (by decide) dL_setSignal_17 ?_
      refine r_iconst (pc := 19) X (v := 1) dL_setSignal_19 (by decide) ?_
      cases h
      exact T_widen (k := 2) (n := 12) (Nat.le_of_ble_eq_true rfl) (Nat.le_of_ble_eq_true rfl) (r_iret (pc := 20) X hr dL_setSignal_20)
    refine swN h (fun hq h => ?_) (fun hq1 h => ?_)
    · subst hq
      refine r_catch X Y ht (by decide) 1 rfl (fun z hz => by
        simp only [List.take, List.mem_cons, List.not_mem_nil, or_false] at hz
        rcases hz with rfl
        exact ⟨by decide, 2, by decide, by decide, cl_L_27⟩) (by decide) (by decide) cl_L_19 ?_
      refine r_astore (pc := 21) X (by decide) dL_setSignal_21 ?_
      refine r_iconst (pc := 23) X (v := 2) dL_setSignal_23 (by decide) ?_
      cases h
      exact T_widen (k := 2) (n := 12) (Nat.le_of_ble_eq_true rfl) (Nat.le_of_ble_eq_true rfl) (r_iret (pc := 24) X hr dL_setSignal_24)
    cases h
theorem c_L_setSignal {G : GG} {l : Launch} {sz : Nat} (hlf : l.stackTraces = false) (hfl : G.2.2.2.2 = true) {x1 : Int32} {x2 : Int32} {x3 : Int32} {x4 : Int32} {r : Int32} {M M' : Mem}  (h : f_L_setSignal x1 x2 x3 x4 M = some (r, M')) : Met l yL_setSignal (wsH yL_setSignal cL_setSignal 7 (some .int) [(0, 14, 17, 27), (0, 14, 21, 19)]) (rmX 8 2) (PcX G sz [.ref (G.2.1 (9, 0, 0)), .int x1, .int x2, .int x3, .int x4, .ref (G.2.1 (40, 0, 0))] M) (QiO G (AX G sz) r M') 2 12 (AX G sz) :=
  metH_of (k := 2) (own := RL) hlf rfl (by decide +kernel) (Nat.le_of_ble_eq_true rfl) (fun p e s m args below meth c X Y ht hr => t_L_setSignal X Y ht hr hfl  h)
-- ConverterScannerLaw.setSample
def f_L_setSample (x1 : Int32) (x2 : Int32) (M : Mem) : Option (Int32 × Mem) :=
  catchX (f_X11_setSample x1 x2 M) (fun r1 M2 => if bad 0 1 then none else nm (uL M2 (40, 0, 0) (Int32.toNatClampNeg 0) (Int32.toInt64 r1)) (fun M4 => some (0, M4))) (fun e9 M2 => if e9 = 2 then some (1, M2) else if e9 = 1 then some (2, M2) else none)
set_option maxHeartbeats 4000000 in
set_option maxRecDepth 100000 in
theorem t_L_setSample {G : GG} {A : Nat → Prop} {p : Program} {l : Launch} {e : Env} {s : State} {m : MethodId} {args : Array Value} {below : List Frame} {meth : Method} {c : Code} {r : Int32} {M' : Mem} (X : Cx G A p s m args meth c RL cL_setSample 5) (Y : CxH G A l s) (ht : c.exceptionTable.toList = tableOf [(0, 10, 13, 27), (0, 10, 17, 19)]) (hr : meth.sig.returnType = some .int) (hfl : G.2.2.2.2 = true) {x1 : Int32} {x2 : Int32} {M : Mem}  (h : f_L_setSample x1 x2 M = some (r, M')) : T G A p l e (rmX 8 2) s m args below meth c 5 0 0 (MQ below (QiO G A r M') args s 2 12 A) 0 [(0, .ref (G.2.1 (9, 0, 0))), (1, .int x1), (2, .int x2), (3, .ref (G.2.1 (40, 0, 0)))] [] M := by
  unfold f_L_setSample at h
  refine r_aload_n (pc := 0) X dL_setSample_0 rfl ?_
  refine r_iconst (pc := 1) X (v := 0) dL_setSample_1 (by decide) ?_
  refine r_aload_n (pc := 2) X dL_setSample_2 rfl ?_
  refine r_iload_n (pc := 3) X dL_setSample_3 rfl ?_
  refine r_iload_n (pc := 4) X dL_setSample_4 rfl ?_
  refine catchXE h (fun r1x M2 h3 h => ?_)
  refine r_callHi2 (pc := 5) X Y ⟨(ltb rfl), (ltb rfl)⟩ rfl vy_X11_setSample my_X11_setSample ml_L_42 ⟨Nat.le_of_ble_eq_true rfl, Nat.le_of_ble_eq_true rfl, Nat.le_of_ble_eq_true rfl, Nat.le_of_ble_eq_true rfl⟩ (fun sz => c_X11_setSample Y.1  h3) h (Nat.le_of_ble_eq_true rfl) dL_setSample_5 (fun r1 hvr1 h => ?_) (fun k9 q9 hk9 h => ?_)
  · refine r_i2l (pc := 8) X dL_setSample_8 ?_
    refine r_lastN (pc := 9) X (n := 1) ⟨(ltb rfl), (ltb rfl), hfl⟩ rfl (nlt rfl) dL_setSample_9 h (fun M4 h => ?_)
    refine r_goto (pc := 10) X (tgt := 21) dL_setSample_10 (by decide) ?_
    refine r_iconst (pc := 21) X (v := 0) dL_setSample_21 (by decide) ?_
    cases h
    exact T_widen (k := 2) (n := 12) (Nat.le_of_ble_eq_true rfl) (Nat.le_of_ble_eq_true rfl) (r_iret (pc := 22) X hr dL_setSample_22)
  · refine swN h (fun hq h => ?_) (fun hq0 h => ?_)
    · subst hq
      refine r_catch X Y ht (by decide) 0 rfl (fun z hz => by simp only [List.take, List.not_mem_nil] at hz) (by decide) (by decide) cl_L_27 ?_
      refine r_astore (pc := 13) X (by decide) dL_setSample_13 ?_
      refine r_iconst (pc := 15) X (v := 1) dL_setSample_15 (by decide) ?_
      cases h
      exact T_widen (k := 2) (n := 12) (Nat.le_of_ble_eq_true rfl) (Nat.le_of_ble_eq_true rfl) (r_iret (pc := 16) X hr dL_setSample_16)
    refine swN h (fun hq h => ?_) (fun hq1 h => ?_)
    · subst hq
      refine r_catch X Y ht (by decide) 1 rfl (fun z hz => by
        simp only [List.take, List.mem_cons, List.not_mem_nil, or_false] at hz
        rcases hz with rfl
        exact ⟨by decide, 2, by decide, by decide, cl_L_27⟩) (by decide) (by decide) cl_L_19 ?_
      refine r_astore (pc := 17) X (by decide) dL_setSample_17 ?_
      refine r_iconst (pc := 19) X (v := 2) dL_setSample_19 (by decide) ?_
      cases h
      exact T_widen (k := 2) (n := 12) (Nat.le_of_ble_eq_true rfl) (Nat.le_of_ble_eq_true rfl) (r_iret (pc := 20) X hr dL_setSample_20)
    cases h
theorem c_L_setSample {G : GG} {l : Launch} {sz : Nat} (hlf : l.stackTraces = false) (hfl : G.2.2.2.2 = true) {x1 : Int32} {x2 : Int32} {r : Int32} {M M' : Mem}  (h : f_L_setSample x1 x2 M = some (r, M')) : Met l yL_setSample (wsH yL_setSample cL_setSample 5 (some .int) [(0, 10, 13, 27), (0, 10, 17, 19)]) (rmX 8 2) (PcX G sz [.ref (G.2.1 (9, 0, 0)), .int x1, .int x2, .ref (G.2.1 (40, 0, 0))] M) (QiO G (AX G sz) r M') 2 12 (AX G sz) :=
  metH_of (k := 2) (own := RL) hlf rfl (by decide +kernel) (Nat.le_of_ble_eq_true rfl) (fun p e s m args below meth c X Y ht hr => t_L_setSample X Y ht hr hfl  h)
-- ConverterScannerLaw.setWindow
def f_L_setWindow (x1 : Int32) (x2 : Int32) (x3 : Int32) (M : Mem) : Option (Int32 × Mem) :=
  catchX (f_X11_setWindow x1 x2 x3 M) (fun r1 M2 => if bad 0 1 then none else nm (uL M2 (40, 0, 0) (Int32.toNatClampNeg 0) (Int32.toInt64 r1)) (fun M4 => some (0, M4))) (fun e9 M2 => if e9 = 2 then some (1, M2) else if e9 = 1 then some (2, M2) else none)
set_option maxHeartbeats 4000000 in
set_option maxRecDepth 100000 in
theorem t_L_setWindow {G : GG} {A : Nat → Prop} {p : Program} {l : Launch} {e : Env} {s : State} {m : MethodId} {args : Array Value} {below : List Frame} {meth : Method} {c : Code} {r : Int32} {M' : Mem} (X : Cx G A p s m args meth c RL cL_setWindow 6) (Y : CxH G A l s) (ht : c.exceptionTable.toList = tableOf [(0, 12, 15, 27), (0, 12, 19, 19)]) (hr : meth.sig.returnType = some .int) (hfl : G.2.2.2.2 = true) {x1 : Int32} {x2 : Int32} {x3 : Int32} {M : Mem}  (h : f_L_setWindow x1 x2 x3 M = some (r, M')) : T G A p l e (rmX 8 2) s m args below meth c 6 0 0 (MQ below (QiO G A r M') args s 2 12 A) 0 [(0, .ref (G.2.1 (9, 0, 0))), (1, .int x1), (2, .int x2), (3, .int x3), (4, .ref (G.2.1 (40, 0, 0)))] [] M := by
  unfold f_L_setWindow at h
  refine r_aload (pc := 0) X dL_setWindow_0 rfl ?_
  refine r_iconst (pc := 2) X (v := 0) dL_setWindow_2 (by decide) ?_
  refine r_aload_n (pc := 3) X dL_setWindow_3 rfl ?_
  refine r_iload_n (pc := 4) X dL_setWindow_4 rfl ?_
  refine r_iload_n (pc := 5) X dL_setWindow_5 rfl ?_
  refine r_iload_n (pc := 6) X dL_setWindow_6 rfl ?_
  refine catchXE h (fun r1x M2 h3 h => ?_)
  refine r_callHi3 (pc := 7) X Y ⟨(ltb rfl), (ltb rfl)⟩ rfl vy_X11_setWindow my_X11_setWindow ml_L_46 ⟨Nat.le_of_ble_eq_true rfl, Nat.le_of_ble_eq_true rfl, Nat.le_of_ble_eq_true rfl, Nat.le_of_ble_eq_true rfl⟩ (fun sz => c_X11_setWindow Y.1  h3) h (Nat.le_of_ble_eq_true rfl) dL_setWindow_7 (fun r1 hvr1 h => ?_) (fun k9 q9 hk9 h => ?_)
  · refine r_i2l (pc := 10) X dL_setWindow_10 ?_
    refine r_lastN (pc := 11) X (n := 1) ⟨(ltb rfl), (ltb rfl), hfl⟩ rfl (nlt rfl) dL_setWindow_11 h (fun M4 h => ?_)
    refine r_goto (pc := 12) X (tgt := 23) dL_setWindow_12 (by decide) ?_
    refine r_iconst (pc := 23) X (v := 0) dL_setWindow_23 (by decide) ?_
    cases h
    exact T_widen (k := 2) (n := 12) (Nat.le_of_ble_eq_true rfl) (Nat.le_of_ble_eq_true rfl) (r_iret (pc := 24) X hr dL_setWindow_24)
  · refine swN h (fun hq h => ?_) (fun hq0 h => ?_)
    · subst hq
      refine r_catch X Y ht (by decide) 0 rfl (fun z hz => by simp only [List.take, List.not_mem_nil] at hz) (by decide) (by decide) cl_L_27 ?_
      refine r_astore (pc := 15) X (by decide) dL_setWindow_15 ?_
      refine r_iconst (pc := 17) X (v := 1) dL_setWindow_17 (by decide) ?_
      cases h
      exact T_widen (k := 2) (n := 12) (Nat.le_of_ble_eq_true rfl) (Nat.le_of_ble_eq_true rfl) (r_iret (pc := 18) X hr dL_setWindow_18)
    refine swN h (fun hq h => ?_) (fun hq1 h => ?_)
    · subst hq
      refine r_catch X Y ht (by decide) 1 rfl (fun z hz => by
        simp only [List.take, List.mem_cons, List.not_mem_nil, or_false] at hz
        rcases hz with rfl
        exact ⟨by decide, 2, by decide, by decide, cl_L_27⟩) (by decide) (by decide) cl_L_19 ?_
      refine r_astore (pc := 19) X (by decide) dL_setWindow_19 ?_
      refine r_iconst (pc := 21) X (v := 2) dL_setWindow_21 (by decide) ?_
      cases h
      exact T_widen (k := 2) (n := 12) (Nat.le_of_ble_eq_true rfl) (Nat.le_of_ble_eq_true rfl) (r_iret (pc := 22) X hr dL_setWindow_22)
    cases h
theorem c_L_setWindow {G : GG} {l : Launch} {sz : Nat} (hlf : l.stackTraces = false) (hfl : G.2.2.2.2 = true) {x1 : Int32} {x2 : Int32} {x3 : Int32} {r : Int32} {M M' : Mem}  (h : f_L_setWindow x1 x2 x3 M = some (r, M')) : Met l yL_setWindow (wsH yL_setWindow cL_setWindow 6 (some .int) [(0, 12, 15, 27), (0, 12, 19, 19)]) (rmX 8 2) (PcX G sz [.ref (G.2.1 (9, 0, 0)), .int x1, .int x2, .int x3, .ref (G.2.1 (40, 0, 0))] M) (QiO G (AX G sz) r M') 2 12 (AX G sz) :=
  metH_of (k := 2) (own := RL) hlf rfl (by decide +kernel) (Nat.le_of_ble_eq_true rfl) (fun p e s m args below meth c X Y ht hr => t_L_setWindow X Y ht hr hfl  h)
-- ConverterScannerLaw.setPace
def f_L_setPace (x1 : Int32) (M : Mem) : Option (Int32 × Mem) :=
  catchX (f_X11_setPace x1 M) (fun r1 M2 => if bad 0 1 then none else nm (uL M2 (40, 0, 0) (Int32.toNatClampNeg 0) (Int32.toInt64 r1)) (fun M4 => some (0, M4))) (fun e9 M2 => if e9 = 1 then some (1, M2) else none)
set_option maxHeartbeats 4000000 in
set_option maxRecDepth 100000 in
theorem t_L_setPace {G : GG} {A : Nat → Prop} {p : Program} {l : Launch} {e : Env} {s : State} {m : MethodId} {args : Array Value} {below : List Frame} {meth : Method} {c : Code} {r : Int32} {M' : Mem} (X : Cx G A p s m args meth c RL cL_setPace 4) (Y : CxH G A l s) (ht : c.exceptionTable.toList = tableOf [(0, 9, 12, 19)]) (hr : meth.sig.returnType = some .int) (hfl : G.2.2.2.2 = true) {x1 : Int32} {M : Mem}  (h : f_L_setPace x1 M = some (r, M')) : T G A p l e (rmX 8 1) s m args below meth c 4 0 0 (MQ below (QiO G A r M') args s 1 6 A) 0 [(0, .ref (G.2.1 (9, 0, 0))), (1, .int x1), (2, .ref (G.2.1 (40, 0, 0)))] [] M := by
  unfold f_L_setPace at h
  refine r_aload_n (pc := 0) X dL_setPace_0 rfl ?_
  refine r_iconst (pc := 1) X (v := 0) dL_setPace_1 (by decide) ?_
  refine r_aload_n (pc := 2) X dL_setPace_2 rfl ?_
  refine r_iload_n (pc := 3) X dL_setPace_3 rfl ?_
  refine catchXE h (fun r1x M2 h3 h => ?_)
  refine r_callHi1 (pc := 4) X Y ⟨(ltb rfl), (ltb rfl)⟩ rfl vy_X11_setPace my_X11_setPace ml_L_50 ⟨Nat.le_of_ble_eq_true rfl, Nat.le_of_ble_eq_true rfl, Nat.le_of_ble_eq_true rfl, Nat.le_of_ble_eq_true rfl⟩ (fun sz => c_X11_setPace Y.1  h3) h (Nat.le_of_ble_eq_true rfl) dL_setPace_4 (fun r1 hvr1 h => ?_) (fun k9 q9 hk9 h => ?_)
  · refine r_i2l (pc := 7) X dL_setPace_7 ?_
    refine r_lastN (pc := 8) X (n := 1) ⟨(ltb rfl), (ltb rfl), hfl⟩ rfl (nlt rfl) dL_setPace_8 h (fun M4 h => ?_)
    refine r_goto (pc := 9) X (tgt := 15) dL_setPace_9 (by decide) ?_
    refine r_iconst (pc := 15) X (v := 0) dL_setPace_15 (by decide) ?_
    cases h
    exact T_widen (k := 1) (n := 6) (Nat.le_of_ble_eq_true rfl) (Nat.le_of_ble_eq_true rfl) (r_iret (pc := 16) X hr dL_setPace_16)
  · refine swN h (fun hq h => ?_) (fun hq0 h => ?_)
    · subst hq
      refine r_catch X Y ht (by decide) 0 rfl (fun z hz => by simp only [List.take, List.not_mem_nil] at hz) (by decide) (by decide) cl_L_19 ?_
      refine r_astore_n (pc := 12) X (by decide) dL_setPace_12 ?_
      refine r_iconst (pc := 13) X (v := 1) dL_setPace_13 (by decide) ?_
      cases h
      exact T_widen (k := 1) (n := 6) (Nat.le_of_ble_eq_true rfl) (Nat.le_of_ble_eq_true rfl) (r_iret (pc := 14) X hr dL_setPace_14)
    cases h
theorem c_L_setPace {G : GG} {l : Launch} {sz : Nat} (hlf : l.stackTraces = false) (hfl : G.2.2.2.2 = true) {x1 : Int32} {r : Int32} {M M' : Mem}  (h : f_L_setPace x1 M = some (r, M')) : Met l yL_setPace (wsH yL_setPace cL_setPace 4 (some .int) [(0, 9, 12, 19)]) (rmX 8 1) (PcX G sz [.ref (G.2.1 (9, 0, 0)), .int x1, .ref (G.2.1 (40, 0, 0))] M) (QiO G (AX G sz) r M') 1 6 (AX G sz) :=
  metH_of (k := 1) (own := RL) hlf rfl (by decide +kernel) (Nat.le_of_ble_eq_true rfl) (fun p e s m args below meth c X Y ht hr => t_L_setPace X Y ht hr hfl  h)
-- ConverterScannerLaw.state
def f_L_state (x1 : Int32) (M : Mem) : Option (Int32 × Mem) :=
  catchX (f_X11_state x1 M) (fun r1 M2 => if bad 0 1 then none else nm (uL M2 (40, 0, 0) (Int32.toNatClampNeg 0) (Int32.toInt64 r1)) (fun M4 => some (0, M4))) (fun e9 M2 => if e9 = 1 then some (1, M2) else none)
set_option maxHeartbeats 4000000 in
set_option maxRecDepth 100000 in
theorem t_L_state {G : GG} {A : Nat → Prop} {p : Program} {l : Launch} {e : Env} {s : State} {m : MethodId} {args : Array Value} {below : List Frame} {meth : Method} {c : Code} {r : Int32} {M' : Mem} (X : Cx G A p s m args meth c RL cL_state 4) (Y : CxH G A l s) (ht : c.exceptionTable.toList = tableOf [(0, 9, 12, 19)]) (hr : meth.sig.returnType = some .int) (hfl : G.2.2.2.2 = true) {x1 : Int32} {M : Mem}  (h : f_L_state x1 M = some (r, M')) : T G A p l e (rmX 8 1) s m args below meth c 4 0 0 (MQ below (QiO G A r M') args s 1 6 A) 0 [(0, .ref (G.2.1 (9, 0, 0))), (1, .int x1), (2, .ref (G.2.1 (40, 0, 0)))] [] M := by
  unfold f_L_state at h
  refine r_aload_n (pc := 0) X dL_state_0 rfl ?_
  refine r_iconst (pc := 1) X (v := 0) dL_state_1 (by decide) ?_
  refine r_aload_n (pc := 2) X dL_state_2 rfl ?_
  refine r_iload_n (pc := 3) X dL_state_3 rfl ?_
  refine catchXE h (fun r1x M2 h3 h => ?_)
  refine r_callHi1 (pc := 4) X Y ⟨(ltb rfl), (ltb rfl)⟩ rfl vy_X11_state my_X11_state ml_L_53 ⟨Nat.le_of_ble_eq_true rfl, Nat.le_of_ble_eq_true rfl, Nat.le_of_ble_eq_true rfl, Nat.le_of_ble_eq_true rfl⟩ (fun sz => c_X11_state Y.1  h3) h (Nat.le_of_ble_eq_true rfl) dL_state_4 (fun r1 hvr1 h => ?_) (fun k9 q9 hk9 h => ?_)
  · refine r_i2l (pc := 7) X dL_state_7 ?_
    refine r_lastN (pc := 8) X (n := 1) ⟨(ltb rfl), (ltb rfl), hfl⟩ rfl (nlt rfl) dL_state_8 h (fun M4 h => ?_)
    refine r_goto (pc := 9) X (tgt := 15) dL_state_9 (by decide) ?_
    refine r_iconst (pc := 15) X (v := 0) dL_state_15 (by decide) ?_
    cases h
    exact T_widen (k := 1) (n := 6) (Nat.le_of_ble_eq_true rfl) (Nat.le_of_ble_eq_true rfl) (r_iret (pc := 16) X hr dL_state_16)
  · refine swN h (fun hq h => ?_) (fun hq0 h => ?_)
    · subst hq
      refine r_catch X Y ht (by decide) 0 rfl (fun z hz => by simp only [List.take, List.not_mem_nil] at hz) (by decide) (by decide) cl_L_19 ?_
      refine r_astore_n (pc := 12) X (by decide) dL_state_12 ?_
      refine r_iconst (pc := 13) X (v := 1) dL_state_13 (by decide) ?_
      cases h
      exact T_widen (k := 1) (n := 6) (Nat.le_of_ble_eq_true rfl) (Nat.le_of_ble_eq_true rfl) (r_iret (pc := 14) X hr dL_state_14)
    cases h
theorem c_L_state {G : GG} {l : Launch} {sz : Nat} (hlf : l.stackTraces = false) (hfl : G.2.2.2.2 = true) {x1 : Int32} {r : Int32} {M M' : Mem}  (h : f_L_state x1 M = some (r, M')) : Met l yL_state (wsH yL_state cL_state 4 (some .int) [(0, 9, 12, 19)]) (rmX 8 1) (PcX G sz [.ref (G.2.1 (9, 0, 0)), .int x1, .ref (G.2.1 (40, 0, 0))] M) (QiO G (AX G sz) r M') 1 6 (AX G sz) :=
  metH_of (k := 1) (own := RL) hlf rfl (by decide +kernel) (Nat.le_of_ble_eq_true rfl) (fun p e s m args below meth c X Y ht hr => t_L_state X Y ht hr hfl  h)
-- ConverterScannerLaw.sequence
def f_L_sequence (x1 : Int32) (x2 : Int32) (M : Mem) : Option (Int32 × Mem) :=
  catchX (f_X11_sequence x1 x2 M) (fun r1 M2 => if bad 0 1 then none else nm (uL M2 (40, 0, 0) (Int32.toNatClampNeg 0) (Int32.toInt64 r1)) (fun M4 => some (0, M4))) (fun e9 M2 => if e9 = 1 then some (1, M2) else none)
set_option maxHeartbeats 4000000 in
set_option maxRecDepth 100000 in
theorem t_L_sequence {G : GG} {A : Nat → Prop} {p : Program} {l : Launch} {e : Env} {s : State} {m : MethodId} {args : Array Value} {below : List Frame} {meth : Method} {c : Code} {r : Int32} {M' : Mem} (X : Cx G A p s m args meth c RL cL_sequence 5) (Y : CxH G A l s) (ht : c.exceptionTable.toList = tableOf [(0, 10, 13, 19)]) (hr : meth.sig.returnType = some .int) (hfl : G.2.2.2.2 = true) {x1 : Int32} {x2 : Int32} {M : Mem}  (h : f_L_sequence x1 x2 M = some (r, M')) : T G A p l e (rmX 8 1) s m args below meth c 5 0 0 (MQ below (QiO G A r M') args s 1 6 A) 0 [(0, .ref (G.2.1 (9, 0, 0))), (1, .int x1), (2, .int x2), (3, .ref (G.2.1 (40, 0, 0)))] [] M := by
  unfold f_L_sequence at h
  refine r_aload_n (pc := 0) X dL_sequence_0 rfl ?_
  refine r_iconst (pc := 1) X (v := 0) dL_sequence_1 (by decide) ?_
  refine r_aload_n (pc := 2) X dL_sequence_2 rfl ?_
  refine r_iload_n (pc := 3) X dL_sequence_3 rfl ?_
  refine r_iload_n (pc := 4) X dL_sequence_4 rfl ?_
  refine catchXE h (fun r1x M2 h3 h => ?_)
  refine r_callHi2 (pc := 5) X Y ⟨(ltb rfl), (ltb rfl)⟩ rfl vy_X11_sequence my_X11_sequence ml_L_56 ⟨Nat.le_of_ble_eq_true rfl, Nat.le_of_ble_eq_true rfl, Nat.le_of_ble_eq_true rfl, Nat.le_of_ble_eq_true rfl⟩ (fun sz => c_X11_sequence Y.1  h3) h (Nat.le_of_ble_eq_true rfl) dL_sequence_5 (fun r1 hvr1 h => ?_) (fun k9 q9 hk9 h => ?_)
  · refine r_i2l (pc := 8) X dL_sequence_8 ?_
    refine r_lastN (pc := 9) X (n := 1) ⟨(ltb rfl), (ltb rfl), hfl⟩ rfl (nlt rfl) dL_sequence_9 h (fun M4 h => ?_)
    refine r_goto (pc := 10) X (tgt := 17) dL_sequence_10 (by decide) ?_
    refine r_iconst (pc := 17) X (v := 0) dL_sequence_17 (by decide) ?_
    cases h
    exact T_widen (k := 1) (n := 6) (Nat.le_of_ble_eq_true rfl) (Nat.le_of_ble_eq_true rfl) (r_iret (pc := 18) X hr dL_sequence_18)
  · refine swN h (fun hq h => ?_) (fun hq0 h => ?_)
    · subst hq
      refine r_catch X Y ht (by decide) 0 rfl (fun z hz => by simp only [List.take, List.not_mem_nil] at hz) (by decide) (by decide) cl_L_19 ?_
      refine r_astore (pc := 13) X (by decide) dL_sequence_13 ?_
      refine r_iconst (pc := 15) X (v := 1) dL_sequence_15 (by decide) ?_
      cases h
      exact T_widen (k := 1) (n := 6) (Nat.le_of_ble_eq_true rfl) (Nat.le_of_ble_eq_true rfl) (r_iret (pc := 16) X hr dL_sequence_16)
    cases h
theorem c_L_sequence {G : GG} {l : Launch} {sz : Nat} (hlf : l.stackTraces = false) (hfl : G.2.2.2.2 = true) {x1 : Int32} {x2 : Int32} {r : Int32} {M M' : Mem}  (h : f_L_sequence x1 x2 M = some (r, M')) : Met l yL_sequence (wsH yL_sequence cL_sequence 5 (some .int) [(0, 10, 13, 19)]) (rmX 8 1) (PcX G sz [.ref (G.2.1 (9, 0, 0)), .int x1, .int x2, .ref (G.2.1 (40, 0, 0))] M) (QiO G (AX G sz) r M') 1 6 (AX G sz) :=
  metH_of (k := 1) (own := RL) hlf rfl (by decide +kernel) (Nat.le_of_ble_eq_true rfl) (fun p e s m args below meth c X Y ht hr => t_L_sequence X Y ht hr hfl  h)
-- ConverterScannerLaw.entry
def f_L_entry (x1 : Int32) (x2 : Int32) (M : Mem) : Option (Int32 × Mem) :=
  catchX (f_X11_entry x1 x2 M) (fun r1 M2 => if bad 0 1 then none else nm (uL M2 (40, 0, 0) (Int32.toNatClampNeg 0) (Int32.toInt64 r1)) (fun M4 => some (0, M4))) (fun e9 M2 => if e9 = 2 then some (1, M2) else none)
set_option maxHeartbeats 4000000 in
set_option maxRecDepth 100000 in
theorem t_L_entry {G : GG} {A : Nat → Prop} {p : Program} {l : Launch} {e : Env} {s : State} {m : MethodId} {args : Array Value} {below : List Frame} {meth : Method} {c : Code} {r : Int32} {M' : Mem} (X : Cx G A p s m args meth c RL cL_entry 5) (Y : CxH G A l s) (ht : c.exceptionTable.toList = tableOf [(0, 10, 13, 27)]) (hr : meth.sig.returnType = some .int) (hfl : G.2.2.2.2 = true) {x1 : Int32} {x2 : Int32} {M : Mem}  (h : f_L_entry x1 x2 M = some (r, M')) : T G A p l e (rmX 7 1) s m args below meth c 5 0 0 (MQ below (QiO G A r M') args s 1 6 A) 0 [(0, .ref (G.2.1 (9, 0, 0))), (1, .int x1), (2, .int x2), (3, .ref (G.2.1 (40, 0, 0)))] [] M := by
  unfold f_L_entry at h
  refine r_aload_n (pc := 0) X dL_entry_0 rfl ?_
  refine r_iconst (pc := 1) X (v := 0) dL_entry_1 (by decide) ?_
  refine r_aload_n (pc := 2) X dL_entry_2 rfl ?_
  refine r_iload_n (pc := 3) X dL_entry_3 rfl ?_
  refine r_iload_n (pc := 4) X dL_entry_4 rfl ?_
  refine catchXE h (fun r1x M2 h3 h => ?_)
  refine r_callHi2 (pc := 5) X Y ⟨(ltb rfl), (ltb rfl)⟩ rfl vy_X11_entry my_X11_entry ml_L_60 ⟨Nat.le_of_ble_eq_true rfl, Nat.le_of_ble_eq_true rfl, Nat.le_of_ble_eq_true rfl, Nat.le_of_ble_eq_true rfl⟩ (fun sz => c_X11_entry Y.1  h3) h (Nat.le_of_ble_eq_true rfl) dL_entry_5 (fun r1 hvr1 h => ?_) (fun k9 q9 hk9 h => ?_)
  · refine r_i2l (pc := 8) X dL_entry_8 ?_
    refine r_lastN (pc := 9) X (n := 1) ⟨(ltb rfl), (ltb rfl), hfl⟩ rfl (nlt rfl) dL_entry_9 h (fun M4 h => ?_)
    refine r_goto (pc := 10) X (tgt := 17) dL_entry_10 (by decide) ?_
    refine r_iconst (pc := 17) X (v := 0) dL_entry_17 (by decide) ?_
    cases h
    exact T_widen (k := 1) (n := 6) (Nat.le_of_ble_eq_true rfl) (Nat.le_of_ble_eq_true rfl) (r_iret (pc := 18) X hr dL_entry_18)
  · refine swN h (fun hq h => ?_) (fun hq0 h => ?_)
    · subst hq
      refine r_catch X Y ht (by decide) 0 rfl (fun z hz => by simp only [List.take, List.not_mem_nil] at hz) (by decide) (by decide) cl_L_27 ?_
      refine r_astore (pc := 13) X (by decide) dL_entry_13 ?_
      refine r_iconst (pc := 15) X (v := 1) dL_entry_15 (by decide) ?_
      cases h
      exact T_widen (k := 1) (n := 6) (Nat.le_of_ble_eq_true rfl) (Nat.le_of_ble_eq_true rfl) (r_iret (pc := 16) X hr dL_entry_16)
    cases h
theorem c_L_entry {G : GG} {l : Launch} {sz : Nat} (hlf : l.stackTraces = false) (hfl : G.2.2.2.2 = true) {x1 : Int32} {x2 : Int32} {r : Int32} {M M' : Mem}  (h : f_L_entry x1 x2 M = some (r, M')) : Met l yL_entry (wsH yL_entry cL_entry 5 (some .int) [(0, 10, 13, 27)]) (rmX 7 1) (PcX G sz [.ref (G.2.1 (9, 0, 0)), .int x1, .int x2, .ref (G.2.1 (40, 0, 0))] M) (QiO G (AX G sz) r M') 1 6 (AX G sz) :=
  metH_of (k := 1) (own := RL) hlf rfl (by decide +kernel) (Nat.le_of_ble_eq_true rfl) (fun p e s m args below meth c X Y ht hr => t_L_entry X Y ht hr hfl  h)
-- ConverterScannerLaw.channel
def f_L_channel (x1 : Int32) (x2 : Int32) (M : Mem) : Option (Int32 × Mem) :=
  catchX (f_X11_channel x1 x2 M) (fun r1 M2 => if bad 0 1 then none else nm (uL M2 (40, 0, 0) (Int32.toNatClampNeg 0) (Int32.toInt64 r1)) (fun M4 => some (0, M4))) (fun e9 M2 => if e9 = 2 then some (1, M2) else if e9 = 1 then some (2, M2) else none)
set_option maxHeartbeats 4000000 in
set_option maxRecDepth 100000 in
theorem t_L_channel {G : GG} {A : Nat → Prop} {p : Program} {l : Launch} {e : Env} {s : State} {m : MethodId} {args : Array Value} {below : List Frame} {meth : Method} {c : Code} {r : Int32} {M' : Mem} (X : Cx G A p s m args meth c RL cL_channel 5) (Y : CxH G A l s) (ht : c.exceptionTable.toList = tableOf [(0, 10, 13, 27), (0, 10, 17, 19)]) (hr : meth.sig.returnType = some .int) (hfl : G.2.2.2.2 = true) {x1 : Int32} {x2 : Int32} {M : Mem}  (h : f_L_channel x1 x2 M = some (r, M')) : T G A p l e (rmX 8 2) s m args below meth c 5 0 0 (MQ below (QiO G A r M') args s 2 12 A) 0 [(0, .ref (G.2.1 (9, 0, 0))), (1, .int x1), (2, .int x2), (3, .ref (G.2.1 (40, 0, 0)))] [] M := by
  unfold f_L_channel at h
  refine r_aload_n (pc := 0) X dL_channel_0 rfl ?_
  refine r_iconst (pc := 1) X (v := 0) dL_channel_1 (by decide) ?_
  refine r_aload_n (pc := 2) X dL_channel_2 rfl ?_
  refine r_iload_n (pc := 3) X dL_channel_3 rfl ?_
  refine r_iload_n (pc := 4) X dL_channel_4 rfl ?_
  refine catchXE h (fun r1x M2 h3 h => ?_)
  refine r_callHi2 (pc := 5) X Y ⟨(ltb rfl), (ltb rfl)⟩ rfl vy_X11_channel my_X11_channel ml_L_63 ⟨Nat.le_of_ble_eq_true rfl, Nat.le_of_ble_eq_true rfl, Nat.le_of_ble_eq_true rfl, Nat.le_of_ble_eq_true rfl⟩ (fun sz => c_X11_channel Y.1  h3) h (Nat.le_of_ble_eq_true rfl) dL_channel_5 (fun r1 hvr1 h => ?_) (fun k9 q9 hk9 h => ?_)
  · refine r_i2l (pc := 8) X dL_channel_8 ?_
    refine r_lastN (pc := 9) X (n := 1) ⟨(ltb rfl), (ltb rfl), hfl⟩ rfl (nlt rfl) dL_channel_9 h (fun M4 h => ?_)
    refine r_goto (pc := 10) X (tgt := 21) dL_channel_10 (by decide) ?_
    refine r_iconst (pc := 21) X (v := 0) dL_channel_21 (by decide) ?_
    cases h
    exact T_widen (k := 2) (n := 12) (Nat.le_of_ble_eq_true rfl) (Nat.le_of_ble_eq_true rfl) (r_iret (pc := 22) X hr dL_channel_22)
  · refine swN h (fun hq h => ?_) (fun hq0 h => ?_)
    · subst hq
      refine r_catch X Y ht (by decide) 0 rfl (fun z hz => by simp only [List.take, List.not_mem_nil] at hz) (by decide) (by decide) cl_L_27 ?_
      refine r_astore (pc := 13) X (by decide) dL_channel_13 ?_
      refine r_iconst (pc := 15) X (v := 1) dL_channel_15 (by decide) ?_
      cases h
      exact T_widen (k := 2) (n := 12) (Nat.le_of_ble_eq_true rfl) (Nat.le_of_ble_eq_true rfl) (r_iret (pc := 16) X hr dL_channel_16)
    refine swN h (fun hq h => ?_) (fun hq1 h => ?_)
    · subst hq
      refine r_catch X Y ht (by decide) 1 rfl (fun z hz => by
        simp only [List.take, List.mem_cons, List.not_mem_nil, or_false] at hz
        rcases hz with rfl
        exact ⟨by decide, 2, by decide, by decide, cl_L_27⟩) (by decide) (by decide) cl_L_19 ?_
      refine r_astore (pc := 17) X (by decide) dL_channel_17 ?_
      refine r_iconst (pc := 19) X (v := 2) dL_channel_19 (by decide) ?_
      cases h
      exact T_widen (k := 2) (n := 12) (Nat.le_of_ble_eq_true rfl) (Nat.le_of_ble_eq_true rfl) (r_iret (pc := 20) X hr dL_channel_20)
    cases h
theorem c_L_channel {G : GG} {l : Launch} {sz : Nat} (hlf : l.stackTraces = false) (hfl : G.2.2.2.2 = true) {x1 : Int32} {x2 : Int32} {r : Int32} {M M' : Mem}  (h : f_L_channel x1 x2 M = some (r, M')) : Met l yL_channel (wsH yL_channel cL_channel 5 (some .int) [(0, 10, 13, 27), (0, 10, 17, 19)]) (rmX 8 2) (PcX G sz [.ref (G.2.1 (9, 0, 0)), .int x1, .int x2, .ref (G.2.1 (40, 0, 0))] M) (QiO G (AX G sz) r M') 2 12 (AX G sz) :=
  metH_of (k := 2) (own := RL) hlf rfl (by decide +kernel) (Nat.le_of_ble_eq_true rfl) (fun p e s m args below meth c X Y ht hr => t_L_channel X Y ht hr hfl  h)
-- ConverterScannerLaw.sum
def f_L_sum (x1 : Int32) (M : Mem) : Option (Int32 × Mem) :=
  catchX (f_X11_sum x1 M) (fun r1 M2 => if bad 0 1 then none else nm (uL M2 (40, 0, 0) (Int32.toNatClampNeg 0) r1) (fun M4 => some (0, M4))) (fun e9 M2 => if e9 = 2 then some (1, M2) else none)
set_option maxHeartbeats 4000000 in
set_option maxRecDepth 100000 in
theorem t_L_sum {G : GG} {A : Nat → Prop} {p : Program} {l : Launch} {e : Env} {s : State} {m : MethodId} {args : Array Value} {below : List Frame} {meth : Method} {c : Code} {r : Int32} {M' : Mem} (X : Cx G A p s m args meth c RL cL_sum 4) (Y : CxH G A l s) (ht : c.exceptionTable.toList = tableOf [(0, 8, 11, 27)]) (hr : meth.sig.returnType = some .int) (hfl : G.2.2.2.2 = true) {x1 : Int32} {M : Mem}  (h : f_L_sum x1 M = some (r, M')) : T G A p l e (rmX 8 1) s m args below meth c 4 0 0 (MQ below (QiO G A r M') args s 1 6 A) 0 [(0, .ref (G.2.1 (9, 0, 0))), (1, .int x1), (2, .ref (G.2.1 (40, 0, 0)))] [] M := by
  unfold f_L_sum at h
  refine r_aload_n (pc := 0) X dL_sum_0 rfl ?_
  refine r_iconst (pc := 1) X (v := 0) dL_sum_1 (by decide) ?_
  refine r_aload_n (pc := 2) X dL_sum_2 rfl ?_
  refine r_iload_n (pc := 3) X dL_sum_3 rfl ?_
  refine catchXE h (fun r1x M2 h3 h => ?_)
  refine r_callHl1 (pc := 4) X Y ⟨(ltb rfl), (ltb rfl)⟩ rfl vy_X11_sum my_X11_sum ml_L_66 ⟨Nat.le_of_ble_eq_true rfl, Nat.le_of_ble_eq_true rfl, Nat.le_of_ble_eq_true rfl, Nat.le_of_ble_eq_true rfl⟩ (fun sz => c_X11_sum Y.1  h3) h (Nat.le_of_ble_eq_true rfl) dL_sum_4 (fun r1 hvr1 h => ?_) (fun k9 q9 hk9 h => ?_)
  · refine r_lastN (pc := 7) X (n := 1) ⟨(ltb rfl), (ltb rfl), hfl⟩ rfl (nlt rfl) dL_sum_7 h (fun M4 h => ?_)
    refine r_goto (pc := 8) X (tgt := 14) dL_sum_8 (by decide) ?_
    refine r_iconst (pc := 14) X (v := 0) dL_sum_14 (by decide) ?_
    cases h
    exact T_widen (k := 1) (n := 6) (Nat.le_of_ble_eq_true rfl) (Nat.le_of_ble_eq_true rfl) (r_iret (pc := 15) X hr dL_sum_15)
  · refine swN h (fun hq h => ?_) (fun hq0 h => ?_)
    · subst hq
      refine r_catch X Y ht (by decide) 0 rfl (fun z hz => by simp only [List.take, List.not_mem_nil] at hz) (by decide) (by decide) cl_L_27 ?_
      refine r_astore_n (pc := 11) X (by decide) dL_sum_11 ?_
      refine r_iconst (pc := 12) X (v := 1) dL_sum_12 (by decide) ?_
      cases h
      exact T_widen (k := 1) (n := 6) (Nat.le_of_ble_eq_true rfl) (Nat.le_of_ble_eq_true rfl) (r_iret (pc := 13) X hr dL_sum_13)
    cases h
theorem c_L_sum {G : GG} {l : Launch} {sz : Nat} (hlf : l.stackTraces = false) (hfl : G.2.2.2.2 = true) {x1 : Int32} {r : Int32} {M M' : Mem}  (h : f_L_sum x1 M = some (r, M')) : Met l yL_sum (wsH yL_sum cL_sum 4 (some .int) [(0, 8, 11, 27)]) (rmX 8 1) (PcX G sz [.ref (G.2.1 (9, 0, 0)), .int x1, .ref (G.2.1 (40, 0, 0))] M) (QiO G (AX G sz) r M') 1 6 (AX G sz) :=
  metH_of (k := 1) (own := RL) hlf rfl (by decide +kernel) (Nat.le_of_ble_eq_true rfl) (fun p e s m args below meth c X Y ht hr => t_L_sum X Y ht hr hfl  h)
-- ConverterScannerLaw.mean
def f_L_mean (x1 : Int32) (M : Mem) : Option (Int32 × Mem) :=
  catchX (f_X11_mean x1 M) (fun r1 M2 => if bad 0 1 then none else nm (uD M2 (41, 0, 0) (Int32.toNatClampNeg 0) r1) (fun M4 => some (0, M4))) (fun e9 M2 => if e9 = 2 then some (1, M2) else if e9 = 3 then some (2, M2) else none)
set_option maxHeartbeats 4000000 in
set_option maxRecDepth 100000 in
theorem t_L_mean {G : GG} {A : Nat → Prop} {p : Program} {l : Launch} {e : Env} {s : State} {m : MethodId} {args : Array Value} {below : List Frame} {meth : Method} {c : Code} {r : Int32} {M' : Mem} (X : Cx G A p s m args meth c RL cL_mean 4) (Y : CxH G A l s) (ht : c.exceptionTable.toList = tableOf [(0, 8, 11, 27), (0, 8, 14, 33)]) (hr : meth.sig.returnType = some .int) (hfl : G.2.2.2.2 = true) {x1 : Int32} {M : Mem}  (h : f_L_mean x1 M = some (r, M')) : T G A p l e (rmX 8 2) s m args below meth c 4 0 0 (MQ below (QiO G A r M') args s 2 12 A) 0 [(0, .ref (G.2.1 (9, 0, 0))), (1, .int x1), (2, .ref (G.2.1 (41, 0, 0)))] [] M := by
  unfold f_L_mean at h
  refine r_aload_n (pc := 0) X dL_mean_0 rfl ?_
  refine r_iconst (pc := 1) X (v := 0) dL_mean_1 (by decide) ?_
  refine r_aload_n (pc := 2) X dL_mean_2 rfl ?_
  refine r_iload_n (pc := 3) X dL_mean_3 rfl ?_
  refine catchXE h (fun r1x M2 h3 h => ?_)
  refine r_callHd1 (pc := 4) X Y ⟨(ltb rfl), (ltb rfl)⟩ rfl vy_X11_mean my_X11_mean ml_L_70 ⟨Nat.le_of_ble_eq_true rfl, Nat.le_of_ble_eq_true rfl, Nat.le_of_ble_eq_true rfl, Nat.le_of_ble_eq_true rfl⟩ (fun sz => c_X11_mean Y.1  h3) h (Nat.le_of_ble_eq_true rfl) dL_mean_4 (fun r1 hvr1 h => ?_) (fun k9 q9 hk9 h => ?_)
  · refine r_dastN (pc := 7) X (n := 1) ⟨(ltb rfl), (ltb rfl), hfl⟩ rfl (nlt rfl) dL_mean_7 h (fun M4 h => ?_)
    refine r_goto (pc := 8) X (tgt := 17) dL_mean_8 (by decide) ?_
    refine r_iconst (pc := 17) X (v := 0) dL_mean_17 (by decide) ?_
    cases h
    exact T_widen (k := 2) (n := 12) (Nat.le_of_ble_eq_true rfl) (Nat.le_of_ble_eq_true rfl) (r_iret (pc := 18) X hr dL_mean_18)
  · refine swN h (fun hq h => ?_) (fun hq0 h => ?_)
    · subst hq
      refine r_catch X Y ht (by decide) 0 rfl (fun z hz => by simp only [List.take, List.not_mem_nil] at hz) (by decide) (by decide) cl_L_27 ?_
      refine r_astore_n (pc := 11) X (by decide) dL_mean_11 ?_
      refine r_iconst (pc := 12) X (v := 1) dL_mean_12 (by decide) ?_
      cases h
      exact T_widen (k := 2) (n := 12) (Nat.le_of_ble_eq_true rfl) (Nat.le_of_ble_eq_true rfl) (r_iret (pc := 13) X hr dL_mean_13)
    refine swN h (fun hq h => ?_) (fun hq1 h => ?_)
    · subst hq
      refine r_catch X Y ht (by decide) 1 rfl (fun z hz => by
        simp only [List.take, List.mem_cons, List.not_mem_nil, or_false] at hz
        rcases hz with rfl
        exact ⟨by decide, 2, by decide, by decide, cl_L_27⟩) (by decide) (by decide) cl_L_33 ?_
      refine r_astore_n (pc := 14) X (by decide) dL_mean_14 ?_
      refine r_iconst (pc := 15) X (v := 2) dL_mean_15 (by decide) ?_
      cases h
      exact T_widen (k := 2) (n := 12) (Nat.le_of_ble_eq_true rfl) (Nat.le_of_ble_eq_true rfl) (r_iret (pc := 16) X hr dL_mean_16)
    cases h
theorem c_L_mean {G : GG} {l : Launch} {sz : Nat} (hlf : l.stackTraces = false) (hfl : G.2.2.2.2 = true) {x1 : Int32} {r : Int32} {M M' : Mem}  (h : f_L_mean x1 M = some (r, M')) : Met l yL_mean (wsH yL_mean cL_mean 4 (some .int) [(0, 8, 11, 27), (0, 8, 14, 33)]) (rmX 8 2) (PcX G sz [.ref (G.2.1 (9, 0, 0)), .int x1, .ref (G.2.1 (41, 0, 0))] M) (QiO G (AX G sz) r M') 2 12 (AX G sz) :=
  metH_of (k := 2) (own := RL) hlf rfl (by decide +kernel) (Nat.le_of_ble_eq_true rfl) (fun p e s m args below meth c X Y ht hr => t_L_mean X Y ht hr hfl  h)
-- ConverterScannerLaw.trigger
def f_L_trigger (x1 : Int32) (x2 : Int32) (M : Mem) : Option (Int32 × Mem) :=
  catchX (f_X11_trigger x1 x2 M) (fun r1 M2 => if bad 0 1 then none else nm (uL M2 (40, 0, 0) (Int32.toNatClampNeg 0) (Int32.toInt64 r1)) (fun M4 => some (0, M4))) (fun e9 M2 => if e9 = 2 then some (1, M2) else if e9 = 1 then some (2, M2) else none)
set_option maxHeartbeats 4000000 in
set_option maxRecDepth 100000 in
theorem t_L_trigger {G : GG} {A : Nat → Prop} {p : Program} {l : Launch} {e : Env} {s : State} {m : MethodId} {args : Array Value} {below : List Frame} {meth : Method} {c : Code} {r : Int32} {M' : Mem} (X : Cx G A p s m args meth c RL cL_trigger 5) (Y : CxH G A l s) (ht : c.exceptionTable.toList = tableOf [(0, 10, 13, 27), (0, 10, 17, 19)]) (hr : meth.sig.returnType = some .int) (hfl : G.2.2.2.2 = true) {x1 : Int32} {x2 : Int32} {M : Mem}  (h : f_L_trigger x1 x2 M = some (r, M')) : T G A p l e (rmX 8 2) s m args below meth c 5 0 0 (MQ below (QiO G A r M') args s 2 12 A) 0 [(0, .ref (G.2.1 (9, 0, 0))), (1, .int x1), (2, .int x2), (3, .ref (G.2.1 (40, 0, 0)))] [] M := by
  unfold f_L_trigger at h
  refine r_aload_n (pc := 0) X dL_trigger_0 rfl ?_
  refine r_iconst (pc := 1) X (v := 0) dL_trigger_1 (by decide) ?_
  refine r_aload_n (pc := 2) X dL_trigger_2 rfl ?_
  refine r_iload_n (pc := 3) X dL_trigger_3 rfl ?_
  refine r_iload_n (pc := 4) X dL_trigger_4 rfl ?_
  refine catchXE h (fun r1x M2 h3 h => ?_)
  refine r_callHi2 (pc := 5) X Y ⟨(ltb rfl), (ltb rfl)⟩ rfl vy_X11_trigger my_X11_trigger ml_L_74 ⟨Nat.le_of_ble_eq_true rfl, Nat.le_of_ble_eq_true rfl, Nat.le_of_ble_eq_true rfl, Nat.le_of_ble_eq_true rfl⟩ (fun sz => c_X11_trigger Y.1  h3) h (Nat.le_of_ble_eq_true rfl) dL_trigger_5 (fun r1 hvr1 h => ?_) (fun k9 q9 hk9 h => ?_)
  · refine r_i2l (pc := 8) X dL_trigger_8 ?_
    refine r_lastN (pc := 9) X (n := 1) ⟨(ltb rfl), (ltb rfl), hfl⟩ rfl (nlt rfl) dL_trigger_9 h (fun M4 h => ?_)
    refine r_goto (pc := 10) X (tgt := 21) dL_trigger_10 (by decide) ?_
    refine r_iconst (pc := 21) X (v := 0) dL_trigger_21 (by decide) ?_
    cases h
    exact T_widen (k := 2) (n := 12) (Nat.le_of_ble_eq_true rfl) (Nat.le_of_ble_eq_true rfl) (r_iret (pc := 22) X hr dL_trigger_22)
  · refine swN h (fun hq h => ?_) (fun hq0 h => ?_)
    · subst hq
      refine r_catch X Y ht (by decide) 0 rfl (fun z hz => by simp only [List.take, List.not_mem_nil] at hz) (by decide) (by decide) cl_L_27 ?_
      refine r_astore (pc := 13) X (by decide) dL_trigger_13 ?_
      refine r_iconst (pc := 15) X (v := 1) dL_trigger_15 (by decide) ?_
      cases h
      exact T_widen (k := 2) (n := 12) (Nat.le_of_ble_eq_true rfl) (Nat.le_of_ble_eq_true rfl) (r_iret (pc := 16) X hr dL_trigger_16)
    refine swN h (fun hq h => ?_) (fun hq1 h => ?_)
    · subst hq
      refine r_catch X Y ht (by decide) 1 rfl (fun z hz => by
        simp only [List.take, List.mem_cons, List.not_mem_nil, or_false] at hz
        rcases hz with rfl
        exact ⟨by decide, 2, by decide, by decide, cl_L_27⟩) (by decide) (by decide) cl_L_19 ?_
      refine r_astore (pc := 17) X (by decide) dL_trigger_17 ?_
      refine r_iconst (pc := 19) X (v := 2) dL_trigger_19 (by decide) ?_
      cases h
      exact T_widen (k := 2) (n := 12) (Nat.le_of_ble_eq_true rfl) (Nat.le_of_ble_eq_true rfl) (r_iret (pc := 20) X hr dL_trigger_20)
    cases h
theorem c_L_trigger {G : GG} {l : Launch} {sz : Nat} (hlf : l.stackTraces = false) (hfl : G.2.2.2.2 = true) {x1 : Int32} {x2 : Int32} {r : Int32} {M M' : Mem}  (h : f_L_trigger x1 x2 M = some (r, M')) : Met l yL_trigger (wsH yL_trigger cL_trigger 5 (some .int) [(0, 10, 13, 27), (0, 10, 17, 19)]) (rmX 8 2) (PcX G sz [.ref (G.2.1 (9, 0, 0)), .int x1, .int x2, .ref (G.2.1 (40, 0, 0))] M) (QiO G (AX G sz) r M') 2 12 (AX G sz) :=
  metH_of (k := 2) (own := RL) hlf rfl (by decide +kernel) (Nat.le_of_ble_eq_true rfl) (fun p e s m args below meth c X Y ht hr => t_L_trigger X Y ht hr hfl  h)
-- ConverterScannerLaw.window
def f_L_window (x1 : Int32) (x2 : Int32) (M : Mem) : Option (Int32 × Mem) :=
  catchX (f_X11_window x1 x2 M) (fun r1 M2 => if bad 0 1 then none else nm (uL M2 (40, 0, 0) (Int32.toNatClampNeg 0) (Int32.toInt64 r1)) (fun M4 => some (0, M4))) (fun e9 M2 => if e9 = 2 then some (1, M2) else if e9 = 1 then some (2, M2) else none)
set_option maxHeartbeats 4000000 in
set_option maxRecDepth 100000 in
theorem t_L_window {G : GG} {A : Nat → Prop} {p : Program} {l : Launch} {e : Env} {s : State} {m : MethodId} {args : Array Value} {below : List Frame} {meth : Method} {c : Code} {r : Int32} {M' : Mem} (X : Cx G A p s m args meth c RL cL_window 5) (Y : CxH G A l s) (ht : c.exceptionTable.toList = tableOf [(0, 10, 13, 27), (0, 10, 17, 19)]) (hr : meth.sig.returnType = some .int) (hfl : G.2.2.2.2 = true) {x1 : Int32} {x2 : Int32} {M : Mem}  (h : f_L_window x1 x2 M = some (r, M')) : T G A p l e (rmX 8 2) s m args below meth c 5 0 0 (MQ below (QiO G A r M') args s 2 12 A) 0 [(0, .ref (G.2.1 (9, 0, 0))), (1, .int x1), (2, .int x2), (3, .ref (G.2.1 (40, 0, 0)))] [] M := by
  unfold f_L_window at h
  refine r_aload_n (pc := 0) X dL_window_0 rfl ?_
  refine r_iconst (pc := 1) X (v := 0) dL_window_1 (by decide) ?_
  refine r_aload_n (pc := 2) X dL_window_2 rfl ?_
  refine r_iload_n (pc := 3) X dL_window_3 rfl ?_
  refine r_iload_n (pc := 4) X dL_window_4 rfl ?_
  refine catchXE h (fun r1x M2 h3 h => ?_)
  refine r_callHi2 (pc := 5) X Y ⟨(ltb rfl), (ltb rfl)⟩ rfl vy_X11_window my_X11_window ml_L_77 ⟨Nat.le_of_ble_eq_true rfl, Nat.le_of_ble_eq_true rfl, Nat.le_of_ble_eq_true rfl, Nat.le_of_ble_eq_true rfl⟩ (fun sz => c_X11_window Y.1  h3) h (Nat.le_of_ble_eq_true rfl) dL_window_5 (fun r1 hvr1 h => ?_) (fun k9 q9 hk9 h => ?_)
  · refine r_i2l (pc := 8) X dL_window_8 ?_
    refine r_lastN (pc := 9) X (n := 1) ⟨(ltb rfl), (ltb rfl), hfl⟩ rfl (nlt rfl) dL_window_9 h (fun M4 h => ?_)
    refine r_goto (pc := 10) X (tgt := 21) dL_window_10 (by decide) ?_
    refine r_iconst (pc := 21) X (v := 0) dL_window_21 (by decide) ?_
    cases h
    exact T_widen (k := 2) (n := 12) (Nat.le_of_ble_eq_true rfl) (Nat.le_of_ble_eq_true rfl) (r_iret (pc := 22) X hr dL_window_22)
  · refine swN h (fun hq h => ?_) (fun hq0 h => ?_)
    · subst hq
      refine r_catch X Y ht (by decide) 0 rfl (fun z hz => by simp only [List.take, List.not_mem_nil] at hz) (by decide) (by decide) cl_L_27 ?_
      refine r_astore (pc := 13) X (by decide) dL_window_13 ?_
      refine r_iconst (pc := 15) X (v := 1) dL_window_15 (by decide) ?_
      cases h
      exact T_widen (k := 2) (n := 12) (Nat.le_of_ble_eq_true rfl) (Nat.le_of_ble_eq_true rfl) (r_iret (pc := 16) X hr dL_window_16)
    refine swN h (fun hq h => ?_) (fun hq1 h => ?_)
    · subst hq
      refine r_catch X Y ht (by decide) 1 rfl (fun z hz => by
        simp only [List.take, List.mem_cons, List.not_mem_nil, or_false] at hz
        rcases hz with rfl
        exact ⟨by decide, 2, by decide, by decide, cl_L_27⟩) (by decide) (by decide) cl_L_19 ?_
      refine r_astore (pc := 17) X (by decide) dL_window_17 ?_
      refine r_iconst (pc := 19) X (v := 2) dL_window_19 (by decide) ?_
      cases h
      exact T_widen (k := 2) (n := 12) (Nat.le_of_ble_eq_true rfl) (Nat.le_of_ble_eq_true rfl) (r_iret (pc := 20) X hr dL_window_20)
    cases h
theorem c_L_window {G : GG} {l : Launch} {sz : Nat} (hlf : l.stackTraces = false) (hfl : G.2.2.2.2 = true) {x1 : Int32} {x2 : Int32} {r : Int32} {M M' : Mem}  (h : f_L_window x1 x2 M = some (r, M')) : Met l yL_window (wsH yL_window cL_window 5 (some .int) [(0, 10, 13, 27), (0, 10, 17, 19)]) (rmX 8 2) (PcX G sz [.ref (G.2.1 (9, 0, 0)), .int x1, .int x2, .ref (G.2.1 (40, 0, 0))] M) (QiO G (AX G sz) r M') 2 12 (AX G sz) :=
  metH_of (k := 2) (own := RL) hlf rfl (by decide +kernel) (Nat.le_of_ble_eq_true rfl) (fun p e s m args below meth c X Y ht hr => t_L_window X Y ht hr hfl  h)
-- ConverterScannerLaw.signal
def f_L_signal (x1 : Int32) (x2 : Int32) (M : Mem) : Option (Int32 × Mem) :=
  catchX (f_X11_signal x1 x2 M) (fun r1 M2 => if bad 0 1 then none else nm (uL M2 (40, 0, 0) (Int32.toNatClampNeg 0) (Int32.toInt64 r1)) (fun M4 => some (0, M4))) (fun e9 M2 => if e9 = 2 then some (1, M2) else if e9 = 1 then some (2, M2) else none)
set_option maxHeartbeats 4000000 in
set_option maxRecDepth 100000 in
theorem t_L_signal {G : GG} {A : Nat → Prop} {p : Program} {l : Launch} {e : Env} {s : State} {m : MethodId} {args : Array Value} {below : List Frame} {meth : Method} {c : Code} {r : Int32} {M' : Mem} (X : Cx G A p s m args meth c RL cL_signal 5) (Y : CxH G A l s) (ht : c.exceptionTable.toList = tableOf [(0, 10, 13, 27), (0, 10, 17, 19)]) (hr : meth.sig.returnType = some .int) (hfl : G.2.2.2.2 = true) {x1 : Int32} {x2 : Int32} {M : Mem}  (h : f_L_signal x1 x2 M = some (r, M')) : T G A p l e (rmX 8 2) s m args below meth c 5 0 0 (MQ below (QiO G A r M') args s 2 12 A) 0 [(0, .ref (G.2.1 (9, 0, 0))), (1, .int x1), (2, .int x2), (3, .ref (G.2.1 (40, 0, 0)))] [] M := by
  unfold f_L_signal at h
  refine r_aload_n (pc := 0) X dL_signal_0 rfl ?_
  refine r_iconst (pc := 1) X (v := 0) dL_signal_1 (by decide) ?_
  refine r_aload_n (pc := 2) X dL_signal_2 rfl ?_
  refine r_iload_n (pc := 3) X dL_signal_3 rfl ?_
  refine r_iload_n (pc := 4) X dL_signal_4 rfl ?_
  refine catchXE h (fun r1x M2 h3 h => ?_)
  refine r_callHi2 (pc := 5) X Y ⟨(ltb rfl), (ltb rfl)⟩ rfl vy_X11_signal my_X11_signal ml_L_80 ⟨Nat.le_of_ble_eq_true rfl, Nat.le_of_ble_eq_true rfl, Nat.le_of_ble_eq_true rfl, Nat.le_of_ble_eq_true rfl⟩ (fun sz => c_X11_signal Y.1  h3) h (Nat.le_of_ble_eq_true rfl) dL_signal_5 (fun r1 hvr1 h => ?_) (fun k9 q9 hk9 h => ?_)
  · refine r_i2l (pc := 8) X dL_signal_8 ?_
    refine r_lastN (pc := 9) X (n := 1) ⟨(ltb rfl), (ltb rfl), hfl⟩ rfl (nlt rfl) dL_signal_9 h (fun M4 h => ?_)
    refine r_goto (pc := 10) X (tgt := 21) dL_signal_10 (by decide) ?_
    refine r_iconst (pc := 21) X (v := 0) dL_signal_21 (by decide) ?_
    cases h
    exact T_widen (k := 2) (n := 12) (Nat.le_of_ble_eq_true rfl) (Nat.le_of_ble_eq_true rfl) (r_iret (pc := 22) X hr dL_signal_22)
  · refine swN h (fun hq h => ?_) (fun hq0 h => ?_)
    · subst hq
      refine r_catch X Y ht (by decide) 0 rfl (fun z hz => by simp only [List.take, List.not_mem_nil] at hz) (by decide) (by decide) cl_L_27 ?_
      refine r_astore (pc := 13) X (by decide) dL_signal_13 ?_
      refine r_iconst (pc := 15) X (v := 1) dL_signal_15 (by decide) ?_
      cases h
      exact T_widen (k := 2) (n := 12) (Nat.le_of_ble_eq_true rfl) (Nat.le_of_ble_eq_true rfl) (r_iret (pc := 16) X hr dL_signal_16)
    refine swN h (fun hq h => ?_) (fun hq1 h => ?_)
    · subst hq
      refine r_catch X Y ht (by decide) 1 rfl (fun z hz => by
        simp only [List.take, List.mem_cons, List.not_mem_nil, or_false] at hz
        rcases hz with rfl
        exact ⟨by decide, 2, by decide, by decide, cl_L_27⟩) (by decide) (by decide) cl_L_19 ?_
      refine r_astore (pc := 17) X (by decide) dL_signal_17 ?_
      refine r_iconst (pc := 19) X (v := 2) dL_signal_19 (by decide) ?_
      cases h
      exact T_widen (k := 2) (n := 12) (Nat.le_of_ble_eq_true rfl) (Nat.le_of_ble_eq_true rfl) (r_iret (pc := 20) X hr dL_signal_20)
    cases h
theorem c_L_signal {G : GG} {l : Launch} {sz : Nat} (hlf : l.stackTraces = false) (hfl : G.2.2.2.2 = true) {x1 : Int32} {x2 : Int32} {r : Int32} {M M' : Mem}  (h : f_L_signal x1 x2 M = some (r, M')) : Met l yL_signal (wsH yL_signal cL_signal 5 (some .int) [(0, 10, 13, 27), (0, 10, 17, 19)]) (rmX 8 2) (PcX G sz [.ref (G.2.1 (9, 0, 0)), .int x1, .int x2, .ref (G.2.1 (40, 0, 0))] M) (QiO G (AX G sz) r M') 2 12 (AX G sz) :=
  metH_of (k := 2) (own := RL) hlf rfl (by decide +kernel) (Nat.le_of_ble_eq_true rfl) (fun p e s m args below meth c X Y ht hr => t_L_signal X Y ht hr hfl  h)
-- ConverterScannerLaw.queued
def f_L_queued (x1 : Int32) (x2 : Int32) (M : Mem) : Option (Int32 × Mem) :=
  catchX (f_X11_queued x1 x2 M) (fun r1 M2 => if bad 0 1 then none else nm (uL M2 (40, 0, 0) (Int32.toNatClampNeg 0) (Int32.toInt64 r1)) (fun M4 => some (0, M4))) (fun e9 M2 => if e9 = 3 then some (1, M2) else if e9 = 1 then some (2, M2) else none)
set_option maxHeartbeats 4000000 in
set_option maxRecDepth 100000 in
theorem t_L_queued {G : GG} {A : Nat → Prop} {p : Program} {l : Launch} {e : Env} {s : State} {m : MethodId} {args : Array Value} {below : List Frame} {meth : Method} {c : Code} {r : Int32} {M' : Mem} (X : Cx G A p s m args meth c RL cL_queued 5) (Y : CxH G A l s) (ht : c.exceptionTable.toList = tableOf [(0, 10, 13, 33), (0, 10, 17, 19)]) (hr : meth.sig.returnType = some .int) (hfl : G.2.2.2.2 = true) {x1 : Int32} {x2 : Int32} {M : Mem}  (h : f_L_queued x1 x2 M = some (r, M')) : T G A p l e (rmX 9 2) s m args below meth c 5 0 0 (MQ below (QiO G A r M') args s 2 12 A) 0 [(0, .ref (G.2.1 (9, 0, 0))), (1, .int x1), (2, .int x2), (3, .ref (G.2.1 (40, 0, 0)))] [] M := by
  unfold f_L_queued at h
  refine r_aload_n (pc := 0) X dL_queued_0 rfl ?_
  refine r_iconst (pc := 1) X (v := 0) dL_queued_1 (by decide) ?_
  refine r_aload_n (pc := 2) X dL_queued_2 rfl ?_
  refine r_iload_n (pc := 3) X dL_queued_3 rfl ?_
  refine r_iload_n (pc := 4) X dL_queued_4 rfl ?_
  refine catchXE h (fun r1x M2 h3 h => ?_)
  refine r_callHi2 (pc := 5) X Y ⟨(ltb rfl), (ltb rfl)⟩ rfl vy_X11_queued my_X11_queued ml_L_83 ⟨Nat.le_of_ble_eq_true rfl, Nat.le_of_ble_eq_true rfl, Nat.le_of_ble_eq_true rfl, Nat.le_of_ble_eq_true rfl⟩ (fun sz => c_X11_queued Y.1  h3) h (Nat.le_of_ble_eq_true rfl) dL_queued_5 (fun r1 hvr1 h => ?_) (fun k9 q9 hk9 h => ?_)
  · refine r_i2l (pc := 8) X dL_queued_8 ?_
    refine r_lastN (pc := 9) X (n := 1) ⟨(ltb rfl), (ltb rfl), hfl⟩ rfl (nlt rfl) dL_queued_9 h (fun M4 h => ?_)
    refine r_goto (pc := 10) X (tgt := 21) dL_queued_10 (by decide) ?_
    refine r_iconst (pc := 21) X (v := 0) dL_queued_21 (by decide) ?_
    cases h
    exact T_widen (k := 2) (n := 12) (Nat.le_of_ble_eq_true rfl) (Nat.le_of_ble_eq_true rfl) (r_iret (pc := 22) X hr dL_queued_22)
  · refine swN h (fun hq h => ?_) (fun hq0 h => ?_)
    · subst hq
      refine r_catch X Y ht (by decide) 0 rfl (fun z hz => by simp only [List.take, List.not_mem_nil] at hz) (by decide) (by decide) cl_L_33 ?_
      refine r_astore (pc := 13) X (by decide) dL_queued_13 ?_
      refine r_iconst (pc := 15) X (v := 1) dL_queued_15 (by decide) ?_
      cases h
      exact T_widen (k := 2) (n := 12) (Nat.le_of_ble_eq_true rfl) (Nat.le_of_ble_eq_true rfl) (r_iret (pc := 16) X hr dL_queued_16)
    refine swN h (fun hq h => ?_) (fun hq1 h => ?_)
    · subst hq
      refine r_catch X Y ht (by decide) 1 rfl (fun z hz => by
        simp only [List.take, List.mem_cons, List.not_mem_nil, or_false] at hz
        rcases hz with rfl
        exact ⟨by decide, 3, by decide, by decide, cl_L_33⟩) (by decide) (by decide) cl_L_19 ?_
      refine r_astore (pc := 17) X (by decide) dL_queued_17 ?_
      refine r_iconst (pc := 19) X (v := 2) dL_queued_19 (by decide) ?_
      cases h
      exact T_widen (k := 2) (n := 12) (Nat.le_of_ble_eq_true rfl) (Nat.le_of_ble_eq_true rfl) (r_iret (pc := 20) X hr dL_queued_20)
    cases h
theorem c_L_queued {G : GG} {l : Launch} {sz : Nat} (hlf : l.stackTraces = false) (hfl : G.2.2.2.2 = true) {x1 : Int32} {x2 : Int32} {r : Int32} {M M' : Mem}  (h : f_L_queued x1 x2 M = some (r, M')) : Met l yL_queued (wsH yL_queued cL_queued 5 (some .int) [(0, 10, 13, 33), (0, 10, 17, 19)]) (rmX 9 2) (PcX G sz [.ref (G.2.1 (9, 0, 0)), .int x1, .int x2, .ref (G.2.1 (40, 0, 0))] M) (QiO G (AX G sz) r M') 2 12 (AX G sz) :=
  metH_of (k := 2) (own := RL) hlf rfl (by decide +kernel) (Nat.le_of_ble_eq_true rfl) (fun p e s m args below meth c X Y ht hr => t_L_queued X Y ht hr hfl  h)
-- ConverterScannerLaw.stored
def f_L_stored (x1 : Int32) (x2 : Int32) (M : Mem) : Option (Int32 × Mem) :=
  catchX (f_X11_stored x1 x2 M) (fun r1 M2 => if bad 0 1 then none else nm (uL M2 (40, 0, 0) (Int32.toNatClampNeg 0) (Int32.toInt64 r1)) (fun M4 => some (0, M4))) (fun e9 M2 => if e9 = 3 then some (1, M2) else if e9 = 1 then some (2, M2) else none)
set_option maxHeartbeats 4000000 in
set_option maxRecDepth 100000 in
theorem t_L_stored {G : GG} {A : Nat → Prop} {p : Program} {l : Launch} {e : Env} {s : State} {m : MethodId} {args : Array Value} {below : List Frame} {meth : Method} {c : Code} {r : Int32} {M' : Mem} (X : Cx G A p s m args meth c RL cL_stored 5) (Y : CxH G A l s) (ht : c.exceptionTable.toList = tableOf [(0, 10, 13, 33), (0, 10, 17, 19)]) (hr : meth.sig.returnType = some .int) (hfl : G.2.2.2.2 = true) {x1 : Int32} {x2 : Int32} {M : Mem}  (h : f_L_stored x1 x2 M = some (r, M')) : T G A p l e (rmX 9 2) s m args below meth c 5 0 0 (MQ below (QiO G A r M') args s 2 12 A) 0 [(0, .ref (G.2.1 (9, 0, 0))), (1, .int x1), (2, .int x2), (3, .ref (G.2.1 (40, 0, 0)))] [] M := by
  unfold f_L_stored at h
  refine r_aload_n (pc := 0) X dL_stored_0 rfl ?_
  refine r_iconst (pc := 1) X (v := 0) dL_stored_1 (by decide) ?_
  refine r_aload_n (pc := 2) X dL_stored_2 rfl ?_
  refine r_iload_n (pc := 3) X dL_stored_3 rfl ?_
  refine r_iload_n (pc := 4) X dL_stored_4 rfl ?_
  refine catchXE h (fun r1x M2 h3 h => ?_)
  refine r_callHi2 (pc := 5) X Y ⟨(ltb rfl), (ltb rfl)⟩ rfl vy_X11_stored my_X11_stored ml_L_86 ⟨Nat.le_of_ble_eq_true rfl, Nat.le_of_ble_eq_true rfl, Nat.le_of_ble_eq_true rfl, Nat.le_of_ble_eq_true rfl⟩ (fun sz => c_X11_stored Y.1  h3) h (Nat.le_of_ble_eq_true rfl) dL_stored_5 (fun r1 hvr1 h => ?_) (fun k9 q9 hk9 h => ?_)
  · refine r_i2l (pc := 8) X dL_stored_8 ?_
    refine r_lastN (pc := 9) X (n := 1) ⟨(ltb rfl), (ltb rfl), hfl⟩ rfl (nlt rfl) dL_stored_9 h (fun M4 h => ?_)
    refine r_goto (pc := 10) X (tgt := 21) dL_stored_10 (by decide) ?_
    refine r_iconst (pc := 21) X (v := 0) dL_stored_21 (by decide) ?_
    cases h
    exact T_widen (k := 2) (n := 12) (Nat.le_of_ble_eq_true rfl) (Nat.le_of_ble_eq_true rfl) (r_iret (pc := 22) X hr dL_stored_22)
  · refine swN h (fun hq h => ?_) (fun hq0 h => ?_)
    · subst hq
      refine r_catch X Y ht (by decide) 0 rfl (fun z hz => by simp only [List.take, List.not_mem_nil] at hz) (by decide) (by decide) cl_L_33 ?_
      refine r_astore (pc := 13) X (by decide) dL_stored_13 ?_
      refine r_iconst (pc := 15) X (v := 1) dL_stored_15 (by decide) ?_
      cases h
      exact T_widen (k := 2) (n := 12) (Nat.le_of_ble_eq_true rfl) (Nat.le_of_ble_eq_true rfl) (r_iret (pc := 16) X hr dL_stored_16)
    refine swN h (fun hq h => ?_) (fun hq1 h => ?_)
    · subst hq
      refine r_catch X Y ht (by decide) 1 rfl (fun z hz => by
        simp only [List.take, List.mem_cons, List.not_mem_nil, or_false] at hz
        rcases hz with rfl
        exact ⟨by decide, 3, by decide, by decide, cl_L_33⟩) (by decide) (by decide) cl_L_19 ?_
      refine r_astore (pc := 17) X (by decide) dL_stored_17 ?_
      refine r_iconst (pc := 19) X (v := 2) dL_stored_19 (by decide) ?_
      cases h
      exact T_widen (k := 2) (n := 12) (Nat.le_of_ble_eq_true rfl) (Nat.le_of_ble_eq_true rfl) (r_iret (pc := 20) X hr dL_stored_20)
    cases h
theorem c_L_stored {G : GG} {l : Launch} {sz : Nat} (hlf : l.stackTraces = false) (hfl : G.2.2.2.2 = true) {x1 : Int32} {x2 : Int32} {r : Int32} {M M' : Mem}  (h : f_L_stored x1 x2 M = some (r, M')) : Met l yL_stored (wsH yL_stored cL_stored 5 (some .int) [(0, 10, 13, 33), (0, 10, 17, 19)]) (rmX 9 2) (PcX G sz [.ref (G.2.1 (9, 0, 0)), .int x1, .int x2, .ref (G.2.1 (40, 0, 0))] M) (QiO G (AX G sz) r M') 2 12 (AX G sz) :=
  metH_of (k := 2) (own := RL) hlf rfl (by decide +kernel) (Nat.le_of_ble_eq_true rfl) (fun p e s m args below meth c X Y ht hr => t_L_stored X Y ht hr hfl  h)
-- ConverterScannerLaw.injected
def f_L_injected (x1 : Int32) (x2 : Int32) (M : Mem) : Option (Int32 × Mem) :=
  catchX (f_X11_injected x1 x2 M) (fun r1 M2 => if bad 0 1 then none else nm (uL M2 (40, 0, 0) (Int32.toNatClampNeg 0) (Int32.toInt64 r1)) (fun M4 => some (0, M4))) (fun e9 M2 => if e9 = 2 then some (1, M2) else if e9 = 1 then some (2, M2) else if e9 = 3 then some (3, M2) else none)
set_option maxHeartbeats 4000000 in
set_option maxRecDepth 100000 in
theorem t_L_injected {G : GG} {A : Nat → Prop} {p : Program} {l : Launch} {e : Env} {s : State} {m : MethodId} {args : Array Value} {below : List Frame} {meth : Method} {c : Code} {r : Int32} {M' : Mem} (X : Cx G A p s m args meth c RL cL_injected 5) (Y : CxH G A l s) (ht : c.exceptionTable.toList = tableOf [(0, 10, 13, 27), (0, 10, 17, 19), (0, 10, 21, 33)]) (hr : meth.sig.returnType = some .int) (hfl : G.2.2.2.2 = true) {x1 : Int32} {x2 : Int32} {M : Mem}  (h : f_L_injected x1 x2 M = some (r, M')) : T G A p l e (rmX 8 2) s m args below meth c 5 0 0 (MQ below (QiO G A r M') args s 2 12 A) 0 [(0, .ref (G.2.1 (9, 0, 0))), (1, .int x1), (2, .int x2), (3, .ref (G.2.1 (40, 0, 0)))] [] M := by
  unfold f_L_injected at h
  refine r_aload_n (pc := 0) X dL_injected_0 rfl ?_
  refine r_iconst (pc := 1) X (v := 0) dL_injected_1 (by decide) ?_
  refine r_aload_n (pc := 2) X dL_injected_2 rfl ?_
  refine r_iload_n (pc := 3) X dL_injected_3 rfl ?_
  refine r_iload_n (pc := 4) X dL_injected_4 rfl ?_
  refine catchXE h (fun r1x M2 h3 h => ?_)
  refine r_callHi2 (pc := 5) X Y ⟨(ltb rfl), (ltb rfl)⟩ rfl vy_X11_injected my_X11_injected ml_L_89 ⟨Nat.le_of_ble_eq_true rfl, Nat.le_of_ble_eq_true rfl, Nat.le_of_ble_eq_true rfl, Nat.le_of_ble_eq_true rfl⟩ (fun sz => c_X11_injected Y.1  h3) h (Nat.le_of_ble_eq_true rfl) dL_injected_5 (fun r1 hvr1 h => ?_) (fun k9 q9 hk9 h => ?_)
  · refine r_i2l (pc := 8) X dL_injected_8 ?_
    refine r_lastN (pc := 9) X (n := 1) ⟨(ltb rfl), (ltb rfl), hfl⟩ rfl (nlt rfl) dL_injected_9 h (fun M4 h => ?_)
    refine r_goto (pc := 10) X (tgt := 25) dL_injected_10 (by decide) ?_
    refine r_iconst (pc := 25) X (v := 0) dL_injected_25 (by decide) ?_
    cases h
    exact T_widen (k := 2) (n := 12) (Nat.le_of_ble_eq_true rfl) (Nat.le_of_ble_eq_true rfl) (r_iret (pc := 26) X hr dL_injected_26)
  · refine swN h (fun hq h => ?_) (fun hq0 h => ?_)
    · subst hq
      refine r_catch X Y ht (by decide) 0 rfl (fun z hz => by simp only [List.take, List.not_mem_nil] at hz) (by decide) (by decide) cl_L_27 ?_
      refine r_astore (pc := 13) X (by decide) dL_injected_13 ?_
      refine r_iconst (pc := 15) X (v := 1) dL_injected_15 (by decide) ?_
      cases h
      exact T_widen (k := 2) (n := 12) (Nat.le_of_ble_eq_true rfl) (Nat.le_of_ble_eq_true rfl) (r_iret (pc := 16) X hr dL_injected_16)
    refine swN h (fun hq h => ?_) (fun hq1 h => ?_)
    · subst hq
      refine r_catch X Y ht (by decide) 1 rfl (fun z hz => by
        simp only [List.take, List.mem_cons, List.not_mem_nil, or_false] at hz
        rcases hz with rfl
        exact ⟨by decide, 2, by decide, by decide, cl_L_27⟩) (by decide) (by decide) cl_L_19 ?_
      refine r_astore (pc := 17) X (by decide) dL_injected_17 ?_
      refine r_iconst (pc := 19) X (v := 2) dL_injected_19 (by decide) ?_
      cases h
      exact T_widen (k := 2) (n := 12) (Nat.le_of_ble_eq_true rfl) (Nat.le_of_ble_eq_true rfl) (r_iret (pc := 20) X hr dL_injected_20)
    refine swN h (fun hq h => ?_) (fun hq2 h => ?_)
    · subst hq
      refine r_catch X Y ht (by decide) 2 rfl (fun z hz => by
        simp only [List.take, List.mem_cons, List.not_mem_nil, or_false] at hz
        rcases hz with rfl | rfl
        · exact ⟨by decide, 2, by decide, by decide, cl_L_27⟩
        · exact ⟨by decide, 1, by decide, by decide, cl_L_19⟩) (by decide) (by decide) cl_L_33 ?_
      refine r_astore (pc := 21) X (by decide) dL_injected_21 ?_
      refine r_iconst (pc := 23) X (v := 3) dL_injected_23 (by decide) ?_
      cases h
      exact T_widen (k := 2) (n := 12) (Nat.le_of_ble_eq_true rfl) (Nat.le_of_ble_eq_true rfl) (r_iret (pc := 24) X hr dL_injected_24)
    cases h
theorem c_L_injected {G : GG} {l : Launch} {sz : Nat} (hlf : l.stackTraces = false) (hfl : G.2.2.2.2 = true) {x1 : Int32} {x2 : Int32} {r : Int32} {M M' : Mem}  (h : f_L_injected x1 x2 M = some (r, M')) : Met l yL_injected (wsH yL_injected cL_injected 5 (some .int) [(0, 10, 13, 27), (0, 10, 17, 19), (0, 10, 21, 33)]) (rmX 8 2) (PcX G sz [.ref (G.2.1 (9, 0, 0)), .int x1, .int x2, .ref (G.2.1 (40, 0, 0))] M) (QiO G (AX G sz) r M') 2 12 (AX G sz) :=
  metH_of (k := 2) (own := RL) hlf rfl (by decide +kernel) (Nat.le_of_ble_eq_true rfl) (fun p e s m args below meth c X Y ht hr => t_L_injected X Y ht hr hfl  h)
-- ConverterScannerLaw.latency
def f_L_latency (x1 : Int32) (M : Mem) : Option (Int32 × Mem) :=
  catchX (f_X11_latency x1 M) (fun r1 M2 => if bad 0 1 then none else nm (uD M2 (41, 0, 0) (Int32.toNatClampNeg 0) r1) (fun M4 => some (0, M4))) (fun e9 M2 => if e9 = 3 then some (1, M2) else none)
set_option maxHeartbeats 4000000 in
set_option maxRecDepth 100000 in
theorem t_L_latency {G : GG} {A : Nat → Prop} {p : Program} {l : Launch} {e : Env} {s : State} {m : MethodId} {args : Array Value} {below : List Frame} {meth : Method} {c : Code} {r : Int32} {M' : Mem} (X : Cx G A p s m args meth c RL cL_latency 4) (Y : CxH G A l s) (ht : c.exceptionTable.toList = tableOf [(0, 8, 11, 33)]) (hr : meth.sig.returnType = some .int) (hfl : G.2.2.2.2 = true) {x1 : Int32} {M : Mem}  (h : f_L_latency x1 M = some (r, M')) : T G A p l e (rmX 7 1) s m args below meth c 4 0 0 (MQ below (QiO G A r M') args s 1 6 A) 0 [(0, .ref (G.2.1 (9, 0, 0))), (1, .int x1), (2, .ref (G.2.1 (41, 0, 0)))] [] M := by
  unfold f_L_latency at h
  refine r_aload_n (pc := 0) X dL_latency_0 rfl ?_
  refine r_iconst (pc := 1) X (v := 0) dL_latency_1 (by decide) ?_
  refine r_aload_n (pc := 2) X dL_latency_2 rfl ?_
  refine r_iload_n (pc := 3) X dL_latency_3 rfl ?_
  refine catchXE h (fun r1x M2 h3 h => ?_)
  refine r_callHd1 (pc := 4) X Y ⟨(ltb rfl), (ltb rfl)⟩ rfl vy_X11_latency my_X11_latency ml_L_92 ⟨Nat.le_of_ble_eq_true rfl, Nat.le_of_ble_eq_true rfl, Nat.le_of_ble_eq_true rfl, Nat.le_of_ble_eq_true rfl⟩ (fun sz => c_X11_latency Y.1  h3) h (Nat.le_of_ble_eq_true rfl) dL_latency_4 (fun r1 hvr1 h => ?_) (fun k9 q9 hk9 h => ?_)
  · refine r_dastN (pc := 7) X (n := 1) ⟨(ltb rfl), (ltb rfl), hfl⟩ rfl (nlt rfl) dL_latency_7 h (fun M4 h => ?_)
    refine r_goto (pc := 8) X (tgt := 14) dL_latency_8 (by decide) ?_
    refine r_iconst (pc := 14) X (v := 0) dL_latency_14 (by decide) ?_
    cases h
    exact T_widen (k := 1) (n := 6) (Nat.le_of_ble_eq_true rfl) (Nat.le_of_ble_eq_true rfl) (r_iret (pc := 15) X hr dL_latency_15)
  · refine swN h (fun hq h => ?_) (fun hq0 h => ?_)
    · subst hq
      refine r_catch X Y ht (by decide) 0 rfl (fun z hz => by simp only [List.take, List.not_mem_nil] at hz) (by decide) (by decide) cl_L_33 ?_
      refine r_astore_n (pc := 11) X (by decide) dL_latency_11 ?_
      refine r_iconst (pc := 12) X (v := 1) dL_latency_12 (by decide) ?_
      cases h
      exact T_widen (k := 1) (n := 6) (Nat.le_of_ble_eq_true rfl) (Nat.le_of_ble_eq_true rfl) (r_iret (pc := 13) X hr dL_latency_13)
    cases h
theorem c_L_latency {G : GG} {l : Launch} {sz : Nat} (hlf : l.stackTraces = false) (hfl : G.2.2.2.2 = true) {x1 : Int32} {r : Int32} {M M' : Mem}  (h : f_L_latency x1 M = some (r, M')) : Met l yL_latency (wsH yL_latency cL_latency 4 (some .int) [(0, 8, 11, 33)]) (rmX 7 1) (PcX G sz [.ref (G.2.1 (9, 0, 0)), .int x1, .ref (G.2.1 (41, 0, 0))] M) (QiO G (AX G sz) r M') 1 6 (AX G sz) :=
  metH_of (k := 1) (own := RL) hlf rfl (by decide +kernel) (Nat.le_of_ble_eq_true rfl) (fun p e s m args below meth c X Y ht hr => t_L_latency X Y ht hr hfl  h)
-- ConverterScannerLaw.nextResult
def f_L_nextResult (x1 : Int32) (M : Mem) : Option (Int32 × Mem) :=
  catchX (f_X11_nextResult x1 M) (fun r1 M2 => if bad 0 1 then none else nm (uL M2 (40, 0, 0) (Int32.toNatClampNeg 0) (Int32.toInt64 r1)) (fun M4 => some (0, M4))) (fun e9 M2 => if e9 = 1 then some (1, M2) else none)
set_option maxHeartbeats 4000000 in
set_option maxRecDepth 100000 in
theorem t_L_nextResult {G : GG} {A : Nat → Prop} {p : Program} {l : Launch} {e : Env} {s : State} {m : MethodId} {args : Array Value} {below : List Frame} {meth : Method} {c : Code} {r : Int32} {M' : Mem} (X : Cx G A p s m args meth c RL cL_nextResult 4) (Y : CxH G A l s) (ht : c.exceptionTable.toList = tableOf [(0, 9, 12, 19)]) (hr : meth.sig.returnType = some .int) (hfl : G.2.2.2.2 = true) {x1 : Int32} {M : Mem}  (h : f_L_nextResult x1 M = some (r, M')) : T G A p l e (rmX 8 1) s m args below meth c 4 0 0 (MQ below (QiO G A r M') args s 1 6 A) 0 [(0, .ref (G.2.1 (9, 0, 0))), (1, .int x1), (2, .ref (G.2.1 (40, 0, 0)))] [] M := by
  unfold f_L_nextResult at h
  refine r_aload_n (pc := 0) X dL_nextResult_0 rfl ?_
  refine r_iconst (pc := 1) X (v := 0) dL_nextResult_1 (by decide) ?_
  refine r_aload_n (pc := 2) X dL_nextResult_2 rfl ?_
  refine r_iload_n (pc := 3) X dL_nextResult_3 rfl ?_
  refine catchXE h (fun r1x M2 h3 h => ?_)
  refine r_callHi1 (pc := 4) X Y ⟨(ltb rfl), (ltb rfl)⟩ rfl vy_X11_nextResult my_X11_nextResult ml_L_96 ⟨Nat.le_of_ble_eq_true rfl, Nat.le_of_ble_eq_true rfl, Nat.le_of_ble_eq_true rfl, Nat.le_of_ble_eq_true rfl⟩ (fun sz => c_X11_nextResult Y.1  h3) h (Nat.le_of_ble_eq_true rfl) dL_nextResult_4 (fun r1 hvr1 h => ?_) (fun k9 q9 hk9 h => ?_)
  · refine r_i2l (pc := 7) X dL_nextResult_7 ?_
    refine r_lastN (pc := 8) X (n := 1) ⟨(ltb rfl), (ltb rfl), hfl⟩ rfl (nlt rfl) dL_nextResult_8 h (fun M4 h => ?_)
    refine r_goto (pc := 9) X (tgt := 15) dL_nextResult_9 (by decide) ?_
    refine r_iconst (pc := 15) X (v := 0) dL_nextResult_15 (by decide) ?_
    cases h
    exact T_widen (k := 1) (n := 6) (Nat.le_of_ble_eq_true rfl) (Nat.le_of_ble_eq_true rfl) (r_iret (pc := 16) X hr dL_nextResult_16)
  · refine swN h (fun hq h => ?_) (fun hq0 h => ?_)
    · subst hq
      refine r_catch X Y ht (by decide) 0 rfl (fun z hz => by simp only [List.take, List.not_mem_nil] at hz) (by decide) (by decide) cl_L_19 ?_
      refine r_astore_n (pc := 12) X (by decide) dL_nextResult_12 ?_
      refine r_iconst (pc := 13) X (v := 1) dL_nextResult_13 (by decide) ?_
      cases h
      exact T_widen (k := 1) (n := 6) (Nat.le_of_ble_eq_true rfl) (Nat.le_of_ble_eq_true rfl) (r_iret (pc := 14) X hr dL_nextResult_14)
    cases h
theorem c_L_nextResult {G : GG} {l : Launch} {sz : Nat} (hlf : l.stackTraces = false) (hfl : G.2.2.2.2 = true) {x1 : Int32} {r : Int32} {M M' : Mem}  (h : f_L_nextResult x1 M = some (r, M')) : Met l yL_nextResult (wsH yL_nextResult cL_nextResult 4 (some .int) [(0, 9, 12, 19)]) (rmX 8 1) (PcX G sz [.ref (G.2.1 (9, 0, 0)), .int x1, .ref (G.2.1 (40, 0, 0))] M) (QiO G (AX G sz) r M') 1 6 (AX G sz) :=
  metH_of (k := 1) (own := RL) hlf rfl (by decide +kernel) (Nat.le_of_ble_eq_true rfl) (fun p e s m args below meth c X Y ht hr => t_L_nextResult X Y ht hr hfl  h)
-- ConverterScannerLaw.whenRaised
def f_L_whenRaised (x1 : Int32) (x2 : Int32) (M : Mem) : Option (Int32 × Mem) :=
  catchX (f_X11_whenRaised x1 x2 M) (fun r1 M2 => if bad 0 1 then none else nm (uL M2 (40, 0, 0) (Int32.toNatClampNeg 0) (Int32.toInt64 r1)) (fun M4 => some (0, M4))) (fun e9 M2 => if e9 = 2 then some (1, M2) else if e9 = 1 then some (2, M2) else none)
set_option maxHeartbeats 4000000 in
set_option maxRecDepth 100000 in
theorem t_L_whenRaised {G : GG} {A : Nat → Prop} {p : Program} {l : Launch} {e : Env} {s : State} {m : MethodId} {args : Array Value} {below : List Frame} {meth : Method} {c : Code} {r : Int32} {M' : Mem} (X : Cx G A p s m args meth c RL cL_whenRaised 5) (Y : CxH G A l s) (ht : c.exceptionTable.toList = tableOf [(0, 10, 13, 27), (0, 10, 17, 19)]) (hr : meth.sig.returnType = some .int) (hfl : G.2.2.2.2 = true) {x1 : Int32} {x2 : Int32} {M : Mem}  (h : f_L_whenRaised x1 x2 M = some (r, M')) : T G A p l e (rmX 8 2) s m args below meth c 5 0 0 (MQ below (QiO G A r M') args s 2 12 A) 0 [(0, .ref (G.2.1 (9, 0, 0))), (1, .int x1), (2, .int x2), (3, .ref (G.2.1 (40, 0, 0)))] [] M := by
  unfold f_L_whenRaised at h
  refine r_aload_n (pc := 0) X dL_whenRaised_0 rfl ?_
  refine r_iconst (pc := 1) X (v := 0) dL_whenRaised_1 (by decide) ?_
  refine r_aload_n (pc := 2) X dL_whenRaised_2 rfl ?_
  refine r_iload_n (pc := 3) X dL_whenRaised_3 rfl ?_
  refine r_iload_n (pc := 4) X dL_whenRaised_4 rfl ?_
  refine catchXE h (fun r1x M2 h3 h => ?_)
  refine r_callHi2 (pc := 5) X Y ⟨(ltb rfl), (ltb rfl)⟩ rfl vy_X11_whenRaised my_X11_whenRaised ml_L_99 ⟨Nat.le_of_ble_eq_true rfl, Nat.le_of_ble_eq_true rfl, Nat.le_of_ble_eq_true rfl, Nat.le_of_ble_eq_true rfl⟩ (fun sz => c_X11_whenRaised Y.1  h3) h (Nat.le_of_ble_eq_true rfl) dL_whenRaised_5 (fun r1 hvr1 h => ?_) (fun k9 q9 hk9 h => ?_)
  · refine r_i2l (pc := 8) X dL_whenRaised_8 ?_
    refine r_lastN (pc := 9) X (n := 1) ⟨(ltb rfl), (ltb rfl), hfl⟩ rfl (nlt rfl) dL_whenRaised_9 h (fun M4 h => ?_)
    refine r_goto (pc := 10) X (tgt := 21) dL_whenRaised_10 (by decide) ?_
    refine r_iconst (pc := 21) X (v := 0) dL_whenRaised_21 (by decide) ?_
    cases h
    exact T_widen (k := 2) (n := 12) (Nat.le_of_ble_eq_true rfl) (Nat.le_of_ble_eq_true rfl) (r_iret (pc := 22) X hr dL_whenRaised_22)
  · refine swN h (fun hq h => ?_) (fun hq0 h => ?_)
    · subst hq
      refine r_catch X Y ht (by decide) 0 rfl (fun z hz => by simp only [List.take, List.not_mem_nil] at hz) (by decide) (by decide) cl_L_27 ?_
      refine r_astore (pc := 13) X (by decide) dL_whenRaised_13 ?_
      refine r_iconst (pc := 15) X (v := 1) dL_whenRaised_15 (by decide) ?_
      cases h
      exact T_widen (k := 2) (n := 12) (Nat.le_of_ble_eq_true rfl) (Nat.le_of_ble_eq_true rfl) (r_iret (pc := 16) X hr dL_whenRaised_16)
    refine swN h (fun hq h => ?_) (fun hq1 h => ?_)
    · subst hq
      refine r_catch X Y ht (by decide) 1 rfl (fun z hz => by
        simp only [List.take, List.mem_cons, List.not_mem_nil, or_false] at hz
        rcases hz with rfl
        exact ⟨by decide, 2, by decide, by decide, cl_L_27⟩) (by decide) (by decide) cl_L_19 ?_
      refine r_astore (pc := 17) X (by decide) dL_whenRaised_17 ?_
      refine r_iconst (pc := 19) X (v := 2) dL_whenRaised_19 (by decide) ?_
      cases h
      exact T_widen (k := 2) (n := 12) (Nat.le_of_ble_eq_true rfl) (Nat.le_of_ble_eq_true rfl) (r_iret (pc := 20) X hr dL_whenRaised_20)
    cases h
theorem c_L_whenRaised {G : GG} {l : Launch} {sz : Nat} (hlf : l.stackTraces = false) (hfl : G.2.2.2.2 = true) {x1 : Int32} {x2 : Int32} {r : Int32} {M M' : Mem}  (h : f_L_whenRaised x1 x2 M = some (r, M')) : Met l yL_whenRaised (wsH yL_whenRaised cL_whenRaised 5 (some .int) [(0, 10, 13, 27), (0, 10, 17, 19)]) (rmX 8 2) (PcX G sz [.ref (G.2.1 (9, 0, 0)), .int x1, .int x2, .ref (G.2.1 (40, 0, 0))] M) (QiO G (AX G sz) r M') 2 12 (AX G sz) :=
  metH_of (k := 2) (own := RL) hlf rfl (by decide +kernel) (Nat.le_of_ble_eq_true rfl) (fun p e s m args below meth c X Y ht hr => t_L_whenRaised X Y ht hr hfl  h)
-- ConverterScannerLaw.overrunsWith
def f_L_overrunsWith (x1 : Int32) (x2 : Int32) (M : Mem) : Option (Int32 × Mem) :=
  catchX (f_X11_overrunsWith x1 x2 M) (fun r1 M2 => if bad 0 1 then none else nm (uL M2 (40, 0, 0) (Int32.toNatClampNeg 0) (Int32.toInt64 r1)) (fun M4 => some (0, M4))) (fun e9 M2 => if e9 = 1 then some (1, M2) else none)
set_option maxHeartbeats 4000000 in
set_option maxRecDepth 100000 in
theorem t_L_overrunsWith {G : GG} {A : Nat → Prop} {p : Program} {l : Launch} {e : Env} {s : State} {m : MethodId} {args : Array Value} {below : List Frame} {meth : Method} {c : Code} {r : Int32} {M' : Mem} (X : Cx G A p s m args meth c RL cL_overrunsWith 5) (Y : CxH G A l s) (ht : c.exceptionTable.toList = tableOf [(0, 10, 13, 19)]) (hr : meth.sig.returnType = some .int) (hfl : G.2.2.2.2 = true) {x1 : Int32} {x2 : Int32} {M : Mem}  (h : f_L_overrunsWith x1 x2 M = some (r, M')) : T G A p l e (rmX 8 2) s m args below meth c 5 0 0 (MQ below (QiO G A r M') args s 2 12 A) 0 [(0, .ref (G.2.1 (9, 0, 0))), (1, .int x1), (2, .int x2), (3, .ref (G.2.1 (40, 0, 0)))] [] M := by
  unfold f_L_overrunsWith at h
  refine r_aload_n (pc := 0) X dL_overrunsWith_0 rfl ?_
  refine r_iconst (pc := 1) X (v := 0) dL_overrunsWith_1 (by decide) ?_
  refine r_aload_n (pc := 2) X dL_overrunsWith_2 rfl ?_
  refine r_iload_n (pc := 3) X dL_overrunsWith_3 rfl ?_
  refine r_iload_n (pc := 4) X dL_overrunsWith_4 rfl ?_
  refine catchXE h (fun r1x M2 h3 h => ?_)
  refine r_callHi2 (pc := 5) X Y ⟨(ltb rfl), (ltb rfl)⟩ rfl vy_X11_overrunsWith my_X11_overrunsWith ml_L_102 ⟨Nat.le_of_ble_eq_true rfl, Nat.le_of_ble_eq_true rfl, Nat.le_of_ble_eq_true rfl, Nat.le_of_ble_eq_true rfl⟩ (fun sz => c_X11_overrunsWith Y.1  h3) h (Nat.le_of_ble_eq_true rfl) dL_overrunsWith_5 (fun r1 hvr1 h => ?_) (fun k9 q9 hk9 h => ?_)
  · refine r_i2l (pc := 8) X dL_overrunsWith_8 ?_
    refine r_lastN (pc := 9) X (n := 1) ⟨(ltb rfl), (ltb rfl), hfl⟩ rfl (nlt rfl) dL_overrunsWith_9 h (fun M4 h => ?_)
    refine r_goto (pc := 10) X (tgt := 17) dL_overrunsWith_10 (by decide) ?_
    refine r_iconst (pc := 17) X (v := 0) dL_overrunsWith_17 (by decide) ?_
    cases h
    exact T_widen (k := 2) (n := 12) (Nat.le_of_ble_eq_true rfl) (Nat.le_of_ble_eq_true rfl) (r_iret (pc := 18) X hr dL_overrunsWith_18)
  · refine swN h (fun hq h => ?_) (fun hq0 h => ?_)
    · subst hq
      refine r_catch X Y ht (by decide) 0 rfl (fun z hz => by simp only [List.take, List.not_mem_nil] at hz) (by decide) (by decide) cl_L_19 ?_
      refine r_astore (pc := 13) X (by decide) dL_overrunsWith_13 ?_
      refine r_iconst (pc := 15) X (v := 1) dL_overrunsWith_15 (by decide) ?_
      cases h
      exact T_widen (k := 2) (n := 12) (Nat.le_of_ble_eq_true rfl) (Nat.le_of_ble_eq_true rfl) (r_iret (pc := 16) X hr dL_overrunsWith_16)
    cases h
theorem c_L_overrunsWith {G : GG} {l : Launch} {sz : Nat} (hlf : l.stackTraces = false) (hfl : G.2.2.2.2 = true) {x1 : Int32} {x2 : Int32} {r : Int32} {M M' : Mem}  (h : f_L_overrunsWith x1 x2 M = some (r, M')) : Met l yL_overrunsWith (wsH yL_overrunsWith cL_overrunsWith 5 (some .int) [(0, 10, 13, 19)]) (rmX 8 2) (PcX G sz [.ref (G.2.1 (9, 0, 0)), .int x1, .int x2, .ref (G.2.1 (40, 0, 0))] M) (QiO G (AX G sz) r M') 2 12 (AX G sz) :=
  metH_of (k := 2) (own := RL) hlf rfl (by decide +kernel) (Nat.le_of_ble_eq_true rfl) (fun p e s m args below meth c X Y ht hr => t_L_overrunsWith X Y ht hr hfl  h)
-- ConverterScannerLaw.slowestPace
def f_L_slowestPace (x1 : Int32) (M : Mem) : Option (Int32 × Mem) :=
  catchX (f_X11_slowestPace x1 M) (fun r1 M2 => if bad 0 1 then none else nm (uL M2 (40, 0, 0) (Int32.toNatClampNeg 0) (Int32.toInt64 r1)) (fun M4 => some (0, M4))) (fun e9 M2 => if e9 = 1 then some (1, M2) else none)
set_option maxHeartbeats 4000000 in
set_option maxRecDepth 100000 in
theorem t_L_slowestPace {G : GG} {A : Nat → Prop} {p : Program} {l : Launch} {e : Env} {s : State} {m : MethodId} {args : Array Value} {below : List Frame} {meth : Method} {c : Code} {r : Int32} {M' : Mem} (X : Cx G A p s m args meth c RL cL_slowestPace 4) (Y : CxH G A l s) (ht : c.exceptionTable.toList = tableOf [(0, 9, 12, 19)]) (hr : meth.sig.returnType = some .int) (hfl : G.2.2.2.2 = true) {x1 : Int32} {M : Mem}  (h : f_L_slowestPace x1 M = some (r, M')) : T G A p l e (rmX 8 1) s m args below meth c 4 0 0 (MQ below (QiO G A r M') args s 1 6 A) 0 [(0, .ref (G.2.1 (9, 0, 0))), (1, .int x1), (2, .ref (G.2.1 (40, 0, 0)))] [] M := by
  unfold f_L_slowestPace at h
  refine r_aload_n (pc := 0) X dL_slowestPace_0 rfl ?_
  refine r_iconst (pc := 1) X (v := 0) dL_slowestPace_1 (by decide) ?_
  refine r_aload_n (pc := 2) X dL_slowestPace_2 rfl ?_
  refine r_iload_n (pc := 3) X dL_slowestPace_3 rfl ?_
  refine catchXE h (fun r1x M2 h3 h => ?_)
  refine r_callHi1 (pc := 4) X Y ⟨(ltb rfl), (ltb rfl)⟩ rfl vy_X11_slowestPace my_X11_slowestPace ml_L_105 ⟨Nat.le_of_ble_eq_true rfl, Nat.le_of_ble_eq_true rfl, Nat.le_of_ble_eq_true rfl, Nat.le_of_ble_eq_true rfl⟩ (fun sz => c_X11_slowestPace Y.1  h3) h (Nat.le_of_ble_eq_true rfl) dL_slowestPace_4 (fun r1 hvr1 h => ?_) (fun k9 q9 hk9 h => ?_)
  · refine r_i2l (pc := 7) X dL_slowestPace_7 ?_
    refine r_lastN (pc := 8) X (n := 1) ⟨(ltb rfl), (ltb rfl), hfl⟩ rfl (nlt rfl) dL_slowestPace_8 h (fun M4 h => ?_)
    refine r_goto (pc := 9) X (tgt := 15) dL_slowestPace_9 (by decide) ?_
    refine r_iconst (pc := 15) X (v := 0) dL_slowestPace_15 (by decide) ?_
    cases h
    exact T_widen (k := 1) (n := 6) (Nat.le_of_ble_eq_true rfl) (Nat.le_of_ble_eq_true rfl) (r_iret (pc := 16) X hr dL_slowestPace_16)
  · refine swN h (fun hq h => ?_) (fun hq0 h => ?_)
    · subst hq
      refine r_catch X Y ht (by decide) 0 rfl (fun z hz => by simp only [List.take, List.not_mem_nil] at hz) (by decide) (by decide) cl_L_19 ?_
      refine r_astore_n (pc := 12) X (by decide) dL_slowestPace_12 ?_
      refine r_iconst (pc := 13) X (v := 1) dL_slowestPace_13 (by decide) ?_
      cases h
      exact T_widen (k := 1) (n := 6) (Nat.le_of_ble_eq_true rfl) (Nat.le_of_ble_eq_true rfl) (r_iret (pc := 14) X hr dL_slowestPace_14)
    cases h
theorem c_L_slowestPace {G : GG} {l : Launch} {sz : Nat} (hlf : l.stackTraces = false) (hfl : G.2.2.2.2 = true) {x1 : Int32} {r : Int32} {M M' : Mem}  (h : f_L_slowestPace x1 M = some (r, M')) : Met l yL_slowestPace (wsH yL_slowestPace cL_slowestPace 4 (some .int) [(0, 9, 12, 19)]) (rmX 8 1) (PcX G sz [.ref (G.2.1 (9, 0, 0)), .int x1, .ref (G.2.1 (40, 0, 0))] M) (QiO G (AX G sz) r M') 1 6 (AX G sz) :=
  metH_of (k := 1) (own := RL) hlf rfl (by decide +kernel) (Nat.le_of_ble_eq_true rfl) (fun p e s m args below meth c X Y ht hr => t_L_slowestPace X Y ht hr hfl  h)
-- ConverterScannerLaw.save
def f_L_save (x1 : Int32) (M : Mem) : Option (Int32 × Mem) :=
  catchX (f_X11_save x1 M) (fun r1 M2 => if bad 0 1 then none else nm (uL M2 (40, 0, 0) (Int32.toNatClampNeg 0) (Int32.toInt64 r1)) (fun M4 => some (0, M4))) (fun e9 M2 => if e9 = 1 then some (1, M2) else none)
set_option maxHeartbeats 4000000 in
set_option maxRecDepth 100000 in
theorem t_L_save {G : GG} {A : Nat → Prop} {p : Program} {l : Launch} {e : Env} {s : State} {m : MethodId} {args : Array Value} {below : List Frame} {meth : Method} {c : Code} {r : Int32} {M' : Mem} (X : Cx G A p s m args meth c RL cL_save 4) (Y : CxH G A l s) (ht : c.exceptionTable.toList = tableOf [(0, 9, 12, 19)]) (hr : meth.sig.returnType = some .int) (hfl : G.2.2.2.2 = true) {x1 : Int32} {M : Mem}  (h : f_L_save x1 M = some (r, M')) : T G A p l e (rmX 8 1) s m args below meth c 4 0 0 (MQ below (QiO G A r M') args s 1 6 A) 0 [(0, .ref (G.2.1 (9, 0, 0))), (1, .int x1), (2, .ref (G.2.1 (40, 0, 0)))] [] M := by
  unfold f_L_save at h
  refine r_aload_n (pc := 0) X dL_save_0 rfl ?_
  refine r_iconst (pc := 1) X (v := 0) dL_save_1 (by decide) ?_
  refine r_aload_n (pc := 2) X dL_save_2 rfl ?_
  refine r_iload_n (pc := 3) X dL_save_3 rfl ?_
  refine catchXE h (fun r1x M2 h3 h => ?_)
  refine r_callHi1 (pc := 4) X Y ⟨(ltb rfl), (ltb rfl)⟩ rfl vy_X11_save my_X11_save ml_L_108 ⟨Nat.le_of_ble_eq_true rfl, Nat.le_of_ble_eq_true rfl, Nat.le_of_ble_eq_true rfl, Nat.le_of_ble_eq_true rfl⟩ (fun sz => c_X11_save Y.1  h3) h (Nat.le_of_ble_eq_true rfl) dL_save_4 (fun r1 hvr1 h => ?_) (fun k9 q9 hk9 h => ?_)
  · refine r_i2l (pc := 7) X dL_save_7 ?_
    refine r_lastN (pc := 8) X (n := 1) ⟨(ltb rfl), (ltb rfl), hfl⟩ rfl (nlt rfl) dL_save_8 h (fun M4 h => ?_)
    refine r_goto (pc := 9) X (tgt := 15) dL_save_9 (by decide) ?_
    refine r_iconst (pc := 15) X (v := 0) dL_save_15 (by decide) ?_
    cases h
    exact T_widen (k := 1) (n := 6) (Nat.le_of_ble_eq_true rfl) (Nat.le_of_ble_eq_true rfl) (r_iret (pc := 16) X hr dL_save_16)
  · refine swN h (fun hq h => ?_) (fun hq0 h => ?_)
    · subst hq
      refine r_catch X Y ht (by decide) 0 rfl (fun z hz => by simp only [List.take, List.not_mem_nil] at hz) (by decide) (by decide) cl_L_19 ?_
      refine r_astore_n (pc := 12) X (by decide) dL_save_12 ?_
      refine r_iconst (pc := 13) X (v := 1) dL_save_13 (by decide) ?_
      cases h
      exact T_widen (k := 1) (n := 6) (Nat.le_of_ble_eq_true rfl) (Nat.le_of_ble_eq_true rfl) (r_iret (pc := 14) X hr dL_save_14)
    cases h
theorem c_L_save {G : GG} {l : Launch} {sz : Nat} (hlf : l.stackTraces = false) (hfl : G.2.2.2.2 = true) {x1 : Int32} {r : Int32} {M M' : Mem}  (h : f_L_save x1 M = some (r, M')) : Met l yL_save (wsH yL_save cL_save 4 (some .int) [(0, 9, 12, 19)]) (rmX 8 1) (PcX G sz [.ref (G.2.1 (9, 0, 0)), .int x1, .ref (G.2.1 (40, 0, 0))] M) (QiO G (AX G sz) r M') 1 6 (AX G sz) :=
  metH_of (k := 1) (own := RL) hlf rfl (by decide +kernel) (Nat.le_of_ble_eq_true rfl) (fun p e s m args below meth c X Y ht hr => t_L_save X Y ht hr hfl  h)
-- ConverterScannerLaw.restore
def f_L_restore (x1 : Int32) (M : Mem) : Option (Int32 × Mem) :=
  catchX (f_X11_restore x1 M) (fun r1 M2 => if bad 0 1 then none else nm (uL M2 (40, 0, 0) (Int32.toNatClampNeg 0) (Int32.toInt64 r1)) (fun M4 => some (0, M4))) (fun e9 M2 => if e9 = 1 then some (1, M2) else if e9 = 0 then some (2, M2) else none)
set_option maxHeartbeats 4000000 in
set_option maxRecDepth 100000 in
theorem t_L_restore {G : GG} {A : Nat → Prop} {p : Program} {l : Launch} {e : Env} {s : State} {m : MethodId} {args : Array Value} {below : List Frame} {meth : Method} {c : Code} {r : Int32} {M' : Mem} (X : Cx G A p s m args meth c RL cL_restore 4) (Y : CxH G A l s) (ht : c.exceptionTable.toList = tableOf [(0, 9, 12, 19), (0, 9, 15, 13)]) (hr : meth.sig.returnType = some .int) (hfl : G.2.2.2.2 = true) {x1 : Int32} {M : Mem}  (h : f_L_restore x1 M = some (r, M')) : T G A p l e (rmX 8 2) s m args below meth c 4 0 0 (MQ below (QiO G A r M') args s 2 12 A) 0 [(0, .ref (G.2.1 (9, 0, 0))), (1, .int x1), (2, .ref (G.2.1 (40, 0, 0)))] [] M := by
  unfold f_L_restore at h
  refine r_aload_n (pc := 0) X dL_restore_0 rfl ?_
  refine r_iconst (pc := 1) X (v := 0) dL_restore_1 (by decide) ?_
  refine r_aload_n (pc := 2) X dL_restore_2 rfl ?_
  refine r_iload_n (pc := 3) X dL_restore_3 rfl ?_
  refine catchXE h (fun r1x M2 h3 h => ?_)
  refine r_callHi1 (pc := 4) X Y ⟨(ltb rfl), (ltb rfl)⟩ rfl vy_X11_restore my_X11_restore ml_L_111 ⟨Nat.le_of_ble_eq_true rfl, Nat.le_of_ble_eq_true rfl, Nat.le_of_ble_eq_true rfl, Nat.le_of_ble_eq_true rfl⟩ (fun sz => c_X11_restore Y.1  h3) h (Nat.le_of_ble_eq_true rfl) dL_restore_4 (fun r1 hvr1 h => ?_) (fun k9 q9 hk9 h => ?_)
  · refine r_i2l (pc := 7) X dL_restore_7 ?_
    refine r_lastN (pc := 8) X (n := 1) ⟨(ltb rfl), (ltb rfl), hfl⟩ rfl (nlt rfl) dL_restore_8 h (fun M4 h => ?_)
    refine r_goto (pc := 9) X (tgt := 18) dL_restore_9 (by decide) ?_
    refine r_iconst (pc := 18) X (v := 0) dL_restore_18 (by decide) ?_
    cases h
    exact T_widen (k := 2) (n := 12) (Nat.le_of_ble_eq_true rfl) (Nat.le_of_ble_eq_true rfl) (r_iret (pc := 19) X hr dL_restore_19)
  · refine swN h (fun hq h => ?_) (fun hq0 h => ?_)
    · subst hq
      refine r_catch X Y ht (by decide) 0 rfl (fun z hz => by simp only [List.take, List.not_mem_nil] at hz) (by decide) (by decide) cl_L_19 ?_
      refine r_astore_n (pc := 12) X (by decide) dL_restore_12 ?_
      refine r_iconst (pc := 13) X (v := 1) dL_restore_13 (by decide) ?_
      cases h
      exact T_widen (k := 2) (n := 12) (Nat.le_of_ble_eq_true rfl) (Nat.le_of_ble_eq_true rfl) (r_iret (pc := 14) X hr dL_restore_14)
    refine swN h (fun hq h => ?_) (fun hq1 h => ?_)
    · subst hq
      refine r_catch X Y ht (by decide) 1 rfl (fun z hz => by
        simp only [List.take, List.mem_cons, List.not_mem_nil, or_false] at hz
        rcases hz with rfl
        exact ⟨by decide, 1, by decide, by decide, cl_L_19⟩) (by decide) (by decide) cl_L_13 ?_
      refine r_astore_n (pc := 15) X (by decide) dL_restore_15 ?_
      refine r_iconst (pc := 16) X (v := 2) dL_restore_16 (by decide) ?_
      cases h
      exact T_widen (k := 2) (n := 12) (Nat.le_of_ble_eq_true rfl) (Nat.le_of_ble_eq_true rfl) (r_iret (pc := 17) X hr dL_restore_17)
    cases h
theorem c_L_restore {G : GG} {l : Launch} {sz : Nat} (hlf : l.stackTraces = false) (hfl : G.2.2.2.2 = true) {x1 : Int32} {r : Int32} {M M' : Mem}  (h : f_L_restore x1 M = some (r, M')) : Met l yL_restore (wsH yL_restore cL_restore 4 (some .int) [(0, 9, 12, 19), (0, 9, 15, 13)]) (rmX 8 2) (PcX G sz [.ref (G.2.1 (9, 0, 0)), .int x1, .ref (G.2.1 (40, 0, 0))] M) (QiO G (AX G sz) r M') 2 12 (AX G sz) :=
  metH_of (k := 2) (own := RL) hlf rfl (by decide +kernel) (Nat.le_of_ble_eq_true rfl) (fun p e s m args below meth c X Y ht hr => t_L_restore X Y ht hr hfl  h)
