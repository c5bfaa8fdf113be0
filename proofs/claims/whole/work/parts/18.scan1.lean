-- ConverterScanner.channel
def f_X11_channel (x1 : Int32) (x2 : Int32) (M : Mem) : Option ((Int32 ⊕ Nat) × Mem) :=
  bndX (f_X11_requireChannel x1 M) (fun r1 M2 => bndX (f_X11_requireWhat x2 7 M2) (fun r4 M5 => if bad x1 8 then none else if x2 = 0 then some (.inl (M5.1 (0, 1, (Int32.toNatClampNeg x1)) 0), M5) else if x2 = 1 then some (.inl (M5.1 (0, 1, (Int32.toNatClampNeg x1)) 1), M5) else if x2 = 2 then some (.inl (M5.1 (0, 1, (Int32.toNatClampNeg x1)) 2), M5) else if x2 = 3 then some (.inl (M5.1 (0, 1, (Int32.toNatClampNeg x1)) 3), M5) else if x2 = 4 then some (.inl (M5.1 (0, 1, (Int32.toNatClampNeg x1)) 4), M5) else if x2 = 5 then some (.inl (M5.1 (0, 1, (Int32.toNatClampNeg x1)) 5), M5) else if x2 = 6 then some (.inl (M5.1 (0, 1, (Int32.toNatClampNeg x1)) 6), M5) else some (.inl (M5.1 (0, 1, (Int32.toNatClampNeg x1)) 7), M5)))
set_option maxHeartbeats 4000000 in
set_option maxRecDepth 100000 in
theorem t_X11_channel {G : GG} {A : Nat → Prop} {p : Program} {l : Launch} {e : Env} {s : State} {m : MethodId} {args : Array Value} {below : List Frame} {meth : Method} {c : Code} {r : (Int32 ⊕ Nat)} {M' : Mem} (X : Cx G A p s m args meth c RX11 cX11_channel 4) (Y : CxX G A l s c) (hr : meth.sig.returnType = some .int) {x1 : Int32} {x2 : Int32} {M : Mem}  (h : f_X11_channel x1 x2 M = some (r, M')) : T G A p l e (rmX 7 2) s m args below meth c 4 0 0 (vx_MQ below (QiX G A r M') (XX G A r M') args s 2 12 A) 0 [(0, .ref (G.2.1 (9, 0, 0))), (1, .int x1), (2, .int x2)] [] M := by
  unfold f_X11_channel at h
  refine r_iload_n (pc := 0) X dX11_channel_0 rfl ?_
  refine bndXE h (fun r1x M2 h3 h => ?_)
  refine r_callXSv1 (pc := 1) X Y sy_X11_requireChannel my_X11_requireChannel ml_X11_131 ⟨Nat.le_of_ble_eq_true rfl, Nat.le_of_ble_eq_true rfl, Nat.le_of_ble_eq_true rfl, Nat.le_of_ble_eq_true rfl⟩ (fun sz => c_X11_requireChannel Y.1  h3) h ⟨Nat.le_of_ble_eq_true rfl, Nat.le_of_ble_eq_true rfl⟩ (Nat.le_of_ble_eq_true rfl) dX11_channel_1 (fun r1 hvr1 h => ?_)
  refine r_iload_n (pc := 4) X dX11_channel_4 rfl ?_
  refine r_bipush (pc := 5) X (v := 7) dX11_channel_5 (by decide) ?_
  refine bndXE h (fun r4x M5 h6 h => ?_)
  refine r_callXSv2 (pc := 7) X Y sy_X11_requireWhat my_X11_requireWhat ml_X11_199 ⟨Nat.le_of_ble_eq_true rfl, Nat.le_of_ble_eq_true rfl, Nat.le_of_ble_eq_true rfl, Nat.le_of_ble_eq_true rfl⟩ (fun sz => c_X11_requireWhat Y.1  h6) h ⟨Nat.le_of_ble_eq_true rfl, Nat.le_of_ble_eq_true rfl⟩ (Nat.le_of_ble_eq_true rfl) dX11_channel_7 (fun r4 hvr4 h => ?_)
  refine r_aload_n (pc := 10) X dX11_channel_10 rfl ?_
  refine r_getR (q := (2, 1, 0)) (pc := 11) X ⟨(ltb rfl), (ltb rfl)⟩ fl_X11_10 rfl dX11_channel_11 ?_
  refine r_getR (q := (24, 1, 0)) (pc := 14) X ⟨(ltb rfl), (ltb rfl)⟩ fl_X11_151 rfl dX11_channel_14 ?_
  refine r_iload_n (pc := 17) X dX11_channel_17 rfl ?_
  refine r_aald (pc := 18) X (t := 0) (n := 8) ⟨(ltb rfl), (ltb rfl)⟩ rfl (ltb rfl) (nlt rfl) dX11_channel_18 h (fun hb7 h => ?_)
  refine r_astore_n (pc := 19) X (by decide) dX11_channel_19 ?_
  refine r_iload_n (pc := 20) X dX11_channel_20 rfl ?_
  refine swc h (fun hq h => ?_) (fun hs0 h => ?_)
  · refine r_swInE (pc := 21) X hq (off := 43) (tgt := 64) dX11_channel_21 (by decide) (by decide) (by decide) (by decide) ?_
    refine r_aload_n (pc := 64) X dX11_channel_64 rfl ?_
    refine r_getI (pc := 65) X ⟨(ltb rfl), (bad_lt hb7)⟩ fl_X11_177 rfl dX11_channel_65 ?_
    cases h
    exact r_iretX (pc := 68) X hr ⟨Nat.le_of_ble_eq_true rfl, Nat.le_of_ble_eq_true rfl⟩ dX11_channel_68
  refine swc h (fun hq h => ?_) (fun hs1 h => ?_)
  · refine r_swInE (pc := 21) X hq (off := 48) (tgt := 69) dX11_channel_21 (by decide) (by decide) (by decide) (by decide) ?_
    refine r_aload_n (pc := 69) X dX11_channel_69 rfl ?_
    refine r_getI (pc := 70) X ⟨(ltb rfl), (bad_lt hb7)⟩ fl_X11_271 rfl dX11_channel_70 ?_
    cases h
    exact r_iretX (pc := 73) X hr ⟨Nat.le_of_ble_eq_true rfl, Nat.le_of_ble_eq_true rfl⟩ dX11_channel_73
  refine swc h (fun hq h => ?_) (fun hs2 h => ?_)
  · refine r_swInE (pc := 21) X hq (off := 53) (tgt := 74) dX11_channel_21 (by decide) (by decide) (by decide) (by decide) ?_
    refine r_aload_n (pc := 74) X dX11_channel_74 rfl ?_
    refine r_getI (pc := 75) X ⟨(ltb rfl), (bad_lt hb7)⟩ fl_X11_155 rfl dX11_channel_75 ?_
    cases h
    exact r_iretX (pc := 78) X hr ⟨Nat.le_of_ble_eq_true rfl, Nat.le_of_ble_eq_true rfl⟩ dX11_channel_78
  refine swc h (fun hq h => ?_) (fun hs3 h => ?_)
  · refine r_swInE (pc := 21) X hq (off := 58) (tgt := 79) dX11_channel_21 (by decide) (by decide) (by decide) (by decide) ?_
    refine r_aload_n (pc := 79) X dX11_channel_79 rfl ?_
    refine r_getI (pc := 80) X ⟨(ltb rfl), (bad_lt hb7)⟩ fl_X11_160 rfl dX11_channel_80 ?_
    cases h
    exact r_iretX (pc := 83) X hr ⟨Nat.le_of_ble_eq_true rfl, Nat.le_of_ble_eq_true rfl⟩ dX11_channel_83
  refine swc h (fun hq h => ?_) (fun hs4 h => ?_)
  · refine r_swInE (pc := 21) X hq (off := 63) (tgt := 84) dX11_channel_21 (by decide) (by decide) (by decide) (by decide) ?_
    refine r_aload_n (pc := 84) X dX11_channel_84 rfl ?_
    refine r_getI (pc := 85) X ⟨(ltb rfl), (bad_lt hb7)⟩ fl_X11_163 rfl dX11_channel_85 ?_
    cases h
    exact r_iretX (pc := 88) X hr ⟨Nat.le_of_ble_eq_true rfl, Nat.le_of_ble_eq_true rfl⟩ dX11_channel_88
  refine swc h (fun hq h => ?_) (fun hs5 h => ?_)
  · refine r_swInE (pc := 21) X hq (off := 68) (tgt := 89) dX11_channel_21 (by decide) (by decide) (by decide) (by decide) ?_
    refine r_aload_n (pc := 89) X dX11_channel_89 rfl ?_
    refine r_getI (pc := 90) X ⟨(ltb rfl), (bad_lt hb7)⟩ fl_X11_274 rfl dX11_channel_90 ?_
    cases h
    exact r_iretX (pc := 93) X hr ⟨Nat.le_of_ble_eq_true rfl, Nat.le_of_ble_eq_true rfl⟩ dX11_channel_93
  refine swc h (fun hq h => ?_) (fun hs6 h => ?_)
  · refine r_swInE (pc := 21) X hq (off := 73) (tgt := 94) dX11_channel_21 (by decide) (by decide) (by decide) (by decide) ?_
    refine r_aload_n (pc := 94) X dX11_channel_94 rfl ?_
    refine r_getI (pc := 95) X ⟨(ltb rfl), (bad_lt hb7)⟩ fl_X11_275 rfl dX11_channel_95 ?_
    cases h
    exact r_iretX (pc := 98) X hr ⟨Nat.le_of_ble_eq_true rfl, Nat.le_of_ble_eq_true rfl⟩ dX11_channel_98
  · refine r_swOut (pc := 21) X (tgt := 99) dX11_channel_21 (by have z0 := lv_neT (a := 0) hs0 (by decide); have z1 := lv_neT (a := 1) hs1 (by decide); have z2 := lv_neT (a := 2) hs2 (by decide); have z3 := lv_neT (a := 3) hs3 (by decide); have z4 := lv_neT (a := 4) hs4 (by decide); have z5 := lv_neT (a := 5) hs5 (by decide); have z6 := lv_neT (a := 6) hs6 (by decide); omega) (by decide) ?_
    refine r_aload_n (pc := 99) X dX11_channel_99 rfl ?_
    refine r_getI (pc := 100) X ⟨(ltb rfl), (bad_lt hb7)⟩ fl_X11_278 rfl dX11_channel_100 ?_
    cases h
    exact r_iretX (pc := 103) X hr ⟨Nat.le_of_ble_eq_true rfl, Nat.le_of_ble_eq_true rfl⟩ dX11_channel_103
theorem c_X11_channel {G : GG} {l : Launch} {sz : Nat} (hlf : l.stackTraces = false) {x1 : Int32} {x2 : Int32} {r : (Int32 ⊕ Nat)} {M M' : Mem}  (h : f_X11_channel x1 x2 M = some (r, M')) : vx_Met l yX11_channel (wsO yX11_channel cX11_channel 4 (some .int)) (rmX 7 2) (PcX G sz [.ref (G.2.1 (9, 0, 0)), .int x1, .int x2] M) (QiX G (AX G sz) r M') (XX G (AX G sz) r M') 2 12 (AX G sz) :=
  metX_of (k := 2) (own := RX11) hlf rfl (by decide +kernel) (Nat.le_of_ble_eq_true rfl) (fun p e s m args below meth c X Y hr => t_X11_channel X Y hr  h)
-- ConverterScanner.sum
def f_X11_sum (x1 : Int32) (M : Mem) : Option ((Int64 ⊕ Nat) × Mem) :=
  bndX (f_X11_requireChannel x1 M) (fun r1 M2 => if bad x1 8 then none else some (.inl (M2.2.1 (0, 1, (Int32.toNatClampNeg x1)) 8), M2))
set_option maxHeartbeats 4000000 in
set_option maxRecDepth 100000 in
theorem t_X11_sum {G : GG} {A : Nat → Prop} {p : Program} {l : Launch} {e : Env} {s : State} {m : MethodId} {args : Array Value} {below : List Frame} {meth : Method} {c : Code} {r : (Int64 ⊕ Nat)} {M' : Mem} (X : Cx G A p s m args meth c RX11 cX11_sum 2) (Y : CxX G A l s c) (hr : meth.sig.returnType = some .long) {x1 : Int32} {M : Mem}  (h : f_X11_sum x1 M = some (r, M')) : T G A p l e (rmX 7 1) s m args below meth c 2 0 0 (vx_MQ below (QlX G A r M') (XX G A r M') args s 1 6 A) 0 [(0, .ref (G.2.1 (9, 0, 0))), (1, .int x1)] [] M := by
  unfold f_X11_sum at h
  refine r_iload_n (pc := 0) X dX11_sum_0 rfl ?_
  refine bndXE h (fun r1x M2 h3 h => ?_)
  refine r_callXSv1 (pc := 1) X Y sy_X11_requireChannel my_X11_requireChannel ml_X11_131 ⟨Nat.le_of_ble_eq_true rfl, Nat.le_of_ble_eq_true rfl, Nat.le_of_ble_eq_true rfl, Nat.le_of_ble_eq_true rfl⟩ (fun sz => c_X11_requireChannel Y.1  h3) h ⟨Nat.le_of_ble_eq_true rfl, Nat.le_of_ble_eq_true rfl⟩ (Nat.le_of_ble_eq_true rfl) dX11_sum_1 (fun r1 hvr1 h => ?_)
  refine r_aload_n (pc := 4) X dX11_sum_4 rfl ?_
  refine r_getR (q := (2, 1, 0)) (pc := 5) X ⟨(ltb rfl), (ltb rfl)⟩ fl_X11_10 rfl dX11_sum_5 ?_
  refine r_getR (q := (24, 1, 0)) (pc := 8) X ⟨(ltb rfl), (ltb rfl)⟩ fl_X11_151 rfl dX11_sum_8 ?_
  refine r_iload_n (pc := 11) X dX11_sum_11 rfl ?_
  refine r_aald (pc := 12) X (t := 0) (n := 8) ⟨(ltb rfl), (ltb rfl)⟩ rfl (ltb rfl) (nlt rfl) dX11_sum_12 h (fun hb4 h => ?_)
  refine r_getL (pc := 13) X ⟨(ltb rfl), (bad_lt hb4)⟩ fl_X11_281 rfl dX11_sum_13 ?_
  cases h
  exact r_lretX (pc := 16) X hr ⟨Nat.le_of_ble_eq_true rfl, Nat.le_of_ble_eq_true rfl⟩ dX11_sum_16
theorem c_X11_sum {G : GG} {l : Launch} {sz : Nat} (hlf : l.stackTraces = false) {x1 : Int32} {r : (Int64 ⊕ Nat)} {M M' : Mem}  (h : f_X11_sum x1 M = some (r, M')) : vx_Met l yX11_sum (wsO yX11_sum cX11_sum 2 (some .long)) (rmX 7 1) (PcX G sz [.ref (G.2.1 (9, 0, 0)), .int x1] M) (QlX G (AX G sz) r M') (XX G (AX G sz) r M') 1 6 (AX G sz) :=
  metX_of (k := 1) (own := RX11) hlf rfl (by decide +kernel) (Nat.le_of_ble_eq_true rfl) (fun p e s m args below meth c X Y hr => t_X11_sum X Y hr  h)
-- ConverterScanner.mean
def f_X11_mean (x1 : Int32) (M : Mem) : Option ((UInt64 ⊕ Nat) × Mem) :=
  bndX (f_X11_requireChannel x1 M) (fun r1 M2 => if bad x1 8 then none else if (M2.1 (0, 1, (Int32.toNatClampNeg x1)) 5) = 0 then some (.inr 3, M2) else if ddivOK (FP.l2d (M2.2.1 (0, 1, (Int32.toNatClampNeg x1)) 8)) (FP.i2d (M2.1 (0, 1, (Int32.toNatClampNeg x1)) 5)) = false then none else some (.inl (FP.ddiv (FP.l2d (M2.2.1 (0, 1, (Int32.toNatClampNeg x1)) 8)) (FP.i2d (M2.1 (0, 1, (Int32.toNatClampNeg x1)) 5))), M2))
set_option maxHeartbeats 4000000 in
set_option maxRecDepth 100000 in
theorem t_X11_mean {G : GG} {A : Nat → Prop} {p : Program} {l : Launch} {e : Env} {s : State} {m : MethodId} {args : Array Value} {below : List Frame} {meth : Method} {c : Code} {r : (UInt64 ⊕ Nat)} {M' : Mem} (X : Cx G A p s m args meth c RX11 cX11_mean 3) (Y : CxX G A l s c) (hr : meth.sig.returnType = some .double) {x1 : Int32} {M : Mem}  (h : f_X11_mean x1 M = some (r, M')) : T G A p l e (rmX 7 2) s m args below meth c 3 0 0 (vx_MQ below (QdX G A r M') (XX G A r M') args s 2 12 A) 0 [(0, .ref (G.2.1 (9, 0, 0))), (1, .int x1)] [] M := by
  unfold f_X11_mean at h
  refine r_iload_n (pc := 0) X dX11_mean_0 rfl ?_
  refine bndXE h (fun r1x M2 h3 h => ?_)
  refine r_callXSv1 (pc := 1) X Y sy_X11_requireChannel my_X11_requireChannel ml_X11_131 ⟨Nat.le_of_ble_eq_true rfl, Nat.le_of_ble_eq_true rfl, Nat.le_of_ble_eq_true rfl, Nat.le_of_ble_eq_true rfl⟩ (fun sz => c_X11_requireChannel Y.1  h3) h ⟨Nat.le_of_ble_eq_true rfl, Nat.le_of_ble_eq_true rfl⟩ (Nat.le_of_ble_eq_true rfl) dX11_mean_1 (fun r1 hvr1 h => ?_)
  refine r_aload_n (pc := 4) X dX11_mean_4 rfl ?_
  refine r_getR (q := (2, 1, 0)) (pc := 5) X ⟨(ltb rfl), (ltb rfl)⟩ fl_X11_10 rfl dX11_mean_5 ?_
  refine r_getR (q := (24, 1, 0)) (pc := 8) X ⟨(ltb rfl), (ltb rfl)⟩ fl_X11_151 rfl dX11_mean_8 ?_
  refine r_iload_n (pc := 11) X dX11_mean_11 rfl ?_
  refine r_aald (pc := 12) X (t := 0) (n := 8) ⟨(ltb rfl), (ltb rfl)⟩ rfl (ltb rfl) (nlt rfl) dX11_mean_12 h (fun hb4 h => ?_)
  refine r_astore_n (pc := 13) X (by decide) dX11_mean_13 ?_
  refine r_aload_n (pc := 14) X dX11_mean_14 rfl ?_
  refine r_getI (pc := 15) X ⟨(ltb rfl), (bad_lt hb4)⟩ fl_X11_274 rfl dX11_mean_15 ?_
  refine r_if_ne (pc := 18) X (tgt := 32) dX11_mean_18 (by decide) h (fun h => ?_) (fun h => ?_)
  · refine r_aload_n (pc := 32) X dX11_mean_32 rfl ?_
    refine r_getL (pc := 33) X ⟨(ltb rfl), (bad_lt hb4)⟩ fl_X11_281 rfl dX11_mean_33 ?_
    refine r_l2d (pc := 36) X dX11_mean_36 ?_
    refine r_aload_n (pc := 37) X dX11_mean_37 rfl ?_
    refine r_getI (pc := 38) X ⟨(ltb rfl), (bad_lt hb4)⟩ fl_X11_274 rfl dX11_mean_38 ?_
    refine r_i2d (pc := 41) X dX11_mean_41 ?_
    refine r_ddiv (pc := 42) X dX11_mean_42 h (fun h => ?_)
    cases h
    exact r_dretX (pc := 43) X hr ⟨Nat.le_of_ble_eq_true rfl, Nat.le_of_ble_eq_true rfl⟩ dX11_mean_43
  · cases h
    exact r_throwNW (pc := 21) X Y (k := 3) rfl (List.mem_of_getElem? (i := 13) rfl) dX11_mean_21 dX11_mean_24 dX11_mean_25 dX11_mean_28 dX11_mean_31 ⟨Nat.le_of_ble_eq_true rfl, Nat.le_of_ble_eq_true rfl, Nat.le_of_ble_eq_true rfl, Nat.le_of_ble_eq_true rfl⟩ ⟨Nat.le_of_ble_eq_true rfl, Nat.le_of_ble_eq_true rfl⟩
theorem c_X11_mean {G : GG} {l : Launch} {sz : Nat} (hlf : l.stackTraces = false) {x1 : Int32} {r : (UInt64 ⊕ Nat)} {M M' : Mem}  (h : f_X11_mean x1 M = some (r, M')) : vx_Met l yX11_mean (wsO yX11_mean cX11_mean 3 (some .double)) (rmX 7 2) (PcX G sz [.ref (G.2.1 (9, 0, 0)), .int x1] M) (QdX G (AX G sz) r M') (XX G (AX G sz) r M') 2 12 (AX G sz) :=
  metX_of (k := 2) (own := RX11) hlf rfl (by decide +kernel) (Nat.le_of_ble_eq_true rfl) (fun p e s m args below meth c X Y hr => t_X11_mean X Y hr  h)
-- ConverterScanner.trigger
def f_X11_trigger (x1 : Int32) (x2 : Int32) (M : Mem) : Option ((Int32 ⊕ Nat) × Mem) :=
  bndX (f_X11_requireTrigger x1 M) (fun r1 M2 => bndX (f_X11_requireWhat x2 4 M2) (fun r4 M5 => if bad x1 4 then none else if x2 = 0 then some (.inl (M5.1 (7, 1, (Int32.toNatClampNeg x1)) 0), M5) else if x2 = 1 then some (.inl (M5.1 (7, 1, (Int32.toNatClampNeg x1)) 1), M5) else if x2 = 2 then some (.inl (M5.1 (7, 1, (Int32.toNatClampNeg x1)) 2), M5) else if x2 = 3 then some (.inl (M5.1 (7, 1, (Int32.toNatClampNeg x1)) 3), M5) else some (.inl (M5.1 (7, 1, (Int32.toNatClampNeg x1)) 4), M5)))
set_option maxHeartbeats 4000000 in
set_option maxRecDepth 100000 in
theorem t_X11_trigger {G : GG} {A : Nat → Prop} {p : Program} {l : Launch} {e : Env} {s : State} {m : MethodId} {args : Array Value} {below : List Frame} {meth : Method} {c : Code} {r : (Int32 ⊕ Nat)} {M' : Mem} (X : Cx G A p s m args meth c RX11 cX11_trigger 4) (Y : CxX G A l s c) (hr : meth.sig.returnType = some .int) {x1 : Int32} {x2 : Int32} {M : Mem}  (h : f_X11_trigger x1 x2 M = some (r, M')) : T G A p l e (rmX 7 2) s m args below meth c 4 0 0 (vx_MQ below (QiX G A r M') (XX G A r M') args s 2 12 A) 0 [(0, .ref (G.2.1 (9, 0, 0))), (1, .int x1), (2, .int x2)] [] M := by
  unfold f_X11_trigger at h
  refine r_iload_n (pc := 0) X dX11_trigger_0 rfl ?_
  refine bndXE h (fun r1x M2 h3 h => ?_)
  refine r_callXSv1 (pc := 1) X Y sy_X11_requireTrigger my_X11_requireTrigger ml_X11_87 ⟨Nat.le_of_ble_eq_true rfl, Nat.le_of_ble_eq_true rfl, Nat.le_of_ble_eq_true rfl, Nat.le_of_ble_eq_true rfl⟩ (fun sz => c_X11_requireTrigger Y.1  h3) h ⟨Nat.le_of_ble_eq_true rfl, Nat.le_of_ble_eq_true rfl⟩ (Nat.le_of_ble_eq_true rfl) dX11_trigger_1 (fun r1 hvr1 h => ?_)
  refine r_iload_n (pc := 4) X dX11_trigger_4 rfl ?_
  refine r_iconst (pc := 5) X (v := 4) dX11_trigger_5 (by decide) ?_
  refine bndXE h (fun r4x M5 h6 h => ?_)
  refine r_callXSv2 (pc := 6) X Y sy_X11_requireWhat my_X11_requireWhat ml_X11_199 ⟨Nat.le_of_ble_eq_true rfl, Nat.le_of_ble_eq_true rfl, Nat.le_of_ble_eq_true rfl, Nat.le_of_ble_eq_true rfl⟩ (fun sz => c_X11_requireWhat Y.1  h6) h ⟨Nat.le_of_ble_eq_true rfl, Nat.le_of_ble_eq_true rfl⟩ (Nat.le_of_ble_eq_true rfl) dX11_trigger_6 (fun r4 hvr4 h => ?_)
  refine r_aload_n (pc := 9) X dX11_trigger_9 rfl ?_
  refine r_getR (q := (2, 1, 0)) (pc := 10) X ⟨(ltb rfl), (ltb rfl)⟩ fl_X11_10 rfl dX11_trigger_10 ?_
  refine r_getR (q := (25, 1, 0)) (pc := 13) X ⟨(ltb rfl), (ltb rfl)⟩ fl_X11_287 rfl dX11_trigger_13 ?_
  refine r_iload_n (pc := 16) X dX11_trigger_16 rfl ?_
  refine r_aald (pc := 17) X (t := 1) (n := 4) ⟨(ltb rfl), (ltb rfl)⟩ rfl (ltb rfl) (nlt rfl) dX11_trigger_17 h (fun hb7 h => ?_)
  refine r_astore_n (pc := 18) X (by decide) dX11_trigger_18 ?_
  refine r_iload_n (pc := 19) X dX11_trigger_19 rfl ?_
  refine swc h (fun hq h => ?_) (fun hs0 h => ?_)
  · refine r_swInE (pc := 20) X hq (off := 32) (tgt := 52) dX11_trigger_20 (by decide) (by decide) (by decide) (by decide) ?_
    refine r_aload_n (pc := 52) X dX11_trigger_52 rfl ?_
    refine r_getI (pc := 53) X ⟨(ltb rfl), (bad_lt hb7)⟩ fl_X11_291 rfl dX11_trigger_53 ?_
    cases h
    exact r_iretX (pc := 56) X hr ⟨Nat.le_of_ble_eq_true rfl, Nat.le_of_ble_eq_true rfl⟩ dX11_trigger_56
  refine swc h (fun hq h => ?_) (fun hs1 h => ?_)
  · refine r_swInE (pc := 20) X hq (off := 37) (tgt := 57) dX11_trigger_20 (by decide) (by decide) (by decide) (by decide) ?_
    refine r_aload_n (pc := 57) X dX11_trigger_57 rfl ?_
    refine r_getI (pc := 58) X ⟨(ltb rfl), (bad_lt hb7)⟩ fl_X11_296 rfl dX11_trigger_58 ?_
    cases h
    exact r_iretX (pc := 61) X hr ⟨Nat.le_of_ble_eq_true rfl, Nat.le_of_ble_eq_true rfl⟩ dX11_trigger_61
  refine swc h (fun hq h => ?_) (fun hs2 h => ?_)
  · refine r_swInE (pc := 20) X hq (off := 42) (tgt := 62) dX11_trigger_20 (by decide) (by decide) (by decide) (by decide) ?_
    refine r_aload_n (pc := 62) X dX11_trigger_62 rfl ?_
    refine r_getI (pc := 63) X ⟨(ltb rfl), (bad_lt hb7)⟩ fl_X11_297 rfl dX11_trigger_63 ?_
    cases h
    exact r_iretX (pc := 66) X hr ⟨Nat.le_of_ble_eq_true rfl, Nat.le_of_ble_eq_true rfl⟩ dX11_trigger_66
  refine swc h (fun hq h => ?_) (fun hs3 h => ?_)
  · refine r_swInE (pc := 20) X hq (off := 47) (tgt := 67) dX11_trigger_20 (by decide) (by decide) (by decide) (by decide) ?_
    refine r_aload_n (pc := 67) X dX11_trigger_67 rfl ?_
    refine r_getI (pc := 68) X ⟨(ltb rfl), (bad_lt hb7)⟩ fl_X11_300 rfl dX11_trigger_68 ?_
    cases h
    exact r_iretX (pc := 71) X hr ⟨Nat.le_of_ble_eq_true rfl, Nat.le_of_ble_eq_true rfl⟩ dX11_trigger_71
  · refine r_swOut (pc := 20) X (tgt := 72) dX11_trigger_20 (by have z0 := lv_neT (a := 0) hs0 (by decide); have z1 := lv_neT (a := 1) hs1 (by decide); have z2 := lv_neT (a := 2) hs2 (by decide); have z3 := lv_neT (a := 3) hs3 (by decide); omega) (by decide) ?_
    refine r_aload_n (pc := 72) X dX11_trigger_72 rfl ?_
    refine r_getI (pc := 73) X ⟨(ltb rfl), (bad_lt hb7)⟩ fl_X11_303 rfl dX11_trigger_73 ?_
    cases h
    exact r_iretX (pc := 76) X hr ⟨Nat.le_of_ble_eq_true rfl, Nat.le_of_ble_eq_true rfl⟩ dX11_trigger_76
theorem c_X11_trigger {G : GG} {l : Launch} {sz : Nat} (hlf : l.stackTraces = false) {x1 : Int32} {x2 : Int32} {r : (Int32 ⊕ Nat)} {M M' : Mem}  (h : f_X11_trigger x1 x2 M = some (r, M')) : vx_Met l yX11_trigger (wsO yX11_trigger cX11_trigger 4 (some .int)) (rmX 7 2) (PcX G sz [.ref (G.2.1 (9, 0, 0)), .int x1, .int x2] M) (QiX G (AX G sz) r M') (XX G (AX G sz) r M') 2 12 (AX G sz) :=
  metX_of (k := 2) (own := RX11) hlf rfl (by decide +kernel) (Nat.le_of_ble_eq_true rfl) (fun p e s m args below meth c X Y hr => t_X11_trigger X Y hr  h)
-- ConverterScanner.window
def f_X11_window (x1 : Int32) (x2 : Int32) (M : Mem) : Option ((Int32 ⊕ Nat) × Mem) :=
  bndX (f_X11_requireWindow x1 M) (fun r1 M2 => bndX (f_X11_requireWhat x2 8 M2) (fun r4 M5 => if bad x1 3 then none else if x2 = 0 then some (.inl (M5.1 (8, 1, (Int32.toNatClampNeg x1)) 1), M5) else if x2 = 1 then some (.inl (M5.1 (8, 1, (Int32.toNatClampNeg x1)) 2), M5) else if x2 = 2 then some (.inl (M5.1 (8, 1, (Int32.toNatClampNeg x1)) 3), M5) else if x2 = 3 then some (.inl (M5.1 (8, 1, (Int32.toNatClampNeg x1)) 4), M5) else if x2 = 4 then some (.inl (M5.1 (8, 1, (Int32.toNatClampNeg x1)) 5), M5) else if x2 = 5 then if (M5.1 (8, 1, (Int32.toNatClampNeg x1)) 6) = 0 then some (.inl 0, M5) else some (.inl 1, M5) else if x2 = 6 then some (.inl (M5.1 (8, 1, (Int32.toNatClampNeg x1)) 7), M5) else if x2 = 7 then some (.inl (M5.1 (8, 1, (Int32.toNatClampNeg x1)) 8), M5) else some (.inl (M5.1 (8, 1, (Int32.toNatClampNeg x1)) 9), M5)))
set_option maxHeartbeats 4000000 in
set_option maxRecDepth 100000 in
theorem t_X11_window {G : GG} {A : Nat → Prop} {p : Program} {l : Launch} {e : Env} {s : State} {m : MethodId} {args : Array Value} {below : List Frame} {meth : Method} {c : Code} {r : (Int32 ⊕ Nat)} {M' : Mem} (X : Cx G A p s m args meth c RX11 cX11_window 4) (Y : CxX G A l s c) (hr : meth.sig.returnType = some .int) {x1 : Int32} {x2 : Int32} {M : Mem}  (h : f_X11_window x1 x2 M = some (r, M')) : T G A p l e (rmX 7 2) s m args below meth c 4 0 0 (vx_MQ below (QiX G A r M') (XX G A r M') args s 2 12 A) 0 [(0, .ref (G.2.1 (9, 0, 0))), (1, .int x1), (2, .int x2)] [] M := by
  unfold f_X11_window at h
  refine r_aload_n (pc := 0) X dX11_window_0 rfl ?_
  refine r_iload_n (pc := 1) X dX11_window_1 rfl ?_
  refine bndXE h (fun r1x M2 h3 h => ?_)
  refine r_callXVv1 (pc := 2) X Y ⟨(ltb rfl), (ltb rfl)⟩ rfl vy_X11_requireWindow my_X11_requireWindow ml_X11_119 ⟨Nat.le_of_ble_eq_true rfl, Nat.le_of_ble_eq_true rfl, Nat.le_of_ble_eq_true rfl, Nat.le_of_ble_eq_true rfl⟩ (fun sz => c_X11_requireWindow Y.1  h3) h ⟨Nat.le_of_ble_eq_true rfl, Nat.le_of_ble_eq_true rfl⟩ (Nat.le_of_ble_eq_true rfl) dX11_window_2 (fun r1 hvr1 h => ?_)
  refine r_iload_n (pc := 5) X dX11_window_5 rfl ?_
  refine r_bipush (pc := 6) X (v := 8) dX11_window_6 (by decide) ?_
  refine bndXE h (fun r4x M5 h6 h => ?_)
  refine r_callXSv2 (pc := 8) X Y sy_X11_requireWhat my_X11_requireWhat ml_X11_199 ⟨Nat.le_of_ble_eq_true rfl, Nat.le_of_ble_eq_true rfl, Nat.le_of_ble_eq_true rfl, Nat.le_of_ble_eq_true rfl⟩ (fun sz => c_X11_requireWhat Y.1  h6) h ⟨Nat.le_of_ble_eq_true rfl, Nat.le_of_ble_eq_true rfl⟩ (Nat.le_of_ble_eq_true rfl) dX11_window_8 (fun r4 hvr4 h => ?_)
  refine r_aload_n (pc := 11) X dX11_window_11 rfl ?_
  refine r_getR (q := (2, 1, 0)) (pc := 12) X ⟨(ltb rfl), (ltb rfl)⟩ fl_X11_10 rfl dX11_window_12 ?_
  refine r_getR (q := (26, 1, 0)) (pc := 15) X ⟨(ltb rfl), (ltb rfl)⟩ fl_X11_122 rfl dX11_window_15 ?_
  refine r_iload_n (pc := 18) X dX11_window_18 rfl ?_
  refine r_aald (pc := 19) X (t := 2) (n := 3) ⟨(ltb rfl), (ltb rfl)⟩ rfl (ltb rfl) (nlt rfl) dX11_window_19 h (fun hb7 h => ?_)
  refine r_astore_n (pc := 20) X (by decide) dX11_window_20 ?_
  refine r_iload_n (pc := 21) X dX11_window_21 rfl ?_
  refine swc h (fun hq h => ?_) (fun hs0 h => ?_)
  · refine r_swInE (pc := 22) X hq (off := 46) (tgt := 68) dX11_window_22 (by decide) (by decide) (by decide) (by decide) ?_
    refine r_aload_n (pc := 68) X dX11_window_68 rfl ?_
    refine r_getI (pc := 69) X ⟨(ltb rfl), (bad_lt hb7)⟩ fl_X11_183 rfl dX11_window_69 ?_
    cases h
    exact r_iretX (pc := 72) X hr ⟨Nat.le_of_ble_eq_true rfl, Nat.le_of_ble_eq_true rfl⟩ dX11_window_72
  refine swc h (fun hq h => ?_) (fun hs1 h => ?_)
  · refine r_swInE (pc := 22) X hq (off := 51) (tgt := 73) dX11_window_22 (by decide) (by decide) (by decide) (by decide) ?_
    refine r_aload_n (pc := 73) X dX11_window_73 rfl ?_
    refine r_getI (pc := 74) X ⟨(ltb rfl), (bad_lt hb7)⟩ fl_X11_186 rfl dX11_window_74 ?_
    cases h
    exact r_iretX (pc := 77) X hr ⟨Nat.le_of_ble_eq_true rfl, Nat.le_of_ble_eq_true rfl⟩ dX11_window_77
  refine swc h (fun hq h => ?_) (fun hs2 h => ?_)
  · refine r_swInE (pc := 22) X hq (off := 56) (tgt := 78) dX11_window_22 (by decide) (by decide) (by decide) (by decide) ?_
    refine r_aload_n (pc := 78) X dX11_window_78 rfl ?_
    refine r_getI (pc := 79) X ⟨(ltb rfl), (bad_lt hb7)⟩ fl_X11_306 rfl dX11_window_79 ?_
    cases h
    exact r_iretX (pc := 82) X hr ⟨Nat.le_of_ble_eq_true rfl, Nat.le_of_ble_eq_true rfl⟩ dX11_window_82
  refine swc h (fun hq h => ?_) (fun hs3 h => ?_)
  · refine r_swInE (pc := 22) X hq (off := 61) (tgt := 83) dX11_window_22 (by decide) (by decide) (by decide) (by decide) ?_
    refine r_aload_n (pc := 83) X dX11_window_83 rfl ?_
    refine r_getI (pc := 84) X ⟨(ltb rfl), (bad_lt hb7)⟩ fl_X11_309 rfl dX11_window_84 ?_
    cases h
    exact r_iretX (pc := 87) X hr ⟨Nat.le_of_ble_eq_true rfl, Nat.le_of_ble_eq_true rfl⟩ dX11_window_87
  refine swc h (fun hq h => ?_) (fun hs4 h => ?_)
  · refine r_swInE (pc := 22) X hq (off := 66) (tgt := 88) dX11_window_22 (by decide) (by decide) (by decide) (by decide) ?_
    refine r_aload_n (pc := 88) X dX11_window_88 rfl ?_
    refine r_getI (pc := 89) X ⟨(ltb rfl), (bad_lt hb7)⟩ fl_X11_311 rfl dX11_window_89 ?_
    cases h
    exact r_iretX (pc := 92) X hr ⟨Nat.le_of_ble_eq_true rfl, Nat.le_of_ble_eq_true rfl⟩ dX11_window_92
  refine swc h (fun hq h => ?_) (fun hs5 h => ?_)
  · refine r_swInE (pc := 22) X hq (off := 71) (tgt := 93) dX11_window_22 (by decide) (by decide) (by decide) (by decide) ?_
    refine r_aload_n (pc := 93) X dX11_window_93 rfl ?_
    refine r_getI (pc := 94) X ⟨(ltb rfl), (bad_lt hb7)⟩ fl_X11_189 rfl dX11_window_94 ?_
    refine r_if_eq (pc := 97) X (tgt := 104) dX11_window_97 (by decide) h (fun h => ?_) (fun h => ?_)
    · refine r_iconst (pc := 104) X (v := 0) dX11_window_104 (by decide) ?_
      cases h
      exact r_iretX (pc := 105) X hr ⟨Nat.le_of_ble_eq_true rfl, Nat.le_of_ble_eq_true rfl⟩ dX11_window_105
    · refine r_iconst (pc := 100) X (v := 1) dX11_window_100 (by decide) ?_
      refine r_goto (pc := 101) X (tgt := 105) dX11_window_101 (by decide) ?_
      cases h
      exact r_iretX (pc := 105) X hr ⟨Nat.le_of_ble_eq_true rfl, Nat.le_of_ble_eq_true rfl⟩ dX11_window_105
  refine swc h (fun hq h => ?_) (fun hs6 h => ?_)
  · refine r_swInE (pc := 22) X hq (off := 84) (tgt := 106) dX11_window_22 (by decide) (by decide) (by decide) (by decide) ?_
    refine r_aload_n (pc := 106) X dX11_window_106 rfl ?_
    refine r_getI (pc := 107) X ⟨(ltb rfl), (bad_lt hb7)⟩ fl_X11_312 rfl dX11_window_107 ?_
    cases h
    exact r_iretX (pc := 110) X hr ⟨Nat.le_of_ble_eq_true rfl, Nat.le_of_ble_eq_true rfl⟩ dX11_window_110
  refine swc h (fun hq h => ?_) (fun hs7 h => ?_)
  · refine r_swInE (pc := 22) X hq (off := 89) (tgt := 111) dX11_window_22 (by decide) (by decide) (by decide) (by decide) ?_
    refine r_aload_n (pc := 111) X dX11_window_111 rfl ?_
    refine r_getI (pc := 112) X ⟨(ltb rfl), (bad_lt hb7)⟩ fl_X11_315 rfl dX11_window_112 ?_
    cases h
    exact r_iretX (pc := 115) X hr ⟨Nat.le_of_ble_eq_true rfl, Nat.le_of_ble_eq_true rfl⟩ dX11_window_115
  · refine r_swOut (pc := 22) X (tgt := 116) dX11_window_22 (by have z0 := lv_neT (a := 0) hs0 (by decide); have z1 := lv_neT (a := 1) hs1 (by decide); have z2 := lv_neT (a := 2) hs2 (by decide); have z3 := lv_neT (a := 3) hs3 (by decide); have z4 := lv_neT (a := 4) hs4 (by decide); have z5 := lv_neT (a := 5) hs5 (by decide); have z6 := lv_neT (a := 6) hs6 (by decide); have z7 := lv_neT (a := 7) hs7 (by decide); omega) (by decide) ?_
    refine r_aload_n (pc := 116) X dX11_window_116 rfl ?_
    refine r_getI (pc := 117) X ⟨(ltb rfl), (bad_lt hb7)⟩ fl_X11_318 rfl dX11_window_117 ?_
    cases h
    exact r_iretX (pc := 120) X hr ⟨Nat.le_of_ble_eq_true rfl, Nat.le_of_ble_eq_true rfl⟩ dX11_window_120
theorem c_X11_window {G : GG} {l : Launch} {sz : Nat} (hlf : l.stackTraces = false) {x1 : Int32} {x2 : Int32} {r : (Int32 ⊕ Nat)} {M M' : Mem}  (h : f_X11_window x1 x2 M = some (r, M')) : vx_Met l yX11_window (wsO yX11_window cX11_window 4 (some .int)) (rmX 7 2) (PcX G sz [.ref (G.2.1 (9, 0, 0)), .int x1, .int x2] M) (QiX G (AX G sz) r M') (XX G (AX G sz) r M') 2 12 (AX G sz) :=
  metX_of (k := 2) (own := RX11) hlf rfl (by decide +kernel) (Nat.le_of_ble_eq_true rfl) (fun p e s m args below meth c X Y hr => t_X11_window X Y hr  h)
-- ConverterScanner.signal
def f_X11_signal (x1 : Int32) (x2 : Int32) (M : Mem) : Option ((Int32 ⊕ Nat) × Mem) :=
  bndX (f_X11_requireChannel x1 M) (fun r1 M2 => if 0 ≤ x2 then if bad x1 8 then none else bnd (f_X1_signalAt 1 (Int32.toNatClampNeg x1) x2 M2) (fun r5 M6 => some (.inl r5, M6)) else some (.inr 1, M2))
set_option maxHeartbeats 4000000 in
set_option maxRecDepth 100000 in
theorem t_X11_signal {G : GG} {A : Nat → Prop} {p : Program} {l : Launch} {e : Env} {s : State} {m : MethodId} {args : Array Value} {below : List Frame} {meth : Method} {c : Code} {r : (Int32 ⊕ Nat)} {M' : Mem} (X : Cx G A p s m args meth c RX11 cX11_signal 3) (Y : CxX G A l s c) (hr : meth.sig.returnType = some .int) {x1 : Int32} {x2 : Int32} {M : Mem}  (h : f_X11_signal x1 x2 M = some (r, M')) : T G A p l e (rmX 7 2) s m args below meth c 3 0 0 (vx_MQ below (QiX G A r M') (XX G A r M') args s 2 12 A) 0 [(0, .ref (G.2.1 (9, 0, 0))), (1, .int x1), (2, .int x2)] [] M := by
  unfold f_X11_signal at h
  refine r_iload_n (pc := 0) X dX11_signal_0 rfl ?_
  refine bndXE h (fun r1x M2 h3 h => ?_)
  refine r_callXSv1 (pc := 1) X Y sy_X11_requireChannel my_X11_requireChannel ml_X11_131 ⟨Nat.le_of_ble_eq_true rfl, Nat.le_of_ble_eq_true rfl, Nat.le_of_ble_eq_true rfl, Nat.le_of_ble_eq_true rfl⟩ (fun sz => c_X11_requireChannel Y.1  h3) h ⟨Nat.le_of_ble_eq_true rfl, Nat.le_of_ble_eq_true rfl⟩ (Nat.le_of_ble_eq_true rfl) dX11_signal_1 (fun r1 hvr1 h => ?_)
  refine r_iload_n (pc := 4) X dX11_signal_4 rfl ?_
  refine r_if_ge (pc := 5) X (tgt := 19) dX11_signal_5 (by decide) h (fun h => ?_) (fun h => ?_)
  · refine r_aload_n (pc := 19) X dX11_signal_19 rfl ?_
    refine r_getR (q := (2, 1, 0)) (pc := 20) X ⟨(ltb rfl), (ltb rfl)⟩ fl_X11_10 rfl dX11_signal_20 ?_
    refine r_getR (q := (24, 1, 0)) (pc := 23) X ⟨(ltb rfl), (ltb rfl)⟩ fl_X11_151 rfl dX11_signal_23 ?_
    refine r_iload_n (pc := 26) X dX11_signal_26 rfl ?_
    refine r_aald (pc := 27) X (t := 0) (n := 8) ⟨(ltb rfl), (ltb rfl)⟩ rfl (ltb rfl) (nlt rfl) dX11_signal_27 h (fun hb4 h => ?_)
    refine r_iload_n (pc := 28) X dX11_signal_28 rfl ?_
    refine bndE h (fun r5 M6 h7 h => ?_)
    refine r_callVi1 (pc := 29) X ⟨(ltb rfl), (bad_lt hb4)⟩ rfl vy_X1_signalAt my_X1_signalAt ml_X11_169 ⟨Nat.le_of_ble_eq_true rfl, Nat.le_of_ble_eq_true rfl, Nat.le_of_ble_eq_true rfl, Nat.le_of_ble_eq_true rfl⟩ (c_X1_signalAt (ltb rfl) (bad_lt hb4) h7) (Nat.le_of_ble_eq_true rfl) dX11_signal_29 ?_
    cases h
    exact r_iretX (pc := 32) X hr ⟨Nat.le_of_ble_eq_true rfl, Nat.le_of_ble_eq_true rfl⟩ dX11_signal_32
  · cases h
    exact r_throwW (pc := 8) X Y (k := 1) (ltb rfl) (List.mem_of_getElem? (i := 14) rfl) dX11_signal_8 dX11_signal_11 dX11_signal_12 dX11_signal_15 dX11_signal_18 ⟨Nat.le_of_ble_eq_true rfl, Nat.le_of_ble_eq_true rfl, Nat.le_of_ble_eq_true rfl, Nat.le_of_ble_eq_true rfl⟩ ⟨Nat.le_of_ble_eq_true rfl, Nat.le_of_ble_eq_true rfl⟩
theorem c_X11_signal {G : GG} {l : Launch} {sz : Nat} (hlf : l.stackTraces = false) {x1 : Int32} {x2 : Int32} {r : (Int32 ⊕ Nat)} {M M' : Mem}  (h : f_X11_signal x1 x2 M = some (r, M')) : vx_Met l yX11_signal (wsO yX11_signal cX11_signal 3 (some .int)) (rmX 7 2) (PcX G sz [.ref (G.2.1 (9, 0, 0)), .int x1, .int x2] M) (QiX G (AX G sz) r M') (XX G (AX G sz) r M') 2 12 (AX G sz) :=
  metX_of (k := 2) (own := RX11) hlf rfl (by decide +kernel) (Nat.le_of_ble_eq_true rfl) (fun p e s m args below meth c X Y hr => t_X11_signal X Y hr  h)
-- ConverterScanner.numberOf
def f_X11_numberOf (c0 : Nat) (j0 : Nat) (x1 : Int32) (x2 : Int32) (M : Mem) : Option ((Int32 ⊕ Nat) × Mem) :=
  if x1 < 0 then some (.inr 3, M) else if x1 < (M.1 (4, c0, j0) 5) then bndX (f_X11_requireWhat x2 3 M) (fun r1 M2 => bnd (f_X5_number c0 j0 ((M2.1 (4, c0, j0) 4) + x1) x2 M2) (fun r4 M5 => some (.inl r4, M5))) else some (.inr 3, M)
set_option maxHeartbeats 4000000 in
set_option maxRecDepth 100000 in
theorem t_X11_numberOf {G : GG} {A : Nat → Prop} {p : Program} {l : Launch} {e : Env} {s : State} {m : MethodId} {args : Array Value} {below : List Frame} {meth : Method} {c : Code} {r : (Int32 ⊕ Nat)} {M' : Mem} (X : Cx G A p s m args meth c RX11 cX11_numberOf 3) (Y : CxX G A l s c) (hr : meth.sig.returnType = some .int) {c0 : Nat} {j0 : Nat} {x1 : Int32} {x2 : Int32} {M : Mem} (hc0 : c0 < 6) (hj0 : j0 < 3) (h : f_X11_numberOf c0 j0 x1 x2 M = some (r, M')) : T G A p l e (rmX 7 2) s m args below meth c 3 0 0 (vx_MQ below (QiX G A r M') (XX G A r M') args s 2 12 A) 0 [(0, .ref (G.2.1 (4, c0, j0))), (1, .int x1), (2, .int x2)] [] M := by
  unfold f_X11_numberOf at h
  refine r_iload_n (pc := 0) X dX11_numberOf_0 rfl ?_
  refine r_if_lt (pc := 1) X (tgt := 12) dX11_numberOf_1 (by decide) h (fun h => ?_) (fun h => ?_)
  · cases h
    exact r_throwNW (pc := 12) X Y (k := 3) rfl (List.mem_of_getElem? (i := 15) rfl) dX11_numberOf_12 dX11_numberOf_15 dX11_numberOf_16 dX11_numberOf_19 dX11_numberOf_22 ⟨Nat.le_of_ble_eq_true rfl, Nat.le_of_ble_eq_true rfl, Nat.le_of_ble_eq_true rfl, Nat.le_of_ble_eq_true rfl⟩ ⟨Nat.le_of_ble_eq_true rfl, Nat.le_of_ble_eq_true rfl⟩
  · refine r_iload_n (pc := 4) X dX11_numberOf_4 rfl ?_
    refine r_aload_n (pc := 5) X dX11_numberOf_5 rfl ?_
    refine r_getI (pc := 6) X ⟨hc0, hj0⟩ fl_X11_102 rfl dX11_numberOf_6 ?_
    refine r_icmp_lt (pc := 9) X (tgt := 23) dX11_numberOf_9 (by decide) h (fun h => ?_) (fun h => ?_)
    · refine r_iload_n (pc := 23) X dX11_numberOf_23 rfl ?_
      refine r_iconst (pc := 24) X (v := 3) dX11_numberOf_24 (by decide) ?_
      refine bndXE h (fun r1x M2 h3 h => ?_)
      refine r_callXSv2 (pc := 25) X Y sy_X11_requireWhat my_X11_requireWhat ml_X11_199 ⟨Nat.le_of_ble_eq_true rfl, Nat.le_of_ble_eq_true rfl, Nat.le_of_ble_eq_true rfl, Nat.le_of_ble_eq_true rfl⟩ (fun sz => c_X11_requireWhat Y.1  h3) h ⟨Nat.le_of_ble_eq_true rfl, Nat.le_of_ble_eq_true rfl⟩ (Nat.le_of_ble_eq_true rfl) dX11_numberOf_25 (fun r1 hvr1 h => ?_)
      refine r_aload_n (pc := 28) X dX11_numberOf_28 rfl ?_
      refine r_aload_n (pc := 29) X dX11_numberOf_29 rfl ?_
      refine r_getI (pc := 30) X ⟨hc0, hj0⟩ fl_X11_332 rfl dX11_numberOf_30 ?_
      refine r_iload_n (pc := 33) X dX11_numberOf_33 rfl ?_
      refine r_iadd (pc := 34) X dX11_numberOf_34 ?_
      refine r_iload_n (pc := 35) X dX11_numberOf_35 rfl ?_
      refine bndE h (fun r4 M5 h6 h => ?_)
      refine r_callVi2 (pc := 36) X ⟨hc0, hj0⟩ rfl vy_X5_number my_X5_number ml_X11_335 ⟨Nat.le_of_ble_eq_true rfl, Nat.le_of_ble_eq_true rfl, Nat.le_of_ble_eq_true rfl, Nat.le_of_ble_eq_true rfl⟩ (c_X5_number hc0 hj0 h6) (Nat.le_of_ble_eq_true rfl) dX11_numberOf_36 ?_
      cases h
      exact r_iretX (pc := 39) X hr ⟨Nat.le_of_ble_eq_true rfl, Nat.le_of_ble_eq_true rfl⟩ dX11_numberOf_39
    · cases h
      exact r_throwNW (pc := 12) X Y (k := 3) rfl (List.mem_of_getElem? (i := 15) rfl) dX11_numberOf_12 dX11_numberOf_15 dX11_numberOf_16 dX11_numberOf_19 dX11_numberOf_22 ⟨Nat.le_of_ble_eq_true rfl, Nat.le_of_ble_eq_true rfl, Nat.le_of_ble_eq_true rfl, Nat.le_of_ble_eq_true rfl⟩ ⟨Nat.le_of_ble_eq_true rfl, Nat.le_of_ble_eq_true rfl⟩
theorem c_X11_numberOf {G : GG} {l : Launch} {sz : Nat} (hlf : l.stackTraces = false) {c0 : Nat} {j0 : Nat} {x1 : Int32} {x2 : Int32} {r : (Int32 ⊕ Nat)} {M M' : Mem} (hc0 : c0 < 6) (hj0 : j0 < 3) (h : f_X11_numberOf c0 j0 x1 x2 M = some (r, M')) : vx_Met l yX11_numberOf (wsO yX11_numberOf cX11_numberOf 3 (some .int)) (rmX 7 2) (PcX G sz [.ref (G.2.1 (4, c0, j0)), .int x1, .int x2] M) (QiX G (AX G sz) r M') (XX G (AX G sz) r M') 2 12 (AX G sz) :=
  metX_of (k := 2) (own := RX11) hlf rfl (by decide +kernel) (Nat.le_of_ble_eq_true rfl) (fun p e s m args below meth c X Y hr => t_X11_numberOf X Y hr hc0 hj0 h)
-- ConverterScanner.queued
def f_X11_queued (x1 : Int32) (x2 : Int32) (M : Mem) : Option ((Int32 ⊕ Nat) × Mem) :=
  bndX (f_X11_numberOf 1 0 x1 x2 M) (fun r1 M2 => some (.inl r1, M2))
set_option maxHeartbeats 4000000 in
set_option maxRecDepth 100000 in
theorem t_X11_queued {G : GG} {A : Nat → Prop} {p : Program} {l : Launch} {e : Env} {s : State} {m : MethodId} {args : Array Value} {below : List Frame} {meth : Method} {c : Code} {r : (Int32 ⊕ Nat)} {M' : Mem} (X : Cx G A p s m args meth c RX11 cX11_queued 3) (Y : CxX G A l s c) (hr : meth.sig.returnType = some .int) {x1 : Int32} {x2 : Int32} {M : Mem}  (h : f_X11_queued x1 x2 M = some (r, M')) : T G A p l e (rmX 8 2) s m args below meth c 3 0 0 (vx_MQ below (QiX G A r M') (XX G A r M') args s 2 12 A) 0 [(0, .ref (G.2.1 (9, 0, 0))), (1, .int x1), (2, .int x2)] [] M := by
  unfold f_X11_queued at h
  refine r_aload_n (pc := 0) X dX11_queued_0 rfl ?_
  refine r_getR (q := (2, 1, 0)) (pc := 1) X ⟨(ltb rfl), (ltb rfl)⟩ fl_X11_10 rfl dX11_queued_1 ?_
  refine r_getR (q := (4, 1, 0)) (pc := 4) X ⟨(ltb rfl), (ltb rfl)⟩ fl_X11_98 rfl dX11_queued_4 ?_
  refine r_iload_n (pc := 7) X dX11_queued_7 rfl ?_
  refine r_iload_n (pc := 8) X dX11_queued_8 rfl ?_
  refine bndXE h (fun r1x M2 h3 h => ?_)
  refine r_callXSi3 (pc := 9) X Y sy_X11_numberOf my_X11_numberOf ml_X11_323 ⟨Nat.le_of_ble_eq_true rfl, Nat.le_of_ble_eq_true rfl, Nat.le_of_ble_eq_true rfl, Nat.le_of_ble_eq_true rfl⟩ (fun sz => c_X11_numberOf Y.1 (ltb rfl) (ltb rfl) h3) h ⟨Nat.le_of_ble_eq_true rfl, Nat.le_of_ble_eq_true rfl⟩ (Nat.le_of_ble_eq_true rfl) dX11_queued_9 (fun r1 hvr1 h => ?_)
  cases h
  exact r_iretX (pc := 12) X hr ⟨Nat.le_of_ble_eq_true rfl, Nat.le_of_ble_eq_true rfl⟩ dX11_queued_12
theorem c_X11_queued {G : GG} {l : Launch} {sz : Nat} (hlf : l.stackTraces = false) {x1 : Int32} {x2 : Int32} {r : (Int32 ⊕ Nat)} {M M' : Mem}  (h : f_X11_queued x1 x2 M = some (r, M')) : vx_Met l yX11_queued (wsO yX11_queued cX11_queued 3 (some .int)) (rmX 8 2) (PcX G sz [.ref (G.2.1 (9, 0, 0)), .int x1, .int x2] M) (QiX G (AX G sz) r M') (XX G (AX G sz) r M') 2 12 (AX G sz) :=
  metX_of (k := 2) (own := RX11) hlf rfl (by decide +kernel) (Nat.le_of_ble_eq_true rfl) (fun p e s m args below meth c X Y hr => t_X11_queued X Y hr  h)
-- ConverterScanner.stored
def f_X11_stored (x1 : Int32) (x2 : Int32) (M : Mem) : Option ((Int32 ⊕ Nat) × Mem) :=
  bndX (f_X11_numberOf 1 1 x1 x2 M) (fun r1 M2 => some (.inl r1, M2))
set_option maxHeartbeats 4000000 in
set_option maxRecDepth 100000 in
theorem t_X11_stored {G : GG} {A : Nat → Prop} {p : Program} {l : Launch} {e : Env} {s : State} {m : MethodId} {args : Array Value} {below : List Frame} {meth : Method} {c : Code} {r : (Int32 ⊕ Nat)} {M' : Mem} (X : Cx G A p s m args meth c RX11 cX11_stored 3) (Y : CxX G A l s c) (hr : meth.sig.returnType = some .int) {x1 : Int32} {x2 : Int32} {M : Mem}  (h : f_X11_stored x1 x2 M = some (r, M')) : T G A p l e (rmX 8 2) s m args below meth c 3 0 0 (vx_MQ below (QiX G A r M') (XX G A r M') args s 2 12 A) 0 [(0, .ref (G.2.1 (9, 0, 0))), (1, .int x1), (2, .int x2)] [] M := by
  unfold f_X11_stored at h
  refine r_aload_n (pc := 0) X dX11_stored_0 rfl ?_
  refine r_getR (q := (2, 1, 0)) (pc := 1) X ⟨(ltb rfl), (ltb rfl)⟩ fl_X11_10 rfl dX11_stored_1 ?_
  refine r_getR (q := (4, 1, 1)) (pc := 4) X ⟨(ltb rfl), (ltb rfl)⟩ fl_X11_327 rfl dX11_stored_4 ?_
  refine r_iload_n (pc := 7) X dX11_stored_7 rfl ?_
  refine r_iload_n (pc := 8) X dX11_stored_8 rfl ?_
  refine bndXE h (fun r1x M2 h3 h => ?_)
  refine r_callXSi3 (pc := 9) X Y sy_X11_numberOf my_X11_numberOf ml_X11_323 ⟨Nat.le_of_ble_eq_true rfl, Nat.le_of_ble_eq_true rfl, Nat.le_of_ble_eq_true rfl, Nat.le_of_ble_eq_true rfl⟩ (fun sz => c_X11_numberOf Y.1 (ltb rfl) (ltb rfl) h3) h ⟨Nat.le_of_ble_eq_true rfl, Nat.le_of_ble_eq_true rfl⟩ (Nat.le_of_ble_eq_true rfl) dX11_stored_9 (fun r1 hvr1 h => ?_)
  cases h
  exact r_iretX (pc := 12) X hr ⟨Nat.le_of_ble_eq_true rfl, Nat.le_of_ble_eq_true rfl⟩ dX11_stored_12
theorem c_X11_stored {G : GG} {l : Launch} {sz : Nat} (hlf : l.stackTraces = false) {x1 : Int32} {x2 : Int32} {r : (Int32 ⊕ Nat)} {M M' : Mem}  (h : f_X11_stored x1 x2 M = some (r, M')) : vx_Met l yX11_stored (wsO yX11_stored cX11_stored 3 (some .int)) (rmX 8 2) (PcX G sz [.ref (G.2.1 (9, 0, 0)), .int x1, .int x2] M) (QiX G (AX G sz) r M') (XX G (AX G sz) r M') 2 12 (AX G sz) :=
  metX_of (k := 2) (own := RX11) hlf rfl (by decide +kernel) (Nat.le_of_ble_eq_true rfl) (fun p e s m args below meth c X Y hr => t_X11_stored X Y hr  h)
-- ConverterScanner.memorySize
def f_X11_memorySize  (M : Mem) : Option (Int32 × Mem) :=
  some ((M.1 (4, 1, 1) 5), M)
set_option maxHeartbeats 4000000 in
set_option maxRecDepth 100000 in
theorem t_X11_memorySize {G : GG} {A : Nat → Prop} {p : Program} {l : Launch} {e : Env} {s : State} {m : MethodId} {args : Array Value} {below : List Frame} {meth : Method} {c : Code} {r : Int32} {M' : Mem} (X : Cx G A p s m args meth c RX11 cX11_memorySize 1) (hr : meth.sig.returnType = some .int) {M : Mem}  (h : f_X11_memorySize M = some (r, M')) : T G A p l e (rmO 0) s m args below meth c 1 0 0 (MQ below (QiO G A r M') args s 0 0 A) 0 [(0, .ref (G.2.1 (9, 0, 0)))] [] M := by
  unfold f_X11_memorySize at h
  refine r_aload_n (pc := 0) X dX11_memorySize_0 rfl ?_
  refine r_getR (q := (2, 1, 0)) (pc := 1) X ⟨(ltb rfl), (ltb rfl)⟩ fl_X11_10 rfl dX11_memorySize_1 ?_
  refine r_getR (q := (4, 1, 1)) (pc := 4) X ⟨(ltb rfl), (ltb rfl)⟩ fl_X11_327 rfl dX11_memorySize_4 ?_
  refine r_getI (pc := 7) X ⟨(ltb rfl), (ltb rfl)⟩ fl_X11_102 rfl dX11_memorySize_7 ?_
  cases h
  exact r_iret (pc := 10) X hr dX11_memorySize_10
theorem c_X11_memorySize {G : GG} {l : Launch} {r : Int32} {M M' : Mem}  (h : f_X11_memorySize  M = some (r, M')) : Met l yX11_memorySize (wsO yX11_memorySize cX11_memorySize 1 (some .int)) (rmO 0) (PcO G [.ref (G.2.1 (9, 0, 0))] M) (QiO G (AA G) r M') 0 0 (AA G) :=
  met_of (own := RX11) rfl (by decide +kernel) (Nat.le_of_ble_eq_true rfl) (fun p e s m args below meth c X hr => t_X11_memorySize X hr  h)
-- ConverterScanner.injected
def f_X11_injected (x1 : Int32) (x2 : Int32) (M : Mem) : Option ((Int32 ⊕ Nat) × Mem) :=
  if x1 < 0 then some (.inr 2, M) else if x1 < (M.1 (5, 1, 1) 1) then bndX (f_X11_requireWhat x2 3 M) (fun r1 M2 => if x1 < (M2.1 (5, 1, 1) 8) then bnd (f_X5_number 1 2 x1 x2 M2) (fun r4 M5 => some (.inl r4, M5)) else some (.inr 3, M2)) else some (.inr 2, M)
set_option maxHeartbeats 4000000 in
set_option maxRecDepth 100000 in
theorem t_X11_injected {G : GG} {A : Nat → Prop} {p : Program} {l : Launch} {e : Env} {s : State} {m : MethodId} {args : Array Value} {below : List Frame} {meth : Method} {c : Code} {r : (Int32 ⊕ Nat)} {M' : Mem} (X : Cx G A p s m args meth c RX11 cX11_injected 3) (Y : CxX G A l s c) (hr : meth.sig.returnType = some .int) {x1 : Int32} {x2 : Int32} {M : Mem}  (h : f_X11_injected x1 x2 M = some (r, M')) : T G A p l e (rmX 7 2) s m args below meth c 3 0 0 (vx_MQ below (QiX G A r M') (XX G A r M') args s 2 12 A) 0 [(0, .ref (G.2.1 (9, 0, 0))), (1, .int x1), (2, .int x2)] [] M := by
  unfold f_X11_injected at h
  refine r_iload_n (pc := 0) X dX11_injected_0 rfl ?_
  refine r_if_lt (pc := 1) X (tgt := 18) dX11_injected_1 (by decide) h (fun h => ?_) (fun h => ?_)
  · cases h
    exact r_throwW (pc := 18) X Y (k := 2) (ltb rfl) (List.mem_of_getElem? (i := 12) rfl) dX11_injected_18 dX11_injected_21 dX11_injected_22 dX11_injected_25 dX11_injected_28 ⟨Nat.le_of_ble_eq_true rfl, Nat.le_of_ble_eq_true rfl, Nat.le_of_ble_eq_true rfl, Nat.le_of_ble_eq_true rfl⟩ ⟨Nat.le_of_ble_eq_true rfl, Nat.le_of_ble_eq_true rfl⟩
  · refine r_iload_n (pc := 4) X dX11_injected_4 rfl ?_
    refine r_aload_n (pc := 5) X dX11_injected_5 rfl ?_
    refine r_getR (q := (2, 1, 0)) (pc := 6) X ⟨(ltb rfl), (ltb rfl)⟩ fl_X11_10 rfl dX11_injected_6 ?_
    refine r_getR (q := (5, 1, 1)) (pc := 9) X ⟨(ltb rfl), (ltb rfl)⟩ fl_X11_339 rfl dX11_injected_9 ?_
    refine r_getI (pc := 12) X ⟨(ltb rfl), (ltb rfl)⟩ fl_X11_236 rfl dX11_injected_12 ?_
    refine r_icmp_lt (pc := 15) X (tgt := 29) dX11_injected_15 (by decide) h (fun h => ?_) (fun h => ?_)
    · refine r_iload_n (pc := 29) X dX11_injected_29 rfl ?_
      refine r_iconst (pc := 30) X (v := 3) dX11_injected_30 (by decide) ?_
      refine bndXE h (fun r1x M2 h3 h => ?_)
      refine r_callXSv2 (pc := 31) X Y sy_X11_requireWhat my_X11_requireWhat ml_X11_199 ⟨Nat.le_of_ble_eq_true rfl, Nat.le_of_ble_eq_true rfl, Nat.le_of_ble_eq_true rfl, Nat.le_of_ble_eq_true rfl⟩ (fun sz => c_X11_requireWhat Y.1  h3) h ⟨Nat.le_of_ble_eq_true rfl, Nat.le_of_ble_eq_true rfl⟩ (Nat.le_of_ble_eq_true rfl) dX11_injected_31 (fun r1 hvr1 h => ?_)
      refine r_aload_n (pc := 34) X dX11_injected_34 rfl ?_
      refine r_getR (q := (2, 1, 0)) (pc := 35) X ⟨(ltb rfl), (ltb rfl)⟩ fl_X11_10 rfl dX11_injected_35 ?_
      refine r_getR (q := (5, 1, 1)) (pc := 38) X ⟨(ltb rfl), (ltb rfl)⟩ fl_X11_339 rfl dX11_injected_38 ?_
      refine r_getI (pc := 41) X ⟨(ltb rfl), (ltb rfl)⟩ fl_X11_253 rfl dX11_injected_41 ?_
      refine r_iload_n (pc := 44) X dX11_injected_44 rfl ?_
      refine r_icmp_gt (pc := 45) X (tgt := 59) dX11_injected_45 (by decide) h (fun h => ?_) (fun h => ?_)
      · refine r_aload_n (pc := 59) X dX11_injected_59 rfl ?_
        refine r_getR (q := (2, 1, 0)) (pc := 60) X ⟨(ltb rfl), (ltb rfl)⟩ fl_X11_10 rfl dX11_injected_60 ?_
        refine r_getR (q := (4, 1, 2)) (pc := 63) X ⟨(ltb rfl), (ltb rfl)⟩ fl_X11_345 rfl dX11_injected_63 ?_
        refine r_iload_n (pc := 66) X dX11_injected_66 rfl ?_
        refine r_iload_n (pc := 67) X dX11_injected_67 rfl ?_
        refine bndE h (fun r4 M5 h6 h => ?_)
        refine r_callVi2 (pc := 68) X ⟨(ltb rfl), (ltb rfl)⟩ rfl vy_X5_number my_X5_number ml_X11_335 ⟨Nat.le_of_ble_eq_true rfl, Nat.le_of_ble_eq_true rfl, Nat.le_of_ble_eq_true rfl, Nat.le_of_ble_eq_true rfl⟩ (c_X5_number (ltb rfl) (ltb rfl) h6) (Nat.le_of_ble_eq_true rfl) dX11_injected_68 ?_
        cases h
        exact r_iretX (pc := 71) X hr ⟨Nat.le_of_ble_eq_true rfl, Nat.le_of_ble_eq_true rfl⟩ dX11_injected_71
      · cases h
        exact r_throwNW (pc := 48) X Y (k := 3) rfl (List.mem_of_getElem? (i := 16) rfl) dX11_injected_48 dX11_injected_51 dX11_injected_52 dX11_injected_55 dX11_injected_58 ⟨Nat.le_of_ble_eq_true rfl, Nat.le_of_ble_eq_true rfl, Nat.le_of_ble_eq_true rfl, Nat.le_of_ble_eq_true rfl⟩ ⟨Nat.le_of_ble_eq_true rfl, Nat.le_of_ble_eq_true rfl⟩
    · cases h
      exact r_throwW (pc := 18) X Y (k := 2) (ltb rfl) (List.mem_of_getElem? (i := 12) rfl) dX11_injected_18 dX11_injected_21 dX11_injected_22 dX11_injected_25 dX11_injected_28 ⟨Nat.le_of_ble_eq_true rfl, Nat.le_of_ble_eq_true rfl, Nat.le_of_ble_eq_true rfl, Nat.le_of_ble_eq_true rfl⟩ ⟨Nat.le_of_ble_eq_true rfl, Nat.le_of_ble_eq_true rfl⟩
theorem c_X11_injected {G : GG} {l : Launch} {sz : Nat} (hlf : l.stackTraces = false) {x1 : Int32} {x2 : Int32} {r : (Int32 ⊕ Nat)} {M M' : Mem}  (h : f_X11_injected x1 x2 M = some (r, M')) : vx_Met l yX11_injected (wsO yX11_injected cX11_injected 3 (some .int)) (rmX 7 2) (PcX G sz [.ref (G.2.1 (9, 0, 0)), .int x1, .int x2] M) (QiX G (AX G sz) r M') (XX G (AX G sz) r M') 2 12 (AX G sz) :=
  metX_of (k := 2) (own := RX11) hlf rfl (by decide +kernel) (Nat.le_of_ble_eq_true rfl) (fun p e s m args below meth c X Y hr => t_X11_injected X Y hr  h)
-- ConverterScanner.latency
def f_X11_latency_13 (xs0 : Int32) (cs1 : Nat) (M : Mem) : Option ((UInt64 ⊕ Nat) × Mem) :=
  bnd (f_X3_sequenceOf cs1 xs0 M) (fun r1 M2 => if (M2.1 (5, r1.1, r1.2) 8) = 0 then some (.inr 3, M2) else if ddivOK (FP.l2d (M2.2.1 (5, r1.1, r1.2) 12)) (FP.i2d (M2.1 (5, r1.1, r1.2) 8)) = false then none else some (.inl (FP.ddiv (FP.l2d (M2.2.1 (5, r1.1, r1.2) 12)) (FP.i2d (M2.1 (5, r1.1, r1.2) 8))), M2))
set_option maxHeartbeats 4000000 in
set_option maxRecDepth 100000 in
theorem t_X11_latency_13 {G : GG} {A : Nat → Prop} {p : Program} {l : Launch} {e : Env} {s : State} {m : MethodId} {args : Array Value} {below : List Frame} {meth : Method} {c : Code} {r : (UInt64 ⊕ Nat)} {M' : Mem} (X : Cx G A p s m args meth c RX11 cX11_latency 3) (Y : CxX G A l s c) (hr : meth.sig.returnType = some .double) {xs0 : Int32} {cs1 : Nat} {M : Mem} (hcs1 : cs1 < 6) (h : f_X11_latency_13 xs0 cs1 M = some (r, M')) : T G A p l e (rmX 6 1) s m args below meth c 3 0 0 (vx_MQ below (QdX G A r M') (XX G A r M') args s 1 6 A) 13 [] [.int xs0, .ref (G.2.1 (2, cs1, 0))] M := by
  unfold f_X11_latency_13 at h
  refine bndE h (fun r1 M2 h3 h => ?_)
  refine r_callVr1 (pc := 13) X ⟨hcs1, (ltb rfl)⟩ rfl vy_X3_sequenceOf my_X3_sequenceOf ml_X11_232 ⟨Nat.le_of_ble_eq_true rfl, Nat.le_of_ble_eq_true rfl, Nat.le_of_ble_eq_true rfl, Nat.le_of_ble_eq_true rfl⟩ (c_X3_sequenceOf hcs1 h3) (Nat.le_of_ble_eq_true rfl) dX11_latency_13 ?_
  refine r_astore_n (pc := 16) X (by decide) dX11_latency_16 ?_
  refine r_aload_n (pc := 17) X dX11_latency_17 rfl ?_
  refine r_getI (pc := 18) X ⟨(okr_X3_sequenceOf hcs1 h3).1, (okr_X3_sequenceOf hcs1 h3).2⟩ fl_X11_253 rfl dX11_latency_18 ?_
  refine r_if_ne (pc := 21) X (tgt := 35) dX11_latency_21 (by decide) h (fun h => ?_) (fun h => ?_)
  · refine r_aload_n (pc := 35) X dX11_latency_35 rfl ?_
    refine r_getL (pc := 36) X ⟨(okr_X3_sequenceOf hcs1 h3).1, (okr_X3_sequenceOf hcs1 h3).2⟩ fl_X11_350 rfl dX11_latency_36 ?_
    refine r_l2d (pc := 39) X dX11_latency_39 ?_
    refine r_aload_n (pc := 40) X dX11_latency_40 rfl ?_
    refine r_getI (pc := 41) X ⟨(okr_X3_sequenceOf hcs1 h3).1, (okr_X3_sequenceOf hcs1 h3).2⟩ fl_X11_253 rfl dX11_latency_41 ?_
    refine r_i2d (pc := 44) X dX11_latency_44 ?_
    refine r_ddiv (pc := 45) X dX11_latency_45 h (fun h => ?_)
    cases h
    exact r_dretX (pc := 46) X hr ⟨Nat.le_of_ble_eq_true rfl, Nat.le_of_ble_eq_true rfl⟩ dX11_latency_46
  · cases h
    exact r_throwNW (pc := 24) X Y (k := 3) rfl (List.mem_of_getElem? (i := 17) rfl) dX11_latency_24 dX11_latency_27 dX11_latency_28 dX11_latency_31 dX11_latency_34 ⟨Nat.le_of_ble_eq_true rfl, Nat.le_of_ble_eq_true rfl, Nat.le_of_ble_eq_true rfl, Nat.le_of_ble_eq_true rfl⟩ ⟨Nat.le_of_ble_eq_true rfl, Nat.le_of_ble_eq_true rfl⟩
def f_X11_latency (x1 : Int32) (M : Mem) : Option ((UInt64 ⊕ Nat) × Mem) :=
  if x1 = 0 then f_X11_latency_13 1 1 M else f_X11_latency_13 2 1 M
set_option maxHeartbeats 4000000 in
set_option maxRecDepth 100000 in
theorem t_X11_latency {G : GG} {A : Nat → Prop} {p : Program} {l : Launch} {e : Env} {s : State} {m : MethodId} {args : Array Value} {below : List Frame} {meth : Method} {c : Code} {r : (UInt64 ⊕ Nat)} {M' : Mem} (X : Cx G A p s m args meth c RX11 cX11_latency 3) (Y : CxX G A l s c) (hr : meth.sig.returnType = some .double) {x1 : Int32} {M : Mem}  (h : f_X11_latency x1 M = some (r, M')) : T G A p l e (rmX 6 1) s m args below meth c 3 0 0 (vx_MQ below (QdX G A r M') (XX G A r M') args s 1 6 A) 0 [(0, .ref (G.2.1 (9, 0, 0))), (1, .int x1)] [] M := by
  unfold f_X11_latency at h
  refine r_aload_n (pc := 0) X dX11_latency_0 rfl ?_
  refine r_getR (q := (2, 1, 0)) (pc := 1) X ⟨(ltb rfl), (ltb rfl)⟩ fl_X11_10 rfl dX11_latency_1 ?_
  refine r_iload_n (pc := 4) X dX11_latency_4 rfl ?_
  refine r_if_eq (pc := 5) X (tgt := 12) dX11_latency_5 (by decide) h (fun h => ?_) (fun h => ?_)
  · refine r_iconst (pc := 12) X (v := 1) dX11_latency_12 (by decide) ?_
    exact T_widen (k := 0) (n := 0) (Nat.le_of_ble_eq_true rfl) (Nat.le_of_ble_eq_true rfl) (T_sub (t_X11_latency_13 X Y hr (ltb rfl) h) trivial)
  · refine r_iconst (pc := 8) X (v := 2) dX11_latency_8 (by decide) ?_
    refine r_goto (pc := 9) X (tgt := 13) dX11_latency_9 (by decide) ?_
    exact T_widen (k := 0) (n := 0) (Nat.le_of_ble_eq_true rfl) (Nat.le_of_ble_eq_true rfl) (T_sub (t_X11_latency_13 X Y hr (ltb rfl) h) trivial)
theorem c_X11_latency {G : GG} {l : Launch} {sz : Nat} (hlf : l.stackTraces = false) {x1 : Int32} {r : (UInt64 ⊕ Nat)} {M M' : Mem}  (h : f_X11_latency x1 M = some (r, M')) : vx_Met l yX11_latency (wsO yX11_latency cX11_latency 3 (some .double)) (rmX 6 1) (PcX G sz [.ref (G.2.1 (9, 0, 0)), .int x1] M) (QdX G (AX G sz) r M') (XX G (AX G sz) r M') 1 6 (AX G sz) :=
  metX_of (k := 1) (own := RX11) hlf rfl (by decide +kernel) (Nat.le_of_ble_eq_true rfl) (fun p e s m args below meth c X Y hr => t_X11_latency X Y hr  h)
-- ConverterScanner.nextResult
def f_X11_nextResult_28 : Nat → Int32 → Int32 → Int32 → Mem → Option ((Int32 ⊕ Nat) × Mem)
  | 0 => fun _ _ _ _ => none
  | n + 1 => fun x1 x2 x3 M => if x1 ≤ x3 then some (.inl (-1), M) else nm (M.1 (2, 5, 0) 15) (fun e1 => bnd (f_X3_passCycle 5 M) (fun r2 M3 => bnd (f_X3_resultCount 5 M3) (fun r5 M6 => if r5 = x2 then nm (x3 + 1) (fun e8 => (f_X11_nextResult_28 n) x1 x2 e8 M6) else some (.inl e1, M6))))
set_option maxHeartbeats 4000000 in
set_option maxRecDepth 100000 in
theorem t_X11_nextResult_28 {G : GG} {A : Nat → Prop} {p : Program} {l : Launch} {e : Env} {s : State} {m : MethodId} {args : Array Value} {below : List Frame} {meth : Method} {c : Code} {r : (Int32 ⊕ Nat)} {M' : Mem} (X : Cx G A p s m args meth c RX11 cX11_nextResult 5) (Y : CxX G A l s c) (hr : meth.sig.returnType = some .int) : ∀ (n : Nat) (x1 : Int32) (x2 : Int32) (x3 : Int32) (M : Mem), f_X11_nextResult_28 n x1 x2 x3 M = some (r, M') → T G A p l e (rmX 7 1) s m args below meth c 5 1 6 (vx_MQ below (QiX G A r M') (XX G A r M') args s 1 6 A) 28 [(0, .ref (G.2.1 (9, 0, 0))), (1, .int x1), (2, .int x2), (3, .int x3)] [] M := by
  intro n
  induction n with
  | zero =>
    intro x1 x2 x3 M  h
    cases h
  | succ n ih =>
    intro x1 x2 x3 M  h
    unfold f_X11_nextResult_28 at h
    refine r_iload_n (pc := 28) X dX11_nextResult_28 rfl ?_
    refine r_iload_n (pc := 29) X dX11_nextResult_29 rfl ?_
    refine r_icmp_ge (pc := 30) X (tgt := 69) dX11_nextResult_30 (by decide) h (fun h => ?_) (fun h => ?_)
    · refine r_iconst (pc := 69) X (v := (-1)) dX11_nextResult_69 (by decide) ?_
      cases h
      exact r_iretX (pc := 70) X hr ⟨Nat.le_of_ble_eq_true rfl, Nat.le_of_ble_eq_true rfl⟩ dX11_nextResult_70
    · refine r_aload_n (pc := 33) X dX11_nextResult_33 rfl ?_
      refine r_getR (q := (2, 5, 0)) (pc := 34) X ⟨(ltb rfl), (ltb rfl)⟩ fl_X11_16 rfl dX11_nextResult_34 ?_
      refine r_getI (pc := 37) X ⟨(ltb rfl), (ltb rfl)⟩ fl_X11_166 rfl dX11_nextResult_37 ?_
      refine r_istoreN (pc := 40) X (by decide) dX11_nextResult_40 h (fun e1 h => ?_)
      refine r_aload_n (pc := 42) X dX11_nextResult_42 rfl ?_
      refine r_getR (q := (2, 5, 0)) (pc := 43) X ⟨(ltb rfl), (ltb rfl)⟩ fl_X11_16 rfl dX11_nextResult_43 ?_
      refine bndE h (fun r2 M3 h4 h => ?_)
      refine r_callVv0 (pc := 46) X ⟨(ltb rfl), (ltb rfl)⟩ rfl vy_X3_passCycle my_X3_passCycle ml_X11_84 ⟨Nat.le_of_ble_eq_true rfl, Nat.le_of_ble_eq_true rfl, Nat.le_of_ble_eq_true rfl, Nat.le_of_ble_eq_true rfl⟩ (c_X3_passCycle (ltb rfl) h4) (Nat.le_of_ble_eq_true rfl) dX11_nextResult_46 ?_
      refine r_aload_n (pc := 49) X dX11_nextResult_49 rfl ?_
      refine r_getR (q := (2, 5, 0)) (pc := 50) X ⟨(ltb rfl), (ltb rfl)⟩ fl_X11_16 rfl dX11_nextResult_50 ?_
      refine bndE h (fun r5 M6 h7 h => ?_)
      refine r_callVi0 (pc := 53) X ⟨(ltb rfl), (ltb rfl)⟩ rfl vy_X3_resultCount my_X3_resultCount ml_X11_81 ⟨Nat.le_of_ble_eq_true rfl, Nat.le_of_ble_eq_true rfl, Nat.le_of_ble_eq_true rfl, Nat.le_of_ble_eq_true rfl⟩ (c_X3_resultCount (ltb rfl) h7) (Nat.le_of_ble_eq_true rfl) dX11_nextResult_53 ?_
      refine r_iload_n (pc := 56) X dX11_nextResult_56 rfl ?_
      refine r_icmp_eq (pc := 57) X (tgt := 63) dX11_nextResult_57 (by decide) h (fun h => ?_) (fun h => ?_)
      · refine r_iincN (pc := 63) X (v0 := 1) rfl (by decide) (by decide) dX11_nextResult_63 h (fun e8 h => ?_)
        refine r_goto (pc := 66) X (tgt := 28) dX11_nextResult_66 (by decide) ?_
        exact T_widen (k := 1) (n := 6) (Nat.le_of_ble_eq_true rfl) (Nat.le_of_ble_eq_true rfl) (T_sub (ih _ _ _ _ h) ⟨rfl, rfl, rfl, rfl, trivial⟩)
      · refine r_iload (pc := 60) X dX11_nextResult_60 rfl ?_
        cases h
        exact r_iretX (pc := 62) X hr ⟨Nat.le_of_ble_eq_true rfl, Nat.le_of_ble_eq_true rfl⟩ dX11_nextResult_62
def f_X11_nextResult (x1 : Int32) (M : Mem) : Option ((Int32 ⊕ Nat) × Mem) :=
  bndX (f_X11_requireCycles x1 5000 M) (fun r1 M2 => bnd (f_X3_copyFrom 5 1 M2) (fun r4 M5 => bnd (f_X3_resultCount 1 M5) (fun r7 M8 => f_X11_nextResult_28 fuelN x1 r7 0 M8)))
set_option maxHeartbeats 4000000 in
set_option maxRecDepth 100000 in
theorem t_X11_nextResult {G : GG} {A : Nat → Prop} {p : Program} {l : Launch} {e : Env} {s : State} {m : MethodId} {args : Array Value} {below : List Frame} {meth : Method} {c : Code} {r : (Int32 ⊕ Nat)} {M' : Mem} (X : Cx G A p s m args meth c RX11 cX11_nextResult 5) (Y : CxX G A l s c) (hr : meth.sig.returnType = some .int) {x1 : Int32} {M : Mem}  (h : f_X11_nextResult x1 M = some (r, M')) : T G A p l e (rmX 7 1) s m args below meth c 5 0 0 (vx_MQ below (QiX G A r M') (XX G A r M') args s 1 6 A) 0 [(0, .ref (G.2.1 (9, 0, 0))), (1, .int x1)] [] M := by
  unfold f_X11_nextResult at h
  refine r_iload_n (pc := 0) X dX11_nextResult_0 rfl ?_
  refine r_sipush (pc := 1) X (v := 5000) dX11_nextResult_1 (by decide) ?_
  refine bndXE h (fun r1x M2 h3 h => ?_)
  refine r_callXSv2 (pc := 4) X Y sy_X11_requireCycles my_X11_requireCycles ml_X11_77 ⟨Nat.le_of_ble_eq_true rfl, Nat.le_of_ble_eq_true rfl, Nat.le_of_ble_eq_true rfl, Nat.le_of_ble_eq_true rfl⟩ (fun sz => c_X11_requireCycles Y.1  h3) h ⟨Nat.le_of_ble_eq_true rfl, Nat.le_of_ble_eq_true rfl⟩ (Nat.le_of_ble_eq_true rfl) dX11_nextResult_4 (fun r1 hvr1 h => ?_)
  refine r_aload_n (pc := 7) X dX11_nextResult_7 rfl ?_
  refine r_getR (q := (2, 5, 0)) (pc := 8) X ⟨(ltb rfl), (ltb rfl)⟩ fl_X11_16 rfl dX11_nextResult_8 ?_
  refine r_aload_n (pc := 11) X dX11_nextResult_11 rfl ?_
  refine r_getR (q := (2, 1, 0)) (pc := 12) X ⟨(ltb rfl), (ltb rfl)⟩ fl_X11_10 rfl dX11_nextResult_12 ?_
  refine bndE h (fun r4 M5 h6 h => ?_)
  refine r_callVv1 (pc := 15) X ⟨(ltb rfl), (ltb rfl)⟩ rfl vy_X3_copyFrom my_X3_copyFrom ml_X11_67 ⟨Nat.le_of_ble_eq_true rfl, Nat.le_of_ble_eq_true rfl, Nat.le_of_ble_eq_true rfl, Nat.le_of_ble_eq_true rfl⟩ (c_X3_copyFrom (ltb rfl) (ltb rfl) h6) (Nat.le_of_ble_eq_true rfl) dX11_nextResult_15 ?_
  refine r_aload_n (pc := 18) X dX11_nextResult_18 rfl ?_
  refine r_getR (q := (2, 1, 0)) (pc := 19) X ⟨(ltb rfl), (ltb rfl)⟩ fl_X11_10 rfl dX11_nextResult_19 ?_
  refine bndE h (fun r7 M8 h9 h => ?_)
  refine r_callVi0 (pc := 22) X ⟨(ltb rfl), (ltb rfl)⟩ rfl vy_X3_resultCount my_X3_resultCount ml_X11_81 ⟨Nat.le_of_ble_eq_true rfl, Nat.le_of_ble_eq_true rfl, Nat.le_of_ble_eq_true rfl, Nat.le_of_ble_eq_true rfl⟩ (c_X3_resultCount (ltb rfl) h9) (Nat.le_of_ble_eq_true rfl) dX11_nextResult_22 ?_
  refine r_istore_n (pc := 25) X (by decide) dX11_nextResult_25 ?_
  refine r_iconst (pc := 26) X (v := 0) dX11_nextResult_26 (by decide) ?_
  refine r_istore_n (pc := 27) X (by decide) dX11_nextResult_27 ?_
  exact T_widen (k := 1) (n := 6) (Nat.le_of_ble_eq_true rfl) (Nat.le_of_ble_eq_true rfl) (T_sub (t_X11_nextResult_28 X Y hr _ _ _ _ _ h) ⟨rfl, rfl, rfl, rfl, trivial⟩)
theorem c_X11_nextResult {G : GG} {l : Launch} {sz : Nat} (hlf : l.stackTraces = false) {x1 : Int32} {r : (Int32 ⊕ Nat)} {M M' : Mem}  (h : f_X11_nextResult x1 M = some (r, M')) : vx_Met l yX11_nextResult (wsO yX11_nextResult cX11_nextResult 5 (some .int)) (rmX 7 1) (PcX G sz [.ref (G.2.1 (9, 0, 0)), .int x1] M) (QiX G (AX G sz) r M') (XX G (AX G sz) r M') 1 6 (AX G sz) :=
  metX_of (k := 1) (own := RX11) hlf rfl (by decide +kernel) (Nat.le_of_ble_eq_true rfl) (fun p e s m args below meth c X Y hr => t_X11_nextResult X Y hr  h)
-- ConverterScanner.whenRaised
def f_X11_whenRaised_53 : Nat → Int32 → Nat → Nat → Int32 → Mem → Option ((Int32 ⊕ Nat) × Mem)
  | 0 => fun _ _ _ _ _ => none
  | n + 1 => fun x2 c3 j3 x4 M => if x2 ≤ x4 then some (.inl (M.1 (8, c3, j3) 7), M) else if (M.1 (8, c3, j3) 6) = 0 then bnd (f_X3_passCycle 5 M) (fun r1 M2 => nm (x4 + 1) (fun e4 => (f_X11_whenRaised_53 n) x2 c3 j3 e4 M2)) else some (.inl (M.1 (8, c3, j3) 7), M)
set_option maxHeartbeats 4000000 in
set_option maxRecDepth 100000 in
theorem t_X11_whenRaised_53 {G : GG} {A : Nat → Prop} {p : Program} {l : Launch} {e : Env} {s : State} {m : MethodId} {args : Array Value} {below : List Frame} {meth : Method} {c : Code} {r : (Int32 ⊕ Nat)} {M' : Mem} (X : Cx G A p s m args meth c RX11 cX11_whenRaised 5) (Y : CxX G A l s c) (hr : meth.sig.returnType = some .int) : ∀ (n : Nat) (x2 : Int32) (c3 : Nat) (j3 : Nat) (x4 : Int32) (M : Mem), c3 < 6 → j3 < 3 → f_X11_whenRaised_53 n x2 c3 j3 x4 M = some (r, M') → T G A p l e (rmX 7 2) s m args below meth c 5 2 12 (vx_MQ below (QiX G A r M') (XX G A r M') args s 2 12 A) 53 [(0, .ref (G.2.1 (9, 0, 0))), (2, .int x2), (3, .ref (G.2.1 (8, c3, j3))), (4, .int x4)] [] M := by
  intro n
  induction n with
  | zero =>
    intro x2 c3 j3 x4 M hc3 hj3 h
    cases h
  | succ n ih =>
    intro x2 c3 j3 x4 M hc3 hj3 h
    unfold f_X11_whenRaised_53 at h
    refine r_iload (pc := 53) X dX11_whenRaised_53 rfl ?_
    refine r_iload_n (pc := 55) X dX11_whenRaised_55 rfl ?_
    refine r_icmp_ge (pc := 56) X (tgt := 79) dX11_whenRaised_56 (by decide) h (fun h => ?_) (fun h => ?_)
    · refine r_aload_n (pc := 79) X dX11_whenRaised_79 rfl ?_
      refine r_getI (pc := 80) X ⟨hc3, hj3⟩ fl_X11_312 rfl dX11_whenRaised_80 ?_
      cases h
      exact r_iretX (pc := 83) X hr ⟨Nat.le_of_ble_eq_true rfl, Nat.le_of_ble_eq_true rfl⟩ dX11_whenRaised_83
    · refine r_aload_n (pc := 59) X dX11_whenRaised_59 rfl ?_
      refine r_getI (pc := 60) X ⟨hc3, hj3⟩ fl_X11_189 rfl dX11_whenRaised_60 ?_
      refine r_if_ne (pc := 63) X (tgt := 79) dX11_whenRaised_63 (by decide) h (fun h => ?_) (fun h => ?_)
      · refine r_aload_n (pc := 79) X dX11_whenRaised_79 rfl ?_
        refine r_getI (pc := 80) X ⟨hc3, hj3⟩ fl_X11_312 rfl dX11_whenRaised_80 ?_
        cases h
        exact r_iretX (pc := 83) X hr ⟨Nat.le_of_ble_eq_true rfl, Nat.le_of_ble_eq_true rfl⟩ dX11_whenRaised_83
      · refine r_aload_n (pc := 66) X dX11_whenRaised_66 rfl ?_
        refine r_getR (q := (2, 5, 0)) (pc := 67) X ⟨(ltb rfl), (ltb rfl)⟩ fl_X11_16 rfl dX11_whenRaised_67 ?_
        refine bndE h (fun r1 M2 h3 h => ?_)
        refine r_callVv0 (pc := 70) X ⟨(ltb rfl), (ltb rfl)⟩ rfl vy_X3_passCycle my_X3_passCycle ml_X11_84 ⟨Nat.le_of_ble_eq_true rfl, Nat.le_of_ble_eq_true rfl, Nat.le_of_ble_eq_true rfl, Nat.le_of_ble_eq_true rfl⟩ (c_X3_passCycle (ltb rfl) h3) (Nat.le_of_ble_eq_true rfl) dX11_whenRaised_70 ?_
        refine r_iincN (pc := 73) X (v0 := 1) rfl (by decide) (by decide) dX11_whenRaised_73 h (fun e4 h => ?_)
        refine r_goto (pc := 76) X (tgt := 53) dX11_whenRaised_76 (by decide) ?_
        exact T_widen (k := 2) (n := 12) (Nat.le_of_ble_eq_true rfl) (Nat.le_of_ble_eq_true rfl) (T_sub (ih _ _ _ _ _ hc3 hj3 h) ⟨rfl, rfl, rfl, rfl, trivial⟩)
def f_X11_whenRaised (x1 : Int32) (x2 : Int32) (M : Mem) : Option ((Int32 ⊕ Nat) × Mem) :=
  bndX (f_X11_requireWindow x1 M) (fun r1 M2 => bndX (f_X11_requireCycles x2 5000 M2) (fun r4 M5 => if bad x1 3 then none else if (M5.1 (8, 1, (Int32.toNatClampNeg x1)) 6) = 0 then bnd (f_X3_copyFrom 5 1 M5) (fun r8 M9 => if bad x1 3 then none else f_X11_whenRaised_53 fuelN x2 5 (Int32.toNatClampNeg x1) 0 M9) else some (.inl (-1), M5)))
set_option maxHeartbeats 4000000 in
set_option maxRecDepth 100000 in
theorem t_X11_whenRaised {G : GG} {A : Nat → Prop} {p : Program} {l : Launch} {e : Env} {s : State} {m : MethodId} {args : Array Value} {below : List Frame} {meth : Method} {c : Code} {r : (Int32 ⊕ Nat)} {M' : Mem} (X : Cx G A p s m args meth c RX11 cX11_whenRaised 5) (Y : CxX G A l s c) (hr : meth.sig.returnType = some .int) {x1 : Int32} {x2 : Int32} {M : Mem}  (h : f_X11_whenRaised x1 x2 M = some (r, M')) : T G A p l e (rmX 7 2) s m args below meth c 5 0 0 (vx_MQ below (QiX G A r M') (XX G A r M') args s 2 12 A) 0 [(0, .ref (G.2.1 (9, 0, 0))), (1, .int x1), (2, .int x2)] [] M := by
  unfold f_X11_whenRaised at h
  refine r_aload_n (pc := 0) X dX11_whenRaised_0 rfl ?_
  refine r_iload_n (pc := 1) X dX11_whenRaised_1 rfl ?_
  refine bndXE h (fun r1x M2 h3 h => ?_)
  refine r_callXVv1 (pc := 2) X Y ⟨(ltb rfl), (ltb rfl)⟩ rfl vy_X11_requireWindow my_X11_requireWindow ml_X11_119 ⟨Nat.le_of_ble_eq_true rfl, Nat.le_of_ble_eq_true rfl, Nat.le_of_ble_eq_true rfl, Nat.le_of_ble_eq_true rfl⟩ (fun sz => c_X11_requireWindow Y.1  h3) h ⟨Nat.le_of_ble_eq_true rfl, Nat.le_of_ble_eq_true rfl⟩ (Nat.le_of_ble_eq_true rfl) dX11_whenRaised_2 (fun r1 hvr1 h => ?_)
  refine r_iload_n (pc := 5) X dX11_whenRaised_5 rfl ?_
  refine r_sipush (pc := 6) X (v := 5000) dX11_whenRaised_6 (by decide) ?_
  refine bndXE h (fun r4x M5 h6 h => ?_)
  refine r_callXSv2 (pc := 9) X Y sy_X11_requireCycles my_X11_requireCycles ml_X11_77 ⟨Nat.le_of_ble_eq_true rfl, Nat.le_of_ble_eq_true rfl, Nat.le_of_ble_eq_true rfl, Nat.le_of_ble_eq_true rfl⟩ (fun sz => c_X11_requireCycles Y.1  h6) h ⟨Nat.le_of_ble_eq_true rfl, Nat.le_of_ble_eq_true rfl⟩ (Nat.le_of_ble_eq_true rfl) dX11_whenRaised_9 (fun r4 hvr4 h => ?_)
  refine r_aload_n (pc := 12) X dX11_whenRaised_12 rfl ?_
  refine r_getR (q := (2, 1, 0)) (pc := 13) X ⟨(ltb rfl), (ltb rfl)⟩ fl_X11_10 rfl dX11_whenRaised_13 ?_
  refine r_getR (q := (26, 1, 0)) (pc := 16) X ⟨(ltb rfl), (ltb rfl)⟩ fl_X11_122 rfl dX11_whenRaised_16 ?_
  refine r_iload_n (pc := 19) X dX11_whenRaised_19 rfl ?_
  refine r_aald (pc := 20) X (t := 2) (n := 3) ⟨(ltb rfl), (ltb rfl)⟩ rfl (ltb rfl) (nlt rfl) dX11_whenRaised_20 h (fun hb7 h => ?_)
  refine r_getI (pc := 21) X ⟨(ltb rfl), (bad_lt hb7)⟩ fl_X11_189 rfl dX11_whenRaised_21 ?_
  refine r_if_eq (pc := 24) X (tgt := 29) dX11_whenRaised_24 (by decide) h (fun h => ?_) (fun h => ?_)
  · refine r_aload_n (pc := 29) X dX11_whenRaised_29 rfl ?_
    refine r_getR (q := (2, 5, 0)) (pc := 30) X ⟨(ltb rfl), (ltb rfl)⟩ fl_X11_16 rfl dX11_whenRaised_30 ?_
    refine r_aload_n (pc := 33) X dX11_whenRaised_33 rfl ?_
    refine r_getR (q := (2, 1, 0)) (pc := 34) X ⟨(ltb rfl), (ltb rfl)⟩ fl_X11_10 rfl dX11_whenRaised_34 ?_
    refine bndE h (fun r8 M9 h10 h => ?_)
    refine r_callVv1 (pc := 37) X ⟨(ltb rfl), (ltb rfl)⟩ rfl vy_X3_copyFrom my_X3_copyFrom ml_X11_67 ⟨Nat.le_of_ble_eq_true rfl, Nat.le_of_ble_eq_true rfl, Nat.le_of_ble_eq_true rfl, Nat.le_of_ble_eq_true rfl⟩ (c_X3_copyFrom (ltb rfl) (ltb rfl) h10) (Nat.le_of_ble_eq_true rfl) dX11_whenRaised_37 ?_
    refine r_aload_n (pc := 40) X dX11_whenRaised_40 rfl ?_
    refine r_getR (q := (2, 5, 0)) (pc := 41) X ⟨(ltb rfl), (ltb rfl)⟩ fl_X11_16 rfl dX11_whenRaised_41 ?_
    refine r_getR (q := (26, 5, 0)) (pc := 44) X ⟨(ltb rfl), (ltb rfl)⟩ fl_X11_122 rfl dX11_whenRaised_44 ?_
    refine r_iload_n (pc := 47) X dX11_whenRaised_47 rfl ?_
    refine r_aald (pc := 48) X (t := 2) (n := 3) ⟨(ltb rfl), (ltb rfl)⟩ rfl (ltb rfl) (nlt rfl) dX11_whenRaised_48 h (fun hb11 h => ?_)
    refine r_astore_n (pc := 49) X (by decide) dX11_whenRaised_49 ?_
    refine r_iconst (pc := 50) X (v := 0) dX11_whenRaised_50 (by decide) ?_
    refine r_istore (pc := 51) X (by decide) dX11_whenRaised_51 ?_
    exact T_widen (k := 2) (n := 12) (Nat.le_of_ble_eq_true rfl) (Nat.le_of_ble_eq_true rfl) (T_sub (t_X11_whenRaised_53 X Y hr _ _ _ _ _ _ (ltb rfl) (bad_lt hb11) h) ⟨rfl, rfl, rfl, rfl, trivial⟩)
  · refine r_iconst (pc := 27) X (v := (-1)) dX11_whenRaised_27 (by decide) ?_
    cases h
    exact r_iretX (pc := 28) X hr ⟨Nat.le_of_ble_eq_true rfl, Nat.le_of_ble_eq_true rfl⟩ dX11_whenRaised_28
theorem c_X11_whenRaised {G : GG} {l : Launch} {sz : Nat} (hlf : l.stackTraces = false) {x1 : Int32} {x2 : Int32} {r : (Int32 ⊕ Nat)} {M M' : Mem}  (h : f_X11_whenRaised x1 x2 M = some (r, M')) : vx_Met l yX11_whenRaised (wsO yX11_whenRaised cX11_whenRaised 5 (some .int)) (rmX 7 2) (PcX G sz [.ref (G.2.1 (9, 0, 0)), .int x1, .int x2] M) (QiX G (AX G sz) r M') (XX G (AX G sz) r M') 2 12 (AX G sz) :=
  metX_of (k := 2) (own := RX11) hlf rfl (by decide +kernel) (Nat.le_of_ble_eq_true rfl) (fun p e s m args below meth c X Y hr => t_X11_whenRaised X Y hr  h)
-- ConverterScanner.countOverruns
def f_X11_countOverruns_25 : Nat → Int32 → Int32 → Int32 → Int32 → Mem → Option (Int32 × Mem)
  | 0 => fun _ _ _ _ _ => none
  | n + 1 => fun x2 x3 x4 x5 M => if x2 ≤ x5 then some (x4, M) else if x3 ≤ x4 then some (x4, M) else bnd (f_X3_passCycle 5 M) (fun r1 M2 => nm ((M2.1 (4, 5, 0) 6) - (M2.1 (4, 1, 0) 6)) (fun e4 => nm (x5 + 1) (fun e5 => (f_X11_countOverruns_25 n) x2 x3 e4 e5 M2)))
set_option maxHeartbeats 4000000 in
set_option maxRecDepth 100000 in
theorem t_X11_countOverruns_25 {G : GG} {A : Nat → Prop} {p : Program} {l : Launch} {e : Env} {s : State} {m : MethodId} {args : Array Value} {below : List Frame} {meth : Method} {c : Code} {r : Int32} {M' : Mem} (X : Cx G A p s m args meth c RX11 cX11_countOverruns 6) (hr : meth.sig.returnType = some .int) : ∀ (n : Nat) (x2 : Int32) (x3 : Int32) (x4 : Int32) (x5 : Int32) (M : Mem), f_X11_countOverruns_25 n x2 x3 x4 x5 M = some (r, M') → T G A p l e (rmO 6) s m args below meth c 6 0 0 (MQ below (QiO G A r M') args s 0 0 A) 25 [(0, .ref (G.2.1 (9, 0, 0))), (2, .int x2), (3, .int x3), (4, .int x4), (5, .int x5)] [] M := by
  intro n
  induction n with
  | zero =>
    intro x2 x3 x4 x5 M  h
    cases h
  | succ n ih =>
    intro x2 x3 x4 x5 M  h
    unfold f_X11_countOverruns_25 at h
    refine r_iload (pc := 25) X dX11_countOverruns_25 rfl ?_
    refine r_iload_n (pc := 27) X dX11_countOverruns_27 rfl ?_
    refine r_icmp_ge (pc := 28) X (tgt := 73) dX11_countOverruns_28 (by decide) h (fun h => ?_) (fun h => ?_)
    · refine r_iload (pc := 73) X dX11_countOverruns_73 rfl ?_
      cases h
      exact r_iret (pc := 75) X hr dX11_countOverruns_75
    · refine r_iload (pc := 31) X dX11_countOverruns_31 rfl ?_
      refine r_iload_n (pc := 33) X dX11_countOverruns_33 rfl ?_
      refine r_icmp_ge (pc := 34) X (tgt := 73) dX11_countOverruns_34 (by decide) h (fun h => ?_) (fun h => ?_)
      · refine r_iload (pc := 73) X dX11_countOverruns_73 rfl ?_
        cases h
        exact r_iret (pc := 75) X hr dX11_countOverruns_75
      · refine r_aload_n (pc := 37) X dX11_countOverruns_37 rfl ?_
        refine r_getR (q := (2, 5, 0)) (pc := 38) X ⟨(ltb rfl), (ltb rfl)⟩ fl_X11_16 rfl dX11_countOverruns_38 ?_
        refine bndE h (fun r1 M2 h3 h => ?_)
        refine r_callVv0 (pc := 41) X ⟨(ltb rfl), (ltb rfl)⟩ rfl vy_X3_passCycle my_X3_passCycle ml_X11_84 ⟨Nat.le_of_ble_eq_true rfl, Nat.le_of_ble_eq_true rfl, Nat.le_of_ble_eq_true rfl, Nat.le_of_ble_eq_true rfl⟩ (c_X3_passCycle (ltb rfl) h3) (Nat.le_of_ble_eq_true rfl) dX11_countOverruns_41 ?_
        refine r_aload_n (pc := 44) X dX11_countOverruns_44 rfl ?_
        refine r_getR (q := (2, 5, 0)) (pc := 45) X ⟨(ltb rfl), (ltb rfl)⟩ fl_X11_16 rfl dX11_countOverruns_45 ?_
        refine r_getR (q := (4, 5, 0)) (pc := 48) X ⟨(ltb rfl), (ltb rfl)⟩ fl_X11_98 rfl dX11_countOverruns_48 ?_
        refine r_getI (pc := 51) X ⟨(ltb rfl), (ltb rfl)⟩ fl_X11_223 rfl dX11_countOverruns_51 ?_
        refine r_aload_n (pc := 54) X dX11_countOverruns_54 rfl ?_
        refine r_getR (q := (2, 1, 0)) (pc := 55) X ⟨(ltb rfl), (ltb rfl)⟩ fl_X11_10 rfl dX11_countOverruns_55 ?_
        refine r_getR (q := (4, 1, 0)) (pc := 58) X ⟨(ltb rfl), (ltb rfl)⟩ fl_X11_98 rfl dX11_countOverruns_58 ?_
        refine r_getI (pc := 61) X ⟨(ltb rfl), (ltb rfl)⟩ fl_X11_223 rfl dX11_countOverruns_61 ?_
        refine r_isub (pc := 64) X dX11_countOverruns_64 ?_
        refine r_istoreN (pc := 65) X (by decide) dX11_countOverruns_65 h (fun e4 h => ?_)
        refine r_iincN (pc := 67) X (v0 := 1) rfl (by decide) (by decide) dX11_countOverruns_67 h (fun e5 h => ?_)
        refine r_goto (pc := 70) X (tgt := 25) dX11_countOverruns_70 (by decide) ?_
        exact T_sub (ih _ _ _ _ _ h) ⟨rfl, rfl, rfl, rfl, rfl, trivial⟩
def f_X11_countOverruns (x1 : Int32) (x2 : Int32) (x3 : Int32) (M : Mem) : Option (Int32 × Mem) :=
  bnd (f_X3_copyFrom 5 1 M) (fun r1 M2 => nm (uI M2 (2, 5, 0) 14 x1) (fun M4 => f_X11_countOverruns_25 fuelN x2 x3 0 0 M4))
set_option maxHeartbeats 4000000 in
set_option maxRecDepth 100000 in
theorem t_X11_countOverruns {G : GG} {A : Nat → Prop} {p : Program} {l : Launch} {e : Env} {s : State} {m : MethodId} {args : Array Value} {below : List Frame} {meth : Method} {c : Code} {r : Int32} {M' : Mem} (X : Cx G A p s m args meth c RX11 cX11_countOverruns 6) (hr : meth.sig.returnType = some .int) {x1 : Int32} {x2 : Int32} {x3 : Int32} {M : Mem}  (h : f_X11_countOverruns x1 x2 x3 M = some (r, M')) : T G A p l e (rmO 6) s m args below meth c 6 0 0 (MQ below (QiO G A r M') args s 0 0 A) 0 [(0, .ref (G.2.1 (9, 0, 0))), (1, .int x1), (2, .int x2), (3, .int x3)] [] M := by
  unfold f_X11_countOverruns at h
  refine r_aload_n (pc := 0) X dX11_countOverruns_0 rfl ?_
  refine r_getR (q := (2, 5, 0)) (pc := 1) X ⟨(ltb rfl), (ltb rfl)⟩ fl_X11_16 rfl dX11_countOverruns_1 ?_
  refine r_aload_n (pc := 4) X dX11_countOverruns_4 rfl ?_
  refine r_getR (q := (2, 1, 0)) (pc := 5) X ⟨(ltb rfl), (ltb rfl)⟩ fl_X11_10 rfl dX11_countOverruns_5 ?_
  refine bndE h (fun r1 M2 h3 h => ?_)
  refine r_callVv1 (pc := 8) X ⟨(ltb rfl), (ltb rfl)⟩ rfl vy_X3_copyFrom my_X3_copyFrom ml_X11_67 ⟨Nat.le_of_ble_eq_true rfl, Nat.le_of_ble_eq_true rfl, Nat.le_of_ble_eq_true rfl, Nat.le_of_ble_eq_true rfl⟩ (c_X3_copyFrom (ltb rfl) (ltb rfl) h3) (Nat.le_of_ble_eq_true rfl) dX11_countOverruns_8 ?_
  refine r_aload_n (pc := 11) X dX11_countOverruns_11 rfl ?_
  refine r_getR (q := (2, 5, 0)) (pc := 12) X ⟨(ltb rfl), (ltb rfl)⟩ fl_X11_16 rfl dX11_countOverruns_12 ?_
  refine r_iload_n (pc := 15) X dX11_countOverruns_15 rfl ?_
  refine r_putIN (pc := 16) X ⟨(ltb rfl), (ltb rfl)⟩ fp_X11_196 rfl dX11_countOverruns_16 h (fun M4 h => ?_)
  refine r_iconst (pc := 19) X (v := 0) dX11_countOverruns_19 (by decide) ?_
  refine r_istore (pc := 20) X (by decide) dX11_countOverruns_20 ?_
  refine r_iconst (pc := 22) X (v := 0) dX11_countOverruns_22 (by decide) ?_
  refine r_istore (pc := 23) X (by decide) dX11_countOverruns_23 ?_
  exact T_sub (t_X11_countOverruns_25 X hr _ _ _ _ _ _ h) ⟨rfl, rfl, rfl, rfl, rfl, trivial⟩
theorem c_X11_countOverruns {G : GG} {l : Launch} {x1 : Int32} {x2 : Int32} {x3 : Int32} {r : Int32} {M M' : Mem}  (h : f_X11_countOverruns x1 x2 x3 M = some (r, M')) : Met l yX11_countOverruns (wsO yX11_countOverruns cX11_countOverruns 6 (some .int)) (rmO 6) (PcO G [.ref (G.2.1 (9, 0, 0)), .int x1, .int x2, .int x3] M) (QiO G (AA G) r M') 0 0 (AA G) :=
  met_of (own := RX11) rfl (by decide +kernel) (Nat.le_of_ble_eq_true rfl) (fun p e s m args below meth c X hr => t_X11_countOverruns X hr  h)
-- ConverterScanner.overrunsWith
def f_X11_overrunsWith (x1 : Int32) (x2 : Int32) (M : Mem) : Option ((Int32 ⊕ Nat) × Mem) :=
  bndX (f_X11_requirePace x1 M) (fun r1 M2 => bndX (f_X11_requireCycles x2 5000 M2) (fun r4 M5 => bnd (f_X11_countOverruns x1 x2 5000 M5) (fun r7 M8 => some (.inl r7, M8))))
set_option maxHeartbeats 4000000 in
set_option maxRecDepth 100000 in
theorem t_X11_overrunsWith {G : GG} {A : Nat → Prop} {p : Program} {l : Launch} {e : Env} {s : State} {m : MethodId} {args : Array Value} {below : List Frame} {meth : Method} {c : Code} {r : (Int32 ⊕ Nat)} {M' : Mem} (X : Cx G A p s m args meth c RX11 cX11_overrunsWith 3) (Y : CxX G A l s c) (hr : meth.sig.returnType = some .int) {x1 : Int32} {x2 : Int32} {M : Mem}  (h : f_X11_overrunsWith x1 x2 M = some (r, M')) : T G A p l e (rmX 7 2) s m args below meth c 3 0 0 (vx_MQ below (QiX G A r M') (XX G A r M') args s 2 12 A) 0 [(0, .ref (G.2.1 (9, 0, 0))), (1, .int x1), (2, .int x2)] [] M := by
  unfold f_X11_overrunsWith at h
  refine r_iload_n (pc := 0) X dX11_overrunsWith_0 rfl ?_
  refine bndXE h (fun r1x M2 h3 h => ?_)
  refine r_callXSv1 (pc := 1) X Y sy_X11_requirePace my_X11_requirePace ml_X11_193 ⟨Nat.le_of_ble_eq_true rfl, Nat.le_of_ble_eq_true rfl, Nat.le_of_ble_eq_true rfl, Nat.le_of_ble_eq_true rfl⟩ (fun sz => c_X11_requirePace Y.1  h3) h ⟨Nat.le_of_ble_eq_true rfl, Nat.le_of_ble_eq_true rfl⟩ (Nat.le_of_ble_eq_true rfl) dX11_overrunsWith_1 (fun r1 hvr1 h => ?_)
  refine r_iload_n (pc := 4) X dX11_overrunsWith_4 rfl ?_
  refine r_sipush (pc := 5) X (v := 5000) dX11_overrunsWith_5 (by decide) ?_
  refine bndXE h (fun r4x M5 h6 h => ?_)
  refine r_callXSv2 (pc := 8) X Y sy_X11_requireCycles my_X11_requireCycles ml_X11_77 ⟨Nat.le_of_ble_eq_true rfl, Nat.le_of_ble_eq_true rfl, Nat.le_of_ble_eq_true rfl, Nat.le_of_ble_eq_true rfl⟩ (fun sz => c_X11_requireCycles Y.1  h6) h ⟨Nat.le_of_ble_eq_true rfl, Nat.le_of_ble_eq_true rfl⟩ (Nat.le_of_ble_eq_true rfl) dX11_overrunsWith_8 (fun r4 hvr4 h => ?_)
  refine r_aload_n (pc := 11) X dX11_overrunsWith_11 rfl ?_
  refine r_iload_n (pc := 12) X dX11_overrunsWith_12 rfl ?_
  refine r_iload_n (pc := 13) X dX11_overrunsWith_13 rfl ?_
  refine r_sipush (pc := 14) X (v := 5000) dX11_overrunsWith_14 (by decide) ?_
  refine bndE h (fun r7 M8 h9 h => ?_)
  refine r_callVi3 (pc := 17) X ⟨(ltb rfl), (ltb rfl)⟩ rfl vy_X11_countOverruns my_X11_countOverruns ml_X11_353 ⟨Nat.le_of_ble_eq_true rfl, Nat.le_of_ble_eq_true rfl, Nat.le_of_ble_eq_true rfl, Nat.le_of_ble_eq_true rfl⟩ (c_X11_countOverruns  h9) (Nat.le_of_ble_eq_true rfl) dX11_overrunsWith_17 ?_
  cases h
  exact r_iretX (pc := 20) X hr ⟨Nat.le_of_ble_eq_true rfl, Nat.le_of_ble_eq_true rfl⟩ dX11_overrunsWith_20
theorem c_X11_overrunsWith {G : GG} {l : Launch} {sz : Nat} (hlf : l.stackTraces = false) {x1 : Int32} {x2 : Int32} {r : (Int32 ⊕ Nat)} {M M' : Mem}  (h : f_X11_overrunsWith x1 x2 M = some (r, M')) : vx_Met l yX11_overrunsWith (wsO yX11_overrunsWith cX11_overrunsWith 3 (some .int)) (rmX 7 2) (PcX G sz [.ref (G.2.1 (9, 0, 0)), .int x1, .int x2] M) (QiX G (AX G sz) r M') (XX G (AX G sz) r M') 2 12 (AX G sz) :=
  metX_of (k := 2) (own := RX11) hlf rfl (by decide +kernel) (Nat.le_of_ble_eq_true rfl) (fun p e s m args below meth c X Y hr => t_X11_overrunsWith X Y hr  h)
-- ConverterScanner.slowestPace
def f_X11_slowestPace_10 : Nat → Int32 → Int32 → Mem → Option ((Int32 ⊕ Nat) × Mem)
  | 0 => fun _ _ _ => none
  | n + 1 => fun x1 x2 M => if x2 < 1 then some (.inl (-1), M) else bnd (f_X11_countOverruns x2 x1 1 M) (fun r1 M2 => if r1 = 0 then some (.inl x2, M2) else nm (x2 + (-1)) (fun e4 => (f_X11_slowestPace_10 n) x1 e4 M2))
set_option maxHeartbeats 4000000 in
set_option maxRecDepth 100000 in
theorem t_X11_slowestPace_10 {G : GG} {A : Nat → Prop} {p : Program} {l : Launch} {e : Env} {s : State} {m : MethodId} {args : Array Value} {below : List Frame} {meth : Method} {c : Code} {r : (Int32 ⊕ Nat)} {M' : Mem} (X : Cx G A p s m args meth c RX11 cX11_slowestPace 3) (Y : CxX G A l s c) (hr : meth.sig.returnType = some .int) : ∀ (n : Nat) (x1 : Int32) (x2 : Int32) (M : Mem), f_X11_slowestPace_10 n x1 x2 M = some (r, M') → T G A p l e (rmX 7 1) s m args below meth c 3 1 6 (vx_MQ below (QiX G A r M') (XX G A r M') args s 1 6 A) 10 [(0, .ref (G.2.1 (9, 0, 0))), (1, .int x1), (2, .int x2)] [] M := by
  intro n
  induction n with
  | zero =>
    intro x1 x2 M  h
    cases h
  | succ n ih =>
    intro x1 x2 M  h
    unfold f_X11_slowestPace_10 at h
    refine r_iload_n (pc := 10) X dX11_slowestPace_10 rfl ?_
    refine r_iconst (pc := 11) X (v := 1) dX11_slowestPace_11 (by decide) ?_
    refine r_icmp_lt (pc := 12) X (tgt := 33) dX11_slowestPace_12 (by decide) h (fun h => ?_) (fun h => ?_)
    · refine r_iconst (pc := 33) X (v := (-1)) dX11_slowestPace_33 (by decide) ?_
      cases h
      exact r_iretX (pc := 34) X hr ⟨Nat.le_of_ble_eq_true rfl, Nat.le_of_ble_eq_true rfl⟩ dX11_slowestPace_34
    · refine r_aload_n (pc := 15) X dX11_slowestPace_15 rfl ?_
      refine r_iload_n (pc := 16) X dX11_slowestPace_16 rfl ?_
      refine r_iload_n (pc := 17) X dX11_slowestPace_17 rfl ?_
      refine r_iconst (pc := 18) X (v := 1) dX11_slowestPace_18 (by decide) ?_
      refine bndE h (fun r1 M2 h3 h => ?_)
      refine r_callVi3 (pc := 19) X ⟨(ltb rfl), (ltb rfl)⟩ rfl vy_X11_countOverruns my_X11_countOverruns ml_X11_353 ⟨Nat.le_of_ble_eq_true rfl, Nat.le_of_ble_eq_true rfl, Nat.le_of_ble_eq_true rfl, Nat.le_of_ble_eq_true rfl⟩ (c_X11_countOverruns  h3) (Nat.le_of_ble_eq_true rfl) dX11_slowestPace_19 ?_
      refine r_if_ne (pc := 22) X (tgt := 27) dX11_slowestPace_22 (by decide) h (fun h => ?_) (fun h => ?_)
      · refine r_iincN (pc := 27) X (v0 := (-1)) rfl (by decide) (by decide) dX11_slowestPace_27 h (fun e4 h => ?_)
        refine r_goto (pc := 30) X (tgt := 10) dX11_slowestPace_30 (by decide) ?_
        exact T_widen (k := 1) (n := 6) (Nat.le_of_ble_eq_true rfl) (Nat.le_of_ble_eq_true rfl) (T_sub (ih _ _ _ h) ⟨rfl, rfl, rfl, trivial⟩)
      · refine r_iload_n (pc := 25) X dX11_slowestPace_25 rfl ?_
        cases h
        exact r_iretX (pc := 26) X hr ⟨Nat.le_of_ble_eq_true rfl, Nat.le_of_ble_eq_true rfl⟩ dX11_slowestPace_26
def f_X11_slowestPace (x1 : Int32) (M : Mem) : Option ((Int32 ⊕ Nat) × Mem) :=
  bndX (f_X11_requireCycles x1 500 M) (fun r1 M2 => f_X11_slowestPace_10 fuelN x1 60 M2)
set_option maxHeartbeats 4000000 in
set_option maxRecDepth 100000 in
theorem t_X11_slowestPace {G : GG} {A : Nat → Prop} {p : Program} {l : Launch} {e : Env} {s : State} {m : MethodId} {args : Array Value} {below : List Frame} {meth : Method} {c : Code} {r : (Int32 ⊕ Nat)} {M' : Mem} (X : Cx G A p s m args meth c RX11 cX11_slowestPace 3) (Y : CxX G A l s c) (hr : meth.sig.returnType = some .int) {x1 : Int32} {M : Mem}  (h : f_X11_slowestPace x1 M = some (r, M')) : T G A p l e (rmX 7 1) s m args below meth c 3 0 0 (vx_MQ below (QiX G A r M') (XX G A r M') args s 1 6 A) 0 [(0, .ref (G.2.1 (9, 0, 0))), (1, .int x1)] [] M := by
  unfold f_X11_slowestPace at h
  refine r_iload_n (pc := 0) X dX11_slowestPace_0 rfl ?_
  refine r_sipush (pc := 1) X (v := 500) dX11_slowestPace_1 (by decide) ?_
  refine bndXE h (fun r1x M2 h3 h => ?_)
  refine r_callXSv2 (pc := 4) X Y sy_X11_requireCycles my_X11_requireCycles ml_X11_77 ⟨Nat.le_of_ble_eq_true rfl, Nat.le_of_ble_eq_true rfl, Nat.le_of_ble_eq_true rfl, Nat.le_of_ble_eq_true rfl⟩ (fun sz => c_X11_requireCycles Y.1  h3) h ⟨Nat.le_of_ble_eq_true rfl, Nat.le_of_ble_eq_true rfl⟩ (Nat.le_of_ble_eq_true rfl) dX11_slowestPace_4 (fun r1 hvr1 h => ?_)
  refine r_bipush (pc := 7) X (v := 60) dX11_slowestPace_7 (by decide) ?_
  refine r_istore_n (pc := 9) X (by decide) dX11_slowestPace_9 ?_
  exact T_widen (k := 1) (n := 6) (Nat.le_of_ble_eq_true rfl) (Nat.le_of_ble_eq_true rfl) (T_sub (t_X11_slowestPace_10 X Y hr _ _ _ _ h) ⟨rfl, rfl, rfl, trivial⟩)
theorem c_X11_slowestPace {G : GG} {l : Launch} {sz : Nat} (hlf : l.stackTraces = false) {x1 : Int32} {r : (Int32 ⊕ Nat)} {M M' : Mem}  (h : f_X11_slowestPace x1 M = some (r, M')) : vx_Met l yX11_slowestPace (wsO yX11_slowestPace cX11_slowestPace 3 (some .int)) (rmX 7 1) (PcX G sz [.ref (G.2.1 (9, 0, 0)), .int x1] M) (QiX G (AX G sz) r M') (XX G (AX G sz) r M') 1 6 (AX G sz) :=
  metX_of (k := 1) (own := RX11) hlf rfl (by decide +kernel) (Nat.le_of_ble_eq_true rfl) (fun p e s m args below meth c X Y hr => t_X11_slowestPace X Y hr  h)
-- ConverterScanner.passLength
def f_X11_passLength_22 : Nat → Nat → Nat → Int32 → Int32 → Mem → Option (Int32 × Mem)
  | 0 => fun _ _ _ _ _ => none
  | n + 1 => fun c2 j2 x3 x4 M => if (M.1 (5, c2, j2) 1) ≤ x4 then some (x3, M) else if bad x4 (akO (20, c2, j2)).2 then none else if bad (M.1 (20, c2, j2) (Int32.toNatClampNeg x4)) 8 then none else bnd (f_X1_conversionLength 1 (Int32.toNatClampNeg (M.1 (20, c2, j2) (Int32.toNatClampNeg x4))) M) (fun r2 M3 => nm (x3 + (r2 <<< ((M3.1 (2, 1, 0) 12) &&& 31))) (fun e5 => nm (x4 + 1) (fun e6 => (f_X11_passLength_22 n) c2 j2 e5 e6 M3)))
set_option maxHeartbeats 4000000 in
set_option maxRecDepth 100000 in
theorem t_X11_passLength_22 {G : GG} {A : Nat → Prop} {p : Program} {l : Launch} {e : Env} {s : State} {m : MethodId} {args : Array Value} {below : List Frame} {meth : Method} {c : Code} {r : Int32} {M' : Mem} (X : Cx G A p s m args meth c RX11 cX11_passLength 5) (hr : meth.sig.returnType = some .int) : ∀ (n : Nat) (c2 : Nat) (j2 : Nat) (x3 : Int32) (x4 : Int32) (M : Mem), c2 < 6 → j2 < 2 → f_X11_passLength_22 n c2 j2 x3 x4 M = some (r, M') → T G A p l e (rmO 1) s m args below meth c 5 0 0 (MQ below (QiO G A r M') args s 0 0 A) 22 [(0, .ref (G.2.1 (9, 0, 0))), (2, .ref (G.2.1 (5, c2, j2))), (3, .int x3), (4, .int x4)] [] M := by
  intro n
  induction n with
  | zero =>
    intro c2 j2 x3 x4 M hc2 hj2 h
    cases h
  | succ n ih =>
    intro c2 j2 x3 x4 M hc2 hj2 h
    unfold f_X11_passLength_22 at h
    refine r_iload (pc := 22) X dX11_passLength_22 rfl ?_
    refine r_aload_n (pc := 24) X dX11_passLength_24 rfl ?_
    refine r_getI (pc := 25) X ⟨hc2, hj2⟩ fl_X11_236 rfl dX11_passLength_25 ?_
    refine r_icmp_ge (pc := 28) X (tgt := 66) dX11_passLength_28 (by decide) h (fun h => ?_) (fun h => ?_)
    · refine r_iload_n (pc := 66) X dX11_passLength_66 rfl ?_
      cases h
      exact r_iret (pc := 67) X hr dX11_passLength_67
    · refine r_iload_n (pc := 31) X dX11_passLength_31 rfl ?_
      refine r_aload_n (pc := 32) X dX11_passLength_32 rfl ?_
      refine r_getR (q := (2, 1, 0)) (pc := 33) X ⟨(ltb rfl), (ltb rfl)⟩ fl_X11_10 rfl dX11_passLength_33 ?_
      refine r_getR (q := (24, 1, 0)) (pc := 36) X ⟨(ltb rfl), (ltb rfl)⟩ fl_X11_151 rfl dX11_passLength_36 ?_
      refine r_aload_n (pc := 39) X dX11_passLength_39 rfl ?_
      refine r_getR (q := (20, c2, j2)) (pc := 40) X ⟨hc2, hj2⟩ fl_X11_267 rfl dX11_passLength_40 ?_
      refine r_iload (pc := 43) X dX11_passLength_43 rfl ?_
      refine r_iald (pc := 45) X (n := (akO (20, c2, j2)).2) ⟨hc2, hj2⟩ rfl (nlt rfl) dX11_passLength_45 h (fun h => ?_)
      refine r_aald (pc := 46) X (t := 0) (n := 8) ⟨(ltb rfl), (ltb rfl)⟩ rfl (ltb rfl) (nlt rfl) dX11_passLength_46 h (fun hb1 h => ?_)
      refine bndE h (fun r2 M3 h4 h => ?_)
      refine r_callVi0 (pc := 47) X ⟨(ltb rfl), (bad_lt hb1)⟩ rfl vy_X1_conversionLength my_X1_conversionLength ml_X11_357 ⟨Nat.le_of_ble_eq_true rfl, Nat.le_of_ble_eq_true rfl, Nat.le_of_ble_eq_true rfl, Nat.le_of_ble_eq_true rfl⟩ (c_X1_conversionLength (ltb rfl) (bad_lt hb1) h4) (Nat.le_of_ble_eq_true rfl) dX11_passLength_47 ?_
      refine r_aload_n (pc := 50) X dX11_passLength_50 rfl ?_
      refine r_getR (q := (2, 1, 0)) (pc := 51) X ⟨(ltb rfl), (ltb rfl)⟩ fl_X11_10 rfl dX11_passLength_51 ?_
      refine r_getI (pc := 54) X ⟨(ltb rfl), (ltb rfl)⟩ fl_X11_360 rfl dX11_passLength_54 ?_
      refine r_ishl (pc := 57) X dX11_passLength_57 ?_
      refine r_iadd (pc := 58) X dX11_passLength_58 ?_
      refine r_istore_nN (pc := 59) X (by decide) dX11_passLength_59 h (fun e5 h => ?_)
      refine r_iincN (pc := 60) X (v0 := 1) rfl (by decide) (by decide) dX11_passLength_60 h (fun e6 h => ?_)
      refine r_goto (pc := 63) X (tgt := 22) dX11_passLength_63 (by decide) ?_
      exact T_sub (ih _ _ _ _ _ hc2 hj2 h) ⟨rfl, rfl, rfl, rfl, trivial⟩
def f_X11_passLength_13 (xs0 : Int32) (cs1 : Nat) (M : Mem) : Option (Int32 × Mem) :=
  bnd (f_X3_sequenceOf cs1 xs0 M) (fun r1 M2 => f_X11_passLength_22 fuelN r1.1 r1.2 0 0 M2)
set_option maxHeartbeats 4000000 in
set_option maxRecDepth 100000 in
theorem t_X11_passLength_13 {G : GG} {A : Nat → Prop} {p : Program} {l : Launch} {e : Env} {s : State} {m : MethodId} {args : Array Value} {below : List Frame} {meth : Method} {c : Code} {r : Int32} {M' : Mem} (X : Cx G A p s m args meth c RX11 cX11_passLength 5) (hr : meth.sig.returnType = some .int) {xs0 : Int32} {cs1 : Nat} {M : Mem} (hcs1 : cs1 < 6) (h : f_X11_passLength_13 xs0 cs1 M = some (r, M')) : T G A p l e (rmO 1) s m args below meth c 5 0 0 (MQ below (QiO G A r M') args s 0 0 A) 13 [(0, .ref (G.2.1 (9, 0, 0)))] [.int xs0, .ref (G.2.1 (2, cs1, 0))] M := by
  unfold f_X11_passLength_13 at h
  refine bndE h (fun r1 M2 h3 h => ?_)
  refine r_callVr1 (pc := 13) X ⟨hcs1, (ltb rfl)⟩ rfl vy_X3_sequenceOf my_X3_sequenceOf ml_X11_232 ⟨Nat.le_of_ble_eq_true rfl, Nat.le_of_ble_eq_true rfl, Nat.le_of_ble_eq_true rfl, Nat.le_of_ble_eq_true rfl⟩ (c_X3_sequenceOf hcs1 h3) (Nat.le_of_ble_eq_true rfl) dX11_passLength_13 ?_
  refine r_astore_n (pc := 16) X (by decide) dX11_passLength_16 ?_
  refine r_iconst (pc := 17) X (v := 0) dX11_passLength_17 (by decide) ?_
  refine r_istore_n (pc := 18) X (by decide) dX11_passLength_18 ?_
  refine r_iconst (pc := 19) X (v := 0) dX11_passLength_19 (by decide) ?_
  refine r_istore (pc := 20) X (by decide) dX11_passLength_20 ?_
  exact T_sub (t_X11_passLength_22 X hr _ _ _ _ _ _ (okr_X3_sequenceOf hcs1 h3).1 (okr_X3_sequenceOf hcs1 h3).2 h) ⟨rfl, rfl, rfl, rfl, trivial⟩
def f_X11_passLength (x1 : Int32) (M : Mem) : Option (Int32 × Mem) :=
  if x1 = 0 then f_X11_passLength_13 1 1 M else f_X11_passLength_13 2 1 M
set_option maxHeartbeats 4000000 in
set_option maxRecDepth 100000 in
theorem t_X11_passLength {G : GG} {A : Nat → Prop} {p : Program} {l : Launch} {e : Env} {s : State} {m : MethodId} {args : Array Value} {below : List Frame} {meth : Method} {c : Code} {r : Int32} {M' : Mem} (X : Cx G A p s m args meth c RX11 cX11_passLength 5) (hr : meth.sig.returnType = some .int) {x1 : Int32} {M : Mem}  (h : f_X11_passLength x1 M = some (r, M')) : T G A p l e (rmO 1) s m args below meth c 5 0 0 (MQ below (QiO G A r M') args s 0 0 A) 0 [(0, .ref (G.2.1 (9, 0, 0))), (1, .int x1)] [] M := by
  unfold f_X11_passLength at h
  refine r_aload_n (pc := 0) X dX11_passLength_0 rfl ?_
  refine r_getR (q := (2, 1, 0)) (pc := 1) X ⟨(ltb rfl), (ltb rfl)⟩ fl_X11_10 rfl dX11_passLength_1 ?_
  refine r_iload_n (pc := 4) X dX11_passLength_4 rfl ?_
  refine r_if_eq (pc := 5) X (tgt := 12) dX11_passLength_5 (by decide) h (fun h => ?_) (fun h => ?_)
  · refine r_iconst (pc := 12) X (v := 1) dX11_passLength_12 (by decide) ?_
    exact T_sub (t_X11_passLength_13 X hr (ltb rfl) h) ⟨rfl, trivial⟩
  · refine r_iconst (pc := 8) X (v := 2) dX11_passLength_8 (by decide) ?_
    refine r_goto (pc := 9) X (tgt := 13) dX11_passLength_9 (by decide) ?_
    exact T_sub (t_X11_passLength_13 X hr (ltb rfl) h) ⟨rfl, trivial⟩
theorem c_X11_passLength {G : GG} {l : Launch} {x1 : Int32} {r : Int32} {M M' : Mem}  (h : f_X11_passLength x1 M = some (r, M')) : Met l yX11_passLength (wsO yX11_passLength cX11_passLength 5 (some .int)) (rmO 1) (PcO G [.ref (G.2.1 (9, 0, 0)), .int x1] M) (QiO G (AA G) r M') 0 0 (AA G) :=
  met_of (own := RX11) rfl (by decide +kernel) (Nat.le_of_ble_eq_true rfl) (fun p e s m args below meth c X hr => t_X11_passLength X hr  h)
-- ConverterScanner.requireSlot
def f_X11_requireSlot (x0 : Int32) (M : Mem) : Option ((Unit ⊕ Nat) × Mem) :=
  if x0 < 0 then some (.inr 1, M) else if x0 < 2 then some (.inl (), M) else some (.inr 1, M)
set_option maxHeartbeats 4000000 in
set_option maxRecDepth 100000 in
theorem t_X11_requireSlot {G : GG} {A : Nat → Prop} {p : Program} {l : Launch} {e : Env} {s : State} {m : MethodId} {args : Array Value} {below : List Frame} {meth : Method} {c : Code} {r : (Unit ⊕ Nat)} {M' : Mem} (X : Cx G A p s m args meth c RX11 cX11_requireSlot 1) (Y : CxX G A l s c) (hr : meth.sig.returnType = none) {x0 : Int32} {M : Mem}  (h : f_X11_requireSlot x0 M = some (r, M')) : T G A p l e (rmX 6 1) s m args below meth c 1 0 0 (vx_MQ below (QvX G A r M') (XX G A r M') args s 1 6 A) 0 [(0, .int x0)] [] M := by
  unfold f_X11_requireSlot at h
  refine r_iload_n (pc := 0) X dX11_requireSlot_0 rfl ?_
  refine r_if_lt (pc := 1) X (tgt := 9) dX11_requireSlot_1 (by decide) h (fun h => ?_) (fun h => ?_)
  · cases h
    exact r_throwW (pc := 9) X Y (k := 1) (ltb rfl) (List.mem_of_getElem? (i := 18) rfl) dX11_requireSlot_9 dX11_requireSlot_12 dX11_requireSlot_13 dX11_requireSlot_16 dX11_requireSlot_19 ⟨Nat.le_of_ble_eq_true rfl, Nat.le_of_ble_eq_true rfl, Nat.le_of_ble_eq_true rfl, Nat.le_of_ble_eq_true rfl⟩ ⟨Nat.le_of_ble_eq_true rfl, Nat.le_of_ble_eq_true rfl⟩
  · refine r_iload_n (pc := 4) X dX11_requireSlot_4 rfl ?_
    refine r_iconst (pc := 5) X (v := 2) dX11_requireSlot_5 (by decide) ?_
    refine r_icmp_lt (pc := 6) X (tgt := 20) dX11_requireSlot_6 (by decide) h (fun h => ?_) (fun h => ?_)
    · cases h
      exact r_vretX (pc := 20) X hr ⟨Nat.le_of_ble_eq_true rfl, Nat.le_of_ble_eq_true rfl⟩ dX11_requireSlot_20
    · cases h
      exact r_throwW (pc := 9) X Y (k := 1) (ltb rfl) (List.mem_of_getElem? (i := 18) rfl) dX11_requireSlot_9 dX11_requireSlot_12 dX11_requireSlot_13 dX11_requireSlot_16 dX11_requireSlot_19 ⟨Nat.le_of_ble_eq_true rfl, Nat.le_of_ble_eq_true rfl, Nat.le_of_ble_eq_true rfl, Nat.le_of_ble_eq_true rfl⟩ ⟨Nat.le_of_ble_eq_true rfl, Nat.le_of_ble_eq_true rfl⟩
theorem c_X11_requireSlot {G : GG} {l : Launch} {sz : Nat} (hlf : l.stackTraces = false) {x0 : Int32} {r : (Unit ⊕ Nat)} {M M' : Mem}  (h : f_X11_requireSlot x0 M = some (r, M')) : vx_Met l yX11_requireSlot (wsO yX11_requireSlot cX11_requireSlot 1 none) (rmX 6 1) (PcX G sz [.int x0] M) (QvX G (AX G sz) r M') (XX G (AX G sz) r M') 1 6 (AX G sz) :=
  metX_of (k := 1) (own := RX11) hlf rfl (by decide +kernel) (Nat.le_of_ble_eq_true rfl) (fun p e s m args below meth c X Y hr => t_X11_requireSlot X Y hr  h)
-- ConverterScanner.save
def f_X11_save (x1 : Int32) (M : Mem) : Option ((Int32 ⊕ Nat) × Mem) :=
  bndX (f_X11_requireSlot x1 M) (fun r1 M2 => if bad x1 2 then none else bnd (f_X3_copyFrom (3 + (Int32.toNatClampNeg x1)) 1 M2) (fun r5 M6 => if bad x1 2 then none else nm (uI M6 (23, 0, 0) (Int32.toNatClampNeg x1) (1 &&& 1)) (fun M8 => some (.inl (M8.1 (2, 1, 0) 15), M8))))
set_option maxHeartbeats 4000000 in
set_option maxRecDepth 100000 in
theorem t_X11_save {G : GG} {A : Nat → Prop} {p : Program} {l : Launch} {e : Env} {s : State} {m : MethodId} {args : Array Value} {below : List Frame} {meth : Method} {c : Code} {r : (Int32 ⊕ Nat)} {M' : Mem} (X : Cx G A p s m args meth c RX11 cX11_save 2) (Y : CxX G A l s c) (hr : meth.sig.returnType = some .int) {x1 : Int32} {M : Mem}  (h : f_X11_save x1 M = some (r, M')) : T G A p l e (rmX 7 1) s m args below meth c 2 0 0 (vx_MQ below (QiX G A r M') (XX G A r M') args s 1 6 A) 0 [(0, .ref (G.2.1 (9, 0, 0))), (1, .int x1)] [] M := by
  unfold f_X11_save at h
  refine r_iload_n (pc := 0) X dX11_save_0 rfl ?_
  refine bndXE h (fun r1x M2 h3 h => ?_)
  refine r_callXSv1 (pc := 1) X Y sy_X11_requireSlot my_X11_requireSlot ml_X11_363 ⟨Nat.le_of_ble_eq_true rfl, Nat.le_of_ble_eq_true rfl, Nat.le_of_ble_eq_true rfl, Nat.le_of_ble_eq_true rfl⟩ (fun sz => c_X11_requireSlot Y.1  h3) h ⟨Nat.le_of_ble_eq_true rfl, Nat.le_of_ble_eq_true rfl⟩ (Nat.le_of_ble_eq_true rfl) dX11_save_1 (fun r1 hvr1 h => ?_)
  refine r_aload_n (pc := 4) X dX11_save_4 rfl ?_
  refine r_getR (q := (27, 0, 0)) (pc := 5) X ⟨(ltb rfl), (ltb rfl)⟩ fl_X11_19 rfl dX11_save_5 ?_
  refine r_iload_n (pc := 8) X dX11_save_8 rfl ?_
  refine r_aald (pc := 9) X (t := 3) (n := 2) ⟨(ltb rfl), (ltb rfl)⟩ rfl (ltb rfl) (nlt rfl) dX11_save_9 h (fun hb4 h => ?_)
  refine r_aload_n (pc := 10) X dX11_save_10 rfl ?_
  refine r_getR (q := (2, 1, 0)) (pc := 11) X ⟨(ltb rfl), (ltb rfl)⟩ fl_X11_10 rfl dX11_save_11 ?_
  refine bndE h (fun r5 M6 h7 h => ?_)
  refine r_callVv1 (pc := 14) X ⟨(slot_lt hb4), (ltb rfl)⟩ rfl vy_X3_copyFrom my_X3_copyFrom ml_X11_67 ⟨Nat.le_of_ble_eq_true rfl, Nat.le_of_ble_eq_true rfl, Nat.le_of_ble_eq_true rfl, Nat.le_of_ble_eq_true rfl⟩ (c_X3_copyFrom (slot_lt hb4) (ltb rfl) h7) (Nat.le_of_ble_eq_true rfl) dX11_save_14 ?_
  refine r_aload_n (pc := 17) X dX11_save_17 rfl ?_
  refine r_getR (q := (23, 0, 0)) (pc := 18) X ⟨(ltb rfl), (ltb rfl)⟩ fl_X11_23 rfl dX11_save_18 ?_
  refine r_iload_n (pc := 21) X dX11_save_21 rfl ?_
  refine r_iconst (pc := 22) X (v := 1) dX11_save_22 (by decide) ?_
  refine r_zastN (pc := 23) X (n := 2) ⟨(ltb rfl), (ltb rfl)⟩ rfl (nlt rfl) dX11_save_23 h (fun M8 h => ?_)
  refine r_aload_n (pc := 24) X dX11_save_24 rfl ?_
  refine r_getR (q := (2, 1, 0)) (pc := 25) X ⟨(ltb rfl), (ltb rfl)⟩ fl_X11_10 rfl dX11_save_25 ?_
  refine r_getI (pc := 28) X ⟨(ltb rfl), (ltb rfl)⟩ fl_X11_166 rfl dX11_save_28 ?_
  cases h
  exact r_iretX (pc := 31) X hr ⟨Nat.le_of_ble_eq_true rfl, Nat.le_of_ble_eq_true rfl⟩ dX11_save_31
theorem c_X11_save {G : GG} {l : Launch} {sz : Nat} (hlf : l.stackTraces = false) {x1 : Int32} {r : (Int32 ⊕ Nat)} {M M' : Mem}  (h : f_X11_save x1 M = some (r, M')) : vx_Met l yX11_save (wsO yX11_save cX11_save 2 (some .int)) (rmX 7 1) (PcX G sz [.ref (G.2.1 (9, 0, 0)), .int x1] M) (QiX G (AX G sz) r M') (XX G (AX G sz) r M') 1 6 (AX G sz) :=
  metX_of (k := 1) (own := RX11) hlf rfl (by decide +kernel) (Nat.le_of_ble_eq_true rfl) (fun p e s m args below meth c X Y hr => t_X11_save X Y hr  h)
-- ConverterScanner.restore
def f_X11_restore (x1 : Int32) (M : Mem) : Option ((Int32 ⊕ Nat) × Mem) :=
  bndX (f_X11_requireSlot x1 M) (fun r1 M2 => if bad x1 2 then none else if (M2.1 (23, 0, 0) (Int32.toNatClampNeg x1)) = 0 then some (.inr 0, M2) else if bad x1 2 then none else bnd (f_X3_copyFrom 1 (3 + (Int32.toNatClampNeg x1)) M2) (fun r5 M6 => some (.inl (M6.1 (2, 1, 0) 15), M6)))
set_option maxHeartbeats 4000000 in
set_option maxRecDepth 100000 in
theorem t_X11_restore {G : GG} {A : Nat → Prop} {p : Program} {l : Launch} {e : Env} {s : State} {m : MethodId} {args : Array Value} {below : List Frame} {meth : Method} {c : Code} {r : (Int32 ⊕ Nat)} {M' : Mem} (X : Cx G A p s m args meth c RX11 cX11_restore 2) (Y : CxX G A l s c) (hr : meth.sig.returnType = some .int) {x1 : Int32} {M : Mem}  (h : f_X11_restore x1 M = some (r, M')) : T G A p l e (rmX 7 2) s m args below meth c 2 0 0 (vx_MQ below (QiX G A r M') (XX G A r M') args s 2 12 A) 0 [(0, .ref (G.2.1 (9, 0, 0))), (1, .int x1)] [] M := by
  unfold f_X11_restore at h
  refine r_iload_n (pc := 0) X dX11_restore_0 rfl ?_
  refine bndXE h (fun r1x M2 h3 h => ?_)
  refine r_callXSv1 (pc := 1) X Y sy_X11_requireSlot my_X11_requireSlot ml_X11_363 ⟨Nat.le_of_ble_eq_true rfl, Nat.le_of_ble_eq_true rfl, Nat.le_of_ble_eq_true rfl, Nat.le_of_ble_eq_true rfl⟩ (fun sz => c_X11_requireSlot Y.1  h3) h ⟨Nat.le_of_ble_eq_true rfl, Nat.le_of_ble_eq_true rfl⟩ (Nat.le_of_ble_eq_true rfl) dX11_restore_1 (fun r1 hvr1 h => ?_)
  refine r_aload_n (pc := 4) X dX11_restore_4 rfl ?_
  refine r_getR (q := (23, 0, 0)) (pc := 5) X ⟨(ltb rfl), (ltb rfl)⟩ fl_X11_23 rfl dX11_restore_5 ?_
  refine r_iload_n (pc := 8) X dX11_restore_8 rfl ?_
  refine r_zald (pc := 9) X (n := 2) ⟨(ltb rfl), (ltb rfl)⟩ rfl (nlt rfl) dX11_restore_9 h (fun h => ?_)
  refine r_if_ne (pc := 10) X (tgt := 24) dX11_restore_10 (by decide) h (fun h => ?_) (fun h => ?_)
  · refine r_aload_n (pc := 24) X dX11_restore_24 rfl ?_
    refine r_getR (q := (2, 1, 0)) (pc := 25) X ⟨(ltb rfl), (ltb rfl)⟩ fl_X11_10 rfl dX11_restore_25 ?_
    refine r_aload_n (pc := 28) X dX11_restore_28 rfl ?_
    refine r_getR (q := (27, 0, 0)) (pc := 29) X ⟨(ltb rfl), (ltb rfl)⟩ fl_X11_19 rfl dX11_restore_29 ?_
    refine r_iload_n (pc := 32) X dX11_restore_32 rfl ?_
    refine r_aald (pc := 33) X (t := 3) (n := 2) ⟨(ltb rfl), (ltb rfl)⟩ rfl (ltb rfl) (nlt rfl) dX11_restore_33 h (fun hb4 h => ?_)
    refine bndE h (fun r5 M6 h7 h => ?_)
    refine r_callVv1 (pc := 34) X ⟨(ltb rfl), (ltb rfl)⟩ rfl vy_X3_copyFrom my_X3_copyFrom ml_X11_67 ⟨Nat.le_of_ble_eq_true rfl, Nat.le_of_ble_eq_true rfl, Nat.le_of_ble_eq_true rfl, Nat.le_of_ble_eq_true rfl⟩ (c_X3_copyFrom (ltb rfl) (slot_lt hb4) h7) (Nat.le_of_ble_eq_true rfl) dX11_restore_34 ?_
    refine r_aload_n (pc := 37) X dX11_restore_37 rfl ?_
    refine r_getR (q := (2, 1, 0)) (pc := 38) X ⟨(ltb rfl), (ltb rfl)⟩ fl_X11_10 rfl dX11_restore_38 ?_
    refine r_getI (pc := 41) X ⟨(ltb rfl), (ltb rfl)⟩ fl_X11_166 rfl dX11_restore_41 ?_
    cases h
    exact r_iretX (pc := 44) X hr ⟨Nat.le_of_ble_eq_true rfl, Nat.le_of_ble_eq_true rfl⟩ dX11_restore_44
  · cases h
    exact r_throwW (pc := 13) X Y (k := 0) (ltb rfl) (List.mem_of_getElem? (i := 19) rfl) dX11_restore_13 dX11_restore_16 dX11_restore_17 dX11_restore_20 dX11_restore_23 ⟨Nat.le_of_ble_eq_true rfl, Nat.le_of_ble_eq_true rfl, Nat.le_of_ble_eq_true rfl, Nat.le_of_ble_eq_true rfl⟩ ⟨Nat.le_of_ble_eq_true rfl, Nat.le_of_ble_eq_true rfl⟩
theorem c_X11_restore {G : GG} {l : Launch} {sz : Nat} (hlf : l.stackTraces = false) {x1 : Int32} {r : (Int32 ⊕ Nat)} {M M' : Mem}  (h : f_X11_restore x1 M = some (r, M')) : vx_Met l yX11_restore (wsO yX11_restore cX11_restore 2 (some .int)) (rmX 7 2) (PcX G sz [.ref (G.2.1 (9, 0, 0)), .int x1] M) (QiX G (AX G sz) r M') (XX G (AX G sz) r M') 2 12 (AX G sz) :=
  metX_of (k := 2) (own := RX11) hlf rfl (by decide +kernel) (Nat.le_of_ble_eq_true rfl) (fun p e s m args below meth c X Y hr => t_X11_restore X Y hr  h)
-- ConverterScannerModel.mean
def f_X12_mean_43 (x1 : Int32) (x3 : Int32) (xs0 : Int32) (xs1 : Int32) (M : Mem) : Option (UInt64 × Mem) :=
  bnd (f_X12_fails xs1 xs0 0 M) (fun r1 M2 => if r1 = 0 then if bad (((10 * (M2.1 (10, 0, 0) 7)) + 2) + x1) 50 then none else if ddivOK (FP.l2d (M2.2.1 (33, 0, 0) (Int32.toNatClampNeg (((10 * (M2.1 (10, 0, 0) 7)) + 2) + x1)))) (FP.i2d x3) = false then none else some ((FP.ddiv (FP.l2d (M2.2.1 (33, 0, 0) (Int32.toNatClampNeg (((10 * (M2.1 (10, 0, 0) 7)) + 2) + x1)))) (FP.i2d x3)), M2) else some (0, M2))
set_option maxHeartbeats 4000000 in
set_option maxRecDepth 100000 in
theorem t_X12_mean_43 {G : GG} {A : Nat → Prop} {p : Program} {l : Launch} {e : Env} {s : State} {m : MethodId} {args : Array Value} {below : List Frame} {meth : Method} {c : Code} {r : UInt64} {M' : Mem} (X : Cx G A p s m args meth c RX12 cX12_mean 4) (hr : meth.sig.returnType = some .double) {x1 : Int32} {x3 : Int32} {xs0 : Int32} {xs1 : Int32} {M : Mem}  (h : f_X12_mean_43 x1 x3 xs0 xs1 M = some (r, M')) : T G A p l e (rmO 2) s m args below meth c 4 0 0 (MQ below (QdO G A r M') args s 0 0 A) 43 [(0, .ref (G.2.1 (10, 0, 0))), (1, .int x1), (3, .int x3)] [.int xs0, .int xs1, .ref (G.2.1 (10, 0, 0))] M := by
  unfold f_X12_mean_43 at h
  refine r_iconst (pc := 43) X (v := 0) dX12_mean_43 (by decide) ?_
  refine bndE h (fun r1 M2 h3 h => ?_)
  refine r_callVi3 (pc := 44) X ⟨(ltb rfl), (ltb rfl)⟩ rfl vy_X12_fails my_X12_fails ml_X12_14 ⟨Nat.le_of_ble_eq_true rfl, Nat.le_of_ble_eq_true rfl, Nat.le_of_ble_eq_true rfl, Nat.le_of_ble_eq_true rfl⟩ (c_X12_fails  h3) (Nat.le_of_ble_eq_true rfl) dX12_mean_44 ?_
  refine r_if_eq (pc := 47) X (tgt := 54) dX12_mean_47 (by decide) h (fun h => ?_) (fun h => ?_)
  · refine r_aload_n (pc := 54) X dX12_mean_54 rfl ?_
    refine r_getR (q := (33, 0, 0)) (pc := 55) X ⟨(ltb rfl), (ltb rfl)⟩ fl_X12_35 rfl dX12_mean_55 ?_
    refine r_bipush (pc := 58) X (v := 10) dX12_mean_58 (by decide) ?_
    refine r_aload_n (pc := 60) X dX12_mean_60 rfl ?_
    refine r_getI (pc := 61) X ⟨(ltb rfl), (ltb rfl)⟩ fl_X12_32 rfl dX12_mean_61 ?_
    refine r_imul (pc := 64) X dX12_mean_64 ?_
    refine r_iconst (pc := 65) X (v := 2) dX12_mean_65 (by decide) ?_
    refine r_iadd (pc := 66) X dX12_mean_66 ?_
    refine r_iload_n (pc := 67) X dX12_mean_67 rfl ?_
    refine r_iadd (pc := 68) X dX12_mean_68 ?_
    refine r_lald (pc := 69) X (n := 50) ⟨(ltb rfl), (ltb rfl)⟩ rfl (nlt rfl) dX12_mean_69 h (fun h => ?_)
    refine r_l2d (pc := 70) X dX12_mean_70 ?_
    refine r_iload_n (pc := 71) X dX12_mean_71 rfl ?_
    refine r_i2d (pc := 72) X dX12_mean_72 ?_
    refine r_ddiv (pc := 73) X dX12_mean_73 h (fun h => ?_)
    cases h
    exact r_dret (pc := 74) X hr dX12_mean_74
  · refine r_dconst0 (pc := 50) X dX12_mean_50 ?_
    refine r_goto (pc := 51) X (tgt := 74) dX12_mean_51 (by decide) ?_
    cases h
    exact r_dret (pc := 74) X hr dX12_mean_74
def f_X12_mean_34 (x1 : Int32) (x3 : Int32) (xs0 : Int32) (M : Mem) : Option (UInt64 × Mem) :=
  if x3 = 0 then f_X12_mean_43 x1 x3 1 xs0 M else f_X12_mean_43 x1 x3 0 xs0 M
set_option maxHeartbeats 4000000 in
set_option maxRecDepth 100000 in
theorem t_X12_mean_34 {G : GG} {A : Nat → Prop} {p : Program} {l : Launch} {e : Env} {s : State} {m : MethodId} {args : Array Value} {below : List Frame} {meth : Method} {c : Code} {r : UInt64} {M' : Mem} (X : Cx G A p s m args meth c RX12 cX12_mean 4) (hr : meth.sig.returnType = some .double) {x1 : Int32} {x3 : Int32} {xs0 : Int32} {M : Mem}  (h : f_X12_mean_34 x1 x3 xs0 M = some (r, M')) : T G A p l e (rmO 2) s m args below meth c 4 0 0 (MQ below (QdO G A r M') args s 0 0 A) 34 [(0, .ref (G.2.1 (10, 0, 0))), (1, .int x1), (3, .int x3)] [.int xs0, .ref (G.2.1 (10, 0, 0))] M := by
  unfold f_X12_mean_34 at h
  refine r_iload_n (pc := 34) X dX12_mean_34 rfl ?_
  refine r_if_ne (pc := 35) X (tgt := 42) dX12_mean_35 (by decide) h (fun h => ?_) (fun h => ?_)
  · refine r_iconst (pc := 42) X (v := 0) dX12_mean_42 (by decide) ?_
    exact T_sub (t_X12_mean_43 X hr h) ⟨rfl, rfl, rfl, trivial⟩
  · refine r_iconst (pc := 38) X (v := 1) dX12_mean_38 (by decide) ?_
    refine r_goto (pc := 39) X (tgt := 43) dX12_mean_39 (by decide) ?_
    exact T_sub (t_X12_mean_43 X hr h) ⟨rfl, rfl, rfl, trivial⟩
def f_X12_mean_23 (x1 : Int32) (x2 : Int32) (xs0 : Int32) (M : Mem) : Option (UInt64 × Mem) :=
  if x2 = 0 then f_X12_mean_34 x1 xs0 1 M else f_X12_mean_34 x1 xs0 0 M
set_option maxHeartbeats 4000000 in
set_option maxRecDepth 100000 in
theorem t_X12_mean_23 {G : GG} {A : Nat → Prop} {p : Program} {l : Launch} {e : Env} {s : State} {m : MethodId} {args : Array Value} {below : List Frame} {meth : Method} {c : Code} {r : UInt64} {M' : Mem} (X : Cx G A p s m args meth c RX12 cX12_mean 4) (hr : meth.sig.returnType = some .double) {x1 : Int32} {x2 : Int32} {xs0 : Int32} {M : Mem}  (h : f_X12_mean_23 x1 x2 xs0 M = some (r, M')) : T G A p l e (rmO 2) s m args below meth c 4 0 0 (MQ below (QdO G A r M') args s 0 0 A) 23 [(0, .ref (G.2.1 (10, 0, 0))), (1, .int x1), (2, .int x2)] [.int xs0] M := by
  unfold f_X12_mean_23 at h
  refine r_istore_n (pc := 23) X (by decide) dX12_mean_23 ?_
  refine r_aload_n (pc := 24) X dX12_mean_24 rfl ?_
  refine r_iload_n (pc := 25) X dX12_mean_25 rfl ?_
  refine r_if_ne (pc := 26) X (tgt := 33) dX12_mean_26 (by decide) h (fun h => ?_) (fun h => ?_)
  · refine r_iconst (pc := 33) X (v := 0) dX12_mean_33 (by decide) ?_
    exact T_sub (t_X12_mean_34 X hr h) ⟨rfl, rfl, rfl, trivial⟩
  · refine r_iconst (pc := 29) X (v := 1) dX12_mean_29 (by decide) ?_
    refine r_goto (pc := 30) X (tgt := 34) dX12_mean_30 (by decide) ?_
    exact T_sub (t_X12_mean_34 X hr h) ⟨rfl, rfl, rfl, trivial⟩
def f_X12_mean (x1 : Int32) (M : Mem) : Option (UInt64 × Mem) :=
  bnd (f_X12_isChannel x1 M) (fun r1 M2 => if r1 = 0 then f_X12_mean_23 x1 r1 0 M2 else bnd (f_X12_chan x1 4 M2) (fun r4 M5 => bnd (f_X12_its r4 M5) (fun r7 M8 => f_X12_mean_23 x1 r1 r7 M8)))
set_option maxHeartbeats 4000000 in
set_option maxRecDepth 100000 in
theorem t_X12_mean {G : GG} {A : Nat → Prop} {p : Program} {l : Launch} {e : Env} {s : State} {m : MethodId} {args : Array Value} {below : List Frame} {meth : Method} {c : Code} {r : UInt64} {M' : Mem} (X : Cx G A p s m args meth c RX12 cX12_mean 4) (hr : meth.sig.returnType = some .double) {x1 : Int32} {M : Mem}  (h : f_X12_mean x1 M = some (r, M')) : T G A p l e (rmO 2) s m args below meth c 4 0 0 (MQ below (QdO G A r M') args s 0 0 A) 0 [(0, .ref (G.2.1 (10, 0, 0))), (1, .int x1)] [] M := by
  unfold f_X12_mean at h
  refine r_aload_n (pc := 0) X dX12_mean_0 rfl ?_
  refine r_iload_n (pc := 1) X dX12_mean_1 rfl ?_
  refine bndE h (fun r1 M2 h3 h => ?_)
  refine r_callVi1 (pc := 2) X ⟨(ltb rfl), (ltb rfl)⟩ rfl vy_X12_isChannel my_X12_isChannel ml_X12_244 ⟨Nat.le_of_ble_eq_true rfl, Nat.le_of_ble_eq_true rfl, Nat.le_of_ble_eq_true rfl, Nat.le_of_ble_eq_true rfl⟩ (c_X12_isChannel  h3) (Nat.le_of_ble_eq_true rfl) dX12_mean_2 ?_
  refine r_istore_n (pc := 5) X (by decide) dX12_mean_5 ?_
  refine r_iload_n (pc := 6) X dX12_mean_6 rfl ?_
  refine r_if_eq (pc := 7) X (tgt := 22) dX12_mean_7 (by decide) h (fun h => ?_) (fun h => ?_)
  · refine r_iconst (pc := 22) X (v := 0) dX12_mean_22 (by decide) ?_
    exact T_sub (t_X12_mean_23 X hr h) ⟨rfl, rfl, rfl, trivial⟩
  · refine r_aload_n (pc := 10) X dX12_mean_10 rfl ?_
    refine r_iload_n (pc := 11) X dX12_mean_11 rfl ?_
    refine r_iconst (pc := 12) X (v := 4) dX12_mean_12 (by decide) ?_
    refine bndE h (fun r4 M5 h6 h => ?_)
    refine r_callSi2 (pc := 13) X sy_X12_chan my_X12_chan ml_X12_47 ⟨Nat.le_of_ble_eq_true rfl, Nat.le_of_ble_eq_true rfl, Nat.le_of_ble_eq_true rfl, Nat.le_of_ble_eq_true rfl⟩ (c_X12_chan  h6) (Nat.le_of_ble_eq_true rfl) dX12_mean_13 ?_
    refine bndE h (fun r7 M8 h9 h => ?_)
    refine r_callVi1 (pc := 16) X ⟨(ltb rfl), (ltb rfl)⟩ rfl vy_X12_its my_X12_its ml_X12_155 ⟨Nat.le_of_ble_eq_true rfl, Nat.le_of_ble_eq_true rfl, Nat.le_of_ble_eq_true rfl, Nat.le_of_ble_eq_true rfl⟩ (c_X12_its  h9) (Nat.le_of_ble_eq_true rfl) dX12_mean_16 ?_
    refine r_goto (pc := 19) X (tgt := 23) dX12_mean_19 (by decide) ?_
    exact T_sub (t_X12_mean_23 X hr h) ⟨rfl, rfl, rfl, trivial⟩
theorem c_X12_mean {G : GG} {l : Launch} {x1 : Int32} {r : UInt64} {M M' : Mem}  (h : f_X12_mean x1 M = some (r, M')) : Met l yX12_mean (wsO yX12_mean cX12_mean 4 (some .double)) (rmO 2) (PcO G [.ref (G.2.1 (10, 0, 0)), .int x1] M) (QdO G (AA G) r M') 0 0 (AA G) :=
  met_of (own := RX12) rfl (by decide +kernel) (Nat.le_of_ble_eq_true rfl) (fun p e s m args below meth c X hr => t_X12_mean X hr  h)
-- ConverterScannerModel.latency
def f_X12_latency_30 (x2 : Int32) (x3 : Int32) (xs0 : Int32) (M : Mem) : Option (UInt64 × Mem) :=
  bnd (f_X12_fails xs0 0 0 M) (fun r1 M2 => if r1 = 0 then if bad ((10 * (M2.1 (10, 0, 0) 7)) + x2) 50 then none else if ddivOK (FP.l2d (M2.2.1 (33, 0, 0) (Int32.toNatClampNeg ((10 * (M2.1 (10, 0, 0) 7)) + x2)))) (FP.i2d x3) = false then none else some ((FP.ddiv (FP.l2d (M2.2.1 (33, 0, 0) (Int32.toNatClampNeg ((10 * (M2.1 (10, 0, 0) 7)) + x2)))) (FP.i2d x3)), M2) else some (0, M2))
set_option maxHeartbeats 4000000 in
set_option maxRecDepth 100000 in
theorem t_X12_latency_30 {G : GG} {A : Nat → Prop} {p : Program} {l : Launch} {e : Env} {s : State} {m : MethodId} {args : Array Value} {below : List Frame} {meth : Method} {c : Code} {r : UInt64} {M' : Mem} (X : Cx G A p s m args meth c RX12 cX12_latency 4) (hr : meth.sig.returnType = some .double) {x2 : Int32} {x3 : Int32} {xs0 : Int32} {M : Mem}  (h : f_X12_latency_30 x2 x3 xs0 M = some (r, M')) : T G A p l e (rmO 1) s m args below meth c 4 0 0 (MQ below (QdO G A r M') args s 0 0 A) 30 [(0, .ref (G.2.1 (10, 0, 0))), (2, .int x2), (3, .int x3)] [.int xs0, .ref (G.2.1 (10, 0, 0))] M := by
  unfold f_X12_latency_30 at h
  refine r_iconst (pc := 30) X (v := 0) dX12_latency_30 (by decide) ?_
  refine r_iconst (pc := 31) X (v := 0) dX12_latency_31 (by decide) ?_
  refine bndE h (fun r1 M2 h3 h => ?_)
  refine r_callVi3 (pc := 32) X ⟨(ltb rfl), (ltb rfl)⟩ rfl vy_X12_fails my_X12_fails ml_X12_14 ⟨Nat.le_of_ble_eq_true rfl, Nat.le_of_ble_eq_true rfl, Nat.le_of_ble_eq_true rfl, Nat.le_of_ble_eq_true rfl⟩ (c_X12_fails  h3) (Nat.le_of_ble_eq_true rfl) dX12_latency_32 ?_
  refine r_if_eq (pc := 35) X (tgt := 42) dX12_latency_35 (by decide) h (fun h => ?_) (fun h => ?_)
  · refine r_aload_n (pc := 42) X dX12_latency_42 rfl ?_
    refine r_getR (q := (33, 0, 0)) (pc := 43) X ⟨(ltb rfl), (ltb rfl)⟩ fl_X12_35 rfl dX12_latency_43 ?_
    refine r_bipush (pc := 46) X (v := 10) dX12_latency_46 (by decide) ?_
    refine r_aload_n (pc := 48) X dX12_latency_48 rfl ?_
    refine r_getI (pc := 49) X ⟨(ltb rfl), (ltb rfl)⟩ fl_X12_32 rfl dX12_latency_49 ?_
    refine r_imul (pc := 52) X dX12_latency_52 ?_
    refine r_iload_n (pc := 53) X dX12_latency_53 rfl ?_
    refine r_iadd (pc := 54) X dX12_latency_54 ?_
    refine r_lald (pc := 55) X (n := 50) ⟨(ltb rfl), (ltb rfl)⟩ rfl (nlt rfl) dX12_latency_55 h (fun h => ?_)
    refine r_l2d (pc := 56) X dX12_latency_56 ?_
    refine r_iload_n (pc := 57) X dX12_latency_57 rfl ?_
    refine r_i2d (pc := 58) X dX12_latency_58 ?_
    refine r_ddiv (pc := 59) X dX12_latency_59 h (fun h => ?_)
    cases h
    exact r_dret (pc := 60) X hr dX12_latency_60
  · refine r_dconst0 (pc := 38) X dX12_latency_38 ?_
    refine r_goto (pc := 39) X (tgt := 60) dX12_latency_39 (by decide) ?_
    cases h
    exact r_dret (pc := 60) X hr dX12_latency_60
def f_X12_latency_9 (xs0 : Int32) (M : Mem) : Option (UInt64 × Mem) :=
  bnd (f_X12_seq xs0 4 M) (fun r1 M2 => bnd (f_X12_its r1 M2) (fun r4 M5 => if r4 = 0 then f_X12_latency_30 xs0 r4 1 M5 else f_X12_latency_30 xs0 r4 0 M5))
set_option maxHeartbeats 4000000 in
set_option maxRecDepth 100000 in
theorem t_X12_latency_9 {G : GG} {A : Nat → Prop} {p : Program} {l : Launch} {e : Env} {s : State} {m : MethodId} {args : Array Value} {below : List Frame} {meth : Method} {c : Code} {r : UInt64} {M' : Mem} (X : Cx G A p s m args meth c RX12 cX12_latency 4) (hr : meth.sig.returnType = some .double) {xs0 : Int32} {M : Mem}  (h : f_X12_latency_9 xs0 M = some (r, M')) : T G A p l e (rmO 1) s m args below meth c 4 0 0 (MQ below (QdO G A r M') args s 0 0 A) 9 [(0, .ref (G.2.1 (10, 0, 0)))] [.int xs0] M := by
  unfold f_X12_latency_9 at h
  refine r_istore_n (pc := 9) X (by decide) dX12_latency_9 ?_
  refine r_aload_n (pc := 10) X dX12_latency_10 rfl ?_
  refine r_iload_n (pc := 11) X dX12_latency_11 rfl ?_
  refine r_iconst (pc := 12) X (v := 4) dX12_latency_12 (by decide) ?_
  refine bndE h (fun r1 M2 h3 h => ?_)
  refine r_callSi2 (pc := 13) X sy_X12_seq my_X12_seq ml_X12_43 ⟨Nat.le_of_ble_eq_true rfl, Nat.le_of_ble_eq_true rfl, Nat.le_of_ble_eq_true rfl, Nat.le_of_ble_eq_true rfl⟩ (c_X12_seq  h3) (Nat.le_of_ble_eq_true rfl) dX12_latency_13 ?_
  refine bndE h (fun r4 M5 h6 h => ?_)
  refine r_callVi1 (pc := 16) X ⟨(ltb rfl), (ltb rfl)⟩ rfl vy_X12_its my_X12_its ml_X12_155 ⟨Nat.le_of_ble_eq_true rfl, Nat.le_of_ble_eq_true rfl, Nat.le_of_ble_eq_true rfl, Nat.le_of_ble_eq_true rfl⟩ (c_X12_its  h6) (Nat.le_of_ble_eq_true rfl) dX12_latency_16 ?_
  refine r_istore_n (pc := 19) X (by decide) dX12_latency_19 ?_
  refine r_aload_n (pc := 20) X dX12_latency_20 rfl ?_
  refine r_iload_n (pc := 21) X dX12_latency_21 rfl ?_
  refine r_if_ne (pc := 22) X (tgt := 29) dX12_latency_22 (by decide) h (fun h => ?_) (fun h => ?_)
  · refine r_iconst (pc := 29) X (v := 0) dX12_latency_29 (by decide) ?_
    exact T_sub (t_X12_latency_30 X hr h) ⟨rfl, rfl, rfl, trivial⟩
  · refine r_iconst (pc := 25) X (v := 1) dX12_latency_25 (by decide) ?_
    refine r_goto (pc := 26) X (tgt := 30) dX12_latency_26 (by decide) ?_
    exact T_sub (t_X12_latency_30 X hr h) ⟨rfl, rfl, rfl, trivial⟩
def f_X12_latency (x1 : Int32) (M : Mem) : Option (UInt64 × Mem) :=
  if x1 = 0 then f_X12_latency_9 0 M else f_X12_latency_9 1 M
set_option maxHeartbeats 4000000 in
set_option maxRecDepth 100000 in
theorem t_X12_latency {G : GG} {A : Nat → Prop} {p : Program} {l : Launch} {e : Env} {s : State} {m : MethodId} {args : Array Value} {below : List Frame} {meth : Method} {c : Code} {r : UInt64} {M' : Mem} (X : Cx G A p s m args meth c RX12 cX12_latency 4) (hr : meth.sig.returnType = some .double) {x1 : Int32} {M : Mem}  (h : f_X12_latency x1 M = some (r, M')) : T G A p l e (rmO 1) s m args below meth c 4 0 0 (MQ below (QdO G A r M') args s 0 0 A) 0 [(0, .ref (G.2.1 (10, 0, 0))), (1, .int x1)] [] M := by
  unfold f_X12_latency at h
  refine r_iload_n (pc := 0) X dX12_latency_0 rfl ?_
  refine r_if_eq (pc := 1) X (tgt := 8) dX12_latency_1 (by decide) h (fun h => ?_) (fun h => ?_)
  · refine r_iconst (pc := 8) X (v := 0) dX12_latency_8 (by decide) ?_
    exact T_sub (t_X12_latency_9 X hr h) ⟨rfl, trivial⟩
  · refine r_iconst (pc := 4) X (v := 1) dX12_latency_4 (by decide) ?_
    refine r_goto (pc := 5) X (tgt := 9) dX12_latency_5 (by decide) ?_
    exact T_sub (t_X12_latency_9 X hr h) ⟨rfl, trivial⟩
theorem c_X12_latency {G : GG} {l : Launch} {x1 : Int32} {r : UInt64} {M M' : Mem}  (h : f_X12_latency x1 M = some (r, M')) : Met l yX12_latency (wsO yX12_latency cX12_latency 4 (some .double)) (rmO 1) (PcO G [.ref (G.2.1 (10, 0, 0)), .int x1] M) (QdO G (AA G) r M') 0 0 (AA G) :=
  met_of (own := RX12) rfl (by decide +kernel) (Nat.le_of_ble_eq_true rfl) (fun p e s m args below meth c X hr => t_X12_latency X hr  h)
