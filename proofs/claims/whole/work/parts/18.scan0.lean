-- ConverterScanner.append
def f_X11_append (x1 : Int32) (x2 : Int32) (x3 : Int32) (x4 : Int32) (x5 : Int32) (M : Mem) : Option ((Int32 ⊕ Nat) × Mem) :=
  if (M.1 (6, 0, 0) 1) ≤ 880 then bnd (f_X7_addBytes x1 M) (fun r1 M2 => bnd (f_X7_addBytes x2 M2) (fun r4 M5 => bnd (f_X7_addBytes x3 M5) (fun r7 M8 => bnd (f_X7_addBytes x4 M8) (fun r10 M11 => bnd (f_X7_addBytes x5 M11) (fun r13 M14 => some (.inl (M14.1 (6, 0, 0) 1), M14)))))) else some (.inr 0, M)
set_option maxHeartbeats 4000000 in
set_option maxRecDepth 100000 in
theorem t_X11_append {G : GG} {A : Nat → Prop} {p : Program} {l : Launch} {e : Env} {s : State} {m : MethodId} {args : Array Value} {below : List Frame} {meth : Method} {c : Code} {r : (Int32 ⊕ Nat)} {M' : Mem} (X : Cx G A p s m args meth c RX11 cX11_append 7) (Y : CxX G A l s c) (hr : meth.sig.returnType = some .int) {x1 : Int32} {x2 : Int32} {x3 : Int32} {x4 : Int32} {x5 : Int32} {M : Mem}  (h : f_X11_append x1 x2 x3 x4 x5 M = some (r, M')) : T G A p l e (rmX 6 1) s m args below meth c 7 0 0 (vx_MQ below (QiX G A r M') (XX G A r M') args s 1 6 A) 0 [(0, .ref (G.2.1 (9, 0, 0))), (1, .int x1), (2, .int x2), (3, .int x3), (4, .int x4), (5, .int x5)] [] M := by
  unfold f_X11_append at h
  refine r_aload_n (pc := 0) X dX11_append_0 rfl ?_
  refine r_getR (q := (3, 0, 0)) (pc := 1) X ⟨(ltb rfl), (ltb rfl)⟩ fl_X11_30 rfl dX11_append_1 ?_
  refine r_getR (q := (6, 0, 0)) (pc := 4) X ⟨(ltb rfl), (ltb rfl)⟩ fl_X11_34 rfl dX11_append_4 ?_
  refine r_astore (pc := 7) X (by decide) dX11_append_7 ?_
  refine r_aload (pc := 9) X dX11_append_9 rfl ?_
  refine r_getI (pc := 11) X ⟨(ltb rfl), (ltb rfl)⟩ fl_X11_38 rfl dX11_append_11 ?_
  refine r_sipush (pc := 14) X (v := 880) dX11_append_14 (by decide) ?_
  refine r_icmp_le (pc := 17) X (tgt := 30) dX11_append_17 (by decide) h (fun h => ?_) (fun h => ?_)
  · refine r_aload (pc := 30) X dX11_append_30 rfl ?_
    refine r_iload_n (pc := 32) X dX11_append_32 rfl ?_
    refine bndE h (fun r1 M2 h3 h => ?_)
    refine r_callVv1 (pc := 33) X ⟨(ltb rfl), (ltb rfl)⟩ rfl vy_X7_addBytes my_X7_addBytes ml_X11_51 ⟨Nat.le_of_ble_eq_true rfl, Nat.le_of_ble_eq_true rfl, Nat.le_of_ble_eq_true rfl, Nat.le_of_ble_eq_true rfl⟩ (c_X7_addBytes  h3) (Nat.le_of_ble_eq_true rfl) dX11_append_33 ?_
    refine r_aload (pc := 36) X dX11_append_36 rfl ?_
    refine r_iload_n (pc := 38) X dX11_append_38 rfl ?_
    refine bndE h (fun r4 M5 h6 h => ?_)
    refine r_callVv1 (pc := 39) X ⟨(ltb rfl), (ltb rfl)⟩ rfl vy_X7_addBytes my_X7_addBytes ml_X11_51 ⟨Nat.le_of_ble_eq_true rfl, Nat.le_of_ble_eq_true rfl, Nat.le_of_ble_eq_true rfl, Nat.le_of_ble_eq_true rfl⟩ (c_X7_addBytes  h6) (Nat.le_of_ble_eq_true rfl) dX11_append_39 ?_
    refine r_aload (pc := 42) X dX11_append_42 rfl ?_
    refine r_iload_n (pc := 44) X dX11_append_44 rfl ?_
    refine bndE h (fun r7 M8 h9 h => ?_)
    refine r_callVv1 (pc := 45) X ⟨(ltb rfl), (ltb rfl)⟩ rfl vy_X7_addBytes my_X7_addBytes ml_X11_51 ⟨Nat.le_of_ble_eq_true rfl, Nat.le_of_ble_eq_true rfl, Nat.le_of_ble_eq_true rfl, Nat.le_of_ble_eq_true rfl⟩ (c_X7_addBytes  h9) (Nat.le_of_ble_eq_true rfl) dX11_append_45 ?_
    refine r_aload (pc := 48) X dX11_append_48 rfl ?_
    refine r_iload (pc := 50) X dX11_append_50 rfl ?_
    refine bndE h (fun r10 M11 h12 h => ?_)
    refine r_callVv1 (pc := 52) X ⟨(ltb rfl), (ltb rfl)⟩ rfl vy_X7_addBytes my_X7_addBytes ml_X11_51 ⟨Nat.le_of_ble_eq_true rfl, Nat.le_of_ble_eq_true rfl, Nat.le_of_ble_eq_true rfl, Nat.le_of_ble_eq_true rfl⟩ (c_X7_addBytes  h12) (Nat.le_of_ble_eq_true rfl) dX11_append_52 ?_
    refine r_aload (pc := 55) X dX11_append_55 rfl ?_
    refine r_iload (pc := 57) X dX11_append_57 rfl ?_
    refine bndE h (fun r13 M14 h15 h => ?_)
    refine r_callVv1 (pc := 59) X ⟨(ltb rfl), (ltb rfl)⟩ rfl vy_X7_addBytes my_X7_addBytes ml_X11_51 ⟨Nat.le_of_ble_eq_true rfl, Nat.le_of_ble_eq_true rfl, Nat.le_of_ble_eq_true rfl, Nat.le_of_ble_eq_true rfl⟩ (c_X7_addBytes  h15) (Nat.le_of_ble_eq_true rfl) dX11_append_59 ?_
    refine r_aload (pc := 62) X dX11_append_62 rfl ?_
    refine r_getI (pc := 64) X ⟨(ltb rfl), (ltb rfl)⟩ fl_X11_38 rfl dX11_append_64 ?_
    cases h
    exact r_iretX (pc := 67) X hr ⟨Nat.le_of_ble_eq_true rfl, Nat.le_of_ble_eq_true rfl⟩ dX11_append_67
  · cases h
    exact r_throwS (pc := 20) X Y (k := 0) (ltb rfl) (List.mem_of_getElem? (i := 0) rfl) dX11_append_20 dX11_append_23 dX11_append_24 dX11_append_26 dX11_append_29 ⟨Nat.le_of_ble_eq_true rfl, Nat.le_of_ble_eq_true rfl, Nat.le_of_ble_eq_true rfl, Nat.le_of_ble_eq_true rfl⟩ ⟨Nat.le_of_ble_eq_true rfl, Nat.le_of_ble_eq_true rfl⟩
theorem c_X11_append {G : GG} {l : Launch} {sz : Nat} (hlf : l.stackTraces = false) {x1 : Int32} {x2 : Int32} {x3 : Int32} {x4 : Int32} {x5 : Int32} {r : (Int32 ⊕ Nat)} {M M' : Mem}  (h : f_X11_append x1 x2 x3 x4 x5 M = some (r, M')) : vx_Met l yX11_append (wsO yX11_append cX11_append 7 (some .int)) (rmX 6 1) (PcX G sz [.ref (G.2.1 (9, 0, 0)), .int x1, .int x2, .int x3, .int x4, .int x5] M) (QiX G (AX G sz) r M') (XX G (AX G sz) r M') 1 6 (AX G sz) :=
  metX_of (k := 1) (own := RX11) hlf rfl (by decide +kernel) (Nat.le_of_ble_eq_true rfl) (fun p e s m args below meth c X Y hr => t_X11_append X Y hr  h)
-- ConverterScanner.truncate
def f_X11_truncate (x1 : Int32) (M : Mem) : Option ((Int32 ⊕ Nat) × Mem) :=
  if x1 < 0 then some (.inr 1, M) else if x1 ≤ (M.1 (6, 0, 0) 1) then nm (uI M (6, 0, 0) 1 x1) (fun M1 => some (.inl x1, M1)) else some (.inr 1, M)
set_option maxHeartbeats 4000000 in
set_option maxRecDepth 100000 in
theorem t_X11_truncate {G : GG} {A : Nat → Prop} {p : Program} {l : Launch} {e : Env} {s : State} {m : MethodId} {args : Array Value} {below : List Frame} {meth : Method} {c : Code} {r : (Int32 ⊕ Nat)} {M' : Mem} (X : Cx G A p s m args meth c RX11 cX11_truncate 3) (Y : CxX G A l s c) (hr : meth.sig.returnType = some .int) {x1 : Int32} {M : Mem}  (h : f_X11_truncate x1 M = some (r, M')) : T G A p l e (rmX 6 1) s m args below meth c 3 0 0 (vx_MQ below (QiX G A r M') (XX G A r M') args s 1 6 A) 0 [(0, .ref (G.2.1 (9, 0, 0))), (1, .int x1)] [] M := by
  unfold f_X11_truncate at h
  refine r_aload_n (pc := 0) X dX11_truncate_0 rfl ?_
  refine r_getR (q := (3, 0, 0)) (pc := 1) X ⟨(ltb rfl), (ltb rfl)⟩ fl_X11_30 rfl dX11_truncate_1 ?_
  refine r_getR (q := (6, 0, 0)) (pc := 4) X ⟨(ltb rfl), (ltb rfl)⟩ fl_X11_34 rfl dX11_truncate_4 ?_
  refine r_astore_n (pc := 7) X (by decide) dX11_truncate_7 ?_
  refine r_iload_n (pc := 8) X dX11_truncate_8 rfl ?_
  refine r_if_lt (pc := 9) X (tgt := 20) dX11_truncate_9 (by decide) h (fun h => ?_) (fun h => ?_)
  · cases h
    exact r_throwS (pc := 20) X Y (k := 1) (ltb rfl) (List.mem_of_getElem? (i := 1) rfl) dX11_truncate_20 dX11_truncate_23 dX11_truncate_24 dX11_truncate_26 dX11_truncate_29 ⟨Nat.le_of_ble_eq_true rfl, Nat.le_of_ble_eq_true rfl, Nat.le_of_ble_eq_true rfl, Nat.le_of_ble_eq_true rfl⟩ ⟨Nat.le_of_ble_eq_true rfl, Nat.le_of_ble_eq_true rfl⟩
  · refine r_iload_n (pc := 12) X dX11_truncate_12 rfl ?_
    refine r_aload_n (pc := 13) X dX11_truncate_13 rfl ?_
    refine r_getI (pc := 14) X ⟨(ltb rfl), (ltb rfl)⟩ fl_X11_38 rfl dX11_truncate_14 ?_
    refine r_icmp_le (pc := 17) X (tgt := 30) dX11_truncate_17 (by decide) h (fun h => ?_) (fun h => ?_)
    · refine r_aload_n (pc := 30) X dX11_truncate_30 rfl ?_
      refine r_iload_n (pc := 31) X dX11_truncate_31 rfl ?_
      refine r_putIN (pc := 32) X ⟨(ltb rfl), (ltb rfl)⟩ fp_X11_38 rfl dX11_truncate_32 h (fun M1 h => ?_)
      refine r_iload_n (pc := 35) X dX11_truncate_35 rfl ?_
      cases h
      exact r_iretX (pc := 36) X hr ⟨Nat.le_of_ble_eq_true rfl, Nat.le_of_ble_eq_true rfl⟩ dX11_truncate_36
    · cases h
      exact r_throwS (pc := 20) X Y (k := 1) (ltb rfl) (List.mem_of_getElem? (i := 1) rfl) dX11_truncate_20 dX11_truncate_23 dX11_truncate_24 dX11_truncate_26 dX11_truncate_29 ⟨Nat.le_of_ble_eq_true rfl, Nat.le_of_ble_eq_true rfl, Nat.le_of_ble_eq_true rfl, Nat.le_of_ble_eq_true rfl⟩ ⟨Nat.le_of_ble_eq_true rfl, Nat.le_of_ble_eq_true rfl⟩
theorem c_X11_truncate {G : GG} {l : Launch} {sz : Nat} (hlf : l.stackTraces = false) {x1 : Int32} {r : (Int32 ⊕ Nat)} {M M' : Mem}  (h : f_X11_truncate x1 M = some (r, M')) : vx_Met l yX11_truncate (wsO yX11_truncate cX11_truncate 3 (some .int)) (rmX 6 1) (PcX G sz [.ref (G.2.1 (9, 0, 0)), .int x1] M) (QiX G (AX G sz) r M') (XX G (AX G sz) r M') 1 6 (AX G sz) :=
  metX_of (k := 1) (own := RX11) hlf rfl (by decide +kernel) (Nat.le_of_ble_eq_true rfl) (fun p e s m args below meth c X Y hr => t_X11_truncate X Y hr  h)
-- ConverterScanner.setup
def f_X11_setup_40 : Nat → Int32 → Int32 → Mem → Option (Int32 × Mem)
  | 0 => fun _ _ _ => none
  | n + 1 => fun x1 x2 M => if 2 ≤ x2 then some (x1, M) else if bad x2 2 then none else nm (uI M (23, 0, 0) (Int32.toNatClampNeg x2) (0 &&& 1)) (fun M1 => nm (x2 + 1) (fun e2 => (f_X11_setup_40 n) x1 e2 M1))
set_option maxHeartbeats 4000000 in
set_option maxRecDepth 100000 in
theorem t_X11_setup_40 {G : GG} {A : Nat → Prop} {p : Program} {l : Launch} {e : Env} {s : State} {m : MethodId} {args : Array Value} {below : List Frame} {meth : Method} {c : Code} {r : Int32} {M' : Mem} (X : Cx G A p s m args meth c RX11 cX11_setup 3) (hr : meth.sig.returnType = some .int) : ∀ (n : Nat) (x1 : Int32) (x2 : Int32) (M : Mem), f_X11_setup_40 n x1 x2 M = some (r, M') → T G A p l e (rmO 7) s m args below meth c 3 0 0 (MQ below (QiO G A r M') args s 0 0 A) 40 [(0, .ref (G.2.1 (9, 0, 0))), (1, .int x1), (2, .int x2)] [] M := by
  intro n
  induction n with
  | zero =>
    intro x1 x2 M  h
    cases h
  | succ n ih =>
    intro x1 x2 M  h
    unfold f_X11_setup_40 at h
    refine r_iload_n (pc := 40) X dX11_setup_40 rfl ?_
    refine r_iconst (pc := 41) X (v := 2) dX11_setup_41 (by decide) ?_
    refine r_icmp_ge (pc := 42) X (tgt := 58) dX11_setup_42 (by decide) h (fun h => ?_) (fun h => ?_)
    · refine r_iload_n (pc := 58) X dX11_setup_58 rfl ?_
      cases h
      exact r_iret (pc := 59) X hr dX11_setup_59
    · refine r_aload_n (pc := 45) X dX11_setup_45 rfl ?_
      refine r_getR (q := (23, 0, 0)) (pc := 46) X ⟨(ltb rfl), (ltb rfl)⟩ fl_X11_23 rfl dX11_setup_46 ?_
      refine r_iload_n (pc := 49) X dX11_setup_49 rfl ?_
      refine r_iconst (pc := 50) X (v := 0) dX11_setup_50 (by decide) ?_
      refine r_zastN (pc := 51) X (n := 2) ⟨(ltb rfl), (ltb rfl)⟩ rfl (nlt rfl) dX11_setup_51 h (fun M1 h => ?_)
      refine r_iincN (pc := 52) X (v0 := 1) rfl (by decide) (by decide) dX11_setup_52 h (fun e2 h => ?_)
      refine r_goto (pc := 55) X (tgt := 40) dX11_setup_55 (by decide) ?_
      exact T_sub (ih _ _ _ h) ⟨rfl, rfl, rfl, trivial⟩
def f_X11_setup  (M : Mem) : Option (Int32 × Mem) :=
  bnd (f_X4_parse  M) (fun r1 M2 => nm (uI M2 (6, 0, 0) 1 0) (fun M4 => if r1 = (-1) then some (r1, M4) else bnd (f_X3_copyFrom 1 2 M4) (fun r5 M6 => f_X11_setup_40 fuelN r1 0 M6)))
set_option maxHeartbeats 4000000 in
set_option maxRecDepth 100000 in
theorem t_X11_setup {G : GG} {A : Nat → Prop} {p : Program} {l : Launch} {e : Env} {s : State} {m : MethodId} {args : Array Value} {below : List Frame} {meth : Method} {c : Code} {r : Int32} {M' : Mem} (X : Cx G A p s m args meth c RX11 cX11_setup 3) (hr : meth.sig.returnType = some .int) {M : Mem}  (h : f_X11_setup M = some (r, M')) : T G A p l e (rmO 7) s m args below meth c 3 0 0 (MQ below (QiO G A r M') args s 0 0 A) 0 [(0, .ref (G.2.1 (9, 0, 0)))] [] M := by
  unfold f_X11_setup at h
  refine r_aload_n (pc := 0) X dX11_setup_0 rfl ?_
  refine r_getR (q := (3, 0, 0)) (pc := 1) X ⟨(ltb rfl), (ltb rfl)⟩ fl_X11_30 rfl dX11_setup_1 ?_
  refine bndE h (fun r1 M2 h3 h => ?_)
  refine r_callVi0 (pc := 4) X ⟨(ltb rfl), (ltb rfl)⟩ rfl vy_X4_parse my_X4_parse ml_X11_60 ⟨Nat.le_of_ble_eq_true rfl, Nat.le_of_ble_eq_true rfl, Nat.le_of_ble_eq_true rfl, Nat.le_of_ble_eq_true rfl⟩ (c_X4_parse  h3) (Nat.le_of_ble_eq_true rfl) dX11_setup_4 ?_
  refine r_istore_n (pc := 7) X (by decide) dX11_setup_7 ?_
  refine r_aload_n (pc := 8) X dX11_setup_8 rfl ?_
  refine r_getR (q := (3, 0, 0)) (pc := 9) X ⟨(ltb rfl), (ltb rfl)⟩ fl_X11_30 rfl dX11_setup_9 ?_
  refine r_getR (q := (6, 0, 0)) (pc := 12) X ⟨(ltb rfl), (ltb rfl)⟩ fl_X11_34 rfl dX11_setup_12 ?_
  refine r_iconst (pc := 15) X (v := 0) dX11_setup_15 (by decide) ?_
  refine r_putIN (pc := 16) X ⟨(ltb rfl), (ltb rfl)⟩ fp_X11_38 rfl dX11_setup_16 h (fun M4 h => ?_)
  refine r_iload_n (pc := 19) X dX11_setup_19 rfl ?_
  refine r_iconst (pc := 20) X (v := (-1)) dX11_setup_20 (by decide) ?_
  refine r_icmp_eq (pc := 21) X (tgt := 58) dX11_setup_21 (by decide) h (fun h => ?_) (fun h => ?_)
  · refine r_iload_n (pc := 58) X dX11_setup_58 rfl ?_
    cases h
    exact r_iret (pc := 59) X hr dX11_setup_59
  · refine r_aload_n (pc := 24) X dX11_setup_24 rfl ?_
    refine r_getR (q := (2, 1, 0)) (pc := 25) X ⟨(ltb rfl), (ltb rfl)⟩ fl_X11_10 rfl dX11_setup_25 ?_
    refine r_aload_n (pc := 28) X dX11_setup_28 rfl ?_
    refine r_getR (q := (3, 0, 0)) (pc := 29) X ⟨(ltb rfl), (ltb rfl)⟩ fl_X11_30 rfl dX11_setup_29 ?_
    refine r_getR (q := (2, 2, 0)) (pc := 32) X ⟨(ltb rfl), (ltb rfl)⟩ fl_X11_64 rfl dX11_setup_32 ?_
    refine bndE h (fun r5 M6 h7 h => ?_)
    refine r_callVv1 (pc := 35) X ⟨(ltb rfl), (ltb rfl)⟩ rfl vy_X3_copyFrom my_X3_copyFrom ml_X11_67 ⟨Nat.le_of_ble_eq_true rfl, Nat.le_of_ble_eq_true rfl, Nat.le_of_ble_eq_true rfl, Nat.le_of_ble_eq_true rfl⟩ (c_X3_copyFrom (ltb rfl) (ltb rfl) h7) (Nat.le_of_ble_eq_true rfl) dX11_setup_35 ?_
    refine r_iconst (pc := 38) X (v := 0) dX11_setup_38 (by decide) ?_
    refine r_istore_n (pc := 39) X (by decide) dX11_setup_39 ?_
    exact T_sub (t_X11_setup_40 X hr _ _ _ _ h) ⟨rfl, rfl, rfl, trivial⟩
theorem c_X11_setup {G : GG} {l : Launch} {r : Int32} {M M' : Mem}  (h : f_X11_setup  M = some (r, M')) : Met l yX11_setup (wsO yX11_setup cX11_setup 3 (some .int)) (rmO 7) (PcO G [.ref (G.2.1 (9, 0, 0))] M) (QiO G (AA G) r M') 0 0 (AA G) :=
  met_of (own := RX11) rfl (by decide +kernel) (Nat.le_of_ble_eq_true rfl) (fun p e s m args below meth c X hr => t_X11_setup X hr  h)
-- ConverterScanner.errorCode
def f_X11_errorCode  (M : Mem) : Option (Int32 × Mem) :=
  some ((M.1 (3, 0, 0) 8), M)
set_option maxHeartbeats 4000000 in
set_option maxRecDepth 100000 in
theorem t_X11_errorCode {G : GG} {A : Nat → Prop} {p : Program} {l : Launch} {e : Env} {s : State} {m : MethodId} {args : Array Value} {below : List Frame} {meth : Method} {c : Code} {r : Int32} {M' : Mem} (X : Cx G A p s m args meth c RX11 cX11_errorCode 1) (hr : meth.sig.returnType = some .int) {M : Mem}  (h : f_X11_errorCode M = some (r, M')) : T G A p l e (rmO 0) s m args below meth c 1 0 0 (MQ below (QiO G A r M') args s 0 0 A) 0 [(0, .ref (G.2.1 (9, 0, 0)))] [] M := by
  unfold f_X11_errorCode at h
  refine r_aload_n (pc := 0) X dX11_errorCode_0 rfl ?_
  refine r_getR (q := (3, 0, 0)) (pc := 1) X ⟨(ltb rfl), (ltb rfl)⟩ fl_X11_30 rfl dX11_errorCode_1 ?_
  refine r_getI (pc := 4) X ⟨(ltb rfl), (ltb rfl)⟩ fl_X11_71 rfl dX11_errorCode_4 ?_
  cases h
  exact r_iret (pc := 7) X hr dX11_errorCode_7
theorem c_X11_errorCode {G : GG} {l : Launch} {r : Int32} {M M' : Mem}  (h : f_X11_errorCode  M = some (r, M')) : Met l yX11_errorCode (wsO yX11_errorCode cX11_errorCode 1 (some .int)) (rmO 0) (PcO G [.ref (G.2.1 (9, 0, 0))] M) (QiO G (AA G) r M') 0 0 (AA G) :=
  met_of (own := RX11) rfl (by decide +kernel) (Nat.le_of_ble_eq_true rfl) (fun p e s m args below meth c X hr => t_X11_errorCode X hr  h)
-- ConverterScanner.errorPosition
def f_X11_errorPosition  (M : Mem) : Option (Int32 × Mem) :=
  some ((M.1 (3, 0, 0) 9), M)
set_option maxHeartbeats 4000000 in
set_option maxRecDepth 100000 in
theorem t_X11_errorPosition {G : GG} {A : Nat → Prop} {p : Program} {l : Launch} {e : Env} {s : State} {m : MethodId} {args : Array Value} {below : List Frame} {meth : Method} {c : Code} {r : Int32} {M' : Mem} (X : Cx G A p s m args meth c RX11 cX11_errorPosition 1) (hr : meth.sig.returnType = some .int) {M : Mem}  (h : f_X11_errorPosition M = some (r, M')) : T G A p l e (rmO 0) s m args below meth c 1 0 0 (MQ below (QiO G A r M') args s 0 0 A) 0 [(0, .ref (G.2.1 (9, 0, 0)))] [] M := by
  unfold f_X11_errorPosition at h
  refine r_aload_n (pc := 0) X dX11_errorPosition_0 rfl ?_
  refine r_getR (q := (3, 0, 0)) (pc := 1) X ⟨(ltb rfl), (ltb rfl)⟩ fl_X11_30 rfl dX11_errorPosition_1 ?_
  refine r_getI (pc := 4) X ⟨(ltb rfl), (ltb rfl)⟩ fl_X11_74 rfl dX11_errorPosition_4 ?_
  cases h
  exact r_iret (pc := 7) X hr dX11_errorPosition_7
theorem c_X11_errorPosition {G : GG} {l : Launch} {r : Int32} {M M' : Mem}  (h : f_X11_errorPosition  M = some (r, M')) : Met l yX11_errorPosition (wsO yX11_errorPosition cX11_errorPosition 1 (some .int)) (rmO 0) (PcO G [.ref (G.2.1 (9, 0, 0))] M) (QiO G (AA G) r M') 0 0 (AA G) :=
  met_of (own := RX11) rfl (by decide +kernel) (Nat.le_of_ble_eq_true rfl) (fun p e s m args below meth c X hr => t_X11_errorPosition X hr  h)
-- ConverterScanner.requireCycles
def f_X11_requireCycles (x0 : Int32) (x1 : Int32) (M : Mem) : Option ((Unit ⊕ Nat) × Mem) :=
  if x0 < 1 then some (.inr 1, M) else if x0 ≤ x1 then some (.inl (), M) else some (.inr 1, M)
set_option maxHeartbeats 4000000 in
set_option maxRecDepth 100000 in
theorem t_X11_requireCycles {G : GG} {A : Nat → Prop} {p : Program} {l : Launch} {e : Env} {s : State} {m : MethodId} {args : Array Value} {below : List Frame} {meth : Method} {c : Code} {r : (Unit ⊕ Nat)} {M' : Mem} (X : Cx G A p s m args meth c RX11 cX11_requireCycles 2) (Y : CxX G A l s c) (hr : meth.sig.returnType = none) {x0 : Int32} {x1 : Int32} {M : Mem}  (h : f_X11_requireCycles x0 x1 M = some (r, M')) : T G A p l e (rmX 6 1) s m args below meth c 2 0 0 (vx_MQ below (QvX G A r M') (XX G A r M') args s 1 6 A) 0 [(0, .int x0), (1, .int x1)] [] M := by
  unfold f_X11_requireCycles at h
  refine r_iload_n (pc := 0) X dX11_requireCycles_0 rfl ?_
  refine r_iconst (pc := 1) X (v := 1) dX11_requireCycles_1 (by decide) ?_
  refine r_icmp_lt (pc := 2) X (tgt := 10) dX11_requireCycles_2 (by decide) h (fun h => ?_) (fun h => ?_)
  · cases h
    exact r_throwW (pc := 10) X Y (k := 1) (ltb rfl) (List.mem_of_getElem? (i := 2) rfl) dX11_requireCycles_10 dX11_requireCycles_13 dX11_requireCycles_14 dX11_requireCycles_17 dX11_requireCycles_20 ⟨Nat.le_of_ble_eq_true rfl, Nat.le_of_ble_eq_true rfl, Nat.le_of_ble_eq_true rfl, Nat.le_of_ble_eq_true rfl⟩ ⟨Nat.le_of_ble_eq_true rfl, Nat.le_of_ble_eq_true rfl⟩
  · refine r_iload_n (pc := 5) X dX11_requireCycles_5 rfl ?_
    refine r_iload_n (pc := 6) X dX11_requireCycles_6 rfl ?_
    refine r_icmp_le (pc := 7) X (tgt := 21) dX11_requireCycles_7 (by decide) h (fun h => ?_) (fun h => ?_)
    · cases h
      exact r_vretX (pc := 21) X hr ⟨Nat.le_of_ble_eq_true rfl, Nat.le_of_ble_eq_true rfl⟩ dX11_requireCycles_21
    · cases h
      exact r_throwW (pc := 10) X Y (k := 1) (ltb rfl) (List.mem_of_getElem? (i := 2) rfl) dX11_requireCycles_10 dX11_requireCycles_13 dX11_requireCycles_14 dX11_requireCycles_17 dX11_requireCycles_20 ⟨Nat.le_of_ble_eq_true rfl, Nat.le_of_ble_eq_true rfl, Nat.le_of_ble_eq_true rfl, Nat.le_of_ble_eq_true rfl⟩ ⟨Nat.le_of_ble_eq_true rfl, Nat.le_of_ble_eq_true rfl⟩
theorem c_X11_requireCycles {G : GG} {l : Launch} {sz : Nat} (hlf : l.stackTraces = false) {x0 : Int32} {x1 : Int32} {r : (Unit ⊕ Nat)} {M M' : Mem}  (h : f_X11_requireCycles x0 x1 M = some (r, M')) : vx_Met l yX11_requireCycles (wsO yX11_requireCycles cX11_requireCycles 2 none) (rmX 6 1) (PcX G sz [.int x0, .int x1] M) (QvX G (AX G sz) r M') (XX G (AX G sz) r M') 1 6 (AX G sz) :=
  metX_of (k := 1) (own := RX11) hlf rfl (by decide +kernel) (Nat.le_of_ble_eq_true rfl) (fun p e s m args below meth c X Y hr => t_X11_requireCycles X Y hr  h)
-- ConverterScanner.run
def f_X11_run_17 : Nat → Int32 → Int32 → Int32 → Mem → Option ((Int32 ⊕ Nat) × Mem)
  | 0 => fun _ _ _ _ => none
  | n + 1 => fun x1 x2 x3 M => if x1 ≤ x3 then bnd (f_X3_resultCount 1 M) (fun r1 M2 => some (.inl (r1 - x2), M2)) else bnd (f_X3_passCycle 1 M) (fun r4 M5 => nm (x3 + 1) (fun e7 => (f_X11_run_17 n) x1 x2 e7 M5))
set_option maxHeartbeats 4000000 in
set_option maxRecDepth 100000 in
theorem t_X11_run_17 {G : GG} {A : Nat → Prop} {p : Program} {l : Launch} {e : Env} {s : State} {m : MethodId} {args : Array Value} {below : List Frame} {meth : Method} {c : Code} {r : (Int32 ⊕ Nat)} {M' : Mem} (X : Cx G A p s m args meth c RX11 cX11_run 4) (Y : CxX G A l s c) (hr : meth.sig.returnType = some .int) : ∀ (n : Nat) (x1 : Int32) (x2 : Int32) (x3 : Int32) (M : Mem), f_X11_run_17 n x1 x2 x3 M = some (r, M') → T G A p l e (rmX 7 1) s m args below meth c 4 1 6 (vx_MQ below (QiX G A r M') (XX G A r M') args s 1 6 A) 17 [(0, .ref (G.2.1 (9, 0, 0))), (1, .int x1), (2, .int x2), (3, .int x3)] [] M := by
  intro n
  induction n with
  | zero =>
    intro x1 x2 x3 M  h
    cases h
  | succ n ih =>
    intro x1 x2 x3 M  h
    unfold f_X11_run_17 at h
    refine r_iload_n (pc := 17) X dX11_run_17 rfl ?_
    refine r_iload_n (pc := 18) X dX11_run_18 rfl ?_
    refine r_icmp_ge (pc := 19) X (tgt := 35) dX11_run_19 (by decide) h (fun h => ?_) (fun h => ?_)
    · refine r_aload_n (pc := 35) X dX11_run_35 rfl ?_
      refine r_getR (q := (2, 1, 0)) (pc := 36) X ⟨(ltb rfl), (ltb rfl)⟩ fl_X11_10 rfl dX11_run_36 ?_
      refine bndE h (fun r1 M2 h3 h => ?_)
      refine r_callVi0 (pc := 39) X ⟨(ltb rfl), (ltb rfl)⟩ rfl vy_X3_resultCount my_X3_resultCount ml_X11_81 ⟨Nat.le_of_ble_eq_true rfl, Nat.le_of_ble_eq_true rfl, Nat.le_of_ble_eq_true rfl, Nat.le_of_ble_eq_true rfl⟩ (c_X3_resultCount (ltb rfl) h3) (Nat.le_of_ble_eq_true rfl) dX11_run_39 ?_
      refine r_iload_n (pc := 42) X dX11_run_42 rfl ?_
      refine r_isub (pc := 43) X dX11_run_43 ?_
      cases h
      exact r_iretX (pc := 44) X hr ⟨Nat.le_of_ble_eq_true rfl, Nat.le_of_ble_eq_true rfl⟩ dX11_run_44
    · refine r_aload_n (pc := 22) X dX11_run_22 rfl ?_
      refine r_getR (q := (2, 1, 0)) (pc := 23) X ⟨(ltb rfl), (ltb rfl)⟩ fl_X11_10 rfl dX11_run_23 ?_
      refine bndE h (fun r4 M5 h6 h => ?_)
      refine r_callVv0 (pc := 26) X ⟨(ltb rfl), (ltb rfl)⟩ rfl vy_X3_passCycle my_X3_passCycle ml_X11_84 ⟨Nat.le_of_ble_eq_true rfl, Nat.le_of_ble_eq_true rfl, Nat.le_of_ble_eq_true rfl, Nat.le_of_ble_eq_true rfl⟩ (c_X3_passCycle (ltb rfl) h6) (Nat.le_of_ble_eq_true rfl) dX11_run_26 ?_
      refine r_iincN (pc := 29) X (v0 := 1) rfl (by decide) (by decide) dX11_run_29 h (fun e7 h => ?_)
      refine r_goto (pc := 32) X (tgt := 17) dX11_run_32 (by decide) ?_
      exact T_widen (k := 1) (n := 6) (Nat.le_of_ble_eq_true rfl) (Nat.le_of_ble_eq_true rfl) (T_sub (ih _ _ _ _ h) ⟨rfl, rfl, rfl, rfl, trivial⟩)
def f_X11_run (x1 : Int32) (M : Mem) : Option ((Int32 ⊕ Nat) × Mem) :=
  bndX (f_X11_requireCycles x1 5000 M) (fun r1 M2 => bnd (f_X3_resultCount 1 M2) (fun r4 M5 => f_X11_run_17 fuelN x1 r4 0 M5))
set_option maxHeartbeats 4000000 in
set_option maxRecDepth 100000 in
theorem t_X11_run {G : GG} {A : Nat → Prop} {p : Program} {l : Launch} {e : Env} {s : State} {m : MethodId} {args : Array Value} {below : List Frame} {meth : Method} {c : Code} {r : (Int32 ⊕ Nat)} {M' : Mem} (X : Cx G A p s m args meth c RX11 cX11_run 4) (Y : CxX G A l s c) (hr : meth.sig.returnType = some .int) {x1 : Int32} {M : Mem}  (h : f_X11_run x1 M = some (r, M')) : T G A p l e (rmX 7 1) s m args below meth c 4 0 0 (vx_MQ below (QiX G A r M') (XX G A r M') args s 1 6 A) 0 [(0, .ref (G.2.1 (9, 0, 0))), (1, .int x1)] [] M := by
  unfold f_X11_run at h
  refine r_iload_n (pc := 0) X dX11_run_0 rfl ?_
  refine r_sipush (pc := 1) X (v := 5000) dX11_run_1 (by decide) ?_
  refine bndXE h (fun r1x M2 h3 h => ?_)
  refine r_callXSv2 (pc := 4) X Y sy_X11_requireCycles my_X11_requireCycles ml_X11_77 ⟨Nat.le_of_ble_eq_true rfl, Nat.le_of_ble_eq_true rfl, Nat.le_of_ble_eq_true rfl, Nat.le_of_ble_eq_true rfl⟩ (fun sz => c_X11_requireCycles Y.1  h3) h ⟨Nat.le_of_ble_eq_true rfl, Nat.le_of_ble_eq_true rfl⟩ (Nat.le_of_ble_eq_true rfl) dX11_run_4 (fun r1 hvr1 h => ?_)
  refine r_aload_n (pc := 7) X dX11_run_7 rfl ?_
  refine r_getR (q := (2, 1, 0)) (pc := 8) X ⟨(ltb rfl), (ltb rfl)⟩ fl_X11_10 rfl dX11_run_8 ?_
  refine bndE h (fun r4 M5 h6 h => ?_)
  refine r_callVi0 (pc := 11) X ⟨(ltb rfl), (ltb rfl)⟩ rfl vy_X3_resultCount my_X3_resultCount ml_X11_81 ⟨Nat.le_of_ble_eq_true rfl, Nat.le_of_ble_eq_true rfl, Nat.le_of_ble_eq_true rfl, Nat.le_of_ble_eq_true rfl⟩ (c_X3_resultCount (ltb rfl) h6) (Nat.le_of_ble_eq_true rfl) dX11_run_11 ?_
  refine r_istore_n (pc := 14) X (by decide) dX11_run_14 ?_
  refine r_iconst (pc := 15) X (v := 0) dX11_run_15 (by decide) ?_
  refine r_istore_n (pc := 16) X (by decide) dX11_run_16 ?_
  exact T_widen (k := 1) (n := 6) (Nat.le_of_ble_eq_true rfl) (Nat.le_of_ble_eq_true rfl) (T_sub (t_X11_run_17 X Y hr _ _ _ _ _ h) ⟨rfl, rfl, rfl, rfl, trivial⟩)
theorem c_X11_run {G : GG} {l : Launch} {sz : Nat} (hlf : l.stackTraces = false) {x1 : Int32} {r : (Int32 ⊕ Nat)} {M M' : Mem}  (h : f_X11_run x1 M = some (r, M')) : vx_Met l yX11_run (wsO yX11_run cX11_run 4 (some .int)) (rmX 7 1) (PcX G sz [.ref (G.2.1 (9, 0, 0)), .int x1] M) (QiX G (AX G sz) r M') (XX G (AX G sz) r M') 1 6 (AX G sz) :=
  metX_of (k := 1) (own := RX11) hlf rfl (by decide +kernel) (Nat.le_of_ble_eq_true rfl) (fun p e s m args below meth c X Y hr => t_X11_run X Y hr  h)
-- ConverterScanner.requireTrigger
def f_X11_requireTrigger (x0 : Int32) (M : Mem) : Option ((Unit ⊕ Nat) × Mem) :=
  bnd (f_X10_allows 8 x0 M) (fun r1 M2 => if r1 = 0 then some (.inr 2, M2) else some (.inl (), M2))
set_option maxHeartbeats 4000000 in
set_option maxRecDepth 100000 in
theorem t_X11_requireTrigger {G : GG} {A : Nat → Prop} {p : Program} {l : Launch} {e : Env} {s : State} {m : MethodId} {args : Array Value} {below : List Frame} {meth : Method} {c : Code} {r : (Unit ⊕ Nat)} {M' : Mem} (X : Cx G A p s m args meth c RX11 cX11_requireTrigger 1) (Y : CxX G A l s c) (hr : meth.sig.returnType = none) {x0 : Int32} {M : Mem}  (h : f_X11_requireTrigger x0 M = some (r, M')) : T G A p l e (rmX 6 1) s m args below meth c 1 0 0 (vx_MQ below (QvX G A r M') (XX G A r M') args s 1 6 A) 0 [(0, .int x0)] [] M := by
  unfold f_X11_requireTrigger at h
  refine r_getsW (pc := 0) X 8 (by decide) wf_X11_373 dX11_requireTrigger_0 ?_
  refine r_iload_n (pc := 3) X dX11_requireTrigger_3 rfl ?_
  refine bndE h (fun r1 M2 h3 h => ?_)
  refine r_callWi1 (pc := 4) X (by decide) rfl vy_X10_allows my_X10_allows ml_X11_140 ⟨Nat.le_of_ble_eq_true rfl, Nat.le_of_ble_eq_true rfl, Nat.le_of_ble_eq_true rfl, Nat.le_of_ble_eq_true rfl⟩ (c_X10_allows (by decide) h3) (Nat.le_of_ble_eq_true rfl) dX11_requireTrigger_4 ?_
  refine r_if_ne (pc := 7) X (tgt := 21) dX11_requireTrigger_7 (by decide) h (fun h => ?_) (fun h => ?_)
  · cases h
    exact r_vretX (pc := 21) X hr ⟨Nat.le_of_ble_eq_true rfl, Nat.le_of_ble_eq_true rfl⟩ dX11_requireTrigger_21
  · cases h
    exact r_throwW (pc := 10) X Y (k := 2) (ltb rfl) (List.mem_of_getElem? (i := 3) rfl) dX11_requireTrigger_10 dX11_requireTrigger_13 dX11_requireTrigger_14 dX11_requireTrigger_17 dX11_requireTrigger_20 ⟨Nat.le_of_ble_eq_true rfl, Nat.le_of_ble_eq_true rfl, Nat.le_of_ble_eq_true rfl, Nat.le_of_ble_eq_true rfl⟩ ⟨Nat.le_of_ble_eq_true rfl, Nat.le_of_ble_eq_true rfl⟩
theorem c_X11_requireTrigger {G : GG} {l : Launch} {sz : Nat} (hlf : l.stackTraces = false) {x0 : Int32} {r : (Unit ⊕ Nat)} {M M' : Mem}  (h : f_X11_requireTrigger x0 M = some (r, M')) : vx_Met l yX11_requireTrigger (wsO yX11_requireTrigger cX11_requireTrigger 1 none) (rmX 6 1) (PcX G sz [.int x0] M) (QvX G (AX G sz) r M') (XX G (AX G sz) r M') 1 6 (AX G sz) :=
  metX_of (k := 1) (own := RX11) hlf rfl (by decide +kernel) (Nat.le_of_ble_eq_true rfl) (fun p e s m args below meth c X Y hr => t_X11_requireTrigger X Y hr  h)
-- ConverterScanner.fire
def f_X11_fire (x1 : Int32) (M : Mem) : Option ((Int32 ⊕ Nat) × Mem) :=
  bndX (f_X11_requireTrigger x1 M) (fun r1 M2 => bnd (f_X3_fireTrigger 1 x1 M2) (fun r4 M5 => if r4 = 0 then some (.inl 0, M5) else some (.inl 1, M5)))
set_option maxHeartbeats 4000000 in
set_option maxRecDepth 100000 in
theorem t_X11_fire {G : GG} {A : Nat → Prop} {p : Program} {l : Launch} {e : Env} {s : State} {m : MethodId} {args : Array Value} {below : List Frame} {meth : Method} {c : Code} {r : (Int32 ⊕ Nat)} {M' : Mem} (X : Cx G A p s m args meth c RX11 cX11_fire 2) (Y : CxX G A l s c) (hr : meth.sig.returnType = some .int) {x1 : Int32} {M : Mem}  (h : f_X11_fire x1 M = some (r, M')) : T G A p l e (rmX 7 1) s m args below meth c 2 0 0 (vx_MQ below (QiX G A r M') (XX G A r M') args s 1 6 A) 0 [(0, .ref (G.2.1 (9, 0, 0))), (1, .int x1)] [] M := by
  unfold f_X11_fire at h
  refine r_iload_n (pc := 0) X dX11_fire_0 rfl ?_
  refine bndXE h (fun r1x M2 h3 h => ?_)
  refine r_callXSv1 (pc := 1) X Y sy_X11_requireTrigger my_X11_requireTrigger ml_X11_87 ⟨Nat.le_of_ble_eq_true rfl, Nat.le_of_ble_eq_true rfl, Nat.le_of_ble_eq_true rfl, Nat.le_of_ble_eq_true rfl⟩ (fun sz => c_X11_requireTrigger Y.1  h3) h ⟨Nat.le_of_ble_eq_true rfl, Nat.le_of_ble_eq_true rfl⟩ (Nat.le_of_ble_eq_true rfl) dX11_fire_1 (fun r1 hvr1 h => ?_)
  refine r_aload_n (pc := 4) X dX11_fire_4 rfl ?_
  refine r_getR (q := (2, 1, 0)) (pc := 5) X ⟨(ltb rfl), (ltb rfl)⟩ fl_X11_10 rfl dX11_fire_5 ?_
  refine r_iload_n (pc := 8) X dX11_fire_8 rfl ?_
  refine bndE h (fun r4 M5 h6 h => ?_)
  refine r_callVi1 (pc := 9) X ⟨(ltb rfl), (ltb rfl)⟩ rfl vy_X3_fireTrigger my_X3_fireTrigger ml_X11_90 ⟨Nat.le_of_ble_eq_true rfl, Nat.le_of_ble_eq_true rfl, Nat.le_of_ble_eq_true rfl, Nat.le_of_ble_eq_true rfl⟩ (c_X3_fireTrigger (ltb rfl) h6) (Nat.le_of_ble_eq_true rfl) dX11_fire_9 ?_
  refine r_if_eq (pc := 12) X (tgt := 19) dX11_fire_12 (by decide) h (fun h => ?_) (fun h => ?_)
  · refine r_iconst (pc := 19) X (v := 0) dX11_fire_19 (by decide) ?_
    cases h
    exact r_iretX (pc := 20) X hr ⟨Nat.le_of_ble_eq_true rfl, Nat.le_of_ble_eq_true rfl⟩ dX11_fire_20
  · refine r_iconst (pc := 15) X (v := 1) dX11_fire_15 (by decide) ?_
    refine r_goto (pc := 16) X (tgt := 20) dX11_fire_16 (by decide) ?_
    cases h
    exact r_iretX (pc := 20) X hr ⟨Nat.le_of_ble_eq_true rfl, Nat.le_of_ble_eq_true rfl⟩ dX11_fire_20
theorem c_X11_fire {G : GG} {l : Launch} {sz : Nat} (hlf : l.stackTraces = false) {x1 : Int32} {r : (Int32 ⊕ Nat)} {M M' : Mem}  (h : f_X11_fire x1 M = some (r, M')) : vx_Met l yX11_fire (wsO yX11_fire cX11_fire 2 (some .int)) (rmX 7 1) (PcX G sz [.ref (G.2.1 (9, 0, 0)), .int x1] M) (QiX G (AX G sz) r M') (XX G (AX G sz) r M') 1 6 (AX G sz) :=
  metX_of (k := 1) (own := RX11) hlf rfl (by decide +kernel) (Nat.le_of_ble_eq_true rfl) (fun p e s m args below meth c X Y hr => t_X11_fire X Y hr  h)
-- ConverterScanner.stop
def f_X11_stop  (M : Mem) : Option (Int32 × Mem) :=
  bnd (f_X3_stopRegular 1 M) (fun r1 M2 => if r1 = 0 then some (0, M2) else some (1, M2))
set_option maxHeartbeats 4000000 in
set_option maxRecDepth 100000 in
theorem t_X11_stop {G : GG} {A : Nat → Prop} {p : Program} {l : Launch} {e : Env} {s : State} {m : MethodId} {args : Array Value} {below : List Frame} {meth : Method} {c : Code} {r : Int32} {M' : Mem} (X : Cx G A p s m args meth c RX11 cX11_stop 1) (hr : meth.sig.returnType = some .int) {M : Mem}  (h : f_X11_stop M = some (r, M')) : T G A p l e (rmO 3) s m args below meth c 1 0 0 (MQ below (QiO G A r M') args s 0 0 A) 0 [(0, .ref (G.2.1 (9, 0, 0)))] [] M := by
  unfold f_X11_stop at h
  refine r_aload_n (pc := 0) X dX11_stop_0 rfl ?_
  refine r_getR (q := (2, 1, 0)) (pc := 1) X ⟨(ltb rfl), (ltb rfl)⟩ fl_X11_10 rfl dX11_stop_1 ?_
  refine bndE h (fun r1 M2 h3 h => ?_)
  refine r_callVi0 (pc := 4) X ⟨(ltb rfl), (ltb rfl)⟩ rfl vy_X3_stopRegular my_X3_stopRegular ml_X11_94 ⟨Nat.le_of_ble_eq_true rfl, Nat.le_of_ble_eq_true rfl, Nat.le_of_ble_eq_true rfl, Nat.le_of_ble_eq_true rfl⟩ (c_X3_stopRegular (ltb rfl) h3) (Nat.le_of_ble_eq_true rfl) dX11_stop_4 ?_
  refine r_if_eq (pc := 7) X (tgt := 14) dX11_stop_7 (by decide) h (fun h => ?_) (fun h => ?_)
  · refine r_iconst (pc := 14) X (v := 0) dX11_stop_14 (by decide) ?_
    cases h
    exact r_iret (pc := 15) X hr dX11_stop_15
  · refine r_iconst (pc := 10) X (v := 1) dX11_stop_10 (by decide) ?_
    refine r_goto (pc := 11) X (tgt := 15) dX11_stop_11 (by decide) ?_
    cases h
    exact r_iret (pc := 15) X hr dX11_stop_15
theorem c_X11_stop {G : GG} {l : Launch} {r : Int32} {M M' : Mem}  (h : f_X11_stop  M = some (r, M')) : Met l yX11_stop (wsO yX11_stop cX11_stop 1 (some .int)) (rmO 3) (PcO G [.ref (G.2.1 (9, 0, 0))] M) (QiO G (AA G) r M') 0 0 (AA G) :=
  met_of (own := RX11) rfl (by decide +kernel) (Nat.le_of_ble_eq_true rfl) (fun p e s m args below meth c X hr => t_X11_stop X hr  h)
-- ConverterScanner.take
def f_X11_take  (M : Mem) : Option ((Int32 ⊕ Nat) × Mem) :=
  if (M.1 (4, 1, 0) 5) = 0 then some (.inr 3, M) else bnd (f_X5_oldestNumber 1 0 3 M) (fun r1 M2 => bnd (f_X5_removeOldest 1 0 M2) (fun r4 M5 => some (.inl r1, M5)))
set_option maxHeartbeats 4000000 in
set_option maxRecDepth 100000 in
theorem t_X11_take {G : GG} {A : Nat → Prop} {p : Program} {l : Launch} {e : Env} {s : State} {m : MethodId} {args : Array Value} {below : List Frame} {meth : Method} {c : Code} {r : (Int32 ⊕ Nat)} {M' : Mem} (X : Cx G A p s m args meth c RX11 cX11_take 2) (Y : CxX G A l s c) (hr : meth.sig.returnType = some .int) {M : Mem}  (h : f_X11_take M = some (r, M')) : T G A p l e (rmX 6 1) s m args below meth c 2 0 0 (vx_MQ below (QiX G A r M') (XX G A r M') args s 1 6 A) 0 [(0, .ref (G.2.1 (9, 0, 0)))] [] M := by
  unfold f_X11_take at h
  refine r_aload_n (pc := 0) X dX11_take_0 rfl ?_
  refine r_getR (q := (2, 1, 0)) (pc := 1) X ⟨(ltb rfl), (ltb rfl)⟩ fl_X11_10 rfl dX11_take_1 ?_
  refine r_getR (q := (4, 1, 0)) (pc := 4) X ⟨(ltb rfl), (ltb rfl)⟩ fl_X11_98 rfl dX11_take_4 ?_
  refine r_getI (pc := 7) X ⟨(ltb rfl), (ltb rfl)⟩ fl_X11_102 rfl dX11_take_7 ?_
  refine r_if_ne (pc := 10) X (tgt := 23) dX11_take_10 (by decide) h (fun h => ?_) (fun h => ?_)
  · refine r_aload_n (pc := 23) X dX11_take_23 rfl ?_
    refine r_getR (q := (2, 1, 0)) (pc := 24) X ⟨(ltb rfl), (ltb rfl)⟩ fl_X11_10 rfl dX11_take_24 ?_
    refine r_getR (q := (4, 1, 0)) (pc := 27) X ⟨(ltb rfl), (ltb rfl)⟩ fl_X11_98 rfl dX11_take_27 ?_
    refine r_iconst (pc := 30) X (v := 3) dX11_take_30 (by decide) ?_
    refine bndE h (fun r1 M2 h3 h => ?_)
    refine r_callVi1 (pc := 31) X ⟨(ltb rfl), (ltb rfl)⟩ rfl vy_X5_oldestNumber my_X5_oldestNumber ml_X11_112 ⟨Nat.le_of_ble_eq_true rfl, Nat.le_of_ble_eq_true rfl, Nat.le_of_ble_eq_true rfl, Nat.le_of_ble_eq_true rfl⟩ (c_X5_oldestNumber (ltb rfl) (ltb rfl) h3) (Nat.le_of_ble_eq_true rfl) dX11_take_31 ?_
    refine r_istore_n (pc := 34) X (by decide) dX11_take_34 ?_
    refine r_aload_n (pc := 35) X dX11_take_35 rfl ?_
    refine r_getR (q := (2, 1, 0)) (pc := 36) X ⟨(ltb rfl), (ltb rfl)⟩ fl_X11_10 rfl dX11_take_36 ?_
    refine r_getR (q := (4, 1, 0)) (pc := 39) X ⟨(ltb rfl), (ltb rfl)⟩ fl_X11_98 rfl dX11_take_39 ?_
    refine bndE h (fun r4 M5 h6 h => ?_)
    refine r_callVv0 (pc := 42) X ⟨(ltb rfl), (ltb rfl)⟩ rfl vy_X5_removeOldest my_X5_removeOldest ml_X11_116 ⟨Nat.le_of_ble_eq_true rfl, Nat.le_of_ble_eq_true rfl, Nat.le_of_ble_eq_true rfl, Nat.le_of_ble_eq_true rfl⟩ (c_X5_removeOldest (ltb rfl) (ltb rfl) h6) (Nat.le_of_ble_eq_true rfl) dX11_take_42 ?_
    refine r_iload_n (pc := 45) X dX11_take_45 rfl ?_
    cases h
    exact r_iretX (pc := 46) X hr ⟨Nat.le_of_ble_eq_true rfl, Nat.le_of_ble_eq_true rfl⟩ dX11_take_46
  · cases h
    exact r_throwNS (pc := 13) X Y (k := 3) rfl (List.mem_of_getElem? (i := 4) rfl) dX11_take_13 dX11_take_16 dX11_take_17 dX11_take_19 dX11_take_22 ⟨Nat.le_of_ble_eq_true rfl, Nat.le_of_ble_eq_true rfl, Nat.le_of_ble_eq_true rfl, Nat.le_of_ble_eq_true rfl⟩ ⟨Nat.le_of_ble_eq_true rfl, Nat.le_of_ble_eq_true rfl⟩
theorem c_X11_take {G : GG} {l : Launch} {sz : Nat} (hlf : l.stackTraces = false) {r : (Int32 ⊕ Nat)} {M M' : Mem}  (h : f_X11_take  M = some (r, M')) : vx_Met l yX11_take (wsO yX11_take cX11_take 2 (some .int)) (rmX 6 1) (PcX G sz [.ref (G.2.1 (9, 0, 0))] M) (QiX G (AX G sz) r M') (XX G (AX G sz) r M') 1 6 (AX G sz) :=
  metX_of (k := 1) (own := RX11) hlf rfl (by decide +kernel) (Nat.le_of_ble_eq_true rfl) (fun p e s m args below meth c X Y hr => t_X11_take X Y hr  h)
-- ConverterScanner.requireWindow
def f_X11_requireWindow (x1 : Int32) (M : Mem) : Option ((Unit ⊕ Nat) × Mem) :=
  bnd (f_X10_allows 7 x1 M) (fun r1 M2 => if r1 = 0 then some (.inr 2, M2) else if bad x1 3 then none else if (M2.1 (8, 1, (Int32.toNatClampNeg x1)) 0) = 0 then some (.inr 2, M2) else some (.inl (), M2))
set_option maxHeartbeats 4000000 in
set_option maxRecDepth 100000 in
theorem t_X11_requireWindow {G : GG} {A : Nat → Prop} {p : Program} {l : Launch} {e : Env} {s : State} {m : MethodId} {args : Array Value} {below : List Frame} {meth : Method} {c : Code} {r : (Unit ⊕ Nat)} {M' : Mem} (X : Cx G A p s m args meth c RX11 cX11_requireWindow 2) (Y : CxX G A l s c) (hr : meth.sig.returnType = none) {x1 : Int32} {M : Mem}  (h : f_X11_requireWindow x1 M = some (r, M')) : T G A p l e (rmX 6 1) s m args below meth c 2 0 0 (vx_MQ below (QvX G A r M') (XX G A r M') args s 1 6 A) 0 [(0, .ref (G.2.1 (9, 0, 0))), (1, .int x1)] [] M := by
  unfold f_X11_requireWindow at h
  refine r_getsW (pc := 0) X 7 (by decide) wf_X11_378 dX11_requireWindow_0 ?_
  refine r_iload_n (pc := 3) X dX11_requireWindow_3 rfl ?_
  refine bndE h (fun r1 M2 h3 h => ?_)
  refine r_callWi1 (pc := 4) X (by decide) rfl vy_X10_allows my_X10_allows ml_X11_140 ⟨Nat.le_of_ble_eq_true rfl, Nat.le_of_ble_eq_true rfl, Nat.le_of_ble_eq_true rfl, Nat.le_of_ble_eq_true rfl⟩ (c_X10_allows (by decide) h3) (Nat.le_of_ble_eq_true rfl) dX11_requireWindow_4 ?_
  refine r_if_eq (pc := 7) X (tgt := 25) dX11_requireWindow_7 (by decide) h (fun h => ?_) (fun h => ?_)
  · cases h
    exact r_throwW (pc := 25) X Y (k := 2) (ltb rfl) (List.mem_of_getElem? (i := 5) rfl) dX11_requireWindow_25 dX11_requireWindow_28 dX11_requireWindow_29 dX11_requireWindow_32 dX11_requireWindow_35 ⟨Nat.le_of_ble_eq_true rfl, Nat.le_of_ble_eq_true rfl, Nat.le_of_ble_eq_true rfl, Nat.le_of_ble_eq_true rfl⟩ ⟨Nat.le_of_ble_eq_true rfl, Nat.le_of_ble_eq_true rfl⟩
  · refine r_aload_n (pc := 10) X dX11_requireWindow_10 rfl ?_
    refine r_getR (q := (2, 1, 0)) (pc := 11) X ⟨(ltb rfl), (ltb rfl)⟩ fl_X11_10 rfl dX11_requireWindow_11 ?_
    refine r_getR (q := (26, 1, 0)) (pc := 14) X ⟨(ltb rfl), (ltb rfl)⟩ fl_X11_122 rfl dX11_requireWindow_14 ?_
    refine r_iload_n (pc := 17) X dX11_requireWindow_17 rfl ?_
    refine r_aald (pc := 18) X (t := 2) (n := 3) ⟨(ltb rfl), (ltb rfl)⟩ rfl (ltb rfl) (nlt rfl) dX11_requireWindow_18 h (fun hb4 h => ?_)
    refine r_getI (pc := 19) X ⟨(ltb rfl), (bad_lt hb4)⟩ fl_X11_381 rfl dX11_requireWindow_19 ?_
    refine r_if_ne (pc := 22) X (tgt := 36) dX11_requireWindow_22 (by decide) h (fun h => ?_) (fun h => ?_)
    · cases h
      exact r_vretX (pc := 36) X hr ⟨Nat.le_of_ble_eq_true rfl, Nat.le_of_ble_eq_true rfl⟩ dX11_requireWindow_36
    · cases h
      exact r_throwW (pc := 25) X Y (k := 2) (ltb rfl) (List.mem_of_getElem? (i := 5) rfl) dX11_requireWindow_25 dX11_requireWindow_28 dX11_requireWindow_29 dX11_requireWindow_32 dX11_requireWindow_35 ⟨Nat.le_of_ble_eq_true rfl, Nat.le_of_ble_eq_true rfl, Nat.le_of_ble_eq_true rfl, Nat.le_of_ble_eq_true rfl⟩ ⟨Nat.le_of_ble_eq_true rfl, Nat.le_of_ble_eq_true rfl⟩
theorem c_X11_requireWindow {G : GG} {l : Launch} {sz : Nat} (hlf : l.stackTraces = false) {x1 : Int32} {r : (Unit ⊕ Nat)} {M M' : Mem}  (h : f_X11_requireWindow x1 M = some (r, M')) : vx_Met l yX11_requireWindow (wsO yX11_requireWindow cX11_requireWindow 2 none) (rmX 6 1) (PcX G sz [.ref (G.2.1 (9, 0, 0)), .int x1] M) (QvX G (AX G sz) r M') (XX G (AX G sz) r M') 1 6 (AX G sz) :=
  metX_of (k := 1) (own := RX11) hlf rfl (by decide +kernel) (Nat.le_of_ble_eq_true rfl) (fun p e s m args below meth c X Y hr => t_X11_requireWindow X Y hr  h)
-- ConverterScanner.acknowledge
def f_X11_acknowledge (x1 : Int32) (M : Mem) : Option ((Int32 ⊕ Nat) × Mem) :=
  bndX (f_X11_requireWindow x1 M) (fun r1 M2 => if bad x1 3 then none else bnd (f_X9_calmDown 1 (Int32.toNatClampNeg x1) M2) (fun r5 M6 => if r5 = 0 then some (.inl 0, M6) else some (.inl 1, M6)))
set_option maxHeartbeats 4000000 in
set_option maxRecDepth 100000 in
theorem t_X11_acknowledge {G : GG} {A : Nat → Prop} {p : Program} {l : Launch} {e : Env} {s : State} {m : MethodId} {args : Array Value} {below : List Frame} {meth : Method} {c : Code} {r : (Int32 ⊕ Nat)} {M' : Mem} (X : Cx G A p s m args meth c RX11 cX11_acknowledge 2) (Y : CxX G A l s c) (hr : meth.sig.returnType = some .int) {x1 : Int32} {M : Mem}  (h : f_X11_acknowledge x1 M = some (r, M')) : T G A p l e (rmX 7 1) s m args below meth c 2 0 0 (vx_MQ below (QiX G A r M') (XX G A r M') args s 1 6 A) 0 [(0, .ref (G.2.1 (9, 0, 0))), (1, .int x1)] [] M := by
  unfold f_X11_acknowledge at h
  refine r_aload_n (pc := 0) X dX11_acknowledge_0 rfl ?_
  refine r_iload_n (pc := 1) X dX11_acknowledge_1 rfl ?_
  refine bndXE h (fun r1x M2 h3 h => ?_)
  refine r_callXVv1 (pc := 2) X Y ⟨(ltb rfl), (ltb rfl)⟩ rfl vy_X11_requireWindow my_X11_requireWindow ml_X11_119 ⟨Nat.le_of_ble_eq_true rfl, Nat.le_of_ble_eq_true rfl, Nat.le_of_ble_eq_true rfl, Nat.le_of_ble_eq_true rfl⟩ (fun sz => c_X11_requireWindow Y.1  h3) h ⟨Nat.le_of_ble_eq_true rfl, Nat.le_of_ble_eq_true rfl⟩ (Nat.le_of_ble_eq_true rfl) dX11_acknowledge_2 (fun r1 hvr1 h => ?_)
  refine r_aload_n (pc := 5) X dX11_acknowledge_5 rfl ?_
  refine r_getR (q := (2, 1, 0)) (pc := 6) X ⟨(ltb rfl), (ltb rfl)⟩ fl_X11_10 rfl dX11_acknowledge_6 ?_
  refine r_getR (q := (26, 1, 0)) (pc := 9) X ⟨(ltb rfl), (ltb rfl)⟩ fl_X11_122 rfl dX11_acknowledge_9 ?_
  refine r_iload_n (pc := 12) X dX11_acknowledge_12 rfl ?_
  refine r_aald (pc := 13) X (t := 2) (n := 3) ⟨(ltb rfl), (ltb rfl)⟩ rfl (ltb rfl) (nlt rfl) dX11_acknowledge_13 h (fun hb4 h => ?_)
  refine bndE h (fun r5 M6 h7 h => ?_)
  refine r_callVi0 (pc := 14) X ⟨(ltb rfl), (bad_lt hb4)⟩ rfl vy_X9_calmDown my_X9_calmDown ml_X11_126 ⟨Nat.le_of_ble_eq_true rfl, Nat.le_of_ble_eq_true rfl, Nat.le_of_ble_eq_true rfl, Nat.le_of_ble_eq_true rfl⟩ (c_X9_calmDown (ltb rfl) (bad_lt hb4) h7) (Nat.le_of_ble_eq_true rfl) dX11_acknowledge_14 ?_
  refine r_if_eq (pc := 17) X (tgt := 24) dX11_acknowledge_17 (by decide) h (fun h => ?_) (fun h => ?_)
  · refine r_iconst (pc := 24) X (v := 0) dX11_acknowledge_24 (by decide) ?_
    cases h
    exact r_iretX (pc := 25) X hr ⟨Nat.le_of_ble_eq_true rfl, Nat.le_of_ble_eq_true rfl⟩ dX11_acknowledge_25
  · refine r_iconst (pc := 20) X (v := 1) dX11_acknowledge_20 (by decide) ?_
    refine r_goto (pc := 21) X (tgt := 25) dX11_acknowledge_21 (by decide) ?_
    cases h
    exact r_iretX (pc := 25) X hr ⟨Nat.le_of_ble_eq_true rfl, Nat.le_of_ble_eq_true rfl⟩ dX11_acknowledge_25
theorem c_X11_acknowledge {G : GG} {l : Launch} {sz : Nat} (hlf : l.stackTraces = false) {x1 : Int32} {r : (Int32 ⊕ Nat)} {M M' : Mem}  (h : f_X11_acknowledge x1 M = some (r, M')) : vx_Met l yX11_acknowledge (wsO yX11_acknowledge cX11_acknowledge 2 (some .int)) (rmX 7 1) (PcX G sz [.ref (G.2.1 (9, 0, 0)), .int x1] M) (QiX G (AX G sz) r M') (XX G (AX G sz) r M') 1 6 (AX G sz) :=
  metX_of (k := 1) (own := RX11) hlf rfl (by decide +kernel) (Nat.le_of_ble_eq_true rfl) (fun p e s m args below meth c X Y hr => t_X11_acknowledge X Y hr  h)
-- ConverterScanner.requireChannel
def f_X11_requireChannel (x0 : Int32) (M : Mem) : Option ((Unit ⊕ Nat) × Mem) :=
  bnd (f_X10_allows 0 x0 M) (fun r1 M2 => if r1 = 0 then some (.inr 2, M2) else some (.inl (), M2))
set_option maxHeartbeats 4000000 in
set_option maxRecDepth 100000 in
theorem t_X11_requireChannel {G : GG} {A : Nat → Prop} {p : Program} {l : Launch} {e : Env} {s : State} {m : MethodId} {args : Array Value} {below : List Frame} {meth : Method} {c : Code} {r : (Unit ⊕ Nat)} {M' : Mem} (X : Cx G A p s m args meth c RX11 cX11_requireChannel 1) (Y : CxX G A l s c) (hr : meth.sig.returnType = none) {x0 : Int32} {M : Mem}  (h : f_X11_requireChannel x0 M = some (r, M')) : T G A p l e (rmX 6 1) s m args below meth c 1 0 0 (vx_MQ below (QvX G A r M') (XX G A r M') args s 1 6 A) 0 [(0, .int x0)] [] M := by
  unfold f_X11_requireChannel at h
  refine r_getsW (pc := 0) X 0 (by decide) wf_X11_368 dX11_requireChannel_0 ?_
  refine r_iload_n (pc := 3) X dX11_requireChannel_3 rfl ?_
  refine bndE h (fun r1 M2 h3 h => ?_)
  refine r_callWi1 (pc := 4) X (by decide) rfl vy_X10_allows my_X10_allows ml_X11_140 ⟨Nat.le_of_ble_eq_true rfl, Nat.le_of_ble_eq_true rfl, Nat.le_of_ble_eq_true rfl, Nat.le_of_ble_eq_true rfl⟩ (c_X10_allows (by decide) h3) (Nat.le_of_ble_eq_true rfl) dX11_requireChannel_4 ?_
  refine r_if_ne (pc := 7) X (tgt := 21) dX11_requireChannel_7 (by decide) h (fun h => ?_) (fun h => ?_)
  · cases h
    exact r_vretX (pc := 21) X hr ⟨Nat.le_of_ble_eq_true rfl, Nat.le_of_ble_eq_true rfl⟩ dX11_requireChannel_21
  · cases h
    exact r_throwW (pc := 10) X Y (k := 2) (ltb rfl) (List.mem_of_getElem? (i := 6) rfl) dX11_requireChannel_10 dX11_requireChannel_13 dX11_requireChannel_14 dX11_requireChannel_17 dX11_requireChannel_20 ⟨Nat.le_of_ble_eq_true rfl, Nat.le_of_ble_eq_true rfl, Nat.le_of_ble_eq_true rfl, Nat.le_of_ble_eq_true rfl⟩ ⟨Nat.le_of_ble_eq_true rfl, Nat.le_of_ble_eq_true rfl⟩
theorem c_X11_requireChannel {G : GG} {l : Launch} {sz : Nat} (hlf : l.stackTraces = false) {x0 : Int32} {r : (Unit ⊕ Nat)} {M M' : Mem}  (h : f_X11_requireChannel x0 M = some (r, M')) : vx_Met l yX11_requireChannel (wsO yX11_requireChannel cX11_requireChannel 1 none) (rmX 6 1) (PcX G sz [.int x0] M) (QvX G (AX G sz) r M') (XX G (AX G sz) r M') 1 6 (AX G sz) :=
  metX_of (k := 1) (own := RX11) hlf rfl (by decide +kernel) (Nat.le_of_ble_eq_true rfl) (fun p e s m args below meth c X Y hr => t_X11_requireChannel X Y hr  h)
-- ConverterScanner.setSignal
def f_X11_setSignal (x1 : Int32) (x2 : Int32) (x3 : Int32) (x4 : Int32) (M : Mem) : Option ((Int32 ⊕ Nat) × Mem) :=
  bndX (f_X11_requireChannel x1 M) (fun r1 M2 => bnd (f_X10_allows 13 x2 M2) (fun r4 M5 => if r4 = 0 then some (.inr 1, M5) else bnd (f_X10_allows 14 x3 M5) (fun r7 M8 => if r7 = 0 then some (.inr 1, M8) else bnd (f_X10_allows 15 x4 M8) (fun r10 M11 => if r10 = 0 then some (.inr 1, M11) else if bad x1 8 then none else nm (uI M11 (0, 1, (Int32.toNatClampNeg x1)) 2 x2) (fun M14 => nm (uI M14 (0, 1, (Int32.toNatClampNeg x1)) 3 x3) (fun M15 => nm (uI M15 (0, 1, (Int32.toNatClampNeg x1)) 4 x4) (fun M16 => bnd (f_X1_signalAt 1 (Int32.toNatClampNeg x1) (M16.1 (2, 1, 0) 15) M16) (fun r17 M18 => some (.inl r17, M18)))))))))
set_option maxHeartbeats 4000000 in
set_option maxRecDepth 100000 in
theorem t_X11_setSignal {G : GG} {A : Nat → Prop} {p : Program} {l : Launch} {e : Env} {s : State} {m : MethodId} {args : Array Value} {below : List Frame} {meth : Method} {c : Code} {r : (Int32 ⊕ Nat)} {M' : Mem} (X : Cx G A p s m args meth c RX11 cX11_setSignal 6) (Y : CxX G A l s c) (hr : meth.sig.returnType = some .int) {x1 : Int32} {x2 : Int32} {x3 : Int32} {x4 : Int32} {M : Mem}  (h : f_X11_setSignal x1 x2 x3 x4 M = some (r, M')) : T G A p l e (rmX 7 2) s m args below meth c 6 0 0 (vx_MQ below (QiX G A r M') (XX G A r M') args s 2 12 A) 0 [(0, .ref (G.2.1 (9, 0, 0))), (1, .int x1), (2, .int x2), (3, .int x3), (4, .int x4)] [] M := by
  unfold f_X11_setSignal at h
  refine r_iload_n (pc := 0) X dX11_setSignal_0 rfl ?_
  refine bndXE h (fun r1x M2 h3 h => ?_)
  refine r_callXSv1 (pc := 1) X Y sy_X11_requireChannel my_X11_requireChannel ml_X11_131 ⟨Nat.le_of_ble_eq_true rfl, Nat.le_of_ble_eq_true rfl, Nat.le_of_ble_eq_true rfl, Nat.le_of_ble_eq_true rfl⟩ (fun sz => c_X11_requireChannel Y.1  h3) h ⟨Nat.le_of_ble_eq_true rfl, Nat.le_of_ble_eq_true rfl⟩ (Nat.le_of_ble_eq_true rfl) dX11_setSignal_1 (fun r1 hvr1 h => ?_)
  refine r_getsW (pc := 4) X 13 (by decide) wf_X11_134 dX11_setSignal_4 ?_
  refine r_iload_n (pc := 7) X dX11_setSignal_7 rfl ?_
  refine bndE h (fun r4 M5 h6 h => ?_)
  refine r_callWi1 (pc := 8) X (by decide) rfl vy_X10_allows my_X10_allows ml_X11_140 ⟨Nat.le_of_ble_eq_true rfl, Nat.le_of_ble_eq_true rfl, Nat.le_of_ble_eq_true rfl, Nat.le_of_ble_eq_true rfl⟩ (c_X10_allows (by decide) h6) (Nat.le_of_ble_eq_true rfl) dX11_setSignal_8 ?_
  refine r_if_eq (pc := 11) X (tgt := 35) dX11_setSignal_11 (by decide) h (fun h => ?_) (fun h => ?_)
  · cases h
    exact r_throwS (pc := 35) X Y (k := 1) (ltb rfl) (List.mem_of_getElem? (i := 7) rfl) dX11_setSignal_35 dX11_setSignal_38 dX11_setSignal_39 dX11_setSignal_41 dX11_setSignal_44 ⟨Nat.le_of_ble_eq_true rfl, Nat.le_of_ble_eq_true rfl, Nat.le_of_ble_eq_true rfl, Nat.le_of_ble_eq_true rfl⟩ ⟨Nat.le_of_ble_eq_true rfl, Nat.le_of_ble_eq_true rfl⟩
  · refine r_getsW (pc := 14) X 14 (by decide) wf_X11_143 dX11_setSignal_14 ?_
    refine r_iload_n (pc := 17) X dX11_setSignal_17 rfl ?_
    refine bndE h (fun r7 M8 h9 h => ?_)
    refine r_callWi1 (pc := 18) X (by decide) rfl vy_X10_allows my_X10_allows ml_X11_140 ⟨Nat.le_of_ble_eq_true rfl, Nat.le_of_ble_eq_true rfl, Nat.le_of_ble_eq_true rfl, Nat.le_of_ble_eq_true rfl⟩ (c_X10_allows (by decide) h9) (Nat.le_of_ble_eq_true rfl) dX11_setSignal_18 ?_
    refine r_if_eq (pc := 21) X (tgt := 35) dX11_setSignal_21 (by decide) h (fun h => ?_) (fun h => ?_)
    · cases h
      exact r_throwS (pc := 35) X Y (k := 1) (ltb rfl) (List.mem_of_getElem? (i := 7) rfl) dX11_setSignal_35 dX11_setSignal_38 dX11_setSignal_39 dX11_setSignal_41 dX11_setSignal_44 ⟨Nat.le_of_ble_eq_true rfl, Nat.le_of_ble_eq_true rfl, Nat.le_of_ble_eq_true rfl, Nat.le_of_ble_eq_true rfl⟩ ⟨Nat.le_of_ble_eq_true rfl, Nat.le_of_ble_eq_true rfl⟩
    · refine r_getsW (pc := 24) X 15 (by decide) wf_X11_146 dX11_setSignal_24 ?_
      refine r_iload (pc := 27) X dX11_setSignal_27 rfl ?_
      refine bndE h (fun r10 M11 h12 h => ?_)
      refine r_callWi1 (pc := 29) X (by decide) rfl vy_X10_allows my_X10_allows ml_X11_140 ⟨Nat.le_of_ble_eq_true rfl, Nat.le_of_ble_eq_true rfl, Nat.le_of_ble_eq_true rfl, Nat.le_of_ble_eq_true rfl⟩ (c_X10_allows (by decide) h12) (Nat.le_of_ble_eq_true rfl) dX11_setSignal_29 ?_
      refine r_if_ne (pc := 32) X (tgt := 45) dX11_setSignal_32 (by decide) h (fun h => ?_) (fun h => ?_)
      · refine r_aload_n (pc := 45) X dX11_setSignal_45 rfl ?_
        refine r_getR (q := (2, 1, 0)) (pc := 46) X ⟨(ltb rfl), (ltb rfl)⟩ fl_X11_10 rfl dX11_setSignal_46 ?_
        refine r_getR (q := (24, 1, 0)) (pc := 49) X ⟨(ltb rfl), (ltb rfl)⟩ fl_X11_151 rfl dX11_setSignal_49 ?_
        refine r_iload_n (pc := 52) X dX11_setSignal_52 rfl ?_
        refine r_aald (pc := 53) X (t := 0) (n := 8) ⟨(ltb rfl), (ltb rfl)⟩ rfl (ltb rfl) (nlt rfl) dX11_setSignal_53 h (fun hb13 h => ?_)
        refine r_astore (pc := 54) X (by decide) dX11_setSignal_54 ?_
        refine r_aload (pc := 56) X dX11_setSignal_56 rfl ?_
        refine r_iload_n (pc := 58) X dX11_setSignal_58 rfl ?_
        refine r_putIN (pc := 59) X ⟨(ltb rfl), (bad_lt hb13)⟩ fp_X11_155 rfl dX11_setSignal_59 h (fun M14 h => ?_)
        refine r_aload (pc := 62) X dX11_setSignal_62 rfl ?_
        refine r_iload_n (pc := 64) X dX11_setSignal_64 rfl ?_
        refine r_putIN (pc := 65) X ⟨(ltb rfl), (bad_lt hb13)⟩ fp_X11_160 rfl dX11_setSignal_65 h (fun M15 h => ?_)
        refine r_aload (pc := 68) X dX11_setSignal_68 rfl ?_
        refine r_iload (pc := 70) X dX11_setSignal_70 rfl ?_
        refine r_putIN (pc := 72) X ⟨(ltb rfl), (bad_lt hb13)⟩ fp_X11_163 rfl dX11_setSignal_72 h (fun M16 h => ?_)
        refine r_aload (pc := 75) X dX11_setSignal_75 rfl ?_
        refine r_aload_n (pc := 77) X dX11_setSignal_77 rfl ?_
        refine r_getR (q := (2, 1, 0)) (pc := 78) X ⟨(ltb rfl), (ltb rfl)⟩ fl_X11_10 rfl dX11_setSignal_78 ?_
        refine r_getI (pc := 81) X ⟨(ltb rfl), (ltb rfl)⟩ fl_X11_166 rfl dX11_setSignal_81 ?_
        refine bndE h (fun r17 M18 h19 h => ?_)
        refine r_callVi1 (pc := 84) X ⟨(ltb rfl), (bad_lt hb13)⟩ rfl vy_X1_signalAt my_X1_signalAt ml_X11_169 ⟨Nat.le_of_ble_eq_true rfl, Nat.le_of_ble_eq_true rfl, Nat.le_of_ble_eq_true rfl, Nat.le_of_ble_eq_true rfl⟩ (c_X1_signalAt (ltb rfl) (bad_lt hb13) h19) (Nat.le_of_ble_eq_true rfl) dX11_setSignal_84 ?_
        cases h
        exact r_iretX (pc := 87) X hr ⟨Nat.le_of_ble_eq_true rfl, Nat.le_of_ble_eq_true rfl⟩ dX11_setSignal_87
      · cases h
        exact r_throwS (pc := 35) X Y (k := 1) (ltb rfl) (List.mem_of_getElem? (i := 7) rfl) dX11_setSignal_35 dX11_setSignal_38 dX11_setSignal_39 dX11_setSignal_41 dX11_setSignal_44 ⟨Nat.le_of_ble_eq_true rfl, Nat.le_of_ble_eq_true rfl, Nat.le_of_ble_eq_true rfl, Nat.le_of_ble_eq_true rfl⟩ ⟨Nat.le_of_ble_eq_true rfl, Nat.le_of_ble_eq_true rfl⟩
theorem c_X11_setSignal {G : GG} {l : Launch} {sz : Nat} (hlf : l.stackTraces = false) {x1 : Int32} {x2 : Int32} {x3 : Int32} {x4 : Int32} {r : (Int32 ⊕ Nat)} {M M' : Mem}  (h : f_X11_setSignal x1 x2 x3 x4 M = some (r, M')) : vx_Met l yX11_setSignal (wsO yX11_setSignal cX11_setSignal 6 (some .int)) (rmX 7 2) (PcX G sz [.ref (G.2.1 (9, 0, 0)), .int x1, .int x2, .int x3, .int x4] M) (QiX G (AX G sz) r M') (XX G (AX G sz) r M') 2 12 (AX G sz) :=
  metX_of (k := 2) (own := RX11) hlf rfl (by decide +kernel) (Nat.le_of_ble_eq_true rfl) (fun p e s m args below meth c X Y hr => t_X11_setSignal X Y hr  h)
-- ConverterScanner.setSample
def f_X11_setSample (x1 : Int32) (x2 : Int32) (M : Mem) : Option ((Int32 ⊕ Nat) × Mem) :=
  bndX (f_X11_requireChannel x1 M) (fun r1 M2 => bnd (f_X10_allows 11 x2 M2) (fun r4 M5 => if r4 = 0 then some (.inr 1, M5) else if bad x1 8 then none else nm (M5.1 (0, 1, (Int32.toNatClampNeg x1)) 0) (fun e8 => if bad x1 8 then none else nm (uI M5 (0, 1, (Int32.toNatClampNeg x1)) 0 x2) (fun M10 => some (.inl e8, M10)))))
set_option maxHeartbeats 4000000 in
set_option maxRecDepth 100000 in
theorem t_X11_setSample {G : GG} {A : Nat → Prop} {p : Program} {l : Launch} {e : Env} {s : State} {m : MethodId} {args : Array Value} {below : List Frame} {meth : Method} {c : Code} {r : (Int32 ⊕ Nat)} {M' : Mem} (X : Cx G A p s m args meth c RX11 cX11_setSample 4) (Y : CxX G A l s c) (hr : meth.sig.returnType = some .int) {x1 : Int32} {x2 : Int32} {M : Mem}  (h : f_X11_setSample x1 x2 M = some (r, M')) : T G A p l e (rmX 7 2) s m args below meth c 4 0 0 (vx_MQ below (QiX G A r M') (XX G A r M') args s 2 12 A) 0 [(0, .ref (G.2.1 (9, 0, 0))), (1, .int x1), (2, .int x2)] [] M := by
  unfold f_X11_setSample at h
  refine r_iload_n (pc := 0) X dX11_setSample_0 rfl ?_
  refine bndXE h (fun r1x M2 h3 h => ?_)
  refine r_callXSv1 (pc := 1) X Y sy_X11_requireChannel my_X11_requireChannel ml_X11_131 ⟨Nat.le_of_ble_eq_true rfl, Nat.le_of_ble_eq_true rfl, Nat.le_of_ble_eq_true rfl, Nat.le_of_ble_eq_true rfl⟩ (fun sz => c_X11_requireChannel Y.1  h3) h ⟨Nat.le_of_ble_eq_true rfl, Nat.le_of_ble_eq_true rfl⟩ (Nat.le_of_ble_eq_true rfl) dX11_setSample_1 (fun r1 hvr1 h => ?_)
  refine r_getsW (pc := 4) X 11 (by decide) wf_X11_172 dX11_setSample_4 ?_
  refine r_iload_n (pc := 7) X dX11_setSample_7 rfl ?_
  refine bndE h (fun r4 M5 h6 h => ?_)
  refine r_callWi1 (pc := 8) X (by decide) rfl vy_X10_allows my_X10_allows ml_X11_140 ⟨Nat.le_of_ble_eq_true rfl, Nat.le_of_ble_eq_true rfl, Nat.le_of_ble_eq_true rfl, Nat.le_of_ble_eq_true rfl⟩ (c_X10_allows (by decide) h6) (Nat.le_of_ble_eq_true rfl) dX11_setSample_8 ?_
  refine r_if_ne (pc := 11) X (tgt := 24) dX11_setSample_11 (by decide) h (fun h => ?_) (fun h => ?_)
  · refine r_aload_n (pc := 24) X dX11_setSample_24 rfl ?_
    refine r_getR (q := (2, 1, 0)) (pc := 25) X ⟨(ltb rfl), (ltb rfl)⟩ fl_X11_10 rfl dX11_setSample_25 ?_
    refine r_getR (q := (24, 1, 0)) (pc := 28) X ⟨(ltb rfl), (ltb rfl)⟩ fl_X11_151 rfl dX11_setSample_28 ?_
    refine r_iload_n (pc := 31) X dX11_setSample_31 rfl ?_
    refine r_aald (pc := 32) X (t := 0) (n := 8) ⟨(ltb rfl), (ltb rfl)⟩ rfl (ltb rfl) (nlt rfl) dX11_setSample_32 h (fun hb7 h => ?_)
    refine r_getI (pc := 33) X ⟨(ltb rfl), (bad_lt hb7)⟩ fl_X11_177 rfl dX11_setSample_33 ?_
    refine r_istore_nN (pc := 36) X (by decide) dX11_setSample_36 h (fun e8 h => ?_)
    refine r_aload_n (pc := 37) X dX11_setSample_37 rfl ?_
    refine r_getR (q := (2, 1, 0)) (pc := 38) X ⟨(ltb rfl), (ltb rfl)⟩ fl_X11_10 rfl dX11_setSample_38 ?_
    refine r_getR (q := (24, 1, 0)) (pc := 41) X ⟨(ltb rfl), (ltb rfl)⟩ fl_X11_151 rfl dX11_setSample_41 ?_
    refine r_iload_n (pc := 44) X dX11_setSample_44 rfl ?_
    refine r_aald (pc := 45) X (t := 0) (n := 8) ⟨(ltb rfl), (ltb rfl)⟩ rfl (ltb rfl) (nlt rfl) dX11_setSample_45 h (fun hb9 h => ?_)
    refine r_iload_n (pc := 46) X dX11_setSample_46 rfl ?_
    refine r_putIN (pc := 47) X ⟨(ltb rfl), (bad_lt hb9)⟩ fp_X11_177 rfl dX11_setSample_47 h (fun M10 h => ?_)
    refine r_iload_n (pc := 50) X dX11_setSample_50 rfl ?_
    cases h
    exact r_iretX (pc := 51) X hr ⟨Nat.le_of_ble_eq_true rfl, Nat.le_of_ble_eq_true rfl⟩ dX11_setSample_51
  · cases h
    exact r_throwS (pc := 14) X Y (k := 1) (ltb rfl) (List.mem_of_getElem? (i := 8) rfl) dX11_setSample_14 dX11_setSample_17 dX11_setSample_18 dX11_setSample_20 dX11_setSample_23 ⟨Nat.le_of_ble_eq_true rfl, Nat.le_of_ble_eq_true rfl, Nat.le_of_ble_eq_true rfl, Nat.le_of_ble_eq_true rfl⟩ ⟨Nat.le_of_ble_eq_true rfl, Nat.le_of_ble_eq_true rfl⟩
theorem c_X11_setSample {G : GG} {l : Launch} {sz : Nat} (hlf : l.stackTraces = false) {x1 : Int32} {x2 : Int32} {r : (Int32 ⊕ Nat)} {M M' : Mem}  (h : f_X11_setSample x1 x2 M = some (r, M')) : vx_Met l yX11_setSample (wsO yX11_setSample cX11_setSample 4 (some .int)) (rmX 7 2) (PcX G sz [.ref (G.2.1 (9, 0, 0)), .int x1, .int x2] M) (QiX G (AX G sz) r M') (XX G (AX G sz) r M') 2 12 (AX G sz) :=
  metX_of (k := 2) (own := RX11) hlf rfl (by decide +kernel) (Nat.le_of_ble_eq_true rfl) (fun p e s m args below meth c X Y hr => t_X11_setSample X Y hr  h)
-- ConverterScanner.setWindow
def f_X11_setWindow (x1 : Int32) (x2 : Int32) (x3 : Int32) (M : Mem) : Option ((Int32 ⊕ Nat) × Mem) :=
  bndX (f_X11_requireWindow x1 M) (fun r1 M2 => if x2 < 0 then some (.inr 1, M2) else if x3 < x2 then some (.inr 1, M2) else if x3 ≤ 65535 then if bad x1 3 then none else nm (uI M2 (8, 1, (Int32.toNatClampNeg x1)) 1 x2) (fun M5 => nm (uI M5 (8, 1, (Int32.toNatClampNeg x1)) 2 x3) (fun M6 => if (M6.1 (8, 1, (Int32.toNatClampNeg x1)) 6) = 0 then some (.inl 0, M6) else some (.inl 1, M6))) else some (.inr 1, M2))
set_option maxHeartbeats 4000000 in
set_option maxRecDepth 100000 in
theorem t_X11_setWindow {G : GG} {A : Nat → Prop} {p : Program} {l : Launch} {e : Env} {s : State} {m : MethodId} {args : Array Value} {below : List Frame} {meth : Method} {c : Code} {r : (Int32 ⊕ Nat)} {M' : Mem} (X : Cx G A p s m args meth c RX11 cX11_setWindow 5) (Y : CxX G A l s c) (hr : meth.sig.returnType = some .int) {x1 : Int32} {x2 : Int32} {x3 : Int32} {M : Mem}  (h : f_X11_setWindow x1 x2 x3 M = some (r, M')) : T G A p l e (rmX 7 2) s m args below meth c 5 0 0 (vx_MQ below (QiX G A r M') (XX G A r M') args s 2 12 A) 0 [(0, .ref (G.2.1 (9, 0, 0))), (1, .int x1), (2, .int x2), (3, .int x3)] [] M := by
  unfold f_X11_setWindow at h
  refine r_aload_n (pc := 0) X dX11_setWindow_0 rfl ?_
  refine r_iload_n (pc := 1) X dX11_setWindow_1 rfl ?_
  refine bndXE h (fun r1x M2 h3 h => ?_)
  refine r_callXVv1 (pc := 2) X Y ⟨(ltb rfl), (ltb rfl)⟩ rfl vy_X11_requireWindow my_X11_requireWindow ml_X11_119 ⟨Nat.le_of_ble_eq_true rfl, Nat.le_of_ble_eq_true rfl, Nat.le_of_ble_eq_true rfl, Nat.le_of_ble_eq_true rfl⟩ (fun sz => c_X11_requireWindow Y.1  h3) h ⟨Nat.le_of_ble_eq_true rfl, Nat.le_of_ble_eq_true rfl⟩ (Nat.le_of_ble_eq_true rfl) dX11_setWindow_2 (fun r1 hvr1 h => ?_)
  refine r_iload_n (pc := 5) X dX11_setWindow_5 rfl ?_
  refine r_if_lt (pc := 6) X (tgt := 20) dX11_setWindow_6 (by decide) h (fun h => ?_) (fun h => ?_)
  · cases h
    exact r_throwS (pc := 20) X Y (k := 1) (ltb rfl) (List.mem_of_getElem? (i := 9) rfl) dX11_setWindow_20 dX11_setWindow_23 dX11_setWindow_24 dX11_setWindow_26 dX11_setWindow_29 ⟨Nat.le_of_ble_eq_true rfl, Nat.le_of_ble_eq_true rfl, Nat.le_of_ble_eq_true rfl, Nat.le_of_ble_eq_true rfl⟩ ⟨Nat.le_of_ble_eq_true rfl, Nat.le_of_ble_eq_true rfl⟩
  · refine r_iload_n (pc := 9) X dX11_setWindow_9 rfl ?_
    refine r_iload_n (pc := 10) X dX11_setWindow_10 rfl ?_
    refine r_icmp_lt (pc := 11) X (tgt := 20) dX11_setWindow_11 (by decide) h (fun h => ?_) (fun h => ?_)
    · cases h
      exact r_throwS (pc := 20) X Y (k := 1) (ltb rfl) (List.mem_of_getElem? (i := 9) rfl) dX11_setWindow_20 dX11_setWindow_23 dX11_setWindow_24 dX11_setWindow_26 dX11_setWindow_29 ⟨Nat.le_of_ble_eq_true rfl, Nat.le_of_ble_eq_true rfl, Nat.le_of_ble_eq_true rfl, Nat.le_of_ble_eq_true rfl⟩ ⟨Nat.le_of_ble_eq_true rfl, Nat.le_of_ble_eq_true rfl⟩
    · refine r_iload_n (pc := 14) X dX11_setWindow_14 rfl ?_
      refine r_ldc (pc := 15) X k_X11_180 dX11_setWindow_15 ?_
      refine r_icmp_le (pc := 17) X (tgt := 30) dX11_setWindow_17 (by decide) h (fun h => ?_) (fun h => ?_)
      · refine r_aload_n (pc := 30) X dX11_setWindow_30 rfl ?_
        refine r_getR (q := (2, 1, 0)) (pc := 31) X ⟨(ltb rfl), (ltb rfl)⟩ fl_X11_10 rfl dX11_setWindow_31 ?_
        refine r_getR (q := (26, 1, 0)) (pc := 34) X ⟨(ltb rfl), (ltb rfl)⟩ fl_X11_122 rfl dX11_setWindow_34 ?_
        refine r_iload_n (pc := 37) X dX11_setWindow_37 rfl ?_
        refine r_aald (pc := 38) X (t := 2) (n := 3) ⟨(ltb rfl), (ltb rfl)⟩ rfl (ltb rfl) (nlt rfl) dX11_setWindow_38 h (fun hb4 h => ?_)
        refine r_astore (pc := 39) X (by decide) dX11_setWindow_39 ?_
        refine r_aload (pc := 41) X dX11_setWindow_41 rfl ?_
        refine r_iload_n (pc := 43) X dX11_setWindow_43 rfl ?_
        refine r_putIN (pc := 44) X ⟨(ltb rfl), (bad_lt hb4)⟩ fp_X11_183 rfl dX11_setWindow_44 h (fun M5 h => ?_)
        refine r_aload (pc := 47) X dX11_setWindow_47 rfl ?_
        refine r_iload_n (pc := 49) X dX11_setWindow_49 rfl ?_
        refine r_putIN (pc := 50) X ⟨(ltb rfl), (bad_lt hb4)⟩ fp_X11_186 rfl dX11_setWindow_50 h (fun M6 h => ?_)
        refine r_aload (pc := 53) X dX11_setWindow_53 rfl ?_
        refine r_getI (pc := 55) X ⟨(ltb rfl), (bad_lt hb4)⟩ fl_X11_189 rfl dX11_setWindow_55 ?_
        refine r_if_eq (pc := 58) X (tgt := 65) dX11_setWindow_58 (by decide) h (fun h => ?_) (fun h => ?_)
        · refine r_iconst (pc := 65) X (v := 0) dX11_setWindow_65 (by decide) ?_
          cases h
          exact r_iretX (pc := 66) X hr ⟨Nat.le_of_ble_eq_true rfl, Nat.le_of_ble_eq_true rfl⟩ dX11_setWindow_66
        · refine r_iconst (pc := 61) X (v := 1) dX11_setWindow_61 (by decide) ?_
          refine r_goto (pc := 62) X (tgt := 66) dX11_setWindow_62 (by decide) ?_
          cases h
          exact r_iretX (pc := 66) X hr ⟨Nat.le_of_ble_eq_true rfl, Nat.le_of_ble_eq_true rfl⟩ dX11_setWindow_66
      · cases h
        exact r_throwS (pc := 20) X Y (k := 1) (ltb rfl) (List.mem_of_getElem? (i := 9) rfl) dX11_setWindow_20 dX11_setWindow_23 dX11_setWindow_24 dX11_setWindow_26 dX11_setWindow_29 ⟨Nat.le_of_ble_eq_true rfl, Nat.le_of_ble_eq_true rfl, Nat.le_of_ble_eq_true rfl, Nat.le_of_ble_eq_true rfl⟩ ⟨Nat.le_of_ble_eq_true rfl, Nat.le_of_ble_eq_true rfl⟩
theorem c_X11_setWindow {G : GG} {l : Launch} {sz : Nat} (hlf : l.stackTraces = false) {x1 : Int32} {x2 : Int32} {x3 : Int32} {r : (Int32 ⊕ Nat)} {M M' : Mem}  (h : f_X11_setWindow x1 x2 x3 M = some (r, M')) : vx_Met l yX11_setWindow (wsO yX11_setWindow cX11_setWindow 5 (some .int)) (rmX 7 2) (PcX G sz [.ref (G.2.1 (9, 0, 0)), .int x1, .int x2, .int x3] M) (QiX G (AX G sz) r M') (XX G (AX G sz) r M') 2 12 (AX G sz) :=
  metX_of (k := 2) (own := RX11) hlf rfl (by decide +kernel) (Nat.le_of_ble_eq_true rfl) (fun p e s m args below meth c X Y hr => t_X11_setWindow X Y hr  h)
-- ConverterScanner.requirePace
def f_X11_requirePace (x0 : Int32) (M : Mem) : Option ((Unit ⊕ Nat) × Mem) :=
  bnd (f_X10_allows 10 x0 M) (fun r1 M2 => if r1 = 0 then some (.inr 1, M2) else some (.inl (), M2))
set_option maxHeartbeats 4000000 in
set_option maxRecDepth 100000 in
theorem t_X11_requirePace {G : GG} {A : Nat → Prop} {p : Program} {l : Launch} {e : Env} {s : State} {m : MethodId} {args : Array Value} {below : List Frame} {meth : Method} {c : Code} {r : (Unit ⊕ Nat)} {M' : Mem} (X : Cx G A p s m args meth c RX11 cX11_requirePace 1) (Y : CxX G A l s c) (hr : meth.sig.returnType = none) {x0 : Int32} {M : Mem}  (h : f_X11_requirePace x0 M = some (r, M')) : T G A p l e (rmX 6 1) s m args below meth c 1 0 0 (vx_MQ below (QvX G A r M') (XX G A r M') args s 1 6 A) 0 [(0, .int x0)] [] M := by
  unfold f_X11_requirePace at h
  refine r_getsW (pc := 0) X 10 (by decide) wf_X11_390 dX11_requirePace_0 ?_
  refine r_iload_n (pc := 3) X dX11_requirePace_3 rfl ?_
  refine bndE h (fun r1 M2 h3 h => ?_)
  refine r_callWi1 (pc := 4) X (by decide) rfl vy_X10_allows my_X10_allows ml_X11_140 ⟨Nat.le_of_ble_eq_true rfl, Nat.le_of_ble_eq_true rfl, Nat.le_of_ble_eq_true rfl, Nat.le_of_ble_eq_true rfl⟩ (c_X10_allows (by decide) h3) (Nat.le_of_ble_eq_true rfl) dX11_requirePace_4 ?_
  refine r_if_ne (pc := 7) X (tgt := 21) dX11_requirePace_7 (by decide) h (fun h => ?_) (fun h => ?_)
  · cases h
    exact r_vretX (pc := 21) X hr ⟨Nat.le_of_ble_eq_true rfl, Nat.le_of_ble_eq_true rfl⟩ dX11_requirePace_21
  · cases h
    exact r_throwW (pc := 10) X Y (k := 1) (ltb rfl) (List.mem_of_getElem? (i := 10) rfl) dX11_requirePace_10 dX11_requirePace_13 dX11_requirePace_14 dX11_requirePace_17 dX11_requirePace_20 ⟨Nat.le_of_ble_eq_true rfl, Nat.le_of_ble_eq_true rfl, Nat.le_of_ble_eq_true rfl, Nat.le_of_ble_eq_true rfl⟩ ⟨Nat.le_of_ble_eq_true rfl, Nat.le_of_ble_eq_true rfl⟩
theorem c_X11_requirePace {G : GG} {l : Launch} {sz : Nat} (hlf : l.stackTraces = false) {x0 : Int32} {r : (Unit ⊕ Nat)} {M M' : Mem}  (h : f_X11_requirePace x0 M = some (r, M')) : vx_Met l yX11_requirePace (wsO yX11_requirePace cX11_requirePace 1 none) (rmX 6 1) (PcX G sz [.int x0] M) (QvX G (AX G sz) r M') (XX G (AX G sz) r M') 1 6 (AX G sz) :=
  metX_of (k := 1) (own := RX11) hlf rfl (by decide +kernel) (Nat.le_of_ble_eq_true rfl) (fun p e s m args below meth c X Y hr => t_X11_requirePace X Y hr  h)
-- ConverterScanner.setPace
def f_X11_setPace (x1 : Int32) (M : Mem) : Option ((Int32 ⊕ Nat) × Mem) :=
  bndX (f_X11_requirePace x1 M) (fun r1 M2 => nm (M2.1 (2, 1, 0) 14) (fun e4 => nm (uI M2 (2, 1, 0) 14 x1) (fun M5 => some (.inl e4, M5))))
set_option maxHeartbeats 4000000 in
set_option maxRecDepth 100000 in
theorem t_X11_setPace {G : GG} {A : Nat → Prop} {p : Program} {l : Launch} {e : Env} {s : State} {m : MethodId} {args : Array Value} {below : List Frame} {meth : Method} {c : Code} {r : (Int32 ⊕ Nat)} {M' : Mem} (X : Cx G A p s m args meth c RX11 cX11_setPace 3) (Y : CxX G A l s c) (hr : meth.sig.returnType = some .int) {x1 : Int32} {M : Mem}  (h : f_X11_setPace x1 M = some (r, M')) : T G A p l e (rmX 7 1) s m args below meth c 3 0 0 (vx_MQ below (QiX G A r M') (XX G A r M') args s 1 6 A) 0 [(0, .ref (G.2.1 (9, 0, 0))), (1, .int x1)] [] M := by
  unfold f_X11_setPace at h
  refine r_iload_n (pc := 0) X dX11_setPace_0 rfl ?_
  refine bndXE h (fun r1x M2 h3 h => ?_)
  refine r_callXSv1 (pc := 1) X Y sy_X11_requirePace my_X11_requirePace ml_X11_193 ⟨Nat.le_of_ble_eq_true rfl, Nat.le_of_ble_eq_true rfl, Nat.le_of_ble_eq_true rfl, Nat.le_of_ble_eq_true rfl⟩ (fun sz => c_X11_requirePace Y.1  h3) h ⟨Nat.le_of_ble_eq_true rfl, Nat.le_of_ble_eq_true rfl⟩ (Nat.le_of_ble_eq_true rfl) dX11_setPace_1 (fun r1 hvr1 h => ?_)
  refine r_aload_n (pc := 4) X dX11_setPace_4 rfl ?_
  refine r_getR (q := (2, 1, 0)) (pc := 5) X ⟨(ltb rfl), (ltb rfl)⟩ fl_X11_10 rfl dX11_setPace_5 ?_
  refine r_getI (pc := 8) X ⟨(ltb rfl), (ltb rfl)⟩ fl_X11_196 rfl dX11_setPace_8 ?_
  refine r_istore_nN (pc := 11) X (by decide) dX11_setPace_11 h (fun e4 h => ?_)
  refine r_aload_n (pc := 12) X dX11_setPace_12 rfl ?_
  refine r_getR (q := (2, 1, 0)) (pc := 13) X ⟨(ltb rfl), (ltb rfl)⟩ fl_X11_10 rfl dX11_setPace_13 ?_
  refine r_iload_n (pc := 16) X dX11_setPace_16 rfl ?_
  refine r_putIN (pc := 17) X ⟨(ltb rfl), (ltb rfl)⟩ fp_X11_196 rfl dX11_setPace_17 h (fun M5 h => ?_)
  refine r_iload_n (pc := 20) X dX11_setPace_20 rfl ?_
  cases h
  exact r_iretX (pc := 21) X hr ⟨Nat.le_of_ble_eq_true rfl, Nat.le_of_ble_eq_true rfl⟩ dX11_setPace_21
theorem c_X11_setPace {G : GG} {l : Launch} {sz : Nat} (hlf : l.stackTraces = false) {x1 : Int32} {r : (Int32 ⊕ Nat)} {M M' : Mem}  (h : f_X11_setPace x1 M = some (r, M')) : vx_Met l yX11_setPace (wsO yX11_setPace cX11_setPace 3 (some .int)) (rmX 7 1) (PcX G sz [.ref (G.2.1 (9, 0, 0)), .int x1] M) (QiX G (AX G sz) r M') (XX G (AX G sz) r M') 1 6 (AX G sz) :=
  metX_of (k := 1) (own := RX11) hlf rfl (by decide +kernel) (Nat.le_of_ble_eq_true rfl) (fun p e s m args below meth c X Y hr => t_X11_setPace X Y hr  h)
-- ConverterScanner.requireWhat
def f_X11_requireWhat (x0 : Int32) (x1 : Int32) (M : Mem) : Option ((Unit ⊕ Nat) × Mem) :=
  if x0 < 0 then some (.inr 1, M) else if x0 ≤ x1 then some (.inl (), M) else some (.inr 1, M)
set_option maxHeartbeats 4000000 in
set_option maxRecDepth 100000 in
theorem t_X11_requireWhat {G : GG} {A : Nat → Prop} {p : Program} {l : Launch} {e : Env} {s : State} {m : MethodId} {args : Array Value} {below : List Frame} {meth : Method} {c : Code} {r : (Unit ⊕ Nat)} {M' : Mem} (X : Cx G A p s m args meth c RX11 cX11_requireWhat 2) (Y : CxX G A l s c) (hr : meth.sig.returnType = none) {x0 : Int32} {x1 : Int32} {M : Mem}  (h : f_X11_requireWhat x0 x1 M = some (r, M')) : T G A p l e (rmX 6 1) s m args below meth c 2 0 0 (vx_MQ below (QvX G A r M') (XX G A r M') args s 1 6 A) 0 [(0, .int x0), (1, .int x1)] [] M := by
  unfold f_X11_requireWhat at h
  refine r_iload_n (pc := 0) X dX11_requireWhat_0 rfl ?_
  refine r_if_lt (pc := 1) X (tgt := 9) dX11_requireWhat_1 (by decide) h (fun h => ?_) (fun h => ?_)
  · cases h
    exact r_throwW (pc := 9) X Y (k := 1) (ltb rfl) (List.mem_of_getElem? (i := 11) rfl) dX11_requireWhat_9 dX11_requireWhat_12 dX11_requireWhat_13 dX11_requireWhat_16 dX11_requireWhat_19 ⟨Nat.le_of_ble_eq_true rfl, Nat.le_of_ble_eq_true rfl, Nat.le_of_ble_eq_true rfl, Nat.le_of_ble_eq_true rfl⟩ ⟨Nat.le_of_ble_eq_true rfl, Nat.le_of_ble_eq_true rfl⟩
  · refine r_iload_n (pc := 4) X dX11_requireWhat_4 rfl ?_
    refine r_iload_n (pc := 5) X dX11_requireWhat_5 rfl ?_
    refine r_icmp_le (pc := 6) X (tgt := 20) dX11_requireWhat_6 (by decide) h (fun h => ?_) (fun h => ?_)
    · cases h
      exact r_vretX (pc := 20) X hr ⟨Nat.le_of_ble_eq_true rfl, Nat.le_of_ble_eq_true rfl⟩ dX11_requireWhat_20
    · cases h
      exact r_throwW (pc := 9) X Y (k := 1) (ltb rfl) (List.mem_of_getElem? (i := 11) rfl) dX11_requireWhat_9 dX11_requireWhat_12 dX11_requireWhat_13 dX11_requireWhat_16 dX11_requireWhat_19 ⟨Nat.le_of_ble_eq_true rfl, Nat.le_of_ble_eq_true rfl, Nat.le_of_ble_eq_true rfl, Nat.le_of_ble_eq_true rfl⟩ ⟨Nat.le_of_ble_eq_true rfl, Nat.le_of_ble_eq_true rfl⟩
theorem c_X11_requireWhat {G : GG} {l : Launch} {sz : Nat} (hlf : l.stackTraces = false) {x0 : Int32} {x1 : Int32} {r : (Unit ⊕ Nat)} {M M' : Mem}  (h : f_X11_requireWhat x0 x1 M = some (r, M')) : vx_Met l yX11_requireWhat (wsO yX11_requireWhat cX11_requireWhat 2 none) (rmX 6 1) (PcX G sz [.int x0, .int x1] M) (QvX G (AX G sz) r M') (XX G (AX G sz) r M') 1 6 (AX G sz) :=
  metX_of (k := 1) (own := RX11) hlf rfl (by decide +kernel) (Nat.le_of_ble_eq_true rfl) (fun p e s m args below meth c X Y hr => t_X11_requireWhat X Y hr  h)
-- ConverterScanner.state
def f_X11_state_26 (x1 : Int32) (c2 : Nat) (xs0 : Int32) (M : Mem) : Option ((Int32 ⊕ Nat) × Mem) :=
  if x1 = 0 then some (.inl (M.1 (2, 1, 0) 15), M) else if x1 = 1 then some (.inl (M.1 (1, c2, 0) 0), M) else if x1 = 2 then if xs0 = 0 then some (.inl (-1), M) else some (.inl (M.1 (1, c2, 0) 1), M) else if x1 = 3 then if xs0 = 0 then some (.inl (-1), M) else some (.inl (M.1 (1, c2, 0) 2), M) else if x1 = 4 then some (.inl (M.1 (1, c2, 0) 4), M) else if x1 = 5 then some (.inl (M.1 (1, c2, 0) 5), M) else if x1 = 6 then some (.inl (M.1 (4, 1, 0) 6), M) else if x1 = 7 then some (.inl (M.1 (2, 1, 0) 16), M) else if x1 = 8 then some (.inl (M.1 (2, 1, 0) 14), M) else if x1 = 9 then some (.inl (M.1 (4, 1, 0) 5), M) else some (.inl (M.1 (4, 1, 0) 2), M)
set_option maxHeartbeats 4000000 in
set_option maxRecDepth 100000 in
theorem t_X11_state_26 {G : GG} {A : Nat → Prop} {p : Program} {l : Launch} {e : Env} {s : State} {m : MethodId} {args : Array Value} {below : List Frame} {meth : Method} {c : Code} {r : (Int32 ⊕ Nat)} {M' : Mem} (X : Cx G A p s m args meth c RX11 cX11_state 4) (Y : CxX G A l s c) (hr : meth.sig.returnType = some .int) {x1 : Int32} {c2 : Nat} {xs0 : Int32} {M : Mem} (hc2 : c2 < 6) (h : f_X11_state_26 x1 c2 xs0 M = some (r, M')) : T G A p l e (rmX 7 1) s m args below meth c 4 1 6 (vx_MQ below (QiX G A r M') (XX G A r M') args s 1 6 A) 26 [(0, .ref (G.2.1 (9, 0, 0))), (1, .int x1), (2, .ref (G.2.1 (1, c2, 0)))] [.int xs0] M := by
  unfold f_X11_state_26 at h
  refine r_istore_n (pc := 26) X (by decide) dX11_state_26 ?_
  refine r_iload_n (pc := 27) X dX11_state_27 rfl ?_
  refine swc h (fun hq h => ?_) (fun hs0 h => ?_)
  · refine r_swInE (pc := 28) X hq (off := 56) (tgt := 84) dX11_state_28 (by decide) (by decide) (by decide) (by decide) ?_
    refine r_aload_n (pc := 84) X dX11_state_84 rfl ?_
    refine r_getR (q := (2, 1, 0)) (pc := 85) X ⟨(ltb rfl), (ltb rfl)⟩ fl_X11_10 rfl dX11_state_85 ?_
    refine r_getI (pc := 88) X ⟨(ltb rfl), (ltb rfl)⟩ fl_X11_166 rfl dX11_state_88 ?_
    cases h
    exact r_iretX (pc := 91) X hr ⟨Nat.le_of_ble_eq_true rfl, Nat.le_of_ble_eq_true rfl⟩ dX11_state_91
  refine swc h (fun hq h => ?_) (fun hs1 h => ?_)
  · refine r_swInE (pc := 28) X hq (off := 64) (tgt := 92) dX11_state_28 (by decide) (by decide) (by decide) (by decide) ?_
    refine r_aload_n (pc := 92) X dX11_state_92 rfl ?_
    refine r_getI (pc := 93) X ⟨hc2, (ltb rfl)⟩ fl_X11_206 rfl dX11_state_93 ?_
    cases h
    exact r_iretX (pc := 96) X hr ⟨Nat.le_of_ble_eq_true rfl, Nat.le_of_ble_eq_true rfl⟩ dX11_state_96
  refine swc h (fun hq h => ?_) (fun hs2 h => ?_)
  · refine r_swInE (pc := 28) X hq (off := 69) (tgt := 97) dX11_state_28 (by decide) (by decide) (by decide) (by decide) ?_
    refine r_iload_n (pc := 97) X dX11_state_97 rfl ?_
    refine r_if_eq (pc := 98) X (tgt := 108) dX11_state_98 (by decide) h (fun h => ?_) (fun h => ?_)
    · refine r_iconst (pc := 108) X (v := (-1)) dX11_state_108 (by decide) ?_
      cases h
      exact r_iretX (pc := 109) X hr ⟨Nat.le_of_ble_eq_true rfl, Nat.le_of_ble_eq_true rfl⟩ dX11_state_109
    · refine r_aload_n (pc := 101) X dX11_state_101 rfl ?_
      refine r_getI (pc := 102) X ⟨hc2, (ltb rfl)⟩ fl_X11_211 rfl dX11_state_102 ?_
      refine r_goto (pc := 105) X (tgt := 109) dX11_state_105 (by decide) ?_
      cases h
      exact r_iretX (pc := 109) X hr ⟨Nat.le_of_ble_eq_true rfl, Nat.le_of_ble_eq_true rfl⟩ dX11_state_109
  refine swc h (fun hq h => ?_) (fun hs3 h => ?_)
  · refine r_swInE (pc := 28) X hq (off := 82) (tgt := 110) dX11_state_28 (by decide) (by decide) (by decide) (by decide) ?_
    refine r_iload_n (pc := 110) X dX11_state_110 rfl ?_
    refine r_if_eq (pc := 111) X (tgt := 121) dX11_state_111 (by decide) h (fun h => ?_) (fun h => ?_)
    · refine r_iconst (pc := 121) X (v := (-1)) dX11_state_121 (by decide) ?_
      cases h
      exact r_iretX (pc := 122) X hr ⟨Nat.le_of_ble_eq_true rfl, Nat.le_of_ble_eq_true rfl⟩ dX11_state_122
    · refine r_aload_n (pc := 114) X dX11_state_114 rfl ?_
      refine r_getI (pc := 115) X ⟨hc2, (ltb rfl)⟩ fl_X11_214 rfl dX11_state_115 ?_
      refine r_goto (pc := 118) X (tgt := 122) dX11_state_118 (by decide) ?_
      cases h
      exact r_iretX (pc := 122) X hr ⟨Nat.le_of_ble_eq_true rfl, Nat.le_of_ble_eq_true rfl⟩ dX11_state_122
  refine swc h (fun hq h => ?_) (fun hs4 h => ?_)
  · refine r_swInE (pc := 28) X hq (off := 95) (tgt := 123) dX11_state_28 (by decide) (by decide) (by decide) (by decide) ?_
    refine r_aload_n (pc := 123) X dX11_state_123 rfl ?_
    refine r_getI (pc := 124) X ⟨hc2, (ltb rfl)⟩ fl_X11_217 rfl dX11_state_124 ?_
    cases h
    exact r_iretX (pc := 127) X hr ⟨Nat.le_of_ble_eq_true rfl, Nat.le_of_ble_eq_true rfl⟩ dX11_state_127
  refine swc h (fun hq h => ?_) (fun hs5 h => ?_)
  · refine r_swInE (pc := 28) X hq (off := 100) (tgt := 128) dX11_state_28 (by decide) (by decide) (by decide) (by decide) ?_
    refine r_aload_n (pc := 128) X dX11_state_128 rfl ?_
    refine r_getI (pc := 129) X ⟨hc2, (ltb rfl)⟩ fl_X11_220 rfl dX11_state_129 ?_
    cases h
    exact r_iretX (pc := 132) X hr ⟨Nat.le_of_ble_eq_true rfl, Nat.le_of_ble_eq_true rfl⟩ dX11_state_132
  refine swc h (fun hq h => ?_) (fun hs6 h => ?_)
  · refine r_swInE (pc := 28) X hq (off := 105) (tgt := 133) dX11_state_28 (by decide) (by decide) (by decide) (by decide) ?_
    refine r_aload_n (pc := 133) X dX11_state_133 rfl ?_
    refine r_getR (q := (2, 1, 0)) (pc := 134) X ⟨(ltb rfl), (ltb rfl)⟩ fl_X11_10 rfl dX11_state_134 ?_
    refine r_getR (q := (4, 1, 0)) (pc := 137) X ⟨(ltb rfl), (ltb rfl)⟩ fl_X11_98 rfl dX11_state_137 ?_
    refine r_getI (pc := 140) X ⟨(ltb rfl), (ltb rfl)⟩ fl_X11_223 rfl dX11_state_140 ?_
    cases h
    exact r_iretX (pc := 143) X hr ⟨Nat.le_of_ble_eq_true rfl, Nat.le_of_ble_eq_true rfl⟩ dX11_state_143
  refine swc h (fun hq h => ?_) (fun hs7 h => ?_)
  · refine r_swInE (pc := 28) X hq (off := 116) (tgt := 144) dX11_state_28 (by decide) (by decide) (by decide) (by decide) ?_
    refine r_aload_n (pc := 144) X dX11_state_144 rfl ?_
    refine r_getR (q := (2, 1, 0)) (pc := 145) X ⟨(ltb rfl), (ltb rfl)⟩ fl_X11_10 rfl dX11_state_145 ?_
    refine r_getI (pc := 148) X ⟨(ltb rfl), (ltb rfl)⟩ fl_X11_226 rfl dX11_state_148 ?_
    cases h
    exact r_iretX (pc := 151) X hr ⟨Nat.le_of_ble_eq_true rfl, Nat.le_of_ble_eq_true rfl⟩ dX11_state_151
  refine swc h (fun hq h => ?_) (fun hs8 h => ?_)
  · refine r_swInE (pc := 28) X hq (off := 124) (tgt := 152) dX11_state_28 (by decide) (by decide) (by decide) (by decide) ?_
    refine r_aload_n (pc := 152) X dX11_state_152 rfl ?_
    refine r_getR (q := (2, 1, 0)) (pc := 153) X ⟨(ltb rfl), (ltb rfl)⟩ fl_X11_10 rfl dX11_state_153 ?_
    refine r_getI (pc := 156) X ⟨(ltb rfl), (ltb rfl)⟩ fl_X11_196 rfl dX11_state_156 ?_
    cases h
    exact r_iretX (pc := 159) X hr ⟨Nat.le_of_ble_eq_true rfl, Nat.le_of_ble_eq_true rfl⟩ dX11_state_159
  refine swc h (fun hq h => ?_) (fun hs9 h => ?_)
  · refine r_swInE (pc := 28) X hq (off := 132) (tgt := 160) dX11_state_28 (by decide) (by decide) (by decide) (by decide) ?_
    refine r_aload_n (pc := 160) X dX11_state_160 rfl ?_
    refine r_getR (q := (2, 1, 0)) (pc := 161) X ⟨(ltb rfl), (ltb rfl)⟩ fl_X11_10 rfl dX11_state_161 ?_
    refine r_getR (q := (4, 1, 0)) (pc := 164) X ⟨(ltb rfl), (ltb rfl)⟩ fl_X11_98 rfl dX11_state_164 ?_
    refine r_getI (pc := 167) X ⟨(ltb rfl), (ltb rfl)⟩ fl_X11_102 rfl dX11_state_167 ?_
    cases h
    exact r_iretX (pc := 170) X hr ⟨Nat.le_of_ble_eq_true rfl, Nat.le_of_ble_eq_true rfl⟩ dX11_state_170
  · refine r_swOut (pc := 28) X (tgt := 171) dX11_state_28 (by have z0 := lv_neT (a := 0) hs0 (by decide); have z1 := lv_neT (a := 1) hs1 (by decide); have z2 := lv_neT (a := 2) hs2 (by decide); have z3 := lv_neT (a := 3) hs3 (by decide); have z4 := lv_neT (a := 4) hs4 (by decide); have z5 := lv_neT (a := 5) hs5 (by decide); have z6 := lv_neT (a := 6) hs6 (by decide); have z7 := lv_neT (a := 7) hs7 (by decide); have z8 := lv_neT (a := 8) hs8 (by decide); have z9 := lv_neT (a := 9) hs9 (by decide); omega) (by decide) ?_
    refine r_aload_n (pc := 171) X dX11_state_171 rfl ?_
    refine r_getR (q := (2, 1, 0)) (pc := 172) X ⟨(ltb rfl), (ltb rfl)⟩ fl_X11_10 rfl dX11_state_172 ?_
    refine r_getR (q := (4, 1, 0)) (pc := 175) X ⟨(ltb rfl), (ltb rfl)⟩ fl_X11_98 rfl dX11_state_175 ?_
    refine r_getI (pc := 178) X ⟨(ltb rfl), (ltb rfl)⟩ fl_X11_229 rfl dX11_state_178 ?_
    cases h
    exact r_iretX (pc := 181) X hr ⟨Nat.le_of_ble_eq_true rfl, Nat.le_of_ble_eq_true rfl⟩ dX11_state_181
def f_X11_state (x1 : Int32) (M : Mem) : Option ((Int32 ⊕ Nat) × Mem) :=
  bndX (f_X11_requireWhat x1 10 M) (fun r1 M2 => if (M2.1 (1, 1, 0) 0) = 0 then f_X11_state_26 x1 1 0 M2 else f_X11_state_26 x1 1 1 M2)
set_option maxHeartbeats 4000000 in
set_option maxRecDepth 100000 in
theorem t_X11_state {G : GG} {A : Nat → Prop} {p : Program} {l : Launch} {e : Env} {s : State} {m : MethodId} {args : Array Value} {below : List Frame} {meth : Method} {c : Code} {r : (Int32 ⊕ Nat)} {M' : Mem} (X : Cx G A p s m args meth c RX11 cX11_state 4) (Y : CxX G A l s c) (hr : meth.sig.returnType = some .int) {x1 : Int32} {M : Mem}  (h : f_X11_state x1 M = some (r, M')) : T G A p l e (rmX 7 1) s m args below meth c 4 0 0 (vx_MQ below (QiX G A r M') (XX G A r M') args s 1 6 A) 0 [(0, .ref (G.2.1 (9, 0, 0))), (1, .int x1)] [] M := by
  unfold f_X11_state at h
  refine r_iload_n (pc := 0) X dX11_state_0 rfl ?_
  refine r_bipush (pc := 1) X (v := 10) dX11_state_1 (by decide) ?_
  refine bndXE h (fun r1x M2 h3 h => ?_)
  refine r_callXSv2 (pc := 3) X Y sy_X11_requireWhat my_X11_requireWhat ml_X11_199 ⟨Nat.le_of_ble_eq_true rfl, Nat.le_of_ble_eq_true rfl, Nat.le_of_ble_eq_true rfl, Nat.le_of_ble_eq_true rfl⟩ (fun sz => c_X11_requireWhat Y.1  h3) h ⟨Nat.le_of_ble_eq_true rfl, Nat.le_of_ble_eq_true rfl⟩ (Nat.le_of_ble_eq_true rfl) dX11_state_3 (fun r1 hvr1 h => ?_)
  refine r_aload_n (pc := 6) X dX11_state_6 rfl ?_
  refine r_getR (q := (2, 1, 0)) (pc := 7) X ⟨(ltb rfl), (ltb rfl)⟩ fl_X11_10 rfl dX11_state_7 ?_
  refine r_getR (q := (1, 1, 0)) (pc := 10) X ⟨(ltb rfl), (ltb rfl)⟩ fl_X11_202 rfl dX11_state_10 ?_
  refine r_astore_n (pc := 13) X (by decide) dX11_state_13 ?_
  refine r_aload_n (pc := 14) X dX11_state_14 rfl ?_
  refine r_getI (pc := 15) X ⟨(ltb rfl), (ltb rfl)⟩ fl_X11_206 rfl dX11_state_15 ?_
  refine r_if_eq (pc := 18) X (tgt := 25) dX11_state_18 (by decide) h (fun h => ?_) (fun h => ?_)
  · refine r_iconst (pc := 25) X (v := 0) dX11_state_25 (by decide) ?_
    exact T_widen (k := 1) (n := 6) (Nat.le_of_ble_eq_true rfl) (Nat.le_of_ble_eq_true rfl) (T_sub (t_X11_state_26 X Y hr (ltb rfl) h) ⟨rfl, rfl, rfl, trivial⟩)
  · refine r_iconst (pc := 21) X (v := 1) dX11_state_21 (by decide) ?_
    refine r_goto (pc := 22) X (tgt := 26) dX11_state_22 (by decide) ?_
    exact T_widen (k := 1) (n := 6) (Nat.le_of_ble_eq_true rfl) (Nat.le_of_ble_eq_true rfl) (T_sub (t_X11_state_26 X Y hr (ltb rfl) h) ⟨rfl, rfl, rfl, trivial⟩)
theorem c_X11_state {G : GG} {l : Launch} {sz : Nat} (hlf : l.stackTraces = false) {x1 : Int32} {r : (Int32 ⊕ Nat)} {M M' : Mem}  (h : f_X11_state x1 M = some (r, M')) : vx_Met l yX11_state (wsO yX11_state cX11_state 4 (some .int)) (rmX 7 1) (PcX G sz [.ref (G.2.1 (9, 0, 0)), .int x1] M) (QiX G (AX G sz) r M') (XX G (AX G sz) r M') 1 6 (AX G sz) :=
  metX_of (k := 1) (own := RX11) hlf rfl (by decide +kernel) (Nat.le_of_ble_eq_true rfl) (fun p e s m args below meth c X Y hr => t_X11_state X Y hr  h)
-- ConverterScanner.sequence
def f_X11_sequence_19 (x2 : Int32) (xs0 : Int32) (cs1 : Nat) (M : Mem) : Option ((Int32 ⊕ Nat) × Mem) :=
  bnd (f_X3_sequenceOf cs1 xs0 M) (fun r1 M2 => if x2 = 0 then some (.inl (M2.1 (5, r1.1, r1.2) 1), M2) else if x2 = 1 then if (M2.1 (5, r1.1, r1.2) 3) = 0 then some (.inl 0, M2) else some (.inl 1, M2) else if x2 = 2 then some (.inl (M2.1 (5, r1.1, r1.2) 4), M2) else if x2 = 3 then some (.inl (M2.1 (5, r1.1, r1.2) 6), M2) else if x2 = 4 then some (.inl (M2.1 (5, r1.1, r1.2) 7), M2) else if x2 = 5 then some (.inl (M2.1 (5, r1.1, r1.2) 8), M2) else if x2 = 6 then some (.inl (M2.1 (5, r1.1, r1.2) 9), M2) else some (.inl (M2.1 (5, r1.1, r1.2) 10), M2))
set_option maxHeartbeats 4000000 in
set_option maxRecDepth 100000 in
theorem t_X11_sequence_19 {G : GG} {A : Nat → Prop} {p : Program} {l : Launch} {e : Env} {s : State} {m : MethodId} {args : Array Value} {below : List Frame} {meth : Method} {c : Code} {r : (Int32 ⊕ Nat)} {M' : Mem} (X : Cx G A p s m args meth c RX11 cX11_sequence 4) (Y : CxX G A l s c) (hr : meth.sig.returnType = some .int) {x2 : Int32} {xs0 : Int32} {cs1 : Nat} {M : Mem} (hcs1 : cs1 < 6) (h : f_X11_sequence_19 x2 xs0 cs1 M = some (r, M')) : T G A p l e (rmX 7 1) s m args below meth c 4 1 6 (vx_MQ below (QiX G A r M') (XX G A r M') args s 1 6 A) 19 [(2, .int x2)] [.int xs0, .ref (G.2.1 (2, cs1, 0))] M := by
  unfold f_X11_sequence_19 at h
  refine bndE h (fun r1 M2 h3 h => ?_)
  refine r_callVr1 (pc := 19) X ⟨hcs1, (ltb rfl)⟩ rfl vy_X3_sequenceOf my_X3_sequenceOf ml_X11_232 ⟨Nat.le_of_ble_eq_true rfl, Nat.le_of_ble_eq_true rfl, Nat.le_of_ble_eq_true rfl, Nat.le_of_ble_eq_true rfl⟩ (c_X3_sequenceOf hcs1 h3) (Nat.le_of_ble_eq_true rfl) dX11_sequence_19 ?_
  refine r_astore_n (pc := 22) X (by decide) dX11_sequence_22 ?_
  refine r_iload_n (pc := 23) X dX11_sequence_23 rfl ?_
  refine swc h (fun hq h => ?_) (fun hs0 h => ?_)
  · refine r_swInE (pc := 24) X hq (off := 44) (tgt := 68) dX11_sequence_24 (by decide) (by decide) (by decide) (by decide) ?_
    refine r_aload_n (pc := 68) X dX11_sequence_68 rfl ?_
    refine r_getI (pc := 69) X ⟨(okr_X3_sequenceOf hcs1 h3).1, (okr_X3_sequenceOf hcs1 h3).2⟩ fl_X11_236 rfl dX11_sequence_69 ?_
    cases h
    exact r_iretX (pc := 72) X hr ⟨Nat.le_of_ble_eq_true rfl, Nat.le_of_ble_eq_true rfl⟩ dX11_sequence_72
  refine swc h (fun hq h => ?_) (fun hs1 h => ?_)
  · refine r_swInE (pc := 24) X hq (off := 49) (tgt := 73) dX11_sequence_24 (by decide) (by decide) (by decide) (by decide) ?_
    refine r_aload_n (pc := 73) X dX11_sequence_73 rfl ?_
    refine r_getI (pc := 74) X ⟨(okr_X3_sequenceOf hcs1 h3).1, (okr_X3_sequenceOf hcs1 h3).2⟩ fl_X11_241 rfl dX11_sequence_74 ?_
    refine r_if_eq (pc := 77) X (tgt := 84) dX11_sequence_77 (by decide) h (fun h => ?_) (fun h => ?_)
    · refine r_iconst (pc := 84) X (v := 0) dX11_sequence_84 (by decide) ?_
      cases h
      exact r_iretX (pc := 85) X hr ⟨Nat.le_of_ble_eq_true rfl, Nat.le_of_ble_eq_true rfl⟩ dX11_sequence_85
    · refine r_iconst (pc := 80) X (v := 1) dX11_sequence_80 (by decide) ?_
      refine r_goto (pc := 81) X (tgt := 85) dX11_sequence_81 (by decide) ?_
      cases h
      exact r_iretX (pc := 85) X hr ⟨Nat.le_of_ble_eq_true rfl, Nat.le_of_ble_eq_true rfl⟩ dX11_sequence_85
  refine swc h (fun hq h => ?_) (fun hs2 h => ?_)
  · refine r_swInE (pc := 24) X hq (off := 62) (tgt := 86) dX11_sequence_24 (by decide) (by decide) (by decide) (by decide) ?_
    refine r_aload_n (pc := 86) X dX11_sequence_86 rfl ?_
    refine r_getI (pc := 87) X ⟨(okr_X3_sequenceOf hcs1 h3).1, (okr_X3_sequenceOf hcs1 h3).2⟩ fl_X11_244 rfl dX11_sequence_87 ?_
    cases h
    exact r_iretX (pc := 90) X hr ⟨Nat.le_of_ble_eq_true rfl, Nat.le_of_ble_eq_true rfl⟩ dX11_sequence_90
  refine swc h (fun hq h => ?_) (fun hs3 h => ?_)
  · refine r_swInE (pc := 24) X hq (off := 67) (tgt := 91) dX11_sequence_24 (by decide) (by decide) (by decide) (by decide) ?_
    refine r_aload_n (pc := 91) X dX11_sequence_91 rfl ?_
    refine r_getI (pc := 92) X ⟨(okr_X3_sequenceOf hcs1 h3).1, (okr_X3_sequenceOf hcs1 h3).2⟩ fl_X11_247 rfl dX11_sequence_92 ?_
    cases h
    exact r_iretX (pc := 95) X hr ⟨Nat.le_of_ble_eq_true rfl, Nat.le_of_ble_eq_true rfl⟩ dX11_sequence_95
  refine swc h (fun hq h => ?_) (fun hs4 h => ?_)
  · refine r_swInE (pc := 24) X hq (off := 72) (tgt := 96) dX11_sequence_24 (by decide) (by decide) (by decide) (by decide) ?_
    refine r_aload_n (pc := 96) X dX11_sequence_96 rfl ?_
    refine r_getI (pc := 97) X ⟨(okr_X3_sequenceOf hcs1 h3).1, (okr_X3_sequenceOf hcs1 h3).2⟩ fl_X11_250 rfl dX11_sequence_97 ?_
    cases h
    exact r_iretX (pc := 100) X hr ⟨Nat.le_of_ble_eq_true rfl, Nat.le_of_ble_eq_true rfl⟩ dX11_sequence_100
  refine swc h (fun hq h => ?_) (fun hs5 h => ?_)
  · refine r_swInE (pc := 24) X hq (off := 77) (tgt := 101) dX11_sequence_24 (by decide) (by decide) (by decide) (by decide) ?_
    refine r_aload_n (pc := 101) X dX11_sequence_101 rfl ?_
    refine r_getI (pc := 102) X ⟨(okr_X3_sequenceOf hcs1 h3).1, (okr_X3_sequenceOf hcs1 h3).2⟩ fl_X11_253 rfl dX11_sequence_102 ?_
    cases h
    exact r_iretX (pc := 105) X hr ⟨Nat.le_of_ble_eq_true rfl, Nat.le_of_ble_eq_true rfl⟩ dX11_sequence_105
  refine swc h (fun hq h => ?_) (fun hs6 h => ?_)
  · refine r_swInE (pc := 24) X hq (off := 82) (tgt := 106) dX11_sequence_24 (by decide) (by decide) (by decide) (by decide) ?_
    refine r_aload_n (pc := 106) X dX11_sequence_106 rfl ?_
    refine r_getI (pc := 107) X ⟨(okr_X3_sequenceOf hcs1 h3).1, (okr_X3_sequenceOf hcs1 h3).2⟩ fl_X11_256 rfl dX11_sequence_107 ?_
    cases h
    exact r_iretX (pc := 110) X hr ⟨Nat.le_of_ble_eq_true rfl, Nat.le_of_ble_eq_true rfl⟩ dX11_sequence_110
  · refine r_swOut (pc := 24) X (tgt := 111) dX11_sequence_24 (by have z0 := lv_neT (a := 0) hs0 (by decide); have z1 := lv_neT (a := 1) hs1 (by decide); have z2 := lv_neT (a := 2) hs2 (by decide); have z3 := lv_neT (a := 3) hs3 (by decide); have z4 := lv_neT (a := 4) hs4 (by decide); have z5 := lv_neT (a := 5) hs5 (by decide); have z6 := lv_neT (a := 6) hs6 (by decide); omega) (by decide) ?_
    refine r_aload_n (pc := 111) X dX11_sequence_111 rfl ?_
    refine r_getI (pc := 112) X ⟨(okr_X3_sequenceOf hcs1 h3).1, (okr_X3_sequenceOf hcs1 h3).2⟩ fl_X11_259 rfl dX11_sequence_112 ?_
    cases h
    exact r_iretX (pc := 115) X hr ⟨Nat.le_of_ble_eq_true rfl, Nat.le_of_ble_eq_true rfl⟩ dX11_sequence_115
def f_X11_sequence (x1 : Int32) (x2 : Int32) (M : Mem) : Option ((Int32 ⊕ Nat) × Mem) :=
  bndX (f_X11_requireWhat x2 7 M) (fun r1 M2 => if x1 = 0 then f_X11_sequence_19 x2 1 1 M2 else f_X11_sequence_19 x2 2 1 M2)
set_option maxHeartbeats 4000000 in
set_option maxRecDepth 100000 in
theorem t_X11_sequence {G : GG} {A : Nat → Prop} {p : Program} {l : Launch} {e : Env} {s : State} {m : MethodId} {args : Array Value} {below : List Frame} {meth : Method} {c : Code} {r : (Int32 ⊕ Nat)} {M' : Mem} (X : Cx G A p s m args meth c RX11 cX11_sequence 4) (Y : CxX G A l s c) (hr : meth.sig.returnType = some .int) {x1 : Int32} {x2 : Int32} {M : Mem}  (h : f_X11_sequence x1 x2 M = some (r, M')) : T G A p l e (rmX 7 1) s m args below meth c 4 0 0 (vx_MQ below (QiX G A r M') (XX G A r M') args s 1 6 A) 0 [(0, .ref (G.2.1 (9, 0, 0))), (1, .int x1), (2, .int x2)] [] M := by
  unfold f_X11_sequence at h
  refine r_iload_n (pc := 0) X dX11_sequence_0 rfl ?_
  refine r_bipush (pc := 1) X (v := 7) dX11_sequence_1 (by decide) ?_
  refine bndXE h (fun r1x M2 h3 h => ?_)
  refine r_callXSv2 (pc := 3) X Y sy_X11_requireWhat my_X11_requireWhat ml_X11_199 ⟨Nat.le_of_ble_eq_true rfl, Nat.le_of_ble_eq_true rfl, Nat.le_of_ble_eq_true rfl, Nat.le_of_ble_eq_true rfl⟩ (fun sz => c_X11_requireWhat Y.1  h3) h ⟨Nat.le_of_ble_eq_true rfl, Nat.le_of_ble_eq_true rfl⟩ (Nat.le_of_ble_eq_true rfl) dX11_sequence_3 (fun r1 hvr1 h => ?_)
  refine r_aload_n (pc := 6) X dX11_sequence_6 rfl ?_
  refine r_getR (q := (2, 1, 0)) (pc := 7) X ⟨(ltb rfl), (ltb rfl)⟩ fl_X11_10 rfl dX11_sequence_7 ?_
  refine r_iload_n (pc := 10) X dX11_sequence_10 rfl ?_
  refine r_if_eq (pc := 11) X (tgt := 18) dX11_sequence_11 (by decide) h (fun h => ?_) (fun h => ?_)
  · refine r_iconst (pc := 18) X (v := 1) dX11_sequence_18 (by decide) ?_
    exact T_widen (k := 1) (n := 6) (Nat.le_of_ble_eq_true rfl) (Nat.le_of_ble_eq_true rfl) (T_sub (t_X11_sequence_19 X Y hr (ltb rfl) h) ⟨rfl, trivial⟩)
  · refine r_iconst (pc := 14) X (v := 2) dX11_sequence_14 (by decide) ?_
    refine r_goto (pc := 15) X (tgt := 19) dX11_sequence_15 (by decide) ?_
    exact T_widen (k := 1) (n := 6) (Nat.le_of_ble_eq_true rfl) (Nat.le_of_ble_eq_true rfl) (T_sub (t_X11_sequence_19 X Y hr (ltb rfl) h) ⟨rfl, trivial⟩)
theorem c_X11_sequence {G : GG} {l : Launch} {sz : Nat} (hlf : l.stackTraces = false) {x1 : Int32} {x2 : Int32} {r : (Int32 ⊕ Nat)} {M M' : Mem}  (h : f_X11_sequence x1 x2 M = some (r, M')) : vx_Met l yX11_sequence (wsO yX11_sequence cX11_sequence 4 (some .int)) (rmX 7 1) (PcX G sz [.ref (G.2.1 (9, 0, 0)), .int x1, .int x2] M) (QiX G (AX G sz) r M') (XX G (AX G sz) r M') 1 6 (AX G sz) :=
  metX_of (k := 1) (own := RX11) hlf rfl (by decide +kernel) (Nat.le_of_ble_eq_true rfl) (fun p e s m args below meth c X Y hr => t_X11_sequence X Y hr  h)
-- ConverterScanner.entry
def f_X11_entry_13 (x2 : Int32) (xs0 : Int32) (cs1 : Nat) (M : Mem) : Option ((Int32 ⊕ Nat) × Mem) :=
  bnd (f_X3_sequenceOf cs1 xs0 M) (fun r1 M2 => if x2 < 0 then some (.inr 2, M2) else if x2 < (M2.1 (5, r1.1, r1.2) 1) then if bad x2 (akO (20, r1.1, r1.2)).2 then none else some (.inl (M2.1 (20, r1.1, r1.2) (Int32.toNatClampNeg x2)), M2) else some (.inr 2, M2))
set_option maxHeartbeats 4000000 in
set_option maxRecDepth 100000 in
theorem t_X11_entry_13 {G : GG} {A : Nat → Prop} {p : Program} {l : Launch} {e : Env} {s : State} {m : MethodId} {args : Array Value} {below : List Frame} {meth : Method} {c : Code} {r : (Int32 ⊕ Nat)} {M' : Mem} (X : Cx G A p s m args meth c RX11 cX11_entry 4) (Y : CxX G A l s c) (hr : meth.sig.returnType = some .int) {x2 : Int32} {xs0 : Int32} {cs1 : Nat} {M : Mem} (hcs1 : cs1 < 6) (h : f_X11_entry_13 x2 xs0 cs1 M = some (r, M')) : T G A p l e (rmX 6 1) s m args below meth c 4 0 0 (vx_MQ below (QiX G A r M') (XX G A r M') args s 1 6 A) 13 [(2, .int x2)] [.int xs0, .ref (G.2.1 (2, cs1, 0))] M := by
  unfold f_X11_entry_13 at h
  refine bndE h (fun r1 M2 h3 h => ?_)
  refine r_callVr1 (pc := 13) X ⟨hcs1, (ltb rfl)⟩ rfl vy_X3_sequenceOf my_X3_sequenceOf ml_X11_232 ⟨Nat.le_of_ble_eq_true rfl, Nat.le_of_ble_eq_true rfl, Nat.le_of_ble_eq_true rfl, Nat.le_of_ble_eq_true rfl⟩ (c_X3_sequenceOf hcs1 h3) (Nat.le_of_ble_eq_true rfl) dX11_entry_13 ?_
  refine r_astore_n (pc := 16) X (by decide) dX11_entry_16 ?_
  refine r_iload_n (pc := 17) X dX11_entry_17 rfl ?_
  refine r_if_lt (pc := 18) X (tgt := 29) dX11_entry_18 (by decide) h (fun h => ?_) (fun h => ?_)
  · cases h
    exact r_throwW (pc := 29) X Y (k := 2) (ltb rfl) (List.mem_of_getElem? (i := 12) rfl) dX11_entry_29 dX11_entry_32 dX11_entry_33 dX11_entry_36 dX11_entry_39 ⟨Nat.le_of_ble_eq_true rfl, Nat.le_of_ble_eq_true rfl, Nat.le_of_ble_eq_true rfl, Nat.le_of_ble_eq_true rfl⟩ ⟨Nat.le_of_ble_eq_true rfl, Nat.le_of_ble_eq_true rfl⟩
  · refine r_iload_n (pc := 21) X dX11_entry_21 rfl ?_
    refine r_aload_n (pc := 22) X dX11_entry_22 rfl ?_
    refine r_getI (pc := 23) X ⟨(okr_X3_sequenceOf hcs1 h3).1, (okr_X3_sequenceOf hcs1 h3).2⟩ fl_X11_236 rfl dX11_entry_23 ?_
    refine r_icmp_lt (pc := 26) X (tgt := 40) dX11_entry_26 (by decide) h (fun h => ?_) (fun h => ?_)
    · refine r_aload_n (pc := 40) X dX11_entry_40 rfl ?_
      refine r_getR (q := (20, r1.1, r1.2)) (pc := 41) X ⟨(okr_X3_sequenceOf hcs1 h3).1, (okr_X3_sequenceOf hcs1 h3).2⟩ fl_X11_267 rfl dX11_entry_41 ?_
      refine r_iload_n (pc := 44) X dX11_entry_44 rfl ?_
      refine r_iald (pc := 45) X (n := (akO (20, r1.1, r1.2)).2) ⟨(okr_X3_sequenceOf hcs1 h3).1, (okr_X3_sequenceOf hcs1 h3).2⟩ rfl (nlt rfl) dX11_entry_45 h (fun h => ?_)
      cases h
      exact r_iretX (pc := 46) X hr ⟨Nat.le_of_ble_eq_true rfl, Nat.le_of_ble_eq_true rfl⟩ dX11_entry_46
    · cases h
      exact r_throwW (pc := 29) X Y (k := 2) (ltb rfl) (List.mem_of_getElem? (i := 12) rfl) dX11_entry_29 dX11_entry_32 dX11_entry_33 dX11_entry_36 dX11_entry_39 ⟨Nat.le_of_ble_eq_true rfl, Nat.le_of_ble_eq_true rfl, Nat.le_of_ble_eq_true rfl, Nat.le_of_ble_eq_true rfl⟩ ⟨Nat.le_of_ble_eq_true rfl, Nat.le_of_ble_eq_true rfl⟩
def f_X11_entry (x1 : Int32) (x2 : Int32) (M : Mem) : Option ((Int32 ⊕ Nat) × Mem) :=
  if x1 = 0 then f_X11_entry_13 x2 1 1 M else f_X11_entry_13 x2 2 1 M
set_option maxHeartbeats 4000000 in
set_option maxRecDepth 100000 in
theorem t_X11_entry {G : GG} {A : Nat → Prop} {p : Program} {l : Launch} {e : Env} {s : State} {m : MethodId} {args : Array Value} {below : List Frame} {meth : Method} {c : Code} {r : (Int32 ⊕ Nat)} {M' : Mem} (X : Cx G A p s m args meth c RX11 cX11_entry 4) (Y : CxX G A l s c) (hr : meth.sig.returnType = some .int) {x1 : Int32} {x2 : Int32} {M : Mem}  (h : f_X11_entry x1 x2 M = some (r, M')) : T G A p l e (rmX 6 1) s m args below meth c 4 0 0 (vx_MQ below (QiX G A r M') (XX G A r M') args s 1 6 A) 0 [(0, .ref (G.2.1 (9, 0, 0))), (1, .int x1), (2, .int x2)] [] M := by
  unfold f_X11_entry at h
  refine r_aload_n (pc := 0) X dX11_entry_0 rfl ?_
  refine r_getR (q := (2, 1, 0)) (pc := 1) X ⟨(ltb rfl), (ltb rfl)⟩ fl_X11_10 rfl dX11_entry_1 ?_
  refine r_iload_n (pc := 4) X dX11_entry_4 rfl ?_
  refine r_if_eq (pc := 5) X (tgt := 12) dX11_entry_5 (by decide) h (fun h => ?_) (fun h => ?_)
  · refine r_iconst (pc := 12) X (v := 1) dX11_entry_12 (by decide) ?_
    exact T_widen (k := 0) (n := 0) (Nat.le_of_ble_eq_true rfl) (Nat.le_of_ble_eq_true rfl) (T_sub (t_X11_entry_13 X Y hr (ltb rfl) h) ⟨rfl, trivial⟩)
  · refine r_iconst (pc := 8) X (v := 2) dX11_entry_8 (by decide) ?_
    refine r_goto (pc := 9) X (tgt := 13) dX11_entry_9 (by decide) ?_
    exact T_widen (k := 0) (n := 0) (Nat.le_of_ble_eq_true rfl) (Nat.le_of_ble_eq_true rfl) (T_sub (t_X11_entry_13 X Y hr (ltb rfl) h) ⟨rfl, trivial⟩)
theorem c_X11_entry {G : GG} {l : Launch} {sz : Nat} (hlf : l.stackTraces = false) {x1 : Int32} {x2 : Int32} {r : (Int32 ⊕ Nat)} {M M' : Mem}  (h : f_X11_entry x1 x2 M = some (r, M')) : vx_Met l yX11_entry (wsO yX11_entry cX11_entry 4 (some .int)) (rmX 6 1) (PcX G sz [.ref (G.2.1 (9, 0, 0)), .int x1, .int x2] M) (QiX G (AX G sz) r M') (XX G (AX G sz) r M') 1 6 (AX G sz) :=
  metX_of (k := 1) (own := RX11) hlf rfl (by decide +kernel) (Nat.le_of_ble_eq_true rfl) (fun p e s m args below meth c X Y hr => t_X11_entry X Y hr  h)
