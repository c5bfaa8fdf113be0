-- ConverterScannerModel.thrown
def f_X12_thrown  (M : Mem) : Option (Int32 × Mem) :=
  some ((M.1 (10, 0, 0) 0), M)
set_option maxHeartbeats 4000000 in
set_option maxRecDepth 100000 in
theorem t_X12_thrown {G : GG} {A : Nat → Prop} {p : Program} {l : Launch} {e : Env} {s : State} {m : MethodId} {args : Array Value} {below : List Frame} {meth : Method} {c : Code} {r : Int32} {M' : Mem} (X : Cx G A p s m args meth c RX12 cX12_thrown 1) (hr : meth.sig.returnType = some .int) {M : Mem}  (h : f_X12_thrown M = some (r, M')) : T G A p l e (rmO 0) s m args below meth c 1 0 0 (MQ below (QiO G A r M') args s 0 0 A) 0 [(0, .ref (G.2.1 (10, 0, 0)))] [] M := by
  unfold f_X12_thrown at h
  refine r_aload_n (pc := 0) X dX12_thrown_0 rfl ?_
  refine r_getI (pc := 1) X ⟨(ltb rfl), (ltb rfl)⟩ fl_X12_1 rfl dX12_thrown_1 ?_
  cases h
  exact r_iret (pc := 4) X hr dX12_thrown_4
theorem c_X12_thrown {G : GG} {l : Launch} {r : Int32} {M M' : Mem}  (h : f_X12_thrown  M = some (r, M')) : Met l yX12_thrown (wsO yX12_thrown cX12_thrown 1 (some .int)) (rmO 0) (PcO G [.ref (G.2.1 (10, 0, 0))] M) (QiO G (AA G) r M') 0 0 (AA G) :=
  met_of (own := RX12) rfl (by decide +kernel) (Nat.le_of_ble_eq_true rfl) (fun p e s m args below meth c X hr => t_X12_thrown X hr  h)
-- ConverterScannerModel.inRange
def f_X12_inRange_14  (M : Mem) : Option (Int32 × Mem) :=
  some (0, M)
set_option maxHeartbeats 4000000 in
set_option maxRecDepth 100000 in
theorem t_X12_inRange_14 {G : GG} {A : Nat → Prop} {p : Program} {l : Launch} {e : Env} {s : State} {m : MethodId} {args : Array Value} {below : List Frame} {meth : Method} {c : Code} {r : Int32} {M' : Mem} (X : Cx G A p s m args meth c RX12 cX12_inRange 3) (hr : meth.sig.returnType = some .boolean) {M : Mem}  (h : f_X12_inRange_14 M = some (r, M')) : T G A p l e (rmO 0) s m args below meth c 3 0 0 (MQ below (QiO G A r M') args s 0 0 A) 14 [] [] M := by
  unfold f_X12_inRange_14 at h
  refine r_iconst (pc := 14) X (v := 0) dX12_inRange_14 (by decide) ?_
  cases h
  exact r_zretc (pc := 15) X hr (by decide +kernel) dX12_inRange_15
def f_X12_inRange (x0 : Int32) (x1 : Int32) (x2 : Int32) (M : Mem) : Option (Int32 × Mem) :=
  if x0 < x1 then f_X12_inRange_14  M else if x2 < x0 then f_X12_inRange_14  M else some (1, M)
set_option maxHeartbeats 4000000 in
set_option maxRecDepth 100000 in
theorem t_X12_inRange {G : GG} {A : Nat → Prop} {p : Program} {l : Launch} {e : Env} {s : State} {m : MethodId} {args : Array Value} {below : List Frame} {meth : Method} {c : Code} {r : Int32} {M' : Mem} (X : Cx G A p s m args meth c RX12 cX12_inRange 3) (hr : meth.sig.returnType = some .boolean) {x0 : Int32} {x1 : Int32} {x2 : Int32} {M : Mem}  (h : f_X12_inRange x0 x1 x2 M = some (r, M')) : T G A p l e (rmO 0) s m args below meth c 3 0 0 (MQ below (QiO G A r M') args s 0 0 A) 0 [(0, .int x0), (1, .int x1), (2, .int x2)] [] M := by
  unfold f_X12_inRange at h
  refine r_iload_n (pc := 0) X dX12_inRange_0 rfl ?_
  refine r_iload_n (pc := 1) X dX12_inRange_1 rfl ?_
  refine r_icmp_lt (pc := 2) X (tgt := 14) dX12_inRange_2 (by decide) h (fun h => ?_) (fun h => ?_)
  · exact T_sub (t_X12_inRange_14 X hr h) trivial
  · refine r_iload_n (pc := 5) X dX12_inRange_5 rfl ?_
    refine r_iload_n (pc := 6) X dX12_inRange_6 rfl ?_
    refine r_icmp_gt (pc := 7) X (tgt := 14) dX12_inRange_7 (by decide) h (fun h => ?_) (fun h => ?_)
    · exact T_sub (t_X12_inRange_14 X hr h) trivial
    · refine r_iconst (pc := 10) X (v := 1) dX12_inRange_10 (by decide) ?_
      refine r_goto (pc := 11) X (tgt := 15) dX12_inRange_11 (by decide) ?_
      cases h
      exact r_zretc (pc := 15) X hr (by decide +kernel) dX12_inRange_15
theorem c_X12_inRange {G : GG} {l : Launch} {x0 : Int32} {x1 : Int32} {x2 : Int32} {r : Int32} {M M' : Mem}  (h : f_X12_inRange x0 x1 x2 M = some (r, M')) : Met l yX12_inRange (wsO yX12_inRange cX12_inRange 3 (some .boolean)) (rmO 0) (PcO G [.int x0, .int x1, .int x2] M) (QiO G (AA G) r M') 0 0 (AA G) :=
  met_of (own := RX12) rfl (by decide +kernel) (Nat.le_of_ble_eq_true rfl) (fun p e s m args below meth c X hr => t_X12_inRange X hr  h)
-- ConverterScannerModel.fails
def f_X12_fails_26 (xs0 : Int32) (M : Mem) : Option (Int32 × Mem) :=
  nm (uI M (10, 0, 0) 0 xs0) (fun M1 => if (M1.1 (10, 0, 0) 0) ≤ 0 then some (0, M1) else some (1, M1))
set_option maxHeartbeats 4000000 in
set_option maxRecDepth 100000 in
theorem t_X12_fails_26 {G : GG} {A : Nat → Prop} {p : Program} {l : Launch} {e : Env} {s : State} {m : MethodId} {args : Array Value} {below : List Frame} {meth : Method} {c : Code} {r : Int32} {M' : Mem} (X : Cx G A p s m args meth c RX12 cX12_fails 4) (hr : meth.sig.returnType = some .boolean) {xs0 : Int32} {M : Mem}  (h : f_X12_fails_26 xs0 M = some (r, M')) : T G A p l e (rmO 0) s m args below meth c 4 0 0 (MQ below (QiO G A r M') args s 0 0 A) 26 [(0, .ref (G.2.1 (10, 0, 0)))] [.int xs0, .ref (G.2.1 (10, 0, 0))] M := by
  unfold f_X12_fails_26 at h
  refine r_putIN (pc := 26) X ⟨(ltb rfl), (ltb rfl)⟩ fp_X12_1 rfl dX12_fails_26 h (fun M1 h => ?_)
  refine r_aload_n (pc := 29) X dX12_fails_29 rfl ?_
  refine r_getI (pc := 30) X ⟨(ltb rfl), (ltb rfl)⟩ fl_X12_1 rfl dX12_fails_30 ?_
  refine r_if_le (pc := 33) X (tgt := 40) dX12_fails_33 (by decide) h (fun h => ?_) (fun h => ?_)
  · refine r_iconst (pc := 40) X (v := 0) dX12_fails_40 (by decide) ?_
    cases h
    exact r_zretc (pc := 41) X hr (by decide +kernel) dX12_fails_41
  · refine r_iconst (pc := 36) X (v := 1) dX12_fails_36 (by decide) ?_
    refine r_goto (pc := 37) X (tgt := 41) dX12_fails_37 (by decide) ?_
    cases h
    exact r_zretc (pc := 41) X hr (by decide +kernel) dX12_fails_41
def f_X12_fails (x1 : Int32) (x2 : Int32) (x3 : Int32) (M : Mem) : Option (Int32 × Mem) :=
  if x1 = 0 then if x2 = 0 then if x3 = 0 then f_X12_fails_26 0 M else f_X12_fails_26 3 M else f_X12_fails_26 2 M else f_X12_fails_26 1 M
set_option maxHeartbeats 4000000 in
set_option maxRecDepth 100000 in
theorem t_X12_fails {G : GG} {A : Nat → Prop} {p : Program} {l : Launch} {e : Env} {s : State} {m : MethodId} {args : Array Value} {below : List Frame} {meth : Method} {c : Code} {r : Int32} {M' : Mem} (X : Cx G A p s m args meth c RX12 cX12_fails 4) (hr : meth.sig.returnType = some .boolean) {x1 : Int32} {x2 : Int32} {x3 : Int32} {M : Mem}  (h : f_X12_fails x1 x2 x3 M = some (r, M')) : T G A p l e (rmO 0) s m args below meth c 4 0 0 (MQ below (QiO G A r M') args s 0 0 A) 0 [(0, .ref (G.2.1 (10, 0, 0))), (1, .int x1), (2, .int x2), (3, .int x3)] [] M := by
  unfold f_X12_fails at h
  refine r_aload_n (pc := 0) X dX12_fails_0 rfl ?_
  refine r_iload_n (pc := 1) X dX12_fails_1 rfl ?_
  refine r_if_eq (pc := 2) X (tgt := 9) dX12_fails_2 (by decide) h (fun h => ?_) (fun h => ?_)
  · refine r_iload_n (pc := 9) X dX12_fails_9 rfl ?_
    refine r_if_eq (pc := 10) X (tgt := 17) dX12_fails_10 (by decide) h (fun h => ?_) (fun h => ?_)
    · refine r_iload_n (pc := 17) X dX12_fails_17 rfl ?_
      refine r_if_eq (pc := 18) X (tgt := 25) dX12_fails_18 (by decide) h (fun h => ?_) (fun h => ?_)
      · refine r_iconst (pc := 25) X (v := 0) dX12_fails_25 (by decide) ?_
        exact T_sub (t_X12_fails_26 X hr h) ⟨rfl, trivial⟩
      · refine r_iconst (pc := 21) X (v := 3) dX12_fails_21 (by decide) ?_
        refine r_goto (pc := 22) X (tgt := 26) dX12_fails_22 (by decide) ?_
        exact T_sub (t_X12_fails_26 X hr h) ⟨rfl, trivial⟩
    · refine r_iconst (pc := 13) X (v := 2) dX12_fails_13 (by decide) ?_
      refine r_goto (pc := 14) X (tgt := 26) dX12_fails_14 (by decide) ?_
      exact T_sub (t_X12_fails_26 X hr h) ⟨rfl, trivial⟩
  · refine r_iconst (pc := 5) X (v := 1) dX12_fails_5 (by decide) ?_
    refine r_goto (pc := 6) X (tgt := 26) dX12_fails_6 (by decide) ?_
    exact T_sub (t_X12_fails_26 X hr h) ⟨rfl, trivial⟩
theorem c_X12_fails {G : GG} {l : Launch} {x1 : Int32} {x2 : Int32} {x3 : Int32} {r : Int32} {M M' : Mem}  (h : f_X12_fails x1 x2 x3 M = some (r, M')) : Met l yX12_fails (wsO yX12_fails cX12_fails 4 (some .boolean)) (rmO 0) (PcO G [.ref (G.2.1 (10, 0, 0)), .int x1, .int x2, .int x3] M) (QiO G (AA G) r M') 0 0 (AA G) :=
  met_of (own := RX12) rfl (by decide +kernel) (Nat.le_of_ble_eq_true rfl) (fun p e s m args below meth c X hr => t_X12_fails X hr  h)
-- ConverterScannerModel.lesser
def f_X12_lesser (x0 : Int32) (x1 : Int32) (M : Mem) : Option (Int32 × Mem) :=
  if x1 ≤ x0 then some (x1, M) else some (x0, M)
set_option maxHeartbeats 4000000 in
set_option maxRecDepth 100000 in
theorem t_X12_lesser {G : GG} {A : Nat → Prop} {p : Program} {l : Launch} {e : Env} {s : State} {m : MethodId} {args : Array Value} {below : List Frame} {meth : Method} {c : Code} {r : Int32} {M' : Mem} (X : Cx G A p s m args meth c RX12 cX12_lesser 2) (hr : meth.sig.returnType = some .int) {x0 : Int32} {x1 : Int32} {M : Mem}  (h : f_X12_lesser x0 x1 M = some (r, M')) : T G A p l e (rmO 0) s m args below meth c 2 0 0 (MQ below (QiO G A r M') args s 0 0 A) 0 [(0, .int x0), (1, .int x1)] [] M := by
  unfold f_X12_lesser at h
  refine r_iload_n (pc := 0) X dX12_lesser_0 rfl ?_
  refine r_iload_n (pc := 1) X dX12_lesser_1 rfl ?_
  refine r_icmp_ge (pc := 2) X (tgt := 9) dX12_lesser_2 (by decide) h (fun h => ?_) (fun h => ?_)
  · refine r_iload_n (pc := 9) X dX12_lesser_9 rfl ?_
    cases h
    exact r_iret (pc := 10) X hr dX12_lesser_10
  · refine r_iload_n (pc := 5) X dX12_lesser_5 rfl ?_
    refine r_goto (pc := 6) X (tgt := 10) dX12_lesser_6 (by decide) ?_
    cases h
    exact r_iret (pc := 10) X hr dX12_lesser_10
theorem c_X12_lesser {G : GG} {l : Launch} {x0 : Int32} {x1 : Int32} {r : Int32} {M M' : Mem}  (h : f_X12_lesser x0 x1 M = some (r, M')) : Met l yX12_lesser (wsO yX12_lesser cX12_lesser 2 (some .int)) (rmO 0) (PcO G [.int x0, .int x1] M) (QiO G (AA G) r M') 0 0 (AA G) :=
  met_of (own := RX12) rfl (by decide +kernel) (Nat.le_of_ble_eq_true rfl) (fun p e s m args below meth c X hr => t_X12_lesser X hr  h)
-- ConverterScannerModel.appendWord
def f_X12_appendWord_3 : Nat → Int32 → Int32 → Mem → Option (Unit × Mem)
  | 0 => fun _ _ _ => none
  | n + 1 => fun x1 x2 M => if x2 < 0 then some ((), M) else if bad (M.1 (10, 0, 0) 2) 900 then none else nm (uI M (30, 0, 0) (Int32.toNatClampNeg (M.1 (10, 0, 0) 2)) ((x1 >>> (x2 &&& 31)) &&& 255)) (fun M1 => nm (uI M1 (10, 0, 0) 2 ((M1.1 (10, 0, 0) 2) + 1)) (fun M2 => nm (x2 + (-8)) (fun e3 => (f_X12_appendWord_3 n) x1 e3 M2)))
set_option maxHeartbeats 4000000 in
set_option maxRecDepth 100000 in
theorem t_X12_appendWord_3 {G : GG} {A : Nat → Prop} {p : Program} {l : Launch} {e : Env} {s : State} {m : MethodId} {args : Array Value} {below : List Frame} {meth : Method} {c : Code} {r : Unit} {M' : Mem} (X : Cx G A p s m args meth c RX12 cX12_appendWord 3) (hr : meth.sig.returnType = none) : ∀ (n : Nat) (x1 : Int32) (x2 : Int32) (M : Mem), f_X12_appendWord_3 n x1 x2 M = some (r, M') → T G A p l e (rmO 0) s m args below meth c 3 0 0 (MQ below (QvO G A M') args s 0 0 A) 3 [(0, .ref (G.2.1 (10, 0, 0))), (1, .int x1), (2, .int x2)] [] M := by
  intro n
  induction n with
  | zero =>
    intro x1 x2 M  h
    cases h
  | succ n ih =>
    intro x1 x2 M  h
    unfold f_X12_appendWord_3 at h
    refine r_iload_n (pc := 3) X dX12_appendWord_3 rfl ?_
    refine r_if_lt (pc := 4) X (tgt := 39) dX12_appendWord_4 (by decide) h (fun h => ?_) (fun h => ?_)
    · cases h
      exact r_vret (pc := 39) X hr dX12_appendWord_39
    · refine r_aload_n (pc := 7) X dX12_appendWord_7 rfl ?_
      refine r_getR (q := (30, 0, 0)) (pc := 8) X ⟨(ltb rfl), (ltb rfl)⟩ fl_X12_7 rfl dX12_appendWord_8 ?_
      refine r_aload_n (pc := 11) X dX12_appendWord_11 rfl ?_
      refine r_getI (pc := 12) X ⟨(ltb rfl), (ltb rfl)⟩ fl_X12_11 rfl dX12_appendWord_12 ?_
      refine r_iload_n (pc := 15) X dX12_appendWord_15 rfl ?_
      refine r_iload_n (pc := 16) X dX12_appendWord_16 rfl ?_
      refine r_ishr (pc := 17) X dX12_appendWord_17 ?_
      refine r_sipush (pc := 18) X (v := 255) dX12_appendWord_18 (by decide) ?_
      refine r_iand (pc := 21) X dX12_appendWord_21 ?_
      refine r_iastN (pc := 22) X (n := 900) ⟨(ltb rfl), (ltb rfl)⟩ rfl (nlt rfl) dX12_appendWord_22 h (fun M1 h => ?_)
      refine r_aload_n (pc := 23) X dX12_appendWord_23 rfl ?_
      refine r_dup (pc := 24) X dX12_appendWord_24 rfl ?_
      refine r_getI (pc := 25) X ⟨(ltb rfl), (ltb rfl)⟩ fl_X12_11 rfl dX12_appendWord_25 ?_
      refine r_iconst (pc := 28) X (v := 1) dX12_appendWord_28 (by decide) ?_
      refine r_iadd (pc := 29) X dX12_appendWord_29 ?_
      refine r_putIN (pc := 30) X ⟨(ltb rfl), (ltb rfl)⟩ fp_X12_11 rfl dX12_appendWord_30 h (fun M2 h => ?_)
      refine r_iincN (pc := 33) X (v0 := (-8)) rfl (by decide) (by decide) dX12_appendWord_33 h (fun e3 h => ?_)
      refine r_goto (pc := 36) X (tgt := 3) dX12_appendWord_36 (by decide) ?_
      exact T_sub (ih _ _ _ h) ⟨rfl, rfl, rfl, trivial⟩
def f_X12_appendWord (x1 : Int32) (M : Mem) : Option (Unit × Mem) :=
  f_X12_appendWord_3 fuelN x1 24 M
set_option maxHeartbeats 4000000 in
set_option maxRecDepth 100000 in
theorem t_X12_appendWord {G : GG} {A : Nat → Prop} {p : Program} {l : Launch} {e : Env} {s : State} {m : MethodId} {args : Array Value} {below : List Frame} {meth : Method} {c : Code} {r : Unit} {M' : Mem} (X : Cx G A p s m args meth c RX12 cX12_appendWord 3) (hr : meth.sig.returnType = none) {x1 : Int32} {M : Mem}  (h : f_X12_appendWord x1 M = some (r, M')) : T G A p l e (rmO 0) s m args below meth c 3 0 0 (MQ below (QvO G A M') args s 0 0 A) 0 [(0, .ref (G.2.1 (10, 0, 0))), (1, .int x1)] [] M := by
  unfold f_X12_appendWord at h
  refine r_bipush (pc := 0) X (v := 24) dX12_appendWord_0 (by decide) ?_
  refine r_istore_n (pc := 2) X (by decide) dX12_appendWord_2 ?_
  exact T_sub (t_X12_appendWord_3 X hr _ _ _ _ h) ⟨rfl, rfl, rfl, trivial⟩
theorem c_X12_appendWord {G : GG} {l : Launch} {x1 : Int32} {r : Unit} {M M' : Mem}  (h : f_X12_appendWord x1 M = some (r, M')) : Met l yX12_appendWord (wsO yX12_appendWord cX12_appendWord 3 none) (rmO 0) (PcO G [.ref (G.2.1 (10, 0, 0)), .int x1] M) (QvO G (AA G) M') 0 0 (AA G) :=
  met_of (own := RX12) rfl (by decide +kernel) (Nat.le_of_ble_eq_true rfl) (fun p e s m args below meth c X hr => t_X12_appendWord X hr  h)
-- ConverterScannerModel.append
def f_X12_append_19 (x1 : Int32) (x2 : Int32) (x3 : Int32) (x4 : Int32) (x5 : Int32) (xs0 : Int32) (M : Mem) : Option (Int32 × Mem) :=
  bnd (f_X12_fails xs0 0 0 M) (fun r1 M2 => if r1 = 0 then bnd (f_X12_appendWord x1 M2) (fun r4 M5 => bnd (f_X12_appendWord x2 M5) (fun r7 M8 => bnd (f_X12_appendWord x3 M8) (fun r10 M11 => bnd (f_X12_appendWord x4 M11) (fun r13 M14 => bnd (f_X12_appendWord x5 M14) (fun r16 M17 => some ((M17.1 (10, 0, 0) 2), M17)))))) else some (0, M2))
set_option maxHeartbeats 4000000 in
set_option maxRecDepth 100000 in
theorem t_X12_append_19 {G : GG} {A : Nat → Prop} {p : Program} {l : Launch} {e : Env} {s : State} {m : MethodId} {args : Array Value} {below : List Frame} {meth : Method} {c : Code} {r : Int32} {M' : Mem} (X : Cx G A p s m args meth c RX12 cX12_append 6) (hr : meth.sig.returnType = some .int) {x1 : Int32} {x2 : Int32} {x3 : Int32} {x4 : Int32} {x5 : Int32} {xs0 : Int32} {M : Mem}  (h : f_X12_append_19 x1 x2 x3 x4 x5 xs0 M = some (r, M')) : T G A p l e (rmO 1) s m args below meth c 6 0 0 (MQ below (QiO G A r M') args s 0 0 A) 19 [(0, .ref (G.2.1 (10, 0, 0))), (1, .int x1), (2, .int x2), (3, .int x3), (4, .int x4), (5, .int x5)] [.int xs0, .ref (G.2.1 (10, 0, 0))] M := by
  unfold f_X12_append_19 at h
  refine r_iconst (pc := 19) X (v := 0) dX12_append_19 (by decide) ?_
  refine r_iconst (pc := 20) X (v := 0) dX12_append_20 (by decide) ?_
  refine bndE h (fun r1 M2 h3 h => ?_)
  refine r_callVi3 (pc := 21) X ⟨(ltb rfl), (ltb rfl)⟩ rfl vy_X12_fails my_X12_fails ml_X12_14 ⟨Nat.le_of_ble_eq_true rfl, Nat.le_of_ble_eq_true rfl, Nat.le_of_ble_eq_true rfl, Nat.le_of_ble_eq_true rfl⟩ (c_X12_fails  h3) (Nat.le_of_ble_eq_true rfl) dX12_append_21 ?_
  refine r_if_eq (pc := 24) X (tgt := 29) dX12_append_24 (by decide) h (fun h => ?_) (fun h => ?_)
  · refine r_aload_n (pc := 29) X dX12_append_29 rfl ?_
    refine r_iload_n (pc := 30) X dX12_append_30 rfl ?_
    refine bndE h (fun r4 M5 h6 h => ?_)
    refine r_callVv1 (pc := 31) X ⟨(ltb rfl), (ltb rfl)⟩ rfl vy_X12_appendWord my_X12_appendWord ml_X12_18 ⟨Nat.le_of_ble_eq_true rfl, Nat.le_of_ble_eq_true rfl, Nat.le_of_ble_eq_true rfl, Nat.le_of_ble_eq_true rfl⟩ (c_X12_appendWord  h6) (Nat.le_of_ble_eq_true rfl) dX12_append_31 ?_
    refine r_aload_n (pc := 34) X dX12_append_34 rfl ?_
    refine r_iload_n (pc := 35) X dX12_append_35 rfl ?_
    refine bndE h (fun r7 M8 h9 h => ?_)
    refine r_callVv1 (pc := 36) X ⟨(ltb rfl), (ltb rfl)⟩ rfl vy_X12_appendWord my_X12_appendWord ml_X12_18 ⟨Nat.le_of_ble_eq_true rfl, Nat.le_of_ble_eq_true rfl, Nat.le_of_ble_eq_true rfl, Nat.le_of_ble_eq_true rfl⟩ (c_X12_appendWord  h9) (Nat.le_of_ble_eq_true rfl) dX12_append_36 ?_
    refine r_aload_n (pc := 39) X dX12_append_39 rfl ?_
    refine r_iload_n (pc := 40) X dX12_append_40 rfl ?_
    refine bndE h (fun r10 M11 h12 h => ?_)
    refine r_callVv1 (pc := 41) X ⟨(ltb rfl), (ltb rfl)⟩ rfl vy_X12_appendWord my_X12_appendWord ml_X12_18 ⟨Nat.le_of_ble_eq_true rfl, Nat.le_of_ble_eq_true rfl, Nat.le_of_ble_eq_true rfl, Nat.le_of_ble_eq_true rfl⟩ (c_X12_appendWord  h12) (Nat.le_of_ble_eq_true rfl) dX12_append_41 ?_
    refine r_aload_n (pc := 44) X dX12_append_44 rfl ?_
    refine r_iload (pc := 45) X dX12_append_45 rfl ?_
    refine bndE h (fun r13 M14 h15 h => ?_)
    refine r_callVv1 (pc := 47) X ⟨(ltb rfl), (ltb rfl)⟩ rfl vy_X12_appendWord my_X12_appendWord ml_X12_18 ⟨Nat.le_of_ble_eq_true rfl, Nat.le_of_ble_eq_true rfl, Nat.le_of_ble_eq_true rfl, Nat.le_of_ble_eq_true rfl⟩ (c_X12_appendWord  h15) (Nat.le_of_ble_eq_true rfl) dX12_append_47 ?_
    refine r_aload_n (pc := 50) X dX12_append_50 rfl ?_
    refine r_iload (pc := 51) X dX12_append_51 rfl ?_
    refine bndE h (fun r16 M17 h18 h => ?_)
    refine r_callVv1 (pc := 53) X ⟨(ltb rfl), (ltb rfl)⟩ rfl vy_X12_appendWord my_X12_appendWord ml_X12_18 ⟨Nat.le_of_ble_eq_true rfl, Nat.le_of_ble_eq_true rfl, Nat.le_of_ble_eq_true rfl, Nat.le_of_ble_eq_true rfl⟩ (c_X12_appendWord  h18) (Nat.le_of_ble_eq_true rfl) dX12_append_53 ?_
    refine r_aload_n (pc := 56) X dX12_append_56 rfl ?_
    refine r_getI (pc := 57) X ⟨(ltb rfl), (ltb rfl)⟩ fl_X12_11 rfl dX12_append_57 ?_
    cases h
    exact r_iret (pc := 60) X hr dX12_append_60
  · refine r_iconst (pc := 27) X (v := 0) dX12_append_27 (by decide) ?_
    cases h
    exact r_iret (pc := 28) X hr dX12_append_28
def f_X12_append (x1 : Int32) (x2 : Int32) (x3 : Int32) (x4 : Int32) (x5 : Int32) (M : Mem) : Option (Int32 × Mem) :=
  if ((M.1 (10, 0, 0) 2) + 20) ≤ 900 then f_X12_append_19 x1 x2 x3 x4 x5 0 M else f_X12_append_19 x1 x2 x3 x4 x5 1 M
set_option maxHeartbeats 4000000 in
set_option maxRecDepth 100000 in
theorem t_X12_append {G : GG} {A : Nat → Prop} {p : Program} {l : Launch} {e : Env} {s : State} {m : MethodId} {args : Array Value} {below : List Frame} {meth : Method} {c : Code} {r : Int32} {M' : Mem} (X : Cx G A p s m args meth c RX12 cX12_append 6) (hr : meth.sig.returnType = some .int) {x1 : Int32} {x2 : Int32} {x3 : Int32} {x4 : Int32} {x5 : Int32} {M : Mem}  (h : f_X12_append x1 x2 x3 x4 x5 M = some (r, M')) : T G A p l e (rmO 1) s m args below meth c 6 0 0 (MQ below (QiO G A r M') args s 0 0 A) 0 [(0, .ref (G.2.1 (10, 0, 0))), (1, .int x1), (2, .int x2), (3, .int x3), (4, .int x4), (5, .int x5)] [] M := by
  unfold f_X12_append at h
  refine r_aload_n (pc := 0) X dX12_append_0 rfl ?_
  refine r_aload_n (pc := 1) X dX12_append_1 rfl ?_
  refine r_getI (pc := 2) X ⟨(ltb rfl), (ltb rfl)⟩ fl_X12_11 rfl dX12_append_2 ?_
  refine r_bipush (pc := 5) X (v := 20) dX12_append_5 (by decide) ?_
  refine r_iadd (pc := 7) X dX12_append_7 ?_
  refine r_sipush (pc := 8) X (v := 900) dX12_append_8 (by decide) ?_
  refine r_icmp_le (pc := 11) X (tgt := 18) dX12_append_11 (by decide) h (fun h => ?_) (fun h => ?_)
  · refine r_iconst (pc := 18) X (v := 0) dX12_append_18 (by decide) ?_
    exact T_sub (t_X12_append_19 X hr h) ⟨rfl, rfl, rfl, rfl, rfl, rfl, trivial⟩
  · refine r_iconst (pc := 14) X (v := 1) dX12_append_14 (by decide) ?_
    refine r_goto (pc := 15) X (tgt := 19) dX12_append_15 (by decide) ?_
    exact T_sub (t_X12_append_19 X hr h) ⟨rfl, rfl, rfl, rfl, rfl, rfl, trivial⟩
theorem c_X12_append {G : GG} {l : Launch} {x1 : Int32} {x2 : Int32} {x3 : Int32} {x4 : Int32} {x5 : Int32} {r : Int32} {M M' : Mem}  (h : f_X12_append x1 x2 x3 x4 x5 M = some (r, M')) : Met l yX12_append (wsO yX12_append cX12_append 6 (some .int)) (rmO 1) (PcO G [.ref (G.2.1 (10, 0, 0)), .int x1, .int x2, .int x3, .int x4, .int x5] M) (QiO G (AA G) r M') 0 0 (AA G) :=
  met_of (own := RX12) rfl (by decide +kernel) (Nat.le_of_ble_eq_true rfl) (fun p e s m args below meth c X hr => t_X12_append X hr  h)
-- ConverterScannerModel.truncate
def f_X12_truncate_18 (x1 : Int32) (xs0 : Int32) (M : Mem) : Option (Int32 × Mem) :=
  bnd (f_X12_fails xs0 0 0 M) (fun r1 M2 => if r1 = 0 then nm (uI M2 (10, 0, 0) 2 x1) (fun M4 => some (x1, M4)) else some (0, M2))
set_option maxHeartbeats 4000000 in
set_option maxRecDepth 100000 in
theorem t_X12_truncate_18 {G : GG} {A : Nat → Prop} {p : Program} {l : Launch} {e : Env} {s : State} {m : MethodId} {args : Array Value} {below : List Frame} {meth : Method} {c : Code} {r : Int32} {M' : Mem} (X : Cx G A p s m args meth c RX12 cX12_truncate 2) (hr : meth.sig.returnType = some .int) {x1 : Int32} {xs0 : Int32} {M : Mem}  (h : f_X12_truncate_18 x1 xs0 M = some (r, M')) : T G A p l e (rmO 1) s m args below meth c 2 0 0 (MQ below (QiO G A r M') args s 0 0 A) 18 [(0, .ref (G.2.1 (10, 0, 0))), (1, .int x1)] [.int xs0, .ref (G.2.1 (10, 0, 0))] M := by
  unfold f_X12_truncate_18 at h
  refine r_iconst (pc := 18) X (v := 0) dX12_truncate_18 (by decide) ?_
  refine r_iconst (pc := 19) X (v := 0) dX12_truncate_19 (by decide) ?_
  refine bndE h (fun r1 M2 h3 h => ?_)
  refine r_callVi3 (pc := 20) X ⟨(ltb rfl), (ltb rfl)⟩ rfl vy_X12_fails my_X12_fails ml_X12_14 ⟨Nat.le_of_ble_eq_true rfl, Nat.le_of_ble_eq_true rfl, Nat.le_of_ble_eq_true rfl, Nat.le_of_ble_eq_true rfl⟩ (c_X12_fails  h3) (Nat.le_of_ble_eq_true rfl) dX12_truncate_20 ?_
  refine r_if_eq (pc := 23) X (tgt := 28) dX12_truncate_23 (by decide) h (fun h => ?_) (fun h => ?_)
  · refine r_aload_n (pc := 28) X dX12_truncate_28 rfl ?_
    refine r_iload_n (pc := 29) X dX12_truncate_29 rfl ?_
    refine r_putIN (pc := 30) X ⟨(ltb rfl), (ltb rfl)⟩ fp_X12_11 rfl dX12_truncate_30 h (fun M4 h => ?_)
    refine r_iload_n (pc := 33) X dX12_truncate_33 rfl ?_
    cases h
    exact r_iret (pc := 34) X hr dX12_truncate_34
  · refine r_iconst (pc := 26) X (v := 0) dX12_truncate_26 (by decide) ?_
    cases h
    exact r_iret (pc := 27) X hr dX12_truncate_27
def f_X12_truncate (x1 : Int32) (M : Mem) : Option (Int32 × Mem) :=
  bnd (f_X12_inRange x1 0 (M.1 (10, 0, 0) 2) M) (fun r1 M2 => if r1 = 0 then f_X12_truncate_18 x1 1 M2 else f_X12_truncate_18 x1 0 M2)
set_option maxHeartbeats 4000000 in
set_option maxRecDepth 100000 in
theorem t_X12_truncate {G : GG} {A : Nat → Prop} {p : Program} {l : Launch} {e : Env} {s : State} {m : MethodId} {args : Array Value} {below : List Frame} {meth : Method} {c : Code} {r : Int32} {M' : Mem} (X : Cx G A p s m args meth c RX12 cX12_truncate 2) (hr : meth.sig.returnType = some .int) {x1 : Int32} {M : Mem}  (h : f_X12_truncate x1 M = some (r, M')) : T G A p l e (rmO 1) s m args below meth c 2 0 0 (MQ below (QiO G A r M') args s 0 0 A) 0 [(0, .ref (G.2.1 (10, 0, 0))), (1, .int x1)] [] M := by
  unfold f_X12_truncate at h
  refine r_aload_n (pc := 0) X dX12_truncate_0 rfl ?_
  refine r_iload_n (pc := 1) X dX12_truncate_1 rfl ?_
  refine r_iconst (pc := 2) X (v := 0) dX12_truncate_2 (by decide) ?_
  refine r_aload_n (pc := 3) X dX12_truncate_3 rfl ?_
  refine r_getI (pc := 4) X ⟨(ltb rfl), (ltb rfl)⟩ fl_X12_11 rfl dX12_truncate_4 ?_
  refine bndE h (fun r1 M2 h3 h => ?_)
  refine r_callSi3 (pc := 7) X sy_X12_inRange my_X12_inRange ml_X12_22 ⟨Nat.le_of_ble_eq_true rfl, Nat.le_of_ble_eq_true rfl, Nat.le_of_ble_eq_true rfl, Nat.le_of_ble_eq_true rfl⟩ (c_X12_inRange  h3) (Nat.le_of_ble_eq_true rfl) dX12_truncate_7 ?_
  refine r_if_ne (pc := 10) X (tgt := 17) dX12_truncate_10 (by decide) h (fun h => ?_) (fun h => ?_)
  · refine r_iconst (pc := 17) X (v := 0) dX12_truncate_17 (by decide) ?_
    exact T_sub (t_X12_truncate_18 X hr h) ⟨rfl, rfl, trivial⟩
  · refine r_iconst (pc := 13) X (v := 1) dX12_truncate_13 (by decide) ?_
    refine r_goto (pc := 14) X (tgt := 18) dX12_truncate_14 (by decide) ?_
    exact T_sub (t_X12_truncate_18 X hr h) ⟨rfl, rfl, trivial⟩
theorem c_X12_truncate {G : GG} {l : Launch} {x1 : Int32} {r : Int32} {M M' : Mem}  (h : f_X12_truncate x1 M = some (r, M')) : Met l yX12_truncate (wsO yX12_truncate cX12_truncate 2 (some .int)) (rmO 1) (PcO G [.ref (G.2.1 (10, 0, 0)), .int x1] M) (QiO G (AA G) r M') 0 0 (AA G) :=
  met_of (own := RX12) rfl (by decide +kernel) (Nat.le_of_ble_eq_true rfl) (fun p e s m args below meth c X hr => t_X12_truncate X hr  h)
-- ConverterScannerModel.entries
def f_X12_entries (x1 : Int32) (M : Mem) : Option (Int32 × Mem) :=
  if bad (0 + x1) 104 then none else some ((M.1 (31, 0, 0) (Int32.toNatClampNeg (0 + x1))), M)
set_option maxHeartbeats 4000000 in
set_option maxRecDepth 100000 in
theorem t_X12_entries {G : GG} {A : Nat → Prop} {p : Program} {l : Launch} {e : Env} {s : State} {m : MethodId} {args : Array Value} {below : List Frame} {meth : Method} {c : Code} {r : Int32} {M' : Mem} (X : Cx G A p s m args meth c RX12 cX12_entries 2) (hr : meth.sig.returnType = some .int) {x1 : Int32} {M : Mem}  (h : f_X12_entries x1 M = some (r, M')) : T G A p l e (rmO 0) s m args below meth c 2 0 0 (MQ below (QiO G A r M') args s 0 0 A) 0 [(0, .ref (G.2.1 (10, 0, 0))), (1, .int x1)] [] M := by
  unfold f_X12_entries at h
  refine r_aload_n (pc := 0) X dX12_entries_0 rfl ?_
  refine r_getR (q := (31, 0, 0)) (pc := 1) X ⟨(ltb rfl), (ltb rfl)⟩ fl_X12_26 rfl dX12_entries_1 ?_
  refine r_iconst (pc := 4) X (v := 0) dX12_entries_4 (by decide) ?_
  refine r_iload_n (pc := 5) X dX12_entries_5 rfl ?_
  refine r_iadd (pc := 6) X dX12_entries_6 ?_
  refine r_iald (pc := 7) X (n := 104) ⟨(ltb rfl), (ltb rfl)⟩ rfl (nlt rfl) dX12_entries_7 h (fun h => ?_)
  cases h
  exact r_iret (pc := 8) X hr dX12_entries_8
theorem c_X12_entries {G : GG} {l : Launch} {x1 : Int32} {r : Int32} {M M' : Mem}  (h : f_X12_entries x1 M = some (r, M')) : Met l yX12_entries (wsO yX12_entries cX12_entries 2 (some .int)) (rmO 0) (PcO G [.ref (G.2.1 (10, 0, 0)), .int x1] M) (QiO G (AA G) r M') 0 0 (AA G) :=
  met_of (own := RX12) rfl (by decide +kernel) (Nat.le_of_ble_eq_true rfl) (fun p e s m args below meth c X hr => t_X12_entries X hr  h)
-- ConverterScannerModel.entryOf
def f_X12_entryOf (x1 : Int32) (x2 : Int32) (M : Mem) : Option (Int32 × Mem) :=
  if bad ((10 + (8 * x1)) + x2) 104 then none else some ((M.1 (31, 0, 0) (Int32.toNatClampNeg ((10 + (8 * x1)) + x2))), M)
set_option maxHeartbeats 4000000 in
set_option maxRecDepth 100000 in
theorem t_X12_entryOf {G : GG} {A : Nat → Prop} {p : Program} {l : Launch} {e : Env} {s : State} {m : MethodId} {args : Array Value} {below : List Frame} {meth : Method} {c : Code} {r : Int32} {M' : Mem} (X : Cx G A p s m args meth c RX12 cX12_entryOf 3) (hr : meth.sig.returnType = some .int) {x1 : Int32} {x2 : Int32} {M : Mem}  (h : f_X12_entryOf x1 x2 M = some (r, M')) : T G A p l e (rmO 0) s m args below meth c 3 0 0 (MQ below (QiO G A r M') args s 0 0 A) 0 [(0, .ref (G.2.1 (10, 0, 0))), (1, .int x1), (2, .int x2)] [] M := by
  unfold f_X12_entryOf at h
  refine r_aload_n (pc := 0) X dX12_entryOf_0 rfl ?_
  refine r_getR (q := (31, 0, 0)) (pc := 1) X ⟨(ltb rfl), (ltb rfl)⟩ fl_X12_26 rfl dX12_entryOf_1 ?_
  refine r_bipush (pc := 4) X (v := 10) dX12_entryOf_4 (by decide) ?_
  refine r_bipush (pc := 6) X (v := 8) dX12_entryOf_6 (by decide) ?_
  refine r_iload_n (pc := 8) X dX12_entryOf_8 rfl ?_
  refine r_imul (pc := 9) X dX12_entryOf_9 ?_
  refine r_iadd (pc := 10) X dX12_entryOf_10 ?_
  refine r_iload_n (pc := 11) X dX12_entryOf_11 rfl ?_
  refine r_iadd (pc := 12) X dX12_entryOf_12 ?_
  refine r_iald (pc := 13) X (n := 104) ⟨(ltb rfl), (ltb rfl)⟩ rfl (nlt rfl) dX12_entryOf_13 h (fun h => ?_)
  cases h
  exact r_iret (pc := 14) X hr dX12_entryOf_14
theorem c_X12_entryOf {G : GG} {l : Launch} {x1 : Int32} {x2 : Int32} {r : Int32} {M M' : Mem}  (h : f_X12_entryOf x1 x2 M = some (r, M')) : Met l yX12_entryOf (wsO yX12_entryOf cX12_entryOf 3 (some .int)) (rmO 0) (PcO G [.ref (G.2.1 (10, 0, 0)), .int x1, .int x2] M) (QiO G (AA G) r M') 0 0 (AA G) :=
  met_of (own := RX12) rfl (by decide +kernel) (Nat.le_of_ble_eq_true rfl) (fun p e s m args below meth c X hr => t_X12_entryOf X hr  h)
-- ConverterScannerModel.its
def f_X12_its (x1 : Int32) (M : Mem) : Option (Int32 × Mem) :=
  if bad ((472 * (M.1 (10, 0, 0) 7)) + x1) 2360 then none else some ((M.1 (32, 0, 0) (Int32.toNatClampNeg ((472 * (M.1 (10, 0, 0) 7)) + x1))), M)
set_option maxHeartbeats 4000000 in
set_option maxRecDepth 100000 in
theorem t_X12_its {G : GG} {A : Nat → Prop} {p : Program} {l : Launch} {e : Env} {s : State} {m : MethodId} {args : Array Value} {below : List Frame} {meth : Method} {c : Code} {r : Int32} {M' : Mem} (X : Cx G A p s m args meth c RX12 cX12_its 2) (hr : meth.sig.returnType = some .int) {x1 : Int32} {M : Mem}  (h : f_X12_its x1 M = some (r, M')) : T G A p l e (rmO 0) s m args below meth c 2 0 0 (MQ below (QiO G A r M') args s 0 0 A) 0 [(0, .ref (G.2.1 (10, 0, 0))), (1, .int x1)] [] M := by
  unfold f_X12_its at h
  refine r_aload_n (pc := 0) X dX12_its_0 rfl ?_
  refine r_getR (q := (32, 0, 0)) (pc := 1) X ⟨(ltb rfl), (ltb rfl)⟩ fl_X12_29 rfl dX12_its_1 ?_
  refine r_sipush (pc := 4) X (v := 472) dX12_its_4 (by decide) ?_
  refine r_aload_n (pc := 7) X dX12_its_7 rfl ?_
  refine r_getI (pc := 8) X ⟨(ltb rfl), (ltb rfl)⟩ fl_X12_32 rfl dX12_its_8 ?_
  refine r_imul (pc := 11) X dX12_its_11 ?_
  refine r_iload_n (pc := 12) X dX12_its_12 rfl ?_
  refine r_iadd (pc := 13) X dX12_its_13 ?_
  refine r_iald (pc := 14) X (n := 2360) ⟨(ltb rfl), (ltb rfl)⟩ rfl (nlt rfl) dX12_its_14 h (fun h => ?_)
  cases h
  exact r_iret (pc := 15) X hr dX12_its_15
theorem c_X12_its {G : GG} {l : Launch} {x1 : Int32} {r : Int32} {M M' : Mem}  (h : f_X12_its x1 M = some (r, M')) : Met l yX12_its (wsO yX12_its cX12_its 2 (some .int)) (rmO 0) (PcO G [.ref (G.2.1 (10, 0, 0)), .int x1] M) (QiO G (AA G) r M') 0 0 (AA G) :=
  met_of (own := RX12) rfl (by decide +kernel) (Nat.le_of_ble_eq_true rfl) (fun p e s m args below meth c X hr => t_X12_its X hr  h)
-- ConverterScannerModel.puts
def f_X12_puts (x1 : Int32) (x2 : Int32) (M : Mem) : Option (Unit × Mem) :=
  if bad ((472 * (M.1 (10, 0, 0) 7)) + x1) 2360 then none else nm (uI M (32, 0, 0) (Int32.toNatClampNeg ((472 * (M.1 (10, 0, 0) 7)) + x1)) x2) (fun M1 => some ((), M1))
set_option maxHeartbeats 4000000 in
set_option maxRecDepth 100000 in
theorem t_X12_puts {G : GG} {A : Nat → Prop} {p : Program} {l : Launch} {e : Env} {s : State} {m : MethodId} {args : Array Value} {below : List Frame} {meth : Method} {c : Code} {r : Unit} {M' : Mem} (X : Cx G A p s m args meth c RX12 cX12_puts 3) (hr : meth.sig.returnType = none) {x1 : Int32} {x2 : Int32} {M : Mem}  (h : f_X12_puts x1 x2 M = some (r, M')) : T G A p l e (rmO 0) s m args below meth c 3 0 0 (MQ below (QvO G A M') args s 0 0 A) 0 [(0, .ref (G.2.1 (10, 0, 0))), (1, .int x1), (2, .int x2)] [] M := by
  unfold f_X12_puts at h
  refine r_aload_n (pc := 0) X dX12_puts_0 rfl ?_
  refine r_getR (q := (32, 0, 0)) (pc := 1) X ⟨(ltb rfl), (ltb rfl)⟩ fl_X12_29 rfl dX12_puts_1 ?_
  refine r_sipush (pc := 4) X (v := 472) dX12_puts_4 (by decide) ?_
  refine r_aload_n (pc := 7) X dX12_puts_7 rfl ?_
  refine r_getI (pc := 8) X ⟨(ltb rfl), (ltb rfl)⟩ fl_X12_32 rfl dX12_puts_8 ?_
  refine r_imul (pc := 11) X dX12_puts_11 ?_
  refine r_iload_n (pc := 12) X dX12_puts_12 rfl ?_
  refine r_iadd (pc := 13) X dX12_puts_13 ?_
  refine r_iload_n (pc := 14) X dX12_puts_14 rfl ?_
  refine r_iastN (pc := 15) X (n := 2360) ⟨(ltb rfl), (ltb rfl)⟩ rfl (nlt rfl) dX12_puts_15 h (fun M1 h => ?_)
  cases h
  exact r_vret (pc := 16) X hr dX12_puts_16
theorem c_X12_puts {G : GG} {l : Launch} {x1 : Int32} {x2 : Int32} {r : Unit} {M M' : Mem}  (h : f_X12_puts x1 x2 M = some (r, M')) : Met l yX12_puts (wsO yX12_puts cX12_puts 3 none) (rmO 0) (PcO G [.ref (G.2.1 (10, 0, 0)), .int x1, .int x2] M) (QvO G (AA G) M') 0 0 (AA G) :=
  met_of (own := RX12) rfl (by decide +kernel) (Nat.le_of_ble_eq_true rfl) (fun p e s m args below meth c X hr => t_X12_puts X hr  h)
-- ConverterScannerModel.adds
def f_X12_adds (x1 : Int32) (x2 : Int32) (M : Mem) : Option (Unit × Mem) :=
  if bad ((472 * (M.1 (10, 0, 0) 7)) + x1) 2360 then none else if bad ((472 * (M.1 (10, 0, 0) 7)) + x1) 2360 then none else nm (uI M (32, 0, 0) (Int32.toNatClampNeg ((472 * (M.1 (10, 0, 0) 7)) + x1)) ((M.1 (32, 0, 0) (Int32.toNatClampNeg ((472 * (M.1 (10, 0, 0) 7)) + x1))) + x2)) (fun M1 => some ((), M1))
set_option maxHeartbeats 4000000 in
set_option maxRecDepth 100000 in
theorem t_X12_adds {G : GG} {A : Nat → Prop} {p : Program} {l : Launch} {e : Env} {s : State} {m : MethodId} {args : Array Value} {below : List Frame} {meth : Method} {c : Code} {r : Unit} {M' : Mem} (X : Cx G A p s m args meth c RX12 cX12_adds 3) (hr : meth.sig.returnType = none) {x1 : Int32} {x2 : Int32} {M : Mem}  (h : f_X12_adds x1 x2 M = some (r, M')) : T G A p l e (rmO 0) s m args below meth c 3 0 0 (MQ below (QvO G A M') args s 0 0 A) 0 [(0, .ref (G.2.1 (10, 0, 0))), (1, .int x1), (2, .int x2)] [] M := by
  unfold f_X12_adds at h
  refine r_aload_n (pc := 0) X dX12_adds_0 rfl ?_
  refine r_getR (q := (32, 0, 0)) (pc := 1) X ⟨(ltb rfl), (ltb rfl)⟩ fl_X12_29 rfl dX12_adds_1 ?_
  refine r_sipush (pc := 4) X (v := 472) dX12_adds_4 (by decide) ?_
  refine r_aload_n (pc := 7) X dX12_adds_7 rfl ?_
  refine r_getI (pc := 8) X ⟨(ltb rfl), (ltb rfl)⟩ fl_X12_32 rfl dX12_adds_8 ?_
  refine r_imul (pc := 11) X dX12_adds_11 ?_
  refine r_iload_n (pc := 12) X dX12_adds_12 rfl ?_
  refine r_iadd (pc := 13) X dX12_adds_13 ?_
  refine r_dup2 (pc := 14) X dX12_adds_14 rfl rfl ?_
  refine r_iald (pc := 15) X (n := 2360) ⟨(ltb rfl), (ltb rfl)⟩ rfl (nlt rfl) dX12_adds_15 h (fun h => ?_)
  refine r_iload_n (pc := 16) X dX12_adds_16 rfl ?_
  refine r_iadd (pc := 17) X dX12_adds_17 ?_
  refine r_iastN (pc := 18) X (n := 2360) ⟨(ltb rfl), (ltb rfl)⟩ rfl (nlt rfl) dX12_adds_18 h (fun M1 h => ?_)
  cases h
  exact r_vret (pc := 19) X hr dX12_adds_19
theorem c_X12_adds {G : GG} {l : Launch} {x1 : Int32} {x2 : Int32} {r : Unit} {M M' : Mem}  (h : f_X12_adds x1 x2 M = some (r, M')) : Met l yX12_adds (wsO yX12_adds cX12_adds 3 none) (rmO 0) (PcO G [.ref (G.2.1 (10, 0, 0)), .int x1, .int x2] M) (QvO G (AA G) M') 0 0 (AA G) :=
  met_of (own := RX12) rfl (by decide +kernel) (Nat.le_of_ble_eq_true rfl) (fun p e s m args below meth c X hr => t_X12_adds X hr  h)
-- ConverterScannerModel.seq
def f_X12_seq (x0 : Int32) (x1 : Int32) (M : Mem) : Option (Int32 × Mem) :=
  some (((20 + (12 * x0)) + x1), M)
set_option maxHeartbeats 4000000 in
set_option maxRecDepth 100000 in
theorem t_X12_seq {G : GG} {A : Nat → Prop} {p : Program} {l : Launch} {e : Env} {s : State} {m : MethodId} {args : Array Value} {below : List Frame} {meth : Method} {c : Code} {r : Int32} {M' : Mem} (X : Cx G A p s m args meth c RX12 cX12_seq 2) (hr : meth.sig.returnType = some .int) {x0 : Int32} {x1 : Int32} {M : Mem}  (h : f_X12_seq x0 x1 M = some (r, M')) : T G A p l e (rmO 0) s m args below meth c 2 0 0 (MQ below (QiO G A r M') args s 0 0 A) 0 [(0, .int x0), (1, .int x1)] [] M := by
  unfold f_X12_seq at h
  refine r_bipush (pc := 0) X (v := 20) dX12_seq_0 (by decide) ?_
  refine r_bipush (pc := 2) X (v := 12) dX12_seq_2 (by decide) ?_
  refine r_iload_n (pc := 4) X dX12_seq_4 rfl ?_
  refine r_imul (pc := 5) X dX12_seq_5 ?_
  refine r_iadd (pc := 6) X dX12_seq_6 ?_
  refine r_iload_n (pc := 7) X dX12_seq_7 rfl ?_
  refine r_iadd (pc := 8) X dX12_seq_8 ?_
  cases h
  exact r_iret (pc := 9) X hr dX12_seq_9
theorem c_X12_seq {G : GG} {l : Launch} {x0 : Int32} {x1 : Int32} {r : Int32} {M M' : Mem}  (h : f_X12_seq x0 x1 M = some (r, M')) : Met l yX12_seq (wsO yX12_seq cX12_seq 2 (some .int)) (rmO 0) (PcO G [.int x0, .int x1] M) (QiO G (AA G) r M') 0 0 (AA G) :=
  met_of (own := RX12) rfl (by decide +kernel) (Nat.le_of_ble_eq_true rfl) (fun p e s m args below meth c X hr => t_X12_seq X hr  h)
-- ConverterScannerModel.chan
def f_X12_chan (x0 : Int32) (x1 : Int32) (M : Mem) : Option (Int32 × Mem) :=
  some (((44 + (7 * x0)) + x1), M)
set_option maxHeartbeats 4000000 in
set_option maxRecDepth 100000 in
theorem t_X12_chan {G : GG} {A : Nat → Prop} {p : Program} {l : Launch} {e : Env} {s : State} {m : MethodId} {args : Array Value} {below : List Frame} {meth : Method} {c : Code} {r : Int32} {M' : Mem} (X : Cx G A p s m args meth c RX12 cX12_chan 2) (hr : meth.sig.returnType = some .int) {x0 : Int32} {x1 : Int32} {M : Mem}  (h : f_X12_chan x0 x1 M = some (r, M')) : T G A p l e (rmO 0) s m args below meth c 2 0 0 (MQ below (QiO G A r M') args s 0 0 A) 0 [(0, .int x0), (1, .int x1)] [] M := by
  unfold f_X12_chan at h
  refine r_bipush (pc := 0) X (v := 44) dX12_chan_0 (by decide) ?_
  refine r_bipush (pc := 2) X (v := 7) dX12_chan_2 (by decide) ?_
  refine r_iload_n (pc := 4) X dX12_chan_4 rfl ?_
  refine r_imul (pc := 5) X dX12_chan_5 ?_
  refine r_iadd (pc := 6) X dX12_chan_6 ?_
  refine r_iload_n (pc := 7) X dX12_chan_7 rfl ?_
  refine r_iadd (pc := 8) X dX12_chan_8 ?_
  cases h
  exact r_iret (pc := 9) X hr dX12_chan_9
theorem c_X12_chan {G : GG} {l : Launch} {x0 : Int32} {x1 : Int32} {r : Int32} {M M' : Mem}  (h : f_X12_chan x0 x1 M = some (r, M')) : Met l yX12_chan (wsO yX12_chan cX12_chan 2 (some .int)) (rmO 0) (PcO G [.int x0, .int x1] M) (QiO G (AA G) r M') 0 0 (AA G) :=
  met_of (own := RX12) rfl (by decide +kernel) (Nat.le_of_ble_eq_true rfl) (fun p e s m args below meth c X hr => t_X12_chan X hr  h)
-- ConverterScannerModel.trig
def f_X12_trig (x0 : Int32) (x1 : Int32) (M : Mem) : Option (Int32 × Mem) :=
  some (((100 + (2 * x0)) + x1), M)
set_option maxHeartbeats 4000000 in
set_option maxRecDepth 100000 in
theorem t_X12_trig {G : GG} {A : Nat → Prop} {p : Program} {l : Launch} {e : Env} {s : State} {m : MethodId} {args : Array Value} {below : List Frame} {meth : Method} {c : Code} {r : Int32} {M' : Mem} (X : Cx G A p s m args meth c RX12 cX12_trig 2) (hr : meth.sig.returnType = some .int) {x0 : Int32} {x1 : Int32} {M : Mem}  (h : f_X12_trig x0 x1 M = some (r, M')) : T G A p l e (rmO 0) s m args below meth c 2 0 0 (MQ below (QiO G A r M') args s 0 0 A) 0 [(0, .int x0), (1, .int x1)] [] M := by
  unfold f_X12_trig at h
  refine r_bipush (pc := 0) X (v := 100) dX12_trig_0 (by decide) ?_
  refine r_iconst (pc := 2) X (v := 2) dX12_trig_2 (by decide) ?_
  refine r_iload_n (pc := 3) X dX12_trig_3 rfl ?_
  refine r_imul (pc := 4) X dX12_trig_4 ?_
  refine r_iadd (pc := 5) X dX12_trig_5 ?_
  refine r_iload_n (pc := 6) X dX12_trig_6 rfl ?_
  refine r_iadd (pc := 7) X dX12_trig_7 ?_
  cases h
  exact r_iret (pc := 8) X hr dX12_trig_8
theorem c_X12_trig {G : GG} {l : Launch} {x0 : Int32} {x1 : Int32} {r : Int32} {M M' : Mem}  (h : f_X12_trig x0 x1 M = some (r, M')) : Met l yX12_trig (wsO yX12_trig cX12_trig 2 (some .int)) (rmO 0) (PcO G [.int x0, .int x1] M) (QiO G (AA G) r M') 0 0 (AA G) :=
  met_of (own := RX12) rfl (by decide +kernel) (Nat.le_of_ble_eq_true rfl) (fun p e s m args below meth c X hr => t_X12_trig X hr  h)
-- ConverterScannerModel.win
def f_X12_win (x0 : Int32) (x1 : Int32) (M : Mem) : Option (Int32 × Mem) :=
  some (((108 + (8 * x0)) + x1), M)
set_option maxHeartbeats 4000000 in
set_option maxRecDepth 100000 in
theorem t_X12_win {G : GG} {A : Nat → Prop} {p : Program} {l : Launch} {e : Env} {s : State} {m : MethodId} {args : Array Value} {below : List Frame} {meth : Method} {c : Code} {r : Int32} {M' : Mem} (X : Cx G A p s m args meth c RX12 cX12_win 2) (hr : meth.sig.returnType = some .int) {x0 : Int32} {x1 : Int32} {M : Mem}  (h : f_X12_win x0 x1 M = some (r, M')) : T G A p l e (rmO 0) s m args below meth c 2 0 0 (MQ below (QiO G A r M') args s 0 0 A) 0 [(0, .int x0), (1, .int x1)] [] M := by
  unfold f_X12_win at h
  refine r_bipush (pc := 0) X (v := 108) dX12_win_0 (by decide) ?_
  refine r_bipush (pc := 2) X (v := 8) dX12_win_2 (by decide) ?_
  refine r_iload_n (pc := 4) X dX12_win_4 rfl ?_
  refine r_imul (pc := 5) X dX12_win_5 ?_
  refine r_iadd (pc := 6) X dX12_win_6 ?_
  refine r_iload_n (pc := 7) X dX12_win_7 rfl ?_
  refine r_iadd (pc := 8) X dX12_win_8 ?_
  cases h
  exact r_iret (pc := 9) X hr dX12_win_9
theorem c_X12_win {G : GG} {l : Launch} {x0 : Int32} {x1 : Int32} {r : Int32} {M M' : Mem}  (h : f_X12_win x0 x1 M = some (r, M')) : Met l yX12_win (wsO yX12_win cX12_win 2 (some .int)) (rmO 0) (PcO G [.int x0, .int x1] M) (QiO G (AA G) r M') 0 0 (AA G) :=
  met_of (own := RX12) rfl (by decide +kernel) (Nat.le_of_ble_eq_true rfl) (fun p e s m args below meth c X hr => t_X12_win X hr  h)
-- ConverterScannerModel.copyBlock
def f_X12_copyBlock_41 : Nat → Int32 → Int32 → Int32 → Mem → Option (Unit × Mem)
  | 0 => fun _ _ _ _ => none
  | n + 1 => fun x1 x2 x3 M => if 10 ≤ x3 then some ((), M) else if bad ((10 * x1) + x3) 50 then none else if bad ((10 * x2) + x3) 50 then none else nm (uL M (33, 0, 0) (Int32.toNatClampNeg ((10 * x2) + x3)) (M.2.1 (33, 0, 0) (Int32.toNatClampNeg ((10 * x1) + x3)))) (fun M1 => nm (x3 + 1) (fun e2 => (f_X12_copyBlock_41 n) x1 x2 e2 M1))
set_option maxHeartbeats 4000000 in
set_option maxRecDepth 100000 in
theorem t_X12_copyBlock_41 {G : GG} {A : Nat → Prop} {p : Program} {l : Launch} {e : Env} {s : State} {m : MethodId} {args : Array Value} {below : List Frame} {meth : Method} {c : Code} {r : Unit} {M' : Mem} (X : Cx G A p s m args meth c RX12 cX12_copyBlock 4) (hr : meth.sig.returnType = none) : ∀ (n : Nat) (x1 : Int32) (x2 : Int32) (x3 : Int32) (M : Mem), f_X12_copyBlock_41 n x1 x2 x3 M = some (r, M') → T G A p l e (rmO 0) s m args below meth c 4 0 0 (MQ below (QvO G A M') args s 0 0 A) 41 [(0, .ref (G.2.1 (10, 0, 0))), (1, .int x1), (2, .int x2), (3, .int x3)] [] M := by
  intro n
  induction n with
  | zero =>
    intro x1 x2 x3 M  h
    cases h
  | succ n ih =>
    intro x1 x2 x3 M  h
    unfold f_X12_copyBlock_41 at h
    refine r_iload_n (pc := 41) X dX12_copyBlock_41 rfl ?_
    refine r_bipush (pc := 42) X (v := 10) dX12_copyBlock_42 (by decide) ?_
    refine r_icmp_ge (pc := 44) X (tgt := 75) dX12_copyBlock_44 (by decide) h (fun h => ?_) (fun h => ?_)
    · cases h
      exact r_vret (pc := 75) X hr dX12_copyBlock_75
    · refine r_aload_n (pc := 47) X dX12_copyBlock_47 rfl ?_
      refine r_getR (q := (33, 0, 0)) (pc := 48) X ⟨(ltb rfl), (ltb rfl)⟩ fl_X12_35 rfl dX12_copyBlock_48 ?_
      refine r_bipush (pc := 51) X (v := 10) dX12_copyBlock_51 (by decide) ?_
      refine r_iload_n (pc := 53) X dX12_copyBlock_53 rfl ?_
      refine r_imul (pc := 54) X dX12_copyBlock_54 ?_
      refine r_iload_n (pc := 55) X dX12_copyBlock_55 rfl ?_
      refine r_iadd (pc := 56) X dX12_copyBlock_56 ?_
      refine r_aload_n (pc := 57) X dX12_copyBlock_57 rfl ?_
      refine r_getR (q := (33, 0, 0)) (pc := 58) X ⟨(ltb rfl), (ltb rfl)⟩ fl_X12_35 rfl dX12_copyBlock_58 ?_
      refine r_bipush (pc := 61) X (v := 10) dX12_copyBlock_61 (by decide) ?_
      refine r_iload_n (pc := 63) X dX12_copyBlock_63 rfl ?_
      refine r_imul (pc := 64) X dX12_copyBlock_64 ?_
      refine r_iload_n (pc := 65) X dX12_copyBlock_65 rfl ?_
      refine r_iadd (pc := 66) X dX12_copyBlock_66 ?_
      refine r_lald (pc := 67) X (n := 50) ⟨(ltb rfl), (ltb rfl)⟩ rfl (nlt rfl) dX12_copyBlock_67 h (fun h => ?_)
      refine r_lastN (pc := 68) X (n := 50) ⟨(ltb rfl), (ltb rfl)⟩ rfl (nlt rfl) dX12_copyBlock_68 h (fun M1 h => ?_)
      refine r_iincN (pc := 69) X (v0 := 1) rfl (by decide) (by decide) dX12_copyBlock_69 h (fun e2 h => ?_)
      refine r_goto (pc := 72) X (tgt := 41) dX12_copyBlock_72 (by decide) ?_
      exact T_sub (ih _ _ _ _ h) ⟨rfl, rfl, rfl, rfl, trivial⟩
def f_X12_copyBlock_2 : Nat → Int32 → Int32 → Int32 → Mem → Option (Unit × Mem)
  | 0 => fun _ _ _ _ => none
  | n + 1 => fun x1 x2 x3 M => if 472 ≤ x3 then f_X12_copyBlock_41 fuelN x1 x2 0 M else if bad ((472 * x1) + x3) 2360 then none else if bad ((472 * x2) + x3) 2360 then none else nm (uI M (32, 0, 0) (Int32.toNatClampNeg ((472 * x2) + x3)) (M.1 (32, 0, 0) (Int32.toNatClampNeg ((472 * x1) + x3)))) (fun M1 => nm (x3 + 1) (fun e2 => (f_X12_copyBlock_2 n) x1 x2 e2 M1))
set_option maxHeartbeats 4000000 in
set_option maxRecDepth 100000 in
theorem t_X12_copyBlock_2 {G : GG} {A : Nat → Prop} {p : Program} {l : Launch} {e : Env} {s : State} {m : MethodId} {args : Array Value} {below : List Frame} {meth : Method} {c : Code} {r : Unit} {M' : Mem} (X : Cx G A p s m args meth c RX12 cX12_copyBlock 4) (hr : meth.sig.returnType = none) : ∀ (n : Nat) (x1 : Int32) (x2 : Int32) (x3 : Int32) (M : Mem), f_X12_copyBlock_2 n x1 x2 x3 M = some (r, M') → T G A p l e (rmO 0) s m args below meth c 4 0 0 (MQ below (QvO G A M') args s 0 0 A) 2 [(0, .ref (G.2.1 (10, 0, 0))), (1, .int x1), (2, .int x2), (3, .int x3)] [] M := by
  intro n
  induction n with
  | zero =>
    intro x1 x2 x3 M  h
    cases h
  | succ n ih =>
    intro x1 x2 x3 M  h
    unfold f_X12_copyBlock_2 at h
    refine r_iload_n (pc := 2) X dX12_copyBlock_2 rfl ?_
    refine r_sipush (pc := 3) X (v := 472) dX12_copyBlock_3 (by decide) ?_
    refine r_icmp_ge (pc := 6) X (tgt := 39) dX12_copyBlock_6 (by decide) h (fun h => ?_) (fun h => ?_)
    · refine r_iconst (pc := 39) X (v := 0) dX12_copyBlock_39 (by decide) ?_
      refine r_istore_n (pc := 40) X (by decide) dX12_copyBlock_40 ?_
      exact T_sub (t_X12_copyBlock_41 X hr _ _ _ _ _ h) ⟨rfl, rfl, rfl, rfl, trivial⟩
    · refine r_aload_n (pc := 9) X dX12_copyBlock_9 rfl ?_
      refine r_getR (q := (32, 0, 0)) (pc := 10) X ⟨(ltb rfl), (ltb rfl)⟩ fl_X12_29 rfl dX12_copyBlock_10 ?_
      refine r_sipush (pc := 13) X (v := 472) dX12_copyBlock_13 (by decide) ?_
      refine r_iload_n (pc := 16) X dX12_copyBlock_16 rfl ?_
      refine r_imul (pc := 17) X dX12_copyBlock_17 ?_
      refine r_iload_n (pc := 18) X dX12_copyBlock_18 rfl ?_
      refine r_iadd (pc := 19) X dX12_copyBlock_19 ?_
      refine r_aload_n (pc := 20) X dX12_copyBlock_20 rfl ?_
      refine r_getR (q := (32, 0, 0)) (pc := 21) X ⟨(ltb rfl), (ltb rfl)⟩ fl_X12_29 rfl dX12_copyBlock_21 ?_
      refine r_sipush (pc := 24) X (v := 472) dX12_copyBlock_24 (by decide) ?_
      refine r_iload_n (pc := 27) X dX12_copyBlock_27 rfl ?_
      refine r_imul (pc := 28) X dX12_copyBlock_28 ?_
      refine r_iload_n (pc := 29) X dX12_copyBlock_29 rfl ?_
      refine r_iadd (pc := 30) X dX12_copyBlock_30 ?_
      refine r_iald (pc := 31) X (n := 2360) ⟨(ltb rfl), (ltb rfl)⟩ rfl (nlt rfl) dX12_copyBlock_31 h (fun h => ?_)
      refine r_iastN (pc := 32) X (n := 2360) ⟨(ltb rfl), (ltb rfl)⟩ rfl (nlt rfl) dX12_copyBlock_32 h (fun M1 h => ?_)
      refine r_iincN (pc := 33) X (v0 := 1) rfl (by decide) (by decide) dX12_copyBlock_33 h (fun e2 h => ?_)
      refine r_goto (pc := 36) X (tgt := 2) dX12_copyBlock_36 (by decide) ?_
      exact T_sub (ih _ _ _ _ h) ⟨rfl, rfl, rfl, rfl, trivial⟩
def f_X12_copyBlock (x1 : Int32) (x2 : Int32) (M : Mem) : Option (Unit × Mem) :=
  f_X12_copyBlock_2 fuelN x1 x2 0 M
set_option maxHeartbeats 4000000 in
set_option maxRecDepth 100000 in
theorem t_X12_copyBlock {G : GG} {A : Nat → Prop} {p : Program} {l : Launch} {e : Env} {s : State} {m : MethodId} {args : Array Value} {below : List Frame} {meth : Method} {c : Code} {r : Unit} {M' : Mem} (X : Cx G A p s m args meth c RX12 cX12_copyBlock 4) (hr : meth.sig.returnType = none) {x1 : Int32} {x2 : Int32} {M : Mem}  (h : f_X12_copyBlock x1 x2 M = some (r, M')) : T G A p l e (rmO 0) s m args below meth c 4 0 0 (MQ below (QvO G A M') args s 0 0 A) 0 [(0, .ref (G.2.1 (10, 0, 0))), (1, .int x1), (2, .int x2)] [] M := by
  unfold f_X12_copyBlock at h
  refine r_iconst (pc := 0) X (v := 0) dX12_copyBlock_0 (by decide) ?_
  refine r_istore_n (pc := 1) X (by decide) dX12_copyBlock_1 ?_
  exact T_sub (t_X12_copyBlock_2 X hr _ _ _ _ _ h) ⟨rfl, rfl, rfl, rfl, trivial⟩
theorem c_X12_copyBlock {G : GG} {l : Launch} {x1 : Int32} {x2 : Int32} {r : Unit} {M M' : Mem}  (h : f_X12_copyBlock x1 x2 M = some (r, M')) : Met l yX12_copyBlock (wsO yX12_copyBlock cX12_copyBlock 4 none) (rmO 0) (PcO G [.ref (G.2.1 (10, 0, 0)), .int x1, .int x2] M) (QvO G (AA G) M') 0 0 (AA G) :=
  met_of (own := RX12) rfl (by decide +kernel) (Nat.le_of_ble_eq_true rfl) (fun p e s m args below meth c X hr => t_X12_copyBlock X hr  h)
-- ConverterScannerModel.first
def f_X12_first_87 : Nat → Int32 → Mem → Option (Unit × Mem)
  | 0 => fun _ _ => none
  | n + 1 => fun x2 M => if 8 ≤ x2 then nm (uI M (10, 0, 0) 7 0) (fun M1 => some ((), M1)) else bnd (f_X12_chan x2 0 M) (fun r2 M3 => bnd (f_X12_puts r2 3 M3) (fun r5 M6 => bnd (f_X12_chan x2 3 M6) (fun r8 M9 => bnd (f_X12_puts r8 1 M9) (fun r11 M12 => bnd (f_X12_chan x2 5 M12) (fun r14 M15 => bnd (f_X12_puts r14 (-1) M15) (fun r17 M18 => bnd (f_X12_chan x2 6 M18) (fun r20 M21 => bnd (f_X12_puts r20 (-1) M21) (fun r23 M24 => nm (x2 + 1) (fun e26 => (f_X12_first_87 n) e26 M24)))))))))
set_option maxHeartbeats 4000000 in
set_option maxRecDepth 100000 in
theorem t_X12_first_87 {G : GG} {A : Nat → Prop} {p : Program} {l : Launch} {e : Env} {s : State} {m : MethodId} {args : Array Value} {below : List Frame} {meth : Method} {c : Code} {r : Unit} {M' : Mem} (X : Cx G A p s m args meth c RX12 cX12_first 3) (hr : meth.sig.returnType = none) : ∀ (n : Nat) (x2 : Int32) (M : Mem), f_X12_first_87 n x2 M = some (r, M') → T G A p l e (rmO 1) s m args below meth c 3 0 0 (MQ below (QvO G A M') args s 0 0 A) 87 [(0, .ref (G.2.1 (10, 0, 0))), (2, .int x2)] [] M := by
  intro n
  induction n with
  | zero =>
    intro x2 M  h
    cases h
  | succ n ih =>
    intro x2 M  h
    unfold f_X12_first_87 at h
    refine r_iload_n (pc := 87) X dX12_first_87 rfl ?_
    refine r_bipush (pc := 88) X (v := 8) dX12_first_88 (by decide) ?_
    refine r_icmp_ge (pc := 90) X (tgt := 140) dX12_first_90 (by decide) h (fun h => ?_) (fun h => ?_)
    · refine r_aload_n (pc := 140) X dX12_first_140 rfl ?_
      refine r_iconst (pc := 141) X (v := 0) dX12_first_141 (by decide) ?_
      refine r_putIN (pc := 142) X ⟨(ltb rfl), (ltb rfl)⟩ fp_X12_32 rfl dX12_first_142 h (fun M1 h => ?_)
      cases h
      exact r_vret (pc := 145) X hr dX12_first_145
    · refine r_aload_n (pc := 93) X dX12_first_93 rfl ?_
      refine r_iload_n (pc := 94) X dX12_first_94 rfl ?_
      refine r_iconst (pc := 95) X (v := 0) dX12_first_95 (by decide) ?_
      refine bndE h (fun r2 M3 h4 h => ?_)
      refine r_callSi2 (pc := 96) X sy_X12_chan my_X12_chan ml_X12_47 ⟨Nat.le_of_ble_eq_true rfl, Nat.le_of_ble_eq_true rfl, Nat.le_of_ble_eq_true rfl, Nat.le_of_ble_eq_true rfl⟩ (c_X12_chan  h4) (Nat.le_of_ble_eq_true rfl) dX12_first_96 ?_
      refine r_iconst (pc := 99) X (v := 3) dX12_first_99 (by decide) ?_
      refine bndE h (fun r5 M6 h7 h => ?_)
      refine r_callVv2 (pc := 100) X ⟨(ltb rfl), (ltb rfl)⟩ rfl vy_X12_puts my_X12_puts ml_X12_39 ⟨Nat.le_of_ble_eq_true rfl, Nat.le_of_ble_eq_true rfl, Nat.le_of_ble_eq_true rfl, Nat.le_of_ble_eq_true rfl⟩ (c_X12_puts  h7) (Nat.le_of_ble_eq_true rfl) dX12_first_100 ?_
      refine r_aload_n (pc := 103) X dX12_first_103 rfl ?_
      refine r_iload_n (pc := 104) X dX12_first_104 rfl ?_
      refine r_iconst (pc := 105) X (v := 3) dX12_first_105 (by decide) ?_
      refine bndE h (fun r8 M9 h10 h => ?_)
      refine r_callSi2 (pc := 106) X sy_X12_chan my_X12_chan ml_X12_47 ⟨Nat.le_of_ble_eq_true rfl, Nat.le_of_ble_eq_true rfl, Nat.le_of_ble_eq_true rfl, Nat.le_of_ble_eq_true rfl⟩ (c_X12_chan  h10) (Nat.le_of_ble_eq_true rfl) dX12_first_106 ?_
      refine r_iconst (pc := 109) X (v := 1) dX12_first_109 (by decide) ?_
      refine bndE h (fun r11 M12 h13 h => ?_)
      refine r_callVv2 (pc := 110) X ⟨(ltb rfl), (ltb rfl)⟩ rfl vy_X12_puts my_X12_puts ml_X12_39 ⟨Nat.le_of_ble_eq_true rfl, Nat.le_of_ble_eq_true rfl, Nat.le_of_ble_eq_true rfl, Nat.le_of_ble_eq_true rfl⟩ (c_X12_puts  h13) (Nat.le_of_ble_eq_true rfl) dX12_first_110 ?_
      refine r_aload_n (pc := 113) X dX12_first_113 rfl ?_
      refine r_iload_n (pc := 114) X dX12_first_114 rfl ?_
      refine r_iconst (pc := 115) X (v := 5) dX12_first_115 (by decide) ?_
      refine bndE h (fun r14 M15 h16 h => ?_)
      refine r_callSi2 (pc := 116) X sy_X12_chan my_X12_chan ml_X12_47 ⟨Nat.le_of_ble_eq_true rfl, Nat.le_of_ble_eq_true rfl, Nat.le_of_ble_eq_true rfl, Nat.le_of_ble_eq_true rfl⟩ (c_X12_chan  h16) (Nat.le_of_ble_eq_true rfl) dX12_first_116 ?_
      refine r_iconst (pc := 119) X (v := (-1)) dX12_first_119 (by decide) ?_
      refine bndE h (fun r17 M18 h19 h => ?_)
      refine r_callVv2 (pc := 120) X ⟨(ltb rfl), (ltb rfl)⟩ rfl vy_X12_puts my_X12_puts ml_X12_39 ⟨Nat.le_of_ble_eq_true rfl, Nat.le_of_ble_eq_true rfl, Nat.le_of_ble_eq_true rfl, Nat.le_of_ble_eq_true rfl⟩ (c_X12_puts  h19) (Nat.le_of_ble_eq_true rfl) dX12_first_120 ?_
      refine r_aload_n (pc := 123) X dX12_first_123 rfl ?_
      refine r_iload_n (pc := 124) X dX12_first_124 rfl ?_
      refine r_bipush (pc := 125) X (v := 6) dX12_first_125 (by decide) ?_
      refine bndE h (fun r20 M21 h22 h => ?_)
      refine r_callSi2 (pc := 127) X sy_X12_chan my_X12_chan ml_X12_47 ⟨Nat.le_of_ble_eq_true rfl, Nat.le_of_ble_eq_true rfl, Nat.le_of_ble_eq_true rfl, Nat.le_of_ble_eq_true rfl⟩ (c_X12_chan  h22) (Nat.le_of_ble_eq_true rfl) dX12_first_127 ?_
      refine r_iconst (pc := 130) X (v := (-1)) dX12_first_130 (by decide) ?_
      refine bndE h (fun r23 M24 h25 h => ?_)
      refine r_callVv2 (pc := 131) X ⟨(ltb rfl), (ltb rfl)⟩ rfl vy_X12_puts my_X12_puts ml_X12_39 ⟨Nat.le_of_ble_eq_true rfl, Nat.le_of_ble_eq_true rfl, Nat.le_of_ble_eq_true rfl, Nat.le_of_ble_eq_true rfl⟩ (c_X12_puts  h25) (Nat.le_of_ble_eq_true rfl) dX12_first_131 ?_
      refine r_iincN (pc := 134) X (v0 := 1) rfl (by decide) (by decide) dX12_first_134 h (fun e26 h => ?_)
      refine r_goto (pc := 137) X (tgt := 87) dX12_first_137 (by decide) ?_
      exact T_sub (ih _ _ h) ⟨rfl, rfl, trivial⟩
def f_X12_first_54 : Nat → Int32 → Mem → Option (Unit × Mem)
  | 0 => fun _ _ => none
  | n + 1 => fun x2 M => if 2 ≤ x2 then f_X12_first_87 fuelN 0 M else bnd (f_X12_seq x2 2 M) (fun r1 M2 => bnd (f_X12_puts r1 (-1) M2) (fun r4 M5 => bnd (f_X12_seq x2 3 M5) (fun r7 M8 => bnd (f_X12_puts r7 (-1) M8) (fun r10 M11 => nm (x2 + 1) (fun e13 => (f_X12_first_54 n) e13 M11)))))
set_option maxHeartbeats 4000000 in
set_option maxRecDepth 100000 in
theorem t_X12_first_54 {G : GG} {A : Nat → Prop} {p : Program} {l : Launch} {e : Env} {s : State} {m : MethodId} {args : Array Value} {below : List Frame} {meth : Method} {c : Code} {r : Unit} {M' : Mem} (X : Cx G A p s m args meth c RX12 cX12_first 3) (hr : meth.sig.returnType = none) : ∀ (n : Nat) (x2 : Int32) (M : Mem), f_X12_first_54 n x2 M = some (r, M') → T G A p l e (rmO 1) s m args below meth c 3 0 0 (MQ below (QvO G A M') args s 0 0 A) 54 [(0, .ref (G.2.1 (10, 0, 0))), (2, .int x2)] [] M := by
  intro n
  induction n with
  | zero =>
    intro x2 M  h
    cases h
  | succ n ih =>
    intro x2 M  h
    unfold f_X12_first_54 at h
    refine r_iload_n (pc := 54) X dX12_first_54 rfl ?_
    refine r_iconst (pc := 55) X (v := 2) dX12_first_55 (by decide) ?_
    refine r_icmp_ge (pc := 56) X (tgt := 85) dX12_first_56 (by decide) h (fun h => ?_) (fun h => ?_)
    · refine r_iconst (pc := 85) X (v := 0) dX12_first_85 (by decide) ?_
      refine r_istore_n (pc := 86) X (by decide) dX12_first_86 ?_
      exact T_sub (t_X12_first_87 X hr _ _ _ h) ⟨rfl, rfl, trivial⟩
    · refine r_aload_n (pc := 59) X dX12_first_59 rfl ?_
      refine r_iload_n (pc := 60) X dX12_first_60 rfl ?_
      refine r_iconst (pc := 61) X (v := 2) dX12_first_61 (by decide) ?_
      refine bndE h (fun r1 M2 h3 h => ?_)
      refine r_callSi2 (pc := 62) X sy_X12_seq my_X12_seq ml_X12_43 ⟨Nat.le_of_ble_eq_true rfl, Nat.le_of_ble_eq_true rfl, Nat.le_of_ble_eq_true rfl, Nat.le_of_ble_eq_true rfl⟩ (c_X12_seq  h3) (Nat.le_of_ble_eq_true rfl) dX12_first_62 ?_
      refine r_iconst (pc := 65) X (v := (-1)) dX12_first_65 (by decide) ?_
      refine bndE h (fun r4 M5 h6 h => ?_)
      refine r_callVv2 (pc := 66) X ⟨(ltb rfl), (ltb rfl)⟩ rfl vy_X12_puts my_X12_puts ml_X12_39 ⟨Nat.le_of_ble_eq_true rfl, Nat.le_of_ble_eq_true rfl, Nat.le_of_ble_eq_true rfl, Nat.le_of_ble_eq_true rfl⟩ (c_X12_puts  h6) (Nat.le_of_ble_eq_true rfl) dX12_first_66 ?_
      refine r_aload_n (pc := 69) X dX12_first_69 rfl ?_
      refine r_iload_n (pc := 70) X dX12_first_70 rfl ?_
      refine r_iconst (pc := 71) X (v := 3) dX12_first_71 (by decide) ?_
      refine bndE h (fun r7 M8 h9 h => ?_)
      refine r_callSi2 (pc := 72) X sy_X12_seq my_X12_seq ml_X12_43 ⟨Nat.le_of_ble_eq_true rfl, Nat.le_of_ble_eq_true rfl, Nat.le_of_ble_eq_true rfl, Nat.le_of_ble_eq_true rfl⟩ (c_X12_seq  h9) (Nat.le_of_ble_eq_true rfl) dX12_first_72 ?_
      refine r_iconst (pc := 75) X (v := (-1)) dX12_first_75 (by decide) ?_
      refine bndE h (fun r10 M11 h12 h => ?_)
      refine r_callVv2 (pc := 76) X ⟨(ltb rfl), (ltb rfl)⟩ rfl vy_X12_puts my_X12_puts ml_X12_39 ⟨Nat.le_of_ble_eq_true rfl, Nat.le_of_ble_eq_true rfl, Nat.le_of_ble_eq_true rfl, Nat.le_of_ble_eq_true rfl⟩ (c_X12_puts  h12) (Nat.le_of_ble_eq_true rfl) dX12_first_76 ?_
      refine r_iincN (pc := 79) X (v0 := 1) rfl (by decide) (by decide) dX12_first_79 h (fun e13 h => ?_)
      refine r_goto (pc := 82) X (tgt := 54) dX12_first_82 (by decide) ?_
      exact T_sub (ih _ _ h) ⟨rfl, rfl, trivial⟩
def f_X12_first_28 : Nat → Int32 → Int32 → Mem → Option (Unit × Mem)
  | 0 => fun _ _ _ => none
  | n + 1 => fun x1 x2 M => if 10 ≤ x2 then f_X12_first_54 fuelN 0 M else if bad ((10 * x1) + x2) 50 then none else nm (uL M (33, 0, 0) (Int32.toNatClampNeg ((10 * x1) + x2)) 0) (fun M1 => nm (x2 + 1) (fun e2 => (f_X12_first_28 n) x1 e2 M1))
set_option maxHeartbeats 4000000 in
set_option maxRecDepth 100000 in
theorem t_X12_first_28 {G : GG} {A : Nat → Prop} {p : Program} {l : Launch} {e : Env} {s : State} {m : MethodId} {args : Array Value} {below : List Frame} {meth : Method} {c : Code} {r : Unit} {M' : Mem} (X : Cx G A p s m args meth c RX12 cX12_first 3) (hr : meth.sig.returnType = none) : ∀ (n : Nat) (x1 : Int32) (x2 : Int32) (M : Mem), f_X12_first_28 n x1 x2 M = some (r, M') → T G A p l e (rmO 1) s m args below meth c 3 0 0 (MQ below (QvO G A M') args s 0 0 A) 28 [(0, .ref (G.2.1 (10, 0, 0))), (1, .int x1), (2, .int x2)] [] M := by
  intro n
  induction n with
  | zero =>
    intro x1 x2 M  h
    cases h
  | succ n ih =>
    intro x1 x2 M  h
    unfold f_X12_first_28 at h
    refine r_iload_n (pc := 28) X dX12_first_28 rfl ?_
    refine r_bipush (pc := 29) X (v := 10) dX12_first_29 (by decide) ?_
    refine r_icmp_ge (pc := 31) X (tgt := 52) dX12_first_31 (by decide) h (fun h => ?_) (fun h => ?_)
    · refine r_iconst (pc := 52) X (v := 0) dX12_first_52 (by decide) ?_
      refine r_istore_n (pc := 53) X (by decide) dX12_first_53 ?_
      exact T_sub (t_X12_first_54 X hr _ _ _ h) ⟨rfl, rfl, trivial⟩
    · refine r_aload_n (pc := 34) X dX12_first_34 rfl ?_
      refine r_getR (q := (33, 0, 0)) (pc := 35) X ⟨(ltb rfl), (ltb rfl)⟩ fl_X12_35 rfl dX12_first_35 ?_
      refine r_bipush (pc := 38) X (v := 10) dX12_first_38 (by decide) ?_
      refine r_iload_n (pc := 40) X dX12_first_40 rfl ?_
      refine r_imul (pc := 41) X dX12_first_41 ?_
      refine r_iload_n (pc := 42) X dX12_first_42 rfl ?_
      refine r_iadd (pc := 43) X dX12_first_43 ?_
      refine r_lconst (pc := 44) X (v := 0) dX12_first_44 (by decide) ?_
      refine r_lastN (pc := 45) X (n := 50) ⟨(ltb rfl), (ltb rfl)⟩ rfl (nlt rfl) dX12_first_45 h (fun M1 h => ?_)
      refine r_iincN (pc := 46) X (v0 := 1) rfl (by decide) (by decide) dX12_first_46 h (fun e2 h => ?_)
      refine r_goto (pc := 49) X (tgt := 28) dX12_first_49 (by decide) ?_
      exact T_sub (ih _ _ _ h) ⟨rfl, rfl, rfl, trivial⟩
def f_X12_first_7 : Nat → Int32 → Int32 → Mem → Option (Unit × Mem)
  | 0 => fun _ _ _ => none
  | n + 1 => fun x1 x2 M => if 472 ≤ x2 then f_X12_first_28 fuelN x1 0 M else bnd (f_X12_puts x2 0 M) (fun r1 M2 => nm (x2 + 1) (fun e4 => (f_X12_first_7 n) x1 e4 M2))
set_option maxHeartbeats 4000000 in
set_option maxRecDepth 100000 in
theorem t_X12_first_7 {G : GG} {A : Nat → Prop} {p : Program} {l : Launch} {e : Env} {s : State} {m : MethodId} {args : Array Value} {below : List Frame} {meth : Method} {c : Code} {r : Unit} {M' : Mem} (X : Cx G A p s m args meth c RX12 cX12_first 3) (hr : meth.sig.returnType = none) : ∀ (n : Nat) (x1 : Int32) (x2 : Int32) (M : Mem), f_X12_first_7 n x1 x2 M = some (r, M') → T G A p l e (rmO 1) s m args below meth c 3 0 0 (MQ below (QvO G A M') args s 0 0 A) 7 [(0, .ref (G.2.1 (10, 0, 0))), (1, .int x1), (2, .int x2)] [] M := by
  intro n
  induction n with
  | zero =>
    intro x1 x2 M  h
    cases h
  | succ n ih =>
    intro x1 x2 M  h
    unfold f_X12_first_7 at h
    refine r_iload_n (pc := 7) X dX12_first_7 rfl ?_
    refine r_sipush (pc := 8) X (v := 472) dX12_first_8 (by decide) ?_
    refine r_icmp_ge (pc := 11) X (tgt := 26) dX12_first_11 (by decide) h (fun h => ?_) (fun h => ?_)
    · refine r_iconst (pc := 26) X (v := 0) dX12_first_26 (by decide) ?_
      refine r_istore_n (pc := 27) X (by decide) dX12_first_27 ?_
      exact T_sub (t_X12_first_28 X hr _ _ _ _ h) ⟨rfl, rfl, rfl, trivial⟩
    · refine r_aload_n (pc := 14) X dX12_first_14 rfl ?_
      refine r_iload_n (pc := 15) X dX12_first_15 rfl ?_
      refine r_iconst (pc := 16) X (v := 0) dX12_first_16 (by decide) ?_
      refine bndE h (fun r1 M2 h3 h => ?_)
      refine r_callVv2 (pc := 17) X ⟨(ltb rfl), (ltb rfl)⟩ rfl vy_X12_puts my_X12_puts ml_X12_39 ⟨Nat.le_of_ble_eq_true rfl, Nat.le_of_ble_eq_true rfl, Nat.le_of_ble_eq_true rfl, Nat.le_of_ble_eq_true rfl⟩ (c_X12_puts  h3) (Nat.le_of_ble_eq_true rfl) dX12_first_17 ?_
      refine r_iincN (pc := 20) X (v0 := 1) rfl (by decide) (by decide) dX12_first_20 h (fun e4 h => ?_)
      refine r_goto (pc := 23) X (tgt := 7) dX12_first_23 (by decide) ?_
      exact T_sub (ih _ _ _ h) ⟨rfl, rfl, rfl, trivial⟩
def f_X12_first (x1 : Int32) (M : Mem) : Option (Unit × Mem) :=
  nm (uI M (10, 0, 0) 7 x1) (fun M1 => f_X12_first_7 fuelN x1 0 M1)
set_option maxHeartbeats 4000000 in
set_option maxRecDepth 100000 in
theorem t_X12_first {G : GG} {A : Nat → Prop} {p : Program} {l : Launch} {e : Env} {s : State} {m : MethodId} {args : Array Value} {below : List Frame} {meth : Method} {c : Code} {r : Unit} {M' : Mem} (X : Cx G A p s m args meth c RX12 cX12_first 3) (hr : meth.sig.returnType = none) {x1 : Int32} {M : Mem}  (h : f_X12_first x1 M = some (r, M')) : T G A p l e (rmO 1) s m args below meth c 3 0 0 (MQ below (QvO G A M') args s 0 0 A) 0 [(0, .ref (G.2.1 (10, 0, 0))), (1, .int x1)] [] M := by
  unfold f_X12_first at h
  refine r_aload_n (pc := 0) X dX12_first_0 rfl ?_
  refine r_iload_n (pc := 1) X dX12_first_1 rfl ?_
  refine r_putIN (pc := 2) X ⟨(ltb rfl), (ltb rfl)⟩ fp_X12_32 rfl dX12_first_2 h (fun M1 h => ?_)
  refine r_iconst (pc := 5) X (v := 0) dX12_first_5 (by decide) ?_
  refine r_istore_n (pc := 6) X (by decide) dX12_first_6 ?_
  exact T_sub (t_X12_first_7 X hr _ _ _ _ h) ⟨rfl, rfl, rfl, trivial⟩
theorem c_X12_first {G : GG} {l : Launch} {x1 : Int32} {r : Unit} {M M' : Mem}  (h : f_X12_first x1 M = some (r, M')) : Met l yX12_first (wsO yX12_first cX12_first 3 none) (rmO 1) (PcO G [.ref (G.2.1 (10, 0, 0)), .int x1] M) (QvO G (AA G) M') 0 0 (AA G) :=
  met_of (own := RX12) rfl (by decide +kernel) (Nat.le_of_ble_eq_true rfl) (fun p e s m args below meth c X hr => t_X12_first X hr  h)
-- ConverterScannerModel.firstSettings
def f_X12_firstSettings_2 : Nat → Int32 → Int32 → Mem → Option (Unit × Mem)
  | 0 => fun _ _ _ => none
  | n + 1 => fun x1 x2 M => if 52 ≤ x2 then if bad (x1 + 8) 104 then none else nm (uI M (31, 0, 0) (Int32.toNatClampNeg (x1 + 8)) 4) (fun M1 => some ((), M1)) else if bad (x1 + x2) 104 then none else nm (uI M (31, 0, 0) (Int32.toNatClampNeg (x1 + x2)) 0) (fun M2 => nm (x2 + 1) (fun e3 => (f_X12_firstSettings_2 n) x1 e3 M2))
set_option maxHeartbeats 4000000 in
set_option maxRecDepth 100000 in
theorem t_X12_firstSettings_2 {G : GG} {A : Nat → Prop} {p : Program} {l : Launch} {e : Env} {s : State} {m : MethodId} {args : Array Value} {below : List Frame} {meth : Method} {c : Code} {r : Unit} {M' : Mem} (X : Cx G A p s m args meth c RX12 cX12_firstSettings 3) (hr : meth.sig.returnType = none) : ∀ (n : Nat) (x1 : Int32) (x2 : Int32) (M : Mem), f_X12_firstSettings_2 n x1 x2 M = some (r, M') → T G A p l e (rmO 0) s m args below meth c 3 0 0 (MQ below (QvO G A M') args s 0 0 A) 2 [(0, .ref (G.2.1 (10, 0, 0))), (1, .int x1), (2, .int x2)] [] M := by
  intro n
  induction n with
  | zero =>
    intro x1 x2 M  h
    cases h
  | succ n ih =>
    intro x1 x2 M  h
    unfold f_X12_firstSettings_2 at h
    refine r_iload_n (pc := 2) X dX12_firstSettings_2 rfl ?_
    refine r_bipush (pc := 3) X (v := 52) dX12_firstSettings_3 (by decide) ?_
    refine r_icmp_ge (pc := 5) X (tgt := 23) dX12_firstSettings_5 (by decide) h (fun h => ?_) (fun h => ?_)
    · refine r_aload_n (pc := 23) X dX12_firstSettings_23 rfl ?_
      refine r_getR (q := (31, 0, 0)) (pc := 24) X ⟨(ltb rfl), (ltb rfl)⟩ fl_X12_26 rfl dX12_firstSettings_24 ?_
      refine r_iload_n (pc := 27) X dX12_firstSettings_27 rfl ?_
      refine r_bipush (pc := 28) X (v := 8) dX12_firstSettings_28 (by decide) ?_
      refine r_iadd (pc := 30) X dX12_firstSettings_30 ?_
      refine r_iconst (pc := 31) X (v := 4) dX12_firstSettings_31 (by decide) ?_
      refine r_iastN (pc := 32) X (n := 104) ⟨(ltb rfl), (ltb rfl)⟩ rfl (nlt rfl) dX12_firstSettings_32 h (fun M1 h => ?_)
      cases h
      exact r_vret (pc := 33) X hr dX12_firstSettings_33
    · refine r_aload_n (pc := 8) X dX12_firstSettings_8 rfl ?_
      refine r_getR (q := (31, 0, 0)) (pc := 9) X ⟨(ltb rfl), (ltb rfl)⟩ fl_X12_26 rfl dX12_firstSettings_9 ?_
      refine r_iload_n (pc := 12) X dX12_firstSettings_12 rfl ?_
      refine r_iload_n (pc := 13) X dX12_firstSettings_13 rfl ?_
      refine r_iadd (pc := 14) X dX12_firstSettings_14 ?_
      refine r_iconst (pc := 15) X (v := 0) dX12_firstSettings_15 (by decide) ?_
      refine r_iastN (pc := 16) X (n := 104) ⟨(ltb rfl), (ltb rfl)⟩ rfl (nlt rfl) dX12_firstSettings_16 h (fun M2 h => ?_)
      refine r_iincN (pc := 17) X (v0 := 1) rfl (by decide) (by decide) dX12_firstSettings_17 h (fun e3 h => ?_)
      refine r_goto (pc := 20) X (tgt := 2) dX12_firstSettings_20 (by decide) ?_
      exact T_sub (ih _ _ _ h) ⟨rfl, rfl, rfl, trivial⟩
def f_X12_firstSettings (x1 : Int32) (M : Mem) : Option (Unit × Mem) :=
  f_X12_firstSettings_2 fuelN x1 0 M
set_option maxHeartbeats 4000000 in
set_option maxRecDepth 100000 in
theorem t_X12_firstSettings {G : GG} {A : Nat → Prop} {p : Program} {l : Launch} {e : Env} {s : State} {m : MethodId} {args : Array Value} {below : List Frame} {meth : Method} {c : Code} {r : Unit} {M' : Mem} (X : Cx G A p s m args meth c RX12 cX12_firstSettings 3) (hr : meth.sig.returnType = none) {x1 : Int32} {M : Mem}  (h : f_X12_firstSettings x1 M = some (r, M')) : T G A p l e (rmO 0) s m args below meth c 3 0 0 (MQ below (QvO G A M') args s 0 0 A) 0 [(0, .ref (G.2.1 (10, 0, 0))), (1, .int x1)] [] M := by
  unfold f_X12_firstSettings at h
  refine r_iconst (pc := 0) X (v := 0) dX12_firstSettings_0 (by decide) ?_
  refine r_istore_n (pc := 1) X (by decide) dX12_firstSettings_1 ?_
  exact T_sub (t_X12_firstSettings_2 X hr _ _ _ _ h) ⟨rfl, rfl, rfl, trivial⟩
theorem c_X12_firstSettings {G : GG} {l : Launch} {x1 : Int32} {r : Unit} {M M' : Mem}  (h : f_X12_firstSettings x1 M = some (r, M')) : Met l yX12_firstSettings (wsO yX12_firstSettings cX12_firstSettings 3 none) (rmO 0) (PcO G [.ref (G.2.1 (10, 0, 0)), .int x1] M) (QvO G (AA G) M') 0 0 (AA G) :=
  met_of (own := RX12) rfl (by decide +kernel) (Nat.le_of_ble_eq_true rfl) (fun p e s m args below meth c X hr => t_X12_firstSettings X hr  h)
-- ConverterScannerModel.signalOf
def f_X12_signalOf (x1 : Int32) (x2 : Int32) (M : Mem) : Option (Int32 × Mem) :=
  bnd (f_X12_chan x1 1 M) (fun r1 M2 => bnd (f_X12_its r1 M2) (fun r4 M5 => bnd (f_X12_chan x1 2 M5) (fun r7 M8 => bnd (f_X12_its r7 M8) (fun r10 M11 => bnd (f_X12_chan x1 3 M11) (fun r13 M14 => bnd (f_X12_its r13 M14) (fun r16 M17 => if r16 = 0 then none else nm (r4 + (r10 * (x2 - x2 / r16 * r16))) (fun e19 => if 0 ≤ e19 then bnd (f_X12_lesser 4095 e19 M17) (fun r20 M21 => some (r20, M21)) else some (0, M17))))))))
set_option maxHeartbeats 4000000 in
set_option maxRecDepth 100000 in
theorem t_X12_signalOf {G : GG} {A : Nat → Prop} {p : Program} {l : Launch} {e : Env} {s : State} {m : MethodId} {args : Array Value} {below : List Frame} {meth : Method} {c : Code} {r : Int32} {M' : Mem} (X : Cx G A p s m args meth c RX12 cX12_signalOf 4) (hr : meth.sig.returnType = some .int) {x1 : Int32} {x2 : Int32} {M : Mem}  (h : f_X12_signalOf x1 x2 M = some (r, M')) : T G A p l e (rmO 1) s m args below meth c 4 0 0 (MQ below (QiO G A r M') args s 0 0 A) 0 [(0, .ref (G.2.1 (10, 0, 0))), (1, .int x1), (2, .int x2)] [] M := by
  unfold f_X12_signalOf at h
  refine r_aload_n (pc := 0) X dX12_signalOf_0 rfl ?_
  refine r_iload_n (pc := 1) X dX12_signalOf_1 rfl ?_
  refine r_iconst (pc := 2) X (v := 1) dX12_signalOf_2 (by decide) ?_
  refine bndE h (fun r1 M2 h3 h => ?_)
  refine r_callSi2 (pc := 3) X sy_X12_chan my_X12_chan ml_X12_47 ⟨Nat.le_of_ble_eq_true rfl, Nat.le_of_ble_eq_true rfl, Nat.le_of_ble_eq_true rfl, Nat.le_of_ble_eq_true rfl⟩ (c_X12_chan  h3) (Nat.le_of_ble_eq_true rfl) dX12_signalOf_3 ?_
  refine bndE h (fun r4 M5 h6 h => ?_)
  refine r_callVi1 (pc := 6) X ⟨(ltb rfl), (ltb rfl)⟩ rfl vy_X12_its my_X12_its ml_X12_155 ⟨Nat.le_of_ble_eq_true rfl, Nat.le_of_ble_eq_true rfl, Nat.le_of_ble_eq_true rfl, Nat.le_of_ble_eq_true rfl⟩ (c_X12_its  h6) (Nat.le_of_ble_eq_true rfl) dX12_signalOf_6 ?_
  refine r_aload_n (pc := 9) X dX12_signalOf_9 rfl ?_
  refine r_iload_n (pc := 10) X dX12_signalOf_10 rfl ?_
  refine r_iconst (pc := 11) X (v := 2) dX12_signalOf_11 (by decide) ?_
  refine bndE h (fun r7 M8 h9 h => ?_)
  refine r_callSi2 (pc := 12) X sy_X12_chan my_X12_chan ml_X12_47 ⟨Nat.le_of_ble_eq_true rfl, Nat.le_of_ble_eq_true rfl, Nat.le_of_ble_eq_true rfl, Nat.le_of_ble_eq_true rfl⟩ (c_X12_chan  h9) (Nat.le_of_ble_eq_true rfl) dX12_signalOf_12 ?_
  refine bndE h (fun r10 M11 h12 h => ?_)
  refine r_callVi1 (pc := 15) X ⟨(ltb rfl), (ltb rfl)⟩ rfl vy_X12_its my_X12_its ml_X12_155 ⟨Nat.le_of_ble_eq_true rfl, Nat.le_of_ble_eq_true rfl, Nat.le_of_ble_eq_true rfl, Nat.le_of_ble_eq_true rfl⟩ (c_X12_its  h12) (Nat.le_of_ble_eq_true rfl) dX12_signalOf_15 ?_
  refine r_iload_n (pc := 18) X dX12_signalOf_18 rfl ?_
  refine r_aload_n (pc := 19) X dX12_signalOf_19 rfl ?_
  refine r_iload_n (pc := 20) X dX12_signalOf_20 rfl ?_
  refine r_iconst (pc := 21) X (v := 3) dX12_signalOf_21 (by decide) ?_
  refine bndE h (fun r13 M14 h15 h => ?_)
  refine r_callSi2 (pc := 22) X sy_X12_chan my_X12_chan ml_X12_47 ⟨Nat.le_of_ble_eq_true rfl, Nat.le_of_ble_eq_true rfl, Nat.le_of_ble_eq_true rfl, Nat.le_of_ble_eq_true rfl⟩ (c_X12_chan  h15) (Nat.le_of_ble_eq_true rfl) dX12_signalOf_22 ?_
  refine bndE h (fun r16 M17 h18 h => ?_)
  refine r_callVi1 (pc := 25) X ⟨(ltb rfl), (ltb rfl)⟩ rfl vy_X12_its my_X12_its ml_X12_155 ⟨Nat.le_of_ble_eq_true rfl, Nat.le_of_ble_eq_true rfl, Nat.le_of_ble_eq_true rfl, Nat.le_of_ble_eq_true rfl⟩ (c_X12_its  h18) (Nat.le_of_ble_eq_true rfl) dX12_signalOf_25 ?_
  refine ck h (fun hz h => ?_)
  refine r_irem (pc := 28) X hz dX12_signalOf_28 ?_
  refine r_imul (pc := 29) X dX12_signalOf_29 ?_
  refine r_iadd (pc := 30) X dX12_signalOf_30 ?_
  refine r_istore_nN (pc := 31) X (by decide) dX12_signalOf_31 h (fun e19 h => ?_)
  refine r_iload_n (pc := 32) X dX12_signalOf_32 rfl ?_
  refine r_if_ge (pc := 33) X (tgt := 40) dX12_signalOf_33 (by decide) h (fun h => ?_) (fun h => ?_)
  · refine r_sipush (pc := 40) X (v := 4095) dX12_signalOf_40 (by decide) ?_
    refine r_iload_n (pc := 43) X dX12_signalOf_43 rfl ?_
    refine bndE h (fun r20 M21 h22 h => ?_)
    refine r_callSi2 (pc := 44) X sy_X12_lesser my_X12_lesser ml_X12_159 ⟨Nat.le_of_ble_eq_true rfl, Nat.le_of_ble_eq_true rfl, Nat.le_of_ble_eq_true rfl, Nat.le_of_ble_eq_true rfl⟩ (c_X12_lesser  h22) (Nat.le_of_ble_eq_true rfl) dX12_signalOf_44 ?_
    cases h
    exact r_iret (pc := 47) X hr dX12_signalOf_47
  · refine r_iconst (pc := 36) X (v := 0) dX12_signalOf_36 (by decide) ?_
    refine r_goto (pc := 37) X (tgt := 47) dX12_signalOf_37 (by decide) ?_
    cases h
    exact r_iret (pc := 47) X hr dX12_signalOf_47
theorem c_X12_signalOf {G : GG} {l : Launch} {x1 : Int32} {x2 : Int32} {r : Int32} {M M' : Mem}  (h : f_X12_signalOf x1 x2 M = some (r, M')) : Met l yX12_signalOf (wsO yX12_signalOf cX12_signalOf 4 (some .int)) (rmO 1) (PcO G [.ref (G.2.1 (10, 0, 0)), .int x1, .int x2] M) (QiO G (AA G) r M') 0 0 (AA G) :=
  met_of (own := RX12) rfl (by decide +kernel) (Nat.le_of_ble_eq_true rfl) (fun p e s m args below meth c X hr => t_X12_signalOf X hr  h)
-- ConverterScannerModel.isChannel
def f_X12_isChannel (x1 : Int32) (M : Mem) : Option (Int32 × Mem) :=
  bnd (f_X12_inRange x1 0 7 M) (fun r1 M2 => if ¬ (r1 = 0 ∨ r1 = 1) then none else some (r1, M2))
set_option maxHeartbeats 4000000 in
set_option maxRecDepth 100000 in
theorem t_X12_isChannel {G : GG} {A : Nat → Prop} {p : Program} {l : Launch} {e : Env} {s : State} {m : MethodId} {args : Array Value} {below : List Frame} {meth : Method} {c : Code} {r : Int32} {M' : Mem} (X : Cx G A p s m args meth c RX12 cX12_isChannel 2) (hr : meth.sig.returnType = some .boolean) {x1 : Int32} {M : Mem}  (h : f_X12_isChannel x1 M = some (r, M')) : T G A p l e (rmO 1) s m args below meth c 2 0 0 (MQ below (QiO G A r M') args s 0 0 A) 0 [(0, .ref (G.2.1 (10, 0, 0))), (1, .int x1)] [] M := by
  unfold f_X12_isChannel at h
  refine r_iload_n (pc := 0) X dX12_isChannel_0 rfl ?_
  refine r_iconst (pc := 1) X (v := 0) dX12_isChannel_1 (by decide) ?_
  refine r_bipush (pc := 2) X (v := 7) dX12_isChannel_2 (by decide) ?_
  refine bndE h (fun r1 M2 h3 h => ?_)
  refine r_callSi3 (pc := 4) X sy_X12_inRange my_X12_inRange ml_X12_22 ⟨Nat.le_of_ble_eq_true rfl, Nat.le_of_ble_eq_true rfl, Nat.le_of_ble_eq_true rfl, Nat.le_of_ble_eq_true rfl⟩ (c_X12_inRange  h3) (Nat.le_of_ble_eq_true rfl) dX12_isChannel_4 ?_
  exact r_zret (pc := 7) X hr dX12_isChannel_7 h
theorem c_X12_isChannel {G : GG} {l : Launch} {x1 : Int32} {r : Int32} {M M' : Mem}  (h : f_X12_isChannel x1 M = some (r, M')) : Met l yX12_isChannel (wsO yX12_isChannel cX12_isChannel 2 (some .boolean)) (rmO 1) (PcO G [.ref (G.2.1 (10, 0, 0)), .int x1] M) (QiO G (AA G) r M') 0 0 (AA G) :=
  met_of (own := RX12) rfl (by decide +kernel) (Nat.le_of_ble_eq_true rfl) (fun p e s m args below meth c X hr => t_X12_isChannel X hr  h)
-- ConverterScannerModel.breakOff
def f_X12_breakOff  (M : Mem) : Option (Unit × Mem) :=
  bnd (f_X12_puts 1 0 M) (fun r1 M2 => bnd (f_X12_adds 7 1 M2) (fun r4 M5 => some ((), M5)))
set_option maxHeartbeats 4000000 in
set_option maxRecDepth 100000 in
theorem t_X12_breakOff {G : GG} {A : Nat → Prop} {p : Program} {l : Launch} {e : Env} {s : State} {m : MethodId} {args : Array Value} {below : List Frame} {meth : Method} {c : Code} {r : Unit} {M' : Mem} (X : Cx G A p s m args meth c RX12 cX12_breakOff 1) (hr : meth.sig.returnType = none) {M : Mem}  (h : f_X12_breakOff M = some (r, M')) : T G A p l e (rmO 1) s m args below meth c 1 0 0 (MQ below (QvO G A M') args s 0 0 A) 0 [(0, .ref (G.2.1 (10, 0, 0)))] [] M := by
  unfold f_X12_breakOff at h
  refine r_aload_n (pc := 0) X dX12_breakOff_0 rfl ?_
  refine r_iconst (pc := 1) X (v := 1) dX12_breakOff_1 (by decide) ?_
  refine r_iconst (pc := 2) X (v := 0) dX12_breakOff_2 (by decide) ?_
  refine bndE h (fun r1 M2 h3 h => ?_)
  refine r_callVv2 (pc := 3) X ⟨(ltb rfl), (ltb rfl)⟩ rfl vy_X12_puts my_X12_puts ml_X12_39 ⟨Nat.le_of_ble_eq_true rfl, Nat.le_of_ble_eq_true rfl, Nat.le_of_ble_eq_true rfl, Nat.le_of_ble_eq_true rfl⟩ (c_X12_puts  h3) (Nat.le_of_ble_eq_true rfl) dX12_breakOff_3 ?_
  refine r_aload_n (pc := 6) X dX12_breakOff_6 rfl ?_
  refine r_bipush (pc := 7) X (v := 7) dX12_breakOff_7 (by decide) ?_
  refine r_iconst (pc := 9) X (v := 1) dX12_breakOff_9 (by decide) ?_
  refine bndE h (fun r4 M5 h6 h => ?_)
  refine r_callVv2 (pc := 10) X ⟨(ltb rfl), (ltb rfl)⟩ rfl vy_X12_adds my_X12_adds ml_X12_162 ⟨Nat.le_of_ble_eq_true rfl, Nat.le_of_ble_eq_true rfl, Nat.le_of_ble_eq_true rfl, Nat.le_of_ble_eq_true rfl⟩ (c_X12_adds  h6) (Nat.le_of_ble_eq_true rfl) dX12_breakOff_10 ?_
  cases h
  exact r_vret (pc := 13) X hr dX12_breakOff_13
theorem c_X12_breakOff {G : GG} {l : Launch} {r : Unit} {M M' : Mem}  (h : f_X12_breakOff  M = some (r, M')) : Met l yX12_breakOff (wsO yX12_breakOff cX12_breakOff 1 none) (rmO 1) (PcO G [.ref (G.2.1 (10, 0, 0))] M) (QvO G (AA G) M') 0 0 (AA G) :=
  met_of (own := RX12) rfl (by decide +kernel) (Nat.le_of_ble_eq_true rfl) (fun p e s m args below meth c X hr => t_X12_breakOff X hr  h)
-- ConverterScannerModel.clearResult
def f_X12_clearResult (x1 : Int32) (M : Mem) : Option (Unit × Mem) :=
  bnd (f_X12_seq x1 6 M) (fun r1 M2 => bnd (f_X12_puts r1 0 M2) (fun r4 M5 => bnd (f_X12_seq x1 7 M5) (fun r7 M8 => bnd (f_X12_puts r7 0 M8) (fun r10 M11 => some ((), M11)))))
set_option maxHeartbeats 4000000 in
set_option maxRecDepth 100000 in
theorem t_X12_clearResult {G : GG} {A : Nat → Prop} {p : Program} {l : Launch} {e : Env} {s : State} {m : MethodId} {args : Array Value} {below : List Frame} {meth : Method} {c : Code} {r : Unit} {M' : Mem} (X : Cx G A p s m args meth c RX12 cX12_clearResult 2) (hr : meth.sig.returnType = none) {x1 : Int32} {M : Mem}  (h : f_X12_clearResult x1 M = some (r, M')) : T G A p l e (rmO 1) s m args below meth c 2 0 0 (MQ below (QvO G A M') args s 0 0 A) 0 [(0, .ref (G.2.1 (10, 0, 0))), (1, .int x1)] [] M := by
  unfold f_X12_clearResult at h
  refine r_aload_n (pc := 0) X dX12_clearResult_0 rfl ?_
  refine r_iload_n (pc := 1) X dX12_clearResult_1 rfl ?_
  refine r_bipush (pc := 2) X (v := 6) dX12_clearResult_2 (by decide) ?_
  refine bndE h (fun r1 M2 h3 h => ?_)
  refine r_callSi2 (pc := 4) X sy_X12_seq my_X12_seq ml_X12_43 ⟨Nat.le_of_ble_eq_true rfl, Nat.le_of_ble_eq_true rfl, Nat.le_of_ble_eq_true rfl, Nat.le_of_ble_eq_true rfl⟩ (c_X12_seq  h3) (Nat.le_of_ble_eq_true rfl) dX12_clearResult_4 ?_
  refine r_iconst (pc := 7) X (v := 0) dX12_clearResult_7 (by decide) ?_
  refine bndE h (fun r4 M5 h6 h => ?_)
  refine r_callVv2 (pc := 8) X ⟨(ltb rfl), (ltb rfl)⟩ rfl vy_X12_puts my_X12_puts ml_X12_39 ⟨Nat.le_of_ble_eq_true rfl, Nat.le_of_ble_eq_true rfl, Nat.le_of_ble_eq_true rfl, Nat.le_of_ble_eq_true rfl⟩ (c_X12_puts  h6) (Nat.le_of_ble_eq_true rfl) dX12_clearResult_8 ?_
  refine r_aload_n (pc := 11) X dX12_clearResult_11 rfl ?_
  refine r_iload_n (pc := 12) X dX12_clearResult_12 rfl ?_
  refine r_bipush (pc := 13) X (v := 7) dX12_clearResult_13 (by decide) ?_
  refine bndE h (fun r7 M8 h9 h => ?_)
  refine r_callSi2 (pc := 15) X sy_X12_seq my_X12_seq ml_X12_43 ⟨Nat.le_of_ble_eq_true rfl, Nat.le_of_ble_eq_true rfl, Nat.le_of_ble_eq_true rfl, Nat.le_of_ble_eq_true rfl⟩ (c_X12_seq  h9) (Nat.le_of_ble_eq_true rfl) dX12_clearResult_15 ?_
  refine r_iconst (pc := 18) X (v := 0) dX12_clearResult_18 (by decide) ?_
  refine bndE h (fun r10 M11 h12 h => ?_)
  refine r_callVv2 (pc := 19) X ⟨(ltb rfl), (ltb rfl)⟩ rfl vy_X12_puts my_X12_puts ml_X12_39 ⟨Nat.le_of_ble_eq_true rfl, Nat.le_of_ble_eq_true rfl, Nat.le_of_ble_eq_true rfl, Nat.le_of_ble_eq_true rfl⟩ (c_X12_puts  h12) (Nat.le_of_ble_eq_true rfl) dX12_clearResult_19 ?_
  cases h
  exact r_vret (pc := 22) X hr dX12_clearResult_22
theorem c_X12_clearResult {G : GG} {l : Launch} {x1 : Int32} {r : Unit} {M M' : Mem}  (h : f_X12_clearResult x1 M = some (r, M')) : Met l yX12_clearResult (wsO yX12_clearResult cX12_clearResult 2 none) (rmO 1) (PcO G [.ref (G.2.1 (10, 0, 0)), .int x1] M) (QvO G (AA G) M') 0 0 (AA G) :=
  met_of (own := RX12) rfl (by decide +kernel) (Nat.le_of_ble_eq_true rfl) (fun p e s m args below meth c X hr => t_X12_clearResult X hr  h)
-- ConverterScannerModel.beginPass
def f_X12_beginPass_46 (x2 : Int32) (xs0 : Int32) (M : Mem) : Option (Unit × Mem) :=
  bnd (f_X12_puts xs0 x2 M) (fun r1 M2 => some ((), M2))
set_option maxHeartbeats 4000000 in
set_option maxRecDepth 100000 in
theorem t_X12_beginPass_46 {G : GG} {A : Nat → Prop} {p : Program} {l : Launch} {e : Env} {s : State} {m : MethodId} {args : Array Value} {below : List Frame} {meth : Method} {c : Code} {r : Unit} {M' : Mem} (X : Cx G A p s m args meth c RX12 cX12_beginPass 4) (hr : meth.sig.returnType = none) {x2 : Int32} {xs0 : Int32} {M : Mem}  (h : f_X12_beginPass_46 x2 xs0 M = some (r, M')) : T G A p l e (rmO 1) s m args below meth c 4 0 0 (MQ below (QvO G A M') args s 0 0 A) 46 [(2, .int x2)] [.int xs0, .ref (G.2.1 (10, 0, 0))] M := by
  unfold f_X12_beginPass_46 at h
  refine r_iload_n (pc := 46) X dX12_beginPass_46 rfl ?_
  refine bndE h (fun r1 M2 h3 h => ?_)
  refine r_callVv2 (pc := 47) X ⟨(ltb rfl), (ltb rfl)⟩ rfl vy_X12_puts my_X12_puts ml_X12_39 ⟨Nat.le_of_ble_eq_true rfl, Nat.le_of_ble_eq_true rfl, Nat.le_of_ble_eq_true rfl, Nat.le_of_ble_eq_true rfl⟩ (c_X12_puts  h3) (Nat.le_of_ble_eq_true rfl) dX12_beginPass_47 ?_
  cases h
  exact r_vret (pc := 50) X hr dX12_beginPass_50
def f_X12_beginPass (x1 : Int32) (M : Mem) : Option (Unit × Mem) :=
  bnd (f_X12_entries x1 M) (fun r1 M2 => bnd (f_X12_seq x1 1 M2) (fun r4 M5 => bnd (f_X12_its r4 M5) (fun r7 M8 => nm (r1 - r7) (fun e10 => if bad 5 104 then none else nm (M8.1 (31, 0, 0) (Int32.toNatClampNeg 5)) (fun e11 => bnd (f_X12_seq x1 8 M8) (fun r12 M13 => if x1 = 0 then if e11 ≤ 0 then f_X12_beginPass_46 e10 r12 M13 else bnd (f_X12_lesser e11 e10 M13) (fun r15 M16 => bnd (f_X12_puts r12 r15 M16) (fun r18 M19 => some ((), M19))) else f_X12_beginPass_46 e10 r12 M13))))))
set_option maxHeartbeats 4000000 in
set_option maxRecDepth 100000 in
theorem t_X12_beginPass {G : GG} {A : Nat → Prop} {p : Program} {l : Launch} {e : Env} {s : State} {m : MethodId} {args : Array Value} {below : List Frame} {meth : Method} {c : Code} {r : Unit} {M' : Mem} (X : Cx G A p s m args meth c RX12 cX12_beginPass 4) (hr : meth.sig.returnType = none) {x1 : Int32} {M : Mem}  (h : f_X12_beginPass x1 M = some (r, M')) : T G A p l e (rmO 1) s m args below meth c 4 0 0 (MQ below (QvO G A M') args s 0 0 A) 0 [(0, .ref (G.2.1 (10, 0, 0))), (1, .int x1)] [] M := by
  unfold f_X12_beginPass at h
  refine r_aload_n (pc := 0) X dX12_beginPass_0 rfl ?_
  refine r_iload_n (pc := 1) X dX12_beginPass_1 rfl ?_
  refine bndE h (fun r1 M2 h3 h => ?_)
  refine r_callVi1 (pc := 2) X ⟨(ltb rfl), (ltb rfl)⟩ rfl vy_X12_entries my_X12_entries ml_X12_165 ⟨Nat.le_of_ble_eq_true rfl, Nat.le_of_ble_eq_true rfl, Nat.le_of_ble_eq_true rfl, Nat.le_of_ble_eq_true rfl⟩ (c_X12_entries  h3) (Nat.le_of_ble_eq_true rfl) dX12_beginPass_2 ?_
  refine r_aload_n (pc := 5) X dX12_beginPass_5 rfl ?_
  refine r_iload_n (pc := 6) X dX12_beginPass_6 rfl ?_
  refine r_iconst (pc := 7) X (v := 1) dX12_beginPass_7 (by decide) ?_
  refine bndE h (fun r4 M5 h6 h => ?_)
  refine r_callSi2 (pc := 8) X sy_X12_seq my_X12_seq ml_X12_43 ⟨Nat.le_of_ble_eq_true rfl, Nat.le_of_ble_eq_true rfl, Nat.le_of_ble_eq_true rfl, Nat.le_of_ble_eq_true rfl⟩ (c_X12_seq  h6) (Nat.le_of_ble_eq_true rfl) dX12_beginPass_8 ?_
  refine bndE h (fun r7 M8 h9 h => ?_)
  refine r_callVi1 (pc := 11) X ⟨(ltb rfl), (ltb rfl)⟩ rfl vy_X12_its my_X12_its ml_X12_155 ⟨Nat.le_of_ble_eq_true rfl, Nat.le_of_ble_eq_true rfl, Nat.le_of_ble_eq_true rfl, Nat.le_of_ble_eq_true rfl⟩ (c_X12_its  h9) (Nat.le_of_ble_eq_true rfl) dX12_beginPass_11 ?_
  refine r_isub (pc := 14) X dX12_beginPass_14 ?_
  refine r_istore_nN (pc := 15) X (by decide) dX12_beginPass_15 h (fun e10 h => ?_)
  refine r_aload_n (pc := 16) X dX12_beginPass_16 rfl ?_
  refine r_getR (q := (31, 0, 0)) (pc := 17) X ⟨(ltb rfl), (ltb rfl)⟩ fl_X12_26 rfl dX12_beginPass_17 ?_
  refine r_iconst (pc := 20) X (v := 5) dX12_beginPass_20 (by decide) ?_
  refine r_iald (pc := 21) X (n := 104) ⟨(ltb rfl), (ltb rfl)⟩ rfl (nlt rfl) dX12_beginPass_21 h (fun h => ?_)
  refine r_istore_nN (pc := 22) X (by decide) dX12_beginPass_22 h (fun e11 h => ?_)
  refine r_aload_n (pc := 23) X dX12_beginPass_23 rfl ?_
  refine r_iload_n (pc := 24) X dX12_beginPass_24 rfl ?_
  refine r_bipush (pc := 25) X (v := 8) dX12_beginPass_25 (by decide) ?_
  refine bndE h (fun r12 M13 h14 h => ?_)
  refine r_callSi2 (pc := 27) X sy_X12_seq my_X12_seq ml_X12_43 ⟨Nat.le_of_ble_eq_true rfl, Nat.le_of_ble_eq_true rfl, Nat.le_of_ble_eq_true rfl, Nat.le_of_ble_eq_true rfl⟩ (c_X12_seq  h14) (Nat.le_of_ble_eq_true rfl) dX12_beginPass_27 ?_
  refine r_iload_n (pc := 30) X dX12_beginPass_30 rfl ?_
  refine r_if_ne (pc := 31) X (tgt := 46) dX12_beginPass_31 (by decide) h (fun h => ?_) (fun h => ?_)
  · exact T_sub (t_X12_beginPass_46 X hr h) ⟨rfl, trivial⟩
  · refine r_iload_n (pc := 34) X dX12_beginPass_34 rfl ?_
    refine r_if_le (pc := 35) X (tgt := 46) dX12_beginPass_35 (by decide) h (fun h => ?_) (fun h => ?_)
    · exact T_sub (t_X12_beginPass_46 X hr h) ⟨rfl, trivial⟩
    · refine r_iload_n (pc := 38) X dX12_beginPass_38 rfl ?_
      refine r_iload_n (pc := 39) X dX12_beginPass_39 rfl ?_
      refine bndE h (fun r15 M16 h17 h => ?_)
      refine r_callSi2 (pc := 40) X sy_X12_lesser my_X12_lesser ml_X12_159 ⟨Nat.le_of_ble_eq_true rfl, Nat.le_of_ble_eq_true rfl, Nat.le_of_ble_eq_true rfl, Nat.le_of_ble_eq_true rfl⟩ (c_X12_lesser  h17) (Nat.le_of_ble_eq_true rfl) dX12_beginPass_40 ?_
      refine r_goto (pc := 43) X (tgt := 47) dX12_beginPass_43 (by decide) ?_
      refine bndE h (fun r18 M19 h20 h => ?_)
      refine r_callVv2 (pc := 47) X ⟨(ltb rfl), (ltb rfl)⟩ rfl vy_X12_puts my_X12_puts ml_X12_39 ⟨Nat.le_of_ble_eq_true rfl, Nat.le_of_ble_eq_true rfl, Nat.le_of_ble_eq_true rfl, Nat.le_of_ble_eq_true rfl⟩ (c_X12_puts  h20) (Nat.le_of_ble_eq_true rfl) dX12_beginPass_47 ?_
      cases h
      exact r_vret (pc := 50) X hr dX12_beginPass_50
theorem c_X12_beginPass {G : GG} {l : Launch} {x1 : Int32} {r : Unit} {M M' : Mem}  (h : f_X12_beginPass x1 M = some (r, M')) : Met l yX12_beginPass (wsO yX12_beginPass cX12_beginPass 4 none) (rmO 1) (PcO G [.ref (G.2.1 (10, 0, 0)), .int x1] M) (QvO G (AA G) M') 0 0 (AA G) :=
  met_of (own := RX12) rfl (by decide +kernel) (Nat.le_of_ble_eq_true rfl) (fun p e s m args below meth c X hr => t_X12_beginPass X hr  h)
-- ConverterScannerModel.startSequence
def f_X12_startSequence (x1 : Int32) (x2 : Int32) (M : Mem) : Option (Unit × Mem) :=
  bnd (f_X12_seq x1 0 M) (fun r1 M2 => bnd (f_X12_puts r1 1 M2) (fun r4 M5 => bnd (f_X12_seq x1 2 M5) (fun r7 M8 => bnd (f_X12_puts r7 x2 M8) (fun r10 M11 => bnd (f_X12_seq x1 3 M11) (fun r13 M14 => bnd (f_X12_its 0 M14) (fun r16 M17 => bnd (f_X12_puts r13 r16 M17) (fun r19 M20 => bnd (f_X12_beginPass x1 M20) (fun r22 M23 => if x1 = 0 then some ((), M23) else bnd (f_X12_its 1 M23) (fun r25 M26 => if r25 = 1 then bnd (f_X12_breakOff  M26) (fun r28 M29 => if bad 4 104 then none else if (M29.1 (31, 0, 0) (Int32.toNatClampNeg 4)) = 0 then bnd (f_X12_clearResult 0 M29) (fun r31 M32 => some ((), M32)) else some ((), M29)) else some ((), M26))))))))))
set_option maxHeartbeats 4000000 in
set_option maxRecDepth 100000 in
theorem t_X12_startSequence {G : GG} {A : Nat → Prop} {p : Program} {l : Launch} {e : Env} {s : State} {m : MethodId} {args : Array Value} {below : List Frame} {meth : Method} {c : Code} {r : Unit} {M' : Mem} (X : Cx G A p s m args meth c RX12 cX12_startSequence 3) (hr : meth.sig.returnType = none) {x1 : Int32} {x2 : Int32} {M : Mem}  (h : f_X12_startSequence x1 x2 M = some (r, M')) : T G A p l e (rmO 2) s m args below meth c 3 0 0 (MQ below (QvO G A M') args s 0 0 A) 0 [(0, .ref (G.2.1 (10, 0, 0))), (1, .int x1), (2, .int x2)] [] M := by
  unfold f_X12_startSequence at h
  refine r_aload_n (pc := 0) X dX12_startSequence_0 rfl ?_
  refine r_iload_n (pc := 1) X dX12_startSequence_1 rfl ?_
  refine r_iconst (pc := 2) X (v := 0) dX12_startSequence_2 (by decide) ?_
  refine bndE h (fun r1 M2 h3 h => ?_)
  refine r_callSi2 (pc := 3) X sy_X12_seq my_X12_seq ml_X12_43 ⟨Nat.le_of_ble_eq_true rfl, Nat.le_of_ble_eq_true rfl, Nat.le_of_ble_eq_true rfl, Nat.le_of_ble_eq_true rfl⟩ (c_X12_seq  h3) (Nat.le_of_ble_eq_true rfl) dX12_startSequence_3 ?_
  refine r_iconst (pc := 6) X (v := 1) dX12_startSequence_6 (by decide) ?_
  refine bndE h (fun r4 M5 h6 h => ?_)
  refine r_callVv2 (pc := 7) X ⟨(ltb rfl), (ltb rfl)⟩ rfl vy_X12_puts my_X12_puts ml_X12_39 ⟨Nat.le_of_ble_eq_true rfl, Nat.le_of_ble_eq_true rfl, Nat.le_of_ble_eq_true rfl, Nat.le_of_ble_eq_true rfl⟩ (c_X12_puts  h6) (Nat.le_of_ble_eq_true rfl) dX12_startSequence_7 ?_
  refine r_aload_n (pc := 10) X dX12_startSequence_10 rfl ?_
  refine r_iload_n (pc := 11) X dX12_startSequence_11 rfl ?_
  refine r_iconst (pc := 12) X (v := 2) dX12_startSequence_12 (by decide) ?_
  refine bndE h (fun r7 M8 h9 h => ?_)
  refine r_callSi2 (pc := 13) X sy_X12_seq my_X12_seq ml_X12_43 ⟨Nat.le_of_ble_eq_true rfl, Nat.le_of_ble_eq_true rfl, Nat.le_of_ble_eq_true rfl, Nat.le_of_ble_eq_true rfl⟩ (c_X12_seq  h9) (Nat.le_of_ble_eq_true rfl) dX12_startSequence_13 ?_
  refine r_iload_n (pc := 16) X dX12_startSequence_16 rfl ?_
  refine bndE h (fun r10 M11 h12 h => ?_)
  refine r_callVv2 (pc := 17) X ⟨(ltb rfl), (ltb rfl)⟩ rfl vy_X12_puts my_X12_puts ml_X12_39 ⟨Nat.le_of_ble_eq_true rfl, Nat.le_of_ble_eq_true rfl, Nat.le_of_ble_eq_true rfl, Nat.le_of_ble_eq_true rfl⟩ (c_X12_puts  h12) (Nat.le_of_ble_eq_true rfl) dX12_startSequence_17 ?_
  refine r_aload_n (pc := 20) X dX12_startSequence_20 rfl ?_
  refine r_iload_n (pc := 21) X dX12_startSequence_21 rfl ?_
  refine r_iconst (pc := 22) X (v := 3) dX12_startSequence_22 (by decide) ?_
  refine bndE h (fun r13 M14 h15 h => ?_)
  refine r_callSi2 (pc := 23) X sy_X12_seq my_X12_seq ml_X12_43 ⟨Nat.le_of_ble_eq_true rfl, Nat.le_of_ble_eq_true rfl, Nat.le_of_ble_eq_true rfl, Nat.le_of_ble_eq_true rfl⟩ (c_X12_seq  h15) (Nat.le_of_ble_eq_true rfl) dX12_startSequence_23 ?_
  refine r_aload_n (pc := 26) X dX12_startSequence_26 rfl ?_
  refine r_iconst (pc := 27) X (v := 0) dX12_startSequence_27 (by decide) ?_
  refine bndE h (fun r16 M17 h18 h => ?_)
  refine r_callVi1 (pc := 28) X ⟨(ltb rfl), (ltb rfl)⟩ rfl vy_X12_its my_X12_its ml_X12_155 ⟨Nat.le_of_ble_eq_true rfl, Nat.le_of_ble_eq_true rfl, Nat.le_of_ble_eq_true rfl, Nat.le_of_ble_eq_true rfl⟩ (c_X12_its  h18) (Nat.le_of_ble_eq_true rfl) dX12_startSequence_28 ?_
  refine bndE h (fun r19 M20 h21 h => ?_)
  refine r_callVv2 (pc := 31) X ⟨(ltb rfl), (ltb rfl)⟩ rfl vy_X12_puts my_X12_puts ml_X12_39 ⟨Nat.le_of_ble_eq_true rfl, Nat.le_of_ble_eq_true rfl, Nat.le_of_ble_eq_true rfl, Nat.le_of_ble_eq_true rfl⟩ (c_X12_puts  h21) (Nat.le_of_ble_eq_true rfl) dX12_startSequence_31 ?_
  refine r_aload_n (pc := 34) X dX12_startSequence_34 rfl ?_
  refine r_iload_n (pc := 35) X dX12_startSequence_35 rfl ?_
  refine bndE h (fun r22 M23 h24 h => ?_)
  refine r_callVv1 (pc := 36) X ⟨(ltb rfl), (ltb rfl)⟩ rfl vy_X12_beginPass my_X12_beginPass ml_X12_168 ⟨Nat.le_of_ble_eq_true rfl, Nat.le_of_ble_eq_true rfl, Nat.le_of_ble_eq_true rfl, Nat.le_of_ble_eq_true rfl⟩ (c_X12_beginPass  h24) (Nat.le_of_ble_eq_true rfl) dX12_startSequence_36 ?_
  refine r_iload_n (pc := 39) X dX12_startSequence_39 rfl ?_
  refine r_if_eq (pc := 40) X (tgt := 52) dX12_startSequence_40 (by decide) h (fun h => ?_) (fun h => ?_)
  · cases h
    exact r_vret (pc := 52) X hr dX12_startSequence_52
  · refine r_aload_n (pc := 43) X dX12_startSequence_43 rfl ?_
    refine r_iconst (pc := 44) X (v := 1) dX12_startSequence_44 (by decide) ?_
    refine bndE h (fun r25 M26 h27 h => ?_)
    refine r_callVi1 (pc := 45) X ⟨(ltb rfl), (ltb rfl)⟩ rfl vy_X12_its my_X12_its ml_X12_155 ⟨Nat.le_of_ble_eq_true rfl, Nat.le_of_ble_eq_true rfl, Nat.le_of_ble_eq_true rfl, Nat.le_of_ble_eq_true rfl⟩ (c_X12_its  h27) (Nat.le_of_ble_eq_true rfl) dX12_startSequence_45 ?_
    refine r_iconst (pc := 48) X (v := 1) dX12_startSequence_48 (by decide) ?_
    refine r_icmp_eq (pc := 49) X (tgt := 53) dX12_startSequence_49 (by decide) h (fun h => ?_) (fun h => ?_)
    · refine r_aload_n (pc := 53) X dX12_startSequence_53 rfl ?_
      refine bndE h (fun r28 M29 h30 h => ?_)
      refine r_callVv0 (pc := 54) X ⟨(ltb rfl), (ltb rfl)⟩ rfl vy_X12_breakOff my_X12_breakOff ml_X12_171 ⟨Nat.le_of_ble_eq_true rfl, Nat.le_of_ble_eq_true rfl, Nat.le_of_ble_eq_true rfl, Nat.le_of_ble_eq_true rfl⟩ (c_X12_breakOff  h30) (Nat.le_of_ble_eq_true rfl) dX12_startSequence_54 ?_
      refine r_aload_n (pc := 57) X dX12_startSequence_57 rfl ?_
      refine r_getR (q := (31, 0, 0)) (pc := 58) X ⟨(ltb rfl), (ltb rfl)⟩ fl_X12_26 rfl dX12_startSequence_58 ?_
      refine r_iconst (pc := 61) X (v := 4) dX12_startSequence_61 (by decide) ?_
      refine r_iald (pc := 62) X (n := 104) ⟨(ltb rfl), (ltb rfl)⟩ rfl (nlt rfl) dX12_startSequence_62 h (fun h => ?_)
      refine r_if_ne (pc := 63) X (tgt := 71) dX12_startSequence_63 (by decide) h (fun h => ?_) (fun h => ?_)
      · cases h
        exact r_vret (pc := 71) X hr dX12_startSequence_71
      · refine r_aload_n (pc := 66) X dX12_startSequence_66 rfl ?_
        refine r_iconst (pc := 67) X (v := 0) dX12_startSequence_67 (by decide) ?_
        refine bndE h (fun r31 M32 h33 h => ?_)
        refine r_callVv1 (pc := 68) X ⟨(ltb rfl), (ltb rfl)⟩ rfl vy_X12_clearResult my_X12_clearResult ml_X12_174 ⟨Nat.le_of_ble_eq_true rfl, Nat.le_of_ble_eq_true rfl, Nat.le_of_ble_eq_true rfl, Nat.le_of_ble_eq_true rfl⟩ (c_X12_clearResult  h33) (Nat.le_of_ble_eq_true rfl) dX12_startSequence_68 ?_
        cases h
        exact r_vret (pc := 71) X hr dX12_startSequence_71
    · cases h
      exact r_vret (pc := 52) X hr dX12_startSequence_52
theorem c_X12_startSequence {G : GG} {l : Launch} {x1 : Int32} {x2 : Int32} {r : Unit} {M M' : Mem}  (h : f_X12_startSequence x1 x2 M = some (r, M')) : Met l yX12_startSequence (wsO yX12_startSequence cX12_startSequence 3 none) (rmO 2) (PcO G [.ref (G.2.1 (10, 0, 0)), .int x1, .int x2] M) (QvO G (AA G) M') 0 0 (AA G) :=
  met_of (own := RX12) rfl (by decide +kernel) (Nat.le_of_ble_eq_true rfl) (fun p e s m args below meth c X hr => t_X12_startSequence X hr  h)
-- ConverterScannerModel.fires
def f_X12_fires_47 (x1 : Int32) (M : Mem) : Option (Int32 × Mem) :=
  bnd (f_X12_trig x1 1 M) (fun r1 M2 => bnd (f_X12_adds r1 1 M2) (fun r4 M5 => some (0, M5)))
set_option maxHeartbeats 4000000 in
set_option maxRecDepth 100000 in
theorem t_X12_fires_47 {G : GG} {A : Nat → Prop} {p : Program} {l : Launch} {e : Env} {s : State} {m : MethodId} {args : Array Value} {below : List Frame} {meth : Method} {c : Code} {r : Int32} {M' : Mem} (X : Cx G A p s m args meth c RX12 cX12_fires 3) (hr : meth.sig.returnType = some .boolean) {x1 : Int32} {M : Mem}  (h : f_X12_fires_47 x1 M = some (r, M')) : T G A p l e (rmO 3) s m args below meth c 3 0 0 (MQ below (QiO G A r M') args s 0 0 A) 47 [(0, .ref (G.2.1 (10, 0, 0))), (1, .int x1)] [] M := by
  unfold f_X12_fires_47 at h
  refine r_aload_n (pc := 47) X dX12_fires_47 rfl ?_
  refine r_iload_n (pc := 48) X dX12_fires_48 rfl ?_
  refine r_iconst (pc := 49) X (v := 1) dX12_fires_49 (by decide) ?_
  refine bndE h (fun r1 M2 h3 h => ?_)
  refine r_callSi2 (pc := 50) X sy_X12_trig my_X12_trig ml_X12_177 ⟨Nat.le_of_ble_eq_true rfl, Nat.le_of_ble_eq_true rfl, Nat.le_of_ble_eq_true rfl, Nat.le_of_ble_eq_true rfl⟩ (c_X12_trig  h3) (Nat.le_of_ble_eq_true rfl) dX12_fires_50 ?_
  refine r_iconst (pc := 53) X (v := 1) dX12_fires_53 (by decide) ?_
  refine bndE h (fun r4 M5 h6 h => ?_)
  refine r_callVv2 (pc := 54) X ⟨(ltb rfl), (ltb rfl)⟩ rfl vy_X12_adds my_X12_adds ml_X12_162 ⟨Nat.le_of_ble_eq_true rfl, Nat.le_of_ble_eq_true rfl, Nat.le_of_ble_eq_true rfl, Nat.le_of_ble_eq_true rfl⟩ (c_X12_adds  h6) (Nat.le_of_ble_eq_true rfl) dX12_fires_54 ?_
  refine r_iconst (pc := 57) X (v := 0) dX12_fires_57 (by decide) ?_
  cases h
  exact r_zretc (pc := 58) X hr (by decide +kernel) dX12_fires_58
def f_X12_fires (x1 : Int32) (M : Mem) : Option (Int32 × Mem) :=
  bnd (f_X12_trig x1 0 M) (fun r1 M2 => bnd (f_X12_adds r1 1 M2) (fun r4 M5 => if bad (30 + x1) 104 then none else nm ((M5.1 (31, 0, 0) (Int32.toNatClampNeg (30 + x1))) - 1) (fun e7 => if e7 < 0 then f_X12_fires_47 x1 M5 else bnd (f_X12_entries e7 M5) (fun r8 M9 => if r8 = 0 then f_X12_fires_47 x1 M9 else bnd (f_X12_seq e7 0 M9) (fun r11 M12 => bnd (f_X12_its r11 M12) (fun r14 M15 => if r14 = 1 then f_X12_fires_47 x1 M15 else bnd (f_X12_startSequence e7 x1 M15) (fun r17 M18 => some (1, M18))))))))
set_option maxHeartbeats 4000000 in
set_option maxRecDepth 100000 in
theorem t_X12_fires {G : GG} {A : Nat → Prop} {p : Program} {l : Launch} {e : Env} {s : State} {m : MethodId} {args : Array Value} {below : List Frame} {meth : Method} {c : Code} {r : Int32} {M' : Mem} (X : Cx G A p s m args meth c RX12 cX12_fires 3) (hr : meth.sig.returnType = some .boolean) {x1 : Int32} {M : Mem}  (h : f_X12_fires x1 M = some (r, M')) : T G A p l e (rmO 3) s m args below meth c 3 0 0 (MQ below (QiO G A r M') args s 0 0 A) 0 [(0, .ref (G.2.1 (10, 0, 0))), (1, .int x1)] [] M := by
  unfold f_X12_fires at h
  refine r_aload_n (pc := 0) X dX12_fires_0 rfl ?_
  refine r_iload_n (pc := 1) X dX12_fires_1 rfl ?_
  refine r_iconst (pc := 2) X (v := 0) dX12_fires_2 (by decide) ?_
  refine bndE h (fun r1 M2 h3 h => ?_)
  refine r_callSi2 (pc := 3) X sy_X12_trig my_X12_trig ml_X12_177 ⟨Nat.le_of_ble_eq_true rfl, Nat.le_of_ble_eq_true rfl, Nat.le_of_ble_eq_true rfl, Nat.le_of_ble_eq_true rfl⟩ (c_X12_trig  h3) (Nat.le_of_ble_eq_true rfl) dX12_fires_3 ?_
  refine r_iconst (pc := 6) X (v := 1) dX12_fires_6 (by decide) ?_
  refine bndE h (fun r4 M5 h6 h => ?_)
  refine r_callVv2 (pc := 7) X ⟨(ltb rfl), (ltb rfl)⟩ rfl vy_X12_adds my_X12_adds ml_X12_162 ⟨Nat.le_of_ble_eq_true rfl, Nat.le_of_ble_eq_true rfl, Nat.le_of_ble_eq_true rfl, Nat.le_of_ble_eq_true rfl⟩ (c_X12_adds  h6) (Nat.le_of_ble_eq_true rfl) dX12_fires_7 ?_
  refine r_aload_n (pc := 10) X dX12_fires_10 rfl ?_
  refine r_getR (q := (31, 0, 0)) (pc := 11) X ⟨(ltb rfl), (ltb rfl)⟩ fl_X12_26 rfl dX12_fires_11 ?_
  refine r_bipush (pc := 14) X (v := 30) dX12_fires_14 (by decide) ?_
  refine r_iload_n (pc := 16) X dX12_fires_16 rfl ?_
  refine r_iadd (pc := 17) X dX12_fires_17 ?_
  refine r_iald (pc := 18) X (n := 104) ⟨(ltb rfl), (ltb rfl)⟩ rfl (nlt rfl) dX12_fires_18 h (fun h => ?_)
  refine r_iconst (pc := 19) X (v := 1) dX12_fires_19 (by decide) ?_
  refine r_isub (pc := 20) X dX12_fires_20 ?_
  refine r_istore_nN (pc := 21) X (by decide) dX12_fires_21 h (fun e7 h => ?_)
  refine r_iload_n (pc := 22) X dX12_fires_22 rfl ?_
  refine r_if_lt (pc := 23) X (tgt := 47) dX12_fires_23 (by decide) h (fun h => ?_) (fun h => ?_)
  · exact T_sub (t_X12_fires_47 X hr h) ⟨rfl, rfl, trivial⟩
  · refine r_aload_n (pc := 26) X dX12_fires_26 rfl ?_
    refine r_iload_n (pc := 27) X dX12_fires_27 rfl ?_
    refine bndE h (fun r8 M9 h10 h => ?_)
    refine r_callVi1 (pc := 28) X ⟨(ltb rfl), (ltb rfl)⟩ rfl vy_X12_entries my_X12_entries ml_X12_165 ⟨Nat.le_of_ble_eq_true rfl, Nat.le_of_ble_eq_true rfl, Nat.le_of_ble_eq_true rfl, Nat.le_of_ble_eq_true rfl⟩ (c_X12_entries  h10) (Nat.le_of_ble_eq_true rfl) dX12_fires_28 ?_
    refine r_if_eq (pc := 31) X (tgt := 47) dX12_fires_31 (by decide) h (fun h => ?_) (fun h => ?_)
    · exact T_sub (t_X12_fires_47 X hr h) ⟨rfl, rfl, trivial⟩
    · refine r_aload_n (pc := 34) X dX12_fires_34 rfl ?_
      refine r_iload_n (pc := 35) X dX12_fires_35 rfl ?_
      refine r_iconst (pc := 36) X (v := 0) dX12_fires_36 (by decide) ?_
      refine bndE h (fun r11 M12 h13 h => ?_)
      refine r_callSi2 (pc := 37) X sy_X12_seq my_X12_seq ml_X12_43 ⟨Nat.le_of_ble_eq_true rfl, Nat.le_of_ble_eq_true rfl, Nat.le_of_ble_eq_true rfl, Nat.le_of_ble_eq_true rfl⟩ (c_X12_seq  h13) (Nat.le_of_ble_eq_true rfl) dX12_fires_37 ?_
      refine bndE h (fun r14 M15 h16 h => ?_)
      refine r_callVi1 (pc := 40) X ⟨(ltb rfl), (ltb rfl)⟩ rfl vy_X12_its my_X12_its ml_X12_155 ⟨Nat.le_of_ble_eq_true rfl, Nat.le_of_ble_eq_true rfl, Nat.le_of_ble_eq_true rfl, Nat.le_of_ble_eq_true rfl⟩ (c_X12_its  h16) (Nat.le_of_ble_eq_true rfl) dX12_fires_40 ?_
      refine r_iconst (pc := 43) X (v := 1) dX12_fires_43 (by decide) ?_
      refine r_icmp_ne (pc := 44) X (tgt := 59) dX12_fires_44 (by decide) h (fun h => ?_) (fun h => ?_)
      · refine r_aload_n (pc := 59) X dX12_fires_59 rfl ?_
        refine r_iload_n (pc := 60) X dX12_fires_60 rfl ?_
        refine r_iload_n (pc := 61) X dX12_fires_61 rfl ?_
        refine bndE h (fun r17 M18 h19 h => ?_)
        refine r_callVv2 (pc := 62) X ⟨(ltb rfl), (ltb rfl)⟩ rfl vy_X12_startSequence my_X12_startSequence ml_X12_180 ⟨Nat.le_of_ble_eq_true rfl, Nat.le_of_ble_eq_true rfl, Nat.le_of_ble_eq_true rfl, Nat.le_of_ble_eq_true rfl⟩ (c_X12_startSequence  h19) (Nat.le_of_ble_eq_true rfl) dX12_fires_62 ?_
        refine r_iconst (pc := 65) X (v := 1) dX12_fires_65 (by decide) ?_
        cases h
        exact r_zretc (pc := 66) X hr (by decide +kernel) dX12_fires_66
      · exact T_sub (t_X12_fires_47 X hr h) ⟨rfl, rfl, trivial⟩
theorem c_X12_fires {G : GG} {l : Launch} {x1 : Int32} {r : Int32} {M M' : Mem}  (h : f_X12_fires x1 M = some (r, M')) : Met l yX12_fires (wsO yX12_fires cX12_fires 3 (some .boolean)) (rmO 3) (PcO G [.ref (G.2.1 (10, 0, 0)), .int x1] M) (QiO G (AA G) r M') 0 0 (AA G) :=
  met_of (own := RX12) rfl (by decide +kernel) (Nat.le_of_ble_eq_true rfl) (fun p e s m args below meth c X hr => t_X12_fires X hr  h)
-- ConverterScannerModel.fireTimers
def f_X12_fireTimers_53 (r2 : Int32 → Mem → Option (Unit × Mem)) (x1 : Int32) (M : Mem) : Option (Unit × Mem) :=
  nm (x1 + 1) (fun e1 => r2 e1 M)
set_option maxHeartbeats 4000000 in
set_option maxRecDepth 100000 in
theorem t_X12_fireTimers_53 {G : GG} {A : Nat → Prop} {p : Program} {l : Launch} {e : Env} {s : State} {m : MethodId} {args : Array Value} {below : List Frame} {meth : Method} {c : Code} {r : Unit} {M' : Mem} (X : Cx G A p s m args meth c RX12 cX12_fireTimers 4) (hr : meth.sig.returnType = none) {r2 : Int32 → Mem → Option (Unit × Mem)} (hr2 : ∀ (x1 : Int32) (M : Mem), r2 x1 M = some (r, M') → T G A p l e (rmO 4) s m args below meth c 4 0 0 (MQ below (QvO G A M') args s 0 0 A) 2 [(0, .ref (G.2.1 (10, 0, 0))), (1, .int x1)] [] M) {x1 : Int32} {M : Mem}  (h : f_X12_fireTimers_53 r2 x1 M = some (r, M')) : T G A p l e (rmO 4) s m args below meth c 4 0 0 (MQ below (QvO G A M') args s 0 0 A) 53 [(0, .ref (G.2.1 (10, 0, 0))), (1, .int x1)] [] M := by
  unfold f_X12_fireTimers_53 at h
  refine r_iincN (pc := 53) X (v0 := 1) rfl (by decide) (by decide) dX12_fireTimers_53 h (fun e1 h => ?_)
  refine r_goto (pc := 56) X (tgt := 2) dX12_fireTimers_56 (by decide) ?_
  exact T_sub (hr2 _ _ h) ⟨rfl, rfl, trivial⟩
def f_X12_fireTimers_2 : Nat → Int32 → Mem → Option (Unit × Mem)
  | 0 => fun _ _ => none
  | n + 1 => fun x1 M => if 4 ≤ x1 then some ((), M) else if bad (34 + x1) 104 then none else nm (M.1 (31, 0, 0) (Int32.toNatClampNeg (34 + x1))) (fun e1 => bnd (f_X12_its 0 M) (fun r2 M3 => if bad (38 + x1) 104 then none else nm (r2 - (M3.1 (31, 0, 0) (Int32.toNatClampNeg (38 + x1)))) (fun e5 => if e1 ≤ 0 then f_X12_fireTimers_53 (f_X12_fireTimers_2 n) x1 M3 else if e5 < 0 then f_X12_fireTimers_53 (f_X12_fireTimers_2 n) x1 M3 else if e1 = 0 then none else if (e5 - e5 / e1 * e1) = 0 then bnd (f_X12_fires x1 M3) (fun r6 M7 => f_X12_fireTimers_53 (f_X12_fireTimers_2 n) x1 M7) else f_X12_fireTimers_53 (f_X12_fireTimers_2 n) x1 M3)))
set_option maxHeartbeats 4000000 in
set_option maxRecDepth 100000 in
theorem t_X12_fireTimers_2 {G : GG} {A : Nat → Prop} {p : Program} {l : Launch} {e : Env} {s : State} {m : MethodId} {args : Array Value} {below : List Frame} {meth : Method} {c : Code} {r : Unit} {M' : Mem} (X : Cx G A p s m args meth c RX12 cX12_fireTimers 4) (hr : meth.sig.returnType = none) : ∀ (n : Nat) (x1 : Int32) (M : Mem), f_X12_fireTimers_2 n x1 M = some (r, M') → T G A p l e (rmO 4) s m args below meth c 4 0 0 (MQ below (QvO G A M') args s 0 0 A) 2 [(0, .ref (G.2.1 (10, 0, 0))), (1, .int x1)] [] M := by
  intro n
  induction n with
  | zero =>
    intro x1 M  h
    cases h
  | succ n ih =>
    intro x1 M  h
    unfold f_X12_fireTimers_2 at h
    refine r_iload_n (pc := 2) X dX12_fireTimers_2 rfl ?_
    refine r_iconst (pc := 3) X (v := 4) dX12_fireTimers_3 (by decide) ?_
    refine r_icmp_ge (pc := 4) X (tgt := 59) dX12_fireTimers_4 (by decide) h (fun h => ?_) (fun h => ?_)
    · cases h
      exact r_vret (pc := 59) X hr dX12_fireTimers_59
    · refine r_aload_n (pc := 7) X dX12_fireTimers_7 rfl ?_
      refine r_getR (q := (31, 0, 0)) (pc := 8) X ⟨(ltb rfl), (ltb rfl)⟩ fl_X12_26 rfl dX12_fireTimers_8 ?_
      refine r_bipush (pc := 11) X (v := 34) dX12_fireTimers_11 (by decide) ?_
      refine r_iload_n (pc := 13) X dX12_fireTimers_13 rfl ?_
      refine r_iadd (pc := 14) X dX12_fireTimers_14 ?_
      refine r_iald (pc := 15) X (n := 104) ⟨(ltb rfl), (ltb rfl)⟩ rfl (nlt rfl) dX12_fireTimers_15 h (fun h => ?_)
      refine r_istore_nN (pc := 16) X (by decide) dX12_fireTimers_16 h (fun e1 h => ?_)
      refine r_aload_n (pc := 17) X dX12_fireTimers_17 rfl ?_
      refine r_iconst (pc := 18) X (v := 0) dX12_fireTimers_18 (by decide) ?_
      refine bndE h (fun r2 M3 h4 h => ?_)
      refine r_callVi1 (pc := 19) X ⟨(ltb rfl), (ltb rfl)⟩ rfl vy_X12_its my_X12_its ml_X12_155 ⟨Nat.le_of_ble_eq_true rfl, Nat.le_of_ble_eq_true rfl, Nat.le_of_ble_eq_true rfl, Nat.le_of_ble_eq_true rfl⟩ (c_X12_its  h4) (Nat.le_of_ble_eq_true rfl) dX12_fireTimers_19 ?_
      refine r_aload_n (pc := 22) X dX12_fireTimers_22 rfl ?_
      refine r_getR (q := (31, 0, 0)) (pc := 23) X ⟨(ltb rfl), (ltb rfl)⟩ fl_X12_26 rfl dX12_fireTimers_23 ?_
      refine r_bipush (pc := 26) X (v := 38) dX12_fireTimers_26 (by decide) ?_
      refine r_iload_n (pc := 28) X dX12_fireTimers_28 rfl ?_
      refine r_iadd (pc := 29) X dX12_fireTimers_29 ?_
      refine r_iald (pc := 30) X (n := 104) ⟨(ltb rfl), (ltb rfl)⟩ rfl (nlt rfl) dX12_fireTimers_30 h (fun h => ?_)
      refine r_isub (pc := 31) X dX12_fireTimers_31 ?_
      refine r_istore_nN (pc := 32) X (by decide) dX12_fireTimers_32 h (fun e5 h => ?_)
      refine r_iload_n (pc := 33) X dX12_fireTimers_33 rfl ?_
      refine r_if_le (pc := 34) X (tgt := 53) dX12_fireTimers_34 (by decide) h (fun h => ?_) (fun h => ?_)
      · exact T_sub (t_X12_fireTimers_53 X hr ih h) ⟨rfl, rfl, trivial⟩
      · refine r_iload_n (pc := 37) X dX12_fireTimers_37 rfl ?_
        refine r_if_lt (pc := 38) X (tgt := 53) dX12_fireTimers_38 (by decide) h (fun h => ?_) (fun h => ?_)
        · exact T_sub (t_X12_fireTimers_53 X hr ih h) ⟨rfl, rfl, trivial⟩
        · refine r_iload_n (pc := 41) X dX12_fireTimers_41 rfl ?_
          refine r_iload_n (pc := 42) X dX12_fireTimers_42 rfl ?_
          refine ck h (fun hz h => ?_)
          refine r_irem (pc := 43) X hz dX12_fireTimers_43 ?_
          refine r_if_ne (pc := 44) X (tgt := 53) dX12_fireTimers_44 (by decide) h (fun h => ?_) (fun h => ?_)
          · exact T_sub (t_X12_fireTimers_53 X hr ih h) ⟨rfl, rfl, trivial⟩
          · refine r_aload_n (pc := 47) X dX12_fireTimers_47 rfl ?_
            refine r_iload_n (pc := 48) X dX12_fireTimers_48 rfl ?_
            refine bndE h (fun r6 M7 h8 h => ?_)
            refine r_callVi1 (pc := 49) X ⟨(ltb rfl), (ltb rfl)⟩ rfl vy_X12_fires my_X12_fires ml_X12_183 ⟨Nat.le_of_ble_eq_true rfl, Nat.le_of_ble_eq_true rfl, Nat.le_of_ble_eq_true rfl, Nat.le_of_ble_eq_true rfl⟩ (c_X12_fires  h8) (Nat.le_of_ble_eq_true rfl) dX12_fireTimers_49 ?_
            refine r_pop (pc := 52) X dX12_fireTimers_52 rfl ?_
            exact T_sub (t_X12_fireTimers_53 X hr ih h) ⟨rfl, rfl, trivial⟩
def f_X12_fireTimers  (M : Mem) : Option (Unit × Mem) :=
  f_X12_fireTimers_2 fuelN 0 M
set_option maxHeartbeats 4000000 in
set_option maxRecDepth 100000 in
theorem t_X12_fireTimers {G : GG} {A : Nat → Prop} {p : Program} {l : Launch} {e : Env} {s : State} {m : MethodId} {args : Array Value} {below : List Frame} {meth : Method} {c : Code} {r : Unit} {M' : Mem} (X : Cx G A p s m args meth c RX12 cX12_fireTimers 4) (hr : meth.sig.returnType = none) {M : Mem}  (h : f_X12_fireTimers M = some (r, M')) : T G A p l e (rmO 4) s m args below meth c 4 0 0 (MQ below (QvO G A M') args s 0 0 A) 0 [(0, .ref (G.2.1 (10, 0, 0)))] [] M := by
  unfold f_X12_fireTimers at h
  refine r_iconst (pc := 0) X (v := 0) dX12_fireTimers_0 (by decide) ?_
  refine r_istore_n (pc := 1) X (by decide) dX12_fireTimers_1 ?_
  exact T_sub (t_X12_fireTimers_2 X hr _ _ _ h) ⟨rfl, rfl, trivial⟩
theorem c_X12_fireTimers {G : GG} {l : Launch} {r : Unit} {M M' : Mem}  (h : f_X12_fireTimers  M = some (r, M')) : Met l yX12_fireTimers (wsO yX12_fireTimers cX12_fireTimers 4 none) (rmO 4) (PcO G [.ref (G.2.1 (10, 0, 0))] M) (QvO G (AA G) M') 0 0 (AA G) :=
  met_of (own := RX12) rfl (by decide +kernel) (Nat.le_of_ble_eq_true rfl) (fun p e s m args below meth c X hr => t_X12_fireTimers X hr  h)
-- ConverterScannerModel.lookAt
def f_X12_lookAt_90 (x1 : Int32) (x2 : Int32) (x3 : Int32) (xs0 : Int32) (xs1 : Int32) (M : Mem) : Option (Unit × Mem) :=
  bnd (f_X12_puts xs1 xs0 M) (fun r1 M2 => bnd (f_X12_win x1 2 M2) (fun r4 M5 => bnd (f_X12_its r4 M5) (fun r7 M8 => if bad (42 + x1) 104 then none else if r7 < (M8.1 (31, 0, 0) (Int32.toNatClampNeg (42 + x1))) then some ((), M8) else bnd (f_X12_win x1 3 M8) (fun r10 M11 => bnd (f_X12_its r10 M11) (fun r13 M14 => if r13 = 1 then some ((), M14) else bnd (f_X12_win x1 3 M14) (fun r16 M17 => bnd (f_X12_puts r16 1 M17) (fun r19 M20 => bnd (f_X12_win x1 4 M20) (fun r22 M23 => bnd (f_X12_its 0 M23) (fun r25 M26 => bnd (f_X12_puts r22 r25 M26) (fun r28 M29 => bnd (f_X12_win x1 5 M29) (fun r31 M32 => bnd (f_X12_puts r31 x2 M32) (fun r34 M35 => bnd (f_X12_win x1 6 M35) (fun r37 M38 => bnd (f_X12_puts r37 x3 M38) (fun r40 M41 => some ((), M41)))))))))))))))
set_option maxHeartbeats 4000000 in
set_option maxRecDepth 100000 in
theorem t_X12_lookAt_90 {G : GG} {A : Nat → Prop} {p : Program} {l : Launch} {e : Env} {s : State} {m : MethodId} {args : Array Value} {below : List Frame} {meth : Method} {c : Code} {r : Unit} {M' : Mem} (X : Cx G A p s m args meth c RX12 cX12_lookAt 6) (hr : meth.sig.returnType = none) {x1 : Int32} {x2 : Int32} {x3 : Int32} {xs0 : Int32} {xs1 : Int32} {M : Mem}  (h : f_X12_lookAt_90 x1 x2 x3 xs0 xs1 M = some (r, M')) : T G A p l e (rmO 1) s m args below meth c 6 0 0 (MQ below (QvO G A M') args s 0 0 A) 90 [(0, .ref (G.2.1 (10, 0, 0))), (1, .int x1), (2, .int x2), (3, .int x3)] [.int xs0, .int xs1, .ref (G.2.1 (10, 0, 0))] M := by
  unfold f_X12_lookAt_90 at h
  refine bndE h (fun r1 M2 h3 h => ?_)
  refine r_callVv2 (pc := 90) X ⟨(ltb rfl), (ltb rfl)⟩ rfl vy_X12_puts my_X12_puts ml_X12_39 ⟨Nat.le_of_ble_eq_true rfl, Nat.le_of_ble_eq_true rfl, Nat.le_of_ble_eq_true rfl, Nat.le_of_ble_eq_true rfl⟩ (c_X12_puts  h3) (Nat.le_of_ble_eq_true rfl) dX12_lookAt_90 ?_
  refine r_aload_n (pc := 93) X dX12_lookAt_93 rfl ?_
  refine r_iload_n (pc := 94) X dX12_lookAt_94 rfl ?_
  refine r_iconst (pc := 95) X (v := 2) dX12_lookAt_95 (by decide) ?_
  refine bndE h (fun r4 M5 h6 h => ?_)
  refine r_callSi2 (pc := 96) X sy_X12_win my_X12_win ml_X12_187 ⟨Nat.le_of_ble_eq_true rfl, Nat.le_of_ble_eq_true rfl, Nat.le_of_ble_eq_true rfl, Nat.le_of_ble_eq_true rfl⟩ (c_X12_win  h6) (Nat.le_of_ble_eq_true rfl) dX12_lookAt_96 ?_
  refine bndE h (fun r7 M8 h9 h => ?_)
  refine r_callVi1 (pc := 99) X ⟨(ltb rfl), (ltb rfl)⟩ rfl vy_X12_its my_X12_its ml_X12_155 ⟨Nat.le_of_ble_eq_true rfl, Nat.le_of_ble_eq_true rfl, Nat.le_of_ble_eq_true rfl, Nat.le_of_ble_eq_true rfl⟩ (c_X12_its  h9) (Nat.le_of_ble_eq_true rfl) dX12_lookAt_99 ?_
  refine r_aload_n (pc := 102) X dX12_lookAt_102 rfl ?_
  refine r_getR (q := (31, 0, 0)) (pc := 103) X ⟨(ltb rfl), (ltb rfl)⟩ fl_X12_26 rfl dX12_lookAt_103 ?_
  refine r_bipush (pc := 106) X (v := 42) dX12_lookAt_106 (by decide) ?_
  refine r_iload_n (pc := 108) X dX12_lookAt_108 rfl ?_
  refine r_iadd (pc := 109) X dX12_lookAt_109 ?_
  refine r_iald (pc := 110) X (n := 104) ⟨(ltb rfl), (ltb rfl)⟩ rfl (nlt rfl) dX12_lookAt_110 h (fun h => ?_)
  refine r_icmp_lt (pc := 111) X (tgt := 127) dX12_lookAt_111 (by decide) h (fun h => ?_) (fun h => ?_)
  · cases h
    exact r_vret (pc := 127) X hr dX12_lookAt_127
  · refine r_aload_n (pc := 114) X dX12_lookAt_114 rfl ?_
    refine r_iload_n (pc := 115) X dX12_lookAt_115 rfl ?_
    refine r_iconst (pc := 116) X (v := 3) dX12_lookAt_116 (by decide) ?_
    refine bndE h (fun r10 M11 h12 h => ?_)
    refine r_callSi2 (pc := 117) X sy_X12_win my_X12_win ml_X12_187 ⟨Nat.le_of_ble_eq_true rfl, Nat.le_of_ble_eq_true rfl, Nat.le_of_ble_eq_true rfl, Nat.le_of_ble_eq_true rfl⟩ (c_X12_win  h12) (Nat.le_of_ble_eq_true rfl) dX12_lookAt_117 ?_
    refine bndE h (fun r13 M14 h15 h => ?_)
    refine r_callVi1 (pc := 120) X ⟨(ltb rfl), (ltb rfl)⟩ rfl vy_X12_its my_X12_its ml_X12_155 ⟨Nat.le_of_ble_eq_true rfl, Nat.le_of_ble_eq_true rfl, Nat.le_of_ble_eq_true rfl, Nat.le_of_ble_eq_true rfl⟩ (c_X12_its  h15) (Nat.le_of_ble_eq_true rfl) dX12_lookAt_120 ?_
    refine r_iconst (pc := 123) X (v := 1) dX12_lookAt_123 (by decide) ?_
    refine r_icmp_ne (pc := 124) X (tgt := 128) dX12_lookAt_124 (by decide) h (fun h => ?_) (fun h => ?_)
    · refine r_aload_n (pc := 128) X dX12_lookAt_128 rfl ?_
      refine r_iload_n (pc := 129) X dX12_lookAt_129 rfl ?_
      refine r_iconst (pc := 130) X (v := 3) dX12_lookAt_130 (by decide) ?_
      refine bndE h (fun r16 M17 h18 h => ?_)
      refine r_callSi2 (pc := 131) X sy_X12_win my_X12_win ml_X12_187 ⟨Nat.le_of_ble_eq_true rfl, Nat.le_of_ble_eq_true rfl, Nat.le_of_ble_eq_true rfl, Nat.le_of_ble_eq_true rfl⟩ (c_X12_win  h18) (Nat.le_of_ble_eq_true rfl) dX12_lookAt_131 ?_
      refine r_iconst (pc := 134) X (v := 1) dX12_lookAt_134 (by decide) ?_
      refine bndE h (fun r19 M20 h21 h => ?_)
      refine r_callVv2 (pc := 135) X ⟨(ltb rfl), (ltb rfl)⟩ rfl vy_X12_puts my_X12_puts ml_X12_39 ⟨Nat.le_of_ble_eq_true rfl, Nat.le_of_ble_eq_true rfl, Nat.le_of_ble_eq_true rfl, Nat.le_of_ble_eq_true rfl⟩ (c_X12_puts  h21) (Nat.le_of_ble_eq_true rfl) dX12_lookAt_135 ?_
      refine r_aload_n (pc := 138) X dX12_lookAt_138 rfl ?_
      refine r_iload_n (pc := 139) X dX12_lookAt_139 rfl ?_
      refine r_iconst (pc := 140) X (v := 4) dX12_lookAt_140 (by decide) ?_
      refine bndE h (fun r22 M23 h24 h => ?_)
      refine r_callSi2 (pc := 141) X sy_X12_win my_X12_win ml_X12_187 ⟨Nat.le_of_ble_eq_true rfl, Nat.le_of_ble_eq_true rfl, Nat.le_of_ble_eq_true rfl, Nat.le_of_ble_eq_true rfl⟩ (c_X12_win  h24) (Nat.le_of_ble_eq_true rfl) dX12_lookAt_141 ?_
      refine r_aload_n (pc := 144) X dX12_lookAt_144 rfl ?_
      refine r_iconst (pc := 145) X (v := 0) dX12_lookAt_145 (by decide) ?_
      refine bndE h (fun r25 M26 h27 h => ?_)
      refine r_callVi1 (pc := 146) X ⟨(ltb rfl), (ltb rfl)⟩ rfl vy_X12_its my_X12_its ml_X12_155 ⟨Nat.le_of_ble_eq_true rfl, Nat.le_of_ble_eq_true rfl, Nat.le_of_ble_eq_true rfl, Nat.le_of_ble_eq_true rfl⟩ (c_X12_its  h27) (Nat.le_of_ble_eq_true rfl) dX12_lookAt_146 ?_
      refine bndE h (fun r28 M29 h30 h => ?_)
      refine r_callVv2 (pc := 149) X ⟨(ltb rfl), (ltb rfl)⟩ rfl vy_X12_puts my_X12_puts ml_X12_39 ⟨Nat.le_of_ble_eq_true rfl, Nat.le_of_ble_eq_true rfl, Nat.le_of_ble_eq_true rfl, Nat.le_of_ble_eq_true rfl⟩ (c_X12_puts  h30) (Nat.le_of_ble_eq_true rfl) dX12_lookAt_149 ?_
      refine r_aload_n (pc := 152) X dX12_lookAt_152 rfl ?_
      refine r_iload_n (pc := 153) X dX12_lookAt_153 rfl ?_
      refine r_iconst (pc := 154) X (v := 5) dX12_lookAt_154 (by decide) ?_
      refine bndE h (fun r31 M32 h33 h => ?_)
      refine r_callSi2 (pc := 155) X sy_X12_win my_X12_win ml_X12_187 ⟨Nat.le_of_ble_eq_true rfl, Nat.le_of_ble_eq_true rfl, Nat.le_of_ble_eq_true rfl, Nat.le_of_ble_eq_true rfl⟩ (c_X12_win  h33) (Nat.le_of_ble_eq_true rfl) dX12_lookAt_155 ?_
      refine r_iload_n (pc := 158) X dX12_lookAt_158 rfl ?_
      refine bndE h (fun r34 M35 h36 h => ?_)
      refine r_callVv2 (pc := 159) X ⟨(ltb rfl), (ltb rfl)⟩ rfl vy_X12_puts my_X12_puts ml_X12_39 ⟨Nat.le_of_ble_eq_true rfl, Nat.le_of_ble_eq_true rfl, Nat.le_of_ble_eq_true rfl, Nat.le_of_ble_eq_true rfl⟩ (c_X12_puts  h36) (Nat.le_of_ble_eq_true rfl) dX12_lookAt_159 ?_
      refine r_aload_n (pc := 162) X dX12_lookAt_162 rfl ?_
      refine r_iload_n (pc := 163) X dX12_lookAt_163 rfl ?_
      refine r_bipush (pc := 164) X (v := 6) dX12_lookAt_164 (by decide) ?_
      refine bndE h (fun r37 M38 h39 h => ?_)
      refine r_callSi2 (pc := 166) X sy_X12_win my_X12_win ml_X12_187 ⟨Nat.le_of_ble_eq_true rfl, Nat.le_of_ble_eq_true rfl, Nat.le_of_ble_eq_true rfl, Nat.le_of_ble_eq_true rfl⟩ (c_X12_win  h39) (Nat.le_of_ble_eq_true rfl) dX12_lookAt_166 ?_
      refine r_iload_n (pc := 169) X dX12_lookAt_169 rfl ?_
      refine bndE h (fun r40 M41 h42 h => ?_)
      refine r_callVv2 (pc := 170) X ⟨(ltb rfl), (ltb rfl)⟩ rfl vy_X12_puts my_X12_puts ml_X12_39 ⟨Nat.le_of_ble_eq_true rfl, Nat.le_of_ble_eq_true rfl, Nat.le_of_ble_eq_true rfl, Nat.le_of_ble_eq_true rfl⟩ (c_X12_puts  h42) (Nat.le_of_ble_eq_true rfl) dX12_lookAt_170 ?_
      cases h
      exact r_vret (pc := 173) X hr dX12_lookAt_173
    · cases h
      exact r_vret (pc := 127) X hr dX12_lookAt_127
def f_X12_lookAt_62 (x1 : Int32) (x2 : Int32) (x3 : Int32) (xs0 : Int32) (M : Mem) : Option (Unit × Mem) :=
  bnd (f_X12_win x1 2 M) (fun r1 M2 => if xs0 = 0 then f_X12_lookAt_90 x1 x2 x3 0 r1 M2 else bnd (f_X12_win x1 2 M2) (fun r4 M5 => bnd (f_X12_its r4 M5) (fun r7 M8 => f_X12_lookAt_90 x1 x2 x3 (r7 + 1) r1 M8)))
set_option maxHeartbeats 4000000 in
set_option maxRecDepth 100000 in
theorem t_X12_lookAt_62 {G : GG} {A : Nat → Prop} {p : Program} {l : Launch} {e : Env} {s : State} {m : MethodId} {args : Array Value} {below : List Frame} {meth : Method} {c : Code} {r : Unit} {M' : Mem} (X : Cx G A p s m args meth c RX12 cX12_lookAt 6) (hr : meth.sig.returnType = none) {x1 : Int32} {x2 : Int32} {x3 : Int32} {xs0 : Int32} {M : Mem}  (h : f_X12_lookAt_62 x1 x2 x3 xs0 M = some (r, M')) : T G A p l e (rmO 1) s m args below meth c 6 0 0 (MQ below (QvO G A M') args s 0 0 A) 62 [(0, .ref (G.2.1 (10, 0, 0))), (1, .int x1), (2, .int x2), (3, .int x3)] [.int xs0] M := by
  unfold f_X12_lookAt_62 at h
  refine r_istore (pc := 62) X (by decide) dX12_lookAt_62 ?_
  refine r_aload_n (pc := 64) X dX12_lookAt_64 rfl ?_
  refine r_iload_n (pc := 65) X dX12_lookAt_65 rfl ?_
  refine r_iconst (pc := 66) X (v := 2) dX12_lookAt_66 (by decide) ?_
  refine bndE h (fun r1 M2 h3 h => ?_)
  refine r_callSi2 (pc := 67) X sy_X12_win my_X12_win ml_X12_187 ⟨Nat.le_of_ble_eq_true rfl, Nat.le_of_ble_eq_true rfl, Nat.le_of_ble_eq_true rfl, Nat.le_of_ble_eq_true rfl⟩ (c_X12_win  h3) (Nat.le_of_ble_eq_true rfl) dX12_lookAt_67 ?_
  refine r_iload (pc := 70) X dX12_lookAt_70 rfl ?_
  refine r_if_eq (pc := 72) X (tgt := 89) dX12_lookAt_72 (by decide) h (fun h => ?_) (fun h => ?_)
  · refine r_iconst (pc := 89) X (v := 0) dX12_lookAt_89 (by decide) ?_
    exact T_sub (t_X12_lookAt_90 X hr h) ⟨rfl, rfl, rfl, rfl, trivial⟩
  · refine r_aload_n (pc := 75) X dX12_lookAt_75 rfl ?_
    refine r_iload_n (pc := 76) X dX12_lookAt_76 rfl ?_
    refine r_iconst (pc := 77) X (v := 2) dX12_lookAt_77 (by decide) ?_
    refine bndE h (fun r4 M5 h6 h => ?_)
    refine r_callSi2 (pc := 78) X sy_X12_win my_X12_win ml_X12_187 ⟨Nat.le_of_ble_eq_true rfl, Nat.le_of_ble_eq_true rfl, Nat.le_of_ble_eq_true rfl, Nat.le_of_ble_eq_true rfl⟩ (c_X12_win  h6) (Nat.le_of_ble_eq_true rfl) dX12_lookAt_78 ?_
    refine bndE h (fun r7 M8 h9 h => ?_)
    refine r_callVi1 (pc := 81) X ⟨(ltb rfl), (ltb rfl)⟩ rfl vy_X12_its my_X12_its ml_X12_155 ⟨Nat.le_of_ble_eq_true rfl, Nat.le_of_ble_eq_true rfl, Nat.le_of_ble_eq_true rfl, Nat.le_of_ble_eq_true rfl⟩ (c_X12_its  h9) (Nat.le_of_ble_eq_true rfl) dX12_lookAt_81 ?_
    refine r_iconst (pc := 84) X (v := 1) dX12_lookAt_84 (by decide) ?_
    refine r_iadd (pc := 85) X dX12_lookAt_85 ?_
    refine r_goto (pc := 86) X (tgt := 90) dX12_lookAt_86 (by decide) ?_
    exact T_sub (t_X12_lookAt_90 X hr h) ⟨rfl, rfl, rfl, rfl, trivial⟩
def f_X12_lookAt_57 (x1 : Int32) (x2 : Int32) (x3 : Int32) (M : Mem) : Option (Unit × Mem) :=
  f_X12_lookAt_62 x1 x2 x3 1 M
set_option maxHeartbeats 4000000 in
set_option maxRecDepth 100000 in
theorem t_X12_lookAt_57 {G : GG} {A : Nat → Prop} {p : Program} {l : Launch} {e : Env} {s : State} {m : MethodId} {args : Array Value} {below : List Frame} {meth : Method} {c : Code} {r : Unit} {M' : Mem} (X : Cx G A p s m args meth c RX12 cX12_lookAt 6) (hr : meth.sig.returnType = none) {x1 : Int32} {x2 : Int32} {x3 : Int32} {M : Mem}  (h : f_X12_lookAt_57 x1 x2 x3 M = some (r, M')) : T G A p l e (rmO 1) s m args below meth c 6 0 0 (MQ below (QvO G A M') args s 0 0 A) 57 [(0, .ref (G.2.1 (10, 0, 0))), (1, .int x1), (2, .int x2), (3, .int x3)] [] M := by
  unfold f_X12_lookAt_57 at h
  refine r_iconst (pc := 57) X (v := 1) dX12_lookAt_57 (by decide) ?_
  refine r_goto (pc := 58) X (tgt := 62) dX12_lookAt_58 (by decide) ?_
  exact T_sub (t_X12_lookAt_62 X hr h) ⟨rfl, rfl, rfl, rfl, trivial⟩
def f_X12_lookAt (x1 : Int32) (x2 : Int32) (x3 : Int32) (x4 : Int32) (M : Mem) : Option (Unit × Mem) :=
  if bad (48 + x1) 104 then none else if (M.1 (31, 0, 0) (Int32.toNatClampNeg (48 + x1))) = 0 then some ((), M) else if bad (45 + x1) 104 then none else if (((M.1 (31, 0, 0) (Int32.toNatClampNeg (45 + x1))) >>> (x2 &&& 31)) &&& 1) = 0 then some ((), M) else bnd (f_X12_win x1 0 M) (fun r1 M2 => bnd (f_X12_its r1 M2) (fun r4 M5 => if x4 < r4 then f_X12_lookAt_57 x1 x2 x3 M5 else bnd (f_X12_win x1 1 M5) (fun r7 M8 => bnd (f_X12_its r7 M8) (fun r10 M11 => if x4 ≤ r10 then f_X12_lookAt_62 x1 x2 x3 0 M11 else f_X12_lookAt_57 x1 x2 x3 M11))))
set_option maxHeartbeats 4000000 in
set_option maxRecDepth 100000 in
theorem t_X12_lookAt {G : GG} {A : Nat → Prop} {p : Program} {l : Launch} {e : Env} {s : State} {m : MethodId} {args : Array Value} {below : List Frame} {meth : Method} {c : Code} {r : Unit} {M' : Mem} (X : Cx G A p s m args meth c RX12 cX12_lookAt 6) (hr : meth.sig.returnType = none) {x1 : Int32} {x2 : Int32} {x3 : Int32} {x4 : Int32} {M : Mem}  (h : f_X12_lookAt x1 x2 x3 x4 M = some (r, M')) : T G A p l e (rmO 1) s m args below meth c 6 0 0 (MQ below (QvO G A M') args s 0 0 A) 0 [(0, .ref (G.2.1 (10, 0, 0))), (1, .int x1), (2, .int x2), (3, .int x3), (4, .int x4)] [] M := by
  unfold f_X12_lookAt at h
  refine r_aload_n (pc := 0) X dX12_lookAt_0 rfl ?_
  refine r_getR (q := (31, 0, 0)) (pc := 1) X ⟨(ltb rfl), (ltb rfl)⟩ fl_X12_26 rfl dX12_lookAt_1 ?_
  refine r_bipush (pc := 4) X (v := 48) dX12_lookAt_4 (by decide) ?_
  refine r_iload_n (pc := 6) X dX12_lookAt_6 rfl ?_
  refine r_iadd (pc := 7) X dX12_lookAt_7 ?_
  refine r_iald (pc := 8) X (n := 104) ⟨(ltb rfl), (ltb rfl)⟩ rfl (nlt rfl) dX12_lookAt_8 h (fun h => ?_)
  refine r_if_eq (pc := 9) X (tgt := 28) dX12_lookAt_9 (by decide) h (fun h => ?_) (fun h => ?_)
  · cases h
    exact r_vret (pc := 28) X hr dX12_lookAt_28
  · refine r_aload_n (pc := 12) X dX12_lookAt_12 rfl ?_
    refine r_getR (q := (31, 0, 0)) (pc := 13) X ⟨(ltb rfl), (ltb rfl)⟩ fl_X12_26 rfl dX12_lookAt_13 ?_
    refine r_bipush (pc := 16) X (v := 45) dX12_lookAt_16 (by decide) ?_
    refine r_iload_n (pc := 18) X dX12_lookAt_18 rfl ?_
    refine r_iadd (pc := 19) X dX12_lookAt_19 ?_
    refine r_iald (pc := 20) X (n := 104) ⟨(ltb rfl), (ltb rfl)⟩ rfl (nlt rfl) dX12_lookAt_20 h (fun h => ?_)
    refine r_iload_n (pc := 21) X dX12_lookAt_21 rfl ?_
    refine r_ishr (pc := 22) X dX12_lookAt_22 ?_
    refine r_iconst (pc := 23) X (v := 1) dX12_lookAt_23 (by decide) ?_
    refine r_iand (pc := 24) X dX12_lookAt_24 ?_
    refine r_if_ne (pc := 25) X (tgt := 29) dX12_lookAt_25 (by decide) h (fun h => ?_) (fun h => ?_)
    · refine r_iload (pc := 29) X dX12_lookAt_29 rfl ?_
      refine r_aload_n (pc := 31) X dX12_lookAt_31 rfl ?_
      refine r_iload_n (pc := 32) X dX12_lookAt_32 rfl ?_
      refine r_iconst (pc := 33) X (v := 0) dX12_lookAt_33 (by decide) ?_
      refine bndE h (fun r1 M2 h3 h => ?_)
      refine r_callSi2 (pc := 34) X sy_X12_win my_X12_win ml_X12_187 ⟨Nat.le_of_ble_eq_true rfl, Nat.le_of_ble_eq_true rfl, Nat.le_of_ble_eq_true rfl, Nat.le_of_ble_eq_true rfl⟩ (c_X12_win  h3) (Nat.le_of_ble_eq_true rfl) dX12_lookAt_34 ?_
      refine bndE h (fun r4 M5 h6 h => ?_)
      refine r_callVi1 (pc := 37) X ⟨(ltb rfl), (ltb rfl)⟩ rfl vy_X12_its my_X12_its ml_X12_155 ⟨Nat.le_of_ble_eq_true rfl, Nat.le_of_ble_eq_true rfl, Nat.le_of_ble_eq_true rfl, Nat.le_of_ble_eq_true rfl⟩ (c_X12_its  h6) (Nat.le_of_ble_eq_true rfl) dX12_lookAt_37 ?_
      refine r_icmp_lt (pc := 40) X (tgt := 57) dX12_lookAt_40 (by decide) h (fun h => ?_) (fun h => ?_)
      · exact T_sub (t_X12_lookAt_57 X hr h) ⟨rfl, rfl, rfl, rfl, trivial⟩
      · refine r_iload (pc := 43) X dX12_lookAt_43 rfl ?_
        refine r_aload_n (pc := 45) X dX12_lookAt_45 rfl ?_
        refine r_iload_n (pc := 46) X dX12_lookAt_46 rfl ?_
        refine r_iconst (pc := 47) X (v := 1) dX12_lookAt_47 (by decide) ?_
        refine bndE h (fun r7 M8 h9 h => ?_)
        refine r_callSi2 (pc := 48) X sy_X12_win my_X12_win ml_X12_187 ⟨Nat.le_of_ble_eq_true rfl, Nat.le_of_ble_eq_true rfl, Nat.le_of_ble_eq_true rfl, Nat.le_of_ble_eq_true rfl⟩ (c_X12_win  h9) (Nat.le_of_ble_eq_true rfl) dX12_lookAt_48 ?_
        refine bndE h (fun r10 M11 h12 h => ?_)
        refine r_callVi1 (pc := 51) X ⟨(ltb rfl), (ltb rfl)⟩ rfl vy_X12_its my_X12_its ml_X12_155 ⟨Nat.le_of_ble_eq_true rfl, Nat.le_of_ble_eq_true rfl, Nat.le_of_ble_eq_true rfl, Nat.le_of_ble_eq_true rfl⟩ (c_X12_its  h12) (Nat.le_of_ble_eq_true rfl) dX12_lookAt_51 ?_
        refine r_icmp_le (pc := 54) X (tgt := 61) dX12_lookAt_54 (by decide) h (fun h => ?_) (fun h => ?_)
        · refine r_iconst (pc := 61) X (v := 0) dX12_lookAt_61 (by decide) ?_
          exact T_sub (t_X12_lookAt_62 X hr h) ⟨rfl, rfl, rfl, rfl, trivial⟩
        · exact T_sub (t_X12_lookAt_57 X hr h) ⟨rfl, rfl, rfl, rfl, trivial⟩
    · cases h
      exact r_vret (pc := 28) X hr dX12_lookAt_28
theorem c_X12_lookAt {G : GG} {l : Launch} {x1 : Int32} {x2 : Int32} {x3 : Int32} {x4 : Int32} {r : Unit} {M M' : Mem}  (h : f_X12_lookAt x1 x2 x3 x4 M = some (r, M')) : Met l yX12_lookAt (wsO yX12_lookAt cX12_lookAt 6 none) (rmO 1) (PcO G [.ref (G.2.1 (10, 0, 0)), .int x1, .int x2, .int x3, .int x4] M) (QvO G (AA G) M') 0 0 (AA G) :=
  met_of (own := RX12) rfl (by decide +kernel) (Nat.le_of_ble_eq_true rfl) (fun p e s m args below meth c X hr => t_X12_lookAt X hr  h)
-- ConverterScannerModel.putRow
def f_X12_putRow (x1 : Int32) (x2 : Int32) (x3 : Int32) (x4 : Int32) (x5 : Int32) (M : Mem) : Option (Unit × Mem) :=
  bnd (f_X12_puts x1 x2 M) (fun r1 M2 => bnd (f_X12_puts (x1 + 1) x3 M2) (fun r4 M5 => bnd (f_X12_puts (x1 + 2) x4 M5) (fun r7 M8 => bnd (f_X12_puts (x1 + 3) x5 M8) (fun r10 M11 => some ((), M11)))))
set_option maxHeartbeats 4000000 in
set_option maxRecDepth 100000 in
theorem t_X12_putRow {G : GG} {A : Nat → Prop} {p : Program} {l : Launch} {e : Env} {s : State} {m : MethodId} {args : Array Value} {below : List Frame} {meth : Method} {c : Code} {r : Unit} {M' : Mem} (X : Cx G A p s m args meth c RX12 cX12_putRow 6) (hr : meth.sig.returnType = none) {x1 : Int32} {x2 : Int32} {x3 : Int32} {x4 : Int32} {x5 : Int32} {M : Mem}  (h : f_X12_putRow x1 x2 x3 x4 x5 M = some (r, M')) : T G A p l e (rmO 1) s m args below meth c 6 0 0 (MQ below (QvO G A M') args s 0 0 A) 0 [(0, .ref (G.2.1 (10, 0, 0))), (1, .int x1), (2, .int x2), (3, .int x3), (4, .int x4), (5, .int x5)] [] M := by
  unfold f_X12_putRow at h
  refine r_aload_n (pc := 0) X dX12_putRow_0 rfl ?_
  refine r_iload_n (pc := 1) X dX12_putRow_1 rfl ?_
  refine r_iload_n (pc := 2) X dX12_putRow_2 rfl ?_
  refine bndE h (fun r1 M2 h3 h => ?_)
  refine r_callVv2 (pc := 3) X ⟨(ltb rfl), (ltb rfl)⟩ rfl vy_X12_puts my_X12_puts ml_X12_39 ⟨Nat.le_of_ble_eq_true rfl, Nat.le_of_ble_eq_true rfl, Nat.le_of_ble_eq_true rfl, Nat.le_of_ble_eq_true rfl⟩ (c_X12_puts  h3) (Nat.le_of_ble_eq_true rfl) dX12_putRow_3 ?_
  refine r_aload_n (pc := 6) X dX12_putRow_6 rfl ?_
  refine r_iload_n (pc := 7) X dX12_putRow_7 rfl ?_
  refine r_iconst (pc := 8) X (v := 1) dX12_putRow_8 (by decide) ?_
  refine r_iadd (pc := 9) X dX12_putRow_9 ?_
  refine r_iload_n (pc := 10) X dX12_putRow_10 rfl ?_
  refine bndE h (fun r4 M5 h6 h => ?_)
  refine r_callVv2 (pc := 11) X ⟨(ltb rfl), (ltb rfl)⟩ rfl vy_X12_puts my_X12_puts ml_X12_39 ⟨Nat.le_of_ble_eq_true rfl, Nat.le_of_ble_eq_true rfl, Nat.le_of_ble_eq_true rfl, Nat.le_of_ble_eq_true rfl⟩ (c_X12_puts  h6) (Nat.le_of_ble_eq_true rfl) dX12_putRow_11 ?_
  refine r_aload_n (pc := 14) X dX12_putRow_14 rfl ?_
  refine r_iload_n (pc := 15) X dX12_putRow_15 rfl ?_
  refine r_iconst (pc := 16) X (v := 2) dX12_putRow_16 (by decide) ?_
  refine r_iadd (pc := 17) X dX12_putRow_17 ?_
  refine r_iload (pc := 18) X dX12_putRow_18 rfl ?_
  refine bndE h (fun r7 M8 h9 h => ?_)
  refine r_callVv2 (pc := 20) X ⟨(ltb rfl), (ltb rfl)⟩ rfl vy_X12_puts my_X12_puts ml_X12_39 ⟨Nat.le_of_ble_eq_true rfl, Nat.le_of_ble_eq_true rfl, Nat.le_of_ble_eq_true rfl, Nat.le_of_ble_eq_true rfl⟩ (c_X12_puts  h9) (Nat.le_of_ble_eq_true rfl) dX12_putRow_20 ?_
  refine r_aload_n (pc := 23) X dX12_putRow_23 rfl ?_
  refine r_iload_n (pc := 24) X dX12_putRow_24 rfl ?_
  refine r_iconst (pc := 25) X (v := 3) dX12_putRow_25 (by decide) ?_
  refine r_iadd (pc := 26) X dX12_putRow_26 ?_
  refine r_iload (pc := 27) X dX12_putRow_27 rfl ?_
  refine bndE h (fun r10 M11 h12 h => ?_)
  refine r_callVv2 (pc := 29) X ⟨(ltb rfl), (ltb rfl)⟩ rfl vy_X12_puts my_X12_puts ml_X12_39 ⟨Nat.le_of_ble_eq_true rfl, Nat.le_of_ble_eq_true rfl, Nat.le_of_ble_eq_true rfl, Nat.le_of_ble_eq_true rfl⟩ (c_X12_puts  h12) (Nat.le_of_ble_eq_true rfl) dX12_putRow_29 ?_
  cases h
  exact r_vret (pc := 32) X hr dX12_putRow_32
theorem c_X12_putRow {G : GG} {l : Launch} {x1 : Int32} {x2 : Int32} {x3 : Int32} {x4 : Int32} {x5 : Int32} {r : Unit} {M M' : Mem}  (h : f_X12_putRow x1 x2 x3 x4 x5 M = some (r, M')) : Met l yX12_putRow (wsO yX12_putRow cX12_putRow 6 none) (rmO 1) (PcO G [.ref (G.2.1 (10, 0, 0)), .int x1, .int x2, .int x3, .int x4, .int x5] M) (QvO G (AA G) M') 0 0 (AA G) :=
  met_of (own := RX12) rfl (by decide +kernel) (Nat.le_of_ble_eq_true rfl) (fun p e s m args below meth c X hr => t_X12_putRow X hr  h)
-- ConverterScannerModel.dropOldest
def f_X12_dropOldest_2 : Nat → Int32 → Mem → Option (Unit × Mem)
  | 0 => fun _ _ => none
  | n + 1 => fun x1 M => bnd (f_X12_its 11 M) (fun r1 M2 => if ((4 * r1) - 4) ≤ x1 then bnd (f_X12_adds 11 (-1) M2) (fun r4 M5 => some ((), M5)) else bnd (f_X12_its ((152 + x1) + 4) M2) (fun r7 M8 => bnd (f_X12_puts (152 + x1) r7 M8) (fun r10 M11 => nm (x1 + 1) (fun e13 => (f_X12_dropOldest_2 n) e13 M11))))
set_option maxHeartbeats 4000000 in
set_option maxRecDepth 100000 in
theorem t_X12_dropOldest_2 {G : GG} {A : Nat → Prop} {p : Program} {l : Launch} {e : Env} {s : State} {m : MethodId} {args : Array Value} {below : List Frame} {meth : Method} {c : Code} {r : Unit} {M' : Mem} (X : Cx G A p s m args meth c RX12 cX12_dropOldest 2) (hr : meth.sig.returnType = none) : ∀ (n : Nat) (x1 : Int32) (M : Mem), f_X12_dropOldest_2 n x1 M = some (r, M') → T G A p l e (rmO 1) s m args below meth c 2 0 0 (MQ below (QvO G A M') args s 0 0 A) 2 [(0, .ref (G.2.1 (10, 0, 0))), (1, .int x1)] [] M := by
  intro n
  induction n with
  | zero =>
    intro x1 M  h
    cases h
  | succ n ih =>
    intro x1 M  h
    unfold f_X12_dropOldest_2 at h
    refine r_iload_n (pc := 2) X dX12_dropOldest_2 rfl ?_
    refine r_iconst (pc := 3) X (v := 4) dX12_dropOldest_3 (by decide) ?_
    refine r_aload_n (pc := 4) X dX12_dropOldest_4 rfl ?_
    refine r_bipush (pc := 5) X (v := 11) dX12_dropOldest_5 (by decide) ?_
    refine bndE h (fun r1 M2 h3 h => ?_)
    refine r_callVi1 (pc := 7) X ⟨(ltb rfl), (ltb rfl)⟩ rfl vy_X12_its my_X12_its ml_X12_155 ⟨Nat.le_of_ble_eq_true rfl, Nat.le_of_ble_eq_true rfl, Nat.le_of_ble_eq_true rfl, Nat.le_of_ble_eq_true rfl⟩ (c_X12_its  h3) (Nat.le_of_ble_eq_true rfl) dX12_dropOldest_7 ?_
    refine r_imul (pc := 10) X dX12_dropOldest_10 ?_
    refine r_iconst (pc := 11) X (v := 4) dX12_dropOldest_11 (by decide) ?_
    refine r_isub (pc := 12) X dX12_dropOldest_12 ?_
    refine r_icmp_ge (pc := 13) X (tgt := 42) dX12_dropOldest_13 (by decide) h (fun h => ?_) (fun h => ?_)
    · refine r_aload_n (pc := 42) X dX12_dropOldest_42 rfl ?_
      refine r_bipush (pc := 43) X (v := 11) dX12_dropOldest_43 (by decide) ?_
      refine r_iconst (pc := 45) X (v := (-1)) dX12_dropOldest_45 (by decide) ?_
      refine bndE h (fun r4 M5 h6 h => ?_)
      refine r_callVv2 (pc := 46) X ⟨(ltb rfl), (ltb rfl)⟩ rfl vy_X12_adds my_X12_adds ml_X12_162 ⟨Nat.le_of_ble_eq_true rfl, Nat.le_of_ble_eq_true rfl, Nat.le_of_ble_eq_true rfl, Nat.le_of_ble_eq_true rfl⟩ (c_X12_adds  h6) (Nat.le_of_ble_eq_true rfl) dX12_dropOldest_46 ?_
      cases h
      exact r_vret (pc := 49) X hr dX12_dropOldest_49
    · refine r_aload_n (pc := 16) X dX12_dropOldest_16 rfl ?_
      refine r_sipush (pc := 17) X (v := 152) dX12_dropOldest_17 (by decide) ?_
      refine r_iload_n (pc := 20) X dX12_dropOldest_20 rfl ?_
      refine r_iadd (pc := 21) X dX12_dropOldest_21 ?_
      refine r_aload_n (pc := 22) X dX12_dropOldest_22 rfl ?_
      refine r_sipush (pc := 23) X (v := 152) dX12_dropOldest_23 (by decide) ?_
      refine r_iload_n (pc := 26) X dX12_dropOldest_26 rfl ?_
      refine r_iadd (pc := 27) X dX12_dropOldest_27 ?_
      refine r_iconst (pc := 28) X (v := 4) dX12_dropOldest_28 (by decide) ?_
      refine r_iadd (pc := 29) X dX12_dropOldest_29 ?_
      refine bndE h (fun r7 M8 h9 h => ?_)
      refine r_callVi1 (pc := 30) X ⟨(ltb rfl), (ltb rfl)⟩ rfl vy_X12_its my_X12_its ml_X12_155 ⟨Nat.le_of_ble_eq_true rfl, Nat.le_of_ble_eq_true rfl, Nat.le_of_ble_eq_true rfl, Nat.le_of_ble_eq_true rfl⟩ (c_X12_its  h9) (Nat.le_of_ble_eq_true rfl) dX12_dropOldest_30 ?_
      refine bndE h (fun r10 M11 h12 h => ?_)
      refine r_callVv2 (pc := 33) X ⟨(ltb rfl), (ltb rfl)⟩ rfl vy_X12_puts my_X12_puts ml_X12_39 ⟨Nat.le_of_ble_eq_true rfl, Nat.le_of_ble_eq_true rfl, Nat.le_of_ble_eq_true rfl, Nat.le_of_ble_eq_true rfl⟩ (c_X12_puts  h12) (Nat.le_of_ble_eq_true rfl) dX12_dropOldest_33 ?_
      refine r_iincN (pc := 36) X (v0 := 1) rfl (by decide) (by decide) dX12_dropOldest_36 h (fun e13 h => ?_)
      refine r_goto (pc := 39) X (tgt := 2) dX12_dropOldest_39 (by decide) ?_
      exact T_sub (ih _ _ h) ⟨rfl, rfl, trivial⟩
def f_X12_dropOldest  (M : Mem) : Option (Unit × Mem) :=
  f_X12_dropOldest_2 fuelN 0 M
set_option maxHeartbeats 4000000 in
set_option maxRecDepth 100000 in
theorem t_X12_dropOldest {G : GG} {A : Nat → Prop} {p : Program} {l : Launch} {e : Env} {s : State} {m : MethodId} {args : Array Value} {below : List Frame} {meth : Method} {c : Code} {r : Unit} {M' : Mem} (X : Cx G A p s m args meth c RX12 cX12_dropOldest 2) (hr : meth.sig.returnType = none) {M : Mem}  (h : f_X12_dropOldest M = some (r, M')) : T G A p l e (rmO 1) s m args below meth c 2 0 0 (MQ below (QvO G A M') args s 0 0 A) 0 [(0, .ref (G.2.1 (10, 0, 0)))] [] M := by
  unfold f_X12_dropOldest at h
  refine r_iconst (pc := 0) X (v := 0) dX12_dropOldest_0 (by decide) ?_
  refine r_istore_n (pc := 1) X (by decide) dX12_dropOldest_1 ?_
  exact T_sub (t_X12_dropOldest_2 X hr _ _ _ h) ⟨rfl, rfl, trivial⟩
theorem c_X12_dropOldest {G : GG} {l : Launch} {r : Unit} {M M' : Mem}  (h : f_X12_dropOldest  M = some (r, M')) : Met l yX12_dropOldest (wsO yX12_dropOldest cX12_dropOldest 2 none) (rmO 1) (PcO G [.ref (G.2.1 (10, 0, 0))] M) (QvO G (AA G) M') 0 0 (AA G) :=
  met_of (own := RX12) rfl (by decide +kernel) (Nat.le_of_ble_eq_true rfl) (fun p e s m args below meth c X hr => t_X12_dropOldest X hr  h)
-- ConverterScannerModel.enqueue
def f_X12_enqueue_38 (x1 : Int32) (x2 : Int32) (x3 : Int32) (M : Mem) : Option (Unit × Mem) :=
  bnd (f_X12_its 11 M) (fun r1 M2 => bnd (f_X12_its 0 M2) (fun r4 M5 => bnd (f_X12_putRow (152 + (4 * r1)) x1 x2 r4 x3 M5) (fun r7 M8 => bnd (f_X12_adds 11 1 M8) (fun r10 M11 => some ((), M11)))))
set_option maxHeartbeats 4000000 in
set_option maxRecDepth 100000 in
theorem t_X12_enqueue_38 {G : GG} {A : Nat → Prop} {p : Program} {l : Launch} {e : Env} {s : State} {m : MethodId} {args : Array Value} {below : List Frame} {meth : Method} {c : Code} {r : Unit} {M' : Mem} (X : Cx G A p s m args meth c RX12 cX12_enqueue 4) (hr : meth.sig.returnType = none) {x1 : Int32} {x2 : Int32} {x3 : Int32} {M : Mem}  (h : f_X12_enqueue_38 x1 x2 x3 M = some (r, M')) : T G A p l e (rmO 2) s m args below meth c 4 0 0 (MQ below (QvO G A M') args s 0 0 A) 38 [(0, .ref (G.2.1 (10, 0, 0))), (1, .int x1), (2, .int x2), (3, .int x3)] [] M := by
  unfold f_X12_enqueue_38 at h
  refine r_aload_n (pc := 38) X dX12_enqueue_38 rfl ?_
  refine r_sipush (pc := 39) X (v := 152) dX12_enqueue_39 (by decide) ?_
  refine r_iconst (pc := 42) X (v := 4) dX12_enqueue_42 (by decide) ?_
  refine r_aload_n (pc := 43) X dX12_enqueue_43 rfl ?_
  refine r_bipush (pc := 44) X (v := 11) dX12_enqueue_44 (by decide) ?_
  refine bndE h (fun r1 M2 h3 h => ?_)
  refine r_callVi1 (pc := 46) X ⟨(ltb rfl), (ltb rfl)⟩ rfl vy_X12_its my_X12_its ml_X12_155 ⟨Nat.le_of_ble_eq_true rfl, Nat.le_of_ble_eq_true rfl, Nat.le_of_ble_eq_true rfl, Nat.le_of_ble_eq_true rfl⟩ (c_X12_its  h3) (Nat.le_of_ble_eq_true rfl) dX12_enqueue_46 ?_
  refine r_imul (pc := 49) X dX12_enqueue_49 ?_
  refine r_iadd (pc := 50) X dX12_enqueue_50 ?_
  refine r_iload_n (pc := 51) X dX12_enqueue_51 rfl ?_
  refine r_iload_n (pc := 52) X dX12_enqueue_52 rfl ?_
  refine r_aload_n (pc := 53) X dX12_enqueue_53 rfl ?_
  refine r_iconst (pc := 54) X (v := 0) dX12_enqueue_54 (by decide) ?_
  refine bndE h (fun r4 M5 h6 h => ?_)
  refine r_callVi1 (pc := 55) X ⟨(ltb rfl), (ltb rfl)⟩ rfl vy_X12_its my_X12_its ml_X12_155 ⟨Nat.le_of_ble_eq_true rfl, Nat.le_of_ble_eq_true rfl, Nat.le_of_ble_eq_true rfl, Nat.le_of_ble_eq_true rfl⟩ (c_X12_its  h6) (Nat.le_of_ble_eq_true rfl) dX12_enqueue_55 ?_
  refine r_iload_n (pc := 58) X dX12_enqueue_58 rfl ?_
  refine bndE h (fun r7 M8 h9 h => ?_)
  refine r_callVv5 (pc := 59) X ⟨(ltb rfl), (ltb rfl)⟩ rfl vy_X12_putRow my_X12_putRow ml_X12_193 ⟨Nat.le_of_ble_eq_true rfl, Nat.le_of_ble_eq_true rfl, Nat.le_of_ble_eq_true rfl, Nat.le_of_ble_eq_true rfl⟩ (c_X12_putRow  h9) (Nat.le_of_ble_eq_true rfl) dX12_enqueue_59 ?_
  refine r_aload_n (pc := 62) X dX12_enqueue_62 rfl ?_
  refine r_bipush (pc := 63) X (v := 11) dX12_enqueue_63 (by decide) ?_
  refine r_iconst (pc := 65) X (v := 1) dX12_enqueue_65 (by decide) ?_
  refine bndE h (fun r10 M11 h12 h => ?_)
  refine r_callVv2 (pc := 66) X ⟨(ltb rfl), (ltb rfl)⟩ rfl vy_X12_adds my_X12_adds ml_X12_162 ⟨Nat.le_of_ble_eq_true rfl, Nat.le_of_ble_eq_true rfl, Nat.le_of_ble_eq_true rfl, Nat.le_of_ble_eq_true rfl⟩ (c_X12_adds  h12) (Nat.le_of_ble_eq_true rfl) dX12_enqueue_66 ?_
  cases h
  exact r_vret (pc := 69) X hr dX12_enqueue_69
def f_X12_enqueue (x1 : Int32) (x2 : Int32) (x3 : Int32) (M : Mem) : Option (Unit × Mem) :=
  bnd (f_X12_its 11 M) (fun r1 M2 => if bad 8 104 then none else if r1 = (M2.1 (31, 0, 0) (Int32.toNatClampNeg 8)) then bnd (f_X12_adds 8 1 M2) (fun r4 M5 => if bad 9 104 then none else if (M5.1 (31, 0, 0) (Int32.toNatClampNeg 9)) = 0 then some ((), M5) else bnd (f_X12_dropOldest  M5) (fun r7 M8 => f_X12_enqueue_38 x1 x2 x3 M8)) else f_X12_enqueue_38 x1 x2 x3 M2)
set_option maxHeartbeats 4000000 in
set_option maxRecDepth 100000 in
theorem t_X12_enqueue {G : GG} {A : Nat → Prop} {p : Program} {l : Launch} {e : Env} {s : State} {m : MethodId} {args : Array Value} {below : List Frame} {meth : Method} {c : Code} {r : Unit} {M' : Mem} (X : Cx G A p s m args meth c RX12 cX12_enqueue 4) (hr : meth.sig.returnType = none) {x1 : Int32} {x2 : Int32} {x3 : Int32} {M : Mem}  (h : f_X12_enqueue x1 x2 x3 M = some (r, M')) : T G A p l e (rmO 2) s m args below meth c 4 0 0 (MQ below (QvO G A M') args s 0 0 A) 0 [(0, .ref (G.2.1 (10, 0, 0))), (1, .int x1), (2, .int x2), (3, .int x3)] [] M := by
  unfold f_X12_enqueue at h
  refine r_aload_n (pc := 0) X dX12_enqueue_0 rfl ?_
  refine r_bipush (pc := 1) X (v := 11) dX12_enqueue_1 (by decide) ?_
  refine bndE h (fun r1 M2 h3 h => ?_)
  refine r_callVi1 (pc := 3) X ⟨(ltb rfl), (ltb rfl)⟩ rfl vy_X12_its my_X12_its ml_X12_155 ⟨Nat.le_of_ble_eq_true rfl, Nat.le_of_ble_eq_true rfl, Nat.le_of_ble_eq_true rfl, Nat.le_of_ble_eq_true rfl⟩ (c_X12_its  h3) (Nat.le_of_ble_eq_true rfl) dX12_enqueue_3 ?_
  refine r_aload_n (pc := 6) X dX12_enqueue_6 rfl ?_
  refine r_getR (q := (31, 0, 0)) (pc := 7) X ⟨(ltb rfl), (ltb rfl)⟩ fl_X12_26 rfl dX12_enqueue_7 ?_
  refine r_bipush (pc := 10) X (v := 8) dX12_enqueue_10 (by decide) ?_
  refine r_iald (pc := 12) X (n := 104) ⟨(ltb rfl), (ltb rfl)⟩ rfl (nlt rfl) dX12_enqueue_12 h (fun h => ?_)
  refine r_icmp_ne (pc := 13) X (tgt := 38) dX12_enqueue_13 (by decide) h (fun h => ?_) (fun h => ?_)
  · exact T_sub (t_X12_enqueue_38 X hr h) ⟨rfl, rfl, rfl, rfl, trivial⟩
  · refine r_aload_n (pc := 16) X dX12_enqueue_16 rfl ?_
    refine r_bipush (pc := 17) X (v := 8) dX12_enqueue_17 (by decide) ?_
    refine r_iconst (pc := 19) X (v := 1) dX12_enqueue_19 (by decide) ?_
    refine bndE h (fun r4 M5 h6 h => ?_)
    refine r_callVv2 (pc := 20) X ⟨(ltb rfl), (ltb rfl)⟩ rfl vy_X12_adds my_X12_adds ml_X12_162 ⟨Nat.le_of_ble_eq_true rfl, Nat.le_of_ble_eq_true rfl, Nat.le_of_ble_eq_true rfl, Nat.le_of_ble_eq_true rfl⟩ (c_X12_adds  h6) (Nat.le_of_ble_eq_true rfl) dX12_enqueue_20 ?_
    refine r_aload_n (pc := 23) X dX12_enqueue_23 rfl ?_
    refine r_getR (q := (31, 0, 0)) (pc := 24) X ⟨(ltb rfl), (ltb rfl)⟩ fl_X12_26 rfl dX12_enqueue_24 ?_
    refine r_bipush (pc := 27) X (v := 9) dX12_enqueue_27 (by decide) ?_
    refine r_iald (pc := 29) X (n := 104) ⟨(ltb rfl), (ltb rfl)⟩ rfl (nlt rfl) dX12_enqueue_29 h (fun h => ?_)
    refine r_if_ne (pc := 30) X (tgt := 34) dX12_enqueue_30 (by decide) h (fun h => ?_) (fun h => ?_)
    · refine r_aload_n (pc := 34) X dX12_enqueue_34 rfl ?_
      refine bndE h (fun r7 M8 h9 h => ?_)
      refine r_callVv0 (pc := 35) X ⟨(ltb rfl), (ltb rfl)⟩ rfl vy_X12_dropOldest my_X12_dropOldest ml_X12_190 ⟨Nat.le_of_ble_eq_true rfl, Nat.le_of_ble_eq_true rfl, Nat.le_of_ble_eq_true rfl, Nat.le_of_ble_eq_true rfl⟩ (c_X12_dropOldest  h9) (Nat.le_of_ble_eq_true rfl) dX12_enqueue_35 ?_
      exact T_sub (t_X12_enqueue_38 X hr h) ⟨rfl, rfl, rfl, rfl, trivial⟩
    · cases h
      exact r_vret (pc := 33) X hr dX12_enqueue_33
theorem c_X12_enqueue {G : GG} {l : Launch} {x1 : Int32} {x2 : Int32} {x3 : Int32} {r : Unit} {M M' : Mem}  (h : f_X12_enqueue x1 x2 x3 M = some (r, M')) : Met l yX12_enqueue (wsO yX12_enqueue cX12_enqueue 4 none) (rmO 2) (PcO G [.ref (G.2.1 (10, 0, 0)), .int x1, .int x2, .int x3] M) (QvO G (AA G) M') 0 0 (AA G) :=
  met_of (own := RX12) rfl (by decide +kernel) (Nat.le_of_ble_eq_true rfl) (fun p e s m args below meth c X hr => t_X12_enqueue X hr  h)
-- ConverterScannerModel.transfer
def f_X12_transfer_88 : Nat → Int32 → Mem → Option (Unit × Mem)
  | 0 => fun _ _ => none
  | n + 1 => fun x2 M => if 4 ≤ x2 then bnd (f_X12_adds 12 1 M) (fun r1 M2 => bnd (f_X12_adds 9 1 M2) (fun r4 M5 => bnd (f_X12_dropOldest  M5) (fun r7 M8 => some ((), M8)))) else bnd (f_X12_its 12 M) (fun r10 M11 => bnd (f_X12_its (152 + x2) M11) (fun r13 M14 => bnd (f_X12_puts ((216 + (4 * r10)) + x2) r13 M14) (fun r16 M17 => nm (x2 + 1) (fun e19 => (f_X12_transfer_88 n) e19 M17))))
set_option maxHeartbeats 4000000 in
set_option maxRecDepth 100000 in
theorem t_X12_transfer_88 {G : GG} {A : Nat → Prop} {p : Program} {l : Launch} {e : Env} {s : State} {m : MethodId} {args : Array Value} {below : List Frame} {meth : Method} {c : Code} {r : Unit} {M' : Mem} (X : Cx G A p s m args meth c RX12 cX12_transfer 3) (hr : meth.sig.returnType = none) : ∀ (n : Nat) (x2 : Int32) (M : Mem), f_X12_transfer_88 n x2 M = some (r, M') → T G A p l e (rmO 2) s m args below meth c 3 0 0 (MQ below (QvO G A M') args s 0 0 A) 88 [(0, .ref (G.2.1 (10, 0, 0))), (2, .int x2)] [] M := by
  intro n
  induction n with
  | zero =>
    intro x2 M  h
    cases h
  | succ n ih =>
    intro x2 M  h
    unfold f_X12_transfer_88 at h
    refine r_iload_n (pc := 88) X dX12_transfer_88 rfl ?_
    refine r_iconst (pc := 89) X (v := 4) dX12_transfer_89 (by decide) ?_
    refine r_icmp_ge (pc := 90) X (tgt := 126) dX12_transfer_90 (by decide) h (fun h => ?_) (fun h => ?_)
    · refine r_aload_n (pc := 126) X dX12_transfer_126 rfl ?_
      refine r_bipush (pc := 127) X (v := 12) dX12_transfer_127 (by decide) ?_
      refine r_iconst (pc := 129) X (v := 1) dX12_transfer_129 (by decide) ?_
      refine bndE h (fun r1 M2 h3 h => ?_)
      refine r_callVv2 (pc := 130) X ⟨(ltb rfl), (ltb rfl)⟩ rfl vy_X12_adds my_X12_adds ml_X12_162 ⟨Nat.le_of_ble_eq_true rfl, Nat.le_of_ble_eq_true rfl, Nat.le_of_ble_eq_true rfl, Nat.le_of_ble_eq_true rfl⟩ (c_X12_adds  h3) (Nat.le_of_ble_eq_true rfl) dX12_transfer_130 ?_
      refine r_aload_n (pc := 133) X dX12_transfer_133 rfl ?_
      refine r_bipush (pc := 134) X (v := 9) dX12_transfer_134 (by decide) ?_
      refine r_iconst (pc := 136) X (v := 1) dX12_transfer_136 (by decide) ?_
      refine bndE h (fun r4 M5 h6 h => ?_)
      refine r_callVv2 (pc := 137) X ⟨(ltb rfl), (ltb rfl)⟩ rfl vy_X12_adds my_X12_adds ml_X12_162 ⟨Nat.le_of_ble_eq_true rfl, Nat.le_of_ble_eq_true rfl, Nat.le_of_ble_eq_true rfl, Nat.le_of_ble_eq_true rfl⟩ (c_X12_adds  h6) (Nat.le_of_ble_eq_true rfl) dX12_transfer_137 ?_
      refine r_aload_n (pc := 140) X dX12_transfer_140 rfl ?_
      refine bndE h (fun r7 M8 h9 h => ?_)
      refine r_callVv0 (pc := 141) X ⟨(ltb rfl), (ltb rfl)⟩ rfl vy_X12_dropOldest my_X12_dropOldest ml_X12_190 ⟨Nat.le_of_ble_eq_true rfl, Nat.le_of_ble_eq_true rfl, Nat.le_of_ble_eq_true rfl, Nat.le_of_ble_eq_true rfl⟩ (c_X12_dropOldest  h9) (Nat.le_of_ble_eq_true rfl) dX12_transfer_141 ?_
      cases h
      exact r_vret (pc := 144) X hr dX12_transfer_144
    · refine r_aload_n (pc := 93) X dX12_transfer_93 rfl ?_
      refine r_sipush (pc := 94) X (v := 216) dX12_transfer_94 (by decide) ?_
      refine r_iconst (pc := 97) X (v := 4) dX12_transfer_97 (by decide) ?_
      refine r_aload_n (pc := 98) X dX12_transfer_98 rfl ?_
      refine r_bipush (pc := 99) X (v := 12) dX12_transfer_99 (by decide) ?_
      refine bndE h (fun r10 M11 h12 h => ?_)
      refine r_callVi1 (pc := 101) X ⟨(ltb rfl), (ltb rfl)⟩ rfl vy_X12_its my_X12_its ml_X12_155 ⟨Nat.le_of_ble_eq_true rfl, Nat.le_of_ble_eq_true rfl, Nat.le_of_ble_eq_true rfl, Nat.le_of_ble_eq_true rfl⟩ (c_X12_its  h12) (Nat.le_of_ble_eq_true rfl) dX12_transfer_101 ?_
      refine r_imul (pc := 104) X dX12_transfer_104 ?_
      refine r_iadd (pc := 105) X dX12_transfer_105 ?_
      refine r_iload_n (pc := 106) X dX12_transfer_106 rfl ?_
      refine r_iadd (pc := 107) X dX12_transfer_107 ?_
      refine r_aload_n (pc := 108) X dX12_transfer_108 rfl ?_
      refine r_sipush (pc := 109) X (v := 152) dX12_transfer_109 (by decide) ?_
      refine r_iload_n (pc := 112) X dX12_transfer_112 rfl ?_
      refine r_iadd (pc := 113) X dX12_transfer_113 ?_
      refine bndE h (fun r13 M14 h15 h => ?_)
      refine r_callVi1 (pc := 114) X ⟨(ltb rfl), (ltb rfl)⟩ rfl vy_X12_its my_X12_its ml_X12_155 ⟨Nat.le_of_ble_eq_true rfl, Nat.le_of_ble_eq_true rfl, Nat.le_of_ble_eq_true rfl, Nat.le_of_ble_eq_true rfl⟩ (c_X12_its  h15) (Nat.le_of_ble_eq_true rfl) dX12_transfer_114 ?_
      refine bndE h (fun r16 M17 h18 h => ?_)
      refine r_callVv2 (pc := 117) X ⟨(ltb rfl), (ltb rfl)⟩ rfl vy_X12_puts my_X12_puts ml_X12_39 ⟨Nat.le_of_ble_eq_true rfl, Nat.le_of_ble_eq_true rfl, Nat.le_of_ble_eq_true rfl, Nat.le_of_ble_eq_true rfl⟩ (c_X12_puts  h18) (Nat.le_of_ble_eq_true rfl) dX12_transfer_117 ?_
      refine r_iincN (pc := 120) X (v0 := 1) rfl (by decide) (by decide) dX12_transfer_120 h (fun e19 h => ?_)
      refine r_goto (pc := 123) X (tgt := 88) dX12_transfer_123 (by decide) ?_
      exact T_sub (ih _ _ h) ⟨rfl, rfl, trivial⟩
def f_X12_transfer_86  (M : Mem) : Option (Unit × Mem) :=
  f_X12_transfer_88 fuelN 0 M
set_option maxHeartbeats 4000000 in
set_option maxRecDepth 100000 in
theorem t_X12_transfer_86 {G : GG} {A : Nat → Prop} {p : Program} {l : Launch} {e : Env} {s : State} {m : MethodId} {args : Array Value} {below : List Frame} {meth : Method} {c : Code} {r : Unit} {M' : Mem} (X : Cx G A p s m args meth c RX12 cX12_transfer 3) (hr : meth.sig.returnType = none) {M : Mem}  (h : f_X12_transfer_86 M = some (r, M')) : T G A p l e (rmO 2) s m args below meth c 3 0 0 (MQ below (QvO G A M') args s 0 0 A) 86 [(0, .ref (G.2.1 (10, 0, 0)))] [] M := by
  unfold f_X12_transfer_86 at h
  refine r_iconst (pc := 86) X (v := 0) dX12_transfer_86 (by decide) ?_
  refine r_istore_n (pc := 87) X (by decide) dX12_transfer_87 ?_
  exact T_sub (t_X12_transfer_88 X hr _ _ _ h) ⟨rfl, rfl, trivial⟩
def f_X12_transfer_46 : Nat → Int32 → Mem → Option (Unit × Mem)
  | 0 => fun _ _ => none
  | n + 1 => fun x2 M => if 252 ≤ x2 then bnd (f_X12_adds 12 (-1) M) (fun r1 M2 => f_X12_transfer_86  M2) else bnd (f_X12_its ((216 + x2) + 4) M) (fun r4 M5 => bnd (f_X12_puts (216 + x2) r4 M5) (fun r7 M8 => nm (x2 + 1) (fun e10 => (f_X12_transfer_46 n) e10 M8)))
set_option maxHeartbeats 4000000 in
set_option maxRecDepth 100000 in
theorem t_X12_transfer_46 {G : GG} {A : Nat → Prop} {p : Program} {l : Launch} {e : Env} {s : State} {m : MethodId} {args : Array Value} {below : List Frame} {meth : Method} {c : Code} {r : Unit} {M' : Mem} (X : Cx G A p s m args meth c RX12 cX12_transfer 3) (hr : meth.sig.returnType = none) : ∀ (n : Nat) (x2 : Int32) (M : Mem), f_X12_transfer_46 n x2 M = some (r, M') → T G A p l e (rmO 2) s m args below meth c 3 0 0 (MQ below (QvO G A M') args s 0 0 A) 46 [(0, .ref (G.2.1 (10, 0, 0))), (2, .int x2)] [] M := by
  intro n
  induction n with
  | zero =>
    intro x2 M  h
    cases h
  | succ n ih =>
    intro x2 M  h
    unfold f_X12_transfer_46 at h
    refine r_iload_n (pc := 46) X dX12_transfer_46 rfl ?_
    refine r_sipush (pc := 47) X (v := 252) dX12_transfer_47 (by decide) ?_
    refine r_icmp_ge (pc := 50) X (tgt := 79) dX12_transfer_50 (by decide) h (fun h => ?_) (fun h => ?_)
    · refine r_aload_n (pc := 79) X dX12_transfer_79 rfl ?_
      refine r_bipush (pc := 80) X (v := 12) dX12_transfer_80 (by decide) ?_
      refine r_iconst (pc := 82) X (v := (-1)) dX12_transfer_82 (by decide) ?_
      refine bndE h (fun r1 M2 h3 h => ?_)
      refine r_callVv2 (pc := 83) X ⟨(ltb rfl), (ltb rfl)⟩ rfl vy_X12_adds my_X12_adds ml_X12_162 ⟨Nat.le_of_ble_eq_true rfl, Nat.le_of_ble_eq_true rfl, Nat.le_of_ble_eq_true rfl, Nat.le_of_ble_eq_true rfl⟩ (c_X12_adds  h3) (Nat.le_of_ble_eq_true rfl) dX12_transfer_83 ?_
      exact T_sub (t_X12_transfer_86 X hr h) ⟨rfl, trivial⟩
    · refine r_aload_n (pc := 53) X dX12_transfer_53 rfl ?_
      refine r_sipush (pc := 54) X (v := 216) dX12_transfer_54 (by decide) ?_
      refine r_iload_n (pc := 57) X dX12_transfer_57 rfl ?_
      refine r_iadd (pc := 58) X dX12_transfer_58 ?_
      refine r_aload_n (pc := 59) X dX12_transfer_59 rfl ?_
      refine r_sipush (pc := 60) X (v := 216) dX12_transfer_60 (by decide) ?_
      refine r_iload_n (pc := 63) X dX12_transfer_63 rfl ?_
      refine r_iadd (pc := 64) X dX12_transfer_64 ?_
      refine r_iconst (pc := 65) X (v := 4) dX12_transfer_65 (by decide) ?_
      refine r_iadd (pc := 66) X dX12_transfer_66 ?_
      refine bndE h (fun r4 M5 h6 h => ?_)
      refine r_callVi1 (pc := 67) X ⟨(ltb rfl), (ltb rfl)⟩ rfl vy_X12_its my_X12_its ml_X12_155 ⟨Nat.le_of_ble_eq_true rfl, Nat.le_of_ble_eq_true rfl, Nat.le_of_ble_eq_true rfl, Nat.le_of_ble_eq_true rfl⟩ (c_X12_its  h6) (Nat.le_of_ble_eq_true rfl) dX12_transfer_67 ?_
      refine bndE h (fun r7 M8 h9 h => ?_)
      refine r_callVv2 (pc := 70) X ⟨(ltb rfl), (ltb rfl)⟩ rfl vy_X12_puts my_X12_puts ml_X12_39 ⟨Nat.le_of_ble_eq_true rfl, Nat.le_of_ble_eq_true rfl, Nat.le_of_ble_eq_true rfl, Nat.le_of_ble_eq_true rfl⟩ (c_X12_puts  h9) (Nat.le_of_ble_eq_true rfl) dX12_transfer_70 ?_
      refine r_iincN (pc := 73) X (v0 := 1) rfl (by decide) (by decide) dX12_transfer_73 h (fun e10 h => ?_)
      refine r_goto (pc := 76) X (tgt := 46) dX12_transfer_76 (by decide) ?_
      exact T_sub (ih _ _ h) ⟨rfl, rfl, trivial⟩
def f_X12_transfer  (M : Mem) : Option (Unit × Mem) :=
  bnd (f_X12_its 10 M) (fun r1 M2 => if r1 = 0 then some ((), M2) else bnd (f_X12_its 0 M2) (fun r4 M5 => if r1 = 0 then none else if ((r4 + 1) - (r4 + 1) / r1 * r1) = 0 then bnd (f_X12_its 11 M5) (fun r7 M8 => if r7 = 0 then some ((), M8) else bnd (f_X12_its 12 M8) (fun r10 M11 => if r10 = 64 then f_X12_transfer_46 fuelN 0 M11 else f_X12_transfer_86  M11)) else some ((), M5)))
set_option maxHeartbeats 4000000 in
set_option maxRecDepth 100000 in
theorem t_X12_transfer {G : GG} {A : Nat → Prop} {p : Program} {l : Launch} {e : Env} {s : State} {m : MethodId} {args : Array Value} {below : List Frame} {meth : Method} {c : Code} {r : Unit} {M' : Mem} (X : Cx G A p s m args meth c RX12 cX12_transfer 3) (hr : meth.sig.returnType = none) {M : Mem}  (h : f_X12_transfer M = some (r, M')) : T G A p l e (rmO 2) s m args below meth c 3 0 0 (MQ below (QvO G A M') args s 0 0 A) 0 [(0, .ref (G.2.1 (10, 0, 0)))] [] M := by
  unfold f_X12_transfer at h
  refine r_aload_n (pc := 0) X dX12_transfer_0 rfl ?_
  refine r_bipush (pc := 1) X (v := 10) dX12_transfer_1 (by decide) ?_
  refine bndE h (fun r1 M2 h3 h => ?_)
  refine r_callVi1 (pc := 3) X ⟨(ltb rfl), (ltb rfl)⟩ rfl vy_X12_its my_X12_its ml_X12_155 ⟨Nat.le_of_ble_eq_true rfl, Nat.le_of_ble_eq_true rfl, Nat.le_of_ble_eq_true rfl, Nat.le_of_ble_eq_true rfl⟩ (c_X12_its  h3) (Nat.le_of_ble_eq_true rfl) dX12_transfer_3 ?_
  refine r_istore_n (pc := 6) X (by decide) dX12_transfer_6 ?_
  refine r_iload_n (pc := 7) X dX12_transfer_7 rfl ?_
  refine r_if_eq (pc := 8) X (tgt := 32) dX12_transfer_8 (by decide) h (fun h => ?_) (fun h => ?_)
  · cases h
    exact r_vret (pc := 32) X hr dX12_transfer_32
  · refine r_aload_n (pc := 11) X dX12_transfer_11 rfl ?_
    refine r_iconst (pc := 12) X (v := 0) dX12_transfer_12 (by decide) ?_
    refine bndE h (fun r4 M5 h6 h => ?_)
    refine r_callVi1 (pc := 13) X ⟨(ltb rfl), (ltb rfl)⟩ rfl vy_X12_its my_X12_its ml_X12_155 ⟨Nat.le_of_ble_eq_true rfl, Nat.le_of_ble_eq_true rfl, Nat.le_of_ble_eq_true rfl, Nat.le_of_ble_eq_true rfl⟩ (c_X12_its  h6) (Nat.le_of_ble_eq_true rfl) dX12_transfer_13 ?_
    refine r_iconst (pc := 16) X (v := 1) dX12_transfer_16 (by decide) ?_
    refine r_iadd (pc := 17) X dX12_transfer_17 ?_
    refine r_iload_n (pc := 18) X dX12_transfer_18 rfl ?_
    refine ck h (fun hz h => ?_)
    refine r_irem (pc := 19) X hz dX12_transfer_19 ?_
    refine r_if_ne (pc := 20) X (tgt := 32) dX12_transfer_20 (by decide) h (fun h => ?_) (fun h => ?_)
    · cases h
      exact r_vret (pc := 32) X hr dX12_transfer_32
    · refine r_aload_n (pc := 23) X dX12_transfer_23 rfl ?_
      refine r_bipush (pc := 24) X (v := 11) dX12_transfer_24 (by decide) ?_
      refine bndE h (fun r7 M8 h9 h => ?_)
      refine r_callVi1 (pc := 26) X ⟨(ltb rfl), (ltb rfl)⟩ rfl vy_X12_its my_X12_its ml_X12_155 ⟨Nat.le_of_ble_eq_true rfl, Nat.le_of_ble_eq_true rfl, Nat.le_of_ble_eq_true rfl, Nat.le_of_ble_eq_true rfl⟩ (c_X12_its  h9) (Nat.le_of_ble_eq_true rfl) dX12_transfer_26 ?_
      refine r_if_ne (pc := 29) X (tgt := 33) dX12_transfer_29 (by decide) h (fun h => ?_) (fun h => ?_)
      · refine r_aload_n (pc := 33) X dX12_transfer_33 rfl ?_
        refine r_bipush (pc := 34) X (v := 12) dX12_transfer_34 (by decide) ?_
        refine bndE h (fun r10 M11 h12 h => ?_)
        refine r_callVi1 (pc := 36) X ⟨(ltb rfl), (ltb rfl)⟩ rfl vy_X12_its my_X12_its ml_X12_155 ⟨Nat.le_of_ble_eq_true rfl, Nat.le_of_ble_eq_true rfl, Nat.le_of_ble_eq_true rfl, Nat.le_of_ble_eq_true rfl⟩ (c_X12_its  h12) (Nat.le_of_ble_eq_true rfl) dX12_transfer_36 ?_
        refine r_bipush (pc := 39) X (v := 64) dX12_transfer_39 (by decide) ?_
        refine r_icmp_ne (pc := 41) X (tgt := 86) dX12_transfer_41 (by decide) h (fun h => ?_) (fun h => ?_)
        · exact T_sub (t_X12_transfer_86 X hr h) ⟨rfl, trivial⟩
        · refine r_iconst (pc := 44) X (v := 0) dX12_transfer_44 (by decide) ?_
          refine r_istore_n (pc := 45) X (by decide) dX12_transfer_45 ?_
          exact T_sub (t_X12_transfer_46 X hr _ _ _ h) ⟨rfl, rfl, trivial⟩
      · cases h
        exact r_vret (pc := 32) X hr dX12_transfer_32
theorem c_X12_transfer {G : GG} {l : Launch} {r : Unit} {M M' : Mem}  (h : f_X12_transfer  M = some (r, M')) : Met l yX12_transfer (wsO yX12_transfer cX12_transfer 3 none) (rmO 2) (PcO G [.ref (G.2.1 (10, 0, 0))] M) (QvO G (AA G) M') 0 0 (AA G) :=
  met_of (own := RX12) rfl (by decide +kernel) (Nat.le_of_ble_eq_true rfl) (fun p e s m args below meth c X hr => t_X12_transfer X hr  h)
-- ConverterScannerModel.countChannel
def f_X12_countChannel_94 (x1 : Int32) (x2 : Int32) (M : Mem) : Option (Unit × Mem) :=
  bnd (f_X12_chan x1 6 M) (fun r1 M2 => bnd (f_X12_puts r1 x2 M2) (fun r4 M5 => some ((), M5)))
set_option maxHeartbeats 4000000 in
set_option maxRecDepth 100000 in
theorem t_X12_countChannel_94 {G : GG} {A : Nat → Prop} {p : Program} {l : Launch} {e : Env} {s : State} {m : MethodId} {args : Array Value} {below : List Frame} {meth : Method} {c : Code} {r : Unit} {M' : Mem} (X : Cx G A p s m args meth c RX12 cX12_countChannel 4) (hr : meth.sig.returnType = none) {x1 : Int32} {x2 : Int32} {M : Mem}  (h : f_X12_countChannel_94 x1 x2 M = some (r, M')) : T G A p l e (rmO 1) s m args below meth c 4 0 0 (MQ below (QvO G A M') args s 0 0 A) 94 [(0, .ref (G.2.1 (10, 0, 0))), (1, .int x1), (2, .int x2)] [] M := by
  unfold f_X12_countChannel_94 at h
  refine r_aload_n (pc := 94) X dX12_countChannel_94 rfl ?_
  refine r_iload_n (pc := 95) X dX12_countChannel_95 rfl ?_
  refine r_bipush (pc := 96) X (v := 6) dX12_countChannel_96 (by decide) ?_
  refine bndE h (fun r1 M2 h3 h => ?_)
  refine r_callSi2 (pc := 98) X sy_X12_chan my_X12_chan ml_X12_47 ⟨Nat.le_of_ble_eq_true rfl, Nat.le_of_ble_eq_true rfl, Nat.le_of_ble_eq_true rfl, Nat.le_of_ble_eq_true rfl⟩ (c_X12_chan  h3) (Nat.le_of_ble_eq_true rfl) dX12_countChannel_98 ?_
  refine r_iload_n (pc := 101) X dX12_countChannel_101 rfl ?_
  refine bndE h (fun r4 M5 h6 h => ?_)
  refine r_callVv2 (pc := 102) X ⟨(ltb rfl), (ltb rfl)⟩ rfl vy_X12_puts my_X12_puts ml_X12_39 ⟨Nat.le_of_ble_eq_true rfl, Nat.le_of_ble_eq_true rfl, Nat.le_of_ble_eq_true rfl, Nat.le_of_ble_eq_true rfl⟩ (c_X12_puts  h6) (Nat.le_of_ble_eq_true rfl) dX12_countChannel_102 ?_
  cases h
  exact r_vret (pc := 105) X hr dX12_countChannel_105
def f_X12_countChannel_76 (x1 : Int32) (x2 : Int32) (x3 : Int32) (M : Mem) : Option (Unit × Mem) :=
  if x3 = 0 then bnd (f_X12_chan x1 6 M) (fun r1 M2 => bnd (f_X12_its r1 M2) (fun r4 M5 => if x2 ≤ r4 then some ((), M5) else f_X12_countChannel_94 x1 x2 M5)) else f_X12_countChannel_94 x1 x2 M
set_option maxHeartbeats 4000000 in
set_option maxRecDepth 100000 in
theorem t_X12_countChannel_76 {G : GG} {A : Nat → Prop} {p : Program} {l : Launch} {e : Env} {s : State} {m : MethodId} {args : Array Value} {below : List Frame} {meth : Method} {c : Code} {r : Unit} {M' : Mem} (X : Cx G A p s m args meth c RX12 cX12_countChannel 4) (hr : meth.sig.returnType = none) {x1 : Int32} {x2 : Int32} {x3 : Int32} {M : Mem}  (h : f_X12_countChannel_76 x1 x2 x3 M = some (r, M')) : T G A p l e (rmO 1) s m args below meth c 4 0 0 (MQ below (QvO G A M') args s 0 0 A) 76 [(0, .ref (G.2.1 (10, 0, 0))), (1, .int x1), (2, .int x2), (3, .int x3)] [] M := by
  unfold f_X12_countChannel_76 at h
  refine r_iload_n (pc := 76) X dX12_countChannel_76 rfl ?_
  refine r_if_ne (pc := 77) X (tgt := 94) dX12_countChannel_77 (by decide) h (fun h => ?_) (fun h => ?_)
  · exact T_sub (t_X12_countChannel_94 X hr h) ⟨rfl, rfl, rfl, trivial⟩
  · refine r_iload_n (pc := 80) X dX12_countChannel_80 rfl ?_
    refine r_aload_n (pc := 81) X dX12_countChannel_81 rfl ?_
    refine r_iload_n (pc := 82) X dX12_countChannel_82 rfl ?_
    refine r_bipush (pc := 83) X (v := 6) dX12_countChannel_83 (by decide) ?_
    refine bndE h (fun r1 M2 h3 h => ?_)
    refine r_callSi2 (pc := 85) X sy_X12_chan my_X12_chan ml_X12_47 ⟨Nat.le_of_ble_eq_true rfl, Nat.le_of_ble_eq_true rfl, Nat.le_of_ble_eq_true rfl, Nat.le_of_ble_eq_true rfl⟩ (c_X12_chan  h3) (Nat.le_of_ble_eq_true rfl) dX12_countChannel_85 ?_
    refine bndE h (fun r4 M5 h6 h => ?_)
    refine r_callVi1 (pc := 88) X ⟨(ltb rfl), (ltb rfl)⟩ rfl vy_X12_its my_X12_its ml_X12_155 ⟨Nat.le_of_ble_eq_true rfl, Nat.le_of_ble_eq_true rfl, Nat.le_of_ble_eq_true rfl, Nat.le_of_ble_eq_true rfl⟩ (c_X12_its  h6) (Nat.le_of_ble_eq_true rfl) dX12_countChannel_88 ?_
    refine r_icmp_le (pc := 91) X (tgt := 105) dX12_countChannel_91 (by decide) h (fun h => ?_) (fun h => ?_)
    · cases h
      exact r_vret (pc := 105) X hr dX12_countChannel_105
    · exact T_sub (t_X12_countChannel_94 X hr h) ⟨rfl, rfl, rfl, trivial⟩
def f_X12_countChannel_66 (x1 : Int32) (x2 : Int32) (x3 : Int32) (M : Mem) : Option (Unit × Mem) :=
  bnd (f_X12_chan x1 5 M) (fun r1 M2 => bnd (f_X12_puts r1 x2 M2) (fun r4 M5 => f_X12_countChannel_76 x1 x2 x3 M5))
set_option maxHeartbeats 4000000 in
set_option maxRecDepth 100000 in
theorem t_X12_countChannel_66 {G : GG} {A : Nat → Prop} {p : Program} {l : Launch} {e : Env} {s : State} {m : MethodId} {args : Array Value} {below : List Frame} {meth : Method} {c : Code} {r : Unit} {M' : Mem} (X : Cx G A p s m args meth c RX12 cX12_countChannel 4) (hr : meth.sig.returnType = none) {x1 : Int32} {x2 : Int32} {x3 : Int32} {M : Mem}  (h : f_X12_countChannel_66 x1 x2 x3 M = some (r, M')) : T G A p l e (rmO 1) s m args below meth c 4 0 0 (MQ below (QvO G A M') args s 0 0 A) 66 [(0, .ref (G.2.1 (10, 0, 0))), (1, .int x1), (2, .int x2), (3, .int x3)] [] M := by
  unfold f_X12_countChannel_66 at h
  refine r_aload_n (pc := 66) X dX12_countChannel_66 rfl ?_
  refine r_iload_n (pc := 67) X dX12_countChannel_67 rfl ?_
  refine r_iconst (pc := 68) X (v := 5) dX12_countChannel_68 (by decide) ?_
  refine bndE h (fun r1 M2 h3 h => ?_)
  refine r_callSi2 (pc := 69) X sy_X12_chan my_X12_chan ml_X12_47 ⟨Nat.le_of_ble_eq_true rfl, Nat.le_of_ble_eq_true rfl, Nat.le_of_ble_eq_true rfl, Nat.le_of_ble_eq_true rfl⟩ (c_X12_chan  h3) (Nat.le_of_ble_eq_true rfl) dX12_countChannel_69 ?_
  refine r_iload_n (pc := 72) X dX12_countChannel_72 rfl ?_
  refine bndE h (fun r4 M5 h6 h => ?_)
  refine r_callVv2 (pc := 73) X ⟨(ltb rfl), (ltb rfl)⟩ rfl vy_X12_puts my_X12_puts ml_X12_39 ⟨Nat.le_of_ble_eq_true rfl, Nat.le_of_ble_eq_true rfl, Nat.le_of_ble_eq_true rfl, Nat.le_of_ble_eq_true rfl⟩ (c_X12_puts  h6) (Nat.le_of_ble_eq_true rfl) dX12_countChannel_73 ?_
  exact T_sub (t_X12_countChannel_76 X hr h) ⟨rfl, rfl, rfl, rfl, trivial⟩
def f_X12_countChannel_17 (x1 : Int32) (x2 : Int32) (xs0 : Int32) (M : Mem) : Option (Unit × Mem) :=
  bnd (f_X12_chan x1 4 M) (fun r1 M2 => bnd (f_X12_adds r1 1 M2) (fun r4 M5 => if bad (((10 * (M5.1 (10, 0, 0) 7)) + 2) + x1) 50 then none else if bad (((10 * (M5.1 (10, 0, 0) 7)) + 2) + x1) 50 then none else nm (uL M5 (33, 0, 0) (Int32.toNatClampNeg (((10 * (M5.1 (10, 0, 0) 7)) + 2) + x1)) ((M5.2.1 (33, 0, 0) (Int32.toNatClampNeg (((10 * (M5.1 (10, 0, 0) 7)) + 2) + x1))) + (Int32.toInt64 x2))) (fun M7 => if xs0 = 0 then bnd (f_X12_chan x1 5 M7) (fun r8 M9 => bnd (f_X12_its r8 M9) (fun r11 M12 => if r11 ≤ x2 then f_X12_countChannel_76 x1 x2 xs0 M12 else f_X12_countChannel_66 x1 x2 xs0 M12)) else f_X12_countChannel_66 x1 x2 xs0 M7)))
set_option maxHeartbeats 4000000 in
set_option maxRecDepth 100000 in
theorem t_X12_countChannel_17 {G : GG} {A : Nat → Prop} {p : Program} {l : Launch} {e : Env} {s : State} {m : MethodId} {args : Array Value} {below : List Frame} {meth : Method} {c : Code} {r : Unit} {M' : Mem} (X : Cx G A p s m args meth c RX12 cX12_countChannel 4) (hr : meth.sig.returnType = none) {x1 : Int32} {x2 : Int32} {xs0 : Int32} {M : Mem}  (h : f_X12_countChannel_17 x1 x2 xs0 M = some (r, M')) : T G A p l e (rmO 1) s m args below meth c 4 0 0 (MQ below (QvO G A M') args s 0 0 A) 17 [(0, .ref (G.2.1 (10, 0, 0))), (1, .int x1), (2, .int x2)] [.int xs0] M := by
  unfold f_X12_countChannel_17 at h
  refine r_istore_n (pc := 17) X (by decide) dX12_countChannel_17 ?_
  refine r_aload_n (pc := 18) X dX12_countChannel_18 rfl ?_
  refine r_iload_n (pc := 19) X dX12_countChannel_19 rfl ?_
  refine r_iconst (pc := 20) X (v := 4) dX12_countChannel_20 (by decide) ?_
  refine bndE h (fun r1 M2 h3 h => ?_)
  refine r_callSi2 (pc := 21) X sy_X12_chan my_X12_chan ml_X12_47 ⟨Nat.le_of_ble_eq_true rfl, Nat.le_of_ble_eq_true rfl, Nat.le_of_ble_eq_true rfl, Nat.le_of_ble_eq_true rfl⟩ (c_X12_chan  h3) (Nat.le_of_ble_eq_true rfl) dX12_countChannel_21 ?_
  refine r_iconst (pc := 24) X (v := 1) dX12_countChannel_24 (by decide) ?_
  refine bndE h (fun r4 M5 h6 h => ?_)
  refine r_callVv2 (pc := 25) X ⟨(ltb rfl), (ltb rfl)⟩ rfl vy_X12_adds my_X12_adds ml_X12_162 ⟨Nat.le_of_ble_eq_true rfl, Nat.le_of_ble_eq_true rfl, Nat.le_of_ble_eq_true rfl, Nat.le_of_ble_eq_true rfl⟩ (c_X12_adds  h6) (Nat.le_of_ble_eq_true rfl) dX12_countChannel_25 ?_
  refine r_aload_n (pc := 28) X dX12_countChannel_28 rfl ?_
  refine r_getR (q := (33, 0, 0)) (pc := 29) X ⟨(ltb rfl), (ltb rfl)⟩ fl_X12_35 rfl dX12_countChannel_29 ?_
  refine r_bipush (pc := 32) X (v := 10) dX12_countChannel_32 (by decide) ?_
  refine r_aload_n (pc := 34) X dX12_countChannel_34 rfl ?_
  refine r_getI (pc := 35) X ⟨(ltb rfl), (ltb rfl)⟩ fl_X12_32 rfl dX12_countChannel_35 ?_
  refine r_imul (pc := 38) X dX12_countChannel_38 ?_
  refine r_iconst (pc := 39) X (v := 2) dX12_countChannel_39 (by decide) ?_
  refine r_iadd (pc := 40) X dX12_countChannel_40 ?_
  refine r_iload_n (pc := 41) X dX12_countChannel_41 rfl ?_
  refine r_iadd (pc := 42) X dX12_countChannel_42 ?_
  refine r_dup2 (pc := 43) X dX12_countChannel_43 rfl rfl ?_
  refine r_lald (pc := 44) X (n := 50) ⟨(ltb rfl), (ltb rfl)⟩ rfl (nlt rfl) dX12_countChannel_44 h (fun h => ?_)
  refine r_iload_n (pc := 45) X dX12_countChannel_45 rfl ?_
  refine r_i2l (pc := 46) X dX12_countChannel_46 ?_
  refine r_ladd (pc := 47) X dX12_countChannel_47 ?_
  refine r_lastN (pc := 48) X (n := 50) ⟨(ltb rfl), (ltb rfl)⟩ rfl (nlt rfl) dX12_countChannel_48 h (fun M7 h => ?_)
  refine r_iload_n (pc := 49) X dX12_countChannel_49 rfl ?_
  refine r_if_ne (pc := 50) X (tgt := 66) dX12_countChannel_50 (by decide) h (fun h => ?_) (fun h => ?_)
  · exact T_sub (t_X12_countChannel_66 X hr h) ⟨rfl, rfl, rfl, rfl, trivial⟩
  · refine r_iload_n (pc := 53) X dX12_countChannel_53 rfl ?_
    refine r_aload_n (pc := 54) X dX12_countChannel_54 rfl ?_
    refine r_iload_n (pc := 55) X dX12_countChannel_55 rfl ?_
    refine r_iconst (pc := 56) X (v := 5) dX12_countChannel_56 (by decide) ?_
    refine bndE h (fun r8 M9 h10 h => ?_)
    refine r_callSi2 (pc := 57) X sy_X12_chan my_X12_chan ml_X12_47 ⟨Nat.le_of_ble_eq_true rfl, Nat.le_of_ble_eq_true rfl, Nat.le_of_ble_eq_true rfl, Nat.le_of_ble_eq_true rfl⟩ (c_X12_chan  h10) (Nat.le_of_ble_eq_true rfl) dX12_countChannel_57 ?_
    refine bndE h (fun r11 M12 h13 h => ?_)
    refine r_callVi1 (pc := 60) X ⟨(ltb rfl), (ltb rfl)⟩ rfl vy_X12_its my_X12_its ml_X12_155 ⟨Nat.le_of_ble_eq_true rfl, Nat.le_of_ble_eq_true rfl, Nat.le_of_ble_eq_true rfl, Nat.le_of_ble_eq_true rfl⟩ (c_X12_its  h13) (Nat.le_of_ble_eq_true rfl) dX12_countChannel_60 ?_
    refine r_icmp_ge (pc := 63) X (tgt := 76) dX12_countChannel_63 (by decide) h (fun h => ?_) (fun h => ?_)
    · exact T_sub (t_X12_countChannel_76 X hr h) ⟨rfl, rfl, rfl, rfl, trivial⟩
    · exact T_sub (t_X12_countChannel_66 X hr h) ⟨rfl, rfl, rfl, rfl, trivial⟩
def f_X12_countChannel (x1 : Int32) (x2 : Int32) (M : Mem) : Option (Unit × Mem) :=
  bnd (f_X12_chan x1 4 M) (fun r1 M2 => bnd (f_X12_its r1 M2) (fun r4 M5 => if r4 = 0 then f_X12_countChannel_17 x1 x2 1 M5 else f_X12_countChannel_17 x1 x2 0 M5))
set_option maxHeartbeats 4000000 in
set_option maxRecDepth 100000 in
theorem t_X12_countChannel {G : GG} {A : Nat → Prop} {p : Program} {l : Launch} {e : Env} {s : State} {m : MethodId} {args : Array Value} {below : List Frame} {meth : Method} {c : Code} {r : Unit} {M' : Mem} (X : Cx G A p s m args meth c RX12 cX12_countChannel 4) (hr : meth.sig.returnType = none) {x1 : Int32} {x2 : Int32} {M : Mem}  (h : f_X12_countChannel x1 x2 M = some (r, M')) : T G A p l e (rmO 1) s m args below meth c 4 0 0 (MQ below (QvO G A M') args s 0 0 A) 0 [(0, .ref (G.2.1 (10, 0, 0))), (1, .int x1), (2, .int x2)] [] M := by
  unfold f_X12_countChannel at h
  refine r_aload_n (pc := 0) X dX12_countChannel_0 rfl ?_
  refine r_iload_n (pc := 1) X dX12_countChannel_1 rfl ?_
  refine r_iconst (pc := 2) X (v := 4) dX12_countChannel_2 (by decide) ?_
  refine bndE h (fun r1 M2 h3 h => ?_)
  refine r_callSi2 (pc := 3) X sy_X12_chan my_X12_chan ml_X12_47 ⟨Nat.le_of_ble_eq_true rfl, Nat.le_of_ble_eq_true rfl, Nat.le_of_ble_eq_true rfl, Nat.le_of_ble_eq_true rfl⟩ (c_X12_chan  h3) (Nat.le_of_ble_eq_true rfl) dX12_countChannel_3 ?_
  refine bndE h (fun r4 M5 h6 h => ?_)
  refine r_callVi1 (pc := 6) X ⟨(ltb rfl), (ltb rfl)⟩ rfl vy_X12_its my_X12_its ml_X12_155 ⟨Nat.le_of_ble_eq_true rfl, Nat.le_of_ble_eq_true rfl, Nat.le_of_ble_eq_true rfl, Nat.le_of_ble_eq_true rfl⟩ (c_X12_its  h6) (Nat.le_of_ble_eq_true rfl) dX12_countChannel_6 ?_
  refine r_if_ne (pc := 9) X (tgt := 16) dX12_countChannel_9 (by decide) h (fun h => ?_) (fun h => ?_)
  · refine r_iconst (pc := 16) X (v := 0) dX12_countChannel_16 (by decide) ?_
    exact T_sub (t_X12_countChannel_17 X hr h) ⟨rfl, rfl, rfl, trivial⟩
  · refine r_iconst (pc := 12) X (v := 1) dX12_countChannel_12 (by decide) ?_
    refine r_goto (pc := 13) X (tgt := 17) dX12_countChannel_13 (by decide) ?_
    exact T_sub (t_X12_countChannel_17 X hr h) ⟨rfl, rfl, rfl, trivial⟩
theorem c_X12_countChannel {G : GG} {l : Launch} {x1 : Int32} {x2 : Int32} {r : Unit} {M M' : Mem}  (h : f_X12_countChannel x1 x2 M = some (r, M')) : Met l yX12_countChannel (wsO yX12_countChannel cX12_countChannel 4 none) (rmO 1) (PcO G [.ref (G.2.1 (10, 0, 0)), .int x1, .int x2] M) (QvO G (AA G) M') 0 0 (AA G) :=
  met_of (own := RX12) rfl (by decide +kernel) (Nat.le_of_ble_eq_true rfl) (fun p e s m args below meth c X hr => t_X12_countChannel X hr  h)
