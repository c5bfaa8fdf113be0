-- ConverterScannerModel.idle
def f_X12_idle (x1 : Int32) (M : Mem) : Option (Unit × Mem) :=
  bnd (f_X12_seq x1 0 M) (fun r1 M2 => bnd (f_X12_puts r1 0 M2) (fun r4 M5 => bnd (f_X12_seq x1 2 M5) (fun r7 M8 => bnd (f_X12_puts r7 (-1) M8) (fun r10 M11 => bnd (f_X12_seq x1 3 M11) (fun r13 M14 => bnd (f_X12_puts r13 (-1) M14) (fun r16 M17 => some ((), M17)))))))
set_option maxHeartbeats 4000000 in
set_option maxRecDepth 100000 in
theorem t_X12_idle {G : GG} {A : Nat → Prop} {p : Program} {l : Launch} {e : Env} {s : State} {m : MethodId} {args : Array Value} {below : List Frame} {meth : Method} {c : Code} {r : Unit} {M' : Mem} (X : Cx G A p s m args meth c RX12 cX12_idle 2) (hr : meth.sig.returnType = none) {x1 : Int32} {M : Mem}  (h : f_X12_idle x1 M = some (r, M')) : T G A p l e (rmO 1) s m args below meth c 2 0 0 (MQ below (QvO G A M') args s 0 0 A) 0 [(0, .ref (G.2.1 (10, 0, 0))), (1, .int x1)] [] M := by
  unfold f_X12_idle at h
  refine r_aload_n (pc := 0) X dX12_idle_0 rfl ?_
  refine r_iload_n (pc := 1) X dX12_idle_1 rfl ?_
  refine r_iconst (pc := 2) X (v := 0) dX12_idle_2 (by decide) ?_
  refine bndE h (fun r1 M2 h3 h => ?_)
  refine r_callSi2 (pc := 3) X sy_X12_seq my_X12_seq ml_X12_43 ⟨Nat.le_of_ble_eq_true rfl, Nat.le_of_ble_eq_true rfl, Nat.le_of_ble_eq_true rfl, Nat.le_of_ble_eq_true rfl⟩ (c_X12_seq  h3) (Nat.le_of_ble_eq_true rfl) dX12_idle_3 ?_
  refine r_iconst (pc := 6) X (v := 0) dX12_idle_6 (by decide) ?_
  refine bndE h (fun r4 M5 h6 h => ?_)
  refine r_callVv2 (pc := 7) X ⟨(ltb rfl), (ltb rfl)⟩ rfl vy_X12_puts my_X12_puts ml_X12_39 ⟨Nat.le_of_ble_eq_true rfl, Nat.le_of_ble_eq_true rfl, Nat.le_of_ble_eq_true rfl, Nat.le_of_ble_eq_true rfl⟩ (c_X12_puts  h6) (Nat.le_of_ble_eq_true rfl) dX12_idle_7 ?_
  refine r_aload_n (pc := 10) X dX12_idle_10 rfl ?_
  refine r_iload_n (pc := 11) X dX12_idle_11 rfl ?_
  refine r_iconst (pc := 12) X (v := 2) dX12_idle_12 (by decide) ?_
  refine bndE h (fun r7 M8 h9 h => ?_)
  refine r_callSi2 (pc := 13) X sy_X12_seq my_X12_seq ml_X12_43 ⟨Nat.le_of_ble_eq_true rfl, Nat.le_of_ble_eq_true rfl, Nat.le_of_ble_eq_true rfl, Nat.le_of_ble_eq_true rfl⟩ (c_X12_seq  h9) (Nat.le_of_ble_eq_true rfl) dX12_idle_13 ?_
  refine r_iconst (pc := 16) X (v := (-1)) dX12_idle_16 (by decide) ?_
  refine bndE h (fun r10 M11 h12 h => ?_)
  refine r_callVv2 (pc := 17) X ⟨(ltb rfl), (ltb rfl)⟩ rfl vy_X12_puts my_X12_puts ml_X12_39 ⟨Nat.le_of_ble_eq_true rfl, Nat.le_of_ble_eq_true rfl, Nat.le_of_ble_eq_true rfl, Nat.le_of_ble_eq_true rfl⟩ (c_X12_puts  h12) (Nat.le_of_ble_eq_true rfl) dX12_idle_17 ?_
  refine r_aload_n (pc := 20) X dX12_idle_20 rfl ?_
  refine r_iload_n (pc := 21) X dX12_idle_21 rfl ?_
  refine r_iconst (pc := 22) X (v := 3) dX12_idle_22 (by decide) ?_
  refine bndE h (fun r13 M14 h15 h => ?_)
  refine r_callSi2 (pc := 23) X sy_X12_seq my_X12_seq ml_X12_43 ⟨Nat.le_of_ble_eq_true rfl, Nat.le_of_ble_eq_true rfl, Nat.le_of_ble_eq_true rfl, Nat.le_of_ble_eq_true rfl⟩ (c_X12_seq  h15) (Nat.le_of_ble_eq_true rfl) dX12_idle_23 ?_
  refine r_iconst (pc := 26) X (v := (-1)) dX12_idle_26 (by decide) ?_
  refine bndE h (fun r16 M17 h18 h => ?_)
  refine r_callVv2 (pc := 27) X ⟨(ltb rfl), (ltb rfl)⟩ rfl vy_X12_puts my_X12_puts ml_X12_39 ⟨Nat.le_of_ble_eq_true rfl, Nat.le_of_ble_eq_true rfl, Nat.le_of_ble_eq_true rfl, Nat.le_of_ble_eq_true rfl⟩ (c_X12_puts  h18) (Nat.le_of_ble_eq_true rfl) dX12_idle_27 ?_
  cases h
  exact r_vret (pc := 30) X hr dX12_idle_30
theorem c_X12_idle {G : GG} {l : Launch} {x1 : Int32} {r : Unit} {M M' : Mem}  (h : f_X12_idle x1 M = some (r, M')) : Met l yX12_idle (wsO yX12_idle cX12_idle 2 none) (rmO 1) (PcO G [.ref (G.2.1 (10, 0, 0)), .int x1] M) (QvO G (AA G) M') 0 0 (AA G) :=
  met_of (own := RX12) rfl (by decide +kernel) (Nat.le_of_ble_eq_true rfl) (fun p e s m args below meth c X hr => t_X12_idle X hr  h)
-- ConverterScannerModel.endPass
def f_X12_endPass_103  (M : Mem) : Option (Unit × Mem) :=
  if bad 6 104 then none else if (M.1 (31, 0, 0) (Int32.toNatClampNeg 6)) = 1 then bnd (f_X12_beginPass 0 M) (fun r4 M5 => some ((), M5)) else bnd (f_X12_idle 0 M) (fun r1 M2 => some ((), M2))
set_option maxHeartbeats 4000000 in
set_option maxRecDepth 100000 in
theorem t_X12_endPass_103 {G : GG} {A : Nat → Prop} {p : Program} {l : Launch} {e : Env} {s : State} {m : MethodId} {args : Array Value} {below : List Frame} {meth : Method} {c : Code} {r : Unit} {M' : Mem} (X : Cx G A p s m args meth c RX12 cX12_endPass 2) (hr : meth.sig.returnType = none) {M : Mem}  (h : f_X12_endPass_103 M = some (r, M')) : T G A p l e (rmO 3) s m args below meth c 2 0 0 (MQ below (QvO G A M') args s 0 0 A) 103 [(0, .ref (G.2.1 (10, 0, 0)))] [] M := by
  unfold f_X12_endPass_103 at h
  refine r_aload_n (pc := 103) X dX12_endPass_103 rfl ?_
  refine r_getR (q := (31, 0, 0)) (pc := 104) X ⟨(ltb rfl), (ltb rfl)⟩ fl_X12_26 rfl dX12_endPass_104 ?_
  refine r_bipush (pc := 107) X (v := 6) dX12_endPass_107 (by decide) ?_
  refine r_iald (pc := 109) X (n := 104) ⟨(ltb rfl), (ltb rfl)⟩ rfl (nlt rfl) dX12_endPass_109 h (fun h => ?_)
  refine r_iconst (pc := 110) X (v := 1) dX12_endPass_110 (by decide) ?_
  refine r_icmp_ne (pc := 111) X (tgt := 122) dX12_endPass_111 (by decide) h (fun h => ?_) (fun h => ?_)
  · refine r_aload_n (pc := 122) X dX12_endPass_122 rfl ?_
    refine r_iconst (pc := 123) X (v := 0) dX12_endPass_123 (by decide) ?_
    refine bndE h (fun r1 M2 h3 h => ?_)
    refine r_callVv1 (pc := 124) X ⟨(ltb rfl), (ltb rfl)⟩ rfl vy_X12_idle my_X12_idle ml_X12_197 ⟨Nat.le_of_ble_eq_true rfl, Nat.le_of_ble_eq_true rfl, Nat.le_of_ble_eq_true rfl, Nat.le_of_ble_eq_true rfl⟩ (c_X12_idle  h3) (Nat.le_of_ble_eq_true rfl) dX12_endPass_124 ?_
    cases h
    exact r_vret (pc := 127) X hr dX12_endPass_127
  · refine r_aload_n (pc := 114) X dX12_endPass_114 rfl ?_
    refine r_iconst (pc := 115) X (v := 0) dX12_endPass_115 (by decide) ?_
    refine bndE h (fun r4 M5 h6 h => ?_)
    refine r_callVv1 (pc := 116) X ⟨(ltb rfl), (ltb rfl)⟩ rfl vy_X12_beginPass my_X12_beginPass ml_X12_168 ⟨Nat.le_of_ble_eq_true rfl, Nat.le_of_ble_eq_true rfl, Nat.le_of_ble_eq_true rfl, Nat.le_of_ble_eq_true rfl⟩ (c_X12_beginPass  h6) (Nat.le_of_ble_eq_true rfl) dX12_endPass_116 ?_
    refine r_goto (pc := 119) X (tgt := 127) dX12_endPass_119 (by decide) ?_
    cases h
    exact r_vret (pc := 127) X hr dX12_endPass_127
def f_X12_endPass_58  (M : Mem) : Option (Unit × Mem) :=
  if bad 7 104 then none else if (M.1 (31, 0, 0) (Int32.toNatClampNeg 7)) = 1 then bnd (f_X12_entries 1 M) (fun r1 M2 => if r1 ≤ 0 then f_X12_endPass_103  M2 else bnd (f_X12_seq 1 0 M2) (fun r4 M5 => bnd (f_X12_its r4 M5) (fun r7 M8 => if r7 = 0 then bnd (f_X12_seq 0 2 M8) (fun r10 M11 => bnd (f_X12_its r10 M11) (fun r13 M14 => bnd (f_X12_startSequence 1 r13 M14) (fun r16 M17 => f_X12_endPass_103  M17))) else f_X12_endPass_103  M8))) else f_X12_endPass_103  M
set_option maxHeartbeats 4000000 in
set_option maxRecDepth 100000 in
theorem t_X12_endPass_58 {G : GG} {A : Nat → Prop} {p : Program} {l : Launch} {e : Env} {s : State} {m : MethodId} {args : Array Value} {below : List Frame} {meth : Method} {c : Code} {r : Unit} {M' : Mem} (X : Cx G A p s m args meth c RX12 cX12_endPass 2) (hr : meth.sig.returnType = none) {M : Mem}  (h : f_X12_endPass_58 M = some (r, M')) : T G A p l e (rmO 3) s m args below meth c 2 0 0 (MQ below (QvO G A M') args s 0 0 A) 58 [(0, .ref (G.2.1 (10, 0, 0)))] [] M := by
  unfold f_X12_endPass_58 at h
  refine r_aload_n (pc := 58) X dX12_endPass_58 rfl ?_
  refine r_getR (q := (31, 0, 0)) (pc := 59) X ⟨(ltb rfl), (ltb rfl)⟩ fl_X12_26 rfl dX12_endPass_59 ?_
  refine r_bipush (pc := 62) X (v := 7) dX12_endPass_62 (by decide) ?_
  refine r_iald (pc := 64) X (n := 104) ⟨(ltb rfl), (ltb rfl)⟩ rfl (nlt rfl) dX12_endPass_64 h (fun h => ?_)
  refine r_iconst (pc := 65) X (v := 1) dX12_endPass_65 (by decide) ?_
  refine r_icmp_ne (pc := 66) X (tgt := 103) dX12_endPass_66 (by decide) h (fun h => ?_) (fun h => ?_)
  · exact T_sub (t_X12_endPass_103 X hr h) ⟨rfl, trivial⟩
  · refine r_aload_n (pc := 69) X dX12_endPass_69 rfl ?_
    refine r_iconst (pc := 70) X (v := 1) dX12_endPass_70 (by decide) ?_
    refine bndE h (fun r1 M2 h3 h => ?_)
    refine r_callVi1 (pc := 71) X ⟨(ltb rfl), (ltb rfl)⟩ rfl vy_X12_entries my_X12_entries ml_X12_165 ⟨Nat.le_of_ble_eq_true rfl, Nat.le_of_ble_eq_true rfl, Nat.le_of_ble_eq_true rfl, Nat.le_of_ble_eq_true rfl⟩ (c_X12_entries  h3) (Nat.le_of_ble_eq_true rfl) dX12_endPass_71 ?_
    refine r_if_le (pc := 74) X (tgt := 103) dX12_endPass_74 (by decide) h (fun h => ?_) (fun h => ?_)
    · exact T_sub (t_X12_endPass_103 X hr h) ⟨rfl, trivial⟩
    · refine r_aload_n (pc := 77) X dX12_endPass_77 rfl ?_
      refine r_iconst (pc := 78) X (v := 1) dX12_endPass_78 (by decide) ?_
      refine r_iconst (pc := 79) X (v := 0) dX12_endPass_79 (by decide) ?_
      refine bndE h (fun r4 M5 h6 h => ?_)
      refine r_callSi2 (pc := 80) X sy_X12_seq my_X12_seq ml_X12_43 ⟨Nat.le_of_ble_eq_true rfl, Nat.le_of_ble_eq_true rfl, Nat.le_of_ble_eq_true rfl, Nat.le_of_ble_eq_true rfl⟩ (c_X12_seq  h6) (Nat.le_of_ble_eq_true rfl) dX12_endPass_80 ?_
      refine bndE h (fun r7 M8 h9 h => ?_)
      refine r_callVi1 (pc := 83) X ⟨(ltb rfl), (ltb rfl)⟩ rfl vy_X12_its my_X12_its ml_X12_155 ⟨Nat.le_of_ble_eq_true rfl, Nat.le_of_ble_eq_true rfl, Nat.le_of_ble_eq_true rfl, Nat.le_of_ble_eq_true rfl⟩ (c_X12_its  h9) (Nat.le_of_ble_eq_true rfl) dX12_endPass_83 ?_
      refine r_if_ne (pc := 86) X (tgt := 103) dX12_endPass_86 (by decide) h (fun h => ?_) (fun h => ?_)
      · exact T_sub (t_X12_endPass_103 X hr h) ⟨rfl, trivial⟩
      · refine r_aload_n (pc := 89) X dX12_endPass_89 rfl ?_
        refine r_iconst (pc := 90) X (v := 1) dX12_endPass_90 (by decide) ?_
        refine r_aload_n (pc := 91) X dX12_endPass_91 rfl ?_
        refine r_iconst (pc := 92) X (v := 0) dX12_endPass_92 (by decide) ?_
        refine r_iconst (pc := 93) X (v := 2) dX12_endPass_93 (by decide) ?_
        refine bndE h (fun r10 M11 h12 h => ?_)
        refine r_callSi2 (pc := 94) X sy_X12_seq my_X12_seq ml_X12_43 ⟨Nat.le_of_ble_eq_true rfl, Nat.le_of_ble_eq_true rfl, Nat.le_of_ble_eq_true rfl, Nat.le_of_ble_eq_true rfl⟩ (c_X12_seq  h12) (Nat.le_of_ble_eq_true rfl) dX12_endPass_94 ?_
        refine bndE h (fun r13 M14 h15 h => ?_)
        refine r_callVi1 (pc := 97) X ⟨(ltb rfl), (ltb rfl)⟩ rfl vy_X12_its my_X12_its ml_X12_155 ⟨Nat.le_of_ble_eq_true rfl, Nat.le_of_ble_eq_true rfl, Nat.le_of_ble_eq_true rfl, Nat.le_of_ble_eq_true rfl⟩ (c_X12_its  h15) (Nat.le_of_ble_eq_true rfl) dX12_endPass_97 ?_
        refine bndE h (fun r16 M17 h18 h => ?_)
        refine r_callVv2 (pc := 100) X ⟨(ltb rfl), (ltb rfl)⟩ rfl vy_X12_startSequence my_X12_startSequence ml_X12_180 ⟨Nat.le_of_ble_eq_true rfl, Nat.le_of_ble_eq_true rfl, Nat.le_of_ble_eq_true rfl, Nat.le_of_ble_eq_true rfl⟩ (c_X12_startSequence  h18) (Nat.le_of_ble_eq_true rfl) dX12_endPass_100 ?_
        exact T_sub (t_X12_endPass_103 X hr h) ⟨rfl, trivial⟩
def f_X12_endPass (x1 : Int32) (M : Mem) : Option (Unit × Mem) :=
  bnd (f_X12_seq x1 5 M) (fun r1 M2 => bnd (f_X12_adds r1 1 M2) (fun r4 M5 => if x1 = 1 then bnd (f_X12_idle 1 M5) (fun r22 M23 => bnd (f_X12_seq 1 1 M23) (fun r25 M26 => bnd (f_X12_puts r25 0 M26) (fun r28 M29 => some ((), M29)))) else bnd (f_X12_seq 0 1 M5) (fun r7 M8 => bnd (f_X12_its r7 M8) (fun r10 M11 => bnd (f_X12_entries 0 M11) (fun r13 M14 => if r10 = r13 then bnd (f_X12_seq 0 1 M14) (fun r16 M17 => bnd (f_X12_puts r16 0 M17) (fun r19 M20 => f_X12_endPass_58  M20)) else f_X12_endPass_58  M14)))))
set_option maxHeartbeats 4000000 in
set_option maxRecDepth 100000 in
theorem t_X12_endPass {G : GG} {A : Nat → Prop} {p : Program} {l : Launch} {e : Env} {s : State} {m : MethodId} {args : Array Value} {below : List Frame} {meth : Method} {c : Code} {r : Unit} {M' : Mem} (X : Cx G A p s m args meth c RX12 cX12_endPass 2) (hr : meth.sig.returnType = none) {x1 : Int32} {M : Mem}  (h : f_X12_endPass x1 M = some (r, M')) : T G A p l e (rmO 3) s m args below meth c 2 0 0 (MQ below (QvO G A M') args s 0 0 A) 0 [(0, .ref (G.2.1 (10, 0, 0))), (1, .int x1)] [] M := by
  unfold f_X12_endPass at h
  refine r_aload_n (pc := 0) X dX12_endPass_0 rfl ?_
  refine r_iload_n (pc := 1) X dX12_endPass_1 rfl ?_
  refine r_iconst (pc := 2) X (v := 5) dX12_endPass_2 (by decide) ?_
  refine bndE h (fun r1 M2 h3 h => ?_)
  refine r_callSi2 (pc := 3) X sy_X12_seq my_X12_seq ml_X12_43 ⟨Nat.le_of_ble_eq_true rfl, Nat.le_of_ble_eq_true rfl, Nat.le_of_ble_eq_true rfl, Nat.le_of_ble_eq_true rfl⟩ (c_X12_seq  h3) (Nat.le_of_ble_eq_true rfl) dX12_endPass_3 ?_
  refine r_iconst (pc := 6) X (v := 1) dX12_endPass_6 (by decide) ?_
  refine bndE h (fun r4 M5 h6 h => ?_)
  refine r_callVv2 (pc := 7) X ⟨(ltb rfl), (ltb rfl)⟩ rfl vy_X12_adds my_X12_adds ml_X12_162 ⟨Nat.le_of_ble_eq_true rfl, Nat.le_of_ble_eq_true rfl, Nat.le_of_ble_eq_true rfl, Nat.le_of_ble_eq_true rfl⟩ (c_X12_adds  h6) (Nat.le_of_ble_eq_true rfl) dX12_endPass_7 ?_
  refine r_iload_n (pc := 10) X dX12_endPass_10 rfl ?_
  refine r_iconst (pc := 11) X (v := 1) dX12_endPass_11 (by decide) ?_
  refine r_icmp_ne (pc := 12) X (tgt := 31) dX12_endPass_12 (by decide) h (fun h => ?_) (fun h => ?_)
  · refine r_aload_n (pc := 31) X dX12_endPass_31 rfl ?_
    refine r_iconst (pc := 32) X (v := 0) dX12_endPass_32 (by decide) ?_
    refine r_iconst (pc := 33) X (v := 1) dX12_endPass_33 (by decide) ?_
    refine bndE h (fun r7 M8 h9 h => ?_)
    refine r_callSi2 (pc := 34) X sy_X12_seq my_X12_seq ml_X12_43 ⟨Nat.le_of_ble_eq_true rfl, Nat.le_of_ble_eq_true rfl, Nat.le_of_ble_eq_true rfl, Nat.le_of_ble_eq_true rfl⟩ (c_X12_seq  h9) (Nat.le_of_ble_eq_true rfl) dX12_endPass_34 ?_
    refine bndE h (fun r10 M11 h12 h => ?_)
    refine r_callVi1 (pc := 37) X ⟨(ltb rfl), (ltb rfl)⟩ rfl vy_X12_its my_X12_its ml_X12_155 ⟨Nat.le_of_ble_eq_true rfl, Nat.le_of_ble_eq_true rfl, Nat.le_of_ble_eq_true rfl, Nat.le_of_ble_eq_true rfl⟩ (c_X12_its  h12) (Nat.le_of_ble_eq_true rfl) dX12_endPass_37 ?_
    refine r_aload_n (pc := 40) X dX12_endPass_40 rfl ?_
    refine r_iconst (pc := 41) X (v := 0) dX12_endPass_41 (by decide) ?_
    refine bndE h (fun r13 M14 h15 h => ?_)
    refine r_callVi1 (pc := 42) X ⟨(ltb rfl), (ltb rfl)⟩ rfl vy_X12_entries my_X12_entries ml_X12_165 ⟨Nat.le_of_ble_eq_true rfl, Nat.le_of_ble_eq_true rfl, Nat.le_of_ble_eq_true rfl, Nat.le_of_ble_eq_true rfl⟩ (c_X12_entries  h15) (Nat.le_of_ble_eq_true rfl) dX12_endPass_42 ?_
    refine r_icmp_ne (pc := 45) X (tgt := 58) dX12_endPass_45 (by decide) h (fun h => ?_) (fun h => ?_)
    · exact T_sub (t_X12_endPass_58 X hr h) ⟨rfl, trivial⟩
    · refine r_aload_n (pc := 48) X dX12_endPass_48 rfl ?_
      refine r_iconst (pc := 49) X (v := 0) dX12_endPass_49 (by decide) ?_
      refine r_iconst (pc := 50) X (v := 1) dX12_endPass_50 (by decide) ?_
      refine bndE h (fun r16 M17 h18 h => ?_)
      refine r_callSi2 (pc := 51) X sy_X12_seq my_X12_seq ml_X12_43 ⟨Nat.le_of_ble_eq_true rfl, Nat.le_of_ble_eq_true rfl, Nat.le_of_ble_eq_true rfl, Nat.le_of_ble_eq_true rfl⟩ (c_X12_seq  h18) (Nat.le_of_ble_eq_true rfl) dX12_endPass_51 ?_
      refine r_iconst (pc := 54) X (v := 0) dX12_endPass_54 (by decide) ?_
      refine bndE h (fun r19 M20 h21 h => ?_)
      refine r_callVv2 (pc := 55) X ⟨(ltb rfl), (ltb rfl)⟩ rfl vy_X12_puts my_X12_puts ml_X12_39 ⟨Nat.le_of_ble_eq_true rfl, Nat.le_of_ble_eq_true rfl, Nat.le_of_ble_eq_true rfl, Nat.le_of_ble_eq_true rfl⟩ (c_X12_puts  h21) (Nat.le_of_ble_eq_true rfl) dX12_endPass_55 ?_
      exact T_sub (t_X12_endPass_58 X hr h) ⟨rfl, trivial⟩
  · refine r_aload_n (pc := 15) X dX12_endPass_15 rfl ?_
    refine r_iconst (pc := 16) X (v := 1) dX12_endPass_16 (by decide) ?_
    refine bndE h (fun r22 M23 h24 h => ?_)
    refine r_callVv1 (pc := 17) X ⟨(ltb rfl), (ltb rfl)⟩ rfl vy_X12_idle my_X12_idle ml_X12_197 ⟨Nat.le_of_ble_eq_true rfl, Nat.le_of_ble_eq_true rfl, Nat.le_of_ble_eq_true rfl, Nat.le_of_ble_eq_true rfl⟩ (c_X12_idle  h24) (Nat.le_of_ble_eq_true rfl) dX12_endPass_17 ?_
    refine r_aload_n (pc := 20) X dX12_endPass_20 rfl ?_
    refine r_iconst (pc := 21) X (v := 1) dX12_endPass_21 (by decide) ?_
    refine r_iconst (pc := 22) X (v := 1) dX12_endPass_22 (by decide) ?_
    refine bndE h (fun r25 M26 h27 h => ?_)
    refine r_callSi2 (pc := 23) X sy_X12_seq my_X12_seq ml_X12_43 ⟨Nat.le_of_ble_eq_true rfl, Nat.le_of_ble_eq_true rfl, Nat.le_of_ble_eq_true rfl, Nat.le_of_ble_eq_true rfl⟩ (c_X12_seq  h27) (Nat.le_of_ble_eq_true rfl) dX12_endPass_23 ?_
    refine r_iconst (pc := 26) X (v := 0) dX12_endPass_26 (by decide) ?_
    refine bndE h (fun r28 M29 h30 h => ?_)
    refine r_callVv2 (pc := 27) X ⟨(ltb rfl), (ltb rfl)⟩ rfl vy_X12_puts my_X12_puts ml_X12_39 ⟨Nat.le_of_ble_eq_true rfl, Nat.le_of_ble_eq_true rfl, Nat.le_of_ble_eq_true rfl, Nat.le_of_ble_eq_true rfl⟩ (c_X12_puts  h30) (Nat.le_of_ble_eq_true rfl) dX12_endPass_27 ?_
    cases h
    exact r_vret (pc := 30) X hr dX12_endPass_30
theorem c_X12_endPass {G : GG} {l : Launch} {x1 : Int32} {r : Unit} {M M' : Mem}  (h : f_X12_endPass x1 M = some (r, M')) : Met l yX12_endPass (wsO yX12_endPass cX12_endPass 2 none) (rmO 3) (PcO G [.ref (G.2.1 (10, 0, 0)), .int x1] M) (QvO G (AA G) M') 0 0 (AA G) :=
  met_of (own := RX12) rfl (by decide +kernel) (Nat.le_of_ble_eq_true rfl) (fun p e s m args below meth c X hr => t_X12_endPass X hr  h)
-- ConverterScannerModel.finishResult
def f_X12_finishResult_197 (x1 : Int32) (M : Mem) : Option (Unit × Mem) :=
  bnd (f_X12_seq x1 1 M) (fun r1 M2 => bnd (f_X12_adds r1 1 M2) (fun r4 M5 => bnd (f_X12_seq x1 8 M5) (fun r7 M8 => bnd (f_X12_adds r7 (-1) M8) (fun r10 M11 => bnd (f_X12_seq x1 8 M11) (fun r13 M14 => bnd (f_X12_its r13 M14) (fun r16 M17 => if r16 = 0 then bnd (f_X12_endPass x1 M17) (fun r19 M20 => some ((), M20)) else some ((), M17)))))))
set_option maxHeartbeats 4000000 in
set_option maxRecDepth 100000 in
theorem t_X12_finishResult_197 {G : GG} {A : Nat → Prop} {p : Program} {l : Launch} {e : Env} {s : State} {m : MethodId} {args : Array Value} {below : List Frame} {meth : Method} {c : Code} {r : Unit} {M' : Mem} (X : Cx G A p s m args meth c RX12 cX12_finishResult 7) (hr : meth.sig.returnType = none) {x1 : Int32} {M : Mem}  (h : f_X12_finishResult_197 x1 M = some (r, M')) : T G A p l e (rmO 4) s m args below meth c 7 0 0 (MQ below (QvO G A M') args s 0 0 A) 197 [(0, .ref (G.2.1 (10, 0, 0))), (1, .int x1)] [] M := by
  unfold f_X12_finishResult_197 at h
  refine r_aload_n (pc := 197) X dX12_finishResult_197 rfl ?_
  refine r_iload_n (pc := 198) X dX12_finishResult_198 rfl ?_
  refine r_iconst (pc := 199) X (v := 1) dX12_finishResult_199 (by decide) ?_
  refine bndE h (fun r1 M2 h3 h => ?_)
  refine r_callSi2 (pc := 200) X sy_X12_seq my_X12_seq ml_X12_43 ⟨Nat.le_of_ble_eq_true rfl, Nat.le_of_ble_eq_true rfl, Nat.le_of_ble_eq_true rfl, Nat.le_of_ble_eq_true rfl⟩ (c_X12_seq  h3) (Nat.le_of_ble_eq_true rfl) dX12_finishResult_200 ?_
  refine r_iconst (pc := 203) X (v := 1) dX12_finishResult_203 (by decide) ?_
  refine bndE h (fun r4 M5 h6 h => ?_)
  refine r_callVv2 (pc := 204) X ⟨(ltb rfl), (ltb rfl)⟩ rfl vy_X12_adds my_X12_adds ml_X12_162 ⟨Nat.le_of_ble_eq_true rfl, Nat.le_of_ble_eq_true rfl, Nat.le_of_ble_eq_true rfl, Nat.le_of_ble_eq_true rfl⟩ (c_X12_adds  h6) (Nat.le_of_ble_eq_true rfl) dX12_finishResult_204 ?_
  refine r_aload_n (pc := 207) X dX12_finishResult_207 rfl ?_
  refine r_iload_n (pc := 208) X dX12_finishResult_208 rfl ?_
  refine r_bipush (pc := 209) X (v := 8) dX12_finishResult_209 (by decide) ?_
  refine bndE h (fun r7 M8 h9 h => ?_)
  refine r_callSi2 (pc := 211) X sy_X12_seq my_X12_seq ml_X12_43 ⟨Nat.le_of_ble_eq_true rfl, Nat.le_of_ble_eq_true rfl, Nat.le_of_ble_eq_true rfl, Nat.le_of_ble_eq_true rfl⟩ (c_X12_seq  h9) (Nat.le_of_ble_eq_true rfl) dX12_finishResult_211 ?_
  refine r_iconst (pc := 214) X (v := (-1)) dX12_finishResult_214 (by decide) ?_
  refine bndE h (fun r10 M11 h12 h => ?_)
  refine r_callVv2 (pc := 215) X ⟨(ltb rfl), (ltb rfl)⟩ rfl vy_X12_adds my_X12_adds ml_X12_162 ⟨Nat.le_of_ble_eq_true rfl, Nat.le_of_ble_eq_true rfl, Nat.le_of_ble_eq_true rfl, Nat.le_of_ble_eq_true rfl⟩ (c_X12_adds  h12) (Nat.le_of_ble_eq_true rfl) dX12_finishResult_215 ?_
  refine r_aload_n (pc := 218) X dX12_finishResult_218 rfl ?_
  refine r_iload_n (pc := 219) X dX12_finishResult_219 rfl ?_
  refine r_bipush (pc := 220) X (v := 8) dX12_finishResult_220 (by decide) ?_
  refine bndE h (fun r13 M14 h15 h => ?_)
  refine r_callSi2 (pc := 222) X sy_X12_seq my_X12_seq ml_X12_43 ⟨Nat.le_of_ble_eq_true rfl, Nat.le_of_ble_eq_true rfl, Nat.le_of_ble_eq_true rfl, Nat.le_of_ble_eq_true rfl⟩ (c_X12_seq  h15) (Nat.le_of_ble_eq_true rfl) dX12_finishResult_222 ?_
  refine bndE h (fun r16 M17 h18 h => ?_)
  refine r_callVi1 (pc := 225) X ⟨(ltb rfl), (ltb rfl)⟩ rfl vy_X12_its my_X12_its ml_X12_155 ⟨Nat.le_of_ble_eq_true rfl, Nat.le_of_ble_eq_true rfl, Nat.le_of_ble_eq_true rfl, Nat.le_of_ble_eq_true rfl⟩ (c_X12_its  h18) (Nat.le_of_ble_eq_true rfl) dX12_finishResult_225 ?_
  refine r_if_ne (pc := 228) X (tgt := 236) dX12_finishResult_228 (by decide) h (fun h => ?_) (fun h => ?_)
  · cases h
    exact r_vret (pc := 236) X hr dX12_finishResult_236
  · refine r_aload_n (pc := 231) X dX12_finishResult_231 rfl ?_
    refine r_iload_n (pc := 232) X dX12_finishResult_232 rfl ?_
    refine bndE h (fun r19 M20 h21 h => ?_)
    refine r_callVv1 (pc := 233) X ⟨(ltb rfl), (ltb rfl)⟩ rfl vy_X12_endPass my_X12_endPass ml_X12_211 ⟨Nat.le_of_ble_eq_true rfl, Nat.le_of_ble_eq_true rfl, Nat.le_of_ble_eq_true rfl, Nat.le_of_ble_eq_true rfl⟩ (c_X12_endPass  h21) (Nat.le_of_ble_eq_true rfl) dX12_finishResult_233 ?_
    cases h
    exact r_vret (pc := 236) X hr dX12_finishResult_236
def f_X12_finishResult_124 : Nat → Int32 → Int32 → Int32 → Int32 → Int32 → Int32 → Mem → Option (Unit × Mem)
  | 0 => fun _ _ _ _ _ _ _ => none
  | n + 1 => fun x1 x2 x3 x4 x5 x6 M => if 3 ≤ x6 then if x1 = 0 then bnd (f_X12_enqueue x2 x4 x3 M) (fun r10 M11 => f_X12_finishResult_197 x1 M11) else bnd (f_X12_puts (132 + (5 * x5)) 1 M) (fun r1 M2 => bnd (f_X12_its 0 M2) (fun r4 M5 => bnd (f_X12_putRow ((132 + (5 * x5)) + 1) x2 x4 r4 x3 M5) (fun r7 M8 => f_X12_finishResult_197 x1 M8))) else bnd (f_X12_lookAt x6 x2 x4 x3 M) (fun r13 M14 => nm (x6 + 1) (fun e16 => (f_X12_finishResult_124 n) x1 x2 x3 x4 x5 e16 M14))
set_option maxHeartbeats 4000000 in
set_option maxRecDepth 100000 in
theorem t_X12_finishResult_124 {G : GG} {A : Nat → Prop} {p : Program} {l : Launch} {e : Env} {s : State} {m : MethodId} {args : Array Value} {below : List Frame} {meth : Method} {c : Code} {r : Unit} {M' : Mem} (X : Cx G A p s m args meth c RX12 cX12_finishResult 7) (hr : meth.sig.returnType = none) : ∀ (n : Nat) (x1 : Int32) (x2 : Int32) (x3 : Int32) (x4 : Int32) (x5 : Int32) (x6 : Int32) (M : Mem), f_X12_finishResult_124 n x1 x2 x3 x4 x5 x6 M = some (r, M') → T G A p l e (rmO 4) s m args below meth c 7 0 0 (MQ below (QvO G A M') args s 0 0 A) 124 [(0, .ref (G.2.1 (10, 0, 0))), (1, .int x1), (2, .int x2), (3, .int x3), (4, .int x4), (5, .int x5), (6, .int x6)] [] M := by
  intro n
  induction n with
  | zero =>
    intro x1 x2 x3 x4 x5 x6 M  h
    cases h
  | succ n ih =>
    intro x1 x2 x3 x4 x5 x6 M  h
    unfold f_X12_finishResult_124 at h
    refine r_iload (pc := 124) X dX12_finishResult_124 rfl ?_
    refine r_iconst (pc := 126) X (v := 3) dX12_finishResult_126 (by decide) ?_
    refine r_icmp_ge (pc := 127) X (tgt := 146) dX12_finishResult_127 (by decide) h (fun h => ?_) (fun h => ?_)
    · refine r_iload_n (pc := 146) X dX12_finishResult_146 rfl ?_
      refine r_if_ne (pc := 147) X (tgt := 161) dX12_finishResult_147 (by decide) h (fun h => ?_) (fun h => ?_)
      · refine r_aload_n (pc := 161) X dX12_finishResult_161 rfl ?_
        refine r_sipush (pc := 162) X (v := 132) dX12_finishResult_162 (by decide) ?_
        refine r_iconst (pc := 165) X (v := 5) dX12_finishResult_165 (by decide) ?_
        refine r_iload (pc := 166) X dX12_finishResult_166 rfl ?_
        refine r_imul (pc := 168) X dX12_finishResult_168 ?_
        refine r_iadd (pc := 169) X dX12_finishResult_169 ?_
        refine r_iconst (pc := 170) X (v := 1) dX12_finishResult_170 (by decide) ?_
        refine bndE h (fun r1 M2 h3 h => ?_)
        refine r_callVv2 (pc := 171) X ⟨(ltb rfl), (ltb rfl)⟩ rfl vy_X12_puts my_X12_puts ml_X12_39 ⟨Nat.le_of_ble_eq_true rfl, Nat.le_of_ble_eq_true rfl, Nat.le_of_ble_eq_true rfl, Nat.le_of_ble_eq_true rfl⟩ (c_X12_puts  h3) (Nat.le_of_ble_eq_true rfl) dX12_finishResult_171 ?_
        refine r_aload_n (pc := 174) X dX12_finishResult_174 rfl ?_
        refine r_sipush (pc := 175) X (v := 132) dX12_finishResult_175 (by decide) ?_
        refine r_iconst (pc := 178) X (v := 5) dX12_finishResult_178 (by decide) ?_
        refine r_iload (pc := 179) X dX12_finishResult_179 rfl ?_
        refine r_imul (pc := 181) X dX12_finishResult_181 ?_
        refine r_iadd (pc := 182) X dX12_finishResult_182 ?_
        refine r_iconst (pc := 183) X (v := 1) dX12_finishResult_183 (by decide) ?_
        refine r_iadd (pc := 184) X dX12_finishResult_184 ?_
        refine r_iload_n (pc := 185) X dX12_finishResult_185 rfl ?_
        refine r_iload (pc := 186) X dX12_finishResult_186 rfl ?_
        refine r_aload_n (pc := 188) X dX12_finishResult_188 rfl ?_
        refine r_iconst (pc := 189) X (v := 0) dX12_finishResult_189 (by decide) ?_
        refine bndE h (fun r4 M5 h6 h => ?_)
        refine r_callVi1 (pc := 190) X ⟨(ltb rfl), (ltb rfl)⟩ rfl vy_X12_its my_X12_its ml_X12_155 ⟨Nat.le_of_ble_eq_true rfl, Nat.le_of_ble_eq_true rfl, Nat.le_of_ble_eq_true rfl, Nat.le_of_ble_eq_true rfl⟩ (c_X12_its  h6) (Nat.le_of_ble_eq_true rfl) dX12_finishResult_190 ?_
        refine r_iload_n (pc := 193) X dX12_finishResult_193 rfl ?_
        refine bndE h (fun r7 M8 h9 h => ?_)
        refine r_callVv5 (pc := 194) X ⟨(ltb rfl), (ltb rfl)⟩ rfl vy_X12_putRow my_X12_putRow ml_X12_193 ⟨Nat.le_of_ble_eq_true rfl, Nat.le_of_ble_eq_true rfl, Nat.le_of_ble_eq_true rfl, Nat.le_of_ble_eq_true rfl⟩ (c_X12_putRow  h9) (Nat.le_of_ble_eq_true rfl) dX12_finishResult_194 ?_
        exact T_sub (t_X12_finishResult_197 X hr h) ⟨rfl, rfl, trivial⟩
      · refine r_aload_n (pc := 150) X dX12_finishResult_150 rfl ?_
        refine r_iload_n (pc := 151) X dX12_finishResult_151 rfl ?_
        refine r_iload (pc := 152) X dX12_finishResult_152 rfl ?_
        refine r_iload_n (pc := 154) X dX12_finishResult_154 rfl ?_
        refine bndE h (fun r10 M11 h12 h => ?_)
        refine r_callVv3 (pc := 155) X ⟨(ltb rfl), (ltb rfl)⟩ rfl vy_X12_enqueue my_X12_enqueue ml_X12_207 ⟨Nat.le_of_ble_eq_true rfl, Nat.le_of_ble_eq_true rfl, Nat.le_of_ble_eq_true rfl, Nat.le_of_ble_eq_true rfl⟩ (c_X12_enqueue  h12) (Nat.le_of_ble_eq_true rfl) dX12_finishResult_155 ?_
        refine r_goto (pc := 158) X (tgt := 197) dX12_finishResult_158 (by decide) ?_
        exact T_sub (t_X12_finishResult_197 X hr h) ⟨rfl, rfl, trivial⟩
    · refine r_aload_n (pc := 130) X dX12_finishResult_130 rfl ?_
      refine r_iload (pc := 131) X dX12_finishResult_131 rfl ?_
      refine r_iload_n (pc := 133) X dX12_finishResult_133 rfl ?_
      refine r_iload (pc := 134) X dX12_finishResult_134 rfl ?_
      refine r_iload_n (pc := 136) X dX12_finishResult_136 rfl ?_
      refine bndE h (fun r13 M14 h15 h => ?_)
      refine r_callVv4 (pc := 137) X ⟨(ltb rfl), (ltb rfl)⟩ rfl vy_X12_lookAt my_X12_lookAt ml_X12_203 ⟨Nat.le_of_ble_eq_true rfl, Nat.le_of_ble_eq_true rfl, Nat.le_of_ble_eq_true rfl, Nat.le_of_ble_eq_true rfl⟩ (c_X12_lookAt  h15) (Nat.le_of_ble_eq_true rfl) dX12_finishResult_137 ?_
      refine r_iincN (pc := 140) X (v0 := 1) rfl (by decide) (by decide) dX12_finishResult_140 h (fun e16 h => ?_)
      refine r_goto (pc := 143) X (tgt := 124) dX12_finishResult_143 (by decide) ?_
      exact T_sub (ih _ _ _ _ _ _ _ h) ⟨rfl, rfl, rfl, rfl, rfl, rfl, rfl, trivial⟩
def f_X12_finishResult_37 (x1 : Int32) (x2 : Int32) (xs0 : Int32) (M : Mem) : Option (Unit × Mem) :=
  bnd (f_X12_seq x1 2 M) (fun r1 M2 => bnd (f_X12_its r1 M2) (fun r4 M5 => bnd (f_X12_seq x1 1 M5) (fun r7 M8 => bnd (f_X12_its r7 M8) (fun r10 M11 => bnd (f_X12_clearResult x1 M11) (fun r13 M14 => bnd (f_X12_adds 13 1 M14) (fun r16 M17 => bnd (f_X12_seq x1 4 M17) (fun r19 M20 => bnd (f_X12_adds r19 1 M20) (fun r22 M23 => if bad ((10 * (M23.1 (10, 0, 0) 7)) + x1) 50 then none else bnd (f_X12_its 0 M23) (fun r25 M26 => bnd (f_X12_seq x1 3 M26) (fun r28 M29 => bnd (f_X12_its r28 M29) (fun r31 M32 => if bad ((10 * (M23.1 (10, 0, 0) 7)) + x1) 50 then none else nm (uL M32 (33, 0, 0) (Int32.toNatClampNeg ((10 * (M23.1 (10, 0, 0) 7)) + x1)) ((M23.2.1 (33, 0, 0) (Int32.toNatClampNeg ((10 * (M23.1 (10, 0, 0) 7)) + x1))) + (Int32.toInt64 (r25 - r31)))) (fun M34 => bnd (f_X12_countChannel x2 xs0 M34) (fun r35 M36 => f_X12_finishResult_124 fuelN x1 x2 xs0 r4 r10 0 M36)))))))))))))
set_option maxHeartbeats 4000000 in
set_option maxRecDepth 100000 in
theorem t_X12_finishResult_37 {G : GG} {A : Nat → Prop} {p : Program} {l : Launch} {e : Env} {s : State} {m : MethodId} {args : Array Value} {below : List Frame} {meth : Method} {c : Code} {r : Unit} {M' : Mem} (X : Cx G A p s m args meth c RX12 cX12_finishResult 7) (hr : meth.sig.returnType = none) {x1 : Int32} {x2 : Int32} {xs0 : Int32} {M : Mem}  (h : f_X12_finishResult_37 x1 x2 xs0 M = some (r, M')) : T G A p l e (rmO 4) s m args below meth c 7 0 0 (MQ below (QvO G A M') args s 0 0 A) 37 [(0, .ref (G.2.1 (10, 0, 0))), (1, .int x1), (2, .int x2)] [.int xs0] M := by
  unfold f_X12_finishResult_37 at h
  refine r_istore_n (pc := 37) X (by decide) dX12_finishResult_37 ?_
  refine r_aload_n (pc := 38) X dX12_finishResult_38 rfl ?_
  refine r_iload_n (pc := 39) X dX12_finishResult_39 rfl ?_
  refine r_iconst (pc := 40) X (v := 2) dX12_finishResult_40 (by decide) ?_
  refine bndE h (fun r1 M2 h3 h => ?_)
  refine r_callSi2 (pc := 41) X sy_X12_seq my_X12_seq ml_X12_43 ⟨Nat.le_of_ble_eq_true rfl, Nat.le_of_ble_eq_true rfl, Nat.le_of_ble_eq_true rfl, Nat.le_of_ble_eq_true rfl⟩ (c_X12_seq  h3) (Nat.le_of_ble_eq_true rfl) dX12_finishResult_41 ?_
  refine bndE h (fun r4 M5 h6 h => ?_)
  refine r_callVi1 (pc := 44) X ⟨(ltb rfl), (ltb rfl)⟩ rfl vy_X12_its my_X12_its ml_X12_155 ⟨Nat.le_of_ble_eq_true rfl, Nat.le_of_ble_eq_true rfl, Nat.le_of_ble_eq_true rfl, Nat.le_of_ble_eq_true rfl⟩ (c_X12_its  h6) (Nat.le_of_ble_eq_true rfl) dX12_finishResult_44 ?_
  refine r_istore (pc := 47) X (by decide) dX12_finishResult_47 ?_
  refine r_aload_n (pc := 49) X dX12_finishResult_49 rfl ?_
  refine r_iload_n (pc := 50) X dX12_finishResult_50 rfl ?_
  refine r_iconst (pc := 51) X (v := 1) dX12_finishResult_51 (by decide) ?_
  refine bndE h (fun r7 M8 h9 h => ?_)
  refine r_callSi2 (pc := 52) X sy_X12_seq my_X12_seq ml_X12_43 ⟨Nat.le_of_ble_eq_true rfl, Nat.le_of_ble_eq_true rfl, Nat.le_of_ble_eq_true rfl, Nat.le_of_ble_eq_true rfl⟩ (c_X12_seq  h9) (Nat.le_of_ble_eq_true rfl) dX12_finishResult_52 ?_
  refine bndE h (fun r10 M11 h12 h => ?_)
  refine r_callVi1 (pc := 55) X ⟨(ltb rfl), (ltb rfl)⟩ rfl vy_X12_its my_X12_its ml_X12_155 ⟨Nat.le_of_ble_eq_true rfl, Nat.le_of_ble_eq_true rfl, Nat.le_of_ble_eq_true rfl, Nat.le_of_ble_eq_true rfl⟩ (c_X12_its  h12) (Nat.le_of_ble_eq_true rfl) dX12_finishResult_55 ?_
  refine r_istore (pc := 58) X (by decide) dX12_finishResult_58 ?_
  refine r_aload_n (pc := 60) X dX12_finishResult_60 rfl ?_
  refine r_iload_n (pc := 61) X dX12_finishResult_61 rfl ?_
  refine bndE h (fun r13 M14 h15 h => ?_)
  refine r_callVv1 (pc := 62) X ⟨(ltb rfl), (ltb rfl)⟩ rfl vy_X12_clearResult my_X12_clearResult ml_X12_174 ⟨Nat.le_of_ble_eq_true rfl, Nat.le_of_ble_eq_true rfl, Nat.le_of_ble_eq_true rfl, Nat.le_of_ble_eq_true rfl⟩ (c_X12_clearResult  h15) (Nat.le_of_ble_eq_true rfl) dX12_finishResult_62 ?_
  refine r_aload_n (pc := 65) X dX12_finishResult_65 rfl ?_
  refine r_bipush (pc := 66) X (v := 13) dX12_finishResult_66 (by decide) ?_
  refine r_iconst (pc := 68) X (v := 1) dX12_finishResult_68 (by decide) ?_
  refine bndE h (fun r16 M17 h18 h => ?_)
  refine r_callVv2 (pc := 69) X ⟨(ltb rfl), (ltb rfl)⟩ rfl vy_X12_adds my_X12_adds ml_X12_162 ⟨Nat.le_of_ble_eq_true rfl, Nat.le_of_ble_eq_true rfl, Nat.le_of_ble_eq_true rfl, Nat.le_of_ble_eq_true rfl⟩ (c_X12_adds  h18) (Nat.le_of_ble_eq_true rfl) dX12_finishResult_69 ?_
  refine r_aload_n (pc := 72) X dX12_finishResult_72 rfl ?_
  refine r_iload_n (pc := 73) X dX12_finishResult_73 rfl ?_
  refine r_iconst (pc := 74) X (v := 4) dX12_finishResult_74 (by decide) ?_
  refine bndE h (fun r19 M20 h21 h => ?_)
  refine r_callSi2 (pc := 75) X sy_X12_seq my_X12_seq ml_X12_43 ⟨Nat.le_of_ble_eq_true rfl, Nat.le_of_ble_eq_true rfl, Nat.le_of_ble_eq_true rfl, Nat.le_of_ble_eq_true rfl⟩ (c_X12_seq  h21) (Nat.le_of_ble_eq_true rfl) dX12_finishResult_75 ?_
  refine r_iconst (pc := 78) X (v := 1) dX12_finishResult_78 (by decide) ?_
  refine bndE h (fun r22 M23 h24 h => ?_)
  refine r_callVv2 (pc := 79) X ⟨(ltb rfl), (ltb rfl)⟩ rfl vy_X12_adds my_X12_adds ml_X12_162 ⟨Nat.le_of_ble_eq_true rfl, Nat.le_of_ble_eq_true rfl, Nat.le_of_ble_eq_true rfl, Nat.le_of_ble_eq_true rfl⟩ (c_X12_adds  h24) (Nat.le_of_ble_eq_true rfl) dX12_finishResult_79 ?_
  refine r_aload_n (pc := 82) X dX12_finishResult_82 rfl ?_
  refine r_getR (q := (33, 0, 0)) (pc := 83) X ⟨(ltb rfl), (ltb rfl)⟩ fl_X12_35 rfl dX12_finishResult_83 ?_
  refine r_bipush (pc := 86) X (v := 10) dX12_finishResult_86 (by decide) ?_
  refine r_aload_n (pc := 88) X dX12_finishResult_88 rfl ?_
  refine r_getI (pc := 89) X ⟨(ltb rfl), (ltb rfl)⟩ fl_X12_32 rfl dX12_finishResult_89 ?_
  refine r_imul (pc := 92) X dX12_finishResult_92 ?_
  refine r_iload_n (pc := 93) X dX12_finishResult_93 rfl ?_
  refine r_iadd (pc := 94) X dX12_finishResult_94 ?_
  refine r_dup2 (pc := 95) X dX12_finishResult_95 rfl rfl ?_
  refine r_lald (pc := 96) X (n := 50) ⟨(ltb rfl), (ltb rfl)⟩ rfl (nlt rfl) dX12_finishResult_96 h (fun h => ?_)
  refine r_aload_n (pc := 97) X dX12_finishResult_97 rfl ?_
  refine r_iconst (pc := 98) X (v := 0) dX12_finishResult_98 (by decide) ?_
  refine bndE h (fun r25 M26 h27 h => ?_)
  refine r_callVi1 (pc := 99) X ⟨(ltb rfl), (ltb rfl)⟩ rfl vy_X12_its my_X12_its ml_X12_155 ⟨Nat.le_of_ble_eq_true rfl, Nat.le_of_ble_eq_true rfl, Nat.le_of_ble_eq_true rfl, Nat.le_of_ble_eq_true rfl⟩ (c_X12_its  h27) (Nat.le_of_ble_eq_true rfl) dX12_finishResult_99 ?_
  refine r_aload_n (pc := 102) X dX12_finishResult_102 rfl ?_
  refine r_iload_n (pc := 103) X dX12_finishResult_103 rfl ?_
  refine r_iconst (pc := 104) X (v := 3) dX12_finishResult_104 (by decide) ?_
  refine bndE h (fun r28 M29 h30 h => ?_)
  refine r_callSi2 (pc := 105) X sy_X12_seq my_X12_seq ml_X12_43 ⟨Nat.le_of_ble_eq_true rfl, Nat.le_of_ble_eq_true rfl, Nat.le_of_ble_eq_true rfl, Nat.le_of_ble_eq_true rfl⟩ (c_X12_seq  h30) (Nat.le_of_ble_eq_true rfl) dX12_finishResult_105 ?_
  refine bndE h (fun r31 M32 h33 h => ?_)
  refine r_callVi1 (pc := 108) X ⟨(ltb rfl), (ltb rfl)⟩ rfl vy_X12_its my_X12_its ml_X12_155 ⟨Nat.le_of_ble_eq_true rfl, Nat.le_of_ble_eq_true rfl, Nat.le_of_ble_eq_true rfl, Nat.le_of_ble_eq_true rfl⟩ (c_X12_its  h33) (Nat.le_of_ble_eq_true rfl) dX12_finishResult_108 ?_
  refine r_isub (pc := 111) X dX12_finishResult_111 ?_
  refine r_i2l (pc := 112) X dX12_finishResult_112 ?_
  refine r_ladd (pc := 113) X dX12_finishResult_113 ?_
  refine r_lastN (pc := 114) X (n := 50) ⟨(ltb rfl), (ltb rfl)⟩ rfl (nlt rfl) dX12_finishResult_114 h (fun M34 h => ?_)
  refine r_aload_n (pc := 115) X dX12_finishResult_115 rfl ?_
  refine r_iload_n (pc := 116) X dX12_finishResult_116 rfl ?_
  refine r_iload_n (pc := 117) X dX12_finishResult_117 rfl ?_
  refine bndE h (fun r35 M36 h37 h => ?_)
  refine r_callVv2 (pc := 118) X ⟨(ltb rfl), (ltb rfl)⟩ rfl vy_X12_countChannel my_X12_countChannel ml_X12_200 ⟨Nat.le_of_ble_eq_true rfl, Nat.le_of_ble_eq_true rfl, Nat.le_of_ble_eq_true rfl, Nat.le_of_ble_eq_true rfl⟩ (c_X12_countChannel  h37) (Nat.le_of_ble_eq_true rfl) dX12_finishResult_118 ?_
  refine r_iconst (pc := 121) X (v := 0) dX12_finishResult_121 (by decide) ?_
  refine r_istore (pc := 122) X (by decide) dX12_finishResult_122 ?_
  exact T_sub (t_X12_finishResult_124 X hr _ _ _ _ _ _ _ _ h) ⟨rfl, rfl, rfl, rfl, rfl, rfl, rfl, trivial⟩
def f_X12_finishResult (x1 : Int32) (x2 : Int32) (M : Mem) : Option (Unit × Mem) :=
  bnd (f_X12_seq x1 7 M) (fun r1 M2 => bnd (f_X12_its r1 M2) (fun r4 M5 => if bad 3 104 then none else if bad (22 + x2) 104 then none else nm ((r4 >>> ((M5.1 (31, 0, 0) (Int32.toNatClampNeg 3)) &&& 31)) - (M5.1 (31, 0, 0) (Int32.toNatClampNeg (22 + x2)))) (fun e7 => if 0 ≤ e7 then f_X12_finishResult_37 x1 x2 e7 M5 else f_X12_finishResult_37 x1 x2 0 M5)))
set_option maxHeartbeats 4000000 in
set_option maxRecDepth 100000 in
theorem t_X12_finishResult {G : GG} {A : Nat → Prop} {p : Program} {l : Launch} {e : Env} {s : State} {m : MethodId} {args : Array Value} {below : List Frame} {meth : Method} {c : Code} {r : Unit} {M' : Mem} (X : Cx G A p s m args meth c RX12 cX12_finishResult 7) (hr : meth.sig.returnType = none) {x1 : Int32} {x2 : Int32} {M : Mem}  (h : f_X12_finishResult x1 x2 M = some (r, M')) : T G A p l e (rmO 4) s m args below meth c 7 0 0 (MQ below (QvO G A M') args s 0 0 A) 0 [(0, .ref (G.2.1 (10, 0, 0))), (1, .int x1), (2, .int x2)] [] M := by
  unfold f_X12_finishResult at h
  refine r_aload_n (pc := 0) X dX12_finishResult_0 rfl ?_
  refine r_iload_n (pc := 1) X dX12_finishResult_1 rfl ?_
  refine r_bipush (pc := 2) X (v := 7) dX12_finishResult_2 (by decide) ?_
  refine bndE h (fun r1 M2 h3 h => ?_)
  refine r_callSi2 (pc := 4) X sy_X12_seq my_X12_seq ml_X12_43 ⟨Nat.le_of_ble_eq_true rfl, Nat.le_of_ble_eq_true rfl, Nat.le_of_ble_eq_true rfl, Nat.le_of_ble_eq_true rfl⟩ (c_X12_seq  h3) (Nat.le_of_ble_eq_true rfl) dX12_finishResult_4 ?_
  refine bndE h (fun r4 M5 h6 h => ?_)
  refine r_callVi1 (pc := 7) X ⟨(ltb rfl), (ltb rfl)⟩ rfl vy_X12_its my_X12_its ml_X12_155 ⟨Nat.le_of_ble_eq_true rfl, Nat.le_of_ble_eq_true rfl, Nat.le_of_ble_eq_true rfl, Nat.le_of_ble_eq_true rfl⟩ (c_X12_its  h6) (Nat.le_of_ble_eq_true rfl) dX12_finishResult_7 ?_
  refine r_aload_n (pc := 10) X dX12_finishResult_10 rfl ?_
  refine r_getR (q := (31, 0, 0)) (pc := 11) X ⟨(ltb rfl), (ltb rfl)⟩ fl_X12_26 rfl dX12_finishResult_11 ?_
  refine r_iconst (pc := 14) X (v := 3) dX12_finishResult_14 (by decide) ?_
  refine r_iald (pc := 15) X (n := 104) ⟨(ltb rfl), (ltb rfl)⟩ rfl (nlt rfl) dX12_finishResult_15 h (fun h => ?_)
  refine r_ishr (pc := 16) X dX12_finishResult_16 ?_
  refine r_aload_n (pc := 17) X dX12_finishResult_17 rfl ?_
  refine r_getR (q := (31, 0, 0)) (pc := 18) X ⟨(ltb rfl), (ltb rfl)⟩ fl_X12_26 rfl dX12_finishResult_18 ?_
  refine r_bipush (pc := 21) X (v := 22) dX12_finishResult_21 (by decide) ?_
  refine r_iload_n (pc := 23) X dX12_finishResult_23 rfl ?_
  refine r_iadd (pc := 24) X dX12_finishResult_24 ?_
  refine r_iald (pc := 25) X (n := 104) ⟨(ltb rfl), (ltb rfl)⟩ rfl (nlt rfl) dX12_finishResult_25 h (fun h => ?_)
  refine r_isub (pc := 26) X dX12_finishResult_26 ?_
  refine r_istore_nN (pc := 27) X (by decide) dX12_finishResult_27 h (fun e7 h => ?_)
  refine r_iload_n (pc := 28) X dX12_finishResult_28 rfl ?_
  refine r_if_ge (pc := 29) X (tgt := 36) dX12_finishResult_29 (by decide) h (fun h => ?_) (fun h => ?_)
  · refine r_iload_n (pc := 36) X dX12_finishResult_36 rfl ?_
    exact T_sub (t_X12_finishResult_37 X hr h) ⟨rfl, rfl, rfl, trivial⟩
  · refine r_iconst (pc := 32) X (v := 0) dX12_finishResult_32 (by decide) ?_
    refine r_goto (pc := 33) X (tgt := 37) dX12_finishResult_33 (by decide) ?_
    exact T_sub (t_X12_finishResult_37 X hr h) ⟨rfl, rfl, rfl, trivial⟩
theorem c_X12_finishResult {G : GG} {l : Launch} {x1 : Int32} {x2 : Int32} {r : Unit} {M M' : Mem}  (h : f_X12_finishResult x1 x2 M = some (r, M')) : Met l yX12_finishResult (wsO yX12_finishResult cX12_finishResult 7 none) (rmO 4) (PcO G [.ref (G.2.1 (10, 0, 0)), .int x1, .int x2] M) (QvO G (AA G) M') 0 0 (AA G) :=
  met_of (own := RX12) rfl (by decide +kernel) (Nat.le_of_ble_eq_true rfl) (fun p e s m args below meth c X hr => t_X12_finishResult X hr  h)
-- ConverterScannerModel.startConversion
def f_X12_startConversion_18 (xs0 : Int32) (M : Mem) : Option (Unit × Mem) :=
  bnd (f_X12_its 1 M) (fun r1 M2 => if r1 = 0 then bnd (f_X12_seq xs0 0 M2) (fun r4 M5 => bnd (f_X12_its r4 M5) (fun r7 M8 => if r7 = 0 then some ((), M8) else bnd (f_X12_seq xs0 1 M8) (fun r10 M11 => bnd (f_X12_its r10 M11) (fun r13 M14 => bnd (f_X12_entryOf xs0 r13 M14) (fun r16 M17 => bnd (f_X12_puts 1 (xs0 + 1) M17) (fun r19 M20 => bnd (f_X12_puts 2 r16 M20) (fun r22 M23 => bnd (f_X12_chan r16 0 M23) (fun r25 M26 => bnd (f_X12_its r25 M26) (fun r28 M29 => bnd (f_X12_puts 4 r28 M29) (fun r31 M32 => bnd (f_X12_chan r16 0 M32) (fun r34 M35 => bnd (f_X12_its r34 M35) (fun r37 M38 => bnd (f_X12_puts 3 (r37 + 12) M38) (fun r40 M41 => some ((), M41)))))))))))))) else some ((), M2))
set_option maxHeartbeats 4000000 in
set_option maxRecDepth 100000 in
theorem t_X12_startConversion_18 {G : GG} {A : Nat → Prop} {p : Program} {l : Launch} {e : Env} {s : State} {m : MethodId} {args : Array Value} {below : List Frame} {meth : Method} {c : Code} {r : Unit} {M' : Mem} (X : Cx G A p s m args meth c RX12 cX12_startConversion 3) (hr : meth.sig.returnType = none) {xs0 : Int32} {M : Mem}  (h : f_X12_startConversion_18 xs0 M = some (r, M')) : T G A p l e (rmO 1) s m args below meth c 3 0 0 (MQ below (QvO G A M') args s 0 0 A) 18 [(0, .ref (G.2.1 (10, 0, 0)))] [.int xs0] M := by
  unfold f_X12_startConversion_18 at h
  refine r_istore_n (pc := 18) X (by decide) dX12_startConversion_18 ?_
  refine r_aload_n (pc := 19) X dX12_startConversion_19 rfl ?_
  refine r_iconst (pc := 20) X (v := 1) dX12_startConversion_20 (by decide) ?_
  refine bndE h (fun r1 M2 h3 h => ?_)
  refine r_callVi1 (pc := 21) X ⟨(ltb rfl), (ltb rfl)⟩ rfl vy_X12_its my_X12_its ml_X12_155 ⟨Nat.le_of_ble_eq_true rfl, Nat.le_of_ble_eq_true rfl, Nat.le_of_ble_eq_true rfl, Nat.le_of_ble_eq_true rfl⟩ (c_X12_its  h3) (Nat.le_of_ble_eq_true rfl) dX12_startConversion_21 ?_
  refine r_if_ne (pc := 24) X (tgt := 39) dX12_startConversion_24 (by decide) h (fun h => ?_) (fun h => ?_)
  · cases h
    exact r_vret (pc := 39) X hr dX12_startConversion_39
  · refine r_aload_n (pc := 27) X dX12_startConversion_27 rfl ?_
    refine r_iload_n (pc := 28) X dX12_startConversion_28 rfl ?_
    refine r_iconst (pc := 29) X (v := 0) dX12_startConversion_29 (by decide) ?_
    refine bndE h (fun r4 M5 h6 h => ?_)
    refine r_callSi2 (pc := 30) X sy_X12_seq my_X12_seq ml_X12_43 ⟨Nat.le_of_ble_eq_true rfl, Nat.le_of_ble_eq_true rfl, Nat.le_of_ble_eq_true rfl, Nat.le_of_ble_eq_true rfl⟩ (c_X12_seq  h6) (Nat.le_of_ble_eq_true rfl) dX12_startConversion_30 ?_
    refine bndE h (fun r7 M8 h9 h => ?_)
    refine r_callVi1 (pc := 33) X ⟨(ltb rfl), (ltb rfl)⟩ rfl vy_X12_its my_X12_its ml_X12_155 ⟨Nat.le_of_ble_eq_true rfl, Nat.le_of_ble_eq_true rfl, Nat.le_of_ble_eq_true rfl, Nat.le_of_ble_eq_true rfl⟩ (c_X12_its  h9) (Nat.le_of_ble_eq_true rfl) dX12_startConversion_33 ?_
    refine r_if_ne (pc := 36) X (tgt := 40) dX12_startConversion_36 (by decide) h (fun h => ?_) (fun h => ?_)
    · refine r_aload_n (pc := 40) X dX12_startConversion_40 rfl ?_
      refine r_iload_n (pc := 41) X dX12_startConversion_41 rfl ?_
      refine r_aload_n (pc := 42) X dX12_startConversion_42 rfl ?_
      refine r_iload_n (pc := 43) X dX12_startConversion_43 rfl ?_
      refine r_iconst (pc := 44) X (v := 1) dX12_startConversion_44 (by decide) ?_
      refine bndE h (fun r10 M11 h12 h => ?_)
      refine r_callSi2 (pc := 45) X sy_X12_seq my_X12_seq ml_X12_43 ⟨Nat.le_of_ble_eq_true rfl, Nat.le_of_ble_eq_true rfl, Nat.le_of_ble_eq_true rfl, Nat.le_of_ble_eq_true rfl⟩ (c_X12_seq  h12) (Nat.le_of_ble_eq_true rfl) dX12_startConversion_45 ?_
      refine bndE h (fun r13 M14 h15 h => ?_)
      refine r_callVi1 (pc := 48) X ⟨(ltb rfl), (ltb rfl)⟩ rfl vy_X12_its my_X12_its ml_X12_155 ⟨Nat.le_of_ble_eq_true rfl, Nat.le_of_ble_eq_true rfl, Nat.le_of_ble_eq_true rfl, Nat.le_of_ble_eq_true rfl⟩ (c_X12_its  h15) (Nat.le_of_ble_eq_true rfl) dX12_startConversion_48 ?_
      refine bndE h (fun r16 M17 h18 h => ?_)
      refine r_callVi2 (pc := 51) X ⟨(ltb rfl), (ltb rfl)⟩ rfl vy_X12_entryOf my_X12_entryOf ml_X12_214 ⟨Nat.le_of_ble_eq_true rfl, Nat.le_of_ble_eq_true rfl, Nat.le_of_ble_eq_true rfl, Nat.le_of_ble_eq_true rfl⟩ (c_X12_entryOf  h18) (Nat.le_of_ble_eq_true rfl) dX12_startConversion_51 ?_
      refine r_istore_n (pc := 54) X (by decide) dX12_startConversion_54 ?_
      refine r_aload_n (pc := 55) X dX12_startConversion_55 rfl ?_
      refine r_iconst (pc := 56) X (v := 1) dX12_startConversion_56 (by decide) ?_
      refine r_iload_n (pc := 57) X dX12_startConversion_57 rfl ?_
      refine r_iconst (pc := 58) X (v := 1) dX12_startConversion_58 (by decide) ?_
      refine r_iadd (pc := 59) X dX12_startConversion_59 ?_
      refine bndE h (fun r19 M20 h21 h => ?_)
      refine r_callVv2 (pc := 60) X ⟨(ltb rfl), (ltb rfl)⟩ rfl vy_X12_puts my_X12_puts ml_X12_39 ⟨Nat.le_of_ble_eq_true rfl, Nat.le_of_ble_eq_true rfl, Nat.le_of_ble_eq_true rfl, Nat.le_of_ble_eq_true rfl⟩ (c_X12_puts  h21) (Nat.le_of_ble_eq_true rfl) dX12_startConversion_60 ?_
      refine r_aload_n (pc := 63) X dX12_startConversion_63 rfl ?_
      refine r_iconst (pc := 64) X (v := 2) dX12_startConversion_64 (by decide) ?_
      refine r_iload_n (pc := 65) X dX12_startConversion_65 rfl ?_
      refine bndE h (fun r22 M23 h24 h => ?_)
      refine r_callVv2 (pc := 66) X ⟨(ltb rfl), (ltb rfl)⟩ rfl vy_X12_puts my_X12_puts ml_X12_39 ⟨Nat.le_of_ble_eq_true rfl, Nat.le_of_ble_eq_true rfl, Nat.le_of_ble_eq_true rfl, Nat.le_of_ble_eq_true rfl⟩ (c_X12_puts  h24) (Nat.le_of_ble_eq_true rfl) dX12_startConversion_66 ?_
      refine r_aload_n (pc := 69) X dX12_startConversion_69 rfl ?_
      refine r_iconst (pc := 70) X (v := 4) dX12_startConversion_70 (by decide) ?_
      refine r_aload_n (pc := 71) X dX12_startConversion_71 rfl ?_
      refine r_iload_n (pc := 72) X dX12_startConversion_72 rfl ?_
      refine r_iconst (pc := 73) X (v := 0) dX12_startConversion_73 (by decide) ?_
      refine bndE h (fun r25 M26 h27 h => ?_)
      refine r_callSi2 (pc := 74) X sy_X12_chan my_X12_chan ml_X12_47 ⟨Nat.le_of_ble_eq_true rfl, Nat.le_of_ble_eq_true rfl, Nat.le_of_ble_eq_true rfl, Nat.le_of_ble_eq_true rfl⟩ (c_X12_chan  h27) (Nat.le_of_ble_eq_true rfl) dX12_startConversion_74 ?_
      refine bndE h (fun r28 M29 h30 h => ?_)
      refine r_callVi1 (pc := 77) X ⟨(ltb rfl), (ltb rfl)⟩ rfl vy_X12_its my_X12_its ml_X12_155 ⟨Nat.le_of_ble_eq_true rfl, Nat.le_of_ble_eq_true rfl, Nat.le_of_ble_eq_true rfl, Nat.le_of_ble_eq_true rfl⟩ (c_X12_its  h30) (Nat.le_of_ble_eq_true rfl) dX12_startConversion_77 ?_
      refine bndE h (fun r31 M32 h33 h => ?_)
      refine r_callVv2 (pc := 80) X ⟨(ltb rfl), (ltb rfl)⟩ rfl vy_X12_puts my_X12_puts ml_X12_39 ⟨Nat.le_of_ble_eq_true rfl, Nat.le_of_ble_eq_true rfl, Nat.le_of_ble_eq_true rfl, Nat.le_of_ble_eq_true rfl⟩ (c_X12_puts  h33) (Nat.le_of_ble_eq_true rfl) dX12_startConversion_80 ?_
      refine r_aload_n (pc := 83) X dX12_startConversion_83 rfl ?_
      refine r_iconst (pc := 84) X (v := 3) dX12_startConversion_84 (by decide) ?_
      refine r_aload_n (pc := 85) X dX12_startConversion_85 rfl ?_
      refine r_iload_n (pc := 86) X dX12_startConversion_86 rfl ?_
      refine r_iconst (pc := 87) X (v := 0) dX12_startConversion_87 (by decide) ?_
      refine bndE h (fun r34 M35 h36 h => ?_)
      refine r_callSi2 (pc := 88) X sy_X12_chan my_X12_chan ml_X12_47 ⟨Nat.le_of_ble_eq_true rfl, Nat.le_of_ble_eq_true rfl, Nat.le_of_ble_eq_true rfl, Nat.le_of_ble_eq_true rfl⟩ (c_X12_chan  h36) (Nat.le_of_ble_eq_true rfl) dX12_startConversion_88 ?_
      refine bndE h (fun r37 M38 h39 h => ?_)
      refine r_callVi1 (pc := 91) X ⟨(ltb rfl), (ltb rfl)⟩ rfl vy_X12_its my_X12_its ml_X12_155 ⟨Nat.le_of_ble_eq_true rfl, Nat.le_of_ble_eq_true rfl, Nat.le_of_ble_eq_true rfl, Nat.le_of_ble_eq_true rfl⟩ (c_X12_its  h39) (Nat.le_of_ble_eq_true rfl) dX12_startConversion_91 ?_
      refine r_bipush (pc := 94) X (v := 12) dX12_startConversion_94 (by decide) ?_
      refine r_iadd (pc := 96) X dX12_startConversion_96 ?_
      refine bndE h (fun r40 M41 h42 h => ?_)
      refine r_callVv2 (pc := 97) X ⟨(ltb rfl), (ltb rfl)⟩ rfl vy_X12_puts my_X12_puts ml_X12_39 ⟨Nat.le_of_ble_eq_true rfl, Nat.le_of_ble_eq_true rfl, Nat.le_of_ble_eq_true rfl, Nat.le_of_ble_eq_true rfl⟩ (c_X12_puts  h42) (Nat.le_of_ble_eq_true rfl) dX12_startConversion_97 ?_
      cases h
      exact r_vret (pc := 100) X hr dX12_startConversion_100
    · cases h
      exact r_vret (pc := 39) X hr dX12_startConversion_39
def f_X12_startConversion  (M : Mem) : Option (Unit × Mem) :=
  bnd (f_X12_seq 1 0 M) (fun r1 M2 => bnd (f_X12_its r1 M2) (fun r4 M5 => if r4 = 1 then f_X12_startConversion_18 1 M5 else f_X12_startConversion_18 0 M5))
set_option maxHeartbeats 4000000 in
set_option maxRecDepth 100000 in
theorem t_X12_startConversion {G : GG} {A : Nat → Prop} {p : Program} {l : Launch} {e : Env} {s : State} {m : MethodId} {args : Array Value} {below : List Frame} {meth : Method} {c : Code} {r : Unit} {M' : Mem} (X : Cx G A p s m args meth c RX12 cX12_startConversion 3) (hr : meth.sig.returnType = none) {M : Mem}  (h : f_X12_startConversion M = some (r, M')) : T G A p l e (rmO 1) s m args below meth c 3 0 0 (MQ below (QvO G A M') args s 0 0 A) 0 [(0, .ref (G.2.1 (10, 0, 0)))] [] M := by
  unfold f_X12_startConversion at h
  refine r_aload_n (pc := 0) X dX12_startConversion_0 rfl ?_
  refine r_iconst (pc := 1) X (v := 1) dX12_startConversion_1 (by decide) ?_
  refine r_iconst (pc := 2) X (v := 0) dX12_startConversion_2 (by decide) ?_
  refine bndE h (fun r1 M2 h3 h => ?_)
  refine r_callSi2 (pc := 3) X sy_X12_seq my_X12_seq ml_X12_43 ⟨Nat.le_of_ble_eq_true rfl, Nat.le_of_ble_eq_true rfl, Nat.le_of_ble_eq_true rfl, Nat.le_of_ble_eq_true rfl⟩ (c_X12_seq  h3) (Nat.le_of_ble_eq_true rfl) dX12_startConversion_3 ?_
  refine bndE h (fun r4 M5 h6 h => ?_)
  refine r_callVi1 (pc := 6) X ⟨(ltb rfl), (ltb rfl)⟩ rfl vy_X12_its my_X12_its ml_X12_155 ⟨Nat.le_of_ble_eq_true rfl, Nat.le_of_ble_eq_true rfl, Nat.le_of_ble_eq_true rfl, Nat.le_of_ble_eq_true rfl⟩ (c_X12_its  h6) (Nat.le_of_ble_eq_true rfl) dX12_startConversion_6 ?_
  refine r_iconst (pc := 9) X (v := 1) dX12_startConversion_9 (by decide) ?_
  refine r_icmp_ne (pc := 10) X (tgt := 17) dX12_startConversion_10 (by decide) h (fun h => ?_) (fun h => ?_)
  · refine r_iconst (pc := 17) X (v := 0) dX12_startConversion_17 (by decide) ?_
    exact T_sub (t_X12_startConversion_18 X hr h) ⟨rfl, trivial⟩
  · refine r_iconst (pc := 13) X (v := 1) dX12_startConversion_13 (by decide) ?_
    refine r_goto (pc := 14) X (tgt := 18) dX12_startConversion_14 (by decide) ?_
    exact T_sub (t_X12_startConversion_18 X hr h) ⟨rfl, trivial⟩
theorem c_X12_startConversion {G : GG} {l : Launch} {r : Unit} {M M' : Mem}  (h : f_X12_startConversion  M = some (r, M')) : Met l yX12_startConversion (wsO yX12_startConversion cX12_startConversion 3 none) (rmO 1) (PcO G [.ref (G.2.1 (10, 0, 0))] M) (QvO G (AA G) M') 0 0 (AA G) :=
  met_of (own := RX12) rfl (by decide +kernel) (Nat.le_of_ble_eq_true rfl) (fun p e s m args below meth c X hr => t_X12_startConversion X hr  h)
-- ConverterScannerModel.convert
def f_X12_convert_52 (x1 : Int32) (x2 : Int32) (M : Mem) : Option (Unit × Mem) :=
  bnd (f_X12_adds 3 (-1) M) (fun r1 M2 => bnd (f_X12_its 3 M2) (fun r4 M5 => if r4 ≤ 0 then bnd (f_X12_puts 1 0 M5) (fun r7 M8 => bnd (f_X12_adds 6 1 M8) (fun r10 M11 => bnd (f_X12_seq x1 6 M11) (fun r13 M14 => bnd (f_X12_adds r13 1 M14) (fun r16 M17 => bnd (f_X12_seq x1 7 M17) (fun r19 M20 => bnd (f_X12_its 5 M20) (fun r22 M23 => bnd (f_X12_adds r19 r22 M23) (fun r25 M26 => bnd (f_X12_seq x1 6 M26) (fun r28 M29 => bnd (f_X12_its r28 M29) (fun r31 M32 => if bad 2 104 then none else if r31 = (1 <<< ((M32.1 (31, 0, 0) (Int32.toNatClampNeg 2)) &&& 31)) then bnd (f_X12_finishResult x1 x2 M32) (fun r34 M35 => some ((), M35)) else some ((), M32)))))))))) else some ((), M5)))
set_option maxHeartbeats 4000000 in
set_option maxRecDepth 100000 in
theorem t_X12_convert_52 {G : GG} {A : Nat → Prop} {p : Program} {l : Launch} {e : Env} {s : State} {m : MethodId} {args : Array Value} {below : List Frame} {meth : Method} {c : Code} {r : Unit} {M' : Mem} (X : Cx G A p s m args meth c RX12 cX12_convert 3) (hr : meth.sig.returnType = none) {x1 : Int32} {x2 : Int32} {M : Mem}  (h : f_X12_convert_52 x1 x2 M = some (r, M')) : T G A p l e (rmO 5) s m args below meth c 3 0 0 (MQ below (QvO G A M') args s 0 0 A) 52 [(0, .ref (G.2.1 (10, 0, 0))), (1, .int x1), (2, .int x2)] [] M := by
  unfold f_X12_convert_52 at h
  refine r_aload_n (pc := 52) X dX12_convert_52 rfl ?_
  refine r_iconst (pc := 53) X (v := 3) dX12_convert_53 (by decide) ?_
  refine r_iconst (pc := 54) X (v := (-1)) dX12_convert_54 (by decide) ?_
  refine bndE h (fun r1 M2 h3 h => ?_)
  refine r_callVv2 (pc := 55) X ⟨(ltb rfl), (ltb rfl)⟩ rfl vy_X12_adds my_X12_adds ml_X12_162 ⟨Nat.le_of_ble_eq_true rfl, Nat.le_of_ble_eq_true rfl, Nat.le_of_ble_eq_true rfl, Nat.le_of_ble_eq_true rfl⟩ (c_X12_adds  h3) (Nat.le_of_ble_eq_true rfl) dX12_convert_55 ?_
  refine r_aload_n (pc := 58) X dX12_convert_58 rfl ?_
  refine r_iconst (pc := 59) X (v := 3) dX12_convert_59 (by decide) ?_
  refine bndE h (fun r4 M5 h6 h => ?_)
  refine r_callVi1 (pc := 60) X ⟨(ltb rfl), (ltb rfl)⟩ rfl vy_X12_its my_X12_its ml_X12_155 ⟨Nat.le_of_ble_eq_true rfl, Nat.le_of_ble_eq_true rfl, Nat.le_of_ble_eq_true rfl, Nat.le_of_ble_eq_true rfl⟩ (c_X12_its  h6) (Nat.le_of_ble_eq_true rfl) dX12_convert_60 ?_
  refine r_if_le (pc := 63) X (tgt := 67) dX12_convert_63 (by decide) h (fun h => ?_) (fun h => ?_)
  · refine r_aload_n (pc := 67) X dX12_convert_67 rfl ?_
    refine r_iconst (pc := 68) X (v := 1) dX12_convert_68 (by decide) ?_
    refine r_iconst (pc := 69) X (v := 0) dX12_convert_69 (by decide) ?_
    refine bndE h (fun r7 M8 h9 h => ?_)
    refine r_callVv2 (pc := 70) X ⟨(ltb rfl), (ltb rfl)⟩ rfl vy_X12_puts my_X12_puts ml_X12_39 ⟨Nat.le_of_ble_eq_true rfl, Nat.le_of_ble_eq_true rfl, Nat.le_of_ble_eq_true rfl, Nat.le_of_ble_eq_true rfl⟩ (c_X12_puts  h9) (Nat.le_of_ble_eq_true rfl) dX12_convert_70 ?_
    refine r_aload_n (pc := 73) X dX12_convert_73 rfl ?_
    refine r_bipush (pc := 74) X (v := 6) dX12_convert_74 (by decide) ?_
    refine r_iconst (pc := 76) X (v := 1) dX12_convert_76 (by decide) ?_
    refine bndE h (fun r10 M11 h12 h => ?_)
    refine r_callVv2 (pc := 77) X ⟨(ltb rfl), (ltb rfl)⟩ rfl vy_X12_adds my_X12_adds ml_X12_162 ⟨Nat.le_of_ble_eq_true rfl, Nat.le_of_ble_eq_true rfl, Nat.le_of_ble_eq_true rfl, Nat.le_of_ble_eq_true rfl⟩ (c_X12_adds  h12) (Nat.le_of_ble_eq_true rfl) dX12_convert_77 ?_
    refine r_aload_n (pc := 80) X dX12_convert_80 rfl ?_
    refine r_iload_n (pc := 81) X dX12_convert_81 rfl ?_
    refine r_bipush (pc := 82) X (v := 6) dX12_convert_82 (by decide) ?_
    refine bndE h (fun r13 M14 h15 h => ?_)
    refine r_callSi2 (pc := 84) X sy_X12_seq my_X12_seq ml_X12_43 ⟨Nat.le_of_ble_eq_true rfl, Nat.le_of_ble_eq_true rfl, Nat.le_of_ble_eq_true rfl, Nat.le_of_ble_eq_true rfl⟩ (c_X12_seq  h15) (Nat.le_of_ble_eq_true rfl) dX12_convert_84 ?_
    refine r_iconst (pc := 87) X (v := 1) dX12_convert_87 (by decide) ?_
    refine bndE h (fun r16 M17 h18 h => ?_)
    refine r_callVv2 (pc := 88) X ⟨(ltb rfl), (ltb rfl)⟩ rfl vy_X12_adds my_X12_adds ml_X12_162 ⟨Nat.le_of_ble_eq_true rfl, Nat.le_of_ble_eq_true rfl, Nat.le_of_ble_eq_true rfl, Nat.le_of_ble_eq_true rfl⟩ (c_X12_adds  h18) (Nat.le_of_ble_eq_true rfl) dX12_convert_88 ?_
    refine r_aload_n (pc := 91) X dX12_convert_91 rfl ?_
    refine r_iload_n (pc := 92) X dX12_convert_92 rfl ?_
    refine r_bipush (pc := 93) X (v := 7) dX12_convert_93 (by decide) ?_
    refine bndE h (fun r19 M20 h21 h => ?_)
    refine r_callSi2 (pc := 95) X sy_X12_seq my_X12_seq ml_X12_43 ⟨Nat.le_of_ble_eq_true rfl, Nat.le_of_ble_eq_true rfl, Nat.le_of_ble_eq_true rfl, Nat.le_of_ble_eq_true rfl⟩ (c_X12_seq  h21) (Nat.le_of_ble_eq_true rfl) dX12_convert_95 ?_
    refine r_aload_n (pc := 98) X dX12_convert_98 rfl ?_
    refine r_iconst (pc := 99) X (v := 5) dX12_convert_99 (by decide) ?_
    refine bndE h (fun r22 M23 h24 h => ?_)
    refine r_callVi1 (pc := 100) X ⟨(ltb rfl), (ltb rfl)⟩ rfl vy_X12_its my_X12_its ml_X12_155 ⟨Nat.le_of_ble_eq_true rfl, Nat.le_of_ble_eq_true rfl, Nat.le_of_ble_eq_true rfl, Nat.le_of_ble_eq_true rfl⟩ (c_X12_its  h24) (Nat.le_of_ble_eq_true rfl) dX12_convert_100 ?_
    refine bndE h (fun r25 M26 h27 h => ?_)
    refine r_callVv2 (pc := 103) X ⟨(ltb rfl), (ltb rfl)⟩ rfl vy_X12_adds my_X12_adds ml_X12_162 ⟨Nat.le_of_ble_eq_true rfl, Nat.le_of_ble_eq_true rfl, Nat.le_of_ble_eq_true rfl, Nat.le_of_ble_eq_true rfl⟩ (c_X12_adds  h27) (Nat.le_of_ble_eq_true rfl) dX12_convert_103 ?_
    refine r_aload_n (pc := 106) X dX12_convert_106 rfl ?_
    refine r_iload_n (pc := 107) X dX12_convert_107 rfl ?_
    refine r_bipush (pc := 108) X (v := 6) dX12_convert_108 (by decide) ?_
    refine bndE h (fun r28 M29 h30 h => ?_)
    refine r_callSi2 (pc := 110) X sy_X12_seq my_X12_seq ml_X12_43 ⟨Nat.le_of_ble_eq_true rfl, Nat.le_of_ble_eq_true rfl, Nat.le_of_ble_eq_true rfl, Nat.le_of_ble_eq_true rfl⟩ (c_X12_seq  h30) (Nat.le_of_ble_eq_true rfl) dX12_convert_110 ?_
    refine bndE h (fun r31 M32 h33 h => ?_)
    refine r_callVi1 (pc := 113) X ⟨(ltb rfl), (ltb rfl)⟩ rfl vy_X12_its my_X12_its ml_X12_155 ⟨Nat.le_of_ble_eq_true rfl, Nat.le_of_ble_eq_true rfl, Nat.le_of_ble_eq_true rfl, Nat.le_of_ble_eq_true rfl⟩ (c_X12_its  h33) (Nat.le_of_ble_eq_true rfl) dX12_convert_113 ?_
    refine r_iconst (pc := 116) X (v := 1) dX12_convert_116 (by decide) ?_
    refine r_aload_n (pc := 117) X dX12_convert_117 rfl ?_
    refine r_getR (q := (31, 0, 0)) (pc := 118) X ⟨(ltb rfl), (ltb rfl)⟩ fl_X12_26 rfl dX12_convert_118 ?_
    refine r_iconst (pc := 121) X (v := 2) dX12_convert_121 (by decide) ?_
    refine r_iald (pc := 122) X (n := 104) ⟨(ltb rfl), (ltb rfl)⟩ rfl (nlt rfl) dX12_convert_122 h (fun h => ?_)
    refine r_ishl (pc := 123) X dX12_convert_123 ?_
    refine r_icmp_ne (pc := 124) X (tgt := 133) dX12_convert_124 (by decide) h (fun h => ?_) (fun h => ?_)
    · cases h
      exact r_vret (pc := 133) X hr dX12_convert_133
    · refine r_aload_n (pc := 127) X dX12_convert_127 rfl ?_
      refine r_iload_n (pc := 128) X dX12_convert_128 rfl ?_
      refine r_iload_n (pc := 129) X dX12_convert_129 rfl ?_
      refine bndE h (fun r34 M35 h36 h => ?_)
      refine r_callVv2 (pc := 130) X ⟨(ltb rfl), (ltb rfl)⟩ rfl vy_X12_finishResult my_X12_finishResult ml_X12_220 ⟨Nat.le_of_ble_eq_true rfl, Nat.le_of_ble_eq_true rfl, Nat.le_of_ble_eq_true rfl, Nat.le_of_ble_eq_true rfl⟩ (c_X12_finishResult  h36) (Nat.le_of_ble_eq_true rfl) dX12_convert_130 ?_
      cases h
      exact r_vret (pc := 133) X hr dX12_convert_133
  · cases h
    exact r_vret (pc := 66) X hr dX12_convert_66
def f_X12_convert  (M : Mem) : Option (Unit × Mem) :=
  bnd (f_X12_its 1 M) (fun r1 M2 => if r1 = 0 then some ((), M2) else bnd (f_X12_its 1 M2) (fun r4 M5 => nm (r4 - 1) (fun e7 => bnd (f_X12_its 2 M5) (fun r8 M9 => bnd (f_X12_adds 4 (-1) M9) (fun r11 M12 => bnd (f_X12_its 4 M12) (fun r14 M15 => if r14 = 0 then bnd (f_X12_its 0 M15) (fun r17 M18 => bnd (f_X12_signalOf r8 r17 M18) (fun r20 M21 => bnd (f_X12_puts 5 r20 M21) (fun r23 M24 => f_X12_convert_52 e7 r8 M24))) else f_X12_convert_52 e7 r8 M15))))))
set_option maxHeartbeats 4000000 in
set_option maxRecDepth 100000 in
theorem t_X12_convert {G : GG} {A : Nat → Prop} {p : Program} {l : Launch} {e : Env} {s : State} {m : MethodId} {args : Array Value} {below : List Frame} {meth : Method} {c : Code} {r : Unit} {M' : Mem} (X : Cx G A p s m args meth c RX12 cX12_convert 3) (hr : meth.sig.returnType = none) {M : Mem}  (h : f_X12_convert M = some (r, M')) : T G A p l e (rmO 5) s m args below meth c 3 0 0 (MQ below (QvO G A M') args s 0 0 A) 0 [(0, .ref (G.2.1 (10, 0, 0)))] [] M := by
  unfold f_X12_convert at h
  refine r_aload_n (pc := 0) X dX12_convert_0 rfl ?_
  refine r_iconst (pc := 1) X (v := 1) dX12_convert_1 (by decide) ?_
  refine bndE h (fun r1 M2 h3 h => ?_)
  refine r_callVi1 (pc := 2) X ⟨(ltb rfl), (ltb rfl)⟩ rfl vy_X12_its my_X12_its ml_X12_155 ⟨Nat.le_of_ble_eq_true rfl, Nat.le_of_ble_eq_true rfl, Nat.le_of_ble_eq_true rfl, Nat.le_of_ble_eq_true rfl⟩ (c_X12_its  h3) (Nat.le_of_ble_eq_true rfl) dX12_convert_2 ?_
  refine r_if_ne (pc := 5) X (tgt := 9) dX12_convert_5 (by decide) h (fun h => ?_) (fun h => ?_)
  · refine r_aload_n (pc := 9) X dX12_convert_9 rfl ?_
    refine r_iconst (pc := 10) X (v := 1) dX12_convert_10 (by decide) ?_
    refine bndE h (fun r4 M5 h6 h => ?_)
    refine r_callVi1 (pc := 11) X ⟨(ltb rfl), (ltb rfl)⟩ rfl vy_X12_its my_X12_its ml_X12_155 ⟨Nat.le_of_ble_eq_true rfl, Nat.le_of_ble_eq_true rfl, Nat.le_of_ble_eq_true rfl, Nat.le_of_ble_eq_true rfl⟩ (c_X12_its  h6) (Nat.le_of_ble_eq_true rfl) dX12_convert_11 ?_
    refine r_iconst (pc := 14) X (v := 1) dX12_convert_14 (by decide) ?_
    refine r_isub (pc := 15) X dX12_convert_15 ?_
    refine r_istore_nN (pc := 16) X (by decide) dX12_convert_16 h (fun e7 h => ?_)
    refine r_aload_n (pc := 17) X dX12_convert_17 rfl ?_
    refine r_iconst (pc := 18) X (v := 2) dX12_convert_18 (by decide) ?_
    refine bndE h (fun r8 M9 h10 h => ?_)
    refine r_callVi1 (pc := 19) X ⟨(ltb rfl), (ltb rfl)⟩ rfl vy_X12_its my_X12_its ml_X12_155 ⟨Nat.le_of_ble_eq_true rfl, Nat.le_of_ble_eq_true rfl, Nat.le_of_ble_eq_true rfl, Nat.le_of_ble_eq_true rfl⟩ (c_X12_its  h10) (Nat.le_of_ble_eq_true rfl) dX12_convert_19 ?_
    refine r_istore_n (pc := 22) X (by decide) dX12_convert_22 ?_
    refine r_aload_n (pc := 23) X dX12_convert_23 rfl ?_
    refine r_iconst (pc := 24) X (v := 4) dX12_convert_24 (by decide) ?_
    refine r_iconst (pc := 25) X (v := (-1)) dX12_convert_25 (by decide) ?_
    refine bndE h (fun r11 M12 h13 h => ?_)
    refine r_callVv2 (pc := 26) X ⟨(ltb rfl), (ltb rfl)⟩ rfl vy_X12_adds my_X12_adds ml_X12_162 ⟨Nat.le_of_ble_eq_true rfl, Nat.le_of_ble_eq_true rfl, Nat.le_of_ble_eq_true rfl, Nat.le_of_ble_eq_true rfl⟩ (c_X12_adds  h13) (Nat.le_of_ble_eq_true rfl) dX12_convert_26 ?_
    refine r_aload_n (pc := 29) X dX12_convert_29 rfl ?_
    refine r_iconst (pc := 30) X (v := 4) dX12_convert_30 (by decide) ?_
    refine bndE h (fun r14 M15 h16 h => ?_)
    refine r_callVi1 (pc := 31) X ⟨(ltb rfl), (ltb rfl)⟩ rfl vy_X12_its my_X12_its ml_X12_155 ⟨Nat.le_of_ble_eq_true rfl, Nat.le_of_ble_eq_true rfl, Nat.le_of_ble_eq_true rfl, Nat.le_of_ble_eq_true rfl⟩ (c_X12_its  h16) (Nat.le_of_ble_eq_true rfl) dX12_convert_31 ?_
    refine r_if_ne (pc := 34) X (tgt := 52) dX12_convert_34 (by decide) h (fun h => ?_) (fun h => ?_)
    · exact T_sub (t_X12_convert_52 X hr h) ⟨rfl, rfl, rfl, trivial⟩
    · refine r_aload_n (pc := 37) X dX12_convert_37 rfl ?_
      refine r_iconst (pc := 38) X (v := 5) dX12_convert_38 (by decide) ?_
      refine r_aload_n (pc := 39) X dX12_convert_39 rfl ?_
      refine r_iload_n (pc := 40) X dX12_convert_40 rfl ?_
      refine r_aload_n (pc := 41) X dX12_convert_41 rfl ?_
      refine r_iconst (pc := 42) X (v := 0) dX12_convert_42 (by decide) ?_
      refine bndE h (fun r17 M18 h19 h => ?_)
      refine r_callVi1 (pc := 43) X ⟨(ltb rfl), (ltb rfl)⟩ rfl vy_X12_its my_X12_its ml_X12_155 ⟨Nat.le_of_ble_eq_true rfl, Nat.le_of_ble_eq_true rfl, Nat.le_of_ble_eq_true rfl, Nat.le_of_ble_eq_true rfl⟩ (c_X12_its  h19) (Nat.le_of_ble_eq_true rfl) dX12_convert_43 ?_
      refine bndE h (fun r20 M21 h22 h => ?_)
      refine r_callVi2 (pc := 46) X ⟨(ltb rfl), (ltb rfl)⟩ rfl vy_X12_signalOf my_X12_signalOf ml_X12_217 ⟨Nat.le_of_ble_eq_true rfl, Nat.le_of_ble_eq_true rfl, Nat.le_of_ble_eq_true rfl, Nat.le_of_ble_eq_true rfl⟩ (c_X12_signalOf  h22) (Nat.le_of_ble_eq_true rfl) dX12_convert_46 ?_
      refine bndE h (fun r23 M24 h25 h => ?_)
      refine r_callVv2 (pc := 49) X ⟨(ltb rfl), (ltb rfl)⟩ rfl vy_X12_puts my_X12_puts ml_X12_39 ⟨Nat.le_of_ble_eq_true rfl, Nat.le_of_ble_eq_true rfl, Nat.le_of_ble_eq_true rfl, Nat.le_of_ble_eq_true rfl⟩ (c_X12_puts  h25) (Nat.le_of_ble_eq_true rfl) dX12_convert_49 ?_
      exact T_sub (t_X12_convert_52 X hr h) ⟨rfl, rfl, rfl, trivial⟩
  · cases h
    exact r_vret (pc := 8) X hr dX12_convert_8
theorem c_X12_convert {G : GG} {l : Launch} {r : Unit} {M M' : Mem}  (h : f_X12_convert  M = some (r, M')) : Met l yX12_convert (wsO yX12_convert cX12_convert 3 none) (rmO 5) (PcO G [.ref (G.2.1 (10, 0, 0))] M) (QvO G (AA G) M') 0 0 (AA G) :=
  met_of (own := RX12) rfl (by decide +kernel) (Nat.le_of_ble_eq_true rfl) (fun p e s m args below meth c X hr => t_X12_convert X hr  h)
-- ConverterScannerModel.passCycle
def f_X12_passCycle  (M : Mem) : Option (Unit × Mem) :=
  bnd (f_X12_fireTimers  M) (fun r1 M2 => bnd (f_X12_startConversion  M2) (fun r4 M5 => bnd (f_X12_convert  M5) (fun r7 M8 => bnd (f_X12_transfer  M8) (fun r10 M11 => bnd (f_X12_adds 0 1 M11) (fun r13 M14 => some ((), M14))))))
set_option maxHeartbeats 4000000 in
set_option maxRecDepth 100000 in
theorem t_X12_passCycle {G : GG} {A : Nat → Prop} {p : Program} {l : Launch} {e : Env} {s : State} {m : MethodId} {args : Array Value} {below : List Frame} {meth : Method} {c : Code} {r : Unit} {M' : Mem} (X : Cx G A p s m args meth c RX12 cX12_passCycle 1) (hr : meth.sig.returnType = none) {M : Mem}  (h : f_X12_passCycle M = some (r, M')) : T G A p l e (rmO 6) s m args below meth c 1 0 0 (MQ below (QvO G A M') args s 0 0 A) 0 [(0, .ref (G.2.1 (10, 0, 0)))] [] M := by
  unfold f_X12_passCycle at h
  refine r_aload_n (pc := 0) X dX12_passCycle_0 rfl ?_
  refine bndE h (fun r1 M2 h3 h => ?_)
  refine r_callVv0 (pc := 1) X ⟨(ltb rfl), (ltb rfl)⟩ rfl vy_X12_fireTimers my_X12_fireTimers ml_X12_223 ⟨Nat.le_of_ble_eq_true rfl, Nat.le_of_ble_eq_true rfl, Nat.le_of_ble_eq_true rfl, Nat.le_of_ble_eq_true rfl⟩ (c_X12_fireTimers  h3) (Nat.le_of_ble_eq_true rfl) dX12_passCycle_1 ?_
  refine r_aload_n (pc := 4) X dX12_passCycle_4 rfl ?_
  refine bndE h (fun r4 M5 h6 h => ?_)
  refine r_callVv0 (pc := 5) X ⟨(ltb rfl), (ltb rfl)⟩ rfl vy_X12_startConversion my_X12_startConversion ml_X12_226 ⟨Nat.le_of_ble_eq_true rfl, Nat.le_of_ble_eq_true rfl, Nat.le_of_ble_eq_true rfl, Nat.le_of_ble_eq_true rfl⟩ (c_X12_startConversion  h6) (Nat.le_of_ble_eq_true rfl) dX12_passCycle_5 ?_
  refine r_aload_n (pc := 8) X dX12_passCycle_8 rfl ?_
  refine bndE h (fun r7 M8 h9 h => ?_)
  refine r_callVv0 (pc := 9) X ⟨(ltb rfl), (ltb rfl)⟩ rfl vy_X12_convert my_X12_convert ml_X12_229 ⟨Nat.le_of_ble_eq_true rfl, Nat.le_of_ble_eq_true rfl, Nat.le_of_ble_eq_true rfl, Nat.le_of_ble_eq_true rfl⟩ (c_X12_convert  h9) (Nat.le_of_ble_eq_true rfl) dX12_passCycle_9 ?_
  refine r_aload_n (pc := 12) X dX12_passCycle_12 rfl ?_
  refine bndE h (fun r10 M11 h12 h => ?_)
  refine r_callVv0 (pc := 13) X ⟨(ltb rfl), (ltb rfl)⟩ rfl vy_X12_transfer my_X12_transfer ml_X12_232 ⟨Nat.le_of_ble_eq_true rfl, Nat.le_of_ble_eq_true rfl, Nat.le_of_ble_eq_true rfl, Nat.le_of_ble_eq_true rfl⟩ (c_X12_transfer  h12) (Nat.le_of_ble_eq_true rfl) dX12_passCycle_13 ?_
  refine r_aload_n (pc := 16) X dX12_passCycle_16 rfl ?_
  refine r_iconst (pc := 17) X (v := 0) dX12_passCycle_17 (by decide) ?_
  refine r_iconst (pc := 18) X (v := 1) dX12_passCycle_18 (by decide) ?_
  refine bndE h (fun r13 M14 h15 h => ?_)
  refine r_callVv2 (pc := 19) X ⟨(ltb rfl), (ltb rfl)⟩ rfl vy_X12_adds my_X12_adds ml_X12_162 ⟨Nat.le_of_ble_eq_true rfl, Nat.le_of_ble_eq_true rfl, Nat.le_of_ble_eq_true rfl, Nat.le_of_ble_eq_true rfl⟩ (c_X12_adds  h15) (Nat.le_of_ble_eq_true rfl) dX12_passCycle_19 ?_
  cases h
  exact r_vret (pc := 22) X hr dX12_passCycle_22
theorem c_X12_passCycle {G : GG} {l : Launch} {r : Unit} {M M' : Mem}  (h : f_X12_passCycle  M = some (r, M')) : Met l yX12_passCycle (wsO yX12_passCycle cX12_passCycle 1 none) (rmO 6) (PcO G [.ref (G.2.1 (10, 0, 0))] M) (QvO G (AA G) M') 0 0 (AA G) :=
  met_of (own := RX12) rfl (by decide +kernel) (Nat.le_of_ble_eq_true rfl) (fun p e s m args below meth c X hr => t_X12_passCycle X hr  h)
-- ConverterScannerModel.run
def f_X12_run_36 : Nat → Int32 → Int32 → Int32 → Mem → Option (Int32 × Mem)
  | 0 => fun _ _ _ _ => none
  | n + 1 => fun x1 x2 x3 M => if x1 ≤ x3 then bnd (f_X12_its 13 M) (fun r1 M2 => some ((r1 - x2), M2)) else bnd (f_X12_passCycle  M) (fun r4 M5 => nm (x3 + 1) (fun e7 => (f_X12_run_36 n) x1 x2 e7 M5))
set_option maxHeartbeats 4000000 in
set_option maxRecDepth 100000 in
theorem t_X12_run_36 {G : GG} {A : Nat → Prop} {p : Program} {l : Launch} {e : Env} {s : State} {m : MethodId} {args : Array Value} {below : List Frame} {meth : Method} {c : Code} {r : Int32} {M' : Mem} (X : Cx G A p s m args meth c RX12 cX12_run 4) (hr : meth.sig.returnType = some .int) : ∀ (n : Nat) (x1 : Int32) (x2 : Int32) (x3 : Int32) (M : Mem), f_X12_run_36 n x1 x2 x3 M = some (r, M') → T G A p l e (rmO 7) s m args below meth c 4 0 0 (MQ below (QiO G A r M') args s 0 0 A) 36 [(0, .ref (G.2.1 (10, 0, 0))), (1, .int x1), (2, .int x2), (3, .int x3)] [] M := by
  intro n
  induction n with
  | zero =>
    intro x1 x2 x3 M  h
    cases h
  | succ n ih =>
    intro x1 x2 x3 M  h
    unfold f_X12_run_36 at h
    refine r_iload_n (pc := 36) X dX12_run_36 rfl ?_
    refine r_iload_n (pc := 37) X dX12_run_37 rfl ?_
    refine r_icmp_ge (pc := 38) X (tgt := 51) dX12_run_38 (by decide) h (fun h => ?_) (fun h => ?_)
    · refine r_aload_n (pc := 51) X dX12_run_51 rfl ?_
      refine r_bipush (pc := 52) X (v := 13) dX12_run_52 (by decide) ?_
      refine bndE h (fun r1 M2 h3 h => ?_)
      refine r_callVi1 (pc := 54) X ⟨(ltb rfl), (ltb rfl)⟩ rfl vy_X12_its my_X12_its ml_X12_155 ⟨Nat.le_of_ble_eq_true rfl, Nat.le_of_ble_eq_true rfl, Nat.le_of_ble_eq_true rfl, Nat.le_of_ble_eq_true rfl⟩ (c_X12_its  h3) (Nat.le_of_ble_eq_true rfl) dX12_run_54 ?_
      refine r_iload_n (pc := 57) X dX12_run_57 rfl ?_
      refine r_isub (pc := 58) X dX12_run_58 ?_
      cases h
      exact r_iret (pc := 59) X hr dX12_run_59
    · refine r_aload_n (pc := 41) X dX12_run_41 rfl ?_
      refine bndE h (fun r4 M5 h6 h => ?_)
      refine r_callVv0 (pc := 42) X ⟨(ltb rfl), (ltb rfl)⟩ rfl vy_X12_passCycle my_X12_passCycle ml_X12_235 ⟨Nat.le_of_ble_eq_true rfl, Nat.le_of_ble_eq_true rfl, Nat.le_of_ble_eq_true rfl, Nat.le_of_ble_eq_true rfl⟩ (c_X12_passCycle  h6) (Nat.le_of_ble_eq_true rfl) dX12_run_42 ?_
      refine r_iincN (pc := 45) X (v0 := 1) rfl (by decide) (by decide) dX12_run_45 h (fun e7 h => ?_)
      refine r_goto (pc := 48) X (tgt := 36) dX12_run_48 (by decide) ?_
      exact T_sub (ih _ _ _ _ h) ⟨rfl, rfl, rfl, rfl, trivial⟩
def f_X12_run_17 (x1 : Int32) (xs0 : Int32) (M : Mem) : Option (Int32 × Mem) :=
  bnd (f_X12_fails xs0 0 0 M) (fun r1 M2 => if r1 = 0 then bnd (f_X12_its 13 M2) (fun r4 M5 => f_X12_run_36 fuelN x1 r4 0 M5) else some (0, M2))
set_option maxHeartbeats 4000000 in
set_option maxRecDepth 100000 in
theorem t_X12_run_17 {G : GG} {A : Nat → Prop} {p : Program} {l : Launch} {e : Env} {s : State} {m : MethodId} {args : Array Value} {below : List Frame} {meth : Method} {c : Code} {r : Int32} {M' : Mem} (X : Cx G A p s m args meth c RX12 cX12_run 4) (hr : meth.sig.returnType = some .int) {x1 : Int32} {xs0 : Int32} {M : Mem}  (h : f_X12_run_17 x1 xs0 M = some (r, M')) : T G A p l e (rmO 7) s m args below meth c 4 0 0 (MQ below (QiO G A r M') args s 0 0 A) 17 [(0, .ref (G.2.1 (10, 0, 0))), (1, .int x1)] [.int xs0, .ref (G.2.1 (10, 0, 0))] M := by
  unfold f_X12_run_17 at h
  refine r_iconst (pc := 17) X (v := 0) dX12_run_17 (by decide) ?_
  refine r_iconst (pc := 18) X (v := 0) dX12_run_18 (by decide) ?_
  refine bndE h (fun r1 M2 h3 h => ?_)
  refine r_callVi3 (pc := 19) X ⟨(ltb rfl), (ltb rfl)⟩ rfl vy_X12_fails my_X12_fails ml_X12_14 ⟨Nat.le_of_ble_eq_true rfl, Nat.le_of_ble_eq_true rfl, Nat.le_of_ble_eq_true rfl, Nat.le_of_ble_eq_true rfl⟩ (c_X12_fails  h3) (Nat.le_of_ble_eq_true rfl) dX12_run_19 ?_
  refine r_if_eq (pc := 22) X (tgt := 27) dX12_run_22 (by decide) h (fun h => ?_) (fun h => ?_)
  · refine r_aload_n (pc := 27) X dX12_run_27 rfl ?_
    refine r_bipush (pc := 28) X (v := 13) dX12_run_28 (by decide) ?_
    refine bndE h (fun r4 M5 h6 h => ?_)
    refine r_callVi1 (pc := 30) X ⟨(ltb rfl), (ltb rfl)⟩ rfl vy_X12_its my_X12_its ml_X12_155 ⟨Nat.le_of_ble_eq_true rfl, Nat.le_of_ble_eq_true rfl, Nat.le_of_ble_eq_true rfl, Nat.le_of_ble_eq_true rfl⟩ (c_X12_its  h6) (Nat.le_of_ble_eq_true rfl) dX12_run_30 ?_
    refine r_istore_n (pc := 33) X (by decide) dX12_run_33 ?_
    refine r_iconst (pc := 34) X (v := 0) dX12_run_34 (by decide) ?_
    refine r_istore_n (pc := 35) X (by decide) dX12_run_35 ?_
    exact T_sub (t_X12_run_36 X hr _ _ _ _ _ h) ⟨rfl, rfl, rfl, rfl, trivial⟩
  · refine r_iconst (pc := 25) X (v := 0) dX12_run_25 (by decide) ?_
    cases h
    exact r_iret (pc := 26) X hr dX12_run_26
def f_X12_run (x1 : Int32) (M : Mem) : Option (Int32 × Mem) :=
  bnd (f_X12_inRange x1 1 5000 M) (fun r1 M2 => if r1 = 0 then f_X12_run_17 x1 1 M2 else f_X12_run_17 x1 0 M2)
set_option maxHeartbeats 4000000 in
set_option maxRecDepth 100000 in
theorem t_X12_run {G : GG} {A : Nat → Prop} {p : Program} {l : Launch} {e : Env} {s : State} {m : MethodId} {args : Array Value} {below : List Frame} {meth : Method} {c : Code} {r : Int32} {M' : Mem} (X : Cx G A p s m args meth c RX12 cX12_run 4) (hr : meth.sig.returnType = some .int) {x1 : Int32} {M : Mem}  (h : f_X12_run x1 M = some (r, M')) : T G A p l e (rmO 7) s m args below meth c 4 0 0 (MQ below (QiO G A r M') args s 0 0 A) 0 [(0, .ref (G.2.1 (10, 0, 0))), (1, .int x1)] [] M := by
  unfold f_X12_run at h
  refine r_aload_n (pc := 0) X dX12_run_0 rfl ?_
  refine r_iload_n (pc := 1) X dX12_run_1 rfl ?_
  refine r_iconst (pc := 2) X (v := 1) dX12_run_2 (by decide) ?_
  refine r_sipush (pc := 3) X (v := 5000) dX12_run_3 (by decide) ?_
  refine bndE h (fun r1 M2 h3 h => ?_)
  refine r_callSi3 (pc := 6) X sy_X12_inRange my_X12_inRange ml_X12_22 ⟨Nat.le_of_ble_eq_true rfl, Nat.le_of_ble_eq_true rfl, Nat.le_of_ble_eq_true rfl, Nat.le_of_ble_eq_true rfl⟩ (c_X12_inRange  h3) (Nat.le_of_ble_eq_true rfl) dX12_run_6 ?_
  refine r_if_ne (pc := 9) X (tgt := 16) dX12_run_9 (by decide) h (fun h => ?_) (fun h => ?_)
  · refine r_iconst (pc := 16) X (v := 0) dX12_run_16 (by decide) ?_
    exact T_sub (t_X12_run_17 X hr h) ⟨rfl, rfl, trivial⟩
  · refine r_iconst (pc := 12) X (v := 1) dX12_run_12 (by decide) ?_
    refine r_goto (pc := 13) X (tgt := 17) dX12_run_13 (by decide) ?_
    exact T_sub (t_X12_run_17 X hr h) ⟨rfl, rfl, trivial⟩
theorem c_X12_run {G : GG} {l : Launch} {x1 : Int32} {r : Int32} {M M' : Mem}  (h : f_X12_run x1 M = some (r, M')) : Met l yX12_run (wsO yX12_run cX12_run 4 (some .int)) (rmO 7) (PcO G [.ref (G.2.1 (10, 0, 0)), .int x1] M) (QiO G (AA G) r M') 0 0 (AA G) :=
  met_of (own := RX12) rfl (by decide +kernel) (Nat.le_of_ble_eq_true rfl) (fun p e s m args below meth c X hr => t_X12_run X hr  h)
-- ConverterScannerModel.isTrigger
def f_X12_isTrigger (x1 : Int32) (M : Mem) : Option (Int32 × Mem) :=
  bnd (f_X12_inRange x1 0 3 M) (fun r1 M2 => if ¬ (r1 = 0 ∨ r1 = 1) then none else some (r1, M2))
set_option maxHeartbeats 4000000 in
set_option maxRecDepth 100000 in
theorem t_X12_isTrigger {G : GG} {A : Nat → Prop} {p : Program} {l : Launch} {e : Env} {s : State} {m : MethodId} {args : Array Value} {below : List Frame} {meth : Method} {c : Code} {r : Int32} {M' : Mem} (X : Cx G A p s m args meth c RX12 cX12_isTrigger 2) (hr : meth.sig.returnType = some .boolean) {x1 : Int32} {M : Mem}  (h : f_X12_isTrigger x1 M = some (r, M')) : T G A p l e (rmO 1) s m args below meth c 2 0 0 (MQ below (QiO G A r M') args s 0 0 A) 0 [(0, .ref (G.2.1 (10, 0, 0))), (1, .int x1)] [] M := by
  unfold f_X12_isTrigger at h
  refine r_iload_n (pc := 0) X dX12_isTrigger_0 rfl ?_
  refine r_iconst (pc := 1) X (v := 0) dX12_isTrigger_1 (by decide) ?_
  refine r_iconst (pc := 2) X (v := 3) dX12_isTrigger_2 (by decide) ?_
  refine bndE h (fun r1 M2 h3 h => ?_)
  refine r_callSi3 (pc := 3) X sy_X12_inRange my_X12_inRange ml_X12_22 ⟨Nat.le_of_ble_eq_true rfl, Nat.le_of_ble_eq_true rfl, Nat.le_of_ble_eq_true rfl, Nat.le_of_ble_eq_true rfl⟩ (c_X12_inRange  h3) (Nat.le_of_ble_eq_true rfl) dX12_isTrigger_3 ?_
  exact r_zret (pc := 6) X hr dX12_isTrigger_6 h
theorem c_X12_isTrigger {G : GG} {l : Launch} {x1 : Int32} {r : Int32} {M M' : Mem}  (h : f_X12_isTrigger x1 M = some (r, M')) : Met l yX12_isTrigger (wsO yX12_isTrigger cX12_isTrigger 2 (some .boolean)) (rmO 1) (PcO G [.ref (G.2.1 (10, 0, 0)), .int x1] M) (QiO G (AA G) r M') 0 0 (AA G) :=
  met_of (own := RX12) rfl (by decide +kernel) (Nat.le_of_ble_eq_true rfl) (fun p e s m args below meth c X hr => t_X12_isTrigger X hr  h)
-- ConverterScannerModel.fire
def f_X12_fire_14 (x1 : Int32) (xs0 : Int32) (M : Mem) : Option (Int32 × Mem) :=
  bnd (f_X12_fails xs0 0 0 M) (fun r1 M2 => if r1 = 0 then bnd (f_X12_fires x1 M2) (fun r4 M5 => if r4 = 0 then some (0, M5) else some (1, M5)) else some (0, M2))
set_option maxHeartbeats 4000000 in
set_option maxRecDepth 100000 in
theorem t_X12_fire_14 {G : GG} {A : Nat → Prop} {p : Program} {l : Launch} {e : Env} {s : State} {m : MethodId} {args : Array Value} {below : List Frame} {meth : Method} {c : Code} {r : Int32} {M' : Mem} (X : Cx G A p s m args meth c RX12 cX12_fire 2) (hr : meth.sig.returnType = some .int) {x1 : Int32} {xs0 : Int32} {M : Mem}  (h : f_X12_fire_14 x1 xs0 M = some (r, M')) : T G A p l e (rmO 4) s m args below meth c 2 0 0 (MQ below (QiO G A r M') args s 0 0 A) 14 [(0, .ref (G.2.1 (10, 0, 0))), (1, .int x1)] [.int xs0, .ref (G.2.1 (10, 0, 0))] M := by
  unfold f_X12_fire_14 at h
  refine r_iconst (pc := 14) X (v := 0) dX12_fire_14 (by decide) ?_
  refine r_iconst (pc := 15) X (v := 0) dX12_fire_15 (by decide) ?_
  refine bndE h (fun r1 M2 h3 h => ?_)
  refine r_callVi3 (pc := 16) X ⟨(ltb rfl), (ltb rfl)⟩ rfl vy_X12_fails my_X12_fails ml_X12_14 ⟨Nat.le_of_ble_eq_true rfl, Nat.le_of_ble_eq_true rfl, Nat.le_of_ble_eq_true rfl, Nat.le_of_ble_eq_true rfl⟩ (c_X12_fails  h3) (Nat.le_of_ble_eq_true rfl) dX12_fire_16 ?_
  refine r_if_eq (pc := 19) X (tgt := 24) dX12_fire_19 (by decide) h (fun h => ?_) (fun h => ?_)
  · refine r_aload_n (pc := 24) X dX12_fire_24 rfl ?_
    refine r_iload_n (pc := 25) X dX12_fire_25 rfl ?_
    refine bndE h (fun r4 M5 h6 h => ?_)
    refine r_callVi1 (pc := 26) X ⟨(ltb rfl), (ltb rfl)⟩ rfl vy_X12_fires my_X12_fires ml_X12_183 ⟨Nat.le_of_ble_eq_true rfl, Nat.le_of_ble_eq_true rfl, Nat.le_of_ble_eq_true rfl, Nat.le_of_ble_eq_true rfl⟩ (c_X12_fires  h6) (Nat.le_of_ble_eq_true rfl) dX12_fire_26 ?_
    refine r_if_eq (pc := 29) X (tgt := 36) dX12_fire_29 (by decide) h (fun h => ?_) (fun h => ?_)
    · refine r_iconst (pc := 36) X (v := 0) dX12_fire_36 (by decide) ?_
      cases h
      exact r_iret (pc := 37) X hr dX12_fire_37
    · refine r_iconst (pc := 32) X (v := 1) dX12_fire_32 (by decide) ?_
      refine r_goto (pc := 33) X (tgt := 37) dX12_fire_33 (by decide) ?_
      cases h
      exact r_iret (pc := 37) X hr dX12_fire_37
  · refine r_iconst (pc := 22) X (v := 0) dX12_fire_22 (by decide) ?_
    cases h
    exact r_iret (pc := 23) X hr dX12_fire_23
def f_X12_fire (x1 : Int32) (M : Mem) : Option (Int32 × Mem) :=
  bnd (f_X12_isTrigger x1 M) (fun r1 M2 => if r1 = 0 then f_X12_fire_14 x1 1 M2 else f_X12_fire_14 x1 0 M2)
set_option maxHeartbeats 4000000 in
set_option maxRecDepth 100000 in
theorem t_X12_fire {G : GG} {A : Nat → Prop} {p : Program} {l : Launch} {e : Env} {s : State} {m : MethodId} {args : Array Value} {below : List Frame} {meth : Method} {c : Code} {r : Int32} {M' : Mem} (X : Cx G A p s m args meth c RX12 cX12_fire 2) (hr : meth.sig.returnType = some .int) {x1 : Int32} {M : Mem}  (h : f_X12_fire x1 M = some (r, M')) : T G A p l e (rmO 4) s m args below meth c 2 0 0 (MQ below (QiO G A r M') args s 0 0 A) 0 [(0, .ref (G.2.1 (10, 0, 0))), (1, .int x1)] [] M := by
  unfold f_X12_fire at h
  refine r_aload_n (pc := 0) X dX12_fire_0 rfl ?_
  refine r_aload_n (pc := 1) X dX12_fire_1 rfl ?_
  refine r_iload_n (pc := 2) X dX12_fire_2 rfl ?_
  refine bndE h (fun r1 M2 h3 h => ?_)
  refine r_callVi1 (pc := 3) X ⟨(ltb rfl), (ltb rfl)⟩ rfl vy_X12_isTrigger my_X12_isTrigger ml_X12_238 ⟨Nat.le_of_ble_eq_true rfl, Nat.le_of_ble_eq_true rfl, Nat.le_of_ble_eq_true rfl, Nat.le_of_ble_eq_true rfl⟩ (c_X12_isTrigger  h3) (Nat.le_of_ble_eq_true rfl) dX12_fire_3 ?_
  refine r_if_ne (pc := 6) X (tgt := 13) dX12_fire_6 (by decide) h (fun h => ?_) (fun h => ?_)
  · refine r_iconst (pc := 13) X (v := 0) dX12_fire_13 (by decide) ?_
    exact T_sub (t_X12_fire_14 X hr h) ⟨rfl, rfl, trivial⟩
  · refine r_iconst (pc := 9) X (v := 1) dX12_fire_9 (by decide) ?_
    refine r_goto (pc := 10) X (tgt := 14) dX12_fire_10 (by decide) ?_
    exact T_sub (t_X12_fire_14 X hr h) ⟨rfl, rfl, trivial⟩
theorem c_X12_fire {G : GG} {l : Launch} {x1 : Int32} {r : Int32} {M M' : Mem}  (h : f_X12_fire x1 M = some (r, M')) : Met l yX12_fire (wsO yX12_fire cX12_fire 2 (some .int)) (rmO 4) (PcO G [.ref (G.2.1 (10, 0, 0)), .int x1] M) (QiO G (AA G) r M') 0 0 (AA G) :=
  met_of (own := RX12) rfl (by decide +kernel) (Nat.le_of_ble_eq_true rfl) (fun p e s m args below meth c X hr => t_X12_fire X hr  h)
-- ConverterScannerModel.stop
def f_X12_stop_28 (x1 : Int32) (M : Mem) : Option (Int32 × Mem) :=
  bnd (f_X12_idle 0 M) (fun r1 M2 => bnd (f_X12_seq 0 1 M2) (fun r4 M5 => bnd (f_X12_puts r4 0 M5) (fun r7 M8 => bnd (f_X12_clearResult 0 M8) (fun r10 M11 => some (x1, M11)))))
set_option maxHeartbeats 4000000 in
set_option maxRecDepth 100000 in
theorem t_X12_stop_28 {G : GG} {A : Nat → Prop} {p : Program} {l : Launch} {e : Env} {s : State} {m : MethodId} {args : Array Value} {below : List Frame} {meth : Method} {c : Code} {r : Int32} {M' : Mem} (X : Cx G A p s m args meth c RX12 cX12_stop 2) (hr : meth.sig.returnType = some .int) {x1 : Int32} {M : Mem}  (h : f_X12_stop_28 x1 M = some (r, M')) : T G A p l e (rmO 2) s m args below meth c 2 0 0 (MQ below (QiO G A r M') args s 0 0 A) 28 [(0, .ref (G.2.1 (10, 0, 0))), (1, .int x1)] [] M := by
  unfold f_X12_stop_28 at h
  refine r_aload_n (pc := 28) X dX12_stop_28 rfl ?_
  refine r_iconst (pc := 29) X (v := 0) dX12_stop_29 (by decide) ?_
  refine bndE h (fun r1 M2 h3 h => ?_)
  refine r_callVv1 (pc := 30) X ⟨(ltb rfl), (ltb rfl)⟩ rfl vy_X12_idle my_X12_idle ml_X12_197 ⟨Nat.le_of_ble_eq_true rfl, Nat.le_of_ble_eq_true rfl, Nat.le_of_ble_eq_true rfl, Nat.le_of_ble_eq_true rfl⟩ (c_X12_idle  h3) (Nat.le_of_ble_eq_true rfl) dX12_stop_30 ?_
  refine r_aload_n (pc := 33) X dX12_stop_33 rfl ?_
  refine r_iconst (pc := 34) X (v := 0) dX12_stop_34 (by decide) ?_
  refine r_iconst (pc := 35) X (v := 1) dX12_stop_35 (by decide) ?_
  refine bndE h (fun r4 M5 h6 h => ?_)
  refine r_callSi2 (pc := 36) X sy_X12_seq my_X12_seq ml_X12_43 ⟨Nat.le_of_ble_eq_true rfl, Nat.le_of_ble_eq_true rfl, Nat.le_of_ble_eq_true rfl, Nat.le_of_ble_eq_true rfl⟩ (c_X12_seq  h6) (Nat.le_of_ble_eq_true rfl) dX12_stop_36 ?_
  refine r_iconst (pc := 39) X (v := 0) dX12_stop_39 (by decide) ?_
  refine bndE h (fun r7 M8 h9 h => ?_)
  refine r_callVv2 (pc := 40) X ⟨(ltb rfl), (ltb rfl)⟩ rfl vy_X12_puts my_X12_puts ml_X12_39 ⟨Nat.le_of_ble_eq_true rfl, Nat.le_of_ble_eq_true rfl, Nat.le_of_ble_eq_true rfl, Nat.le_of_ble_eq_true rfl⟩ (c_X12_puts  h9) (Nat.le_of_ble_eq_true rfl) dX12_stop_40 ?_
  refine r_aload_n (pc := 43) X dX12_stop_43 rfl ?_
  refine r_iconst (pc := 44) X (v := 0) dX12_stop_44 (by decide) ?_
  refine bndE h (fun r10 M11 h12 h => ?_)
  refine r_callVv1 (pc := 45) X ⟨(ltb rfl), (ltb rfl)⟩ rfl vy_X12_clearResult my_X12_clearResult ml_X12_174 ⟨Nat.le_of_ble_eq_true rfl, Nat.le_of_ble_eq_true rfl, Nat.le_of_ble_eq_true rfl, Nat.le_of_ble_eq_true rfl⟩ (c_X12_clearResult  h12) (Nat.le_of_ble_eq_true rfl) dX12_stop_45 ?_
  refine r_iload_n (pc := 48) X dX12_stop_48 rfl ?_
  cases h
  exact r_iret (pc := 49) X hr dX12_stop_49
def f_X12_stop  (M : Mem) : Option (Int32 × Mem) :=
  nm (uI M (10, 0, 0) 0 0) (fun M1 => bnd (f_X12_seq 0 0 M1) (fun r2 M3 => bnd (f_X12_its r2 M3) (fun r5 M6 => bnd (f_X12_its 1 M6) (fun r8 M9 => if r8 = 1 then bnd (f_X12_breakOff  M9) (fun r11 M12 => f_X12_stop_28 r5 M12) else f_X12_stop_28 r5 M9))))
set_option maxHeartbeats 4000000 in
set_option maxRecDepth 100000 in
theorem t_X12_stop {G : GG} {A : Nat → Prop} {p : Program} {l : Launch} {e : Env} {s : State} {m : MethodId} {args : Array Value} {below : List Frame} {meth : Method} {c : Code} {r : Int32} {M' : Mem} (X : Cx G A p s m args meth c RX12 cX12_stop 2) (hr : meth.sig.returnType = some .int) {M : Mem}  (h : f_X12_stop M = some (r, M')) : T G A p l e (rmO 2) s m args below meth c 2 0 0 (MQ below (QiO G A r M') args s 0 0 A) 0 [(0, .ref (G.2.1 (10, 0, 0)))] [] M := by
  unfold f_X12_stop at h
  refine r_aload_n (pc := 0) X dX12_stop_0 rfl ?_
  refine r_iconst (pc := 1) X (v := 0) dX12_stop_1 (by decide) ?_
  refine r_putIN (pc := 2) X ⟨(ltb rfl), (ltb rfl)⟩ fp_X12_1 rfl dX12_stop_2 h (fun M1 h => ?_)
  refine r_aload_n (pc := 5) X dX12_stop_5 rfl ?_
  refine r_iconst (pc := 6) X (v := 0) dX12_stop_6 (by decide) ?_
  refine r_iconst (pc := 7) X (v := 0) dX12_stop_7 (by decide) ?_
  refine bndE h (fun r2 M3 h4 h => ?_)
  refine r_callSi2 (pc := 8) X sy_X12_seq my_X12_seq ml_X12_43 ⟨Nat.le_of_ble_eq_true rfl, Nat.le_of_ble_eq_true rfl, Nat.le_of_ble_eq_true rfl, Nat.le_of_ble_eq_true rfl⟩ (c_X12_seq  h4) (Nat.le_of_ble_eq_true rfl) dX12_stop_8 ?_
  refine bndE h (fun r5 M6 h7 h => ?_)
  refine r_callVi1 (pc := 11) X ⟨(ltb rfl), (ltb rfl)⟩ rfl vy_X12_its my_X12_its ml_X12_155 ⟨Nat.le_of_ble_eq_true rfl, Nat.le_of_ble_eq_true rfl, Nat.le_of_ble_eq_true rfl, Nat.le_of_ble_eq_true rfl⟩ (c_X12_its  h7) (Nat.le_of_ble_eq_true rfl) dX12_stop_11 ?_
  refine r_istore_n (pc := 14) X (by decide) dX12_stop_14 ?_
  refine r_aload_n (pc := 15) X dX12_stop_15 rfl ?_
  refine r_iconst (pc := 16) X (v := 1) dX12_stop_16 (by decide) ?_
  refine bndE h (fun r8 M9 h10 h => ?_)
  refine r_callVi1 (pc := 17) X ⟨(ltb rfl), (ltb rfl)⟩ rfl vy_X12_its my_X12_its ml_X12_155 ⟨Nat.le_of_ble_eq_true rfl, Nat.le_of_ble_eq_true rfl, Nat.le_of_ble_eq_true rfl, Nat.le_of_ble_eq_true rfl⟩ (c_X12_its  h10) (Nat.le_of_ble_eq_true rfl) dX12_stop_17 ?_
  refine r_iconst (pc := 20) X (v := 1) dX12_stop_20 (by decide) ?_
  refine r_icmp_ne (pc := 21) X (tgt := 28) dX12_stop_21 (by decide) h (fun h => ?_) (fun h => ?_)
  · exact T_sub (t_X12_stop_28 X hr h) ⟨rfl, rfl, trivial⟩
  · refine r_aload_n (pc := 24) X dX12_stop_24 rfl ?_
    refine bndE h (fun r11 M12 h13 h => ?_)
    refine r_callVv0 (pc := 25) X ⟨(ltb rfl), (ltb rfl)⟩ rfl vy_X12_breakOff my_X12_breakOff ml_X12_171 ⟨Nat.le_of_ble_eq_true rfl, Nat.le_of_ble_eq_true rfl, Nat.le_of_ble_eq_true rfl, Nat.le_of_ble_eq_true rfl⟩ (c_X12_breakOff  h13) (Nat.le_of_ble_eq_true rfl) dX12_stop_25 ?_
    exact T_sub (t_X12_stop_28 X hr h) ⟨rfl, rfl, trivial⟩
theorem c_X12_stop {G : GG} {l : Launch} {r : Int32} {M M' : Mem}  (h : f_X12_stop  M = some (r, M')) : Met l yX12_stop (wsO yX12_stop cX12_stop 2 (some .int)) (rmO 2) (PcO G [.ref (G.2.1 (10, 0, 0))] M) (QiO G (AA G) r M') 0 0 (AA G) :=
  met_of (own := RX12) rfl (by decide +kernel) (Nat.le_of_ble_eq_true rfl) (fun p e s m args below meth c X hr => t_X12_stop X hr  h)
-- ConverterScannerModel.take
def f_X12_take_15 (xs0 : Int32) (M : Mem) : Option (Int32 × Mem) :=
  bnd (f_X12_fails xs0 0 0 M) (fun r1 M2 => if r1 = 0 then bnd (f_X12_its 155 M2) (fun r4 M5 => bnd (f_X12_dropOldest  M5) (fun r7 M8 => some (r4, M8))) else some (0, M2))
set_option maxHeartbeats 4000000 in
set_option maxRecDepth 100000 in
theorem t_X12_take_15 {G : GG} {A : Nat → Prop} {p : Program} {l : Launch} {e : Env} {s : State} {m : MethodId} {args : Array Value} {below : List Frame} {meth : Method} {c : Code} {r : Int32} {M' : Mem} (X : Cx G A p s m args meth c RX12 cX12_take 2) (hr : meth.sig.returnType = some .int) {xs0 : Int32} {M : Mem}  (h : f_X12_take_15 xs0 M = some (r, M')) : T G A p l e (rmO 2) s m args below meth c 2 0 0 (MQ below (QiO G A r M') args s 0 0 A) 15 [(0, .ref (G.2.1 (10, 0, 0)))] [.int xs0, .ref (G.2.1 (10, 0, 0))] M := by
  unfold f_X12_take_15 at h
  refine r_iconst (pc := 15) X (v := 0) dX12_take_15 (by decide) ?_
  refine r_iconst (pc := 16) X (v := 0) dX12_take_16 (by decide) ?_
  refine bndE h (fun r1 M2 h3 h => ?_)
  refine r_callVi3 (pc := 17) X ⟨(ltb rfl), (ltb rfl)⟩ rfl vy_X12_fails my_X12_fails ml_X12_14 ⟨Nat.le_of_ble_eq_true rfl, Nat.le_of_ble_eq_true rfl, Nat.le_of_ble_eq_true rfl, Nat.le_of_ble_eq_true rfl⟩ (c_X12_fails  h3) (Nat.le_of_ble_eq_true rfl) dX12_take_17 ?_
  refine r_if_eq (pc := 20) X (tgt := 25) dX12_take_20 (by decide) h (fun h => ?_) (fun h => ?_)
  · refine r_aload_n (pc := 25) X dX12_take_25 rfl ?_
    refine r_sipush (pc := 26) X (v := 155) dX12_take_26 (by decide) ?_
    refine bndE h (fun r4 M5 h6 h => ?_)
    refine r_callVi1 (pc := 29) X ⟨(ltb rfl), (ltb rfl)⟩ rfl vy_X12_its my_X12_its ml_X12_155 ⟨Nat.le_of_ble_eq_true rfl, Nat.le_of_ble_eq_true rfl, Nat.le_of_ble_eq_true rfl, Nat.le_of_ble_eq_true rfl⟩ (c_X12_its  h6) (Nat.le_of_ble_eq_true rfl) dX12_take_29 ?_
    refine r_istore_n (pc := 32) X (by decide) dX12_take_32 ?_
    refine r_aload_n (pc := 33) X dX12_take_33 rfl ?_
    refine bndE h (fun r7 M8 h9 h => ?_)
    refine r_callVv0 (pc := 34) X ⟨(ltb rfl), (ltb rfl)⟩ rfl vy_X12_dropOldest my_X12_dropOldest ml_X12_190 ⟨Nat.le_of_ble_eq_true rfl, Nat.le_of_ble_eq_true rfl, Nat.le_of_ble_eq_true rfl, Nat.le_of_ble_eq_true rfl⟩ (c_X12_dropOldest  h9) (Nat.le_of_ble_eq_true rfl) dX12_take_34 ?_
    refine r_iload_n (pc := 37) X dX12_take_37 rfl ?_
    cases h
    exact r_iret (pc := 38) X hr dX12_take_38
  · refine r_iconst (pc := 23) X (v := 0) dX12_take_23 (by decide) ?_
    cases h
    exact r_iret (pc := 24) X hr dX12_take_24
def f_X12_take  (M : Mem) : Option (Int32 × Mem) :=
  bnd (f_X12_its 11 M) (fun r1 M2 => if r1 = 0 then f_X12_take_15 1 M2 else f_X12_take_15 0 M2)
set_option maxHeartbeats 4000000 in
set_option maxRecDepth 100000 in
theorem t_X12_take {G : GG} {A : Nat → Prop} {p : Program} {l : Launch} {e : Env} {s : State} {m : MethodId} {args : Array Value} {below : List Frame} {meth : Method} {c : Code} {r : Int32} {M' : Mem} (X : Cx G A p s m args meth c RX12 cX12_take 2) (hr : meth.sig.returnType = some .int) {M : Mem}  (h : f_X12_take M = some (r, M')) : T G A p l e (rmO 2) s m args below meth c 2 0 0 (MQ below (QiO G A r M') args s 0 0 A) 0 [(0, .ref (G.2.1 (10, 0, 0)))] [] M := by
  unfold f_X12_take at h
  refine r_aload_n (pc := 0) X dX12_take_0 rfl ?_
  refine r_aload_n (pc := 1) X dX12_take_1 rfl ?_
  refine r_bipush (pc := 2) X (v := 11) dX12_take_2 (by decide) ?_
  refine bndE h (fun r1 M2 h3 h => ?_)
  refine r_callVi1 (pc := 4) X ⟨(ltb rfl), (ltb rfl)⟩ rfl vy_X12_its my_X12_its ml_X12_155 ⟨Nat.le_of_ble_eq_true rfl, Nat.le_of_ble_eq_true rfl, Nat.le_of_ble_eq_true rfl, Nat.le_of_ble_eq_true rfl⟩ (c_X12_its  h3) (Nat.le_of_ble_eq_true rfl) dX12_take_4 ?_
  refine r_if_ne (pc := 7) X (tgt := 14) dX12_take_7 (by decide) h (fun h => ?_) (fun h => ?_)
  · refine r_iconst (pc := 14) X (v := 0) dX12_take_14 (by decide) ?_
    exact T_sub (t_X12_take_15 X hr h) ⟨rfl, trivial⟩
  · refine r_iconst (pc := 10) X (v := 1) dX12_take_10 (by decide) ?_
    refine r_goto (pc := 11) X (tgt := 15) dX12_take_11 (by decide) ?_
    exact T_sub (t_X12_take_15 X hr h) ⟨rfl, trivial⟩
theorem c_X12_take {G : GG} {l : Launch} {r : Int32} {M M' : Mem}  (h : f_X12_take  M = some (r, M')) : Met l yX12_take (wsO yX12_take cX12_take 2 (some .int)) (rmO 2) (PcO G [.ref (G.2.1 (10, 0, 0))] M) (QiO G (AA G) r M') 0 0 (AA G) :=
  met_of (own := RX12) rfl (by decide +kernel) (Nat.le_of_ble_eq_true rfl) (fun p e s m args below meth c X hr => t_X12_take X hr  h)
-- ConverterScannerModel.isWindow
def f_X12_isWindow_26  (M : Mem) : Option (Int32 × Mem) :=
  some (0, M)
set_option maxHeartbeats 4000000 in
set_option maxRecDepth 100000 in
theorem t_X12_isWindow_26 {G : GG} {A : Nat → Prop} {p : Program} {l : Launch} {e : Env} {s : State} {m : MethodId} {args : Array Value} {below : List Frame} {meth : Method} {c : Code} {r : Int32} {M' : Mem} (X : Cx G A p s m args meth c RX12 cX12_isWindow 2) (hr : meth.sig.returnType = some .boolean) {M : Mem}  (h : f_X12_isWindow_26 M = some (r, M')) : T G A p l e (rmO 1) s m args below meth c 2 0 0 (MQ below (QiO G A r M') args s 0 0 A) 26 [] [] M := by
  unfold f_X12_isWindow_26 at h
  refine r_iconst (pc := 26) X (v := 0) dX12_isWindow_26 (by decide) ?_
  cases h
  exact r_zretc (pc := 27) X hr (by decide +kernel) dX12_isWindow_27
def f_X12_isWindow (x1 : Int32) (M : Mem) : Option (Int32 × Mem) :=
  bnd (f_X12_inRange x1 0 2 M) (fun r1 M2 => if r1 = 0 then f_X12_isWindow_26  M2 else if bad (48 + x1) 104 then none else if (M2.1 (31, 0, 0) (Int32.toNatClampNeg (48 + x1))) = 1 then some (1, M2) else f_X12_isWindow_26  M2)
set_option maxHeartbeats 4000000 in
set_option maxRecDepth 100000 in
theorem t_X12_isWindow {G : GG} {A : Nat → Prop} {p : Program} {l : Launch} {e : Env} {s : State} {m : MethodId} {args : Array Value} {below : List Frame} {meth : Method} {c : Code} {r : Int32} {M' : Mem} (X : Cx G A p s m args meth c RX12 cX12_isWindow 2) (hr : meth.sig.returnType = some .boolean) {x1 : Int32} {M : Mem}  (h : f_X12_isWindow x1 M = some (r, M')) : T G A p l e (rmO 1) s m args below meth c 2 0 0 (MQ below (QiO G A r M') args s 0 0 A) 0 [(0, .ref (G.2.1 (10, 0, 0))), (1, .int x1)] [] M := by
  unfold f_X12_isWindow at h
  refine r_iload_n (pc := 0) X dX12_isWindow_0 rfl ?_
  refine r_iconst (pc := 1) X (v := 0) dX12_isWindow_1 (by decide) ?_
  refine r_iconst (pc := 2) X (v := 2) dX12_isWindow_2 (by decide) ?_
  refine bndE h (fun r1 M2 h3 h => ?_)
  refine r_callSi3 (pc := 3) X sy_X12_inRange my_X12_inRange ml_X12_22 ⟨Nat.le_of_ble_eq_true rfl, Nat.le_of_ble_eq_true rfl, Nat.le_of_ble_eq_true rfl, Nat.le_of_ble_eq_true rfl⟩ (c_X12_inRange  h3) (Nat.le_of_ble_eq_true rfl) dX12_isWindow_3 ?_
  refine r_if_eq (pc := 6) X (tgt := 26) dX12_isWindow_6 (by decide) h (fun h => ?_) (fun h => ?_)
  · exact T_sub (t_X12_isWindow_26 X hr h) trivial
  · refine r_aload_n (pc := 9) X dX12_isWindow_9 rfl ?_
    refine r_getR (q := (31, 0, 0)) (pc := 10) X ⟨(ltb rfl), (ltb rfl)⟩ fl_X12_26 rfl dX12_isWindow_10 ?_
    refine r_bipush (pc := 13) X (v := 48) dX12_isWindow_13 (by decide) ?_
    refine r_iload_n (pc := 15) X dX12_isWindow_15 rfl ?_
    refine r_iadd (pc := 16) X dX12_isWindow_16 ?_
    refine r_iald (pc := 17) X (n := 104) ⟨(ltb rfl), (ltb rfl)⟩ rfl (nlt rfl) dX12_isWindow_17 h (fun h => ?_)
    refine r_iconst (pc := 18) X (v := 1) dX12_isWindow_18 (by decide) ?_
    refine r_icmp_ne (pc := 19) X (tgt := 26) dX12_isWindow_19 (by decide) h (fun h => ?_) (fun h => ?_)
    · exact T_sub (t_X12_isWindow_26 X hr h) trivial
    · refine r_iconst (pc := 22) X (v := 1) dX12_isWindow_22 (by decide) ?_
      refine r_goto (pc := 23) X (tgt := 27) dX12_isWindow_23 (by decide) ?_
      cases h
      exact r_zretc (pc := 27) X hr (by decide +kernel) dX12_isWindow_27
theorem c_X12_isWindow {G : GG} {l : Launch} {x1 : Int32} {r : Int32} {M M' : Mem}  (h : f_X12_isWindow x1 M = some (r, M')) : Met l yX12_isWindow (wsO yX12_isWindow cX12_isWindow 2 (some .boolean)) (rmO 1) (PcO G [.ref (G.2.1 (10, 0, 0)), .int x1] M) (QiO G (AA G) r M') 0 0 (AA G) :=
  met_of (own := RX12) rfl (by decide +kernel) (Nat.le_of_ble_eq_true rfl) (fun p e s m args below meth c X hr => t_X12_isWindow X hr  h)
-- ConverterScannerModel.acknowledge
def f_X12_acknowledge_14 (x1 : Int32) (xs0 : Int32) (M : Mem) : Option (Int32 × Mem) :=
  bnd (f_X12_fails xs0 0 0 M) (fun r1 M2 => if r1 = 0 then bnd (f_X12_win x1 3 M2) (fun r4 M5 => bnd (f_X12_its r4 M5) (fun r7 M8 => bnd (f_X12_win x1 3 M8) (fun r10 M11 => bnd (f_X12_puts r10 0 M11) (fun r13 M14 => bnd (f_X12_win x1 2 M14) (fun r16 M17 => bnd (f_X12_puts r16 0 M17) (fun r19 M20 => some (r7, M20))))))) else some (0, M2))
set_option maxHeartbeats 4000000 in
set_option maxRecDepth 100000 in
theorem t_X12_acknowledge_14 {G : GG} {A : Nat → Prop} {p : Program} {l : Launch} {e : Env} {s : State} {m : MethodId} {args : Array Value} {below : List Frame} {meth : Method} {c : Code} {r : Int32} {M' : Mem} (X : Cx G A p s m args meth c RX12 cX12_acknowledge 3) (hr : meth.sig.returnType = some .int) {x1 : Int32} {xs0 : Int32} {M : Mem}  (h : f_X12_acknowledge_14 x1 xs0 M = some (r, M')) : T G A p l e (rmO 2) s m args below meth c 3 0 0 (MQ below (QiO G A r M') args s 0 0 A) 14 [(0, .ref (G.2.1 (10, 0, 0))), (1, .int x1)] [.int xs0, .ref (G.2.1 (10, 0, 0))] M := by
  unfold f_X12_acknowledge_14 at h
  refine r_iconst (pc := 14) X (v := 0) dX12_acknowledge_14 (by decide) ?_
  refine r_iconst (pc := 15) X (v := 0) dX12_acknowledge_15 (by decide) ?_
  refine bndE h (fun r1 M2 h3 h => ?_)
  refine r_callVi3 (pc := 16) X ⟨(ltb rfl), (ltb rfl)⟩ rfl vy_X12_fails my_X12_fails ml_X12_14 ⟨Nat.le_of_ble_eq_true rfl, Nat.le_of_ble_eq_true rfl, Nat.le_of_ble_eq_true rfl, Nat.le_of_ble_eq_true rfl⟩ (c_X12_fails  h3) (Nat.le_of_ble_eq_true rfl) dX12_acknowledge_16 ?_
  refine r_if_eq (pc := 19) X (tgt := 24) dX12_acknowledge_19 (by decide) h (fun h => ?_) (fun h => ?_)
  · refine r_aload_n (pc := 24) X dX12_acknowledge_24 rfl ?_
    refine r_iload_n (pc := 25) X dX12_acknowledge_25 rfl ?_
    refine r_iconst (pc := 26) X (v := 3) dX12_acknowledge_26 (by decide) ?_
    refine bndE h (fun r4 M5 h6 h => ?_)
    refine r_callSi2 (pc := 27) X sy_X12_win my_X12_win ml_X12_187 ⟨Nat.le_of_ble_eq_true rfl, Nat.le_of_ble_eq_true rfl, Nat.le_of_ble_eq_true rfl, Nat.le_of_ble_eq_true rfl⟩ (c_X12_win  h6) (Nat.le_of_ble_eq_true rfl) dX12_acknowledge_27 ?_
    refine bndE h (fun r7 M8 h9 h => ?_)
    refine r_callVi1 (pc := 30) X ⟨(ltb rfl), (ltb rfl)⟩ rfl vy_X12_its my_X12_its ml_X12_155 ⟨Nat.le_of_ble_eq_true rfl, Nat.le_of_ble_eq_true rfl, Nat.le_of_ble_eq_true rfl, Nat.le_of_ble_eq_true rfl⟩ (c_X12_its  h9) (Nat.le_of_ble_eq_true rfl) dX12_acknowledge_30 ?_
    refine r_istore_n (pc := 33) X (by decide) dX12_acknowledge_33 ?_
    refine r_aload_n (pc := 34) X dX12_acknowledge_34 rfl ?_
    refine r_iload_n (pc := 35) X dX12_acknowledge_35 rfl ?_
    refine r_iconst (pc := 36) X (v := 3) dX12_acknowledge_36 (by decide) ?_
    refine bndE h (fun r10 M11 h12 h => ?_)
    refine r_callSi2 (pc := 37) X sy_X12_win my_X12_win ml_X12_187 ⟨Nat.le_of_ble_eq_true rfl, Nat.le_of_ble_eq_true rfl, Nat.le_of_ble_eq_true rfl, Nat.le_of_ble_eq_true rfl⟩ (c_X12_win  h12) (Nat.le_of_ble_eq_true rfl) dX12_acknowledge_37 ?_
    refine r_iconst (pc := 40) X (v := 0) dX12_acknowledge_40 (by decide) ?_
    refine bndE h (fun r13 M14 h15 h => ?_)
    refine r_callVv2 (pc := 41) X ⟨(ltb rfl), (ltb rfl)⟩ rfl vy_X12_puts my_X12_puts ml_X12_39 ⟨Nat.le_of_ble_eq_true rfl, Nat.le_of_ble_eq_true rfl, Nat.le_of_ble_eq_true rfl, Nat.le_of_ble_eq_true rfl⟩ (c_X12_puts  h15) (Nat.le_of_ble_eq_true rfl) dX12_acknowledge_41 ?_
    refine r_aload_n (pc := 44) X dX12_acknowledge_44 rfl ?_
    refine r_iload_n (pc := 45) X dX12_acknowledge_45 rfl ?_
    refine r_iconst (pc := 46) X (v := 2) dX12_acknowledge_46 (by decide) ?_
    refine bndE h (fun r16 M17 h18 h => ?_)
    refine r_callSi2 (pc := 47) X sy_X12_win my_X12_win ml_X12_187 ⟨Nat.le_of_ble_eq_true rfl, Nat.le_of_ble_eq_true rfl, Nat.le_of_ble_eq_true rfl, Nat.le_of_ble_eq_true rfl⟩ (c_X12_win  h18) (Nat.le_of_ble_eq_true rfl) dX12_acknowledge_47 ?_
    refine r_iconst (pc := 50) X (v := 0) dX12_acknowledge_50 (by decide) ?_
    refine bndE h (fun r19 M20 h21 h => ?_)
    refine r_callVv2 (pc := 51) X ⟨(ltb rfl), (ltb rfl)⟩ rfl vy_X12_puts my_X12_puts ml_X12_39 ⟨Nat.le_of_ble_eq_true rfl, Nat.le_of_ble_eq_true rfl, Nat.le_of_ble_eq_true rfl, Nat.le_of_ble_eq_true rfl⟩ (c_X12_puts  h21) (Nat.le_of_ble_eq_true rfl) dX12_acknowledge_51 ?_
    refine r_iload_n (pc := 54) X dX12_acknowledge_54 rfl ?_
    cases h
    exact r_iret (pc := 55) X hr dX12_acknowledge_55
  · refine r_iconst (pc := 22) X (v := 0) dX12_acknowledge_22 (by decide) ?_
    cases h
    exact r_iret (pc := 23) X hr dX12_acknowledge_23
def f_X12_acknowledge (x1 : Int32) (M : Mem) : Option (Int32 × Mem) :=
  bnd (f_X12_isWindow x1 M) (fun r1 M2 => if r1 = 0 then f_X12_acknowledge_14 x1 1 M2 else f_X12_acknowledge_14 x1 0 M2)
set_option maxHeartbeats 4000000 in
set_option maxRecDepth 100000 in
theorem t_X12_acknowledge {G : GG} {A : Nat → Prop} {p : Program} {l : Launch} {e : Env} {s : State} {m : MethodId} {args : Array Value} {below : List Frame} {meth : Method} {c : Code} {r : Int32} {M' : Mem} (X : Cx G A p s m args meth c RX12 cX12_acknowledge 3) (hr : meth.sig.returnType = some .int) {x1 : Int32} {M : Mem}  (h : f_X12_acknowledge x1 M = some (r, M')) : T G A p l e (rmO 2) s m args below meth c 3 0 0 (MQ below (QiO G A r M') args s 0 0 A) 0 [(0, .ref (G.2.1 (10, 0, 0))), (1, .int x1)] [] M := by
  unfold f_X12_acknowledge at h
  refine r_aload_n (pc := 0) X dX12_acknowledge_0 rfl ?_
  refine r_aload_n (pc := 1) X dX12_acknowledge_1 rfl ?_
  refine r_iload_n (pc := 2) X dX12_acknowledge_2 rfl ?_
  refine bndE h (fun r1 M2 h3 h => ?_)
  refine r_callVi1 (pc := 3) X ⟨(ltb rfl), (ltb rfl)⟩ rfl vy_X12_isWindow my_X12_isWindow ml_X12_241 ⟨Nat.le_of_ble_eq_true rfl, Nat.le_of_ble_eq_true rfl, Nat.le_of_ble_eq_true rfl, Nat.le_of_ble_eq_true rfl⟩ (c_X12_isWindow  h3) (Nat.le_of_ble_eq_true rfl) dX12_acknowledge_3 ?_
  refine r_if_ne (pc := 6) X (tgt := 13) dX12_acknowledge_6 (by decide) h (fun h => ?_) (fun h => ?_)
  · refine r_iconst (pc := 13) X (v := 0) dX12_acknowledge_13 (by decide) ?_
    exact T_sub (t_X12_acknowledge_14 X hr h) ⟨rfl, rfl, trivial⟩
  · refine r_iconst (pc := 9) X (v := 1) dX12_acknowledge_9 (by decide) ?_
    refine r_goto (pc := 10) X (tgt := 14) dX12_acknowledge_10 (by decide) ?_
    exact T_sub (t_X12_acknowledge_14 X hr h) ⟨rfl, rfl, trivial⟩
theorem c_X12_acknowledge {G : GG} {l : Launch} {x1 : Int32} {r : Int32} {M M' : Mem}  (h : f_X12_acknowledge x1 M = some (r, M')) : Met l yX12_acknowledge (wsO yX12_acknowledge cX12_acknowledge 3 (some .int)) (rmO 2) (PcO G [.ref (G.2.1 (10, 0, 0)), .int x1] M) (QiO G (AA G) r M') 0 0 (AA G) :=
  met_of (own := RX12) rfl (by decide +kernel) (Nat.le_of_ble_eq_true rfl) (fun p e s m args below meth c X hr => t_X12_acknowledge X hr  h)
-- ConverterScannerModel.setSignal
def f_X12_setSignal_53 (x1 : Int32) (x2 : Int32) (x3 : Int32) (x4 : Int32) (xs0 : Int32) (xs1 : Int32) (M : Mem) : Option (Int32 × Mem) :=
  bnd (f_X12_fails xs1 xs0 0 M) (fun r1 M2 => if r1 = 0 then bnd (f_X12_chan x1 1 M2) (fun r4 M5 => bnd (f_X12_puts r4 x2 M5) (fun r7 M8 => bnd (f_X12_chan x1 2 M8) (fun r10 M11 => bnd (f_X12_puts r10 x3 M11) (fun r13 M14 => bnd (f_X12_chan x1 3 M14) (fun r16 M17 => bnd (f_X12_puts r16 x4 M17) (fun r19 M20 => bnd (f_X12_its 0 M20) (fun r22 M23 => bnd (f_X12_signalOf x1 r22 M23) (fun r25 M26 => some (r25, M26))))))))) else some (0, M2))
set_option maxHeartbeats 4000000 in
set_option maxRecDepth 100000 in
theorem t_X12_setSignal_53 {G : GG} {A : Nat → Prop} {p : Program} {l : Launch} {e : Env} {s : State} {m : MethodId} {args : Array Value} {below : List Frame} {meth : Method} {c : Code} {r : Int32} {M' : Mem} (X : Cx G A p s m args meth c RX12 cX12_setSignal 5) (hr : meth.sig.returnType = some .int) {x1 : Int32} {x2 : Int32} {x3 : Int32} {x4 : Int32} {xs0 : Int32} {xs1 : Int32} {M : Mem}  (h : f_X12_setSignal_53 x1 x2 x3 x4 xs0 xs1 M = some (r, M')) : T G A p l e (rmO 2) s m args below meth c 5 0 0 (MQ below (QiO G A r M') args s 0 0 A) 53 [(0, .ref (G.2.1 (10, 0, 0))), (1, .int x1), (2, .int x2), (3, .int x3), (4, .int x4)] [.int xs0, .int xs1, .ref (G.2.1 (10, 0, 0))] M := by
  unfold f_X12_setSignal_53 at h
  refine r_iconst (pc := 53) X (v := 0) dX12_setSignal_53 (by decide) ?_
  refine bndE h (fun r1 M2 h3 h => ?_)
  refine r_callVi3 (pc := 54) X ⟨(ltb rfl), (ltb rfl)⟩ rfl vy_X12_fails my_X12_fails ml_X12_14 ⟨Nat.le_of_ble_eq_true rfl, Nat.le_of_ble_eq_true rfl, Nat.le_of_ble_eq_true rfl, Nat.le_of_ble_eq_true rfl⟩ (c_X12_fails  h3) (Nat.le_of_ble_eq_true rfl) dX12_setSignal_54 ?_
  refine r_if_eq (pc := 57) X (tgt := 62) dX12_setSignal_57 (by decide) h (fun h => ?_) (fun h => ?_)
  · refine r_aload_n (pc := 62) X dX12_setSignal_62 rfl ?_
    refine r_iload_n (pc := 63) X dX12_setSignal_63 rfl ?_
    refine r_iconst (pc := 64) X (v := 1) dX12_setSignal_64 (by decide) ?_
    refine bndE h (fun r4 M5 h6 h => ?_)
    refine r_callSi2 (pc := 65) X sy_X12_chan my_X12_chan ml_X12_47 ⟨Nat.le_of_ble_eq_true rfl, Nat.le_of_ble_eq_true rfl, Nat.le_of_ble_eq_true rfl, Nat.le_of_ble_eq_true rfl⟩ (c_X12_chan  h6) (Nat.le_of_ble_eq_true rfl) dX12_setSignal_65 ?_
    refine r_iload_n (pc := 68) X dX12_setSignal_68 rfl ?_
    refine bndE h (fun r7 M8 h9 h => ?_)
    refine r_callVv2 (pc := 69) X ⟨(ltb rfl), (ltb rfl)⟩ rfl vy_X12_puts my_X12_puts ml_X12_39 ⟨Nat.le_of_ble_eq_true rfl, Nat.le_of_ble_eq_true rfl, Nat.le_of_ble_eq_true rfl, Nat.le_of_ble_eq_true rfl⟩ (c_X12_puts  h9) (Nat.le_of_ble_eq_true rfl) dX12_setSignal_69 ?_
    refine r_aload_n (pc := 72) X dX12_setSignal_72 rfl ?_
    refine r_iload_n (pc := 73) X dX12_setSignal_73 rfl ?_
    refine r_iconst (pc := 74) X (v := 2) dX12_setSignal_74 (by decide) ?_
    refine bndE h (fun r10 M11 h12 h => ?_)
    refine r_callSi2 (pc := 75) X sy_X12_chan my_X12_chan ml_X12_47 ⟨Nat.le_of_ble_eq_true rfl, Nat.le_of_ble_eq_true rfl, Nat.le_of_ble_eq_true rfl, Nat.le_of_ble_eq_true rfl⟩ (c_X12_chan  h12) (Nat.le_of_ble_eq_true rfl) dX12_setSignal_75 ?_
    refine r_iload_n (pc := 78) X dX12_setSignal_78 rfl ?_
    refine bndE h (fun r13 M14 h15 h => ?_)
    refine r_callVv2 (pc := 79) X ⟨(ltb rfl), (ltb rfl)⟩ rfl vy_X12_puts my_X12_puts ml_X12_39 ⟨Nat.le_of_ble_eq_true rfl, Nat.le_of_ble_eq_true rfl, Nat.le_of_ble_eq_true rfl, Nat.le_of_ble_eq_true rfl⟩ (c_X12_puts  h15) (Nat.le_of_ble_eq_true rfl) dX12_setSignal_79 ?_
    refine r_aload_n (pc := 82) X dX12_setSignal_82 rfl ?_
    refine r_iload_n (pc := 83) X dX12_setSignal_83 rfl ?_
    refine r_iconst (pc := 84) X (v := 3) dX12_setSignal_84 (by decide) ?_
    refine bndE h (fun r16 M17 h18 h => ?_)
    refine r_callSi2 (pc := 85) X sy_X12_chan my_X12_chan ml_X12_47 ⟨Nat.le_of_ble_eq_true rfl, Nat.le_of_ble_eq_true rfl, Nat.le_of_ble_eq_true rfl, Nat.le_of_ble_eq_true rfl⟩ (c_X12_chan  h18) (Nat.le_of_ble_eq_true rfl) dX12_setSignal_85 ?_
    refine r_iload (pc := 88) X dX12_setSignal_88 rfl ?_
    refine bndE h (fun r19 M20 h21 h => ?_)
    refine r_callVv2 (pc := 90) X ⟨(ltb rfl), (ltb rfl)⟩ rfl vy_X12_puts my_X12_puts ml_X12_39 ⟨Nat.le_of_ble_eq_true rfl, Nat.le_of_ble_eq_true rfl, Nat.le_of_ble_eq_true rfl, Nat.le_of_ble_eq_true rfl⟩ (c_X12_puts  h21) (Nat.le_of_ble_eq_true rfl) dX12_setSignal_90 ?_
    refine r_aload_n (pc := 93) X dX12_setSignal_93 rfl ?_
    refine r_iload_n (pc := 94) X dX12_setSignal_94 rfl ?_
    refine r_aload_n (pc := 95) X dX12_setSignal_95 rfl ?_
    refine r_iconst (pc := 96) X (v := 0) dX12_setSignal_96 (by decide) ?_
    refine bndE h (fun r22 M23 h24 h => ?_)
    refine r_callVi1 (pc := 97) X ⟨(ltb rfl), (ltb rfl)⟩ rfl vy_X12_its my_X12_its ml_X12_155 ⟨Nat.le_of_ble_eq_true rfl, Nat.le_of_ble_eq_true rfl, Nat.le_of_ble_eq_true rfl, Nat.le_of_ble_eq_true rfl⟩ (c_X12_its  h24) (Nat.le_of_ble_eq_true rfl) dX12_setSignal_97 ?_
    refine bndE h (fun r25 M26 h27 h => ?_)
    refine r_callVi2 (pc := 100) X ⟨(ltb rfl), (ltb rfl)⟩ rfl vy_X12_signalOf my_X12_signalOf ml_X12_217 ⟨Nat.le_of_ble_eq_true rfl, Nat.le_of_ble_eq_true rfl, Nat.le_of_ble_eq_true rfl, Nat.le_of_ble_eq_true rfl⟩ (c_X12_signalOf  h27) (Nat.le_of_ble_eq_true rfl) dX12_setSignal_100 ?_
    cases h
    exact r_iret (pc := 103) X hr dX12_setSignal_103
  · refine r_iconst (pc := 60) X (v := 0) dX12_setSignal_60 (by decide) ?_
    cases h
    exact r_iret (pc := 61) X hr dX12_setSignal_61
def f_X12_setSignal_48 (x1 : Int32) (x2 : Int32) (x3 : Int32) (x4 : Int32) (xs0 : Int32) (M : Mem) : Option (Int32 × Mem) :=
  f_X12_setSignal_53 x1 x2 x3 x4 1 xs0 M
set_option maxHeartbeats 4000000 in
set_option maxRecDepth 100000 in
theorem t_X12_setSignal_48 {G : GG} {A : Nat → Prop} {p : Program} {l : Launch} {e : Env} {s : State} {m : MethodId} {args : Array Value} {below : List Frame} {meth : Method} {c : Code} {r : Int32} {M' : Mem} (X : Cx G A p s m args meth c RX12 cX12_setSignal 5) (hr : meth.sig.returnType = some .int) {x1 : Int32} {x2 : Int32} {x3 : Int32} {x4 : Int32} {xs0 : Int32} {M : Mem}  (h : f_X12_setSignal_48 x1 x2 x3 x4 xs0 M = some (r, M')) : T G A p l e (rmO 2) s m args below meth c 5 0 0 (MQ below (QiO G A r M') args s 0 0 A) 48 [(0, .ref (G.2.1 (10, 0, 0))), (1, .int x1), (2, .int x2), (3, .int x3), (4, .int x4)] [.int xs0, .ref (G.2.1 (10, 0, 0))] M := by
  unfold f_X12_setSignal_48 at h
  refine r_iconst (pc := 48) X (v := 1) dX12_setSignal_48 (by decide) ?_
  refine r_goto (pc := 49) X (tgt := 53) dX12_setSignal_49 (by decide) ?_
  exact T_sub (t_X12_setSignal_53 X hr h) ⟨rfl, rfl, rfl, rfl, rfl, trivial⟩
def f_X12_setSignal_14 (x1 : Int32) (x2 : Int32) (x3 : Int32) (x4 : Int32) (xs0 : Int32) (M : Mem) : Option (Int32 × Mem) :=
  bnd (f_X12_inRange x2 0 4095 M) (fun r1 M2 => if r1 = 0 then f_X12_setSignal_48 x1 x2 x3 x4 xs0 M2 else bnd (f_X12_inRange x3 (-99) 99 M2) (fun r4 M5 => if r4 = 0 then f_X12_setSignal_48 x1 x2 x3 x4 xs0 M5 else bnd (f_X12_inRange x4 1 9999 M5) (fun r7 M8 => if r7 = 0 then f_X12_setSignal_48 x1 x2 x3 x4 xs0 M8 else f_X12_setSignal_53 x1 x2 x3 x4 0 xs0 M8)))
set_option maxHeartbeats 4000000 in
set_option maxRecDepth 100000 in
theorem t_X12_setSignal_14 {G : GG} {A : Nat → Prop} {p : Program} {l : Launch} {e : Env} {s : State} {m : MethodId} {args : Array Value} {below : List Frame} {meth : Method} {c : Code} {r : Int32} {M' : Mem} (X : Cx G A p s m args meth c RX12 cX12_setSignal 5) (hr : meth.sig.returnType = some .int) {x1 : Int32} {x2 : Int32} {x3 : Int32} {x4 : Int32} {xs0 : Int32} {M : Mem}  (h : f_X12_setSignal_14 x1 x2 x3 x4 xs0 M = some (r, M')) : T G A p l e (rmO 2) s m args below meth c 5 0 0 (MQ below (QiO G A r M') args s 0 0 A) 14 [(0, .ref (G.2.1 (10, 0, 0))), (1, .int x1), (2, .int x2), (3, .int x3), (4, .int x4)] [.int xs0, .ref (G.2.1 (10, 0, 0))] M := by
  unfold f_X12_setSignal_14 at h
  refine r_iload_n (pc := 14) X dX12_setSignal_14 rfl ?_
  refine r_iconst (pc := 15) X (v := 0) dX12_setSignal_15 (by decide) ?_
  refine r_sipush (pc := 16) X (v := 4095) dX12_setSignal_16 (by decide) ?_
  refine bndE h (fun r1 M2 h3 h => ?_)
  refine r_callSi3 (pc := 19) X sy_X12_inRange my_X12_inRange ml_X12_22 ⟨Nat.le_of_ble_eq_true rfl, Nat.le_of_ble_eq_true rfl, Nat.le_of_ble_eq_true rfl, Nat.le_of_ble_eq_true rfl⟩ (c_X12_inRange  h3) (Nat.le_of_ble_eq_true rfl) dX12_setSignal_19 ?_
  refine r_if_eq (pc := 22) X (tgt := 48) dX12_setSignal_22 (by decide) h (fun h => ?_) (fun h => ?_)
  · exact T_sub (t_X12_setSignal_48 X hr h) ⟨rfl, rfl, rfl, rfl, rfl, trivial⟩
  · refine r_iload_n (pc := 25) X dX12_setSignal_25 rfl ?_
    refine r_bipush (pc := 26) X (v := (-99)) dX12_setSignal_26 (by decide) ?_
    refine r_bipush (pc := 28) X (v := 99) dX12_setSignal_28 (by decide) ?_
    refine bndE h (fun r4 M5 h6 h => ?_)
    refine r_callSi3 (pc := 30) X sy_X12_inRange my_X12_inRange ml_X12_22 ⟨Nat.le_of_ble_eq_true rfl, Nat.le_of_ble_eq_true rfl, Nat.le_of_ble_eq_true rfl, Nat.le_of_ble_eq_true rfl⟩ (c_X12_inRange  h6) (Nat.le_of_ble_eq_true rfl) dX12_setSignal_30 ?_
    refine r_if_eq (pc := 33) X (tgt := 48) dX12_setSignal_33 (by decide) h (fun h => ?_) (fun h => ?_)
    · exact T_sub (t_X12_setSignal_48 X hr h) ⟨rfl, rfl, rfl, rfl, rfl, trivial⟩
    · refine r_iload (pc := 36) X dX12_setSignal_36 rfl ?_
      refine r_iconst (pc := 38) X (v := 1) dX12_setSignal_38 (by decide) ?_
      refine r_sipush (pc := 39) X (v := 9999) dX12_setSignal_39 (by decide) ?_
      refine bndE h (fun r7 M8 h9 h => ?_)
      refine r_callSi3 (pc := 42) X sy_X12_inRange my_X12_inRange ml_X12_22 ⟨Nat.le_of_ble_eq_true rfl, Nat.le_of_ble_eq_true rfl, Nat.le_of_ble_eq_true rfl, Nat.le_of_ble_eq_true rfl⟩ (c_X12_inRange  h9) (Nat.le_of_ble_eq_true rfl) dX12_setSignal_42 ?_
      refine r_if_ne (pc := 45) X (tgt := 52) dX12_setSignal_45 (by decide) h (fun h => ?_) (fun h => ?_)
      · refine r_iconst (pc := 52) X (v := 0) dX12_setSignal_52 (by decide) ?_
        exact T_sub (t_X12_setSignal_53 X hr h) ⟨rfl, rfl, rfl, rfl, rfl, trivial⟩
      · exact T_sub (t_X12_setSignal_48 X hr h) ⟨rfl, rfl, rfl, rfl, rfl, trivial⟩
def f_X12_setSignal (x1 : Int32) (x2 : Int32) (x3 : Int32) (x4 : Int32) (M : Mem) : Option (Int32 × Mem) :=
  bnd (f_X12_isChannel x1 M) (fun r1 M2 => if r1 = 0 then f_X12_setSignal_14 x1 x2 x3 x4 1 M2 else f_X12_setSignal_14 x1 x2 x3 x4 0 M2)
set_option maxHeartbeats 4000000 in
set_option maxRecDepth 100000 in
theorem t_X12_setSignal {G : GG} {A : Nat → Prop} {p : Program} {l : Launch} {e : Env} {s : State} {m : MethodId} {args : Array Value} {below : List Frame} {meth : Method} {c : Code} {r : Int32} {M' : Mem} (X : Cx G A p s m args meth c RX12 cX12_setSignal 5) (hr : meth.sig.returnType = some .int) {x1 : Int32} {x2 : Int32} {x3 : Int32} {x4 : Int32} {M : Mem}  (h : f_X12_setSignal x1 x2 x3 x4 M = some (r, M')) : T G A p l e (rmO 2) s m args below meth c 5 0 0 (MQ below (QiO G A r M') args s 0 0 A) 0 [(0, .ref (G.2.1 (10, 0, 0))), (1, .int x1), (2, .int x2), (3, .int x3), (4, .int x4)] [] M := by
  unfold f_X12_setSignal at h
  refine r_aload_n (pc := 0) X dX12_setSignal_0 rfl ?_
  refine r_aload_n (pc := 1) X dX12_setSignal_1 rfl ?_
  refine r_iload_n (pc := 2) X dX12_setSignal_2 rfl ?_
  refine bndE h (fun r1 M2 h3 h => ?_)
  refine r_callVi1 (pc := 3) X ⟨(ltb rfl), (ltb rfl)⟩ rfl vy_X12_isChannel my_X12_isChannel ml_X12_244 ⟨Nat.le_of_ble_eq_true rfl, Nat.le_of_ble_eq_true rfl, Nat.le_of_ble_eq_true rfl, Nat.le_of_ble_eq_true rfl⟩ (c_X12_isChannel  h3) (Nat.le_of_ble_eq_true rfl) dX12_setSignal_3 ?_
  refine r_if_ne (pc := 6) X (tgt := 13) dX12_setSignal_6 (by decide) h (fun h => ?_) (fun h => ?_)
  · refine r_iconst (pc := 13) X (v := 0) dX12_setSignal_13 (by decide) ?_
    exact T_sub (t_X12_setSignal_14 X hr h) ⟨rfl, rfl, rfl, rfl, rfl, trivial⟩
  · refine r_iconst (pc := 9) X (v := 1) dX12_setSignal_9 (by decide) ?_
    refine r_goto (pc := 10) X (tgt := 14) dX12_setSignal_10 (by decide) ?_
    exact T_sub (t_X12_setSignal_14 X hr h) ⟨rfl, rfl, rfl, rfl, rfl, trivial⟩
theorem c_X12_setSignal {G : GG} {l : Launch} {x1 : Int32} {x2 : Int32} {x3 : Int32} {x4 : Int32} {r : Int32} {M M' : Mem}  (h : f_X12_setSignal x1 x2 x3 x4 M = some (r, M')) : Met l yX12_setSignal (wsO yX12_setSignal cX12_setSignal 5 (some .int)) (rmO 2) (PcO G [.ref (G.2.1 (10, 0, 0)), .int x1, .int x2, .int x3, .int x4] M) (QiO G (AA G) r M') 0 0 (AA G) :=
  met_of (own := RX12) rfl (by decide +kernel) (Nat.le_of_ble_eq_true rfl) (fun p e s m args below meth c X hr => t_X12_setSignal X hr  h)
-- ConverterScannerModel.setSample
def f_X12_setSample_29 (x1 : Int32) (x2 : Int32) (xs0 : Int32) (xs1 : Int32) (M : Mem) : Option (Int32 × Mem) :=
  bnd (f_X12_fails xs1 xs0 0 M) (fun r1 M2 => if r1 = 0 then bnd (f_X12_chan x1 0 M2) (fun r4 M5 => bnd (f_X12_its r4 M5) (fun r7 M8 => bnd (f_X12_chan x1 0 M8) (fun r10 M11 => bnd (f_X12_puts r10 x2 M11) (fun r13 M14 => some (r7, M14))))) else some (0, M2))
set_option maxHeartbeats 4000000 in
set_option maxRecDepth 100000 in
theorem t_X12_setSample_29 {G : GG} {A : Nat → Prop} {p : Program} {l : Launch} {e : Env} {s : State} {m : MethodId} {args : Array Value} {below : List Frame} {meth : Method} {c : Code} {r : Int32} {M' : Mem} (X : Cx G A p s m args meth c RX12 cX12_setSample 4) (hr : meth.sig.returnType = some .int) {x1 : Int32} {x2 : Int32} {xs0 : Int32} {xs1 : Int32} {M : Mem}  (h : f_X12_setSample_29 x1 x2 xs0 xs1 M = some (r, M')) : T G A p l e (rmO 2) s m args below meth c 4 0 0 (MQ below (QiO G A r M') args s 0 0 A) 29 [(0, .ref (G.2.1 (10, 0, 0))), (1, .int x1), (2, .int x2)] [.int xs0, .int xs1, .ref (G.2.1 (10, 0, 0))] M := by
  unfold f_X12_setSample_29 at h
  refine r_iconst (pc := 29) X (v := 0) dX12_setSample_29 (by decide) ?_
  refine bndE h (fun r1 M2 h3 h => ?_)
  refine r_callVi3 (pc := 30) X ⟨(ltb rfl), (ltb rfl)⟩ rfl vy_X12_fails my_X12_fails ml_X12_14 ⟨Nat.le_of_ble_eq_true rfl, Nat.le_of_ble_eq_true rfl, Nat.le_of_ble_eq_true rfl, Nat.le_of_ble_eq_true rfl⟩ (c_X12_fails  h3) (Nat.le_of_ble_eq_true rfl) dX12_setSample_30 ?_
  refine r_if_eq (pc := 33) X (tgt := 38) dX12_setSample_33 (by decide) h (fun h => ?_) (fun h => ?_)
  · refine r_aload_n (pc := 38) X dX12_setSample_38 rfl ?_
    refine r_iload_n (pc := 39) X dX12_setSample_39 rfl ?_
    refine r_iconst (pc := 40) X (v := 0) dX12_setSample_40 (by decide) ?_
    refine bndE h (fun r4 M5 h6 h => ?_)
    refine r_callSi2 (pc := 41) X sy_X12_chan my_X12_chan ml_X12_47 ⟨Nat.le_of_ble_eq_true rfl, Nat.le_of_ble_eq_true rfl, Nat.le_of_ble_eq_true rfl, Nat.le_of_ble_eq_true rfl⟩ (c_X12_chan  h6) (Nat.le_of_ble_eq_true rfl) dX12_setSample_41 ?_
    refine bndE h (fun r7 M8 h9 h => ?_)
    refine r_callVi1 (pc := 44) X ⟨(ltb rfl), (ltb rfl)⟩ rfl vy_X12_its my_X12_its ml_X12_155 ⟨Nat.le_of_ble_eq_true rfl, Nat.le_of_ble_eq_true rfl, Nat.le_of_ble_eq_true rfl, Nat.le_of_ble_eq_true rfl⟩ (c_X12_its  h9) (Nat.le_of_ble_eq_true rfl) dX12_setSample_44 ?_
    refine r_istore_n (pc := 47) X (by decide) dX12_setSample_47 ?_
    refine r_aload_n (pc := 48) X dX12_setSample_48 rfl ?_
    refine r_iload_n (pc := 49) X dX12_setSample_49 rfl ?_
    refine r_iconst (pc := 50) X (v := 0) dX12_setSample_50 (by decide) ?_
    refine bndE h (fun r10 M11 h12 h => ?_)
    refine r_callSi2 (pc := 51) X sy_X12_chan my_X12_chan ml_X12_47 ⟨Nat.le_of_ble_eq_true rfl, Nat.le_of_ble_eq_true rfl, Nat.le_of_ble_eq_true rfl, Nat.le_of_ble_eq_true rfl⟩ (c_X12_chan  h12) (Nat.le_of_ble_eq_true rfl) dX12_setSample_51 ?_
    refine r_iload_n (pc := 54) X dX12_setSample_54 rfl ?_
    refine bndE h (fun r13 M14 h15 h => ?_)
    refine r_callVv2 (pc := 55) X ⟨(ltb rfl), (ltb rfl)⟩ rfl vy_X12_puts my_X12_puts ml_X12_39 ⟨Nat.le_of_ble_eq_true rfl, Nat.le_of_ble_eq_true rfl, Nat.le_of_ble_eq_true rfl, Nat.le_of_ble_eq_true rfl⟩ (c_X12_puts  h15) (Nat.le_of_ble_eq_true rfl) dX12_setSample_55 ?_
    refine r_iload_n (pc := 58) X dX12_setSample_58 rfl ?_
    cases h
    exact r_iret (pc := 59) X hr dX12_setSample_59
  · refine r_iconst (pc := 36) X (v := 0) dX12_setSample_36 (by decide) ?_
    cases h
    exact r_iret (pc := 37) X hr dX12_setSample_37
def f_X12_setSample_14 (x1 : Int32) (x2 : Int32) (xs0 : Int32) (M : Mem) : Option (Int32 × Mem) :=
  bnd (f_X12_inRange x2 1 99 M) (fun r1 M2 => if r1 = 0 then f_X12_setSample_29 x1 x2 1 xs0 M2 else f_X12_setSample_29 x1 x2 0 xs0 M2)
set_option maxHeartbeats 4000000 in
set_option maxRecDepth 100000 in
theorem t_X12_setSample_14 {G : GG} {A : Nat → Prop} {p : Program} {l : Launch} {e : Env} {s : State} {m : MethodId} {args : Array Value} {below : List Frame} {meth : Method} {c : Code} {r : Int32} {M' : Mem} (X : Cx G A p s m args meth c RX12 cX12_setSample 4) (hr : meth.sig.returnType = some .int) {x1 : Int32} {x2 : Int32} {xs0 : Int32} {M : Mem}  (h : f_X12_setSample_14 x1 x2 xs0 M = some (r, M')) : T G A p l e (rmO 2) s m args below meth c 4 0 0 (MQ below (QiO G A r M') args s 0 0 A) 14 [(0, .ref (G.2.1 (10, 0, 0))), (1, .int x1), (2, .int x2)] [.int xs0, .ref (G.2.1 (10, 0, 0))] M := by
  unfold f_X12_setSample_14 at h
  refine r_iload_n (pc := 14) X dX12_setSample_14 rfl ?_
  refine r_iconst (pc := 15) X (v := 1) dX12_setSample_15 (by decide) ?_
  refine r_bipush (pc := 16) X (v := 99) dX12_setSample_16 (by decide) ?_
  refine bndE h (fun r1 M2 h3 h => ?_)
  refine r_callSi3 (pc := 18) X sy_X12_inRange my_X12_inRange ml_X12_22 ⟨Nat.le_of_ble_eq_true rfl, Nat.le_of_ble_eq_true rfl, Nat.le_of_ble_eq_true rfl, Nat.le_of_ble_eq_true rfl⟩ (c_X12_inRange  h3) (Nat.le_of_ble_eq_true rfl) dX12_setSample_18 ?_
  refine r_if_ne (pc := 21) X (tgt := 28) dX12_setSample_21 (by decide) h (fun h => ?_) (fun h => ?_)
  · refine r_iconst (pc := 28) X (v := 0) dX12_setSample_28 (by decide) ?_
    exact T_sub (t_X12_setSample_29 X hr h) ⟨rfl, rfl, rfl, trivial⟩
  · refine r_iconst (pc := 24) X (v := 1) dX12_setSample_24 (by decide) ?_
    refine r_goto (pc := 25) X (tgt := 29) dX12_setSample_25 (by decide) ?_
    exact T_sub (t_X12_setSample_29 X hr h) ⟨rfl, rfl, rfl, trivial⟩
def f_X12_setSample (x1 : Int32) (x2 : Int32) (M : Mem) : Option (Int32 × Mem) :=
  bnd (f_X12_isChannel x1 M) (fun r1 M2 => if r1 = 0 then f_X12_setSample_14 x1 x2 1 M2 else f_X12_setSample_14 x1 x2 0 M2)
set_option maxHeartbeats 4000000 in
set_option maxRecDepth 100000 in
theorem t_X12_setSample {G : GG} {A : Nat → Prop} {p : Program} {l : Launch} {e : Env} {s : State} {m : MethodId} {args : Array Value} {below : List Frame} {meth : Method} {c : Code} {r : Int32} {M' : Mem} (X : Cx G A p s m args meth c RX12 cX12_setSample 4) (hr : meth.sig.returnType = some .int) {x1 : Int32} {x2 : Int32} {M : Mem}  (h : f_X12_setSample x1 x2 M = some (r, M')) : T G A p l e (rmO 2) s m args below meth c 4 0 0 (MQ below (QiO G A r M') args s 0 0 A) 0 [(0, .ref (G.2.1 (10, 0, 0))), (1, .int x1), (2, .int x2)] [] M := by
  unfold f_X12_setSample at h
  refine r_aload_n (pc := 0) X dX12_setSample_0 rfl ?_
  refine r_aload_n (pc := 1) X dX12_setSample_1 rfl ?_
  refine r_iload_n (pc := 2) X dX12_setSample_2 rfl ?_
  refine bndE h (fun r1 M2 h3 h => ?_)
  refine r_callVi1 (pc := 3) X ⟨(ltb rfl), (ltb rfl)⟩ rfl vy_X12_isChannel my_X12_isChannel ml_X12_244 ⟨Nat.le_of_ble_eq_true rfl, Nat.le_of_ble_eq_true rfl, Nat.le_of_ble_eq_true rfl, Nat.le_of_ble_eq_true rfl⟩ (c_X12_isChannel  h3) (Nat.le_of_ble_eq_true rfl) dX12_setSample_3 ?_
  refine r_if_ne (pc := 6) X (tgt := 13) dX12_setSample_6 (by decide) h (fun h => ?_) (fun h => ?_)
  · refine r_iconst (pc := 13) X (v := 0) dX12_setSample_13 (by decide) ?_
    exact T_sub (t_X12_setSample_14 X hr h) ⟨rfl, rfl, rfl, trivial⟩
  · refine r_iconst (pc := 9) X (v := 1) dX12_setSample_9 (by decide) ?_
    refine r_goto (pc := 10) X (tgt := 14) dX12_setSample_10 (by decide) ?_
    exact T_sub (t_X12_setSample_14 X hr h) ⟨rfl, rfl, rfl, trivial⟩
theorem c_X12_setSample {G : GG} {l : Launch} {x1 : Int32} {x2 : Int32} {r : Int32} {M M' : Mem}  (h : f_X12_setSample x1 x2 M = some (r, M')) : Met l yX12_setSample (wsO yX12_setSample cX12_setSample 4 (some .int)) (rmO 2) (PcO G [.ref (G.2.1 (10, 0, 0)), .int x1, .int x2] M) (QiO G (AA G) r M') 0 0 (AA G) :=
  met_of (own := RX12) rfl (by decide +kernel) (Nat.le_of_ble_eq_true rfl) (fun p e s m args below meth c X hr => t_X12_setSample X hr  h)
-- ConverterScannerModel.setWindow
def f_X12_setWindow_39 (x1 : Int32) (x2 : Int32) (x3 : Int32) (xs0 : Int32) (xs1 : Int32) (M : Mem) : Option (Int32 × Mem) :=
  bnd (f_X12_fails xs1 xs0 0 M) (fun r1 M2 => if r1 = 0 then bnd (f_X12_win x1 0 M2) (fun r4 M5 => bnd (f_X12_puts r4 x2 M5) (fun r7 M8 => bnd (f_X12_win x1 1 M8) (fun r10 M11 => bnd (f_X12_puts r10 x3 M11) (fun r13 M14 => bnd (f_X12_win x1 3 M14) (fun r16 M17 => bnd (f_X12_its r16 M17) (fun r19 M20 => some (r19, M20))))))) else some (0, M2))
set_option maxHeartbeats 4000000 in
set_option maxRecDepth 100000 in
theorem t_X12_setWindow_39 {G : GG} {A : Nat → Prop} {p : Program} {l : Launch} {e : Env} {s : State} {m : MethodId} {args : Array Value} {below : List Frame} {meth : Method} {c : Code} {r : Int32} {M' : Mem} (X : Cx G A p s m args meth c RX12 cX12_setWindow 4) (hr : meth.sig.returnType = some .int) {x1 : Int32} {x2 : Int32} {x3 : Int32} {xs0 : Int32} {xs1 : Int32} {M : Mem}  (h : f_X12_setWindow_39 x1 x2 x3 xs0 xs1 M = some (r, M')) : T G A p l e (rmO 2) s m args below meth c 4 0 0 (MQ below (QiO G A r M') args s 0 0 A) 39 [(0, .ref (G.2.1 (10, 0, 0))), (1, .int x1), (2, .int x2), (3, .int x3)] [.int xs0, .int xs1, .ref (G.2.1 (10, 0, 0))] M := by
  unfold f_X12_setWindow_39 at h
  refine r_iconst (pc := 39) X (v := 0) dX12_setWindow_39 (by decide) ?_
  refine bndE h (fun r1 M2 h3 h => ?_)
  refine r_callVi3 (pc := 40) X ⟨(ltb rfl), (ltb rfl)⟩ rfl vy_X12_fails my_X12_fails ml_X12_14 ⟨Nat.le_of_ble_eq_true rfl, Nat.le_of_ble_eq_true rfl, Nat.le_of_ble_eq_true rfl, Nat.le_of_ble_eq_true rfl⟩ (c_X12_fails  h3) (Nat.le_of_ble_eq_true rfl) dX12_setWindow_40 ?_
  refine r_if_eq (pc := 43) X (tgt := 48) dX12_setWindow_43 (by decide) h (fun h => ?_) (fun h => ?_)
  · refine r_aload_n (pc := 48) X dX12_setWindow_48 rfl ?_
    refine r_iload_n (pc := 49) X dX12_setWindow_49 rfl ?_
    refine r_iconst (pc := 50) X (v := 0) dX12_setWindow_50 (by decide) ?_
    refine bndE h (fun r4 M5 h6 h => ?_)
    refine r_callSi2 (pc := 51) X sy_X12_win my_X12_win ml_X12_187 ⟨Nat.le_of_ble_eq_true rfl, Nat.le_of_ble_eq_true rfl, Nat.le_of_ble_eq_true rfl, Nat.le_of_ble_eq_true rfl⟩ (c_X12_win  h6) (Nat.le_of_ble_eq_true rfl) dX12_setWindow_51 ?_
    refine r_iload_n (pc := 54) X dX12_setWindow_54 rfl ?_
    refine bndE h (fun r7 M8 h9 h => ?_)
    refine r_callVv2 (pc := 55) X ⟨(ltb rfl), (ltb rfl)⟩ rfl vy_X12_puts my_X12_puts ml_X12_39 ⟨Nat.le_of_ble_eq_true rfl, Nat.le_of_ble_eq_true rfl, Nat.le_of_ble_eq_true rfl, Nat.le_of_ble_eq_true rfl⟩ (c_X12_puts  h9) (Nat.le_of_ble_eq_true rfl) dX12_setWindow_55 ?_
    refine r_aload_n (pc := 58) X dX12_setWindow_58 rfl ?_
    refine r_iload_n (pc := 59) X dX12_setWindow_59 rfl ?_
    refine r_iconst (pc := 60) X (v := 1) dX12_setWindow_60 (by decide) ?_
    refine bndE h (fun r10 M11 h12 h => ?_)
    refine r_callSi2 (pc := 61) X sy_X12_win my_X12_win ml_X12_187 ⟨Nat.le_of_ble_eq_true rfl, Nat.le_of_ble_eq_true rfl, Nat.le_of_ble_eq_true rfl, Nat.le_of_ble_eq_true rfl⟩ (c_X12_win  h12) (Nat.le_of_ble_eq_true rfl) dX12_setWindow_61 ?_
    refine r_iload_n (pc := 64) X dX12_setWindow_64 rfl ?_
    refine bndE h (fun r13 M14 h15 h => ?_)
    refine r_callVv2 (pc := 65) X ⟨(ltb rfl), (ltb rfl)⟩ rfl vy_X12_puts my_X12_puts ml_X12_39 ⟨Nat.le_of_ble_eq_true rfl, Nat.le_of_ble_eq_true rfl, Nat.le_of_ble_eq_true rfl, Nat.le_of_ble_eq_true rfl⟩ (c_X12_puts  h15) (Nat.le_of_ble_eq_true rfl) dX12_setWindow_65 ?_
    refine r_aload_n (pc := 68) X dX12_setWindow_68 rfl ?_
    refine r_iload_n (pc := 69) X dX12_setWindow_69 rfl ?_
    refine r_iconst (pc := 70) X (v := 3) dX12_setWindow_70 (by decide) ?_
    refine bndE h (fun r16 M17 h18 h => ?_)
    refine r_callSi2 (pc := 71) X sy_X12_win my_X12_win ml_X12_187 ⟨Nat.le_of_ble_eq_true rfl, Nat.le_of_ble_eq_true rfl, Nat.le_of_ble_eq_true rfl, Nat.le_of_ble_eq_true rfl⟩ (c_X12_win  h18) (Nat.le_of_ble_eq_true rfl) dX12_setWindow_71 ?_
    refine bndE h (fun r19 M20 h21 h => ?_)
    refine r_callVi1 (pc := 74) X ⟨(ltb rfl), (ltb rfl)⟩ rfl vy_X12_its my_X12_its ml_X12_155 ⟨Nat.le_of_ble_eq_true rfl, Nat.le_of_ble_eq_true rfl, Nat.le_of_ble_eq_true rfl, Nat.le_of_ble_eq_true rfl⟩ (c_X12_its  h21) (Nat.le_of_ble_eq_true rfl) dX12_setWindow_74 ?_
    cases h
    exact r_iret (pc := 77) X hr dX12_setWindow_77
  · refine r_iconst (pc := 46) X (v := 0) dX12_setWindow_46 (by decide) ?_
    cases h
    exact r_iret (pc := 47) X hr dX12_setWindow_47
def f_X12_setWindow_34 (x1 : Int32) (x2 : Int32) (x3 : Int32) (xs0 : Int32) (M : Mem) : Option (Int32 × Mem) :=
  f_X12_setWindow_39 x1 x2 x3 1 xs0 M
set_option maxHeartbeats 4000000 in
set_option maxRecDepth 100000 in
theorem t_X12_setWindow_34 {G : GG} {A : Nat → Prop} {p : Program} {l : Launch} {e : Env} {s : State} {m : MethodId} {args : Array Value} {below : List Frame} {meth : Method} {c : Code} {r : Int32} {M' : Mem} (X : Cx G A p s m args meth c RX12 cX12_setWindow 4) (hr : meth.sig.returnType = some .int) {x1 : Int32} {x2 : Int32} {x3 : Int32} {xs0 : Int32} {M : Mem}  (h : f_X12_setWindow_34 x1 x2 x3 xs0 M = some (r, M')) : T G A p l e (rmO 2) s m args below meth c 4 0 0 (MQ below (QiO G A r M') args s 0 0 A) 34 [(0, .ref (G.2.1 (10, 0, 0))), (1, .int x1), (2, .int x2), (3, .int x3)] [.int xs0, .ref (G.2.1 (10, 0, 0))] M := by
  unfold f_X12_setWindow_34 at h
  refine r_iconst (pc := 34) X (v := 1) dX12_setWindow_34 (by decide) ?_
  refine r_goto (pc := 35) X (tgt := 39) dX12_setWindow_35 (by decide) ?_
  exact T_sub (t_X12_setWindow_39 X hr h) ⟨rfl, rfl, rfl, rfl, trivial⟩
def f_X12_setWindow_14 (x1 : Int32) (x2 : Int32) (x3 : Int32) (xs0 : Int32) (M : Mem) : Option (Int32 × Mem) :=
  bnd (f_X12_inRange x2 0 65535 M) (fun r1 M2 => if r1 = 0 then f_X12_setWindow_34 x1 x2 x3 xs0 M2 else bnd (f_X12_inRange x3 x2 65535 M2) (fun r4 M5 => if r4 = 0 then f_X12_setWindow_34 x1 x2 x3 xs0 M5 else f_X12_setWindow_39 x1 x2 x3 0 xs0 M5))
set_option maxHeartbeats 4000000 in
set_option maxRecDepth 100000 in
theorem t_X12_setWindow_14 {G : GG} {A : Nat → Prop} {p : Program} {l : Launch} {e : Env} {s : State} {m : MethodId} {args : Array Value} {below : List Frame} {meth : Method} {c : Code} {r : Int32} {M' : Mem} (X : Cx G A p s m args meth c RX12 cX12_setWindow 4) (hr : meth.sig.returnType = some .int) {x1 : Int32} {x2 : Int32} {x3 : Int32} {xs0 : Int32} {M : Mem}  (h : f_X12_setWindow_14 x1 x2 x3 xs0 M = some (r, M')) : T G A p l e (rmO 2) s m args below meth c 4 0 0 (MQ below (QiO G A r M') args s 0 0 A) 14 [(0, .ref (G.2.1 (10, 0, 0))), (1, .int x1), (2, .int x2), (3, .int x3)] [.int xs0, .ref (G.2.1 (10, 0, 0))] M := by
  unfold f_X12_setWindow_14 at h
  refine r_iload_n (pc := 14) X dX12_setWindow_14 rfl ?_
  refine r_iconst (pc := 15) X (v := 0) dX12_setWindow_15 (by decide) ?_
  refine r_ldc (pc := 16) X k_X12_247 dX12_setWindow_16 ?_
  refine bndE h (fun r1 M2 h3 h => ?_)
  refine r_callSi3 (pc := 18) X sy_X12_inRange my_X12_inRange ml_X12_22 ⟨Nat.le_of_ble_eq_true rfl, Nat.le_of_ble_eq_true rfl, Nat.le_of_ble_eq_true rfl, Nat.le_of_ble_eq_true rfl⟩ (c_X12_inRange  h3) (Nat.le_of_ble_eq_true rfl) dX12_setWindow_18 ?_
  refine r_if_eq (pc := 21) X (tgt := 34) dX12_setWindow_21 (by decide) h (fun h => ?_) (fun h => ?_)
  · exact T_sub (t_X12_setWindow_34 X hr h) ⟨rfl, rfl, rfl, rfl, trivial⟩
  · refine r_iload_n (pc := 24) X dX12_setWindow_24 rfl ?_
    refine r_iload_n (pc := 25) X dX12_setWindow_25 rfl ?_
    refine r_ldc (pc := 26) X k_X12_247 dX12_setWindow_26 ?_
    refine bndE h (fun r4 M5 h6 h => ?_)
    refine r_callSi3 (pc := 28) X sy_X12_inRange my_X12_inRange ml_X12_22 ⟨Nat.le_of_ble_eq_true rfl, Nat.le_of_ble_eq_true rfl, Nat.le_of_ble_eq_true rfl, Nat.le_of_ble_eq_true rfl⟩ (c_X12_inRange  h6) (Nat.le_of_ble_eq_true rfl) dX12_setWindow_28 ?_
    refine r_if_ne (pc := 31) X (tgt := 38) dX12_setWindow_31 (by decide) h (fun h => ?_) (fun h => ?_)
    · refine r_iconst (pc := 38) X (v := 0) dX12_setWindow_38 (by decide) ?_
      exact T_sub (t_X12_setWindow_39 X hr h) ⟨rfl, rfl, rfl, rfl, trivial⟩
    · exact T_sub (t_X12_setWindow_34 X hr h) ⟨rfl, rfl, rfl, rfl, trivial⟩
def f_X12_setWindow (x1 : Int32) (x2 : Int32) (x3 : Int32) (M : Mem) : Option (Int32 × Mem) :=
  bnd (f_X12_isWindow x1 M) (fun r1 M2 => if r1 = 0 then f_X12_setWindow_14 x1 x2 x3 1 M2 else f_X12_setWindow_14 x1 x2 x3 0 M2)
set_option maxHeartbeats 4000000 in
set_option maxRecDepth 100000 in
theorem t_X12_setWindow {G : GG} {A : Nat → Prop} {p : Program} {l : Launch} {e : Env} {s : State} {m : MethodId} {args : Array Value} {below : List Frame} {meth : Method} {c : Code} {r : Int32} {M' : Mem} (X : Cx G A p s m args meth c RX12 cX12_setWindow 4) (hr : meth.sig.returnType = some .int) {x1 : Int32} {x2 : Int32} {x3 : Int32} {M : Mem}  (h : f_X12_setWindow x1 x2 x3 M = some (r, M')) : T G A p l e (rmO 2) s m args below meth c 4 0 0 (MQ below (QiO G A r M') args s 0 0 A) 0 [(0, .ref (G.2.1 (10, 0, 0))), (1, .int x1), (2, .int x2), (3, .int x3)] [] M := by
  unfold f_X12_setWindow at h
  refine r_aload_n (pc := 0) X dX12_setWindow_0 rfl ?_
  refine r_aload_n (pc := 1) X dX12_setWindow_1 rfl ?_
  refine r_iload_n (pc := 2) X dX12_setWindow_2 rfl ?_
  refine bndE h (fun r1 M2 h3 h => ?_)
  refine r_callVi1 (pc := 3) X ⟨(ltb rfl), (ltb rfl)⟩ rfl vy_X12_isWindow my_X12_isWindow ml_X12_241 ⟨Nat.le_of_ble_eq_true rfl, Nat.le_of_ble_eq_true rfl, Nat.le_of_ble_eq_true rfl, Nat.le_of_ble_eq_true rfl⟩ (c_X12_isWindow  h3) (Nat.le_of_ble_eq_true rfl) dX12_setWindow_3 ?_
  refine r_if_ne (pc := 6) X (tgt := 13) dX12_setWindow_6 (by decide) h (fun h => ?_) (fun h => ?_)
  · refine r_iconst (pc := 13) X (v := 0) dX12_setWindow_13 (by decide) ?_
    exact T_sub (t_X12_setWindow_14 X hr h) ⟨rfl, rfl, rfl, rfl, trivial⟩
  · refine r_iconst (pc := 9) X (v := 1) dX12_setWindow_9 (by decide) ?_
    refine r_goto (pc := 10) X (tgt := 14) dX12_setWindow_10 (by decide) ?_
    exact T_sub (t_X12_setWindow_14 X hr h) ⟨rfl, rfl, rfl, rfl, trivial⟩
theorem c_X12_setWindow {G : GG} {l : Launch} {x1 : Int32} {x2 : Int32} {x3 : Int32} {r : Int32} {M M' : Mem}  (h : f_X12_setWindow x1 x2 x3 M = some (r, M')) : Met l yX12_setWindow (wsO yX12_setWindow cX12_setWindow 4 (some .int)) (rmO 2) (PcO G [.ref (G.2.1 (10, 0, 0)), .int x1, .int x2, .int x3] M) (QiO G (AA G) r M') 0 0 (AA G) :=
  met_of (own := RX12) rfl (by decide +kernel) (Nat.le_of_ble_eq_true rfl) (fun p e s m args below meth c X hr => t_X12_setWindow X hr  h)
-- ConverterScannerModel.setPace
def f_X12_setPace_17 (x1 : Int32) (xs0 : Int32) (M : Mem) : Option (Int32 × Mem) :=
  bnd (f_X12_fails xs0 0 0 M) (fun r1 M2 => if r1 = 0 then bnd (f_X12_its 10 M2) (fun r4 M5 => bnd (f_X12_puts 10 x1 M5) (fun r7 M8 => some (r4, M8))) else some (0, M2))
set_option maxHeartbeats 4000000 in
set_option maxRecDepth 100000 in
theorem t_X12_setPace_17 {G : GG} {A : Nat → Prop} {p : Program} {l : Launch} {e : Env} {s : State} {m : MethodId} {args : Array Value} {below : List Frame} {meth : Method} {c : Code} {r : Int32} {M' : Mem} (X : Cx G A p s m args meth c RX12 cX12_setPace 3) (hr : meth.sig.returnType = some .int) {x1 : Int32} {xs0 : Int32} {M : Mem}  (h : f_X12_setPace_17 x1 xs0 M = some (r, M')) : T G A p l e (rmO 1) s m args below meth c 3 0 0 (MQ below (QiO G A r M') args s 0 0 A) 17 [(0, .ref (G.2.1 (10, 0, 0))), (1, .int x1)] [.int xs0, .ref (G.2.1 (10, 0, 0))] M := by
  unfold f_X12_setPace_17 at h
  refine r_iconst (pc := 17) X (v := 0) dX12_setPace_17 (by decide) ?_
  refine r_iconst (pc := 18) X (v := 0) dX12_setPace_18 (by decide) ?_
  refine bndE h (fun r1 M2 h3 h => ?_)
  refine r_callVi3 (pc := 19) X ⟨(ltb rfl), (ltb rfl)⟩ rfl vy_X12_fails my_X12_fails ml_X12_14 ⟨Nat.le_of_ble_eq_true rfl, Nat.le_of_ble_eq_true rfl, Nat.le_of_ble_eq_true rfl, Nat.le_of_ble_eq_true rfl⟩ (c_X12_fails  h3) (Nat.le_of_ble_eq_true rfl) dX12_setPace_19 ?_
  refine r_if_eq (pc := 22) X (tgt := 27) dX12_setPace_22 (by decide) h (fun h => ?_) (fun h => ?_)
  · refine r_aload_n (pc := 27) X dX12_setPace_27 rfl ?_
    refine r_bipush (pc := 28) X (v := 10) dX12_setPace_28 (by decide) ?_
    refine bndE h (fun r4 M5 h6 h => ?_)
    refine r_callVi1 (pc := 30) X ⟨(ltb rfl), (ltb rfl)⟩ rfl vy_X12_its my_X12_its ml_X12_155 ⟨Nat.le_of_ble_eq_true rfl, Nat.le_of_ble_eq_true rfl, Nat.le_of_ble_eq_true rfl, Nat.le_of_ble_eq_true rfl⟩ (c_X12_its  h6) (Nat.le_of_ble_eq_true rfl) dX12_setPace_30 ?_
    refine r_istore_n (pc := 33) X (by decide) dX12_setPace_33 ?_
    refine r_aload_n (pc := 34) X dX12_setPace_34 rfl ?_
    refine r_bipush (pc := 35) X (v := 10) dX12_setPace_35 (by decide) ?_
    refine r_iload_n (pc := 37) X dX12_setPace_37 rfl ?_
    refine bndE h (fun r7 M8 h9 h => ?_)
    refine r_callVv2 (pc := 38) X ⟨(ltb rfl), (ltb rfl)⟩ rfl vy_X12_puts my_X12_puts ml_X12_39 ⟨Nat.le_of_ble_eq_true rfl, Nat.le_of_ble_eq_true rfl, Nat.le_of_ble_eq_true rfl, Nat.le_of_ble_eq_true rfl⟩ (c_X12_puts  h9) (Nat.le_of_ble_eq_true rfl) dX12_setPace_38 ?_
    refine r_iload_n (pc := 41) X dX12_setPace_41 rfl ?_
    cases h
    exact r_iret (pc := 42) X hr dX12_setPace_42
  · refine r_iconst (pc := 25) X (v := 0) dX12_setPace_25 (by decide) ?_
    cases h
    exact r_iret (pc := 26) X hr dX12_setPace_26
def f_X12_setPace (x1 : Int32) (M : Mem) : Option (Int32 × Mem) :=
  bnd (f_X12_inRange x1 0 999 M) (fun r1 M2 => if r1 = 0 then f_X12_setPace_17 x1 1 M2 else f_X12_setPace_17 x1 0 M2)
set_option maxHeartbeats 4000000 in
set_option maxRecDepth 100000 in
theorem t_X12_setPace {G : GG} {A : Nat → Prop} {p : Program} {l : Launch} {e : Env} {s : State} {m : MethodId} {args : Array Value} {below : List Frame} {meth : Method} {c : Code} {r : Int32} {M' : Mem} (X : Cx G A p s m args meth c RX12 cX12_setPace 3) (hr : meth.sig.returnType = some .int) {x1 : Int32} {M : Mem}  (h : f_X12_setPace x1 M = some (r, M')) : T G A p l e (rmO 1) s m args below meth c 3 0 0 (MQ below (QiO G A r M') args s 0 0 A) 0 [(0, .ref (G.2.1 (10, 0, 0))), (1, .int x1)] [] M := by
  unfold f_X12_setPace at h
  refine r_aload_n (pc := 0) X dX12_setPace_0 rfl ?_
  refine r_iload_n (pc := 1) X dX12_setPace_1 rfl ?_
  refine r_iconst (pc := 2) X (v := 0) dX12_setPace_2 (by decide) ?_
  refine r_sipush (pc := 3) X (v := 999) dX12_setPace_3 (by decide) ?_
  refine bndE h (fun r1 M2 h3 h => ?_)
  refine r_callSi3 (pc := 6) X sy_X12_inRange my_X12_inRange ml_X12_22 ⟨Nat.le_of_ble_eq_true rfl, Nat.le_of_ble_eq_true rfl, Nat.le_of_ble_eq_true rfl, Nat.le_of_ble_eq_true rfl⟩ (c_X12_inRange  h3) (Nat.le_of_ble_eq_true rfl) dX12_setPace_6 ?_
  refine r_if_ne (pc := 9) X (tgt := 16) dX12_setPace_9 (by decide) h (fun h => ?_) (fun h => ?_)
  · refine r_iconst (pc := 16) X (v := 0) dX12_setPace_16 (by decide) ?_
    exact T_sub (t_X12_setPace_17 X hr h) ⟨rfl, rfl, trivial⟩
  · refine r_iconst (pc := 12) X (v := 1) dX12_setPace_12 (by decide) ?_
    refine r_goto (pc := 13) X (tgt := 17) dX12_setPace_13 (by decide) ?_
    exact T_sub (t_X12_setPace_17 X hr h) ⟨rfl, rfl, trivial⟩
theorem c_X12_setPace {G : GG} {l : Launch} {x1 : Int32} {r : Int32} {M M' : Mem}  (h : f_X12_setPace x1 M = some (r, M')) : Met l yX12_setPace (wsO yX12_setPace cX12_setPace 3 (some .int)) (rmO 1) (PcO G [.ref (G.2.1 (10, 0, 0)), .int x1] M) (QiO G (AA G) r M') 0 0 (AA G) :=
  met_of (own := RX12) rfl (by decide +kernel) (Nat.le_of_ble_eq_true rfl) (fun p e s m args below meth c X hr => t_X12_setPace X hr  h)
-- ConverterScannerModel.state
def f_X12_state_16 (x1 : Int32) (xs0 : Int32) (M : Mem) : Option (Int32 × Mem) :=
  bnd (f_X12_fails xs0 0 0 M) (fun r1 M2 => if r1 = 0 then if x1 = 0 then bnd (f_X12_its 0 M2) (fun r4 M5 => some (r4, M5)) else if x1 = 1 then bnd (f_X12_its 1 M2) (fun r7 M8 => some (r7, M8)) else if x1 = 2 then bnd (f_X12_its 1 M2) (fun r10 M11 => if r10 = 0 then some ((-1), M11) else bnd (f_X12_its 2 M11) (fun r13 M14 => some (r13, M14))) else if x1 = 3 then bnd (f_X12_its 1 M2) (fun r16 M17 => if r16 = 0 then some ((-1), M17) else bnd (f_X12_its 3 M17) (fun r19 M20 => some (r19, M20))) else if x1 = 4 then bnd (f_X12_its 6 M2) (fun r22 M23 => some (r22, M23)) else if x1 = 5 then bnd (f_X12_its 7 M2) (fun r25 M26 => some (r25, M26)) else if x1 = 6 then bnd (f_X12_its 8 M2) (fun r28 M29 => some (r28, M29)) else if x1 = 7 then bnd (f_X12_its 9 M2) (fun r31 M32 => some (r31, M32)) else if x1 = 8 then bnd (f_X12_its 10 M2) (fun r34 M35 => some (r34, M35)) else if x1 = 9 then bnd (f_X12_its 11 M2) (fun r37 M38 => some (r37, M38)) else if bad 8 104 then none else some ((M2.1 (31, 0, 0) (Int32.toNatClampNeg 8)), M2) else some (0, M2))
set_option maxHeartbeats 4000000 in
set_option maxRecDepth 100000 in
theorem t_X12_state_16 {G : GG} {A : Nat → Prop} {p : Program} {l : Launch} {e : Env} {s : State} {m : MethodId} {args : Array Value} {below : List Frame} {meth : Method} {c : Code} {r : Int32} {M' : Mem} (X : Cx G A p s m args meth c RX12 cX12_state 2) (hr : meth.sig.returnType = some .int) {x1 : Int32} {xs0 : Int32} {M : Mem}  (h : f_X12_state_16 x1 xs0 M = some (r, M')) : T G A p l e (rmO 1) s m args below meth c 2 0 0 (MQ below (QiO G A r M') args s 0 0 A) 16 [(0, .ref (G.2.1 (10, 0, 0))), (1, .int x1)] [.int xs0, .ref (G.2.1 (10, 0, 0))] M := by
  unfold f_X12_state_16 at h
  refine r_iconst (pc := 16) X (v := 0) dX12_state_16 (by decide) ?_
  refine r_iconst (pc := 17) X (v := 0) dX12_state_17 (by decide) ?_
  refine bndE h (fun r1 M2 h3 h => ?_)
  refine r_callVi3 (pc := 18) X ⟨(ltb rfl), (ltb rfl)⟩ rfl vy_X12_fails my_X12_fails ml_X12_14 ⟨Nat.le_of_ble_eq_true rfl, Nat.le_of_ble_eq_true rfl, Nat.le_of_ble_eq_true rfl, Nat.le_of_ble_eq_true rfl⟩ (c_X12_fails  h3) (Nat.le_of_ble_eq_true rfl) dX12_state_18 ?_
  refine r_if_eq (pc := 21) X (tgt := 26) dX12_state_21 (by decide) h (fun h => ?_) (fun h => ?_)
  · refine r_iload_n (pc := 26) X dX12_state_26 rfl ?_
    refine swc h (fun hq h => ?_) (fun hs0 h => ?_)
    · refine r_swInE (pc := 27) X hq (off := 53) (tgt := 80) dX12_state_27 (by decide) (by decide) (by decide) (by decide) ?_
      refine r_aload_n (pc := 80) X dX12_state_80 rfl ?_
      refine r_iconst (pc := 81) X (v := 0) dX12_state_81 (by decide) ?_
      refine bndE h (fun r4 M5 h6 h => ?_)
      refine r_callVi1 (pc := 82) X ⟨(ltb rfl), (ltb rfl)⟩ rfl vy_X12_its my_X12_its ml_X12_155 ⟨Nat.le_of_ble_eq_true rfl, Nat.le_of_ble_eq_true rfl, Nat.le_of_ble_eq_true rfl, Nat.le_of_ble_eq_true rfl⟩ (c_X12_its  h6) (Nat.le_of_ble_eq_true rfl) dX12_state_82 ?_
      cases h
      exact r_iret (pc := 85) X hr dX12_state_85
    refine swc h (fun hq h => ?_) (fun hs1 h => ?_)
    · refine r_swInE (pc := 27) X hq (off := 59) (tgt := 86) dX12_state_27 (by decide) (by decide) (by decide) (by decide) ?_
      refine r_aload_n (pc := 86) X dX12_state_86 rfl ?_
      refine r_iconst (pc := 87) X (v := 1) dX12_state_87 (by decide) ?_
      refine bndE h (fun r7 M8 h9 h => ?_)
      refine r_callVi1 (pc := 88) X ⟨(ltb rfl), (ltb rfl)⟩ rfl vy_X12_its my_X12_its ml_X12_155 ⟨Nat.le_of_ble_eq_true rfl, Nat.le_of_ble_eq_true rfl, Nat.le_of_ble_eq_true rfl, Nat.le_of_ble_eq_true rfl⟩ (c_X12_its  h9) (Nat.le_of_ble_eq_true rfl) dX12_state_88 ?_
      cases h
      exact r_iret (pc := 91) X hr dX12_state_91
    refine swc h (fun hq h => ?_) (fun hs2 h => ?_)
    · refine r_swInE (pc := 27) X hq (off := 65) (tgt := 92) dX12_state_27 (by decide) (by decide) (by decide) (by decide) ?_
      refine r_aload_n (pc := 92) X dX12_state_92 rfl ?_
      refine r_iconst (pc := 93) X (v := 1) dX12_state_93 (by decide) ?_
      refine bndE h (fun r10 M11 h12 h => ?_)
      refine r_callVi1 (pc := 94) X ⟨(ltb rfl), (ltb rfl)⟩ rfl vy_X12_its my_X12_its ml_X12_155 ⟨Nat.le_of_ble_eq_true rfl, Nat.le_of_ble_eq_true rfl, Nat.le_of_ble_eq_true rfl, Nat.le_of_ble_eq_true rfl⟩ (c_X12_its  h12) (Nat.le_of_ble_eq_true rfl) dX12_state_94 ?_
      refine r_if_ne (pc := 97) X (tgt := 104) dX12_state_97 (by decide) h (fun h => ?_) (fun h => ?_)
      · refine r_aload_n (pc := 104) X dX12_state_104 rfl ?_
        refine r_iconst (pc := 105) X (v := 2) dX12_state_105 (by decide) ?_
        refine bndE h (fun r13 M14 h15 h => ?_)
        refine r_callVi1 (pc := 106) X ⟨(ltb rfl), (ltb rfl)⟩ rfl vy_X12_its my_X12_its ml_X12_155 ⟨Nat.le_of_ble_eq_true rfl, Nat.le_of_ble_eq_true rfl, Nat.le_of_ble_eq_true rfl, Nat.le_of_ble_eq_true rfl⟩ (c_X12_its  h15) (Nat.le_of_ble_eq_true rfl) dX12_state_106 ?_
        cases h
        exact r_iret (pc := 109) X hr dX12_state_109
      · refine r_iconst (pc := 100) X (v := (-1)) dX12_state_100 (by decide) ?_
        refine r_goto (pc := 101) X (tgt := 109) dX12_state_101 (by decide) ?_
        cases h
        exact r_iret (pc := 109) X hr dX12_state_109
    refine swc h (fun hq h => ?_) (fun hs3 h => ?_)
    · refine r_swInE (pc := 27) X hq (off := 83) (tgt := 110) dX12_state_27 (by decide) (by decide) (by decide) (by decide) ?_
      refine r_aload_n (pc := 110) X dX12_state_110 rfl ?_
      refine r_iconst (pc := 111) X (v := 1) dX12_state_111 (by decide) ?_
      refine bndE h (fun r16 M17 h18 h => ?_)
      refine r_callVi1 (pc := 112) X ⟨(ltb rfl), (ltb rfl)⟩ rfl vy_X12_its my_X12_its ml_X12_155 ⟨Nat.le_of_ble_eq_true rfl, Nat.le_of_ble_eq_true rfl, Nat.le_of_ble_eq_true rfl, Nat.le_of_ble_eq_true rfl⟩ (c_X12_its  h18) (Nat.le_of_ble_eq_true rfl) dX12_state_112 ?_
      refine r_if_ne (pc := 115) X (tgt := 122) dX12_state_115 (by decide) h (fun h => ?_) (fun h => ?_)
      · refine r_aload_n (pc := 122) X dX12_state_122 rfl ?_
        refine r_iconst (pc := 123) X (v := 3) dX12_state_123 (by decide) ?_
        refine bndE h (fun r19 M20 h21 h => ?_)
        refine r_callVi1 (pc := 124) X ⟨(ltb rfl), (ltb rfl)⟩ rfl vy_X12_its my_X12_its ml_X12_155 ⟨Nat.le_of_ble_eq_true rfl, Nat.le_of_ble_eq_true rfl, Nat.le_of_ble_eq_true rfl, Nat.le_of_ble_eq_true rfl⟩ (c_X12_its  h21) (Nat.le_of_ble_eq_true rfl) dX12_state_124 ?_
        cases h
        exact r_iret (pc := 127) X hr dX12_state_127
      · refine r_iconst (pc := 118) X (v := (-1)) dX12_state_118 (by decide) ?_
        refine r_goto (pc := 119) X (tgt := 127) dX12_state_119 (by decide) ?_
        cases h
        exact r_iret (pc := 127) X hr dX12_state_127
    refine swc h (fun hq h => ?_) (fun hs4 h => ?_)
    · refine r_swInE (pc := 27) X hq (off := 101) (tgt := 128) dX12_state_27 (by decide) (by decide) (by decide) (by decide) ?_
      refine r_aload_n (pc := 128) X dX12_state_128 rfl ?_
      refine r_bipush (pc := 129) X (v := 6) dX12_state_129 (by decide) ?_
      refine bndE h (fun r22 M23 h24 h => ?_)
      refine r_callVi1 (pc := 131) X ⟨(ltb rfl), (ltb rfl)⟩ rfl vy_X12_its my_X12_its ml_X12_155 ⟨Nat.le_of_ble_eq_true rfl, Nat.le_of_ble_eq_true rfl, Nat.le_of_ble_eq_true rfl, Nat.le_of_ble_eq_true rfl⟩ (c_X12_its  h24) (Nat.le_of_ble_eq_true rfl) dX12_state_131 ?_
      cases h
      exact r_iret (pc := 134) X hr dX12_state_134
    refine swc h (fun hq h => ?_) (fun hs5 h => ?_)
    · refine r_swInE (pc := 27) X hq (off := 108) (tgt := 135) dX12_state_27 (by decide) (by decide) (by decide) (by decide) ?_
      refine r_aload_n (pc := 135) X dX12_state_135 rfl ?_
      refine r_bipush (pc := 136) X (v := 7) dX12_state_136 (by decide) ?_
      refine bndE h (fun r25 M26 h27 h => ?_)
      refine r_callVi1 (pc := 138) X ⟨(ltb rfl), (ltb rfl)⟩ rfl vy_X12_its my_X12_its ml_X12_155 ⟨Nat.le_of_ble_eq_true rfl, Nat.le_of_ble_eq_true rfl, Nat.le_of_ble_eq_true rfl, Nat.le_of_ble_eq_true rfl⟩ (c_X12_its  h27) (Nat.le_of_ble_eq_true rfl) dX12_state_138 ?_
      cases h
      exact r_iret (pc := 141) X hr dX12_state_141
    refine swc h (fun hq h => ?_) (fun hs6 h => ?_)
    · refine r_swInE (pc := 27) X hq (off := 115) (tgt := 142) dX12_state_27 (by decide) (by decide) (by decide) (by decide) ?_
      refine r_aload_n (pc := 142) X dX12_state_142 rfl ?_
      refine r_bipush (pc := 143) X (v := 8) dX12_state_143 (by decide) ?_
      refine bndE h (fun r28 M29 h30 h => ?_)
      refine r_callVi1 (pc := 145) X ⟨(ltb rfl), (ltb rfl)⟩ rfl vy_X12_its my_X12_its ml_X12_155 ⟨Nat.le_of_ble_eq_true rfl, Nat.le_of_ble_eq_true rfl, Nat.le_of_ble_eq_true rfl, Nat.le_of_ble_eq_true rfl⟩ (c_X12_its  h30) (Nat.le_of_ble_eq_true rfl) dX12_state_145 ?_
      cases h
      exact r_iret (pc := 148) X hr dX12_state_148
    refine swc h (fun hq h => ?_) (fun hs7 h => ?_)
    · refine r_swInE (pc := 27) X hq (off := 122) (tgt := 149) dX12_state_27 (by decide) (by decide) (by decide) (by decide) ?_
      refine r_aload_n (pc := 149) X dX12_state_149 rfl ?_
      refine r_bipush (pc := 150) X (v := 9) dX12_state_150 (by decide) ?_
      refine bndE h (fun r31 M32 h33 h => ?_)
      refine r_callVi1 (pc := 152) X ⟨(ltb rfl), (ltb rfl)⟩ rfl vy_X12_its my_X12_its ml_X12_155 ⟨Nat.le_of_ble_eq_true rfl, Nat.le_of_ble_eq_true rfl, Nat.le_of_ble_eq_true rfl, Nat.le_of_ble_eq_true rfl⟩ (c_X12_its  h33) (Nat.le_of_ble_eq_true rfl) dX12_state_152 ?_
      cases h
      exact r_iret (pc := 155) X hr dX12_state_155
    refine swc h (fun hq h => ?_) (fun hs8 h => ?_)
    · refine r_swInE (pc := 27) X hq (off := 129) (tgt := 156) dX12_state_27 (by decide) (by decide) (by decide) (by decide) ?_
      refine r_aload_n (pc := 156) X dX12_state_156 rfl ?_
      refine r_bipush (pc := 157) X (v := 10) dX12_state_157 (by decide) ?_
      refine bndE h (fun r34 M35 h36 h => ?_)
      refine r_callVi1 (pc := 159) X ⟨(ltb rfl), (ltb rfl)⟩ rfl vy_X12_its my_X12_its ml_X12_155 ⟨Nat.le_of_ble_eq_true rfl, Nat.le_of_ble_eq_true rfl, Nat.le_of_ble_eq_true rfl, Nat.le_of_ble_eq_true rfl⟩ (c_X12_its  h36) (Nat.le_of_ble_eq_true rfl) dX12_state_159 ?_
      cases h
      exact r_iret (pc := 162) X hr dX12_state_162
    refine swc h (fun hq h => ?_) (fun hs9 h => ?_)
    · refine r_swInE (pc := 27) X hq (off := 136) (tgt := 163) dX12_state_27 (by decide) (by decide) (by decide) (by decide) ?_
      refine r_aload_n (pc := 163) X dX12_state_163 rfl ?_
      refine r_bipush (pc := 164) X (v := 11) dX12_state_164 (by decide) ?_
      refine bndE h (fun r37 M38 h39 h => ?_)
      refine r_callVi1 (pc := 166) X ⟨(ltb rfl), (ltb rfl)⟩ rfl vy_X12_its my_X12_its ml_X12_155 ⟨Nat.le_of_ble_eq_true rfl, Nat.le_of_ble_eq_true rfl, Nat.le_of_ble_eq_true rfl, Nat.le_of_ble_eq_true rfl⟩ (c_X12_its  h39) (Nat.le_of_ble_eq_true rfl) dX12_state_166 ?_
      cases h
      exact r_iret (pc := 169) X hr dX12_state_169
    · refine r_swOut (pc := 27) X (tgt := 170) dX12_state_27 (by have z0 := lv_neT (a := 0) hs0 (by decide); have z1 := lv_neT (a := 1) hs1 (by decide); have z2 := lv_neT (a := 2) hs2 (by decide); have z3 := lv_neT (a := 3) hs3 (by decide); have z4 := lv_neT (a := 4) hs4 (by decide); have z5 := lv_neT (a := 5) hs5 (by decide); have z6 := lv_neT (a := 6) hs6 (by decide); have z7 := lv_neT (a := 7) hs7 (by decide); have z8 := lv_neT (a := 8) hs8 (by decide); have z9 := lv_neT (a := 9) hs9 (by decide); omega) (by decide) ?_
      refine r_aload_n (pc := 170) X dX12_state_170 rfl ?_
      refine r_getR (q := (31, 0, 0)) (pc := 171) X ⟨(ltb rfl), (ltb rfl)⟩ fl_X12_26 rfl dX12_state_171 ?_
      refine r_bipush (pc := 174) X (v := 8) dX12_state_174 (by decide) ?_
      refine r_iald (pc := 176) X (n := 104) ⟨(ltb rfl), (ltb rfl)⟩ rfl (nlt rfl) dX12_state_176 h (fun h => ?_)
      cases h
      exact r_iret (pc := 177) X hr dX12_state_177
  · refine r_iconst (pc := 24) X (v := 0) dX12_state_24 (by decide) ?_
    cases h
    exact r_iret (pc := 25) X hr dX12_state_25
def f_X12_state (x1 : Int32) (M : Mem) : Option (Int32 × Mem) :=
  bnd (f_X12_inRange x1 0 10 M) (fun r1 M2 => if r1 = 0 then f_X12_state_16 x1 1 M2 else f_X12_state_16 x1 0 M2)
set_option maxHeartbeats 4000000 in
set_option maxRecDepth 100000 in
theorem t_X12_state {G : GG} {A : Nat → Prop} {p : Program} {l : Launch} {e : Env} {s : State} {m : MethodId} {args : Array Value} {below : List Frame} {meth : Method} {c : Code} {r : Int32} {M' : Mem} (X : Cx G A p s m args meth c RX12 cX12_state 2) (hr : meth.sig.returnType = some .int) {x1 : Int32} {M : Mem}  (h : f_X12_state x1 M = some (r, M')) : T G A p l e (rmO 1) s m args below meth c 2 0 0 (MQ below (QiO G A r M') args s 0 0 A) 0 [(0, .ref (G.2.1 (10, 0, 0))), (1, .int x1)] [] M := by
  unfold f_X12_state at h
  refine r_aload_n (pc := 0) X dX12_state_0 rfl ?_
  refine r_iload_n (pc := 1) X dX12_state_1 rfl ?_
  refine r_iconst (pc := 2) X (v := 0) dX12_state_2 (by decide) ?_
  refine r_bipush (pc := 3) X (v := 10) dX12_state_3 (by decide) ?_
  refine bndE h (fun r1 M2 h3 h => ?_)
  refine r_callSi3 (pc := 5) X sy_X12_inRange my_X12_inRange ml_X12_22 ⟨Nat.le_of_ble_eq_true rfl, Nat.le_of_ble_eq_true rfl, Nat.le_of_ble_eq_true rfl, Nat.le_of_ble_eq_true rfl⟩ (c_X12_inRange  h3) (Nat.le_of_ble_eq_true rfl) dX12_state_5 ?_
  refine r_if_ne (pc := 8) X (tgt := 15) dX12_state_8 (by decide) h (fun h => ?_) (fun h => ?_)
  · refine r_iconst (pc := 15) X (v := 0) dX12_state_15 (by decide) ?_
    exact T_sub (t_X12_state_16 X hr h) ⟨rfl, rfl, trivial⟩
  · refine r_iconst (pc := 11) X (v := 1) dX12_state_11 (by decide) ?_
    refine r_goto (pc := 12) X (tgt := 16) dX12_state_12 (by decide) ?_
    exact T_sub (t_X12_state_16 X hr h) ⟨rfl, rfl, trivial⟩
theorem c_X12_state {G : GG} {l : Launch} {x1 : Int32} {r : Int32} {M M' : Mem}  (h : f_X12_state x1 M = some (r, M')) : Met l yX12_state (wsO yX12_state cX12_state 2 (some .int)) (rmO 1) (PcO G [.ref (G.2.1 (10, 0, 0)), .int x1] M) (QiO G (AA G) r M') 0 0 (AA G) :=
  met_of (own := RX12) rfl (by decide +kernel) (Nat.le_of_ble_eq_true rfl) (fun p e s m args below meth c X hr => t_X12_state X hr  h)
-- ConverterScannerModel.sequence
def f_X12_sequence_35 (x2 : Int32) (xs0 : Int32) (M : Mem) : Option (Int32 × Mem) :=
  if x2 = 0 then bnd (f_X12_entries xs0 M) (fun r7 M8 => some (r7, M8)) else bnd (f_X12_seq xs0 (x2 - 1) M) (fun r1 M2 => bnd (f_X12_its r1 M2) (fun r4 M5 => some (r4, M5)))
set_option maxHeartbeats 4000000 in
set_option maxRecDepth 100000 in
theorem t_X12_sequence_35 {G : GG} {A : Nat → Prop} {p : Program} {l : Launch} {e : Env} {s : State} {m : MethodId} {args : Array Value} {below : List Frame} {meth : Method} {c : Code} {r : Int32} {M' : Mem} (X : Cx G A p s m args meth c RX12 cX12_sequence 4) (hr : meth.sig.returnType = some .int) {x2 : Int32} {xs0 : Int32} {M : Mem}  (h : f_X12_sequence_35 x2 xs0 M = some (r, M')) : T G A p l e (rmO 1) s m args below meth c 4 0 0 (MQ below (QiO G A r M') args s 0 0 A) 35 [(0, .ref (G.2.1 (10, 0, 0))), (2, .int x2)] [.int xs0] M := by
  unfold f_X12_sequence_35 at h
  refine r_istore_n (pc := 35) X (by decide) dX12_sequence_35 ?_
  refine r_iload_n (pc := 36) X dX12_sequence_36 rfl ?_
  refine r_if_ne (pc := 37) X (tgt := 48) dX12_sequence_37 (by decide) h (fun h => ?_) (fun h => ?_)
  · refine r_aload_n (pc := 48) X dX12_sequence_48 rfl ?_
    refine r_iload_n (pc := 49) X dX12_sequence_49 rfl ?_
    refine r_iload_n (pc := 50) X dX12_sequence_50 rfl ?_
    refine r_iconst (pc := 51) X (v := 1) dX12_sequence_51 (by decide) ?_
    refine r_isub (pc := 52) X dX12_sequence_52 ?_
    refine bndE h (fun r1 M2 h3 h => ?_)
    refine r_callSi2 (pc := 53) X sy_X12_seq my_X12_seq ml_X12_43 ⟨Nat.le_of_ble_eq_true rfl, Nat.le_of_ble_eq_true rfl, Nat.le_of_ble_eq_true rfl, Nat.le_of_ble_eq_true rfl⟩ (c_X12_seq  h3) (Nat.le_of_ble_eq_true rfl) dX12_sequence_53 ?_
    refine bndE h (fun r4 M5 h6 h => ?_)
    refine r_callVi1 (pc := 56) X ⟨(ltb rfl), (ltb rfl)⟩ rfl vy_X12_its my_X12_its ml_X12_155 ⟨Nat.le_of_ble_eq_true rfl, Nat.le_of_ble_eq_true rfl, Nat.le_of_ble_eq_true rfl, Nat.le_of_ble_eq_true rfl⟩ (c_X12_its  h6) (Nat.le_of_ble_eq_true rfl) dX12_sequence_56 ?_
    cases h
    exact r_iret (pc := 59) X hr dX12_sequence_59
  · refine r_aload_n (pc := 40) X dX12_sequence_40 rfl ?_
    refine r_iload_n (pc := 41) X dX12_sequence_41 rfl ?_
    refine bndE h (fun r7 M8 h9 h => ?_)
    refine r_callVi1 (pc := 42) X ⟨(ltb rfl), (ltb rfl)⟩ rfl vy_X12_entries my_X12_entries ml_X12_165 ⟨Nat.le_of_ble_eq_true rfl, Nat.le_of_ble_eq_true rfl, Nat.le_of_ble_eq_true rfl, Nat.le_of_ble_eq_true rfl⟩ (c_X12_entries  h9) (Nat.le_of_ble_eq_true rfl) dX12_sequence_42 ?_
    refine r_goto (pc := 45) X (tgt := 59) dX12_sequence_45 (by decide) ?_
    cases h
    exact r_iret (pc := 59) X hr dX12_sequence_59
def f_X12_sequence_16 (x1 : Int32) (x2 : Int32) (xs0 : Int32) (M : Mem) : Option (Int32 × Mem) :=
  bnd (f_X12_fails xs0 0 0 M) (fun r1 M2 => if r1 = 0 then if x1 = 0 then f_X12_sequence_35 x2 0 M2 else f_X12_sequence_35 x2 1 M2 else some (0, M2))
set_option maxHeartbeats 4000000 in
set_option maxRecDepth 100000 in
theorem t_X12_sequence_16 {G : GG} {A : Nat → Prop} {p : Program} {l : Launch} {e : Env} {s : State} {m : MethodId} {args : Array Value} {below : List Frame} {meth : Method} {c : Code} {r : Int32} {M' : Mem} (X : Cx G A p s m args meth c RX12 cX12_sequence 4) (hr : meth.sig.returnType = some .int) {x1 : Int32} {x2 : Int32} {xs0 : Int32} {M : Mem}  (h : f_X12_sequence_16 x1 x2 xs0 M = some (r, M')) : T G A p l e (rmO 1) s m args below meth c 4 0 0 (MQ below (QiO G A r M') args s 0 0 A) 16 [(0, .ref (G.2.1 (10, 0, 0))), (1, .int x1), (2, .int x2)] [.int xs0, .ref (G.2.1 (10, 0, 0))] M := by
  unfold f_X12_sequence_16 at h
  refine r_iconst (pc := 16) X (v := 0) dX12_sequence_16 (by decide) ?_
  refine r_iconst (pc := 17) X (v := 0) dX12_sequence_17 (by decide) ?_
  refine bndE h (fun r1 M2 h3 h => ?_)
  refine r_callVi3 (pc := 18) X ⟨(ltb rfl), (ltb rfl)⟩ rfl vy_X12_fails my_X12_fails ml_X12_14 ⟨Nat.le_of_ble_eq_true rfl, Nat.le_of_ble_eq_true rfl, Nat.le_of_ble_eq_true rfl, Nat.le_of_ble_eq_true rfl⟩ (c_X12_fails  h3) (Nat.le_of_ble_eq_true rfl) dX12_sequence_18 ?_
  refine r_if_eq (pc := 21) X (tgt := 26) dX12_sequence_21 (by decide) h (fun h => ?_) (fun h => ?_)
  · refine r_iload_n (pc := 26) X dX12_sequence_26 rfl ?_
    refine r_if_eq (pc := 27) X (tgt := 34) dX12_sequence_27 (by decide) h (fun h => ?_) (fun h => ?_)
    · refine r_iconst (pc := 34) X (v := 0) dX12_sequence_34 (by decide) ?_
      exact T_sub (t_X12_sequence_35 X hr h) ⟨rfl, rfl, trivial⟩
    · refine r_iconst (pc := 30) X (v := 1) dX12_sequence_30 (by decide) ?_
      refine r_goto (pc := 31) X (tgt := 35) dX12_sequence_31 (by decide) ?_
      exact T_sub (t_X12_sequence_35 X hr h) ⟨rfl, rfl, trivial⟩
  · refine r_iconst (pc := 24) X (v := 0) dX12_sequence_24 (by decide) ?_
    cases h
    exact r_iret (pc := 25) X hr dX12_sequence_25
def f_X12_sequence (x1 : Int32) (x2 : Int32) (M : Mem) : Option (Int32 × Mem) :=
  bnd (f_X12_inRange x2 0 7 M) (fun r1 M2 => if r1 = 0 then f_X12_sequence_16 x1 x2 1 M2 else f_X12_sequence_16 x1 x2 0 M2)
set_option maxHeartbeats 4000000 in
set_option maxRecDepth 100000 in
theorem t_X12_sequence {G : GG} {A : Nat → Prop} {p : Program} {l : Launch} {e : Env} {s : State} {m : MethodId} {args : Array Value} {below : List Frame} {meth : Method} {c : Code} {r : Int32} {M' : Mem} (X : Cx G A p s m args meth c RX12 cX12_sequence 4) (hr : meth.sig.returnType = some .int) {x1 : Int32} {x2 : Int32} {M : Mem}  (h : f_X12_sequence x1 x2 M = some (r, M')) : T G A p l e (rmO 1) s m args below meth c 4 0 0 (MQ below (QiO G A r M') args s 0 0 A) 0 [(0, .ref (G.2.1 (10, 0, 0))), (1, .int x1), (2, .int x2)] [] M := by
  unfold f_X12_sequence at h
  refine r_aload_n (pc := 0) X dX12_sequence_0 rfl ?_
  refine r_iload_n (pc := 1) X dX12_sequence_1 rfl ?_
  refine r_iconst (pc := 2) X (v := 0) dX12_sequence_2 (by decide) ?_
  refine r_bipush (pc := 3) X (v := 7) dX12_sequence_3 (by decide) ?_
  refine bndE h (fun r1 M2 h3 h => ?_)
  refine r_callSi3 (pc := 5) X sy_X12_inRange my_X12_inRange ml_X12_22 ⟨Nat.le_of_ble_eq_true rfl, Nat.le_of_ble_eq_true rfl, Nat.le_of_ble_eq_true rfl, Nat.le_of_ble_eq_true rfl⟩ (c_X12_inRange  h3) (Nat.le_of_ble_eq_true rfl) dX12_sequence_5 ?_
  refine r_if_ne (pc := 8) X (tgt := 15) dX12_sequence_8 (by decide) h (fun h => ?_) (fun h => ?_)
  · refine r_iconst (pc := 15) X (v := 0) dX12_sequence_15 (by decide) ?_
    exact T_sub (t_X12_sequence_16 X hr h) ⟨rfl, rfl, rfl, trivial⟩
  · refine r_iconst (pc := 11) X (v := 1) dX12_sequence_11 (by decide) ?_
    refine r_goto (pc := 12) X (tgt := 16) dX12_sequence_12 (by decide) ?_
    exact T_sub (t_X12_sequence_16 X hr h) ⟨rfl, rfl, rfl, trivial⟩
theorem c_X12_sequence {G : GG} {l : Launch} {x1 : Int32} {x2 : Int32} {r : Int32} {M M' : Mem}  (h : f_X12_sequence x1 x2 M = some (r, M')) : Met l yX12_sequence (wsO yX12_sequence cX12_sequence 4 (some .int)) (rmO 1) (PcO G [.ref (G.2.1 (10, 0, 0)), .int x1, .int x2] M) (QiO G (AA G) r M') 0 0 (AA G) :=
  met_of (own := RX12) rfl (by decide +kernel) (Nat.le_of_ble_eq_true rfl) (fun p e s m args below meth c X hr => t_X12_sequence X hr  h)
-- ConverterScannerModel.entry
def f_X12_entry_31 (x2 : Int32) (x3 : Int32) (xs0 : Int32) (M : Mem) : Option (Int32 × Mem) :=
  bnd (f_X12_fails xs0 0 0 M) (fun r1 M2 => if r1 = 0 then bnd (f_X12_entryOf x3 x2 M2) (fun r4 M5 => some (r4, M5)) else some (0, M2))
set_option maxHeartbeats 4000000 in
set_option maxRecDepth 100000 in
theorem t_X12_entry_31 {G : GG} {A : Nat → Prop} {p : Program} {l : Launch} {e : Env} {s : State} {m : MethodId} {args : Array Value} {below : List Frame} {meth : Method} {c : Code} {r : Int32} {M' : Mem} (X : Cx G A p s m args meth c RX12 cX12_entry 4) (hr : meth.sig.returnType = some .int) {x2 : Int32} {x3 : Int32} {xs0 : Int32} {M : Mem}  (h : f_X12_entry_31 x2 x3 xs0 M = some (r, M')) : T G A p l e (rmO 1) s m args below meth c 4 0 0 (MQ below (QiO G A r M') args s 0 0 A) 31 [(0, .ref (G.2.1 (10, 0, 0))), (2, .int x2), (3, .int x3)] [.int xs0, .ref (G.2.1 (10, 0, 0))] M := by
  unfold f_X12_entry_31 at h
  refine r_iconst (pc := 31) X (v := 0) dX12_entry_31 (by decide) ?_
  refine r_iconst (pc := 32) X (v := 0) dX12_entry_32 (by decide) ?_
  refine bndE h (fun r1 M2 h3 h => ?_)
  refine r_callVi3 (pc := 33) X ⟨(ltb rfl), (ltb rfl)⟩ rfl vy_X12_fails my_X12_fails ml_X12_14 ⟨Nat.le_of_ble_eq_true rfl, Nat.le_of_ble_eq_true rfl, Nat.le_of_ble_eq_true rfl, Nat.le_of_ble_eq_true rfl⟩ (c_X12_fails  h3) (Nat.le_of_ble_eq_true rfl) dX12_entry_33 ?_
  refine r_if_eq (pc := 36) X (tgt := 43) dX12_entry_36 (by decide) h (fun h => ?_) (fun h => ?_)
  · refine r_aload_n (pc := 43) X dX12_entry_43 rfl ?_
    refine r_iload_n (pc := 44) X dX12_entry_44 rfl ?_
    refine r_iload_n (pc := 45) X dX12_entry_45 rfl ?_
    refine bndE h (fun r4 M5 h6 h => ?_)
    refine r_callVi2 (pc := 46) X ⟨(ltb rfl), (ltb rfl)⟩ rfl vy_X12_entryOf my_X12_entryOf ml_X12_214 ⟨Nat.le_of_ble_eq_true rfl, Nat.le_of_ble_eq_true rfl, Nat.le_of_ble_eq_true rfl, Nat.le_of_ble_eq_true rfl⟩ (c_X12_entryOf  h6) (Nat.le_of_ble_eq_true rfl) dX12_entry_46 ?_
    cases h
    exact r_iret (pc := 49) X hr dX12_entry_49
  · refine r_iconst (pc := 39) X (v := 0) dX12_entry_39 (by decide) ?_
    refine r_goto (pc := 40) X (tgt := 49) dX12_entry_40 (by decide) ?_
    cases h
    exact r_iret (pc := 49) X hr dX12_entry_49
def f_X12_entry_9 (x2 : Int32) (xs0 : Int32) (M : Mem) : Option (Int32 × Mem) :=
  bnd (f_X12_entries xs0 M) (fun r1 M2 => bnd (f_X12_inRange x2 0 (r1 - 1) M2) (fun r4 M5 => if r4 = 0 then f_X12_entry_31 x2 xs0 1 M5 else f_X12_entry_31 x2 xs0 0 M5))
set_option maxHeartbeats 4000000 in
set_option maxRecDepth 100000 in
theorem t_X12_entry_9 {G : GG} {A : Nat → Prop} {p : Program} {l : Launch} {e : Env} {s : State} {m : MethodId} {args : Array Value} {below : List Frame} {meth : Method} {c : Code} {r : Int32} {M' : Mem} (X : Cx G A p s m args meth c RX12 cX12_entry 4) (hr : meth.sig.returnType = some .int) {x2 : Int32} {xs0 : Int32} {M : Mem}  (h : f_X12_entry_9 x2 xs0 M = some (r, M')) : T G A p l e (rmO 1) s m args below meth c 4 0 0 (MQ below (QiO G A r M') args s 0 0 A) 9 [(0, .ref (G.2.1 (10, 0, 0))), (2, .int x2)] [.int xs0] M := by
  unfold f_X12_entry_9 at h
  refine r_istore_n (pc := 9) X (by decide) dX12_entry_9 ?_
  refine r_aload_n (pc := 10) X dX12_entry_10 rfl ?_
  refine r_iload_n (pc := 11) X dX12_entry_11 rfl ?_
  refine r_iconst (pc := 12) X (v := 0) dX12_entry_12 (by decide) ?_
  refine r_aload_n (pc := 13) X dX12_entry_13 rfl ?_
  refine r_iload_n (pc := 14) X dX12_entry_14 rfl ?_
  refine bndE h (fun r1 M2 h3 h => ?_)
  refine r_callVi1 (pc := 15) X ⟨(ltb rfl), (ltb rfl)⟩ rfl vy_X12_entries my_X12_entries ml_X12_165 ⟨Nat.le_of_ble_eq_true rfl, Nat.le_of_ble_eq_true rfl, Nat.le_of_ble_eq_true rfl, Nat.le_of_ble_eq_true rfl⟩ (c_X12_entries  h3) (Nat.le_of_ble_eq_true rfl) dX12_entry_15 ?_
  refine r_iconst (pc := 18) X (v := 1) dX12_entry_18 (by decide) ?_
  refine r_isub (pc := 19) X dX12_entry_19 ?_
  refine bndE h (fun r4 M5 h6 h => ?_)
  refine r_callSi3 (pc := 20) X sy_X12_inRange my_X12_inRange ml_X12_22 ⟨Nat.le_of_ble_eq_true rfl, Nat.le_of_ble_eq_true rfl, Nat.le_of_ble_eq_true rfl, Nat.le_of_ble_eq_true rfl⟩ (c_X12_inRange  h6) (Nat.le_of_ble_eq_true rfl) dX12_entry_20 ?_
  refine r_if_ne (pc := 23) X (tgt := 30) dX12_entry_23 (by decide) h (fun h => ?_) (fun h => ?_)
  · refine r_iconst (pc := 30) X (v := 0) dX12_entry_30 (by decide) ?_
    exact T_sub (t_X12_entry_31 X hr h) ⟨rfl, rfl, rfl, trivial⟩
  · refine r_iconst (pc := 26) X (v := 1) dX12_entry_26 (by decide) ?_
    refine r_goto (pc := 27) X (tgt := 31) dX12_entry_27 (by decide) ?_
    exact T_sub (t_X12_entry_31 X hr h) ⟨rfl, rfl, rfl, trivial⟩
def f_X12_entry (x1 : Int32) (x2 : Int32) (M : Mem) : Option (Int32 × Mem) :=
  if x1 = 0 then f_X12_entry_9 x2 0 M else f_X12_entry_9 x2 1 M
set_option maxHeartbeats 4000000 in
set_option maxRecDepth 100000 in
theorem t_X12_entry {G : GG} {A : Nat → Prop} {p : Program} {l : Launch} {e : Env} {s : State} {m : MethodId} {args : Array Value} {below : List Frame} {meth : Method} {c : Code} {r : Int32} {M' : Mem} (X : Cx G A p s m args meth c RX12 cX12_entry 4) (hr : meth.sig.returnType = some .int) {x1 : Int32} {x2 : Int32} {M : Mem}  (h : f_X12_entry x1 x2 M = some (r, M')) : T G A p l e (rmO 1) s m args below meth c 4 0 0 (MQ below (QiO G A r M') args s 0 0 A) 0 [(0, .ref (G.2.1 (10, 0, 0))), (1, .int x1), (2, .int x2)] [] M := by
  unfold f_X12_entry at h
  refine r_iload_n (pc := 0) X dX12_entry_0 rfl ?_
  refine r_if_eq (pc := 1) X (tgt := 8) dX12_entry_1 (by decide) h (fun h => ?_) (fun h => ?_)
  · refine r_iconst (pc := 8) X (v := 0) dX12_entry_8 (by decide) ?_
    exact T_sub (t_X12_entry_9 X hr h) ⟨rfl, rfl, trivial⟩
  · refine r_iconst (pc := 4) X (v := 1) dX12_entry_4 (by decide) ?_
    refine r_goto (pc := 5) X (tgt := 9) dX12_entry_5 (by decide) ?_
    exact T_sub (t_X12_entry_9 X hr h) ⟨rfl, rfl, trivial⟩
theorem c_X12_entry {G : GG} {l : Launch} {x1 : Int32} {x2 : Int32} {r : Int32} {M M' : Mem}  (h : f_X12_entry x1 x2 M = some (r, M')) : Met l yX12_entry (wsO yX12_entry cX12_entry 4 (some .int)) (rmO 1) (PcO G [.ref (G.2.1 (10, 0, 0)), .int x1, .int x2] M) (QiO G (AA G) r M') 0 0 (AA G) :=
  met_of (own := RX12) rfl (by decide +kernel) (Nat.le_of_ble_eq_true rfl) (fun p e s m args below meth c X hr => t_X12_entry X hr  h)
-- ConverterScannerModel.channel
def f_X12_channel_29 (x1 : Int32) (x2 : Int32) (xs0 : Int32) (xs1 : Int32) (M : Mem) : Option (Int32 × Mem) :=
  bnd (f_X12_fails xs1 xs0 0 M) (fun r1 M2 => if r1 = 0 then if x2 = 1 then if bad (22 + x1) 104 then none else some ((M2.1 (31, 0, 0) (Int32.toNatClampNeg (22 + x1))), M2) else if x2 = 0 then bnd (f_X12_chan x1 0 M2) (fun r10 M11 => bnd (f_X12_its r10 M11) (fun r13 M14 => some (r13, M14))) else bnd (f_X12_chan x1 (x2 - 1) M2) (fun r4 M5 => bnd (f_X12_its r4 M5) (fun r7 M8 => some (r7, M8))) else some (0, M2))
set_option maxHeartbeats 4000000 in
set_option maxRecDepth 100000 in
theorem t_X12_channel_29 {G : GG} {A : Nat → Prop} {p : Program} {l : Launch} {e : Env} {s : State} {m : MethodId} {args : Array Value} {below : List Frame} {meth : Method} {c : Code} {r : Int32} {M' : Mem} (X : Cx G A p s m args meth c RX12 cX12_channel 3) (hr : meth.sig.returnType = some .int) {x1 : Int32} {x2 : Int32} {xs0 : Int32} {xs1 : Int32} {M : Mem}  (h : f_X12_channel_29 x1 x2 xs0 xs1 M = some (r, M')) : T G A p l e (rmO 2) s m args below meth c 3 0 0 (MQ below (QiO G A r M') args s 0 0 A) 29 [(0, .ref (G.2.1 (10, 0, 0))), (1, .int x1), (2, .int x2)] [.int xs0, .int xs1, .ref (G.2.1 (10, 0, 0))] M := by
  unfold f_X12_channel_29 at h
  refine r_iconst (pc := 29) X (v := 0) dX12_channel_29 (by decide) ?_
  refine bndE h (fun r1 M2 h3 h => ?_)
  refine r_callVi3 (pc := 30) X ⟨(ltb rfl), (ltb rfl)⟩ rfl vy_X12_fails my_X12_fails ml_X12_14 ⟨Nat.le_of_ble_eq_true rfl, Nat.le_of_ble_eq_true rfl, Nat.le_of_ble_eq_true rfl, Nat.le_of_ble_eq_true rfl⟩ (c_X12_fails  h3) (Nat.le_of_ble_eq_true rfl) dX12_channel_30 ?_
  refine r_if_eq (pc := 33) X (tgt := 38) dX12_channel_33 (by decide) h (fun h => ?_) (fun h => ?_)
  · refine r_iload_n (pc := 38) X dX12_channel_38 rfl ?_
    refine r_iconst (pc := 39) X (v := 1) dX12_channel_39 (by decide) ?_
    refine r_icmp_ne (pc := 40) X (tgt := 53) dX12_channel_40 (by decide) h (fun h => ?_) (fun h => ?_)
    · refine r_aload_n (pc := 53) X dX12_channel_53 rfl ?_
      refine r_iload_n (pc := 54) X dX12_channel_54 rfl ?_
      refine r_iload_n (pc := 55) X dX12_channel_55 rfl ?_
      refine r_if_ne (pc := 56) X (tgt := 63) dX12_channel_56 (by decide) h (fun h => ?_) (fun h => ?_)
      · refine r_iload_n (pc := 63) X dX12_channel_63 rfl ?_
        refine r_iconst (pc := 64) X (v := 1) dX12_channel_64 (by decide) ?_
        refine r_isub (pc := 65) X dX12_channel_65 ?_
        refine bndE h (fun r4 M5 h6 h => ?_)
        refine r_callSi2 (pc := 66) X sy_X12_chan my_X12_chan ml_X12_47 ⟨Nat.le_of_ble_eq_true rfl, Nat.le_of_ble_eq_true rfl, Nat.le_of_ble_eq_true rfl, Nat.le_of_ble_eq_true rfl⟩ (c_X12_chan  h6) (Nat.le_of_ble_eq_true rfl) dX12_channel_66 ?_
        refine bndE h (fun r7 M8 h9 h => ?_)
        refine r_callVi1 (pc := 69) X ⟨(ltb rfl), (ltb rfl)⟩ rfl vy_X12_its my_X12_its ml_X12_155 ⟨Nat.le_of_ble_eq_true rfl, Nat.le_of_ble_eq_true rfl, Nat.le_of_ble_eq_true rfl, Nat.le_of_ble_eq_true rfl⟩ (c_X12_its  h9) (Nat.le_of_ble_eq_true rfl) dX12_channel_69 ?_
        cases h
        exact r_iret (pc := 72) X hr dX12_channel_72
      · refine r_iconst (pc := 59) X (v := 0) dX12_channel_59 (by decide) ?_
        refine r_goto (pc := 60) X (tgt := 66) dX12_channel_60 (by decide) ?_
        refine bndE h (fun r10 M11 h12 h => ?_)
        refine r_callSi2 (pc := 66) X sy_X12_chan my_X12_chan ml_X12_47 ⟨Nat.le_of_ble_eq_true rfl, Nat.le_of_ble_eq_true rfl, Nat.le_of_ble_eq_true rfl, Nat.le_of_ble_eq_true rfl⟩ (c_X12_chan  h12) (Nat.le_of_ble_eq_true rfl) dX12_channel_66 ?_
        refine bndE h (fun r13 M14 h15 h => ?_)
        refine r_callVi1 (pc := 69) X ⟨(ltb rfl), (ltb rfl)⟩ rfl vy_X12_its my_X12_its ml_X12_155 ⟨Nat.le_of_ble_eq_true rfl, Nat.le_of_ble_eq_true rfl, Nat.le_of_ble_eq_true rfl, Nat.le_of_ble_eq_true rfl⟩ (c_X12_its  h15) (Nat.le_of_ble_eq_true rfl) dX12_channel_69 ?_
        cases h
        exact r_iret (pc := 72) X hr dX12_channel_72
    · refine r_aload_n (pc := 43) X dX12_channel_43 rfl ?_
      refine r_getR (q := (31, 0, 0)) (pc := 44) X ⟨(ltb rfl), (ltb rfl)⟩ fl_X12_26 rfl dX12_channel_44 ?_
      refine r_bipush (pc := 47) X (v := 22) dX12_channel_47 (by decide) ?_
      refine r_iload_n (pc := 49) X dX12_channel_49 rfl ?_
      refine r_iadd (pc := 50) X dX12_channel_50 ?_
      refine r_iald (pc := 51) X (n := 104) ⟨(ltb rfl), (ltb rfl)⟩ rfl (nlt rfl) dX12_channel_51 h (fun h => ?_)
      cases h
      exact r_iret (pc := 52) X hr dX12_channel_52
  · refine r_iconst (pc := 36) X (v := 0) dX12_channel_36 (by decide) ?_
    cases h
    exact r_iret (pc := 37) X hr dX12_channel_37
def f_X12_channel_14 (x1 : Int32) (x2 : Int32) (xs0 : Int32) (M : Mem) : Option (Int32 × Mem) :=
  bnd (f_X12_inRange x2 0 7 M) (fun r1 M2 => if r1 = 0 then f_X12_channel_29 x1 x2 1 xs0 M2 else f_X12_channel_29 x1 x2 0 xs0 M2)
set_option maxHeartbeats 4000000 in
set_option maxRecDepth 100000 in
theorem t_X12_channel_14 {G : GG} {A : Nat → Prop} {p : Program} {l : Launch} {e : Env} {s : State} {m : MethodId} {args : Array Value} {below : List Frame} {meth : Method} {c : Code} {r : Int32} {M' : Mem} (X : Cx G A p s m args meth c RX12 cX12_channel 3) (hr : meth.sig.returnType = some .int) {x1 : Int32} {x2 : Int32} {xs0 : Int32} {M : Mem}  (h : f_X12_channel_14 x1 x2 xs0 M = some (r, M')) : T G A p l e (rmO 2) s m args below meth c 3 0 0 (MQ below (QiO G A r M') args s 0 0 A) 14 [(0, .ref (G.2.1 (10, 0, 0))), (1, .int x1), (2, .int x2)] [.int xs0, .ref (G.2.1 (10, 0, 0))] M := by
  unfold f_X12_channel_14 at h
  refine r_iload_n (pc := 14) X dX12_channel_14 rfl ?_
  refine r_iconst (pc := 15) X (v := 0) dX12_channel_15 (by decide) ?_
  refine r_bipush (pc := 16) X (v := 7) dX12_channel_16 (by decide) ?_
  refine bndE h (fun r1 M2 h3 h => ?_)
  refine r_callSi3 (pc := 18) X sy_X12_inRange my_X12_inRange ml_X12_22 ⟨Nat.le_of_ble_eq_true rfl, Nat.le_of_ble_eq_true rfl, Nat.le_of_ble_eq_true rfl, Nat.le_of_ble_eq_true rfl⟩ (c_X12_inRange  h3) (Nat.le_of_ble_eq_true rfl) dX12_channel_18 ?_
  refine r_if_ne (pc := 21) X (tgt := 28) dX12_channel_21 (by decide) h (fun h => ?_) (fun h => ?_)
  · refine r_iconst (pc := 28) X (v := 0) dX12_channel_28 (by decide) ?_
    exact T_sub (t_X12_channel_29 X hr h) ⟨rfl, rfl, rfl, trivial⟩
  · refine r_iconst (pc := 24) X (v := 1) dX12_channel_24 (by decide) ?_
    refine r_goto (pc := 25) X (tgt := 29) dX12_channel_25 (by decide) ?_
    exact T_sub (t_X12_channel_29 X hr h) ⟨rfl, rfl, rfl, trivial⟩
def f_X12_channel (x1 : Int32) (x2 : Int32) (M : Mem) : Option (Int32 × Mem) :=
  bnd (f_X12_isChannel x1 M) (fun r1 M2 => if r1 = 0 then f_X12_channel_14 x1 x2 1 M2 else f_X12_channel_14 x1 x2 0 M2)
set_option maxHeartbeats 4000000 in
set_option maxRecDepth 100000 in
theorem t_X12_channel {G : GG} {A : Nat → Prop} {p : Program} {l : Launch} {e : Env} {s : State} {m : MethodId} {args : Array Value} {below : List Frame} {meth : Method} {c : Code} {r : Int32} {M' : Mem} (X : Cx G A p s m args meth c RX12 cX12_channel 3) (hr : meth.sig.returnType = some .int) {x1 : Int32} {x2 : Int32} {M : Mem}  (h : f_X12_channel x1 x2 M = some (r, M')) : T G A p l e (rmO 2) s m args below meth c 3 0 0 (MQ below (QiO G A r M') args s 0 0 A) 0 [(0, .ref (G.2.1 (10, 0, 0))), (1, .int x1), (2, .int x2)] [] M := by
  unfold f_X12_channel at h
  refine r_aload_n (pc := 0) X dX12_channel_0 rfl ?_
  refine r_aload_n (pc := 1) X dX12_channel_1 rfl ?_
  refine r_iload_n (pc := 2) X dX12_channel_2 rfl ?_
  refine bndE h (fun r1 M2 h3 h => ?_)
  refine r_callVi1 (pc := 3) X ⟨(ltb rfl), (ltb rfl)⟩ rfl vy_X12_isChannel my_X12_isChannel ml_X12_244 ⟨Nat.le_of_ble_eq_true rfl, Nat.le_of_ble_eq_true rfl, Nat.le_of_ble_eq_true rfl, Nat.le_of_ble_eq_true rfl⟩ (c_X12_isChannel  h3) (Nat.le_of_ble_eq_true rfl) dX12_channel_3 ?_
  refine r_if_ne (pc := 6) X (tgt := 13) dX12_channel_6 (by decide) h (fun h => ?_) (fun h => ?_)
  · refine r_iconst (pc := 13) X (v := 0) dX12_channel_13 (by decide) ?_
    exact T_sub (t_X12_channel_14 X hr h) ⟨rfl, rfl, rfl, trivial⟩
  · refine r_iconst (pc := 9) X (v := 1) dX12_channel_9 (by decide) ?_
    refine r_goto (pc := 10) X (tgt := 14) dX12_channel_10 (by decide) ?_
    exact T_sub (t_X12_channel_14 X hr h) ⟨rfl, rfl, rfl, trivial⟩
theorem c_X12_channel {G : GG} {l : Launch} {x1 : Int32} {x2 : Int32} {r : Int32} {M M' : Mem}  (h : f_X12_channel x1 x2 M = some (r, M')) : Met l yX12_channel (wsO yX12_channel cX12_channel 3 (some .int)) (rmO 2) (PcO G [.ref (G.2.1 (10, 0, 0)), .int x1, .int x2] M) (QiO G (AA G) r M') 0 0 (AA G) :=
  met_of (own := RX12) rfl (by decide +kernel) (Nat.le_of_ble_eq_true rfl) (fun p e s m args below meth c X hr => t_X12_channel X hr  h)
