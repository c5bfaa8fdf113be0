-- ConverterScanner$Results.copyFrom
def f_X5_copyFrom (c0 : Nat) (j0 : Nat) (c1 : Nat) (j1 : Nat) (M : Mem) : Option (Unit × Mem) :=
  if (akO (21, c1, j1)).2 < (akO (21, c0, j0)).2 then none else nm (uC M (21, c1, j1) (21, c0, j0) (akO (21, c0, j0)).2) (fun M1 => nm (uI M1 (4, c0, j0) 2 (M1.1 (4, c1, j1) 2)) (fun M2 => if ¬ ((M2.1 (4, c1, j1) 3) = 0 ∨ (M2.1 (4, c1, j1) 3) = 1) then none else nm (uI M2 (4, c0, j0) 3 (M2.1 (4, c1, j1) 3)) (fun M3 => nm (uI M3 (4, c0, j0) 4 (M3.1 (4, c1, j1) 4)) (fun M4 => nm (uI M4 (4, c0, j0) 5 (M4.1 (4, c1, j1) 5)) (fun M5 => nm (uI M5 (4, c0, j0) 6 (M5.1 (4, c1, j1) 6)) (fun M6 => some ((), M6)))))))
set_option maxHeartbeats 4000000 in
set_option maxRecDepth 100000 in
theorem t_X5_copyFrom {G : GG} {A : Nat → Prop} {p : Program} {l : Launch} {e : Env} {s : State} {m : MethodId} {args : Array Value} {below : List Frame} {meth : Method} {c : Code} {r : Unit} {M' : Mem} (X : Cx G A p s m args meth c RX5 cX5_copyFrom 2) (hr : meth.sig.returnType = none) {c0 : Nat} {j0 : Nat} {c1 : Nat} {j1 : Nat} {M : Mem} (hc0 : c0 < 6) (hj0 : j0 < 3) (hc1 : c1 < 6) (hj1 : j1 < 3) (h : f_X5_copyFrom c0 j0 c1 j1 M = some (r, M')) : T G A p l e (rmO 1) s m args below meth c 2 0 0 (MQ below (QvO G A M') args s 0 0 A) 0 [(0, .ref (G.2.1 (4, c0, j0))), (1, .ref (G.2.1 (4, c1, j1)))] [] M := by
  unfold f_X5_copyFrom at h
  refine r_aload_n (pc := 0) X dX5_copyFrom_0 rfl ?_
  refine r_getR (q := (21, c1, j1)) (pc := 1) X ⟨hc1, hj1⟩ fl_X5_9 rfl dX5_copyFrom_1 ?_
  refine r_iconst (pc := 4) X (v := 0) dX5_copyFrom_4 (by decide) ?_
  refine r_aload_n (pc := 5) X dX5_copyFrom_5 rfl ?_
  refine r_getR (q := (21, c0, j0)) (pc := 6) X ⟨hc0, hj0⟩ fl_X5_9 rfl dX5_copyFrom_6 ?_
  refine r_iconst (pc := 9) X (v := 0) dX5_copyFrom_9 (by decide) ?_
  refine r_aload_n (pc := 10) X dX5_copyFrom_10 rfl ?_
  refine r_getR (q := (21, c0, j0)) (pc := 11) X ⟨hc0, hj0⟩ fl_X5_9 rfl dX5_copyFrom_11 ?_
  refine r_alen (pc := 14) X (v := (Int32.ofNat (akO (21, c0, j0)).2)) (n := (akO (21, c0, j0)).2) (t := 0) ⟨hc0, hj0⟩ rfl (ltb rfl) (nlt rfl) rfl dX5_copyFrom_14 ?_
  refine r_acopy (pc := 15) X (n0 := (akO (21, c1, j1)).2) (n1 := (akO (21, c0, j0)).2) ⟨hc1, hj1⟩ ⟨hc0, hj0⟩ (nlt rfl) (nlt rfl) rfl rfl acw_X5_22 ⟨Nat.le_of_ble_eq_true rfl, Nat.le_of_ble_eq_true rfl⟩ dX5_copyFrom_15 h (fun M1 h => ?_)
  refine r_aload_n (pc := 18) X dX5_copyFrom_18 rfl ?_
  refine r_aload_n (pc := 19) X dX5_copyFrom_19 rfl ?_
  refine r_getI (pc := 20) X ⟨hc1, hj1⟩ fl_X5_19 rfl dX5_copyFrom_20 ?_
  refine r_putIN (pc := 23) X ⟨hc0, hj0⟩ fp_X5_19 rfl dX5_copyFrom_23 h (fun M2 h => ?_)
  refine r_aload_n (pc := 26) X dX5_copyFrom_26 rfl ?_
  refine r_aload_n (pc := 27) X dX5_copyFrom_27 rfl ?_
  refine r_getI (pc := 28) X ⟨hc1, hj1⟩ fl_X5_28 rfl dX5_copyFrom_28 ?_
  refine r_putZN (pc := 31) X ⟨hc0, hj0⟩ fp_X5_28 rfl dX5_copyFrom_31 h (fun M3 h => ?_)
  refine r_aload_n (pc := 34) X dX5_copyFrom_34 rfl ?_
  refine r_aload_n (pc := 35) X dX5_copyFrom_35 rfl ?_
  refine r_getI (pc := 36) X ⟨hc1, hj1⟩ fl_X5_32 rfl dX5_copyFrom_36 ?_
  refine r_putIN (pc := 39) X ⟨hc0, hj0⟩ fp_X5_32 rfl dX5_copyFrom_39 h (fun M4 h => ?_)
  refine r_aload_n (pc := 42) X dX5_copyFrom_42 rfl ?_
  refine r_aload_n (pc := 43) X dX5_copyFrom_43 rfl ?_
  refine r_getI (pc := 44) X ⟨hc1, hj1⟩ fl_X5_35 rfl dX5_copyFrom_44 ?_
  refine r_putIN (pc := 47) X ⟨hc0, hj0⟩ fp_X5_35 rfl dX5_copyFrom_47 h (fun M5 h => ?_)
  refine r_aload_n (pc := 50) X dX5_copyFrom_50 rfl ?_
  refine r_aload_n (pc := 51) X dX5_copyFrom_51 rfl ?_
  refine r_getI (pc := 52) X ⟨hc1, hj1⟩ fl_X5_38 rfl dX5_copyFrom_52 ?_
  refine r_putIN (pc := 55) X ⟨hc0, hj0⟩ fp_X5_38 rfl dX5_copyFrom_55 h (fun M6 h => ?_)
  cases h
  exact r_vret (pc := 58) X hr dX5_copyFrom_58
theorem c_X5_copyFrom {G : GG} {l : Launch} {c0 : Nat} {j0 : Nat} {c1 : Nat} {j1 : Nat} {r : Unit} {M M' : Mem} (hc0 : c0 < 6) (hj0 : j0 < 3) (hc1 : c1 < 6) (hj1 : j1 < 3) (h : f_X5_copyFrom c0 j0 c1 j1 M = some (r, M')) : Met l yX5_copyFrom (wsO yX5_copyFrom cX5_copyFrom 2 none) (rmO 1) (PcO G [.ref (G.2.1 (4, c0, j0)), .ref (G.2.1 (4, c1, j1))] M) (QvO G (AA G) M') 0 0 (AA G) :=
  met_of (own := RX5) rfl (by decide +kernel) (Nat.le_of_ble_eq_true rfl) (fun p e s m args below meth c X hr => t_X5_copyFrom X hr hc0 hj0 hc1 hj1 h)
-- ConverterScanner$Sequence.copyFrom
def f_X6_copyFrom (c0 : Nat) (j0 : Nat) (c1 : Nat) (j1 : Nat) (M : Mem) : Option (Unit × Mem) :=
  if (akO (20, c1, j1)).2 < (akO (20, c0, j0)).2 then none else nm (uC M (20, c1, j1) (20, c0, j0) (akO (20, c0, j0)).2) (fun M1 => nm (uI M1 (5, c0, j0) 1 (M1.1 (5, c1, j1) 1)) (fun M2 => nm (uI M2 (5, c0, j0) 2 (M2.1 (5, c1, j1) 2)) (fun M3 => if ¬ ((M3.1 (5, c1, j1) 3) = 0 ∨ (M3.1 (5, c1, j1) 3) = 1) then none else nm (uI M3 (5, c0, j0) 3 (M3.1 (5, c1, j1) 3)) (fun M4 => nm (uI M4 (5, c0, j0) 4 (M4.1 (5, c1, j1) 4)) (fun M5 => nm (uI M5 (5, c0, j0) 5 (M5.1 (5, c1, j1) 5)) (fun M6 => nm (uI M6 (5, c0, j0) 6 (M6.1 (5, c1, j1) 6)) (fun M7 => nm (uI M7 (5, c0, j0) 7 (M7.1 (5, c1, j1) 7)) (fun M8 => nm (uI M8 (5, c0, j0) 8 (M8.1 (5, c1, j1) 8)) (fun M9 => nm (uI M9 (5, c0, j0) 9 (M9.1 (5, c1, j1) 9)) (fun M10 => nm (uI M10 (5, c0, j0) 10 (M10.1 (5, c1, j1) 10)) (fun M11 => nm (uI M11 (5, c0, j0) 11 (M11.1 (5, c1, j1) 11)) (fun M12 => nm (uL M12 (5, c0, j0) 12 (M12.2.1 (5, c1, j1) 12)) (fun M13 => some ((), M13))))))))))))))
set_option maxHeartbeats 4000000 in
set_option maxRecDepth 100000 in
theorem t_X6_copyFrom {G : GG} {A : Nat → Prop} {p : Program} {l : Launch} {e : Env} {s : State} {m : MethodId} {args : Array Value} {below : List Frame} {meth : Method} {c : Code} {r : Unit} {M' : Mem} (X : Cx G A p s m args meth c RX6 cX6_copyFrom 2) (hr : meth.sig.returnType = none) {c0 : Nat} {j0 : Nat} {c1 : Nat} {j1 : Nat} {M : Mem} (hc0 : c0 < 6) (hj0 : j0 < 2) (hc1 : c1 < 6) (hj1 : j1 < 2) (h : f_X6_copyFrom c0 j0 c1 j1 M = some (r, M')) : T G A p l e (rmO 1) s m args below meth c 2 0 0 (MQ below (QvO G A M') args s 0 0 A) 0 [(0, .ref (G.2.1 (5, c0, j0))), (1, .ref (G.2.1 (5, c1, j1)))] [] M := by
  unfold f_X6_copyFrom at h
  refine r_aload_n (pc := 0) X dX6_copyFrom_0 rfl ?_
  refine r_getR (q := (20, c1, j1)) (pc := 1) X ⟨hc1, hj1⟩ fl_X6_18 rfl dX6_copyFrom_1 ?_
  refine r_iconst (pc := 4) X (v := 0) dX6_copyFrom_4 (by decide) ?_
  refine r_aload_n (pc := 5) X dX6_copyFrom_5 rfl ?_
  refine r_getR (q := (20, c0, j0)) (pc := 6) X ⟨hc0, hj0⟩ fl_X6_18 rfl dX6_copyFrom_6 ?_
  refine r_iconst (pc := 9) X (v := 0) dX6_copyFrom_9 (by decide) ?_
  refine r_aload_n (pc := 10) X dX6_copyFrom_10 rfl ?_
  refine r_getR (q := (20, c0, j0)) (pc := 11) X ⟨hc0, hj0⟩ fl_X6_18 rfl dX6_copyFrom_11 ?_
  refine r_alen (pc := 14) X (v := (Int32.ofNat (akO (20, c0, j0)).2)) (n := (akO (20, c0, j0)).2) (t := 0) ⟨hc0, hj0⟩ rfl (ltb rfl) (nlt rfl) rfl dX6_copyFrom_14 ?_
  refine r_acopy (pc := 15) X (n0 := (akO (20, c1, j1)).2) (n1 := (akO (20, c0, j0)).2) ⟨hc1, hj1⟩ ⟨hc0, hj0⟩ (nlt rfl) (nlt rfl) rfl rfl acw_X6_22 ⟨Nat.le_of_ble_eq_true rfl, Nat.le_of_ble_eq_true rfl⟩ dX6_copyFrom_15 h (fun M1 h => ?_)
  refine r_aload_n (pc := 18) X dX6_copyFrom_18 rfl ?_
  refine r_aload_n (pc := 19) X dX6_copyFrom_19 rfl ?_
  refine r_getI (pc := 20) X ⟨hc1, hj1⟩ fl_X6_28 rfl dX6_copyFrom_20 ?_
  refine r_putIN (pc := 23) X ⟨hc0, hj0⟩ fp_X6_28 rfl dX6_copyFrom_23 h (fun M2 h => ?_)
  refine r_aload_n (pc := 26) X dX6_copyFrom_26 rfl ?_
  refine r_aload_n (pc := 27) X dX6_copyFrom_27 rfl ?_
  refine r_getI (pc := 28) X ⟨hc1, hj1⟩ fl_X6_31 rfl dX6_copyFrom_28 ?_
  refine r_putIN (pc := 31) X ⟨hc0, hj0⟩ fp_X6_31 rfl dX6_copyFrom_31 h (fun M3 h => ?_)
  refine r_aload_n (pc := 34) X dX6_copyFrom_34 rfl ?_
  refine r_aload_n (pc := 35) X dX6_copyFrom_35 rfl ?_
  refine r_getI (pc := 36) X ⟨hc1, hj1⟩ fl_X6_34 rfl dX6_copyFrom_36 ?_
  refine r_putZN (pc := 39) X ⟨hc0, hj0⟩ fp_X6_34 rfl dX6_copyFrom_39 h (fun M4 h => ?_)
  refine r_aload_n (pc := 42) X dX6_copyFrom_42 rfl ?_
  refine r_aload_n (pc := 43) X dX6_copyFrom_43 rfl ?_
  refine r_getI (pc := 44) X ⟨hc1, hj1⟩ fl_X6_38 rfl dX6_copyFrom_44 ?_
  refine r_putIN (pc := 47) X ⟨hc0, hj0⟩ fp_X6_38 rfl dX6_copyFrom_47 h (fun M5 h => ?_)
  refine r_aload_n (pc := 50) X dX6_copyFrom_50 rfl ?_
  refine r_aload_n (pc := 51) X dX6_copyFrom_51 rfl ?_
  refine r_getI (pc := 52) X ⟨hc1, hj1⟩ fl_X6_41 rfl dX6_copyFrom_52 ?_
  refine r_putIN (pc := 55) X ⟨hc0, hj0⟩ fp_X6_41 rfl dX6_copyFrom_55 h (fun M6 h => ?_)
  refine r_aload_n (pc := 58) X dX6_copyFrom_58 rfl ?_
  refine r_aload_n (pc := 59) X dX6_copyFrom_59 rfl ?_
  refine r_getI (pc := 60) X ⟨hc1, hj1⟩ fl_X6_9 rfl dX6_copyFrom_60 ?_
  refine r_putIN (pc := 63) X ⟨hc0, hj0⟩ fp_X6_9 rfl dX6_copyFrom_63 h (fun M7 h => ?_)
  refine r_aload_n (pc := 66) X dX6_copyFrom_66 rfl ?_
  refine r_aload_n (pc := 67) X dX6_copyFrom_67 rfl ?_
  refine r_getI (pc := 68) X ⟨hc1, hj1⟩ fl_X6_15 rfl dX6_copyFrom_68 ?_
  refine r_putIN (pc := 71) X ⟨hc0, hj0⟩ fp_X6_15 rfl dX6_copyFrom_71 h (fun M8 h => ?_)
  refine r_aload_n (pc := 74) X dX6_copyFrom_74 rfl ?_
  refine r_aload_n (pc := 75) X dX6_copyFrom_75 rfl ?_
  refine r_getI (pc := 76) X ⟨hc1, hj1⟩ fl_X6_44 rfl dX6_copyFrom_76 ?_
  refine r_putIN (pc := 79) X ⟨hc0, hj0⟩ fp_X6_44 rfl dX6_copyFrom_79 h (fun M9 h => ?_)
  refine r_aload_n (pc := 82) X dX6_copyFrom_82 rfl ?_
  refine r_aload_n (pc := 83) X dX6_copyFrom_83 rfl ?_
  refine r_getI (pc := 84) X ⟨hc1, hj1⟩ fl_X6_47 rfl dX6_copyFrom_84 ?_
  refine r_putIN (pc := 87) X ⟨hc0, hj0⟩ fp_X6_47 rfl dX6_copyFrom_87 h (fun M10 h => ?_)
  refine r_aload_n (pc := 90) X dX6_copyFrom_90 rfl ?_
  refine r_aload_n (pc := 91) X dX6_copyFrom_91 rfl ?_
  refine r_getI (pc := 92) X ⟨hc1, hj1⟩ fl_X6_50 rfl dX6_copyFrom_92 ?_
  refine r_putIN (pc := 95) X ⟨hc0, hj0⟩ fp_X6_50 rfl dX6_copyFrom_95 h (fun M11 h => ?_)
  refine r_aload_n (pc := 98) X dX6_copyFrom_98 rfl ?_
  refine r_aload_n (pc := 99) X dX6_copyFrom_99 rfl ?_
  refine r_getI (pc := 100) X ⟨hc1, hj1⟩ fl_X6_53 rfl dX6_copyFrom_100 ?_
  refine r_putIN (pc := 103) X ⟨hc0, hj0⟩ fp_X6_53 rfl dX6_copyFrom_103 h (fun M12 h => ?_)
  refine r_aload_n (pc := 106) X dX6_copyFrom_106 rfl ?_
  refine r_aload_n (pc := 107) X dX6_copyFrom_107 rfl ?_
  refine r_getL (pc := 108) X ⟨hc1, hj1⟩ fl_X6_56 rfl dX6_copyFrom_108 ?_
  refine r_putLN (pc := 111) X ⟨hc0, hj0⟩ fp_X6_56 rfl dX6_copyFrom_111 h (fun M13 h => ?_)
  cases h
  exact r_vret (pc := 114) X hr dX6_copyFrom_114
theorem c_X6_copyFrom {G : GG} {l : Launch} {c0 : Nat} {j0 : Nat} {c1 : Nat} {j1 : Nat} {r : Unit} {M M' : Mem} (hc0 : c0 < 6) (hj0 : j0 < 2) (hc1 : c1 < 6) (hj1 : j1 < 2) (h : f_X6_copyFrom c0 j0 c1 j1 M = some (r, M')) : Met l yX6_copyFrom (wsO yX6_copyFrom cX6_copyFrom 2 none) (rmO 1) (PcO G [.ref (G.2.1 (5, c0, j0)), .ref (G.2.1 (5, c1, j1))] M) (QvO G (AA G) M') 0 0 (AA G) :=
  met_of (own := RX6) rfl (by decide +kernel) (Nat.le_of_ble_eq_true rfl) (fun p e s m args below meth c X hr => t_X6_copyFrom X hr hc0 hj0 hc1 hj1 h)
-- ConverterScanner$Converter.copyFrom
def f_X3_copyFrom_59 : Nat → Nat → Nat → Int32 → Mem → Option (Unit × Mem)
  | 0 => fun _ _ _ _ => none
  | n + 1 => fun c0 c1 x2 M => if 3 ≤ x2 then bnd (f_X6_copyFrom c0 0 c1 0 M) (fun r1 M2 => bnd (f_X6_copyFrom c0 1 c1 1 M2) (fun r4 M5 => bnd (f_X2_copyFrom c0 c1 M5) (fun r7 M8 => bnd (f_X5_copyFrom c0 0 c1 0 M8) (fun r10 M11 => bnd (f_X5_copyFrom c0 1 c1 1 M11) (fun r13 M14 => bnd (f_X5_copyFrom c0 2 c1 2 M14) (fun r16 M17 => if ¬ ((M17.1 (2, c1, 0) 9) = 0 ∨ (M17.1 (2, c1, 0) 9) = 1) then none else nm (uI M17 (2, c0, 0) 9 (M17.1 (2, c1, 0) 9)) (fun M19 => if ¬ ((M19.1 (2, c1, 0) 10) = 0 ∨ (M19.1 (2, c1, 0) 10) = 1) then none else nm (uI M19 (2, c0, 0) 10 (M19.1 (2, c1, 0) 10)) (fun M20 => if ¬ ((M20.1 (2, c1, 0) 11) = 0 ∨ (M20.1 (2, c1, 0) 11) = 1) then none else nm (uI M20 (2, c0, 0) 11 (M20.1 (2, c1, 0) 11)) (fun M21 => nm (uI M21 (2, c0, 0) 12 (M21.1 (2, c1, 0) 12)) (fun M22 => nm (uI M22 (2, c0, 0) 13 (M22.1 (2, c1, 0) 13)) (fun M23 => nm (uI M23 (2, c0, 0) 14 (M23.1 (2, c1, 0) 14)) (fun M24 => nm (uI M24 (2, c0, 0) 15 (M24.1 (2, c1, 0) 15)) (fun M25 => nm (uI M25 (2, c0, 0) 16 (M25.1 (2, c1, 0) 16)) (fun M26 => some ((), M26))))))))))))))) else if bad x2 3 then none else if bad x2 3 then none else bnd (f_X9_copyFrom c0 (Int32.toNatClampNeg x2) c1 (Int32.toNatClampNeg x2) M) (fun r29 M30 => nm (x2 + 1) (fun e32 => (f_X3_copyFrom_59 n) c0 c1 e32 M30))
set_option maxHeartbeats 4000000 in
set_option maxRecDepth 100000 in
theorem t_X3_copyFrom_59 {G : GG} {A : Nat → Prop} {p : Program} {l : Launch} {e : Env} {s : State} {m : MethodId} {args : Array Value} {below : List Frame} {meth : Method} {c : Code} {r : Unit} {M' : Mem} (X : Cx G A p s m args meth c RX3 cX3_copyFrom 3) (hr : meth.sig.returnType = none) : ∀ (n : Nat) (c0 : Nat) (c1 : Nat) (x2 : Int32) (M : Mem), c0 < 6 → c1 < 6 → f_X3_copyFrom_59 n c0 c1 x2 M = some (r, M') → T G A p l e (rmO 2) s m args below meth c 3 0 0 (MQ below (QvO G A M') args s 0 0 A) 59 [(0, .ref (G.2.1 (2, c0, 0))), (1, .ref (G.2.1 (2, c1, 0))), (2, .int x2)] [] M := by
  intro n
  induction n with
  | zero =>
    intro c0 c1 x2 M hc0 hc1 h
    cases h
  | succ n ih =>
    intro c0 c1 x2 M hc0 hc1 h
    unfold f_X3_copyFrom_59 at h
    refine r_iload_n (pc := 59) X dX3_copyFrom_59 rfl ?_
    refine r_iconst (pc := 60) X (v := 3) dX3_copyFrom_60 (by decide) ?_
    refine r_icmp_ge (pc := 61) X (tgt := 85) dX3_copyFrom_61 (by decide) h (fun h => ?_) (fun h => ?_)
    · refine r_aload_n (pc := 85) X dX3_copyFrom_85 rfl ?_
      refine r_getR (q := (5, c0, 0)) (pc := 86) X ⟨hc0, (ltb rfl)⟩ fl_X3_22 rfl dX3_copyFrom_86 ?_
      refine r_aload_n (pc := 89) X dX3_copyFrom_89 rfl ?_
      refine r_getR (q := (5, c1, 0)) (pc := 90) X ⟨hc1, (ltb rfl)⟩ fl_X3_22 rfl dX3_copyFrom_90 ?_
      refine bndE h (fun r1 M2 h3 h => ?_)
      refine r_callVv1 (pc := 93) X ⟨hc0, (ltb rfl)⟩ rfl vy_X6_copyFrom my_X6_copyFrom ml_X3_82 ⟨Nat.le_of_ble_eq_true rfl, Nat.le_of_ble_eq_true rfl, Nat.le_of_ble_eq_true rfl, Nat.le_of_ble_eq_true rfl⟩ (c_X6_copyFrom hc0 (ltb rfl) hc1 (ltb rfl) h3) (Nat.le_of_ble_eq_true rfl) dX3_copyFrom_93 ?_
      refine r_aload_n (pc := 96) X dX3_copyFrom_96 rfl ?_
      refine r_getR (q := (5, c0, 1)) (pc := 97) X ⟨hc0, (ltb rfl)⟩ fl_X3_26 rfl dX3_copyFrom_97 ?_
      refine r_aload_n (pc := 100) X dX3_copyFrom_100 rfl ?_
      refine r_getR (q := (5, c1, 1)) (pc := 101) X ⟨hc1, (ltb rfl)⟩ fl_X3_26 rfl dX3_copyFrom_101 ?_
      refine bndE h (fun r4 M5 h6 h => ?_)
      refine r_callVv1 (pc := 104) X ⟨hc0, (ltb rfl)⟩ rfl vy_X6_copyFrom my_X6_copyFrom ml_X3_82 ⟨Nat.le_of_ble_eq_true rfl, Nat.le_of_ble_eq_true rfl, Nat.le_of_ble_eq_true rfl, Nat.le_of_ble_eq_true rfl⟩ (c_X6_copyFrom hc0 (ltb rfl) hc1 (ltb rfl) h6) (Nat.le_of_ble_eq_true rfl) dX3_copyFrom_104 ?_
      refine r_aload_n (pc := 107) X dX3_copyFrom_107 rfl ?_
      refine r_getR (q := (1, c0, 0)) (pc := 108) X ⟨hc0, (ltb rfl)⟩ fl_X3_44 rfl dX3_copyFrom_108 ?_
      refine r_aload_n (pc := 111) X dX3_copyFrom_111 rfl ?_
      refine r_getR (q := (1, c1, 0)) (pc := 112) X ⟨hc1, (ltb rfl)⟩ fl_X3_44 rfl dX3_copyFrom_112 ?_
      refine bndE h (fun r7 M8 h9 h => ?_)
      refine r_callVv1 (pc := 115) X ⟨hc0, (ltb rfl)⟩ rfl vy_X2_copyFrom my_X2_copyFrom ml_X3_85 ⟨Nat.le_of_ble_eq_true rfl, Nat.le_of_ble_eq_true rfl, Nat.le_of_ble_eq_true rfl, Nat.le_of_ble_eq_true rfl⟩ (c_X2_copyFrom hc0 hc1 h9) (Nat.le_of_ble_eq_true rfl) dX3_copyFrom_115 ?_
      refine r_aload_n (pc := 118) X dX3_copyFrom_118 rfl ?_
      refine r_getR (q := (4, c0, 0)) (pc := 119) X ⟨hc0, (ltb rfl)⟩ fl_X3_51 rfl dX3_copyFrom_119 ?_
      refine r_aload_n (pc := 122) X dX3_copyFrom_122 rfl ?_
      refine r_getR (q := (4, c1, 0)) (pc := 123) X ⟨hc1, (ltb rfl)⟩ fl_X3_51 rfl dX3_copyFrom_123 ?_
      refine bndE h (fun r10 M11 h12 h => ?_)
      refine r_callVv1 (pc := 126) X ⟨hc0, (ltb rfl)⟩ rfl vy_X5_copyFrom my_X5_copyFrom ml_X3_88 ⟨Nat.le_of_ble_eq_true rfl, Nat.le_of_ble_eq_true rfl, Nat.le_of_ble_eq_true rfl, Nat.le_of_ble_eq_true rfl⟩ (c_X5_copyFrom hc0 (ltb rfl) hc1 (ltb rfl) h12) (Nat.le_of_ble_eq_true rfl) dX3_copyFrom_126 ?_
      refine r_aload_n (pc := 129) X dX3_copyFrom_129 rfl ?_
      refine r_getR (q := (4, c0, 1)) (pc := 130) X ⟨hc0, (ltb rfl)⟩ fl_X3_55 rfl dX3_copyFrom_130 ?_
      refine r_aload_n (pc := 133) X dX3_copyFrom_133 rfl ?_
      refine r_getR (q := (4, c1, 1)) (pc := 134) X ⟨hc1, (ltb rfl)⟩ fl_X3_55 rfl dX3_copyFrom_134 ?_
      refine bndE h (fun r13 M14 h15 h => ?_)
      refine r_callVv1 (pc := 137) X ⟨hc0, (ltb rfl)⟩ rfl vy_X5_copyFrom my_X5_copyFrom ml_X3_88 ⟨Nat.le_of_ble_eq_true rfl, Nat.le_of_ble_eq_true rfl, Nat.le_of_ble_eq_true rfl, Nat.le_of_ble_eq_true rfl⟩ (c_X5_copyFrom hc0 (ltb rfl) hc1 (ltb rfl) h15) (Nat.le_of_ble_eq_true rfl) dX3_copyFrom_137 ?_
      refine r_aload_n (pc := 140) X dX3_copyFrom_140 rfl ?_
      refine r_getR (q := (4, c0, 2)) (pc := 141) X ⟨hc0, (ltb rfl)⟩ fl_X3_58 rfl dX3_copyFrom_141 ?_
      refine r_aload_n (pc := 144) X dX3_copyFrom_144 rfl ?_
      refine r_getR (q := (4, c1, 2)) (pc := 145) X ⟨hc1, (ltb rfl)⟩ fl_X3_58 rfl dX3_copyFrom_145 ?_
      refine bndE h (fun r16 M17 h18 h => ?_)
      refine r_callVv1 (pc := 148) X ⟨hc0, (ltb rfl)⟩ rfl vy_X5_copyFrom my_X5_copyFrom ml_X3_88 ⟨Nat.le_of_ble_eq_true rfl, Nat.le_of_ble_eq_true rfl, Nat.le_of_ble_eq_true rfl, Nat.le_of_ble_eq_true rfl⟩ (c_X5_copyFrom hc0 (ltb rfl) hc1 (ltb rfl) h18) (Nat.le_of_ble_eq_true rfl) dX3_copyFrom_148 ?_
      refine r_aload_n (pc := 151) X dX3_copyFrom_151 rfl ?_
      refine r_aload_n (pc := 152) X dX3_copyFrom_152 rfl ?_
      refine r_getI (pc := 153) X ⟨hc1, (ltb rfl)⟩ fl_X3_91 rfl dX3_copyFrom_153 ?_
      refine r_putZN (pc := 156) X ⟨hc0, (ltb rfl)⟩ fp_X3_91 rfl dX3_copyFrom_156 h (fun M19 h => ?_)
      refine r_aload_n (pc := 159) X dX3_copyFrom_159 rfl ?_
      refine r_aload_n (pc := 160) X dX3_copyFrom_160 rfl ?_
      refine r_getI (pc := 161) X ⟨hc1, (ltb rfl)⟩ fl_X3_94 rfl dX3_copyFrom_161 ?_
      refine r_putZN (pc := 164) X ⟨hc0, (ltb rfl)⟩ fp_X3_94 rfl dX3_copyFrom_164 h (fun M20 h => ?_)
      refine r_aload_n (pc := 167) X dX3_copyFrom_167 rfl ?_
      refine r_aload_n (pc := 168) X dX3_copyFrom_168 rfl ?_
      refine r_getI (pc := 169) X ⟨hc1, (ltb rfl)⟩ fl_X3_97 rfl dX3_copyFrom_169 ?_
      refine r_putZN (pc := 172) X ⟨hc0, (ltb rfl)⟩ fp_X3_97 rfl dX3_copyFrom_172 h (fun M21 h => ?_)
      refine r_aload_n (pc := 175) X dX3_copyFrom_175 rfl ?_
      refine r_aload_n (pc := 176) X dX3_copyFrom_176 rfl ?_
      refine r_getI (pc := 177) X ⟨hc1, (ltb rfl)⟩ fl_X3_100 rfl dX3_copyFrom_177 ?_
      refine r_putIN (pc := 180) X ⟨hc0, (ltb rfl)⟩ fp_X3_100 rfl dX3_copyFrom_180 h (fun M22 h => ?_)
      refine r_aload_n (pc := 183) X dX3_copyFrom_183 rfl ?_
      refine r_aload_n (pc := 184) X dX3_copyFrom_184 rfl ?_
      refine r_getI (pc := 185) X ⟨hc1, (ltb rfl)⟩ fl_X3_103 rfl dX3_copyFrom_185 ?_
      refine r_putIN (pc := 188) X ⟨hc0, (ltb rfl)⟩ fp_X3_103 rfl dX3_copyFrom_188 h (fun M23 h => ?_)
      refine r_aload_n (pc := 191) X dX3_copyFrom_191 rfl ?_
      refine r_aload_n (pc := 192) X dX3_copyFrom_192 rfl ?_
      refine r_getI (pc := 193) X ⟨hc1, (ltb rfl)⟩ fl_X3_106 rfl dX3_copyFrom_193 ?_
      refine r_putIN (pc := 196) X ⟨hc0, (ltb rfl)⟩ fp_X3_106 rfl dX3_copyFrom_196 h (fun M24 h => ?_)
      refine r_aload_n (pc := 199) X dX3_copyFrom_199 rfl ?_
      refine r_aload_n (pc := 200) X dX3_copyFrom_200 rfl ?_
      refine r_getI (pc := 201) X ⟨hc1, (ltb rfl)⟩ fl_X3_109 rfl dX3_copyFrom_201 ?_
      refine r_putIN (pc := 204) X ⟨hc0, (ltb rfl)⟩ fp_X3_109 rfl dX3_copyFrom_204 h (fun M25 h => ?_)
      refine r_aload_n (pc := 207) X dX3_copyFrom_207 rfl ?_
      refine r_aload_n (pc := 208) X dX3_copyFrom_208 rfl ?_
      refine r_getI (pc := 209) X ⟨hc1, (ltb rfl)⟩ fl_X3_112 rfl dX3_copyFrom_209 ?_
      refine r_putIN (pc := 212) X ⟨hc0, (ltb rfl)⟩ fp_X3_112 rfl dX3_copyFrom_212 h (fun M26 h => ?_)
      cases h
      exact r_vret (pc := 215) X hr dX3_copyFrom_215
    · refine r_aload_n (pc := 64) X dX3_copyFrom_64 rfl ?_
      refine r_getR (q := (26, c0, 0)) (pc := 65) X ⟨hc0, (ltb rfl)⟩ fl_X3_37 rfl dX3_copyFrom_65 ?_
      refine r_iload_n (pc := 68) X dX3_copyFrom_68 rfl ?_
      refine r_aald (pc := 69) X (t := 2) (n := 3) ⟨hc0, (ltb rfl)⟩ rfl (ltb rfl) (nlt rfl) dX3_copyFrom_69 h (fun hb27 h => ?_)
      refine r_aload_n (pc := 70) X dX3_copyFrom_70 rfl ?_
      refine r_getR (q := (26, c1, 0)) (pc := 71) X ⟨hc1, (ltb rfl)⟩ fl_X3_37 rfl dX3_copyFrom_71 ?_
      refine r_iload_n (pc := 74) X dX3_copyFrom_74 rfl ?_
      refine r_aald (pc := 75) X (t := 2) (n := 3) ⟨hc1, (ltb rfl)⟩ rfl (ltb rfl) (nlt rfl) dX3_copyFrom_75 h (fun hb28 h => ?_)
      refine bndE h (fun r29 M30 h31 h => ?_)
      refine r_callVv1 (pc := 76) X ⟨hc0, (bad_lt hb27)⟩ rfl vy_X9_copyFrom my_X9_copyFrom ml_X3_79 ⟨Nat.le_of_ble_eq_true rfl, Nat.le_of_ble_eq_true rfl, Nat.le_of_ble_eq_true rfl, Nat.le_of_ble_eq_true rfl⟩ (c_X9_copyFrom hc0 (bad_lt hb27) hc1 (bad_lt hb28) h31) (Nat.le_of_ble_eq_true rfl) dX3_copyFrom_76 ?_
      refine r_iincN (pc := 79) X (v0 := 1) rfl (by decide) (by decide) dX3_copyFrom_79 h (fun e32 h => ?_)
      refine r_goto (pc := 82) X (tgt := 59) dX3_copyFrom_82 (by decide) ?_
      exact T_sub (ih _ _ _ _ hc0 hc1 h) ⟨rfl, rfl, rfl, trivial⟩
def f_X3_copyFrom_31 : Nat → Nat → Nat → Int32 → Mem → Option (Unit × Mem)
  | 0 => fun _ _ _ _ => none
  | n + 1 => fun c0 c1 x2 M => if 4 ≤ x2 then f_X3_copyFrom_59 fuelN c0 c1 0 M else if bad x2 4 then none else if bad x2 4 then none else bnd (f_X8_copyFrom c0 (Int32.toNatClampNeg x2) c1 (Int32.toNatClampNeg x2) M) (fun r3 M4 => nm (x2 + 1) (fun e6 => (f_X3_copyFrom_31 n) c0 c1 e6 M4))
set_option maxHeartbeats 4000000 in
set_option maxRecDepth 100000 in
theorem t_X3_copyFrom_31 {G : GG} {A : Nat → Prop} {p : Program} {l : Launch} {e : Env} {s : State} {m : MethodId} {args : Array Value} {below : List Frame} {meth : Method} {c : Code} {r : Unit} {M' : Mem} (X : Cx G A p s m args meth c RX3 cX3_copyFrom 3) (hr : meth.sig.returnType = none) : ∀ (n : Nat) (c0 : Nat) (c1 : Nat) (x2 : Int32) (M : Mem), c0 < 6 → c1 < 6 → f_X3_copyFrom_31 n c0 c1 x2 M = some (r, M') → T G A p l e (rmO 2) s m args below meth c 3 0 0 (MQ below (QvO G A M') args s 0 0 A) 31 [(0, .ref (G.2.1 (2, c0, 0))), (1, .ref (G.2.1 (2, c1, 0))), (2, .int x2)] [] M := by
  intro n
  induction n with
  | zero =>
    intro c0 c1 x2 M hc0 hc1 h
    cases h
  | succ n ih =>
    intro c0 c1 x2 M hc0 hc1 h
    unfold f_X3_copyFrom_31 at h
    refine r_iload_n (pc := 31) X dX3_copyFrom_31 rfl ?_
    refine r_iconst (pc := 32) X (v := 4) dX3_copyFrom_32 (by decide) ?_
    refine r_icmp_ge (pc := 33) X (tgt := 57) dX3_copyFrom_33 (by decide) h (fun h => ?_) (fun h => ?_)
    · refine r_iconst (pc := 57) X (v := 0) dX3_copyFrom_57 (by decide) ?_
      refine r_istore_n (pc := 58) X (by decide) dX3_copyFrom_58 ?_
      exact T_sub (t_X3_copyFrom_59 X hr _ _ _ _ _ hc0 hc1 h) ⟨rfl, rfl, rfl, trivial⟩
    · refine r_aload_n (pc := 36) X dX3_copyFrom_36 rfl ?_
      refine r_getR (q := (25, c0, 0)) (pc := 37) X ⟨hc0, (ltb rfl)⟩ fl_X3_31 rfl dX3_copyFrom_37 ?_
      refine r_iload_n (pc := 40) X dX3_copyFrom_40 rfl ?_
      refine r_aald (pc := 41) X (t := 1) (n := 4) ⟨hc0, (ltb rfl)⟩ rfl (ltb rfl) (nlt rfl) dX3_copyFrom_41 h (fun hb1 h => ?_)
      refine r_aload_n (pc := 42) X dX3_copyFrom_42 rfl ?_
      refine r_getR (q := (25, c1, 0)) (pc := 43) X ⟨hc1, (ltb rfl)⟩ fl_X3_31 rfl dX3_copyFrom_43 ?_
      refine r_iload_n (pc := 46) X dX3_copyFrom_46 rfl ?_
      refine r_aald (pc := 47) X (t := 1) (n := 4) ⟨hc1, (ltb rfl)⟩ rfl (ltb rfl) (nlt rfl) dX3_copyFrom_47 h (fun hb2 h => ?_)
      refine bndE h (fun r3 M4 h5 h => ?_)
      refine r_callVv1 (pc := 48) X ⟨hc0, (bad_lt hb1)⟩ rfl vy_X8_copyFrom my_X8_copyFrom ml_X3_76 ⟨Nat.le_of_ble_eq_true rfl, Nat.le_of_ble_eq_true rfl, Nat.le_of_ble_eq_true rfl, Nat.le_of_ble_eq_true rfl⟩ (c_X8_copyFrom hc0 (bad_lt hb1) hc1 (bad_lt hb2) h5) (Nat.le_of_ble_eq_true rfl) dX3_copyFrom_48 ?_
      refine r_iincN (pc := 51) X (v0 := 1) rfl (by decide) (by decide) dX3_copyFrom_51 h (fun e6 h => ?_)
      refine r_goto (pc := 54) X (tgt := 31) dX3_copyFrom_54 (by decide) ?_
      exact T_sub (ih _ _ _ _ hc0 hc1 h) ⟨rfl, rfl, rfl, trivial⟩
def f_X3_copyFrom_2 : Nat → Nat → Nat → Int32 → Mem → Option (Unit × Mem)
  | 0 => fun _ _ _ _ => none
  | n + 1 => fun c0 c1 x2 M => if 8 ≤ x2 then f_X3_copyFrom_31 fuelN c0 c1 0 M else if bad x2 8 then none else if bad x2 8 then none else bnd (f_X1_copyFrom c0 (Int32.toNatClampNeg x2) c1 (Int32.toNatClampNeg x2) M) (fun r3 M4 => nm (x2 + 1) (fun e6 => (f_X3_copyFrom_2 n) c0 c1 e6 M4))
set_option maxHeartbeats 4000000 in
set_option maxRecDepth 100000 in
theorem t_X3_copyFrom_2 {G : GG} {A : Nat → Prop} {p : Program} {l : Launch} {e : Env} {s : State} {m : MethodId} {args : Array Value} {below : List Frame} {meth : Method} {c : Code} {r : Unit} {M' : Mem} (X : Cx G A p s m args meth c RX3 cX3_copyFrom 3) (hr : meth.sig.returnType = none) : ∀ (n : Nat) (c0 : Nat) (c1 : Nat) (x2 : Int32) (M : Mem), c0 < 6 → c1 < 6 → f_X3_copyFrom_2 n c0 c1 x2 M = some (r, M') → T G A p l e (rmO 2) s m args below meth c 3 0 0 (MQ below (QvO G A M') args s 0 0 A) 2 [(0, .ref (G.2.1 (2, c0, 0))), (1, .ref (G.2.1 (2, c1, 0))), (2, .int x2)] [] M := by
  intro n
  induction n with
  | zero =>
    intro c0 c1 x2 M hc0 hc1 h
    cases h
  | succ n ih =>
    intro c0 c1 x2 M hc0 hc1 h
    unfold f_X3_copyFrom_2 at h
    refine r_iload_n (pc := 2) X dX3_copyFrom_2 rfl ?_
    refine r_bipush (pc := 3) X (v := 8) dX3_copyFrom_3 (by decide) ?_
    refine r_icmp_ge (pc := 5) X (tgt := 29) dX3_copyFrom_5 (by decide) h (fun h => ?_) (fun h => ?_)
    · refine r_iconst (pc := 29) X (v := 0) dX3_copyFrom_29 (by decide) ?_
      refine r_istore_n (pc := 30) X (by decide) dX3_copyFrom_30 ?_
      exact T_sub (t_X3_copyFrom_31 X hr _ _ _ _ _ hc0 hc1 h) ⟨rfl, rfl, rfl, trivial⟩
    · refine r_aload_n (pc := 8) X dX3_copyFrom_8 rfl ?_
      refine r_getR (q := (24, c0, 0)) (pc := 9) X ⟨hc0, (ltb rfl)⟩ fl_X3_11 rfl dX3_copyFrom_9 ?_
      refine r_iload_n (pc := 12) X dX3_copyFrom_12 rfl ?_
      refine r_aald (pc := 13) X (t := 0) (n := 8) ⟨hc0, (ltb rfl)⟩ rfl (ltb rfl) (nlt rfl) dX3_copyFrom_13 h (fun hb1 h => ?_)
      refine r_aload_n (pc := 14) X dX3_copyFrom_14 rfl ?_
      refine r_getR (q := (24, c1, 0)) (pc := 15) X ⟨hc1, (ltb rfl)⟩ fl_X3_11 rfl dX3_copyFrom_15 ?_
      refine r_iload_n (pc := 18) X dX3_copyFrom_18 rfl ?_
      refine r_aald (pc := 19) X (t := 0) (n := 8) ⟨hc1, (ltb rfl)⟩ rfl (ltb rfl) (nlt rfl) dX3_copyFrom_19 h (fun hb2 h => ?_)
      refine bndE h (fun r3 M4 h5 h => ?_)
      refine r_callVv1 (pc := 20) X ⟨hc0, (bad_lt hb1)⟩ rfl vy_X1_copyFrom my_X1_copyFrom ml_X3_72 ⟨Nat.le_of_ble_eq_true rfl, Nat.le_of_ble_eq_true rfl, Nat.le_of_ble_eq_true rfl, Nat.le_of_ble_eq_true rfl⟩ (c_X1_copyFrom hc0 (bad_lt hb1) hc1 (bad_lt hb2) h5) (Nat.le_of_ble_eq_true rfl) dX3_copyFrom_20 ?_
      refine r_iincN (pc := 23) X (v0 := 1) rfl (by decide) (by decide) dX3_copyFrom_23 h (fun e6 h => ?_)
      refine r_goto (pc := 26) X (tgt := 2) dX3_copyFrom_26 (by decide) ?_
      exact T_sub (ih _ _ _ _ hc0 hc1 h) ⟨rfl, rfl, rfl, trivial⟩
def f_X3_copyFrom (c0 : Nat) (c1 : Nat) (M : Mem) : Option (Unit × Mem) :=
  f_X3_copyFrom_2 fuelN c0 c1 0 M
set_option maxHeartbeats 4000000 in
set_option maxRecDepth 100000 in
theorem t_X3_copyFrom {G : GG} {A : Nat → Prop} {p : Program} {l : Launch} {e : Env} {s : State} {m : MethodId} {args : Array Value} {below : List Frame} {meth : Method} {c : Code} {r : Unit} {M' : Mem} (X : Cx G A p s m args meth c RX3 cX3_copyFrom 3) (hr : meth.sig.returnType = none) {c0 : Nat} {c1 : Nat} {M : Mem} (hc0 : c0 < 6) (hc1 : c1 < 6) (h : f_X3_copyFrom c0 c1 M = some (r, M')) : T G A p l e (rmO 2) s m args below meth c 3 0 0 (MQ below (QvO G A M') args s 0 0 A) 0 [(0, .ref (G.2.1 (2, c0, 0))), (1, .ref (G.2.1 (2, c1, 0)))] [] M := by
  unfold f_X3_copyFrom at h
  refine r_iconst (pc := 0) X (v := 0) dX3_copyFrom_0 (by decide) ?_
  refine r_istore_n (pc := 1) X (by decide) dX3_copyFrom_1 ?_
  exact T_sub (t_X3_copyFrom_2 X hr _ _ _ _ _ hc0 hc1 h) ⟨rfl, rfl, rfl, trivial⟩
theorem c_X3_copyFrom {G : GG} {l : Launch} {c0 : Nat} {c1 : Nat} {r : Unit} {M M' : Mem} (hc0 : c0 < 6) (hc1 : c1 < 6) (h : f_X3_copyFrom c0 c1 M = some (r, M')) : Met l yX3_copyFrom (wsO yX3_copyFrom cX3_copyFrom 3 none) (rmO 2) (PcO G [.ref (G.2.1 (2, c0, 0)), .ref (G.2.1 (2, c1, 0))] M) (QvO G (AA G) M') 0 0 (AA G) :=
  met_of (own := RX3) rfl (by decide +kernel) (Nat.le_of_ble_eq_true rfl) (fun p e s m args below meth c X hr => t_X3_copyFrom X hr hc0 hc1 h)
-- ConverterScanner$Converter.sequenceOf
def f_X3_sequenceOf (c0 : Nat) (x1 : Int32) (M : Mem) : Option ((Nat × Nat) × Mem) :=
  if x1 = 2 then some ((c0, 1), M) else some ((c0, 0), M)
set_option maxHeartbeats 4000000 in
set_option maxRecDepth 100000 in
theorem t_X3_sequenceOf {G : GG} {A : Nat → Prop} {p : Program} {l : Launch} {e : Env} {s : State} {m : MethodId} {args : Array Value} {below : List Frame} {meth : Method} {c : Code} {r : (Nat × Nat)} {M' : Mem} (X : Cx G A p s m args meth c RX3 cX3_sequenceOf 2) (hr : meth.sig.returnType = some (.object "ConverterScanner$Sequence")) {c0 : Nat} {x1 : Int32} {M : Mem} (hc0 : c0 < 6) (h : f_X3_sequenceOf c0 x1 M = some (r, M')) : T G A p l e (rmO 0) s m args below meth c 2 0 0 (MQ below (QrO G A (G.2.1 (5, r.1, r.2)) M') args s 0 0 A) 0 [(0, .ref (G.2.1 (2, c0, 0))), (1, .int x1)] [] M := by
  unfold f_X3_sequenceOf at h
  refine r_iload_n (pc := 0) X dX3_sequenceOf_0 rfl ?_
  refine r_iconst (pc := 1) X (v := 2) dX3_sequenceOf_1 (by decide) ?_
  refine r_icmp_ne (pc := 2) X (tgt := 12) dX3_sequenceOf_2 (by decide) h (fun h => ?_) (fun h => ?_)
  · refine r_aload_n (pc := 12) X dX3_sequenceOf_12 rfl ?_
    refine r_getR (q := (5, c0, 0)) (pc := 13) X ⟨hc0, (ltb rfl)⟩ fl_X3_22 rfl dX3_sequenceOf_13 ?_
    cases h
    exact r_aret (pc := 16) X hr dX3_sequenceOf_16
  · refine r_aload_n (pc := 5) X dX3_sequenceOf_5 rfl ?_
    refine r_getR (q := (5, c0, 1)) (pc := 6) X ⟨hc0, (ltb rfl)⟩ fl_X3_26 rfl dX3_sequenceOf_6 ?_
    refine r_goto (pc := 9) X (tgt := 16) dX3_sequenceOf_9 (by decide) ?_
    cases h
    exact r_aret (pc := 16) X hr dX3_sequenceOf_16
theorem c_X3_sequenceOf {G : GG} {l : Launch} {c0 : Nat} {x1 : Int32} {r : (Nat × Nat)} {M M' : Mem} (hc0 : c0 < 6) (h : f_X3_sequenceOf c0 x1 M = some (r, M')) : Met l yX3_sequenceOf (wsO yX3_sequenceOf cX3_sequenceOf 2 (some (.object "ConverterScanner$Sequence"))) (rmO 0) (PcO G [.ref (G.2.1 (2, c0, 0)), .int x1] M) (QrO G (AA G) (G.2.1 (5, r.1, r.2)) M') 0 0 (AA G) :=
  met_of (own := RX3) rfl (by decide +kernel) (Nat.le_of_ble_eq_true rfl) (fun p e s m args below meth c X hr => t_X3_sequenceOf X hr hc0 h)
theorem okr_X3_sequenceOf {c0 : Nat} {x1 : Int32} {r : Nat × Nat} {M M' : Mem} (hc0 : c0 < 6) (h : f_X3_sequenceOf c0 x1 M = some (r, M')) : r.1 < 6 ∧ r.2 < 2 := by
  unfold f_X3_sequenceOf at h
  split at h <;> (cases h; exact ⟨hc0, ltb rfl⟩)
-- ConverterScanner$Converter.resultCount
def f_X3_resultCount (c0 : Nat) (M : Mem) : Option (Int32 × Mem) :=
  some (((M.1 (5, c0, 0) 8) + (M.1 (5, c0, 1) 8)), M)
set_option maxHeartbeats 4000000 in
set_option maxRecDepth 100000 in
theorem t_X3_resultCount {G : GG} {A : Nat → Prop} {p : Program} {l : Launch} {e : Env} {s : State} {m : MethodId} {args : Array Value} {below : List Frame} {meth : Method} {c : Code} {r : Int32} {M' : Mem} (X : Cx G A p s m args meth c RX3 cX3_resultCount 1) (hr : meth.sig.returnType = some .int) {c0 : Nat} {M : Mem} (hc0 : c0 < 6) (h : f_X3_resultCount c0 M = some (r, M')) : T G A p l e (rmO 0) s m args below meth c 1 0 0 (MQ below (QiO G A r M') args s 0 0 A) 0 [(0, .ref (G.2.1 (2, c0, 0)))] [] M := by
  unfold f_X3_resultCount at h
  refine r_aload_n (pc := 0) X dX3_resultCount_0 rfl ?_
  refine r_getR (q := (5, c0, 0)) (pc := 1) X ⟨hc0, (ltb rfl)⟩ fl_X3_22 rfl dX3_resultCount_1 ?_
  refine r_getI (pc := 4) X ⟨hc0, (ltb rfl)⟩ fl_X3_115 rfl dX3_resultCount_4 ?_
  refine r_aload_n (pc := 7) X dX3_resultCount_7 rfl ?_
  refine r_getR (q := (5, c0, 1)) (pc := 8) X ⟨hc0, (ltb rfl)⟩ fl_X3_26 rfl dX3_resultCount_8 ?_
  refine r_getI (pc := 11) X ⟨hc0, (ltb rfl)⟩ fl_X3_115 rfl dX3_resultCount_11 ?_
  refine r_iadd (pc := 14) X dX3_resultCount_14 ?_
  cases h
  exact r_iret (pc := 15) X hr dX3_resultCount_15
theorem c_X3_resultCount {G : GG} {l : Launch} {c0 : Nat} {r : Int32} {M M' : Mem} (hc0 : c0 < 6) (h : f_X3_resultCount c0 M = some (r, M')) : Met l yX3_resultCount (wsO yX3_resultCount cX3_resultCount 1 (some .int)) (rmO 0) (PcO G [.ref (G.2.1 (2, c0, 0))] M) (QiO G (AA G) r M') 0 0 (AA G) :=
  met_of (own := RX3) rfl (by decide +kernel) (Nat.le_of_ble_eq_true rfl) (fun p e s m args below meth c X hr => t_X3_resultCount X hr hc0 h)
-- ConverterScanner$Converter.breakOffRegular
def f_X3_breakOffRegular (c0 : Nat) (x1 : Int32) (M : Mem) : Option (Unit × Mem) :=
  if (M.1 (1, c0, 0) 0) = 1 then nm (uI M (1, c0, 0) 0 0) (fun M1 => nm (uI M1 (1, c0, 0) 5 ((M1.1 (1, c0, 0) 5) + 1)) (fun M2 => if x1 = 0 then bnd (f_X6_forgetConversions c0 0 M2) (fun r3 M4 => some ((), M4)) else some ((), M2))) else some ((), M)
set_option maxHeartbeats 4000000 in
set_option maxRecDepth 100000 in
theorem t_X3_breakOffRegular {G : GG} {A : Nat → Prop} {p : Program} {l : Launch} {e : Env} {s : State} {m : MethodId} {args : Array Value} {below : List Frame} {meth : Method} {c : Code} {r : Unit} {M' : Mem} (X : Cx G A p s m args meth c RX3 cX3_breakOffRegular 2) (hr : meth.sig.returnType = none) {c0 : Nat} {x1 : Int32} {M : Mem} (hc0 : c0 < 6) (h : f_X3_breakOffRegular c0 x1 M = some (r, M')) : T G A p l e (rmO 1) s m args below meth c 2 0 0 (MQ below (QvO G A M') args s 0 0 A) 0 [(0, .ref (G.2.1 (2, c0, 0))), (1, .int x1)] [] M := by
  unfold f_X3_breakOffRegular at h
  refine r_aload_n (pc := 0) X dX3_breakOffRegular_0 rfl ?_
  refine r_getR (q := (1, c0, 0)) (pc := 1) X ⟨hc0, (ltb rfl)⟩ fl_X3_44 rfl dX3_breakOffRegular_1 ?_
  refine r_getI (pc := 4) X ⟨hc0, (ltb rfl)⟩ fl_X3_125 rfl dX3_breakOffRegular_4 ?_
  refine r_iconst (pc := 7) X (v := 1) dX3_breakOffRegular_7 (by decide) ?_
  refine r_icmp_eq (pc := 8) X (tgt := 12) dX3_breakOffRegular_8 (by decide) h (fun h => ?_) (fun h => ?_)
  · refine r_aload_n (pc := 12) X dX3_breakOffRegular_12 rfl ?_
    refine r_getR (q := (1, c0, 0)) (pc := 13) X ⟨hc0, (ltb rfl)⟩ fl_X3_44 rfl dX3_breakOffRegular_13 ?_
    refine r_iconst (pc := 16) X (v := 0) dX3_breakOffRegular_16 (by decide) ?_
    refine r_putIN (pc := 17) X ⟨hc0, (ltb rfl)⟩ fp_X3_125 rfl dX3_breakOffRegular_17 h (fun M1 h => ?_)
    refine r_aload_n (pc := 20) X dX3_breakOffRegular_20 rfl ?_
    refine r_getR (q := (1, c0, 0)) (pc := 21) X ⟨hc0, (ltb rfl)⟩ fl_X3_44 rfl dX3_breakOffRegular_21 ?_
    refine r_dup (pc := 24) X dX3_breakOffRegular_24 rfl ?_
    refine r_getI (pc := 25) X ⟨hc0, (ltb rfl)⟩ fl_X3_165 rfl dX3_breakOffRegular_25 ?_
    refine r_iconst (pc := 28) X (v := 1) dX3_breakOffRegular_28 (by decide) ?_
    refine r_iadd (pc := 29) X dX3_breakOffRegular_29 ?_
    refine r_putIN (pc := 30) X ⟨hc0, (ltb rfl)⟩ fp_X3_165 rfl dX3_breakOffRegular_30 h (fun M2 h => ?_)
    refine r_iload_n (pc := 33) X dX3_breakOffRegular_33 rfl ?_
    refine r_if_ne (pc := 34) X (tgt := 44) dX3_breakOffRegular_34 (by decide) h (fun h => ?_) (fun h => ?_)
    · cases h
      exact r_vret (pc := 44) X hr dX3_breakOffRegular_44
    · refine r_aload_n (pc := 37) X dX3_breakOffRegular_37 rfl ?_
      refine r_getR (q := (5, c0, 0)) (pc := 38) X ⟨hc0, (ltb rfl)⟩ fl_X3_22 rfl dX3_breakOffRegular_38 ?_
      refine bndE h (fun r3 M4 h5 h => ?_)
      refine r_callVv0 (pc := 41) X ⟨hc0, (ltb rfl)⟩ rfl vy_X6_forgetConversions my_X6_forgetConversions ml_X3_168 ⟨Nat.le_of_ble_eq_true rfl, Nat.le_of_ble_eq_true rfl, Nat.le_of_ble_eq_true rfl, Nat.le_of_ble_eq_true rfl⟩ (c_X6_forgetConversions hc0 (ltb rfl) h5) (Nat.le_of_ble_eq_true rfl) dX3_breakOffRegular_41 ?_
      cases h
      exact r_vret (pc := 44) X hr dX3_breakOffRegular_44
  · cases h
    exact r_vret (pc := 11) X hr dX3_breakOffRegular_11
theorem c_X3_breakOffRegular {G : GG} {l : Launch} {c0 : Nat} {x1 : Int32} {r : Unit} {M M' : Mem} (hc0 : c0 < 6) (h : f_X3_breakOffRegular c0 x1 M = some (r, M')) : Met l yX3_breakOffRegular (wsO yX3_breakOffRegular cX3_breakOffRegular 2 none) (rmO 1) (PcO G [.ref (G.2.1 (2, c0, 0)), .int x1] M) (QvO G (AA G) M') 0 0 (AA G) :=
  met_of (own := RX3) rfl (by decide +kernel) (Nat.le_of_ble_eq_true rfl) (fun p e s m args below meth c X hr => t_X3_breakOffRegular X hr hc0 h)
-- ConverterScanner$Converter.startSequence
def f_X3_startSequence (c0 : Nat) (x1 : Int32) (x2 : Int32) (M : Mem) : Option (Unit × Mem) :=
  bnd (f_X3_sequenceOf c0 x1 M) (fun r1 M2 => bnd (f_X6_becomeBusy r1.1 r1.2 x2 (M2.1 (2, c0, 0) 15) M2) (fun r4 M5 => if x1 = 2 then bnd (f_X3_breakOffRegular c0 (M5.1 (2, c0, 0) 11) M5) (fun r7 M8 => some ((), M8)) else some ((), M5)))
set_option maxHeartbeats 4000000 in
set_option maxRecDepth 100000 in
theorem t_X3_startSequence {G : GG} {A : Nat → Prop} {p : Program} {l : Launch} {e : Env} {s : State} {m : MethodId} {args : Array Value} {below : List Frame} {meth : Method} {c : Code} {r : Unit} {M' : Mem} (X : Cx G A p s m args meth c RX3 cX3_startSequence 3) (hr : meth.sig.returnType = none) {c0 : Nat} {x1 : Int32} {x2 : Int32} {M : Mem} (hc0 : c0 < 6) (h : f_X3_startSequence c0 x1 x2 M = some (r, M')) : T G A p l e (rmO 2) s m args below meth c 3 0 0 (MQ below (QvO G A M') args s 0 0 A) 0 [(0, .ref (G.2.1 (2, c0, 0))), (1, .int x1), (2, .int x2)] [] M := by
  unfold f_X3_startSequence at h
  refine r_aload_n (pc := 0) X dX3_startSequence_0 rfl ?_
  refine r_iload_n (pc := 1) X dX3_startSequence_1 rfl ?_
  refine bndE h (fun r1 M2 h3 h => ?_)
  refine r_callVr1 (pc := 2) X ⟨hc0, (ltb rfl)⟩ rfl vy_X3_sequenceOf my_X3_sequenceOf ml_X3_143 ⟨Nat.le_of_ble_eq_true rfl, Nat.le_of_ble_eq_true rfl, Nat.le_of_ble_eq_true rfl, Nat.le_of_ble_eq_true rfl⟩ (c_X3_sequenceOf hc0 h3) (Nat.le_of_ble_eq_true rfl) dX3_startSequence_2 ?_
  refine r_iload_n (pc := 5) X dX3_startSequence_5 rfl ?_
  refine r_aload_n (pc := 6) X dX3_startSequence_6 rfl ?_
  refine r_getI (pc := 7) X ⟨hc0, (ltb rfl)⟩ fl_X3_109 rfl dX3_startSequence_7 ?_
  refine bndE h (fun r4 M5 h6 h => ?_)
  refine r_callVv2 (pc := 10) X ⟨(okr_X3_sequenceOf hc0 h3).1, (okr_X3_sequenceOf hc0 h3).2⟩ rfl vy_X6_becomeBusy my_X6_becomeBusy ml_X3_158 ⟨Nat.le_of_ble_eq_true rfl, Nat.le_of_ble_eq_true rfl, Nat.le_of_ble_eq_true rfl, Nat.le_of_ble_eq_true rfl⟩ (c_X6_becomeBusy (okr_X3_sequenceOf hc0 h3).1 (okr_X3_sequenceOf hc0 h3).2 h6) (Nat.le_of_ble_eq_true rfl) dX3_startSequence_10 ?_
  refine r_iload_n (pc := 13) X dX3_startSequence_13 rfl ?_
  refine r_iconst (pc := 14) X (v := 2) dX3_startSequence_14 (by decide) ?_
  refine r_icmp_ne (pc := 15) X (tgt := 26) dX3_startSequence_15 (by decide) h (fun h => ?_) (fun h => ?_)
  · cases h
    exact r_vret (pc := 26) X hr dX3_startSequence_26
  · refine r_aload_n (pc := 18) X dX3_startSequence_18 rfl ?_
    refine r_aload_n (pc := 19) X dX3_startSequence_19 rfl ?_
    refine r_getI (pc := 20) X ⟨hc0, (ltb rfl)⟩ fl_X3_97 rfl dX3_startSequence_20 ?_
    refine bndE h (fun r7 M8 h9 h => ?_)
    refine r_callVv1 (pc := 23) X ⟨hc0, (ltb rfl)⟩ rfl vy_X3_breakOffRegular my_X3_breakOffRegular ml_X3_161 ⟨Nat.le_of_ble_eq_true rfl, Nat.le_of_ble_eq_true rfl, Nat.le_of_ble_eq_true rfl, Nat.le_of_ble_eq_true rfl⟩ (c_X3_breakOffRegular hc0 h9) (Nat.le_of_ble_eq_true rfl) dX3_startSequence_23 ?_
    cases h
    exact r_vret (pc := 26) X hr dX3_startSequence_26
theorem c_X3_startSequence {G : GG} {l : Launch} {c0 : Nat} {x1 : Int32} {x2 : Int32} {r : Unit} {M M' : Mem} (hc0 : c0 < 6) (h : f_X3_startSequence c0 x1 x2 M = some (r, M')) : Met l yX3_startSequence (wsO yX3_startSequence cX3_startSequence 3 none) (rmO 2) (PcO G [.ref (G.2.1 (2, c0, 0)), .int x1, .int x2] M) (QvO G (AA G) M') 0 0 (AA G) :=
  met_of (own := RX3) rfl (by decide +kernel) (Nat.le_of_ble_eq_true rfl) (fun p e s m args below meth c X hr => t_X3_startSequence X hr hc0 h)
-- ConverterScanner$Converter.endPass
def f_X3_endPass_89 (c0 : Nat) (M : Mem) : Option (Unit × Mem) :=
  if (M.1 (2, c0, 0) 9) = 0 then bnd (f_X6_becomeIdle c0 0 M) (fun r1 M2 => some ((), M2)) else bnd (f_X6_beginPass c0 0 M) (fun r4 M5 => some ((), M5))
set_option maxHeartbeats 4000000 in
set_option maxRecDepth 100000 in
theorem t_X3_endPass_89 {G : GG} {A : Nat → Prop} {p : Program} {l : Launch} {e : Env} {s : State} {m : MethodId} {args : Array Value} {below : List Frame} {meth : Method} {c : Code} {r : Unit} {M' : Mem} (X : Cx G A p s m args meth c RX3 cX3_endPass 2) (hr : meth.sig.returnType = none) {c0 : Nat} {M : Mem} (hc0 : c0 < 6) (h : f_X3_endPass_89 c0 M = some (r, M')) : T G A p l e (rmO 3) s m args below meth c 2 0 0 (MQ below (QvO G A M') args s 0 0 A) 89 [(0, .ref (G.2.1 (2, c0, 0)))] [] M := by
  unfold f_X3_endPass_89 at h
  refine r_aload_n (pc := 89) X dX3_endPass_89 rfl ?_
  refine r_getI (pc := 90) X ⟨hc0, (ltb rfl)⟩ fl_X3_91 rfl dX3_endPass_90 ?_
  refine r_if_eq (pc := 93) X (tgt := 106) dX3_endPass_93 (by decide) h (fun h => ?_) (fun h => ?_)
  · refine r_aload_n (pc := 106) X dX3_endPass_106 rfl ?_
    refine r_getR (q := (5, c0, 0)) (pc := 107) X ⟨hc0, (ltb rfl)⟩ fl_X3_22 rfl dX3_endPass_107 ?_
    refine bndE h (fun r1 M2 h3 h => ?_)
    refine r_callVv0 (pc := 110) X ⟨hc0, (ltb rfl)⟩ rfl vy_X6_becomeIdle my_X6_becomeIdle ml_X3_174 ⟨Nat.le_of_ble_eq_true rfl, Nat.le_of_ble_eq_true rfl, Nat.le_of_ble_eq_true rfl, Nat.le_of_ble_eq_true rfl⟩ (c_X6_becomeIdle hc0 (ltb rfl) h3) (Nat.le_of_ble_eq_true rfl) dX3_endPass_110 ?_
    cases h
    exact r_vret (pc := 113) X hr dX3_endPass_113
  · refine r_aload_n (pc := 96) X dX3_endPass_96 rfl ?_
    refine r_getR (q := (5, c0, 0)) (pc := 97) X ⟨hc0, (ltb rfl)⟩ fl_X3_22 rfl dX3_endPass_97 ?_
    refine bndE h (fun r4 M5 h6 h => ?_)
    refine r_callVv0 (pc := 100) X ⟨hc0, (ltb rfl)⟩ rfl vy_X6_beginPass my_X6_beginPass ml_X3_252 ⟨Nat.le_of_ble_eq_true rfl, Nat.le_of_ble_eq_true rfl, Nat.le_of_ble_eq_true rfl, Nat.le_of_ble_eq_true rfl⟩ (c_X6_beginPass hc0 (ltb rfl) h6) (Nat.le_of_ble_eq_true rfl) dX3_endPass_100 ?_
    refine r_goto (pc := 103) X (tgt := 113) dX3_endPass_103 (by decide) ?_
    cases h
    exact r_vret (pc := 113) X hr dX3_endPass_113
def f_X3_endPass_60 (c0 : Nat) (M : Mem) : Option (Unit × Mem) :=
  if (M.1 (2, c0, 0) 10) = 0 then f_X3_endPass_89 c0 M else bnd (f_X6_isReady c0 1 M) (fun r1 M2 => if r1 = 0 then f_X3_endPass_89 c0 M2 else bnd (f_X3_startSequence c0 2 (M2.1 (5, c0, 0) 6) M2) (fun r4 M5 => f_X3_endPass_89 c0 M5))
set_option maxHeartbeats 4000000 in
set_option maxRecDepth 100000 in
theorem t_X3_endPass_60 {G : GG} {A : Nat → Prop} {p : Program} {l : Launch} {e : Env} {s : State} {m : MethodId} {args : Array Value} {below : List Frame} {meth : Method} {c : Code} {r : Unit} {M' : Mem} (X : Cx G A p s m args meth c RX3 cX3_endPass 2) (hr : meth.sig.returnType = none) {c0 : Nat} {M : Mem} (hc0 : c0 < 6) (h : f_X3_endPass_60 c0 M = some (r, M')) : T G A p l e (rmO 3) s m args below meth c 2 0 0 (MQ below (QvO G A M') args s 0 0 A) 60 [(0, .ref (G.2.1 (2, c0, 0)))] [] M := by
  unfold f_X3_endPass_60 at h
  refine r_aload_n (pc := 60) X dX3_endPass_60 rfl ?_
  refine r_getI (pc := 61) X ⟨hc0, (ltb rfl)⟩ fl_X3_94 rfl dX3_endPass_61 ?_
  refine r_if_eq (pc := 64) X (tgt := 89) dX3_endPass_64 (by decide) h (fun h => ?_) (fun h => ?_)
  · exact T_sub (t_X3_endPass_89 X hr hc0 h) ⟨rfl, trivial⟩
  · refine r_aload_n (pc := 67) X dX3_endPass_67 rfl ?_
    refine r_getR (q := (5, c0, 1)) (pc := 68) X ⟨hc0, (ltb rfl)⟩ fl_X3_26 rfl dX3_endPass_68 ?_
    refine bndE h (fun r1 M2 h3 h => ?_)
    refine r_callVi0 (pc := 71) X ⟨hc0, (ltb rfl)⟩ rfl vy_X6_isReady my_X6_isReady ml_X3_147 ⟨Nat.le_of_ble_eq_true rfl, Nat.le_of_ble_eq_true rfl, Nat.le_of_ble_eq_true rfl, Nat.le_of_ble_eq_true rfl⟩ (c_X6_isReady hc0 (ltb rfl) h3) (Nat.le_of_ble_eq_true rfl) dX3_endPass_71 ?_
    refine r_if_eq (pc := 74) X (tgt := 89) dX3_endPass_74 (by decide) h (fun h => ?_) (fun h => ?_)
    · exact T_sub (t_X3_endPass_89 X hr hc0 h) ⟨rfl, trivial⟩
    · refine r_aload_n (pc := 77) X dX3_endPass_77 rfl ?_
      refine r_iconst (pc := 78) X (v := 2) dX3_endPass_78 (by decide) ?_
      refine r_aload_n (pc := 79) X dX3_endPass_79 rfl ?_
      refine r_getR (q := (5, c0, 0)) (pc := 80) X ⟨hc0, (ltb rfl)⟩ fl_X3_22 rfl dX3_endPass_80 ?_
      refine r_getI (pc := 83) X ⟨hc0, (ltb rfl)⟩ fl_X3_222 rfl dX3_endPass_83 ?_
      refine bndE h (fun r4 M5 h6 h => ?_)
      refine r_callVv2 (pc := 86) X ⟨hc0, (ltb rfl)⟩ rfl vy_X3_startSequence my_X3_startSequence ml_X3_154 ⟨Nat.le_of_ble_eq_true rfl, Nat.le_of_ble_eq_true rfl, Nat.le_of_ble_eq_true rfl, Nat.le_of_ble_eq_true rfl⟩ (c_X3_startSequence hc0 h6) (Nat.le_of_ble_eq_true rfl) dX3_endPass_86 ?_
      exact T_sub (t_X3_endPass_89 X hr hc0 h) ⟨rfl, trivial⟩
def f_X3_endPass (c0 : Nat) (x1 : Int32) (M : Mem) : Option (Unit × Mem) :=
  bnd (f_X3_sequenceOf c0 x1 M) (fun r1 M2 => nm (uI M2 (5, r1.1, r1.2) 9 ((M2.1 (5, r1.1, r1.2) 9) + 1)) (fun M4 => if x1 = 2 then nm (uI M4 (5, c0, 1) 4 0) (fun M6 => bnd (f_X6_becomeIdle c0 1 M6) (fun r7 M8 => some ((), M8))) else if (M4.1 (5, c0, 0) 4) < (M4.1 (5, c0, 0) 1) then f_X3_endPass_60 c0 M4 else nm (uI M4 (5, c0, 0) 4 0) (fun M5 => f_X3_endPass_60 c0 M5)))
set_option maxHeartbeats 4000000 in
set_option maxRecDepth 100000 in
theorem t_X3_endPass {G : GG} {A : Nat → Prop} {p : Program} {l : Launch} {e : Env} {s : State} {m : MethodId} {args : Array Value} {below : List Frame} {meth : Method} {c : Code} {r : Unit} {M' : Mem} (X : Cx G A p s m args meth c RX3 cX3_endPass 2) (hr : meth.sig.returnType = none) {c0 : Nat} {x1 : Int32} {M : Mem} (hc0 : c0 < 6) (h : f_X3_endPass c0 x1 M = some (r, M')) : T G A p l e (rmO 3) s m args below meth c 2 0 0 (MQ below (QvO G A M') args s 0 0 A) 0 [(0, .ref (G.2.1 (2, c0, 0))), (1, .int x1)] [] M := by
  unfold f_X3_endPass at h
  refine r_aload_n (pc := 0) X dX3_endPass_0 rfl ?_
  refine r_iload_n (pc := 1) X dX3_endPass_1 rfl ?_
  refine bndE h (fun r1 M2 h3 h => ?_)
  refine r_callVr1 (pc := 2) X ⟨hc0, (ltb rfl)⟩ rfl vy_X3_sequenceOf my_X3_sequenceOf ml_X3_143 ⟨Nat.le_of_ble_eq_true rfl, Nat.le_of_ble_eq_true rfl, Nat.le_of_ble_eq_true rfl, Nat.le_of_ble_eq_true rfl⟩ (c_X3_sequenceOf hc0 h3) (Nat.le_of_ble_eq_true rfl) dX3_endPass_2 ?_
  refine r_dup (pc := 5) X dX3_endPass_5 rfl ?_
  refine r_getI (pc := 6) X ⟨(okr_X3_sequenceOf hc0 h3).1, (okr_X3_sequenceOf hc0 h3).2⟩ fl_X3_246 rfl dX3_endPass_6 ?_
  refine r_iconst (pc := 9) X (v := 1) dX3_endPass_9 (by decide) ?_
  refine r_iadd (pc := 10) X dX3_endPass_10 ?_
  refine r_putIN (pc := 11) X ⟨(okr_X3_sequenceOf hc0 h3).1, (okr_X3_sequenceOf hc0 h3).2⟩ fp_X3_246 rfl dX3_endPass_11 h (fun M4 h => ?_)
  refine r_iload_n (pc := 14) X dX3_endPass_14 rfl ?_
  refine r_iconst (pc := 15) X (v := 2) dX3_endPass_15 (by decide) ?_
  refine r_icmp_ne (pc := 16) X (tgt := 35) dX3_endPass_16 (by decide) h (fun h => ?_) (fun h => ?_)
  · refine r_aload_n (pc := 35) X dX3_endPass_35 rfl ?_
    refine r_getR (q := (5, c0, 0)) (pc := 36) X ⟨hc0, (ltb rfl)⟩ fl_X3_22 rfl dX3_endPass_36 ?_
    refine r_getI (pc := 39) X ⟨hc0, (ltb rfl)⟩ fl_X3_177 rfl dX3_endPass_39 ?_
    refine r_aload_n (pc := 42) X dX3_endPass_42 rfl ?_
    refine r_getR (q := (5, c0, 0)) (pc := 43) X ⟨hc0, (ltb rfl)⟩ fl_X3_22 rfl dX3_endPass_43 ?_
    refine r_getI (pc := 46) X ⟨hc0, (ltb rfl)⟩ fl_X3_249 rfl dX3_endPass_46 ?_
    refine r_icmp_lt (pc := 49) X (tgt := 60) dX3_endPass_49 (by decide) h (fun h => ?_) (fun h => ?_)
    · exact T_sub (t_X3_endPass_60 X hr hc0 h) ⟨rfl, trivial⟩
    · refine r_aload_n (pc := 52) X dX3_endPass_52 rfl ?_
      refine r_getR (q := (5, c0, 0)) (pc := 53) X ⟨hc0, (ltb rfl)⟩ fl_X3_22 rfl dX3_endPass_53 ?_
      refine r_iconst (pc := 56) X (v := 0) dX3_endPass_56 (by decide) ?_
      refine r_putIN (pc := 57) X ⟨hc0, (ltb rfl)⟩ fp_X3_177 rfl dX3_endPass_57 h (fun M5 h => ?_)
      exact T_sub (t_X3_endPass_60 X hr hc0 h) ⟨rfl, trivial⟩
  · refine r_aload_n (pc := 19) X dX3_endPass_19 rfl ?_
    refine r_getR (q := (5, c0, 1)) (pc := 20) X ⟨hc0, (ltb rfl)⟩ fl_X3_26 rfl dX3_endPass_20 ?_
    refine r_iconst (pc := 23) X (v := 0) dX3_endPass_23 (by decide) ?_
    refine r_putIN (pc := 24) X ⟨hc0, (ltb rfl)⟩ fp_X3_177 rfl dX3_endPass_24 h (fun M6 h => ?_)
    refine r_aload_n (pc := 27) X dX3_endPass_27 rfl ?_
    refine r_getR (q := (5, c0, 1)) (pc := 28) X ⟨hc0, (ltb rfl)⟩ fl_X3_26 rfl dX3_endPass_28 ?_
    refine bndE h (fun r7 M8 h9 h => ?_)
    refine r_callVv0 (pc := 31) X ⟨hc0, (ltb rfl)⟩ rfl vy_X6_becomeIdle my_X6_becomeIdle ml_X3_174 ⟨Nat.le_of_ble_eq_true rfl, Nat.le_of_ble_eq_true rfl, Nat.le_of_ble_eq_true rfl, Nat.le_of_ble_eq_true rfl⟩ (c_X6_becomeIdle hc0 (ltb rfl) h9) (Nat.le_of_ble_eq_true rfl) dX3_endPass_31 ?_
    cases h
    exact r_vret (pc := 34) X hr dX3_endPass_34
theorem c_X3_endPass {G : GG} {l : Launch} {c0 : Nat} {x1 : Int32} {r : Unit} {M M' : Mem} (hc0 : c0 < 6) (h : f_X3_endPass c0 x1 M = some (r, M')) : Met l yX3_endPass (wsO yX3_endPass cX3_endPass 2 none) (rmO 3) (PcO G [.ref (G.2.1 (2, c0, 0)), .int x1] M) (QvO G (AA G) M') 0 0 (AA G) :=
  met_of (own := RX3) rfl (by decide +kernel) (Nat.le_of_ble_eq_true rfl) (fun p e s m args below meth c X hr => t_X3_endPass X hr hc0 h)
-- ConverterScanner$Converter.finishResult
def f_X3_finishResult_170 (c2 : Nat) (j2 : Nat) (M : Mem) : Option (Unit × Mem) :=
  nm (uI M (5, c2, j2) 4 ((M.1 (5, c2, j2) 4) + 1)) (fun M1 => some ((), M1))
set_option maxHeartbeats 4000000 in
set_option maxRecDepth 100000 in
theorem t_X3_finishResult_170 {G : GG} {A : Nat → Prop} {p : Program} {l : Launch} {e : Env} {s : State} {m : MethodId} {args : Array Value} {below : List Frame} {meth : Method} {c : Code} {r : Unit} {M' : Mem} (X : Cx G A p s m args meth c RX3 cX3_finishResult 7) (hr : meth.sig.returnType = none) {c2 : Nat} {j2 : Nat} {M : Mem} (hc2 : c2 < 6) (hj2 : j2 < 2) (h : f_X3_finishResult_170 c2 j2 M = some (r, M')) : T G A p l e (rmO 2) s m args below meth c 7 0 0 (MQ below (QvO G A M') args s 0 0 A) 170 [(2, .ref (G.2.1 (5, c2, j2)))] [] M := by
  unfold f_X3_finishResult_170 at h
  refine r_aload_n (pc := 170) X dX3_finishResult_170 rfl ?_
  refine r_dup (pc := 171) X dX3_finishResult_171 rfl ?_
  refine r_getI (pc := 172) X ⟨hc2, hj2⟩ fl_X3_177 rfl dX3_finishResult_172 ?_
  refine r_iconst (pc := 175) X (v := 1) dX3_finishResult_175 (by decide) ?_
  refine r_iadd (pc := 176) X dX3_finishResult_176 ?_
  refine r_putIN (pc := 177) X ⟨hc2, hj2⟩ fp_X3_177 rfl dX3_finishResult_177 h (fun M1 h => ?_)
  cases h
  exact r_vret (pc := 180) X hr dX3_finishResult_180
def f_X3_finishResult_53 : Nat → Nat → Int32 → Nat → Nat → Int32 → Nat → Nat → Int32 → Int32 → Mem → Option (Unit × Mem)
  | 0 => fun _ _ _ _ _ _ _ _ _ _ => none
  | n + 1 => fun c0 x1 c2 j2 x3 c4 j4 x5 x6 M => if 3 ≤ x6 then bnd (f_X1_addResult c4 j4 x5 M) (fun r1 M2 => nm (uI M2 (5, c2, j2) 8 ((M2.1 (5, c2, j2) 8) + 1)) (fun M4 => nm (uL M4 (5, c2, j2) 12 ((M4.2.1 (5, c2, j2) 12) + (Int32.toInt64 ((M4.1 (2, c0, 0) 15) - (M4.1 (5, c2, j2) 7))))) (fun M5 => if x1 = 2 then bnd (f_X5_put c0 2 (M5.1 (5, c2, j2) 4) x3 (M5.1 (5, c2, j2) 6) (M5.1 (2, c0, 0) 15) x5 M5) (fun r9 M10 => f_X3_finishResult_170 c2 j2 M10) else bnd (f_X5_add c0 0 x3 (M5.1 (5, c2, j2) 6) (M5.1 (2, c0, 0) 15) x5 M5) (fun r6 M7 => f_X3_finishResult_170 c2 j2 M7)))) else if bad x6 3 then none else bnd (f_X9_look c0 (Int32.toNatClampNeg x6) x3 (M.1 (5, c2, j2) 6) (M.1 (2, c0, 0) 15) x5 M) (fun r13 M14 => nm (x6 + 1) (fun e16 => (f_X3_finishResult_53 n) c0 x1 c2 j2 x3 c4 j4 x5 e16 M14))
set_option maxHeartbeats 4000000 in
set_option maxRecDepth 100000 in
theorem t_X3_finishResult_53 {G : GG} {A : Nat → Prop} {p : Program} {l : Launch} {e : Env} {s : State} {m : MethodId} {args : Array Value} {below : List Frame} {meth : Method} {c : Code} {r : Unit} {M' : Mem} (X : Cx G A p s m args meth c RX3 cX3_finishResult 7) (hr : meth.sig.returnType = none) : ∀ (n : Nat) (c0 : Nat) (x1 : Int32) (c2 : Nat) (j2 : Nat) (x3 : Int32) (c4 : Nat) (j4 : Nat) (x5 : Int32) (x6 : Int32) (M : Mem), c0 < 6 → c2 < 6 → j2 < 2 → c4 < 6 → j4 < 8 → f_X3_finishResult_53 n c0 x1 c2 j2 x3 c4 j4 x5 x6 M = some (r, M') → T G A p l e (rmO 2) s m args below meth c 7 0 0 (MQ below (QvO G A M') args s 0 0 A) 53 [(0, .ref (G.2.1 (2, c0, 0))), (1, .int x1), (2, .ref (G.2.1 (5, c2, j2))), (3, .int x3), (4, .ref (G.2.1 (0, c4, j4))), (5, .int x5), (6, .int x6)] [] M := by
  intro n
  induction n with
  | zero =>
    intro c0 x1 c2 j2 x3 c4 j4 x5 x6 M hc0 hc2 hj2 hc4 hj4 h
    cases h
  | succ n ih =>
    intro c0 x1 c2 j2 x3 c4 j4 x5 x6 M hc0 hc2 hj2 hc4 hj4 h
    unfold f_X3_finishResult_53 at h
    refine r_iload (pc := 53) X dX3_finishResult_53 rfl ?_
    refine r_iconst (pc := 55) X (v := 3) dX3_finishResult_55 (by decide) ?_
    refine r_icmp_ge (pc := 56) X (tgt := 86) dX3_finishResult_56 (by decide) h (fun h => ?_) (fun h => ?_)
    · refine r_aload (pc := 86) X dX3_finishResult_86 rfl ?_
      refine r_iload (pc := 88) X dX3_finishResult_88 rfl ?_
      refine bndE h (fun r1 M2 h3 h => ?_)
      refine r_callVv1 (pc := 90) X ⟨hc4, hj4⟩ rfl vy_X1_addResult my_X1_addResult ml_X3_229 ⟨Nat.le_of_ble_eq_true rfl, Nat.le_of_ble_eq_true rfl, Nat.le_of_ble_eq_true rfl, Nat.le_of_ble_eq_true rfl⟩ (c_X1_addResult hc4 hj4 h3) (Nat.le_of_ble_eq_true rfl) dX3_finishResult_90 ?_
      refine r_aload_n (pc := 93) X dX3_finishResult_93 rfl ?_
      refine r_dup (pc := 94) X dX3_finishResult_94 rfl ?_
      refine r_getI (pc := 95) X ⟨hc2, hj2⟩ fl_X3_115 rfl dX3_finishResult_95 ?_
      refine r_iconst (pc := 98) X (v := 1) dX3_finishResult_98 (by decide) ?_
      refine r_iadd (pc := 99) X dX3_finishResult_99 ?_
      refine r_putIN (pc := 100) X ⟨hc2, hj2⟩ fp_X3_115 rfl dX3_finishResult_100 h (fun M4 h => ?_)
      refine r_aload_n (pc := 103) X dX3_finishResult_103 rfl ?_
      refine r_dup (pc := 104) X dX3_finishResult_104 rfl ?_
      refine r_getL (pc := 105) X ⟨hc2, hj2⟩ fl_X3_232 rfl dX3_finishResult_105 ?_
      refine r_aload_n (pc := 108) X dX3_finishResult_108 rfl ?_
      refine r_getI (pc := 109) X ⟨hc0, (ltb rfl)⟩ fl_X3_109 rfl dX3_finishResult_109 ?_
      refine r_aload_n (pc := 112) X dX3_finishResult_112 rfl ?_
      refine r_getI (pc := 113) X ⟨hc2, hj2⟩ fl_X3_236 rfl dX3_finishResult_113 ?_
      refine r_isub (pc := 116) X dX3_finishResult_116 ?_
      refine r_i2l (pc := 117) X dX3_finishResult_117 ?_
      refine r_ladd (pc := 118) X dX3_finishResult_118 ?_
      refine r_putLN (pc := 119) X ⟨hc2, hj2⟩ fp_X3_232 rfl dX3_finishResult_119 h (fun M5 h => ?_)
      refine r_iload_n (pc := 122) X dX3_finishResult_122 rfl ?_
      refine r_iconst (pc := 123) X (v := 2) dX3_finishResult_123 (by decide) ?_
      refine r_icmp_ne (pc := 124) X (tgt := 152) dX3_finishResult_124 (by decide) h (fun h => ?_) (fun h => ?_)
      · refine r_aload_n (pc := 152) X dX3_finishResult_152 rfl ?_
        refine r_getR (q := (4, c0, 0)) (pc := 153) X ⟨hc0, (ltb rfl)⟩ fl_X3_51 rfl dX3_finishResult_153 ?_
        refine r_iload_n (pc := 156) X dX3_finishResult_156 rfl ?_
        refine r_aload_n (pc := 157) X dX3_finishResult_157 rfl ?_
        refine r_getI (pc := 158) X ⟨hc2, hj2⟩ fl_X3_222 rfl dX3_finishResult_158 ?_
        refine r_aload_n (pc := 161) X dX3_finishResult_161 rfl ?_
        refine r_getI (pc := 162) X ⟨hc0, (ltb rfl)⟩ fl_X3_109 rfl dX3_finishResult_162 ?_
        refine r_iload (pc := 165) X dX3_finishResult_165 rfl ?_
        refine bndE h (fun r6 M7 h8 h => ?_)
        refine r_callVv4 (pc := 167) X ⟨hc0, (ltb rfl)⟩ rfl vy_X5_add my_X5_add ml_X3_243 ⟨Nat.le_of_ble_eq_true rfl, Nat.le_of_ble_eq_true rfl, Nat.le_of_ble_eq_true rfl, Nat.le_of_ble_eq_true rfl⟩ (c_X5_add hc0 (ltb rfl) h8) (Nat.le_of_ble_eq_true rfl) dX3_finishResult_167 ?_
        exact T_sub (t_X3_finishResult_170 X hr hc2 hj2 h) ⟨rfl, trivial⟩
      · refine r_aload_n (pc := 127) X dX3_finishResult_127 rfl ?_
        refine r_getR (q := (4, c0, 2)) (pc := 128) X ⟨hc0, (ltb rfl)⟩ fl_X3_58 rfl dX3_finishResult_128 ?_
        refine r_aload_n (pc := 131) X dX3_finishResult_131 rfl ?_
        refine r_getI (pc := 132) X ⟨hc2, hj2⟩ fl_X3_177 rfl dX3_finishResult_132 ?_
        refine r_iload_n (pc := 135) X dX3_finishResult_135 rfl ?_
        refine r_aload_n (pc := 136) X dX3_finishResult_136 rfl ?_
        refine r_getI (pc := 137) X ⟨hc2, hj2⟩ fl_X3_222 rfl dX3_finishResult_137 ?_
        refine r_aload_n (pc := 140) X dX3_finishResult_140 rfl ?_
        refine r_getI (pc := 141) X ⟨hc0, (ltb rfl)⟩ fl_X3_109 rfl dX3_finishResult_141 ?_
        refine r_iload (pc := 144) X dX3_finishResult_144 rfl ?_
        refine bndE h (fun r9 M10 h11 h => ?_)
        refine r_callVv5 (pc := 146) X ⟨hc0, (ltb rfl)⟩ rfl vy_X5_put my_X5_put ml_X3_239 ⟨Nat.le_of_ble_eq_true rfl, Nat.le_of_ble_eq_true rfl, Nat.le_of_ble_eq_true rfl, Nat.le_of_ble_eq_true rfl⟩ (c_X5_put hc0 (ltb rfl) h11) (Nat.le_of_ble_eq_true rfl) dX3_finishResult_146 ?_
        refine r_goto (pc := 149) X (tgt := 170) dX3_finishResult_149 (by decide) ?_
        exact T_sub (t_X3_finishResult_170 X hr hc2 hj2 h) ⟨rfl, trivial⟩
    · refine r_aload_n (pc := 59) X dX3_finishResult_59 rfl ?_
      refine r_getR (q := (26, c0, 0)) (pc := 60) X ⟨hc0, (ltb rfl)⟩ fl_X3_37 rfl dX3_finishResult_60 ?_
      refine r_iload (pc := 63) X dX3_finishResult_63 rfl ?_
      refine r_aald (pc := 65) X (t := 2) (n := 3) ⟨hc0, (ltb rfl)⟩ rfl (ltb rfl) (nlt rfl) dX3_finishResult_65 h (fun hb12 h => ?_)
      refine r_iload_n (pc := 66) X dX3_finishResult_66 rfl ?_
      refine r_aload_n (pc := 67) X dX3_finishResult_67 rfl ?_
      refine r_getI (pc := 68) X ⟨hc2, hj2⟩ fl_X3_222 rfl dX3_finishResult_68 ?_
      refine r_aload_n (pc := 71) X dX3_finishResult_71 rfl ?_
      refine r_getI (pc := 72) X ⟨hc0, (ltb rfl)⟩ fl_X3_109 rfl dX3_finishResult_72 ?_
      refine r_iload (pc := 75) X dX3_finishResult_75 rfl ?_
      refine bndE h (fun r13 M14 h15 h => ?_)
      refine r_callVv4 (pc := 77) X ⟨hc0, (bad_lt hb12)⟩ rfl vy_X9_look my_X9_look ml_X3_225 ⟨Nat.le_of_ble_eq_true rfl, Nat.le_of_ble_eq_true rfl, Nat.le_of_ble_eq_true rfl, Nat.le_of_ble_eq_true rfl⟩ (c_X9_look hc0 (bad_lt hb12) h15) (Nat.le_of_ble_eq_true rfl) dX3_finishResult_77 ?_
      refine r_iincN (pc := 80) X (v0 := 1) rfl (by decide) (by decide) dX3_finishResult_80 h (fun e16 h => ?_)
      refine r_goto (pc := 83) X (tgt := 53) dX3_finishResult_83 (by decide) ?_
      exact T_sub (ih _ _ _ _ _ _ _ _ _ _ hc0 hc2 hj2 hc4 hj4 h) ⟨rfl, rfl, rfl, rfl, rfl, rfl, rfl, trivial⟩
def f_X3_finishResult_44 (c0 : Nat) (x1 : Int32) (c2 : Nat) (j2 : Nat) (x3 : Int32) (c4 : Nat) (j4 : Nat) (xs0 : Int32) (M : Mem) : Option (Unit × Mem) :=
  bnd (f_X6_forgetConversions c2 j2 M) (fun r1 M2 => f_X3_finishResult_53 fuelN c0 x1 c2 j2 x3 c4 j4 xs0 0 M2)
set_option maxHeartbeats 4000000 in
set_option maxRecDepth 100000 in
theorem t_X3_finishResult_44 {G : GG} {A : Nat → Prop} {p : Program} {l : Launch} {e : Env} {s : State} {m : MethodId} {args : Array Value} {below : List Frame} {meth : Method} {c : Code} {r : Unit} {M' : Mem} (X : Cx G A p s m args meth c RX3 cX3_finishResult 7) (hr : meth.sig.returnType = none) {c0 : Nat} {x1 : Int32} {c2 : Nat} {j2 : Nat} {x3 : Int32} {c4 : Nat} {j4 : Nat} {xs0 : Int32} {M : Mem} (hc0 : c0 < 6) (hc2 : c2 < 6) (hj2 : j2 < 2) (hc4 : c4 < 6) (hj4 : j4 < 8) (h : f_X3_finishResult_44 c0 x1 c2 j2 x3 c4 j4 xs0 M = some (r, M')) : T G A p l e (rmO 2) s m args below meth c 7 0 0 (MQ below (QvO G A M') args s 0 0 A) 44 [(0, .ref (G.2.1 (2, c0, 0))), (1, .int x1), (2, .ref (G.2.1 (5, c2, j2))), (3, .int x3), (4, .ref (G.2.1 (0, c4, j4)))] [.int xs0] M := by
  unfold f_X3_finishResult_44 at h
  refine r_istore (pc := 44) X (by decide) dX3_finishResult_44 ?_
  refine r_aload_n (pc := 46) X dX3_finishResult_46 rfl ?_
  refine bndE h (fun r1 M2 h3 h => ?_)
  refine r_callVv0 (pc := 47) X ⟨hc2, hj2⟩ rfl vy_X6_forgetConversions my_X6_forgetConversions ml_X3_168 ⟨Nat.le_of_ble_eq_true rfl, Nat.le_of_ble_eq_true rfl, Nat.le_of_ble_eq_true rfl, Nat.le_of_ble_eq_true rfl⟩ (c_X6_forgetConversions hc2 hj2 h3) (Nat.le_of_ble_eq_true rfl) dX3_finishResult_47 ?_
  refine r_iconst (pc := 50) X (v := 0) dX3_finishResult_50 (by decide) ?_
  refine r_istore (pc := 51) X (by decide) dX3_finishResult_51 ?_
  exact T_sub (t_X3_finishResult_53 X hr _ _ _ _ _ _ _ _ _ _ _ hc0 hc2 hj2 hc4 hj4 h) ⟨rfl, rfl, rfl, rfl, rfl, rfl, rfl, trivial⟩
def f_X3_finishResult (c0 : Nat) (x1 : Int32) (c2 : Nat) (j2 : Nat) (M : Mem) : Option (Unit × Mem) :=
  nm (M.1 (1, c0, 0) 1) (fun e1 => if bad e1 8 then none else nm (((M.1 (5, c2, j2) 11) >>> ((M.1 (2, c0, 0) 13) &&& 31)) - (M.1 (0, c0, (Int32.toNatClampNeg e1)) 1)) (fun e3 => if 0 ≤ e3 then f_X3_finishResult_44 c0 x1 c2 j2 e1 c0 (Int32.toNatClampNeg e1) e3 M else f_X3_finishResult_44 c0 x1 c2 j2 e1 c0 (Int32.toNatClampNeg e1) 0 M))
set_option maxHeartbeats 4000000 in
set_option maxRecDepth 100000 in
theorem t_X3_finishResult {G : GG} {A : Nat → Prop} {p : Program} {l : Launch} {e : Env} {s : State} {m : MethodId} {args : Array Value} {below : List Frame} {meth : Method} {c : Code} {r : Unit} {M' : Mem} (X : Cx G A p s m args meth c RX3 cX3_finishResult 7) (hr : meth.sig.returnType = none) {c0 : Nat} {x1 : Int32} {c2 : Nat} {j2 : Nat} {M : Mem} (hc0 : c0 < 6) (hc2 : c2 < 6) (hj2 : j2 < 2) (h : f_X3_finishResult c0 x1 c2 j2 M = some (r, M')) : T G A p l e (rmO 2) s m args below meth c 7 0 0 (MQ below (QvO G A M') args s 0 0 A) 0 [(0, .ref (G.2.1 (2, c0, 0))), (1, .int x1), (2, .ref (G.2.1 (5, c2, j2)))] [] M := by
  unfold f_X3_finishResult at h
  refine r_aload_n (pc := 0) X dX3_finishResult_0 rfl ?_
  refine r_getR (q := (1, c0, 0)) (pc := 1) X ⟨hc0, (ltb rfl)⟩ fl_X3_44 rfl dX3_finishResult_1 ?_
  refine r_getI (pc := 4) X ⟨hc0, (ltb rfl)⟩ fl_X3_184 rfl dX3_finishResult_4 ?_
  refine r_istore_nN (pc := 7) X (by decide) dX3_finishResult_7 h (fun e1 h => ?_)
  refine r_aload_n (pc := 8) X dX3_finishResult_8 rfl ?_
  refine r_getR (q := (24, c0, 0)) (pc := 9) X ⟨hc0, (ltb rfl)⟩ fl_X3_11 rfl dX3_finishResult_9 ?_
  refine r_iload_n (pc := 12) X dX3_finishResult_12 rfl ?_
  refine r_aald (pc := 13) X (t := 0) (n := 8) ⟨hc0, (ltb rfl)⟩ rfl (ltb rfl) (nlt rfl) dX3_finishResult_13 h (fun hb2 h => ?_)
  refine r_astore (pc := 14) X (by decide) dX3_finishResult_14 ?_
  refine r_aload_n (pc := 16) X dX3_finishResult_16 rfl ?_
  refine r_getI (pc := 17) X ⟨hc2, hj2⟩ fl_X3_206 rfl dX3_finishResult_17 ?_
  refine r_aload_n (pc := 20) X dX3_finishResult_20 rfl ?_
  refine r_getI (pc := 21) X ⟨hc0, (ltb rfl)⟩ fl_X3_103 rfl dX3_finishResult_21 ?_
  refine r_ishr (pc := 24) X dX3_finishResult_24 ?_
  refine r_aload (pc := 25) X dX3_finishResult_25 rfl ?_
  refine r_getI (pc := 27) X ⟨hc0, (bad_lt hb2)⟩ fl_X3_219 rfl dX3_finishResult_27 ?_
  refine r_isub (pc := 30) X dX3_finishResult_30 ?_
  refine r_istoreN (pc := 31) X (by decide) dX3_finishResult_31 h (fun e3 h => ?_)
  refine r_iload (pc := 33) X dX3_finishResult_33 rfl ?_
  refine r_if_ge (pc := 35) X (tgt := 42) dX3_finishResult_35 (by decide) h (fun h => ?_) (fun h => ?_)
  · refine r_iload (pc := 42) X dX3_finishResult_42 rfl ?_
    exact T_sub (t_X3_finishResult_44 X hr hc0 hc2 hj2 hc0 (bad_lt hb2) h) ⟨rfl, rfl, rfl, rfl, rfl, trivial⟩
  · refine r_iconst (pc := 38) X (v := 0) dX3_finishResult_38 (by decide) ?_
    refine r_goto (pc := 39) X (tgt := 44) dX3_finishResult_39 (by decide) ?_
    exact T_sub (t_X3_finishResult_44 X hr hc0 hc2 hj2 hc0 (bad_lt hb2) h) ⟨rfl, rfl, rfl, rfl, rfl, trivial⟩
theorem c_X3_finishResult {G : GG} {l : Launch} {c0 : Nat} {x1 : Int32} {c2 : Nat} {j2 : Nat} {r : Unit} {M M' : Mem} (hc0 : c0 < 6) (hc2 : c2 < 6) (hj2 : j2 < 2) (h : f_X3_finishResult c0 x1 c2 j2 M = some (r, M')) : Met l yX3_finishResult (wsO yX3_finishResult cX3_finishResult 7 none) (rmO 2) (PcO G [.ref (G.2.1 (2, c0, 0)), .int x1, .ref (G.2.1 (5, c2, j2))] M) (QvO G (AA G) M') 0 0 (AA G) :=
  met_of (own := RX3) rfl (by decide +kernel) (Nat.le_of_ble_eq_true rfl) (fun p e s m args below meth c X hr => t_X3_finishResult X hr hc0 hc2 hj2 h)
-- ConverterScanner$Converter.advanceConversion
def f_X3_advanceConversion_51 (c0 : Nat) (M : Mem) : Option (Unit × Mem) :=
  if (M.1 (1, c0, 0) 2) ≤ 0 then nm (M.1 (1, c0, 0) 0) (fun e1 => bnd (f_X3_sequenceOf c0 e1 M) (fun r2 M3 => nm (uI M3 (1, c0, 0) 0 0) (fun M5 => nm (uI M5 (1, c0, 0) 4 ((M5.1 (1, c0, 0) 4) + 1)) (fun M6 => nm (uI M6 (5, r2.1, r2.2) 10 ((M6.1 (5, r2.1, r2.2) 10) + 1)) (fun M7 => nm (uI M7 (5, r2.1, r2.2) 11 ((M7.1 (5, r2.1, r2.2) 11) + (M7.1 (1, c0, 0) 3))) (fun M8 => if (M8.1 (5, r2.1, r2.2) 10) < (1 <<< ((M8.1 (2, c0, 0) 12) &&& 31)) then some ((), M8) else bnd (f_X3_finishResult c0 e1 r2.1 r2.2 M8) (fun r9 M10 => if (M10.1 (5, r2.1, r2.2) 4) < (M10.1 (5, r2.1, r2.2) 5) then some ((), M10) else bnd (f_X3_endPass c0 e1 M10) (fun r12 M13 => some ((), M13))))))))) else some ((), M)
set_option maxHeartbeats 4000000 in
set_option maxRecDepth 100000 in
theorem t_X3_advanceConversion_51 {G : GG} {A : Nat → Prop} {p : Program} {l : Launch} {e : Env} {s : State} {m : MethodId} {args : Array Value} {below : List Frame} {meth : Method} {c : Code} {r : Unit} {M' : Mem} (X : Cx G A p s m args meth c RX3 cX3_advanceConversion 3) (hr : meth.sig.returnType = none) {c0 : Nat} {M : Mem} (hc0 : c0 < 6) (h : f_X3_advanceConversion_51 c0 M = some (r, M')) : T G A p l e (rmO 4) s m args below meth c 3 0 0 (MQ below (QvO G A M') args s 0 0 A) 51 [(0, .ref (G.2.1 (2, c0, 0)))] [] M := by
  unfold f_X3_advanceConversion_51 at h
  refine r_aload_n (pc := 51) X dX3_advanceConversion_51 rfl ?_
  refine r_getR (q := (1, c0, 0)) (pc := 52) X ⟨hc0, (ltb rfl)⟩ fl_X3_44 rfl dX3_advanceConversion_52 ?_
  refine r_getI (pc := 55) X ⟨hc0, (ltb rfl)⟩ fl_X3_190 rfl dX3_advanceConversion_55 ?_
  refine r_if_le (pc := 58) X (tgt := 62) dX3_advanceConversion_58 (by decide) h (fun h => ?_) (fun h => ?_)
  · refine r_aload_n (pc := 62) X dX3_advanceConversion_62 rfl ?_
    refine r_getR (q := (1, c0, 0)) (pc := 63) X ⟨hc0, (ltb rfl)⟩ fl_X3_44 rfl dX3_advanceConversion_63 ?_
    refine r_getI (pc := 66) X ⟨hc0, (ltb rfl)⟩ fl_X3_125 rfl dX3_advanceConversion_66 ?_
    refine r_istore_nN (pc := 69) X (by decide) dX3_advanceConversion_69 h (fun e1 h => ?_)
    refine r_aload_n (pc := 70) X dX3_advanceConversion_70 rfl ?_
    refine r_iload_n (pc := 71) X dX3_advanceConversion_71 rfl ?_
    refine bndE h (fun r2 M3 h4 h => ?_)
    refine r_callVr1 (pc := 72) X ⟨hc0, (ltb rfl)⟩ rfl vy_X3_sequenceOf my_X3_sequenceOf ml_X3_143 ⟨Nat.le_of_ble_eq_true rfl, Nat.le_of_ble_eq_true rfl, Nat.le_of_ble_eq_true rfl, Nat.le_of_ble_eq_true rfl⟩ (c_X3_sequenceOf hc0 h4) (Nat.le_of_ble_eq_true rfl) dX3_advanceConversion_72 ?_
    refine r_astore_n (pc := 75) X (by decide) dX3_advanceConversion_75 ?_
    refine r_aload_n (pc := 76) X dX3_advanceConversion_76 rfl ?_
    refine r_getR (q := (1, c0, 0)) (pc := 77) X ⟨hc0, (ltb rfl)⟩ fl_X3_44 rfl dX3_advanceConversion_77 ?_
    refine r_iconst (pc := 80) X (v := 0) dX3_advanceConversion_80 (by decide) ?_
    refine r_putIN (pc := 81) X ⟨hc0, (ltb rfl)⟩ fp_X3_125 rfl dX3_advanceConversion_81 h (fun M5 h => ?_)
    refine r_aload_n (pc := 84) X dX3_advanceConversion_84 rfl ?_
    refine r_getR (q := (1, c0, 0)) (pc := 85) X ⟨hc0, (ltb rfl)⟩ fl_X3_44 rfl dX3_advanceConversion_85 ?_
    refine r_dup (pc := 88) X dX3_advanceConversion_88 rfl ?_
    refine r_getI (pc := 89) X ⟨hc0, (ltb rfl)⟩ fl_X3_200 rfl dX3_advanceConversion_89 ?_
    refine r_iconst (pc := 92) X (v := 1) dX3_advanceConversion_92 (by decide) ?_
    refine r_iadd (pc := 93) X dX3_advanceConversion_93 ?_
    refine r_putIN (pc := 94) X ⟨hc0, (ltb rfl)⟩ fp_X3_200 rfl dX3_advanceConversion_94 h (fun M6 h => ?_)
    refine r_aload_n (pc := 97) X dX3_advanceConversion_97 rfl ?_
    refine r_dup (pc := 98) X dX3_advanceConversion_98 rfl ?_
    refine r_getI (pc := 99) X ⟨(okr_X3_sequenceOf hc0 h4).1, (okr_X3_sequenceOf hc0 h4).2⟩ fl_X3_203 rfl dX3_advanceConversion_99 ?_
    refine r_iconst (pc := 102) X (v := 1) dX3_advanceConversion_102 (by decide) ?_
    refine r_iadd (pc := 103) X dX3_advanceConversion_103 ?_
    refine r_putIN (pc := 104) X ⟨(okr_X3_sequenceOf hc0 h4).1, (okr_X3_sequenceOf hc0 h4).2⟩ fp_X3_203 rfl dX3_advanceConversion_104 h (fun M7 h => ?_)
    refine r_aload_n (pc := 107) X dX3_advanceConversion_107 rfl ?_
    refine r_dup (pc := 108) X dX3_advanceConversion_108 rfl ?_
    refine r_getI (pc := 109) X ⟨(okr_X3_sequenceOf hc0 h4).1, (okr_X3_sequenceOf hc0 h4).2⟩ fl_X3_206 rfl dX3_advanceConversion_109 ?_
    refine r_aload_n (pc := 112) X dX3_advanceConversion_112 rfl ?_
    refine r_getR (q := (1, c0, 0)) (pc := 113) X ⟨hc0, (ltb rfl)⟩ fl_X3_44 rfl dX3_advanceConversion_113 ?_
    refine r_getI (pc := 116) X ⟨hc0, (ltb rfl)⟩ fl_X3_197 rfl dX3_advanceConversion_116 ?_
    refine r_iadd (pc := 119) X dX3_advanceConversion_119 ?_
    refine r_putIN (pc := 120) X ⟨(okr_X3_sequenceOf hc0 h4).1, (okr_X3_sequenceOf hc0 h4).2⟩ fp_X3_206 rfl dX3_advanceConversion_120 h (fun M8 h => ?_)
    refine r_aload_n (pc := 123) X dX3_advanceConversion_123 rfl ?_
    refine r_getI (pc := 124) X ⟨(okr_X3_sequenceOf hc0 h4).1, (okr_X3_sequenceOf hc0 h4).2⟩ fl_X3_203 rfl dX3_advanceConversion_124 ?_
    refine r_iconst (pc := 127) X (v := 1) dX3_advanceConversion_127 (by decide) ?_
    refine r_aload_n (pc := 128) X dX3_advanceConversion_128 rfl ?_
    refine r_getI (pc := 129) X ⟨hc0, (ltb rfl)⟩ fl_X3_100 rfl dX3_advanceConversion_129 ?_
    refine r_ishl (pc := 132) X dX3_advanceConversion_132 ?_
    refine r_icmp_lt (pc := 133) X (tgt := 158) dX3_advanceConversion_133 (by decide) h (fun h => ?_) (fun h => ?_)
    · cases h
      exact r_vret (pc := 158) X hr dX3_advanceConversion_158
    · refine r_aload_n (pc := 136) X dX3_advanceConversion_136 rfl ?_
      refine r_iload_n (pc := 137) X dX3_advanceConversion_137 rfl ?_
      refine r_aload_n (pc := 138) X dX3_advanceConversion_138 rfl ?_
      refine bndE h (fun r9 M10 h11 h => ?_)
      refine r_callVv2 (pc := 139) X ⟨hc0, (ltb rfl)⟩ rfl vy_X3_finishResult my_X3_finishResult ml_X3_209 ⟨Nat.le_of_ble_eq_true rfl, Nat.le_of_ble_eq_true rfl, Nat.le_of_ble_eq_true rfl, Nat.le_of_ble_eq_true rfl⟩ (c_X3_finishResult hc0 (okr_X3_sequenceOf hc0 h4).1 (okr_X3_sequenceOf hc0 h4).2 h11) (Nat.le_of_ble_eq_true rfl) dX3_advanceConversion_139 ?_
      refine r_aload_n (pc := 142) X dX3_advanceConversion_142 rfl ?_
      refine r_getI (pc := 143) X ⟨(okr_X3_sequenceOf hc0 h4).1, (okr_X3_sequenceOf hc0 h4).2⟩ fl_X3_177 rfl dX3_advanceConversion_143 ?_
      refine r_aload_n (pc := 146) X dX3_advanceConversion_146 rfl ?_
      refine r_getI (pc := 147) X ⟨(okr_X3_sequenceOf hc0 h4).1, (okr_X3_sequenceOf hc0 h4).2⟩ fl_X3_213 rfl dX3_advanceConversion_147 ?_
      refine r_icmp_lt (pc := 150) X (tgt := 158) dX3_advanceConversion_150 (by decide) h (fun h => ?_) (fun h => ?_)
      · cases h
        exact r_vret (pc := 158) X hr dX3_advanceConversion_158
      · refine r_aload_n (pc := 153) X dX3_advanceConversion_153 rfl ?_
        refine r_iload_n (pc := 154) X dX3_advanceConversion_154 rfl ?_
        refine bndE h (fun r12 M13 h14 h => ?_)
        refine r_callVv1 (pc := 155) X ⟨hc0, (ltb rfl)⟩ rfl vy_X3_endPass my_X3_endPass ml_X3_216 ⟨Nat.le_of_ble_eq_true rfl, Nat.le_of_ble_eq_true rfl, Nat.le_of_ble_eq_true rfl, Nat.le_of_ble_eq_true rfl⟩ (c_X3_endPass hc0 h14) (Nat.le_of_ble_eq_true rfl) dX3_advanceConversion_155 ?_
        cases h
        exact r_vret (pc := 158) X hr dX3_advanceConversion_158
  · cases h
    exact r_vret (pc := 61) X hr dX3_advanceConversion_61
def f_X3_advanceConversion (c0 : Nat) (M : Mem) : Option (Unit × Mem) :=
  nm (uI M (1, c0, 0) 2 ((M.1 (1, c0, 0) 2) - 1)) (fun M1 => if (M1.1 (1, c0, 0) 2) = 12 then if bad (M1.1 (1, c0, 0) 1) 8 then none else bnd (f_X1_signalAt c0 (Int32.toNatClampNeg (M1.1 (1, c0, 0) 1)) (M1.1 (2, c0, 0) 15) M1) (fun r3 M4 => nm (uI M4 (1, c0, 0) 3 r3) (fun M6 => f_X3_advanceConversion_51 c0 M6)) else f_X3_advanceConversion_51 c0 M1)
set_option maxHeartbeats 4000000 in
set_option maxRecDepth 100000 in
theorem t_X3_advanceConversion {G : GG} {A : Nat → Prop} {p : Program} {l : Launch} {e : Env} {s : State} {m : MethodId} {args : Array Value} {below : List Frame} {meth : Method} {c : Code} {r : Unit} {M' : Mem} (X : Cx G A p s m args meth c RX3 cX3_advanceConversion 3) (hr : meth.sig.returnType = none) {c0 : Nat} {M : Mem} (hc0 : c0 < 6) (h : f_X3_advanceConversion c0 M = some (r, M')) : T G A p l e (rmO 4) s m args below meth c 3 0 0 (MQ below (QvO G A M') args s 0 0 A) 0 [(0, .ref (G.2.1 (2, c0, 0)))] [] M := by
  unfold f_X3_advanceConversion at h
  refine r_aload_n (pc := 0) X dX3_advanceConversion_0 rfl ?_
  refine r_getR (q := (1, c0, 0)) (pc := 1) X ⟨hc0, (ltb rfl)⟩ fl_X3_44 rfl dX3_advanceConversion_1 ?_
  refine r_dup (pc := 4) X dX3_advanceConversion_4 rfl ?_
  refine r_getI (pc := 5) X ⟨hc0, (ltb rfl)⟩ fl_X3_190 rfl dX3_advanceConversion_5 ?_
  refine r_iconst (pc := 8) X (v := 1) dX3_advanceConversion_8 (by decide) ?_
  refine r_isub (pc := 9) X dX3_advanceConversion_9 ?_
  refine r_putIN (pc := 10) X ⟨hc0, (ltb rfl)⟩ fp_X3_190 rfl dX3_advanceConversion_10 h (fun M1 h => ?_)
  refine r_aload_n (pc := 13) X dX3_advanceConversion_13 rfl ?_
  refine r_getR (q := (1, c0, 0)) (pc := 14) X ⟨hc0, (ltb rfl)⟩ fl_X3_44 rfl dX3_advanceConversion_14 ?_
  refine r_getI (pc := 17) X ⟨hc0, (ltb rfl)⟩ fl_X3_190 rfl dX3_advanceConversion_17 ?_
  refine r_bipush (pc := 20) X (v := 12) dX3_advanceConversion_20 (by decide) ?_
  refine r_icmp_ne (pc := 22) X (tgt := 51) dX3_advanceConversion_22 (by decide) h (fun h => ?_) (fun h => ?_)
  · exact T_sub (t_X3_advanceConversion_51 X hr hc0 h) ⟨rfl, trivial⟩
  · refine r_aload_n (pc := 25) X dX3_advanceConversion_25 rfl ?_
    refine r_getR (q := (1, c0, 0)) (pc := 26) X ⟨hc0, (ltb rfl)⟩ fl_X3_44 rfl dX3_advanceConversion_26 ?_
    refine r_aload_n (pc := 29) X dX3_advanceConversion_29 rfl ?_
    refine r_getR (q := (24, c0, 0)) (pc := 30) X ⟨hc0, (ltb rfl)⟩ fl_X3_11 rfl dX3_advanceConversion_30 ?_
    refine r_aload_n (pc := 33) X dX3_advanceConversion_33 rfl ?_
    refine r_getR (q := (1, c0, 0)) (pc := 34) X ⟨hc0, (ltb rfl)⟩ fl_X3_44 rfl dX3_advanceConversion_34 ?_
    refine r_getI (pc := 37) X ⟨hc0, (ltb rfl)⟩ fl_X3_184 rfl dX3_advanceConversion_37 ?_
    refine r_aald (pc := 40) X (t := 0) (n := 8) ⟨hc0, (ltb rfl)⟩ rfl (ltb rfl) (nlt rfl) dX3_advanceConversion_40 h (fun hb2 h => ?_)
    refine r_aload_n (pc := 41) X dX3_advanceConversion_41 rfl ?_
    refine r_getI (pc := 42) X ⟨hc0, (ltb rfl)⟩ fl_X3_109 rfl dX3_advanceConversion_42 ?_
    refine bndE h (fun r3 M4 h5 h => ?_)
    refine r_callVi1 (pc := 45) X ⟨hc0, (bad_lt hb2)⟩ rfl vy_X1_signalAt my_X1_signalAt ml_X3_193 ⟨Nat.le_of_ble_eq_true rfl, Nat.le_of_ble_eq_true rfl, Nat.le_of_ble_eq_true rfl, Nat.le_of_ble_eq_true rfl⟩ (c_X1_signalAt hc0 (bad_lt hb2) h5) (Nat.le_of_ble_eq_true rfl) dX3_advanceConversion_45 ?_
    refine r_putIN (pc := 48) X ⟨hc0, (ltb rfl)⟩ fp_X3_197 rfl dX3_advanceConversion_48 h (fun M6 h => ?_)
    exact T_sub (t_X3_advanceConversion_51 X hr hc0 h) ⟨rfl, trivial⟩
theorem c_X3_advanceConversion {G : GG} {l : Launch} {c0 : Nat} {r : Unit} {M M' : Mem} (hc0 : c0 < 6) (h : f_X3_advanceConversion c0 M = some (r, M')) : Met l yX3_advanceConversion (wsO yX3_advanceConversion cX3_advanceConversion 3 none) (rmO 4) (PcO G [.ref (G.2.1 (2, c0, 0))] M) (QvO G (AA G) M') 0 0 (AA G) :=
  met_of (own := RX3) rfl (by decide +kernel) (Nat.le_of_ble_eq_true rfl) (fun p e s m args below meth c X hr => t_X3_advanceConversion X hr hc0 h)
-- ConverterScanner$Converter.fireTrigger
def f_X3_fireTrigger_40 (c2 : Nat) (j2 : Nat) (M : Mem) : Option (Int32 × Mem) :=
  nm (uI M (7, c2, j2) 4 ((M.1 (7, c2, j2) 4) + 1)) (fun M1 => some (0, M1))
set_option maxHeartbeats 4000000 in
set_option maxRecDepth 100000 in
theorem t_X3_fireTrigger_40 {G : GG} {A : Nat → Prop} {p : Program} {l : Launch} {e : Env} {s : State} {m : MethodId} {args : Array Value} {below : List Frame} {meth : Method} {c : Code} {r : Int32} {M' : Mem} (X : Cx G A p s m args meth c RX3 cX3_fireTrigger 4) (hr : meth.sig.returnType = some .boolean) {c2 : Nat} {j2 : Nat} {M : Mem} (hc2 : c2 < 6) (hj2 : j2 < 4) (h : f_X3_fireTrigger_40 c2 j2 M = some (r, M')) : T G A p l e (rmO 3) s m args below meth c 4 0 0 (MQ below (QiO G A r M') args s 0 0 A) 40 [(2, .ref (G.2.1 (7, c2, j2)))] [] M := by
  unfold f_X3_fireTrigger_40 at h
  refine r_aload_n (pc := 40) X dX3_fireTrigger_40 rfl ?_
  refine r_dup (pc := 41) X dX3_fireTrigger_41 rfl ?_
  refine r_getI (pc := 42) X ⟨hc2, hj2⟩ fl_X3_151 rfl dX3_fireTrigger_42 ?_
  refine r_iconst (pc := 45) X (v := 1) dX3_fireTrigger_45 (by decide) ?_
  refine r_iadd (pc := 46) X dX3_fireTrigger_46 ?_
  refine r_putIN (pc := 47) X ⟨hc2, hj2⟩ fp_X3_151 rfl dX3_fireTrigger_47 h (fun M1 h => ?_)
  refine r_iconst (pc := 50) X (v := 0) dX3_fireTrigger_50 (by decide) ?_
  cases h
  exact r_zretc (pc := 51) X hr (by decide +kernel) dX3_fireTrigger_51
def f_X3_fireTrigger (c0 : Nat) (x1 : Int32) (M : Mem) : Option (Int32 × Mem) :=
  if bad x1 4 then none else nm (uI M (7, c0, (Int32.toNatClampNeg x1)) 3 ((M.1 (7, c0, (Int32.toNatClampNeg x1)) 3) + 1)) (fun M2 => bnd (f_X3_sequenceOf c0 (M2.1 (7, c0, (Int32.toNatClampNeg x1)) 0) M2) (fun r3 M4 => if (M4.1 (7, c0, (Int32.toNatClampNeg x1)) 0) = 0 then f_X3_fireTrigger_40 c0 (Int32.toNatClampNeg x1) M4 else bnd (f_X6_isReady r3.1 r3.2 M4) (fun r6 M7 => if r6 = 0 then f_X3_fireTrigger_40 c0 (Int32.toNatClampNeg x1) M7 else bnd (f_X3_startSequence c0 (M7.1 (7, c0, (Int32.toNatClampNeg x1)) 0) x1 M7) (fun r9 M10 => some (1, M10)))))
set_option maxHeartbeats 4000000 in
set_option maxRecDepth 100000 in
theorem t_X3_fireTrigger {G : GG} {A : Nat → Prop} {p : Program} {l : Launch} {e : Env} {s : State} {m : MethodId} {args : Array Value} {below : List Frame} {meth : Method} {c : Code} {r : Int32} {M' : Mem} (X : Cx G A p s m args meth c RX3 cX3_fireTrigger 4) (hr : meth.sig.returnType = some .boolean) {c0 : Nat} {x1 : Int32} {M : Mem} (hc0 : c0 < 6) (h : f_X3_fireTrigger c0 x1 M = some (r, M')) : T G A p l e (rmO 3) s m args below meth c 4 0 0 (MQ below (QiO G A r M') args s 0 0 A) 0 [(0, .ref (G.2.1 (2, c0, 0))), (1, .int x1)] [] M := by
  unfold f_X3_fireTrigger at h
  refine r_aload_n (pc := 0) X dX3_fireTrigger_0 rfl ?_
  refine r_getR (q := (25, c0, 0)) (pc := 1) X ⟨hc0, (ltb rfl)⟩ fl_X3_31 rfl dX3_fireTrigger_1 ?_
  refine r_iload_n (pc := 4) X dX3_fireTrigger_4 rfl ?_
  refine r_aald (pc := 5) X (t := 1) (n := 4) ⟨hc0, (ltb rfl)⟩ rfl (ltb rfl) (nlt rfl) dX3_fireTrigger_5 h (fun hb1 h => ?_)
  refine r_astore_n (pc := 6) X (by decide) dX3_fireTrigger_6 ?_
  refine r_aload_n (pc := 7) X dX3_fireTrigger_7 rfl ?_
  refine r_dup (pc := 8) X dX3_fireTrigger_8 rfl ?_
  refine r_getI (pc := 9) X ⟨hc0, (bad_lt hb1)⟩ fl_X3_137 rfl dX3_fireTrigger_9 ?_
  refine r_iconst (pc := 12) X (v := 1) dX3_fireTrigger_12 (by decide) ?_
  refine r_iadd (pc := 13) X dX3_fireTrigger_13 ?_
  refine r_putIN (pc := 14) X ⟨hc0, (bad_lt hb1)⟩ fp_X3_137 rfl dX3_fireTrigger_14 h (fun M2 h => ?_)
  refine r_aload_n (pc := 17) X dX3_fireTrigger_17 rfl ?_
  refine r_aload_n (pc := 18) X dX3_fireTrigger_18 rfl ?_
  refine r_getI (pc := 19) X ⟨hc0, (bad_lt hb1)⟩ fl_X3_140 rfl dX3_fireTrigger_19 ?_
  refine bndE h (fun r3 M4 h5 h => ?_)
  refine r_callVr1 (pc := 22) X ⟨hc0, (ltb rfl)⟩ rfl vy_X3_sequenceOf my_X3_sequenceOf ml_X3_143 ⟨Nat.le_of_ble_eq_true rfl, Nat.le_of_ble_eq_true rfl, Nat.le_of_ble_eq_true rfl, Nat.le_of_ble_eq_true rfl⟩ (c_X3_sequenceOf hc0 h5) (Nat.le_of_ble_eq_true rfl) dX3_fireTrigger_22 ?_
  refine r_astore_n (pc := 25) X (by decide) dX3_fireTrigger_25 ?_
  refine r_aload_n (pc := 26) X dX3_fireTrigger_26 rfl ?_
  refine r_getI (pc := 27) X ⟨hc0, (bad_lt hb1)⟩ fl_X3_140 rfl dX3_fireTrigger_27 ?_
  refine r_if_eq (pc := 30) X (tgt := 40) dX3_fireTrigger_30 (by decide) h (fun h => ?_) (fun h => ?_)
  · exact T_sub (t_X3_fireTrigger_40 X hr hc0 (bad_lt hb1) h) ⟨rfl, trivial⟩
  · refine r_aload_n (pc := 33) X dX3_fireTrigger_33 rfl ?_
    refine bndE h (fun r6 M7 h8 h => ?_)
    refine r_callVi0 (pc := 34) X ⟨(okr_X3_sequenceOf hc0 h5).1, (okr_X3_sequenceOf hc0 h5).2⟩ rfl vy_X6_isReady my_X6_isReady ml_X3_147 ⟨Nat.le_of_ble_eq_true rfl, Nat.le_of_ble_eq_true rfl, Nat.le_of_ble_eq_true rfl, Nat.le_of_ble_eq_true rfl⟩ (c_X6_isReady (okr_X3_sequenceOf hc0 h5).1 (okr_X3_sequenceOf hc0 h5).2 h8) (Nat.le_of_ble_eq_true rfl) dX3_fireTrigger_34 ?_
    refine r_if_ne (pc := 37) X (tgt := 52) dX3_fireTrigger_37 (by decide) h (fun h => ?_) (fun h => ?_)
    · refine r_aload_n (pc := 52) X dX3_fireTrigger_52 rfl ?_
      refine r_aload_n (pc := 53) X dX3_fireTrigger_53 rfl ?_
      refine r_getI (pc := 54) X ⟨hc0, (bad_lt hb1)⟩ fl_X3_140 rfl dX3_fireTrigger_54 ?_
      refine r_iload_n (pc := 57) X dX3_fireTrigger_57 rfl ?_
      refine bndE h (fun r9 M10 h11 h => ?_)
      refine r_callVv2 (pc := 58) X ⟨hc0, (ltb rfl)⟩ rfl vy_X3_startSequence my_X3_startSequence ml_X3_154 ⟨Nat.le_of_ble_eq_true rfl, Nat.le_of_ble_eq_true rfl, Nat.le_of_ble_eq_true rfl, Nat.le_of_ble_eq_true rfl⟩ (c_X3_startSequence hc0 h11) (Nat.le_of_ble_eq_true rfl) dX3_fireTrigger_58 ?_
      refine r_iconst (pc := 61) X (v := 1) dX3_fireTrigger_61 (by decide) ?_
      cases h
      exact r_zretc (pc := 62) X hr (by decide +kernel) dX3_fireTrigger_62
    · exact T_sub (t_X3_fireTrigger_40 X hr hc0 (bad_lt hb1) h) ⟨rfl, trivial⟩
theorem c_X3_fireTrigger {G : GG} {l : Launch} {c0 : Nat} {x1 : Int32} {r : Int32} {M M' : Mem} (hc0 : c0 < 6) (h : f_X3_fireTrigger c0 x1 M = some (r, M')) : Met l yX3_fireTrigger (wsO yX3_fireTrigger cX3_fireTrigger 4 (some .boolean)) (rmO 3) (PcO G [.ref (G.2.1 (2, c0, 0)), .int x1] M) (QiO G (AA G) r M') 0 0 (AA G) :=
  met_of (own := RX3) rfl (by decide +kernel) (Nat.le_of_ble_eq_true rfl) (fun p e s m args below meth c X hr => t_X3_fireTrigger X hr hc0 h)
-- ConverterScanner$Converter.startConversion
def f_X3_startConversion_43 (c0 : Nat) (M : Mem) : Option (Unit × Mem) :=
  bnd (f_X3_sequenceOf c0 (M.1 (1, c0, 0) 0) M) (fun r1 M2 => bnd (f_X6_nextChannel r1.1 r1.2 M2) (fun r4 M5 => nm (uI M5 (1, c0, 0) 1 r4) (fun M7 => if bad (M7.1 (1, c0, 0) 1) 8 then none else bnd (f_X1_conversionLength c0 (Int32.toNatClampNeg (M7.1 (1, c0, 0) 1)) M7) (fun r9 M10 => nm (uI M10 (1, c0, 0) 2 r9) (fun M12 => some ((), M12))))))
set_option maxHeartbeats 4000000 in
set_option maxRecDepth 100000 in
theorem t_X3_startConversion_43 {G : GG} {A : Nat → Prop} {p : Program} {l : Launch} {e : Env} {s : State} {m : MethodId} {args : Array Value} {below : List Frame} {meth : Method} {c : Code} {r : Unit} {M' : Mem} (X : Cx G A p s m args meth c RX3 cX3_startConversion 1) (hr : meth.sig.returnType = none) {c0 : Nat} {M : Mem} (hc0 : c0 < 6) (h : f_X3_startConversion_43 c0 M = some (r, M')) : T G A p l e (rmO 1) s m args below meth c 1 0 0 (MQ below (QvO G A M') args s 0 0 A) 43 [(0, .ref (G.2.1 (2, c0, 0)))] [] M := by
  unfold f_X3_startConversion_43 at h
  refine r_aload_n (pc := 43) X dX3_startConversion_43 rfl ?_
  refine r_getR (q := (1, c0, 0)) (pc := 44) X ⟨hc0, (ltb rfl)⟩ fl_X3_44 rfl dX3_startConversion_44 ?_
  refine r_aload_n (pc := 47) X dX3_startConversion_47 rfl ?_
  refine r_aload_n (pc := 48) X dX3_startConversion_48 rfl ?_
  refine r_getR (q := (1, c0, 0)) (pc := 49) X ⟨hc0, (ltb rfl)⟩ fl_X3_44 rfl dX3_startConversion_49 ?_
  refine r_getI (pc := 52) X ⟨hc0, (ltb rfl)⟩ fl_X3_125 rfl dX3_startConversion_52 ?_
  refine bndE h (fun r1 M2 h3 h => ?_)
  refine r_callVr1 (pc := 55) X ⟨hc0, (ltb rfl)⟩ rfl vy_X3_sequenceOf my_X3_sequenceOf ml_X3_143 ⟨Nat.le_of_ble_eq_true rfl, Nat.le_of_ble_eq_true rfl, Nat.le_of_ble_eq_true rfl, Nat.le_of_ble_eq_true rfl⟩ (c_X3_sequenceOf hc0 h3) (Nat.le_of_ble_eq_true rfl) dX3_startConversion_55 ?_
  refine bndE h (fun r4 M5 h6 h => ?_)
  refine r_callVi0 (pc := 58) X ⟨(okr_X3_sequenceOf hc0 h3).1, (okr_X3_sequenceOf hc0 h3).2⟩ rfl vy_X6_nextChannel my_X6_nextChannel ml_X3_180 ⟨Nat.le_of_ble_eq_true rfl, Nat.le_of_ble_eq_true rfl, Nat.le_of_ble_eq_true rfl, Nat.le_of_ble_eq_true rfl⟩ (c_X6_nextChannel (okr_X3_sequenceOf hc0 h3).1 (okr_X3_sequenceOf hc0 h3).2 h6) (Nat.le_of_ble_eq_true rfl) dX3_startConversion_58 ?_
  refine r_putIN (pc := 61) X ⟨hc0, (ltb rfl)⟩ fp_X3_184 rfl dX3_startConversion_61 h (fun M7 h => ?_)
  refine r_aload_n (pc := 64) X dX3_startConversion_64 rfl ?_
  refine r_getR (q := (1, c0, 0)) (pc := 65) X ⟨hc0, (ltb rfl)⟩ fl_X3_44 rfl dX3_startConversion_65 ?_
  refine r_aload_n (pc := 68) X dX3_startConversion_68 rfl ?_
  refine r_getR (q := (24, c0, 0)) (pc := 69) X ⟨hc0, (ltb rfl)⟩ fl_X3_11 rfl dX3_startConversion_69 ?_
  refine r_aload_n (pc := 72) X dX3_startConversion_72 rfl ?_
  refine r_getR (q := (1, c0, 0)) (pc := 73) X ⟨hc0, (ltb rfl)⟩ fl_X3_44 rfl dX3_startConversion_73 ?_
  refine r_getI (pc := 76) X ⟨hc0, (ltb rfl)⟩ fl_X3_184 rfl dX3_startConversion_76 ?_
  refine r_aald (pc := 79) X (t := 0) (n := 8) ⟨hc0, (ltb rfl)⟩ rfl (ltb rfl) (nlt rfl) dX3_startConversion_79 h (fun hb8 h => ?_)
  refine bndE h (fun r9 M10 h11 h => ?_)
  refine r_callVi0 (pc := 80) X ⟨hc0, (bad_lt hb8)⟩ rfl vy_X1_conversionLength my_X1_conversionLength ml_X3_187 ⟨Nat.le_of_ble_eq_true rfl, Nat.le_of_ble_eq_true rfl, Nat.le_of_ble_eq_true rfl, Nat.le_of_ble_eq_true rfl⟩ (c_X1_conversionLength hc0 (bad_lt hb8) h11) (Nat.le_of_ble_eq_true rfl) dX3_startConversion_80 ?_
  refine r_putIN (pc := 83) X ⟨hc0, (ltb rfl)⟩ fp_X3_190 rfl dX3_startConversion_83 h (fun M12 h => ?_)
  cases h
  exact r_vret (pc := 86) X hr dX3_startConversion_86
def f_X3_startConversion (c0 : Nat) (M : Mem) : Option (Unit × Mem) :=
  if (M.1 (5, c0, 1) 3) = 0 then if (M.1 (5, c0, 0) 3) = 0 then some ((), M) else nm (uI M (1, c0, 0) 0 1) (fun M1 => f_X3_startConversion_43 c0 M1) else nm (uI M (1, c0, 0) 0 2) (fun M2 => f_X3_startConversion_43 c0 M2)
set_option maxHeartbeats 4000000 in
set_option maxRecDepth 100000 in
theorem t_X3_startConversion {G : GG} {A : Nat → Prop} {p : Program} {l : Launch} {e : Env} {s : State} {m : MethodId} {args : Array Value} {below : List Frame} {meth : Method} {c : Code} {r : Unit} {M' : Mem} (X : Cx G A p s m args meth c RX3 cX3_startConversion 1) (hr : meth.sig.returnType = none) {c0 : Nat} {M : Mem} (hc0 : c0 < 6) (h : f_X3_startConversion c0 M = some (r, M')) : T G A p l e (rmO 1) s m args below meth c 1 0 0 (MQ below (QvO G A M') args s 0 0 A) 0 [(0, .ref (G.2.1 (2, c0, 0)))] [] M := by
  unfold f_X3_startConversion at h
  refine r_aload_n (pc := 0) X dX3_startConversion_0 rfl ?_
  refine r_getR (q := (5, c0, 1)) (pc := 1) X ⟨hc0, (ltb rfl)⟩ fl_X3_26 rfl dX3_startConversion_1 ?_
  refine r_getI (pc := 4) X ⟨hc0, (ltb rfl)⟩ fl_X3_171 rfl dX3_startConversion_4 ?_
  refine r_if_eq (pc := 7) X (tgt := 21) dX3_startConversion_7 (by decide) h (fun h => ?_) (fun h => ?_)
  · refine r_aload_n (pc := 21) X dX3_startConversion_21 rfl ?_
    refine r_getR (q := (5, c0, 0)) (pc := 22) X ⟨hc0, (ltb rfl)⟩ fl_X3_22 rfl dX3_startConversion_22 ?_
    refine r_getI (pc := 25) X ⟨hc0, (ltb rfl)⟩ fl_X3_171 rfl dX3_startConversion_25 ?_
    refine r_if_eq (pc := 28) X (tgt := 42) dX3_startConversion_28 (by decide) h (fun h => ?_) (fun h => ?_)
    · cases h
      exact r_vret (pc := 42) X hr dX3_startConversion_42
    · refine r_aload_n (pc := 31) X dX3_startConversion_31 rfl ?_
      refine r_getR (q := (1, c0, 0)) (pc := 32) X ⟨hc0, (ltb rfl)⟩ fl_X3_44 rfl dX3_startConversion_32 ?_
      refine r_iconst (pc := 35) X (v := 1) dX3_startConversion_35 (by decide) ?_
      refine r_putIN (pc := 36) X ⟨hc0, (ltb rfl)⟩ fp_X3_125 rfl dX3_startConversion_36 h (fun M1 h => ?_)
      refine r_goto (pc := 39) X (tgt := 43) dX3_startConversion_39 (by decide) ?_
      exact T_sub (t_X3_startConversion_43 X hr hc0 h) ⟨rfl, trivial⟩
  · refine r_aload_n (pc := 10) X dX3_startConversion_10 rfl ?_
    refine r_getR (q := (1, c0, 0)) (pc := 11) X ⟨hc0, (ltb rfl)⟩ fl_X3_44 rfl dX3_startConversion_11 ?_
    refine r_iconst (pc := 14) X (v := 2) dX3_startConversion_14 (by decide) ?_
    refine r_putIN (pc := 15) X ⟨hc0, (ltb rfl)⟩ fp_X3_125 rfl dX3_startConversion_15 h (fun M2 h => ?_)
    refine r_goto (pc := 18) X (tgt := 43) dX3_startConversion_18 (by decide) ?_
    exact T_sub (t_X3_startConversion_43 X hr hc0 h) ⟨rfl, trivial⟩
theorem c_X3_startConversion {G : GG} {l : Launch} {c0 : Nat} {r : Unit} {M M' : Mem} (hc0 : c0 < 6) (h : f_X3_startConversion c0 M = some (r, M')) : Met l yX3_startConversion (wsO yX3_startConversion cX3_startConversion 1 none) (rmO 1) (PcO G [.ref (G.2.1 (2, c0, 0))] M) (QvO G (AA G) M') 0 0 (AA G) :=
  met_of (own := RX3) rfl (by decide +kernel) (Nat.le_of_ble_eq_true rfl) (fun p e s m args below meth c X hr => t_X3_startConversion X hr hc0 h)
-- ConverterScanner$Converter.transferOldest
def f_X3_transferOldest (c0 : Nat) (M : Mem) : Option (Unit × Mem) :=
  if (M.1 (4, c0, 0) 5) = 0 then some ((), M) else bnd (f_X5_oldestNumber c0 0 0 M) (fun r1 M2 => bnd (f_X5_oldestNumber c0 0 1 M2) (fun r4 M5 => bnd (f_X5_oldestNumber c0 0 2 M5) (fun r7 M8 => bnd (f_X5_oldestNumber c0 0 3 M8) (fun r10 M11 => bnd (f_X5_add c0 1 r1 r4 r7 r10 M11) (fun r13 M14 => bnd (f_X5_removeOldest c0 0 M14) (fun r16 M17 => nm (uI M17 (2, c0, 0) 16 ((M17.1 (2, c0, 0) 16) + 1)) (fun M19 => some ((), M19))))))))
set_option maxHeartbeats 4000000 in
set_option maxRecDepth 100000 in
theorem t_X3_transferOldest {G : GG} {A : Nat → Prop} {p : Program} {l : Launch} {e : Env} {s : State} {m : MethodId} {args : Array Value} {below : List Frame} {meth : Method} {c : Code} {r : Unit} {M' : Mem} (X : Cx G A p s m args meth c RX3 cX3_transferOldest 1) (hr : meth.sig.returnType = none) {c0 : Nat} {M : Mem} (hc0 : c0 < 6) (h : f_X3_transferOldest c0 M = some (r, M')) : T G A p l e (rmO 2) s m args below meth c 1 0 0 (MQ below (QvO G A M') args s 0 0 A) 0 [(0, .ref (G.2.1 (2, c0, 0)))] [] M := by
  unfold f_X3_transferOldest at h
  refine r_aload_n (pc := 0) X dX3_transferOldest_0 rfl ?_
  refine r_getR (q := (4, c0, 0)) (pc := 1) X ⟨hc0, (ltb rfl)⟩ fl_X3_51 rfl dX3_transferOldest_1 ?_
  refine r_getI (pc := 4) X ⟨hc0, (ltb rfl)⟩ fl_X3_255 rfl dX3_transferOldest_4 ?_
  refine r_if_ne (pc := 7) X (tgt := 11) dX3_transferOldest_7 (by decide) h (fun h => ?_) (fun h => ?_)
  · refine r_aload_n (pc := 11) X dX3_transferOldest_11 rfl ?_
    refine r_getR (q := (4, c0, 1)) (pc := 12) X ⟨hc0, (ltb rfl)⟩ fl_X3_55 rfl dX3_transferOldest_12 ?_
    refine r_aload_n (pc := 15) X dX3_transferOldest_15 rfl ?_
    refine r_getR (q := (4, c0, 0)) (pc := 16) X ⟨hc0, (ltb rfl)⟩ fl_X3_51 rfl dX3_transferOldest_16 ?_
    refine r_iconst (pc := 19) X (v := 0) dX3_transferOldest_19 (by decide) ?_
    refine bndE h (fun r1 M2 h3 h => ?_)
    refine r_callVi1 (pc := 20) X ⟨hc0, (ltb rfl)⟩ rfl vy_X5_oldestNumber my_X5_oldestNumber ml_X3_258 ⟨Nat.le_of_ble_eq_true rfl, Nat.le_of_ble_eq_true rfl, Nat.le_of_ble_eq_true rfl, Nat.le_of_ble_eq_true rfl⟩ (c_X5_oldestNumber hc0 (ltb rfl) h3) (Nat.le_of_ble_eq_true rfl) dX3_transferOldest_20 ?_
    refine r_aload_n (pc := 23) X dX3_transferOldest_23 rfl ?_
    refine r_getR (q := (4, c0, 0)) (pc := 24) X ⟨hc0, (ltb rfl)⟩ fl_X3_51 rfl dX3_transferOldest_24 ?_
    refine r_iconst (pc := 27) X (v := 1) dX3_transferOldest_27 (by decide) ?_
    refine bndE h (fun r4 M5 h6 h => ?_)
    refine r_callVi1 (pc := 28) X ⟨hc0, (ltb rfl)⟩ rfl vy_X5_oldestNumber my_X5_oldestNumber ml_X3_258 ⟨Nat.le_of_ble_eq_true rfl, Nat.le_of_ble_eq_true rfl, Nat.le_of_ble_eq_true rfl, Nat.le_of_ble_eq_true rfl⟩ (c_X5_oldestNumber hc0 (ltb rfl) h6) (Nat.le_of_ble_eq_true rfl) dX3_transferOldest_28 ?_
    refine r_aload_n (pc := 31) X dX3_transferOldest_31 rfl ?_
    refine r_getR (q := (4, c0, 0)) (pc := 32) X ⟨hc0, (ltb rfl)⟩ fl_X3_51 rfl dX3_transferOldest_32 ?_
    refine r_iconst (pc := 35) X (v := 2) dX3_transferOldest_35 (by decide) ?_
    refine bndE h (fun r7 M8 h9 h => ?_)
    refine r_callVi1 (pc := 36) X ⟨hc0, (ltb rfl)⟩ rfl vy_X5_oldestNumber my_X5_oldestNumber ml_X3_258 ⟨Nat.le_of_ble_eq_true rfl, Nat.le_of_ble_eq_true rfl, Nat.le_of_ble_eq_true rfl, Nat.le_of_ble_eq_true rfl⟩ (c_X5_oldestNumber hc0 (ltb rfl) h9) (Nat.le_of_ble_eq_true rfl) dX3_transferOldest_36 ?_
    refine r_aload_n (pc := 39) X dX3_transferOldest_39 rfl ?_
    refine r_getR (q := (4, c0, 0)) (pc := 40) X ⟨hc0, (ltb rfl)⟩ fl_X3_51 rfl dX3_transferOldest_40 ?_
    refine r_iconst (pc := 43) X (v := 3) dX3_transferOldest_43 (by decide) ?_
    refine bndE h (fun r10 M11 h12 h => ?_)
    refine r_callVi1 (pc := 44) X ⟨hc0, (ltb rfl)⟩ rfl vy_X5_oldestNumber my_X5_oldestNumber ml_X3_258 ⟨Nat.le_of_ble_eq_true rfl, Nat.le_of_ble_eq_true rfl, Nat.le_of_ble_eq_true rfl, Nat.le_of_ble_eq_true rfl⟩ (c_X5_oldestNumber hc0 (ltb rfl) h12) (Nat.le_of_ble_eq_true rfl) dX3_transferOldest_44 ?_
    refine bndE h (fun r13 M14 h15 h => ?_)
    refine r_callVv4 (pc := 47) X ⟨hc0, (ltb rfl)⟩ rfl vy_X5_add my_X5_add ml_X3_243 ⟨Nat.le_of_ble_eq_true rfl, Nat.le_of_ble_eq_true rfl, Nat.le_of_ble_eq_true rfl, Nat.le_of_ble_eq_true rfl⟩ (c_X5_add hc0 (ltb rfl) h15) (Nat.le_of_ble_eq_true rfl) dX3_transferOldest_47 ?_
    refine r_aload_n (pc := 50) X dX3_transferOldest_50 rfl ?_
    refine r_getR (q := (4, c0, 0)) (pc := 51) X ⟨hc0, (ltb rfl)⟩ fl_X3_51 rfl dX3_transferOldest_51 ?_
    refine bndE h (fun r16 M17 h18 h => ?_)
    refine r_callVv0 (pc := 54) X ⟨hc0, (ltb rfl)⟩ rfl vy_X5_removeOldest my_X5_removeOldest ml_X3_261 ⟨Nat.le_of_ble_eq_true rfl, Nat.le_of_ble_eq_true rfl, Nat.le_of_ble_eq_true rfl, Nat.le_of_ble_eq_true rfl⟩ (c_X5_removeOldest hc0 (ltb rfl) h18) (Nat.le_of_ble_eq_true rfl) dX3_transferOldest_54 ?_
    refine r_aload_n (pc := 57) X dX3_transferOldest_57 rfl ?_
    refine r_dup (pc := 58) X dX3_transferOldest_58 rfl ?_
    refine r_getI (pc := 59) X ⟨hc0, (ltb rfl)⟩ fl_X3_112 rfl dX3_transferOldest_59 ?_
    refine r_iconst (pc := 62) X (v := 1) dX3_transferOldest_62 (by decide) ?_
    refine r_iadd (pc := 63) X dX3_transferOldest_63 ?_
    refine r_putIN (pc := 64) X ⟨hc0, (ltb rfl)⟩ fp_X3_112 rfl dX3_transferOldest_64 h (fun M19 h => ?_)
    cases h
    exact r_vret (pc := 67) X hr dX3_transferOldest_67
  · cases h
    exact r_vret (pc := 10) X hr dX3_transferOldest_10
theorem c_X3_transferOldest {G : GG} {l : Launch} {c0 : Nat} {r : Unit} {M M' : Mem} (hc0 : c0 < 6) (h : f_X3_transferOldest c0 M = some (r, M')) : Met l yX3_transferOldest (wsO yX3_transferOldest cX3_transferOldest 1 none) (rmO 2) (PcO G [.ref (G.2.1 (2, c0, 0))] M) (QvO G (AA G) M') 0 0 (AA G) :=
  met_of (own := RX3) rfl (by decide +kernel) (Nat.le_of_ble_eq_true rfl) (fun p e s m args below meth c X hr => t_X3_transferOldest X hr hc0 h)
-- ConverterScanner$Converter.passCycle
def f_X3_passCycle_88 (c0 : Nat) (M : Mem) : Option (Unit × Mem) :=
  nm (uI M (2, c0, 0) 15 ((M.1 (2, c0, 0) 15) + 1)) (fun M1 => some ((), M1))
set_option maxHeartbeats 4000000 in
set_option maxRecDepth 100000 in
theorem t_X3_passCycle_88 {G : GG} {A : Nat → Prop} {p : Program} {l : Launch} {e : Env} {s : State} {m : MethodId} {args : Array Value} {below : List Frame} {meth : Method} {c : Code} {r : Unit} {M' : Mem} (X : Cx G A p s m args meth c RX3 cX3_passCycle 2) (hr : meth.sig.returnType = none) {c0 : Nat} {M : Mem} (hc0 : c0 < 6) (h : f_X3_passCycle_88 c0 M = some (r, M')) : T G A p l e (rmO 5) s m args below meth c 2 0 0 (MQ below (QvO G A M') args s 0 0 A) 88 [(0, .ref (G.2.1 (2, c0, 0)))] [] M := by
  unfold f_X3_passCycle_88 at h
  refine r_aload_n (pc := 88) X dX3_passCycle_88 rfl ?_
  refine r_dup (pc := 89) X dX3_passCycle_89 rfl ?_
  refine r_getI (pc := 90) X ⟨hc0, (ltb rfl)⟩ fl_X3_109 rfl dX3_passCycle_90 ?_
  refine r_iconst (pc := 93) X (v := 1) dX3_passCycle_93 (by decide) ?_
  refine r_iadd (pc := 94) X dX3_passCycle_94 ?_
  refine r_putIN (pc := 95) X ⟨hc0, (ltb rfl)⟩ fp_X3_109 rfl dX3_passCycle_95 h (fun M1 h => ?_)
  cases h
  exact r_vret (pc := 98) X hr dX3_passCycle_98
def f_X3_passCycle_63 (c0 : Nat) (M : Mem) : Option (Unit × Mem) :=
  if (M.1 (2, c0, 0) 14) ≤ 0 then f_X3_passCycle_88 c0 M else if (M.1 (2, c0, 0) 14) = 0 then none else if (((M.1 (2, c0, 0) 15) + 1) - ((M.1 (2, c0, 0) 15) + 1) / (M.1 (2, c0, 0) 14) * (M.1 (2, c0, 0) 14)) = 0 then bnd (f_X3_transferOldest c0 M) (fun r1 M2 => f_X3_passCycle_88 c0 M2) else f_X3_passCycle_88 c0 M
set_option maxHeartbeats 4000000 in
set_option maxRecDepth 100000 in
theorem t_X3_passCycle_63 {G : GG} {A : Nat → Prop} {p : Program} {l : Launch} {e : Env} {s : State} {m : MethodId} {args : Array Value} {below : List Frame} {meth : Method} {c : Code} {r : Unit} {M' : Mem} (X : Cx G A p s m args meth c RX3 cX3_passCycle 2) (hr : meth.sig.returnType = none) {c0 : Nat} {M : Mem} (hc0 : c0 < 6) (h : f_X3_passCycle_63 c0 M = some (r, M')) : T G A p l e (rmO 5) s m args below meth c 2 0 0 (MQ below (QvO G A M') args s 0 0 A) 63 [(0, .ref (G.2.1 (2, c0, 0)))] [] M := by
  unfold f_X3_passCycle_63 at h
  refine r_aload_n (pc := 63) X dX3_passCycle_63 rfl ?_
  refine r_getI (pc := 64) X ⟨hc0, (ltb rfl)⟩ fl_X3_106 rfl dX3_passCycle_64 ?_
  refine r_if_le (pc := 67) X (tgt := 88) dX3_passCycle_67 (by decide) h (fun h => ?_) (fun h => ?_)
  · exact T_sub (t_X3_passCycle_88 X hr hc0 h) ⟨rfl, trivial⟩
  · refine r_aload_n (pc := 70) X dX3_passCycle_70 rfl ?_
    refine r_getI (pc := 71) X ⟨hc0, (ltb rfl)⟩ fl_X3_109 rfl dX3_passCycle_71 ?_
    refine r_iconst (pc := 74) X (v := 1) dX3_passCycle_74 (by decide) ?_
    refine r_iadd (pc := 75) X dX3_passCycle_75 ?_
    refine r_aload_n (pc := 76) X dX3_passCycle_76 rfl ?_
    refine r_getI (pc := 77) X ⟨hc0, (ltb rfl)⟩ fl_X3_106 rfl dX3_passCycle_77 ?_
    refine ck h (fun hz h => ?_)
    refine r_irem (pc := 80) X hz dX3_passCycle_80 ?_
    refine r_if_ne (pc := 81) X (tgt := 88) dX3_passCycle_81 (by decide) h (fun h => ?_) (fun h => ?_)
    · exact T_sub (t_X3_passCycle_88 X hr hc0 h) ⟨rfl, trivial⟩
    · refine r_aload_n (pc := 84) X dX3_passCycle_84 rfl ?_
      refine bndE h (fun r1 M2 h3 h => ?_)
      refine r_callVv0 (pc := 85) X ⟨hc0, (ltb rfl)⟩ rfl vy_X3_transferOldest my_X3_transferOldest ml_X3_134 ⟨Nat.le_of_ble_eq_true rfl, Nat.le_of_ble_eq_true rfl, Nat.le_of_ble_eq_true rfl, Nat.le_of_ble_eq_true rfl⟩ (c_X3_transferOldest hc0 h3) (Nat.le_of_ble_eq_true rfl) dX3_passCycle_85 ?_
      exact T_sub (t_X3_passCycle_88 X hr hc0 h) ⟨rfl, trivial⟩
def f_X3_passCycle_49 (c0 : Nat) (M : Mem) : Option (Unit × Mem) :=
  if (M.1 (1, c0, 0) 0) = 0 then f_X3_passCycle_63 c0 M else bnd (f_X3_advanceConversion c0 M) (fun r1 M2 => f_X3_passCycle_63 c0 M2)
set_option maxHeartbeats 4000000 in
set_option maxRecDepth 100000 in
theorem t_X3_passCycle_49 {G : GG} {A : Nat → Prop} {p : Program} {l : Launch} {e : Env} {s : State} {m : MethodId} {args : Array Value} {below : List Frame} {meth : Method} {c : Code} {r : Unit} {M' : Mem} (X : Cx G A p s m args meth c RX3 cX3_passCycle 2) (hr : meth.sig.returnType = none) {c0 : Nat} {M : Mem} (hc0 : c0 < 6) (h : f_X3_passCycle_49 c0 M = some (r, M')) : T G A p l e (rmO 5) s m args below meth c 2 0 0 (MQ below (QvO G A M') args s 0 0 A) 49 [(0, .ref (G.2.1 (2, c0, 0)))] [] M := by
  unfold f_X3_passCycle_49 at h
  refine r_aload_n (pc := 49) X dX3_passCycle_49 rfl ?_
  refine r_getR (q := (1, c0, 0)) (pc := 50) X ⟨hc0, (ltb rfl)⟩ fl_X3_44 rfl dX3_passCycle_50 ?_
  refine r_getI (pc := 53) X ⟨hc0, (ltb rfl)⟩ fl_X3_125 rfl dX3_passCycle_53 ?_
  refine r_if_eq (pc := 56) X (tgt := 63) dX3_passCycle_56 (by decide) h (fun h => ?_) (fun h => ?_)
  · exact T_sub (t_X3_passCycle_63 X hr hc0 h) ⟨rfl, trivial⟩
  · refine r_aload_n (pc := 59) X dX3_passCycle_59 rfl ?_
    refine bndE h (fun r1 M2 h3 h => ?_)
    refine r_callVv0 (pc := 60) X ⟨hc0, (ltb rfl)⟩ rfl vy_X3_advanceConversion my_X3_advanceConversion ml_X3_131 ⟨Nat.le_of_ble_eq_true rfl, Nat.le_of_ble_eq_true rfl, Nat.le_of_ble_eq_true rfl, Nat.le_of_ble_eq_true rfl⟩ (c_X3_advanceConversion hc0 h3) (Nat.le_of_ble_eq_true rfl) dX3_passCycle_60 ?_
    exact T_sub (t_X3_passCycle_63 X hr hc0 h) ⟨rfl, trivial⟩
def f_X3_passCycle_29 (r2 : Nat → Int32 → Mem → Option (Unit × Mem)) (c0 : Nat) (x1 : Int32) (M : Mem) : Option (Unit × Mem) :=
  nm (x1 + 1) (fun e1 => r2 c0 e1 M)
set_option maxHeartbeats 4000000 in
set_option maxRecDepth 100000 in
theorem t_X3_passCycle_29 {G : GG} {A : Nat → Prop} {p : Program} {l : Launch} {e : Env} {s : State} {m : MethodId} {args : Array Value} {below : List Frame} {meth : Method} {c : Code} {r : Unit} {M' : Mem} (X : Cx G A p s m args meth c RX3 cX3_passCycle 2) (hr : meth.sig.returnType = none) {r2 : Nat → Int32 → Mem → Option (Unit × Mem)} (hr2 : ∀ (c0 : Nat) (x1 : Int32) (M : Mem), c0 < 6 → r2 c0 x1 M = some (r, M') → T G A p l e (rmO 5) s m args below meth c 2 0 0 (MQ below (QvO G A M') args s 0 0 A) 2 [(0, .ref (G.2.1 (2, c0, 0))), (1, .int x1)] [] M) {c0 : Nat} {x1 : Int32} {M : Mem} (hc0 : c0 < 6) (h : f_X3_passCycle_29 r2 c0 x1 M = some (r, M')) : T G A p l e (rmO 5) s m args below meth c 2 0 0 (MQ below (QvO G A M') args s 0 0 A) 29 [(0, .ref (G.2.1 (2, c0, 0))), (1, .int x1)] [] M := by
  unfold f_X3_passCycle_29 at h
  refine r_iincN (pc := 29) X (v0 := 1) rfl (by decide) (by decide) dX3_passCycle_29 h (fun e1 h => ?_)
  refine r_goto (pc := 32) X (tgt := 2) dX3_passCycle_32 (by decide) ?_
  exact T_sub (hr2 _ _ _ hc0 h) ⟨rfl, rfl, trivial⟩
def f_X3_passCycle_2 : Nat → Nat → Int32 → Mem → Option (Unit × Mem)
  | 0 => fun _ _ _ => none
  | n + 1 => fun c0 x1 M => if 4 ≤ x1 then if (M.1 (1, c0, 0) 0) = 0 then bnd (f_X3_startConversion c0 M) (fun r1 M2 => f_X3_passCycle_49 c0 M2) else f_X3_passCycle_49 c0 M else if bad x1 4 then none else bnd (f_X8_isDue c0 (Int32.toNatClampNeg x1) (M.1 (2, c0, 0) 15) M) (fun r5 M6 => if r5 = 0 then f_X3_passCycle_29 (f_X3_passCycle_2 n) c0 x1 M6 else bnd (f_X3_fireTrigger c0 x1 M6) (fun r8 M9 => f_X3_passCycle_29 (f_X3_passCycle_2 n) c0 x1 M9))
set_option maxHeartbeats 4000000 in
set_option maxRecDepth 100000 in
theorem t_X3_passCycle_2 {G : GG} {A : Nat → Prop} {p : Program} {l : Launch} {e : Env} {s : State} {m : MethodId} {args : Array Value} {below : List Frame} {meth : Method} {c : Code} {r : Unit} {M' : Mem} (X : Cx G A p s m args meth c RX3 cX3_passCycle 2) (hr : meth.sig.returnType = none) : ∀ (n : Nat) (c0 : Nat) (x1 : Int32) (M : Mem), c0 < 6 → f_X3_passCycle_2 n c0 x1 M = some (r, M') → T G A p l e (rmO 5) s m args below meth c 2 0 0 (MQ below (QvO G A M') args s 0 0 A) 2 [(0, .ref (G.2.1 (2, c0, 0))), (1, .int x1)] [] M := by
  intro n
  induction n with
  | zero =>
    intro c0 x1 M hc0 h
    cases h
  | succ n ih =>
    intro c0 x1 M hc0 h
    unfold f_X3_passCycle_2 at h
    refine r_iload_n (pc := 2) X dX3_passCycle_2 rfl ?_
    refine r_iconst (pc := 3) X (v := 4) dX3_passCycle_3 (by decide) ?_
    refine r_icmp_ge (pc := 4) X (tgt := 35) dX3_passCycle_4 (by decide) h (fun h => ?_) (fun h => ?_)
    · refine r_aload_n (pc := 35) X dX3_passCycle_35 rfl ?_
      refine r_getR (q := (1, c0, 0)) (pc := 36) X ⟨hc0, (ltb rfl)⟩ fl_X3_44 rfl dX3_passCycle_36 ?_
      refine r_getI (pc := 39) X ⟨hc0, (ltb rfl)⟩ fl_X3_125 rfl dX3_passCycle_39 ?_
      refine r_if_ne (pc := 42) X (tgt := 49) dX3_passCycle_42 (by decide) h (fun h => ?_) (fun h => ?_)
      · exact T_sub (t_X3_passCycle_49 X hr hc0 h) ⟨rfl, trivial⟩
      · refine r_aload_n (pc := 45) X dX3_passCycle_45 rfl ?_
        refine bndE h (fun r1 M2 h3 h => ?_)
        refine r_callVv0 (pc := 46) X ⟨hc0, (ltb rfl)⟩ rfl vy_X3_startConversion my_X3_startConversion ml_X3_128 ⟨Nat.le_of_ble_eq_true rfl, Nat.le_of_ble_eq_true rfl, Nat.le_of_ble_eq_true rfl, Nat.le_of_ble_eq_true rfl⟩ (c_X3_startConversion hc0 h3) (Nat.le_of_ble_eq_true rfl) dX3_passCycle_46 ?_
        exact T_sub (t_X3_passCycle_49 X hr hc0 h) ⟨rfl, trivial⟩
    · refine r_aload_n (pc := 7) X dX3_passCycle_7 rfl ?_
      refine r_getR (q := (25, c0, 0)) (pc := 8) X ⟨hc0, (ltb rfl)⟩ fl_X3_31 rfl dX3_passCycle_8 ?_
      refine r_iload_n (pc := 11) X dX3_passCycle_11 rfl ?_
      refine r_aald (pc := 12) X (t := 1) (n := 4) ⟨hc0, (ltb rfl)⟩ rfl (ltb rfl) (nlt rfl) dX3_passCycle_12 h (fun hb4 h => ?_)
      refine r_aload_n (pc := 13) X dX3_passCycle_13 rfl ?_
      refine r_getI (pc := 14) X ⟨hc0, (ltb rfl)⟩ fl_X3_109 rfl dX3_passCycle_14 ?_
      refine bndE h (fun r5 M6 h7 h => ?_)
      refine r_callVi1 (pc := 17) X ⟨hc0, (bad_lt hb4)⟩ rfl vy_X8_isDue my_X8_isDue ml_X3_118 ⟨Nat.le_of_ble_eq_true rfl, Nat.le_of_ble_eq_true rfl, Nat.le_of_ble_eq_true rfl, Nat.le_of_ble_eq_true rfl⟩ (c_X8_isDue hc0 (bad_lt hb4) h7) (Nat.le_of_ble_eq_true rfl) dX3_passCycle_17 ?_
      refine r_if_eq (pc := 20) X (tgt := 29) dX3_passCycle_20 (by decide) h (fun h => ?_) (fun h => ?_)
      · exact T_sub (t_X3_passCycle_29 X hr ih hc0 h) ⟨rfl, rfl, trivial⟩
      · refine r_aload_n (pc := 23) X dX3_passCycle_23 rfl ?_
        refine r_iload_n (pc := 24) X dX3_passCycle_24 rfl ?_
        refine bndE h (fun r8 M9 h10 h => ?_)
        refine r_callVi1 (pc := 25) X ⟨hc0, (ltb rfl)⟩ rfl vy_X3_fireTrigger my_X3_fireTrigger ml_X3_122 ⟨Nat.le_of_ble_eq_true rfl, Nat.le_of_ble_eq_true rfl, Nat.le_of_ble_eq_true rfl, Nat.le_of_ble_eq_true rfl⟩ (c_X3_fireTrigger hc0 h10) (Nat.le_of_ble_eq_true rfl) dX3_passCycle_25 ?_
        refine r_pop (pc := 28) X dX3_passCycle_28 rfl ?_
        exact T_sub (t_X3_passCycle_29 X hr ih hc0 h) ⟨rfl, rfl, trivial⟩
def f_X3_passCycle (c0 : Nat) (M : Mem) : Option (Unit × Mem) :=
  f_X3_passCycle_2 fuelN c0 0 M
set_option maxHeartbeats 4000000 in
set_option maxRecDepth 100000 in
theorem t_X3_passCycle {G : GG} {A : Nat → Prop} {p : Program} {l : Launch} {e : Env} {s : State} {m : MethodId} {args : Array Value} {below : List Frame} {meth : Method} {c : Code} {r : Unit} {M' : Mem} (X : Cx G A p s m args meth c RX3 cX3_passCycle 2) (hr : meth.sig.returnType = none) {c0 : Nat} {M : Mem} (hc0 : c0 < 6) (h : f_X3_passCycle c0 M = some (r, M')) : T G A p l e (rmO 5) s m args below meth c 2 0 0 (MQ below (QvO G A M') args s 0 0 A) 0 [(0, .ref (G.2.1 (2, c0, 0)))] [] M := by
  unfold f_X3_passCycle at h
  refine r_iconst (pc := 0) X (v := 0) dX3_passCycle_0 (by decide) ?_
  refine r_istore_n (pc := 1) X (by decide) dX3_passCycle_1 ?_
  exact T_sub (t_X3_passCycle_2 X hr _ _ _ _ hc0 h) ⟨rfl, rfl, trivial⟩
theorem c_X3_passCycle {G : GG} {l : Launch} {c0 : Nat} {r : Unit} {M M' : Mem} (hc0 : c0 < 6) (h : f_X3_passCycle c0 M = some (r, M')) : Met l yX3_passCycle (wsO yX3_passCycle cX3_passCycle 2 none) (rmO 5) (PcO G [.ref (G.2.1 (2, c0, 0))] M) (QvO G (AA G) M') 0 0 (AA G) :=
  met_of (own := RX3) rfl (by decide +kernel) (Nat.le_of_ble_eq_true rfl) (fun p e s m args below meth c X hr => t_X3_passCycle X hr hc0 h)
-- ConverterScanner$Converter.stopRegular
def f_X3_stopRegular (c0 : Nat) (M : Mem) : Option (Int32 × Mem) :=
  nm (M.1 (5, c0, 0) 3) (fun e1 => bnd (f_X3_breakOffRegular c0 0 M) (fun r2 M3 => bnd (f_X6_forgetConversions c0 0 M3) (fun r5 M6 => bnd (f_X6_becomeIdle c0 0 M6) (fun r8 M9 => nm (uI M9 (5, c0, 0) 4 0) (fun M11 => if ¬ (e1 = 0 ∨ e1 = 1) then none else some (e1, M11))))))
set_option maxHeartbeats 4000000 in
set_option maxRecDepth 100000 in
theorem t_X3_stopRegular {G : GG} {A : Nat → Prop} {p : Program} {l : Launch} {e : Env} {s : State} {m : MethodId} {args : Array Value} {below : List Frame} {meth : Method} {c : Code} {r : Int32} {M' : Mem} (X : Cx G A p s m args meth c RX3 cX3_stopRegular 2) (hr : meth.sig.returnType = some .boolean) {c0 : Nat} {M : Mem} (hc0 : c0 < 6) (h : f_X3_stopRegular c0 M = some (r, M')) : T G A p l e (rmO 2) s m args below meth c 2 0 0 (MQ below (QiO G A r M') args s 0 0 A) 0 [(0, .ref (G.2.1 (2, c0, 0)))] [] M := by
  unfold f_X3_stopRegular at h
  refine r_aload_n (pc := 0) X dX3_stopRegular_0 rfl ?_
  refine r_getR (q := (5, c0, 0)) (pc := 1) X ⟨hc0, (ltb rfl)⟩ fl_X3_22 rfl dX3_stopRegular_1 ?_
  refine r_getI (pc := 4) X ⟨hc0, (ltb rfl)⟩ fl_X3_171 rfl dX3_stopRegular_4 ?_
  refine r_istore_nN (pc := 7) X (by decide) dX3_stopRegular_7 h (fun e1 h => ?_)
  refine r_aload_n (pc := 8) X dX3_stopRegular_8 rfl ?_
  refine r_iconst (pc := 9) X (v := 0) dX3_stopRegular_9 (by decide) ?_
  refine bndE h (fun r2 M3 h4 h => ?_)
  refine r_callVv1 (pc := 10) X ⟨hc0, (ltb rfl)⟩ rfl vy_X3_breakOffRegular my_X3_breakOffRegular ml_X3_161 ⟨Nat.le_of_ble_eq_true rfl, Nat.le_of_ble_eq_true rfl, Nat.le_of_ble_eq_true rfl, Nat.le_of_ble_eq_true rfl⟩ (c_X3_breakOffRegular hc0 h4) (Nat.le_of_ble_eq_true rfl) dX3_stopRegular_10 ?_
  refine r_aload_n (pc := 13) X dX3_stopRegular_13 rfl ?_
  refine r_getR (q := (5, c0, 0)) (pc := 14) X ⟨hc0, (ltb rfl)⟩ fl_X3_22 rfl dX3_stopRegular_14 ?_
  refine bndE h (fun r5 M6 h7 h => ?_)
  refine r_callVv0 (pc := 17) X ⟨hc0, (ltb rfl)⟩ rfl vy_X6_forgetConversions my_X6_forgetConversions ml_X3_168 ⟨Nat.le_of_ble_eq_true rfl, Nat.le_of_ble_eq_true rfl, Nat.le_of_ble_eq_true rfl, Nat.le_of_ble_eq_true rfl⟩ (c_X6_forgetConversions hc0 (ltb rfl) h7) (Nat.le_of_ble_eq_true rfl) dX3_stopRegular_17 ?_
  refine r_aload_n (pc := 20) X dX3_stopRegular_20 rfl ?_
  refine r_getR (q := (5, c0, 0)) (pc := 21) X ⟨hc0, (ltb rfl)⟩ fl_X3_22 rfl dX3_stopRegular_21 ?_
  refine bndE h (fun r8 M9 h10 h => ?_)
  refine r_callVv0 (pc := 24) X ⟨hc0, (ltb rfl)⟩ rfl vy_X6_becomeIdle my_X6_becomeIdle ml_X3_174 ⟨Nat.le_of_ble_eq_true rfl, Nat.le_of_ble_eq_true rfl, Nat.le_of_ble_eq_true rfl, Nat.le_of_ble_eq_true rfl⟩ (c_X6_becomeIdle hc0 (ltb rfl) h10) (Nat.le_of_ble_eq_true rfl) dX3_stopRegular_24 ?_
  refine r_aload_n (pc := 27) X dX3_stopRegular_27 rfl ?_
  refine r_getR (q := (5, c0, 0)) (pc := 28) X ⟨hc0, (ltb rfl)⟩ fl_X3_22 rfl dX3_stopRegular_28 ?_
  refine r_iconst (pc := 31) X (v := 0) dX3_stopRegular_31 (by decide) ?_
  refine r_putIN (pc := 32) X ⟨hc0, (ltb rfl)⟩ fp_X3_177 rfl dX3_stopRegular_32 h (fun M11 h => ?_)
  refine r_iload_n (pc := 35) X dX3_stopRegular_35 rfl ?_
  exact r_zret (pc := 36) X hr dX3_stopRegular_36 h
theorem c_X3_stopRegular {G : GG} {l : Launch} {c0 : Nat} {r : Int32} {M M' : Mem} (hc0 : c0 < 6) (h : f_X3_stopRegular c0 M = some (r, M')) : Met l yX3_stopRegular (wsO yX3_stopRegular cX3_stopRegular 2 (some .boolean)) (rmO 2) (PcO G [.ref (G.2.1 (2, c0, 0))] M) (QiO G (AA G) r M') 0 0 (AA G) :=
  met_of (own := RX3) rfl (by decide +kernel) (Nat.le_of_ble_eq_true rfl) (fun p e s m args below meth c X hr => t_X3_stopRegular X hr hc0 h)
