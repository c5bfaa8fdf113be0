/-! ===== ConverterScanner.<init> ===== -/
theorem at_mid2 {X Y : va_W} {x : Nat × va_E} : ((X ++ [x]) ++ Y)[X.length]? = some x := by
  rw [List.append_assoc]
  exact at_mid
theorem set_mid2 {X Y : va_W} {x y : Nat × va_E} : ((X ++ [x]) ++ Y).set X.length y = (X ++ [y]) ++ Y := by
  rw [List.append_assoc, List.append_assoc]
  exact set_mid
theorem at_mid3 {X Y Y2 : va_W} {x : Nat × va_E} : (((X ++ [x]) ++ Y) ++ Y2)[X.length]? = some x := by
  rw [List.append_assoc, List.append_assoc]
  exact at_mid
theorem set_mid3 {X Y Y2 : va_W} {x y : Nat × va_E} : (((X ++ [x]) ++ Y) ++ Y2).set X.length y = ((X ++ [y]) ++ Y) ++ Y2 := by
  rw [List.append_assoc, List.append_assoc, List.append_assoc, List.append_assoc]
  exact set_mid
theorem kml_X11_1 : Cond.methodLink RX11 1 Lib.objectInit ∈ gtb := gt (inT1 (List.mem_of_getElem? (i := 28) rfl)) rfl
theorem kcl_X11_13 : Cond.classLink RX11 13 RX3 ∈ gtb := gt (inT1 (List.mem_of_getElem? (i := 31) rfl)) rfl
theorem kin_X3 : Cond.instantiable RX3 17 ∈ gtb := gt (inT1 (List.mem_of_getElem? (i := 32) rfl)) rfl
theorem kii_X3 : Cond.initialized RX3 ∈ gtb := gt (inT1 (List.mem_of_getElem? (i := 2) rfl)) rfl
theorem kmy_X3 : MY yX3_init cX3_init 2 none 0 := ⟨gt (inT1 (List.mem_of_getElem? (i := 35) rfl)) rfl, gt (inT1 (List.mem_of_getElem? (i := 2) rfl)) rfl, ⟨by decide +kernel, by decide +kernel, by decide +kernel⟩, by decide +kernel⟩
theorem kvi_X3 : Cond.instanceMethod yX3_init ∈ gtb := gt (inT1 (List.mem_of_getElem? (i := 34) rfl)) rfl
theorem kml_X11_15 : Cond.methodLink RX11 15 yX3_init ∈ gtb := gt (inT1 (List.mem_of_getElem? (i := 33) rfl)) rfl
theorem kac_byte : Cond.arrayClass FieldType.byte ∈ gtb := gt (inT1 (List.mem_of_getElem? (i := 109) rfl)) rfl
theorem kac_boolean : Cond.arrayClass FieldType.boolean ∈ gtb := gt (inT2 (List.mem_of_getElem? (i := 199) rfl)) rfl
theorem kcl_X11_34 : Cond.classLink RX11 34 RX4 ∈ gtb := gt (inT2 (List.mem_of_getElem? (i := 156) rfl)) rfl
theorem kin_X4 : Cond.instantiable RX4 9 ∈ gtb := gt (inT2 (List.mem_of_getElem? (i := 157) rfl)) rfl
theorem kii_X4 : Cond.initialized RX4 ∈ gtb := gt (inT1 (List.mem_of_getElem? (i := 9) rfl)) rfl
theorem kmy_X4 : MY yX4_init cX4_init 3 none 2 := ⟨gt (inT2 (List.mem_of_getElem? (i := 160) rfl)) rfl, gt (inT1 (List.mem_of_getElem? (i := 9) rfl)) rfl, ⟨by decide +kernel, by decide +kernel, by decide +kernel⟩, by decide +kernel⟩
theorem kvi_X4 : Cond.instanceMethod yX4_init ∈ gtb := gt (inT2 (List.mem_of_getElem? (i := 159) rfl)) rfl
theorem kml_X11_36 : Cond.methodLink RX11 36 yX4_init ∈ gtb := gt (inT2 (List.mem_of_getElem? (i := 158) rfl)) rfl
theorem kfl_X11_9 : FL RX11 9 9 0 "[B" := ⟨(RX11, TX11, 8), rfl, by decide, gt (inT2 (List.mem_of_getElem? (i := 230) rfl)) rfl, rfl⟩
theorem kfl_X11_23 : FL RX11 23 9 4 "LConverterScanner$Converter;" := ⟨(RX11, TX11, 8), rfl, by decide, gt (inT2 (List.mem_of_getElem? (i := 234) rfl)) rfl, rfl⟩
theorem kff_X11_9 : FF RX11 9 9 0 "[B" := ⟨(RX11, TX11, 8), rfl, by decide, gt (inT2 (List.mem_of_getElem? (i := 230) rfl)) rfl, rfl, rfl, rfl⟩
theorem kff_X11_16 : FF RX11 16 9 2 "LConverterScanner$Converter;" := ⟨(RX11, TX11, 8), rfl, by decide, gt (inT2 (List.mem_of_getElem? (i := 232) rfl)) rfl, rfl, rfl, rfl⟩
theorem kff_X11_20 : FF RX11 20 9 3 "LConverterScanner$Converter;" := ⟨(RX11, TX11, 8), rfl, by decide, gt (inT2 (List.mem_of_getElem? (i := 233) rfl)) rfl, rfl, rfl, rfl⟩
theorem kff_X11_23 : FF RX11 23 9 4 "LConverterScanner$Converter;" := ⟨(RX11, TX11, 8), rfl, by decide, gt (inT2 (List.mem_of_getElem? (i := 234) rfl)) rfl, rfl, rfl, rfl⟩
theorem kff_X11_26 : FF RX11 26 9 5 "[LConverterScanner$Converter;" := ⟨(RX11, TX11, 8), rfl, by decide, gt (inT2 (List.mem_of_getElem? (i := 235) rfl)) rfl, rfl, rfl, rfl⟩
theorem kff_X11_30 : FF RX11 30 9 6 "[Z" := ⟨(RX11, TX11, 8), rfl, by decide, gt (inT2 (List.mem_of_getElem? (i := 236) rfl)) rfl, rfl, rfl, rfl⟩
theorem kff_X11_39 : FF RX11 39 9 7 "LConverterScanner$Parser;" := ⟨(RX11, TX11, 8), rfl, by decide, gt (inT2 (List.mem_of_getElem? (i := 237) rfl)) rfl, rfl, rfl, rfl⟩
/-- what it makes -/
abbrev csW (ac : Nat → ClassId) (w : Nat → Nat) (a b sl sv pa tk : Nat) (qq : Nat → Nat → Nat) (chs trs wns : Nat → List Nat) : va_W := (((((((([(a, .inr (9, [.ref b, .int 0, .ref ((qq 0) 0), .ref ((qq 1) 0), .ref ((qq 2) 0), .ref sl, .ref sv, .ref pa])), (b, aB ac 900)] ++ cvW ac (qq 0) (chs 0) (trs 0) (wns 0)) ++ cvW ac (qq 1) (chs 1) (trs 1) (wns 1)) ++ cvW ac (qq 2) (chs 2) (trs 2) (wns 2)) ++ [(sl, aF ac 8 2 (fun i => some (qq (3 + i) 0)))]) ++ cvW ac (qq 3) (chs 3) (trs 3) (wns 3)) ++ cvW ac (qq 4) (chs 4) (trs 4) (wns 4)) ++ [(sv, aZ ac 2)]) ++ [(pa, ePa tk (qq 2 0)), (tk, eTk w b)])
set_option maxHeartbeats 16000000 in
set_option maxRecDepth 100000 in
theorem kc_X11 {D : va_G} {ac : Nat → ClassId} {w : Nat → Nat} {l : Launch} {sz a : Nat} : Met l yX11_init (wsO yX11_init cX11_init 1 none) (rmK 3 155 3696) (PcK D ac w [.ref a] [(a, zSc)] sz) (QvK D [(a, zSc)] sz (fun w1 => ∃ (b sl sv pa tk : Nat) (qq : Nat → Nat → Nat) (chs trs wns : Nat → List Nat), (∀ c, c < 5 → (chs c).length = 8 ∧ (trs c).length = 4 ∧ (wns c).length = 3) ∧ w1 = csW ac w a b sl sv pa tk qq chs trs wns)) 155 3696 (va_A [(a, zSc)] sz) := by
  refine kmet (own := RX11) rfl (by decide +kernel) (Nat.le_of_ble_eq_true rfl) (fun p e s m args below meth c X hin2 hr hlk => ?_)
  show TK D _ p l e _ s m args below meth c _ 0 0 _ 0 [(0, .ref a)] [] [(a, .inr (9, [.null, .int 0, .null, .null, .null, .null, .null, .null]))]
  refine k_aload_n (pc := 0) X dX11_init_0 rfl ?_
  refine k_objInit (pc := 1) X kml_X11_1 koi_1 koi_2 ⟨Nat.le_of_ble_eq_true rfl, Nat.le_of_ble_eq_true rfl⟩ dX11_init_1 ?_
  refine k_aload_n (pc := 4) X dX11_init_4 rfl ?_
  refine k_sipush (pc := 5) X (v := 900) dX11_init_5 (by first | decide | simp) ?_
  refine k_newa (pc := 8) X (atype := .byte) (N' := 900) (a0 := (900, .inl (fun _ => 0))) kac_byte rfl 1 (by first | decide | simp) rfl (fun _ _ => rfl) (fun _ => rfl) (by first | decide | simp) (by first | decide | simp) (Nat.le_of_ble_eq_true rfl) ⟨Nat.le_of_ble_eq_true rfl, Nat.le_of_ble_eq_true rfl⟩ dX11_init_8 (fun g1 => ?_)
  refine k_putF (pc := 10) X hin2 (v := .ref g1) (ws' := [(a, .inr (9, [.ref g1, .int 0, .null, .null, .null, .null, .null, .null])), (g1, aB ac 900)]) 0 rfl kff_X11_9 (tyX11_ok 0 (by first | decide | simp)) rfl rfl (by first | decide | simp) rfl dX11_init_10 ?_
  refine k_aload_n (pc := 13) X dX11_init_13 rfl ?_
  refine k_new (pc := 14) X (ci := 2) (C := RX3) (TT := TX3) (N := 17) rfl tyX3 tyX3_ok dfX3 kcl_X11_13 kin_X3 kii_X3 ⟨Nat.le_of_ble_eq_true rfl, Nat.le_of_ble_eq_true rfl⟩ dX11_init_14 (fun h0 => ?_)
  refine k_dup (pc := 17) X dX11_init_17 rfl ?_
  refine k_init (pc := 18) X (mc := 29) (ms := 538) (X0 := [(a, .inr (9, [.ref g1, .int 0, .null, .null, .null, .null, .null, .null])), (g1, aB ac 900)]) (wc := [(h0, zCo)]) (As := []) kmy_X3 rfl kvi_X3 kml_X11_15 rfl rfl ⟨Nat.le_of_ble_eq_true rfl, Nat.le_of_ble_eq_true rfl, Nat.le_of_ble_eq_true rfl, Nat.le_of_ble_eq_true rfl⟩ (fun sz => kc_X3) rfl rfl (Nat.le_of_ble_eq_true rfl) dX11_init_18 (fun w1 hw => ?_)
  obtain ⟨q0, ch0, tr0, wn0, hq0, hc0, ht0, hw0, rfl⟩ := hw
  subst hq0
  refine k_putF (pc := 21) X hin2 (v := .ref (q0 0)) (ws' := ([(a, .inr (9, [.ref g1, .int 0, .ref (q0 0), .null, .null, .null, .null, .null])), (g1, aB ac 900)] ++ cvW ac q0 ch0 tr0 wn0)) 0 rfl kff_X11_16 (tyX11_ok 2 (by first | decide | simp)) rfl rfl (by first | decide | simp) rfl dX11_init_21 ?_
  refine k_aload_n (pc := 24) X dX11_init_24 rfl ?_
  refine k_new (pc := 25) X (ci := 2) (C := RX3) (TT := TX3) (N := 17) rfl tyX3 tyX3_ok dfX3 kcl_X11_13 kin_X3 kii_X3 ⟨Nat.le_of_ble_eq_true rfl, Nat.le_of_ble_eq_true rfl⟩ dX11_init_25 (fun h1 => ?_)
  refine k_dup (pc := 28) X dX11_init_28 rfl ?_
  refine k_init (pc := 29) X (mc := 29) (ms := 538) (X0 := ([(a, .inr (9, [.ref g1, .int 0, .ref (q0 0), .null, .null, .null, .null, .null])), (g1, aB ac 900)] ++ cvW ac q0 ch0 tr0 wn0)) (wc := [(h1, zCo)]) (As := []) kmy_X3 rfl kvi_X3 kml_X11_15 rfl rfl ⟨Nat.le_of_ble_eq_true rfl, Nat.le_of_ble_eq_true rfl, Nat.le_of_ble_eq_true rfl, Nat.le_of_ble_eq_true rfl⟩ (fun sz => kc_X3) rfl rfl (Nat.le_of_ble_eq_true rfl) dX11_init_29 (fun w1 hw => ?_)
  obtain ⟨q1, ch1, tr1, wn1, hq1, hc1, ht1, hw1, rfl⟩ := hw
  subst hq1
  refine k_putF (pc := 32) X hin2 (v := .ref (q1 0)) (ws' := (([(a, .inr (9, [.ref g1, .int 0, .ref (q0 0), .ref (q1 0), .null, .null, .null, .null])), (g1, aB ac 900)] ++ cvW ac q0 ch0 tr0 wn0) ++ cvW ac q1 ch1 tr1 wn1)) 0 rfl kff_X11_20 (tyX11_ok 3 (by first | decide | simp)) rfl rfl (by first | decide | simp) rfl dX11_init_32 ?_
  refine k_aload_n (pc := 35) X dX11_init_35 rfl ?_
  refine k_new (pc := 36) X (ci := 2) (C := RX3) (TT := TX3) (N := 17) rfl tyX3 tyX3_ok dfX3 kcl_X11_13 kin_X3 kii_X3 ⟨Nat.le_of_ble_eq_true rfl, Nat.le_of_ble_eq_true rfl⟩ dX11_init_36 (fun h2 => ?_)
  refine k_dup (pc := 39) X dX11_init_39 rfl ?_
  refine k_init (pc := 40) X (mc := 29) (ms := 538) (X0 := (([(a, .inr (9, [.ref g1, .int 0, .ref (q0 0), .ref (q1 0), .null, .null, .null, .null])), (g1, aB ac 900)] ++ cvW ac q0 ch0 tr0 wn0) ++ cvW ac q1 ch1 tr1 wn1)) (wc := [(h2, zCo)]) (As := []) kmy_X3 rfl kvi_X3 kml_X11_15 rfl rfl ⟨Nat.le_of_ble_eq_true rfl, Nat.le_of_ble_eq_true rfl, Nat.le_of_ble_eq_true rfl, Nat.le_of_ble_eq_true rfl⟩ (fun sz => kc_X3) rfl rfl (Nat.le_of_ble_eq_true rfl) dX11_init_40 (fun w1 hw => ?_)
  obtain ⟨q2, ch2, tr2, wn2, hq2, hc2, ht2, hw2, rfl⟩ := hw
  subst hq2
  refine k_putF (pc := 43) X hin2 (v := .ref (q2 0)) (ws' := ((([(a, .inr (9, [.ref g1, .int 0, .ref (q0 0), .ref (q1 0), .ref (q2 0), .null, .null, .null])), (g1, aB ac 900)] ++ cvW ac q0 ch0 tr0 wn0) ++ cvW ac q1 ch1 tr1 wn1) ++ cvW ac q2 ch2 tr2 wn2)) 0 rfl kff_X11_23 (tyX11_ok 4 (by first | decide | simp)) rfl rfl (by first | decide | simp) rfl dX11_init_43 ?_
  refine k_aload_n (pc := 46) X dX11_init_46 rfl ?_
  refine k_iconst (pc := 47) X (v := 2) dX11_init_47 (by first | decide | simp) ?_
  refine k_newq (pc := 48) X (C := RX3) (N' := 2) kcl_X11_13 (List.mem_of_getElem? (i := 3) rfl) 8 (by first | decide | simp) rfl (by first | decide | simp) (by first | decide | simp) (Nat.le_of_ble_eq_true rfl) ⟨Nat.le_of_ble_eq_true rfl, Nat.le_of_ble_eq_true rfl⟩ dX11_init_48 (fun sl => ?_)
  refine k_dup (pc := 51) X dX11_init_51 rfl ?_
  refine k_iconst (pc := 52) X (v := 0) dX11_init_52 (by first | decide | simp) ?_
  refine k_new (pc := 53) X (ci := 2) (C := RX3) (TT := TX3) (N := 17) rfl tyX3 tyX3_ok dfX3 kcl_X11_13 kin_X3 kii_X3 ⟨Nat.le_of_ble_eq_true rfl, Nat.le_of_ble_eq_true rfl⟩ dX11_init_53 (fun h3 => ?_)
  refine k_dup (pc := 56) X dX11_init_56 rfl ?_
  refine k_init (pc := 57) X (mc := 29) (ms := 538) (X0 := (((([(a, .inr (9, [.ref g1, .int 0, .ref (q0 0), .ref (q1 0), .ref (q2 0), .null, .null, .null])), (g1, aB ac 900)] ++ cvW ac q0 ch0 tr0 wn0) ++ cvW ac q1 ch1 tr1 wn1) ++ cvW ac q2 ch2 tr2 wn2) ++ [(sl, aF ac 8 2 (fun _ => none))])) (wc := [(h3, zCo)]) (As := []) kmy_X3 rfl kvi_X3 kml_X11_15 rfl rfl ⟨Nat.le_of_ble_eq_true rfl, Nat.le_of_ble_eq_true rfl, Nat.le_of_ble_eq_true rfl, Nat.le_of_ble_eq_true rfl⟩ (fun sz => kc_X3) rfl rfl (Nat.le_of_ble_eq_true rfl) dX11_init_57 (fun w1 hw => ?_)
  obtain ⟨q3, ch3, tr3, wn3, hq3, hc3, ht3, hw3, rfl⟩ := hw
  subst hq3
  refine k_aast (pc := 60) X (ci := 2) (q := (RX3, TX3, 17)) (t := 8) (n := 2) (ws' := ((((([(a, .inr (9, [.ref g1, .int 0, .ref (q0 0), .ref (q1 0), .ref (q2 0), .null, .null, .null])), (g1, aB ac 900)] ++ cvW ac q0 ch0 tr0 wn0) ++ cvW ac q1 ch1 tr1 wn1) ++ cvW ac q2 ch2 tr2 wn2) ++ [(sl, aF ac 8 2 (va_up (fun _ => none) (Int32.toNatClampNeg 0) (some (q3 0))))]) ++ cvW ac q3 ch3 tr3 wn3)) (((([(a, .inr (9, [.ref g1, .int 0, .ref (q0 0), .ref (q1 0), .ref (q2 0), .null, .null, .null])), (g1, aB ac 900)] ++ cvW ac q0 ch0 tr0 wn0) ++ cvW ac q1 ch1 tr1 wn1) ++ cvW ac q2 ch2 tr2 wn2)).length (((([(a, .inr (9, [.ref g1, .int 0, .ref (q0 0), .ref (q1 0), .ref (q2 0), .null, .null, .null])), (g1, aB ac 900)] ++ cvW ac q0 ch0 tr0 wn0) ++ cvW ac q1 ch1 tr1 wn1) ++ cvW ac q2 ch2 tr2 wn2) ++ [(sl, aF ac 8 2 (fun _ => none))]).length at_mid2 (by first | decide | simp) rfl rfl at_mid (nIin (w := 0) (N := 2) (by first | decide | simp) (by first | decide | simp)) set_mid2 dX11_init_60 ?_
  refine k_dup (pc := 61) X dX11_init_61 rfl ?_
  refine k_iconst (pc := 62) X (v := 1) dX11_init_62 (by first | decide | simp) ?_
  refine k_new (pc := 63) X (ci := 2) (C := RX3) (TT := TX3) (N := 17) rfl tyX3 tyX3_ok dfX3 kcl_X11_13 kin_X3 kii_X3 ⟨Nat.le_of_ble_eq_true rfl, Nat.le_of_ble_eq_true rfl⟩ dX11_init_63 (fun h4 => ?_)
  refine k_dup (pc := 66) X dX11_init_66 rfl ?_
  refine k_init (pc := 67) X (mc := 29) (ms := 538) (X0 := ((((([(a, .inr (9, [.ref g1, .int 0, .ref (q0 0), .ref (q1 0), .ref (q2 0), .null, .null, .null])), (g1, aB ac 900)] ++ cvW ac q0 ch0 tr0 wn0) ++ cvW ac q1 ch1 tr1 wn1) ++ cvW ac q2 ch2 tr2 wn2) ++ [(sl, aF ac 8 2 (va_up (fun _ => none) (Int32.toNatClampNeg 0) (some (q3 0))))]) ++ cvW ac q3 ch3 tr3 wn3)) (wc := [(h4, zCo)]) (As := []) kmy_X3 rfl kvi_X3 kml_X11_15 rfl rfl ⟨Nat.le_of_ble_eq_true rfl, Nat.le_of_ble_eq_true rfl, Nat.le_of_ble_eq_true rfl, Nat.le_of_ble_eq_true rfl⟩ (fun sz => kc_X3) rfl rfl (Nat.le_of_ble_eq_true rfl) dX11_init_67 (fun w1 hw => ?_)
  obtain ⟨q4, ch4, tr4, wn4, hq4, hc4, ht4, hw4, rfl⟩ := hw
  subst hq4
  refine k_aast (pc := 70) X (ci := 2) (q := (RX3, TX3, 17)) (t := 8) (n := 2) (ws' := (((((([(a, .inr (9, [.ref g1, .int 0, .ref (q0 0), .ref (q1 0), .ref (q2 0), .null, .null, .null])), (g1, aB ac 900)] ++ cvW ac q0 ch0 tr0 wn0) ++ cvW ac q1 ch1 tr1 wn1) ++ cvW ac q2 ch2 tr2 wn2) ++ [(sl, aF ac 8 2 (va_up (va_up (fun _ => none) (Int32.toNatClampNeg 0) (some (q3 0))) (Int32.toNatClampNeg 1) (some (q4 0))))]) ++ cvW ac q3 ch3 tr3 wn3) ++ cvW ac q4 ch4 tr4 wn4)) (((([(a, .inr (9, [.ref g1, .int 0, .ref (q0 0), .ref (q1 0), .ref (q2 0), .null, .null, .null])), (g1, aB ac 900)] ++ cvW ac q0 ch0 tr0 wn0) ++ cvW ac q1 ch1 tr1 wn1) ++ cvW ac q2 ch2 tr2 wn2)).length (((((([(a, .inr (9, [.ref g1, .int 0, .ref (q0 0), .ref (q1 0), .ref (q2 0), .null, .null, .null])), (g1, aB ac 900)] ++ cvW ac q0 ch0 tr0 wn0) ++ cvW ac q1 ch1 tr1 wn1) ++ cvW ac q2 ch2 tr2 wn2) ++ [(sl, aF ac 8 2 (va_up (fun _ => none) (Int32.toNatClampNeg 0) (some (q3 0))))]) ++ cvW ac q3 ch3 tr3 wn3)).length at_mid3 (by first | decide | simp) rfl rfl at_mid (nIin (w := 1) (N := 2) (by first | decide | simp) (by first | decide | simp)) set_mid3 dX11_init_70 ?_
  obtain ⟨qq, e0, e1, e2, e3, e4⟩ : ∃ qq : Nat → Nat → Nat, qq 0 = q0 ∧ qq 1 = q1 ∧ qq 2 = q2 ∧ qq 3 = q3 ∧ qq 4 = q4 := ⟨(fun c => match c with | 0 => q0 | 1 => q1 | 2 => q2 | 3 => q3 | _ => q4), rfl, rfl, rfl, rfl, rfl⟩
  obtain ⟨chs, ch0', ch1', ch2', ch3', ch4'⟩ : ∃ f : Nat → List Nat, f 0 = ch0 ∧ f 1 = ch1 ∧ f 2 = ch2 ∧ f 3 = ch3 ∧ f 4 = ch4 := ⟨(fun c => match c with | 0 => ch0 | 1 => ch1 | 2 => ch2 | 3 => ch3 | _ => ch4), rfl, rfl, rfl, rfl, rfl⟩
  obtain ⟨trs, tr0', tr1', tr2', tr3', tr4'⟩ : ∃ f : Nat → List Nat, f 0 = tr0 ∧ f 1 = tr1 ∧ f 2 = tr2 ∧ f 3 = tr3 ∧ f 4 = tr4 := ⟨(fun c => match c with | 0 => tr0 | 1 => tr1 | 2 => tr2 | 3 => tr3 | _ => tr4), rfl, rfl, rfl, rfl, rfl⟩
  obtain ⟨wns, wn0', wn1', wn2', wn3', wn4'⟩ : ∃ f : Nat → List Nat, f 0 = wn0 ∧ f 1 = wn1 ∧ f 2 = wn2 ∧ f 3 = wn3 ∧ f 4 = wn4 := ⟨(fun c => match c with | 0 => wn0 | 1 => wn1 | 2 => wn2 | 3 => wn3 | _ => wn4), rfl, rfl, rfl, rfl, rfl⟩
  subst e0 e1 e2 e3 e4 ch0' ch1' ch2' ch3' ch4' tr0' tr1' tr2' tr3' tr4' wn0' wn1' wn2' wn3' wn4'
  refine TK_arr (ws' := (((((([(a, .inr (9, [.ref g1, .int 0, .ref ((qq 0) 0), .ref ((qq 1) 0), .ref ((qq 2) 0), .null, .null, .null])), (g1, aB ac 900)] ++ cvW ac (qq 0) (chs 0) (trs 0) (wns 0)) ++ cvW ac (qq 1) (chs 1) (trs 1) (wns 1)) ++ cvW ac (qq 2) (chs 2) (trs 2) (wns 2)) ++ [(sl, aF ac 8 2 (fun i => some (qq (3 + i) 0)))]) ++ cvW ac (qq 3) (chs 3) (trs 3) (wns 3)) ++ cvW ac (qq 4) (chs 4) (trs 4) (wns 4))) (g := fun i => some (qq (3 + i) 0)) (((([(a, .inr (9, [.ref g1, .int 0, .ref ((qq 0) 0), .ref ((qq 1) 0), .ref ((qq 2) 0), .null, .null, .null])), (g1, aB ac 900)] ++ cvW ac (qq 0) (chs 0) (trs 0) (wns 0)) ++ cvW ac (qq 1) (chs 1) (trs 1) (wns 1)) ++ cvW ac (qq 2) (chs 2) (trs 2) (wns 2))).length at_mid3 (fun j hj => by rcases (show j = 0 ∨ j = 1 by omega) with rfl | rfl <;> rfl) set_mid3 ?_
  refine k_putF (pc := 71) X hin2 (v := .ref sl) (ws' := (((((([(a, .inr (9, [.ref g1, .int 0, .ref ((qq 0) 0), .ref ((qq 1) 0), .ref ((qq 2) 0), .ref sl, .null, .null])), (g1, aB ac 900)] ++ cvW ac (qq 0) (chs 0) (trs 0) (wns 0)) ++ cvW ac (qq 1) (chs 1) (trs 1) (wns 1)) ++ cvW ac (qq 2) (chs 2) (trs 2) (wns 2)) ++ [(sl, aF ac 8 2 (fun i => some (qq (3 + i) 0)))]) ++ cvW ac (qq 3) (chs 3) (trs 3) (wns 3)) ++ cvW ac (qq 4) (chs 4) (trs 4) (wns 4))) 0 rfl kff_X11_26 (tyX11_ok 5 (by first | decide | simp)) rfl rfl (by first | decide | simp) rfl dX11_init_71 ?_
  refine k_aload_n (pc := 74) X dX11_init_74 rfl ?_
  refine k_iconst (pc := 75) X (v := 2) dX11_init_75 (by first | decide | simp) ?_
  refine k_newa (pc := 76) X (atype := .boolean) (N' := 2) (a0 := (2, .inl (fun _ => 0))) kac_boolean rfl 2 (by first | decide | simp) rfl (fun _ _ => rfl) (fun _ => rfl) (by first | decide | simp) (by first | decide | simp) (Nat.le_of_ble_eq_true rfl) ⟨Nat.le_of_ble_eq_true rfl, Nat.le_of_ble_eq_true rfl⟩ dX11_init_76 (fun sv => ?_)
  refine k_putF (pc := 78) X hin2 (v := .ref sv) (ws' := ((((((([(a, .inr (9, [.ref g1, .int 0, .ref ((qq 0) 0), .ref ((qq 1) 0), .ref ((qq 2) 0), .ref sl, .ref sv, .null])), (g1, aB ac 900)] ++ cvW ac (qq 0) (chs 0) (trs 0) (wns 0)) ++ cvW ac (qq 1) (chs 1) (trs 1) (wns 1)) ++ cvW ac (qq 2) (chs 2) (trs 2) (wns 2)) ++ [(sl, aF ac 8 2 (fun i => some (qq (3 + i) 0)))]) ++ cvW ac (qq 3) (chs 3) (trs 3) (wns 3)) ++ cvW ac (qq 4) (chs 4) (trs 4) (wns 4)) ++ [(sv, aZ ac 2)])) 0 rfl kff_X11_30 (tyX11_ok 6 (by first | decide | simp)) rfl rfl (by first | decide | simp) rfl dX11_init_78 ?_
  refine k_aload_n (pc := 81) X dX11_init_81 rfl ?_
  refine k_new (pc := 82) X (ci := 3) (C := RX4) (TT := TX4) (N := 9) rfl tyX4 tyX4_ok dfX4 kcl_X11_34 kin_X4 kii_X4 ⟨Nat.le_of_ble_eq_true rfl, Nat.le_of_ble_eq_true rfl⟩ dX11_init_82 (fun pa => ?_)
  refine k_dup (pc := 85) X dX11_init_85 rfl ?_
  refine k_aload_n (pc := 86) X dX11_init_86 rfl ?_
  refine k_get (pc := 87) X (v := .ref g1) 0 rfl kfl_X11_9 rfl dX11_init_87 ?_
  refine k_aload_n (pc := 90) X dX11_init_90 rfl ?_
  refine k_get (pc := 91) X (v := .ref (qq 2 0)) 0 rfl kfl_X11_23 rfl dX11_init_91 ?_
  refine k_init (pc := 94) X (mc := 1) (ms := 8) (X0 := ((((((([(a, .inr (9, [.ref g1, .int 0, .ref ((qq 0) 0), .ref ((qq 1) 0), .ref ((qq 2) 0), .ref sl, .ref sv, .null])), (g1, aB ac 900)] ++ cvW ac (qq 0) (chs 0) (trs 0) (wns 0)) ++ cvW ac (qq 1) (chs 1) (trs 1) (wns 1)) ++ cvW ac (qq 2) (chs 2) (trs 2) (wns 2)) ++ [(sl, aF ac 8 2 (fun i => some (qq (3 + i) 0)))]) ++ cvW ac (qq 3) (chs 3) (trs 3) (wns 3)) ++ cvW ac (qq 4) (chs 4) (trs 4) (wns 4)) ++ [(sv, aZ ac 2)])) (wc := [(pa, zPa)]) (As := [.ref g1, .ref (qq 2 0)]) kmy_X4 rfl kvi_X4 kml_X11_36 rfl rfl ⟨Nat.le_of_ble_eq_true rfl, Nat.le_of_ble_eq_true rfl, Nat.le_of_ble_eq_true rfl, Nat.le_of_ble_eq_true rfl⟩ (fun sz => kc_X4) rfl rfl (Nat.le_of_ble_eq_true rfl) dX11_init_94 (fun w1 hw => ?_)
  obtain ⟨tk, rfl⟩ := hw
  refine k_putF (pc := 97) X hin2 (v := .ref pa) (ws' := (((((((([(a, .inr (9, [.ref g1, .int 0, .ref ((qq 0) 0), .ref ((qq 1) 0), .ref ((qq 2) 0), .ref sl, .ref sv, .ref pa])), (g1, aB ac 900)] ++ cvW ac (qq 0) (chs 0) (trs 0) (wns 0)) ++ cvW ac (qq 1) (chs 1) (trs 1) (wns 1)) ++ cvW ac (qq 2) (chs 2) (trs 2) (wns 2)) ++ [(sl, aF ac 8 2 (fun i => some (qq (3 + i) 0)))]) ++ cvW ac (qq 3) (chs 3) (trs 3) (wns 3)) ++ cvW ac (qq 4) (chs 4) (trs 4) (wns 4)) ++ [(sv, aZ ac 2)]) ++ [(pa, ePa tk (qq 2 0)), (tk, eTk w g1)])) 0 rfl kff_X11_39 (tyX11_ok 7 (by first | decide | simp)) rfl rfl (by first | decide | simp) rfl dX11_init_97 ?_
  refine k_ret (pc := 100) X hr hlk rfl ⟨g1, sl, sv, pa, tk, qq, chs, trs, wns, fun c hc => ?_, rfl⟩ ⟨Nat.le_of_ble_eq_true rfl, Nat.le_of_ble_eq_true rfl⟩ dX11_init_100
  rcases (show c = 0 ∨ c = 1 ∨ c = 2 ∨ c = 3 ∨ c = 4 by omega) with rfl | rfl | rfl | rfl | rfl
  · exact ⟨hc0, ht0, hw0⟩
  · exact ⟨hc1, ht1, hw1⟩
  · exact ⟨hc2, ht2, hw2⟩
  · exact ⟨hc3, ht3, hw3⟩
  · exact ⟨hc4, ht4, hw4⟩
