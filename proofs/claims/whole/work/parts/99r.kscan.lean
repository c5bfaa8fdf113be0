/-! ===== ConverterScanner.<init> ===== -/
theorem at_mid2 {X Y : va_W} {x : Nat × va_E} : ((X ++ [x]) ++ Y)[X.length]? = some x := by
  rw [List.append_assoc]
  exact at_mid
theorem set_mid2 {X Y : va_W} {x y : Nat × va_E} : ((X ++ [x]) ++ Y).set X.length y = (X ++ [y]) ++ Y := by
  rw [List.append_assoc, List.append_assoc]
  exact set_mid
theorem at_mid3 {X Y Y2 : va_W} {x : Nat × va_E} : (((X ++ [x]) ++ Y) ++ Y2)[X.length]? = some x := by
  rw [List.append_assoc, List.append_assoc]
  exact at_mid
theorem set_mid3 {X Y Y2 : va_W} {x y : Nat × va_E} : (((X ++ [x]) ++ Y) ++ Y2).set X.length y = ((X ++ [y]) ++ Y) ++ Y2 := by
  rw [List.append_assoc, List.append_assoc, List.append_assoc, List.append_assoc]
  exact set_mid
theorem at_mid5 {X Y Y2 Y3 Y4 : va_W} {x : Nat × va_E} : (((((X ++ [x]) ++ Y) ++ Y2) ++ Y3) ++ Y4)[X.length]? = some x := by
  rw [List.append_assoc _ Y3 Y4, List.append_assoc _ Y2 (Y3 ++ Y4)]
  exact at_mid3
theorem set_mid5 {X Y Y2 Y3 Y4 : va_W} {x y : Nat × va_E} : (((((X ++ [x]) ++ Y) ++ Y2) ++ Y3) ++ Y4).set X.length y = ((((X ++ [y]) ++ Y) ++ Y2) ++ Y3) ++ Y4 := by
  rw [List.append_assoc _ Y3 Y4, List.append_assoc _ Y2 (Y3 ++ Y4), List.append_assoc _ Y3 Y4, List.append_assoc _ Y2 (Y3 ++ Y4)]
  exact set_mid3
theorem kml_X11_1 : Cond.methodLink RX11 1 Lib.objectInit ∈ gtb := gt (inT1 (List.mem_of_getElem? (i := 28) rfl)) rfl
theorem kcl_X11_7 : Cond.classLink RX11 7 RX3 ∈ gtb := gt (inT1 (List.mem_of_getElem? (i := 31) rfl)) rfl
theorem kml_X11_9 : Cond.methodLink RX11 9 yX3_init ∈ gtb := gt (inT1 (List.mem_of_getElem? (i := 33) rfl)) rfl
theorem kac_boolean : Cond.arrayClass FieldType.boolean ∈ gtb := gt (inT2 (List.mem_of_getElem? (i := 200) rfl)) rfl
theorem kcl_X11_27 : Cond.classLink RX11 27 RX4 ∈ gtb := gt (inT2 (List.mem_of_getElem? (i := 155) rfl)) rfl
theorem kin_X4 : Cond.instantiable RX4 10 ∈ gtb := gt (inT2 (List.mem_of_getElem? (i := 156) rfl)) rfl
theorem kii_X4 : Cond.initialized RX4 ∈ gtb := gt (inT1 (List.mem_of_getElem? (i := 9) rfl)) rfl
theorem kmy_X4 : MY yX4_init cX4_init 1 none 0 := ⟨gt (inT2 (List.mem_of_getElem? (i := 159) rfl)) rfl, gt (inT1 (List.mem_of_getElem? (i := 9) rfl)) rfl, ⟨by decide +kernel, by decide +kernel, by decide +kernel⟩, by decide +kernel⟩
theorem kvi_X4 : Cond.instanceMethod yX4_init ∈ gtb := gt (inT2 (List.mem_of_getElem? (i := 158) rfl)) rfl
theorem kff_X11_10 : FF RX11 10 9 0 "LConverterScanner$Converter;" := ⟨(RX11, TX11, 5), rfl, by decide, gt (inT2 (List.mem_of_getElem? (i := 239) rfl)) rfl, rfl, rfl, rfl⟩
theorem kff_X11_16 : FF RX11 16 9 1 "LConverterScanner$Converter;" := ⟨(RX11, TX11, 5), rfl, by decide, gt (inT3 (List.mem_of_getElem? (i := 0) rfl)) rfl, rfl, rfl, rfl⟩
theorem kff_X11_19 : FF RX11 19 9 2 "[LConverterScanner$Converter;" := ⟨(RX11, TX11, 5), rfl, by decide, gt (inT3 (List.mem_of_getElem? (i := 1) rfl)) rfl, rfl, rfl, rfl⟩
theorem kff_X11_23 : FF RX11 23 9 3 "[Z" := ⟨(RX11, TX11, 5), rfl, by decide, gt (inT3 (List.mem_of_getElem? (i := 2) rfl)) rfl, rfl, rfl, rfl⟩
theorem kff_X11_30 : FF RX11 30 9 4 "LConverterScanner$Parser;" := ⟨(RX11, TX11, 5), rfl, by decide, gt (inT3 (List.mem_of_getElem? (i := 3) rfl)) rfl, rfl, rfl, rfl⟩
/-- what it makes -/
abbrev csW (ac : Nat → ClassId) (w : Nat → Nat) (a b sl sv pa tk : Nat) (qq : Nat → Nat → Nat) (chs trs wns : Nat → List Nat) : va_W := (((((((([(a, .inr (9, [.ref ((qq 1) 0), .ref ((qq 5) 0), .ref sl, .ref sv, .ref pa]))] : va_W) ++ cvW ac (qq 1) (chs 1) (trs 1) (wns 1)) ++ cvW ac (qq 5) (chs 5) (trs 5) (wns 5)) ++ [(sl, aF ac 8 2 (fun i => some (qq (3 + i) 0)))]) ++ cvW ac (qq 3) (chs 3) (trs 3) (wns 3)) ++ cvW ac (qq 4) (chs 4) (trs 4) (wns 4)) ++ [(sv, aZ ac 2)]) ++ paW ac w pa tk b (qq 2) (chs 2) (trs 2) (wns 2) (qq 0) (chs 0) (trs 0) (wns 0))
set_option maxHeartbeats 16000000 in
set_option maxRecDepth 100000 in
theorem kc_X11 {D : va_G} {ac : Nat → ClassId} {w : Nat → Nat} {l : Launch} {sz a : Nat} : Met l yX11_init (wsO yX11_init cX11_init 1 none) (rmK 4 185 4252) (PcK D ac w [.ref a] [(a, zSc)] sz) (QvK D [(a, zSc)] sz (fun w1 => ∃ (b sl sv pa tk : Nat) (qq : Nat → Nat → Nat) (chs trs wns : Nat → List Nat), (∀ c, c < 6 → (chs c).length = 8 ∧ (trs c).length = 4 ∧ (wns c).length = 3) ∧ w1 = csW ac w a b sl sv pa tk qq chs trs wns)) 185 4252 (va_A [(a, zSc)] sz) := by
  refine kmet (own := RX11) rfl (by decide +kernel) (Nat.le_of_ble_eq_true rfl) (fun p e s m args below meth c X hin2 hr hlk => ?_)
  show TK D _ p l e _ s m args below meth c _ 0 0 _ 0 [(0, .ref a)] [] [(a, .inr (9, [.null, .null, .null, .null, .null]))]
  refine k_aload_n (pc := 0) X dX11_init_0 rfl ?_
  refine k_objInit (pc := 1) X kml_X11_1 koi_1 koi_2 ⟨Nat.le_of_ble_eq_true rfl, Nat.le_of_ble_eq_true rfl⟩ dX11_init_1 ?_
  refine k_aload_n (pc := 4) X dX11_init_4 rfl ?_
  refine k_new (pc := 5) X (ci := 2) (C := RX3) (TT := TX3) (N := 17) rfl tyX3 tyX3_ok dfX3 kcl_X11_7 kin_X3 kii_X3 ⟨Nat.le_of_ble_eq_true rfl, Nat.le_of_ble_eq_true rfl⟩ dX11_init_5 (fun h1 => ?_)
  refine k_dup (pc := 8) X dX11_init_8 rfl ?_
  refine k_init (pc := 9) X (mc := 29) (ms := 538) (X0 := ([(a, .inr (9, [.null, .null, .null, .null, .null]))] : va_W)) (wc := [(h1, zCo)]) (As := []) kmy_X3 rfl kvi_X3 kml_X11_9 rfl rfl ⟨Nat.le_of_ble_eq_true rfl, Nat.le_of_ble_eq_true rfl, Nat.le_of_ble_eq_true rfl, Nat.le_of_ble_eq_true rfl⟩ (fun sz => kc_X3) rfl rfl (Nat.le_of_ble_eq_true rfl) dX11_init_9 (fun w1 hw => ?_)
  obtain ⟨q1, ch1, tr1, wn1, hq1, hc1, ht1, hw1, rfl⟩ := hw
  subst hq1
  refine k_putF (pc := 12) X hin2 (v := .ref (q1 0)) (ws' := (([(a, .inr (9, [.ref (q1 0), .null, .null, .null, .null]))] : va_W) ++ cvW ac q1 ch1 tr1 wn1)) 0 rfl kff_X11_10 (tyX11_ok 0 (by first | decide | simp)) rfl rfl (by first | decide | simp) rfl dX11_init_12 ?_
  refine k_aload_n (pc := 15) X dX11_init_15 rfl ?_
  refine k_new (pc := 16) X (ci := 2) (C := RX3) (TT := TX3) (N := 17) rfl tyX3 tyX3_ok dfX3 kcl_X11_7 kin_X3 kii_X3 ⟨Nat.le_of_ble_eq_true rfl, Nat.le_of_ble_eq_true rfl⟩ dX11_init_16 (fun h5 => ?_)
  refine k_dup (pc := 19) X dX11_init_19 rfl ?_
  refine k_init (pc := 20) X (mc := 29) (ms := 538) (X0 := (([(a, .inr (9, [.ref (q1 0), .null, .null, .null, .null]))] : va_W) ++ cvW ac q1 ch1 tr1 wn1)) (wc := [(h5, zCo)]) (As := []) kmy_X3 rfl kvi_X3 kml_X11_9 rfl rfl ⟨Nat.le_of_ble_eq_true rfl, Nat.le_of_ble_eq_true rfl, Nat.le_of_ble_eq_true rfl, Nat.le_of_ble_eq_true rfl⟩ (fun sz => kc_X3) rfl rfl (Nat.le_of_ble_eq_true rfl) dX11_init_20 (fun w1 hw => ?_)
  obtain ⟨q5, ch5, tr5, wn5, hq5, hc5, ht5, hw5, rfl⟩ := hw
  subst hq5
  refine k_putF (pc := 23) X hin2 (v := .ref (q5 0)) (ws' := ((([(a, .inr (9, [.ref (q1 0), .ref (q5 0), .null, .null, .null]))] : va_W) ++ cvW ac q1 ch1 tr1 wn1) ++ cvW ac q5 ch5 tr5 wn5)) 0 rfl kff_X11_16 (tyX11_ok 1 (by first | decide | simp)) rfl rfl (by first | decide | simp) rfl dX11_init_23 ?_
  refine k_aload_n (pc := 26) X dX11_init_26 rfl ?_
  refine k_iconst (pc := 27) X (v := 2) dX11_init_27 (by first | decide | simp) ?_
  refine k_newq (pc := 28) X (C := RX3) (N' := 2) kcl_X11_7 (List.mem_of_getElem? (i := 3) rfl) 8 (by first | decide | simp) rfl (by first | decide | simp) (by first | decide | simp) (Nat.le_of_ble_eq_true rfl) ⟨Nat.le_of_ble_eq_true rfl, Nat.le_of_ble_eq_true rfl⟩ dX11_init_28 (fun sl => ?_)
  refine k_dup (pc := 31) X dX11_init_31 rfl ?_
  refine k_iconst (pc := 32) X (v := 0) dX11_init_32 (by first | decide | simp) ?_
  refine k_new (pc := 33) X (ci := 2) (C := RX3) (TT := TX3) (N := 17) rfl tyX3 tyX3_ok dfX3 kcl_X11_7 kin_X3 kii_X3 ⟨Nat.le_of_ble_eq_true rfl, Nat.le_of_ble_eq_true rfl⟩ dX11_init_33 (fun h3 => ?_)
  refine k_dup (pc := 36) X dX11_init_36 rfl ?_
  refine k_init (pc := 37) X (mc := 29) (ms := 538) (X0 := (((([(a, .inr (9, [.ref (q1 0), .ref (q5 0), .null, .null, .null]))] : va_W) ++ cvW ac q1 ch1 tr1 wn1) ++ cvW ac q5 ch5 tr5 wn5) ++ [(sl, aF ac 8 2 (fun _ => none))])) (wc := [(h3, zCo)]) (As := []) kmy_X3 rfl kvi_X3 kml_X11_9 rfl rfl ⟨Nat.le_of_ble_eq_true rfl, Nat.le_of_ble_eq_true rfl, Nat.le_of_ble_eq_true rfl, Nat.le_of_ble_eq_true rfl⟩ (fun sz => kc_X3) rfl rfl (Nat.le_of_ble_eq_true rfl) dX11_init_37 (fun w1 hw => ?_)
  obtain ⟨q3, ch3, tr3, wn3, hq3, hc3, ht3, hw3, rfl⟩ := hw
  subst hq3
  refine k_aast (pc := 40) X (ci := 2) (q := (RX3, TX3, 17)) (t := 8) (n := 2) (ws' := ((((([(a, .inr (9, [.ref (q1 0), .ref (q5 0), .null, .null, .null]))] : va_W) ++ cvW ac q1 ch1 tr1 wn1) ++ cvW ac q5 ch5 tr5 wn5) ++ [(sl, aF ac 8 2 (va_up (fun _ => none) (Int32.toNatClampNeg 0) (some (q3 0))))]) ++ cvW ac q3 ch3 tr3 wn3)) (((([(a, .inr (9, [.ref (q1 0), .ref (q5 0), .null, .null, .null]))] : va_W) ++ cvW ac q1 ch1 tr1 wn1) ++ cvW ac q5 ch5 tr5 wn5)).length (((([(a, .inr (9, [.ref (q1 0), .ref (q5 0), .null, .null, .null]))] : va_W) ++ cvW ac q1 ch1 tr1 wn1) ++ cvW ac q5 ch5 tr5 wn5) ++ [(sl, aF ac 8 2 (fun _ => none))]).length at_mid2 (by first | decide | simp) rfl rfl at_mid (nIin (w := 0) (N := 2) (by first | decide | simp) (by first | decide | simp)) set_mid2 dX11_init_40 ?_
  refine k_dup (pc := 41) X dX11_init_41 rfl ?_
  refine k_iconst (pc := 42) X (v := 1) dX11_init_42 (by first | decide | simp) ?_
  refine k_new (pc := 43) X (ci := 2) (C := RX3) (TT := TX3) (N := 17) rfl tyX3 tyX3_ok dfX3 kcl_X11_7 kin_X3 kii_X3 ⟨Nat.le_of_ble_eq_true rfl, Nat.le_of_ble_eq_true rfl⟩ dX11_init_43 (fun h4 => ?_)
  refine k_dup (pc := 46) X dX11_init_46 rfl ?_
  refine k_init (pc := 47) X (mc := 29) (ms := 538) (X0 := ((((([(a, .inr (9, [.ref (q1 0), .ref (q5 0), .null, .null, .null]))] : va_W) ++ cvW ac q1 ch1 tr1 wn1) ++ cvW ac q5 ch5 tr5 wn5) ++ [(sl, aF ac 8 2 (va_up (fun _ => none) (Int32.toNatClampNeg 0) (some (q3 0))))]) ++ cvW ac q3 ch3 tr3 wn3)) (wc := [(h4, zCo)]) (As := []) kmy_X3 rfl kvi_X3 kml_X11_9 rfl rfl ⟨Nat.le_of_ble_eq_true rfl, Nat.le_of_ble_eq_true rfl, Nat.le_of_ble_eq_true rfl, Nat.le_of_ble_eq_true rfl⟩ (fun sz => kc_X3) rfl rfl (Nat.le_of_ble_eq_true rfl) dX11_init_47 (fun w1 hw => ?_)
  obtain ⟨q4, ch4, tr4, wn4, hq4, hc4, ht4, hw4, rfl⟩ := hw
  subst hq4
  refine k_aast (pc := 50) X (ci := 2) (q := (RX3, TX3, 17)) (t := 8) (n := 2) (ws' := (((((([(a, .inr (9, [.ref (q1 0), .ref (q5 0), .null, .null, .null]))] : va_W) ++ cvW ac q1 ch1 tr1 wn1) ++ cvW ac q5 ch5 tr5 wn5) ++ [(sl, aF ac 8 2 (va_up (va_up (fun _ => none) (Int32.toNatClampNeg 0) (some (q3 0))) (Int32.toNatClampNeg 1) (some (q4 0))))]) ++ cvW ac q3 ch3 tr3 wn3) ++ cvW ac q4 ch4 tr4 wn4)) (((([(a, .inr (9, [.ref (q1 0), .ref (q5 0), .null, .null, .null]))] : va_W) ++ cvW ac q1 ch1 tr1 wn1) ++ cvW ac q5 ch5 tr5 wn5)).length (((((([(a, .inr (9, [.ref (q1 0), .ref (q5 0), .null, .null, .null]))] : va_W) ++ cvW ac q1 ch1 tr1 wn1) ++ cvW ac q5 ch5 tr5 wn5) ++ [(sl, aF ac 8 2 (va_up (fun _ => none) (Int32.toNatClampNeg 0) (some (q3 0))))]) ++ cvW ac q3 ch3 tr3 wn3)).length at_mid3 (by first | decide | simp) rfl rfl at_mid (nIin (w := 1) (N := 2) (by first | decide | simp) (by first | decide | simp)) set_mid3 dX11_init_50 ?_
  refine k_putF (pc := 51) X hin2 (v := .ref sl) (ws' := (((((([(a, .inr (9, [.ref (q1 0), .ref (q5 0), .ref sl, .null, .null]))] : va_W) ++ cvW ac q1 ch1 tr1 wn1) ++ cvW ac q5 ch5 tr5 wn5) ++ [(sl, aF ac 8 2 (va_up (va_up (fun _ => none) (Int32.toNatClampNeg 0) (some (q3 0))) (Int32.toNatClampNeg 1) (some (q4 0))))]) ++ cvW ac q3 ch3 tr3 wn3) ++ cvW ac q4 ch4 tr4 wn4)) 0 rfl kff_X11_19 (tyX11_ok 2 (by first | decide | simp)) rfl rfl (by first | decide | simp) rfl dX11_init_51 ?_
  refine k_aload_n (pc := 54) X dX11_init_54 rfl ?_
  refine k_iconst (pc := 55) X (v := 2) dX11_init_55 (by first | decide | simp) ?_
  refine k_newa (pc := 56) X (atype := .boolean) (N' := 2) (a0 := (2, .inl (fun _ => 0))) kac_boolean rfl 2 (by first | decide | simp) rfl (fun _ _ => rfl) (fun _ => rfl) (by first | decide | simp) (by first | decide | simp) (Nat.le_of_ble_eq_true rfl) ⟨Nat.le_of_ble_eq_true rfl, Nat.le_of_ble_eq_true rfl⟩ dX11_init_56 (fun sv => ?_)
  refine k_putF (pc := 58) X hin2 (v := .ref sv) (ws' := ((((((([(a, .inr (9, [.ref (q1 0), .ref (q5 0), .ref sl, .ref sv, .null]))] : va_W) ++ cvW ac q1 ch1 tr1 wn1) ++ cvW ac q5 ch5 tr5 wn5) ++ [(sl, aF ac 8 2 (va_up (va_up (fun _ => none) (Int32.toNatClampNeg 0) (some (q3 0))) (Int32.toNatClampNeg 1) (some (q4 0))))]) ++ cvW ac q3 ch3 tr3 wn3) ++ cvW ac q4 ch4 tr4 wn4) ++ [(sv, aZ ac 2)])) 0 rfl kff_X11_23 (tyX11_ok 3 (by first | decide | simp)) rfl rfl (by first | decide | simp) rfl dX11_init_58 ?_
  refine k_aload_n (pc := 61) X dX11_init_61 rfl ?_
  refine k_new (pc := 62) X (ci := 3) (C := RX4) (TT := TX4) (N := 10) rfl tyX4 tyX4_ok dfX4 kcl_X11_27 kin_X4 kii_X4 ⟨Nat.le_of_ble_eq_true rfl, Nat.le_of_ble_eq_true rfl⟩ dX11_init_62 (fun pa => ?_)
  refine k_dup (pc := 65) X dX11_init_65 rfl ?_
  refine k_initN (pc := 66) X (mc := 62) (ms := 2018) (X0 := ((((((([(a, .inr (9, [.ref (q1 0), .ref (q5 0), .ref sl, .ref sv, .null]))] : va_W) ++ cvW ac q1 ch1 tr1 wn1) ++ cvW ac q5 ch5 tr5 wn5) ++ [(sl, aF ac 8 2 (va_up (va_up (fun _ => none) (Int32.toNatClampNeg 0) (some (q3 0))) (Int32.toNatClampNeg 1) (some (q4 0))))]) ++ cvW ac q3 ch3 tr3 wn3) ++ cvW ac q4 ch4 tr4 wn4) ++ [(sv, aZ ac 2)])) (wc := [(pa, zPa)]) (As := []) kmy_X4 rfl kvi_X4 (List.mem_of_getElem? (i := 4) rfl) rfl rfl ⟨Nat.le_of_ble_eq_true rfl, Nat.le_of_ble_eq_true rfl, Nat.le_of_ble_eq_true rfl, Nat.le_of_ble_eq_true rfl⟩ (fun sz => kc_X4) rfl rfl (Nat.le_of_ble_eq_true rfl) dX11_init_66 (fun w1 hw => ?_)
  obtain ⟨tk, b, q2, ch2, tr2, wn2, q0, ch0, tr0, wn0, ⟨hc2, ht2, hw2⟩, ⟨hc0, ht0, hw0⟩, rfl⟩ := hw
  refine k_putF (pc := 69) X hin2 (v := .ref pa) (ws' := (((((((([(a, .inr (9, [.ref (q1 0), .ref (q5 0), .ref sl, .ref sv, .ref pa]))] : va_W) ++ cvW ac q1 ch1 tr1 wn1) ++ cvW ac q5 ch5 tr5 wn5) ++ [(sl, aF ac 8 2 (va_up (va_up (fun _ => none) (Int32.toNatClampNeg 0) (some (q3 0))) (Int32.toNatClampNeg 1) (some (q4 0))))]) ++ cvW ac q3 ch3 tr3 wn3) ++ cvW ac q4 ch4 tr4 wn4) ++ [(sv, aZ ac 2)]) ++ paW ac w pa tk b q2 ch2 tr2 wn2 q0 ch0 tr0 wn0)) 0 rfl kff_X11_30 (tyX11_ok 4 (by first | decide | simp)) rfl rfl (by first | decide | simp) rfl dX11_init_69 ?_
  obtain ⟨qq, e0, e1, e2, e3, e4, e5⟩ : ∃ qq : Nat → Nat → Nat, qq 0 = q0 ∧ qq 1 = q1 ∧ qq 2 = q2 ∧ qq 3 = q3 ∧ qq 4 = q4 ∧ qq 5 = q5 := ⟨(fun c => match c with | 0 => q0 | 1 => q1 | 2 => q2 | 3 => q3 | 4 => q4 | _ => q5), rfl, rfl, rfl, rfl, rfl, rfl⟩
  obtain ⟨chs, ch0', ch1', ch2', ch3', ch4', ch5'⟩ : ∃ f : Nat → List Nat, f 0 = ch0 ∧ f 1 = ch1 ∧ f 2 = ch2 ∧ f 3 = ch3 ∧ f 4 = ch4 ∧ f 5 = ch5 := ⟨(fun c => match c with | 0 => ch0 | 1 => ch1 | 2 => ch2 | 3 => ch3 | 4 => ch4 | _ => ch5), rfl, rfl, rfl, rfl, rfl, rfl⟩
  obtain ⟨trs, tr0', tr1', tr2', tr3', tr4', tr5'⟩ : ∃ f : Nat → List Nat, f 0 = tr0 ∧ f 1 = tr1 ∧ f 2 = tr2 ∧ f 3 = tr3 ∧ f 4 = tr4 ∧ f 5 = tr5 := ⟨(fun c => match c with | 0 => tr0 | 1 => tr1 | 2 => tr2 | 3 => tr3 | 4 => tr4 | _ => tr5), rfl, rfl, rfl, rfl, rfl, rfl⟩
  obtain ⟨wns, wn0', wn1', wn2', wn3', wn4', wn5'⟩ : ∃ f : Nat → List Nat, f 0 = wn0 ∧ f 1 = wn1 ∧ f 2 = wn2 ∧ f 3 = wn3 ∧ f 4 = wn4 ∧ f 5 = wn5 := ⟨(fun c => match c with | 0 => wn0 | 1 => wn1 | 2 => wn2 | 3 => wn3 | 4 => wn4 | _ => wn5), rfl, rfl, rfl, rfl, rfl, rfl⟩
  subst e0 e1 e2 e3 e4 e5 ch0' ch1' ch2' ch3' ch4' ch5' tr0' tr1' tr2' tr3' tr4' tr5' wn0' wn1' wn2' wn3' wn4' wn5'
  refine TK_arr (ws' := (((((((([(a, .inr (9, [.ref ((qq 1) 0), .ref ((qq 5) 0), .ref sl, .ref sv, .ref pa]))] : va_W) ++ cvW ac (qq 1) (chs 1) (trs 1) (wns 1)) ++ cvW ac (qq 5) (chs 5) (trs 5) (wns 5)) ++ [(sl, aF ac 8 2 (fun i => some (qq (3 + i) 0)))]) ++ cvW ac (qq 3) (chs 3) (trs 3) (wns 3)) ++ cvW ac (qq 4) (chs 4) (trs 4) (wns 4)) ++ [(sv, aZ ac 2)]) ++ paW ac w pa tk b (qq 2) (chs 2) (trs 2) (wns 2) (qq 0) (chs 0) (trs 0) (wns 0))) (g := fun i => some (qq (3 + i) 0)) (((([(a, .inr (9, [.ref ((qq 1) 0), .ref ((qq 5) 0), .ref sl, .ref sv, .ref pa]))] : va_W) ++ cvW ac (qq 1) (chs 1) (trs 1) (wns 1)) ++ cvW ac (qq 5) (chs 5) (trs 5) (wns 5))).length at_mid5 (fun j hj => by rcases (show j = 0 ∨ j = 1 by omega) with rfl | rfl <;> rfl) set_mid5 ?_
  refine k_ret (pc := 72) X hr hlk rfl ⟨b, sl, sv, pa, tk, qq, chs, trs, wns, fun c hc => ?_, rfl⟩ ⟨Nat.le_of_ble_eq_true rfl, Nat.le_of_ble_eq_true rfl⟩ dX11_init_72
  rcases (show c = 0 ∨ c = 1 ∨ c = 2 ∨ c = 3 ∨ c = 4 ∨ c = 5 by omega) with rfl | rfl | rfl | rfl | rfl | rfl
  · exact ⟨hc0, ht0, hw0⟩
  · exact ⟨hc1, ht1, hw1⟩
  · exact ⟨hc2, ht2, hw2⟩
  · exact ⟨hc3, ht3, hw3⟩
  · exact ⟨hc4, ht4, hw4⟩
  · exact ⟨hc5, ht5, hw5⟩
